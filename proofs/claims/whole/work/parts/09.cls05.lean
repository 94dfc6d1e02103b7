abbrev xr_X4_evaluate : Room := { frames := 3, cells := 0, slots := 0, locals := 56 }
def f_X4_evaluate_98 (T : xT) (rec_12 : xS → Nat → Int32 → Nat → Int32 → Int32 → Int32 → Int32 → Option (Int32 × xS)) (S : xS) (p0 : Nat) (p2 : Int32) (p3 : Nat) (p7 : Int32) (p8 : Int32) (ps0 : Int32) : Option (Int32 × xS) := xl ps0 (fun v1 => xl p8 (fun v2 => xgr T S p0 10 24 (fun a3 => xai T S a3 p7 (fun v4 => if v4 = (45 : Int32) then xl ((1 : Int32)) (fun v7 => xl (p7 + (1 : Int32)) (fun v8 => rec_12 S p0 p2 p3 v1 v2 v7 v8)) else xl ((0 : Int32)) (fun v5 => xl (p7 + (1 : Int32)) (fun v6 => rec_12 S p0 p2 p3 v1 v2 v5 v6))))))
set_option maxRecDepth 100000 in
set_option maxHeartbeats 4000000 in
theorem w_X4_evaluate_98 {p : Program} {l : Launch} {e : Env} {s : State} {m : MethodId} {args : Array Value} {below : List Frame} {meth : Method} {c : Code} {z : Nat} {D : va_G} {dA : Nat → ClassId} {T : xT} (B : xB p s m args meth c cX4_evaluate RX4 9 (some .int) D dA) {q : Int32 × xS} {rec_12 : xS → Nat → Int32 → Nat → Int32 → Int32 → Int32 → Int32 → Option (Int32 × xS)} (hrec_12 : ∀ (S : xS) (H : Heap) (locs : List Loc) (ls : Array Slot) (p0 : Nat) (p2 : Int32) (p3 : Nat) (p4 : Int32) (p5 : Int32) (p6 : Int32) (p7 : Int32), xlk T p0 4 = true → xlk T p3 1 = true → rec_12 S p0 p2 p3 p4 p5 p6 p7 = some q → xRel z D dA T S H → va_S (xA z) s.heap H locs → xL ls 9 [some (.ref (z + p0)), none, some (.int p2), some (.ref (z + p3)), some (.int p4), some (.int p5), some (.int p6), some (.int p7), none] → xGi p l e xr_X4_evaluate s m args below meth c z D dA T q H locs 12 ls []) : ∀ (S : xS) (H : Heap) (locs : List Loc) (ls : Array Slot) (p0 : Nat) (p2 : Int32) (p3 : Nat) (p7 : Int32) (p8 : Int32) (ps0 : Int32), xlk T p0 4 = true → xlk T p3 1 = true → f_X4_evaluate_98 T rec_12 S p0 p2 p3 p7 p8 ps0 = some q → xRel z D dA T S H → va_S (xA z) s.heap H locs → xL ls 9 [some (.ref (z + p0)), none, some (.int p2), some (.ref (z + p3)), none, none, none, some (.int p7), some (.int p8)] → xGi p l e xr_X4_evaluate s m args below meth c z D dA T q H locs 98 ls [.int ps0] := by
  intro S H locs ls p0 p2 p3 p7 p8 ps0 k_p0 k_p3 hf hR hS hl
  unfold f_X4_evaluate_98 at hf
  refine y_istore B hl hf dX4_evaluate_98 (by decide) rfl (fun v1 ls hf hl => ?_)
  have hl : xL ls 9 [_, _, _, _, _, _, _, _, _] := hl
  refine lv_iload B.1.1 B.1.2.1 dX4_evaluate_100 (hl.at 8 rfl) ?_
  refine y_istore B hl hf dX4_evaluate_102 (by decide) rfl (fun v2 ls hf hl => ?_)
  have hl : xL ls 9 [_, _, _, _, _, _, _, _, _] := hl
  refine lv_aload_n B.1.1 B.1.2.1 dX4_evaluate_104 rfl (hl.at 0 rfl) ?_
  refine y_getR B hR hf k_p0 fl_X4_37 dX4_evaluate_105 (fun a3 k_a3 hf => ?_)
  refine lv_iload B.1.1 B.1.2.1 dX4_evaluate_108 (hl.at 7 rfl) ?_
  refine y_cald B hR hf k_a3 dX4_evaluate_110 (fun v4 hf => ?_)
  refine lv_bipush (v := 45) B.1.1 B.1.2.1 dX4_evaluate_111 (by decide) ?_
  refine y_icmp_ne (tgt := 120) B hf dX4_evaluate_113 (by decide) (fun hf => ?_) (fun hf => ?_)
  · refine lv_iconst (v := 0) B.1.1 B.1.2.1 dX4_evaluate_120 (by decide) ?_
    refine y_istore B hl hf dX4_evaluate_121 (by decide) rfl (fun v5 ls hf hl => ?_)
    have hl : xL ls 9 [_, _, _, _, _, _, _, _, _] := hl
    refine y_iinc (d := 1) B hl hf dX4_evaluate_123 rfl (by decide) (by decide) rfl (fun v6 ls hf hl => ?_)
    have hl : xL ls 9 [_, _, _, _, _, _, _, _, _] := hl
    refine lv_goto (tgt := 12) B.1.1 B.1.2.1 dX4_evaluate_126 (by decide) ?_
    exact hrec_12 _ _ _ _ _ _ _ _ _ _ _ k_p0 k_p3 hf hR hS (hl.drop [true, false, true, true, true, true, true, true, false] rfl)
  · refine lv_iconst (v := 1) B.1.1 B.1.2.1 dX4_evaluate_116 (by decide) ?_
    refine lv_goto (tgt := 121) B.1.1 B.1.2.1 dX4_evaluate_117 (by decide) ?_
    refine y_istore B hl hf dX4_evaluate_121 (by decide) rfl (fun v7 ls hf hl => ?_)
    have hl : xL ls 9 [_, _, _, _, _, _, _, _, _] := hl
    refine y_iinc (d := 1) B hl hf dX4_evaluate_123 rfl (by decide) (by decide) rfl (fun v8 ls hf hl => ?_)
    have hl : xL ls 9 [_, _, _, _, _, _, _, _, _] := hl
    refine lv_goto (tgt := 12) B.1.1 B.1.2.1 dX4_evaluate_126 (by decide) ?_
    exact hrec_12 _ _ _ _ _ _ _ _ _ _ _ k_p0 k_p3 hf hR hS (hl.drop [true, false, true, true, true, true, true, true, false] rfl)
def f_X4_evaluate_12 (T : xT) : Nat → xS → Nat → Int32 → Nat → Int32 → Int32 → Int32 → Int32 → Option (Int32 × xS)
  | 0, _, _, _, _, _, _, _, _ => none
  | n + 1, S, p0, p2, p3, p4, p5, p6, p7 => if p2 ≤ p7 then if p6 = (0 : Int32) then some ((p4 + p5), S) else some ((p4 - p5), S) else xc (f_X4_valueOf T S p0 p7 p3) (fun r2 S1 => xl r2 (fun v3 => xgr T S1 p0 10 24 (fun a4 => xai T S1 a4 p7 (fun v5 => if v5 = (42 : Int32) then xl ((p5 * v3)) (fun v12 => xl (p7 + (1 : Int32)) (fun v13 => f_X4_evaluate_12 T n S1 p0 p2 p3 p4 v12 p6 v13)) else xgr T S1 p0 10 24 (fun a6 => xai T S1 a6 p7 (fun v7 => if v7 = (47 : Int32) then if v3 = (0 : Int32) then xl ((0 : Int32)) (fun v10 => xl (p7 + (1 : Int32)) (fun v11 => f_X4_evaluate_12 T n S1 p0 p2 p3 p4 v10 p6 v11)) else xgd (xn0 v3) (xl ((p5 / v3)) (fun v8 => xl (p7 + (1 : Int32)) (fun v9 => f_X4_evaluate_12 T n S1 p0 p2 p3 p4 v8 p6 v9))) else if p6 = (0 : Int32) then f_X4_evaluate_98 T (f_X4_evaluate_12 T n) S1 p0 p2 p3 p7 v3 ((p4 + p5)) else f_X4_evaluate_98 T (f_X4_evaluate_12 T n) S1 p0 p2 p3 p7 v3 ((p4 - p5))))))))
set_option maxRecDepth 100000 in
set_option maxHeartbeats 4000000 in
theorem w_X4_evaluate_12 {p : Program} {l : Launch} {e : Env} {s : State} {m : MethodId} {args : Array Value} {below : List Frame} {meth : Method} {c : Code} {z : Nat} {D : va_G} {dA : Nat → ClassId} {T : xT} (B : xB p s m args meth c cX4_evaluate RX4 9 (some .int) D dA) {q : Int32 × xS} : ∀ (n : Nat), ∀ (S : xS) (H : Heap) (locs : List Loc) (ls : Array Slot) (p0 : Nat) (p2 : Int32) (p3 : Nat) (p4 : Int32) (p5 : Int32) (p6 : Int32) (p7 : Int32), xlk T p0 4 = true → xlk T p3 1 = true → f_X4_evaluate_12 T n S p0 p2 p3 p4 p5 p6 p7 = some q → xRel z D dA T S H → va_S (xA z) s.heap H locs → xL ls 9 [some (.ref (z + p0)), none, some (.int p2), some (.ref (z + p3)), some (.int p4), some (.int p5), some (.int p6), some (.int p7), none] → xGi p l e xr_X4_evaluate s m args below meth c z D dA T q H locs 12 ls [] := by
  intro n
  induction n with
  | zero =>
    intro S H locs ls p0 p2 p3 p4 p5 p6 p7 k_p0 k_p3 hf hR hS hl
    exact absurd hf (by simp [f_X4_evaluate_12])
  | succ n ih =>
    intro S H locs ls p0 p2 p3 p4 p5 p6 p7 k_p0 k_p3 hf hR hS hl
    unfold f_X4_evaluate_12 at hf
    refine lv_iload B.1.1 B.1.2.1 dX4_evaluate_12 (hl.at 7 rfl) ?_
    refine lv_iload_n B.1.1 B.1.2.1 dX4_evaluate_14 rfl (hl.at 2 rfl) ?_
    refine y_icmp_ge (tgt := 129) B hf dX4_evaluate_15 (by decide) (fun hf => ?_) (fun hf => ?_)
    · refine lv_iload B.1.1 B.1.2.1 dX4_evaluate_129 (hl.at 6 rfl) ?_
      refine y_if_eq (tgt := 142) B hf dX4_evaluate_131 (by decide) (fun hf => ?_) (fun hf => ?_)
      · refine lv_iload B.1.1 B.1.2.1 dX4_evaluate_142 (hl.at 4 rfl) ?_
        refine lv_iload B.1.1 B.1.2.1 dX4_evaluate_144 (hl.at 5 rfl) ?_
        refine lv_iadd B.1.1 B.1.2.1 dX4_evaluate_146 ?_
        exact y_iret B hR hS hf dX4_evaluate_147
      · refine lv_iload B.1.1 B.1.2.1 dX4_evaluate_134 (hl.at 4 rfl) ?_
        refine lv_iload B.1.1 B.1.2.1 dX4_evaluate_136 (hl.at 5 rfl) ?_
        refine lv_isub B.1.1 B.1.2.1 dX4_evaluate_138 ?_
        refine lv_goto (tgt := 147) B.1.1 B.1.2.1 dX4_evaluate_139 (by decide) ?_
        exact y_iret B hR hS hf dX4_evaluate_147
    · refine lv_aload_n B.1.1 B.1.2.1 dX4_evaluate_18 rfl (hl.at 0 rfl) ?_
      refine lv_iload B.1.1 B.1.2.1 dX4_evaluate_19 (hl.at 7 rfl) ?_
      refine lv_aload_n B.1.1 B.1.2.1 dX4_evaluate_21 rfl (hl.at 3 rfl) ?_
      refine y_ci hf (fun q hq => x_runV (ci := 4) (C := RX4) B.1 B.2.2.2 hl hR hS cm_X4_63 ⟨rfl, rfl, Nat.le_of_ble_eq_true rfl, Nat.le_of_ble_eq_true rfl⟩ (by decide) rfl k_p0 (c_X4_valueOf k_p0 k_p3 hq) rfl rfl (Nat.le_of_ble_eq_true rfl) dX4_evaluate_22 ⟨Nat.le_of_ble_eq_true rfl, Nat.le_of_ble_eq_true rfl⟩) hS (fun r2 S1 H locs hf hR hS => ?_)
      refine y_istore B hl hf dX4_evaluate_25 (by decide) rfl (fun v3 ls hf hl => ?_)
      have hl : xL ls 9 [_, _, _, _, _, _, _, _, _] := hl
      refine lv_aload_n B.1.1 B.1.2.1 dX4_evaluate_27 rfl (hl.at 0 rfl) ?_
      refine y_getR B hR hf k_p0 fl_X4_37 dX4_evaluate_28 (fun a4 k_a4 hf => ?_)
      refine lv_iload B.1.1 B.1.2.1 dX4_evaluate_31 (hl.at 7 rfl) ?_
      refine y_cald B hR hf k_a4 dX4_evaluate_33 (fun v5 hf => ?_)
      refine lv_bipush (v := 42) B.1.1 B.1.2.1 dX4_evaluate_34 (by decide) ?_
      refine y_icmp_ne (tgt := 49) B hf dX4_evaluate_36 (by decide) (fun hf => ?_) (fun hf => ?_)
      · refine lv_aload_n B.1.1 B.1.2.1 dX4_evaluate_49 rfl (hl.at 0 rfl) ?_
        refine y_getR B hR hf k_p0 fl_X4_37 dX4_evaluate_50 (fun a6 k_a6 hf => ?_)
        refine lv_iload B.1.1 B.1.2.1 dX4_evaluate_53 (hl.at 7 rfl) ?_
        refine y_cald B hR hf k_a6 dX4_evaluate_55 (fun v7 hf => ?_)
        refine lv_bipush (v := 47) B.1.1 B.1.2.1 dX4_evaluate_56 (by decide) ?_
        refine y_icmp_ne (tgt := 80) B hf dX4_evaluate_58 (by decide) (fun hf => ?_) (fun hf => ?_)
        · refine lv_iload B.1.1 B.1.2.1 dX4_evaluate_80 (hl.at 6 rfl) ?_
          refine y_if_eq (tgt := 93) B hf dX4_evaluate_82 (by decide) (fun hf => ?_) (fun hf => ?_)
          · refine lv_iload B.1.1 B.1.2.1 dX4_evaluate_93 (hl.at 4 rfl) ?_
            refine lv_iload B.1.1 B.1.2.1 dX4_evaluate_95 (hl.at 5 rfl) ?_
            refine lv_iadd B.1.1 B.1.2.1 dX4_evaluate_97 ?_
            exact w_X4_evaluate_98 B ih _ _ _ _ _ _ _ _ _ _ k_p0 k_p3 hf hR hS (hl.drop [true, false, true, true, false, false, false, true, true] rfl)
          · refine lv_iload B.1.1 B.1.2.1 dX4_evaluate_85 (hl.at 4 rfl) ?_
            refine lv_iload B.1.1 B.1.2.1 dX4_evaluate_87 (hl.at 5 rfl) ?_
            refine lv_isub B.1.1 B.1.2.1 dX4_evaluate_89 ?_
            refine lv_goto (tgt := 98) B.1.1 B.1.2.1 dX4_evaluate_90 (by decide) ?_
            exact w_X4_evaluate_98 B ih _ _ _ _ _ _ _ _ _ _ k_p0 k_p3 hf hR hS (hl.drop [true, false, true, true, false, false, false, true, true] rfl)
        · refine lv_iload B.1.1 B.1.2.1 dX4_evaluate_61 (hl.at 8 rfl) ?_
          refine y_if_ne (tgt := 70) B hf dX4_evaluate_63 (by decide) (fun hf => ?_) (fun hf => ?_)
          · refine lv_iload B.1.1 B.1.2.1 dX4_evaluate_70 (hl.at 5 rfl) ?_
            refine lv_iload B.1.1 B.1.2.1 dX4_evaluate_72 (hl.at 8 rfl) ?_
            refine y_idiv B hf dX4_evaluate_74 (fun hf => ?_)
            refine y_istore B hl hf dX4_evaluate_75 (by decide) rfl (fun v8 ls hf hl => ?_)
            have hl : xL ls 9 [_, _, _, _, _, _, _, _, _] := hl
            refine lv_goto (tgt := 123) B.1.1 B.1.2.1 dX4_evaluate_77 (by decide) ?_
            refine y_iinc (d := 1) B hl hf dX4_evaluate_123 rfl (by decide) (by decide) rfl (fun v9 ls hf hl => ?_)
            have hl : xL ls 9 [_, _, _, _, _, _, _, _, _] := hl
            refine lv_goto (tgt := 12) B.1.1 B.1.2.1 dX4_evaluate_126 (by decide) ?_
            exact ih _ _ _ _ _ _ _ _ _ _ _ k_p0 k_p3 hf hR hS (hl.drop [true, false, true, true, true, true, true, true, false] rfl)
          · refine lv_iconst (v := 0) B.1.1 B.1.2.1 dX4_evaluate_66 (by decide) ?_
            refine lv_goto (tgt := 75) B.1.1 B.1.2.1 dX4_evaluate_67 (by decide) ?_
            refine y_istore B hl hf dX4_evaluate_75 (by decide) rfl (fun v10 ls hf hl => ?_)
            have hl : xL ls 9 [_, _, _, _, _, _, _, _, _] := hl
            refine lv_goto (tgt := 123) B.1.1 B.1.2.1 dX4_evaluate_77 (by decide) ?_
            refine y_iinc (d := 1) B hl hf dX4_evaluate_123 rfl (by decide) (by decide) rfl (fun v11 ls hf hl => ?_)
            have hl : xL ls 9 [_, _, _, _, _, _, _, _, _] := hl
            refine lv_goto (tgt := 12) B.1.1 B.1.2.1 dX4_evaluate_126 (by decide) ?_
            exact ih _ _ _ _ _ _ _ _ _ _ _ k_p0 k_p3 hf hR hS (hl.drop [true, false, true, true, true, true, true, true, false] rfl)
      · refine lv_iload B.1.1 B.1.2.1 dX4_evaluate_39 (hl.at 5 rfl) ?_
        refine lv_iload B.1.1 B.1.2.1 dX4_evaluate_41 (hl.at 8 rfl) ?_
        refine lv_imul B.1.1 B.1.2.1 dX4_evaluate_43 ?_
        refine y_istore B hl hf dX4_evaluate_44 (by decide) rfl (fun v12 ls hf hl => ?_)
        have hl : xL ls 9 [_, _, _, _, _, _, _, _, _] := hl
        refine lv_goto (tgt := 123) B.1.1 B.1.2.1 dX4_evaluate_46 (by decide) ?_
        refine y_iinc (d := 1) B hl hf dX4_evaluate_123 rfl (by decide) (by decide) rfl (fun v13 ls hf hl => ?_)
        have hl : xL ls 9 [_, _, _, _, _, _, _, _, _] := hl
        refine lv_goto (tgt := 12) B.1.1 B.1.2.1 dX4_evaluate_126 (by decide) ?_
        exact ih _ _ _ _ _ _ _ _ _ _ _ k_p0 k_p3 hf hR hS (hl.drop [true, false, true, true, true, true, true, true, false] rfl)
def f_X4_evaluate (T : xT) (S : xS) (p0 : Nat) (p1 : Int32) (p2 : Int32) (p3 : Nat) : Option (Int32 × xS) := xl ((0 : Int32)) (fun v1 => xl ((0 : Int32)) (fun v2 => xl ((0 : Int32)) (fun v3 => xl p1 (fun v4 => f_X4_evaluate_12 T xfu S p0 p2 p3 v1 v2 v3 v4))))
set_option maxRecDepth 100000 in
set_option maxHeartbeats 4000000 in
theorem c_X4_evaluate {l : Launch} {z : Nat} {D : va_G} {dA : Nat → ClassId} {T : xT} {S : xS} {p0 : Nat} {p1 : Int32} {p2 : Int32} {p3 : Nat} (k_p0 : xlk T p0 4 = true) (k_p3 : xlk T p3 1 = true) {q : Int32 × xS} (hf : f_X4_evaluate T S p0 p1 p2 p3 = some q) : Met l yX4_evaluate (xws yX4_evaluate cX4_evaluate 9 (some .int)) xr_X4_evaluate (xPc z D dA T S [.ref (z + p0), .int p1, .int p2, .ref (z + p3)]) (xQi z D dA T q) 0 0 (xA z) := by
  refine x_met RX4 (by decide) rfl (Nat.le_of_ble_eq_true rfl) ?_
  intro p e s m below meth c ls _ X hr hlk hml _ hR hS hl
  have B : xB p s m _ meth c cX4_evaluate RX4 9 (some .int) D dA := ⟨X, hr, hlk, hml⟩
  have hl : xL ls 9 [_, _, _, _, _, _, _, _, _] := hl
  unfold f_X4_evaluate at hf
  refine lv_iconst (v := 0) B.1.1 B.1.2.1 dX4_evaluate_0 (by decide) ?_
  refine y_istore B hl hf dX4_evaluate_1 (by decide) rfl (fun v1 ls hf hl => ?_)
  have hl : xL ls 9 [_, _, _, _, _, _, _, _, _] := hl
  refine lv_iconst (v := 0) B.1.1 B.1.2.1 dX4_evaluate_3 (by decide) ?_
  refine y_istore B hl hf dX4_evaluate_4 (by decide) rfl (fun v2 ls hf hl => ?_)
  have hl : xL ls 9 [_, _, _, _, _, _, _, _, _] := hl
  refine lv_iconst (v := 0) B.1.1 B.1.2.1 dX4_evaluate_6 (by decide) ?_
  refine y_istore B hl hf dX4_evaluate_7 (by decide) rfl (fun v3 ls hf hl => ?_)
  have hl : xL ls 9 [_, _, _, _, _, _, _, _, _] := hl
  refine lv_iload_n B.1.1 B.1.2.1 dX4_evaluate_9 rfl (hl.at 1 rfl) ?_
  refine y_istore B hl hf dX4_evaluate_10 (by decide) rfl (fun v4 ls hf hl => ?_)
  have hl : xL ls 9 [_, _, _, _, _, _, _, _, _] := hl
  exact w_X4_evaluate_12 B xfu _ _ _ _ _ _ _ _ _ _ _ k_p0 k_p3 hf hR hS (hl.drop [true, false, true, true, true, true, true, true, false] rfl)
abbrev xr_X4_gift : Room := { frames := 4, cells := 0, slots := 0, locals := 84 }
def f_X4_gift_98 (T : xT) (S : xS) (p0 : Nat) (p1 : Int32) (p2 : Nat) : Option (Int32 × xS) := xgr T S p0 3 20 (fun a1 => xai T S a1 p1 (fun v2 => xgr T S p0 4 20 (fun a3 => xai T S a3 p1 (fun v4 => xc (f_X4_evaluate T S p0 v2 v4 p2) (fun r6 S5 => some ((xmax ((0 : Int32)) ((xmin ((S.1 p2 3)) r6))), S5))))))
set_option maxRecDepth 100000 in
set_option maxHeartbeats 4000000 in
theorem w_X4_gift_98 {p : Program} {l : Launch} {e : Env} {s : State} {m : MethodId} {args : Array Value} {below : List Frame} {meth : Method} {c : Code} {z : Nat} {D : va_G} {dA : Nat → ClassId} {T : xT} (B : xB p s m args meth c cX4_gift RX4 5 (some .int) D dA) {q : Int32 × xS} : ∀ (S : xS) (H : Heap) (locs : List Loc) (ls : Array Slot) (p0 : Nat) (p1 : Int32) (p2 : Nat), xlk T p0 4 = true → xlk T p2 1 = true → f_X4_gift_98 T S p0 p1 p2 = some q → xRel z D dA T S H → va_S (xA z) s.heap H locs → xL ls 5 [some (.ref (z + p0)), some (.int p1), some (.ref (z + p2)), none, none] → xGi p l e xr_X4_gift s m args below meth c z D dA T q H locs 98 ls [] := by
  intro S H locs ls p0 p1 p2 k_p0 k_p2 hf hR hS hl
  unfold f_X4_gift_98 at hf
  refine lv_iconst (v := 0) B.1.1 B.1.2.1 dX4_gift_98 (by decide) ?_
  refine lv_aload_n B.1.1 B.1.2.1 dX4_gift_99 rfl (hl.at 2 rfl) ?_
  refine y_getI B hR k_p2 fl_X4_50 dX4_gift_100 ?_
  refine lv_aload_n B.1.1 B.1.2.1 dX4_gift_103 rfl (hl.at 0 rfl) ?_
  refine lv_aload_n B.1.1 B.1.2.1 dX4_gift_104 rfl (hl.at 0 rfl) ?_
  refine y_getR B hR hf k_p0 fl_X4_15 dX4_gift_105 (fun a1 k_a1 hf => ?_)
  refine lv_iload_n B.1.1 B.1.2.1 dX4_gift_108 rfl (hl.at 1 rfl) ?_
  refine y_iald B hR hf k_a1 dX4_gift_109 (fun v2 hf => ?_)
  refine lv_aload_n B.1.1 B.1.2.1 dX4_gift_110 rfl (hl.at 0 rfl) ?_
  refine y_getR B hR hf k_p0 fl_X4_18 dX4_gift_111 (fun a3 k_a3 hf => ?_)
  refine lv_iload_n B.1.1 B.1.2.1 dX4_gift_114 rfl (hl.at 1 rfl) ?_
  refine y_iald B hR hf k_a3 dX4_gift_115 (fun v4 hf => ?_)
  refine lv_aload_n B.1.1 B.1.2.1 dX4_gift_116 rfl (hl.at 2 rfl) ?_
  refine y_ci hf (fun q hq => x_runV (ci := 4) (C := RX4) B.1 B.2.2.2 hl hR hS cm_X4_40 ⟨rfl, rfl, Nat.le_of_ble_eq_true rfl, Nat.le_of_ble_eq_true rfl⟩ (by decide) rfl k_p0 (c_X4_evaluate k_p0 k_p2 hq) rfl rfl (Nat.le_of_ble_eq_true rfl) dX4_gift_117 ⟨Nat.le_of_ble_eq_true rfl, Nat.le_of_ble_eq_true rfl⟩) hS (fun r6 S5 H locs hf hR hS => ?_)
  refine y_mmin B hl ma_X4_54 ⟨Nat.le_of_ble_eq_true rfl, Nat.le_of_ble_eq_true rfl⟩ ⟨Nat.le_of_ble_eq_true rfl, Nat.le_of_ble_eq_true rfl⟩ dX4_gift_120 ?_
  refine y_mmax B hl ma_X4_60 ⟨Nat.le_of_ble_eq_true rfl, Nat.le_of_ble_eq_true rfl⟩ ⟨Nat.le_of_ble_eq_true rfl, Nat.le_of_ble_eq_true rfl⟩ dX4_gift_123 ?_
  exact y_iret B hR hS hf dX4_gift_126
def f_X4_gift (T : xT) (S : xS) (p0 : Nat) (p1 : Int32) (p2 : Nat) : Option (Int32 × xS) := xgr T S p0 2 20 (fun a1 => xai T S a1 p1 (fun v2 => xc (f_X1_hasPartner T S p2 v2) (fun r4 S3 => if r4 = (0 : Int32) then some ((0 : Int32), S3) else if (0 : Int32) < (S3.1 p2 3) then xgr T S3 p0 7 24 (fun a5 => xai T S3 a5 p1 (fun v6 => if v6 = (32 : Int32) then f_X4_gift_98 T S3 p0 p1 p2 else xgr T S3 p0 4 20 (fun a7 => xai T S3 a7 p1 (fun v8 => xgr T S3 p0 5 20 (fun a9 => xai T S3 a9 p1 (fun v10 => xc (f_X4_evaluate T S3 p0 v8 v10 p2) (fun r12 S11 => xl r12 (fun v13 => xgr T S11 p0 5 20 (fun a14 => xai T S11 a14 p1 (fun v15 => xgr T S11 p0 6 20 (fun a16 => xai T S11 a16 p1 (fun v17 => xc (f_X4_evaluate T S11 p0 v15 v17 p2) (fun r19 S18 => xl r19 (fun v20 => xgr T S18 p0 7 24 (fun a21 => xai T S18 a21 p1 (fun v22 => if v22 = (60 : Int32) then if v13 < v20 then f_X4_gift_98 T S18 p0 p1 p2 else some ((0 : Int32), S18) else if v20 < v13 then f_X4_gift_98 T S18 p0 p1 p2 else some ((0 : Int32), S18))))))))))))))))) else some ((0 : Int32), S3))))
set_option maxRecDepth 100000 in
set_option maxHeartbeats 4000000 in
theorem c_X4_gift {l : Launch} {z : Nat} {D : va_G} {dA : Nat → ClassId} {T : xT} {S : xS} {p0 : Nat} {p1 : Int32} {p2 : Nat} (k_p0 : xlk T p0 4 = true) (k_p2 : xlk T p2 1 = true) {q : Int32 × xS} (hf : f_X4_gift T S p0 p1 p2 = some q) : Met l yX4_gift (xws yX4_gift cX4_gift 5 (some .int)) xr_X4_gift (xPc z D dA T S [.ref (z + p0), .int p1, .ref (z + p2)]) (xQi z D dA T q) 0 0 (xA z) := by
  refine x_met RX4 (by decide) rfl (Nat.le_of_ble_eq_true rfl) ?_
  intro p e s m below meth c ls _ X hr hlk hml _ hR hS hl
  have B : xB p s m _ meth c cX4_gift RX4 5 (some .int) D dA := ⟨X, hr, hlk, hml⟩
  have hl : xL ls 5 [_, _, _, _, _] := hl
  unfold f_X4_gift at hf
  refine lv_aload_n B.1.1 B.1.2.1 dX4_gift_0 rfl (hl.at 2 rfl) ?_
  refine lv_aload_n B.1.1 B.1.2.1 dX4_gift_1 rfl (hl.at 0 rfl) ?_
  refine y_getR B hR hf k_p0 fl_X4_9 dX4_gift_2 (fun a1 k_a1 hf => ?_)
  refine lv_iload_n B.1.1 B.1.2.1 dX4_gift_5 rfl (hl.at 1 rfl) ?_
  refine y_iald B hR hf k_a1 dX4_gift_6 (fun v2 hf => ?_)
  refine y_ci hf (fun q hq => x_runV (ci := 1) (C := RX1) B.1 B.2.2.2 hl hR hS cm_X4_44 ⟨rfl, rfl, Nat.le_of_ble_eq_true rfl, Nat.le_of_ble_eq_true rfl⟩ (by decide) rfl k_p2 (c_X1_hasPartner k_p2 hq) rfl rfl (Nat.le_of_ble_eq_true rfl) dX4_gift_7 ⟨Nat.le_of_ble_eq_true rfl, Nat.le_of_ble_eq_true rfl⟩) hS (fun r4 S3 H locs hf hR hS => ?_)
  refine y_if_eq (tgt := 20) B hf dX4_gift_10 (by decide) (fun hf => ?_) (fun hf => ?_)
  · refine lv_iconst (v := 0) B.1.1 B.1.2.1 dX4_gift_20 (by decide) ?_
    exact y_iret B hR hS hf dX4_gift_21
  · refine lv_aload_n B.1.1 B.1.2.1 dX4_gift_13 rfl (hl.at 2 rfl) ?_
    refine y_getI B hR k_p2 fl_X4_50 dX4_gift_14 ?_
    refine y_if_gt (tgt := 22) B hf dX4_gift_17 (by decide) (fun hf => ?_) (fun hf => ?_)
    · refine lv_aload_n B.1.1 B.1.2.1 dX4_gift_22 rfl (hl.at 0 rfl) ?_
      refine y_getR B hR hf k_p0 fl_X4_27 dX4_gift_23 (fun a5 k_a5 hf => ?_)
      refine lv_iload_n B.1.1 B.1.2.1 dX4_gift_26 rfl (hl.at 1 rfl) ?_
      refine y_cald B hR hf k_a5 dX4_gift_27 (fun v6 hf => ?_)
      refine lv_bipush (v := 32) B.1.1 B.1.2.1 dX4_gift_28 (by decide) ?_
      refine y_icmp_eq (tgt := 98) B hf dX4_gift_30 (by decide) (fun hf => ?_) (fun hf => ?_)
      · exact w_X4_gift_98 B _ _ _ _ _ _ _ k_p0 k_p2 hf hR hS hl
      · refine lv_aload_n B.1.1 B.1.2.1 dX4_gift_33 rfl (hl.at 0 rfl) ?_
        refine lv_aload_n B.1.1 B.1.2.1 dX4_gift_34 rfl (hl.at 0 rfl) ?_
        refine y_getR B hR hf k_p0 fl_X4_18 dX4_gift_35 (fun a7 k_a7 hf => ?_)
        refine lv_iload_n B.1.1 B.1.2.1 dX4_gift_38 rfl (hl.at 1 rfl) ?_
        refine y_iald B hR hf k_a7 dX4_gift_39 (fun v8 hf => ?_)
        refine lv_aload_n B.1.1 B.1.2.1 dX4_gift_40 rfl (hl.at 0 rfl) ?_
        refine y_getR B hR hf k_p0 fl_X4_21 dX4_gift_41 (fun a9 k_a9 hf => ?_)
        refine lv_iload_n B.1.1 B.1.2.1 dX4_gift_44 rfl (hl.at 1 rfl) ?_
        refine y_iald B hR hf k_a9 dX4_gift_45 (fun v10 hf => ?_)
        refine lv_aload_n B.1.1 B.1.2.1 dX4_gift_46 rfl (hl.at 2 rfl) ?_
        refine y_ci hf (fun q hq => x_runV (ci := 4) (C := RX4) B.1 B.2.2.2 hl hR hS cm_X4_40 ⟨rfl, rfl, Nat.le_of_ble_eq_true rfl, Nat.le_of_ble_eq_true rfl⟩ (by decide) rfl k_p0 (c_X4_evaluate k_p0 k_p2 hq) rfl rfl (Nat.le_of_ble_eq_true rfl) dX4_gift_47 ⟨Nat.le_of_ble_eq_true rfl, Nat.le_of_ble_eq_true rfl⟩) hS (fun r12 S11 H locs hf hR hS => ?_)
        refine y_istore_n B hl hf dX4_gift_50 rfl (by decide) rfl (fun v13 ls hf hl => ?_)
        have hl : xL ls 5 [_, _, _, _, _] := hl
        refine lv_aload_n B.1.1 B.1.2.1 dX4_gift_51 rfl (hl.at 0 rfl) ?_
        refine lv_aload_n B.1.1 B.1.2.1 dX4_gift_52 rfl (hl.at 0 rfl) ?_
        refine y_getR B hR hf k_p0 fl_X4_21 dX4_gift_53 (fun a14 k_a14 hf => ?_)
        refine lv_iload_n B.1.1 B.1.2.1 dX4_gift_56 rfl (hl.at 1 rfl) ?_
        refine y_iald B hR hf k_a14 dX4_gift_57 (fun v15 hf => ?_)
        refine lv_aload_n B.1.1 B.1.2.1 dX4_gift_58 rfl (hl.at 0 rfl) ?_
        refine y_getR B hR hf k_p0 fl_X4_24 dX4_gift_59 (fun a16 k_a16 hf => ?_)
        refine lv_iload_n B.1.1 B.1.2.1 dX4_gift_62 rfl (hl.at 1 rfl) ?_
        refine y_iald B hR hf k_a16 dX4_gift_63 (fun v17 hf => ?_)
        refine lv_aload_n B.1.1 B.1.2.1 dX4_gift_64 rfl (hl.at 2 rfl) ?_
        refine y_ci hf (fun q hq => x_runV (ci := 4) (C := RX4) B.1 B.2.2.2 hl hR hS cm_X4_40 ⟨rfl, rfl, Nat.le_of_ble_eq_true rfl, Nat.le_of_ble_eq_true rfl⟩ (by decide) rfl k_p0 (c_X4_evaluate k_p0 k_p2 hq) rfl rfl (Nat.le_of_ble_eq_true rfl) dX4_gift_65 ⟨Nat.le_of_ble_eq_true rfl, Nat.le_of_ble_eq_true rfl⟩) hS (fun r19 S18 H locs hf hR hS => ?_)
        refine y_istore B hl hf dX4_gift_68 (by decide) rfl (fun v20 ls hf hl => ?_)
        have hl : xL ls 5 [_, _, _, _, _] := hl
        refine lv_aload_n B.1.1 B.1.2.1 dX4_gift_70 rfl (hl.at 0 rfl) ?_
        refine y_getR B hR hf k_p0 fl_X4_27 dX4_gift_71 (fun a21 k_a21 hf => ?_)
        refine lv_iload_n B.1.1 B.1.2.1 dX4_gift_74 rfl (hl.at 1 rfl) ?_
        refine y_cald B hR hf k_a21 dX4_gift_75 (fun v22 hf => ?_)
        refine lv_bipush (v := 60) B.1.1 B.1.2.1 dX4_gift_76 (by decide) ?_
        refine y_icmp_ne (tgt := 90) B hf dX4_gift_78 (by decide) (fun hf => ?_) (fun hf => ?_)
        · refine lv_iload_n B.1.1 B.1.2.1 dX4_gift_90 rfl (hl.at 3 rfl) ?_
          refine lv_iload B.1.1 B.1.2.1 dX4_gift_91 (hl.at 4 rfl) ?_
          refine y_icmp_gt (tgt := 98) B hf dX4_gift_93 (by decide) (fun hf => ?_) (fun hf => ?_)
          · exact w_X4_gift_98 B _ _ _ _ _ _ _ k_p0 k_p2 hf hR hS (hl.drop [true, true, true, false, false] rfl)
          · refine lv_iconst (v := 0) B.1.1 B.1.2.1 dX4_gift_96 (by decide) ?_
            exact y_iret B hR hS hf dX4_gift_97
        · refine lv_iload_n B.1.1 B.1.2.1 dX4_gift_81 rfl (hl.at 3 rfl) ?_
          refine lv_iload B.1.1 B.1.2.1 dX4_gift_82 (hl.at 4 rfl) ?_
          refine y_icmp_lt (tgt := 98) B hf dX4_gift_84 (by decide) (fun hf => ?_) (fun hf => ?_)
          · exact w_X4_gift_98 B _ _ _ _ _ _ _ k_p0 k_p2 hf hR hS (hl.drop [true, true, true, false, false] rfl)
          · refine lv_goto (tgt := 96) B.1.1 B.1.2.1 dX4_gift_87 (by decide) ?_
            refine lv_iconst (v := 0) B.1.1 B.1.2.1 dX4_gift_96 (by decide) ?_
            exact y_iret B hR hS hf dX4_gift_97
    · refine lv_iconst (v := 0) B.1.1 B.1.2.1 dX4_gift_20 (by decide) ?_
      exact y_iret B hR hS hf dX4_gift_21
abbrev xr_X2_giveSpecials : Room := { frames := 5, cells := 0, slots := 0, locals := 108 }
def f_X2_giveSpecials_11 (T : xT) : Nat → xS → Nat → Nat → Nat → Nat → Int32 → Option (xS)
  | 0, _, _, _, _, _, _ => none
  | n + 1, S, p0, p1, p2, p3, p4 => if (S.1 p2 0) ≤ p4 then xgr T S p0 5 20 (fun a1 => xcv (f_X7_putRow T S p3 ((4 : Int32)) a1) (fun S2 => some S2)) else xc (f_X4_gift T S p2 p4 p1) (fun r4 S3 => xl r4 (fun v5 => if v5 ≤ (0 : Int32) then xl (p4 + (1 : Int32)) (fun v6 => f_X2_giveSpecials_11 T n S3 p0 p1 p2 p3 v6) else xgr T S3 p2 2 20 (fun a7 => xai T S3 a7 p4 (fun v8 => xl v8 (fun v9 => xgr T S3 p1 6 20 (fun a10 => xai T S3 a10 v9 (fun v11 => xst T S3 a10 v9 ((v11 + v5)) (fun S12 => xpi S12 p1 3 (((S12.1 p1 3) - v5)) (fun S13 => xgr T S13 p0 5 20 (fun a14 => xai T S13 a14 v9 (fun v15 => xst T S13 a14 v9 ((v15 + v5)) (fun S16 => xl (p4 + (1 : Int32)) (fun v17 => f_X2_giveSpecials_11 T n S16 p0 p1 p2 p3 v17)))))))))))))
set_option maxRecDepth 100000 in
set_option maxHeartbeats 4000000 in
theorem w_X2_giveSpecials_11 {p : Program} {l : Launch} {e : Env} {s : State} {m : MethodId} {args : Array Value} {below : List Frame} {meth : Method} {c : Code} {z : Nat} {D : va_G} {dA : Nat → ClassId} {T : xT} (B : xB p s m args meth c cX2_giveSpecials RX2 7 none D dA) {q : xS} : ∀ (n : Nat), ∀ (S : xS) (H : Heap) (locs : List Loc) (ls : Array Slot) (p0 : Nat) (p1 : Nat) (p2 : Nat) (p3 : Nat) (p4 : Int32), xlk T p0 2 = true → xlk T p1 1 = true → xlk T p2 4 = true → xlk T p3 7 = true → f_X2_giveSpecials_11 T n S p0 p1 p2 p3 p4 = some q → xRel z D dA T S H → va_S (xA z) s.heap H locs → xL ls 7 [some (.ref (z + p0)), some (.ref (z + p1)), some (.ref (z + p2)), some (.ref (z + p3)), some (.int p4), none, none] → xGv p l e xr_X2_giveSpecials s m args below meth c z D dA T q H locs 11 ls [] := by
  intro n
  induction n with
  | zero =>
    intro S H locs ls p0 p1 p2 p3 p4 k_p0 k_p1 k_p2 k_p3 hf hR hS hl
    exact absurd hf (by simp [f_X2_giveSpecials_11])
  | succ n ih =>
    intro S H locs ls p0 p1 p2 p3 p4 k_p0 k_p1 k_p2 k_p3 hf hR hS hl
    unfold f_X2_giveSpecials_11 at hf
    refine lv_iload B.1.1 B.1.2.1 dX2_giveSpecials_11 (hl.at 4 rfl) ?_
    refine lv_aload_n B.1.1 B.1.2.1 dX2_giveSpecials_13 rfl (hl.at 2 rfl) ?_
    refine y_getI B hR k_p2 fl_X2_157 dX2_giveSpecials_14 ?_
    refine y_icmp_ge (tgt := 84) B hf dX2_giveSpecials_17 (by decide) (fun hf => ?_) (fun hf => ?_)
    · refine lv_aload_n B.1.1 B.1.2.1 dX2_giveSpecials_84 rfl (hl.at 3 rfl) ?_
      refine lv_iconst (v := 4) B.1.1 B.1.2.1 dX2_giveSpecials_85 (by decide) ?_
      refine lv_aload_n B.1.1 B.1.2.1 dX2_giveSpecials_86 rfl (hl.at 0 rfl) ?_
      refine y_getR B hR hf k_p0 fl_X2_21 dX2_giveSpecials_87 (fun a1 k_a1 hf => ?_)
      refine y_cv hf (fun q hq => x_runV (ci := 7) (C := RX7) B.1 B.2.2.2 hl hR hS cm_X2_139 ⟨rfl, rfl, Nat.le_of_ble_eq_true rfl, Nat.le_of_ble_eq_true rfl⟩ (by decide) rfl k_p3 (c_X7_putRow k_p3 k_a1 hq) rfl rfl (Nat.le_of_ble_eq_true rfl) dX2_giveSpecials_90 ⟨Nat.le_of_ble_eq_true rfl, Nat.le_of_ble_eq_true rfl⟩) hS (fun S2 H locs hf hR hS => ?_)
      exact y_vret B hR hS hf dX2_giveSpecials_93
    · refine lv_aload_n B.1.1 B.1.2.1 dX2_giveSpecials_20 rfl (hl.at 2 rfl) ?_
      refine lv_iload B.1.1 B.1.2.1 dX2_giveSpecials_21 (hl.at 4 rfl) ?_
      refine lv_aload_n B.1.1 B.1.2.1 dX2_giveSpecials_23 rfl (hl.at 1 rfl) ?_
      refine y_ci hf (fun q hq => x_runV (ci := 4) (C := RX4) B.1 B.2.2.2 hl hR hS cm_X2_160 ⟨rfl, rfl, Nat.le_of_ble_eq_true rfl, Nat.le_of_ble_eq_true rfl⟩ (by decide) rfl k_p2 (c_X4_gift k_p2 k_p1 hq) rfl rfl (Nat.le_of_ble_eq_true rfl) dX2_giveSpecials_24 ⟨Nat.le_of_ble_eq_true rfl, Nat.le_of_ble_eq_true rfl⟩) hS (fun r4 S3 H locs hf hR hS => ?_)
      refine y_istore B hl hf dX2_giveSpecials_27 (by decide) rfl (fun v5 ls hf hl => ?_)
      have hl : xL ls 7 [_, _, _, _, _, _, _] := hl
      refine lv_iload B.1.1 B.1.2.1 dX2_giveSpecials_29 (hl.at 5 rfl) ?_
      refine y_if_le (tgt := 78) B hf dX2_giveSpecials_31 (by decide) (fun hf => ?_) (fun hf => ?_)
      · refine y_iinc (d := 1) B hl hf dX2_giveSpecials_78 rfl (by decide) (by decide) rfl (fun v6 ls hf hl => ?_)
        have hl : xL ls 7 [_, _, _, _, _, _, _] := hl
        refine lv_goto (tgt := 11) B.1.1 B.1.2.1 dX2_giveSpecials_81 (by decide) ?_
        exact ih _ _ _ _ _ _ _ _ _ k_p0 k_p1 k_p2 k_p3 hf hR hS (hl.drop [true, true, true, true, true, false, false] rfl)
      · refine lv_aload_n B.1.1 B.1.2.1 dX2_giveSpecials_34 rfl (hl.at 2 rfl) ?_
        refine y_getR B hR hf k_p2 fl_X2_164 dX2_giveSpecials_35 (fun a7 k_a7 hf => ?_)
        refine lv_iload B.1.1 B.1.2.1 dX2_giveSpecials_38 (hl.at 4 rfl) ?_
        refine y_iald B hR hf k_a7 dX2_giveSpecials_40 (fun v8 hf => ?_)
        refine y_istore B hl hf dX2_giveSpecials_41 (by decide) rfl (fun v9 ls hf hl => ?_)
        have hl : xL ls 7 [_, _, _, _, _, _, _] := hl
        refine lv_aload_n B.1.1 B.1.2.1 dX2_giveSpecials_43 rfl (hl.at 1 rfl) ?_
        refine y_getR B hR hf k_p1 fl_X2_85 dX2_giveSpecials_44 (fun a10 k_a10 hf => ?_)
        refine lv_iload B.1.1 B.1.2.1 dX2_giveSpecials_47 (hl.at 6 rfl) ?_
        refine lv_dup2_11 B.1.1 B.1.2.1 dX2_giveSpecials_49 rfl rfl ?_
        refine y_iald B hR hf k_a10 dX2_giveSpecials_50 (fun v11 hf => ?_)
        refine lv_iload B.1.1 B.1.2.1 dX2_giveSpecials_51 (hl.at 5 rfl) ?_
        refine lv_iadd B.1.1 B.1.2.1 dX2_giveSpecials_53 ?_
        refine y_iast B hR hS hf k_a10 dX2_giveSpecials_54 (fun S12 H locs hf hR hS => ?_)
        refine lv_aload_n B.1.1 B.1.2.1 dX2_giveSpecials_55 rfl (hl.at 1 rfl) ?_
        refine lv_dup B.1.1 B.1.2.1 dX2_giveSpecials_56 rfl ?_
        refine y_getI B hR k_p1 fl_X2_123 dX2_giveSpecials_57 ?_
        refine lv_iload B.1.1 B.1.2.1 dX2_giveSpecials_60 (hl.at 5 rfl) ?_
        refine lv_isub B.1.1 B.1.2.1 dX2_giveSpecials_62 ?_
        refine y_putI B hR hS hf k_p1 fp_X2_123 dX2_giveSpecials_63 (fun S13 H locs hf hR hS => ?_)
        refine lv_aload_n B.1.1 B.1.2.1 dX2_giveSpecials_66 rfl (hl.at 0 rfl) ?_
        refine y_getR B hR hf k_p0 fl_X2_21 dX2_giveSpecials_67 (fun a14 k_a14 hf => ?_)
        refine lv_iload B.1.1 B.1.2.1 dX2_giveSpecials_70 (hl.at 6 rfl) ?_
        refine lv_dup2_11 B.1.1 B.1.2.1 dX2_giveSpecials_72 rfl rfl ?_
        refine y_iald B hR hf k_a14 dX2_giveSpecials_73 (fun v15 hf => ?_)
        refine lv_iload B.1.1 B.1.2.1 dX2_giveSpecials_74 (hl.at 5 rfl) ?_
        refine lv_iadd B.1.1 B.1.2.1 dX2_giveSpecials_76 ?_
        refine y_iast B hR hS hf k_a14 dX2_giveSpecials_77 (fun S16 H locs hf hR hS => ?_)
        refine y_iinc (d := 1) B hl hf dX2_giveSpecials_78 rfl (by decide) (by decide) rfl (fun v17 ls hf hl => ?_)
        have hl : xL ls 7 [_, _, _, _, _, _, _] := hl
        refine lv_goto (tgt := 11) B.1.1 B.1.2.1 dX2_giveSpecials_81 (by decide) ?_
        exact ih _ _ _ _ _ _ _ _ _ k_p0 k_p1 k_p2 k_p3 hf hR hS (hl.drop [true, true, true, true, true, false, false] rfl)
def f_X2_giveSpecials (T : xT) (S : xS) (p0 : Nat) (p1 : Nat) (p2 : Nat) (p3 : Nat) : Option (xS) := xgr T S p0 5 20 (fun a1 => xcv (f_J7_fill_53178 T S a1 ((0 : Int32))) (fun S2 => xl ((0 : Int32)) (fun v3 => f_X2_giveSpecials_11 T xfu S2 p0 p1 p2 p3 v3)))
set_option maxRecDepth 100000 in
set_option maxHeartbeats 4000000 in
theorem c_X2_giveSpecials {l : Launch} {z : Nat} {D : va_G} {dA : Nat → ClassId} {T : xT} {S : xS} {p0 : Nat} {p1 : Nat} {p2 : Nat} {p3 : Nat} (k_p0 : xlk T p0 2 = true) (k_p1 : xlk T p1 1 = true) (k_p2 : xlk T p2 4 = true) (k_p3 : xlk T p3 7 = true) {q : xS} (hf : f_X2_giveSpecials T S p0 p1 p2 p3 = some q) : Met l yX2_giveSpecials (xws yX2_giveSpecials cX2_giveSpecials 7 none) xr_X2_giveSpecials (xPc z D dA T S [.ref (z + p0), .ref (z + p1), .ref (z + p2), .ref (z + p3)]) (xQv z D dA T q) 0 0 (xA z) := by
  refine x_met RX2 (by decide) rfl (Nat.le_of_ble_eq_true rfl) ?_
  intro p e s m below meth c ls _ X hr hlk hml _ hR hS hl
  have B : xB p s m _ meth c cX2_giveSpecials RX2 7 none D dA := ⟨X, hr, hlk, hml⟩
  have hl : xL ls 7 [_, _, _, _, _, _, _] := hl
  unfold f_X2_giveSpecials at hf
  refine lv_aload_n B.1.1 B.1.2.1 dX2_giveSpecials_0 rfl (hl.at 0 rfl) ?_
  refine y_getR B hR hf k_p0 fl_X2_21 dX2_giveSpecials_1 (fun a1 k_a1 hf => ?_)
  refine lv_iconst (v := 0) B.1.1 B.1.2.1 dX2_giveSpecials_4 (by decide) ?_
  refine y_cv hf (fun q hq => y_runS B.1 B.2.2.2 hl hR hS cm_X2_30 ⟨rfl, rfl, Nat.le_of_ble_eq_true rfl, Nat.le_of_ble_eq_true rfl⟩ (c_J7_fill_53178 k_a1 hq) rfl rfl (Nat.le_of_ble_eq_true rfl) dX2_giveSpecials_5 ⟨Nat.le_of_ble_eq_true rfl, Nat.le_of_ble_eq_true rfl⟩) hS (fun S2 H locs hf hR hS => ?_)
  refine lv_iconst (v := 0) B.1.1 B.1.2.1 dX2_giveSpecials_8 (by decide) ?_
  refine y_istore B hl hf dX2_giveSpecials_9 (by decide) rfl (fun v3 ls hf hl => ?_)
  have hl : xL ls 7 [_, _, _, _, _, _, _] := hl
  exact w_X2_giveSpecials_11 B xfu _ _ _ _ _ _ _ _ _ k_p0 k_p1 k_p2 k_p3 hf hR hS hl
abbrev xr_X2_putLosses : Room := { frames := 2, cells := 0, slots := 0, locals := 59 }
def f_X2_putLosses (T : xT) (S : xS) (p0 : Nat) (p1 : Int32) (p2 : Nat) : Option (xS) := xgr T S p0 5 20 (fun a1 => xcv (f_J7_fill_53178 T S a1 ((0 : Int32))) (fun S2 => xgr T S2 p0 5 20 (fun a3 => xgr T S2 p0 6 20 (fun a4 => xcv (f_X9_takeAll T S2 a3 a4) (fun S5 => xgr T S5 p0 5 20 (fun a6 => xcv (f_X7_putRow T S5 p2 p1 a6) (fun S7 => some S7)))))))
set_option maxRecDepth 100000 in
set_option maxHeartbeats 4000000 in
theorem c_X2_putLosses {l : Launch} {z : Nat} {D : va_G} {dA : Nat → ClassId} {T : xT} {S : xS} {p0 : Nat} {p1 : Int32} {p2 : Nat} (k_p0 : xlk T p0 2 = true) (k_p2 : xlk T p2 7 = true) {q : xS} (hf : f_X2_putLosses T S p0 p1 p2 = some q) : Met l yX2_putLosses (xws yX2_putLosses cX2_putLosses 3 none) xr_X2_putLosses (xPc z D dA T S [.ref (z + p0), .int p1, .ref (z + p2)]) (xQv z D dA T q) 0 0 (xA z) := by
  refine x_met RX2 (by decide) rfl (Nat.le_of_ble_eq_true rfl) ?_
  intro p e s m below meth c ls _ X hr hlk hml _ hR hS hl
  have B : xB p s m _ meth c cX2_putLosses RX2 3 none D dA := ⟨X, hr, hlk, hml⟩
  have hl : xL ls 3 [_, _, _] := hl
  unfold f_X2_putLosses at hf
  refine lv_aload_n B.1.1 B.1.2.1 dX2_putLosses_0 rfl (hl.at 0 rfl) ?_
  refine y_getR B hR hf k_p0 fl_X2_21 dX2_putLosses_1 (fun a1 k_a1 hf => ?_)
  refine lv_iconst (v := 0) B.1.1 B.1.2.1 dX2_putLosses_4 (by decide) ?_
  refine y_cv hf (fun q hq => y_runS B.1 B.2.2.2 hl hR hS cm_X2_30 ⟨rfl, rfl, Nat.le_of_ble_eq_true rfl, Nat.le_of_ble_eq_true rfl⟩ (c_J7_fill_53178 k_a1 hq) rfl rfl (Nat.le_of_ble_eq_true rfl) dX2_putLosses_5 ⟨Nat.le_of_ble_eq_true rfl, Nat.le_of_ble_eq_true rfl⟩) hS (fun S2 H locs hf hR hS => ?_)
  refine lv_aload_n B.1.1 B.1.2.1 dX2_putLosses_8 rfl (hl.at 0 rfl) ?_
  refine y_getR B hR hf k_p0 fl_X2_21 dX2_putLosses_9 (fun a3 k_a3 hf => ?_)
  refine lv_aload_n B.1.1 B.1.2.1 dX2_putLosses_12 rfl (hl.at 0 rfl) ?_
  refine y_getR B hR hf k_p0 fl_X2_24 dX2_putLosses_13 (fun a4 k_a4 hf => ?_)
  refine y_cv hf (fun q hq => x_runN B.1 B.2.2.2 hl hR hS cm_X2_82 ⟨rfl, rfl, Nat.le_of_ble_eq_true rfl, Nat.le_of_ble_eq_true rfl⟩ (c_X9_takeAll k_a3 k_a4 hq) rfl rfl (Nat.le_of_ble_eq_true rfl) dX2_putLosses_16 ⟨Nat.le_of_ble_eq_true rfl, Nat.le_of_ble_eq_true rfl⟩) hS (fun S5 H locs hf hR hS => ?_)
  refine lv_aload_n B.1.1 B.1.2.1 dX2_putLosses_19 rfl (hl.at 2 rfl) ?_
  refine lv_iload_n B.1.1 B.1.2.1 dX2_putLosses_20 rfl (hl.at 1 rfl) ?_
  refine lv_aload_n B.1.1 B.1.2.1 dX2_putLosses_21 rfl (hl.at 0 rfl) ?_
  refine y_getR B hR hf k_p0 fl_X2_21 dX2_putLosses_22 (fun a6 k_a6 hf => ?_)
  refine y_cv hf (fun q hq => x_runV (ci := 7) (C := RX7) B.1 B.2.2.2 hl hR hS cm_X2_139 ⟨rfl, rfl, Nat.le_of_ble_eq_true rfl, Nat.le_of_ble_eq_true rfl⟩ (by decide) rfl k_p2 (c_X7_putRow k_p2 k_a6 hq) rfl rfl (Nat.le_of_ble_eq_true rfl) dX2_putLosses_25 ⟨Nat.le_of_ble_eq_true rfl, Nat.le_of_ble_eq_true rfl⟩) hS (fun S7 H locs hf hR hS => ?_)
  exact y_vret B hR hS hf dX2_putLosses_28
abbrev xr_X2_cutToRooms : Room := { frames := 1, cells := 0, slots := 0, locals := 12 }
def f_X2_cutToRooms_4 (T : xT) : Nat → xS → Nat → Int32 → Int32 → Option (Int32 × xS)
  | 0, _, _, _, _ => none
  | n + 1, S, p0, p1, p2 => if (8 : Int32) ≤ p2 then some (p1, S) else xgr T S p0 6 20 (fun a1 => xai T S a1 p2 (fun v2 => xgr T S p0 7 20 (fun a3 => xai T S a3 p2 (fun v4 => if v2 ≤ v4 then xl (p2 + (1 : Int32)) (fun v5 => f_X2_cutToRooms_4 T n S p0 p1 v5) else xgr T S p0 6 20 (fun a6 => xai T S a6 p2 (fun v7 => xgr T S p0 7 20 (fun a8 => xai T S a8 p2 (fun v9 => xl ((p1 + (v7 - v9))) (fun v10 => xgr T S p0 6 20 (fun a11 => xgr T S p0 7 20 (fun a12 => xai T S a12 p2 (fun v13 => xst T S a11 p2 v13 (fun S14 => xl (p2 + (1 : Int32)) (fun v15 => f_X2_cutToRooms_4 T n S14 p0 v10 v15))))))))))))))
set_option maxRecDepth 100000 in
set_option maxHeartbeats 4000000 in
theorem w_X2_cutToRooms_4 {p : Program} {l : Launch} {e : Env} {s : State} {m : MethodId} {args : Array Value} {below : List Frame} {meth : Method} {c : Code} {z : Nat} {D : va_G} {dA : Nat → ClassId} {T : xT} (B : xB p s m args meth c cX2_cutToRooms RX2 3 (some .int) D dA) {q : Int32 × xS} : ∀ (n : Nat), ∀ (S : xS) (H : Heap) (locs : List Loc) (ls : Array Slot) (p0 : Nat) (p1 : Int32) (p2 : Int32), xlk T p0 2 = true → f_X2_cutToRooms_4 T n S p0 p1 p2 = some q → xRel z D dA T S H → va_S (xA z) s.heap H locs → xL ls 3 [some (.ref (z + p0)), some (.int p1), some (.int p2)] → xGi p l e xr_X2_cutToRooms s m args below meth c z D dA T q H locs 4 ls [] := by
  intro n
  induction n with
  | zero =>
    intro S H locs ls p0 p1 p2 k_p0 hf hR hS hl
    exact absurd hf (by simp [f_X2_cutToRooms_4])
  | succ n ih =>
    intro S H locs ls p0 p1 p2 k_p0 hf hR hS hl
    unfold f_X2_cutToRooms_4 at hf
    refine lv_iload_n B.1.1 B.1.2.1 dX2_cutToRooms_4 rfl (hl.at 2 rfl) ?_
    refine lv_bipush (v := 8) B.1.1 B.1.2.1 dX2_cutToRooms_5 (by decide) ?_
    refine y_icmp_ge (tgt := 59) B hf dX2_cutToRooms_7 (by decide) (fun hf => ?_) (fun hf => ?_)
    · refine lv_iload_n B.1.1 B.1.2.1 dX2_cutToRooms_59 rfl (hl.at 1 rfl) ?_
      exact y_iret B hR hS hf dX2_cutToRooms_60
    · refine lv_aload_n B.1.1 B.1.2.1 dX2_cutToRooms_10 rfl (hl.at 0 rfl) ?_
      refine y_getR B hR hf k_p0 fl_X2_24 dX2_cutToRooms_11 (fun a1 k_a1 hf => ?_)
      refine lv_iload_n B.1.1 B.1.2.1 dX2_cutToRooms_14 rfl (hl.at 2 rfl) ?_
      refine y_iald B hR hf k_a1 dX2_cutToRooms_15 (fun v2 hf => ?_)
      refine lv_aload_n B.1.1 B.1.2.1 dX2_cutToRooms_16 rfl (hl.at 0 rfl) ?_
      refine y_getR B hR hf k_p0 fl_X2_27 dX2_cutToRooms_17 (fun a3 k_a3 hf => ?_)
      refine lv_iload_n B.1.1 B.1.2.1 dX2_cutToRooms_20 rfl (hl.at 2 rfl) ?_
      refine y_iald B hR hf k_a3 dX2_cutToRooms_21 (fun v4 hf => ?_)
      refine y_icmp_le (tgt := 53) B hf dX2_cutToRooms_22 (by decide) (fun hf => ?_) (fun hf => ?_)
      · refine y_iinc (d := 1) B hl hf dX2_cutToRooms_53 rfl (by decide) (by decide) rfl (fun v5 ls hf hl => ?_)
        have hl : xL ls 3 [_, _, _] := hl
        refine lv_goto (tgt := 4) B.1.1 B.1.2.1 dX2_cutToRooms_56 (by decide) ?_
        exact ih _ _ _ _ _ _ _ k_p0 hf hR hS hl
      · refine lv_iload_n B.1.1 B.1.2.1 dX2_cutToRooms_25 rfl (hl.at 1 rfl) ?_
        refine lv_aload_n B.1.1 B.1.2.1 dX2_cutToRooms_26 rfl (hl.at 0 rfl) ?_
        refine y_getR B hR hf k_p0 fl_X2_24 dX2_cutToRooms_27 (fun a6 k_a6 hf => ?_)
        refine lv_iload_n B.1.1 B.1.2.1 dX2_cutToRooms_30 rfl (hl.at 2 rfl) ?_
        refine y_iald B hR hf k_a6 dX2_cutToRooms_31 (fun v7 hf => ?_)
        refine lv_aload_n B.1.1 B.1.2.1 dX2_cutToRooms_32 rfl (hl.at 0 rfl) ?_
        refine y_getR B hR hf k_p0 fl_X2_27 dX2_cutToRooms_33 (fun a8 k_a8 hf => ?_)
        refine lv_iload_n B.1.1 B.1.2.1 dX2_cutToRooms_36 rfl (hl.at 2 rfl) ?_
        refine y_iald B hR hf k_a8 dX2_cutToRooms_37 (fun v9 hf => ?_)
        refine lv_isub B.1.1 B.1.2.1 dX2_cutToRooms_38 ?_
        refine lv_iadd B.1.1 B.1.2.1 dX2_cutToRooms_39 ?_
        refine y_istore_n B hl hf dX2_cutToRooms_40 rfl (by decide) rfl (fun v10 ls hf hl => ?_)
        have hl : xL ls 3 [_, _, _] := hl
        refine lv_aload_n B.1.1 B.1.2.1 dX2_cutToRooms_41 rfl (hl.at 0 rfl) ?_
        refine y_getR B hR hf k_p0 fl_X2_24 dX2_cutToRooms_42 (fun a11 k_a11 hf => ?_)
        refine lv_iload_n B.1.1 B.1.2.1 dX2_cutToRooms_45 rfl (hl.at 2 rfl) ?_
        refine lv_aload_n B.1.1 B.1.2.1 dX2_cutToRooms_46 rfl (hl.at 0 rfl) ?_
        refine y_getR B hR hf k_p0 fl_X2_27 dX2_cutToRooms_47 (fun a12 k_a12 hf => ?_)
        refine lv_iload_n B.1.1 B.1.2.1 dX2_cutToRooms_50 rfl (hl.at 2 rfl) ?_
        refine y_iald B hR hf k_a12 dX2_cutToRooms_51 (fun v13 hf => ?_)
        refine y_iast B hR hS hf k_a11 dX2_cutToRooms_52 (fun S14 H locs hf hR hS => ?_)
        refine y_iinc (d := 1) B hl hf dX2_cutToRooms_53 rfl (by decide) (by decide) rfl (fun v15 ls hf hl => ?_)
        have hl : xL ls 3 [_, _, _] := hl
        refine lv_goto (tgt := 4) B.1.1 B.1.2.1 dX2_cutToRooms_56 (by decide) ?_
        exact ih _ _ _ _ _ _ _ k_p0 hf hR hS hl
def f_X2_cutToRooms (T : xT) (S : xS) (p0 : Nat) : Option (Int32 × xS) := xl ((0 : Int32)) (fun v1 => xl ((0 : Int32)) (fun v2 => f_X2_cutToRooms_4 T xfu S p0 v1 v2))
set_option maxRecDepth 100000 in
set_option maxHeartbeats 4000000 in
theorem c_X2_cutToRooms {l : Launch} {z : Nat} {D : va_G} {dA : Nat → ClassId} {T : xT} {S : xS} {p0 : Nat} (k_p0 : xlk T p0 2 = true) {q : Int32 × xS} (hf : f_X2_cutToRooms T S p0 = some q) : Met l yX2_cutToRooms (xws yX2_cutToRooms cX2_cutToRooms 3 (some .int)) xr_X2_cutToRooms (xPc z D dA T S [.ref (z + p0)]) (xQi z D dA T q) 0 0 (xA z) := by
  refine x_met RX2 (by decide) rfl (Nat.le_of_ble_eq_true rfl) ?_
  intro p e s m below meth c ls _ X hr hlk hml _ hR hS hl
  have B : xB p s m _ meth c cX2_cutToRooms RX2 3 (some .int) D dA := ⟨X, hr, hlk, hml⟩
  have hl : xL ls 3 [_, _, _] := hl
  unfold f_X2_cutToRooms at hf
  refine lv_iconst (v := 0) B.1.1 B.1.2.1 dX2_cutToRooms_0 (by decide) ?_
  refine y_istore_n B hl hf dX2_cutToRooms_1 rfl (by decide) rfl (fun v1 ls hf hl => ?_)
  have hl : xL ls 3 [_, _, _] := hl
  refine lv_iconst (v := 0) B.1.1 B.1.2.1 dX2_cutToRooms_2 (by decide) ?_
  refine y_istore_n B hl hf dX2_cutToRooms_3 rfl (by decide) rfl (fun v2 ls hf hl => ?_)
  have hl : xL ls 3 [_, _, _] := hl
  exact w_X2_cutToRooms_4 B xfu _ _ _ _ _ _ _ k_p0 hf hR hS hl
abbrev xr_X2_withRoomLeft : Room := { frames := 2, cells := 0, slots := 0, locals := 33 }
def f_X2_withRoomLeft_4 (T : xT) : Nat → xS → Nat → Nat → Int32 → Int32 → Option (Int32 × xS)
  | 0, _, _, _, _, _ => none
  | n + 1, S, p0, p1, p2, p3 => if (8 : Int32) ≤ p3 then some (p2, S) else xc (f_X1_hasPartner T S p1 p3) (fun r2 S1 => if r2 = (0 : Int32) then xl (p3 + (1 : Int32)) (fun v3 => f_X2_withRoomLeft_4 T n S1 p0 p1 p2 v3) else xgr T S1 p0 6 20 (fun a4 => xai T S1 a4 p3 (fun v5 => xgr T S1 p0 7 20 (fun a6 => xai T S1 a6 p3 (fun v7 => if v7 ≤ v5 then xl (p3 + (1 : Int32)) (fun v8 => f_X2_withRoomLeft_4 T n S1 p0 p1 p2 v8) else xl ((p2 ||| ((1 : Int32) <<< (p3 &&& 31)))) (fun v9 => xl (p3 + (1 : Int32)) (fun v10 => f_X2_withRoomLeft_4 T n S1 p0 p1 v9 v10)))))))
set_option maxRecDepth 100000 in
set_option maxHeartbeats 4000000 in
theorem w_X2_withRoomLeft_4 {p : Program} {l : Launch} {e : Env} {s : State} {m : MethodId} {args : Array Value} {below : List Frame} {meth : Method} {c : Code} {z : Nat} {D : va_G} {dA : Nat → ClassId} {T : xT} (B : xB p s m args meth c cX2_withRoomLeft RX2 4 (some .int) D dA) {q : Int32 × xS} : ∀ (n : Nat), ∀ (S : xS) (H : Heap) (locs : List Loc) (ls : Array Slot) (p0 : Nat) (p1 : Nat) (p2 : Int32) (p3 : Int32), xlk T p0 2 = true → xlk T p1 1 = true → f_X2_withRoomLeft_4 T n S p0 p1 p2 p3 = some q → xRel z D dA T S H → va_S (xA z) s.heap H locs → xL ls 4 [some (.ref (z + p0)), some (.ref (z + p1)), some (.int p2), some (.int p3)] → xGi p l e xr_X2_withRoomLeft s m args below meth c z D dA T q H locs 4 ls [] := by
  intro n
  induction n with
  | zero =>
    intro S H locs ls p0 p1 p2 p3 k_p0 k_p1 hf hR hS hl
    exact absurd hf (by simp [f_X2_withRoomLeft_4])
  | succ n ih =>
    intro S H locs ls p0 p1 p2 p3 k_p0 k_p1 hf hR hS hl
    unfold f_X2_withRoomLeft_4 at hf
    refine lv_iload_n B.1.1 B.1.2.1 dX2_withRoomLeft_4 rfl (hl.at 3 rfl) ?_
    refine lv_bipush (v := 8) B.1.1 B.1.2.1 dX2_withRoomLeft_5 (by decide) ?_
    refine y_icmp_ge (tgt := 45) B hf dX2_withRoomLeft_7 (by decide) (fun hf => ?_) (fun hf => ?_)
    · refine lv_iload_n B.1.1 B.1.2.1 dX2_withRoomLeft_45 rfl (hl.at 2 rfl) ?_
      exact y_iret B hR hS hf dX2_withRoomLeft_46
    · refine lv_aload_n B.1.1 B.1.2.1 dX2_withRoomLeft_10 rfl (hl.at 1 rfl) ?_
      refine lv_iload_n B.1.1 B.1.2.1 dX2_withRoomLeft_11 rfl (hl.at 3 rfl) ?_
      refine y_ci hf (fun q hq => x_runV (ci := 1) (C := RX1) B.1 B.2.2.2 hl hR hS cm_X2_149 ⟨rfl, rfl, Nat.le_of_ble_eq_true rfl, Nat.le_of_ble_eq_true rfl⟩ (by decide) rfl k_p1 (c_X1_hasPartner k_p1 hq) rfl rfl (Nat.le_of_ble_eq_true rfl) dX2_withRoomLeft_12 ⟨Nat.le_of_ble_eq_true rfl, Nat.le_of_ble_eq_true rfl⟩) hS (fun r2 S1 H locs hf hR hS => ?_)
      refine y_if_eq (tgt := 39) B hf dX2_withRoomLeft_15 (by decide) (fun hf => ?_) (fun hf => ?_)
      · refine y_iinc (d := 1) B hl hf dX2_withRoomLeft_39 rfl (by decide) (by decide) rfl (fun v3 ls hf hl => ?_)
        have hl : xL ls 4 [_, _, _, _] := hl
        refine lv_goto (tgt := 4) B.1.1 B.1.2.1 dX2_withRoomLeft_42 (by decide) ?_
        exact ih _ _ _ _ _ _ _ _ k_p0 k_p1 hf hR hS hl
      · refine lv_aload_n B.1.1 B.1.2.1 dX2_withRoomLeft_18 rfl (hl.at 0 rfl) ?_
        refine y_getR B hR hf k_p0 fl_X2_24 dX2_withRoomLeft_19 (fun a4 k_a4 hf => ?_)
        refine lv_iload_n B.1.1 B.1.2.1 dX2_withRoomLeft_22 rfl (hl.at 3 rfl) ?_
        refine y_iald B hR hf k_a4 dX2_withRoomLeft_23 (fun v5 hf => ?_)
        refine lv_aload_n B.1.1 B.1.2.1 dX2_withRoomLeft_24 rfl (hl.at 0 rfl) ?_
        refine y_getR B hR hf k_p0 fl_X2_27 dX2_withRoomLeft_25 (fun a6 k_a6 hf => ?_)
        refine lv_iload_n B.1.1 B.1.2.1 dX2_withRoomLeft_28 rfl (hl.at 3 rfl) ?_
        refine y_iald B hR hf k_a6 dX2_withRoomLeft_29 (fun v7 hf => ?_)
        refine y_icmp_ge (tgt := 39) B hf dX2_withRoomLeft_30 (by decide) (fun hf => ?_) (fun hf => ?_)
        · refine y_iinc (d := 1) B hl hf dX2_withRoomLeft_39 rfl (by decide) (by decide) rfl (fun v8 ls hf hl => ?_)
          have hl : xL ls 4 [_, _, _, _] := hl
          refine lv_goto (tgt := 4) B.1.1 B.1.2.1 dX2_withRoomLeft_42 (by decide) ?_
          exact ih _ _ _ _ _ _ _ _ k_p0 k_p1 hf hR hS hl
        · refine lv_iload_n B.1.1 B.1.2.1 dX2_withRoomLeft_33 rfl (hl.at 2 rfl) ?_
          refine lv_iconst (v := 1) B.1.1 B.1.2.1 dX2_withRoomLeft_34 (by decide) ?_
          refine lv_iload_n B.1.1 B.1.2.1 dX2_withRoomLeft_35 rfl (hl.at 3 rfl) ?_
          refine lv_ishl B.1.1 B.1.2.1 dX2_withRoomLeft_36 ?_
          refine lv_ior B.1.1 B.1.2.1 dX2_withRoomLeft_37 ?_
          refine y_istore_n B hl hf dX2_withRoomLeft_38 rfl (by decide) rfl (fun v9 ls hf hl => ?_)
          have hl : xL ls 4 [_, _, _, _] := hl
          refine y_iinc (d := 1) B hl hf dX2_withRoomLeft_39 rfl (by decide) (by decide) rfl (fun v10 ls hf hl => ?_)
          have hl : xL ls 4 [_, _, _, _] := hl
          refine lv_goto (tgt := 4) B.1.1 B.1.2.1 dX2_withRoomLeft_42 (by decide) ?_
          exact ih _ _ _ _ _ _ _ _ k_p0 k_p1 hf hR hS hl
def f_X2_withRoomLeft (T : xT) (S : xS) (p0 : Nat) (p1 : Nat) : Option (Int32 × xS) := xl ((0 : Int32)) (fun v1 => xl ((0 : Int32)) (fun v2 => f_X2_withRoomLeft_4 T xfu S p0 p1 v1 v2))
set_option maxRecDepth 100000 in
set_option maxHeartbeats 4000000 in
theorem c_X2_withRoomLeft {l : Launch} {z : Nat} {D : va_G} {dA : Nat → ClassId} {T : xT} {S : xS} {p0 : Nat} {p1 : Nat} (k_p0 : xlk T p0 2 = true) (k_p1 : xlk T p1 1 = true) {q : Int32 × xS} (hf : f_X2_withRoomLeft T S p0 p1 = some q) : Met l yX2_withRoomLeft (xws yX2_withRoomLeft cX2_withRoomLeft 4 (some .int)) xr_X2_withRoomLeft (xPc z D dA T S [.ref (z + p0), .ref (z + p1)]) (xQi z D dA T q) 0 0 (xA z) := by
  refine x_met RX2 (by decide) rfl (Nat.le_of_ble_eq_true rfl) ?_
  intro p e s m below meth c ls _ X hr hlk hml _ hR hS hl
  have B : xB p s m _ meth c cX2_withRoomLeft RX2 4 (some .int) D dA := ⟨X, hr, hlk, hml⟩
  have hl : xL ls 4 [_, _, _, _] := hl
  unfold f_X2_withRoomLeft at hf
  refine lv_iconst (v := 0) B.1.1 B.1.2.1 dX2_withRoomLeft_0 (by decide) ?_
  refine y_istore_n B hl hf dX2_withRoomLeft_1 rfl (by decide) rfl (fun v1 ls hf hl => ?_)
  have hl : xL ls 4 [_, _, _, _] := hl
  refine lv_iconst (v := 0) B.1.1 B.1.2.1 dX2_withRoomLeft_2 (by decide) ?_
  refine y_istore_n B hl hf dX2_withRoomLeft_3 rfl (by decide) rfl (fun v2 ls hf hl => ?_)
  have hl : xL ls 4 [_, _, _, _] := hl
  exact w_X2_withRoomLeft_4 B xfu _ _ _ _ _ _ _ _ k_p0 k_p1 hf hR hS hl
abbrev xr_X2_addToFirst : Room := { frames := 2, cells := 0, slots := 0, locals := 33 }
def f_X2_addToFirst_2 (T : xT) : Nat → xS → Nat → Nat → Int32 → Int32 → Option (xS)
  | 0, _, _, _, _, _ => none
  | n + 1, S, p0, p1, p2, p3 => if (8 : Int32) ≤ p3 then some S else xc (f_X1_hasPartner T S p1 p3) (fun r2 S1 => if r2 = (0 : Int32) then xl (p3 + (1 : Int32)) (fun v3 => f_X2_addToFirst_2 T n S1 p0 p1 p2 v3) else xgr T S1 p0 6 20 (fun a4 => xai T S1 a4 p3 (fun v5 => xst T S1 a4 p3 ((v5 + p2)) (fun S6 => some S6))))
set_option maxRecDepth 100000 in
set_option maxHeartbeats 4000000 in
theorem w_X2_addToFirst_2 {p : Program} {l : Launch} {e : Env} {s : State} {m : MethodId} {args : Array Value} {below : List Frame} {meth : Method} {c : Code} {z : Nat} {D : va_G} {dA : Nat → ClassId} {T : xT} (B : xB p s m args meth c cX2_addToFirst RX2 4 none D dA) {q : xS} : ∀ (n : Nat), ∀ (S : xS) (H : Heap) (locs : List Loc) (ls : Array Slot) (p0 : Nat) (p1 : Nat) (p2 : Int32) (p3 : Int32), xlk T p0 2 = true → xlk T p1 1 = true → f_X2_addToFirst_2 T n S p0 p1 p2 p3 = some q → xRel z D dA T S H → va_S (xA z) s.heap H locs → xL ls 4 [some (.ref (z + p0)), some (.ref (z + p1)), some (.int p2), some (.int p3)] → xGv p l e xr_X2_addToFirst s m args below meth c z D dA T q H locs 2 ls [] := by
  intro n
  induction n with
  | zero =>
    intro S H locs ls p0 p1 p2 p3 k_p0 k_p1 hf hR hS hl
    exact absurd hf (by simp [f_X2_addToFirst_2])
  | succ n ih =>
    intro S H locs ls p0 p1 p2 p3 k_p0 k_p1 hf hR hS hl
    unfold f_X2_addToFirst_2 at hf
    refine lv_iload_n B.1.1 B.1.2.1 dX2_addToFirst_2 rfl (hl.at 3 rfl) ?_
    refine lv_bipush (v := 8) B.1.1 B.1.2.1 dX2_addToFirst_3 (by decide) ?_
    refine y_icmp_ge (tgt := 33) B hf dX2_addToFirst_5 (by decide) (fun hf => ?_) (fun hf => ?_)
    · exact y_vret B hR hS hf dX2_addToFirst_33
    · refine lv_aload_n B.1.1 B.1.2.1 dX2_addToFirst_8 rfl (hl.at 1 rfl) ?_
      refine lv_iload_n B.1.1 B.1.2.1 dX2_addToFirst_9 rfl (hl.at 3 rfl) ?_
      refine y_ci hf (fun q hq => x_runV (ci := 1) (C := RX1) B.1 B.2.2.2 hl hR hS cm_X2_149 ⟨rfl, rfl, Nat.le_of_ble_eq_true rfl, Nat.le_of_ble_eq_true rfl⟩ (by decide) rfl k_p1 (c_X1_hasPartner k_p1 hq) rfl rfl (Nat.le_of_ble_eq_true rfl) dX2_addToFirst_10 ⟨Nat.le_of_ble_eq_true rfl, Nat.le_of_ble_eq_true rfl⟩) hS (fun r2 S1 H locs hf hR hS => ?_)
      refine y_if_eq (tgt := 27) B hf dX2_addToFirst_13 (by decide) (fun hf => ?_) (fun hf => ?_)
      · refine y_iinc (d := 1) B hl hf dX2_addToFirst_27 rfl (by decide) (by decide) rfl (fun v3 ls hf hl => ?_)
        have hl : xL ls 4 [_, _, _, _] := hl
        refine lv_goto (tgt := 2) B.1.1 B.1.2.1 dX2_addToFirst_30 (by decide) ?_
        exact ih _ _ _ _ _ _ _ _ k_p0 k_p1 hf hR hS hl
      · refine lv_aload_n B.1.1 B.1.2.1 dX2_addToFirst_16 rfl (hl.at 0 rfl) ?_
        refine y_getR B hR hf k_p0 fl_X2_24 dX2_addToFirst_17 (fun a4 k_a4 hf => ?_)
        refine lv_iload_n B.1.1 B.1.2.1 dX2_addToFirst_20 rfl (hl.at 3 rfl) ?_
        refine lv_dup2_11 B.1.1 B.1.2.1 dX2_addToFirst_21 rfl rfl ?_
        refine y_iald B hR hf k_a4 dX2_addToFirst_22 (fun v5 hf => ?_)
        refine lv_iload_n B.1.1 B.1.2.1 dX2_addToFirst_23 rfl (hl.at 2 rfl) ?_
        refine lv_iadd B.1.1 B.1.2.1 dX2_addToFirst_24 ?_
        refine y_iast B hR hS hf k_a4 dX2_addToFirst_25 (fun S6 H locs hf hR hS => ?_)
        exact y_vret B hR hS hf dX2_addToFirst_26
def f_X2_addToFirst (T : xT) (S : xS) (p0 : Nat) (p1 : Nat) (p2 : Int32) : Option (xS) := xl ((0 : Int32)) (fun v1 => f_X2_addToFirst_2 T xfu S p0 p1 p2 v1)
set_option maxRecDepth 100000 in
set_option maxHeartbeats 4000000 in
theorem c_X2_addToFirst {l : Launch} {z : Nat} {D : va_G} {dA : Nat → ClassId} {T : xT} {S : xS} {p0 : Nat} {p1 : Nat} {p2 : Int32} (k_p0 : xlk T p0 2 = true) (k_p1 : xlk T p1 1 = true) {q : xS} (hf : f_X2_addToFirst T S p0 p1 p2 = some q) : Met l yX2_addToFirst (xws yX2_addToFirst cX2_addToFirst 4 none) xr_X2_addToFirst (xPc z D dA T S [.ref (z + p0), .ref (z + p1), .int p2]) (xQv z D dA T q) 0 0 (xA z) := by
  refine x_met RX2 (by decide) rfl (Nat.le_of_ble_eq_true rfl) ?_
  intro p e s m below meth c ls _ X hr hlk hml _ hR hS hl
  have B : xB p s m _ meth c cX2_addToFirst RX2 4 none D dA := ⟨X, hr, hlk, hml⟩
  have hl : xL ls 4 [_, _, _, _] := hl
  unfold f_X2_addToFirst at hf
  refine lv_iconst (v := 0) B.1.1 B.1.2.1 dX2_addToFirst_0 (by decide) ?_
  refine y_istore_n B hl hf dX2_addToFirst_1 rfl (by decide) rfl (fun v1 ls hf hl => ?_)
  have hl : xL ls 4 [_, _, _, _] := hl
  exact w_X2_addToFirst_2 B xfu _ _ _ _ _ _ _ _ k_p0 k_p1 hf hR hS hl
