abbrev xr_X10_readGives : Room := { frames := 4, cells := 0, slots := 0, locals := 77 }
def f_X10_readGives_27 (T : xT) : Nat → xS → Nat → Int32 → Int32 → Option (Int32 × xS)
  | 0, _, _, _, _ => none
  | n + 1, S, p0, p1, p2 => if p2 = (0 : Int32) then xc (f_X10_takes T S p0 ((59 : Int32))) (fun r2 S1 => xgd (xnz r2) (some (r2, S1))) else xc (f_X10_partnerHere T S p0) (fun r4 S3 => xl r4 (fun v5 => if v5 = (-1 : Int32) then xc (f_X10_fails T S3 p0) (fun r7 S6 => xgd (xnz r7) (some (r7, S6))) else xgr T S3 p0 13 20 (fun a8 => xai T S3 a8 (((p1 + (1 : Int32)) + v5)) (fun v9 => if v9 ≤ (0 : Int32) then xcv (f_X10_nextToken T S3 p0) (fun S10 => xc (f_X10_takesNumber T S10 p0 ((1 : Int32)) ((99 : Int32))) (fun r12 S11 => if r12 = (0 : Int32) then some ((0 : Int32), S11) else xgr T S11 p0 13 20 (fun a13 => xst T S11 a13 (((p1 + (1 : Int32)) + v5)) ((S11.1 p0 12)) (fun S14 => if (S14.1 p0 8) = (43 : Int32) then xl ((1 : Int32)) (fun v17 => if v17 = (0 : Int32) then f_X10_readGives_27 T n S14 p0 p1 v17 else xcv (f_X10_nextToken T S14 p0) (fun S18 => f_X10_readGives_27 T n S18 p0 p1 v17)) else xl ((0 : Int32)) (fun v15 => if v15 = (0 : Int32) then f_X10_readGives_27 T n S14 p0 p1 v15 else xcv (f_X10_nextToken T S14 p0) (fun S16 => f_X10_readGives_27 T n S16 p0 p1 v15)))))) else xc (f_X10_fails T S3 p0) (fun r20 S19 => xgd (xnz r20) (some (r20, S19)))))))
set_option maxRecDepth 100000 in
set_option maxHeartbeats 4000000 in
theorem w_X10_readGives_27 {p : Program} {l : Launch} {e : Env} {s : State} {m : MethodId} {args : Array Value} {below : List Frame} {meth : Method} {c : Code} {z : Nat} {D : va_G} {dA : Nat → ClassId} {T : xT} (B : xB p s m args meth c cX10_readGives RX10 4 (some .boolean) D dA) {q : Int32 × xS} : ∀ (n : Nat), ∀ (S : xS) (H : Heap) (locs : List Loc) (ls : Array Slot) (p0 : Nat) (p1 : Int32) (p2 : Int32), xlk T p0 10 = true → f_X10_readGives_27 T n S p0 p1 p2 = some q → xRel z D dA T S H → va_S (xA z) s.heap H locs → xL ls 4 [some (.ref (z + p0)), some (.int p1), some (.int p2), none] → xGi p l e xr_X10_readGives s m args below meth c z D dA T q H locs 27 ls [] := by
  intro n
  induction n with
  | zero =>
    intro S H locs ls p0 p1 p2 k_p0 hf hR hS hl
    exact absurd hf (by simp [f_X10_readGives_27])
  | succ n ih =>
    intro S H locs ls p0 p1 p2 k_p0 hf hR hS hl
    unfold f_X10_readGives_27 at hf
    refine lv_iload_n B.1.1 B.1.2.1 dX10_readGives_27 rfl (hl.at 2 rfl) ?_
    refine y_if_eq (tgt := 115) B hf dX10_readGives_28 (by decide) (fun hf => ?_) (fun hf => ?_)
    · refine lv_aload_n B.1.1 B.1.2.1 dX10_readGives_115 rfl (hl.at 0 rfl) ?_
      refine lv_bipush (v := 59) B.1.1 B.1.2.1 dX10_readGives_116 (by decide) ?_
      refine y_ci hf (fun q hq => x_runV (ci := 10) (C := RX10) B.1 B.2.2.2 hl hR hS cm_X10_170 ⟨rfl, rfl, Nat.le_of_ble_eq_true rfl, Nat.le_of_ble_eq_true rfl⟩ (by decide) rfl k_p0 (c_X10_takes k_p0 hq) rfl rfl (Nat.le_of_ble_eq_true rfl) dX10_readGives_118 ⟨Nat.le_of_ble_eq_true rfl, Nat.le_of_ble_eq_true rfl⟩) hS (fun r2 S1 H locs hf hR hS => ?_)
      exact y_zret B hR hS hf dX10_readGives_121
    · refine lv_aload_n B.1.1 B.1.2.1 dX10_readGives_31 rfl (hl.at 0 rfl) ?_
      refine y_ci hf (fun q hq => x_runV (ci := 10) (C := RX10) B.1 B.2.2.2 hl hR hS cm_X10_163 ⟨rfl, rfl, Nat.le_of_ble_eq_true rfl, Nat.le_of_ble_eq_true rfl⟩ (by decide) rfl k_p0 (c_X10_partnerHere k_p0 hq) rfl rfl (Nat.le_of_ble_eq_true rfl) dX10_readGives_32 ⟨Nat.le_of_ble_eq_true rfl, Nat.le_of_ble_eq_true rfl⟩) hS (fun r4 S3 H locs hf hR hS => ?_)
      refine y_istore_n B hl hf dX10_readGives_35 rfl (by decide) rfl (fun v5 ls hf hl => ?_)
      have hl : xL ls 4 [_, _, _, _] := hl
      refine lv_iload_n B.1.1 B.1.2.1 dX10_readGives_36 rfl (hl.at 3 rfl) ?_
      refine lv_iconst (v := -1) B.1.1 B.1.2.1 dX10_readGives_37 (by decide) ?_
      refine y_icmp_eq (tgt := 54) B hf dX10_readGives_38 (by decide) (fun hf => ?_) (fun hf => ?_)
      · refine lv_aload_n B.1.1 B.1.2.1 dX10_readGives_54 rfl (hl.at 0 rfl) ?_
        refine y_ci hf (fun q hq => x_runV (ci := 10) (C := RX10) B.1 B.2.2.2 hl hR hS cm_X10_154 ⟨rfl, rfl, Nat.le_of_ble_eq_true rfl, Nat.le_of_ble_eq_true rfl⟩ (by decide) rfl k_p0 (c_X10_fails k_p0 hq) rfl rfl (Nat.le_of_ble_eq_true rfl) dX10_readGives_55 ⟨Nat.le_of_ble_eq_true rfl, Nat.le_of_ble_eq_true rfl⟩) hS (fun r7 S6 H locs hf hR hS => ?_)
        exact y_zret B hR hS hf dX10_readGives_58
      · refine lv_aload_n B.1.1 B.1.2.1 dX10_readGives_41 rfl (hl.at 0 rfl) ?_
        refine y_getR B hR hf k_p0 fl_X10_28 dX10_readGives_42 (fun a8 k_a8 hf => ?_)
        refine lv_iload_n B.1.1 B.1.2.1 dX10_readGives_45 rfl (hl.at 1 rfl) ?_
        refine lv_iconst (v := 1) B.1.1 B.1.2.1 dX10_readGives_46 (by decide) ?_
        refine lv_iadd B.1.1 B.1.2.1 dX10_readGives_47 ?_
        refine lv_iload_n B.1.1 B.1.2.1 dX10_readGives_48 rfl (hl.at 3 rfl) ?_
        refine lv_iadd B.1.1 B.1.2.1 dX10_readGives_49 ?_
        refine y_iald B hR hf k_a8 dX10_readGives_50 (fun v9 hf => ?_)
        refine y_if_le (tgt := 59) B hf dX10_readGives_51 (by decide) (fun hf => ?_) (fun hf => ?_)
        · refine lv_aload_n B.1.1 B.1.2.1 dX10_readGives_59 rfl (hl.at 0 rfl) ?_
          refine y_cv hf (fun q hq => x_runV (ci := 10) (C := RX10) B.1 B.2.2.2 hl hR hS cm_X10_147 ⟨rfl, rfl, Nat.le_of_ble_eq_true rfl, Nat.le_of_ble_eq_true rfl⟩ (by decide) rfl k_p0 (c_X10_nextToken k_p0 hq) rfl rfl (Nat.le_of_ble_eq_true rfl) dX10_readGives_60 ⟨Nat.le_of_ble_eq_true rfl, Nat.le_of_ble_eq_true rfl⟩) hS (fun S10 H locs hf hR hS => ?_)
          refine lv_aload_n B.1.1 B.1.2.1 dX10_readGives_63 rfl (hl.at 0 rfl) ?_
          refine lv_iconst (v := 1) B.1.1 B.1.2.1 dX10_readGives_64 (by decide) ?_
          refine lv_bipush (v := 99) B.1.1 B.1.2.1 dX10_readGives_65 (by decide) ?_
          refine y_ci hf (fun q hq => x_runV (ci := 10) (C := RX10) B.1 B.2.2.2 hl hR hS cm_X10_166 ⟨rfl, rfl, Nat.le_of_ble_eq_true rfl, Nat.le_of_ble_eq_true rfl⟩ (by decide) rfl k_p0 (c_X10_takesNumber k_p0 hq) rfl rfl (Nat.le_of_ble_eq_true rfl) dX10_readGives_67 ⟨Nat.le_of_ble_eq_true rfl, Nat.le_of_ble_eq_true rfl⟩) hS (fun r12 S11 H locs hf hR hS => ?_)
          refine y_if_ne (tgt := 75) B hf dX10_readGives_70 (by decide) (fun hf => ?_) (fun hf => ?_)
          · refine lv_aload_n B.1.1 B.1.2.1 dX10_readGives_75 rfl (hl.at 0 rfl) ?_
            refine y_getR B hR hf k_p0 fl_X10_28 dX10_readGives_76 (fun a13 k_a13 hf => ?_)
            refine lv_iload_n B.1.1 B.1.2.1 dX10_readGives_79 rfl (hl.at 1 rfl) ?_
            refine lv_iconst (v := 1) B.1.1 B.1.2.1 dX10_readGives_80 (by decide) ?_
            refine lv_iadd B.1.1 B.1.2.1 dX10_readGives_81 ?_
            refine lv_iload_n B.1.1 B.1.2.1 dX10_readGives_82 rfl (hl.at 3 rfl) ?_
            refine lv_iadd B.1.1 B.1.2.1 dX10_readGives_83 ?_
            refine lv_aload_n B.1.1 B.1.2.1 dX10_readGives_84 rfl (hl.at 0 rfl) ?_
            refine y_getI B hR k_p0 fl_X10_158 dX10_readGives_85 ?_
            refine y_iast B hR hS hf k_a13 dX10_readGives_88 (fun S14 H locs hf hR hS => ?_)
            refine lv_aload_n B.1.1 B.1.2.1 dX10_readGives_89 rfl (hl.at 0 rfl) ?_
            refine y_getI B hR k_p0 fl_X10_129 dX10_readGives_90 ?_
            refine lv_bipush (v := 43) B.1.1 B.1.2.1 dX10_readGives_93 (by decide) ?_
            refine y_icmp_ne (tgt := 102) B hf dX10_readGives_95 (by decide) (fun hf => ?_) (fun hf => ?_)
            · refine lv_iconst (v := 0) B.1.1 B.1.2.1 dX10_readGives_102 (by decide) ?_
              refine y_istore_n B hl hf dX10_readGives_103 rfl (by decide) rfl (fun v15 ls hf hl => ?_)
              have hl : xL ls 4 [_, _, _, _] := hl
              refine lv_iload_n B.1.1 B.1.2.1 dX10_readGives_104 rfl (hl.at 2 rfl) ?_
              refine y_if_eq (tgt := 112) B hf dX10_readGives_105 (by decide) (fun hf => ?_) (fun hf => ?_)
              · refine lv_goto (tgt := 27) B.1.1 B.1.2.1 dX10_readGives_112 (by decide) ?_
                exact ih _ _ _ _ _ _ _ k_p0 hf hR hS (hl.drop [true, true, true, false] rfl)
              · refine lv_aload_n B.1.1 B.1.2.1 dX10_readGives_108 rfl (hl.at 0 rfl) ?_
                refine y_cv hf (fun q hq => x_runV (ci := 10) (C := RX10) B.1 B.2.2.2 hl hR hS cm_X10_147 ⟨rfl, rfl, Nat.le_of_ble_eq_true rfl, Nat.le_of_ble_eq_true rfl⟩ (by decide) rfl k_p0 (c_X10_nextToken k_p0 hq) rfl rfl (Nat.le_of_ble_eq_true rfl) dX10_readGives_109 ⟨Nat.le_of_ble_eq_true rfl, Nat.le_of_ble_eq_true rfl⟩) hS (fun S16 H locs hf hR hS => ?_)
                refine lv_goto (tgt := 27) B.1.1 B.1.2.1 dX10_readGives_112 (by decide) ?_
                exact ih _ _ _ _ _ _ _ k_p0 hf hR hS (hl.drop [true, true, true, false] rfl)
            · refine lv_iconst (v := 1) B.1.1 B.1.2.1 dX10_readGives_98 (by decide) ?_
              refine lv_goto (tgt := 103) B.1.1 B.1.2.1 dX10_readGives_99 (by decide) ?_
              refine y_istore_n B hl hf dX10_readGives_103 rfl (by decide) rfl (fun v17 ls hf hl => ?_)
              have hl : xL ls 4 [_, _, _, _] := hl
              refine lv_iload_n B.1.1 B.1.2.1 dX10_readGives_104 rfl (hl.at 2 rfl) ?_
              refine y_if_eq (tgt := 112) B hf dX10_readGives_105 (by decide) (fun hf => ?_) (fun hf => ?_)
              · refine lv_goto (tgt := 27) B.1.1 B.1.2.1 dX10_readGives_112 (by decide) ?_
                exact ih _ _ _ _ _ _ _ k_p0 hf hR hS (hl.drop [true, true, true, false] rfl)
              · refine lv_aload_n B.1.1 B.1.2.1 dX10_readGives_108 rfl (hl.at 0 rfl) ?_
                refine y_cv hf (fun q hq => x_runV (ci := 10) (C := RX10) B.1 B.2.2.2 hl hR hS cm_X10_147 ⟨rfl, rfl, Nat.le_of_ble_eq_true rfl, Nat.le_of_ble_eq_true rfl⟩ (by decide) rfl k_p0 (c_X10_nextToken k_p0 hq) rfl rfl (Nat.le_of_ble_eq_true rfl) dX10_readGives_109 ⟨Nat.le_of_ble_eq_true rfl, Nat.le_of_ble_eq_true rfl⟩) hS (fun S18 H locs hf hR hS => ?_)
                refine lv_goto (tgt := 27) B.1.1 B.1.2.1 dX10_readGives_112 (by decide) ?_
                exact ih _ _ _ _ _ _ _ k_p0 hf hR hS (hl.drop [true, true, true, false] rfl)
          · refine lv_iconst (v := 0) B.1.1 B.1.2.1 dX10_readGives_73 (by decide) ?_
            exact y_zretK B hR hS hf rfl dX10_readGives_74
        · refine lv_aload_n B.1.1 B.1.2.1 dX10_readGives_54 rfl (hl.at 0 rfl) ?_
          refine y_ci hf (fun q hq => x_runV (ci := 10) (C := RX10) B.1 B.2.2.2 hl hR hS cm_X10_154 ⟨rfl, rfl, Nat.le_of_ble_eq_true rfl, Nat.le_of_ble_eq_true rfl⟩ (by decide) rfl k_p0 (c_X10_fails k_p0 hq) rfl rfl (Nat.le_of_ble_eq_true rfl) dX10_readGives_55 ⟨Nat.le_of_ble_eq_true rfl, Nat.le_of_ble_eq_true rfl⟩) hS (fun r20 S19 H locs hf hR hS => ?_)
          exact y_zret B hR hS hf dX10_readGives_58
def f_X10_readGives_2 (T : xT) : Nat → xS → Nat → Int32 → Int32 → Option (Int32 × xS)
  | 0, _, _, _, _ => none
  | n + 1, S, p0, p1, p2 => if (8 : Int32) ≤ p2 then xl ((1 : Int32)) (fun v1 => f_X10_readGives_27 T xfu S p0 p1 v1) else xgr T S p0 13 20 (fun a2 => xst T S a2 (((p1 + (1 : Int32)) + p2)) ((0 : Int32)) (fun S3 => xl (p2 + (1 : Int32)) (fun v4 => f_X10_readGives_2 T n S3 p0 p1 v4)))
set_option maxRecDepth 100000 in
set_option maxHeartbeats 4000000 in
theorem w_X10_readGives_2 {p : Program} {l : Launch} {e : Env} {s : State} {m : MethodId} {args : Array Value} {below : List Frame} {meth : Method} {c : Code} {z : Nat} {D : va_G} {dA : Nat → ClassId} {T : xT} (B : xB p s m args meth c cX10_readGives RX10 4 (some .boolean) D dA) {q : Int32 × xS} : ∀ (n : Nat), ∀ (S : xS) (H : Heap) (locs : List Loc) (ls : Array Slot) (p0 : Nat) (p1 : Int32) (p2 : Int32), xlk T p0 10 = true → f_X10_readGives_2 T n S p0 p1 p2 = some q → xRel z D dA T S H → va_S (xA z) s.heap H locs → xL ls 4 [some (.ref (z + p0)), some (.int p1), some (.int p2), none] → xGi p l e xr_X10_readGives s m args below meth c z D dA T q H locs 2 ls [] := by
  intro n
  induction n with
  | zero =>
    intro S H locs ls p0 p1 p2 k_p0 hf hR hS hl
    exact absurd hf (by simp [f_X10_readGives_2])
  | succ n ih =>
    intro S H locs ls p0 p1 p2 k_p0 hf hR hS hl
    unfold f_X10_readGives_2 at hf
    refine lv_iload_n B.1.1 B.1.2.1 dX10_readGives_2 rfl (hl.at 2 rfl) ?_
    refine lv_bipush (v := 8) B.1.1 B.1.2.1 dX10_readGives_3 (by decide) ?_
    refine y_icmp_ge (tgt := 25) B hf dX10_readGives_5 (by decide) (fun hf => ?_) (fun hf => ?_)
    · refine lv_iconst (v := 1) B.1.1 B.1.2.1 dX10_readGives_25 (by decide) ?_
      refine y_istore_n B hl hf dX10_readGives_26 rfl (by decide) rfl (fun v1 ls hf hl => ?_)
      have hl : xL ls 4 [_, _, _, _] := hl
      exact w_X10_readGives_27 B xfu _ _ _ _ _ _ _ k_p0 hf hR hS hl
    · refine lv_aload_n B.1.1 B.1.2.1 dX10_readGives_8 rfl (hl.at 0 rfl) ?_
      refine y_getR B hR hf k_p0 fl_X10_28 dX10_readGives_9 (fun a2 k_a2 hf => ?_)
      refine lv_iload_n B.1.1 B.1.2.1 dX10_readGives_12 rfl (hl.at 1 rfl) ?_
      refine lv_iconst (v := 1) B.1.1 B.1.2.1 dX10_readGives_13 (by decide) ?_
      refine lv_iadd B.1.1 B.1.2.1 dX10_readGives_14 ?_
      refine lv_iload_n B.1.1 B.1.2.1 dX10_readGives_15 rfl (hl.at 2 rfl) ?_
      refine lv_iadd B.1.1 B.1.2.1 dX10_readGives_16 ?_
      refine lv_iconst (v := 0) B.1.1 B.1.2.1 dX10_readGives_17 (by decide) ?_
      refine y_iast B hR hS hf k_a2 dX10_readGives_18 (fun S3 H locs hf hR hS => ?_)
      refine y_iinc (d := 1) B hl hf dX10_readGives_19 rfl (by decide) (by decide) rfl (fun v4 ls hf hl => ?_)
      have hl : xL ls 4 [_, _, _, _] := hl
      refine lv_goto (tgt := 2) B.1.1 B.1.2.1 dX10_readGives_22 (by decide) ?_
      exact ih _ _ _ _ _ _ _ k_p0 hf hR hS hl
def f_X10_readGives (T : xT) (S : xS) (p0 : Nat) (p1 : Int32) : Option (Int32 × xS) := xl ((0 : Int32)) (fun v1 => f_X10_readGives_2 T xfu S p0 p1 v1)
set_option maxRecDepth 100000 in
set_option maxHeartbeats 4000000 in
theorem c_X10_readGives {l : Launch} {z : Nat} {D : va_G} {dA : Nat → ClassId} {T : xT} {S : xS} {p0 : Nat} {p1 : Int32} (k_p0 : xlk T p0 10 = true) {q : Int32 × xS} (hf : f_X10_readGives T S p0 p1 = some q) : Met l yX10_readGives (xws yX10_readGives cX10_readGives 4 (some .boolean)) xr_X10_readGives (xPc z D dA T S [.ref (z + p0), .int p1]) (xQi z D dA T q) 0 0 (xA z) := by
  refine x_met RX10 (by decide) rfl (Nat.le_of_ble_eq_true rfl) ?_
  intro p e s m below meth c ls _ X hr hlk hml _ hR hS hl
  have B : xB p s m _ meth c cX10_readGives RX10 4 (some .boolean) D dA := ⟨X, hr, hlk, hml⟩
  have hl : xL ls 4 [_, _, _, _] := hl
  unfold f_X10_readGives at hf
  refine lv_iconst (v := 0) B.1.1 B.1.2.1 dX10_readGives_0 (by decide) ?_
  refine y_istore_n B hl hf dX10_readGives_1 rfl (by decide) rfl (fun v1 ls hf hl => ?_)
  have hl : xL ls 4 [_, _, _, _] := hl
  exact w_X10_readGives_2 B xfu _ _ _ _ _ _ _ k_p0 hf hR hS hl
abbrev xr_X10_toWord : Room := { frames := 2, cells := 0, slots := 0, locals := 34 }
def f_X10_toWord (T : xT) (S : xS) : Option (Int64 × xS) := xc (f_X10_letter T S ((0 : Int64)) ((116 : Int32))) (fun r2 S1 => xc (f_X10_letter T S1 r2 ((111 : Int32))) (fun r4 S3 => some (r4, S3)))
set_option maxRecDepth 100000 in
set_option maxHeartbeats 4000000 in
theorem c_X10_toWord {l : Launch} {z : Nat} {D : va_G} {dA : Nat → ClassId} {T : xT} {S : xS} {q : Int64 × xS} (hf : f_X10_toWord T S = some q) : Met l yX10_toWord (xws yX10_toWord cX10_toWord 0 (some .long)) xr_X10_toWord (xPc z D dA T S []) (xQl z D dA T q) 0 0 (xA z) := by
  refine x_met RX10 (by decide) rfl (Nat.le_of_ble_eq_true rfl) ?_
  intro p e s m below meth c ls _ X hr hlk hml _ hR hS hl
  have B : xB p s m _ meth c cX10_toWord RX10 0 (some .long) D dA := ⟨X, hr, hlk, hml⟩
  have hl : xL ls 0 [] := hl
  unfold f_X10_toWord at hf
  refine lv_lconst (v := 0) B.1.1 B.1.2.1 dX10_toWord_0 (by decide) ?_
  refine lv_bipush (v := 116) B.1.1 B.1.2.1 dX10_toWord_1 (by decide) ?_
  refine y_cl hf (fun q hq => y_runS B.1 B.2.2.2 hl hR hS cm_X10_106 ⟨rfl, rfl, Nat.le_of_ble_eq_true rfl, Nat.le_of_ble_eq_true rfl⟩ (c_X10_letter hq) rfl rfl (Nat.le_of_ble_eq_true rfl) dX10_toWord_3 ⟨Nat.le_of_ble_eq_true rfl, Nat.le_of_ble_eq_true rfl⟩) hS (fun r2 S1 H locs hf hR hS => ?_)
  refine lv_bipush (v := 111) B.1.1 B.1.2.1 dX10_toWord_6 (by decide) ?_
  refine y_cl hf (fun q hq => y_runS B.1 B.2.2.2 hl hR hS cm_X10_106 ⟨rfl, rfl, Nat.le_of_ble_eq_true rfl, Nat.le_of_ble_eq_true rfl⟩ (c_X10_letter hq) rfl rfl (Nat.le_of_ble_eq_true rfl) dX10_toWord_8 ⟨Nat.le_of_ble_eq_true rfl, Nat.le_of_ble_eq_true rfl⟩) hS (fun r4 S3 H locs hf hR hS => ?_)
  exact y_lret B hR hS hf dX10_toWord_11
abbrev xr_X10_readTiers : Room := { frames := 5, cells := 0, slots := 0, locals := 103 }
def f_X10_readTiers_23 (T : xT) : Nat → xS → Nat → Option (Int32 × xS)
  | 0, _, _ => none
  | n + 1, S, p0 => xc (f_X10_w5 T S ((102 : Int32)) ((105 : Int32)) ((114 : Int32)) ((115 : Int32)) ((116 : Int32))) (fun r2 S1 => xc (f_X10_isWord T S1 p0 r2) (fun r4 S3 => if r4 = (0 : Int32) then xc (f_X10_w4 T S3 ((114 : Int32)) ((101 : Int32)) ((115 : Int32)) ((116 : Int32))) (fun r6 S5 => xc (f_X10_takesWord T S5 p0 r6) (fun r8 S7 => if r8 = (0 : Int32) then some ((0 : Int32), S7) else xc (f_X10_toWord T S7) (fun r10 S9 => xc (f_X10_takesWord T S9 p0 r10) (fun r12 S11 => if r12 = (0 : Int32) then some ((0 : Int32), S11) else xgr T S11 p0 13 20 (fun a13 => xst T S11 a13 (((9 : Int32) * (S11.1 p0 14))) ((-1 : Int32)) (fun S14 => xc (f_X10_readGives T S14 p0 (((9 : Int32) * (S14.1 p0 14)))) (fun r16 S15 => if r16 = (0 : Int32) then some ((0 : Int32), S15) else if (S15.1 p0 8) = (0 : Int32) then some ((1 : Int32), S15) else xc (f_X10_fails T S15 p0) (fun r18 S17 => if r18 = (0 : Int32) then some ((0 : Int32), S17) else some ((1 : Int32), S17))))))))) else if (S3.1 p0 14) = (8 : Int32) then xc (f_X10_fails T S3 p0) (fun r32 S31 => xgd (xnz r32) (some (r32, S31))) else xcv (f_X10_nextToken T S3 p0) (fun S19 => xc (f_X10_takesNumber T S19 p0 ((1 : Int32)) ((999999 : Int32))) (fun r21 S20 => if r21 = (0 : Int32) then some ((0 : Int32), S20) else xgr T S20 p0 13 20 (fun a22 => xst T S20 a22 (((9 : Int32) * (S20.1 p0 14))) ((S20.1 p0 12)) (fun S23 => xc (f_X10_toWord T S23) (fun r25 S24 => xc (f_X10_takesWord T S24 p0 r25) (fun r27 S26 => if r27 = (0 : Int32) then some ((0 : Int32), S26) else xc (f_X10_readGives T S26 p0 (((9 : Int32) * (S26.1 p0 14)))) (fun r29 S28 => if r29 = (0 : Int32) then some ((0 : Int32), S28) else xpi S28 p0 14 (((S28.1 p0 14) + (1 : Int32))) (fun S30 => f_X10_readTiers_23 T n S30 p0))))))))))
set_option maxRecDepth 100000 in
set_option maxHeartbeats 4000000 in
theorem w_X10_readTiers_23 {p : Program} {l : Launch} {e : Env} {s : State} {m : MethodId} {args : Array Value} {below : List Frame} {meth : Method} {c : Code} {z : Nat} {D : va_G} {dA : Nat → ClassId} {T : xT} (B : xB p s m args meth c cX10_readTiers RX10 1 (some .boolean) D dA) {q : Int32 × xS} : ∀ (n : Nat), ∀ (S : xS) (H : Heap) (locs : List Loc) (ls : Array Slot) (p0 : Nat), xlk T p0 10 = true → f_X10_readTiers_23 T n S p0 = some q → xRel z D dA T S H → va_S (xA z) s.heap H locs → xL ls 1 [some (.ref (z + p0))] → xGi p l e xr_X10_readTiers s m args below meth c z D dA T q H locs 23 ls [] := by
  intro n
  induction n with
  | zero =>
    intro S H locs ls p0 k_p0 hf hR hS hl
    exact absurd hf (by simp [f_X10_readTiers_23])
  | succ n ih =>
    intro S H locs ls p0 k_p0 hf hR hS hl
    unfold f_X10_readTiers_23 at hf
    refine lv_aload_n B.1.1 B.1.2.1 dX10_readTiers_23 rfl (hl.at 0 rfl) ?_
    refine lv_bipush (v := 102) B.1.1 B.1.2.1 dX10_readTiers_24 (by decide) ?_
    refine lv_bipush (v := 105) B.1.1 B.1.2.1 dX10_readTiers_26 (by decide) ?_
    refine lv_bipush (v := 114) B.1.1 B.1.2.1 dX10_readTiers_28 (by decide) ?_
    refine lv_bipush (v := 115) B.1.1 B.1.2.1 dX10_readTiers_30 (by decide) ?_
    refine lv_bipush (v := 116) B.1.1 B.1.2.1 dX10_readTiers_32 (by decide) ?_
    refine y_cl hf (fun q hq => y_runS B.1 B.2.2.2 hl hR hS cm_X10_118 ⟨rfl, rfl, Nat.le_of_ble_eq_true rfl, Nat.le_of_ble_eq_true rfl⟩ (c_X10_w5 hq) rfl rfl (Nat.le_of_ble_eq_true rfl) dX10_readTiers_34 ⟨Nat.le_of_ble_eq_true rfl, Nat.le_of_ble_eq_true rfl⟩) hS (fun r2 S1 H locs hf hR hS => ?_)
    refine y_ci hf (fun q hq => x_runV (ci := 10) (C := RX10) B.1 B.2.2.2 hl hR hS cm_X10_150 ⟨rfl, rfl, Nat.le_of_ble_eq_true rfl, Nat.le_of_ble_eq_true rfl⟩ (by decide) rfl k_p0 (c_X10_isWord k_p0 hq) rfl rfl (Nat.le_of_ble_eq_true rfl) dX10_readTiers_37 ⟨Nat.le_of_ble_eq_true rfl, Nat.le_of_ble_eq_true rfl⟩) hS (fun r4 S3 H locs hf hR hS => ?_)
    refine y_if_eq (tgt := 128) B hf dX10_readTiers_40 (by decide) (fun hf => ?_) (fun hf => ?_)
    · refine lv_aload_n B.1.1 B.1.2.1 dX10_readTiers_128 rfl (hl.at 0 rfl) ?_
      refine lv_bipush (v := 114) B.1.1 B.1.2.1 dX10_readTiers_129 (by decide) ?_
      refine lv_bipush (v := 101) B.1.1 B.1.2.1 dX10_readTiers_131 (by decide) ?_
      refine lv_bipush (v := 115) B.1.1 B.1.2.1 dX10_readTiers_133 (by decide) ?_
      refine lv_bipush (v := 116) B.1.1 B.1.2.1 dX10_readTiers_135 (by decide) ?_
      refine y_cl hf (fun q hq => y_runS B.1 B.2.2.2 hl hR hS cm_X10_114 ⟨rfl, rfl, Nat.le_of_ble_eq_true rfl, Nat.le_of_ble_eq_true rfl⟩ (c_X10_w4 hq) rfl rfl (Nat.le_of_ble_eq_true rfl) dX10_readTiers_137 ⟨Nat.le_of_ble_eq_true rfl, Nat.le_of_ble_eq_true rfl⟩) hS (fun r6 S5 H locs hf hR hS => ?_)
      refine y_ci hf (fun q hq => x_runV (ci := 10) (C := RX10) B.1 B.2.2.2 hl hR hS cm_X10_184 ⟨rfl, rfl, Nat.le_of_ble_eq_true rfl, Nat.le_of_ble_eq_true rfl⟩ (by decide) rfl k_p0 (c_X10_takesWord k_p0 hq) rfl rfl (Nat.le_of_ble_eq_true rfl) dX10_readTiers_140 ⟨Nat.le_of_ble_eq_true rfl, Nat.le_of_ble_eq_true rfl⟩) hS (fun r8 S7 H locs hf hR hS => ?_)
      refine y_if_eq (tgt := 156) B hf dX10_readTiers_143 (by decide) (fun hf => ?_) (fun hf => ?_)
      · refine lv_iconst (v := 0) B.1.1 B.1.2.1 dX10_readTiers_156 (by decide) ?_
        exact y_zretK B hR hS hf rfl dX10_readTiers_157
      · refine lv_aload_n B.1.1 B.1.2.1 dX10_readTiers_146 rfl (hl.at 0 rfl) ?_
        refine y_cl hf (fun q hq => y_runS B.1 B.2.2.2 hl hR hS cm_X10_180 ⟨rfl, rfl, Nat.le_of_ble_eq_true rfl, Nat.le_of_ble_eq_true rfl⟩ (c_X10_toWord hq) rfl rfl (Nat.le_of_ble_eq_true rfl) dX10_readTiers_147 ⟨Nat.le_of_ble_eq_true rfl, Nat.le_of_ble_eq_true rfl⟩) hS (fun r10 S9 H locs hf hR hS => ?_)
        refine y_ci hf (fun q hq => x_runV (ci := 10) (C := RX10) B.1 B.2.2.2 hl hR hS cm_X10_184 ⟨rfl, rfl, Nat.le_of_ble_eq_true rfl, Nat.le_of_ble_eq_true rfl⟩ (by decide) rfl k_p0 (c_X10_takesWord k_p0 hq) rfl rfl (Nat.le_of_ble_eq_true rfl) dX10_readTiers_150 ⟨Nat.le_of_ble_eq_true rfl, Nat.le_of_ble_eq_true rfl⟩) hS (fun r12 S11 H locs hf hR hS => ?_)
        refine y_if_ne (tgt := 158) B hf dX10_readTiers_153 (by decide) (fun hf => ?_) (fun hf => ?_)
        · refine lv_aload_n B.1.1 B.1.2.1 dX10_readTiers_158 rfl (hl.at 0 rfl) ?_
          refine y_getR B hR hf k_p0 fl_X10_28 dX10_readTiers_159 (fun a13 k_a13 hf => ?_)
          refine lv_bipush (v := 9) B.1.1 B.1.2.1 dX10_readTiers_162 (by decide) ?_
          refine lv_aload_n B.1.1 B.1.2.1 dX10_readTiers_164 rfl (hl.at 0 rfl) ?_
          refine y_getI B hR k_p0 fl_X10_176 dX10_readTiers_165 ?_
          refine lv_imul B.1.1 B.1.2.1 dX10_readTiers_168 ?_
          refine lv_iconst (v := -1) B.1.1 B.1.2.1 dX10_readTiers_169 (by decide) ?_
          refine y_iast B hR hS hf k_a13 dX10_readTiers_170 (fun S14 H locs hf hR hS => ?_)
          refine lv_aload_n B.1.1 B.1.2.1 dX10_readTiers_171 rfl (hl.at 0 rfl) ?_
          refine lv_bipush (v := 9) B.1.1 B.1.2.1 dX10_readTiers_172 (by decide) ?_
          refine lv_aload_n B.1.1 B.1.2.1 dX10_readTiers_174 rfl (hl.at 0 rfl) ?_
          refine y_getI B hR k_p0 fl_X10_176 dX10_readTiers_175 ?_
          refine lv_imul B.1.1 B.1.2.1 dX10_readTiers_178 ?_
          refine y_ci hf (fun q hq => x_runV (ci := 10) (C := RX10) B.1 B.2.2.2 hl hR hS cm_X10_187 ⟨rfl, rfl, Nat.le_of_ble_eq_true rfl, Nat.le_of_ble_eq_true rfl⟩ (by decide) rfl k_p0 (c_X10_readGives k_p0 hq) rfl rfl (Nat.le_of_ble_eq_true rfl) dX10_readTiers_179 ⟨Nat.le_of_ble_eq_true rfl, Nat.le_of_ble_eq_true rfl⟩) hS (fun r16 S15 H locs hf hR hS => ?_)
          refine y_if_eq (tgt := 203) B hf dX10_readTiers_182 (by decide) (fun hf => ?_) (fun hf => ?_)
          · refine lv_iconst (v := 0) B.1.1 B.1.2.1 dX10_readTiers_203 (by decide) ?_
            exact y_zretK B hR hS hf rfl dX10_readTiers_204
          · refine lv_aload_n B.1.1 B.1.2.1 dX10_readTiers_185 rfl (hl.at 0 rfl) ?_
            refine y_getI B hR k_p0 fl_X10_129 dX10_readTiers_186 ?_
            refine y_if_eq (tgt := 199) B hf dX10_readTiers_189 (by decide) (fun hf => ?_) (fun hf => ?_)
            · refine lv_iconst (v := 1) B.1.1 B.1.2.1 dX10_readTiers_199 (by decide) ?_
              refine lv_goto (tgt := 204) B.1.1 B.1.2.1 dX10_readTiers_200 (by decide) ?_
              exact y_zretK B hR hS hf rfl dX10_readTiers_204
            · refine lv_aload_n B.1.1 B.1.2.1 dX10_readTiers_192 rfl (hl.at 0 rfl) ?_
              refine y_ci hf (fun q hq => x_runV (ci := 10) (C := RX10) B.1 B.2.2.2 hl hR hS cm_X10_154 ⟨rfl, rfl, Nat.le_of_ble_eq_true rfl, Nat.le_of_ble_eq_true rfl⟩ (by decide) rfl k_p0 (c_X10_fails k_p0 hq) rfl rfl (Nat.le_of_ble_eq_true rfl) dX10_readTiers_193 ⟨Nat.le_of_ble_eq_true rfl, Nat.le_of_ble_eq_true rfl⟩) hS (fun r18 S17 H locs hf hR hS => ?_)
              refine y_if_eq (tgt := 203) B hf dX10_readTiers_196 (by decide) (fun hf => ?_) (fun hf => ?_)
              · refine lv_iconst (v := 0) B.1.1 B.1.2.1 dX10_readTiers_203 (by decide) ?_
                exact y_zretK B hR hS hf rfl dX10_readTiers_204
              · refine lv_iconst (v := 1) B.1.1 B.1.2.1 dX10_readTiers_199 (by decide) ?_
                refine lv_goto (tgt := 204) B.1.1 B.1.2.1 dX10_readTiers_200 (by decide) ?_
                exact y_zretK B hR hS hf rfl dX10_readTiers_204
        · refine lv_iconst (v := 0) B.1.1 B.1.2.1 dX10_readTiers_156 (by decide) ?_
          exact y_zretK B hR hS hf rfl dX10_readTiers_157
    · refine lv_aload_n B.1.1 B.1.2.1 dX10_readTiers_43 rfl (hl.at 0 rfl) ?_
      refine y_getI B hR k_p0 fl_X10_176 dX10_readTiers_44 ?_
      refine lv_bipush (v := 8) B.1.1 B.1.2.1 dX10_readTiers_47 (by decide) ?_
      refine y_icmp_ne (tgt := 57) B hf dX10_readTiers_49 (by decide) (fun hf => ?_) (fun hf => ?_)
      · refine lv_aload_n B.1.1 B.1.2.1 dX10_readTiers_57 rfl (hl.at 0 rfl) ?_
        refine y_cv hf (fun q hq => x_runV (ci := 10) (C := RX10) B.1 B.2.2.2 hl hR hS cm_X10_147 ⟨rfl, rfl, Nat.le_of_ble_eq_true rfl, Nat.le_of_ble_eq_true rfl⟩ (by decide) rfl k_p0 (c_X10_nextToken k_p0 hq) rfl rfl (Nat.le_of_ble_eq_true rfl) dX10_readTiers_58 ⟨Nat.le_of_ble_eq_true rfl, Nat.le_of_ble_eq_true rfl⟩) hS (fun S19 H locs hf hR hS => ?_)
        refine lv_aload_n B.1.1 B.1.2.1 dX10_readTiers_61 rfl (hl.at 0 rfl) ?_
        refine lv_iconst (v := 1) B.1.1 B.1.2.1 dX10_readTiers_62 (by decide) ?_
        refine lv_ldc (v := 999999) B.1.1 B.1.2.1 B.1.2.2.1 (B.1.2.2.2.1 _ tw_1258) dX10_readTiers_63 ?_
        refine y_ci hf (fun q hq => x_runV (ci := 10) (C := RX10) B.1 B.2.2.2 hl hR hS cm_X10_166 ⟨rfl, rfl, Nat.le_of_ble_eq_true rfl, Nat.le_of_ble_eq_true rfl⟩ (by decide) rfl k_p0 (c_X10_takesNumber k_p0 hq) rfl rfl (Nat.le_of_ble_eq_true rfl) dX10_readTiers_65 ⟨Nat.le_of_ble_eq_true rfl, Nat.le_of_ble_eq_true rfl⟩) hS (fun r21 S20 H locs hf hR hS => ?_)
        refine y_if_ne (tgt := 73) B hf dX10_readTiers_68 (by decide) (fun hf => ?_) (fun hf => ?_)
        · refine lv_aload_n B.1.1 B.1.2.1 dX10_readTiers_73 rfl (hl.at 0 rfl) ?_
          refine y_getR B hR hf k_p0 fl_X10_28 dX10_readTiers_74 (fun a22 k_a22 hf => ?_)
          refine lv_bipush (v := 9) B.1.1 B.1.2.1 dX10_readTiers_77 (by decide) ?_
          refine lv_aload_n B.1.1 B.1.2.1 dX10_readTiers_79 rfl (hl.at 0 rfl) ?_
          refine y_getI B hR k_p0 fl_X10_176 dX10_readTiers_80 ?_
          refine lv_imul B.1.1 B.1.2.1 dX10_readTiers_83 ?_
          refine lv_aload_n B.1.1 B.1.2.1 dX10_readTiers_84 rfl (hl.at 0 rfl) ?_
          refine y_getI B hR k_p0 fl_X10_158 dX10_readTiers_85 ?_
          refine y_iast B hR hS hf k_a22 dX10_readTiers_88 (fun S23 H locs hf hR hS => ?_)
          refine lv_aload_n B.1.1 B.1.2.1 dX10_readTiers_89 rfl (hl.at 0 rfl) ?_
          refine y_cl hf (fun q hq => y_runS B.1 B.2.2.2 hl hR hS cm_X10_180 ⟨rfl, rfl, Nat.le_of_ble_eq_true rfl, Nat.le_of_ble_eq_true rfl⟩ (c_X10_toWord hq) rfl rfl (Nat.le_of_ble_eq_true rfl) dX10_readTiers_90 ⟨Nat.le_of_ble_eq_true rfl, Nat.le_of_ble_eq_true rfl⟩) hS (fun r25 S24 H locs hf hR hS => ?_)
          refine y_ci hf (fun q hq => x_runV (ci := 10) (C := RX10) B.1 B.2.2.2 hl hR hS cm_X10_184 ⟨rfl, rfl, Nat.le_of_ble_eq_true rfl, Nat.le_of_ble_eq_true rfl⟩ (by decide) rfl k_p0 (c_X10_takesWord k_p0 hq) rfl rfl (Nat.le_of_ble_eq_true rfl) dX10_readTiers_93 ⟨Nat.le_of_ble_eq_true rfl, Nat.le_of_ble_eq_true rfl⟩) hS (fun r27 S26 H locs hf hR hS => ?_)
          refine y_if_eq (tgt := 113) B hf dX10_readTiers_96 (by decide) (fun hf => ?_) (fun hf => ?_)
          · refine lv_iconst (v := 0) B.1.1 B.1.2.1 dX10_readTiers_113 (by decide) ?_
            exact y_zretK B hR hS hf rfl dX10_readTiers_114
          · refine lv_aload_n B.1.1 B.1.2.1 dX10_readTiers_99 rfl (hl.at 0 rfl) ?_
            refine lv_bipush (v := 9) B.1.1 B.1.2.1 dX10_readTiers_100 (by decide) ?_
            refine lv_aload_n B.1.1 B.1.2.1 dX10_readTiers_102 rfl (hl.at 0 rfl) ?_
            refine y_getI B hR k_p0 fl_X10_176 dX10_readTiers_103 ?_
            refine lv_imul B.1.1 B.1.2.1 dX10_readTiers_106 ?_
            refine y_ci hf (fun q hq => x_runV (ci := 10) (C := RX10) B.1 B.2.2.2 hl hR hS cm_X10_187 ⟨rfl, rfl, Nat.le_of_ble_eq_true rfl, Nat.le_of_ble_eq_true rfl⟩ (by decide) rfl k_p0 (c_X10_readGives k_p0 hq) rfl rfl (Nat.le_of_ble_eq_true rfl) dX10_readTiers_107 ⟨Nat.le_of_ble_eq_true rfl, Nat.le_of_ble_eq_true rfl⟩) hS (fun r29 S28 H locs hf hR hS => ?_)
            refine y_if_ne (tgt := 115) B hf dX10_readTiers_110 (by decide) (fun hf => ?_) (fun hf => ?_)
            · refine lv_aload_n B.1.1 B.1.2.1 dX10_readTiers_115 rfl (hl.at 0 rfl) ?_
              refine lv_dup B.1.1 B.1.2.1 dX10_readTiers_116 rfl ?_
              refine y_getI B hR k_p0 fl_X10_176 dX10_readTiers_117 ?_
              refine lv_iconst (v := 1) B.1.1 B.1.2.1 dX10_readTiers_120 (by decide) ?_
              refine lv_iadd B.1.1 B.1.2.1 dX10_readTiers_121 ?_
              refine y_putI B hR hS hf k_p0 fp_X10_176 dX10_readTiers_122 (fun S30 H locs hf hR hS => ?_)
              refine lv_goto (tgt := 23) B.1.1 B.1.2.1 dX10_readTiers_125 (by decide) ?_
              exact ih _ _ _ _ _ k_p0 hf hR hS hl
            · refine lv_iconst (v := 0) B.1.1 B.1.2.1 dX10_readTiers_113 (by decide) ?_
              exact y_zretK B hR hS hf rfl dX10_readTiers_114
        · refine lv_iconst (v := 0) B.1.1 B.1.2.1 dX10_readTiers_71 (by decide) ?_
          exact y_zretK B hR hS hf rfl dX10_readTiers_72
      · refine lv_aload_n B.1.1 B.1.2.1 dX10_readTiers_52 rfl (hl.at 0 rfl) ?_
        refine y_ci hf (fun q hq => x_runV (ci := 10) (C := RX10) B.1 B.2.2.2 hl hR hS cm_X10_154 ⟨rfl, rfl, Nat.le_of_ble_eq_true rfl, Nat.le_of_ble_eq_true rfl⟩ (by decide) rfl k_p0 (c_X10_fails k_p0 hq) rfl rfl (Nat.le_of_ble_eq_true rfl) dX10_readTiers_53 ⟨Nat.le_of_ble_eq_true rfl, Nat.le_of_ble_eq_true rfl⟩) hS (fun r32 S31 H locs hf hR hS => ?_)
        exact y_zret B hR hS hf dX10_readTiers_56
def f_X10_readTiers (T : xT) (S : xS) (p0 : Nat) : Option (Int32 × xS) := xcv (f_X10_beginText T S p0) (fun S1 => xpi S1 p0 14 ((-1 : Int32)) (fun S2 => if (S2.1 p0 8) = (0 : Int32) then some ((1 : Int32), S2) else xpi S2 p0 14 ((0 : Int32)) (fun S3 => f_X10_readTiers_23 T xfu S3 p0)))
set_option maxRecDepth 100000 in
set_option maxHeartbeats 4000000 in
theorem c_X10_readTiers {l : Launch} {z : Nat} {D : va_G} {dA : Nat → ClassId} {T : xT} {S : xS} {p0 : Nat} (k_p0 : xlk T p0 10 = true) {q : Int32 × xS} (hf : f_X10_readTiers T S p0 = some q) : Met l yX10_readTiers (xws yX10_readTiers cX10_readTiers 1 (some .boolean)) xr_X10_readTiers (xPc z D dA T S [.ref (z + p0)]) (xQi z D dA T q) 0 0 (xA z) := by
  refine x_met RX10 (by decide) rfl (Nat.le_of_ble_eq_true rfl) ?_
  intro p e s m below meth c ls _ X hr hlk hml _ hR hS hl
  have B : xB p s m _ meth c cX10_readTiers RX10 1 (some .boolean) D dA := ⟨X, hr, hlk, hml⟩
  have hl : xL ls 1 [_] := hl
  unfold f_X10_readTiers at hf
  refine lv_aload_n B.1.1 B.1.2.1 dX10_readTiers_0 rfl (hl.at 0 rfl) ?_
  refine y_cv hf (fun q hq => x_runV (ci := 10) (C := RX10) B.1 B.2.2.2 hl hR hS cm_X10_173 ⟨rfl, rfl, Nat.le_of_ble_eq_true rfl, Nat.le_of_ble_eq_true rfl⟩ (by decide) rfl k_p0 (c_X10_beginText k_p0 hq) rfl rfl (Nat.le_of_ble_eq_true rfl) dX10_readTiers_1 ⟨Nat.le_of_ble_eq_true rfl, Nat.le_of_ble_eq_true rfl⟩) hS (fun S1 H locs hf hR hS => ?_)
  refine lv_aload_n B.1.1 B.1.2.1 dX10_readTiers_4 rfl (hl.at 0 rfl) ?_
  refine lv_iconst (v := -1) B.1.1 B.1.2.1 dX10_readTiers_5 (by decide) ?_
  refine y_putI B hR hS hf k_p0 fp_X10_176 dX10_readTiers_6 (fun S2 H locs hf hR hS => ?_)
  refine lv_aload_n B.1.1 B.1.2.1 dX10_readTiers_9 rfl (hl.at 0 rfl) ?_
  refine y_getI B hR k_p0 fl_X10_129 dX10_readTiers_10 ?_
  refine y_if_ne (tgt := 18) B hf dX10_readTiers_13 (by decide) (fun hf => ?_) (fun hf => ?_)
  · refine lv_aload_n B.1.1 B.1.2.1 dX10_readTiers_18 rfl (hl.at 0 rfl) ?_
    refine lv_iconst (v := 0) B.1.1 B.1.2.1 dX10_readTiers_19 (by decide) ?_
    refine y_putI B hR hS hf k_p0 fp_X10_176 dX10_readTiers_20 (fun S3 H locs hf hR hS => ?_)
    exact w_X10_readTiers_23 B xfu _ _ _ _ _ k_p0 hf hR hS hl
  · refine lv_iconst (v := 1) B.1.1 B.1.2.1 dX10_readTiers_16 (by decide) ?_
    exact y_zretK B hR hS hf rfl dX10_readTiers_17
abbrev xr_X10_tiers : Room := { frames := 6, cells := 0, slots := 0, locals := 123 }
def f_X10_tiers_46 (T : xT) : Nat → xS → Nat → Int32 → Option (Int32 × xS)
  | 0, _, _, _ => none
  | n + 1, S, p0, p2 => if ((9 : Int32) * ((S.1 p0 14) + (1 : Int32))) ≤ p2 then some (((S.1 p0 14) + (1 : Int32)), S) else xgr T S p0 13 20 (fun a1 => xai T S a1 p2 (fun v2 => xcv (f_X10_put T S p0 (((78 : Int32) + p2)) v2) (fun S3 => xl (p2 + (1 : Int32)) (fun v4 => f_X10_tiers_46 T n S3 p0 v4))))
set_option maxRecDepth 100000 in
set_option maxHeartbeats 4000000 in
theorem w_X10_tiers_46 {p : Program} {l : Launch} {e : Env} {s : State} {m : MethodId} {args : Array Value} {below : List Frame} {meth : Method} {c : Code} {z : Nat} {D : va_G} {dA : Nat → ClassId} {T : xT} (B : xB p s m args meth c cX10_tiers RX10 3 (some .int) D dA) {q : Int32 × xS} : ∀ (n : Nat), ∀ (S : xS) (H : Heap) (locs : List Loc) (ls : Array Slot) (p0 : Nat) (p2 : Int32), xlk T p0 10 = true → f_X10_tiers_46 T n S p0 p2 = some q → xRel z D dA T S H → va_S (xA z) s.heap H locs → xL ls 3 [some (.ref (z + p0)), none, some (.int p2)] → xGi p l e xr_X10_tiers s m args below meth c z D dA T q H locs 46 ls [] := by
  intro n
  induction n with
  | zero =>
    intro S H locs ls p0 p2 k_p0 hf hR hS hl
    exact absurd hf (by simp [f_X10_tiers_46])
  | succ n ih =>
    intro S H locs ls p0 p2 k_p0 hf hR hS hl
    unfold f_X10_tiers_46 at hf
    refine lv_iload_n B.1.1 B.1.2.1 dX10_tiers_46 rfl (hl.at 2 rfl) ?_
    refine lv_bipush (v := 9) B.1.1 B.1.2.1 dX10_tiers_47 (by decide) ?_
    refine lv_aload_n B.1.1 B.1.2.1 dX10_tiers_49 rfl (hl.at 0 rfl) ?_
    refine y_getI B hR k_p0 fl_X10_176 dX10_tiers_50 ?_
    refine lv_iconst (v := 1) B.1.1 B.1.2.1 dX10_tiers_53 (by decide) ?_
    refine lv_iadd B.1.1 B.1.2.1 dX10_tiers_54 ?_
    refine lv_imul B.1.1 B.1.2.1 dX10_tiers_55 ?_
    refine y_icmp_ge (tgt := 79) B hf dX10_tiers_56 (by decide) (fun hf => ?_) (fun hf => ?_)
    · refine lv_aload_n B.1.1 B.1.2.1 dX10_tiers_79 rfl (hl.at 0 rfl) ?_
      refine y_getI B hR k_p0 fl_X10_176 dX10_tiers_80 ?_
      refine lv_iconst (v := 1) B.1.1 B.1.2.1 dX10_tiers_83 (by decide) ?_
      refine lv_iadd B.1.1 B.1.2.1 dX10_tiers_84 ?_
      exact y_iret B hR hS hf dX10_tiers_85
    · refine lv_aload_n B.1.1 B.1.2.1 dX10_tiers_59 rfl (hl.at 0 rfl) ?_
      refine lv_bipush (v := 78) B.1.1 B.1.2.1 dX10_tiers_60 (by decide) ?_
      refine lv_iload_n B.1.1 B.1.2.1 dX10_tiers_62 rfl (hl.at 2 rfl) ?_
      refine lv_iadd B.1.1 B.1.2.1 dX10_tiers_63 ?_
      refine lv_aload_n B.1.1 B.1.2.1 dX10_tiers_64 rfl (hl.at 0 rfl) ?_
      refine y_getR B hR hf k_p0 fl_X10_28 dX10_tiers_65 (fun a1 k_a1 hf => ?_)
      refine lv_iload_n B.1.1 B.1.2.1 dX10_tiers_68 rfl (hl.at 2 rfl) ?_
      refine y_iald B hR hf k_a1 dX10_tiers_69 (fun v2 hf => ?_)
      refine y_cv hf (fun q hq => x_runV (ci := 10) (C := RX10) B.1 B.2.2.2 hl hR hS cm_X10_71 ⟨rfl, rfl, Nat.le_of_ble_eq_true rfl, Nat.le_of_ble_eq_true rfl⟩ (by decide) rfl k_p0 (c_X10_put k_p0 hq) rfl rfl (Nat.le_of_ble_eq_true rfl) dX10_tiers_70 ⟨Nat.le_of_ble_eq_true rfl, Nat.le_of_ble_eq_true rfl⟩) hS (fun S3 H locs hf hR hS => ?_)
      refine y_iinc (d := 1) B hl hf dX10_tiers_73 rfl (by decide) (by decide) rfl (fun v4 ls hf hl => ?_)
      have hl : xL ls 3 [_, _, _] := hl
      refine lv_goto (tgt := 46) B.1.1 B.1.2.1 dX10_tiers_76 (by decide) ?_
      exact ih _ _ _ _ _ _ k_p0 hf hR hS hl
def f_X10_tiers (T : xT) (S : xS) (p0 : Nat) : Option (Int32 × xS) := xc (f_X10_readTiers T S p0) (fun r2 S1 => xl r2 (fun v3 => xpi S1 p0 5 ((0 : Int32)) (fun S4 => if v3 = (0 : Int32) then some ((-1 : Int32), S4) else xcv (f_X10_deed T S4 p0) (fun S5 => if (S5.1 p0 14) = (-1 : Int32) then xcv (f_X10_layPlainTiers T S5 p0) (fun S8 => some ((0 : Int32), S8)) else xcv (f_X10_put T S5 p0 ((77 : Int32)) ((S5.1 p0 14))) (fun S6 => xl ((0 : Int32)) (fun v7 => f_X10_tiers_46 T xfu S6 p0 v7))))))
set_option maxRecDepth 100000 in
set_option maxHeartbeats 4000000 in
theorem c_X10_tiers {l : Launch} {z : Nat} {D : va_G} {dA : Nat → ClassId} {T : xT} {S : xS} {p0 : Nat} (k_p0 : xlk T p0 10 = true) {q : Int32 × xS} (hf : f_X10_tiers T S p0 = some q) : Met l yX10_tiers (xws yX10_tiers cX10_tiers 3 (some .int)) xr_X10_tiers (xPc z D dA T S [.ref (z + p0)]) (xQi z D dA T q) 0 0 (xA z) := by
  refine x_met RX10 (by decide) rfl (Nat.le_of_ble_eq_true rfl) ?_
  intro p e s m below meth c ls _ X hr hlk hml _ hR hS hl
  have B : xB p s m _ meth c cX10_tiers RX10 3 (some .int) D dA := ⟨X, hr, hlk, hml⟩
  have hl : xL ls 3 [_, _, _] := hl
  unfold f_X10_tiers at hf
  refine lv_aload_n B.1.1 B.1.2.1 dX10_tiers_0 rfl (hl.at 0 rfl) ?_
  refine y_ci hf (fun q hq => x_runV (ci := 10) (C := RX10) B.1 B.2.2.2 hl hR hS cm_X10_190 ⟨rfl, rfl, Nat.le_of_ble_eq_true rfl, Nat.le_of_ble_eq_true rfl⟩ (by decide) rfl k_p0 (c_X10_readTiers k_p0 hq) rfl rfl (Nat.le_of_ble_eq_true rfl) dX10_tiers_1 ⟨Nat.le_of_ble_eq_true rfl, Nat.le_of_ble_eq_true rfl⟩) hS (fun r2 S1 H locs hf hR hS => ?_)
  refine y_istore_n B hl hf dX10_tiers_4 rfl (by decide) rfl (fun v3 ls hf hl => ?_)
  have hl : xL ls 3 [_, _, _] := hl
  refine lv_aload_n B.1.1 B.1.2.1 dX10_tiers_5 rfl (hl.at 0 rfl) ?_
  refine lv_iconst (v := 0) B.1.1 B.1.2.1 dX10_tiers_6 (by decide) ?_
  refine y_putI B hR hS hf k_p0 fp_X10_88 dX10_tiers_7 (fun S4 H locs hf hR hS => ?_)
  refine lv_iload_n B.1.1 B.1.2.1 dX10_tiers_10 rfl (hl.at 1 rfl) ?_
  refine y_if_ne (tgt := 16) B hf dX10_tiers_11 (by decide) (fun hf => ?_) (fun hf => ?_)
  · refine lv_aload_n B.1.1 B.1.2.1 dX10_tiers_16 rfl (hl.at 0 rfl) ?_
    refine y_cv hf (fun q hq => x_runV (ci := 10) (C := RX10) B.1 B.2.2.2 hl hR hS cm_X10_85 ⟨rfl, rfl, Nat.le_of_ble_eq_true rfl, Nat.le_of_ble_eq_true rfl⟩ (by decide) rfl k_p0 (c_X10_deed k_p0 hq) rfl rfl (Nat.le_of_ble_eq_true rfl) dX10_tiers_17 ⟨Nat.le_of_ble_eq_true rfl, Nat.le_of_ble_eq_true rfl⟩) hS (fun S5 H locs hf hR hS => ?_)
    refine lv_aload_n B.1.1 B.1.2.1 dX10_tiers_20 rfl (hl.at 0 rfl) ?_
    refine y_getI B hR k_p0 fl_X10_176 dX10_tiers_21 ?_
    refine lv_iconst (v := -1) B.1.1 B.1.2.1 dX10_tiers_24 (by decide) ?_
    refine y_icmp_ne (tgt := 34) B hf dX10_tiers_25 (by decide) (fun hf => ?_) (fun hf => ?_)
    · refine lv_aload_n B.1.1 B.1.2.1 dX10_tiers_34 rfl (hl.at 0 rfl) ?_
      refine lv_bipush (v := 77) B.1.1 B.1.2.1 dX10_tiers_35 (by decide) ?_
      refine lv_aload_n B.1.1 B.1.2.1 dX10_tiers_37 rfl (hl.at 0 rfl) ?_
      refine y_getI B hR k_p0 fl_X10_176 dX10_tiers_38 ?_
      refine y_cv hf (fun q hq => x_runV (ci := 10) (C := RX10) B.1 B.2.2.2 hl hR hS cm_X10_71 ⟨rfl, rfl, Nat.le_of_ble_eq_true rfl, Nat.le_of_ble_eq_true rfl⟩ (by decide) rfl k_p0 (c_X10_put k_p0 hq) rfl rfl (Nat.le_of_ble_eq_true rfl) dX10_tiers_41 ⟨Nat.le_of_ble_eq_true rfl, Nat.le_of_ble_eq_true rfl⟩) hS (fun S6 H locs hf hR hS => ?_)
      refine lv_iconst (v := 0) B.1.1 B.1.2.1 dX10_tiers_44 (by decide) ?_
      refine y_istore_n B hl hf dX10_tiers_45 rfl (by decide) rfl (fun v7 ls hf hl => ?_)
      have hl : xL ls 3 [_, _, _] := hl
      exact w_X10_tiers_46 B xfu _ _ _ _ _ _ k_p0 hf hR hS (hl.drop [true, false, true] rfl)
    · refine lv_aload_n B.1.1 B.1.2.1 dX10_tiers_28 rfl (hl.at 0 rfl) ?_
      refine y_cv hf (fun q hq => x_runV (ci := 10) (C := RX10) B.1 B.2.2.2 hl hR hS cm_X10_68 ⟨rfl, rfl, Nat.le_of_ble_eq_true rfl, Nat.le_of_ble_eq_true rfl⟩ (by decide) rfl k_p0 (c_X10_layPlainTiers k_p0 hq) rfl rfl (Nat.le_of_ble_eq_true rfl) dX10_tiers_29 ⟨Nat.le_of_ble_eq_true rfl, Nat.le_of_ble_eq_true rfl⟩) hS (fun S8 H locs hf hR hS => ?_)
      refine lv_iconst (v := 0) B.1.1 B.1.2.1 dX10_tiers_32 (by decide) ?_
      exact y_iret B hR hS hf dX10_tiers_33
  · refine lv_iconst (v := -1) B.1.1 B.1.2.1 dX10_tiers_14 (by decide) ?_
    exact y_iret B hR hS hf dX10_tiers_15
abbrev xr_X10_tier : Room := { frames := 2, cells := 0, slots := 0, locals := 34 }
def f_X10_tier (T : xT) (S : xS) (p0 : Nat) (p1 : Int32) (p2 : Int32) : Option (Int32 × xS) := xc (f_X10_get T S p0 ((77 : Int32))) (fun r2 S1 => xc (f_X10_isIn T S1 p1 ((0 : Int32)) r2) (fun r4 S3 => if r4 = (0 : Int32) then some ((-2 : Int32), S3) else xc (f_X10_isIn T S3 p2 ((0 : Int32)) ((8 : Int32))) (fun r6 S5 => if r6 = (0 : Int32) then some ((-2 : Int32), S5) else xc (f_X10_get T S5 p0 ((((78 : Int32) + ((9 : Int32) * p1)) + p2))) (fun r8 S7 => some (r8, S7)))))
set_option maxRecDepth 100000 in
set_option maxHeartbeats 4000000 in
theorem c_X10_tier {l : Launch} {z : Nat} {D : va_G} {dA : Nat → ClassId} {T : xT} {S : xS} {p0 : Nat} {p1 : Int32} {p2 : Int32} (k_p0 : xlk T p0 10 = true) {q : Int32 × xS} (hf : f_X10_tier T S p0 p1 p2 = some q) : Met l yX10_tier (xws yX10_tier cX10_tier 3 (some .int)) xr_X10_tier (xPc z D dA T S [.ref (z + p0), .int p1, .int p2]) (xQi z D dA T q) 0 0 (xA z) := by
  refine x_met RX10 (by decide) rfl (Nat.le_of_ble_eq_true rfl) ?_
  intro p e s m below meth c ls _ X hr hlk hml _ hR hS hl
  have B : xB p s m _ meth c cX10_tier RX10 3 (some .int) D dA := ⟨X, hr, hlk, hml⟩
  have hl : xL ls 3 [_, _, _] := hl
  unfold f_X10_tier at hf
  refine lv_iload_n B.1.1 B.1.2.1 dX10_tier_0 rfl (hl.at 1 rfl) ?_
  refine lv_iconst (v := 0) B.1.1 B.1.2.1 dX10_tier_1 (by decide) ?_
  refine lv_aload_n B.1.1 B.1.2.1 dX10_tier_2 rfl (hl.at 0 rfl) ?_
  refine lv_bipush (v := 77) B.1.1 B.1.2.1 dX10_tier_3 (by decide) ?_
  refine y_ci hf (fun q hq => x_runV (ci := 10) (C := RX10) B.1 B.2.2.2 hl hR hS cm_X10_193 ⟨rfl, rfl, Nat.le_of_ble_eq_true rfl, Nat.le_of_ble_eq_true rfl⟩ (by decide) rfl k_p0 (c_X10_get k_p0 hq) rfl rfl (Nat.le_of_ble_eq_true rfl) dX10_tier_5 ⟨Nat.le_of_ble_eq_true rfl, Nat.le_of_ble_eq_true rfl⟩) hS (fun r2 S1 H locs hf hR hS => ?_)
  refine y_ci hf (fun q hq => y_runS B.1 B.2.2.2 hl hR hS cm_X10_81 ⟨rfl, rfl, Nat.le_of_ble_eq_true rfl, Nat.le_of_ble_eq_true rfl⟩ (c_X10_isIn hq) rfl rfl (Nat.le_of_ble_eq_true rfl) dX10_tier_8 ⟨Nat.le_of_ble_eq_true rfl, Nat.le_of_ble_eq_true rfl⟩) hS (fun r4 S3 H locs hf hR hS => ?_)
  refine y_if_eq (tgt := 40) B hf dX10_tier_11 (by decide) (fun hf => ?_) (fun hf => ?_)
  · refine lv_bipush (v := -2) B.1.1 B.1.2.1 dX10_tier_40 (by decide) ?_
    exact y_iret B hR hS hf dX10_tier_42
  · refine lv_iload_n B.1.1 B.1.2.1 dX10_tier_14 rfl (hl.at 2 rfl) ?_
    refine lv_iconst (v := 0) B.1.1 B.1.2.1 dX10_tier_15 (by decide) ?_
    refine lv_bipush (v := 8) B.1.1 B.1.2.1 dX10_tier_16 (by decide) ?_
    refine y_ci hf (fun q hq => y_runS B.1 B.2.2.2 hl hR hS cm_X10_81 ⟨rfl, rfl, Nat.le_of_ble_eq_true rfl, Nat.le_of_ble_eq_true rfl⟩ (c_X10_isIn hq) rfl rfl (Nat.le_of_ble_eq_true rfl) dX10_tier_18 ⟨Nat.le_of_ble_eq_true rfl, Nat.le_of_ble_eq_true rfl⟩) hS (fun r6 S5 H locs hf hR hS => ?_)
    refine y_if_eq (tgt := 40) B hf dX10_tier_21 (by decide) (fun hf => ?_) (fun hf => ?_)
    · refine lv_bipush (v := -2) B.1.1 B.1.2.1 dX10_tier_40 (by decide) ?_
      exact y_iret B hR hS hf dX10_tier_42
    · refine lv_aload_n B.1.1 B.1.2.1 dX10_tier_24 rfl (hl.at 0 rfl) ?_
      refine lv_bipush (v := 78) B.1.1 B.1.2.1 dX10_tier_25 (by decide) ?_
      refine lv_bipush (v := 9) B.1.1 B.1.2.1 dX10_tier_27 (by decide) ?_
      refine lv_iload_n B.1.1 B.1.2.1 dX10_tier_29 rfl (hl.at 1 rfl) ?_
      refine lv_imul B.1.1 B.1.2.1 dX10_tier_30 ?_
      refine lv_iadd B.1.1 B.1.2.1 dX10_tier_31 ?_
      refine lv_iload_n B.1.1 B.1.2.1 dX10_tier_32 rfl (hl.at 2 rfl) ?_
      refine lv_iadd B.1.1 B.1.2.1 dX10_tier_33 ?_
      refine y_ci hf (fun q hq => x_runV (ci := 10) (C := RX10) B.1 B.2.2.2 hl hR hS cm_X10_193 ⟨rfl, rfl, Nat.le_of_ble_eq_true rfl, Nat.le_of_ble_eq_true rfl⟩ (by decide) rfl k_p0 (c_X10_get k_p0 hq) rfl rfl (Nat.le_of_ble_eq_true rfl) dX10_tier_34 ⟨Nat.le_of_ble_eq_true rfl, Nat.le_of_ble_eq_true rfl⟩) hS (fun r8 S7 H locs hf hR hS => ?_)
      refine lv_goto (tgt := 42) B.1.1 B.1.2.1 dX10_tier_37 (by decide) ?_
      exact y_iret B hR hS hf dX10_tier_42
abbrev xr_X10_isThere : Room := { frames := 2, cells := 0, slots := 0, locals := 34 }
def f_X10_isThere (T : xT) (S : xS) (p0 : Nat) (p1 : Int32) : Option (Int32 × xS) := xc (f_X10_isIn T S p1 ((0 : Int32)) ((7 : Int32))) (fun r2 S1 => if r2 = (0 : Int32) then some ((0 : Int32), S1) else xc (f_X10_get T S1 p0 ((0 : Int32))) (fun r4 S3 => if ((r4 >>> (p1 &&& 31)) &&& (1 : Int32)) = (1 : Int32) then some ((1 : Int32), S3) else some ((0 : Int32), S3)))
set_option maxRecDepth 100000 in
set_option maxHeartbeats 4000000 in
theorem c_X10_isThere {l : Launch} {z : Nat} {D : va_G} {dA : Nat → ClassId} {T : xT} {S : xS} {p0 : Nat} {p1 : Int32} (k_p0 : xlk T p0 10 = true) {q : Int32 × xS} (hf : f_X10_isThere T S p0 p1 = some q) : Met l yX10_isThere (xws yX10_isThere cX10_isThere 2 (some .boolean)) xr_X10_isThere (xPc z D dA T S [.ref (z + p0), .int p1]) (xQi z D dA T q) 0 0 (xA z) := by
  refine x_met RX10 (by decide) rfl (Nat.le_of_ble_eq_true rfl) ?_
  intro p e s m below meth c ls _ X hr hlk hml _ hR hS hl
  have B : xB p s m _ meth c cX10_isThere RX10 2 (some .boolean) D dA := ⟨X, hr, hlk, hml⟩
  have hl : xL ls 2 [_, _] := hl
  unfold f_X10_isThere at hf
  refine lv_iload_n B.1.1 B.1.2.1 dX10_isThere_0 rfl (hl.at 1 rfl) ?_
  refine lv_iconst (v := 0) B.1.1 B.1.2.1 dX10_isThere_1 (by decide) ?_
  refine lv_bipush (v := 7) B.1.1 B.1.2.1 dX10_isThere_2 (by decide) ?_
  refine y_ci hf (fun q hq => y_runS B.1 B.2.2.2 hl hR hS cm_X10_81 ⟨rfl, rfl, Nat.le_of_ble_eq_true rfl, Nat.le_of_ble_eq_true rfl⟩ (c_X10_isIn hq) rfl rfl (Nat.le_of_ble_eq_true rfl) dX10_isThere_4 ⟨Nat.le_of_ble_eq_true rfl, Nat.le_of_ble_eq_true rfl⟩) hS (fun r2 S1 H locs hf hR hS => ?_)
  refine y_if_eq (tgt := 27) B hf dX10_isThere_7 (by decide) (fun hf => ?_) (fun hf => ?_)
  · refine lv_iconst (v := 0) B.1.1 B.1.2.1 dX10_isThere_27 (by decide) ?_
    exact y_zretK B hR hS hf rfl dX10_isThere_28
  · refine lv_aload_n B.1.1 B.1.2.1 dX10_isThere_10 rfl (hl.at 0 rfl) ?_
    refine lv_iconst (v := 0) B.1.1 B.1.2.1 dX10_isThere_11 (by decide) ?_
    refine y_ci hf (fun q hq => x_runV (ci := 10) (C := RX10) B.1 B.2.2.2 hl hR hS cm_X10_193 ⟨rfl, rfl, Nat.le_of_ble_eq_true rfl, Nat.le_of_ble_eq_true rfl⟩ (by decide) rfl k_p0 (c_X10_get k_p0 hq) rfl rfl (Nat.le_of_ble_eq_true rfl) dX10_isThere_12 ⟨Nat.le_of_ble_eq_true rfl, Nat.le_of_ble_eq_true rfl⟩) hS (fun r4 S3 H locs hf hR hS => ?_)
    refine lv_iload_n B.1.1 B.1.2.1 dX10_isThere_15 rfl (hl.at 1 rfl) ?_
    refine lv_ishr B.1.1 B.1.2.1 dX10_isThere_16 ?_
    refine lv_iconst (v := 1) B.1.1 B.1.2.1 dX10_isThere_17 (by decide) ?_
    refine lv_iand B.1.1 B.1.2.1 dX10_isThere_18 ?_
    refine lv_iconst (v := 1) B.1.1 B.1.2.1 dX10_isThere_19 (by decide) ?_
    refine y_icmp_ne (tgt := 27) B hf dX10_isThere_20 (by decide) (fun hf => ?_) (fun hf => ?_)
    · refine lv_iconst (v := 0) B.1.1 B.1.2.1 dX10_isThere_27 (by decide) ?_
      exact y_zretK B hR hS hf rfl dX10_isThere_28
    · refine lv_iconst (v := 1) B.1.1 B.1.2.1 dX10_isThere_23 (by decide) ?_
      refine lv_goto (tgt := 28) B.1.1 B.1.2.1 dX10_isThere_24 (by decide) ?_
      exact y_zretK B hR hS hf rfl dX10_isThere_28
abbrev xr_X10_sumWeights : Room := { frames := 1, cells := 0, slots := 0, locals := 12 }
def f_X10_sumWeights_4 (T : xT) : Nat → xS → Nat → Int64 → Int32 → Option (Int64 × xS)
  | 0, _, _, _, _ => none
  | n + 1, S, p0, p1, p3 => if (8 : Int32) ≤ p3 then some (p1, S) else xgr T S p0 15 21 (fun a1 => xaj T S a1 p3 (fun v2 => xl ((p1 + v2)) (fun v3 => xl (p3 + (1 : Int32)) (fun v4 => f_X10_sumWeights_4 T n S p0 v3 v4))))
set_option maxRecDepth 100000 in
set_option maxHeartbeats 4000000 in
theorem w_X10_sumWeights_4 {p : Program} {l : Launch} {e : Env} {s : State} {m : MethodId} {args : Array Value} {below : List Frame} {meth : Method} {c : Code} {z : Nat} {D : va_G} {dA : Nat → ClassId} {T : xT} (B : xB p s m args meth c cX10_sumWeights RX10 4 (some .long) D dA) {q : Int64 × xS} : ∀ (n : Nat), ∀ (S : xS) (H : Heap) (locs : List Loc) (ls : Array Slot) (p0 : Nat) (p1 : Int64) (p3 : Int32), xlk T p0 10 = true → f_X10_sumWeights_4 T n S p0 p1 p3 = some q → xRel z D dA T S H → va_S (xA z) s.heap H locs → xL ls 4 [some (.ref (z + p0)), some (.long p1), none, some (.int p3)] → xGl p l e xr_X10_sumWeights s m args below meth c z D dA T q H locs 4 ls [] := by
  intro n
  induction n with
  | zero =>
    intro S H locs ls p0 p1 p3 k_p0 hf hR hS hl
    exact absurd hf (by simp [f_X10_sumWeights_4])
  | succ n ih =>
    intro S H locs ls p0 p1 p3 k_p0 hf hR hS hl
    unfold f_X10_sumWeights_4 at hf
    refine lv_iload_n B.1.1 B.1.2.1 dX10_sumWeights_4 rfl (hl.at 3 rfl) ?_
    refine lv_bipush (v := 8) B.1.1 B.1.2.1 dX10_sumWeights_5 (by decide) ?_
    refine y_icmp_ge (tgt := 25) B hf dX10_sumWeights_7 (by decide) (fun hf => ?_) (fun hf => ?_)
    · refine lv_lload_n B.1.1 B.1.2.1 dX10_sumWeights_25 rfl (hl.at 1 rfl) ?_
      exact y_lret B hR hS hf dX10_sumWeights_26
    · refine lv_lload_n B.1.1 B.1.2.1 dX10_sumWeights_10 rfl (hl.at 1 rfl) ?_
      refine lv_aload_n B.1.1 B.1.2.1 dX10_sumWeights_11 rfl (hl.at 0 rfl) ?_
      refine y_getR B hR hf k_p0 fl_X10_31 dX10_sumWeights_12 (fun a1 k_a1 hf => ?_)
      refine lv_iload_n B.1.1 B.1.2.1 dX10_sumWeights_15 rfl (hl.at 3 rfl) ?_
      refine y_lald B hR hf k_a1 dX10_sumWeights_16 (fun v2 hf => ?_)
      refine lv_ladd B.1.1 B.1.2.1 dX10_sumWeights_17 ?_
      refine y_lstore_n B hl hf dX10_sumWeights_18 rfl (by decide) rfl (fun v3 ls hf hl => ?_)
      have hl : xL ls 4 [_, _, _, _] := hl
      refine y_iinc (d := 1) B hl hf dX10_sumWeights_19 rfl (by decide) (by decide) rfl (fun v4 ls hf hl => ?_)
      have hl : xL ls 4 [_, _, _, _] := hl
      refine lv_goto (tgt := 4) B.1.1 B.1.2.1 dX10_sumWeights_22 (by decide) ?_
      exact ih _ _ _ _ _ _ _ k_p0 hf hR hS hl
def f_X10_sumWeights (T : xT) (S : xS) (p0 : Nat) : Option (Int64 × xS) := xl ((0 : Int64)) (fun v1 => xl ((0 : Int32)) (fun v2 => f_X10_sumWeights_4 T xfu S p0 v1 v2))
set_option maxRecDepth 100000 in
set_option maxHeartbeats 4000000 in
theorem c_X10_sumWeights {l : Launch} {z : Nat} {D : va_G} {dA : Nat → ClassId} {T : xT} {S : xS} {p0 : Nat} (k_p0 : xlk T p0 10 = true) {q : Int64 × xS} (hf : f_X10_sumWeights T S p0 = some q) : Met l yX10_sumWeights (xws yX10_sumWeights cX10_sumWeights 4 (some .long)) xr_X10_sumWeights (xPc z D dA T S [.ref (z + p0)]) (xQl z D dA T q) 0 0 (xA z) := by
  refine x_met RX10 (by decide) rfl (Nat.le_of_ble_eq_true rfl) ?_
  intro p e s m below meth c ls _ X hr hlk hml _ hR hS hl
  have B : xB p s m _ meth c cX10_sumWeights RX10 4 (some .long) D dA := ⟨X, hr, hlk, hml⟩
  have hl : xL ls 4 [_, _, _, _] := hl
  unfold f_X10_sumWeights at hf
  refine lv_lconst (v := 0) B.1.1 B.1.2.1 dX10_sumWeights_0 (by decide) ?_
  refine y_lstore_n B hl hf dX10_sumWeights_1 rfl (by decide) rfl (fun v1 ls hf hl => ?_)
  have hl : xL ls 4 [_, _, _, _] := hl
  refine lv_iconst (v := 0) B.1.1 B.1.2.1 dX10_sumWeights_2 (by decide) ?_
  refine y_istore_n B hl hf dX10_sumWeights_3 rfl (by decide) rfl (fun v2 ls hf hl => ?_)
  have hl : xL ls 4 [_, _, _, _] := hl
  exact w_X10_sumWeights_4 B xfu _ _ _ _ _ _ _ k_p0 hf hR hS hl
