abbrev xr_X10_overSpace : Room := { frames := 1, cells := 0, slots := 0, locals := 12 }
def f_X10_overSpace_4 (T : xT) : Nat → xS → Nat → Int32 → Int32 → Option (Int32 × xS)
  | 0, _, _, _, _ => none
  | n + 1, S, p0, p1, p2 => if (8 : Int32) ≤ p2 then some (p1, S) else xgr T S p0 18 20 (fun a1 => xai T S a1 p2 (fun v2 => xgr T S p0 19 20 (fun a3 => xai T S a3 p2 (fun v4 => if v4 < v2 then xgr T S p0 18 20 (fun a5 => xai T S a5 p2 (fun v6 => xgr T S p0 19 20 (fun a7 => xai T S a7 p2 (fun v8 => xl ((p1 + (v6 - v8))) (fun v9 => xgr T S p0 18 20 (fun a10 => xgr T S p0 19 20 (fun a11 => xai T S a11 p2 (fun v12 => xst T S a10 p2 v12 (fun S13 => xl (p2 + (1 : Int32)) (fun v14 => f_X10_overSpace_4 T n S13 p0 v9 v14)))))))))) else xl (p2 + (1 : Int32)) (fun v15 => f_X10_overSpace_4 T n S p0 p1 v15)))))
set_option maxRecDepth 100000 in
set_option maxHeartbeats 4000000 in
theorem w_X10_overSpace_4 {p : Program} {l : Launch} {e : Env} {s : State} {m : MethodId} {args : Array Value} {below : List Frame} {meth : Method} {c : Code} {z : Nat} {D : va_G} {dA : Nat → ClassId} {T : xT} (B : xB p s m args meth c cX10_overSpace RX10 3 (some .int) D dA) {q : Int32 × xS} : ∀ (n : Nat), ∀ (S : xS) (H : Heap) (locs : List Loc) (ls : Array Slot) (p0 : Nat) (p1 : Int32) (p2 : Int32), xlk T p0 10 = true → f_X10_overSpace_4 T n S p0 p1 p2 = some q → xRel z D dA T S H → va_S (xA z) s.heap H locs → xL ls 3 [some (.ref (z + p0)), some (.int p1), some (.int p2)] → xGi p l e xr_X10_overSpace s m args below meth c z D dA T q H locs 4 ls [] := by
  intro n
  induction n with
  | zero =>
    intro S H locs ls p0 p1 p2 k_p0 hf hR hS hl
    exact absurd hf (by simp [f_X10_overSpace_4])
  | succ n ih =>
    intro S H locs ls p0 p1 p2 k_p0 hf hR hS hl
    unfold f_X10_overSpace_4 at hf
    refine lv_iload_n B.1.1 B.1.2.1 dX10_overSpace_4 rfl (hl.at 2 rfl) ?_
    refine lv_bipush (v := 8) B.1.1 B.1.2.1 dX10_overSpace_5 (by decide) ?_
    refine y_icmp_ge (tgt := 62) B hf dX10_overSpace_7 (by decide) (fun hf => ?_) (fun hf => ?_)
    · refine lv_iload_n B.1.1 B.1.2.1 dX10_overSpace_62 rfl (hl.at 1 rfl) ?_
      exact y_iret B hR hS hf dX10_overSpace_63
    · refine lv_aload_n B.1.1 B.1.2.1 dX10_overSpace_10 rfl (hl.at 0 rfl) ?_
      refine y_getR B hR hf k_p0 fl_X10_41 dX10_overSpace_11 (fun a1 k_a1 hf => ?_)
      refine lv_iload_n B.1.1 B.1.2.1 dX10_overSpace_14 rfl (hl.at 2 rfl) ?_
      refine y_iald B hR hf k_a1 dX10_overSpace_15 (fun v2 hf => ?_)
      refine lv_aload_n B.1.1 B.1.2.1 dX10_overSpace_16 rfl (hl.at 0 rfl) ?_
      refine y_getR B hR hf k_p0 fl_X10_44 dX10_overSpace_17 (fun a3 k_a3 hf => ?_)
      refine lv_iload_n B.1.1 B.1.2.1 dX10_overSpace_20 rfl (hl.at 2 rfl) ?_
      refine y_iald B hR hf k_a3 dX10_overSpace_21 (fun v4 hf => ?_)
      refine y_icmp_gt (tgt := 28) B hf dX10_overSpace_22 (by decide) (fun hf => ?_) (fun hf => ?_)
      · refine lv_iload_n B.1.1 B.1.2.1 dX10_overSpace_28 rfl (hl.at 1 rfl) ?_
        refine lv_aload_n B.1.1 B.1.2.1 dX10_overSpace_29 rfl (hl.at 0 rfl) ?_
        refine y_getR B hR hf k_p0 fl_X10_41 dX10_overSpace_30 (fun a5 k_a5 hf => ?_)
        refine lv_iload_n B.1.1 B.1.2.1 dX10_overSpace_33 rfl (hl.at 2 rfl) ?_
        refine y_iald B hR hf k_a5 dX10_overSpace_34 (fun v6 hf => ?_)
        refine lv_aload_n B.1.1 B.1.2.1 dX10_overSpace_35 rfl (hl.at 0 rfl) ?_
        refine y_getR B hR hf k_p0 fl_X10_44 dX10_overSpace_36 (fun a7 k_a7 hf => ?_)
        refine lv_iload_n B.1.1 B.1.2.1 dX10_overSpace_39 rfl (hl.at 2 rfl) ?_
        refine y_iald B hR hf k_a7 dX10_overSpace_40 (fun v8 hf => ?_)
        refine lv_isub B.1.1 B.1.2.1 dX10_overSpace_41 ?_
        refine lv_iadd B.1.1 B.1.2.1 dX10_overSpace_42 ?_
        refine y_istore_n B hl hf dX10_overSpace_43 rfl (by decide) rfl (fun v9 ls hf hl => ?_)
        have hl : xL ls 3 [_, _, _] := hl
        refine lv_aload_n B.1.1 B.1.2.1 dX10_overSpace_44 rfl (hl.at 0 rfl) ?_
        refine y_getR B hR hf k_p0 fl_X10_41 dX10_overSpace_45 (fun a10 k_a10 hf => ?_)
        refine lv_iload_n B.1.1 B.1.2.1 dX10_overSpace_48 rfl (hl.at 2 rfl) ?_
        refine lv_aload_n B.1.1 B.1.2.1 dX10_overSpace_49 rfl (hl.at 0 rfl) ?_
        refine y_getR B hR hf k_p0 fl_X10_44 dX10_overSpace_50 (fun a11 k_a11 hf => ?_)
        refine lv_iload_n B.1.1 B.1.2.1 dX10_overSpace_53 rfl (hl.at 2 rfl) ?_
        refine y_iald B hR hf k_a11 dX10_overSpace_54 (fun v12 hf => ?_)
        refine y_iast B hR hS hf k_a10 dX10_overSpace_55 (fun S13 H locs hf hR hS => ?_)
        refine y_iinc (d := 1) B hl hf dX10_overSpace_56 rfl (by decide) (by decide) rfl (fun v14 ls hf hl => ?_)
        have hl : xL ls 3 [_, _, _] := hl
        refine lv_goto (tgt := 4) B.1.1 B.1.2.1 dX10_overSpace_59 (by decide) ?_
        exact ih _ _ _ _ _ _ _ k_p0 hf hR hS hl
      · refine lv_goto (tgt := 56) B.1.1 B.1.2.1 dX10_overSpace_25 (by decide) ?_
        refine y_iinc (d := 1) B hl hf dX10_overSpace_56 rfl (by decide) (by decide) rfl (fun v15 ls hf hl => ?_)
        have hl : xL ls 3 [_, _, _] := hl
        refine lv_goto (tgt := 4) B.1.1 B.1.2.1 dX10_overSpace_59 (by decide) ?_
        exact ih _ _ _ _ _ _ _ k_p0 hf hR hS hl
def f_X10_overSpace (T : xT) (S : xS) (p0 : Nat) : Option (Int32 × xS) := xl ((0 : Int32)) (fun v1 => xl ((0 : Int32)) (fun v2 => f_X10_overSpace_4 T xfu S p0 v1 v2))
set_option maxRecDepth 100000 in
set_option maxHeartbeats 4000000 in
theorem c_X10_overSpace {l : Launch} {z : Nat} {D : va_G} {dA : Nat → ClassId} {T : xT} {S : xS} {p0 : Nat} (k_p0 : xlk T p0 10 = true) {q : Int32 × xS} (hf : f_X10_overSpace T S p0 = some q) : Met l yX10_overSpace (xws yX10_overSpace cX10_overSpace 3 (some .int)) xr_X10_overSpace (xPc z D dA T S [.ref (z + p0)]) (xQi z D dA T q) 0 0 (xA z) := by
  refine x_met RX10 (by decide) rfl (Nat.le_of_ble_eq_true rfl) ?_
  intro p e s m below meth c ls _ X hr hlk hml _ hR hS hl
  have B : xB p s m _ meth c cX10_overSpace RX10 3 (some .int) D dA := ⟨X, hr, hlk, hml⟩
  have hl : xL ls 3 [_, _, _] := hl
  unfold f_X10_overSpace at hf
  refine lv_iconst (v := 0) B.1.1 B.1.2.1 dX10_overSpace_0 (by decide) ?_
  refine y_istore_n B hl hf dX10_overSpace_1 rfl (by decide) rfl (fun v1 ls hf hl => ?_)
  have hl : xL ls 3 [_, _, _] := hl
  refine lv_iconst (v := 0) B.1.1 B.1.2.1 dX10_overSpace_2 (by decide) ?_
  refine y_istore_n B hl hf dX10_overSpace_3 rfl (by decide) rfl (fun v2 ls hf hl => ?_)
  have hl : xL ls 3 [_, _, _] := hl
  exact w_X10_overSpace_4 B xfu _ _ _ _ _ _ _ k_p0 hf hR hS hl
abbrev xr_X10_firstThere : Room := { frames := 3, cells := 0, slots := 0, locals := 55 }
def f_X10_firstThere_2 (T : xT) : Nat → xS → Nat → Int32 → Option (Int32 × xS)
  | 0, _, _, _ => none
  | n + 1, S, p0, p1 => xc (f_X10_isThere T S p0 p1) (fun r2 S1 => if r2 = (0 : Int32) then xl (p1 + (1 : Int32)) (fun v3 => f_X10_firstThere_2 T n S1 p0 v3) else some (p1, S1))
set_option maxRecDepth 100000 in
set_option maxHeartbeats 4000000 in
theorem w_X10_firstThere_2 {p : Program} {l : Launch} {e : Env} {s : State} {m : MethodId} {args : Array Value} {below : List Frame} {meth : Method} {c : Code} {z : Nat} {D : va_G} {dA : Nat → ClassId} {T : xT} (B : xB p s m args meth c cX10_firstThere RX10 2 (some .int) D dA) {q : Int32 × xS} : ∀ (n : Nat), ∀ (S : xS) (H : Heap) (locs : List Loc) (ls : Array Slot) (p0 : Nat) (p1 : Int32), xlk T p0 10 = true → f_X10_firstThere_2 T n S p0 p1 = some q → xRel z D dA T S H → va_S (xA z) s.heap H locs → xL ls 2 [some (.ref (z + p0)), some (.int p1)] → xGi p l e xr_X10_firstThere s m args below meth c z D dA T q H locs 2 ls [] := by
  intro n
  induction n with
  | zero =>
    intro S H locs ls p0 p1 k_p0 hf hR hS hl
    exact absurd hf (by simp [f_X10_firstThere_2])
  | succ n ih =>
    intro S H locs ls p0 p1 k_p0 hf hR hS hl
    unfold f_X10_firstThere_2 at hf
    refine lv_aload_n B.1.1 B.1.2.1 dX10_firstThere_2 rfl (hl.at 0 rfl) ?_
    refine lv_iload_n B.1.1 B.1.2.1 dX10_firstThere_3 rfl (hl.at 1 rfl) ?_
    refine y_ci hf (fun q hq => x_runV (ci := 10) (C := RX10) B.1 B.2.2.2 hl hR hS cm_X10_203 ⟨rfl, rfl, Nat.le_of_ble_eq_true rfl, Nat.le_of_ble_eq_true rfl⟩ (by decide) rfl k_p0 (c_X10_isThere k_p0 hq) rfl rfl (Nat.le_of_ble_eq_true rfl) dX10_firstThere_4 ⟨Nat.le_of_ble_eq_true rfl, Nat.le_of_ble_eq_true rfl⟩) hS (fun r2 S1 H locs hf hR hS => ?_)
    refine y_if_ne (tgt := 16) B hf dX10_firstThere_7 (by decide) (fun hf => ?_) (fun hf => ?_)
    · refine lv_iload_n B.1.1 B.1.2.1 dX10_firstThere_16 rfl (hl.at 1 rfl) ?_
      exact y_iret B hR hS hf dX10_firstThere_17
    · refine y_iinc (d := 1) B hl hf dX10_firstThere_10 rfl (by decide) (by decide) rfl (fun v3 ls hf hl => ?_)
      have hl : xL ls 2 [_, _] := hl
      refine lv_goto (tgt := 2) B.1.1 B.1.2.1 dX10_firstThere_13 (by decide) ?_
      exact ih _ _ _ _ _ _ k_p0 hf hR hS hl
def f_X10_firstThere (T : xT) (S : xS) (p0 : Nat) : Option (Int32 × xS) := xl ((0 : Int32)) (fun v1 => f_X10_firstThere_2 T xfu S p0 v1)
set_option maxRecDepth 100000 in
set_option maxHeartbeats 4000000 in
theorem c_X10_firstThere {l : Launch} {z : Nat} {D : va_G} {dA : Nat → ClassId} {T : xT} {S : xS} {p0 : Nat} (k_p0 : xlk T p0 10 = true) {q : Int32 × xS} (hf : f_X10_firstThere T S p0 = some q) : Met l yX10_firstThere (xws yX10_firstThere cX10_firstThere 2 (some .int)) xr_X10_firstThere (xPc z D dA T S [.ref (z + p0)]) (xQi z D dA T q) 0 0 (xA z) := by
  refine x_met RX10 (by decide) rfl (Nat.le_of_ble_eq_true rfl) ?_
  intro p e s m below meth c ls _ X hr hlk hml _ hR hS hl
  have B : xB p s m _ meth c cX10_firstThere RX10 2 (some .int) D dA := ⟨X, hr, hlk, hml⟩
  have hl : xL ls 2 [_, _] := hl
  unfold f_X10_firstThere at hf
  refine lv_iconst (v := 0) B.1.1 B.1.2.1 dX10_firstThere_0 (by decide) ?_
  refine y_istore_n B hl hf dX10_firstThere_1 rfl (by decide) rfl (fun v1 ls hf hl => ?_)
  have hl : xL ls 2 [_, _] := hl
  exact w_X10_firstThere_2 B xfu _ _ _ _ _ _ k_p0 hf hR hS hl
abbrev xr_X10_limit : Room := { frames := 4, cells := 0, slots := 0, locals := 79 }
def f_X10_limit_96 (T : xT) (rec_5 : xS → Nat → Int32 → Option (xS)) : Nat → xS → Nat → Int32 → Option (xS)
  | 0, _, _, _ => none
  | n + 1, S, p0, p3 => if (8 : Int32) ≤ p3 then xc (f_X10_overSpace T S p0) (fun r2 S1 => xl r2 (fun v3 => rec_5 S1 p0 v3)) else xgr T S p0 18 20 (fun a4 => xai T S a4 p3 (fun v5 => xgr T S p0 16 20 (fun a6 => xai T S a6 p3 (fun v7 => xst T S a4 p3 ((v5 + v7)) (fun S8 => xl (p3 + (1 : Int32)) (fun v9 => f_X10_limit_96 T rec_5 n S8 p0 v9))))))
set_option maxRecDepth 100000 in
set_option maxHeartbeats 4000000 in
theorem w_X10_limit_96 {p : Program} {l : Launch} {e : Env} {s : State} {m : MethodId} {args : Array Value} {below : List Frame} {meth : Method} {c : Code} {z : Nat} {D : va_G} {dA : Nat → ClassId} {T : xT} (B : xB p s m args meth c cX10_limit RX10 4 none D dA) {q : xS} {rec_5 : xS → Nat → Int32 → Option (xS)} (hrec_5 : ∀ (S : xS) (H : Heap) (locs : List Loc) (ls : Array Slot) (p0 : Nat) (p1 : Int32), xlk T p0 10 = true → rec_5 S p0 p1 = some q → xRel z D dA T S H → va_S (xA z) s.heap H locs → xL ls 4 [some (.ref (z + p0)), some (.int p1), none, none] → xGv p l e xr_X10_limit s m args below meth c z D dA T q H locs 5 ls []) : ∀ (n : Nat), ∀ (S : xS) (H : Heap) (locs : List Loc) (ls : Array Slot) (p0 : Nat) (p3 : Int32), xlk T p0 10 = true → f_X10_limit_96 T rec_5 n S p0 p3 = some q → xRel z D dA T S H → va_S (xA z) s.heap H locs → xL ls 4 [some (.ref (z + p0)), none, none, some (.int p3)] → xGv p l e xr_X10_limit s m args below meth c z D dA T q H locs 96 ls [] := by
  intro n
  induction n with
  | zero =>
    intro S H locs ls p0 p3 k_p0 hf hR hS hl
    exact absurd hf (by simp [f_X10_limit_96])
  | succ n ih =>
    intro S H locs ls p0 p3 k_p0 hf hR hS hl
    unfold f_X10_limit_96 at hf
    refine lv_iload_n B.1.1 B.1.2.1 dX10_limit_96 rfl (hl.at 3 rfl) ?_
    refine lv_bipush (v := 8) B.1.1 B.1.2.1 dX10_limit_97 (by decide) ?_
    refine y_icmp_ge (tgt := 123) B hf dX10_limit_99 (by decide) (fun hf => ?_) (fun hf => ?_)
    · refine lv_aload_n B.1.1 B.1.2.1 dX10_limit_123 rfl (hl.at 0 rfl) ?_
      refine y_ci hf (fun q hq => x_runV (ci := 10) (C := RX10) B.1 B.2.2.2 hl hR hS cm_X10_274 ⟨rfl, rfl, Nat.le_of_ble_eq_true rfl, Nat.le_of_ble_eq_true rfl⟩ (by decide) rfl k_p0 (c_X10_overSpace k_p0 hq) rfl rfl (Nat.le_of_ble_eq_true rfl) dX10_limit_124 ⟨Nat.le_of_ble_eq_true rfl, Nat.le_of_ble_eq_true rfl⟩) hS (fun r2 S1 H locs hf hR hS => ?_)
      refine y_istore_n B hl hf dX10_limit_127 rfl (by decide) rfl (fun v3 ls hf hl => ?_)
      have hl : xL ls 4 [_, _, _, _] := hl
      refine lv_goto (tgt := 5) B.1.1 B.1.2.1 dX10_limit_128 (by decide) ?_
      exact hrec_5 _ _ _ _ _ _ k_p0 hf hR hS (hl.drop [true, true, false, false] rfl)
    · refine lv_aload_n B.1.1 B.1.2.1 dX10_limit_102 rfl (hl.at 0 rfl) ?_
      refine y_getR B hR hf k_p0 fl_X10_41 dX10_limit_103 (fun a4 k_a4 hf => ?_)
      refine lv_iload_n B.1.1 B.1.2.1 dX10_limit_106 rfl (hl.at 3 rfl) ?_
      refine lv_dup2_11 B.1.1 B.1.2.1 dX10_limit_107 rfl rfl ?_
      refine y_iald B hR hf k_a4 dX10_limit_108 (fun v5 hf => ?_)
      refine lv_aload_n B.1.1 B.1.2.1 dX10_limit_109 rfl (hl.at 0 rfl) ?_
      refine y_getR B hR hf k_p0 fl_X10_35 dX10_limit_110 (fun a6 k_a6 hf => ?_)
      refine lv_iload_n B.1.1 B.1.2.1 dX10_limit_113 rfl (hl.at 3 rfl) ?_
      refine y_iald B hR hf k_a6 dX10_limit_114 (fun v7 hf => ?_)
      refine lv_iadd B.1.1 B.1.2.1 dX10_limit_115 ?_
      refine y_iast B hR hS hf k_a4 dX10_limit_116 (fun S8 H locs hf hR hS => ?_)
      refine y_iinc (d := 1) B hl hf dX10_limit_117 rfl (by decide) (by decide) rfl (fun v9 ls hf hl => ?_)
      have hl : xL ls 4 [_, _, _, _] := hl
      refine lv_goto (tgt := 96) B.1.1 B.1.2.1 dX10_limit_120 (by decide) ?_
      exact ih _ _ _ _ _ _ k_p0 hf hR hS hl
def f_X10_limit_13 (T : xT) (rec_5 : xS → Nat → Int32 → Option (xS)) : Nat → xS → Nat → Int32 → Int32 → Int32 → Option (xS)
  | 0, _, _, _, _, _ => none
  | n + 1, S, p0, p1, p2, p3 => if (8 : Int32) ≤ p3 then if p2 = (0 : Int32) then xcv (f_X10_put T S p0 ((309 : Int32)) p1) (fun S4 => xgr T S4 p0 18 20 (fun a5 => xc (f_X10_firstThere T S4 p0) (fun r7 S6 => xai T S6 a5 r7 (fun v8 => xst T S6 a5 r7 ((v8 + p1)) (fun S9 => some S9))))) else xcv (f_X10_weighRatio T S p0 p2) (fun S1 => xcv (f_X10_dealOut T S1 p0 p1) (fun S2 => xl ((0 : Int32)) (fun v3 => f_X10_limit_96 T rec_5 xfu S2 p0 v3))) else xc (f_X10_isThere T S p0 p3) (fun r11 S10 => if r11 = (0 : Int32) then xl ((p2 ||| (0 : Int32))) (fun v12 => xl (p3 + (1 : Int32)) (fun v13 => f_X10_limit_13 T rec_5 n S10 p0 p1 v12 v13)) else xgr T S10 p0 18 20 (fun a14 => xai T S10 a14 p3 (fun v15 => xgr T S10 p0 19 20 (fun a16 => xai T S10 a16 p3 (fun v17 => if v17 ≤ v15 then xl ((p2 ||| (0 : Int32))) (fun v18 => xl (p3 + (1 : Int32)) (fun v19 => f_X10_limit_13 T rec_5 n S10 p0 p1 v18 v19)) else xl ((p2 ||| ((1 : Int32) <<< (p3 &&& 31)))) (fun v20 => xl (p3 + (1 : Int32)) (fun v21 => f_X10_limit_13 T rec_5 n S10 p0 p1 v20 v21)))))))
set_option maxRecDepth 100000 in
set_option maxHeartbeats 4000000 in
theorem w_X10_limit_13 {p : Program} {l : Launch} {e : Env} {s : State} {m : MethodId} {args : Array Value} {below : List Frame} {meth : Method} {c : Code} {z : Nat} {D : va_G} {dA : Nat → ClassId} {T : xT} (B : xB p s m args meth c cX10_limit RX10 4 none D dA) {q : xS} {rec_5 : xS → Nat → Int32 → Option (xS)} (hrec_5 : ∀ (S : xS) (H : Heap) (locs : List Loc) (ls : Array Slot) (p0 : Nat) (p1 : Int32), xlk T p0 10 = true → rec_5 S p0 p1 = some q → xRel z D dA T S H → va_S (xA z) s.heap H locs → xL ls 4 [some (.ref (z + p0)), some (.int p1), none, none] → xGv p l e xr_X10_limit s m args below meth c z D dA T q H locs 5 ls []) : ∀ (n : Nat), ∀ (S : xS) (H : Heap) (locs : List Loc) (ls : Array Slot) (p0 : Nat) (p1 : Int32) (p2 : Int32) (p3 : Int32), xlk T p0 10 = true → f_X10_limit_13 T rec_5 n S p0 p1 p2 p3 = some q → xRel z D dA T S H → va_S (xA z) s.heap H locs → xL ls 4 [some (.ref (z + p0)), some (.int p1), some (.int p2), some (.int p3)] → xGv p l e xr_X10_limit s m args below meth c z D dA T q H locs 13 ls [] := by
  intro n
  induction n with
  | zero =>
    intro S H locs ls p0 p1 p2 p3 k_p0 hf hR hS hl
    exact absurd hf (by simp [f_X10_limit_13])
  | succ n ih =>
    intro S H locs ls p0 p1 p2 p3 k_p0 hf hR hS hl
    unfold f_X10_limit_13 at hf
    refine lv_iload_n B.1.1 B.1.2.1 dX10_limit_13 rfl (hl.at 3 rfl) ?_
    refine lv_bipush (v := 8) B.1.1 B.1.2.1 dX10_limit_14 (by decide) ?_
    refine y_icmp_ge (tgt := 58) B hf dX10_limit_16 (by decide) (fun hf => ?_) (fun hf => ?_)
    · refine lv_iload_n B.1.1 B.1.2.1 dX10_limit_58 rfl (hl.at 2 rfl) ?_
      refine y_if_ne (tgt := 84) B hf dX10_limit_59 (by decide) (fun hf => ?_) (fun hf => ?_)
      · refine lv_aload_n B.1.1 B.1.2.1 dX10_limit_84 rfl (hl.at 0 rfl) ?_
        refine lv_iload_n B.1.1 B.1.2.1 dX10_limit_85 rfl (hl.at 2 rfl) ?_
        refine y_cv hf (fun q hq => x_runV (ci := 10) (C := RX10) B.1 B.2.2.2 hl hR hS cm_X10_262 ⟨rfl, rfl, Nat.le_of_ble_eq_true rfl, Nat.le_of_ble_eq_true rfl⟩ (by decide) rfl k_p0 (c_X10_weighRatio k_p0 hq) rfl rfl (Nat.le_of_ble_eq_true rfl) dX10_limit_86 ⟨Nat.le_of_ble_eq_true rfl, Nat.le_of_ble_eq_true rfl⟩) hS (fun S1 H locs hf hR hS => ?_)
        refine lv_aload_n B.1.1 B.1.2.1 dX10_limit_89 rfl (hl.at 0 rfl) ?_
        refine lv_iload_n B.1.1 B.1.2.1 dX10_limit_90 rfl (hl.at 1 rfl) ?_
        refine y_cv hf (fun q hq => x_runV (ci := 10) (C := RX10) B.1 B.2.2.2 hl hR hS cm_X10_209 ⟨rfl, rfl, Nat.le_of_ble_eq_true rfl, Nat.le_of_ble_eq_true rfl⟩ (by decide) rfl k_p0 (c_X10_dealOut k_p0 hq) rfl rfl (Nat.le_of_ble_eq_true rfl) dX10_limit_91 ⟨Nat.le_of_ble_eq_true rfl, Nat.le_of_ble_eq_true rfl⟩) hS (fun S2 H locs hf hR hS => ?_)
        refine lv_iconst (v := 0) B.1.1 B.1.2.1 dX10_limit_94 (by decide) ?_
        refine y_istore_n B hl hf dX10_limit_95 rfl (by decide) rfl (fun v3 ls hf hl => ?_)
        have hl : xL ls 4 [_, _, _, _] := hl
        exact w_X10_limit_96 B hrec_5 xfu _ _ _ _ _ _ k_p0 hf hR hS (hl.drop [true, false, false, true] rfl)
      · refine lv_aload_n B.1.1 B.1.2.1 dX10_limit_62 rfl (hl.at 0 rfl) ?_
        refine lv_sipush (v := 309) B.1.1 B.1.2.1 dX10_limit_63 (by decide) ?_
        refine lv_iload_n B.1.1 B.1.2.1 dX10_limit_66 rfl (hl.at 1 rfl) ?_
        refine y_cv hf (fun q hq => x_runV (ci := 10) (C := RX10) B.1 B.2.2.2 hl hR hS cm_X10_71 ⟨rfl, rfl, Nat.le_of_ble_eq_true rfl, Nat.le_of_ble_eq_true rfl⟩ (by decide) rfl k_p0 (c_X10_put k_p0 hq) rfl rfl (Nat.le_of_ble_eq_true rfl) dX10_limit_67 ⟨Nat.le_of_ble_eq_true rfl, Nat.le_of_ble_eq_true rfl⟩) hS (fun S4 H locs hf hR hS => ?_)
        refine lv_aload_n B.1.1 B.1.2.1 dX10_limit_70 rfl (hl.at 0 rfl) ?_
        refine y_getR B hR hf k_p0 fl_X10_41 dX10_limit_71 (fun a5 k_a5 hf => ?_)
        refine lv_aload_n B.1.1 B.1.2.1 dX10_limit_74 rfl (hl.at 0 rfl) ?_
        refine y_ci hf (fun q hq => x_runV (ci := 10) (C := RX10) B.1 B.2.2.2 hl hR hS cm_X10_277 ⟨rfl, rfl, Nat.le_of_ble_eq_true rfl, Nat.le_of_ble_eq_true rfl⟩ (by decide) rfl k_p0 (c_X10_firstThere k_p0 hq) rfl rfl (Nat.le_of_ble_eq_true rfl) dX10_limit_75 ⟨Nat.le_of_ble_eq_true rfl, Nat.le_of_ble_eq_true rfl⟩) hS (fun r7 S6 H locs hf hR hS => ?_)
        refine lv_dup2_11 B.1.1 B.1.2.1 dX10_limit_78 rfl rfl ?_
        refine y_iald B hR hf k_a5 dX10_limit_79 (fun v8 hf => ?_)
        refine lv_iload_n B.1.1 B.1.2.1 dX10_limit_80 rfl (hl.at 1 rfl) ?_
        refine lv_iadd B.1.1 B.1.2.1 dX10_limit_81 ?_
        refine y_iast B hR hS hf k_a5 dX10_limit_82 (fun S9 H locs hf hR hS => ?_)
        exact y_vret B hR hS hf dX10_limit_83
    · refine lv_iload_n B.1.1 B.1.2.1 dX10_limit_19 rfl (hl.at 2 rfl) ?_
      refine lv_aload_n B.1.1 B.1.2.1 dX10_limit_20 rfl (hl.at 0 rfl) ?_
      refine lv_iload_n B.1.1 B.1.2.1 dX10_limit_21 rfl (hl.at 3 rfl) ?_
      refine y_ci hf (fun q hq => x_runV (ci := 10) (C := RX10) B.1 B.2.2.2 hl hR hS cm_X10_203 ⟨rfl, rfl, Nat.le_of_ble_eq_true rfl, Nat.le_of_ble_eq_true rfl⟩ (by decide) rfl k_p0 (c_X10_isThere k_p0 hq) rfl rfl (Nat.le_of_ble_eq_true rfl) dX10_limit_22 ⟨Nat.le_of_ble_eq_true rfl, Nat.le_of_ble_eq_true rfl⟩) hS (fun r11 S10 H locs hf hR hS => ?_)
      refine y_if_eq (tgt := 49) B hf dX10_limit_25 (by decide) (fun hf => ?_) (fun hf => ?_)
      · refine lv_iconst (v := 0) B.1.1 B.1.2.1 dX10_limit_49 (by decide) ?_
        refine lv_ior B.1.1 B.1.2.1 dX10_limit_50 ?_
        refine y_istore_n B hl hf dX10_limit_51 rfl (by decide) rfl (fun v12 ls hf hl => ?_)
        have hl : xL ls 4 [_, _, _, _] := hl
        refine y_iinc (d := 1) B hl hf dX10_limit_52 rfl (by decide) (by decide) rfl (fun v13 ls hf hl => ?_)
        have hl : xL ls 4 [_, _, _, _] := hl
        refine lv_goto (tgt := 13) B.1.1 B.1.2.1 dX10_limit_55 (by decide) ?_
        exact ih _ _ _ _ _ _ _ _ k_p0 hf hR hS hl
      · refine lv_aload_n B.1.1 B.1.2.1 dX10_limit_28 rfl (hl.at 0 rfl) ?_
        refine y_getR B hR hf k_p0 fl_X10_41 dX10_limit_29 (fun a14 k_a14 hf => ?_)
        refine lv_iload_n B.1.1 B.1.2.1 dX10_limit_32 rfl (hl.at 3 rfl) ?_
        refine y_iald B hR hf k_a14 dX10_limit_33 (fun v15 hf => ?_)
        refine lv_aload_n B.1.1 B.1.2.1 dX10_limit_34 rfl (hl.at 0 rfl) ?_
        refine y_getR B hR hf k_p0 fl_X10_44 dX10_limit_35 (fun a16 k_a16 hf => ?_)
        refine lv_iload_n B.1.1 B.1.2.1 dX10_limit_38 rfl (hl.at 3 rfl) ?_
        refine y_iald B hR hf k_a16 dX10_limit_39 (fun v17 hf => ?_)
        refine y_icmp_ge (tgt := 49) B hf dX10_limit_40 (by decide) (fun hf => ?_) (fun hf => ?_)
        · refine lv_iconst (v := 0) B.1.1 B.1.2.1 dX10_limit_49 (by decide) ?_
          refine lv_ior B.1.1 B.1.2.1 dX10_limit_50 ?_
          refine y_istore_n B hl hf dX10_limit_51 rfl (by decide) rfl (fun v18 ls hf hl => ?_)
          have hl : xL ls 4 [_, _, _, _] := hl
          refine y_iinc (d := 1) B hl hf dX10_limit_52 rfl (by decide) (by decide) rfl (fun v19 ls hf hl => ?_)
          have hl : xL ls 4 [_, _, _, _] := hl
          refine lv_goto (tgt := 13) B.1.1 B.1.2.1 dX10_limit_55 (by decide) ?_
          exact ih _ _ _ _ _ _ _ _ k_p0 hf hR hS hl
        · refine lv_iconst (v := 1) B.1.1 B.1.2.1 dX10_limit_43 (by decide) ?_
          refine lv_iload_n B.1.1 B.1.2.1 dX10_limit_44 rfl (hl.at 3 rfl) ?_
          refine lv_ishl B.1.1 B.1.2.1 dX10_limit_45 ?_
          refine lv_goto (tgt := 50) B.1.1 B.1.2.1 dX10_limit_46 (by decide) ?_
          refine lv_ior B.1.1 B.1.2.1 dX10_limit_50 ?_
          refine y_istore_n B hl hf dX10_limit_51 rfl (by decide) rfl (fun v20 ls hf hl => ?_)
          have hl : xL ls 4 [_, _, _, _] := hl
          refine y_iinc (d := 1) B hl hf dX10_limit_52 rfl (by decide) (by decide) rfl (fun v21 ls hf hl => ?_)
          have hl : xL ls 4 [_, _, _, _] := hl
          refine lv_goto (tgt := 13) B.1.1 B.1.2.1 dX10_limit_55 (by decide) ?_
          exact ih _ _ _ _ _ _ _ _ k_p0 hf hR hS hl
def f_X10_limit_5 (T : xT) : Nat → xS → Nat → Int32 → Option (xS)
  | 0, _, _, _ => none
  | n + 1, S, p0, p1 => if p1 ≤ (0 : Int32) then some S else xl ((0 : Int32)) (fun v1 => xl ((0 : Int32)) (fun v2 => f_X10_limit_13 T (f_X10_limit_5 T n) xfu S p0 p1 v1 v2))
set_option maxRecDepth 100000 in
set_option maxHeartbeats 4000000 in
theorem w_X10_limit_5 {p : Program} {l : Launch} {e : Env} {s : State} {m : MethodId} {args : Array Value} {below : List Frame} {meth : Method} {c : Code} {z : Nat} {D : va_G} {dA : Nat → ClassId} {T : xT} (B : xB p s m args meth c cX10_limit RX10 4 none D dA) {q : xS} : ∀ (n : Nat), ∀ (S : xS) (H : Heap) (locs : List Loc) (ls : Array Slot) (p0 : Nat) (p1 : Int32), xlk T p0 10 = true → f_X10_limit_5 T n S p0 p1 = some q → xRel z D dA T S H → va_S (xA z) s.heap H locs → xL ls 4 [some (.ref (z + p0)), some (.int p1), none, none] → xGv p l e xr_X10_limit s m args below meth c z D dA T q H locs 5 ls [] := by
  intro n
  induction n with
  | zero =>
    intro S H locs ls p0 p1 k_p0 hf hR hS hl
    exact absurd hf (by simp [f_X10_limit_5])
  | succ n ih =>
    intro S H locs ls p0 p1 k_p0 hf hR hS hl
    unfold f_X10_limit_5 at hf
    refine lv_iload_n B.1.1 B.1.2.1 dX10_limit_5 rfl (hl.at 1 rfl) ?_
    refine y_if_le (tgt := 131) B hf dX10_limit_6 (by decide) (fun hf => ?_) (fun hf => ?_)
    · exact y_vret B hR hS hf dX10_limit_131
    · refine lv_iconst (v := 0) B.1.1 B.1.2.1 dX10_limit_9 (by decide) ?_
      refine y_istore_n B hl hf dX10_limit_10 rfl (by decide) rfl (fun v1 ls hf hl => ?_)
      have hl : xL ls 4 [_, _, _, _] := hl
      refine lv_iconst (v := 0) B.1.1 B.1.2.1 dX10_limit_11 (by decide) ?_
      refine y_istore_n B hl hf dX10_limit_12 rfl (by decide) rfl (fun v2 ls hf hl => ?_)
      have hl : xL ls 4 [_, _, _, _] := hl
      exact w_X10_limit_13 B ih xfu _ _ _ _ _ _ _ _ k_p0 hf hR hS hl
def f_X10_limit (T : xT) (S : xS) (p0 : Nat) : Option (xS) := xc (f_X10_overSpace T S p0) (fun r2 S1 => xl r2 (fun v3 => f_X10_limit_5 T xfu S1 p0 v3))
set_option maxRecDepth 100000 in
set_option maxHeartbeats 4000000 in
theorem c_X10_limit {l : Launch} {z : Nat} {D : va_G} {dA : Nat → ClassId} {T : xT} {S : xS} {p0 : Nat} (k_p0 : xlk T p0 10 = true) {q : xS} (hf : f_X10_limit T S p0 = some q) : Met l yX10_limit (xws yX10_limit cX10_limit 4 none) xr_X10_limit (xPc z D dA T S [.ref (z + p0)]) (xQv z D dA T q) 0 0 (xA z) := by
  refine x_met RX10 (by decide) rfl (Nat.le_of_ble_eq_true rfl) ?_
  intro p e s m below meth c ls _ X hr hlk hml _ hR hS hl
  have B : xB p s m _ meth c cX10_limit RX10 4 none D dA := ⟨X, hr, hlk, hml⟩
  have hl : xL ls 4 [_, _, _, _] := hl
  unfold f_X10_limit at hf
  refine lv_aload_n B.1.1 B.1.2.1 dX10_limit_0 rfl (hl.at 0 rfl) ?_
  refine y_ci hf (fun q hq => x_runV (ci := 10) (C := RX10) B.1 B.2.2.2 hl hR hS cm_X10_274 ⟨rfl, rfl, Nat.le_of_ble_eq_true rfl, Nat.le_of_ble_eq_true rfl⟩ (by decide) rfl k_p0 (c_X10_overSpace k_p0 hq) rfl rfl (Nat.le_of_ble_eq_true rfl) dX10_limit_1 ⟨Nat.le_of_ble_eq_true rfl, Nat.le_of_ble_eq_true rfl⟩) hS (fun r2 S1 H locs hf hR hS => ?_)
  refine y_istore_n B hl hf dX10_limit_4 rfl (by decide) rfl (fun v3 ls hf hl => ?_)
  have hl : xL ls 4 [_, _, _, _] := hl
  exact w_X10_limit_5 B xfu _ _ _ _ _ _ k_p0 hf hR hS hl
abbrev xr_X10_share : Room := { frames := 5, cells := 0, slots := 0, locals := 102 }
def f_X10_share_77 (T : xT) (rec_19 : xS → Nat → Int32 → Int32 → Option (xS)) (S : xS) (p0 : Nat) (p1 : Int32) (p2 : Int32) (ps0 : Nat) (ps1 : Int32) (ps2 : Int64) : Option (xS) := xsj T S ps0 ps1 ps2 (fun S1 => xgr T S1 p0 19 20 (fun a2 => xc (f_X10_isThere T S1 p0 p2) (fun r4 S3 => if r4 = (0 : Int32) then xst T S3 a2 p2 ((0 : Int32)) (fun S5 => xl (p2 + (1 : Int32)) (fun v6 => rec_19 S5 p0 p1 v6)) else xc (f_X10_get T S3 p0 (((5 : Int32) + p2))) (fun r8 S7 => xc (f_X10_floorOf T S7 p0 p2) (fun r10 S9 => xc (f_X10_greater T S9 ((0 : Int32)) ((r8 - r10))) (fun r12 S11 => xst T S11 a2 p2 r12 (fun S13 => xl (p2 + (1 : Int32)) (fun v14 => rec_19 S13 p0 p1 v14))))))))
set_option maxRecDepth 100000 in
set_option maxHeartbeats 4000000 in
theorem w_X10_share_77 {p : Program} {l : Launch} {e : Env} {s : State} {m : MethodId} {args : Array Value} {below : List Frame} {meth : Method} {c : Code} {z : Nat} {D : va_G} {dA : Nat → ClassId} {T : xT} (B : xB p s m args meth c cX10_share RX10 4 none D dA) {q : xS} {rec_19 : xS → Nat → Int32 → Int32 → Option (xS)} (hrec_19 : ∀ (S : xS) (H : Heap) (locs : List Loc) (ls : Array Slot) (p0 : Nat) (p1 : Int32) (p2 : Int32), xlk T p0 10 = true → rec_19 S p0 p1 p2 = some q → xRel z D dA T S H → va_S (xA z) s.heap H locs → xL ls 4 [some (.ref (z + p0)), some (.int p1), some (.int p2), none] → xGv p l e xr_X10_share s m args below meth c z D dA T q H locs 19 ls []) : ∀ (S : xS) (H : Heap) (locs : List Loc) (ls : Array Slot) (p0 : Nat) (p1 : Int32) (p2 : Int32) (ps0 : Nat) (ps1 : Int32) (ps2 : Int64), xlk T p0 10 = true → xlk T ps0 21 = true → f_X10_share_77 T rec_19 S p0 p1 p2 ps0 ps1 ps2 = some q → xRel z D dA T S H → va_S (xA z) s.heap H locs → xL ls 4 [some (.ref (z + p0)), some (.int p1), some (.int p2), none] → xGv p l e xr_X10_share s m args below meth c z D dA T q H locs 77 ls [.long ps2, .int ps1, .ref (z + ps0)] := by
  intro S H locs ls p0 p1 p2 ps0 ps1 ps2 k_p0 k_ps0 hf hR hS hl
  unfold f_X10_share_77 at hf
  refine y_last B hR hS hf k_ps0 dX10_share_77 (fun S1 H locs hf hR hS => ?_)
  refine lv_aload_n B.1.1 B.1.2.1 dX10_share_78 rfl (hl.at 0 rfl) ?_
  refine y_getR B hR hf k_p0 fl_X10_44 dX10_share_79 (fun a2 k_a2 hf => ?_)
  refine lv_iload_n B.1.1 B.1.2.1 dX10_share_82 rfl (hl.at 2 rfl) ?_
  refine lv_aload_n B.1.1 B.1.2.1 dX10_share_83 rfl (hl.at 0 rfl) ?_
  refine lv_iload_n B.1.1 B.1.2.1 dX10_share_84 rfl (hl.at 2 rfl) ?_
  refine y_ci hf (fun q hq => x_runV (ci := 10) (C := RX10) B.1 B.2.2.2 hl hR hS cm_X10_203 ⟨rfl, rfl, Nat.le_of_ble_eq_true rfl, Nat.le_of_ble_eq_true rfl⟩ (by decide) rfl k_p0 (c_X10_isThere k_p0 hq) rfl rfl (Nat.le_of_ble_eq_true rfl) dX10_share_85 ⟨Nat.le_of_ble_eq_true rfl, Nat.le_of_ble_eq_true rfl⟩) hS (fun r4 S3 H locs hf hR hS => ?_)
  refine y_if_eq (tgt := 111) B hf dX10_share_88 (by decide) (fun hf => ?_) (fun hf => ?_)
  · refine lv_iconst (v := 0) B.1.1 B.1.2.1 dX10_share_111 (by decide) ?_
    refine y_iast B hR hS hf k_a2 dX10_share_112 (fun S5 H locs hf hR hS => ?_)
    refine y_iinc (d := 1) B hl hf dX10_share_113 rfl (by decide) (by decide) rfl (fun v6 ls hf hl => ?_)
    have hl : xL ls 4 [_, _, _, _] := hl
    refine lv_goto (tgt := 19) B.1.1 B.1.2.1 dX10_share_116 (by decide) ?_
    exact hrec_19 _ _ _ _ _ _ _ k_p0 hf hR hS hl
  · refine lv_iconst (v := 0) B.1.1 B.1.2.1 dX10_share_91 (by decide) ?_
    refine lv_aload_n B.1.1 B.1.2.1 dX10_share_92 rfl (hl.at 0 rfl) ?_
    refine lv_iconst (v := 5) B.1.1 B.1.2.1 dX10_share_93 (by decide) ?_
    refine lv_iload_n B.1.1 B.1.2.1 dX10_share_94 rfl (hl.at 2 rfl) ?_
    refine lv_iadd B.1.1 B.1.2.1 dX10_share_95 ?_
    refine y_ci hf (fun q hq => x_runV (ci := 10) (C := RX10) B.1 B.2.2.2 hl hR hS cm_X10_193 ⟨rfl, rfl, Nat.le_of_ble_eq_true rfl, Nat.le_of_ble_eq_true rfl⟩ (by decide) rfl k_p0 (c_X10_get k_p0 hq) rfl rfl (Nat.le_of_ble_eq_true rfl) dX10_share_96 ⟨Nat.le_of_ble_eq_true rfl, Nat.le_of_ble_eq_true rfl⟩) hS (fun r8 S7 H locs hf hR hS => ?_)
    refine lv_aload_n B.1.1 B.1.2.1 dX10_share_99 rfl (hl.at 0 rfl) ?_
    refine lv_iload_n B.1.1 B.1.2.1 dX10_share_100 rfl (hl.at 2 rfl) ?_
    refine y_ci hf (fun q hq => x_runV (ci := 10) (C := RX10) B.1 B.2.2.2 hl hR hS cm_X10_237 ⟨rfl, rfl, Nat.le_of_ble_eq_true rfl, Nat.le_of_ble_eq_true rfl⟩ (by decide) rfl k_p0 (c_X10_floorOf k_p0 hq) rfl rfl (Nat.le_of_ble_eq_true rfl) dX10_share_101 ⟨Nat.le_of_ble_eq_true rfl, Nat.le_of_ble_eq_true rfl⟩) hS (fun r10 S9 H locs hf hR hS => ?_)
    refine lv_isub B.1.1 B.1.2.1 dX10_share_104 ?_
    refine y_ci hf (fun q hq => y_runS B.1 B.2.2.2 hl hR hS cm_X10_224 ⟨rfl, rfl, Nat.le_of_ble_eq_true rfl, Nat.le_of_ble_eq_true rfl⟩ (c_X10_greater hq) rfl rfl (Nat.le_of_ble_eq_true rfl) dX10_share_105 ⟨Nat.le_of_ble_eq_true rfl, Nat.le_of_ble_eq_true rfl⟩) hS (fun r12 S11 H locs hf hR hS => ?_)
    refine lv_goto (tgt := 112) B.1.1 B.1.2.1 dX10_share_108 (by decide) ?_
    refine y_iast B hR hS hf k_a2 dX10_share_112 (fun S13 H locs hf hR hS => ?_)
    refine y_iinc (d := 1) B hl hf dX10_share_113 rfl (by decide) (by decide) rfl (fun v14 ls hf hl => ?_)
    have hl : xL ls 4 [_, _, _, _] := hl
    refine lv_goto (tgt := 19) B.1.1 B.1.2.1 dX10_share_116 (by decide) ?_
    exact hrec_19 _ _ _ _ _ _ _ k_p0 hf hR hS hl
def f_X10_share_51 (T : xT) (rec_19 : xS → Nat → Int32 → Int32 → Option (xS)) (S : xS) (p0 : Nat) (p1 : Int32) (p2 : Int32) (ps0 : Int32) : Option (xS) := xl ps0 (fun v1 => xgr T S p0 15 21 (fun a2 => if p1 ≤ (0 : Int32) then xc (f_X10_greater T S ((0 : Int32)) ((-v1))) (fun r4 S3 => f_X10_share_77 T rec_19 S3 p0 p1 p2 a2 p2 ((r4).toInt64)) else xc (f_X10_greater T S ((0 : Int32)) v1) (fun r6 S5 => f_X10_share_77 T rec_19 S5 p0 p1 p2 a2 p2 ((r6).toInt64))))
set_option maxRecDepth 100000 in
set_option maxHeartbeats 4000000 in
theorem w_X10_share_51 {p : Program} {l : Launch} {e : Env} {s : State} {m : MethodId} {args : Array Value} {below : List Frame} {meth : Method} {c : Code} {z : Nat} {D : va_G} {dA : Nat → ClassId} {T : xT} (B : xB p s m args meth c cX10_share RX10 4 none D dA) {q : xS} {rec_19 : xS → Nat → Int32 → Int32 → Option (xS)} (hrec_19 : ∀ (S : xS) (H : Heap) (locs : List Loc) (ls : Array Slot) (p0 : Nat) (p1 : Int32) (p2 : Int32), xlk T p0 10 = true → rec_19 S p0 p1 p2 = some q → xRel z D dA T S H → va_S (xA z) s.heap H locs → xL ls 4 [some (.ref (z + p0)), some (.int p1), some (.int p2), none] → xGv p l e xr_X10_share s m args below meth c z D dA T q H locs 19 ls []) : ∀ (S : xS) (H : Heap) (locs : List Loc) (ls : Array Slot) (p0 : Nat) (p1 : Int32) (p2 : Int32) (ps0 : Int32), xlk T p0 10 = true → f_X10_share_51 T rec_19 S p0 p1 p2 ps0 = some q → xRel z D dA T S H → va_S (xA z) s.heap H locs → xL ls 4 [some (.ref (z + p0)), some (.int p1), some (.int p2), none] → xGv p l e xr_X10_share s m args below meth c z D dA T q H locs 51 ls [.int ps0] := by
  intro S H locs ls p0 p1 p2 ps0 k_p0 hf hR hS hl
  unfold f_X10_share_51 at hf
  refine y_istore_n B hl hf dX10_share_51 rfl (by decide) rfl (fun v1 ls hf hl => ?_)
  have hl : xL ls 4 [_, _, _, _] := hl
  refine lv_aload_n B.1.1 B.1.2.1 dX10_share_52 rfl (hl.at 0 rfl) ?_
  refine y_getR B hR hf k_p0 fl_X10_31 dX10_share_53 (fun a2 k_a2 hf => ?_)
  refine lv_iload_n B.1.1 B.1.2.1 dX10_share_56 rfl (hl.at 2 rfl) ?_
  refine lv_iload_n B.1.1 B.1.2.1 dX10_share_57 rfl (hl.at 1 rfl) ?_
  refine y_if_le (tgt := 70) B hf dX10_share_58 (by decide) (fun hf => ?_) (fun hf => ?_)
  · refine lv_iconst (v := 0) B.1.1 B.1.2.1 dX10_share_70 (by decide) ?_
    refine lv_iload_n B.1.1 B.1.2.1 dX10_share_71 rfl (hl.at 3 rfl) ?_
    refine lv_ineg B.1.1 B.1.2.1 dX10_share_72 ?_
    refine y_ci hf (fun q hq => y_runS B.1 B.2.2.2 hl hR hS cm_X10_224 ⟨rfl, rfl, Nat.le_of_ble_eq_true rfl, Nat.le_of_ble_eq_true rfl⟩ (c_X10_greater hq) rfl rfl (Nat.le_of_ble_eq_true rfl) dX10_share_73 ⟨Nat.le_of_ble_eq_true rfl, Nat.le_of_ble_eq_true rfl⟩) hS (fun r4 S3 H locs hf hR hS => ?_)
    refine lv_i2l B.1.1 B.1.2.1 dX10_share_76 rfl ?_
    exact w_X10_share_77 B hrec_19 _ _ _ _ _ _ _ _ _ _ k_p0 k_a2 hf hR hS (hl.drop [true, true, true, false] rfl)
  · refine lv_iconst (v := 0) B.1.1 B.1.2.1 dX10_share_61 (by decide) ?_
    refine lv_iload_n B.1.1 B.1.2.1 dX10_share_62 rfl (hl.at 3 rfl) ?_
    refine y_ci hf (fun q hq => y_runS B.1 B.2.2.2 hl hR hS cm_X10_224 ⟨rfl, rfl, Nat.le_of_ble_eq_true rfl, Nat.le_of_ble_eq_true rfl⟩ (c_X10_greater hq) rfl rfl (Nat.le_of_ble_eq_true rfl) dX10_share_63 ⟨Nat.le_of_ble_eq_true rfl, Nat.le_of_ble_eq_true rfl⟩) hS (fun r6 S5 H locs hf hR hS => ?_)
    refine lv_i2l B.1.1 B.1.2.1 dX10_share_66 rfl ?_
    refine lv_goto (tgt := 77) B.1.1 B.1.2.1 dX10_share_67 (by decide) ?_
    exact w_X10_share_77 B hrec_19 _ _ _ _ _ _ _ _ _ _ k_p0 k_a2 hf hR hS (hl.drop [true, true, true, false] rfl)
def f_X10_share_168 (T : xT) (rec_135 : xS → Nat → Int32 → Int32 → Option (xS)) (S : xS) (p0 : Nat) (p1 : Int32) (p2 : Int32) (ps0 : Nat) (ps1 : Int32) (ps2 : Int32) : Option (xS) := xcv (f_X10_put T S ps0 ps1 ps2) (fun S1 => xgr T S1 p0 18 20 (fun a2 => xgr T S1 p0 16 20 (fun a3 => xai T S1 a3 p2 (fun v4 => xst T S1 a2 p2 v4 (fun S5 => xl (p2 + (1 : Int32)) (fun v6 => rec_135 S5 p0 p1 v6))))))
set_option maxRecDepth 100000 in
set_option maxHeartbeats 4000000 in
theorem w_X10_share_168 {p : Program} {l : Launch} {e : Env} {s : State} {m : MethodId} {args : Array Value} {below : List Frame} {meth : Method} {c : Code} {z : Nat} {D : va_G} {dA : Nat → ClassId} {T : xT} (B : xB p s m args meth c cX10_share RX10 4 none D dA) {q : xS} {rec_135 : xS → Nat → Int32 → Int32 → Option (xS)} (hrec_135 : ∀ (S : xS) (H : Heap) (locs : List Loc) (ls : Array Slot) (p0 : Nat) (p1 : Int32) (p2 : Int32), xlk T p0 10 = true → rec_135 S p0 p1 p2 = some q → xRel z D dA T S H → va_S (xA z) s.heap H locs → xL ls 4 [some (.ref (z + p0)), some (.int p1), some (.int p2), none] → xGv p l e xr_X10_share s m args below meth c z D dA T q H locs 135 ls []) : ∀ (S : xS) (H : Heap) (locs : List Loc) (ls : Array Slot) (p0 : Nat) (p1 : Int32) (p2 : Int32) (ps0 : Nat) (ps1 : Int32) (ps2 : Int32), xlk T p0 10 = true → xlk T ps0 10 = true → f_X10_share_168 T rec_135 S p0 p1 p2 ps0 ps1 ps2 = some q → xRel z D dA T S H → va_S (xA z) s.heap H locs → xL ls 4 [some (.ref (z + p0)), some (.int p1), some (.int p2), none] → xGv p l e xr_X10_share s m args below meth c z D dA T q H locs 168 ls [.int ps2, .int ps1, .ref (z + ps0)] := by
  intro S H locs ls p0 p1 p2 ps0 ps1 ps2 k_p0 k_ps0 hf hR hS hl
  unfold f_X10_share_168 at hf
  refine y_cv hf (fun q hq => x_runV (ci := 10) (C := RX10) B.1 B.2.2.2 hl hR hS cm_X10_71 ⟨rfl, rfl, Nat.le_of_ble_eq_true rfl, Nat.le_of_ble_eq_true rfl⟩ (by decide) rfl k_ps0 (c_X10_put k_ps0 hq) rfl rfl (Nat.le_of_ble_eq_true rfl) dX10_share_168 ⟨Nat.le_of_ble_eq_true rfl, Nat.le_of_ble_eq_true rfl⟩) hS (fun S1 H locs hf hR hS => ?_)
  refine lv_aload_n B.1.1 B.1.2.1 dX10_share_171 rfl (hl.at 0 rfl) ?_
  refine y_getR B hR hf k_p0 fl_X10_41 dX10_share_172 (fun a2 k_a2 hf => ?_)
  refine lv_iload_n B.1.1 B.1.2.1 dX10_share_175 rfl (hl.at 2 rfl) ?_
  refine lv_aload_n B.1.1 B.1.2.1 dX10_share_176 rfl (hl.at 0 rfl) ?_
  refine y_getR B hR hf k_p0 fl_X10_35 dX10_share_177 (fun a3 k_a3 hf => ?_)
  refine lv_iload_n B.1.1 B.1.2.1 dX10_share_180 rfl (hl.at 2 rfl) ?_
  refine y_iald B hR hf k_a3 dX10_share_181 (fun v4 hf => ?_)
  refine y_iast B hR hS hf k_a2 dX10_share_182 (fun S5 H locs hf hR hS => ?_)
  refine y_iinc (d := 1) B hl hf dX10_share_183 rfl (by decide) (by decide) rfl (fun v6 ls hf hl => ?_)
  have hl : xL ls 4 [_, _, _, _] := hl
  refine lv_goto (tgt := 135) B.1.1 B.1.2.1 dX10_share_186 (by decide) ?_
  exact hrec_135 _ _ _ _ _ _ _ k_p0 hf hR hS hl
def f_X10_share_225 (T : xT) (rec_199 : xS → Nat → Int32 → Int32 → Option (xS)) (S : xS) (p0 : Nat) (p1 : Int32) (p2 : Int32) (ps0 : Int32) : Option (xS) := xl ps0 (fun v1 => xc (f_X10_stepAt T S ((6 : Int32))) (fun r3 S2 => xcv (f_X10_put T S2 p0 ((r3 + p2)) v1) (fun S4 => xcv (f_X10_more T S4 p0 (((5 : Int32) + p2)) v1) (fun S5 => xl (p2 + (1 : Int32)) (fun v6 => rec_199 S5 p0 p1 v6)))))
set_option maxRecDepth 100000 in
set_option maxHeartbeats 4000000 in
theorem w_X10_share_225 {p : Program} {l : Launch} {e : Env} {s : State} {m : MethodId} {args : Array Value} {below : List Frame} {meth : Method} {c : Code} {z : Nat} {D : va_G} {dA : Nat → ClassId} {T : xT} (B : xB p s m args meth c cX10_share RX10 4 none D dA) {q : xS} {rec_199 : xS → Nat → Int32 → Int32 → Option (xS)} (hrec_199 : ∀ (S : xS) (H : Heap) (locs : List Loc) (ls : Array Slot) (p0 : Nat) (p1 : Int32) (p2 : Int32), xlk T p0 10 = true → rec_199 S p0 p1 p2 = some q → xRel z D dA T S H → va_S (xA z) s.heap H locs → xL ls 4 [some (.ref (z + p0)), some (.int p1), some (.int p2), none] → xGv p l e xr_X10_share s m args below meth c z D dA T q H locs 199 ls []) : ∀ (S : xS) (H : Heap) (locs : List Loc) (ls : Array Slot) (p0 : Nat) (p1 : Int32) (p2 : Int32) (ps0 : Int32), xlk T p0 10 = true → f_X10_share_225 T rec_199 S p0 p1 p2 ps0 = some q → xRel z D dA T S H → va_S (xA z) s.heap H locs → xL ls 4 [some (.ref (z + p0)), some (.int p1), some (.int p2), none] → xGv p l e xr_X10_share s m args below meth c z D dA T q H locs 225 ls [.int ps0] := by
  intro S H locs ls p0 p1 p2 ps0 k_p0 hf hR hS hl
  unfold f_X10_share_225 at hf
  refine y_istore_n B hl hf dX10_share_225 rfl (by decide) rfl (fun v1 ls hf hl => ?_)
  have hl : xL ls 4 [_, _, _, _] := hl
  refine lv_aload_n B.1.1 B.1.2.1 dX10_share_226 rfl (hl.at 0 rfl) ?_
  refine lv_bipush (v := 6) B.1.1 B.1.2.1 dX10_share_227 (by decide) ?_
  refine y_ci hf (fun q hq => y_runS B.1 B.2.2.2 hl hR hS cm_X10_243 ⟨rfl, rfl, Nat.le_of_ble_eq_true rfl, Nat.le_of_ble_eq_true rfl⟩ (c_X10_stepAt hq) rfl rfl (Nat.le_of_ble_eq_true rfl) dX10_share_229 ⟨Nat.le_of_ble_eq_true rfl, Nat.le_of_ble_eq_true rfl⟩) hS (fun r3 S2 H locs hf hR hS => ?_)
  refine lv_iload_n B.1.1 B.1.2.1 dX10_share_232 rfl (hl.at 2 rfl) ?_
  refine lv_iadd B.1.1 B.1.2.1 dX10_share_233 ?_
  refine lv_iload_n B.1.1 B.1.2.1 dX10_share_234 rfl (hl.at 3 rfl) ?_
  refine y_cv hf (fun q hq => x_runV (ci := 10) (C := RX10) B.1 B.2.2.2 hl hR hS cm_X10_71 ⟨rfl, rfl, Nat.le_of_ble_eq_true rfl, Nat.le_of_ble_eq_true rfl⟩ (by decide) rfl k_p0 (c_X10_put k_p0 hq) rfl rfl (Nat.le_of_ble_eq_true rfl) dX10_share_235 ⟨Nat.le_of_ble_eq_true rfl, Nat.le_of_ble_eq_true rfl⟩) hS (fun S4 H locs hf hR hS => ?_)
  refine lv_aload_n B.1.1 B.1.2.1 dX10_share_238 rfl (hl.at 0 rfl) ?_
  refine lv_iconst (v := 5) B.1.1 B.1.2.1 dX10_share_239 (by decide) ?_
  refine lv_iload_n B.1.1 B.1.2.1 dX10_share_240 rfl (hl.at 2 rfl) ?_
  refine lv_iadd B.1.1 B.1.2.1 dX10_share_241 ?_
  refine lv_iload_n B.1.1 B.1.2.1 dX10_share_242 rfl (hl.at 3 rfl) ?_
  refine y_cv hf (fun q hq => x_runV (ci := 10) (C := RX10) B.1 B.2.2.2 hl hR hS cm_X10_246 ⟨rfl, rfl, Nat.le_of_ble_eq_true rfl, Nat.le_of_ble_eq_true rfl⟩ (by decide) rfl k_p0 (c_X10_more k_p0 hq) rfl rfl (Nat.le_of_ble_eq_true rfl) dX10_share_243 ⟨Nat.le_of_ble_eq_true rfl, Nat.le_of_ble_eq_true rfl⟩) hS (fun S5 H locs hf hR hS => ?_)
  refine y_iinc (d := 1) B hl hf dX10_share_246 rfl (by decide) (by decide) rfl (fun v6 ls hf hl => ?_)
  have hl : xL ls 4 [_, _, _, _] := hl
  refine lv_goto (tgt := 199) B.1.1 B.1.2.1 dX10_share_249 (by decide) ?_
  exact hrec_199 _ _ _ _ _ _ _ k_p0 hf hR hS (hl.drop [true, true, true, false] rfl)
def f_X10_share_199 (T : xT) : Nat → xS → Nat → Int32 → Int32 → Option (xS)
  | 0, _, _, _, _ => none
  | n + 1, S, p0, p1, p2 => if (8 : Int32) ≤ p2 then xcv (f_X10_put T S p0 ((2 : Int32)) ((0 : Int32))) (fun S1 => some S1) else if (0 : Int32) ≤ p1 then xgr T S p0 18 20 (fun a2 => xai T S a2 p2 (fun v3 => f_X10_share_225 T (f_X10_share_199 T n) S p0 p1 p2 v3)) else xgr T S p0 18 20 (fun a4 => xai T S a4 p2 (fun v5 => f_X10_share_225 T (f_X10_share_199 T n) S p0 p1 p2 ((-v5))))
set_option maxRecDepth 100000 in
set_option maxHeartbeats 4000000 in
theorem w_X10_share_199 {p : Program} {l : Launch} {e : Env} {s : State} {m : MethodId} {args : Array Value} {below : List Frame} {meth : Method} {c : Code} {z : Nat} {D : va_G} {dA : Nat → ClassId} {T : xT} (B : xB p s m args meth c cX10_share RX10 4 none D dA) {q : xS} : ∀ (n : Nat), ∀ (S : xS) (H : Heap) (locs : List Loc) (ls : Array Slot) (p0 : Nat) (p1 : Int32) (p2 : Int32), xlk T p0 10 = true → f_X10_share_199 T n S p0 p1 p2 = some q → xRel z D dA T S H → va_S (xA z) s.heap H locs → xL ls 4 [some (.ref (z + p0)), some (.int p1), some (.int p2), none] → xGv p l e xr_X10_share s m args below meth c z D dA T q H locs 199 ls [] := by
  intro n
  induction n with
  | zero =>
    intro S H locs ls p0 p1 p2 k_p0 hf hR hS hl
    exact absurd hf (by simp [f_X10_share_199])
  | succ n ih =>
    intro S H locs ls p0 p1 p2 k_p0 hf hR hS hl
    unfold f_X10_share_199 at hf
    refine lv_iload_n B.1.1 B.1.2.1 dX10_share_199 rfl (hl.at 2 rfl) ?_
    refine lv_bipush (v := 8) B.1.1 B.1.2.1 dX10_share_200 (by decide) ?_
    refine y_icmp_ge (tgt := 252) B hf dX10_share_202 (by decide) (fun hf => ?_) (fun hf => ?_)
    · refine lv_aload_n B.1.1 B.1.2.1 dX10_share_252 rfl (hl.at 0 rfl) ?_
      refine lv_iconst (v := 2) B.1.1 B.1.2.1 dX10_share_253 (by decide) ?_
      refine lv_iconst (v := 0) B.1.1 B.1.2.1 dX10_share_254 (by decide) ?_
      refine y_cv hf (fun q hq => x_runV (ci := 10) (C := RX10) B.1 B.2.2.2 hl hR hS cm_X10_71 ⟨rfl, rfl, Nat.le_of_ble_eq_true rfl, Nat.le_of_ble_eq_true rfl⟩ (by decide) rfl k_p0 (c_X10_put k_p0 hq) rfl rfl (Nat.le_of_ble_eq_true rfl) dX10_share_255 ⟨Nat.le_of_ble_eq_true rfl, Nat.le_of_ble_eq_true rfl⟩) hS (fun S1 H locs hf hR hS => ?_)
      exact y_vret B hR hS hf dX10_share_258
    · refine lv_iload_n B.1.1 B.1.2.1 dX10_share_205 rfl (hl.at 1 rfl) ?_
      refine y_if_ge (tgt := 219) B hf dX10_share_206 (by decide) (fun hf => ?_) (fun hf => ?_)
      · refine lv_aload_n B.1.1 B.1.2.1 dX10_share_219 rfl (hl.at 0 rfl) ?_
        refine y_getR B hR hf k_p0 fl_X10_41 dX10_share_220 (fun a2 k_a2 hf => ?_)
        refine lv_iload_n B.1.1 B.1.2.1 dX10_share_223 rfl (hl.at 2 rfl) ?_
        refine y_iald B hR hf k_a2 dX10_share_224 (fun v3 hf => ?_)
        exact w_X10_share_225 B ih _ _ _ _ _ _ _ _ k_p0 hf hR hS hl
      · refine lv_aload_n B.1.1 B.1.2.1 dX10_share_209 rfl (hl.at 0 rfl) ?_
        refine y_getR B hR hf k_p0 fl_X10_41 dX10_share_210 (fun a4 k_a4 hf => ?_)
        refine lv_iload_n B.1.1 B.1.2.1 dX10_share_213 rfl (hl.at 2 rfl) ?_
        refine y_iald B hR hf k_a4 dX10_share_214 (fun v5 hf => ?_)
        refine lv_ineg B.1.1 B.1.2.1 dX10_share_215 ?_
        refine lv_goto (tgt := 225) B.1.1 B.1.2.1 dX10_share_216 (by decide) ?_
        exact w_X10_share_225 B ih _ _ _ _ _ _ _ _ k_p0 hf hR hS hl
def f_X10_share_135 (T : xT) : Nat → xS → Nat → Int32 → Int32 → Option (xS)
  | 0, _, _, _, _ => none
  | n + 1, S, p0, p1, p2 => if (8 : Int32) ≤ p2 then if (0 : Int32) ≤ p1 then xl ((0 : Int32)) (fun v1 => f_X10_share_199 T xfu S p0 p1 v1) else xcv (f_X10_limit T S p0) (fun S2 => xl ((0 : Int32)) (fun v3 => f_X10_share_199 T xfu S2 p0 p1 v3)) else xc (f_X10_stepAt T S ((5 : Int32))) (fun r5 S4 => if (0 : Int32) ≤ p1 then xgr T S4 p0 16 20 (fun a6 => xai T S4 a6 p2 (fun v7 => f_X10_share_168 T (f_X10_share_135 T n) S4 p0 p1 p2 p0 ((r5 + p2)) v7)) else xgr T S4 p0 16 20 (fun a8 => xai T S4 a8 p2 (fun v9 => f_X10_share_168 T (f_X10_share_135 T n) S4 p0 p1 p2 p0 ((r5 + p2)) ((-v9)))))
set_option maxRecDepth 100000 in
set_option maxHeartbeats 4000000 in
theorem w_X10_share_135 {p : Program} {l : Launch} {e : Env} {s : State} {m : MethodId} {args : Array Value} {below : List Frame} {meth : Method} {c : Code} {z : Nat} {D : va_G} {dA : Nat → ClassId} {T : xT} (B : xB p s m args meth c cX10_share RX10 4 none D dA) {q : xS} : ∀ (n : Nat), ∀ (S : xS) (H : Heap) (locs : List Loc) (ls : Array Slot) (p0 : Nat) (p1 : Int32) (p2 : Int32), xlk T p0 10 = true → f_X10_share_135 T n S p0 p1 p2 = some q → xRel z D dA T S H → va_S (xA z) s.heap H locs → xL ls 4 [some (.ref (z + p0)), some (.int p1), some (.int p2), none] → xGv p l e xr_X10_share s m args below meth c z D dA T q H locs 135 ls [] := by
  intro n
  induction n with
  | zero =>
    intro S H locs ls p0 p1 p2 k_p0 hf hR hS hl
    exact absurd hf (by simp [f_X10_share_135])
  | succ n ih =>
    intro S H locs ls p0 p1 p2 k_p0 hf hR hS hl
    unfold f_X10_share_135 at hf
    refine lv_iload_n B.1.1 B.1.2.1 dX10_share_135 rfl (hl.at 2 rfl) ?_
    refine lv_bipush (v := 8) B.1.1 B.1.2.1 dX10_share_136 (by decide) ?_
    refine y_icmp_ge (tgt := 189) B hf dX10_share_138 (by decide) (fun hf => ?_) (fun hf => ?_)
    · refine lv_iload_n B.1.1 B.1.2.1 dX10_share_189 rfl (hl.at 1 rfl) ?_
      refine y_if_ge (tgt := 197) B hf dX10_share_190 (by decide) (fun hf => ?_) (fun hf => ?_)
      · refine lv_iconst (v := 0) B.1.1 B.1.2.1 dX10_share_197 (by decide) ?_
        refine y_istore_n B hl hf dX10_share_198 rfl (by decide) rfl (fun v1 ls hf hl => ?_)
        have hl : xL ls 4 [_, _, _, _] := hl
        exact w_X10_share_199 B xfu _ _ _ _ _ _ _ k_p0 hf hR hS hl
      · refine lv_aload_n B.1.1 B.1.2.1 dX10_share_193 rfl (hl.at 0 rfl) ?_
        refine y_cv hf (fun q hq => x_runV (ci := 10) (C := RX10) B.1 B.2.2.2 hl hR hS cm_X10_271 ⟨rfl, rfl, Nat.le_of_ble_eq_true rfl, Nat.le_of_ble_eq_true rfl⟩ (by decide) rfl k_p0 (c_X10_limit k_p0 hq) rfl rfl (Nat.le_of_ble_eq_true rfl) dX10_share_194 ⟨Nat.le_of_ble_eq_true rfl, Nat.le_of_ble_eq_true rfl⟩) hS (fun S2 H locs hf hR hS => ?_)
        refine lv_iconst (v := 0) B.1.1 B.1.2.1 dX10_share_197 (by decide) ?_
        refine y_istore_n B hl hf dX10_share_198 rfl (by decide) rfl (fun v3 ls hf hl => ?_)
        have hl : xL ls 4 [_, _, _, _] := hl
        exact w_X10_share_199 B xfu _ _ _ _ _ _ _ k_p0 hf hR hS hl
    · refine lv_aload_n B.1.1 B.1.2.1 dX10_share_141 rfl (hl.at 0 rfl) ?_
      refine lv_iconst (v := 5) B.1.1 B.1.2.1 dX10_share_142 (by decide) ?_
      refine y_ci hf (fun q hq => y_runS B.1 B.2.2.2 hl hR hS cm_X10_243 ⟨rfl, rfl, Nat.le_of_ble_eq_true rfl, Nat.le_of_ble_eq_true rfl⟩ (c_X10_stepAt hq) rfl rfl (Nat.le_of_ble_eq_true rfl) dX10_share_143 ⟨Nat.le_of_ble_eq_true rfl, Nat.le_of_ble_eq_true rfl⟩) hS (fun r5 S4 H locs hf hR hS => ?_)
      refine lv_iload_n B.1.1 B.1.2.1 dX10_share_146 rfl (hl.at 2 rfl) ?_
      refine lv_iadd B.1.1 B.1.2.1 dX10_share_147 ?_
      refine lv_iload_n B.1.1 B.1.2.1 dX10_share_148 rfl (hl.at 1 rfl) ?_
      refine y_if_ge (tgt := 162) B hf dX10_share_149 (by decide) (fun hf => ?_) (fun hf => ?_)
      · refine lv_aload_n B.1.1 B.1.2.1 dX10_share_162 rfl (hl.at 0 rfl) ?_
        refine y_getR B hR hf k_p0 fl_X10_35 dX10_share_163 (fun a6 k_a6 hf => ?_)
        refine lv_iload_n B.1.1 B.1.2.1 dX10_share_166 rfl (hl.at 2 rfl) ?_
        refine y_iald B hR hf k_a6 dX10_share_167 (fun v7 hf => ?_)
        exact w_X10_share_168 B ih _ _ _ _ _ _ _ _ _ _ k_p0 k_p0 hf hR hS hl
      · refine lv_aload_n B.1.1 B.1.2.1 dX10_share_152 rfl (hl.at 0 rfl) ?_
        refine y_getR B hR hf k_p0 fl_X10_35 dX10_share_153 (fun a8 k_a8 hf => ?_)
        refine lv_iload_n B.1.1 B.1.2.1 dX10_share_156 rfl (hl.at 2 rfl) ?_
        refine y_iald B hR hf k_a8 dX10_share_157 (fun v9 hf => ?_)
        refine lv_ineg B.1.1 B.1.2.1 dX10_share_158 ?_
        refine lv_goto (tgt := 168) B.1.1 B.1.2.1 dX10_share_159 (by decide) ?_
        exact w_X10_share_168 B ih _ _ _ _ _ _ _ _ _ _ k_p0 k_p0 hf hR hS hl
def f_X10_share_19 (T : xT) : Nat → xS → Nat → Int32 → Int32 → Option (xS)
  | 0, _, _, _, _ => none
  | n + 1, S, p0, p1, p2 => if (8 : Int32) ≤ p2 then if (0 : Int32) ≤ p1 then xcv (f_X10_dealOut T S p0 p1) (fun S1 => xl ((0 : Int32)) (fun v2 => f_X10_share_135 T xfu S1 p0 p1 v2)) else xcv (f_X10_dealOut T S p0 ((-p1))) (fun S3 => xl ((0 : Int32)) (fun v4 => f_X10_share_135 T xfu S3 p0 p1 v4)) else xc (f_X10_isThere T S p0 p2) (fun r6 S5 => if r6 = (0 : Int32) then f_X10_share_51 T (f_X10_share_19 T n) S5 p0 p1 p2 ((0 : Int32)) else xgr T S5 p0 17 20 (fun a7 => xai T S5 a7 p2 (fun v8 => xc (f_X10_get T S5 p0 (((5 : Int32) + p2))) (fun r10 S9 => f_X10_share_51 T (f_X10_share_19 T n) S9 p0 p1 p2 ((v8 - r10))))))
set_option maxRecDepth 100000 in
set_option maxHeartbeats 4000000 in
theorem w_X10_share_19 {p : Program} {l : Launch} {e : Env} {s : State} {m : MethodId} {args : Array Value} {below : List Frame} {meth : Method} {c : Code} {z : Nat} {D : va_G} {dA : Nat → ClassId} {T : xT} (B : xB p s m args meth c cX10_share RX10 4 none D dA) {q : xS} : ∀ (n : Nat), ∀ (S : xS) (H : Heap) (locs : List Loc) (ls : Array Slot) (p0 : Nat) (p1 : Int32) (p2 : Int32), xlk T p0 10 = true → f_X10_share_19 T n S p0 p1 p2 = some q → xRel z D dA T S H → va_S (xA z) s.heap H locs → xL ls 4 [some (.ref (z + p0)), some (.int p1), some (.int p2), none] → xGv p l e xr_X10_share s m args below meth c z D dA T q H locs 19 ls [] := by
  intro n
  induction n with
  | zero =>
    intro S H locs ls p0 p1 p2 k_p0 hf hR hS hl
    exact absurd hf (by simp [f_X10_share_19])
  | succ n ih =>
    intro S H locs ls p0 p1 p2 k_p0 hf hR hS hl
    unfold f_X10_share_19 at hf
    refine lv_iload_n B.1.1 B.1.2.1 dX10_share_19 rfl (hl.at 2 rfl) ?_
    refine lv_bipush (v := 8) B.1.1 B.1.2.1 dX10_share_20 (by decide) ?_
    refine y_icmp_ge (tgt := 119) B hf dX10_share_22 (by decide) (fun hf => ?_) (fun hf => ?_)
    · refine lv_aload_n B.1.1 B.1.2.1 dX10_share_119 rfl (hl.at 0 rfl) ?_
      refine lv_iload_n B.1.1 B.1.2.1 dX10_share_120 rfl (hl.at 1 rfl) ?_
      refine y_if_ge (tgt := 129) B hf dX10_share_121 (by decide) (fun hf => ?_) (fun hf => ?_)
      · refine lv_iload_n B.1.1 B.1.2.1 dX10_share_129 rfl (hl.at 1 rfl) ?_
        refine y_cv hf (fun q hq => x_runV (ci := 10) (C := RX10) B.1 B.2.2.2 hl hR hS cm_X10_209 ⟨rfl, rfl, Nat.le_of_ble_eq_true rfl, Nat.le_of_ble_eq_true rfl⟩ (by decide) rfl k_p0 (c_X10_dealOut k_p0 hq) rfl rfl (Nat.le_of_ble_eq_true rfl) dX10_share_130 ⟨Nat.le_of_ble_eq_true rfl, Nat.le_of_ble_eq_true rfl⟩) hS (fun S1 H locs hf hR hS => ?_)
        refine lv_iconst (v := 0) B.1.1 B.1.2.1 dX10_share_133 (by decide) ?_
        refine y_istore_n B hl hf dX10_share_134 rfl (by decide) rfl (fun v2 ls hf hl => ?_)
        have hl : xL ls 4 [_, _, _, _] := hl
        exact w_X10_share_135 B xfu _ _ _ _ _ _ _ k_p0 hf hR hS hl
      · refine lv_iload_n B.1.1 B.1.2.1 dX10_share_124 rfl (hl.at 1 rfl) ?_
        refine lv_ineg B.1.1 B.1.2.1 dX10_share_125 ?_
        refine lv_goto (tgt := 130) B.1.1 B.1.2.1 dX10_share_126 (by decide) ?_
        refine y_cv hf (fun q hq => x_runV (ci := 10) (C := RX10) B.1 B.2.2.2 hl hR hS cm_X10_209 ⟨rfl, rfl, Nat.le_of_ble_eq_true rfl, Nat.le_of_ble_eq_true rfl⟩ (by decide) rfl k_p0 (c_X10_dealOut k_p0 hq) rfl rfl (Nat.le_of_ble_eq_true rfl) dX10_share_130 ⟨Nat.le_of_ble_eq_true rfl, Nat.le_of_ble_eq_true rfl⟩) hS (fun S3 H locs hf hR hS => ?_)
        refine lv_iconst (v := 0) B.1.1 B.1.2.1 dX10_share_133 (by decide) ?_
        refine y_istore_n B hl hf dX10_share_134 rfl (by decide) rfl (fun v4 ls hf hl => ?_)
        have hl : xL ls 4 [_, _, _, _] := hl
        exact w_X10_share_135 B xfu _ _ _ _ _ _ _ k_p0 hf hR hS hl
    · refine lv_aload_n B.1.1 B.1.2.1 dX10_share_25 rfl (hl.at 0 rfl) ?_
      refine lv_iload_n B.1.1 B.1.2.1 dX10_share_26 rfl (hl.at 2 rfl) ?_
      refine y_ci hf (fun q hq => x_runV (ci := 10) (C := RX10) B.1 B.2.2.2 hl hR hS cm_X10_203 ⟨rfl, rfl, Nat.le_of_ble_eq_true rfl, Nat.le_of_ble_eq_true rfl⟩ (by decide) rfl k_p0 (c_X10_isThere k_p0 hq) rfl rfl (Nat.le_of_ble_eq_true rfl) dX10_share_27 ⟨Nat.le_of_ble_eq_true rfl, Nat.le_of_ble_eq_true rfl⟩) hS (fun r6 S5 H locs hf hR hS => ?_)
      refine y_if_eq (tgt := 50) B hf dX10_share_30 (by decide) (fun hf => ?_) (fun hf => ?_)
      · refine lv_iconst (v := 0) B.1.1 B.1.2.1 dX10_share_50 (by decide) ?_
        exact w_X10_share_51 B ih _ _ _ _ _ _ _ _ k_p0 hf hR hS hl
      · refine lv_aload_n B.1.1 B.1.2.1 dX10_share_33 rfl (hl.at 0 rfl) ?_
        refine y_getR B hR hf k_p0 fl_X10_38 dX10_share_34 (fun a7 k_a7 hf => ?_)
        refine lv_iload_n B.1.1 B.1.2.1 dX10_share_37 rfl (hl.at 2 rfl) ?_
        refine y_iald B hR hf k_a7 dX10_share_38 (fun v8 hf => ?_)
        refine lv_aload_n B.1.1 B.1.2.1 dX10_share_39 rfl (hl.at 0 rfl) ?_
        refine lv_iconst (v := 5) B.1.1 B.1.2.1 dX10_share_40 (by decide) ?_
        refine lv_iload_n B.1.1 B.1.2.1 dX10_share_41 rfl (hl.at 2 rfl) ?_
        refine lv_iadd B.1.1 B.1.2.1 dX10_share_42 ?_
        refine y_ci hf (fun q hq => x_runV (ci := 10) (C := RX10) B.1 B.2.2.2 hl hR hS cm_X10_193 ⟨rfl, rfl, Nat.le_of_ble_eq_true rfl, Nat.le_of_ble_eq_true rfl⟩ (by decide) rfl k_p0 (c_X10_get k_p0 hq) rfl rfl (Nat.le_of_ble_eq_true rfl) dX10_share_43 ⟨Nat.le_of_ble_eq_true rfl, Nat.le_of_ble_eq_true rfl⟩) hS (fun r10 S9 H locs hf hR hS => ?_)
        refine lv_isub B.1.1 B.1.2.1 dX10_share_46 ?_
        refine lv_goto (tgt := 51) B.1.1 B.1.2.1 dX10_share_47 (by decide) ?_
        exact w_X10_share_51 B ih _ _ _ _ _ _ _ _ k_p0 hf hR hS hl
def f_X10_share (T : xT) (S : xS) (p0 : Nat) : Option (xS) := xc (f_X10_get T S p0 ((2 : Int32))) (fun r2 S1 => xl r2 (fun v3 => xc (f_X10_sumOf T S1 p0 ((5 : Int32))) (fun r5 S4 => xcv (f_X10_laySale T S4 p0 ((r5 + v3))) (fun S6 => xl ((0 : Int32)) (fun v7 => f_X10_share_19 T xfu S6 p0 v3 v7)))))
set_option maxRecDepth 100000 in
set_option maxHeartbeats 4000000 in
theorem c_X10_share {l : Launch} {z : Nat} {D : va_G} {dA : Nat → ClassId} {T : xT} {S : xS} {p0 : Nat} (k_p0 : xlk T p0 10 = true) {q : xS} (hf : f_X10_share T S p0 = some q) : Met l yX10_share (xws yX10_share cX10_share 4 none) xr_X10_share (xPc z D dA T S [.ref (z + p0)]) (xQv z D dA T q) 0 0 (xA z) := by
  refine x_met RX10 (by decide) rfl (Nat.le_of_ble_eq_true rfl) ?_
  intro p e s m below meth c ls _ X hr hlk hml _ hR hS hl
  have B : xB p s m _ meth c cX10_share RX10 4 none D dA := ⟨X, hr, hlk, hml⟩
  have hl : xL ls 4 [_, _, _, _] := hl
  unfold f_X10_share at hf
  refine lv_aload_n B.1.1 B.1.2.1 dX10_share_0 rfl (hl.at 0 rfl) ?_
  refine lv_iconst (v := 2) B.1.1 B.1.2.1 dX10_share_1 (by decide) ?_
  refine y_ci hf (fun q hq => x_runV (ci := 10) (C := RX10) B.1 B.2.2.2 hl hR hS cm_X10_193 ⟨rfl, rfl, Nat.le_of_ble_eq_true rfl, Nat.le_of_ble_eq_true rfl⟩ (by decide) rfl k_p0 (c_X10_get k_p0 hq) rfl rfl (Nat.le_of_ble_eq_true rfl) dX10_share_2 ⟨Nat.le_of_ble_eq_true rfl, Nat.le_of_ble_eq_true rfl⟩) hS (fun r2 S1 H locs hf hR hS => ?_)
  refine y_istore_n B hl hf dX10_share_5 rfl (by decide) rfl (fun v3 ls hf hl => ?_)
  have hl : xL ls 4 [_, _, _, _] := hl
  refine lv_aload_n B.1.1 B.1.2.1 dX10_share_6 rfl (hl.at 0 rfl) ?_
  refine lv_aload_n B.1.1 B.1.2.1 dX10_share_7 rfl (hl.at 0 rfl) ?_
  refine lv_iconst (v := 5) B.1.1 B.1.2.1 dX10_share_8 (by decide) ?_
  refine y_ci hf (fun q hq => x_runV (ci := 10) (C := RX10) B.1 B.2.2.2 hl hR hS cm_X10_228 ⟨rfl, rfl, Nat.le_of_ble_eq_true rfl, Nat.le_of_ble_eq_true rfl⟩ (by decide) rfl k_p0 (c_X10_sumOf k_p0 hq) rfl rfl (Nat.le_of_ble_eq_true rfl) dX10_share_9 ⟨Nat.le_of_ble_eq_true rfl, Nat.le_of_ble_eq_true rfl⟩) hS (fun r5 S4 H locs hf hR hS => ?_)
  refine lv_iload_n B.1.1 B.1.2.1 dX10_share_12 rfl (hl.at 1 rfl) ?_
  refine lv_iadd B.1.1 B.1.2.1 dX10_share_13 ?_
  refine y_cv hf (fun q hq => x_runV (ci := 10) (C := RX10) B.1 B.2.2.2 hl hR hS cm_X10_215 ⟨rfl, rfl, Nat.le_of_ble_eq_true rfl, Nat.le_of_ble_eq_true rfl⟩ (by decide) rfl k_p0 (c_X10_laySale k_p0 hq) rfl rfl (Nat.le_of_ble_eq_true rfl) dX10_share_14 ⟨Nat.le_of_ble_eq_true rfl, Nat.le_of_ble_eq_true rfl⟩) hS (fun S6 H locs hf hR hS => ?_)
  refine lv_iconst (v := 0) B.1.1 B.1.2.1 dX10_share_17 (by decide) ?_
  refine y_istore_n B hl hf dX10_share_18 rfl (by decide) rfl (fun v7 ls hf hl => ?_)
  have hl : xL ls 4 [_, _, _, _] := hl
  exact w_X10_share_19 B xfu _ _ _ _ _ _ _ k_p0 hf hR hS hl
