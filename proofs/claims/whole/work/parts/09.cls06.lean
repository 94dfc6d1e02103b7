abbrev xr_X2_limitLosses : Room := { frames := 4, cells := 0, slots := 0, locals := 88 }
def f_X2_limitLosses_50 (T : xT) : Nat → xS → Nat → Nat → Int32 → Option (Int32 × xS)
  | 0, _, _, _, _ => none
  | n + 1, S, p0, p1, p2 => if (8 : Int32) < p2 then some ((0 : Int32), S) else xc (f_X2_cutToRooms T S p0) (fun r2 S1 => xl r2 (fun v3 => if v3 = (0 : Int32) then some ((0 : Int32), S1) else xc (f_X2_withRoomLeft T S1 p0 p1) (fun r5 S4 => xl r5 (fun v6 => if v6 = (0 : Int32) then xcv (f_X2_addToFirst T S4 p0 p1 v3) (fun S13 => some (v3, S13)) else xgr T S4 p1 8 20 (fun a7 => xcv (f_X2_dealByRatio T S4 p0 v3 a7 v6) (fun S8 => xgr T S8 p0 6 20 (fun a9 => xgr T S8 p0 5 20 (fun a10 => xcv (f_X9_addAll T S8 a9 a10) (fun S11 => xl (p2 + (1 : Int32)) (fun v12 => f_X2_limitLosses_50 T n S11 p0 p1 v12))))))))))
set_option maxRecDepth 100000 in
set_option maxHeartbeats 4000000 in
theorem w_X2_limitLosses_50 {p : Program} {l : Launch} {e : Env} {s : State} {m : MethodId} {args : Array Value} {below : List Frame} {meth : Method} {c : Code} {z : Nat} {D : va_G} {dA : Nat → ClassId} {T : xT} (B : xB p s m args meth c cX2_limitLosses RX2 5 (some .int) D dA) {q : Int32 × xS} : ∀ (n : Nat), ∀ (S : xS) (H : Heap) (locs : List Loc) (ls : Array Slot) (p0 : Nat) (p1 : Nat) (p2 : Int32), xlk T p0 2 = true → xlk T p1 1 = true → f_X2_limitLosses_50 T n S p0 p1 p2 = some q → xRel z D dA T S H → va_S (xA z) s.heap H locs → xL ls 5 [some (.ref (z + p0)), some (.ref (z + p1)), some (.int p2), none, none] → xGi p l e xr_X2_limitLosses s m args below meth c z D dA T q H locs 50 ls [] := by
  intro n
  induction n with
  | zero =>
    intro S H locs ls p0 p1 p2 k_p0 k_p1 hf hR hS hl
    exact absurd hf (by simp [f_X2_limitLosses_50])
  | succ n ih =>
    intro S H locs ls p0 p1 p2 k_p0 k_p1 hf hR hS hl
    unfold f_X2_limitLosses_50 at hf
    refine lv_iload_n B.1.1 B.1.2.1 dX2_limitLosses_50 rfl (hl.at 2 rfl) ?_
    refine lv_bipush (v := 8) B.1.1 B.1.2.1 dX2_limitLosses_51 (by decide) ?_
    refine y_icmp_gt (tgt := 115) B hf dX2_limitLosses_53 (by decide) (fun hf => ?_) (fun hf => ?_)
    · refine lv_iconst (v := 0) B.1.1 B.1.2.1 dX2_limitLosses_115 (by decide) ?_
      exact y_iret B hR hS hf dX2_limitLosses_116
    · refine lv_aload_n B.1.1 B.1.2.1 dX2_limitLosses_56 rfl (hl.at 0 rfl) ?_
      refine y_ci hf (fun q hq => x_runV (ci := 2) (C := RX2) B.1 B.2.2.2 hl hR hS cm_X2_188 ⟨rfl, rfl, Nat.le_of_ble_eq_true rfl, Nat.le_of_ble_eq_true rfl⟩ (by decide) rfl k_p0 (c_X2_cutToRooms k_p0 hq) rfl rfl (Nat.le_of_ble_eq_true rfl) dX2_limitLosses_57 ⟨Nat.le_of_ble_eq_true rfl, Nat.le_of_ble_eq_true rfl⟩) hS (fun r2 S1 H locs hf hR hS => ?_)
      refine y_istore_n B hl hf dX2_limitLosses_60 rfl (by decide) rfl (fun v3 ls hf hl => ?_)
      have hl : xL ls 5 [_, _, _, _, _] := hl
      refine lv_iload_n B.1.1 B.1.2.1 dX2_limitLosses_61 rfl (hl.at 3 rfl) ?_
      refine y_if_ne (tgt := 67) B hf dX2_limitLosses_62 (by decide) (fun hf => ?_) (fun hf => ?_)
      · refine lv_aload_n B.1.1 B.1.2.1 dX2_limitLosses_67 rfl (hl.at 0 rfl) ?_
        refine lv_aload_n B.1.1 B.1.2.1 dX2_limitLosses_68 rfl (hl.at 1 rfl) ?_
        refine y_ci hf (fun q hq => x_runV (ci := 2) (C := RX2) B.1 B.2.2.2 hl hR hS cm_X2_191 ⟨rfl, rfl, Nat.le_of_ble_eq_true rfl, Nat.le_of_ble_eq_true rfl⟩ (by decide) rfl k_p0 (c_X2_withRoomLeft k_p0 k_p1 hq) rfl rfl (Nat.le_of_ble_eq_true rfl) dX2_limitLosses_69 ⟨Nat.le_of_ble_eq_true rfl, Nat.le_of_ble_eq_true rfl⟩) hS (fun r5 S4 H locs hf hR hS => ?_)
        refine y_istore B hl hf dX2_limitLosses_72 (by decide) rfl (fun v6 ls hf hl => ?_)
        have hl : xL ls 5 [_, _, _, _, _] := hl
        refine lv_iload B.1.1 B.1.2.1 dX2_limitLosses_74 (hl.at 4 rfl) ?_
        refine y_if_ne (tgt := 87) B hf dX2_limitLosses_76 (by decide) (fun hf => ?_) (fun hf => ?_)
        · refine lv_aload_n B.1.1 B.1.2.1 dX2_limitLosses_87 rfl (hl.at 0 rfl) ?_
          refine lv_iload_n B.1.1 B.1.2.1 dX2_limitLosses_88 rfl (hl.at 3 rfl) ?_
          refine lv_aload_n B.1.1 B.1.2.1 dX2_limitLosses_89 rfl (hl.at 1 rfl) ?_
          refine y_getR B hR hf k_p1 fl_X2_142 dX2_limitLosses_90 (fun a7 k_a7 hf => ?_)
          refine lv_iload B.1.1 B.1.2.1 dX2_limitLosses_93 (hl.at 4 rfl) ?_
          refine y_cv hf (fun q hq => x_runV (ci := 2) (C := RX2) B.1 B.2.2.2 hl hR hS cm_X2_145 ⟨rfl, rfl, Nat.le_of_ble_eq_true rfl, Nat.le_of_ble_eq_true rfl⟩ (by decide) rfl k_p0 (c_X2_dealByRatio k_p0 k_a7 hq) rfl rfl (Nat.le_of_ble_eq_true rfl) dX2_limitLosses_95 ⟨Nat.le_of_ble_eq_true rfl, Nat.le_of_ble_eq_true rfl⟩) hS (fun S8 H locs hf hR hS => ?_)
          refine lv_aload_n B.1.1 B.1.2.1 dX2_limitLosses_98 rfl (hl.at 0 rfl) ?_
          refine y_getR B hR hf k_p0 fl_X2_24 dX2_limitLosses_99 (fun a9 k_a9 hf => ?_)
          refine lv_aload_n B.1.1 B.1.2.1 dX2_limitLosses_102 rfl (hl.at 0 rfl) ?_
          refine y_getR B hR hf k_p0 fl_X2_21 dX2_limitLosses_103 (fun a10 k_a10 hf => ?_)
          refine y_cv hf (fun q hq => x_runN B.1 B.2.2.2 hl hR hS cm_X2_75 ⟨rfl, rfl, Nat.le_of_ble_eq_true rfl, Nat.le_of_ble_eq_true rfl⟩ (c_X9_addAll k_a9 k_a10 hq) rfl rfl (Nat.le_of_ble_eq_true rfl) dX2_limitLosses_106 ⟨Nat.le_of_ble_eq_true rfl, Nat.le_of_ble_eq_true rfl⟩) hS (fun S11 H locs hf hR hS => ?_)
          refine y_iinc (d := 1) B hl hf dX2_limitLosses_109 rfl (by decide) (by decide) rfl (fun v12 ls hf hl => ?_)
          have hl : xL ls 5 [_, _, _, _, _] := hl
          refine lv_goto (tgt := 50) B.1.1 B.1.2.1 dX2_limitLosses_112 (by decide) ?_
          exact ih _ _ _ _ _ _ _ k_p0 k_p1 hf hR hS (hl.drop [true, true, true, false, false] rfl)
        · refine lv_aload_n B.1.1 B.1.2.1 dX2_limitLosses_79 rfl (hl.at 0 rfl) ?_
          refine lv_aload_n B.1.1 B.1.2.1 dX2_limitLosses_80 rfl (hl.at 1 rfl) ?_
          refine lv_iload_n B.1.1 B.1.2.1 dX2_limitLosses_81 rfl (hl.at 3 rfl) ?_
          refine y_cv hf (fun q hq => x_runV (ci := 2) (C := RX2) B.1 B.2.2.2 hl hR hS cm_X2_194 ⟨rfl, rfl, Nat.le_of_ble_eq_true rfl, Nat.le_of_ble_eq_true rfl⟩ (by decide) rfl k_p0 (c_X2_addToFirst k_p0 k_p1 hq) rfl rfl (Nat.le_of_ble_eq_true rfl) dX2_limitLosses_82 ⟨Nat.le_of_ble_eq_true rfl, Nat.le_of_ble_eq_true rfl⟩) hS (fun S13 H locs hf hR hS => ?_)
          refine lv_iload_n B.1.1 B.1.2.1 dX2_limitLosses_85 rfl (hl.at 3 rfl) ?_
          exact y_iret B hR hS hf dX2_limitLosses_86
      · refine lv_iconst (v := 0) B.1.1 B.1.2.1 dX2_limitLosses_65 (by decide) ?_
        exact y_iret B hR hS hf dX2_limitLosses_66
def f_X2_limitLosses_2 (T : xT) : Nat → xS → Nat → Nat → Int32 → Option (Int32 × xS)
  | 0, _, _, _, _ => none
  | n + 1, S, p0, p1, p2 => if (8 : Int32) ≤ p2 then xl ((0 : Int32)) (fun v1 => f_X2_limitLosses_50 T xfu S p0 p1 v1) else xgr T S p0 7 20 (fun a2 => xc (f_X1_hasPartner T S p1 p2) (fun r4 S3 => if r4 = (0 : Int32) then xst T S3 a2 p2 ((0 : Int32)) (fun S5 => xl (p2 + (1 : Int32)) (fun v6 => f_X2_limitLosses_2 T n S5 p0 p1 v6)) else xgr T S3 p1 6 20 (fun a7 => xai T S3 a7 p2 (fun v8 => xc (f_X1_floorOf T S3 p1 p2) (fun r10 S9 => xst T S9 a2 p2 ((xmax ((0 : Int32)) ((v8 - r10)))) (fun S11 => xl (p2 + (1 : Int32)) (fun v12 => f_X2_limitLosses_2 T n S11 p0 p1 v12)))))))
set_option maxRecDepth 100000 in
set_option maxHeartbeats 4000000 in
theorem w_X2_limitLosses_2 {p : Program} {l : Launch} {e : Env} {s : State} {m : MethodId} {args : Array Value} {below : List Frame} {meth : Method} {c : Code} {z : Nat} {D : va_G} {dA : Nat → ClassId} {T : xT} (B : xB p s m args meth c cX2_limitLosses RX2 5 (some .int) D dA) {q : Int32 × xS} : ∀ (n : Nat), ∀ (S : xS) (H : Heap) (locs : List Loc) (ls : Array Slot) (p0 : Nat) (p1 : Nat) (p2 : Int32), xlk T p0 2 = true → xlk T p1 1 = true → f_X2_limitLosses_2 T n S p0 p1 p2 = some q → xRel z D dA T S H → va_S (xA z) s.heap H locs → xL ls 5 [some (.ref (z + p0)), some (.ref (z + p1)), some (.int p2), none, none] → xGi p l e xr_X2_limitLosses s m args below meth c z D dA T q H locs 2 ls [] := by
  intro n
  induction n with
  | zero =>
    intro S H locs ls p0 p1 p2 k_p0 k_p1 hf hR hS hl
    exact absurd hf (by simp [f_X2_limitLosses_2])
  | succ n ih =>
    intro S H locs ls p0 p1 p2 k_p0 k_p1 hf hR hS hl
    unfold f_X2_limitLosses_2 at hf
    refine lv_iload_n B.1.1 B.1.2.1 dX2_limitLosses_2 rfl (hl.at 2 rfl) ?_
    refine lv_bipush (v := 8) B.1.1 B.1.2.1 dX2_limitLosses_3 (by decide) ?_
    refine y_icmp_ge (tgt := 48) B hf dX2_limitLosses_5 (by decide) (fun hf => ?_) (fun hf => ?_)
    · refine lv_iconst (v := 0) B.1.1 B.1.2.1 dX2_limitLosses_48 (by decide) ?_
      refine y_istore_n B hl hf dX2_limitLosses_49 rfl (by decide) rfl (fun v1 ls hf hl => ?_)
      have hl : xL ls 5 [_, _, _, _, _] := hl
      exact w_X2_limitLosses_50 B xfu _ _ _ _ _ _ _ k_p0 k_p1 hf hR hS hl
    · refine lv_aload_n B.1.1 B.1.2.1 dX2_limitLosses_8 rfl (hl.at 0 rfl) ?_
      refine y_getR B hR hf k_p0 fl_X2_27 dX2_limitLosses_9 (fun a2 k_a2 hf => ?_)
      refine lv_iload_n B.1.1 B.1.2.1 dX2_limitLosses_12 rfl (hl.at 2 rfl) ?_
      refine lv_aload_n B.1.1 B.1.2.1 dX2_limitLosses_13 rfl (hl.at 1 rfl) ?_
      refine lv_iload_n B.1.1 B.1.2.1 dX2_limitLosses_14 rfl (hl.at 2 rfl) ?_
      refine y_ci hf (fun q hq => x_runV (ci := 1) (C := RX1) B.1 B.2.2.2 hl hR hS cm_X2_149 ⟨rfl, rfl, Nat.le_of_ble_eq_true rfl, Nat.le_of_ble_eq_true rfl⟩ (by decide) rfl k_p1 (c_X1_hasPartner k_p1 hq) rfl rfl (Nat.le_of_ble_eq_true rfl) dX2_limitLosses_15 ⟨Nat.le_of_ble_eq_true rfl, Nat.le_of_ble_eq_true rfl⟩) hS (fun r4 S3 H locs hf hR hS => ?_)
      refine y_if_eq (tgt := 40) B hf dX2_limitLosses_18 (by decide) (fun hf => ?_) (fun hf => ?_)
      · refine lv_iconst (v := 0) B.1.1 B.1.2.1 dX2_limitLosses_40 (by decide) ?_
        refine y_iast B hR hS hf k_a2 dX2_limitLosses_41 (fun S5 H locs hf hR hS => ?_)
        refine y_iinc (d := 1) B hl hf dX2_limitLosses_42 rfl (by decide) (by decide) rfl (fun v6 ls hf hl => ?_)
        have hl : xL ls 5 [_, _, _, _, _] := hl
        refine lv_goto (tgt := 2) B.1.1 B.1.2.1 dX2_limitLosses_45 (by decide) ?_
        exact ih _ _ _ _ _ _ _ k_p0 k_p1 hf hR hS hl
      · refine lv_iconst (v := 0) B.1.1 B.1.2.1 dX2_limitLosses_21 (by decide) ?_
        refine lv_aload_n B.1.1 B.1.2.1 dX2_limitLosses_22 rfl (hl.at 1 rfl) ?_
        refine y_getR B hR hf k_p1 fl_X2_85 dX2_limitLosses_23 (fun a7 k_a7 hf => ?_)
        refine lv_iload_n B.1.1 B.1.2.1 dX2_limitLosses_26 rfl (hl.at 2 rfl) ?_
        refine y_iald B hR hf k_a7 dX2_limitLosses_27 (fun v8 hf => ?_)
        refine lv_aload_n B.1.1 B.1.2.1 dX2_limitLosses_28 rfl (hl.at 1 rfl) ?_
        refine lv_iload_n B.1.1 B.1.2.1 dX2_limitLosses_29 rfl (hl.at 2 rfl) ?_
        refine y_ci hf (fun q hq => x_runV (ci := 1) (C := RX1) B.1 B.2.2.2 hl hR hS cm_X2_153 ⟨rfl, rfl, Nat.le_of_ble_eq_true rfl, Nat.le_of_ble_eq_true rfl⟩ (by decide) rfl k_p1 (c_X1_floorOf k_p1 hq) rfl rfl (Nat.le_of_ble_eq_true rfl) dX2_limitLosses_30 ⟨Nat.le_of_ble_eq_true rfl, Nat.le_of_ble_eq_true rfl⟩) hS (fun r10 S9 H locs hf hR hS => ?_)
        refine lv_isub B.1.1 B.1.2.1 dX2_limitLosses_33 ?_
        refine y_mmax B hl ma_X2_36 ⟨Nat.le_of_ble_eq_true rfl, Nat.le_of_ble_eq_true rfl⟩ ⟨Nat.le_of_ble_eq_true rfl, Nat.le_of_ble_eq_true rfl⟩ dX2_limitLosses_34 ?_
        refine lv_goto (tgt := 41) B.1.1 B.1.2.1 dX2_limitLosses_37 (by decide) ?_
        refine y_iast B hR hS hf k_a2 dX2_limitLosses_41 (fun S11 H locs hf hR hS => ?_)
        refine y_iinc (d := 1) B hl hf dX2_limitLosses_42 rfl (by decide) (by decide) rfl (fun v12 ls hf hl => ?_)
        have hl : xL ls 5 [_, _, _, _, _] := hl
        refine lv_goto (tgt := 2) B.1.1 B.1.2.1 dX2_limitLosses_45 (by decide) ?_
        exact ih _ _ _ _ _ _ _ k_p0 k_p1 hf hR hS hl
def f_X2_limitLosses (T : xT) (S : xS) (p0 : Nat) (p1 : Nat) : Option (Int32 × xS) := xl ((0 : Int32)) (fun v1 => f_X2_limitLosses_2 T xfu S p0 p1 v1)
set_option maxRecDepth 100000 in
set_option maxHeartbeats 4000000 in
theorem c_X2_limitLosses {l : Launch} {z : Nat} {D : va_G} {dA : Nat → ClassId} {T : xT} {S : xS} {p0 : Nat} {p1 : Nat} (k_p0 : xlk T p0 2 = true) (k_p1 : xlk T p1 1 = true) {q : Int32 × xS} (hf : f_X2_limitLosses T S p0 p1 = some q) : Met l yX2_limitLosses (xws yX2_limitLosses cX2_limitLosses 5 (some .int)) xr_X2_limitLosses (xPc z D dA T S [.ref (z + p0), .ref (z + p1)]) (xQi z D dA T q) 0 0 (xA z) := by
  refine x_met RX2 (by decide) rfl (Nat.le_of_ble_eq_true rfl) ?_
  intro p e s m below meth c ls _ X hr hlk hml _ hR hS hl
  have B : xB p s m _ meth c cX2_limitLosses RX2 5 (some .int) D dA := ⟨X, hr, hlk, hml⟩
  have hl : xL ls 5 [_, _, _, _, _] := hl
  unfold f_X2_limitLosses at hf
  refine lv_iconst (v := 0) B.1.1 B.1.2.1 dX2_limitLosses_0 (by decide) ?_
  refine y_istore_n B hl hf dX2_limitLosses_1 rfl (by decide) rfl (fun v1 ls hf hl => ?_)
  have hl : xL ls 5 [_, _, _, _, _] := hl
  exact w_X2_limitLosses_2 B xfu _ _ _ _ _ _ _ k_p0 k_p1 hf hR hS hl
abbrev xr_X2_shareOut : Room := { frames := 5, cells := 0, slots := 0, locals := 113 }
def f_X2_shareOut_15 (T : xT) : Nat → xS → Nat → Int32 → Nat → Nat → Int32 → Option (xS)
  | 0, _, _, _, _, _, _ => none
  | n + 1, S, p0, p1, p2, p4, p5 => if (8 : Int32) ≤ p5 then xgr T S p0 4 20 (fun a1 => xcv (f_X2_deal T S p0 ((xabs p1)) a1) (fun S2 => if p1 ≤ (0 : Int32) then xgr T S2 p0 5 20 (fun a3 => xgr T S2 p0 6 20 (fun a4 => xcv (f_X9_copyEight T S2 a3 a4) (fun S5 => xcv (f_X2_putLosses T S5 p0 ((5 : Int32)) p4) (fun S6 => xc (f_X2_limitLosses T S6 p0 p2) (fun r8 S7 => xpi S7 p4 1 r8 (fun S9 => xcv (f_X2_putLosses T S9 p0 ((6 : Int32)) p4) (fun S10 => xgr T S10 p2 6 20 (fun a11 => xgr T S10 p0 6 20 (fun a12 => xcv (f_X9_takeAll T S10 a11 a12) (fun S13 => some S13)))))))))) else xgr T S2 p2 6 20 (fun a14 => xgr T S2 p0 5 20 (fun a15 => xcv (f_X9_addAll T S2 a14 a15) (fun S16 => xgr T S16 p0 5 20 (fun a17 => xcv (f_X7_putRow T S16 p4 ((5 : Int32)) a17) (fun S18 => xgr T S18 p0 5 20 (fun a19 => xcv (f_X7_putRow T S18 p4 ((6 : Int32)) a19) (fun S20 => some S20))))))))) else xgr T S p0 4 20 (fun a21 => if p1 ≤ (0 : Int32) then xgr T S p0 1 20 (fun a22 => xai T S a22 p5 (fun v23 => xst T S a21 p5 ((xmax ((0 : Int32)) ((-v23)))) (fun S24 => xl (p5 + (1 : Int32)) (fun v25 => f_X2_shareOut_15 T n S24 p0 p1 p2 p4 v25)))) else xgr T S p0 1 20 (fun a26 => xai T S a26 p5 (fun v27 => xst T S a21 p5 ((xmax ((0 : Int32)) v27)) (fun S28 => xl (p5 + (1 : Int32)) (fun v29 => f_X2_shareOut_15 T n S28 p0 p1 p2 p4 v29)))))
set_option maxRecDepth 100000 in
set_option maxHeartbeats 4000000 in
theorem w_X2_shareOut_15 {p : Program} {l : Launch} {e : Env} {s : State} {m : MethodId} {args : Array Value} {below : List Frame} {meth : Method} {c : Code} {z : Nat} {D : va_G} {dA : Nat → ClassId} {T : xT} (B : xB p s m args meth c cX2_shareOut RX2 6 none D dA) {q : xS} : ∀ (n : Nat), ∀ (S : xS) (H : Heap) (locs : List Loc) (ls : Array Slot) (p0 : Nat) (p1 : Int32) (p2 : Nat) (p4 : Nat) (p5 : Int32), xlk T p0 2 = true → xlk T p2 1 = true → xlk T p4 7 = true → f_X2_shareOut_15 T n S p0 p1 p2 p4 p5 = some q → xRel z D dA T S H → va_S (xA z) s.heap H locs → xL ls 6 [some (.ref (z + p0)), some (.int p1), some (.ref (z + p2)), none, some (.ref (z + p4)), some (.int p5)] → xGv p l e xr_X2_shareOut s m args below meth c z D dA T q H locs 15 ls [] := by
  intro n
  induction n with
  | zero =>
    intro S H locs ls p0 p1 p2 p4 p5 k_p0 k_p2 k_p4 hf hR hS hl
    exact absurd hf (by simp [f_X2_shareOut_15])
  | succ n ih =>
    intro S H locs ls p0 p1 p2 p4 p5 k_p0 k_p2 k_p4 hf hR hS hl
    unfold f_X2_shareOut_15 at hf
    refine lv_iload B.1.1 B.1.2.1 dX2_shareOut_15 (hl.at 5 rfl) ?_
    refine lv_bipush (v := 8) B.1.1 B.1.2.1 dX2_shareOut_17 (by decide) ?_
    refine y_icmp_ge (tgt := 61) B hf dX2_shareOut_19 (by decide) (fun hf => ?_) (fun hf => ?_)
    · refine lv_aload_n B.1.1 B.1.2.1 dX2_shareOut_61 rfl (hl.at 0 rfl) ?_
      refine lv_iload_n B.1.1 B.1.2.1 dX2_shareOut_62 rfl (hl.at 1 rfl) ?_
      refine y_mabs B hl ma_X2_171 ⟨Nat.le_of_ble_eq_true rfl, Nat.le_of_ble_eq_true rfl⟩ ⟨Nat.le_of_ble_eq_true rfl, Nat.le_of_ble_eq_true rfl⟩ dX2_shareOut_63 ?_
      refine lv_aload_n B.1.1 B.1.2.1 dX2_shareOut_66 rfl (hl.at 0 rfl) ?_
      refine y_getR B hR hf k_p0 fl_X2_18 dX2_shareOut_67 (fun a1 k_a1 hf => ?_)
      refine y_cv hf (fun q hq => x_runV (ci := 2) (C := RX2) B.1 B.2.2.2 hl hR hS cm_X2_46 ⟨rfl, rfl, Nat.le_of_ble_eq_true rfl, Nat.le_of_ble_eq_true rfl⟩ (by decide) rfl k_p0 (c_X2_deal k_p0 k_a1 hq) rfl rfl (Nat.le_of_ble_eq_true rfl) dX2_shareOut_70 ⟨Nat.le_of_ble_eq_true rfl, Nat.le_of_ble_eq_true rfl⟩) hS (fun S2 H locs hf hR hS => ?_)
      refine lv_iload_n B.1.1 B.1.2.1 dX2_shareOut_73 rfl (hl.at 1 rfl) ?_
      refine y_if_le (tgt := 110) B hf dX2_shareOut_74 (by decide) (fun hf => ?_) (fun hf => ?_)
      · refine lv_aload_n B.1.1 B.1.2.1 dX2_shareOut_110 rfl (hl.at 0 rfl) ?_
        refine y_getR B hR hf k_p0 fl_X2_21 dX2_shareOut_111 (fun a3 k_a3 hf => ?_)
        refine lv_aload_n B.1.1 B.1.2.1 dX2_shareOut_114 rfl (hl.at 0 rfl) ?_
        refine y_getR B hR hf k_p0 fl_X2_24 dX2_shareOut_115 (fun a4 k_a4 hf => ?_)
        refine y_cv hf (fun q hq => x_runN B.1 B.2.2.2 hl hR hS cm_X2_174 ⟨rfl, rfl, Nat.le_of_ble_eq_true rfl, Nat.le_of_ble_eq_true rfl⟩ (c_X9_copyEight k_a3 k_a4 hq) rfl rfl (Nat.le_of_ble_eq_true rfl) dX2_shareOut_118 ⟨Nat.le_of_ble_eq_true rfl, Nat.le_of_ble_eq_true rfl⟩) hS (fun S5 H locs hf hR hS => ?_)
        refine lv_aload_n B.1.1 B.1.2.1 dX2_shareOut_121 rfl (hl.at 0 rfl) ?_
        refine lv_iconst (v := 5) B.1.1 B.1.2.1 dX2_shareOut_122 (by decide) ?_
        refine lv_aload B.1.1 B.1.2.1 dX2_shareOut_123 (hl.at 4 rfl) ?_
        refine y_cv hf (fun q hq => x_runV (ci := 2) (C := RX2) B.1 B.2.2.2 hl hR hS cm_X2_177 ⟨rfl, rfl, Nat.le_of_ble_eq_true rfl, Nat.le_of_ble_eq_true rfl⟩ (by decide) rfl k_p0 (c_X2_putLosses k_p0 k_p4 hq) rfl rfl (Nat.le_of_ble_eq_true rfl) dX2_shareOut_125 ⟨Nat.le_of_ble_eq_true rfl, Nat.le_of_ble_eq_true rfl⟩) hS (fun S6 H locs hf hR hS => ?_)
        refine lv_aload B.1.1 B.1.2.1 dX2_shareOut_128 (hl.at 4 rfl) ?_
        refine lv_aload_n B.1.1 B.1.2.1 dX2_shareOut_130 rfl (hl.at 0 rfl) ?_
        refine lv_aload_n B.1.1 B.1.2.1 dX2_shareOut_131 rfl (hl.at 2 rfl) ?_
        refine y_ci hf (fun q hq => x_runV (ci := 2) (C := RX2) B.1 B.2.2.2 hl hR hS cm_X2_181 ⟨rfl, rfl, Nat.le_of_ble_eq_true rfl, Nat.le_of_ble_eq_true rfl⟩ (by decide) rfl k_p0 (c_X2_limitLosses k_p0 k_p2 hq) rfl rfl (Nat.le_of_ble_eq_true rfl) dX2_shareOut_132 ⟨Nat.le_of_ble_eq_true rfl, Nat.le_of_ble_eq_true rfl⟩) hS (fun r8 S7 H locs hf hR hS => ?_)
        refine y_putI B hR hS hf k_p4 fp_X2_185 dX2_shareOut_135 (fun S9 H locs hf hR hS => ?_)
        refine lv_aload_n B.1.1 B.1.2.1 dX2_shareOut_138 rfl (hl.at 0 rfl) ?_
        refine lv_bipush (v := 6) B.1.1 B.1.2.1 dX2_shareOut_139 (by decide) ?_
        refine lv_aload B.1.1 B.1.2.1 dX2_shareOut_141 (hl.at 4 rfl) ?_
        refine y_cv hf (fun q hq => x_runV (ci := 2) (C := RX2) B.1 B.2.2.2 hl hR hS cm_X2_177 ⟨rfl, rfl, Nat.le_of_ble_eq_true rfl, Nat.le_of_ble_eq_true rfl⟩ (by decide) rfl k_p0 (c_X2_putLosses k_p0 k_p4 hq) rfl rfl (Nat.le_of_ble_eq_true rfl) dX2_shareOut_143 ⟨Nat.le_of_ble_eq_true rfl, Nat.le_of_ble_eq_true rfl⟩) hS (fun S10 H locs hf hR hS => ?_)
        refine lv_aload_n B.1.1 B.1.2.1 dX2_shareOut_146 rfl (hl.at 2 rfl) ?_
        refine y_getR B hR hf k_p2 fl_X2_85 dX2_shareOut_147 (fun a11 k_a11 hf => ?_)
        refine lv_aload_n B.1.1 B.1.2.1 dX2_shareOut_150 rfl (hl.at 0 rfl) ?_
        refine y_getR B hR hf k_p0 fl_X2_24 dX2_shareOut_151 (fun a12 k_a12 hf => ?_)
        refine y_cv hf (fun q hq => x_runN B.1 B.2.2.2 hl hR hS cm_X2_82 ⟨rfl, rfl, Nat.le_of_ble_eq_true rfl, Nat.le_of_ble_eq_true rfl⟩ (c_X9_takeAll k_a11 k_a12 hq) rfl rfl (Nat.le_of_ble_eq_true rfl) dX2_shareOut_154 ⟨Nat.le_of_ble_eq_true rfl, Nat.le_of_ble_eq_true rfl⟩) hS (fun S13 H locs hf hR hS => ?_)
        exact y_vret B hR hS hf dX2_shareOut_157
      · refine lv_aload_n B.1.1 B.1.2.1 dX2_shareOut_77 rfl (hl.at 2 rfl) ?_
        refine y_getR B hR hf k_p2 fl_X2_85 dX2_shareOut_78 (fun a14 k_a14 hf => ?_)
        refine lv_aload_n B.1.1 B.1.2.1 dX2_shareOut_81 rfl (hl.at 0 rfl) ?_
        refine y_getR B hR hf k_p0 fl_X2_21 dX2_shareOut_82 (fun a15 k_a15 hf => ?_)
        refine y_cv hf (fun q hq => x_runN B.1 B.2.2.2 hl hR hS cm_X2_75 ⟨rfl, rfl, Nat.le_of_ble_eq_true rfl, Nat.le_of_ble_eq_true rfl⟩ (c_X9_addAll k_a14 k_a15 hq) rfl rfl (Nat.le_of_ble_eq_true rfl) dX2_shareOut_85 ⟨Nat.le_of_ble_eq_true rfl, Nat.le_of_ble_eq_true rfl⟩) hS (fun S16 H locs hf hR hS => ?_)
        refine lv_aload B.1.1 B.1.2.1 dX2_shareOut_88 (hl.at 4 rfl) ?_
        refine lv_iconst (v := 5) B.1.1 B.1.2.1 dX2_shareOut_90 (by decide) ?_
        refine lv_aload_n B.1.1 B.1.2.1 dX2_shareOut_91 rfl (hl.at 0 rfl) ?_
        refine y_getR B hR hf k_p0 fl_X2_21 dX2_shareOut_92 (fun a17 k_a17 hf => ?_)
        refine y_cv hf (fun q hq => x_runV (ci := 7) (C := RX7) B.1 B.2.2.2 hl hR hS cm_X2_139 ⟨rfl, rfl, Nat.le_of_ble_eq_true rfl, Nat.le_of_ble_eq_true rfl⟩ (by decide) rfl k_p4 (c_X7_putRow k_p4 k_a17 hq) rfl rfl (Nat.le_of_ble_eq_true rfl) dX2_shareOut_95 ⟨Nat.le_of_ble_eq_true rfl, Nat.le_of_ble_eq_true rfl⟩) hS (fun S18 H locs hf hR hS => ?_)
        refine lv_aload B.1.1 B.1.2.1 dX2_shareOut_98 (hl.at 4 rfl) ?_
        refine lv_bipush (v := 6) B.1.1 B.1.2.1 dX2_shareOut_100 (by decide) ?_
        refine lv_aload_n B.1.1 B.1.2.1 dX2_shareOut_102 rfl (hl.at 0 rfl) ?_
        refine y_getR B hR hf k_p0 fl_X2_21 dX2_shareOut_103 (fun a19 k_a19 hf => ?_)
        refine y_cv hf (fun q hq => x_runV (ci := 7) (C := RX7) B.1 B.2.2.2 hl hR hS cm_X2_139 ⟨rfl, rfl, Nat.le_of_ble_eq_true rfl, Nat.le_of_ble_eq_true rfl⟩ (by decide) rfl k_p4 (c_X7_putRow k_p4 k_a19 hq) rfl rfl (Nat.le_of_ble_eq_true rfl) dX2_shareOut_106 ⟨Nat.le_of_ble_eq_true rfl, Nat.le_of_ble_eq_true rfl⟩) hS (fun S20 H locs hf hR hS => ?_)
        exact y_vret B hR hS hf dX2_shareOut_109
    · refine lv_aload_n B.1.1 B.1.2.1 dX2_shareOut_22 rfl (hl.at 0 rfl) ?_
      refine y_getR B hR hf k_p0 fl_X2_18 dX2_shareOut_23 (fun a21 k_a21 hf => ?_)
      refine lv_iload B.1.1 B.1.2.1 dX2_shareOut_26 (hl.at 5 rfl) ?_
      refine lv_iconst (v := 0) B.1.1 B.1.2.1 dX2_shareOut_28 (by decide) ?_
      refine lv_iload_n B.1.1 B.1.2.1 dX2_shareOut_29 rfl (hl.at 1 rfl) ?_
      refine y_if_le (tgt := 43) B hf dX2_shareOut_30 (by decide) (fun hf => ?_) (fun hf => ?_)
      · refine lv_aload_n B.1.1 B.1.2.1 dX2_shareOut_43 rfl (hl.at 0 rfl) ?_
        refine y_getR B hR hf k_p0 fl_X2_15 dX2_shareOut_44 (fun a22 k_a22 hf => ?_)
        refine lv_iload B.1.1 B.1.2.1 dX2_shareOut_47 (hl.at 5 rfl) ?_
        refine y_iald B hR hf k_a22 dX2_shareOut_49 (fun v23 hf => ?_)
        refine lv_ineg B.1.1 B.1.2.1 dX2_shareOut_50 ?_
        refine y_mmax B hl ma_X2_36 ⟨Nat.le_of_ble_eq_true rfl, Nat.le_of_ble_eq_true rfl⟩ ⟨Nat.le_of_ble_eq_true rfl, Nat.le_of_ble_eq_true rfl⟩ dX2_shareOut_51 ?_
        refine y_iast B hR hS hf k_a21 dX2_shareOut_54 (fun S24 H locs hf hR hS => ?_)
        refine y_iinc (d := 1) B hl hf dX2_shareOut_55 rfl (by decide) (by decide) rfl (fun v25 ls hf hl => ?_)
        have hl : xL ls 6 [_, _, _, _, _, _] := hl
        refine lv_goto (tgt := 15) B.1.1 B.1.2.1 dX2_shareOut_58 (by decide) ?_
        exact ih _ _ _ _ _ _ _ _ _ k_p0 k_p2 k_p4 hf hR hS hl
      · refine lv_aload_n B.1.1 B.1.2.1 dX2_shareOut_33 rfl (hl.at 0 rfl) ?_
        refine y_getR B hR hf k_p0 fl_X2_15 dX2_shareOut_34 (fun a26 k_a26 hf => ?_)
        refine lv_iload B.1.1 B.1.2.1 dX2_shareOut_37 (hl.at 5 rfl) ?_
        refine y_iald B hR hf k_a26 dX2_shareOut_39 (fun v27 hf => ?_)
        refine lv_goto (tgt := 51) B.1.1 B.1.2.1 dX2_shareOut_40 (by decide) ?_
        refine y_mmax B hl ma_X2_36 ⟨Nat.le_of_ble_eq_true rfl, Nat.le_of_ble_eq_true rfl⟩ ⟨Nat.le_of_ble_eq_true rfl, Nat.le_of_ble_eq_true rfl⟩ dX2_shareOut_51 ?_
        refine y_iast B hR hS hf k_a21 dX2_shareOut_54 (fun S28 H locs hf hR hS => ?_)
        refine y_iinc (d := 1) B hl hf dX2_shareOut_55 rfl (by decide) (by decide) rfl (fun v29 ls hf hl => ?_)
        have hl : xL ls 6 [_, _, _, _, _, _] := hl
        refine lv_goto (tgt := 15) B.1.1 B.1.2.1 dX2_shareOut_58 (by decide) ?_
        exact ih _ _ _ _ _ _ _ _ _ k_p0 k_p2 k_p4 hf hR hS hl
def f_X2_shareOut (T : xT) (S : xS) (p0 : Nat) (p1 : Int32) (p2 : Nat) (p3 : Nat) (p4 : Nat) : Option (xS) := if p1 = (0 : Int32) then some S else xcv (f_X2_measureGaps T S p0 p2 p3 p1) (fun S1 => xl ((0 : Int32)) (fun v2 => f_X2_shareOut_15 T xfu S1 p0 p1 p2 p4 v2))
set_option maxRecDepth 100000 in
set_option maxHeartbeats 4000000 in
theorem c_X2_shareOut {l : Launch} {z : Nat} {D : va_G} {dA : Nat → ClassId} {T : xT} {S : xS} {p0 : Nat} {p1 : Int32} {p2 : Nat} {p3 : Nat} {p4 : Nat} (k_p0 : xlk T p0 2 = true) (k_p2 : xlk T p2 1 = true) (k_p3 : xlk T p3 8 = true) (k_p4 : xlk T p4 7 = true) {q : xS} (hf : f_X2_shareOut T S p0 p1 p2 p3 p4 = some q) : Met l yX2_shareOut (xws yX2_shareOut cX2_shareOut 6 none) xr_X2_shareOut (xPc z D dA T S [.ref (z + p0), .int p1, .ref (z + p2), .ref (z + p3), .ref (z + p4)]) (xQv z D dA T q) 0 0 (xA z) := by
  refine x_met RX2 (by decide) rfl (Nat.le_of_ble_eq_true rfl) ?_
  intro p e s m below meth c ls _ X hr hlk hml _ hR hS hl
  have B : xB p s m _ meth c cX2_shareOut RX2 6 none D dA := ⟨X, hr, hlk, hml⟩
  have hl : xL ls 6 [_, _, _, _, _, _] := hl
  unfold f_X2_shareOut at hf
  refine lv_iload_n B.1.1 B.1.2.1 dX2_shareOut_0 rfl (hl.at 1 rfl) ?_
  refine y_if_ne (tgt := 5) B hf dX2_shareOut_1 (by decide) (fun hf => ?_) (fun hf => ?_)
  · refine lv_aload_n B.1.1 B.1.2.1 dX2_shareOut_5 rfl (hl.at 0 rfl) ?_
    refine lv_aload_n B.1.1 B.1.2.1 dX2_shareOut_6 rfl (hl.at 2 rfl) ?_
    refine lv_aload_n B.1.1 B.1.2.1 dX2_shareOut_7 rfl (hl.at 3 rfl) ?_
    refine lv_iload_n B.1.1 B.1.2.1 dX2_shareOut_8 rfl (hl.at 1 rfl) ?_
    refine y_cv hf (fun q hq => x_runV (ci := 2) (C := RX2) B.1 B.2.2.2 hl hR hS cm_X2_167 ⟨rfl, rfl, Nat.le_of_ble_eq_true rfl, Nat.le_of_ble_eq_true rfl⟩ (by decide) rfl k_p0 (c_X2_measureGaps k_p0 k_p2 k_p3 hq) rfl rfl (Nat.le_of_ble_eq_true rfl) dX2_shareOut_9 ⟨Nat.le_of_ble_eq_true rfl, Nat.le_of_ble_eq_true rfl⟩) hS (fun S1 H locs hf hR hS => ?_)
    refine lv_iconst (v := 0) B.1.1 B.1.2.1 dX2_shareOut_12 (by decide) ?_
    refine y_istore B hl hf dX2_shareOut_13 (by decide) rfl (fun v2 ls hf hl => ?_)
    have hl : xL ls 6 [_, _, _, _, _, _] := hl
    exact w_X2_shareOut_15 B xfu _ _ _ _ _ _ _ _ _ k_p0 k_p2 k_p4 hf hR hS (hl.drop [true, true, true, false, true, true] rfl)
  · exact y_vret B hR hS hf dX2_shareOut_4
abbrev xr_X2_closeYear : Room := { frames := 6, cells := 0, slots := 0, locals := 138 }
def f_X2_closeYear (T : xT) (S : xS) (p0 : Nat) (p1 : Nat) (p2 : Nat) (p3 : Nat) (p4 : Nat) : Option (Int32 × xS) := xcv (f_X7_startAnew T S p4) (fun S1 => xc (f_X1_held T S1 p1) (fun r3 S2 => xl r3 (fun v4 => xl ((v4 - (S2.1 p1 5))) (fun v5 => xcv (f_X2_chargeBack T S2 p0 p1 ((-v5)) p4) (fun S6 => xcv (f_X2_takeDebtLoss T S6 p0 p1 v5 p4) (fun S7 => xcv (f_X2_cure T S7 p0 p1 p4) (fun S8 => xcv (f_X2_giveSpecials T S8 p0 p1 p3 p4) (fun S9 => xcv (f_X2_shareOut T S9 p0 ((S9.1 p1 3)) p1 p2 p4) (fun S10 => xpi S10 p1 3 ((0 : Int32)) (fun S11 => xpi S11 p1 5 v4 (fun S12 => xpi S12 p1 4 (((S12.1 p1 4) + (1 : Int32))) (fun S13 => some ((S13.1 p1 4), S13)))))))))))))
set_option maxRecDepth 100000 in
set_option maxHeartbeats 4000000 in
theorem c_X2_closeYear {l : Launch} {z : Nat} {D : va_G} {dA : Nat → ClassId} {T : xT} {S : xS} {p0 : Nat} {p1 : Nat} {p2 : Nat} {p3 : Nat} {p4 : Nat} (k_p0 : xlk T p0 2 = true) (k_p1 : xlk T p1 1 = true) (k_p2 : xlk T p2 8 = true) (k_p3 : xlk T p3 4 = true) (k_p4 : xlk T p4 7 = true) {q : Int32 × xS} (hf : f_X2_closeYear T S p0 p1 p2 p3 p4 = some q) : Met l yX2_closeYear (xws yX2_closeYear cX2_closeYear 7 (some .int)) xr_X2_closeYear (xPc z D dA T S [.ref (z + p0), .ref (z + p1), .ref (z + p2), .ref (z + p3), .ref (z + p4)]) (xQi z D dA T q) 0 0 (xA z) := by
  refine x_met RX2 (by decide) rfl (Nat.le_of_ble_eq_true rfl) ?_
  intro p e s m below meth c ls _ X hr hlk hml _ hR hS hl
  have B : xB p s m _ meth c cX2_closeYear RX2 7 (some .int) D dA := ⟨X, hr, hlk, hml⟩
  have hl : xL ls 7 [_, _, _, _, _, _, _] := hl
  unfold f_X2_closeYear at hf
  refine lv_aload B.1.1 B.1.2.1 dX2_closeYear_0 (hl.at 4 rfl) ?_
  refine y_cv hf (fun q hq => x_runV (ci := 7) (C := RX7) B.1 B.2.2.2 hl hR hS cm_X2_96 ⟨rfl, rfl, Nat.le_of_ble_eq_true rfl, Nat.le_of_ble_eq_true rfl⟩ (by decide) rfl k_p4 (c_X7_startAnew k_p4 hq) rfl rfl (Nat.le_of_ble_eq_true rfl) dX2_closeYear_2 ⟨Nat.le_of_ble_eq_true rfl, Nat.le_of_ble_eq_true rfl⟩) hS (fun S1 H locs hf hR hS => ?_)
  refine lv_aload_n B.1.1 B.1.2.1 dX2_closeYear_5 rfl (hl.at 1 rfl) ?_
  refine y_ci hf (fun q hq => x_runV (ci := 1) (C := RX1) B.1 B.2.2.2 hl hR hS cm_X2_101 ⟨rfl, rfl, Nat.le_of_ble_eq_true rfl, Nat.le_of_ble_eq_true rfl⟩ (by decide) rfl k_p1 (c_X1_held k_p1 hq) rfl rfl (Nat.le_of_ble_eq_true rfl) dX2_closeYear_6 ⟨Nat.le_of_ble_eq_true rfl, Nat.le_of_ble_eq_true rfl⟩) hS (fun r3 S2 H locs hf hR hS => ?_)
  refine y_istore B hl hf dX2_closeYear_9 (by decide) rfl (fun v4 ls hf hl => ?_)
  have hl : xL ls 7 [_, _, _, _, _, _, _] := hl
  refine lv_iload B.1.1 B.1.2.1 dX2_closeYear_11 (hl.at 5 rfl) ?_
  refine lv_aload_n B.1.1 B.1.2.1 dX2_closeYear_13 rfl (hl.at 1 rfl) ?_
  refine y_getI B hR k_p1 fl_X2_105 dX2_closeYear_14 ?_
  refine lv_isub B.1.1 B.1.2.1 dX2_closeYear_17 ?_
  refine y_istore B hl hf dX2_closeYear_18 (by decide) rfl (fun v5 ls hf hl => ?_)
  have hl : xL ls 7 [_, _, _, _, _, _, _] := hl
  refine lv_aload_n B.1.1 B.1.2.1 dX2_closeYear_20 rfl (hl.at 0 rfl) ?_
  refine lv_aload_n B.1.1 B.1.2.1 dX2_closeYear_21 rfl (hl.at 1 rfl) ?_
  refine lv_iload B.1.1 B.1.2.1 dX2_closeYear_22 (hl.at 6 rfl) ?_
  refine lv_ineg B.1.1 B.1.2.1 dX2_closeYear_24 ?_
  refine lv_aload B.1.1 B.1.2.1 dX2_closeYear_25 (hl.at 4 rfl) ?_
  refine y_cv hf (fun q hq => x_runV (ci := 2) (C := RX2) B.1 B.2.2.2 hl hR hS cm_X2_108 ⟨rfl, rfl, Nat.le_of_ble_eq_true rfl, Nat.le_of_ble_eq_true rfl⟩ (by decide) rfl k_p0 (c_X2_chargeBack k_p0 k_p1 k_p4 hq) rfl rfl (Nat.le_of_ble_eq_true rfl) dX2_closeYear_27 ⟨Nat.le_of_ble_eq_true rfl, Nat.le_of_ble_eq_true rfl⟩) hS (fun S6 H locs hf hR hS => ?_)
  refine lv_aload_n B.1.1 B.1.2.1 dX2_closeYear_30 rfl (hl.at 0 rfl) ?_
  refine lv_aload_n B.1.1 B.1.2.1 dX2_closeYear_31 rfl (hl.at 1 rfl) ?_
  refine lv_iload B.1.1 B.1.2.1 dX2_closeYear_32 (hl.at 6 rfl) ?_
  refine lv_aload B.1.1 B.1.2.1 dX2_closeYear_34 (hl.at 4 rfl) ?_
  refine y_cv hf (fun q hq => x_runV (ci := 2) (C := RX2) B.1 B.2.2.2 hl hR hS cm_X2_112 ⟨rfl, rfl, Nat.le_of_ble_eq_true rfl, Nat.le_of_ble_eq_true rfl⟩ (by decide) rfl k_p0 (c_X2_takeDebtLoss k_p0 k_p1 k_p4 hq) rfl rfl (Nat.le_of_ble_eq_true rfl) dX2_closeYear_36 ⟨Nat.le_of_ble_eq_true rfl, Nat.le_of_ble_eq_true rfl⟩) hS (fun S7 H locs hf hR hS => ?_)
  refine lv_aload_n B.1.1 B.1.2.1 dX2_closeYear_39 rfl (hl.at 0 rfl) ?_
  refine lv_aload_n B.1.1 B.1.2.1 dX2_closeYear_40 rfl (hl.at 1 rfl) ?_
  refine lv_aload B.1.1 B.1.2.1 dX2_closeYear_41 (hl.at 4 rfl) ?_
  refine y_cv hf (fun q hq => x_runV (ci := 2) (C := RX2) B.1 B.2.2.2 hl hR hS cm_X2_115 ⟨rfl, rfl, Nat.le_of_ble_eq_true rfl, Nat.le_of_ble_eq_true rfl⟩ (by decide) rfl k_p0 (c_X2_cure k_p0 k_p1 k_p4 hq) rfl rfl (Nat.le_of_ble_eq_true rfl) dX2_closeYear_43 ⟨Nat.le_of_ble_eq_true rfl, Nat.le_of_ble_eq_true rfl⟩) hS (fun S8 H locs hf hR hS => ?_)
  refine lv_aload_n B.1.1 B.1.2.1 dX2_closeYear_46 rfl (hl.at 0 rfl) ?_
  refine lv_aload_n B.1.1 B.1.2.1 dX2_closeYear_47 rfl (hl.at 1 rfl) ?_
  refine lv_aload_n B.1.1 B.1.2.1 dX2_closeYear_48 rfl (hl.at 3 rfl) ?_
  refine lv_aload B.1.1 B.1.2.1 dX2_closeYear_49 (hl.at 4 rfl) ?_
  refine y_cv hf (fun q hq => x_runV (ci := 2) (C := RX2) B.1 B.2.2.2 hl hR hS cm_X2_119 ⟨rfl, rfl, Nat.le_of_ble_eq_true rfl, Nat.le_of_ble_eq_true rfl⟩ (by decide) rfl k_p0 (c_X2_giveSpecials k_p0 k_p1 k_p3 k_p4 hq) rfl rfl (Nat.le_of_ble_eq_true rfl) dX2_closeYear_51 ⟨Nat.le_of_ble_eq_true rfl, Nat.le_of_ble_eq_true rfl⟩) hS (fun S9 H locs hf hR hS => ?_)
  refine lv_aload_n B.1.1 B.1.2.1 dX2_closeYear_54 rfl (hl.at 0 rfl) ?_
  refine lv_aload_n B.1.1 B.1.2.1 dX2_closeYear_55 rfl (hl.at 1 rfl) ?_
  refine y_getI B hR k_p1 fl_X2_123 dX2_closeYear_56 ?_
  refine lv_aload_n B.1.1 B.1.2.1 dX2_closeYear_59 rfl (hl.at 1 rfl) ?_
  refine lv_aload_n B.1.1 B.1.2.1 dX2_closeYear_60 rfl (hl.at 2 rfl) ?_
  refine lv_aload B.1.1 B.1.2.1 dX2_closeYear_61 (hl.at 4 rfl) ?_
  refine y_cv hf (fun q hq => x_runV (ci := 2) (C := RX2) B.1 B.2.2.2 hl hR hS cm_X2_126 ⟨rfl, rfl, Nat.le_of_ble_eq_true rfl, Nat.le_of_ble_eq_true rfl⟩ (by decide) rfl k_p0 (c_X2_shareOut k_p0 k_p1 k_p2 k_p4 hq) rfl rfl (Nat.le_of_ble_eq_true rfl) dX2_closeYear_63 ⟨Nat.le_of_ble_eq_true rfl, Nat.le_of_ble_eq_true rfl⟩) hS (fun S10 H locs hf hR hS => ?_)
  refine lv_aload_n B.1.1 B.1.2.1 dX2_closeYear_66 rfl (hl.at 1 rfl) ?_
  refine lv_iconst (v := 0) B.1.1 B.1.2.1 dX2_closeYear_67 (by decide) ?_
  refine y_putI B hR hS hf k_p1 fp_X2_123 dX2_closeYear_68 (fun S11 H locs hf hR hS => ?_)
  refine lv_aload_n B.1.1 B.1.2.1 dX2_closeYear_71 rfl (hl.at 1 rfl) ?_
  refine lv_iload B.1.1 B.1.2.1 dX2_closeYear_72 (hl.at 5 rfl) ?_
  refine y_putI B hR hS hf k_p1 fp_X2_105 dX2_closeYear_74 (fun S12 H locs hf hR hS => ?_)
  refine lv_aload_n B.1.1 B.1.2.1 dX2_closeYear_77 rfl (hl.at 1 rfl) ?_
  refine lv_dup B.1.1 B.1.2.1 dX2_closeYear_78 rfl ?_
  refine y_getI B hR k_p1 fl_X2_130 dX2_closeYear_79 ?_
  refine lv_iconst (v := 1) B.1.1 B.1.2.1 dX2_closeYear_82 (by decide) ?_
  refine lv_iadd B.1.1 B.1.2.1 dX2_closeYear_83 ?_
  refine y_putI B hR hS hf k_p1 fp_X2_130 dX2_closeYear_84 (fun S13 H locs hf hR hS => ?_)
  refine lv_aload_n B.1.1 B.1.2.1 dX2_closeYear_87 rfl (hl.at 1 rfl) ?_
  refine y_getI B hR k_p1 fl_X2_130 dX2_closeYear_88 ?_
  exact y_iret B hR hS hf dX2_closeYear_91
abbrev xr_X2_valueAnew : Room := { frames := 6, cells := 0, slots := 0, locals := 138 }
def f_X2_valueAnew (T : xT) (S : xS) (p0 : Nat) (p1 : Nat) (p2 : Nat) (p3 : Nat) : Option (Int32 × xS) := xc (f_X1_gainOfAll T S p1) (fun r2 S1 => xl r2 (fun v3 => xgr T S1 p1 12 20 (fun a4 => xgr T S1 p1 11 20 (fun a5 => xcv (f_X9_copyEight T S1 a4 a5) (fun S6 => xcv (f_X7_startAnew T S6 p3) (fun S7 => if (S7.1 p1 0) = (0 : Int32) then some (v3, S7) else xcv (f_X2_shareOut T S7 p0 v3 p1 p2 p3) (fun S8 => some (v3, S8))))))))
set_option maxRecDepth 100000 in
set_option maxHeartbeats 4000000 in
theorem c_X2_valueAnew {l : Launch} {z : Nat} {D : va_G} {dA : Nat → ClassId} {T : xT} {S : xS} {p0 : Nat} {p1 : Nat} {p2 : Nat} {p3 : Nat} (k_p0 : xlk T p0 2 = true) (k_p1 : xlk T p1 1 = true) (k_p2 : xlk T p2 8 = true) (k_p3 : xlk T p3 7 = true) {q : Int32 × xS} (hf : f_X2_valueAnew T S p0 p1 p2 p3 = some q) : Met l yX2_valueAnew (xws yX2_valueAnew cX2_valueAnew 5 (some .int)) xr_X2_valueAnew (xPc z D dA T S [.ref (z + p0), .ref (z + p1), .ref (z + p2), .ref (z + p3)]) (xQi z D dA T q) 0 0 (xA z) := by
  refine x_met RX2 (by decide) rfl (Nat.le_of_ble_eq_true rfl) ?_
  intro p e s m below meth c ls _ X hr hlk hml _ hR hS hl
  have B : xB p s m _ meth c cX2_valueAnew RX2 5 (some .int) D dA := ⟨X, hr, hlk, hml⟩
  have hl : xL ls 5 [_, _, _, _, _] := hl
  unfold f_X2_valueAnew at hf
  refine lv_aload_n B.1.1 B.1.2.1 dX2_valueAnew_0 rfl (hl.at 1 rfl) ?_
  refine y_ci hf (fun q hq => x_runV (ci := 1) (C := RX1) B.1 B.2.2.2 hl hR hS cm_X2_198 ⟨rfl, rfl, Nat.le_of_ble_eq_true rfl, Nat.le_of_ble_eq_true rfl⟩ (by decide) rfl k_p1 (c_X1_gainOfAll k_p1 hq) rfl rfl (Nat.le_of_ble_eq_true rfl) dX2_valueAnew_1 ⟨Nat.le_of_ble_eq_true rfl, Nat.le_of_ble_eq_true rfl⟩) hS (fun r2 S1 H locs hf hR hS => ?_)
  refine y_istore B hl hf dX2_valueAnew_4 (by decide) rfl (fun v3 ls hf hl => ?_)
  have hl : xL ls 5 [_, _, _, _, _] := hl
  refine lv_aload_n B.1.1 B.1.2.1 dX2_valueAnew_6 rfl (hl.at 1 rfl) ?_
  refine y_getR B hR hf k_p1 fl_X2_201 dX2_valueAnew_7 (fun a4 k_a4 hf => ?_)
  refine lv_aload_n B.1.1 B.1.2.1 dX2_valueAnew_10 rfl (hl.at 1 rfl) ?_
  refine y_getR B hR hf k_p1 fl_X2_204 dX2_valueAnew_11 (fun a5 k_a5 hf => ?_)
  refine y_cv hf (fun q hq => x_runN B.1 B.2.2.2 hl hR hS cm_X2_174 ⟨rfl, rfl, Nat.le_of_ble_eq_true rfl, Nat.le_of_ble_eq_true rfl⟩ (c_X9_copyEight k_a4 k_a5 hq) rfl rfl (Nat.le_of_ble_eq_true rfl) dX2_valueAnew_14 ⟨Nat.le_of_ble_eq_true rfl, Nat.le_of_ble_eq_true rfl⟩) hS (fun S6 H locs hf hR hS => ?_)
  refine lv_aload_n B.1.1 B.1.2.1 dX2_valueAnew_17 rfl (hl.at 3 rfl) ?_
  refine y_cv hf (fun q hq => x_runV (ci := 7) (C := RX7) B.1 B.2.2.2 hl hR hS cm_X2_96 ⟨rfl, rfl, Nat.le_of_ble_eq_true rfl, Nat.le_of_ble_eq_true rfl⟩ (by decide) rfl k_p3 (c_X7_startAnew k_p3 hq) rfl rfl (Nat.le_of_ble_eq_true rfl) dX2_valueAnew_18 ⟨Nat.le_of_ble_eq_true rfl, Nat.le_of_ble_eq_true rfl⟩) hS (fun S7 H locs hf hR hS => ?_)
  refine lv_aload_n B.1.1 B.1.2.1 dX2_valueAnew_21 rfl (hl.at 1 rfl) ?_
  refine y_getI B hR k_p1 fl_X2_60 dX2_valueAnew_22 ?_
  refine y_if_eq (tgt := 37) B hf dX2_valueAnew_25 (by decide) (fun hf => ?_) (fun hf => ?_)
  · refine lv_iload B.1.1 B.1.2.1 dX2_valueAnew_37 (hl.at 4 rfl) ?_
    exact y_iret B hR hS hf dX2_valueAnew_39
  · refine lv_aload_n B.1.1 B.1.2.1 dX2_valueAnew_28 rfl (hl.at 0 rfl) ?_
    refine lv_iload B.1.1 B.1.2.1 dX2_valueAnew_29 (hl.at 4 rfl) ?_
    refine lv_aload_n B.1.1 B.1.2.1 dX2_valueAnew_31 rfl (hl.at 1 rfl) ?_
    refine lv_aload_n B.1.1 B.1.2.1 dX2_valueAnew_32 rfl (hl.at 2 rfl) ?_
    refine lv_aload_n B.1.1 B.1.2.1 dX2_valueAnew_33 rfl (hl.at 3 rfl) ?_
    refine y_cv hf (fun q hq => x_runV (ci := 2) (C := RX2) B.1 B.2.2.2 hl hR hS cm_X2_126 ⟨rfl, rfl, Nat.le_of_ble_eq_true rfl, Nat.le_of_ble_eq_true rfl⟩ (by decide) rfl k_p0 (c_X2_shareOut k_p0 k_p1 k_p2 k_p3 hq) rfl rfl (Nat.le_of_ble_eq_true rfl) dX2_valueAnew_34 ⟨Nat.le_of_ble_eq_true rfl, Nat.le_of_ble_eq_true rfl⟩) hS (fun S8 H locs hf hR hS => ?_)
    refine lv_iload B.1.1 B.1.2.1 dX2_valueAnew_37 (hl.at 4 rfl) ?_
    exact y_iret B hR hS hf dX2_valueAnew_39
abbrev xr_X2_letOut : Room := { frames := 4, cells := 0, slots := 0, locals := 88 }
def f_X2_letOut (T : xT) (S : xS) (p0 : Nat) (p1 : Int32) (p2 : Nat) : Option (Int32 × xS) := xgr T S p2 6 20 (fun a1 => xai T S a1 p1 (fun v2 => xgr T S p2 7 20 (fun a3 => xai T S a3 p1 (fun v4 => xl ((xmax v2 ((-v4)))) (fun v5 => xgr T S p2 6 20 (fun a6 => xai T S a6 p1 (fun v7 => xl ((v5 - v7)) (fun v8 => xgr T S p2 9 20 (fun a9 => xai T S a9 p1 (fun v10 => xl v10 (fun v11 => xgr T S p2 10 20 (fun a12 => xai T S a12 p1 (fun v13 => xl v13 (fun v14 => xpi S p2 2 (((S.1 p2 2) - v5)) (fun S15 => xcv (f_X1_dismiss T S15 p2 p1) (fun S16 => xgr T S16 p2 8 20 (fun a17 => xcv (f_X2_dealByRatio T S16 p0 v8 a17 ((S16.1 p2 0))) (fun S18 => xgr T S18 p2 6 20 (fun a19 => xgr T S18 p0 5 20 (fun a20 => xcv (f_X9_takeAll T S18 a19 a20) (fun S21 => xgr T S21 p2 8 20 (fun a22 => xcv (f_X2_dealByRatio T S21 p0 v11 a22 ((S21.1 p2 0))) (fun S23 => xgr T S23 p2 9 20 (fun a24 => xgr T S23 p0 5 20 (fun a25 => xcv (f_X9_addAll T S23 a24 a25) (fun S26 => xgr T S26 p2 8 20 (fun a27 => xcv (f_X2_dealByRatio T S26 p0 v14 a27 ((S26.1 p2 0))) (fun S28 => xgr T S28 p2 10 20 (fun a29 => xgr T S28 p0 5 20 (fun a30 => xcv (f_X9_addAll T S28 a29 a30) (fun S31 => some (v5, S31))))))))))))))))))))))))))))))))
set_option maxRecDepth 100000 in
set_option maxHeartbeats 4000000 in
theorem c_X2_letOut {l : Launch} {z : Nat} {D : va_G} {dA : Nat → ClassId} {T : xT} {S : xS} {p0 : Nat} {p1 : Int32} {p2 : Nat} (k_p0 : xlk T p0 2 = true) (k_p2 : xlk T p2 1 = true) {q : Int32 × xS} (hf : f_X2_letOut T S p0 p1 p2 = some q) : Met l yX2_letOut (xws yX2_letOut cX2_letOut 7 (some .int)) xr_X2_letOut (xPc z D dA T S [.ref (z + p0), .int p1, .ref (z + p2)]) (xQi z D dA T q) 0 0 (xA z) := by
  refine x_met RX2 (by decide) rfl (Nat.le_of_ble_eq_true rfl) ?_
  intro p e s m below meth c ls _ X hr hlk hml _ hR hS hl
  have B : xB p s m _ meth c cX2_letOut RX2 7 (some .int) D dA := ⟨X, hr, hlk, hml⟩
  have hl : xL ls 7 [_, _, _, _, _, _, _] := hl
  unfold f_X2_letOut at hf
  refine lv_aload_n B.1.1 B.1.2.1 dX2_letOut_0 rfl (hl.at 2 rfl) ?_
  refine y_getR B hR hf k_p2 fl_X2_85 dX2_letOut_1 (fun a1 k_a1 hf => ?_)
  refine lv_iload_n B.1.1 B.1.2.1 dX2_letOut_4 rfl (hl.at 1 rfl) ?_
  refine y_iald B hR hf k_a1 dX2_letOut_5 (fun v2 hf => ?_)
  refine lv_aload_n B.1.1 B.1.2.1 dX2_letOut_6 rfl (hl.at 2 rfl) ?_
  refine y_getR B hR hf k_p2 fl_X2_207 dX2_letOut_7 (fun a3 k_a3 hf => ?_)
  refine lv_iload_n B.1.1 B.1.2.1 dX2_letOut_10 rfl (hl.at 1 rfl) ?_
  refine y_iald B hR hf k_a3 dX2_letOut_11 (fun v4 hf => ?_)
  refine lv_ineg B.1.1 B.1.2.1 dX2_letOut_12 ?_
  refine y_mmax B hl ma_X2_36 ⟨Nat.le_of_ble_eq_true rfl, Nat.le_of_ble_eq_true rfl⟩ ⟨Nat.le_of_ble_eq_true rfl, Nat.le_of_ble_eq_true rfl⟩ dX2_letOut_13 ?_
  refine y_istore_n B hl hf dX2_letOut_16 rfl (by decide) rfl (fun v5 ls hf hl => ?_)
  have hl : xL ls 7 [_, _, _, _, _, _, _] := hl
  refine lv_iload_n B.1.1 B.1.2.1 dX2_letOut_17 rfl (hl.at 3 rfl) ?_
  refine lv_aload_n B.1.1 B.1.2.1 dX2_letOut_18 rfl (hl.at 2 rfl) ?_
  refine y_getR B hR hf k_p2 fl_X2_85 dX2_letOut_19 (fun a6 k_a6 hf => ?_)
  refine lv_iload_n B.1.1 B.1.2.1 dX2_letOut_22 rfl (hl.at 1 rfl) ?_
  refine y_iald B hR hf k_a6 dX2_letOut_23 (fun v7 hf => ?_)
  refine lv_isub B.1.1 B.1.2.1 dX2_letOut_24 ?_
  refine y_istore B hl hf dX2_letOut_25 (by decide) rfl (fun v8 ls hf hl => ?_)
  have hl : xL ls 7 [_, _, _, _, _, _, _] := hl
  refine lv_aload_n B.1.1 B.1.2.1 dX2_letOut_27 rfl (hl.at 2 rfl) ?_
  refine y_getR B hR hf k_p2 fl_X2_133 dX2_letOut_28 (fun a9 k_a9 hf => ?_)
  refine lv_iload_n B.1.1 B.1.2.1 dX2_letOut_31 rfl (hl.at 1 rfl) ?_
  refine y_iald B hR hf k_a9 dX2_letOut_32 (fun v10 hf => ?_)
  refine y_istore B hl hf dX2_letOut_33 (by decide) rfl (fun v11 ls hf hl => ?_)
  have hl : xL ls 7 [_, _, _, _, _, _, _] := hl
  refine lv_aload_n B.1.1 B.1.2.1 dX2_letOut_35 rfl (hl.at 2 rfl) ?_
  refine y_getR B hR hf k_p2 fl_X2_136 dX2_letOut_36 (fun a12 k_a12 hf => ?_)
  refine lv_iload_n B.1.1 B.1.2.1 dX2_letOut_39 rfl (hl.at 1 rfl) ?_
  refine y_iald B hR hf k_a12 dX2_letOut_40 (fun v13 hf => ?_)
  refine y_istore B hl hf dX2_letOut_41 (by decide) rfl (fun v14 ls hf hl => ?_)
  have hl : xL ls 7 [_, _, _, _, _, _, _] := hl
  refine lv_aload_n B.1.1 B.1.2.1 dX2_letOut_43 rfl (hl.at 2 rfl) ?_
  refine lv_dup B.1.1 B.1.2.1 dX2_letOut_44 rfl ?_
  refine y_getI B hR k_p2 fl_X2_210 dX2_letOut_45 ?_
  refine lv_iload_n B.1.1 B.1.2.1 dX2_letOut_48 rfl (hl.at 3 rfl) ?_
  refine lv_isub B.1.1 B.1.2.1 dX2_letOut_49 ?_
  refine y_putI B hR hS hf k_p2 fp_X2_210 dX2_letOut_50 (fun S15 H locs hf hR hS => ?_)
  refine lv_aload_n B.1.1 B.1.2.1 dX2_letOut_53 rfl (hl.at 2 rfl) ?_
  refine lv_iload_n B.1.1 B.1.2.1 dX2_letOut_54 rfl (hl.at 1 rfl) ?_
  refine y_cv hf (fun q hq => x_runV (ci := 1) (C := RX1) B.1 B.2.2.2 hl hR hS cm_X2_213 ⟨rfl, rfl, Nat.le_of_ble_eq_true rfl, Nat.le_of_ble_eq_true rfl⟩ (by decide) rfl k_p2 (c_X1_dismiss k_p2 hq) rfl rfl (Nat.le_of_ble_eq_true rfl) dX2_letOut_55 ⟨Nat.le_of_ble_eq_true rfl, Nat.le_of_ble_eq_true rfl⟩) hS (fun S16 H locs hf hR hS => ?_)
  refine lv_aload_n B.1.1 B.1.2.1 dX2_letOut_58 rfl (hl.at 0 rfl) ?_
  refine lv_iload B.1.1 B.1.2.1 dX2_letOut_59 (hl.at 4 rfl) ?_
  refine lv_aload_n B.1.1 B.1.2.1 dX2_letOut_61 rfl (hl.at 2 rfl) ?_
  refine y_getR B hR hf k_p2 fl_X2_142 dX2_letOut_62 (fun a17 k_a17 hf => ?_)
  refine lv_aload_n B.1.1 B.1.2.1 dX2_letOut_65 rfl (hl.at 2 rfl) ?_
  refine y_getI B hR k_p2 fl_X2_60 dX2_letOut_66 ?_
  refine y_cv hf (fun q hq => x_runV (ci := 2) (C := RX2) B.1 B.2.2.2 hl hR hS cm_X2_145 ⟨rfl, rfl, Nat.le_of_ble_eq_true rfl, Nat.le_of_ble_eq_true rfl⟩ (by decide) rfl k_p0 (c_X2_dealByRatio k_p0 k_a17 hq) rfl rfl (Nat.le_of_ble_eq_true rfl) dX2_letOut_69 ⟨Nat.le_of_ble_eq_true rfl, Nat.le_of_ble_eq_true rfl⟩) hS (fun S18 H locs hf hR hS => ?_)
  refine lv_aload_n B.1.1 B.1.2.1 dX2_letOut_72 rfl (hl.at 2 rfl) ?_
  refine y_getR B hR hf k_p2 fl_X2_85 dX2_letOut_73 (fun a19 k_a19 hf => ?_)
  refine lv_aload_n B.1.1 B.1.2.1 dX2_letOut_76 rfl (hl.at 0 rfl) ?_
  refine y_getR B hR hf k_p0 fl_X2_21 dX2_letOut_77 (fun a20 k_a20 hf => ?_)
  refine y_cv hf (fun q hq => x_runN B.1 B.2.2.2 hl hR hS cm_X2_82 ⟨rfl, rfl, Nat.le_of_ble_eq_true rfl, Nat.le_of_ble_eq_true rfl⟩ (c_X9_takeAll k_a19 k_a20 hq) rfl rfl (Nat.le_of_ble_eq_true rfl) dX2_letOut_80 ⟨Nat.le_of_ble_eq_true rfl, Nat.le_of_ble_eq_true rfl⟩) hS (fun S21 H locs hf hR hS => ?_)
  refine lv_aload_n B.1.1 B.1.2.1 dX2_letOut_83 rfl (hl.at 0 rfl) ?_
  refine lv_iload B.1.1 B.1.2.1 dX2_letOut_84 (hl.at 5 rfl) ?_
  refine lv_aload_n B.1.1 B.1.2.1 dX2_letOut_86 rfl (hl.at 2 rfl) ?_
  refine y_getR B hR hf k_p2 fl_X2_142 dX2_letOut_87 (fun a22 k_a22 hf => ?_)
  refine lv_aload_n B.1.1 B.1.2.1 dX2_letOut_90 rfl (hl.at 2 rfl) ?_
  refine y_getI B hR k_p2 fl_X2_60 dX2_letOut_91 ?_
  refine y_cv hf (fun q hq => x_runV (ci := 2) (C := RX2) B.1 B.2.2.2 hl hR hS cm_X2_145 ⟨rfl, rfl, Nat.le_of_ble_eq_true rfl, Nat.le_of_ble_eq_true rfl⟩ (by decide) rfl k_p0 (c_X2_dealByRatio k_p0 k_a22 hq) rfl rfl (Nat.le_of_ble_eq_true rfl) dX2_letOut_94 ⟨Nat.le_of_ble_eq_true rfl, Nat.le_of_ble_eq_true rfl⟩) hS (fun S23 H locs hf hR hS => ?_)
  refine lv_aload_n B.1.1 B.1.2.1 dX2_letOut_97 rfl (hl.at 2 rfl) ?_
  refine y_getR B hR hf k_p2 fl_X2_133 dX2_letOut_98 (fun a24 k_a24 hf => ?_)
  refine lv_aload_n B.1.1 B.1.2.1 dX2_letOut_101 rfl (hl.at 0 rfl) ?_
  refine y_getR B hR hf k_p0 fl_X2_21 dX2_letOut_102 (fun a25 k_a25 hf => ?_)
  refine y_cv hf (fun q hq => x_runN B.1 B.2.2.2 hl hR hS cm_X2_75 ⟨rfl, rfl, Nat.le_of_ble_eq_true rfl, Nat.le_of_ble_eq_true rfl⟩ (c_X9_addAll k_a24 k_a25 hq) rfl rfl (Nat.le_of_ble_eq_true rfl) dX2_letOut_105 ⟨Nat.le_of_ble_eq_true rfl, Nat.le_of_ble_eq_true rfl⟩) hS (fun S26 H locs hf hR hS => ?_)
  refine lv_aload_n B.1.1 B.1.2.1 dX2_letOut_108 rfl (hl.at 0 rfl) ?_
  refine lv_iload B.1.1 B.1.2.1 dX2_letOut_109 (hl.at 6 rfl) ?_
  refine lv_aload_n B.1.1 B.1.2.1 dX2_letOut_111 rfl (hl.at 2 rfl) ?_
  refine y_getR B hR hf k_p2 fl_X2_142 dX2_letOut_112 (fun a27 k_a27 hf => ?_)
  refine lv_aload_n B.1.1 B.1.2.1 dX2_letOut_115 rfl (hl.at 2 rfl) ?_
  refine y_getI B hR k_p2 fl_X2_60 dX2_letOut_116 ?_
  refine y_cv hf (fun q hq => x_runV (ci := 2) (C := RX2) B.1 B.2.2.2 hl hR hS cm_X2_145 ⟨rfl, rfl, Nat.le_of_ble_eq_true rfl, Nat.le_of_ble_eq_true rfl⟩ (by decide) rfl k_p0 (c_X2_dealByRatio k_p0 k_a27 hq) rfl rfl (Nat.le_of_ble_eq_true rfl) dX2_letOut_119 ⟨Nat.le_of_ble_eq_true rfl, Nat.le_of_ble_eq_true rfl⟩) hS (fun S28 H locs hf hR hS => ?_)
  refine lv_aload_n B.1.1 B.1.2.1 dX2_letOut_122 rfl (hl.at 2 rfl) ?_
  refine y_getR B hR hf k_p2 fl_X2_136 dX2_letOut_123 (fun a29 k_a29 hf => ?_)
  refine lv_aload_n B.1.1 B.1.2.1 dX2_letOut_126 rfl (hl.at 0 rfl) ?_
  refine y_getR B hR hf k_p0 fl_X2_21 dX2_letOut_127 (fun a30 k_a30 hf => ?_)
  refine y_cv hf (fun q hq => x_runN B.1 B.2.2.2 hl hR hS cm_X2_75 ⟨rfl, rfl, Nat.le_of_ble_eq_true rfl, Nat.le_of_ble_eq_true rfl⟩ (c_X9_addAll k_a29 k_a30 hq) rfl rfl (Nat.le_of_ble_eq_true rfl) dX2_letOut_130 ⟨Nat.le_of_ble_eq_true rfl, Nat.le_of_ble_eq_true rfl⟩) hS (fun S31 H locs hf hR hS => ?_)
  refine lv_iload_n B.1.1 B.1.2.1 dX2_letOut_133 rfl (hl.at 3 rfl) ?_
  exact y_iret B hR hS hf dX2_letOut_134
abbrev xr_X3_addFour : Room := { frames := 1, cells := 0, slots := 0, locals := 12 }
def f_X3_addFour_3 (T : xT) : Nat → xS → Nat → Int32 → Int32 → Option (xS)
  | 0, _, _, _, _ => none
  | n + 1, S, p0, p1, p2 => if p2 < (0 : Int32) then some S else if (400 : Int32) ≤ (S.1 p0 1) then some S else xgr T S p0 0 20 (fun a1 => xst T S a1 ((S.1 p0 1)) (((p1 >>> (p2 &&& 31)) &&& (255 : Int32))) (fun S2 => xpi S2 p0 1 (((S2.1 p0 1) + (1 : Int32))) (fun S3 => xl (p2 + (-8 : Int32)) (fun v4 => f_X3_addFour_3 T n S3 p0 p1 v4))))
set_option maxRecDepth 100000 in
set_option maxHeartbeats 4000000 in
theorem w_X3_addFour_3 {p : Program} {l : Launch} {e : Env} {s : State} {m : MethodId} {args : Array Value} {below : List Frame} {meth : Method} {c : Code} {z : Nat} {D : va_G} {dA : Nat → ClassId} {T : xT} (B : xB p s m args meth c cX3_addFour RX3 3 none D dA) {q : xS} : ∀ (n : Nat), ∀ (S : xS) (H : Heap) (locs : List Loc) (ls : Array Slot) (p0 : Nat) (p1 : Int32) (p2 : Int32), xlk T p0 3 = true → f_X3_addFour_3 T n S p0 p1 p2 = some q → xRel z D dA T S H → va_S (xA z) s.heap H locs → xL ls 3 [some (.ref (z + p0)), some (.int p1), some (.int p2)] → xGv p l e xr_X3_addFour s m args below meth c z D dA T q H locs 3 ls [] := by
  intro n
  induction n with
  | zero =>
    intro S H locs ls p0 p1 p2 k_p0 hf hR hS hl
    exact absurd hf (by simp [f_X3_addFour_3])
  | succ n ih =>
    intro S H locs ls p0 p1 p2 k_p0 hf hR hS hl
    unfold f_X3_addFour_3 at hf
    refine lv_iload_n B.1.1 B.1.2.1 dX3_addFour_3 rfl (hl.at 2 rfl) ?_
    refine y_if_lt (tgt := 49) B hf dX3_addFour_4 (by decide) (fun hf => ?_) (fun hf => ?_)
    · exact y_vret B hR hS hf dX3_addFour_49
    · refine lv_aload_n B.1.1 B.1.2.1 dX3_addFour_7 rfl (hl.at 0 rfl) ?_
      refine y_getI B hR k_p0 fl_X3_15 dX3_addFour_8 ?_
      refine lv_sipush (v := 400) B.1.1 B.1.2.1 dX3_addFour_11 (by decide) ?_
      refine y_icmp_ge (tgt := 49) B hf dX3_addFour_14 (by decide) (fun hf => ?_) (fun hf => ?_)
      · exact y_vret B hR hS hf dX3_addFour_49
      · refine lv_aload_n B.1.1 B.1.2.1 dX3_addFour_17 rfl (hl.at 0 rfl) ?_
        refine y_getR B hR hf k_p0 fl_X3_9 dX3_addFour_18 (fun a1 k_a1 hf => ?_)
        refine lv_aload_n B.1.1 B.1.2.1 dX3_addFour_21 rfl (hl.at 0 rfl) ?_
        refine y_getI B hR k_p0 fl_X3_15 dX3_addFour_22 ?_
        refine lv_iload_n B.1.1 B.1.2.1 dX3_addFour_25 rfl (hl.at 1 rfl) ?_
        refine lv_iload_n B.1.1 B.1.2.1 dX3_addFour_26 rfl (hl.at 2 rfl) ?_
        refine lv_ishr B.1.1 B.1.2.1 dX3_addFour_27 ?_
        refine lv_sipush (v := 255) B.1.1 B.1.2.1 dX3_addFour_28 (by decide) ?_
        refine lv_iand B.1.1 B.1.2.1 dX3_addFour_31 ?_
        refine y_iast B hR hS hf k_a1 dX3_addFour_32 (fun S2 H locs hf hR hS => ?_)
        refine lv_aload_n B.1.1 B.1.2.1 dX3_addFour_33 rfl (hl.at 0 rfl) ?_
        refine lv_dup B.1.1 B.1.2.1 dX3_addFour_34 rfl ?_
        refine y_getI B hR k_p0 fl_X3_15 dX3_addFour_35 ?_
        refine lv_iconst (v := 1) B.1.1 B.1.2.1 dX3_addFour_38 (by decide) ?_
        refine lv_iadd B.1.1 B.1.2.1 dX3_addFour_39 ?_
        refine y_putI B hR hS hf k_p0 fp_X3_15 dX3_addFour_40 (fun S3 H locs hf hR hS => ?_)
        refine y_iinc (d := -8) B hl hf dX3_addFour_43 rfl (by decide) (by decide) rfl (fun v4 ls hf hl => ?_)
        have hl : xL ls 3 [_, _, _] := hl
        refine lv_goto (tgt := 3) B.1.1 B.1.2.1 dX3_addFour_46 (by decide) ?_
        exact ih _ _ _ _ _ _ _ k_p0 hf hR hS hl
def f_X3_addFour (T : xT) (S : xS) (p0 : Nat) (p1 : Int32) : Option (xS) := xl ((24 : Int32)) (fun v1 => f_X3_addFour_3 T xfu S p0 p1 v1)
set_option maxRecDepth 100000 in
set_option maxHeartbeats 4000000 in
theorem c_X3_addFour {l : Launch} {z : Nat} {D : va_G} {dA : Nat → ClassId} {T : xT} {S : xS} {p0 : Nat} {p1 : Int32} (k_p0 : xlk T p0 3 = true) {q : xS} (hf : f_X3_addFour T S p0 p1 = some q) : Met l yX3_addFour (xws yX3_addFour cX3_addFour 3 none) xr_X3_addFour (xPc z D dA T S [.ref (z + p0), .int p1]) (xQv z D dA T q) 0 0 (xA z) := by
  refine x_met RX3 (by decide) rfl (Nat.le_of_ble_eq_true rfl) ?_
  intro p e s m below meth c ls _ X hr hlk hml _ hR hS hl
  have B : xB p s m _ meth c cX3_addFour RX3 3 none D dA := ⟨X, hr, hlk, hml⟩
  have hl : xL ls 3 [_, _, _] := hl
  unfold f_X3_addFour at hf
  refine lv_bipush (v := 24) B.1.1 B.1.2.1 dX3_addFour_0 (by decide) ?_
  refine y_istore_n B hl hf dX3_addFour_2 rfl (by decide) rfl (fun v1 ls hf hl => ?_)
  have hl : xL ls 3 [_, _, _] := hl
  exact w_X3_addFour_3 B xfu _ _ _ _ _ _ _ k_p0 hf hR hS hl
abbrev xr_X3_isNumber : Room := { frames := 1, cells := 0, slots := 0, locals := 12 }
def f_X3_isNumber (T : xT) (S : xS) (p0 : Nat) : Option (Int32 × xS) := if (S.1 p0 6) = (2 : Int32) then some ((1 : Int32), S) else some ((0 : Int32), S)
set_option maxRecDepth 100000 in
set_option maxHeartbeats 4000000 in
theorem c_X3_isNumber {l : Launch} {z : Nat} {D : va_G} {dA : Nat → ClassId} {T : xT} {S : xS} {p0 : Nat} (k_p0 : xlk T p0 3 = true) {q : Int32 × xS} (hf : f_X3_isNumber T S p0 = some q) : Met l yX3_isNumber (xws yX3_isNumber cX3_isNumber 1 (some .boolean)) xr_X3_isNumber (xPc z D dA T S [.ref (z + p0)]) (xQi z D dA T q) 0 0 (xA z) := by
  refine x_met RX3 (by decide) rfl (Nat.le_of_ble_eq_true rfl) ?_
  intro p e s m below meth c ls _ X hr hlk hml _ hR hS hl
  have B : xB p s m _ meth c cX3_isNumber RX3 1 (some .boolean) D dA := ⟨X, hr, hlk, hml⟩
  have hl : xL ls 1 [_] := hl
  unfold f_X3_isNumber at hf
  refine lv_aload_n B.1.1 B.1.2.1 dX3_isNumber_0 rfl (hl.at 0 rfl) ?_
  refine y_getI B hR k_p0 fl_X3_31 dX3_isNumber_1 ?_
  refine lv_iconst (v := 2) B.1.1 B.1.2.1 dX3_isNumber_4 (by decide) ?_
  refine y_icmp_ne (tgt := 12) B hf dX3_isNumber_5 (by decide) (fun hf => ?_) (fun hf => ?_)
  · refine lv_iconst (v := 0) B.1.1 B.1.2.1 dX3_isNumber_12 (by decide) ?_
    exact y_zretK B hR hS hf rfl dX3_isNumber_13
  · refine lv_iconst (v := 1) B.1.1 B.1.2.1 dX3_isNumber_8 (by decide) ?_
    refine lv_goto (tgt := 13) B.1.1 B.1.2.1 dX3_isNumber_9 (by decide) ?_
    exact y_zretK B hR hS hf rfl dX3_isNumber_13
abbrev xr_X3_needWord : Room := { frames := 6, cells := 0, slots := 0, locals := 119 }
def f_X3_needWord (T : xT) (S : xS) (p0 : Nat) (p1 : Nat) : Option (Int32 × xS) := xc (f_X3_isWord T S p0 p1) (fun r2 S1 => if r2 = (0 : Int32) then xc (f_X3_refuse T S1 p0) (fun r5 S4 => xgd (xnz r5) (some (r5, S4))) else xcv (f_X3_advance T S1 p0) (fun S3 => some ((1 : Int32), S3)))
set_option maxRecDepth 100000 in
set_option maxHeartbeats 4000000 in
theorem c_X3_needWord {l : Launch} {z : Nat} {D : va_G} {dA : Nat → ClassId} {T : xT} {S : xS} {p0 : Nat} {p1 : Nat} (k_p0 : xlk T p0 3 = true) (k_p1 : p1 < 22) {q : Int32 × xS} (hf : f_X3_needWord T S p0 p1 = some q) : Met l yX3_needWord (xws yX3_needWord cX3_needWord 2 (some .boolean)) xr_X3_needWord (xPc z D dA T S [.ref (z + p0), .ref (dA (100 + p1))]) (xQi z D dA T q) 0 0 (xA z) := by
  refine x_met RX3 (by decide) rfl (Nat.le_of_ble_eq_true rfl) ?_
  intro p e s m below meth c ls _ X hr hlk hml _ hR hS hl
  have B : xB p s m _ meth c cX3_needWord RX3 2 (some .boolean) D dA := ⟨X, hr, hlk, hml⟩
  have hl : xL ls 2 [_, _] := hl
  unfold f_X3_needWord at hf
  refine lv_aload_n B.1.1 B.1.2.1 dX3_needWord_0 rfl (hl.at 0 rfl) ?_
  refine lv_aload_n B.1.1 B.1.2.1 dX3_needWord_1 rfl (hl.at 1 rfl) ?_
  refine y_ci hf (fun q hq => x_runV (ci := 3) (C := RX3) B.1 B.2.2.2 hl hR hS cm_X3_55 ⟨rfl, rfl, Nat.le_of_ble_eq_true rfl, Nat.le_of_ble_eq_true rfl⟩ (by decide) rfl k_p0 (c_X3_isWord k_p0 k_p1 hq) rfl rfl (Nat.le_of_ble_eq_true rfl) dX3_needWord_2 ⟨Nat.le_of_ble_eq_true rfl, Nat.le_of_ble_eq_true rfl⟩) hS (fun r2 S1 H locs hf hR hS => ?_)
  refine y_if_ne (tgt := 13) B hf dX3_needWord_5 (by decide) (fun hf => ?_) (fun hf => ?_)
  · refine lv_aload_n B.1.1 B.1.2.1 dX3_needWord_13 rfl (hl.at 0 rfl) ?_
    refine y_cv hf (fun q hq => x_runV (ci := 3) (C := RX3) B.1 B.2.2.2 hl hR hS cm_X3_25 ⟨rfl, rfl, Nat.le_of_ble_eq_true rfl, Nat.le_of_ble_eq_true rfl⟩ (by decide) rfl k_p0 (c_X3_advance k_p0 hq) rfl rfl (Nat.le_of_ble_eq_true rfl) dX3_needWord_14 ⟨Nat.le_of_ble_eq_true rfl, Nat.le_of_ble_eq_true rfl⟩) hS (fun S3 H locs hf hR hS => ?_)
    refine lv_iconst (v := 1) B.1.1 B.1.2.1 dX3_needWord_17 (by decide) ?_
    exact y_zretK B hR hS hf rfl dX3_needWord_18
  · refine lv_aload_n B.1.1 B.1.2.1 dX3_needWord_8 rfl (hl.at 0 rfl) ?_
    refine y_ci hf (fun q hq => x_runV (ci := 3) (C := RX3) B.1 B.2.2.2 hl hR hS cm_X3_51 ⟨rfl, rfl, Nat.le_of_ble_eq_true rfl, Nat.le_of_ble_eq_true rfl⟩ (by decide) rfl k_p0 (c_X3_refuse k_p0 hq) rfl rfl (Nat.le_of_ble_eq_true rfl) dX3_needWord_9 ⟨Nat.le_of_ble_eq_true rfl, Nat.le_of_ble_eq_true rfl⟩) hS (fun r5 S4 H locs hf hR hS => ?_)
    exact y_zret B hR hS hf dX3_needWord_12
abbrev xr_X4_sumOf : Room := { frames := 4, cells := 0, slots := 0, locals := 84 }
def f_X4_sumOf (T : xT) (S : xS) (p0 : Nat) (p1 : Int32) (p2 : Nat) : Option (Int32 × xS) := xgr T S p0 3 20 (fun a1 => xai T S a1 p1 (fun v2 => xgr T S p0 4 20 (fun a3 => xai T S a3 p1 (fun v4 => xc (f_X4_evaluate T S p0 v2 v4 p2) (fun r6 S5 => some (r6, S5))))))
set_option maxRecDepth 100000 in
set_option maxHeartbeats 4000000 in
theorem c_X4_sumOf {l : Launch} {z : Nat} {D : va_G} {dA : Nat → ClassId} {T : xT} {S : xS} {p0 : Nat} {p1 : Int32} {p2 : Nat} (k_p0 : xlk T p0 4 = true) (k_p2 : xlk T p2 1 = true) {q : Int32 × xS} (hf : f_X4_sumOf T S p0 p1 p2 = some q) : Met l yX4_sumOf (xws yX4_sumOf cX4_sumOf 3 (some .int)) xr_X4_sumOf (xPc z D dA T S [.ref (z + p0), .int p1, .ref (z + p2)]) (xQi z D dA T q) 0 0 (xA z) := by
  refine x_met RX4 (by decide) rfl (Nat.le_of_ble_eq_true rfl) ?_
  intro p e s m below meth c ls _ X hr hlk hml _ hR hS hl
  have B : xB p s m _ meth c cX4_sumOf RX4 3 (some .int) D dA := ⟨X, hr, hlk, hml⟩
  have hl : xL ls 3 [_, _, _] := hl
  unfold f_X4_sumOf at hf
  refine lv_aload_n B.1.1 B.1.2.1 dX4_sumOf_0 rfl (hl.at 0 rfl) ?_
  refine lv_aload_n B.1.1 B.1.2.1 dX4_sumOf_1 rfl (hl.at 0 rfl) ?_
  refine y_getR B hR hf k_p0 fl_X4_15 dX4_sumOf_2 (fun a1 k_a1 hf => ?_)
  refine lv_iload_n B.1.1 B.1.2.1 dX4_sumOf_5 rfl (hl.at 1 rfl) ?_
  refine y_iald B hR hf k_a1 dX4_sumOf_6 (fun v2 hf => ?_)
  refine lv_aload_n B.1.1 B.1.2.1 dX4_sumOf_7 rfl (hl.at 0 rfl) ?_
  refine y_getR B hR hf k_p0 fl_X4_18 dX4_sumOf_8 (fun a3 k_a3 hf => ?_)
  refine lv_iload_n B.1.1 B.1.2.1 dX4_sumOf_11 rfl (hl.at 1 rfl) ?_
  refine y_iald B hR hf k_a3 dX4_sumOf_12 (fun v4 hf => ?_)
  refine lv_aload_n B.1.1 B.1.2.1 dX4_sumOf_13 rfl (hl.at 2 rfl) ?_
  refine y_ci hf (fun q hq => x_runV (ci := 4) (C := RX4) B.1 B.2.2.2 hl hR hS cm_X4_40 ⟨rfl, rfl, Nat.le_of_ble_eq_true rfl, Nat.le_of_ble_eq_true rfl⟩ (by decide) rfl k_p0 (c_X4_evaluate k_p0 k_p2 hq) rfl rfl (Nat.le_of_ble_eq_true rfl) dX4_sumOf_14 ⟨Nat.le_of_ble_eq_true rfl, Nat.le_of_ble_eq_true rfl⟩) hS (fun r6 S5 H locs hf hR hS => ?_)
  exact y_iret B hR hS hf dX4_sumOf_17
