abbrev xr_X10_cure : Room := { frames := 3, cells := 0, slots := 0, locals := 60 }
def f_X10_cure_39 (T : xT) (rec_4 : xS → Nat → Int32 → Int32 → Option (xS)) (S : xS) (p0 : Nat) (p1 : Int32) (p2 : Int32) (ps0 : Int32) : Option (xS) := xl ps0 (fun v1 => xgr T S p0 15 21 (fun a2 => xsj T S a2 p2 ((v1).toInt64) (fun S3 => xl ((p1 + v1)) (fun v4 => xl (p2 + (1 : Int32)) (fun v5 => rec_4 S3 p0 v4 v5)))))
set_option maxRecDepth 100000 in
set_option maxHeartbeats 4000000 in
theorem w_X10_cure_39 {p : Program} {l : Launch} {e : Env} {s : State} {m : MethodId} {args : Array Value} {below : List Frame} {meth : Method} {c : Code} {z : Nat} {D : va_G} {dA : Nat → ClassId} {T : xT} (B : xB p s m args meth c cX10_cure RX10 4 none D dA) {q : xS} {rec_4 : xS → Nat → Int32 → Int32 → Option (xS)} (hrec_4 : ∀ (S : xS) (H : Heap) (locs : List Loc) (ls : Array Slot) (p0 : Nat) (p1 : Int32) (p2 : Int32), xlk T p0 10 = true → rec_4 S p0 p1 p2 = some q → xRel z D dA T S H → va_S (xA z) s.heap H locs → xL ls 4 [some (.ref (z + p0)), some (.int p1), some (.int p2), none] → xGv p l e xr_X10_cure s m args below meth c z D dA T q H locs 4 ls []) : ∀ (S : xS) (H : Heap) (locs : List Loc) (ls : Array Slot) (p0 : Nat) (p1 : Int32) (p2 : Int32) (ps0 : Int32), xlk T p0 10 = true → f_X10_cure_39 T rec_4 S p0 p1 p2 ps0 = some q → xRel z D dA T S H → va_S (xA z) s.heap H locs → xL ls 4 [some (.ref (z + p0)), some (.int p1), some (.int p2), none] → xGv p l e xr_X10_cure s m args below meth c z D dA T q H locs 39 ls [.int ps0] := by
  intro S H locs ls p0 p1 p2 ps0 k_p0 hf hR hS hl
  unfold f_X10_cure_39 at hf
  refine y_istore_n B hl hf dX10_cure_39 rfl (by decide) rfl (fun v1 ls hf hl => ?_)
  have hl : xL ls 4 [_, _, _, _] := hl
  refine lv_aload_n B.1.1 B.1.2.1 dX10_cure_40 rfl (hl.at 0 rfl) ?_
  refine y_getR B hR hf k_p0 fl_X10_31 dX10_cure_41 (fun a2 k_a2 hf => ?_)
  refine lv_iload_n B.1.1 B.1.2.1 dX10_cure_44 rfl (hl.at 2 rfl) ?_
  refine lv_iload_n B.1.1 B.1.2.1 dX10_cure_45 rfl (hl.at 3 rfl) ?_
  refine lv_i2l B.1.1 B.1.2.1 dX10_cure_46 rfl ?_
  refine y_last B hR hS hf k_a2 dX10_cure_47 (fun S3 H locs hf hR hS => ?_)
  refine lv_iload_n B.1.1 B.1.2.1 dX10_cure_48 rfl (hl.at 1 rfl) ?_
  refine lv_iload_n B.1.1 B.1.2.1 dX10_cure_49 rfl (hl.at 3 rfl) ?_
  refine lv_iadd B.1.1 B.1.2.1 dX10_cure_50 ?_
  refine y_istore_n B hl hf dX10_cure_51 rfl (by decide) rfl (fun v4 ls hf hl => ?_)
  have hl : xL ls 4 [_, _, _, _] := hl
  refine y_iinc (d := 1) B hl hf dX10_cure_52 rfl (by decide) (by decide) rfl (fun v5 ls hf hl => ?_)
  have hl : xL ls 4 [_, _, _, _] := hl
  refine lv_goto (tgt := 4) B.1.1 B.1.2.1 dX10_cure_55 (by decide) ?_
  exact hrec_4 _ _ _ _ _ _ _ k_p0 hf hR hS (hl.drop [true, true, true, false] rfl)
def f_X10_cure_4 (T : xT) : Nat → xS → Nat → Int32 → Int32 → Option (xS)
  | 0, _, _, _, _ => none
  | n + 1, S, p0, p1, p2 => if (8 : Int32) ≤ p2 then xc (f_X10_get T S p0 ((2 : Int32))) (fun r2 S1 => xc (f_X10_greater T S1 ((0 : Int32)) r2) (fun r4 S3 => xc (f_X10_lesser T S3 r4 p1) (fun r6 S5 => xl r6 (fun v7 => xcv (f_X10_dealOut T S5 p0 v7) (fun S8 => xcv (f_X10_notes T S8 p0 ((3 : Int32)) ((5 : Int32)) ((1 : Int32))) (fun S9 => xcv (f_X10_more T S9 p0 ((2 : Int32)) ((-v7))) (fun S10 => some S10))))))) else xc (f_X10_isThere T S p0 p2) (fun r12 S11 => if r12 = (0 : Int32) then f_X10_cure_39 T (f_X10_cure_4 T n) S11 p0 p1 p2 ((0 : Int32)) else xc (f_X10_floorOf T S11 p0 p2) (fun r14 S13 => xc (f_X10_get T S13 p0 (((5 : Int32) + p2))) (fun r16 S15 => xc (f_X10_greater T S15 ((0 : Int32)) ((r14 - r16))) (fun r18 S17 => f_X10_cure_39 T (f_X10_cure_4 T n) S17 p0 p1 p2 r18))))
set_option maxRecDepth 100000 in
set_option maxHeartbeats 4000000 in
theorem w_X10_cure_4 {p : Program} {l : Launch} {e : Env} {s : State} {m : MethodId} {args : Array Value} {below : List Frame} {meth : Method} {c : Code} {z : Nat} {D : va_G} {dA : Nat → ClassId} {T : xT} (B : xB p s m args meth c cX10_cure RX10 4 none D dA) {q : xS} : ∀ (n : Nat), ∀ (S : xS) (H : Heap) (locs : List Loc) (ls : Array Slot) (p0 : Nat) (p1 : Int32) (p2 : Int32), xlk T p0 10 = true → f_X10_cure_4 T n S p0 p1 p2 = some q → xRel z D dA T S H → va_S (xA z) s.heap H locs → xL ls 4 [some (.ref (z + p0)), some (.int p1), some (.int p2), none] → xGv p l e xr_X10_cure s m args below meth c z D dA T q H locs 4 ls [] := by
  intro n
  induction n with
  | zero =>
    intro S H locs ls p0 p1 p2 k_p0 hf hR hS hl
    exact absurd hf (by simp [f_X10_cure_4])
  | succ n ih =>
    intro S H locs ls p0 p1 p2 k_p0 hf hR hS hl
    unfold f_X10_cure_4 at hf
    refine lv_iload_n B.1.1 B.1.2.1 dX10_cure_4 rfl (hl.at 2 rfl) ?_
    refine lv_bipush (v := 8) B.1.1 B.1.2.1 dX10_cure_5 (by decide) ?_
    refine y_icmp_ge (tgt := 58) B hf dX10_cure_7 (by decide) (fun hf => ?_) (fun hf => ?_)
    · refine lv_iconst (v := 0) B.1.1 B.1.2.1 dX10_cure_58 (by decide) ?_
      refine lv_aload_n B.1.1 B.1.2.1 dX10_cure_59 rfl (hl.at 0 rfl) ?_
      refine lv_iconst (v := 2) B.1.1 B.1.2.1 dX10_cure_60 (by decide) ?_
      refine y_ci hf (fun q hq => x_runV (ci := 10) (C := RX10) B.1 B.2.2.2 hl hR hS cm_X10_193 ⟨rfl, rfl, Nat.le_of_ble_eq_true rfl, Nat.le_of_ble_eq_true rfl⟩ (by decide) rfl k_p0 (c_X10_get k_p0 hq) rfl rfl (Nat.le_of_ble_eq_true rfl) dX10_cure_61 ⟨Nat.le_of_ble_eq_true rfl, Nat.le_of_ble_eq_true rfl⟩) hS (fun r2 S1 H locs hf hR hS => ?_)
      refine y_ci hf (fun q hq => y_runS B.1 B.2.2.2 hl hR hS cm_X10_224 ⟨rfl, rfl, Nat.le_of_ble_eq_true rfl, Nat.le_of_ble_eq_true rfl⟩ (c_X10_greater hq) rfl rfl (Nat.le_of_ble_eq_true rfl) dX10_cure_64 ⟨Nat.le_of_ble_eq_true rfl, Nat.le_of_ble_eq_true rfl⟩) hS (fun r4 S3 H locs hf hR hS => ?_)
      refine lv_iload_n B.1.1 B.1.2.1 dX10_cure_67 rfl (hl.at 1 rfl) ?_
      refine y_ci hf (fun q hq => y_runS B.1 B.2.2.2 hl hR hS cm_X10_252 ⟨rfl, rfl, Nat.le_of_ble_eq_true rfl, Nat.le_of_ble_eq_true rfl⟩ (c_X10_lesser hq) rfl rfl (Nat.le_of_ble_eq_true rfl) dX10_cure_68 ⟨Nat.le_of_ble_eq_true rfl, Nat.le_of_ble_eq_true rfl⟩) hS (fun r6 S5 H locs hf hR hS => ?_)
      refine y_istore_n B hl hf dX10_cure_71 rfl (by decide) rfl (fun v7 ls hf hl => ?_)
      have hl : xL ls 4 [_, _, _, _] := hl
      refine lv_aload_n B.1.1 B.1.2.1 dX10_cure_72 rfl (hl.at 0 rfl) ?_
      refine lv_iload_n B.1.1 B.1.2.1 dX10_cure_73 rfl (hl.at 2 rfl) ?_
      refine y_cv hf (fun q hq => x_runV (ci := 10) (C := RX10) B.1 B.2.2.2 hl hR hS cm_X10_209 ⟨rfl, rfl, Nat.le_of_ble_eq_true rfl, Nat.le_of_ble_eq_true rfl⟩ (by decide) rfl k_p0 (c_X10_dealOut k_p0 hq) rfl rfl (Nat.le_of_ble_eq_true rfl) dX10_cure_74 ⟨Nat.le_of_ble_eq_true rfl, Nat.le_of_ble_eq_true rfl⟩) hS (fun S8 H locs hf hR hS => ?_)
      refine lv_aload_n B.1.1 B.1.2.1 dX10_cure_77 rfl (hl.at 0 rfl) ?_
      refine lv_iconst (v := 3) B.1.1 B.1.2.1 dX10_cure_78 (by decide) ?_
      refine lv_iconst (v := 5) B.1.1 B.1.2.1 dX10_cure_79 (by decide) ?_
      refine lv_iconst (v := 1) B.1.1 B.1.2.1 dX10_cure_80 (by decide) ?_
      refine y_cv hf (fun q hq => x_runV (ci := 10) (C := RX10) B.1 B.2.2.2 hl hR hS cm_X10_255 ⟨rfl, rfl, Nat.le_of_ble_eq_true rfl, Nat.le_of_ble_eq_true rfl⟩ (by decide) rfl k_p0 (c_X10_notes k_p0 hq) rfl rfl (Nat.le_of_ble_eq_true rfl) dX10_cure_81 ⟨Nat.le_of_ble_eq_true rfl, Nat.le_of_ble_eq_true rfl⟩) hS (fun S9 H locs hf hR hS => ?_)
      refine lv_aload_n B.1.1 B.1.2.1 dX10_cure_84 rfl (hl.at 0 rfl) ?_
      refine lv_iconst (v := 2) B.1.1 B.1.2.1 dX10_cure_85 (by decide) ?_
      refine lv_iload_n B.1.1 B.1.2.1 dX10_cure_86 rfl (hl.at 2 rfl) ?_
      refine lv_ineg B.1.1 B.1.2.1 dX10_cure_87 ?_
      refine y_cv hf (fun q hq => x_runV (ci := 10) (C := RX10) B.1 B.2.2.2 hl hR hS cm_X10_246 ⟨rfl, rfl, Nat.le_of_ble_eq_true rfl, Nat.le_of_ble_eq_true rfl⟩ (by decide) rfl k_p0 (c_X10_more k_p0 hq) rfl rfl (Nat.le_of_ble_eq_true rfl) dX10_cure_88 ⟨Nat.le_of_ble_eq_true rfl, Nat.le_of_ble_eq_true rfl⟩) hS (fun S10 H locs hf hR hS => ?_)
      exact y_vret B hR hS hf dX10_cure_91
    · refine lv_aload_n B.1.1 B.1.2.1 dX10_cure_10 rfl (hl.at 0 rfl) ?_
      refine lv_iload_n B.1.1 B.1.2.1 dX10_cure_11 rfl (hl.at 2 rfl) ?_
      refine y_ci hf (fun q hq => x_runV (ci := 10) (C := RX10) B.1 B.2.2.2 hl hR hS cm_X10_203 ⟨rfl, rfl, Nat.le_of_ble_eq_true rfl, Nat.le_of_ble_eq_true rfl⟩ (by decide) rfl k_p0 (c_X10_isThere k_p0 hq) rfl rfl (Nat.le_of_ble_eq_true rfl) dX10_cure_12 ⟨Nat.le_of_ble_eq_true rfl, Nat.le_of_ble_eq_true rfl⟩) hS (fun r12 S11 H locs hf hR hS => ?_)
      refine y_if_eq (tgt := 38) B hf dX10_cure_15 (by decide) (fun hf => ?_) (fun hf => ?_)
      · refine lv_iconst (v := 0) B.1.1 B.1.2.1 dX10_cure_38 (by decide) ?_
        exact w_X10_cure_39 B ih _ _ _ _ _ _ _ _ k_p0 hf hR hS hl
      · refine lv_iconst (v := 0) B.1.1 B.1.2.1 dX10_cure_18 (by decide) ?_
        refine lv_aload_n B.1.1 B.1.2.1 dX10_cure_19 rfl (hl.at 0 rfl) ?_
        refine lv_iload_n B.1.1 B.1.2.1 dX10_cure_20 rfl (hl.at 2 rfl) ?_
        refine y_ci hf (fun q hq => x_runV (ci := 10) (C := RX10) B.1 B.2.2.2 hl hR hS cm_X10_237 ⟨rfl, rfl, Nat.le_of_ble_eq_true rfl, Nat.le_of_ble_eq_true rfl⟩ (by decide) rfl k_p0 (c_X10_floorOf k_p0 hq) rfl rfl (Nat.le_of_ble_eq_true rfl) dX10_cure_21 ⟨Nat.le_of_ble_eq_true rfl, Nat.le_of_ble_eq_true rfl⟩) hS (fun r14 S13 H locs hf hR hS => ?_)
        refine lv_aload_n B.1.1 B.1.2.1 dX10_cure_24 rfl (hl.at 0 rfl) ?_
        refine lv_iconst (v := 5) B.1.1 B.1.2.1 dX10_cure_25 (by decide) ?_
        refine lv_iload_n B.1.1 B.1.2.1 dX10_cure_26 rfl (hl.at 2 rfl) ?_
        refine lv_iadd B.1.1 B.1.2.1 dX10_cure_27 ?_
        refine y_ci hf (fun q hq => x_runV (ci := 10) (C := RX10) B.1 B.2.2.2 hl hR hS cm_X10_193 ⟨rfl, rfl, Nat.le_of_ble_eq_true rfl, Nat.le_of_ble_eq_true rfl⟩ (by decide) rfl k_p0 (c_X10_get k_p0 hq) rfl rfl (Nat.le_of_ble_eq_true rfl) dX10_cure_28 ⟨Nat.le_of_ble_eq_true rfl, Nat.le_of_ble_eq_true rfl⟩) hS (fun r16 S15 H locs hf hR hS => ?_)
        refine lv_isub B.1.1 B.1.2.1 dX10_cure_31 ?_
        refine y_ci hf (fun q hq => y_runS B.1 B.2.2.2 hl hR hS cm_X10_224 ⟨rfl, rfl, Nat.le_of_ble_eq_true rfl, Nat.le_of_ble_eq_true rfl⟩ (c_X10_greater hq) rfl rfl (Nat.le_of_ble_eq_true rfl) dX10_cure_32 ⟨Nat.le_of_ble_eq_true rfl, Nat.le_of_ble_eq_true rfl⟩) hS (fun r18 S17 H locs hf hR hS => ?_)
        refine lv_goto (tgt := 39) B.1.1 B.1.2.1 dX10_cure_35 (by decide) ?_
        exact w_X10_cure_39 B ih _ _ _ _ _ _ _ _ k_p0 hf hR hS hl
def f_X10_cure (T : xT) (S : xS) (p0 : Nat) : Option (xS) := xl ((0 : Int32)) (fun v1 => xl ((0 : Int32)) (fun v2 => f_X10_cure_4 T xfu S p0 v1 v2))
set_option maxRecDepth 100000 in
set_option maxHeartbeats 4000000 in
theorem c_X10_cure {l : Launch} {z : Nat} {D : va_G} {dA : Nat → ClassId} {T : xT} {S : xS} {p0 : Nat} (k_p0 : xlk T p0 10 = true) {q : xS} (hf : f_X10_cure T S p0 = some q) : Met l yX10_cure (xws yX10_cure cX10_cure 4 none) xr_X10_cure (xPc z D dA T S [.ref (z + p0)]) (xQv z D dA T q) 0 0 (xA z) := by
  refine x_met RX10 (by decide) rfl (Nat.le_of_ble_eq_true rfl) ?_
  intro p e s m below meth c ls _ X hr hlk hml _ hR hS hl
  have B : xB p s m _ meth c cX10_cure RX10 4 none D dA := ⟨X, hr, hlk, hml⟩
  have hl : xL ls 4 [_, _, _, _] := hl
  unfold f_X10_cure at hf
  refine lv_iconst (v := 0) B.1.1 B.1.2.1 dX10_cure_0 (by decide) ?_
  refine y_istore_n B hl hf dX10_cure_1 rfl (by decide) rfl (fun v1 ls hf hl => ?_)
  have hl : xL ls 4 [_, _, _, _] := hl
  refine lv_iconst (v := 0) B.1.1 B.1.2.1 dX10_cure_2 (by decide) ?_
  refine y_istore_n B hl hf dX10_cure_3 rfl (by decide) rfl (fun v2 ls hf hl => ?_)
  have hl : xL ls 4 [_, _, _, _] := hl
  exact w_X10_cure_4 B xfu _ _ _ _ _ _ _ k_p0 hf hR hS hl
abbrev xr_X10_specialAt : Room := { frames := 1, cells := 0, slots := 0, locals := 12 }
def f_X10_specialAt (T : xT) (S : xS) (p0 : Int32) : Option (Int32 × xS) := some (((160 : Int32) + ((6 : Int32) * p0)), S)
set_option maxRecDepth 100000 in
set_option maxHeartbeats 4000000 in
theorem c_X10_specialAt {l : Launch} {z : Nat} {D : va_G} {dA : Nat → ClassId} {T : xT} {S : xS} {p0 : Int32} {q : Int32 × xS} (hf : f_X10_specialAt T S p0 = some q) : Met l yX10_specialAt (xws yX10_specialAt cX10_specialAt 1 (some .int)) xr_X10_specialAt (xPc z D dA T S [.int p0]) (xQi z D dA T q) 0 0 (xA z) := by
  refine x_met RX10 (by decide) rfl (Nat.le_of_ble_eq_true rfl) ?_
  intro p e s m below meth c ls _ X hr hlk hml _ hR hS hl
  have B : xB p s m _ meth c cX10_specialAt RX10 1 (some .int) D dA := ⟨X, hr, hlk, hml⟩
  have hl : xL ls 1 [_] := hl
  unfold f_X10_specialAt at hf
  refine lv_sipush (v := 160) B.1.1 B.1.2.1 dX10_specialAt_0 (by decide) ?_
  refine lv_bipush (v := 6) B.1.1 B.1.2.1 dX10_specialAt_3 (by decide) ?_
  refine lv_iload_n B.1.1 B.1.2.1 dX10_specialAt_5 rfl (hl.at 0 rfl) ?_
  refine lv_imul B.1.1 B.1.2.1 dX10_specialAt_6 ?_
  refine lv_iadd B.1.1 B.1.2.1 dX10_specialAt_7 ?_
  exact y_iret B hR hS hf dX10_specialAt_8
abbrev xr_X10_nameNow : Room := { frames := 4, cells := 0, slots := 0, locals := 77 }
def f_X10_nameNow (T : xT) (S : xS) (p0 : Nat) (p1 : Int32) : Option (Int32 × xS) := if p1 = (0 : Int32) then xc (f_X10_get T S p0 ((2 : Int32))) (fun r3 S2 => some (r3, S2)) else if p1 = (1 : Int32) then xc (f_X10_get T S p0 ((3 : Int32))) (fun r6 S5 => some (r6, S5)) else if p1 = (2 : Int32) then xc (f_X10_held T S p0) (fun r9 S8 => some (r9, S8)) else if p1 = (3 : Int32) then xc (f_X10_get T S p0 ((1 : Int32))) (fun r12 S11 => some (r12, S11)) else if p1 = (4 : Int32) then xc (f_X10_net T S p0) (fun r15 S14 => some (r15, S14)) else if (20 : Int32) ≤ p1 then xc (f_X10_get T S p0 ((((29 : Int32) + p1) - (20 : Int32)))) (fun r17 S16 => some (r17, S16)) else xc (f_X10_get T S p0 ((((5 : Int32) + p1) - (10 : Int32)))) (fun r19 S18 => some (r19, S18))
set_option maxRecDepth 100000 in
set_option maxHeartbeats 4000000 in
theorem c_X10_nameNow {l : Launch} {z : Nat} {D : va_G} {dA : Nat → ClassId} {T : xT} {S : xS} {p0 : Nat} {p1 : Int32} (k_p0 : xlk T p0 10 = true) {q : Int32 × xS} (hf : f_X10_nameNow T S p0 p1 = some q) : Met l yX10_nameNow (xws yX10_nameNow cX10_nameNow 2 (some .int)) xr_X10_nameNow (xPc z D dA T S [.ref (z + p0), .int p1]) (xQi z D dA T q) 0 0 (xA z) := by
  refine x_met RX10 (by decide) rfl (Nat.le_of_ble_eq_true rfl) ?_
  intro p e s m below meth c ls _ X hr hlk hml _ hR hS hl
  have B : xB p s m _ meth c cX10_nameNow RX10 2 (some .int) D dA := ⟨X, hr, hlk, hml⟩
  have hl : xL ls 2 [_, _] := hl
  unfold f_X10_nameNow at hf
  refine lv_iload_n B.1.1 B.1.2.1 dX10_nameNow_0 rfl (hl.at 1 rfl) ?_
  refine x_if hf (fun c1 hf => ?_) (fun c1 hf => ?_)
  · refine y_tcase (k := 0) (off := 35) (tgt := 36) B c1 dX10_nameNow_1 (by decide) (by decide) (by decide) (by decide) ?_
    refine lv_aload_n B.1.1 B.1.2.1 dX10_nameNow_36 rfl (hl.at 0 rfl) ?_
    refine lv_iconst (v := 2) B.1.1 B.1.2.1 dX10_nameNow_37 (by decide) ?_
    refine y_ci hf (fun q hq => x_runV (ci := 10) (C := RX10) B.1 B.2.2.2 hl hR hS cm_X10_193 ⟨rfl, rfl, Nat.le_of_ble_eq_true rfl, Nat.le_of_ble_eq_true rfl⟩ (by decide) rfl k_p0 (c_X10_get k_p0 hq) rfl rfl (Nat.le_of_ble_eq_true rfl) dX10_nameNow_38 ⟨Nat.le_of_ble_eq_true rfl, Nat.le_of_ble_eq_true rfl⟩) hS (fun r3 S2 H locs hf hR hS => ?_)
    exact y_iret B hR hS hf dX10_nameNow_41
  refine x_if hf (fun c4 hf => ?_) (fun c4 hf => ?_)
  · refine y_tcase (k := 1) (off := 41) (tgt := 42) B c4 dX10_nameNow_1 (by decide) (by decide) (by decide) (by decide) ?_
    refine lv_aload_n B.1.1 B.1.2.1 dX10_nameNow_42 rfl (hl.at 0 rfl) ?_
    refine lv_iconst (v := 3) B.1.1 B.1.2.1 dX10_nameNow_43 (by decide) ?_
    refine y_ci hf (fun q hq => x_runV (ci := 10) (C := RX10) B.1 B.2.2.2 hl hR hS cm_X10_193 ⟨rfl, rfl, Nat.le_of_ble_eq_true rfl, Nat.le_of_ble_eq_true rfl⟩ (by decide) rfl k_p0 (c_X10_get k_p0 hq) rfl rfl (Nat.le_of_ble_eq_true rfl) dX10_nameNow_44 ⟨Nat.le_of_ble_eq_true rfl, Nat.le_of_ble_eq_true rfl⟩) hS (fun r6 S5 H locs hf hR hS => ?_)
    exact y_iret B hR hS hf dX10_nameNow_47
  refine x_if hf (fun c7 hf => ?_) (fun c7 hf => ?_)
  · refine y_tcase (k := 2) (off := 47) (tgt := 48) B c7 dX10_nameNow_1 (by decide) (by decide) (by decide) (by decide) ?_
    refine lv_aload_n B.1.1 B.1.2.1 dX10_nameNow_48 rfl (hl.at 0 rfl) ?_
    refine y_ci hf (fun q hq => x_runV (ci := 10) (C := RX10) B.1 B.2.2.2 hl hR hS cm_X10_234 ⟨rfl, rfl, Nat.le_of_ble_eq_true rfl, Nat.le_of_ble_eq_true rfl⟩ (by decide) rfl k_p0 (c_X10_held k_p0 hq) rfl rfl (Nat.le_of_ble_eq_true rfl) dX10_nameNow_49 ⟨Nat.le_of_ble_eq_true rfl, Nat.le_of_ble_eq_true rfl⟩) hS (fun r9 S8 H locs hf hR hS => ?_)
    exact y_iret B hR hS hf dX10_nameNow_52
  refine x_if hf (fun c10 hf => ?_) (fun c10 hf => ?_)
  · refine y_tcase (k := 3) (off := 52) (tgt := 53) B c10 dX10_nameNow_1 (by decide) (by decide) (by decide) (by decide) ?_
    refine lv_aload_n B.1.1 B.1.2.1 dX10_nameNow_53 rfl (hl.at 0 rfl) ?_
    refine lv_iconst (v := 1) B.1.1 B.1.2.1 dX10_nameNow_54 (by decide) ?_
    refine y_ci hf (fun q hq => x_runV (ci := 10) (C := RX10) B.1 B.2.2.2 hl hR hS cm_X10_193 ⟨rfl, rfl, Nat.le_of_ble_eq_true rfl, Nat.le_of_ble_eq_true rfl⟩ (by decide) rfl k_p0 (c_X10_get k_p0 hq) rfl rfl (Nat.le_of_ble_eq_true rfl) dX10_nameNow_55 ⟨Nat.le_of_ble_eq_true rfl, Nat.le_of_ble_eq_true rfl⟩) hS (fun r12 S11 H locs hf hR hS => ?_)
    exact y_iret B hR hS hf dX10_nameNow_58
  refine x_if hf (fun c13 hf => ?_) (fun c13 hf => ?_)
  · refine y_tcase (k := 4) (off := 58) (tgt := 59) B c13 dX10_nameNow_1 (by decide) (by decide) (by decide) (by decide) ?_
    refine lv_aload_n B.1.1 B.1.2.1 dX10_nameNow_59 rfl (hl.at 0 rfl) ?_
    refine y_ci hf (fun q hq => x_runV (ci := 10) (C := RX10) B.1 B.2.2.2 hl hR hS cm_X10_231 ⟨rfl, rfl, Nat.le_of_ble_eq_true rfl, Nat.le_of_ble_eq_true rfl⟩ (by decide) rfl k_p0 (c_X10_net k_p0 hq) rfl rfl (Nat.le_of_ble_eq_true rfl) dX10_nameNow_60 ⟨Nat.le_of_ble_eq_true rfl, Nat.le_of_ble_eq_true rfl⟩) hS (fun r15 S14 H locs hf hR hS => ?_)
    exact y_iret B hR hS hf dX10_nameNow_63
  have n0 := lv_neT c1 (a := 0) (by decide)
  have n1 := lv_neT c4 (a := 1) (by decide)
  have n2 := lv_neT c7 (a := 2) (by decide)
  have n3 := lv_neT c10 (a := 3) (by decide)
  have n4 := lv_neT c13 (a := 4) (by decide)
  refine y_tdef (tgt := 64) B dX10_nameNow_1 (by omega) (by decide) ?_
  refine lv_iload_n B.1.1 B.1.2.1 dX10_nameNow_64 rfl (hl.at 1 rfl) ?_
  refine lv_bipush (v := 20) B.1.1 B.1.2.1 dX10_nameNow_65 (by decide) ?_
  refine y_icmp_ge (tgt := 83) B hf dX10_nameNow_67 (by decide) (fun hf => ?_) (fun hf => ?_)
  · refine lv_aload_n B.1.1 B.1.2.1 dX10_nameNow_83 rfl (hl.at 0 rfl) ?_
    refine lv_bipush (v := 29) B.1.1 B.1.2.1 dX10_nameNow_84 (by decide) ?_
    refine lv_iload_n B.1.1 B.1.2.1 dX10_nameNow_86 rfl (hl.at 1 rfl) ?_
    refine lv_iadd B.1.1 B.1.2.1 dX10_nameNow_87 ?_
    refine lv_bipush (v := 20) B.1.1 B.1.2.1 dX10_nameNow_88 (by decide) ?_
    refine lv_isub B.1.1 B.1.2.1 dX10_nameNow_90 ?_
    refine y_ci hf (fun q hq => x_runV (ci := 10) (C := RX10) B.1 B.2.2.2 hl hR hS cm_X10_193 ⟨rfl, rfl, Nat.le_of_ble_eq_true rfl, Nat.le_of_ble_eq_true rfl⟩ (by decide) rfl k_p0 (c_X10_get k_p0 hq) rfl rfl (Nat.le_of_ble_eq_true rfl) dX10_nameNow_91 ⟨Nat.le_of_ble_eq_true rfl, Nat.le_of_ble_eq_true rfl⟩) hS (fun r17 S16 H locs hf hR hS => ?_)
    exact y_iret B hR hS hf dX10_nameNow_94
  · refine lv_aload_n B.1.1 B.1.2.1 dX10_nameNow_70 rfl (hl.at 0 rfl) ?_
    refine lv_iconst (v := 5) B.1.1 B.1.2.1 dX10_nameNow_71 (by decide) ?_
    refine lv_iload_n B.1.1 B.1.2.1 dX10_nameNow_72 rfl (hl.at 1 rfl) ?_
    refine lv_iadd B.1.1 B.1.2.1 dX10_nameNow_73 ?_
    refine lv_bipush (v := 10) B.1.1 B.1.2.1 dX10_nameNow_74 (by decide) ?_
    refine lv_isub B.1.1 B.1.2.1 dX10_nameNow_76 ?_
    refine y_ci hf (fun q hq => x_runV (ci := 10) (C := RX10) B.1 B.2.2.2 hl hR hS cm_X10_193 ⟨rfl, rfl, Nat.le_of_ble_eq_true rfl, Nat.le_of_ble_eq_true rfl⟩ (by decide) rfl k_p0 (c_X10_get k_p0 hq) rfl rfl (Nat.le_of_ble_eq_true rfl) dX10_nameNow_77 ⟨Nat.le_of_ble_eq_true rfl, Nat.le_of_ble_eq_true rfl⟩) hS (fun r19 S18 H locs hf hR hS => ?_)
    refine lv_goto (tgt := 94) B.1.1 B.1.2.1 dX10_nameNow_80 (by decide) ?_
    exact y_iret B hR hS hf dX10_nameNow_94
abbrev xr_X10_joined : Room := { frames := 1, cells := 0, slots := 0, locals := 12 }
def f_X10_joined (T : xT) (S : xS) (p0 : Int32) (p1 : Int32) (p2 : Int32) : Option (Int32 × xS) := if p0 = (42 : Int32) then some ((p1 * p2), S) else if p0 = (43 : Int32) then some ((p1 + p2), S) else if p0 = (44 : Int32) then if p2 = (0 : Int32) then some ((0 : Int32), S) else xgd (xn0 p2) (some ((p1 / p2), S)) else if p0 = (45 : Int32) then some ((p1 - p2), S) else if p2 = (0 : Int32) then some ((0 : Int32), S) else xgd (xn0 p2) (some ((p1 / p2), S))
set_option maxRecDepth 100000 in
set_option maxHeartbeats 4000000 in
theorem c_X10_joined {l : Launch} {z : Nat} {D : va_G} {dA : Nat → ClassId} {T : xT} {S : xS} {p0 : Int32} {p1 : Int32} {p2 : Int32} {q : Int32 × xS} (hf : f_X10_joined T S p0 p1 p2 = some q) : Met l yX10_joined (xws yX10_joined cX10_joined 3 (some .int)) xr_X10_joined (xPc z D dA T S [.int p0, .int p1, .int p2]) (xQi z D dA T q) 0 0 (xA z) := by
  refine x_met RX10 (by decide) rfl (Nat.le_of_ble_eq_true rfl) ?_
  intro p e s m below meth c ls _ X hr hlk hml _ hR hS hl
  have B : xB p s m _ meth c cX10_joined RX10 3 (some .int) D dA := ⟨X, hr, hlk, hml⟩
  have hl : xL ls 3 [_, _, _] := hl
  unfold f_X10_joined at hf
  refine lv_iload_n B.1.1 B.1.2.1 dX10_joined_0 rfl (hl.at 0 rfl) ?_
  refine x_if hf (fun c1 hf => ?_) (fun c1 hf => ?_)
  · refine y_tcase (k := 42) (off := 39) (tgt := 40) B c1 dX10_joined_1 (by decide) (by decide) (by decide) (by decide) ?_
    refine lv_iload_n B.1.1 B.1.2.1 dX10_joined_40 rfl (hl.at 1 rfl) ?_
    refine lv_iload_n B.1.1 B.1.2.1 dX10_joined_41 rfl (hl.at 2 rfl) ?_
    refine lv_imul B.1.1 B.1.2.1 dX10_joined_42 ?_
    exact y_iret B hR hS hf dX10_joined_43
  refine x_if hf (fun c2 hf => ?_) (fun c2 hf => ?_)
  · refine y_tcase (k := 43) (off := 31) (tgt := 32) B c2 dX10_joined_1 (by decide) (by decide) (by decide) (by decide) ?_
    refine lv_iload_n B.1.1 B.1.2.1 dX10_joined_32 rfl (hl.at 1 rfl) ?_
    refine lv_iload_n B.1.1 B.1.2.1 dX10_joined_33 rfl (hl.at 2 rfl) ?_
    refine lv_iadd B.1.1 B.1.2.1 dX10_joined_34 ?_
    exact y_iret B hR hS hf dX10_joined_35
  refine x_if hf (fun c3 hf => ?_) (fun c3 hf => ?_)
  · refine y_tcase (k := 44) (off := 43) (tgt := 44) B c3 dX10_joined_1 (by decide) (by decide) (by decide) (by decide) ?_
    refine lv_iload_n B.1.1 B.1.2.1 dX10_joined_44 rfl (hl.at 2 rfl) ?_
    refine y_if_ne (tgt := 52) B hf dX10_joined_45 (by decide) (fun hf => ?_) (fun hf => ?_)
    · refine lv_iload_n B.1.1 B.1.2.1 dX10_joined_52 rfl (hl.at 1 rfl) ?_
      refine lv_iload_n B.1.1 B.1.2.1 dX10_joined_53 rfl (hl.at 2 rfl) ?_
      refine y_idiv B hf dX10_joined_54 (fun hf => ?_)
      exact y_iret B hR hS hf dX10_joined_55
    · refine lv_iconst (v := 0) B.1.1 B.1.2.1 dX10_joined_48 (by decide) ?_
      refine lv_goto (tgt := 55) B.1.1 B.1.2.1 dX10_joined_49 (by decide) ?_
      exact y_iret B hR hS hf dX10_joined_55
  refine x_if hf (fun c4 hf => ?_) (fun c4 hf => ?_)
  · refine y_tcase (k := 45) (off := 35) (tgt := 36) B c4 dX10_joined_1 (by decide) (by decide) (by decide) (by decide) ?_
    refine lv_iload_n B.1.1 B.1.2.1 dX10_joined_36 rfl (hl.at 1 rfl) ?_
    refine lv_iload_n B.1.1 B.1.2.1 dX10_joined_37 rfl (hl.at 2 rfl) ?_
    refine lv_isub B.1.1 B.1.2.1 dX10_joined_38 ?_
    exact y_iret B hR hS hf dX10_joined_39
  have n0 := lv_neT c1 (a := 42) (by decide)
  have n1 := lv_neT c2 (a := 43) (by decide)
  have n2 := lv_neT c3 (a := 44) (by decide)
  have n3 := lv_neT c4 (a := 45) (by decide)
  refine y_tdef (tgt := 44) B dX10_joined_1 (by omega) (by decide) ?_
  refine lv_iload_n B.1.1 B.1.2.1 dX10_joined_44 rfl (hl.at 2 rfl) ?_
  refine y_if_ne (tgt := 52) B hf dX10_joined_45 (by decide) (fun hf => ?_) (fun hf => ?_)
  · refine lv_iload_n B.1.1 B.1.2.1 dX10_joined_52 rfl (hl.at 1 rfl) ?_
    refine lv_iload_n B.1.1 B.1.2.1 dX10_joined_53 rfl (hl.at 2 rfl) ?_
    refine y_idiv B hf dX10_joined_54 (fun hf => ?_)
    exact y_iret B hR hS hf dX10_joined_55
  · refine lv_iconst (v := 0) B.1.1 B.1.2.1 dX10_joined_48 (by decide) ?_
    refine lv_goto (tgt := 55) B.1.1 B.1.2.1 dX10_joined_49 (by decide) ?_
    exact y_iret B hR hS hf dX10_joined_55
abbrev xr_X10_worked : Room := { frames := 5, cells := 0, slots := 0, locals := 98 }
def f_X10_worked_5 (T : xT) : Nat → xS → Nat → Int32 → Int32 → Int32 → Option (Int32 × xS)
  | 0, _, _, _, _, _ => none
  | n + 1, S, p0, p2, p3, p4 => if p2 ≤ p4 then xgr T S p0 25 20 (fun a1 => xai T S a1 ((0 : Int32)) (fun v2 => some (v2, S))) else xc (f_X10_get T S p0 (((208 : Int32) + p4))) (fun r4 S3 => xl r4 (fun v5 => if (3000000 : Int32) ≤ v5 then xl (p3 + (-1 : Int32)) (fun v6 => xgr T S3 p0 25 20 (fun a7 => xgr T S3 p0 25 20 (fun a8 => xai T S3 a8 ((v6 - (1 : Int32))) (fun v9 => xgr T S3 p0 25 20 (fun a10 => xai T S3 a10 v6 (fun v11 => xc (f_X10_joined T S3 ((v5 - (3000000 : Int32))) v9 v11) (fun r13 S12 => xst T S12 a7 ((v6 - (1 : Int32))) r13 (fun S14 => xl (p4 + (1 : Int32)) (fun v15 => f_X10_worked_5 T n S14 p0 p2 v6 v15))))))))) else xgr T S3 p0 25 20 (fun a16 => if (2000000 : Int32) ≤ v5 then xc (f_X10_nameNow T S3 p0 ((v5 - (2000000 : Int32)))) (fun r18 S17 => xst T S17 a16 p3 r18 (fun S19 => xl (p3 + (1 : Int32)) (fun v20 => xl (p4 + (1 : Int32)) (fun v21 => f_X10_worked_5 T n S19 p0 p2 v20 v21)))) else xst T S3 a16 p3 v5 (fun S22 => xl (p3 + (1 : Int32)) (fun v23 => xl (p4 + (1 : Int32)) (fun v24 => f_X10_worked_5 T n S22 p0 p2 v23 v24))))))
set_option maxRecDepth 100000 in
set_option maxHeartbeats 4000000 in
theorem w_X10_worked_5 {p : Program} {l : Launch} {e : Env} {s : State} {m : MethodId} {args : Array Value} {below : List Frame} {meth : Method} {c : Code} {z : Nat} {D : va_G} {dA : Nat → ClassId} {T : xT} (B : xB p s m args meth c cX10_worked RX10 6 (some .int) D dA) {q : Int32 × xS} : ∀ (n : Nat), ∀ (S : xS) (H : Heap) (locs : List Loc) (ls : Array Slot) (p0 : Nat) (p2 : Int32) (p3 : Int32) (p4 : Int32), xlk T p0 10 = true → f_X10_worked_5 T n S p0 p2 p3 p4 = some q → xRel z D dA T S H → va_S (xA z) s.heap H locs → xL ls 6 [some (.ref (z + p0)), none, some (.int p2), some (.int p3), some (.int p4), none] → xGi p l e xr_X10_worked s m args below meth c z D dA T q H locs 5 ls [] := by
  intro n
  induction n with
  | zero =>
    intro S H locs ls p0 p2 p3 p4 k_p0 hf hR hS hl
    exact absurd hf (by simp [f_X10_worked_5])
  | succ n ih =>
    intro S H locs ls p0 p2 p3 p4 k_p0 hf hR hS hl
    unfold f_X10_worked_5 at hf
    refine lv_iload B.1.1 B.1.2.1 dX10_worked_5 (hl.at 4 rfl) ?_
    refine lv_iload_n B.1.1 B.1.2.1 dX10_worked_7 rfl (hl.at 2 rfl) ?_
    refine y_icmp_ge (tgt := 106) B hf dX10_worked_8 (by decide) (fun hf => ?_) (fun hf => ?_)
    · refine lv_aload_n B.1.1 B.1.2.1 dX10_worked_106 rfl (hl.at 0 rfl) ?_
      refine y_getR B hR hf k_p0 fl_X10_53 dX10_worked_107 (fun a1 k_a1 hf => ?_)
      refine lv_iconst (v := 0) B.1.1 B.1.2.1 dX10_worked_110 (by decide) ?_
      refine y_iald B hR hf k_a1 dX10_worked_111 (fun v2 hf => ?_)
      exact y_iret B hR hS hf dX10_worked_112
    · refine lv_aload_n B.1.1 B.1.2.1 dX10_worked_11 rfl (hl.at 0 rfl) ?_
      refine lv_sipush (v := 208) B.1.1 B.1.2.1 dX10_worked_12 (by decide) ?_
      refine lv_iload B.1.1 B.1.2.1 dX10_worked_15 (hl.at 4 rfl) ?_
      refine lv_iadd B.1.1 B.1.2.1 dX10_worked_17 ?_
      refine y_ci hf (fun q hq => x_runV (ci := 10) (C := RX10) B.1 B.2.2.2 hl hR hS cm_X10_193 ⟨rfl, rfl, Nat.le_of_ble_eq_true rfl, Nat.le_of_ble_eq_true rfl⟩ (by decide) rfl k_p0 (c_X10_get k_p0 hq) rfl rfl (Nat.le_of_ble_eq_true rfl) dX10_worked_18 ⟨Nat.le_of_ble_eq_true rfl, Nat.le_of_ble_eq_true rfl⟩) hS (fun r4 S3 H locs hf hR hS => ?_)
      refine y_istore B hl hf dX10_worked_21 (by decide) rfl (fun v5 ls hf hl => ?_)
      have hl : xL ls 6 [_, _, _, _, _, _] := hl
      refine lv_iload B.1.1 B.1.2.1 dX10_worked_23 (hl.at 5 rfl) ?_
      refine lv_ldcw (v := 3000000) B.1.1 B.1.2.1 B.1.2.2.1 (B.1.2.2.2.1 _ tw_1437) dX10_worked_25 ?_
      refine y_icmp_ge (tgt := 66) B hf dX10_worked_28 (by decide) (fun hf => ?_) (fun hf => ?_)
      · refine y_iinc (d := -1) B hl hf dX10_worked_66 rfl (by decide) (by decide) rfl (fun v6 ls hf hl => ?_)
        have hl : xL ls 6 [_, _, _, _, _, _] := hl
        refine lv_aload_n B.1.1 B.1.2.1 dX10_worked_69 rfl (hl.at 0 rfl) ?_
        refine y_getR B hR hf k_p0 fl_X10_53 dX10_worked_70 (fun a7 k_a7 hf => ?_)
        refine lv_iload_n B.1.1 B.1.2.1 dX10_worked_73 rfl (hl.at 3 rfl) ?_
        refine lv_iconst (v := 1) B.1.1 B.1.2.1 dX10_worked_74 (by decide) ?_
        refine lv_isub B.1.1 B.1.2.1 dX10_worked_75 ?_
        refine lv_iload B.1.1 B.1.2.1 dX10_worked_76 (hl.at 5 rfl) ?_
        refine lv_ldcw (v := 3000000) B.1.1 B.1.2.1 B.1.2.2.1 (B.1.2.2.2.1 _ tw_1437) dX10_worked_78 ?_
        refine lv_isub B.1.1 B.1.2.1 dX10_worked_81 ?_
        refine lv_aload_n B.1.1 B.1.2.1 dX10_worked_82 rfl (hl.at 0 rfl) ?_
        refine y_getR B hR hf k_p0 fl_X10_53 dX10_worked_83 (fun a8 k_a8 hf => ?_)
        refine lv_iload_n B.1.1 B.1.2.1 dX10_worked_86 rfl (hl.at 3 rfl) ?_
        refine lv_iconst (v := 1) B.1.1 B.1.2.1 dX10_worked_87 (by decide) ?_
        refine lv_isub B.1.1 B.1.2.1 dX10_worked_88 ?_
        refine y_iald B hR hf k_a8 dX10_worked_89 (fun v9 hf => ?_)
        refine lv_aload_n B.1.1 B.1.2.1 dX10_worked_90 rfl (hl.at 0 rfl) ?_
        refine y_getR B hR hf k_p0 fl_X10_53 dX10_worked_91 (fun a10 k_a10 hf => ?_)
        refine lv_iload_n B.1.1 B.1.2.1 dX10_worked_94 rfl (hl.at 3 rfl) ?_
        refine y_iald B hR hf k_a10 dX10_worked_95 (fun v11 hf => ?_)
        refine y_ci hf (fun q hq => y_runS B.1 B.2.2.2 hl hR hS cm_X10_349 ⟨rfl, rfl, Nat.le_of_ble_eq_true rfl, Nat.le_of_ble_eq_true rfl⟩ (c_X10_joined hq) rfl rfl (Nat.le_of_ble_eq_true rfl) dX10_worked_96 ⟨Nat.le_of_ble_eq_true rfl, Nat.le_of_ble_eq_true rfl⟩) hS (fun r13 S12 H locs hf hR hS => ?_)
        refine y_iast B hR hS hf k_a7 dX10_worked_99 (fun S14 H locs hf hR hS => ?_)
        refine y_iinc (d := 1) B hl hf dX10_worked_100 rfl (by decide) (by decide) rfl (fun v15 ls hf hl => ?_)
        have hl : xL ls 6 [_, _, _, _, _, _] := hl
        refine lv_goto (tgt := 5) B.1.1 B.1.2.1 dX10_worked_103 (by decide) ?_
        exact ih _ _ _ _ _ _ _ _ k_p0 hf hR hS (hl.drop [true, false, true, true, true, false] rfl)
      · refine lv_aload_n B.1.1 B.1.2.1 dX10_worked_31 rfl (hl.at 0 rfl) ?_
        refine y_getR B hR hf k_p0 fl_X10_53 dX10_worked_32 (fun a16 k_a16 hf => ?_)
        refine lv_iload_n B.1.1 B.1.2.1 dX10_worked_35 rfl (hl.at 3 rfl) ?_
        refine lv_iload B.1.1 B.1.2.1 dX10_worked_36 (hl.at 5 rfl) ?_
        refine lv_ldcw (v := 2000000) B.1.1 B.1.2.1 B.1.2.2.1 (B.1.2.2.2.1 _ tw_1438) dX10_worked_38 ?_
        refine y_icmp_ge (tgt := 49) B hf dX10_worked_41 (by decide) (fun hf => ?_) (fun hf => ?_)
        · refine lv_aload_n B.1.1 B.1.2.1 dX10_worked_49 rfl (hl.at 0 rfl) ?_
          refine lv_iload B.1.1 B.1.2.1 dX10_worked_50 (hl.at 5 rfl) ?_
          refine lv_ldcw (v := 2000000) B.1.1 B.1.2.1 B.1.2.2.1 (B.1.2.2.2.1 _ tw_1438) dX10_worked_52 ?_
          refine lv_isub B.1.1 B.1.2.1 dX10_worked_55 ?_
          refine y_ci hf (fun q hq => x_runV (ci := 10) (C := RX10) B.1 B.2.2.2 hl hR hS cm_X10_346 ⟨rfl, rfl, Nat.le_of_ble_eq_true rfl, Nat.le_of_ble_eq_true rfl⟩ (by decide) rfl k_p0 (c_X10_nameNow k_p0 hq) rfl rfl (Nat.le_of_ble_eq_true rfl) dX10_worked_56 ⟨Nat.le_of_ble_eq_true rfl, Nat.le_of_ble_eq_true rfl⟩) hS (fun r18 S17 H locs hf hR hS => ?_)
          refine y_iast B hR hS hf k_a16 dX10_worked_59 (fun S19 H locs hf hR hS => ?_)
          refine y_iinc (d := 1) B hl hf dX10_worked_60 rfl (by decide) (by decide) rfl (fun v20 ls hf hl => ?_)
          have hl : xL ls 6 [_, _, _, _, _, _] := hl
          refine lv_goto (tgt := 100) B.1.1 B.1.2.1 dX10_worked_63 (by decide) ?_
          refine y_iinc (d := 1) B hl hf dX10_worked_100 rfl (by decide) (by decide) rfl (fun v21 ls hf hl => ?_)
          have hl : xL ls 6 [_, _, _, _, _, _] := hl
          refine lv_goto (tgt := 5) B.1.1 B.1.2.1 dX10_worked_103 (by decide) ?_
          exact ih _ _ _ _ _ _ _ _ k_p0 hf hR hS (hl.drop [true, false, true, true, true, false] rfl)
        · refine lv_iload B.1.1 B.1.2.1 dX10_worked_44 (hl.at 5 rfl) ?_
          refine lv_goto (tgt := 59) B.1.1 B.1.2.1 dX10_worked_46 (by decide) ?_
          refine y_iast B hR hS hf k_a16 dX10_worked_59 (fun S22 H locs hf hR hS => ?_)
          refine y_iinc (d := 1) B hl hf dX10_worked_60 rfl (by decide) (by decide) rfl (fun v23 ls hf hl => ?_)
          have hl : xL ls 6 [_, _, _, _, _, _] := hl
          refine lv_goto (tgt := 100) B.1.1 B.1.2.1 dX10_worked_63 (by decide) ?_
          refine y_iinc (d := 1) B hl hf dX10_worked_100 rfl (by decide) (by decide) rfl (fun v24 ls hf hl => ?_)
          have hl : xL ls 6 [_, _, _, _, _, _] := hl
          refine lv_goto (tgt := 5) B.1.1 B.1.2.1 dX10_worked_103 (by decide) ?_
          exact ih _ _ _ _ _ _ _ _ k_p0 hf hR hS (hl.drop [true, false, true, true, true, false] rfl)
def f_X10_worked (T : xT) (S : xS) (p0 : Nat) (p1 : Int32) (p2 : Int32) : Option (Int32 × xS) := xl ((0 : Int32)) (fun v1 => xl p1 (fun v2 => f_X10_worked_5 T xfu S p0 p2 v1 v2))
set_option maxRecDepth 100000 in
set_option maxHeartbeats 4000000 in
theorem c_X10_worked {l : Launch} {z : Nat} {D : va_G} {dA : Nat → ClassId} {T : xT} {S : xS} {p0 : Nat} {p1 : Int32} {p2 : Int32} (k_p0 : xlk T p0 10 = true) {q : Int32 × xS} (hf : f_X10_worked T S p0 p1 p2 = some q) : Met l yX10_worked (xws yX10_worked cX10_worked 6 (some .int)) xr_X10_worked (xPc z D dA T S [.ref (z + p0), .int p1, .int p2]) (xQi z D dA T q) 0 0 (xA z) := by
  refine x_met RX10 (by decide) rfl (Nat.le_of_ble_eq_true rfl) ?_
  intro p e s m below meth c ls _ X hr hlk hml _ hR hS hl
  have B : xB p s m _ meth c cX10_worked RX10 6 (some .int) D dA := ⟨X, hr, hlk, hml⟩
  have hl : xL ls 6 [_, _, _, _, _, _] := hl
  unfold f_X10_worked at hf
  refine lv_iconst (v := 0) B.1.1 B.1.2.1 dX10_worked_0 (by decide) ?_
  refine y_istore_n B hl hf dX10_worked_1 rfl (by decide) rfl (fun v1 ls hf hl => ?_)
  have hl : xL ls 6 [_, _, _, _, _, _] := hl
  refine lv_iload_n B.1.1 B.1.2.1 dX10_worked_2 rfl (hl.at 1 rfl) ?_
  refine y_istore B hl hf dX10_worked_3 (by decide) rfl (fun v2 ls hf hl => ?_)
  have hl : xL ls 6 [_, _, _, _, _, _] := hl
  exact w_X10_worked_5 B xfu _ _ _ _ _ _ _ _ k_p0 hf hR hS (hl.drop [true, false, true, true, true, false] rfl)
abbrev xr_X10_givesNow : Room := { frames := 6, cells := 0, slots := 0, locals := 123 }
def f_X10_givesNow_104 (T : xT) (S : xS) (p0 : Nat) (p2 : Int32) : Option (Int32 × xS) := xc (f_X10_get T S p0 ((2 : Int32))) (fun r2 S1 => xc (f_X10_get T S1 p0 ((p2 + (2 : Int32)))) (fun r4 S3 => xc (f_X10_get T S3 p0 ((p2 + (3 : Int32)))) (fun r6 S5 => xc (f_X10_worked T S5 p0 r4 r6) (fun r8 S7 => xc (f_X10_greater T S7 ((0 : Int32)) r8) (fun r10 S9 => xc (f_X10_lesser T S9 r2 r10) (fun r12 S11 => some (r12, S11)))))))
set_option maxRecDepth 100000 in
set_option maxHeartbeats 4000000 in
theorem w_X10_givesNow_104 {p : Program} {l : Launch} {e : Env} {s : State} {m : MethodId} {args : Array Value} {below : List Frame} {meth : Method} {c : Code} {z : Nat} {D : va_G} {dA : Nat → ClassId} {T : xT} (B : xB p s m args meth c cX10_givesNow RX10 6 (some .int) D dA) {q : Int32 × xS} : ∀ (S : xS) (H : Heap) (locs : List Loc) (ls : Array Slot) (p0 : Nat) (p2 : Int32), xlk T p0 10 = true → f_X10_givesNow_104 T S p0 p2 = some q → xRel z D dA T S H → va_S (xA z) s.heap H locs → xL ls 6 [some (.ref (z + p0)), none, some (.int p2), none, none, none] → xGi p l e xr_X10_givesNow s m args below meth c z D dA T q H locs 104 ls [] := by
  intro S H locs ls p0 p2 k_p0 hf hR hS hl
  unfold f_X10_givesNow_104 at hf
  refine lv_aload_n B.1.1 B.1.2.1 dX10_givesNow_104 rfl (hl.at 0 rfl) ?_
  refine lv_iconst (v := 2) B.1.1 B.1.2.1 dX10_givesNow_105 (by decide) ?_
  refine y_ci hf (fun q hq => x_runV (ci := 10) (C := RX10) B.1 B.2.2.2 hl hR hS cm_X10_193 ⟨rfl, rfl, Nat.le_of_ble_eq_true rfl, Nat.le_of_ble_eq_true rfl⟩ (by decide) rfl k_p0 (c_X10_get k_p0 hq) rfl rfl (Nat.le_of_ble_eq_true rfl) dX10_givesNow_106 ⟨Nat.le_of_ble_eq_true rfl, Nat.le_of_ble_eq_true rfl⟩) hS (fun r2 S1 H locs hf hR hS => ?_)
  refine lv_iconst (v := 0) B.1.1 B.1.2.1 dX10_givesNow_109 (by decide) ?_
  refine lv_aload_n B.1.1 B.1.2.1 dX10_givesNow_110 rfl (hl.at 0 rfl) ?_
  refine lv_aload_n B.1.1 B.1.2.1 dX10_givesNow_111 rfl (hl.at 0 rfl) ?_
  refine lv_iload_n B.1.1 B.1.2.1 dX10_givesNow_112 rfl (hl.at 2 rfl) ?_
  refine lv_iconst (v := 2) B.1.1 B.1.2.1 dX10_givesNow_113 (by decide) ?_
  refine lv_iadd B.1.1 B.1.2.1 dX10_givesNow_114 ?_
  refine y_ci hf (fun q hq => x_runV (ci := 10) (C := RX10) B.1 B.2.2.2 hl hR hS cm_X10_193 ⟨rfl, rfl, Nat.le_of_ble_eq_true rfl, Nat.le_of_ble_eq_true rfl⟩ (by decide) rfl k_p0 (c_X10_get k_p0 hq) rfl rfl (Nat.le_of_ble_eq_true rfl) dX10_givesNow_115 ⟨Nat.le_of_ble_eq_true rfl, Nat.le_of_ble_eq_true rfl⟩) hS (fun r4 S3 H locs hf hR hS => ?_)
  refine lv_aload_n B.1.1 B.1.2.1 dX10_givesNow_118 rfl (hl.at 0 rfl) ?_
  refine lv_iload_n B.1.1 B.1.2.1 dX10_givesNow_119 rfl (hl.at 2 rfl) ?_
  refine lv_iconst (v := 3) B.1.1 B.1.2.1 dX10_givesNow_120 (by decide) ?_
  refine lv_iadd B.1.1 B.1.2.1 dX10_givesNow_121 ?_
  refine y_ci hf (fun q hq => x_runV (ci := 10) (C := RX10) B.1 B.2.2.2 hl hR hS cm_X10_193 ⟨rfl, rfl, Nat.le_of_ble_eq_true rfl, Nat.le_of_ble_eq_true rfl⟩ (by decide) rfl k_p0 (c_X10_get k_p0 hq) rfl rfl (Nat.le_of_ble_eq_true rfl) dX10_givesNow_122 ⟨Nat.le_of_ble_eq_true rfl, Nat.le_of_ble_eq_true rfl⟩) hS (fun r6 S5 H locs hf hR hS => ?_)
  refine y_ci hf (fun q hq => x_runV (ci := 10) (C := RX10) B.1 B.2.2.2 hl hR hS cm_X10_353 ⟨rfl, rfl, Nat.le_of_ble_eq_true rfl, Nat.le_of_ble_eq_true rfl⟩ (by decide) rfl k_p0 (c_X10_worked k_p0 hq) rfl rfl (Nat.le_of_ble_eq_true rfl) dX10_givesNow_125 ⟨Nat.le_of_ble_eq_true rfl, Nat.le_of_ble_eq_true rfl⟩) hS (fun r8 S7 H locs hf hR hS => ?_)
  refine y_ci hf (fun q hq => y_runS B.1 B.2.2.2 hl hR hS cm_X10_224 ⟨rfl, rfl, Nat.le_of_ble_eq_true rfl, Nat.le_of_ble_eq_true rfl⟩ (c_X10_greater hq) rfl rfl (Nat.le_of_ble_eq_true rfl) dX10_givesNow_128 ⟨Nat.le_of_ble_eq_true rfl, Nat.le_of_ble_eq_true rfl⟩) hS (fun r10 S9 H locs hf hR hS => ?_)
  refine y_ci hf (fun q hq => y_runS B.1 B.2.2.2 hl hR hS cm_X10_252 ⟨rfl, rfl, Nat.le_of_ble_eq_true rfl, Nat.le_of_ble_eq_true rfl⟩ (c_X10_lesser hq) rfl rfl (Nat.le_of_ble_eq_true rfl) dX10_givesNow_131 ⟨Nat.le_of_ble_eq_true rfl, Nat.le_of_ble_eq_true rfl⟩) hS (fun r12 S11 H locs hf hR hS => ?_)
  exact y_iret B hR hS hf dX10_givesNow_134
def f_X10_givesNow (T : xT) (S : xS) (p0 : Nat) (p1 : Int32) : Option (Int32 × xS) := xc (f_X10_specialAt T S p1) (fun r2 S1 => xl r2 (fun v3 => xc (f_X10_get T S1 p0 v3) (fun r5 S4 => xc (f_X10_isThere T S4 p0 r5) (fun r7 S6 => if r7 = (0 : Int32) then some ((0 : Int32), S6) else xc (f_X10_get T S6 p0 ((2 : Int32))) (fun r9 S8 => if (0 : Int32) < r9 then xc (f_X10_get T S8 p0 ((v3 + (1 : Int32)))) (fun r11 S10 => xl r11 (fun v12 => if v12 = (0 : Int32) then f_X10_givesNow_104 T S10 p0 v3 else xc (f_X10_get T S10 p0 ((v3 + (3 : Int32)))) (fun r14 S13 => xc (f_X10_get T S13 p0 ((v3 + (4 : Int32)))) (fun r16 S15 => xc (f_X10_worked T S15 p0 r14 r16) (fun r18 S17 => xl r18 (fun v19 => xc (f_X10_get T S17 p0 ((v3 + (4 : Int32)))) (fun r21 S20 => xc (f_X10_get T S20 p0 ((v3 + (5 : Int32)))) (fun r23 S22 => xc (f_X10_worked T S22 p0 r21 r23) (fun r25 S24 => xl r25 (fun v26 => if v12 = (60 : Int32) then if v19 < v26 then f_X10_givesNow_104 T S24 p0 v3 else some ((0 : Int32), S24) else if v26 < v19 then f_X10_givesNow_104 T S24 p0 v3 else some ((0 : Int32), S24))))))))))) else some ((0 : Int32), S8))))))
set_option maxRecDepth 100000 in
set_option maxHeartbeats 4000000 in
theorem c_X10_givesNow {l : Launch} {z : Nat} {D : va_G} {dA : Nat → ClassId} {T : xT} {S : xS} {p0 : Nat} {p1 : Int32} (k_p0 : xlk T p0 10 = true) {q : Int32 × xS} (hf : f_X10_givesNow T S p0 p1 = some q) : Met l yX10_givesNow (xws yX10_givesNow cX10_givesNow 6 (some .int)) xr_X10_givesNow (xPc z D dA T S [.ref (z + p0), .int p1]) (xQi z D dA T q) 0 0 (xA z) := by
  refine x_met RX10 (by decide) rfl (Nat.le_of_ble_eq_true rfl) ?_
  intro p e s m below meth c ls _ X hr hlk hml _ hR hS hl
  have B : xB p s m _ meth c cX10_givesNow RX10 6 (some .int) D dA := ⟨X, hr, hlk, hml⟩
  have hl : xL ls 6 [_, _, _, _, _, _] := hl
  unfold f_X10_givesNow at hf
  refine lv_iload_n B.1.1 B.1.2.1 dX10_givesNow_0 rfl (hl.at 1 rfl) ?_
  refine y_ci hf (fun q hq => y_runS B.1 B.2.2.2 hl hR hS cm_X10_268 ⟨rfl, rfl, Nat.le_of_ble_eq_true rfl, Nat.le_of_ble_eq_true rfl⟩ (c_X10_specialAt hq) rfl rfl (Nat.le_of_ble_eq_true rfl) dX10_givesNow_1 ⟨Nat.le_of_ble_eq_true rfl, Nat.le_of_ble_eq_true rfl⟩) hS (fun r2 S1 H locs hf hR hS => ?_)
  refine y_istore_n B hl hf dX10_givesNow_4 rfl (by decide) rfl (fun v3 ls hf hl => ?_)
  have hl : xL ls 6 [_, _, _, _, _, _] := hl
  refine lv_aload_n B.1.1 B.1.2.1 dX10_givesNow_5 rfl (hl.at 0 rfl) ?_
  refine lv_aload_n B.1.1 B.1.2.1 dX10_givesNow_6 rfl (hl.at 0 rfl) ?_
  refine lv_iload_n B.1.1 B.1.2.1 dX10_givesNow_7 rfl (hl.at 2 rfl) ?_
  refine y_ci hf (fun q hq => x_runV (ci := 10) (C := RX10) B.1 B.2.2.2 hl hR hS cm_X10_193 ⟨rfl, rfl, Nat.le_of_ble_eq_true rfl, Nat.le_of_ble_eq_true rfl⟩ (by decide) rfl k_p0 (c_X10_get k_p0 hq) rfl rfl (Nat.le_of_ble_eq_true rfl) dX10_givesNow_8 ⟨Nat.le_of_ble_eq_true rfl, Nat.le_of_ble_eq_true rfl⟩) hS (fun r5 S4 H locs hf hR hS => ?_)
  refine y_ci hf (fun q hq => x_runV (ci := 10) (C := RX10) B.1 B.2.2.2 hl hR hS cm_X10_203 ⟨rfl, rfl, Nat.le_of_ble_eq_true rfl, Nat.le_of_ble_eq_true rfl⟩ (by decide) rfl k_p0 (c_X10_isThere k_p0 hq) rfl rfl (Nat.le_of_ble_eq_true rfl) dX10_givesNow_11 ⟨Nat.le_of_ble_eq_true rfl, Nat.le_of_ble_eq_true rfl⟩) hS (fun r7 S6 H locs hf hR hS => ?_)
  refine y_if_eq (tgt := 25) B hf dX10_givesNow_14 (by decide) (fun hf => ?_) (fun hf => ?_)
  · refine lv_iconst (v := 0) B.1.1 B.1.2.1 dX10_givesNow_25 (by decide) ?_
    exact y_iret B hR hS hf dX10_givesNow_26
  · refine lv_aload_n B.1.1 B.1.2.1 dX10_givesNow_17 rfl (hl.at 0 rfl) ?_
    refine lv_iconst (v := 2) B.1.1 B.1.2.1 dX10_givesNow_18 (by decide) ?_
    refine y_ci hf (fun q hq => x_runV (ci := 10) (C := RX10) B.1 B.2.2.2 hl hR hS cm_X10_193 ⟨rfl, rfl, Nat.le_of_ble_eq_true rfl, Nat.le_of_ble_eq_true rfl⟩ (by decide) rfl k_p0 (c_X10_get k_p0 hq) rfl rfl (Nat.le_of_ble_eq_true rfl) dX10_givesNow_19 ⟨Nat.le_of_ble_eq_true rfl, Nat.le_of_ble_eq_true rfl⟩) hS (fun r9 S8 H locs hf hR hS => ?_)
    refine y_if_gt (tgt := 27) B hf dX10_givesNow_22 (by decide) (fun hf => ?_) (fun hf => ?_)
    · refine lv_aload_n B.1.1 B.1.2.1 dX10_givesNow_27 rfl (hl.at 0 rfl) ?_
      refine lv_iload_n B.1.1 B.1.2.1 dX10_givesNow_28 rfl (hl.at 2 rfl) ?_
      refine lv_iconst (v := 1) B.1.1 B.1.2.1 dX10_givesNow_29 (by decide) ?_
      refine lv_iadd B.1.1 B.1.2.1 dX10_givesNow_30 ?_
      refine y_ci hf (fun q hq => x_runV (ci := 10) (C := RX10) B.1 B.2.2.2 hl hR hS cm_X10_193 ⟨rfl, rfl, Nat.le_of_ble_eq_true rfl, Nat.le_of_ble_eq_true rfl⟩ (by decide) rfl k_p0 (c_X10_get k_p0 hq) rfl rfl (Nat.le_of_ble_eq_true rfl) dX10_givesNow_31 ⟨Nat.le_of_ble_eq_true rfl, Nat.le_of_ble_eq_true rfl⟩) hS (fun r11 S10 H locs hf hR hS => ?_)
      refine y_istore_n B hl hf dX10_givesNow_34 rfl (by decide) rfl (fun v12 ls hf hl => ?_)
      have hl : xL ls 6 [_, _, _, _, _, _] := hl
      refine lv_iload_n B.1.1 B.1.2.1 dX10_givesNow_35 rfl (hl.at 3 rfl) ?_
      refine y_if_eq (tgt := 104) B hf dX10_givesNow_36 (by decide) (fun hf => ?_) (fun hf => ?_)
      · exact w_X10_givesNow_104 B _ _ _ _ _ _ k_p0 hf hR hS (hl.drop [true, false, true, false, false, false] rfl)
      · refine lv_aload_n B.1.1 B.1.2.1 dX10_givesNow_39 rfl (hl.at 0 rfl) ?_
        refine lv_aload_n B.1.1 B.1.2.1 dX10_givesNow_40 rfl (hl.at 0 rfl) ?_
        refine lv_iload_n B.1.1 B.1.2.1 dX10_givesNow_41 rfl (hl.at 2 rfl) ?_
        refine lv_iconst (v := 3) B.1.1 B.1.2.1 dX10_givesNow_42 (by decide) ?_
        refine lv_iadd B.1.1 B.1.2.1 dX10_givesNow_43 ?_
        refine y_ci hf (fun q hq => x_runV (ci := 10) (C := RX10) B.1 B.2.2.2 hl hR hS cm_X10_193 ⟨rfl, rfl, Nat.le_of_ble_eq_true rfl, Nat.le_of_ble_eq_true rfl⟩ (by decide) rfl k_p0 (c_X10_get k_p0 hq) rfl rfl (Nat.le_of_ble_eq_true rfl) dX10_givesNow_44 ⟨Nat.le_of_ble_eq_true rfl, Nat.le_of_ble_eq_true rfl⟩) hS (fun r14 S13 H locs hf hR hS => ?_)
        refine lv_aload_n B.1.1 B.1.2.1 dX10_givesNow_47 rfl (hl.at 0 rfl) ?_
        refine lv_iload_n B.1.1 B.1.2.1 dX10_givesNow_48 rfl (hl.at 2 rfl) ?_
        refine lv_iconst (v := 4) B.1.1 B.1.2.1 dX10_givesNow_49 (by decide) ?_
        refine lv_iadd B.1.1 B.1.2.1 dX10_givesNow_50 ?_
        refine y_ci hf (fun q hq => x_runV (ci := 10) (C := RX10) B.1 B.2.2.2 hl hR hS cm_X10_193 ⟨rfl, rfl, Nat.le_of_ble_eq_true rfl, Nat.le_of_ble_eq_true rfl⟩ (by decide) rfl k_p0 (c_X10_get k_p0 hq) rfl rfl (Nat.le_of_ble_eq_true rfl) dX10_givesNow_51 ⟨Nat.le_of_ble_eq_true rfl, Nat.le_of_ble_eq_true rfl⟩) hS (fun r16 S15 H locs hf hR hS => ?_)
        refine y_ci hf (fun q hq => x_runV (ci := 10) (C := RX10) B.1 B.2.2.2 hl hR hS cm_X10_353 ⟨rfl, rfl, Nat.le_of_ble_eq_true rfl, Nat.le_of_ble_eq_true rfl⟩ (by decide) rfl k_p0 (c_X10_worked k_p0 hq) rfl rfl (Nat.le_of_ble_eq_true rfl) dX10_givesNow_54 ⟨Nat.le_of_ble_eq_true rfl, Nat.le_of_ble_eq_true rfl⟩) hS (fun r18 S17 H locs hf hR hS => ?_)
        refine y_istore B hl hf dX10_givesNow_57 (by decide) rfl (fun v19 ls hf hl => ?_)
        have hl : xL ls 6 [_, _, _, _, _, _] := hl
        refine lv_aload_n B.1.1 B.1.2.1 dX10_givesNow_59 rfl (hl.at 0 rfl) ?_
        refine lv_aload_n B.1.1 B.1.2.1 dX10_givesNow_60 rfl (hl.at 0 rfl) ?_
        refine lv_iload_n B.1.1 B.1.2.1 dX10_givesNow_61 rfl (hl.at 2 rfl) ?_
        refine lv_iconst (v := 4) B.1.1 B.1.2.1 dX10_givesNow_62 (by decide) ?_
        refine lv_iadd B.1.1 B.1.2.1 dX10_givesNow_63 ?_
        refine y_ci hf (fun q hq => x_runV (ci := 10) (C := RX10) B.1 B.2.2.2 hl hR hS cm_X10_193 ⟨rfl, rfl, Nat.le_of_ble_eq_true rfl, Nat.le_of_ble_eq_true rfl⟩ (by decide) rfl k_p0 (c_X10_get k_p0 hq) rfl rfl (Nat.le_of_ble_eq_true rfl) dX10_givesNow_64 ⟨Nat.le_of_ble_eq_true rfl, Nat.le_of_ble_eq_true rfl⟩) hS (fun r21 S20 H locs hf hR hS => ?_)
        refine lv_aload_n B.1.1 B.1.2.1 dX10_givesNow_67 rfl (hl.at 0 rfl) ?_
        refine lv_iload_n B.1.1 B.1.2.1 dX10_givesNow_68 rfl (hl.at 2 rfl) ?_
        refine lv_iconst (v := 5) B.1.1 B.1.2.1 dX10_givesNow_69 (by decide) ?_
        refine lv_iadd B.1.1 B.1.2.1 dX10_givesNow_70 ?_
        refine y_ci hf (fun q hq => x_runV (ci := 10) (C := RX10) B.1 B.2.2.2 hl hR hS cm_X10_193 ⟨rfl, rfl, Nat.le_of_ble_eq_true rfl, Nat.le_of_ble_eq_true rfl⟩ (by decide) rfl k_p0 (c_X10_get k_p0 hq) rfl rfl (Nat.le_of_ble_eq_true rfl) dX10_givesNow_71 ⟨Nat.le_of_ble_eq_true rfl, Nat.le_of_ble_eq_true rfl⟩) hS (fun r23 S22 H locs hf hR hS => ?_)
        refine y_ci hf (fun q hq => x_runV (ci := 10) (C := RX10) B.1 B.2.2.2 hl hR hS cm_X10_353 ⟨rfl, rfl, Nat.le_of_ble_eq_true rfl, Nat.le_of_ble_eq_true rfl⟩ (by decide) rfl k_p0 (c_X10_worked k_p0 hq) rfl rfl (Nat.le_of_ble_eq_true rfl) dX10_givesNow_74 ⟨Nat.le_of_ble_eq_true rfl, Nat.le_of_ble_eq_true rfl⟩) hS (fun r25 S24 H locs hf hR hS => ?_)
        refine y_istore B hl hf dX10_givesNow_77 (by decide) rfl (fun v26 ls hf hl => ?_)
        have hl : xL ls 6 [_, _, _, _, _, _] := hl
        refine lv_iload_n B.1.1 B.1.2.1 dX10_givesNow_79 rfl (hl.at 3 rfl) ?_
        refine lv_bipush (v := 60) B.1.1 B.1.2.1 dX10_givesNow_80 (by decide) ?_
        refine y_icmp_ne (tgt := 95) B hf dX10_givesNow_82 (by decide) (fun hf => ?_) (fun hf => ?_)
        · refine lv_iload B.1.1 B.1.2.1 dX10_givesNow_95 (hl.at 4 rfl) ?_
          refine lv_iload B.1.1 B.1.2.1 dX10_givesNow_97 (hl.at 5 rfl) ?_
          refine y_icmp_gt (tgt := 104) B hf dX10_givesNow_99 (by decide) (fun hf => ?_) (fun hf => ?_)
          · exact w_X10_givesNow_104 B _ _ _ _ _ _ k_p0 hf hR hS (hl.drop [true, false, true, false, false, false] rfl)
          · refine lv_iconst (v := 0) B.1.1 B.1.2.1 dX10_givesNow_102 (by decide) ?_
            exact y_iret B hR hS hf dX10_givesNow_103
        · refine lv_iload B.1.1 B.1.2.1 dX10_givesNow_85 (hl.at 4 rfl) ?_
          refine lv_iload B.1.1 B.1.2.1 dX10_givesNow_87 (hl.at 5 rfl) ?_
          refine y_icmp_lt (tgt := 104) B hf dX10_givesNow_89 (by decide) (fun hf => ?_) (fun hf => ?_)
          · exact w_X10_givesNow_104 B _ _ _ _ _ _ k_p0 hf hR hS (hl.drop [true, false, true, false, false, false] rfl)
          · refine lv_goto (tgt := 102) B.1.1 B.1.2.1 dX10_givesNow_92 (by decide) ?_
            refine lv_iconst (v := 0) B.1.1 B.1.2.1 dX10_givesNow_102 (by decide) ?_
            exact y_iret B hR hS hf dX10_givesNow_103
    · refine lv_iconst (v := 0) B.1.1 B.1.2.1 dX10_givesNow_25 (by decide) ?_
      exact y_iret B hR hS hf dX10_givesNow_26
abbrev xr_X10_giveSpecials : Room := { frames := 7, cells := 0, slots := 0, locals := 148 }
def f_X10_giveSpecials_2 (T : xT) : Nat → xS → Nat → Int32 → Option (xS)
  | 0, _, _, _ => none
  | n + 1, S, p0, p1 => xc (f_X10_get T S p0 ((159 : Int32))) (fun r2 S1 => if r2 ≤ p1 then some S1 else xc (f_X10_givesNow T S1 p0 p1) (fun r4 S3 => xl r4 (fun v5 => xc (f_X10_specialAt T S3 p1) (fun r7 S6 => xc (f_X10_get T S6 p0 r7) (fun r9 S8 => xl r9 (fun v10 => xcv (f_X10_more T S8 p0 (((5 : Int32) + v10)) v5) (fun S11 => xc (f_X10_stepAt T S11 ((4 : Int32))) (fun r13 S12 => xcv (f_X10_more T S12 p0 ((r13 + v10)) v5) (fun S14 => xcv (f_X10_more T S14 p0 ((2 : Int32)) ((-v5))) (fun S15 => xl (p1 + (1 : Int32)) (fun v16 => f_X10_giveSpecials_2 T n S15 p0 v16)))))))))))
set_option maxRecDepth 100000 in
set_option maxHeartbeats 4000000 in
theorem w_X10_giveSpecials_2 {p : Program} {l : Launch} {e : Env} {s : State} {m : MethodId} {args : Array Value} {below : List Frame} {meth : Method} {c : Code} {z : Nat} {D : va_G} {dA : Nat → ClassId} {T : xT} (B : xB p s m args meth c cX10_giveSpecials RX10 4 none D dA) {q : xS} : ∀ (n : Nat), ∀ (S : xS) (H : Heap) (locs : List Loc) (ls : Array Slot) (p0 : Nat) (p1 : Int32), xlk T p0 10 = true → f_X10_giveSpecials_2 T n S p0 p1 = some q → xRel z D dA T S H → va_S (xA z) s.heap H locs → xL ls 4 [some (.ref (z + p0)), some (.int p1), none, none] → xGv p l e xr_X10_giveSpecials s m args below meth c z D dA T q H locs 2 ls [] := by
  intro n
  induction n with
  | zero =>
    intro S H locs ls p0 p1 k_p0 hf hR hS hl
    exact absurd hf (by simp [f_X10_giveSpecials_2])
  | succ n ih =>
    intro S H locs ls p0 p1 k_p0 hf hR hS hl
    unfold f_X10_giveSpecials_2 at hf
    refine lv_iload_n B.1.1 B.1.2.1 dX10_giveSpecials_2 rfl (hl.at 1 rfl) ?_
    refine lv_aload_n B.1.1 B.1.2.1 dX10_giveSpecials_3 rfl (hl.at 0 rfl) ?_
    refine lv_sipush (v := 159) B.1.1 B.1.2.1 dX10_giveSpecials_4 (by decide) ?_
    refine y_ci hf (fun q hq => x_runV (ci := 10) (C := RX10) B.1 B.2.2.2 hl hR hS cm_X10_193 ⟨rfl, rfl, Nat.le_of_ble_eq_true rfl, Nat.le_of_ble_eq_true rfl⟩ (by decide) rfl k_p0 (c_X10_get k_p0 hq) rfl rfl (Nat.le_of_ble_eq_true rfl) dX10_giveSpecials_7 ⟨Nat.le_of_ble_eq_true rfl, Nat.le_of_ble_eq_true rfl⟩) hS (fun r2 S1 H locs hf hR hS => ?_)
    refine y_icmp_ge (tgt := 60) B hf dX10_giveSpecials_10 (by decide) (fun hf => ?_) (fun hf => ?_)
    · exact y_vret B hR hS hf dX10_giveSpecials_60
    · refine lv_aload_n B.1.1 B.1.2.1 dX10_giveSpecials_13 rfl (hl.at 0 rfl) ?_
      refine lv_iload_n B.1.1 B.1.2.1 dX10_giveSpecials_14 rfl (hl.at 1 rfl) ?_
      refine y_ci hf (fun q hq => x_runV (ci := 10) (C := RX10) B.1 B.2.2.2 hl hR hS cm_X10_265 ⟨rfl, rfl, Nat.le_of_ble_eq_true rfl, Nat.le_of_ble_eq_true rfl⟩ (by decide) rfl k_p0 (c_X10_givesNow k_p0 hq) rfl rfl (Nat.le_of_ble_eq_true rfl) dX10_giveSpecials_15 ⟨Nat.le_of_ble_eq_true rfl, Nat.le_of_ble_eq_true rfl⟩) hS (fun r4 S3 H locs hf hR hS => ?_)
      refine y_istore_n B hl hf dX10_giveSpecials_18 rfl (by decide) rfl (fun v5 ls hf hl => ?_)
      have hl : xL ls 4 [_, _, _, _] := hl
      refine lv_aload_n B.1.1 B.1.2.1 dX10_giveSpecials_19 rfl (hl.at 0 rfl) ?_
      refine lv_iload_n B.1.1 B.1.2.1 dX10_giveSpecials_20 rfl (hl.at 1 rfl) ?_
      refine y_ci hf (fun q hq => y_runS B.1 B.2.2.2 hl hR hS cm_X10_268 ⟨rfl, rfl, Nat.le_of_ble_eq_true rfl, Nat.le_of_ble_eq_true rfl⟩ (c_X10_specialAt hq) rfl rfl (Nat.le_of_ble_eq_true rfl) dX10_giveSpecials_21 ⟨Nat.le_of_ble_eq_true rfl, Nat.le_of_ble_eq_true rfl⟩) hS (fun r7 S6 H locs hf hR hS => ?_)
      refine y_ci hf (fun q hq => x_runV (ci := 10) (C := RX10) B.1 B.2.2.2 hl hR hS cm_X10_193 ⟨rfl, rfl, Nat.le_of_ble_eq_true rfl, Nat.le_of_ble_eq_true rfl⟩ (by decide) rfl k_p0 (c_X10_get k_p0 hq) rfl rfl (Nat.le_of_ble_eq_true rfl) dX10_giveSpecials_24 ⟨Nat.le_of_ble_eq_true rfl, Nat.le_of_ble_eq_true rfl⟩) hS (fun r9 S8 H locs hf hR hS => ?_)
      refine y_istore_n B hl hf dX10_giveSpecials_27 rfl (by decide) rfl (fun v10 ls hf hl => ?_)
      have hl : xL ls 4 [_, _, _, _] := hl
      refine lv_aload_n B.1.1 B.1.2.1 dX10_giveSpecials_28 rfl (hl.at 0 rfl) ?_
      refine lv_iconst (v := 5) B.1.1 B.1.2.1 dX10_giveSpecials_29 (by decide) ?_
      refine lv_iload_n B.1.1 B.1.2.1 dX10_giveSpecials_30 rfl (hl.at 3 rfl) ?_
      refine lv_iadd B.1.1 B.1.2.1 dX10_giveSpecials_31 ?_
      refine lv_iload_n B.1.1 B.1.2.1 dX10_giveSpecials_32 rfl (hl.at 2 rfl) ?_
      refine y_cv hf (fun q hq => x_runV (ci := 10) (C := RX10) B.1 B.2.2.2 hl hR hS cm_X10_246 ⟨rfl, rfl, Nat.le_of_ble_eq_true rfl, Nat.le_of_ble_eq_true rfl⟩ (by decide) rfl k_p0 (c_X10_more k_p0 hq) rfl rfl (Nat.le_of_ble_eq_true rfl) dX10_giveSpecials_33 ⟨Nat.le_of_ble_eq_true rfl, Nat.le_of_ble_eq_true rfl⟩) hS (fun S11 H locs hf hR hS => ?_)
      refine lv_aload_n B.1.1 B.1.2.1 dX10_giveSpecials_36 rfl (hl.at 0 rfl) ?_
      refine lv_iconst (v := 4) B.1.1 B.1.2.1 dX10_giveSpecials_37 (by decide) ?_
      refine y_ci hf (fun q hq => y_runS B.1 B.2.2.2 hl hR hS cm_X10_243 ⟨rfl, rfl, Nat.le_of_ble_eq_true rfl, Nat.le_of_ble_eq_true rfl⟩ (c_X10_stepAt hq) rfl rfl (Nat.le_of_ble_eq_true rfl) dX10_giveSpecials_38 ⟨Nat.le_of_ble_eq_true rfl, Nat.le_of_ble_eq_true rfl⟩) hS (fun r13 S12 H locs hf hR hS => ?_)
      refine lv_iload_n B.1.1 B.1.2.1 dX10_giveSpecials_41 rfl (hl.at 3 rfl) ?_
      refine lv_iadd B.1.1 B.1.2.1 dX10_giveSpecials_42 ?_
      refine lv_iload_n B.1.1 B.1.2.1 dX10_giveSpecials_43 rfl (hl.at 2 rfl) ?_
      refine y_cv hf (fun q hq => x_runV (ci := 10) (C := RX10) B.1 B.2.2.2 hl hR hS cm_X10_246 ⟨rfl, rfl, Nat.le_of_ble_eq_true rfl, Nat.le_of_ble_eq_true rfl⟩ (by decide) rfl k_p0 (c_X10_more k_p0 hq) rfl rfl (Nat.le_of_ble_eq_true rfl) dX10_giveSpecials_44 ⟨Nat.le_of_ble_eq_true rfl, Nat.le_of_ble_eq_true rfl⟩) hS (fun S14 H locs hf hR hS => ?_)
      refine lv_aload_n B.1.1 B.1.2.1 dX10_giveSpecials_47 rfl (hl.at 0 rfl) ?_
      refine lv_iconst (v := 2) B.1.1 B.1.2.1 dX10_giveSpecials_48 (by decide) ?_
      refine lv_iload_n B.1.1 B.1.2.1 dX10_giveSpecials_49 rfl (hl.at 2 rfl) ?_
      refine lv_ineg B.1.1 B.1.2.1 dX10_giveSpecials_50 ?_
      refine y_cv hf (fun q hq => x_runV (ci := 10) (C := RX10) B.1 B.2.2.2 hl hR hS cm_X10_246 ⟨rfl, rfl, Nat.le_of_ble_eq_true rfl, Nat.le_of_ble_eq_true rfl⟩ (by decide) rfl k_p0 (c_X10_more k_p0 hq) rfl rfl (Nat.le_of_ble_eq_true rfl) dX10_giveSpecials_51 ⟨Nat.le_of_ble_eq_true rfl, Nat.le_of_ble_eq_true rfl⟩) hS (fun S15 H locs hf hR hS => ?_)
      refine y_iinc (d := 1) B hl hf dX10_giveSpecials_54 rfl (by decide) (by decide) rfl (fun v16 ls hf hl => ?_)
      have hl : xL ls 4 [_, _, _, _] := hl
      refine lv_goto (tgt := 2) B.1.1 B.1.2.1 dX10_giveSpecials_57 (by decide) ?_
      exact ih _ _ _ _ _ _ k_p0 hf hR hS (hl.drop [true, true, false, false] rfl)
def f_X10_giveSpecials (T : xT) (S : xS) (p0 : Nat) : Option (xS) := xl ((0 : Int32)) (fun v1 => f_X10_giveSpecials_2 T xfu S p0 v1)
set_option maxRecDepth 100000 in
set_option maxHeartbeats 4000000 in
theorem c_X10_giveSpecials {l : Launch} {z : Nat} {D : va_G} {dA : Nat → ClassId} {T : xT} {S : xS} {p0 : Nat} (k_p0 : xlk T p0 10 = true) {q : xS} (hf : f_X10_giveSpecials T S p0 = some q) : Met l yX10_giveSpecials (xws yX10_giveSpecials cX10_giveSpecials 4 none) xr_X10_giveSpecials (xPc z D dA T S [.ref (z + p0)]) (xQv z D dA T q) 0 0 (xA z) := by
  refine x_met RX10 (by decide) rfl (Nat.le_of_ble_eq_true rfl) ?_
  intro p e s m below meth c ls _ X hr hlk hml _ hR hS hl
  have B : xB p s m _ meth c cX10_giveSpecials RX10 4 none D dA := ⟨X, hr, hlk, hml⟩
  have hl : xL ls 4 [_, _, _, _] := hl
  unfold f_X10_giveSpecials at hf
  refine lv_iconst (v := 0) B.1.1 B.1.2.1 dX10_giveSpecials_0 (by decide) ?_
  refine y_istore_n B hl hf dX10_giveSpecials_1 rfl (by decide) rfl (fun v1 ls hf hl => ?_)
  have hl : xL ls 4 [_, _, _, _] := hl
  exact w_X10_giveSpecials_2 B xfu _ _ _ _ _ _ k_p0 hf hR hS hl
