abbrev xr_X3_needNumber : Room := { frames := 2, cells := 0, slots := 0, locals := 32 }
def f_X3_needNumber (T : xT) (S : xS) (p0 : Nat) (p1 : Int32) (p2 : Int32) : Option (Int32 × xS) := if (S.1 p0 6) = (2 : Int32) then if (S.1 p0 7) < p1 then xc (f_X3_refuse T S p0) (fun r4 S3 => some ((-1 : Int32), S3)) else if (S.1 p0 7) ≤ p2 then xl ((S.1 p0 7)) (fun v5 => xcv (f_X3_advance T S p0) (fun S6 => some (v5, S6))) else xc (f_X3_refuse T S p0) (fun r8 S7 => some ((-1 : Int32), S7)) else xc (f_X3_refuse T S p0) (fun r2 S1 => some ((-1 : Int32), S1))
set_option maxRecDepth 100000 in
set_option maxHeartbeats 4000000 in
theorem c_X3_needNumber {l : Launch} {z : Nat} {D : va_G} {dA : Nat → ClassId} {T : xT} {S : xS} {p0 : Nat} {p1 : Int32} {p2 : Int32} (k_p0 : xlk T p0 3 = true) {q : Int32 × xS} (hf : f_X3_needNumber T S p0 p1 p2 = some q) : Met l yX3_needNumber (xws yX3_needNumber cX3_needNumber 4 (some .int)) xr_X3_needNumber (xPc z D dA T S [.ref (z + p0), .int p1, .int p2]) (xQi z D dA T q) 0 0 (xA z) := by
  refine x_met RX3 (by decide) rfl (Nat.le_of_ble_eq_true rfl) ?_
  intro p e s m below meth c ls _ X hr hlk hml _ hR hS hl
  have B : xB p s m _ meth c cX3_needNumber RX3 4 (some .int) D dA := ⟨X, hr, hlk, hml⟩
  have hl : xL ls 4 [_, _, _, _] := hl
  unfold f_X3_needNumber at hf
  refine lv_aload_n B.1.1 B.1.2.1 dX3_needNumber_0 rfl (hl.at 0 rfl) ?_
  refine y_getI B hR k_p0 fl_X3_31 dX3_needNumber_1 ?_
  refine lv_iconst (v := 2) B.1.1 B.1.2.1 dX3_needNumber_4 (by decide) ?_
  refine y_icmp_ne (tgt := 24) B hf dX3_needNumber_5 (by decide) (fun hf => ?_) (fun hf => ?_)
  · refine lv_aload_n B.1.1 B.1.2.1 dX3_needNumber_24 rfl (hl.at 0 rfl) ?_
    refine y_ci hf (fun q hq => x_runV (ci := 3) (C := RX3) B.1 B.2.2.2 hl hR hS cm_X3_51 ⟨rfl, rfl, Nat.le_of_ble_eq_true rfl, Nat.le_of_ble_eq_true rfl⟩ (by decide) rfl k_p0 (c_X3_refuse k_p0 hq) rfl rfl (Nat.le_of_ble_eq_true rfl) dX3_needNumber_25 ⟨Nat.le_of_ble_eq_true rfl, Nat.le_of_ble_eq_true rfl⟩) hS (fun r2 S1 H locs hf hR hS => ?_)
    refine lv_pop B.1.1 B.1.2.1 dX3_needNumber_28 rfl ?_
    refine lv_iconst (v := -1) B.1.1 B.1.2.1 dX3_needNumber_29 (by decide) ?_
    exact y_iret B hR hS hf dX3_needNumber_30
  · refine lv_aload_n B.1.1 B.1.2.1 dX3_needNumber_8 rfl (hl.at 0 rfl) ?_
    refine y_getI B hR k_p0 fl_X3_34 dX3_needNumber_9 ?_
    refine lv_iload_n B.1.1 B.1.2.1 dX3_needNumber_12 rfl (hl.at 1 rfl) ?_
    refine y_icmp_lt (tgt := 24) B hf dX3_needNumber_13 (by decide) (fun hf => ?_) (fun hf => ?_)
    · refine lv_aload_n B.1.1 B.1.2.1 dX3_needNumber_24 rfl (hl.at 0 rfl) ?_
      refine y_ci hf (fun q hq => x_runV (ci := 3) (C := RX3) B.1 B.2.2.2 hl hR hS cm_X3_51 ⟨rfl, rfl, Nat.le_of_ble_eq_true rfl, Nat.le_of_ble_eq_true rfl⟩ (by decide) rfl k_p0 (c_X3_refuse k_p0 hq) rfl rfl (Nat.le_of_ble_eq_true rfl) dX3_needNumber_25 ⟨Nat.le_of_ble_eq_true rfl, Nat.le_of_ble_eq_true rfl⟩) hS (fun r4 S3 H locs hf hR hS => ?_)
      refine lv_pop B.1.1 B.1.2.1 dX3_needNumber_28 rfl ?_
      refine lv_iconst (v := -1) B.1.1 B.1.2.1 dX3_needNumber_29 (by decide) ?_
      exact y_iret B hR hS hf dX3_needNumber_30
    · refine lv_aload_n B.1.1 B.1.2.1 dX3_needNumber_16 rfl (hl.at 0 rfl) ?_
      refine y_getI B hR k_p0 fl_X3_34 dX3_needNumber_17 ?_
      refine lv_iload_n B.1.1 B.1.2.1 dX3_needNumber_20 rfl (hl.at 2 rfl) ?_
      refine y_icmp_le (tgt := 31) B hf dX3_needNumber_21 (by decide) (fun hf => ?_) (fun hf => ?_)
      · refine lv_aload_n B.1.1 B.1.2.1 dX3_needNumber_31 rfl (hl.at 0 rfl) ?_
        refine y_getI B hR k_p0 fl_X3_34 dX3_needNumber_32 ?_
        refine y_istore_n B hl hf dX3_needNumber_35 rfl (by decide) rfl (fun v5 ls hf hl => ?_)
        have hl : xL ls 4 [_, _, _, _] := hl
        refine lv_aload_n B.1.1 B.1.2.1 dX3_needNumber_36 rfl (hl.at 0 rfl) ?_
        refine y_cv hf (fun q hq => x_runV (ci := 3) (C := RX3) B.1 B.2.2.2 hl hR hS cm_X3_25 ⟨rfl, rfl, Nat.le_of_ble_eq_true rfl, Nat.le_of_ble_eq_true rfl⟩ (by decide) rfl k_p0 (c_X3_advance k_p0 hq) rfl rfl (Nat.le_of_ble_eq_true rfl) dX3_needNumber_37 ⟨Nat.le_of_ble_eq_true rfl, Nat.le_of_ble_eq_true rfl⟩) hS (fun S6 H locs hf hR hS => ?_)
        refine lv_iload_n B.1.1 B.1.2.1 dX3_needNumber_40 rfl (hl.at 3 rfl) ?_
        exact y_iret B hR hS hf dX3_needNumber_41
      · refine lv_aload_n B.1.1 B.1.2.1 dX3_needNumber_24 rfl (hl.at 0 rfl) ?_
        refine y_ci hf (fun q hq => x_runV (ci := 3) (C := RX3) B.1 B.2.2.2 hl hR hS cm_X3_51 ⟨rfl, rfl, Nat.le_of_ble_eq_true rfl, Nat.le_of_ble_eq_true rfl⟩ (by decide) rfl k_p0 (c_X3_refuse k_p0 hq) rfl rfl (Nat.le_of_ble_eq_true rfl) dX3_needNumber_25 ⟨Nat.le_of_ble_eq_true rfl, Nat.le_of_ble_eq_true rfl⟩) hS (fun r8 S7 H locs hf hR hS => ?_)
        refine lv_pop B.1.1 B.1.2.1 dX3_needNumber_28 rfl ?_
        refine lv_iconst (v := -1) B.1.1 B.1.2.1 dX3_needNumber_29 (by decide) ?_
        exact y_iret B hR hS hf dX3_needNumber_30
abbrev xr_X3_partnerHere : Room := { frames := 1, cells := 0, slots := 0, locals := 12 }
def f_X3_partnerHere_40 (T : xT) (S : xS) (p0 : Nat) (ps0 : Int32) : Option (Int32 × xS) := xl ps0 (fun v1 => if v1 = (0 : Int32) then some ((-1 : Int32), S) else xgr T S p0 0 20 (fun a2 => xai T S a2 ((S.1 p0 5)) (fun v3 => some ((v3 - (97 : Int32)), S))))
set_option maxRecDepth 100000 in
set_option maxHeartbeats 4000000 in
theorem w_X3_partnerHere_40 {p : Program} {l : Launch} {e : Env} {s : State} {m : MethodId} {args : Array Value} {below : List Frame} {meth : Method} {c : Code} {z : Nat} {D : va_G} {dA : Nat → ClassId} {T : xT} (B : xB p s m args meth c cX3_partnerHere RX3 2 (some .int) D dA) {q : Int32 × xS} : ∀ (S : xS) (H : Heap) (locs : List Loc) (ls : Array Slot) (p0 : Nat) (ps0 : Int32), xlk T p0 3 = true → f_X3_partnerHere_40 T S p0 ps0 = some q → xRel z D dA T S H → va_S (xA z) s.heap H locs → xL ls 2 [some (.ref (z + p0)), none] → xGi p l e xr_X3_partnerHere s m args below meth c z D dA T q H locs 40 ls [.int ps0] := by
  intro S H locs ls p0 ps0 k_p0 hf hR hS hl
  unfold f_X3_partnerHere_40 at hf
  refine y_istore_n B hl hf dX3_partnerHere_40 rfl (by decide) rfl (fun v1 ls hf hl => ?_)
  have hl : xL ls 2 [_, _] := hl
  refine lv_iload_n B.1.1 B.1.2.1 dX3_partnerHere_41 rfl (hl.at 1 rfl) ?_
  refine y_if_eq (tgt := 60) B hf dX3_partnerHere_42 (by decide) (fun hf => ?_) (fun hf => ?_)
  · refine lv_iconst (v := -1) B.1.1 B.1.2.1 dX3_partnerHere_60 (by decide) ?_
    exact y_iret B hR hS hf dX3_partnerHere_61
  · refine lv_aload_n B.1.1 B.1.2.1 dX3_partnerHere_45 rfl (hl.at 0 rfl) ?_
    refine y_getR B hR hf k_p0 fl_X3_9 dX3_partnerHere_46 (fun a2 k_a2 hf => ?_)
    refine lv_aload_n B.1.1 B.1.2.1 dX3_partnerHere_49 rfl (hl.at 0 rfl) ?_
    refine y_getI B hR k_p0 fl_X3_28 dX3_partnerHere_50 ?_
    refine y_iald B hR hf k_a2 dX3_partnerHere_53 (fun v3 hf => ?_)
    refine lv_bipush (v := 97) B.1.1 B.1.2.1 dX3_partnerHere_54 (by decide) ?_
    refine lv_isub B.1.1 B.1.2.1 dX3_partnerHere_56 ?_
    refine lv_goto (tgt := 61) B.1.1 B.1.2.1 dX3_partnerHere_57 (by decide) ?_
    exact y_iret B hR hS hf dX3_partnerHere_61
def f_X3_partnerHere (T : xT) (S : xS) (p0 : Nat) : Option (Int32 × xS) := if (S.1 p0 6) = (1 : Int32) then if ((S.1 p0 4) - (S.1 p0 5)) = (1 : Int32) then xgr T S p0 0 20 (fun a1 => xai T S a1 ((S.1 p0 5)) (fun v2 => if (104 : Int32) < v2 then f_X3_partnerHere_40 T S p0 ((0 : Int32)) else f_X3_partnerHere_40 T S p0 ((1 : Int32)))) else f_X3_partnerHere_40 T S p0 ((0 : Int32)) else f_X3_partnerHere_40 T S p0 ((0 : Int32))
set_option maxRecDepth 100000 in
set_option maxHeartbeats 4000000 in
theorem c_X3_partnerHere {l : Launch} {z : Nat} {D : va_G} {dA : Nat → ClassId} {T : xT} {S : xS} {p0 : Nat} (k_p0 : xlk T p0 3 = true) {q : Int32 × xS} (hf : f_X3_partnerHere T S p0 = some q) : Met l yX3_partnerHere (xws yX3_partnerHere cX3_partnerHere 2 (some .int)) xr_X3_partnerHere (xPc z D dA T S [.ref (z + p0)]) (xQi z D dA T q) 0 0 (xA z) := by
  refine x_met RX3 (by decide) rfl (Nat.le_of_ble_eq_true rfl) ?_
  intro p e s m below meth c ls _ X hr hlk hml _ hR hS hl
  have B : xB p s m _ meth c cX3_partnerHere RX3 2 (some .int) D dA := ⟨X, hr, hlk, hml⟩
  have hl : xL ls 2 [_, _] := hl
  unfold f_X3_partnerHere at hf
  refine lv_aload_n B.1.1 B.1.2.1 dX3_partnerHere_0 rfl (hl.at 0 rfl) ?_
  refine y_getI B hR k_p0 fl_X3_31 dX3_partnerHere_1 ?_
  refine lv_iconst (v := 1) B.1.1 B.1.2.1 dX3_partnerHere_4 (by decide) ?_
  refine y_icmp_ne (tgt := 39) B hf dX3_partnerHere_5 (by decide) (fun hf => ?_) (fun hf => ?_)
  · refine lv_iconst (v := 0) B.1.1 B.1.2.1 dX3_partnerHere_39 (by decide) ?_
    exact w_X3_partnerHere_40 B _ _ _ _ _ _ k_p0 hf hR hS hl
  · refine lv_aload_n B.1.1 B.1.2.1 dX3_partnerHere_8 rfl (hl.at 0 rfl) ?_
    refine y_getI B hR k_p0 fl_X3_19 dX3_partnerHere_9 ?_
    refine lv_aload_n B.1.1 B.1.2.1 dX3_partnerHere_12 rfl (hl.at 0 rfl) ?_
    refine y_getI B hR k_p0 fl_X3_28 dX3_partnerHere_13 ?_
    refine lv_isub B.1.1 B.1.2.1 dX3_partnerHere_16 ?_
    refine lv_iconst (v := 1) B.1.1 B.1.2.1 dX3_partnerHere_17 (by decide) ?_
    refine y_icmp_ne (tgt := 39) B hf dX3_partnerHere_18 (by decide) (fun hf => ?_) (fun hf => ?_)
    · refine lv_iconst (v := 0) B.1.1 B.1.2.1 dX3_partnerHere_39 (by decide) ?_
      exact w_X3_partnerHere_40 B _ _ _ _ _ _ k_p0 hf hR hS hl
    · refine lv_aload_n B.1.1 B.1.2.1 dX3_partnerHere_21 rfl (hl.at 0 rfl) ?_
      refine y_getR B hR hf k_p0 fl_X3_9 dX3_partnerHere_22 (fun a1 k_a1 hf => ?_)
      refine lv_aload_n B.1.1 B.1.2.1 dX3_partnerHere_25 rfl (hl.at 0 rfl) ?_
      refine y_getI B hR k_p0 fl_X3_28 dX3_partnerHere_26 ?_
      refine y_iald B hR hf k_a1 dX3_partnerHere_29 (fun v2 hf => ?_)
      refine lv_bipush (v := 104) B.1.1 B.1.2.1 dX3_partnerHere_30 (by decide) ?_
      refine y_icmp_gt (tgt := 39) B hf dX3_partnerHere_32 (by decide) (fun hf => ?_) (fun hf => ?_)
      · refine lv_iconst (v := 0) B.1.1 B.1.2.1 dX3_partnerHere_39 (by decide) ?_
        exact w_X3_partnerHere_40 B _ _ _ _ _ _ k_p0 hf hR hS hl
      · refine lv_iconst (v := 1) B.1.1 B.1.2.1 dX3_partnerHere_35 (by decide) ?_
        refine lv_goto (tgt := 40) B.1.1 B.1.2.1 dX3_partnerHere_36 (by decide) ?_
        exact w_X3_partnerHere_40 B _ _ _ _ _ _ k_p0 hf hR hS hl
abbrev xr_X3_needPartner : Room := { frames := 2, cells := 0, slots := 0, locals := 33 }
def f_X3_needPartner (T : xT) (S : xS) (p0 : Nat) : Option (Int32 × xS) := xc (f_X3_partnerHere T S p0) (fun r2 S1 => xl r2 (fun v3 => if v3 = (-1 : Int32) then xc (f_X3_refuse T S1 p0) (fun r6 S5 => some (v3, S5)) else xcv (f_X3_advance T S1 p0) (fun S4 => some (v3, S4))))
set_option maxRecDepth 100000 in
set_option maxHeartbeats 4000000 in
theorem c_X3_needPartner {l : Launch} {z : Nat} {D : va_G} {dA : Nat → ClassId} {T : xT} {S : xS} {p0 : Nat} (k_p0 : xlk T p0 3 = true) {q : Int32 × xS} (hf : f_X3_needPartner T S p0 = some q) : Met l yX3_needPartner (xws yX3_needPartner cX3_needPartner 2 (some .int)) xr_X3_needPartner (xPc z D dA T S [.ref (z + p0)]) (xQi z D dA T q) 0 0 (xA z) := by
  refine x_met RX3 (by decide) rfl (Nat.le_of_ble_eq_true rfl) ?_
  intro p e s m below meth c ls _ X hr hlk hml _ hR hS hl
  have B : xB p s m _ meth c cX3_needPartner RX3 2 (some .int) D dA := ⟨X, hr, hlk, hml⟩
  have hl : xL ls 2 [_, _] := hl
  unfold f_X3_needPartner at hf
  refine lv_aload_n B.1.1 B.1.2.1 dX3_needPartner_0 rfl (hl.at 0 rfl) ?_
  refine y_ci hf (fun q hq => x_runV (ci := 3) (C := RX3) B.1 B.2.2.2 hl hR hS cm_X3_63 ⟨rfl, rfl, Nat.le_of_ble_eq_true rfl, Nat.le_of_ble_eq_true rfl⟩ (by decide) rfl k_p0 (c_X3_partnerHere k_p0 hq) rfl rfl (Nat.le_of_ble_eq_true rfl) dX3_needPartner_1 ⟨Nat.le_of_ble_eq_true rfl, Nat.le_of_ble_eq_true rfl⟩) hS (fun r2 S1 H locs hf hR hS => ?_)
  refine y_istore_n B hl hf dX3_needPartner_4 rfl (by decide) rfl (fun v3 ls hf hl => ?_)
  have hl : xL ls 2 [_, _] := hl
  refine lv_iload_n B.1.1 B.1.2.1 dX3_needPartner_5 rfl (hl.at 1 rfl) ?_
  refine lv_iconst (v := -1) B.1.1 B.1.2.1 dX3_needPartner_6 (by decide) ?_
  refine y_icmp_ne (tgt := 18) B hf dX3_needPartner_7 (by decide) (fun hf => ?_) (fun hf => ?_)
  · refine lv_aload_n B.1.1 B.1.2.1 dX3_needPartner_18 rfl (hl.at 0 rfl) ?_
    refine y_cv hf (fun q hq => x_runV (ci := 3) (C := RX3) B.1 B.2.2.2 hl hR hS cm_X3_25 ⟨rfl, rfl, Nat.le_of_ble_eq_true rfl, Nat.le_of_ble_eq_true rfl⟩ (by decide) rfl k_p0 (c_X3_advance k_p0 hq) rfl rfl (Nat.le_of_ble_eq_true rfl) dX3_needPartner_19 ⟨Nat.le_of_ble_eq_true rfl, Nat.le_of_ble_eq_true rfl⟩) hS (fun S4 H locs hf hR hS => ?_)
    refine lv_iload_n B.1.1 B.1.2.1 dX3_needPartner_22 rfl (hl.at 1 rfl) ?_
    exact y_iret B hR hS hf dX3_needPartner_23
  · refine lv_aload_n B.1.1 B.1.2.1 dX3_needPartner_10 rfl (hl.at 0 rfl) ?_
    refine y_ci hf (fun q hq => x_runV (ci := 3) (C := RX3) B.1 B.2.2.2 hl hR hS cm_X3_51 ⟨rfl, rfl, Nat.le_of_ble_eq_true rfl, Nat.le_of_ble_eq_true rfl⟩ (by decide) rfl k_p0 (c_X3_refuse k_p0 hq) rfl rfl (Nat.le_of_ble_eq_true rfl) dX3_needPartner_11 ⟨Nat.le_of_ble_eq_true rfl, Nat.le_of_ble_eq_true rfl⟩) hS (fun r6 S5 H locs hf hR hS => ?_)
    refine lv_pop B.1.1 B.1.2.1 dX3_needPartner_14 rfl ?_
    refine lv_goto (tgt := 22) B.1.1 B.1.2.1 dX3_needPartner_15 (by decide) ?_
    refine lv_iload_n B.1.1 B.1.2.1 dX3_needPartner_22 rfl (hl.at 1 rfl) ?_
    exact y_iret B hR hS hf dX3_needPartner_23
abbrev xr_X0_readWho : Room := { frames := 3, cells := 0, slots := 0, locals := 55 }
def f_X0_readWho (T : xT) (S : xS) (p0 : Nat) (p1 : Nat) (p2 : Int32) : Option (Int32 × xS) := xgr T S p0 3 20 (fun a1 => xai T S a1 p2 (fun v2 => if v2 = (0 : Int32) then some ((1 : Int32), S) else if v2 = (1 : Int32) then some ((1 : Int32), S) else if v2 = (2 : Int32) then xgr T S p0 4 20 (fun a6 => xc (f_X3_needNumber T S p1 ((0 : Int32)) ((7 : Int32))) (fun r8 S7 => xst T S7 a6 p2 r8 (fun S9 => xgr T S9 p0 4 20 (fun a10 => xai T S9 a10 p2 (fun v11 => if v11 = (-1 : Int32) then some ((0 : Int32), S9) else some ((1 : Int32), S9)))))) else if v2 = (3 : Int32) then xgr T S p0 4 20 (fun a13 => xc (f_X3_needNumber T S p1 ((0 : Int32)) ((7 : Int32))) (fun r15 S14 => xst T S14 a13 p2 r15 (fun S16 => xgr T S16 p0 4 20 (fun a17 => xai T S16 a17 p2 (fun v18 => if v18 = (-1 : Int32) then some ((0 : Int32), S16) else some ((1 : Int32), S16)))))) else if v2 = (4 : Int32) then xgr T S p0 4 20 (fun a20 => xc (f_X3_needNumber T S p1 ((0 : Int32)) ((7 : Int32))) (fun r22 S21 => xst T S21 a20 p2 r22 (fun S23 => xgr T S23 p0 4 20 (fun a24 => xai T S23 a24 p2 (fun v25 => if v25 = (-1 : Int32) then some ((0 : Int32), S23) else some ((1 : Int32), S23)))))) else if v2 = (5 : Int32) then xgr T S p0 4 20 (fun a27 => xc (f_X3_needNumber T S p1 ((0 : Int32)) ((7 : Int32))) (fun r29 S28 => xst T S28 a27 p2 r29 (fun S30 => xgr T S30 p0 4 20 (fun a31 => xai T S30 a31 p2 (fun v32 => if v32 = (-1 : Int32) then some ((0 : Int32), S30) else some ((1 : Int32), S30)))))) else xgr T S p0 4 20 (fun a33 => xc (f_X3_needPartner T S p1) (fun r35 S34 => xst T S34 a33 p2 r35 (fun S36 => xgr T S36 p0 4 20 (fun a37 => xai T S36 a37 p2 (fun v38 => if v38 = (-1 : Int32) then some ((0 : Int32), S36) else some ((1 : Int32), S36))))))))
set_option maxRecDepth 100000 in
set_option maxHeartbeats 4000000 in
theorem c_X0_readWho {l : Launch} {z : Nat} {D : va_G} {dA : Nat → ClassId} {T : xT} {S : xS} {p0 : Nat} {p1 : Nat} {p2 : Int32} (k_p0 : xlk T p0 0 = true) (k_p1 : xlk T p1 3 = true) {q : Int32 × xS} (hf : f_X0_readWho T S p0 p1 p2 = some q) : Met l yX0_readWho (xws yX0_readWho cX0_readWho 3 (some .boolean)) xr_X0_readWho (xPc z D dA T S [.ref (z + p0), .ref (z + p1), .int p2]) (xQi z D dA T q) 0 0 (xA z) := by
  refine x_met RX0 (by decide) rfl (Nat.le_of_ble_eq_true rfl) ?_
  intro p e s m below meth c ls _ X hr hlk hml _ hR hS hl
  have B : xB p s m _ meth c cX0_readWho RX0 3 (some .boolean) D dA := ⟨X, hr, hlk, hml⟩
  have hl : xL ls 3 [_, _, _] := hl
  unfold f_X0_readWho at hf
  refine lv_aload_n B.1.1 B.1.2.1 dX0_readWho_0 rfl (hl.at 0 rfl) ?_
  refine y_getR B hR hf k_p0 fl_X0_19 dX0_readWho_1 (fun a1 k_a1 hf => ?_)
  refine lv_iload_n B.1.1 B.1.2.1 dX0_readWho_4 rfl (hl.at 2 rfl) ?_
  refine y_iald B hR hf k_a1 dX0_readWho_5 (fun v2 hf => ?_)
  refine x_if hf (fun c3 hf => ?_) (fun c3 hf => ?_)
  · refine y_tcase (k := 0) (off := 38) (tgt := 44) B c3 dX0_readWho_6 (by decide) (by decide) (by decide) (by decide) ?_
    refine lv_iconst (v := 1) B.1.1 B.1.2.1 dX0_readWho_44 (by decide) ?_
    exact y_zretK B hR hS hf rfl dX0_readWho_45
  refine x_if hf (fun c4 hf => ?_) (fun c4 hf => ?_)
  · refine y_tcase (k := 1) (off := 38) (tgt := 44) B c4 dX0_readWho_6 (by decide) (by decide) (by decide) (by decide) ?_
    refine lv_iconst (v := 1) B.1.1 B.1.2.1 dX0_readWho_44 (by decide) ?_
    exact y_zretK B hR hS hf rfl dX0_readWho_45
  refine x_if hf (fun c5 hf => ?_) (fun c5 hf => ?_)
  · refine y_tcase (k := 2) (off := 40) (tgt := 46) B c5 dX0_readWho_6 (by decide) (by decide) (by decide) (by decide) ?_
    refine lv_aload_n B.1.1 B.1.2.1 dX0_readWho_46 rfl (hl.at 0 rfl) ?_
    refine y_getR B hR hf k_p0 fl_X0_22 dX0_readWho_47 (fun a6 k_a6 hf => ?_)
    refine lv_iload_n B.1.1 B.1.2.1 dX0_readWho_50 rfl (hl.at 2 rfl) ?_
    refine lv_aload_n B.1.1 B.1.2.1 dX0_readWho_51 rfl (hl.at 1 rfl) ?_
    refine lv_iconst (v := 0) B.1.1 B.1.2.1 dX0_readWho_52 (by decide) ?_
    refine lv_bipush (v := 7) B.1.1 B.1.2.1 dX0_readWho_53 (by decide) ?_
    refine y_ci hf (fun q hq => x_runV (ci := 3) (C := RX3) B.1 B.2.2.2 hl hR hS cm_X0_67 ⟨rfl, rfl, Nat.le_of_ble_eq_true rfl, Nat.le_of_ble_eq_true rfl⟩ (by decide) rfl k_p1 (c_X3_needNumber k_p1 hq) rfl rfl (Nat.le_of_ble_eq_true rfl) dX0_readWho_55 ⟨Nat.le_of_ble_eq_true rfl, Nat.le_of_ble_eq_true rfl⟩) hS (fun r8 S7 H locs hf hR hS => ?_)
    refine y_iast B hR hS hf k_a6 dX0_readWho_58 (fun S9 H locs hf hR hS => ?_)
    refine lv_aload_n B.1.1 B.1.2.1 dX0_readWho_59 rfl (hl.at 0 rfl) ?_
    refine y_getR B hR hf k_p0 fl_X0_22 dX0_readWho_60 (fun a10 k_a10 hf => ?_)
    refine lv_iload_n B.1.1 B.1.2.1 dX0_readWho_63 rfl (hl.at 2 rfl) ?_
    refine y_iald B hR hf k_a10 dX0_readWho_64 (fun v11 hf => ?_)
    refine lv_iconst (v := -1) B.1.1 B.1.2.1 dX0_readWho_65 (by decide) ?_
    refine y_icmp_eq (tgt := 73) B hf dX0_readWho_66 (by decide) (fun hf => ?_) (fun hf => ?_)
    · refine lv_iconst (v := 0) B.1.1 B.1.2.1 dX0_readWho_73 (by decide) ?_
      exact y_zretK B hR hS hf rfl dX0_readWho_74
    · refine lv_iconst (v := 1) B.1.1 B.1.2.1 dX0_readWho_69 (by decide) ?_
      refine lv_goto (tgt := 74) B.1.1 B.1.2.1 dX0_readWho_70 (by decide) ?_
      exact y_zretK B hR hS hf rfl dX0_readWho_74
  refine x_if hf (fun c12 hf => ?_) (fun c12 hf => ?_)
  · refine y_tcase (k := 3) (off := 40) (tgt := 46) B c12 dX0_readWho_6 (by decide) (by decide) (by decide) (by decide) ?_
    refine lv_aload_n B.1.1 B.1.2.1 dX0_readWho_46 rfl (hl.at 0 rfl) ?_
    refine y_getR B hR hf k_p0 fl_X0_22 dX0_readWho_47 (fun a13 k_a13 hf => ?_)
    refine lv_iload_n B.1.1 B.1.2.1 dX0_readWho_50 rfl (hl.at 2 rfl) ?_
    refine lv_aload_n B.1.1 B.1.2.1 dX0_readWho_51 rfl (hl.at 1 rfl) ?_
    refine lv_iconst (v := 0) B.1.1 B.1.2.1 dX0_readWho_52 (by decide) ?_
    refine lv_bipush (v := 7) B.1.1 B.1.2.1 dX0_readWho_53 (by decide) ?_
    refine y_ci hf (fun q hq => x_runV (ci := 3) (C := RX3) B.1 B.2.2.2 hl hR hS cm_X0_67 ⟨rfl, rfl, Nat.le_of_ble_eq_true rfl, Nat.le_of_ble_eq_true rfl⟩ (by decide) rfl k_p1 (c_X3_needNumber k_p1 hq) rfl rfl (Nat.le_of_ble_eq_true rfl) dX0_readWho_55 ⟨Nat.le_of_ble_eq_true rfl, Nat.le_of_ble_eq_true rfl⟩) hS (fun r15 S14 H locs hf hR hS => ?_)
    refine y_iast B hR hS hf k_a13 dX0_readWho_58 (fun S16 H locs hf hR hS => ?_)
    refine lv_aload_n B.1.1 B.1.2.1 dX0_readWho_59 rfl (hl.at 0 rfl) ?_
    refine y_getR B hR hf k_p0 fl_X0_22 dX0_readWho_60 (fun a17 k_a17 hf => ?_)
    refine lv_iload_n B.1.1 B.1.2.1 dX0_readWho_63 rfl (hl.at 2 rfl) ?_
    refine y_iald B hR hf k_a17 dX0_readWho_64 (fun v18 hf => ?_)
    refine lv_iconst (v := -1) B.1.1 B.1.2.1 dX0_readWho_65 (by decide) ?_
    refine y_icmp_eq (tgt := 73) B hf dX0_readWho_66 (by decide) (fun hf => ?_) (fun hf => ?_)
    · refine lv_iconst (v := 0) B.1.1 B.1.2.1 dX0_readWho_73 (by decide) ?_
      exact y_zretK B hR hS hf rfl dX0_readWho_74
    · refine lv_iconst (v := 1) B.1.1 B.1.2.1 dX0_readWho_69 (by decide) ?_
      refine lv_goto (tgt := 74) B.1.1 B.1.2.1 dX0_readWho_70 (by decide) ?_
      exact y_zretK B hR hS hf rfl dX0_readWho_74
  refine x_if hf (fun c19 hf => ?_) (fun c19 hf => ?_)
  · refine y_tcase (k := 4) (off := 40) (tgt := 46) B c19 dX0_readWho_6 (by decide) (by decide) (by decide) (by decide) ?_
    refine lv_aload_n B.1.1 B.1.2.1 dX0_readWho_46 rfl (hl.at 0 rfl) ?_
    refine y_getR B hR hf k_p0 fl_X0_22 dX0_readWho_47 (fun a20 k_a20 hf => ?_)
    refine lv_iload_n B.1.1 B.1.2.1 dX0_readWho_50 rfl (hl.at 2 rfl) ?_
    refine lv_aload_n B.1.1 B.1.2.1 dX0_readWho_51 rfl (hl.at 1 rfl) ?_
    refine lv_iconst (v := 0) B.1.1 B.1.2.1 dX0_readWho_52 (by decide) ?_
    refine lv_bipush (v := 7) B.1.1 B.1.2.1 dX0_readWho_53 (by decide) ?_
    refine y_ci hf (fun q hq => x_runV (ci := 3) (C := RX3) B.1 B.2.2.2 hl hR hS cm_X0_67 ⟨rfl, rfl, Nat.le_of_ble_eq_true rfl, Nat.le_of_ble_eq_true rfl⟩ (by decide) rfl k_p1 (c_X3_needNumber k_p1 hq) rfl rfl (Nat.le_of_ble_eq_true rfl) dX0_readWho_55 ⟨Nat.le_of_ble_eq_true rfl, Nat.le_of_ble_eq_true rfl⟩) hS (fun r22 S21 H locs hf hR hS => ?_)
    refine y_iast B hR hS hf k_a20 dX0_readWho_58 (fun S23 H locs hf hR hS => ?_)
    refine lv_aload_n B.1.1 B.1.2.1 dX0_readWho_59 rfl (hl.at 0 rfl) ?_
    refine y_getR B hR hf k_p0 fl_X0_22 dX0_readWho_60 (fun a24 k_a24 hf => ?_)
    refine lv_iload_n B.1.1 B.1.2.1 dX0_readWho_63 rfl (hl.at 2 rfl) ?_
    refine y_iald B hR hf k_a24 dX0_readWho_64 (fun v25 hf => ?_)
    refine lv_iconst (v := -1) B.1.1 B.1.2.1 dX0_readWho_65 (by decide) ?_
    refine y_icmp_eq (tgt := 73) B hf dX0_readWho_66 (by decide) (fun hf => ?_) (fun hf => ?_)
    · refine lv_iconst (v := 0) B.1.1 B.1.2.1 dX0_readWho_73 (by decide) ?_
      exact y_zretK B hR hS hf rfl dX0_readWho_74
    · refine lv_iconst (v := 1) B.1.1 B.1.2.1 dX0_readWho_69 (by decide) ?_
      refine lv_goto (tgt := 74) B.1.1 B.1.2.1 dX0_readWho_70 (by decide) ?_
      exact y_zretK B hR hS hf rfl dX0_readWho_74
  refine x_if hf (fun c26 hf => ?_) (fun c26 hf => ?_)
  · refine y_tcase (k := 5) (off := 40) (tgt := 46) B c26 dX0_readWho_6 (by decide) (by decide) (by decide) (by decide) ?_
    refine lv_aload_n B.1.1 B.1.2.1 dX0_readWho_46 rfl (hl.at 0 rfl) ?_
    refine y_getR B hR hf k_p0 fl_X0_22 dX0_readWho_47 (fun a27 k_a27 hf => ?_)
    refine lv_iload_n B.1.1 B.1.2.1 dX0_readWho_50 rfl (hl.at 2 rfl) ?_
    refine lv_aload_n B.1.1 B.1.2.1 dX0_readWho_51 rfl (hl.at 1 rfl) ?_
    refine lv_iconst (v := 0) B.1.1 B.1.2.1 dX0_readWho_52 (by decide) ?_
    refine lv_bipush (v := 7) B.1.1 B.1.2.1 dX0_readWho_53 (by decide) ?_
    refine y_ci hf (fun q hq => x_runV (ci := 3) (C := RX3) B.1 B.2.2.2 hl hR hS cm_X0_67 ⟨rfl, rfl, Nat.le_of_ble_eq_true rfl, Nat.le_of_ble_eq_true rfl⟩ (by decide) rfl k_p1 (c_X3_needNumber k_p1 hq) rfl rfl (Nat.le_of_ble_eq_true rfl) dX0_readWho_55 ⟨Nat.le_of_ble_eq_true rfl, Nat.le_of_ble_eq_true rfl⟩) hS (fun r29 S28 H locs hf hR hS => ?_)
    refine y_iast B hR hS hf k_a27 dX0_readWho_58 (fun S30 H locs hf hR hS => ?_)
    refine lv_aload_n B.1.1 B.1.2.1 dX0_readWho_59 rfl (hl.at 0 rfl) ?_
    refine y_getR B hR hf k_p0 fl_X0_22 dX0_readWho_60 (fun a31 k_a31 hf => ?_)
    refine lv_iload_n B.1.1 B.1.2.1 dX0_readWho_63 rfl (hl.at 2 rfl) ?_
    refine y_iald B hR hf k_a31 dX0_readWho_64 (fun v32 hf => ?_)
    refine lv_iconst (v := -1) B.1.1 B.1.2.1 dX0_readWho_65 (by decide) ?_
    refine y_icmp_eq (tgt := 73) B hf dX0_readWho_66 (by decide) (fun hf => ?_) (fun hf => ?_)
    · refine lv_iconst (v := 0) B.1.1 B.1.2.1 dX0_readWho_73 (by decide) ?_
      exact y_zretK B hR hS hf rfl dX0_readWho_74
    · refine lv_iconst (v := 1) B.1.1 B.1.2.1 dX0_readWho_69 (by decide) ?_
      refine lv_goto (tgt := 74) B.1.1 B.1.2.1 dX0_readWho_70 (by decide) ?_
      exact y_zretK B hR hS hf rfl dX0_readWho_74
  have n0 := lv_neT c3 (a := 0) (by decide)
  have n1 := lv_neT c4 (a := 1) (by decide)
  have n2 := lv_neT c5 (a := 2) (by decide)
  have n3 := lv_neT c12 (a := 3) (by decide)
  have n4 := lv_neT c19 (a := 4) (by decide)
  have n5 := lv_neT c26 (a := 5) (by decide)
  refine y_tdef (tgt := 75) B dX0_readWho_6 (by omega) (by decide) ?_
  refine lv_aload_n B.1.1 B.1.2.1 dX0_readWho_75 rfl (hl.at 0 rfl) ?_
  refine y_getR B hR hf k_p0 fl_X0_22 dX0_readWho_76 (fun a33 k_a33 hf => ?_)
  refine lv_iload_n B.1.1 B.1.2.1 dX0_readWho_79 rfl (hl.at 2 rfl) ?_
  refine lv_aload_n B.1.1 B.1.2.1 dX0_readWho_80 rfl (hl.at 1 rfl) ?_
  refine y_ci hf (fun q hq => x_runV (ci := 3) (C := RX3) B.1 B.2.2.2 hl hR hS cm_X0_71 ⟨rfl, rfl, Nat.le_of_ble_eq_true rfl, Nat.le_of_ble_eq_true rfl⟩ (by decide) rfl k_p1 (c_X3_needPartner k_p1 hq) rfl rfl (Nat.le_of_ble_eq_true rfl) dX0_readWho_81 ⟨Nat.le_of_ble_eq_true rfl, Nat.le_of_ble_eq_true rfl⟩) hS (fun r35 S34 H locs hf hR hS => ?_)
  refine y_iast B hR hS hf k_a33 dX0_readWho_84 (fun S36 H locs hf hR hS => ?_)
  refine lv_aload_n B.1.1 B.1.2.1 dX0_readWho_85 rfl (hl.at 0 rfl) ?_
  refine y_getR B hR hf k_p0 fl_X0_22 dX0_readWho_86 (fun a37 k_a37 hf => ?_)
  refine lv_iload_n B.1.1 B.1.2.1 dX0_readWho_89 rfl (hl.at 2 rfl) ?_
  refine y_iald B hR hf k_a37 dX0_readWho_90 (fun v38 hf => ?_)
  refine lv_iconst (v := -1) B.1.1 B.1.2.1 dX0_readWho_91 (by decide) ?_
  refine y_icmp_eq (tgt := 99) B hf dX0_readWho_92 (by decide) (fun hf => ?_) (fun hf => ?_)
  · refine lv_iconst (v := 0) B.1.1 B.1.2.1 dX0_readWho_99 (by decide) ?_
    exact y_zretK B hR hS hf rfl dX0_readWho_100
  · refine lv_iconst (v := 1) B.1.1 B.1.2.1 dX0_readWho_95 (by decide) ?_
    refine lv_goto (tgt := 100) B.1.1 B.1.2.1 dX0_readWho_96 (by decide) ?_
    exact y_zretK B hR hS hf rfl dX0_readWho_100
abbrev xr_X3_isSign : Room := { frames := 1, cells := 0, slots := 0, locals := 12 }
def f_X3_isSign (T : xT) (S : xS) (p0 : Nat) (p1 : Int32) : Option (Int32 × xS) := if (S.1 p0 6) = (3 : Int32) then if (S.1 p0 3) = p1 then some ((1 : Int32), S) else some ((0 : Int32), S) else some ((0 : Int32), S)
set_option maxRecDepth 100000 in
set_option maxHeartbeats 4000000 in
theorem c_X3_isSign {l : Launch} {z : Nat} {D : va_G} {dA : Nat → ClassId} {T : xT} {S : xS} {p0 : Nat} {p1 : Int32} (k_p0 : xlk T p0 3 = true) {q : Int32 × xS} (hf : f_X3_isSign T S p0 p1 = some q) : Met l yX3_isSign (xws yX3_isSign cX3_isSign 2 (some .boolean)) xr_X3_isSign (xPc z D dA T S [.ref (z + p0), .int p1]) (xQi z D dA T q) 0 0 (xA z) := by
  refine x_met RX3 (by decide) rfl (Nat.le_of_ble_eq_true rfl) ?_
  intro p e s m below meth c ls _ X hr hlk hml _ hR hS hl
  have B : xB p s m _ meth c cX3_isSign RX3 2 (some .boolean) D dA := ⟨X, hr, hlk, hml⟩
  have hl : xL ls 2 [_, _] := hl
  unfold f_X3_isSign at hf
  refine lv_aload_n B.1.1 B.1.2.1 dX3_isSign_0 rfl (hl.at 0 rfl) ?_
  refine y_getI B hR k_p0 fl_X3_31 dX3_isSign_1 ?_
  refine lv_iconst (v := 3) B.1.1 B.1.2.1 dX3_isSign_4 (by decide) ?_
  refine y_icmp_ne (tgt := 20) B hf dX3_isSign_5 (by decide) (fun hf => ?_) (fun hf => ?_)
  · refine lv_iconst (v := 0) B.1.1 B.1.2.1 dX3_isSign_20 (by decide) ?_
    exact y_zretK B hR hS hf rfl dX3_isSign_21
  · refine lv_aload_n B.1.1 B.1.2.1 dX3_isSign_8 rfl (hl.at 0 rfl) ?_
    refine y_getI B hR k_p0 fl_X3_38 dX3_isSign_9 ?_
    refine lv_iload_n B.1.1 B.1.2.1 dX3_isSign_12 rfl (hl.at 1 rfl) ?_
    refine y_icmp_ne (tgt := 20) B hf dX3_isSign_13 (by decide) (fun hf => ?_) (fun hf => ?_)
    · refine lv_iconst (v := 0) B.1.1 B.1.2.1 dX3_isSign_20 (by decide) ?_
      exact y_zretK B hR hS hf rfl dX3_isSign_21
    · refine lv_iconst (v := 1) B.1.1 B.1.2.1 dX3_isSign_16 (by decide) ?_
      refine lv_goto (tgt := 21) B.1.1 B.1.2.1 dX3_isSign_17 (by decide) ?_
      exact y_zretK B hR hS hf rfl dX3_isSign_21
abbrev xr_X0_readAmount : Room := { frames := 3, cells := 0, slots := 0, locals := 55 }
def f_X0_readAmount_55 (T : xT) (S : xS) (p0 : Nat) (p1 : Nat) (p2 : Int32) (p3 : Int32) : Option (Int32 × xS) := xc (f_X3_needNumber T S p1 ((0 : Int32)) ((1000000 : Int32))) (fun r2 S1 => xl r2 (fun v3 => xgr T S1 p0 5 20 (fun a4 => if p3 = (0 : Int32) then xst T S1 a4 p2 v3 (fun S5 => if v3 = (-1 : Int32) then some ((0 : Int32), S5) else some ((1 : Int32), S5)) else xst T S1 a4 p2 ((-v3)) (fun S6 => if v3 = (-1 : Int32) then some ((0 : Int32), S6) else some ((1 : Int32), S6)))))
set_option maxRecDepth 100000 in
set_option maxHeartbeats 4000000 in
theorem w_X0_readAmount_55 {p : Program} {l : Launch} {e : Env} {s : State} {m : MethodId} {args : Array Value} {below : List Frame} {meth : Method} {c : Code} {z : Nat} {D : va_G} {dA : Nat → ClassId} {T : xT} (B : xB p s m args meth c cX0_readAmount RX0 5 (some .boolean) D dA) {q : Int32 × xS} : ∀ (S : xS) (H : Heap) (locs : List Loc) (ls : Array Slot) (p0 : Nat) (p1 : Nat) (p2 : Int32) (p3 : Int32), xlk T p0 0 = true → xlk T p1 3 = true → f_X0_readAmount_55 T S p0 p1 p2 p3 = some q → xRel z D dA T S H → va_S (xA z) s.heap H locs → xL ls 5 [some (.ref (z + p0)), some (.ref (z + p1)), some (.int p2), some (.int p3), none] → xGi p l e xr_X0_readAmount s m args below meth c z D dA T q H locs 55 ls [] := by
  intro S H locs ls p0 p1 p2 p3 k_p0 k_p1 hf hR hS hl
  unfold f_X0_readAmount_55 at hf
  refine lv_aload_n B.1.1 B.1.2.1 dX0_readAmount_55 rfl (hl.at 1 rfl) ?_
  refine lv_iconst (v := 0) B.1.1 B.1.2.1 dX0_readAmount_56 (by decide) ?_
  refine lv_ldc (v := 1000000) B.1.1 B.1.2.1 B.1.2.2.1 (B.1.2.2.2.1 _ tw_944) dX0_readAmount_57 ?_
  refine y_ci hf (fun q hq => x_runV (ci := 3) (C := RX3) B.1 B.2.2.2 hl hR hS cm_X0_67 ⟨rfl, rfl, Nat.le_of_ble_eq_true rfl, Nat.le_of_ble_eq_true rfl⟩ (by decide) rfl k_p1 (c_X3_needNumber k_p1 hq) rfl rfl (Nat.le_of_ble_eq_true rfl) dX0_readAmount_59 ⟨Nat.le_of_ble_eq_true rfl, Nat.le_of_ble_eq_true rfl⟩) hS (fun r2 S1 H locs hf hR hS => ?_)
  refine y_istore B hl hf dX0_readAmount_62 (by decide) rfl (fun v3 ls hf hl => ?_)
  have hl : xL ls 5 [_, _, _, _, _] := hl
  refine lv_aload_n B.1.1 B.1.2.1 dX0_readAmount_64 rfl (hl.at 0 rfl) ?_
  refine y_getR B hR hf k_p0 fl_X0_25 dX0_readAmount_65 (fun a4 k_a4 hf => ?_)
  refine lv_iload_n B.1.1 B.1.2.1 dX0_readAmount_68 rfl (hl.at 2 rfl) ?_
  refine lv_iload_n B.1.1 B.1.2.1 dX0_readAmount_69 rfl (hl.at 3 rfl) ?_
  refine y_if_eq (tgt := 79) B hf dX0_readAmount_70 (by decide) (fun hf => ?_) (fun hf => ?_)
  · refine lv_iload B.1.1 B.1.2.1 dX0_readAmount_79 (hl.at 4 rfl) ?_
    refine y_iast B hR hS hf k_a4 dX0_readAmount_81 (fun S5 H locs hf hR hS => ?_)
    refine lv_iload B.1.1 B.1.2.1 dX0_readAmount_82 (hl.at 4 rfl) ?_
    refine lv_iconst (v := -1) B.1.1 B.1.2.1 dX0_readAmount_84 (by decide) ?_
    refine y_icmp_eq (tgt := 92) B hf dX0_readAmount_85 (by decide) (fun hf => ?_) (fun hf => ?_)
    · refine lv_iconst (v := 0) B.1.1 B.1.2.1 dX0_readAmount_92 (by decide) ?_
      exact y_zretK B hR hS hf rfl dX0_readAmount_93
    · refine lv_iconst (v := 1) B.1.1 B.1.2.1 dX0_readAmount_88 (by decide) ?_
      refine lv_goto (tgt := 93) B.1.1 B.1.2.1 dX0_readAmount_89 (by decide) ?_
      exact y_zretK B hR hS hf rfl dX0_readAmount_93
  · refine lv_iload B.1.1 B.1.2.1 dX0_readAmount_73 (hl.at 4 rfl) ?_
    refine lv_ineg B.1.1 B.1.2.1 dX0_readAmount_75 ?_
    refine lv_goto (tgt := 81) B.1.1 B.1.2.1 dX0_readAmount_76 (by decide) ?_
    refine y_iast B hR hS hf k_a4 dX0_readAmount_81 (fun S6 H locs hf hR hS => ?_)
    refine lv_iload B.1.1 B.1.2.1 dX0_readAmount_82 (hl.at 4 rfl) ?_
    refine lv_iconst (v := -1) B.1.1 B.1.2.1 dX0_readAmount_84 (by decide) ?_
    refine y_icmp_eq (tgt := 92) B hf dX0_readAmount_85 (by decide) (fun hf => ?_) (fun hf => ?_)
    · refine lv_iconst (v := 0) B.1.1 B.1.2.1 dX0_readAmount_92 (by decide) ?_
      exact y_zretK B hR hS hf rfl dX0_readAmount_93
    · refine lv_iconst (v := 1) B.1.1 B.1.2.1 dX0_readAmount_88 (by decide) ?_
      refine lv_goto (tgt := 93) B.1.1 B.1.2.1 dX0_readAmount_89 (by decide) ?_
      exact y_zretK B hR hS hf rfl dX0_readAmount_93
def f_X0_readAmount (T : xT) (S : xS) (p0 : Nat) (p1 : Nat) (p2 : Int32) : Option (Int32 × xS) := xgr T S p0 3 20 (fun a1 => xai T S a1 p2 (fun v2 => if v2 = (0 : Int32) then some ((1 : Int32), S) else xgr T S p0 3 20 (fun a3 => xai T S a3 p2 (fun v4 => if v4 = (9 : Int32) then some ((1 : Int32), S) else xgr T S p0 3 20 (fun a5 => xai T S a5 p2 (fun v6 => if v6 = (1 : Int32) then xc (f_X3_isSign T S p1 ((45 : Int32))) (fun r10 S9 => if r10 = (0 : Int32) then xl ((0 : Int32)) (fun v11 => if v11 = (0 : Int32) then f_X0_readAmount_55 T S9 p0 p1 p2 v11 else xcv (f_X3_advance T S9 p1) (fun S12 => f_X0_readAmount_55 T S12 p0 p1 p2 v11)) else xl ((1 : Int32)) (fun v13 => if v13 = (0 : Int32) then f_X0_readAmount_55 T S9 p0 p1 p2 v13 else xcv (f_X3_advance T S9 p1) (fun S14 => f_X0_readAmount_55 T S14 p0 p1 p2 v13))) else xl ((0 : Int32)) (fun v7 => if v7 = (0 : Int32) then f_X0_readAmount_55 T S p0 p1 p2 v7 else xcv (f_X3_advance T S p1) (fun S8 => f_X0_readAmount_55 T S8 p0 p1 p2 v7))))))))
set_option maxRecDepth 100000 in
set_option maxHeartbeats 4000000 in
theorem c_X0_readAmount {l : Launch} {z : Nat} {D : va_G} {dA : Nat → ClassId} {T : xT} {S : xS} {p0 : Nat} {p1 : Nat} {p2 : Int32} (k_p0 : xlk T p0 0 = true) (k_p1 : xlk T p1 3 = true) {q : Int32 × xS} (hf : f_X0_readAmount T S p0 p1 p2 = some q) : Met l yX0_readAmount (xws yX0_readAmount cX0_readAmount 5 (some .boolean)) xr_X0_readAmount (xPc z D dA T S [.ref (z + p0), .ref (z + p1), .int p2]) (xQi z D dA T q) 0 0 (xA z) := by
  refine x_met RX0 (by decide) rfl (Nat.le_of_ble_eq_true rfl) ?_
  intro p e s m below meth c ls _ X hr hlk hml _ hR hS hl
  have B : xB p s m _ meth c cX0_readAmount RX0 5 (some .boolean) D dA := ⟨X, hr, hlk, hml⟩
  have hl : xL ls 5 [_, _, _, _, _] := hl
  unfold f_X0_readAmount at hf
  refine lv_aload_n B.1.1 B.1.2.1 dX0_readAmount_0 rfl (hl.at 0 rfl) ?_
  refine y_getR B hR hf k_p0 fl_X0_19 dX0_readAmount_1 (fun a1 k_a1 hf => ?_)
  refine lv_iload_n B.1.1 B.1.2.1 dX0_readAmount_4 rfl (hl.at 2 rfl) ?_
  refine y_iald B hR hf k_a1 dX0_readAmount_5 (fun v2 hf => ?_)
  refine y_if_eq (tgt := 20) B hf dX0_readAmount_6 (by decide) (fun hf => ?_) (fun hf => ?_)
  · refine lv_iconst (v := 1) B.1.1 B.1.2.1 dX0_readAmount_20 (by decide) ?_
    exact y_zretK B hR hS hf rfl dX0_readAmount_21
  · refine lv_aload_n B.1.1 B.1.2.1 dX0_readAmount_9 rfl (hl.at 0 rfl) ?_
    refine y_getR B hR hf k_p0 fl_X0_19 dX0_readAmount_10 (fun a3 k_a3 hf => ?_)
    refine lv_iload_n B.1.1 B.1.2.1 dX0_readAmount_13 rfl (hl.at 2 rfl) ?_
    refine y_iald B hR hf k_a3 dX0_readAmount_14 (fun v4 hf => ?_)
    refine lv_bipush (v := 9) B.1.1 B.1.2.1 dX0_readAmount_15 (by decide) ?_
    refine y_icmp_ne (tgt := 22) B hf dX0_readAmount_17 (by decide) (fun hf => ?_) (fun hf => ?_)
    · refine lv_aload_n B.1.1 B.1.2.1 dX0_readAmount_22 rfl (hl.at 0 rfl) ?_
      refine y_getR B hR hf k_p0 fl_X0_19 dX0_readAmount_23 (fun a5 k_a5 hf => ?_)
      refine lv_iload_n B.1.1 B.1.2.1 dX0_readAmount_26 rfl (hl.at 2 rfl) ?_
      refine y_iald B hR hf k_a5 dX0_readAmount_27 (fun v6 hf => ?_)
      refine lv_iconst (v := 1) B.1.1 B.1.2.1 dX0_readAmount_28 (by decide) ?_
      refine y_icmp_ne (tgt := 45) B hf dX0_readAmount_29 (by decide) (fun hf => ?_) (fun hf => ?_)
      · refine lv_iconst (v := 0) B.1.1 B.1.2.1 dX0_readAmount_45 (by decide) ?_
        refine y_istore_n B hl hf dX0_readAmount_46 rfl (by decide) rfl (fun v7 ls hf hl => ?_)
        have hl : xL ls 5 [_, _, _, _, _] := hl
        refine lv_iload_n B.1.1 B.1.2.1 dX0_readAmount_47 rfl (hl.at 3 rfl) ?_
        refine y_if_eq (tgt := 55) B hf dX0_readAmount_48 (by decide) (fun hf => ?_) (fun hf => ?_)
        · exact w_X0_readAmount_55 B _ _ _ _ _ _ _ _ k_p0 k_p1 hf hR hS hl
        · refine lv_aload_n B.1.1 B.1.2.1 dX0_readAmount_51 rfl (hl.at 1 rfl) ?_
          refine y_cv hf (fun q hq => x_runV (ci := 3) (C := RX3) B.1 B.2.2.2 hl hR hS cm_X0_54 ⟨rfl, rfl, Nat.le_of_ble_eq_true rfl, Nat.le_of_ble_eq_true rfl⟩ (by decide) rfl k_p1 (c_X3_advance k_p1 hq) rfl rfl (Nat.le_of_ble_eq_true rfl) dX0_readAmount_52 ⟨Nat.le_of_ble_eq_true rfl, Nat.le_of_ble_eq_true rfl⟩) hS (fun S8 H locs hf hR hS => ?_)
          exact w_X0_readAmount_55 B _ _ _ _ _ _ _ _ k_p0 k_p1 hf hR hS hl
      · refine lv_aload_n B.1.1 B.1.2.1 dX0_readAmount_32 rfl (hl.at 1 rfl) ?_
        refine lv_bipush (v := 45) B.1.1 B.1.2.1 dX0_readAmount_33 (by decide) ?_
        refine y_ci hf (fun q hq => x_runV (ci := 3) (C := RX3) B.1 B.2.2.2 hl hR hS cm_X0_75 ⟨rfl, rfl, Nat.le_of_ble_eq_true rfl, Nat.le_of_ble_eq_true rfl⟩ (by decide) rfl k_p1 (c_X3_isSign k_p1 hq) rfl rfl (Nat.le_of_ble_eq_true rfl) dX0_readAmount_35 ⟨Nat.le_of_ble_eq_true rfl, Nat.le_of_ble_eq_true rfl⟩) hS (fun r10 S9 H locs hf hR hS => ?_)
        refine y_if_eq (tgt := 45) B hf dX0_readAmount_38 (by decide) (fun hf => ?_) (fun hf => ?_)
        · refine lv_iconst (v := 0) B.1.1 B.1.2.1 dX0_readAmount_45 (by decide) ?_
          refine y_istore_n B hl hf dX0_readAmount_46 rfl (by decide) rfl (fun v11 ls hf hl => ?_)
          have hl : xL ls 5 [_, _, _, _, _] := hl
          refine lv_iload_n B.1.1 B.1.2.1 dX0_readAmount_47 rfl (hl.at 3 rfl) ?_
          refine y_if_eq (tgt := 55) B hf dX0_readAmount_48 (by decide) (fun hf => ?_) (fun hf => ?_)
          · exact w_X0_readAmount_55 B _ _ _ _ _ _ _ _ k_p0 k_p1 hf hR hS hl
          · refine lv_aload_n B.1.1 B.1.2.1 dX0_readAmount_51 rfl (hl.at 1 rfl) ?_
            refine y_cv hf (fun q hq => x_runV (ci := 3) (C := RX3) B.1 B.2.2.2 hl hR hS cm_X0_54 ⟨rfl, rfl, Nat.le_of_ble_eq_true rfl, Nat.le_of_ble_eq_true rfl⟩ (by decide) rfl k_p1 (c_X3_advance k_p1 hq) rfl rfl (Nat.le_of_ble_eq_true rfl) dX0_readAmount_52 ⟨Nat.le_of_ble_eq_true rfl, Nat.le_of_ble_eq_true rfl⟩) hS (fun S12 H locs hf hR hS => ?_)
            exact w_X0_readAmount_55 B _ _ _ _ _ _ _ _ k_p0 k_p1 hf hR hS hl
        · refine lv_iconst (v := 1) B.1.1 B.1.2.1 dX0_readAmount_41 (by decide) ?_
          refine lv_goto (tgt := 46) B.1.1 B.1.2.1 dX0_readAmount_42 (by decide) ?_
          refine y_istore_n B hl hf dX0_readAmount_46 rfl (by decide) rfl (fun v13 ls hf hl => ?_)
          have hl : xL ls 5 [_, _, _, _, _] := hl
          refine lv_iload_n B.1.1 B.1.2.1 dX0_readAmount_47 rfl (hl.at 3 rfl) ?_
          refine y_if_eq (tgt := 55) B hf dX0_readAmount_48 (by decide) (fun hf => ?_) (fun hf => ?_)
          · exact w_X0_readAmount_55 B _ _ _ _ _ _ _ _ k_p0 k_p1 hf hR hS hl
          · refine lv_aload_n B.1.1 B.1.2.1 dX0_readAmount_51 rfl (hl.at 1 rfl) ?_
            refine y_cv hf (fun q hq => x_runV (ci := 3) (C := RX3) B.1 B.2.2.2 hl hR hS cm_X0_54 ⟨rfl, rfl, Nat.le_of_ble_eq_true rfl, Nat.le_of_ble_eq_true rfl⟩ (by decide) rfl k_p1 (c_X3_advance k_p1 hq) rfl rfl (Nat.le_of_ble_eq_true rfl) dX0_readAmount_52 ⟨Nat.le_of_ble_eq_true rfl, Nat.le_of_ble_eq_true rfl⟩) hS (fun S14 H locs hf hR hS => ?_)
            exact w_X0_readAmount_55 B _ _ _ _ _ _ _ _ k_p0 k_p1 hf hR hS hl
    · refine lv_iconst (v := 1) B.1.1 B.1.2.1 dX0_readAmount_20 (by decide) ?_
      exact y_zretK B hR hS hf rfl dX0_readAmount_21
abbrev xr_X3_needSign : Room := { frames := 2, cells := 0, slots := 0, locals := 33 }
def f_X3_needSign (T : xT) (S : xS) (p0 : Nat) (p1 : Int32) : Option (Int32 × xS) := xc (f_X3_isSign T S p0 p1) (fun r2 S1 => if r2 = (0 : Int32) then xc (f_X3_refuse T S1 p0) (fun r5 S4 => xgd (xnz r5) (some (r5, S4))) else xcv (f_X3_advance T S1 p0) (fun S3 => some ((1 : Int32), S3)))
set_option maxRecDepth 100000 in
set_option maxHeartbeats 4000000 in
theorem c_X3_needSign {l : Launch} {z : Nat} {D : va_G} {dA : Nat → ClassId} {T : xT} {S : xS} {p0 : Nat} {p1 : Int32} (k_p0 : xlk T p0 3 = true) {q : Int32 × xS} (hf : f_X3_needSign T S p0 p1 = some q) : Met l yX3_needSign (xws yX3_needSign cX3_needSign 2 (some .boolean)) xr_X3_needSign (xPc z D dA T S [.ref (z + p0), .int p1]) (xQi z D dA T q) 0 0 (xA z) := by
  refine x_met RX3 (by decide) rfl (Nat.le_of_ble_eq_true rfl) ?_
  intro p e s m below meth c ls _ X hr hlk hml _ hR hS hl
  have B : xB p s m _ meth c cX3_needSign RX3 2 (some .boolean) D dA := ⟨X, hr, hlk, hml⟩
  have hl : xL ls 2 [_, _] := hl
  unfold f_X3_needSign at hf
  refine lv_aload_n B.1.1 B.1.2.1 dX3_needSign_0 rfl (hl.at 0 rfl) ?_
  refine lv_iload_n B.1.1 B.1.2.1 dX3_needSign_1 rfl (hl.at 1 rfl) ?_
  refine y_ci hf (fun q hq => x_runV (ci := 3) (C := RX3) B.1 B.2.2.2 hl hR hS cm_X3_59 ⟨rfl, rfl, Nat.le_of_ble_eq_true rfl, Nat.le_of_ble_eq_true rfl⟩ (by decide) rfl k_p0 (c_X3_isSign k_p0 hq) rfl rfl (Nat.le_of_ble_eq_true rfl) dX3_needSign_2 ⟨Nat.le_of_ble_eq_true rfl, Nat.le_of_ble_eq_true rfl⟩) hS (fun r2 S1 H locs hf hR hS => ?_)
  refine y_if_ne (tgt := 13) B hf dX3_needSign_5 (by decide) (fun hf => ?_) (fun hf => ?_)
  · refine lv_aload_n B.1.1 B.1.2.1 dX3_needSign_13 rfl (hl.at 0 rfl) ?_
    refine y_cv hf (fun q hq => x_runV (ci := 3) (C := RX3) B.1 B.2.2.2 hl hR hS cm_X3_25 ⟨rfl, rfl, Nat.le_of_ble_eq_true rfl, Nat.le_of_ble_eq_true rfl⟩ (by decide) rfl k_p0 (c_X3_advance k_p0 hq) rfl rfl (Nat.le_of_ble_eq_true rfl) dX3_needSign_14 ⟨Nat.le_of_ble_eq_true rfl, Nat.le_of_ble_eq_true rfl⟩) hS (fun S3 H locs hf hR hS => ?_)
    refine lv_iconst (v := 1) B.1.1 B.1.2.1 dX3_needSign_17 (by decide) ?_
    exact y_zretK B hR hS hf rfl dX3_needSign_18
  · refine lv_aload_n B.1.1 B.1.2.1 dX3_needSign_8 rfl (hl.at 0 rfl) ?_
    refine y_ci hf (fun q hq => x_runV (ci := 3) (C := RX3) B.1 B.2.2.2 hl hR hS cm_X3_51 ⟨rfl, rfl, Nat.le_of_ble_eq_true rfl, Nat.le_of_ble_eq_true rfl⟩ (by decide) rfl k_p0 (c_X3_refuse k_p0 hq) rfl rfl (Nat.le_of_ble_eq_true rfl) dX3_needSign_9 ⟨Nat.le_of_ble_eq_true rfl, Nat.le_of_ble_eq_true rfl⟩) hS (fun r5 S4 H locs hf hR hS => ?_)
    exact y_zret B hR hS hf dX3_needSign_12
abbrev xr_X0_readAct : Room := { frames := 7, cells := 0, slots := 0, locals := 139 }
def f_X0_readAct (T : xT) (S : xS) (p0 : Nat) (p1 : Nat) (p2 : Int32) : Option (Int32 × xS) := xgr T S p0 3 20 (fun a1 => xc (f_X0_actHere T S p1) (fun r3 S2 => xst T S2 a1 p2 r3 (fun S4 => xgr T S4 p0 4 20 (fun a5 => xst T S4 a5 p2 ((0 : Int32)) (fun S6 => xgr T S6 p0 5 20 (fun a7 => xst T S6 a7 p2 ((0 : Int32)) (fun S8 => xgr T S8 p0 3 20 (fun a9 => xai T S8 a9 p2 (fun v10 => if v10 = (-1 : Int32) then xc (f_X3_refuse T S8 p1) (fun r19 S18 => xgd (xnz r19) (some (r19, S18))) else xcv (f_X3_advance T S8 p1) (fun S11 => xc (f_X0_readWho T S11 p0 p1 p2) (fun r13 S12 => if r13 = (0 : Int32) then some ((0 : Int32), S12) else xc (f_X0_readAmount T S12 p0 p1 p2) (fun r15 S14 => if r15 = (0 : Int32) then some ((0 : Int32), S14) else xc (f_X3_needSign T S14 p1 ((59 : Int32))) (fun r17 S16 => if r17 = (0 : Int32) then some ((0 : Int32), S16) else some ((1 : Int32), S16))))))))))))))
set_option maxRecDepth 100000 in
set_option maxHeartbeats 4000000 in
theorem c_X0_readAct {l : Launch} {z : Nat} {D : va_G} {dA : Nat → ClassId} {T : xT} {S : xS} {p0 : Nat} {p1 : Nat} {p2 : Int32} (k_p0 : xlk T p0 0 = true) (k_p1 : xlk T p1 3 = true) {q : Int32 × xS} (hf : f_X0_readAct T S p0 p1 p2 = some q) : Met l yX0_readAct (xws yX0_readAct cX0_readAct 3 (some .boolean)) xr_X0_readAct (xPc z D dA T S [.ref (z + p0), .ref (z + p1), .int p2]) (xQi z D dA T q) 0 0 (xA z) := by
  refine x_met RX0 (by decide) rfl (Nat.le_of_ble_eq_true rfl) ?_
  intro p e s m below meth c ls _ X hr hlk hml _ hR hS hl
  have B : xB p s m _ meth c cX0_readAct RX0 3 (some .boolean) D dA := ⟨X, hr, hlk, hml⟩
  have hl : xL ls 3 [_, _, _] := hl
  unfold f_X0_readAct at hf
  refine lv_aload_n B.1.1 B.1.2.1 dX0_readAct_0 rfl (hl.at 0 rfl) ?_
  refine y_getR B hR hf k_p0 fl_X0_19 dX0_readAct_1 (fun a1 k_a1 hf => ?_)
  refine lv_iload_n B.1.1 B.1.2.1 dX0_readAct_4 rfl (hl.at 2 rfl) ?_
  refine lv_aload_n B.1.1 B.1.2.1 dX0_readAct_5 rfl (hl.at 1 rfl) ?_
  refine y_ci hf (fun q hq => y_runS B.1 B.2.2.2 hl hR hS cm_X0_47 ⟨rfl, rfl, Nat.le_of_ble_eq_true rfl, Nat.le_of_ble_eq_true rfl⟩ (c_X0_actHere k_p1 hq) rfl rfl (Nat.le_of_ble_eq_true rfl) dX0_readAct_6 ⟨Nat.le_of_ble_eq_true rfl, Nat.le_of_ble_eq_true rfl⟩) hS (fun r3 S2 H locs hf hR hS => ?_)
  refine y_iast B hR hS hf k_a1 dX0_readAct_9 (fun S4 H locs hf hR hS => ?_)
  refine lv_aload_n B.1.1 B.1.2.1 dX0_readAct_10 rfl (hl.at 0 rfl) ?_
  refine y_getR B hR hf k_p0 fl_X0_22 dX0_readAct_11 (fun a5 k_a5 hf => ?_)
  refine lv_iload_n B.1.1 B.1.2.1 dX0_readAct_14 rfl (hl.at 2 rfl) ?_
  refine lv_iconst (v := 0) B.1.1 B.1.2.1 dX0_readAct_15 (by decide) ?_
  refine y_iast B hR hS hf k_a5 dX0_readAct_16 (fun S6 H locs hf hR hS => ?_)
  refine lv_aload_n B.1.1 B.1.2.1 dX0_readAct_17 rfl (hl.at 0 rfl) ?_
  refine y_getR B hR hf k_p0 fl_X0_25 dX0_readAct_18 (fun a7 k_a7 hf => ?_)
  refine lv_iload_n B.1.1 B.1.2.1 dX0_readAct_21 rfl (hl.at 2 rfl) ?_
  refine lv_iconst (v := 0) B.1.1 B.1.2.1 dX0_readAct_22 (by decide) ?_
  refine y_iast B hR hS hf k_a7 dX0_readAct_23 (fun S8 H locs hf hR hS => ?_)
  refine lv_aload_n B.1.1 B.1.2.1 dX0_readAct_24 rfl (hl.at 0 rfl) ?_
  refine y_getR B hR hf k_p0 fl_X0_19 dX0_readAct_25 (fun a9 k_a9 hf => ?_)
  refine lv_iload_n B.1.1 B.1.2.1 dX0_readAct_28 rfl (hl.at 2 rfl) ?_
  refine y_iald B hR hf k_a9 dX0_readAct_29 (fun v10 hf => ?_)
  refine lv_iconst (v := -1) B.1.1 B.1.2.1 dX0_readAct_30 (by decide) ?_
  refine y_icmp_ne (tgt := 39) B hf dX0_readAct_31 (by decide) (fun hf => ?_) (fun hf => ?_)
  · refine lv_aload_n B.1.1 B.1.2.1 dX0_readAct_39 rfl (hl.at 1 rfl) ?_
    refine y_cv hf (fun q hq => x_runV (ci := 3) (C := RX3) B.1 B.2.2.2 hl hR hS cm_X0_54 ⟨rfl, rfl, Nat.le_of_ble_eq_true rfl, Nat.le_of_ble_eq_true rfl⟩ (by decide) rfl k_p1 (c_X3_advance k_p1 hq) rfl rfl (Nat.le_of_ble_eq_true rfl) dX0_readAct_40 ⟨Nat.le_of_ble_eq_true rfl, Nat.le_of_ble_eq_true rfl⟩) hS (fun S11 H locs hf hR hS => ?_)
    refine lv_aload_n B.1.1 B.1.2.1 dX0_readAct_43 rfl (hl.at 0 rfl) ?_
    refine lv_aload_n B.1.1 B.1.2.1 dX0_readAct_44 rfl (hl.at 1 rfl) ?_
    refine lv_iload_n B.1.1 B.1.2.1 dX0_readAct_45 rfl (hl.at 2 rfl) ?_
    refine y_ci hf (fun q hq => x_runV (ci := 0) (C := RX0) B.1 B.2.2.2 hl hR hS cm_X0_57 ⟨rfl, rfl, Nat.le_of_ble_eq_true rfl, Nat.le_of_ble_eq_true rfl⟩ (by decide) rfl k_p0 (c_X0_readWho k_p0 k_p1 hq) rfl rfl (Nat.le_of_ble_eq_true rfl) dX0_readAct_46 ⟨Nat.le_of_ble_eq_true rfl, Nat.le_of_ble_eq_true rfl⟩) hS (fun r13 S12 H locs hf hR hS => ?_)
    refine y_if_eq (tgt := 74) B hf dX0_readAct_49 (by decide) (fun hf => ?_) (fun hf => ?_)
    · refine lv_iconst (v := 0) B.1.1 B.1.2.1 dX0_readAct_74 (by decide) ?_
      exact y_zretK B hR hS hf rfl dX0_readAct_75
    · refine lv_aload_n B.1.1 B.1.2.1 dX0_readAct_52 rfl (hl.at 0 rfl) ?_
      refine lv_aload_n B.1.1 B.1.2.1 dX0_readAct_53 rfl (hl.at 1 rfl) ?_
      refine lv_iload_n B.1.1 B.1.2.1 dX0_readAct_54 rfl (hl.at 2 rfl) ?_
      refine y_ci hf (fun q hq => x_runV (ci := 0) (C := RX0) B.1 B.2.2.2 hl hR hS cm_X0_60 ⟨rfl, rfl, Nat.le_of_ble_eq_true rfl, Nat.le_of_ble_eq_true rfl⟩ (by decide) rfl k_p0 (c_X0_readAmount k_p0 k_p1 hq) rfl rfl (Nat.le_of_ble_eq_true rfl) dX0_readAct_55 ⟨Nat.le_of_ble_eq_true rfl, Nat.le_of_ble_eq_true rfl⟩) hS (fun r15 S14 H locs hf hR hS => ?_)
      refine y_if_eq (tgt := 74) B hf dX0_readAct_58 (by decide) (fun hf => ?_) (fun hf => ?_)
      · refine lv_iconst (v := 0) B.1.1 B.1.2.1 dX0_readAct_74 (by decide) ?_
        exact y_zretK B hR hS hf rfl dX0_readAct_75
      · refine lv_aload_n B.1.1 B.1.2.1 dX0_readAct_61 rfl (hl.at 1 rfl) ?_
        refine lv_bipush (v := 59) B.1.1 B.1.2.1 dX0_readAct_62 (by decide) ?_
        refine y_ci hf (fun q hq => x_runV (ci := 3) (C := RX3) B.1 B.2.2.2 hl hR hS cm_X0_63 ⟨rfl, rfl, Nat.le_of_ble_eq_true rfl, Nat.le_of_ble_eq_true rfl⟩ (by decide) rfl k_p1 (c_X3_needSign k_p1 hq) rfl rfl (Nat.le_of_ble_eq_true rfl) dX0_readAct_64 ⟨Nat.le_of_ble_eq_true rfl, Nat.le_of_ble_eq_true rfl⟩) hS (fun r17 S16 H locs hf hR hS => ?_)
        refine y_if_eq (tgt := 74) B hf dX0_readAct_67 (by decide) (fun hf => ?_) (fun hf => ?_)
        · refine lv_iconst (v := 0) B.1.1 B.1.2.1 dX0_readAct_74 (by decide) ?_
          exact y_zretK B hR hS hf rfl dX0_readAct_75
        · refine lv_iconst (v := 1) B.1.1 B.1.2.1 dX0_readAct_70 (by decide) ?_
          refine lv_goto (tgt := 75) B.1.1 B.1.2.1 dX0_readAct_71 (by decide) ?_
          exact y_zretK B hR hS hf rfl dX0_readAct_75
  · refine lv_aload_n B.1.1 B.1.2.1 dX0_readAct_34 rfl (hl.at 1 rfl) ?_
    refine y_ci hf (fun q hq => x_runV (ci := 3) (C := RX3) B.1 B.2.2.2 hl hR hS cm_X0_51 ⟨rfl, rfl, Nat.le_of_ble_eq_true rfl, Nat.le_of_ble_eq_true rfl⟩ (by decide) rfl k_p1 (c_X3_refuse k_p1 hq) rfl rfl (Nat.le_of_ble_eq_true rfl) dX0_readAct_35 ⟨Nat.le_of_ble_eq_true rfl, Nat.le_of_ble_eq_true rfl⟩) hS (fun r19 S18 H locs hf hR hS => ?_)
    exact y_zret B hR hS hf dX0_readAct_38
abbrev xr_X3_needEnd : Room := { frames := 2, cells := 0, slots := 0, locals := 32 }
def f_X3_needEnd (T : xT) (S : xS) (p0 : Nat) : Option (Int32 × xS) := if (S.1 p0 6) = (0 : Int32) then some ((1 : Int32), S) else xc (f_X3_refuse T S p0) (fun r2 S1 => if r2 = (0 : Int32) then some ((0 : Int32), S1) else some ((1 : Int32), S1))
set_option maxRecDepth 100000 in
set_option maxHeartbeats 4000000 in
theorem c_X3_needEnd {l : Launch} {z : Nat} {D : va_G} {dA : Nat → ClassId} {T : xT} {S : xS} {p0 : Nat} (k_p0 : xlk T p0 3 = true) {q : Int32 × xS} (hf : f_X3_needEnd T S p0 = some q) : Met l yX3_needEnd (xws yX3_needEnd cX3_needEnd 1 (some .boolean)) xr_X3_needEnd (xPc z D dA T S [.ref (z + p0)]) (xQi z D dA T q) 0 0 (xA z) := by
  refine x_met RX3 (by decide) rfl (Nat.le_of_ble_eq_true rfl) ?_
  intro p e s m below meth c ls _ X hr hlk hml _ hR hS hl
  have B : xB p s m _ meth c cX3_needEnd RX3 1 (some .boolean) D dA := ⟨X, hr, hlk, hml⟩
  have hl : xL ls 1 [_] := hl
  unfold f_X3_needEnd at hf
  refine lv_aload_n B.1.1 B.1.2.1 dX3_needEnd_0 rfl (hl.at 0 rfl) ?_
  refine y_getI B hR k_p0 fl_X3_31 dX3_needEnd_1 ?_
  refine y_if_eq (tgt := 14) B hf dX3_needEnd_4 (by decide) (fun hf => ?_) (fun hf => ?_)
  · refine lv_iconst (v := 1) B.1.1 B.1.2.1 dX3_needEnd_14 (by decide) ?_
    refine lv_goto (tgt := 19) B.1.1 B.1.2.1 dX3_needEnd_15 (by decide) ?_
    exact y_zretK B hR hS hf rfl dX3_needEnd_19
  · refine lv_aload_n B.1.1 B.1.2.1 dX3_needEnd_7 rfl (hl.at 0 rfl) ?_
    refine y_ci hf (fun q hq => x_runV (ci := 3) (C := RX3) B.1 B.2.2.2 hl hR hS cm_X3_51 ⟨rfl, rfl, Nat.le_of_ble_eq_true rfl, Nat.le_of_ble_eq_true rfl⟩ (by decide) rfl k_p0 (c_X3_refuse k_p0 hq) rfl rfl (Nat.le_of_ble_eq_true rfl) dX3_needEnd_8 ⟨Nat.le_of_ble_eq_true rfl, Nat.le_of_ble_eq_true rfl⟩) hS (fun r2 S1 H locs hf hR hS => ?_)
    refine y_if_eq (tgt := 18) B hf dX3_needEnd_11 (by decide) (fun hf => ?_) (fun hf => ?_)
    · refine lv_iconst (v := 0) B.1.1 B.1.2.1 dX3_needEnd_18 (by decide) ?_
      exact y_zretK B hR hS hf rfl dX3_needEnd_19
    · refine lv_iconst (v := 1) B.1.1 B.1.2.1 dX3_needEnd_14 (by decide) ?_
      refine lv_goto (tgt := 19) B.1.1 B.1.2.1 dX3_needEnd_15 (by decide) ?_
      exact y_zretK B hR hS hf rfl dX3_needEnd_19
abbrev xr_X0_readActs : Room := { frames := 8, cells := 0, slots := 0, locals := 161 }
def f_X0_readActs_8 (T : xT) : Nat → xS → Nat → Nat → Int32 → Int32 → Option (Int32 × xS)
  | 0, _, _, _, _, _ => none
  | n + 1, S, p0, p1, p2, p3 => if (30 : Int32) ≤ p3 then xc (f_X3_needEnd T S p1) (fun r2 S1 => if r2 = (0 : Int32) then some ((-1 : Int32), S1) else some (p2, S1)) else xc (f_X3_isAtEnd T S p1) (fun r4 S3 => if r4 = (0 : Int32) then xc (f_X0_readAct T S3 p0 p1 p3) (fun r8 S7 => if r8 = (0 : Int32) then some ((-1 : Int32), S7) else xl (p2 + (1 : Int32)) (fun v9 => xl (p3 + (1 : Int32)) (fun v10 => f_X0_readActs_8 T n S7 p0 p1 v9 v10))) else xc (f_X3_needEnd T S3 p1) (fun r6 S5 => if r6 = (0 : Int32) then some ((-1 : Int32), S5) else some (p2, S5)))
set_option maxRecDepth 100000 in
set_option maxHeartbeats 4000000 in
theorem w_X0_readActs_8 {p : Program} {l : Launch} {e : Env} {s : State} {m : MethodId} {args : Array Value} {below : List Frame} {meth : Method} {c : Code} {z : Nat} {D : va_G} {dA : Nat → ClassId} {T : xT} (B : xB p s m args meth c cX0_readActs RX0 4 (some .int) D dA) {q : Int32 × xS} : ∀ (n : Nat), ∀ (S : xS) (H : Heap) (locs : List Loc) (ls : Array Slot) (p0 : Nat) (p1 : Nat) (p2 : Int32) (p3 : Int32), xlk T p0 0 = true → xlk T p1 3 = true → f_X0_readActs_8 T n S p0 p1 p2 p3 = some q → xRel z D dA T S H → va_S (xA z) s.heap H locs → xL ls 4 [some (.ref (z + p0)), some (.ref (z + p1)), some (.int p2), some (.int p3)] → xGi p l e xr_X0_readActs s m args below meth c z D dA T q H locs 8 ls [] := by
  intro n
  induction n with
  | zero =>
    intro S H locs ls p0 p1 p2 p3 k_p0 k_p1 hf hR hS hl
    exact absurd hf (by simp [f_X0_readActs_8])
  | succ n ih =>
    intro S H locs ls p0 p1 p2 p3 k_p0 k_p1 hf hR hS hl
    unfold f_X0_readActs_8 at hf
    refine lv_iload_n B.1.1 B.1.2.1 dX0_readActs_8 rfl (hl.at 3 rfl) ?_
    refine lv_bipush (v := 30) B.1.1 B.1.2.1 dX0_readActs_9 (by decide) ?_
    refine y_icmp_ge (tgt := 41) B hf dX0_readActs_11 (by decide) (fun hf => ?_) (fun hf => ?_)
    · refine lv_aload_n B.1.1 B.1.2.1 dX0_readActs_41 rfl (hl.at 1 rfl) ?_
      refine y_ci hf (fun q hq => x_runV (ci := 3) (C := RX3) B.1 B.2.2.2 hl hR hS cm_X0_44 ⟨rfl, rfl, Nat.le_of_ble_eq_true rfl, Nat.le_of_ble_eq_true rfl⟩ (by decide) rfl k_p1 (c_X3_needEnd k_p1 hq) rfl rfl (Nat.le_of_ble_eq_true rfl) dX0_readActs_42 ⟨Nat.le_of_ble_eq_true rfl, Nat.le_of_ble_eq_true rfl⟩) hS (fun r2 S1 H locs hf hR hS => ?_)
      refine y_if_eq (tgt := 52) B hf dX0_readActs_45 (by decide) (fun hf => ?_) (fun hf => ?_)
      · refine lv_iconst (v := -1) B.1.1 B.1.2.1 dX0_readActs_52 (by decide) ?_
        exact y_iret B hR hS hf dX0_readActs_53
      · refine lv_iload_n B.1.1 B.1.2.1 dX0_readActs_48 rfl (hl.at 2 rfl) ?_
        refine lv_goto (tgt := 53) B.1.1 B.1.2.1 dX0_readActs_49 (by decide) ?_
        exact y_iret B hR hS hf dX0_readActs_53
    · refine lv_aload_n B.1.1 B.1.2.1 dX0_readActs_14 rfl (hl.at 1 rfl) ?_
      refine y_ci hf (fun q hq => x_runV (ci := 3) (C := RX3) B.1 B.2.2.2 hl hR hS cm_X0_36 ⟨rfl, rfl, Nat.le_of_ble_eq_true rfl, Nat.le_of_ble_eq_true rfl⟩ (by decide) rfl k_p1 (c_X3_isAtEnd k_p1 hq) rfl rfl (Nat.le_of_ble_eq_true rfl) dX0_readActs_15 ⟨Nat.le_of_ble_eq_true rfl, Nat.le_of_ble_eq_true rfl⟩) hS (fun r4 S3 H locs hf hR hS => ?_)
      refine y_if_ne (tgt := 41) B hf dX0_readActs_18 (by decide) (fun hf => ?_) (fun hf => ?_)
      · refine lv_aload_n B.1.1 B.1.2.1 dX0_readActs_41 rfl (hl.at 1 rfl) ?_
        refine y_ci hf (fun q hq => x_runV (ci := 3) (C := RX3) B.1 B.2.2.2 hl hR hS cm_X0_44 ⟨rfl, rfl, Nat.le_of_ble_eq_true rfl, Nat.le_of_ble_eq_true rfl⟩ (by decide) rfl k_p1 (c_X3_needEnd k_p1 hq) rfl rfl (Nat.le_of_ble_eq_true rfl) dX0_readActs_42 ⟨Nat.le_of_ble_eq_true rfl, Nat.le_of_ble_eq_true rfl⟩) hS (fun r6 S5 H locs hf hR hS => ?_)
        refine y_if_eq (tgt := 52) B hf dX0_readActs_45 (by decide) (fun hf => ?_) (fun hf => ?_)
        · refine lv_iconst (v := -1) B.1.1 B.1.2.1 dX0_readActs_52 (by decide) ?_
          exact y_iret B hR hS hf dX0_readActs_53
        · refine lv_iload_n B.1.1 B.1.2.1 dX0_readActs_48 rfl (hl.at 2 rfl) ?_
          refine lv_goto (tgt := 53) B.1.1 B.1.2.1 dX0_readActs_49 (by decide) ?_
          exact y_iret B hR hS hf dX0_readActs_53
      · refine lv_aload_n B.1.1 B.1.2.1 dX0_readActs_21 rfl (hl.at 0 rfl) ?_
        refine lv_aload_n B.1.1 B.1.2.1 dX0_readActs_22 rfl (hl.at 1 rfl) ?_
        refine lv_iload_n B.1.1 B.1.2.1 dX0_readActs_23 rfl (hl.at 3 rfl) ?_
        refine y_ci hf (fun q hq => x_runV (ci := 0) (C := RX0) B.1 B.2.2.2 hl hR hS cm_X0_40 ⟨rfl, rfl, Nat.le_of_ble_eq_true rfl, Nat.le_of_ble_eq_true rfl⟩ (by decide) rfl k_p0 (c_X0_readAct k_p0 k_p1 hq) rfl rfl (Nat.le_of_ble_eq_true rfl) dX0_readActs_24 ⟨Nat.le_of_ble_eq_true rfl, Nat.le_of_ble_eq_true rfl⟩) hS (fun r8 S7 H locs hf hR hS => ?_)
        refine y_if_ne (tgt := 32) B hf dX0_readActs_27 (by decide) (fun hf => ?_) (fun hf => ?_)
        · refine y_iinc (d := 1) B hl hf dX0_readActs_32 rfl (by decide) (by decide) rfl (fun v9 ls hf hl => ?_)
          have hl : xL ls 4 [_, _, _, _] := hl
          refine y_iinc (d := 1) B hl hf dX0_readActs_35 rfl (by decide) (by decide) rfl (fun v10 ls hf hl => ?_)
          have hl : xL ls 4 [_, _, _, _] := hl
          refine lv_goto (tgt := 8) B.1.1 B.1.2.1 dX0_readActs_38 (by decide) ?_
          exact ih _ _ _ _ _ _ _ _ k_p0 k_p1 hf hR hS hl
        · refine lv_iconst (v := -1) B.1.1 B.1.2.1 dX0_readActs_30 (by decide) ?_
          exact y_iret B hR hS hf dX0_readActs_31
def f_X0_readActs (T : xT) (S : xS) (p0 : Nat) (p1 : Nat) : Option (Int32 × xS) := xcv (f_X3_start T S p1) (fun S1 => xl ((0 : Int32)) (fun v2 => xl ((0 : Int32)) (fun v3 => f_X0_readActs_8 T xfu S1 p0 p1 v2 v3)))
set_option maxRecDepth 100000 in
set_option maxHeartbeats 4000000 in
theorem c_X0_readActs {l : Launch} {z : Nat} {D : va_G} {dA : Nat → ClassId} {T : xT} {S : xS} {p0 : Nat} {p1 : Nat} (k_p0 : xlk T p0 0 = true) (k_p1 : xlk T p1 3 = true) {q : Int32 × xS} (hf : f_X0_readActs T S p0 p1 = some q) : Met l yX0_readActs (xws yX0_readActs cX0_readActs 4 (some .int)) xr_X0_readActs (xPc z D dA T S [.ref (z + p0), .ref (z + p1)]) (xQi z D dA T q) 0 0 (xA z) := by
  refine x_met RX0 (by decide) rfl (Nat.le_of_ble_eq_true rfl) ?_
  intro p e s m below meth c ls _ X hr hlk hml _ hR hS hl
  have B : xB p s m _ meth c cX0_readActs RX0 4 (some .int) D dA := ⟨X, hr, hlk, hml⟩
  have hl : xL ls 4 [_, _, _, _] := hl
  unfold f_X0_readActs at hf
  refine lv_aload_n B.1.1 B.1.2.1 dX0_readActs_0 rfl (hl.at 1 rfl) ?_
  refine y_cv hf (fun q hq => x_runV (ci := 3) (C := RX3) B.1 B.2.2.2 hl hR hS cm_X0_31 ⟨rfl, rfl, Nat.le_of_ble_eq_true rfl, Nat.le_of_ble_eq_true rfl⟩ (by decide) rfl k_p1 (c_X3_start k_p1 hq) rfl rfl (Nat.le_of_ble_eq_true rfl) dX0_readActs_1 ⟨Nat.le_of_ble_eq_true rfl, Nat.le_of_ble_eq_true rfl⟩) hS (fun S1 H locs hf hR hS => ?_)
  refine lv_iconst (v := 0) B.1.1 B.1.2.1 dX0_readActs_4 (by decide) ?_
  refine y_istore_n B hl hf dX0_readActs_5 rfl (by decide) rfl (fun v2 ls hf hl => ?_)
  have hl : xL ls 4 [_, _, _, _] := hl
  refine lv_iconst (v := 0) B.1.1 B.1.2.1 dX0_readActs_6 (by decide) ?_
  refine y_istore_n B hl hf dX0_readActs_7 rfl (by decide) rfl (fun v3 ls hf hl => ?_)
  have hl : xL ls 4 [_, _, _, _] := hl
  exact w_X0_readActs_8 B xfu _ _ _ _ _ _ _ _ k_p0 k_p1 hf hR hS hl
abbrev xr_X9_copyEight : Room := { frames := 1, cells := 0, slots := 0, locals := 37 }
def f_X9_copyEight (T : xT) (S : xS) (p0 : Nat) (p1 : Nat) : Option (xS) := xcp T S p0 ((0 : Int32)) p1 ((0 : Int32)) ((8 : Int32)) (fun S1 => some S1)
set_option maxRecDepth 100000 in
set_option maxHeartbeats 4000000 in
theorem c_X9_copyEight {l : Launch} {z : Nat} {D : va_G} {dA : Nat → ClassId} {T : xT} {S : xS} {p0 : Nat} {p1 : Nat} (k_p0 : xlk T p0 20 = true) (k_p1 : xlk T p1 20 = true) {q : xS} (hf : f_X9_copyEight T S p0 p1 = some q) : Met l yX9_copyEight (xws yX9_copyEight cX9_copyEight 2 none) xr_X9_copyEight (xPc z D dA T S [.ref (z + p0), .ref (z + p1)]) (xQv z D dA T q) 0 0 (xA z) := by
  refine x_met RX9 (by decide) rfl (Nat.le_of_ble_eq_true rfl) ?_
  intro p e s m below meth c ls _ X hr hlk hml _ hR hS hl
  have B : xB p s m _ meth c cX9_copyEight RX9 2 none D dA := ⟨X, hr, hlk, hml⟩
  have hl : xL ls 2 [_, _] := hl
  unfold f_X9_copyEight at hf
  refine lv_aload_n B.1.1 B.1.2.1 dX9_copyEight_0 rfl (hl.at 0 rfl) ?_
  refine lv_iconst (v := 0) B.1.1 B.1.2.1 dX9_copyEight_1 (by decide) ?_
  refine lv_aload_n B.1.1 B.1.2.1 dX9_copyEight_2 rfl (hl.at 1 rfl) ?_
  refine lv_iconst (v := 0) B.1.1 B.1.2.1 dX9_copyEight_3 (by decide) ?_
  refine lv_bipush (v := 8) B.1.1 B.1.2.1 dX9_copyEight_4 (by decide) ?_
  refine y_copy B hl hR hS ac_X9_364 hf k_p0 k_p1 ⟨Nat.le_of_ble_eq_true rfl, Nat.le_of_ble_eq_true rfl⟩ dX9_copyEight_6 (fun S1 H locs hf hR hS => ?_)
  exact y_vret B hR hS hf dX9_copyEight_9
