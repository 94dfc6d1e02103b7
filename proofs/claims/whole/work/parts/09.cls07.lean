abbrev xr_X4_thingHere : Room := { frames := 6, cells := 0, slots := 0, locals := 119 }
def f_X4_thingHere (T : xT) (S : xS) (p0 : Nat) : Option (Int32 × xS) := xc (f_X3_isNumber T S p0) (fun r2 S1 => if r2 = (0 : Int32) then xc (f_X3_isWord T S1 p0 4) (fun r4 S3 => if r4 = (0 : Int32) then xc (f_X3_isWord T S3 p0 5) (fun r6 S5 => if r6 = (0 : Int32) then xc (f_X3_isWord T S5 p0 6) (fun r8 S7 => if r8 = (0 : Int32) then xc (f_X3_isWord T S7 p0 7) (fun r10 S9 => if r10 = (0 : Int32) then xc (f_X3_isWord T S9 p0 8) (fun r12 S11 => if r12 = (0 : Int32) then xc (f_X3_isWord T S11 p0 9) (fun r14 S13 => if r14 = (0 : Int32) then xc (f_X3_isWord T S13 p0 10) (fun r16 S15 => if r16 = (0 : Int32) then some ((-1 : Int32), S15) else some ((7 : Int32), S15)) else some ((6 : Int32), S13)) else some ((5 : Int32), S11)) else some ((4 : Int32), S9)) else some ((3 : Int32), S7)) else some ((2 : Int32), S5)) else some ((1 : Int32), S3)) else some ((0 : Int32), S1))
set_option maxRecDepth 100000 in
set_option maxHeartbeats 4000000 in
theorem c_X4_thingHere {l : Launch} {z : Nat} {D : va_G} {dA : Nat → ClassId} {T : xT} {S : xS} {p0 : Nat} (k_p0 : xlk T p0 3 = true) {q : Int32 × xS} (hf : f_X4_thingHere T S p0 = some q) : Met l yX4_thingHere (xws yX4_thingHere cX4_thingHere 1 (some .int)) xr_X4_thingHere (xPc z D dA T S [.ref (z + p0)]) (xQi z D dA T q) 0 0 (xA z) := by
  refine x_met RX4 (by decide) rfl (Nat.le_of_ble_eq_true rfl) ?_
  intro p e s m below meth c ls _ X hr hlk hml _ hR hS hl
  have B : xB p s m _ meth c cX4_thingHere RX4 1 (some .int) D dA := ⟨X, hr, hlk, hml⟩
  have hl : xL ls 1 [_] := hl
  unfold f_X4_thingHere at hf
  refine lv_aload_n B.1.1 B.1.2.1 dX4_thingHere_0 rfl (hl.at 0 rfl) ?_
  refine y_ci hf (fun q hq => x_runV (ci := 3) (C := RX3) B.1 B.2.2.2 hl hR hS cm_X4_149 ⟨rfl, rfl, Nat.le_of_ble_eq_true rfl, Nat.le_of_ble_eq_true rfl⟩ (by decide) rfl k_p0 (c_X3_isNumber k_p0 hq) rfl rfl (Nat.le_of_ble_eq_true rfl) dX4_thingHere_1 ⟨Nat.le_of_ble_eq_true rfl, Nat.le_of_ble_eq_true rfl⟩) hS (fun r2 S1 H locs hf hR hS => ?_)
  refine y_if_eq (tgt := 9) B hf dX4_thingHere_4 (by decide) (fun hf => ?_) (fun hf => ?_)
  · refine lv_aload_n B.1.1 B.1.2.1 dX4_thingHere_9 rfl (hl.at 0 rfl) ?_
    refine y_ldcS B sl_4 dX4_thingHere_10 ?_
    refine y_ci hf (fun q hq => x_runV (ci := 3) (C := RX3) B.1 B.2.2.2 hl hR hS cm_X4_93 ⟨rfl, rfl, Nat.le_of_ble_eq_true rfl, Nat.le_of_ble_eq_true rfl⟩ (by decide) rfl k_p0 (c_X3_isWord k_p0 (by decide) hq) rfl rfl (Nat.le_of_ble_eq_true rfl) dX4_thingHere_12 ⟨Nat.le_of_ble_eq_true rfl, Nat.le_of_ble_eq_true rfl⟩) hS (fun r4 S3 H locs hf hR hS => ?_)
    refine y_if_eq (tgt := 20) B hf dX4_thingHere_15 (by decide) (fun hf => ?_) (fun hf => ?_)
    · refine lv_aload_n B.1.1 B.1.2.1 dX4_thingHere_20 rfl (hl.at 0 rfl) ?_
      refine y_ldcS B sl_5 dX4_thingHere_21 ?_
      refine y_ci hf (fun q hq => x_runV (ci := 3) (C := RX3) B.1 B.2.2.2 hl hR hS cm_X4_93 ⟨rfl, rfl, Nat.le_of_ble_eq_true rfl, Nat.le_of_ble_eq_true rfl⟩ (by decide) rfl k_p0 (c_X3_isWord k_p0 (by decide) hq) rfl rfl (Nat.le_of_ble_eq_true rfl) dX4_thingHere_23 ⟨Nat.le_of_ble_eq_true rfl, Nat.le_of_ble_eq_true rfl⟩) hS (fun r6 S5 H locs hf hR hS => ?_)
      refine y_if_eq (tgt := 31) B hf dX4_thingHere_26 (by decide) (fun hf => ?_) (fun hf => ?_)
      · refine lv_aload_n B.1.1 B.1.2.1 dX4_thingHere_31 rfl (hl.at 0 rfl) ?_
        refine y_ldcS B sl_6 dX4_thingHere_32 ?_
        refine y_ci hf (fun q hq => x_runV (ci := 3) (C := RX3) B.1 B.2.2.2 hl hR hS cm_X4_93 ⟨rfl, rfl, Nat.le_of_ble_eq_true rfl, Nat.le_of_ble_eq_true rfl⟩ (by decide) rfl k_p0 (c_X3_isWord k_p0 (by decide) hq) rfl rfl (Nat.le_of_ble_eq_true rfl) dX4_thingHere_34 ⟨Nat.le_of_ble_eq_true rfl, Nat.le_of_ble_eq_true rfl⟩) hS (fun r8 S7 H locs hf hR hS => ?_)
        refine y_if_eq (tgt := 42) B hf dX4_thingHere_37 (by decide) (fun hf => ?_) (fun hf => ?_)
        · refine lv_aload_n B.1.1 B.1.2.1 dX4_thingHere_42 rfl (hl.at 0 rfl) ?_
          refine y_ldcS B sl_7 dX4_thingHere_43 ?_
          refine y_ci hf (fun q hq => x_runV (ci := 3) (C := RX3) B.1 B.2.2.2 hl hR hS cm_X4_93 ⟨rfl, rfl, Nat.le_of_ble_eq_true rfl, Nat.le_of_ble_eq_true rfl⟩ (by decide) rfl k_p0 (c_X3_isWord k_p0 (by decide) hq) rfl rfl (Nat.le_of_ble_eq_true rfl) dX4_thingHere_45 ⟨Nat.le_of_ble_eq_true rfl, Nat.le_of_ble_eq_true rfl⟩) hS (fun r10 S9 H locs hf hR hS => ?_)
          refine y_if_eq (tgt := 53) B hf dX4_thingHere_48 (by decide) (fun hf => ?_) (fun hf => ?_)
          · refine lv_aload_n B.1.1 B.1.2.1 dX4_thingHere_53 rfl (hl.at 0 rfl) ?_
            refine y_ldcS B sl_8 dX4_thingHere_54 ?_
            refine y_ci hf (fun q hq => x_runV (ci := 3) (C := RX3) B.1 B.2.2.2 hl hR hS cm_X4_93 ⟨rfl, rfl, Nat.le_of_ble_eq_true rfl, Nat.le_of_ble_eq_true rfl⟩ (by decide) rfl k_p0 (c_X3_isWord k_p0 (by decide) hq) rfl rfl (Nat.le_of_ble_eq_true rfl) dX4_thingHere_56 ⟨Nat.le_of_ble_eq_true rfl, Nat.le_of_ble_eq_true rfl⟩) hS (fun r12 S11 H locs hf hR hS => ?_)
            refine y_if_eq (tgt := 64) B hf dX4_thingHere_59 (by decide) (fun hf => ?_) (fun hf => ?_)
            · refine lv_aload_n B.1.1 B.1.2.1 dX4_thingHere_64 rfl (hl.at 0 rfl) ?_
              refine y_ldcS B sl_9 dX4_thingHere_65 ?_
              refine y_ci hf (fun q hq => x_runV (ci := 3) (C := RX3) B.1 B.2.2.2 hl hR hS cm_X4_93 ⟨rfl, rfl, Nat.le_of_ble_eq_true rfl, Nat.le_of_ble_eq_true rfl⟩ (by decide) rfl k_p0 (c_X3_isWord k_p0 (by decide) hq) rfl rfl (Nat.le_of_ble_eq_true rfl) dX4_thingHere_67 ⟨Nat.le_of_ble_eq_true rfl, Nat.le_of_ble_eq_true rfl⟩) hS (fun r14 S13 H locs hf hR hS => ?_)
              refine y_if_eq (tgt := 76) B hf dX4_thingHere_70 (by decide) (fun hf => ?_) (fun hf => ?_)
              · refine lv_aload_n B.1.1 B.1.2.1 dX4_thingHere_76 rfl (hl.at 0 rfl) ?_
                refine y_ldcS B sl_10 dX4_thingHere_77 ?_
                refine y_ci hf (fun q hq => x_runV (ci := 3) (C := RX3) B.1 B.2.2.2 hl hR hS cm_X4_93 ⟨rfl, rfl, Nat.le_of_ble_eq_true rfl, Nat.le_of_ble_eq_true rfl⟩ (by decide) rfl k_p0 (c_X3_isWord k_p0 (by decide) hq) rfl rfl (Nat.le_of_ble_eq_true rfl) dX4_thingHere_79 ⟨Nat.le_of_ble_eq_true rfl, Nat.le_of_ble_eq_true rfl⟩) hS (fun r16 S15 H locs hf hR hS => ?_)
                refine y_if_eq (tgt := 90) B hf dX4_thingHere_82 (by decide) (fun hf => ?_) (fun hf => ?_)
                · refine lv_iconst (v := -1) B.1.1 B.1.2.1 dX4_thingHere_90 (by decide) ?_
                  exact y_iret B hR hS hf dX4_thingHere_91
                · refine lv_bipush (v := 7) B.1.1 B.1.2.1 dX4_thingHere_85 (by decide) ?_
                  refine lv_goto (tgt := 91) B.1.1 B.1.2.1 dX4_thingHere_87 (by decide) ?_
                  exact y_iret B hR hS hf dX4_thingHere_91
              · refine lv_bipush (v := 6) B.1.1 B.1.2.1 dX4_thingHere_73 (by decide) ?_
                exact y_iret B hR hS hf dX4_thingHere_75
            · refine lv_iconst (v := 5) B.1.1 B.1.2.1 dX4_thingHere_62 (by decide) ?_
              exact y_iret B hR hS hf dX4_thingHere_63
          · refine lv_iconst (v := 4) B.1.1 B.1.2.1 dX4_thingHere_51 (by decide) ?_
            exact y_iret B hR hS hf dX4_thingHere_52
        · refine lv_iconst (v := 3) B.1.1 B.1.2.1 dX4_thingHere_40 (by decide) ?_
          exact y_iret B hR hS hf dX4_thingHere_41
      · refine lv_iconst (v := 2) B.1.1 B.1.2.1 dX4_thingHere_29 (by decide) ?_
        exact y_iret B hR hS hf dX4_thingHere_30
    · refine lv_iconst (v := 1) B.1.1 B.1.2.1 dX4_thingHere_18 (by decide) ?_
      exact y_iret B hR hS hf dX4_thingHere_19
  · refine lv_iconst (v := 0) B.1.1 B.1.2.1 dX4_thingHere_7 (by decide) ?_
    exact y_iret B hR hS hf dX4_thingHere_8
abbrev xr_X4_readThing : Room := { frames := 7, cells := 0, slots := 0, locals := 139 }
def f_X4_readThing_65 (T : xT) (S : xS) (p0 : Nat) (p2 : Int32) (p3 : Int32) (p4 : Int32) : Option (Int32 × xS) := if p4 = (-1 : Int32) then some ((0 : Int32), S) else xgr T S p0 8 20 (fun a1 => xst T S a1 ((S.1 p0 1)) p3 (fun S2 => xgr T S2 p0 9 20 (fun a3 => xst T S2 a3 ((S2.1 p0 1)) p4 (fun S4 => xgr T S4 p0 10 24 (fun a5 => xst T S4 a5 ((S4.1 p0 1)) (vp_nar .char p2) (fun S6 => xpi S6 p0 1 (((S6.1 p0 1) + (1 : Int32))) (fun S7 => some ((1 : Int32), S7))))))))
set_option maxRecDepth 100000 in
set_option maxHeartbeats 4000000 in
theorem w_X4_readThing_65 {p : Program} {l : Launch} {e : Env} {s : State} {m : MethodId} {args : Array Value} {below : List Frame} {meth : Method} {c : Code} {z : Nat} {D : va_G} {dA : Nat → ClassId} {T : xT} (B : xB p s m args meth c cX4_readThing RX4 5 (some .boolean) D dA) {q : Int32 × xS} : ∀ (S : xS) (H : Heap) (locs : List Loc) (ls : Array Slot) (p0 : Nat) (p2 : Int32) (p3 : Int32) (p4 : Int32), xlk T p0 4 = true → f_X4_readThing_65 T S p0 p2 p3 p4 = some q → xRel z D dA T S H → va_S (xA z) s.heap H locs → xL ls 5 [some (.ref (z + p0)), none, some (.int p2), some (.int p3), some (.int p4)] → xGi p l e xr_X4_readThing s m args below meth c z D dA T q H locs 65 ls [] := by
  intro S H locs ls p0 p2 p3 p4 k_p0 hf hR hS hl
  unfold f_X4_readThing_65 at hf
  refine lv_iload B.1.1 B.1.2.1 dX4_readThing_65 (hl.at 4 rfl) ?_
  refine lv_iconst (v := -1) B.1.1 B.1.2.1 dX4_readThing_67 (by decide) ?_
  refine y_icmp_ne (tgt := 73) B hf dX4_readThing_68 (by decide) (fun hf => ?_) (fun hf => ?_)
  · refine lv_aload_n B.1.1 B.1.2.1 dX4_readThing_73 rfl (hl.at 0 rfl) ?_
    refine y_getR B hR hf k_p0 fl_X4_31 dX4_readThing_74 (fun a1 k_a1 hf => ?_)
    refine lv_aload_n B.1.1 B.1.2.1 dX4_readThing_77 rfl (hl.at 0 rfl) ?_
    refine y_getI B hR k_p0 fl_X4_114 dX4_readThing_78 ?_
    refine lv_iload_n B.1.1 B.1.2.1 dX4_readThing_81 rfl (hl.at 3 rfl) ?_
    refine y_iast B hR hS hf k_a1 dX4_readThing_82 (fun S2 H locs hf hR hS => ?_)
    refine lv_aload_n B.1.1 B.1.2.1 dX4_readThing_83 rfl (hl.at 0 rfl) ?_
    refine y_getR B hR hf k_p0 fl_X4_34 dX4_readThing_84 (fun a3 k_a3 hf => ?_)
    refine lv_aload_n B.1.1 B.1.2.1 dX4_readThing_87 rfl (hl.at 0 rfl) ?_
    refine y_getI B hR k_p0 fl_X4_114 dX4_readThing_88 ?_
    refine lv_iload B.1.1 B.1.2.1 dX4_readThing_91 (hl.at 4 rfl) ?_
    refine y_iast B hR hS hf k_a3 dX4_readThing_93 (fun S4 H locs hf hR hS => ?_)
    refine lv_aload_n B.1.1 B.1.2.1 dX4_readThing_94 rfl (hl.at 0 rfl) ?_
    refine y_getR B hR hf k_p0 fl_X4_37 dX4_readThing_95 (fun a5 k_a5 hf => ?_)
    refine lv_aload_n B.1.1 B.1.2.1 dX4_readThing_98 rfl (hl.at 0 rfl) ?_
    refine y_getI B hR k_p0 fl_X4_114 dX4_readThing_99 ?_
    refine lv_iload_n B.1.1 B.1.2.1 dX4_readThing_102 rfl (hl.at 2 rfl) ?_
    refine y_cast B hR hS hf k_a5 dX4_readThing_103 (fun S6 H locs hf hR hS => ?_)
    refine lv_aload_n B.1.1 B.1.2.1 dX4_readThing_104 rfl (hl.at 0 rfl) ?_
    refine lv_dup B.1.1 B.1.2.1 dX4_readThing_105 rfl ?_
    refine y_getI B hR k_p0 fl_X4_114 dX4_readThing_106 ?_
    refine lv_iconst (v := 1) B.1.1 B.1.2.1 dX4_readThing_109 (by decide) ?_
    refine lv_iadd B.1.1 B.1.2.1 dX4_readThing_110 ?_
    refine y_putI B hR hS hf k_p0 fp_X4_114 dX4_readThing_111 (fun S7 H locs hf hR hS => ?_)
    refine lv_iconst (v := 1) B.1.1 B.1.2.1 dX4_readThing_114 (by decide) ?_
    exact y_zretK B hR hS hf rfl dX4_readThing_115
  · refine lv_iconst (v := 0) B.1.1 B.1.2.1 dX4_readThing_71 (by decide) ?_
    exact y_zretK B hR hS hf rfl dX4_readThing_72
def f_X4_readThing (T : xT) (S : xS) (p0 : Nat) (p1 : Nat) (p2 : Int32) : Option (Int32 × xS) := xc (f_X4_thingHere T S p1) (fun r2 S1 => xl r2 (fun v3 => if v3 = (-1 : Int32) then xc (f_X3_refuse T S1 p1) (fun r5 S4 => xgd (xnz r5) (some (r5, S4))) else if (S1.1 p0 1) < (40 : Int32) then xl ((0 : Int32)) (fun v6 => if v3 = (0 : Int32) then xc (f_X3_needNumber T S1 p1 ((0 : Int32)) ((999999 : Int32))) (fun r15 S14 => xl r15 (fun v16 => f_X4_readThing_65 T S14 p0 p2 v3 v16)) else xcv (f_X3_advance T S1 p1) (fun S7 => if v3 = (6 : Int32) then xc (f_X3_needPartner T S7 p1) (fun r9 S8 => xl r9 (fun v10 => f_X4_readThing_65 T S8 p0 p2 v3 v10)) else if v3 = (7 : Int32) then xc (f_X3_needPartner T S7 p1) (fun r12 S11 => xl r12 (fun v13 => f_X4_readThing_65 T S11 p0 p2 v3 v13)) else f_X4_readThing_65 T S7 p0 p2 v3 v6)) else xc (f_X3_refuse T S1 p1) (fun r18 S17 => xgd (xnz r18) (some (r18, S17)))))
set_option maxRecDepth 100000 in
set_option maxHeartbeats 4000000 in
theorem c_X4_readThing {l : Launch} {z : Nat} {D : va_G} {dA : Nat → ClassId} {T : xT} {S : xS} {p0 : Nat} {p1 : Nat} {p2 : Int32} (k_p0 : xlk T p0 4 = true) (k_p1 : xlk T p1 3 = true) {q : Int32 × xS} (hf : f_X4_readThing T S p0 p1 p2 = some q) : Met l yX4_readThing (xws yX4_readThing cX4_readThing 5 (some .boolean)) xr_X4_readThing (xPc z D dA T S [.ref (z + p0), .ref (z + p1), .int p2]) (xQi z D dA T q) 0 0 (xA z) := by
  refine x_met RX4 (by decide) rfl (Nat.le_of_ble_eq_true rfl) ?_
  intro p e s m below meth c ls _ X hr hlk hml _ hR hS hl
  have B : xB p s m _ meth c cX4_readThing RX4 5 (some .boolean) D dA := ⟨X, hr, hlk, hml⟩
  have hl : xL ls 5 [_, _, _, _, _] := hl
  unfold f_X4_readThing at hf
  refine lv_aload_n B.1.1 B.1.2.1 dX4_readThing_0 rfl (hl.at 1 rfl) ?_
  refine y_ci hf (fun q hq => y_runS B.1 B.2.2.2 hl hR hS cm_X4_141 ⟨rfl, rfl, Nat.le_of_ble_eq_true rfl, Nat.le_of_ble_eq_true rfl⟩ (c_X4_thingHere k_p1 hq) rfl rfl (Nat.le_of_ble_eq_true rfl) dX4_readThing_1 ⟨Nat.le_of_ble_eq_true rfl, Nat.le_of_ble_eq_true rfl⟩) hS (fun r2 S1 H locs hf hR hS => ?_)
  refine y_istore_n B hl hf dX4_readThing_4 rfl (by decide) rfl (fun v3 ls hf hl => ?_)
  have hl : xL ls 5 [_, _, _, _, _] := hl
  refine lv_iload_n B.1.1 B.1.2.1 dX4_readThing_5 rfl (hl.at 3 rfl) ?_
  refine lv_iconst (v := -1) B.1.1 B.1.2.1 dX4_readThing_6 (by decide) ?_
  refine y_icmp_eq (tgt := 19) B hf dX4_readThing_7 (by decide) (fun hf => ?_) (fun hf => ?_)
  · refine lv_aload_n B.1.1 B.1.2.1 dX4_readThing_19 rfl (hl.at 1 rfl) ?_
    refine y_ci hf (fun q hq => x_runV (ci := 3) (C := RX3) B.1 B.2.2.2 hl hR hS cm_X4_127 ⟨rfl, rfl, Nat.le_of_ble_eq_true rfl, Nat.le_of_ble_eq_true rfl⟩ (by decide) rfl k_p1 (c_X3_refuse k_p1 hq) rfl rfl (Nat.le_of_ble_eq_true rfl) dX4_readThing_20 ⟨Nat.le_of_ble_eq_true rfl, Nat.le_of_ble_eq_true rfl⟩) hS (fun r5 S4 H locs hf hR hS => ?_)
    exact y_zret B hR hS hf dX4_readThing_23
  · refine lv_aload_n B.1.1 B.1.2.1 dX4_readThing_10 rfl (hl.at 0 rfl) ?_
    refine y_getI B hR k_p0 fl_X4_114 dX4_readThing_11 ?_
    refine lv_bipush (v := 40) B.1.1 B.1.2.1 dX4_readThing_14 (by decide) ?_
    refine y_icmp_lt (tgt := 24) B hf dX4_readThing_16 (by decide) (fun hf => ?_) (fun hf => ?_)
    · refine lv_iconst (v := 0) B.1.1 B.1.2.1 dX4_readThing_24 (by decide) ?_
      refine y_istore B hl hf dX4_readThing_25 (by decide) rfl (fun v6 ls hf hl => ?_)
      have hl : xL ls 5 [_, _, _, _, _] := hl
      refine lv_iload_n B.1.1 B.1.2.1 dX4_readThing_27 rfl (hl.at 3 rfl) ?_
      refine y_if_ne (tgt := 43) B hf dX4_readThing_28 (by decide) (fun hf => ?_) (fun hf => ?_)
      · refine lv_aload_n B.1.1 B.1.2.1 dX4_readThing_43 rfl (hl.at 1 rfl) ?_
        refine y_cv hf (fun q hq => x_runV (ci := 3) (C := RX3) B.1 B.2.2.2 hl hR hS cm_X4_97 ⟨rfl, rfl, Nat.le_of_ble_eq_true rfl, Nat.le_of_ble_eq_true rfl⟩ (by decide) rfl k_p1 (c_X3_advance k_p1 hq) rfl rfl (Nat.le_of_ble_eq_true rfl) dX4_readThing_44 ⟨Nat.le_of_ble_eq_true rfl, Nat.le_of_ble_eq_true rfl⟩) hS (fun S7 H locs hf hR hS => ?_)
        refine lv_iload_n B.1.1 B.1.2.1 dX4_readThing_47 rfl (hl.at 3 rfl) ?_
        refine lv_bipush (v := 6) B.1.1 B.1.2.1 dX4_readThing_48 (by decide) ?_
        refine y_icmp_eq (tgt := 59) B hf dX4_readThing_50 (by decide) (fun hf => ?_) (fun hf => ?_)
        · refine lv_aload_n B.1.1 B.1.2.1 dX4_readThing_59 rfl (hl.at 1 rfl) ?_
          refine y_ci hf (fun q hq => x_runV (ci := 3) (C := RX3) B.1 B.2.2.2 hl hR hS cm_X4_111 ⟨rfl, rfl, Nat.le_of_ble_eq_true rfl, Nat.le_of_ble_eq_true rfl⟩ (by decide) rfl k_p1 (c_X3_needPartner k_p1 hq) rfl rfl (Nat.le_of_ble_eq_true rfl) dX4_readThing_60 ⟨Nat.le_of_ble_eq_true rfl, Nat.le_of_ble_eq_true rfl⟩) hS (fun r9 S8 H locs hf hR hS => ?_)
          refine y_istore B hl hf dX4_readThing_63 (by decide) rfl (fun v10 ls hf hl => ?_)
          have hl : xL ls 5 [_, _, _, _, _] := hl
          exact w_X4_readThing_65 B _ _ _ _ _ _ _ _ k_p0 hf hR hS (hl.drop [true, false, true, true, true] rfl)
        · refine lv_iload_n B.1.1 B.1.2.1 dX4_readThing_53 rfl (hl.at 3 rfl) ?_
          refine lv_bipush (v := 7) B.1.1 B.1.2.1 dX4_readThing_54 (by decide) ?_
          refine y_icmp_ne (tgt := 65) B hf dX4_readThing_56 (by decide) (fun hf => ?_) (fun hf => ?_)
          · exact w_X4_readThing_65 B _ _ _ _ _ _ _ _ k_p0 hf hR hS (hl.drop [true, false, true, true, true] rfl)
          · refine lv_aload_n B.1.1 B.1.2.1 dX4_readThing_59 rfl (hl.at 1 rfl) ?_
            refine y_ci hf (fun q hq => x_runV (ci := 3) (C := RX3) B.1 B.2.2.2 hl hR hS cm_X4_111 ⟨rfl, rfl, Nat.le_of_ble_eq_true rfl, Nat.le_of_ble_eq_true rfl⟩ (by decide) rfl k_p1 (c_X3_needPartner k_p1 hq) rfl rfl (Nat.le_of_ble_eq_true rfl) dX4_readThing_60 ⟨Nat.le_of_ble_eq_true rfl, Nat.le_of_ble_eq_true rfl⟩) hS (fun r12 S11 H locs hf hR hS => ?_)
            refine y_istore B hl hf dX4_readThing_63 (by decide) rfl (fun v13 ls hf hl => ?_)
            have hl : xL ls 5 [_, _, _, _, _] := hl
            exact w_X4_readThing_65 B _ _ _ _ _ _ _ _ k_p0 hf hR hS (hl.drop [true, false, true, true, true] rfl)
      · refine lv_aload_n B.1.1 B.1.2.1 dX4_readThing_31 rfl (hl.at 1 rfl) ?_
        refine lv_iconst (v := 0) B.1.1 B.1.2.1 dX4_readThing_32 (by decide) ?_
        refine lv_ldc (v := 999999) B.1.1 B.1.2.1 B.1.2.2.1 (B.1.2.2.2.1 _ tw_888) dX4_readThing_33 ?_
        refine y_ci hf (fun q hq => x_runV (ci := 3) (C := RX3) B.1 B.2.2.2 hl hR hS cm_X4_146 ⟨rfl, rfl, Nat.le_of_ble_eq_true rfl, Nat.le_of_ble_eq_true rfl⟩ (by decide) rfl k_p1 (c_X3_needNumber k_p1 hq) rfl rfl (Nat.le_of_ble_eq_true rfl) dX4_readThing_35 ⟨Nat.le_of_ble_eq_true rfl, Nat.le_of_ble_eq_true rfl⟩) hS (fun r15 S14 H locs hf hR hS => ?_)
        refine y_istore B hl hf dX4_readThing_38 (by decide) rfl (fun v16 ls hf hl => ?_)
        have hl : xL ls 5 [_, _, _, _, _] := hl
        refine lv_goto (tgt := 65) B.1.1 B.1.2.1 dX4_readThing_40 (by decide) ?_
        exact w_X4_readThing_65 B _ _ _ _ _ _ _ _ k_p0 hf hR hS (hl.drop [true, false, true, true, true] rfl)
    · refine lv_aload_n B.1.1 B.1.2.1 dX4_readThing_19 rfl (hl.at 1 rfl) ?_
      refine y_ci hf (fun q hq => x_runV (ci := 3) (C := RX3) B.1 B.2.2.2 hl hR hS cm_X4_127 ⟨rfl, rfl, Nat.le_of_ble_eq_true rfl, Nat.le_of_ble_eq_true rfl⟩ (by decide) rfl k_p1 (c_X3_refuse k_p1 hq) rfl rfl (Nat.le_of_ble_eq_true rfl) dX4_readThing_20 ⟨Nat.le_of_ble_eq_true rfl, Nat.le_of_ble_eq_true rfl⟩) hS (fun r18 S17 H locs hf hR hS => ?_)
      exact y_zret B hR hS hf dX4_readThing_23
abbrev xr_X4_readSum : Room := { frames := 8, cells := 0, slots := 0, locals := 163 }
def f_X4_readSum_5 (T : xT) : Nat → xS → Nat → Nat → Int32 → Int32 → Option (Int32 × xS)
  | 0, _, _, _, _, _ => none
  | n + 1, S, p0, p1, p2, p3 => if (40 : Int32) < p3 then xc (f_X3_refuse T S p1) (fun r2 S1 => xgd (xnz r2) (some (r2, S1))) else xc (f_X4_readThing T S p0 p1 p2) (fun r4 S3 => if r4 = (0 : Int32) then some ((0 : Int32), S3) else xc (f_X3_isSign T S3 p1 ((43 : Int32))) (fun r6 S5 => if r6 = (0 : Int32) then xc (f_X3_isSign T S5 p1 ((45 : Int32))) (fun r11 S10 => if r11 = (0 : Int32) then xc (f_X3_isSign T S10 p1 ((42 : Int32))) (fun r16 S15 => if r16 = (0 : Int32) then xc (f_X3_isSign T S15 p1 ((47 : Int32))) (fun r21 S20 => if r21 = (0 : Int32) then some ((1 : Int32), S20) else xl ((S20.1 p1 3)) (fun v22 => xcv (f_X3_advance T S20 p1) (fun S23 => xl (p3 + (1 : Int32)) (fun v24 => f_X4_readSum_5 T n S23 p0 p1 v22 v24)))) else xl ((S15.1 p1 3)) (fun v17 => xcv (f_X3_advance T S15 p1) (fun S18 => xl (p3 + (1 : Int32)) (fun v19 => f_X4_readSum_5 T n S18 p0 p1 v17 v19)))) else xl ((S10.1 p1 3)) (fun v12 => xcv (f_X3_advance T S10 p1) (fun S13 => xl (p3 + (1 : Int32)) (fun v14 => f_X4_readSum_5 T n S13 p0 p1 v12 v14)))) else xl ((S5.1 p1 3)) (fun v7 => xcv (f_X3_advance T S5 p1) (fun S8 => xl (p3 + (1 : Int32)) (fun v9 => f_X4_readSum_5 T n S8 p0 p1 v7 v9)))))
set_option maxRecDepth 100000 in
set_option maxHeartbeats 4000000 in
theorem w_X4_readSum_5 {p : Program} {l : Launch} {e : Env} {s : State} {m : MethodId} {args : Array Value} {below : List Frame} {meth : Method} {c : Code} {z : Nat} {D : va_G} {dA : Nat → ClassId} {T : xT} (B : xB p s m args meth c cX4_readSum RX4 4 (some .boolean) D dA) {q : Int32 × xS} : ∀ (n : Nat), ∀ (S : xS) (H : Heap) (locs : List Loc) (ls : Array Slot) (p0 : Nat) (p1 : Nat) (p2 : Int32) (p3 : Int32), xlk T p0 4 = true → xlk T p1 3 = true → f_X4_readSum_5 T n S p0 p1 p2 p3 = some q → xRel z D dA T S H → va_S (xA z) s.heap H locs → xL ls 4 [some (.ref (z + p0)), some (.ref (z + p1)), some (.int p2), some (.int p3)] → xGi p l e xr_X4_readSum s m args below meth c z D dA T q H locs 5 ls [] := by
  intro n
  induction n with
  | zero =>
    intro S H locs ls p0 p1 p2 p3 k_p0 k_p1 hf hR hS hl
    exact absurd hf (by simp [f_X4_readSum_5])
  | succ n ih =>
    intro S H locs ls p0 p1 p2 p3 k_p0 k_p1 hf hR hS hl
    unfold f_X4_readSum_5 at hf
    refine lv_iload_n B.1.1 B.1.2.1 dX4_readSum_5 rfl (hl.at 3 rfl) ?_
    refine lv_bipush (v := 40) B.1.1 B.1.2.1 dX4_readSum_6 (by decide) ?_
    refine y_icmp_gt (tgt := 75) B hf dX4_readSum_8 (by decide) (fun hf => ?_) (fun hf => ?_)
    · refine lv_aload_n B.1.1 B.1.2.1 dX4_readSum_75 rfl (hl.at 1 rfl) ?_
      refine y_ci hf (fun q hq => x_runV (ci := 3) (C := RX3) B.1 B.2.2.2 hl hR hS cm_X4_127 ⟨rfl, rfl, Nat.le_of_ble_eq_true rfl, Nat.le_of_ble_eq_true rfl⟩ (by decide) rfl k_p1 (c_X3_refuse k_p1 hq) rfl rfl (Nat.le_of_ble_eq_true rfl) dX4_readSum_76 ⟨Nat.le_of_ble_eq_true rfl, Nat.le_of_ble_eq_true rfl⟩) hS (fun r2 S1 H locs hf hR hS => ?_)
      exact y_zret B hR hS hf dX4_readSum_79
    · refine lv_aload_n B.1.1 B.1.2.1 dX4_readSum_11 rfl (hl.at 0 rfl) ?_
      refine lv_aload_n B.1.1 B.1.2.1 dX4_readSum_12 rfl (hl.at 1 rfl) ?_
      refine lv_iload_n B.1.1 B.1.2.1 dX4_readSum_13 rfl (hl.at 2 rfl) ?_
      refine y_ci hf (fun q hq => x_runV (ci := 4) (C := RX4) B.1 B.2.2.2 hl hR hS cm_X4_137 ⟨rfl, rfl, Nat.le_of_ble_eq_true rfl, Nat.le_of_ble_eq_true rfl⟩ (by decide) rfl k_p0 (c_X4_readThing k_p0 k_p1 hq) rfl rfl (Nat.le_of_ble_eq_true rfl) dX4_readSum_14 ⟨Nat.le_of_ble_eq_true rfl, Nat.le_of_ble_eq_true rfl⟩) hS (fun r4 S3 H locs hf hR hS => ?_)
      refine y_if_ne (tgt := 22) B hf dX4_readSum_17 (by decide) (fun hf => ?_) (fun hf => ?_)
      · refine lv_aload_n B.1.1 B.1.2.1 dX4_readSum_22 rfl (hl.at 1 rfl) ?_
        refine lv_bipush (v := 43) B.1.1 B.1.2.1 dX4_readSum_23 (by decide) ?_
        refine y_ci hf (fun q hq => x_runV (ci := 3) (C := RX3) B.1 B.2.2.2 hl hR hS cm_X4_123 ⟨rfl, rfl, Nat.le_of_ble_eq_true rfl, Nat.le_of_ble_eq_true rfl⟩ (by decide) rfl k_p1 (c_X3_isSign k_p1 hq) rfl rfl (Nat.le_of_ble_eq_true rfl) dX4_readSum_25 ⟨Nat.le_of_ble_eq_true rfl, Nat.le_of_ble_eq_true rfl⟩) hS (fun r6 S5 H locs hf hR hS => ?_)
        refine y_if_ne (tgt := 60) B hf dX4_readSum_28 (by decide) (fun hf => ?_) (fun hf => ?_)
        · refine lv_aload_n B.1.1 B.1.2.1 dX4_readSum_60 rfl (hl.at 1 rfl) ?_
          refine y_getI B hR k_p1 fl_X4_130 dX4_readSum_61 ?_
          refine y_istore_n B hl hf dX4_readSum_64 rfl (by decide) rfl (fun v7 ls hf hl => ?_)
          have hl : xL ls 4 [_, _, _, _] := hl
          refine lv_aload_n B.1.1 B.1.2.1 dX4_readSum_65 rfl (hl.at 1 rfl) ?_
          refine y_cv hf (fun q hq => x_runV (ci := 3) (C := RX3) B.1 B.2.2.2 hl hR hS cm_X4_97 ⟨rfl, rfl, Nat.le_of_ble_eq_true rfl, Nat.le_of_ble_eq_true rfl⟩ (by decide) rfl k_p1 (c_X3_advance k_p1 hq) rfl rfl (Nat.le_of_ble_eq_true rfl) dX4_readSum_66 ⟨Nat.le_of_ble_eq_true rfl, Nat.le_of_ble_eq_true rfl⟩) hS (fun S8 H locs hf hR hS => ?_)
          refine y_iinc (d := 1) B hl hf dX4_readSum_69 rfl (by decide) (by decide) rfl (fun v9 ls hf hl => ?_)
          have hl : xL ls 4 [_, _, _, _] := hl
          refine lv_goto (tgt := 5) B.1.1 B.1.2.1 dX4_readSum_72 (by decide) ?_
          exact ih _ _ _ _ _ _ _ _ k_p0 k_p1 hf hR hS hl
        · refine lv_aload_n B.1.1 B.1.2.1 dX4_readSum_31 rfl (hl.at 1 rfl) ?_
          refine lv_bipush (v := 45) B.1.1 B.1.2.1 dX4_readSum_32 (by decide) ?_
          refine y_ci hf (fun q hq => x_runV (ci := 3) (C := RX3) B.1 B.2.2.2 hl hR hS cm_X4_123 ⟨rfl, rfl, Nat.le_of_ble_eq_true rfl, Nat.le_of_ble_eq_true rfl⟩ (by decide) rfl k_p1 (c_X3_isSign k_p1 hq) rfl rfl (Nat.le_of_ble_eq_true rfl) dX4_readSum_34 ⟨Nat.le_of_ble_eq_true rfl, Nat.le_of_ble_eq_true rfl⟩) hS (fun r11 S10 H locs hf hR hS => ?_)
          refine y_if_ne (tgt := 60) B hf dX4_readSum_37 (by decide) (fun hf => ?_) (fun hf => ?_)
          · refine lv_aload_n B.1.1 B.1.2.1 dX4_readSum_60 rfl (hl.at 1 rfl) ?_
            refine y_getI B hR k_p1 fl_X4_130 dX4_readSum_61 ?_
            refine y_istore_n B hl hf dX4_readSum_64 rfl (by decide) rfl (fun v12 ls hf hl => ?_)
            have hl : xL ls 4 [_, _, _, _] := hl
            refine lv_aload_n B.1.1 B.1.2.1 dX4_readSum_65 rfl (hl.at 1 rfl) ?_
            refine y_cv hf (fun q hq => x_runV (ci := 3) (C := RX3) B.1 B.2.2.2 hl hR hS cm_X4_97 ⟨rfl, rfl, Nat.le_of_ble_eq_true rfl, Nat.le_of_ble_eq_true rfl⟩ (by decide) rfl k_p1 (c_X3_advance k_p1 hq) rfl rfl (Nat.le_of_ble_eq_true rfl) dX4_readSum_66 ⟨Nat.le_of_ble_eq_true rfl, Nat.le_of_ble_eq_true rfl⟩) hS (fun S13 H locs hf hR hS => ?_)
            refine y_iinc (d := 1) B hl hf dX4_readSum_69 rfl (by decide) (by decide) rfl (fun v14 ls hf hl => ?_)
            have hl : xL ls 4 [_, _, _, _] := hl
            refine lv_goto (tgt := 5) B.1.1 B.1.2.1 dX4_readSum_72 (by decide) ?_
            exact ih _ _ _ _ _ _ _ _ k_p0 k_p1 hf hR hS hl
          · refine lv_aload_n B.1.1 B.1.2.1 dX4_readSum_40 rfl (hl.at 1 rfl) ?_
            refine lv_bipush (v := 42) B.1.1 B.1.2.1 dX4_readSum_41 (by decide) ?_
            refine y_ci hf (fun q hq => x_runV (ci := 3) (C := RX3) B.1 B.2.2.2 hl hR hS cm_X4_123 ⟨rfl, rfl, Nat.le_of_ble_eq_true rfl, Nat.le_of_ble_eq_true rfl⟩ (by decide) rfl k_p1 (c_X3_isSign k_p1 hq) rfl rfl (Nat.le_of_ble_eq_true rfl) dX4_readSum_43 ⟨Nat.le_of_ble_eq_true rfl, Nat.le_of_ble_eq_true rfl⟩) hS (fun r16 S15 H locs hf hR hS => ?_)
            refine y_if_ne (tgt := 60) B hf dX4_readSum_46 (by decide) (fun hf => ?_) (fun hf => ?_)
            · refine lv_aload_n B.1.1 B.1.2.1 dX4_readSum_60 rfl (hl.at 1 rfl) ?_
              refine y_getI B hR k_p1 fl_X4_130 dX4_readSum_61 ?_
              refine y_istore_n B hl hf dX4_readSum_64 rfl (by decide) rfl (fun v17 ls hf hl => ?_)
              have hl : xL ls 4 [_, _, _, _] := hl
              refine lv_aload_n B.1.1 B.1.2.1 dX4_readSum_65 rfl (hl.at 1 rfl) ?_
              refine y_cv hf (fun q hq => x_runV (ci := 3) (C := RX3) B.1 B.2.2.2 hl hR hS cm_X4_97 ⟨rfl, rfl, Nat.le_of_ble_eq_true rfl, Nat.le_of_ble_eq_true rfl⟩ (by decide) rfl k_p1 (c_X3_advance k_p1 hq) rfl rfl (Nat.le_of_ble_eq_true rfl) dX4_readSum_66 ⟨Nat.le_of_ble_eq_true rfl, Nat.le_of_ble_eq_true rfl⟩) hS (fun S18 H locs hf hR hS => ?_)
              refine y_iinc (d := 1) B hl hf dX4_readSum_69 rfl (by decide) (by decide) rfl (fun v19 ls hf hl => ?_)
              have hl : xL ls 4 [_, _, _, _] := hl
              refine lv_goto (tgt := 5) B.1.1 B.1.2.1 dX4_readSum_72 (by decide) ?_
              exact ih _ _ _ _ _ _ _ _ k_p0 k_p1 hf hR hS hl
            · refine lv_aload_n B.1.1 B.1.2.1 dX4_readSum_49 rfl (hl.at 1 rfl) ?_
              refine lv_bipush (v := 47) B.1.1 B.1.2.1 dX4_readSum_50 (by decide) ?_
              refine y_ci hf (fun q hq => x_runV (ci := 3) (C := RX3) B.1 B.2.2.2 hl hR hS cm_X4_123 ⟨rfl, rfl, Nat.le_of_ble_eq_true rfl, Nat.le_of_ble_eq_true rfl⟩ (by decide) rfl k_p1 (c_X3_isSign k_p1 hq) rfl rfl (Nat.le_of_ble_eq_true rfl) dX4_readSum_52 ⟨Nat.le_of_ble_eq_true rfl, Nat.le_of_ble_eq_true rfl⟩) hS (fun r21 S20 H locs hf hR hS => ?_)
              refine y_if_ne (tgt := 60) B hf dX4_readSum_55 (by decide) (fun hf => ?_) (fun hf => ?_)
              · refine lv_aload_n B.1.1 B.1.2.1 dX4_readSum_60 rfl (hl.at 1 rfl) ?_
                refine y_getI B hR k_p1 fl_X4_130 dX4_readSum_61 ?_
                refine y_istore_n B hl hf dX4_readSum_64 rfl (by decide) rfl (fun v22 ls hf hl => ?_)
                have hl : xL ls 4 [_, _, _, _] := hl
                refine lv_aload_n B.1.1 B.1.2.1 dX4_readSum_65 rfl (hl.at 1 rfl) ?_
                refine y_cv hf (fun q hq => x_runV (ci := 3) (C := RX3) B.1 B.2.2.2 hl hR hS cm_X4_97 ⟨rfl, rfl, Nat.le_of_ble_eq_true rfl, Nat.le_of_ble_eq_true rfl⟩ (by decide) rfl k_p1 (c_X3_advance k_p1 hq) rfl rfl (Nat.le_of_ble_eq_true rfl) dX4_readSum_66 ⟨Nat.le_of_ble_eq_true rfl, Nat.le_of_ble_eq_true rfl⟩) hS (fun S23 H locs hf hR hS => ?_)
                refine y_iinc (d := 1) B hl hf dX4_readSum_69 rfl (by decide) (by decide) rfl (fun v24 ls hf hl => ?_)
                have hl : xL ls 4 [_, _, _, _] := hl
                refine lv_goto (tgt := 5) B.1.1 B.1.2.1 dX4_readSum_72 (by decide) ?_
                exact ih _ _ _ _ _ _ _ _ k_p0 k_p1 hf hR hS hl
              · refine lv_iconst (v := 1) B.1.1 B.1.2.1 dX4_readSum_58 (by decide) ?_
                exact y_zretK B hR hS hf rfl dX4_readSum_59
      · refine lv_iconst (v := 0) B.1.1 B.1.2.1 dX4_readSum_20 (by decide) ?_
        exact y_zretK B hR hS hf rfl dX4_readSum_21
def f_X4_readSum (T : xT) (S : xS) (p0 : Nat) (p1 : Nat) : Option (Int32 × xS) := xl ((43 : Int32)) (fun v1 => xl ((0 : Int32)) (fun v2 => f_X4_readSum_5 T xfu S p0 p1 v1 v2))
set_option maxRecDepth 100000 in
set_option maxHeartbeats 4000000 in
theorem c_X4_readSum {l : Launch} {z : Nat} {D : va_G} {dA : Nat → ClassId} {T : xT} {S : xS} {p0 : Nat} {p1 : Nat} (k_p0 : xlk T p0 4 = true) (k_p1 : xlk T p1 3 = true) {q : Int32 × xS} (hf : f_X4_readSum T S p0 p1 = some q) : Met l yX4_readSum (xws yX4_readSum cX4_readSum 4 (some .boolean)) xr_X4_readSum (xPc z D dA T S [.ref (z + p0), .ref (z + p1)]) (xQi z D dA T q) 0 0 (xA z) := by
  refine x_met RX4 (by decide) rfl (Nat.le_of_ble_eq_true rfl) ?_
  intro p e s m below meth c ls _ X hr hlk hml _ hR hS hl
  have B : xB p s m _ meth c cX4_readSum RX4 4 (some .boolean) D dA := ⟨X, hr, hlk, hml⟩
  have hl : xL ls 4 [_, _, _, _] := hl
  unfold f_X4_readSum at hf
  refine lv_bipush (v := 43) B.1.1 B.1.2.1 dX4_readSum_0 (by decide) ?_
  refine y_istore_n B hl hf dX4_readSum_2 rfl (by decide) rfl (fun v1 ls hf hl => ?_)
  have hl : xL ls 4 [_, _, _, _] := hl
  refine lv_iconst (v := 0) B.1.1 B.1.2.1 dX4_readSum_3 (by decide) ?_
  refine y_istore_n B hl hf dX4_readSum_4 rfl (by decide) rfl (fun v2 ls hf hl => ?_)
  have hl : xL ls 4 [_, _, _, _] := hl
  exact w_X4_readSum_5 B xfu _ _ _ _ _ _ _ _ k_p0 k_p1 hf hR hS hl
abbrev xr_X4_readGive : Room := { frames := 9, cells := 0, slots := 0, locals := 186 }
def f_X4_readGive_114 (T : xT) (S : xS) (p0 : Nat) (p1 : Nat) (p2 : Int32) : Option (Int32 × xS) := xgr T S p0 7 24 (fun a1 => xst T S a1 p2 (vp_nar .char ((S.1 p1 3))) (fun S2 => xcv (f_X3_advance T S2 p1) (fun S3 => xc (f_X4_readSum T S3 p0 p1) (fun r5 S4 => if r5 = (0 : Int32) then some ((0 : Int32), S4) else xgr T S4 p0 6 20 (fun a6 => xst T S4 a6 p2 ((S4.1 p0 1)) (fun S7 => xc (f_X3_needSign T S7 p1 ((59 : Int32))) (fun r9 S8 => xgd (xnz r9) (some (r9, S8)))))))))
set_option maxRecDepth 100000 in
set_option maxHeartbeats 4000000 in
theorem w_X4_readGive_114 {p : Program} {l : Launch} {e : Env} {s : State} {m : MethodId} {args : Array Value} {below : List Frame} {meth : Method} {c : Code} {z : Nat} {D : va_G} {dA : Nat → ClassId} {T : xT} (B : xB p s m args meth c cX4_readGive RX4 3 (some .boolean) D dA) {q : Int32 × xS} : ∀ (S : xS) (H : Heap) (locs : List Loc) (ls : Array Slot) (p0 : Nat) (p1 : Nat) (p2 : Int32), xlk T p0 4 = true → xlk T p1 3 = true → f_X4_readGive_114 T S p0 p1 p2 = some q → xRel z D dA T S H → va_S (xA z) s.heap H locs → xL ls 3 [some (.ref (z + p0)), some (.ref (z + p1)), some (.int p2)] → xGi p l e xr_X4_readGive s m args below meth c z D dA T q H locs 114 ls [] := by
  intro S H locs ls p0 p1 p2 k_p0 k_p1 hf hR hS hl
  unfold f_X4_readGive_114 at hf
  refine lv_aload_n B.1.1 B.1.2.1 dX4_readGive_114 rfl (hl.at 0 rfl) ?_
  refine y_getR B hR hf k_p0 fl_X4_27 dX4_readGive_115 (fun a1 k_a1 hf => ?_)
  refine lv_iload_n B.1.1 B.1.2.1 dX4_readGive_118 rfl (hl.at 2 rfl) ?_
  refine lv_aload_n B.1.1 B.1.2.1 dX4_readGive_119 rfl (hl.at 1 rfl) ?_
  refine y_getI B hR k_p1 fl_X4_130 dX4_readGive_120 ?_
  refine y_cast B hR hS hf k_a1 dX4_readGive_123 (fun S2 H locs hf hR hS => ?_)
  refine lv_aload_n B.1.1 B.1.2.1 dX4_readGive_124 rfl (hl.at 1 rfl) ?_
  refine y_cv hf (fun q hq => x_runV (ci := 3) (C := RX3) B.1 B.2.2.2 hl hR hS cm_X4_97 ⟨rfl, rfl, Nat.le_of_ble_eq_true rfl, Nat.le_of_ble_eq_true rfl⟩ (by decide) rfl k_p1 (c_X3_advance k_p1 hq) rfl rfl (Nat.le_of_ble_eq_true rfl) dX4_readGive_125 ⟨Nat.le_of_ble_eq_true rfl, Nat.le_of_ble_eq_true rfl⟩) hS (fun S3 H locs hf hR hS => ?_)
  refine lv_aload_n B.1.1 B.1.2.1 dX4_readGive_128 rfl (hl.at 0 rfl) ?_
  refine lv_aload_n B.1.1 B.1.2.1 dX4_readGive_129 rfl (hl.at 1 rfl) ?_
  refine y_ci hf (fun q hq => x_runV (ci := 4) (C := RX4) B.1 B.2.2.2 hl hR hS cm_X4_117 ⟨rfl, rfl, Nat.le_of_ble_eq_true rfl, Nat.le_of_ble_eq_true rfl⟩ (by decide) rfl k_p0 (c_X4_readSum k_p0 k_p1 hq) rfl rfl (Nat.le_of_ble_eq_true rfl) dX4_readGive_130 ⟨Nat.le_of_ble_eq_true rfl, Nat.le_of_ble_eq_true rfl⟩) hS (fun r5 S4 H locs hf hR hS => ?_)
  refine y_if_ne (tgt := 138) B hf dX4_readGive_133 (by decide) (fun hf => ?_) (fun hf => ?_)
  · refine lv_aload_n B.1.1 B.1.2.1 dX4_readGive_138 rfl (hl.at 0 rfl) ?_
    refine y_getR B hR hf k_p0 fl_X4_24 dX4_readGive_139 (fun a6 k_a6 hf => ?_)
    refine lv_iload_n B.1.1 B.1.2.1 dX4_readGive_142 rfl (hl.at 2 rfl) ?_
    refine lv_aload_n B.1.1 B.1.2.1 dX4_readGive_143 rfl (hl.at 0 rfl) ?_
    refine y_getI B hR k_p0 fl_X4_114 dX4_readGive_144 ?_
    refine y_iast B hR hS hf k_a6 dX4_readGive_147 (fun S7 H locs hf hR hS => ?_)
    refine lv_aload_n B.1.1 B.1.2.1 dX4_readGive_148 rfl (hl.at 1 rfl) ?_
    refine lv_bipush (v := 59) B.1.1 B.1.2.1 dX4_readGive_149 (by decide) ?_
    refine y_ci hf (fun q hq => x_runV (ci := 3) (C := RX3) B.1 B.2.2.2 hl hR hS cm_X4_134 ⟨rfl, rfl, Nat.le_of_ble_eq_true rfl, Nat.le_of_ble_eq_true rfl⟩ (by decide) rfl k_p1 (c_X3_needSign k_p1 hq) rfl rfl (Nat.le_of_ble_eq_true rfl) dX4_readGive_151 ⟨Nat.le_of_ble_eq_true rfl, Nat.le_of_ble_eq_true rfl⟩) hS (fun r9 S8 H locs hf hR hS => ?_)
    exact y_zret B hR hS hf dX4_readGive_154
  · refine lv_iconst (v := 0) B.1.1 B.1.2.1 dX4_readGive_136 (by decide) ?_
    exact y_zretK B hR hS hf rfl dX4_readGive_137
def f_X4_readGive (T : xT) (S : xS) (p0 : Nat) (p1 : Nat) (p2 : Int32) : Option (Int32 × xS) := xgr T S p0 2 20 (fun a1 => xc (f_X3_needPartner T S p1) (fun r3 S2 => xst T S2 a1 p2 r3 (fun S4 => xgr T S4 p0 3 20 (fun a5 => xst T S4 a5 p2 ((S4.1 p0 1)) (fun S6 => xgr T S6 p0 2 20 (fun a7 => xai T S6 a7 p2 (fun v8 => if v8 = (-1 : Int32) then some ((0 : Int32), S6) else xc (f_X4_readSum T S6 p0 p1) (fun r10 S9 => if r10 = (0 : Int32) then some ((0 : Int32), S9) else xgr T S9 p0 4 20 (fun a11 => xst T S9 a11 p2 ((S9.1 p0 1)) (fun S12 => xgr T S12 p0 7 24 (fun a13 => xst T S12 a13 p2 (vp_nar .char ((32 : Int32))) (fun S14 => xc (f_X3_isWord T S14 p1 11) (fun r16 S15 => if r16 = (0 : Int32) then xc (f_X3_needSign T S15 p1 ((59 : Int32))) (fun r18 S17 => xgd (xnz r18) (some (r18, S17))) else xcv (f_X3_advance T S15 p1) (fun S19 => xc (f_X4_readSum T S19 p0 p1) (fun r21 S20 => if r21 = (0 : Int32) then some ((0 : Int32), S20) else xgr T S20 p0 5 20 (fun a22 => xst T S20 a22 p2 ((S20.1 p0 1)) (fun S23 => xc (f_X3_isSign T S23 p1 ((60 : Int32))) (fun r25 S24 => if r25 = (0 : Int32) then xc (f_X3_isSign T S24 p1 ((62 : Int32))) (fun r27 S26 => if r27 = (0 : Int32) then xc (f_X3_refuse T S26 p1) (fun r29 S28 => xgd (xnz r29) (some (r29, S28))) else f_X4_readGive_114 T S26 p0 p1 p2) else f_X4_readGive_114 T S24 p0 p1 p2))))))))))))))))))
set_option maxRecDepth 100000 in
set_option maxHeartbeats 4000000 in
theorem c_X4_readGive {l : Launch} {z : Nat} {D : va_G} {dA : Nat → ClassId} {T : xT} {S : xS} {p0 : Nat} {p1 : Nat} {p2 : Int32} (k_p0 : xlk T p0 4 = true) (k_p1 : xlk T p1 3 = true) {q : Int32 × xS} (hf : f_X4_readGive T S p0 p1 p2 = some q) : Met l yX4_readGive (xws yX4_readGive cX4_readGive 3 (some .boolean)) xr_X4_readGive (xPc z D dA T S [.ref (z + p0), .ref (z + p1), .int p2]) (xQi z D dA T q) 0 0 (xA z) := by
  refine x_met RX4 (by decide) rfl (Nat.le_of_ble_eq_true rfl) ?_
  intro p e s m below meth c ls _ X hr hlk hml _ hR hS hl
  have B : xB p s m _ meth c cX4_readGive RX4 3 (some .boolean) D dA := ⟨X, hr, hlk, hml⟩
  have hl : xL ls 3 [_, _, _] := hl
  unfold f_X4_readGive at hf
  refine lv_aload_n B.1.1 B.1.2.1 dX4_readGive_0 rfl (hl.at 0 rfl) ?_
  refine y_getR B hR hf k_p0 fl_X4_9 dX4_readGive_1 (fun a1 k_a1 hf => ?_)
  refine lv_iload_n B.1.1 B.1.2.1 dX4_readGive_4 rfl (hl.at 2 rfl) ?_
  refine lv_aload_n B.1.1 B.1.2.1 dX4_readGive_5 rfl (hl.at 1 rfl) ?_
  refine y_ci hf (fun q hq => x_runV (ci := 3) (C := RX3) B.1 B.2.2.2 hl hR hS cm_X4_111 ⟨rfl, rfl, Nat.le_of_ble_eq_true rfl, Nat.le_of_ble_eq_true rfl⟩ (by decide) rfl k_p1 (c_X3_needPartner k_p1 hq) rfl rfl (Nat.le_of_ble_eq_true rfl) dX4_readGive_6 ⟨Nat.le_of_ble_eq_true rfl, Nat.le_of_ble_eq_true rfl⟩) hS (fun r3 S2 H locs hf hR hS => ?_)
  refine y_iast B hR hS hf k_a1 dX4_readGive_9 (fun S4 H locs hf hR hS => ?_)
  refine lv_aload_n B.1.1 B.1.2.1 dX4_readGive_10 rfl (hl.at 0 rfl) ?_
  refine y_getR B hR hf k_p0 fl_X4_15 dX4_readGive_11 (fun a5 k_a5 hf => ?_)
  refine lv_iload_n B.1.1 B.1.2.1 dX4_readGive_14 rfl (hl.at 2 rfl) ?_
  refine lv_aload_n B.1.1 B.1.2.1 dX4_readGive_15 rfl (hl.at 0 rfl) ?_
  refine y_getI B hR k_p0 fl_X4_114 dX4_readGive_16 ?_
  refine y_iast B hR hS hf k_a5 dX4_readGive_19 (fun S6 H locs hf hR hS => ?_)
  refine lv_aload_n B.1.1 B.1.2.1 dX4_readGive_20 rfl (hl.at 0 rfl) ?_
  refine y_getR B hR hf k_p0 fl_X4_9 dX4_readGive_21 (fun a7 k_a7 hf => ?_)
  refine lv_iload_n B.1.1 B.1.2.1 dX4_readGive_24 rfl (hl.at 2 rfl) ?_
  refine y_iald B hR hf k_a7 dX4_readGive_25 (fun v8 hf => ?_)
  refine lv_iconst (v := -1) B.1.1 B.1.2.1 dX4_readGive_26 (by decide) ?_
  refine y_icmp_eq (tgt := 38) B hf dX4_readGive_27 (by decide) (fun hf => ?_) (fun hf => ?_)
  · refine lv_iconst (v := 0) B.1.1 B.1.2.1 dX4_readGive_38 (by decide) ?_
    exact y_zretK B hR hS hf rfl dX4_readGive_39
  · refine lv_aload_n B.1.1 B.1.2.1 dX4_readGive_30 rfl (hl.at 0 rfl) ?_
    refine lv_aload_n B.1.1 B.1.2.1 dX4_readGive_31 rfl (hl.at 1 rfl) ?_
    refine y_ci hf (fun q hq => x_runV (ci := 4) (C := RX4) B.1 B.2.2.2 hl hR hS cm_X4_117 ⟨rfl, rfl, Nat.le_of_ble_eq_true rfl, Nat.le_of_ble_eq_true rfl⟩ (by decide) rfl k_p0 (c_X4_readSum k_p0 k_p1 hq) rfl rfl (Nat.le_of_ble_eq_true rfl) dX4_readGive_32 ⟨Nat.le_of_ble_eq_true rfl, Nat.le_of_ble_eq_true rfl⟩) hS (fun r10 S9 H locs hf hR hS => ?_)
    refine y_if_ne (tgt := 40) B hf dX4_readGive_35 (by decide) (fun hf => ?_) (fun hf => ?_)
    · refine lv_aload_n B.1.1 B.1.2.1 dX4_readGive_40 rfl (hl.at 0 rfl) ?_
      refine y_getR B hR hf k_p0 fl_X4_18 dX4_readGive_41 (fun a11 k_a11 hf => ?_)
      refine lv_iload_n B.1.1 B.1.2.1 dX4_readGive_44 rfl (hl.at 2 rfl) ?_
      refine lv_aload_n B.1.1 B.1.2.1 dX4_readGive_45 rfl (hl.at 0 rfl) ?_
      refine y_getI B hR k_p0 fl_X4_114 dX4_readGive_46 ?_
      refine y_iast B hR hS hf k_a11 dX4_readGive_49 (fun S12 H locs hf hR hS => ?_)
      refine lv_aload_n B.1.1 B.1.2.1 dX4_readGive_50 rfl (hl.at 0 rfl) ?_
      refine y_getR B hR hf k_p0 fl_X4_27 dX4_readGive_51 (fun a13 k_a13 hf => ?_)
      refine lv_iload_n B.1.1 B.1.2.1 dX4_readGive_54 rfl (hl.at 2 rfl) ?_
      refine lv_bipush (v := 32) B.1.1 B.1.2.1 dX4_readGive_55 (by decide) ?_
      refine y_cast B hR hS hf k_a13 dX4_readGive_57 (fun S14 H locs hf hR hS => ?_)
      refine lv_aload_n B.1.1 B.1.2.1 dX4_readGive_58 rfl (hl.at 1 rfl) ?_
      refine y_ldcS B sl_11 dX4_readGive_59 ?_
      refine y_ci hf (fun q hq => x_runV (ci := 3) (C := RX3) B.1 B.2.2.2 hl hR hS cm_X4_93 ⟨rfl, rfl, Nat.le_of_ble_eq_true rfl, Nat.le_of_ble_eq_true rfl⟩ (by decide) rfl k_p1 (c_X3_isWord k_p1 (by decide) hq) rfl rfl (Nat.le_of_ble_eq_true rfl) dX4_readGive_61 ⟨Nat.le_of_ble_eq_true rfl, Nat.le_of_ble_eq_true rfl⟩) hS (fun r16 S15 H locs hf hR hS => ?_)
      refine y_if_eq (tgt := 148) B hf dX4_readGive_64 (by decide) (fun hf => ?_) (fun hf => ?_)
      · refine lv_aload_n B.1.1 B.1.2.1 dX4_readGive_148 rfl (hl.at 1 rfl) ?_
        refine lv_bipush (v := 59) B.1.1 B.1.2.1 dX4_readGive_149 (by decide) ?_
        refine y_ci hf (fun q hq => x_runV (ci := 3) (C := RX3) B.1 B.2.2.2 hl hR hS cm_X4_134 ⟨rfl, rfl, Nat.le_of_ble_eq_true rfl, Nat.le_of_ble_eq_true rfl⟩ (by decide) rfl k_p1 (c_X3_needSign k_p1 hq) rfl rfl (Nat.le_of_ble_eq_true rfl) dX4_readGive_151 ⟨Nat.le_of_ble_eq_true rfl, Nat.le_of_ble_eq_true rfl⟩) hS (fun r18 S17 H locs hf hR hS => ?_)
        exact y_zret B hR hS hf dX4_readGive_154
      · refine lv_aload_n B.1.1 B.1.2.1 dX4_readGive_67 rfl (hl.at 1 rfl) ?_
        refine y_cv hf (fun q hq => x_runV (ci := 3) (C := RX3) B.1 B.2.2.2 hl hR hS cm_X4_97 ⟨rfl, rfl, Nat.le_of_ble_eq_true rfl, Nat.le_of_ble_eq_true rfl⟩ (by decide) rfl k_p1 (c_X3_advance k_p1 hq) rfl rfl (Nat.le_of_ble_eq_true rfl) dX4_readGive_68 ⟨Nat.le_of_ble_eq_true rfl, Nat.le_of_ble_eq_true rfl⟩) hS (fun S19 H locs hf hR hS => ?_)
        refine lv_aload_n B.1.1 B.1.2.1 dX4_readGive_71 rfl (hl.at 0 rfl) ?_
        refine lv_aload_n B.1.1 B.1.2.1 dX4_readGive_72 rfl (hl.at 1 rfl) ?_
        refine y_ci hf (fun q hq => x_runV (ci := 4) (C := RX4) B.1 B.2.2.2 hl hR hS cm_X4_117 ⟨rfl, rfl, Nat.le_of_ble_eq_true rfl, Nat.le_of_ble_eq_true rfl⟩ (by decide) rfl k_p0 (c_X4_readSum k_p0 k_p1 hq) rfl rfl (Nat.le_of_ble_eq_true rfl) dX4_readGive_73 ⟨Nat.le_of_ble_eq_true rfl, Nat.le_of_ble_eq_true rfl⟩) hS (fun r21 S20 H locs hf hR hS => ?_)
        refine y_if_ne (tgt := 81) B hf dX4_readGive_76 (by decide) (fun hf => ?_) (fun hf => ?_)
        · refine lv_aload_n B.1.1 B.1.2.1 dX4_readGive_81 rfl (hl.at 0 rfl) ?_
          refine y_getR B hR hf k_p0 fl_X4_21 dX4_readGive_82 (fun a22 k_a22 hf => ?_)
          refine lv_iload_n B.1.1 B.1.2.1 dX4_readGive_85 rfl (hl.at 2 rfl) ?_
          refine lv_aload_n B.1.1 B.1.2.1 dX4_readGive_86 rfl (hl.at 0 rfl) ?_
          refine y_getI B hR k_p0 fl_X4_114 dX4_readGive_87 ?_
          refine y_iast B hR hS hf k_a22 dX4_readGive_90 (fun S23 H locs hf hR hS => ?_)
          refine lv_aload_n B.1.1 B.1.2.1 dX4_readGive_91 rfl (hl.at 1 rfl) ?_
          refine lv_bipush (v := 60) B.1.1 B.1.2.1 dX4_readGive_92 (by decide) ?_
          refine y_ci hf (fun q hq => x_runV (ci := 3) (C := RX3) B.1 B.2.2.2 hl hR hS cm_X4_123 ⟨rfl, rfl, Nat.le_of_ble_eq_true rfl, Nat.le_of_ble_eq_true rfl⟩ (by decide) rfl k_p1 (c_X3_isSign k_p1 hq) rfl rfl (Nat.le_of_ble_eq_true rfl) dX4_readGive_94 ⟨Nat.le_of_ble_eq_true rfl, Nat.le_of_ble_eq_true rfl⟩) hS (fun r25 S24 H locs hf hR hS => ?_)
          refine y_if_ne (tgt := 114) B hf dX4_readGive_97 (by decide) (fun hf => ?_) (fun hf => ?_)
          · exact w_X4_readGive_114 B _ _ _ _ _ _ _ k_p0 k_p1 hf hR hS hl
          · refine lv_aload_n B.1.1 B.1.2.1 dX4_readGive_100 rfl (hl.at 1 rfl) ?_
            refine lv_bipush (v := 62) B.1.1 B.1.2.1 dX4_readGive_101 (by decide) ?_
            refine y_ci hf (fun q hq => x_runV (ci := 3) (C := RX3) B.1 B.2.2.2 hl hR hS cm_X4_123 ⟨rfl, rfl, Nat.le_of_ble_eq_true rfl, Nat.le_of_ble_eq_true rfl⟩ (by decide) rfl k_p1 (c_X3_isSign k_p1 hq) rfl rfl (Nat.le_of_ble_eq_true rfl) dX4_readGive_103 ⟨Nat.le_of_ble_eq_true rfl, Nat.le_of_ble_eq_true rfl⟩) hS (fun r27 S26 H locs hf hR hS => ?_)
            refine y_if_ne (tgt := 114) B hf dX4_readGive_106 (by decide) (fun hf => ?_) (fun hf => ?_)
            · exact w_X4_readGive_114 B _ _ _ _ _ _ _ k_p0 k_p1 hf hR hS hl
            · refine lv_aload_n B.1.1 B.1.2.1 dX4_readGive_109 rfl (hl.at 1 rfl) ?_
              refine y_ci hf (fun q hq => x_runV (ci := 3) (C := RX3) B.1 B.2.2.2 hl hR hS cm_X4_127 ⟨rfl, rfl, Nat.le_of_ble_eq_true rfl, Nat.le_of_ble_eq_true rfl⟩ (by decide) rfl k_p1 (c_X3_refuse k_p1 hq) rfl rfl (Nat.le_of_ble_eq_true rfl) dX4_readGive_110 ⟨Nat.le_of_ble_eq_true rfl, Nat.le_of_ble_eq_true rfl⟩) hS (fun r29 S28 H locs hf hR hS => ?_)
              exact y_zret B hR hS hf dX4_readGive_113
        · refine lv_iconst (v := 0) B.1.1 B.1.2.1 dX4_readGive_79 (by decide) ?_
          exact y_zretK B hR hS hf rfl dX4_readGive_80
    · refine lv_iconst (v := 0) B.1.1 B.1.2.1 dX4_readGive_38 (by decide) ?_
      exact y_zretK B hR hS hf rfl dX4_readGive_39
abbrev xr_X4_readSpecials : Room := { frames := 10, cells := 0, slots := 0, locals := 208 }
def f_X4_readSpecials_6 (T : xT) : Nat → xS → Nat → Nat → Int32 → Option (Int32 × xS)
  | 0, _, _, _, _ => none
  | n + 1, S, p0, p1, p2 => if (8 : Int32) ≤ p2 then xc (f_X3_needEnd T S p1) (fun r2 S1 => if r2 = (0 : Int32) then some ((-1 : Int32), S1) else some ((S1.1 p0 0), S1)) else xc (f_X3_isWord T S p1 3) (fun r4 S3 => if r4 = (0 : Int32) then xc (f_X3_needEnd T S3 p1) (fun r6 S5 => if r6 = (0 : Int32) then some ((-1 : Int32), S5) else some ((S5.1 p0 0), S5)) else xcv (f_X3_advance T S3 p1) (fun S7 => xc (f_X4_readGive T S7 p0 p1 p2) (fun r9 S8 => if r9 = (0 : Int32) then some ((-1 : Int32), S8) else xpi S8 p0 0 (((S8.1 p0 0) + (1 : Int32))) (fun S10 => xl (p2 + (1 : Int32)) (fun v11 => f_X4_readSpecials_6 T n S10 p0 p1 v11)))))
set_option maxRecDepth 100000 in
set_option maxHeartbeats 4000000 in
theorem w_X4_readSpecials_6 {p : Program} {l : Launch} {e : Env} {s : State} {m : MethodId} {args : Array Value} {below : List Frame} {meth : Method} {c : Code} {z : Nat} {D : va_G} {dA : Nat → ClassId} {T : xT} (B : xB p s m args meth c cX4_readSpecials RX4 3 (some .int) D dA) {q : Int32 × xS} : ∀ (n : Nat), ∀ (S : xS) (H : Heap) (locs : List Loc) (ls : Array Slot) (p0 : Nat) (p1 : Nat) (p2 : Int32), xlk T p0 4 = true → xlk T p1 3 = true → f_X4_readSpecials_6 T n S p0 p1 p2 = some q → xRel z D dA T S H → va_S (xA z) s.heap H locs → xL ls 3 [some (.ref (z + p0)), some (.ref (z + p1)), some (.int p2)] → xGi p l e xr_X4_readSpecials s m args below meth c z D dA T q H locs 6 ls [] := by
  intro n
  induction n with
  | zero =>
    intro S H locs ls p0 p1 p2 k_p0 k_p1 hf hR hS hl
    exact absurd hf (by simp [f_X4_readSpecials_6])
  | succ n ih =>
    intro S H locs ls p0 p1 p2 k_p0 k_p1 hf hR hS hl
    unfold f_X4_readSpecials_6 at hf
    refine lv_iload_n B.1.1 B.1.2.1 dX4_readSpecials_6 rfl (hl.at 2 rfl) ?_
    refine lv_bipush (v := 8) B.1.1 B.1.2.1 dX4_readSpecials_7 (by decide) ?_
    refine y_icmp_ge (tgt := 52) B hf dX4_readSpecials_9 (by decide) (fun hf => ?_) (fun hf => ?_)
    · refine lv_aload_n B.1.1 B.1.2.1 dX4_readSpecials_52 rfl (hl.at 1 rfl) ?_
      refine y_ci hf (fun q hq => x_runV (ci := 3) (C := RX3) B.1 B.2.2.2 hl hR hS cm_X4_107 ⟨rfl, rfl, Nat.le_of_ble_eq_true rfl, Nat.le_of_ble_eq_true rfl⟩ (by decide) rfl k_p1 (c_X3_needEnd k_p1 hq) rfl rfl (Nat.le_of_ble_eq_true rfl) dX4_readSpecials_53 ⟨Nat.le_of_ble_eq_true rfl, Nat.le_of_ble_eq_true rfl⟩) hS (fun r2 S1 H locs hf hR hS => ?_)
      refine y_if_eq (tgt := 66) B hf dX4_readSpecials_56 (by decide) (fun hf => ?_) (fun hf => ?_)
      · refine lv_iconst (v := -1) B.1.1 B.1.2.1 dX4_readSpecials_66 (by decide) ?_
        exact y_iret B hR hS hf dX4_readSpecials_67
      · refine lv_aload_n B.1.1 B.1.2.1 dX4_readSpecials_59 rfl (hl.at 0 rfl) ?_
        refine y_getI B hR k_p0 fl_X4_104 dX4_readSpecials_60 ?_
        refine lv_goto (tgt := 67) B.1.1 B.1.2.1 dX4_readSpecials_63 (by decide) ?_
        exact y_iret B hR hS hf dX4_readSpecials_67
    · refine lv_aload_n B.1.1 B.1.2.1 dX4_readSpecials_12 rfl (hl.at 1 rfl) ?_
      refine y_ldcS B sl_3 dX4_readSpecials_13 ?_
      refine y_ci hf (fun q hq => x_runV (ci := 3) (C := RX3) B.1 B.2.2.2 hl hR hS cm_X4_93 ⟨rfl, rfl, Nat.le_of_ble_eq_true rfl, Nat.le_of_ble_eq_true rfl⟩ (by decide) rfl k_p1 (c_X3_isWord k_p1 (by decide) hq) rfl rfl (Nat.le_of_ble_eq_true rfl) dX4_readSpecials_15 ⟨Nat.le_of_ble_eq_true rfl, Nat.le_of_ble_eq_true rfl⟩) hS (fun r4 S3 H locs hf hR hS => ?_)
      refine y_if_eq (tgt := 52) B hf dX4_readSpecials_18 (by decide) (fun hf => ?_) (fun hf => ?_)
      · refine lv_aload_n B.1.1 B.1.2.1 dX4_readSpecials_52 rfl (hl.at 1 rfl) ?_
        refine y_ci hf (fun q hq => x_runV (ci := 3) (C := RX3) B.1 B.2.2.2 hl hR hS cm_X4_107 ⟨rfl, rfl, Nat.le_of_ble_eq_true rfl, Nat.le_of_ble_eq_true rfl⟩ (by decide) rfl k_p1 (c_X3_needEnd k_p1 hq) rfl rfl (Nat.le_of_ble_eq_true rfl) dX4_readSpecials_53 ⟨Nat.le_of_ble_eq_true rfl, Nat.le_of_ble_eq_true rfl⟩) hS (fun r6 S5 H locs hf hR hS => ?_)
        refine y_if_eq (tgt := 66) B hf dX4_readSpecials_56 (by decide) (fun hf => ?_) (fun hf => ?_)
        · refine lv_iconst (v := -1) B.1.1 B.1.2.1 dX4_readSpecials_66 (by decide) ?_
          exact y_iret B hR hS hf dX4_readSpecials_67
        · refine lv_aload_n B.1.1 B.1.2.1 dX4_readSpecials_59 rfl (hl.at 0 rfl) ?_
          refine y_getI B hR k_p0 fl_X4_104 dX4_readSpecials_60 ?_
          refine lv_goto (tgt := 67) B.1.1 B.1.2.1 dX4_readSpecials_63 (by decide) ?_
          exact y_iret B hR hS hf dX4_readSpecials_67
      · refine lv_aload_n B.1.1 B.1.2.1 dX4_readSpecials_21 rfl (hl.at 1 rfl) ?_
        refine y_cv hf (fun q hq => x_runV (ci := 3) (C := RX3) B.1 B.2.2.2 hl hR hS cm_X4_97 ⟨rfl, rfl, Nat.le_of_ble_eq_true rfl, Nat.le_of_ble_eq_true rfl⟩ (by decide) rfl k_p1 (c_X3_advance k_p1 hq) rfl rfl (Nat.le_of_ble_eq_true rfl) dX4_readSpecials_22 ⟨Nat.le_of_ble_eq_true rfl, Nat.le_of_ble_eq_true rfl⟩) hS (fun S7 H locs hf hR hS => ?_)
        refine lv_aload_n B.1.1 B.1.2.1 dX4_readSpecials_25 rfl (hl.at 0 rfl) ?_
        refine lv_aload_n B.1.1 B.1.2.1 dX4_readSpecials_26 rfl (hl.at 1 rfl) ?_
        refine lv_iload_n B.1.1 B.1.2.1 dX4_readSpecials_27 rfl (hl.at 2 rfl) ?_
        refine y_ci hf (fun q hq => x_runV (ci := 4) (C := RX4) B.1 B.2.2.2 hl hR hS cm_X4_100 ⟨rfl, rfl, Nat.le_of_ble_eq_true rfl, Nat.le_of_ble_eq_true rfl⟩ (by decide) rfl k_p0 (c_X4_readGive k_p0 k_p1 hq) rfl rfl (Nat.le_of_ble_eq_true rfl) dX4_readSpecials_28 ⟨Nat.le_of_ble_eq_true rfl, Nat.le_of_ble_eq_true rfl⟩) hS (fun r9 S8 H locs hf hR hS => ?_)
        refine y_if_ne (tgt := 36) B hf dX4_readSpecials_31 (by decide) (fun hf => ?_) (fun hf => ?_)
        · refine lv_aload_n B.1.1 B.1.2.1 dX4_readSpecials_36 rfl (hl.at 0 rfl) ?_
          refine lv_dup B.1.1 B.1.2.1 dX4_readSpecials_37 rfl ?_
          refine y_getI B hR k_p0 fl_X4_104 dX4_readSpecials_38 ?_
          refine lv_iconst (v := 1) B.1.1 B.1.2.1 dX4_readSpecials_41 (by decide) ?_
          refine lv_iadd B.1.1 B.1.2.1 dX4_readSpecials_42 ?_
          refine y_putI B hR hS hf k_p0 fp_X4_104 dX4_readSpecials_43 (fun S10 H locs hf hR hS => ?_)
          refine y_iinc (d := 1) B hl hf dX4_readSpecials_46 rfl (by decide) (by decide) rfl (fun v11 ls hf hl => ?_)
          have hl : xL ls 3 [_, _, _] := hl
          refine lv_goto (tgt := 6) B.1.1 B.1.2.1 dX4_readSpecials_49 (by decide) ?_
          exact ih _ _ _ _ _ _ _ k_p0 k_p1 hf hR hS hl
        · refine lv_iconst (v := -1) B.1.1 B.1.2.1 dX4_readSpecials_34 (by decide) ?_
          exact y_iret B hR hS hf dX4_readSpecials_35
def f_X4_readSpecials (T : xT) (S : xS) (p0 : Nat) (p1 : Nat) : Option (Int32 × xS) := xcv (f_X3_start T S p1) (fun S1 => xl ((0 : Int32)) (fun v2 => f_X4_readSpecials_6 T xfu S1 p0 p1 v2))
set_option maxRecDepth 100000 in
set_option maxHeartbeats 4000000 in
theorem c_X4_readSpecials {l : Launch} {z : Nat} {D : va_G} {dA : Nat → ClassId} {T : xT} {S : xS} {p0 : Nat} {p1 : Nat} (k_p0 : xlk T p0 4 = true) (k_p1 : xlk T p1 3 = true) {q : Int32 × xS} (hf : f_X4_readSpecials T S p0 p1 = some q) : Met l yX4_readSpecials (xws yX4_readSpecials cX4_readSpecials 3 (some .int)) xr_X4_readSpecials (xPc z D dA T S [.ref (z + p0), .ref (z + p1)]) (xQi z D dA T q) 0 0 (xA z) := by
  refine x_met RX4 (by decide) rfl (Nat.le_of_ble_eq_true rfl) ?_
  intro p e s m below meth c ls _ X hr hlk hml _ hR hS hl
  have B : xB p s m _ meth c cX4_readSpecials RX4 3 (some .int) D dA := ⟨X, hr, hlk, hml⟩
  have hl : xL ls 3 [_, _, _] := hl
  unfold f_X4_readSpecials at hf
  refine lv_aload_n B.1.1 B.1.2.1 dX4_readSpecials_0 rfl (hl.at 1 rfl) ?_
  refine y_cv hf (fun q hq => x_runV (ci := 3) (C := RX3) B.1 B.2.2.2 hl hR hS cm_X4_86 ⟨rfl, rfl, Nat.le_of_ble_eq_true rfl, Nat.le_of_ble_eq_true rfl⟩ (by decide) rfl k_p1 (c_X3_start k_p1 hq) rfl rfl (Nat.le_of_ble_eq_true rfl) dX4_readSpecials_1 ⟨Nat.le_of_ble_eq_true rfl, Nat.le_of_ble_eq_true rfl⟩) hS (fun S1 H locs hf hR hS => ?_)
  refine lv_iconst (v := 0) B.1.1 B.1.2.1 dX4_readSpecials_4 (by decide) ?_
  refine y_istore_n B hl hf dX4_readSpecials_5 rfl (by decide) rfl (fun v2 ls hf hl => ?_)
  have hl : xL ls 3 [_, _, _] := hl
  exact w_X4_readSpecials_6 B xfu _ _ _ _ _ _ _ k_p0 k_p1 hf hR hS hl
abbrev xr_X7_copySteps : Room := { frames := 1, cells := 0, slots := 0, locals := 37 }
def f_X7_copySteps (T : xT) (S : xS) (p0 : Nat) (p1 : Nat) : Option (xS) := xgd (xnz ((S.1 p1 0))) (xpi S p0 0 ((S.1 p1 0)) (fun S1 => xpi S1 p0 1 ((S1.1 p1 1)) (fun S2 => xgr T S2 p1 2 20 (fun a3 => xgr T S2 p0 2 20 (fun a4 => xgr T S2 p0 2 20 (fun a5 => xcp T S2 a3 ((0 : Int32)) a4 ((0 : Int32)) ((Int32.ofNat (T.2.1 a5))) (fun S6 => some S6)))))))
set_option maxRecDepth 100000 in
set_option maxHeartbeats 4000000 in
theorem c_X7_copySteps {l : Launch} {z : Nat} {D : va_G} {dA : Nat → ClassId} {T : xT} {S : xS} {p0 : Nat} {p1 : Nat} (k_p0 : xlk T p0 7 = true) (k_p1 : xlk T p1 7 = true) {q : xS} (hf : f_X7_copySteps T S p0 p1 = some q) : Met l yX7_copySteps (xws yX7_copySteps cX7_copySteps 2 none) xr_X7_copySteps (xPc z D dA T S [.ref (z + p0), .ref (z + p1)]) (xQv z D dA T q) 0 0 (xA z) := by
  refine x_met RX7 (by decide) rfl (Nat.le_of_ble_eq_true rfl) ?_
  intro p e s m below meth c ls _ X hr hlk hml _ hR hS hl
  have B : xB p s m _ meth c cX7_copySteps RX7 2 none D dA := ⟨X, hr, hlk, hml⟩
  have hl : xL ls 2 [_, _] := hl
  unfold f_X7_copySteps at hf
  refine lv_aload_n B.1.1 B.1.2.1 dX7_copySteps_0 rfl (hl.at 0 rfl) ?_
  refine lv_aload_n B.1.1 B.1.2.1 dX7_copySteps_1 rfl (hl.at 1 rfl) ?_
  refine y_getI B hR k_p1 fl_X7_15 dX7_copySteps_2 ?_
  refine y_putZ B hR hS hf k_p0 fp_X7_15 dX7_copySteps_5 (fun S1 H locs hf hR hS => ?_)
  refine lv_aload_n B.1.1 B.1.2.1 dX7_copySteps_8 rfl (hl.at 0 rfl) ?_
  refine lv_aload_n B.1.1 B.1.2.1 dX7_copySteps_9 rfl (hl.at 1 rfl) ?_
  refine y_getI B hR k_p1 fl_X7_19 dX7_copySteps_10 ?_
  refine y_putI B hR hS hf k_p0 fp_X7_19 dX7_copySteps_13 (fun S2 H locs hf hR hS => ?_)
  refine lv_aload_n B.1.1 B.1.2.1 dX7_copySteps_16 rfl (hl.at 1 rfl) ?_
  refine y_getR B hR hf k_p1 fl_X7_9 dX7_copySteps_17 (fun a3 k_a3 hf => ?_)
  refine lv_iconst (v := 0) B.1.1 B.1.2.1 dX7_copySteps_20 (by decide) ?_
  refine lv_aload_n B.1.1 B.1.2.1 dX7_copySteps_21 rfl (hl.at 0 rfl) ?_
  refine y_getR B hR hf k_p0 fl_X7_9 dX7_copySteps_22 (fun a4 k_a4 hf => ?_)
  refine lv_iconst (v := 0) B.1.1 B.1.2.1 dX7_copySteps_25 (by decide) ?_
  refine lv_aload_n B.1.1 B.1.2.1 dX7_copySteps_26 rfl (hl.at 0 rfl) ?_
  refine y_getR B hR hf k_p0 fl_X7_9 dX7_copySteps_27 (fun a5 k_a5 hf => ?_)
  refine y_alen B hR k_a5 dX7_copySteps_30 ?_
  refine y_copy B hl hR hS ac_X7_23 hf k_a3 k_a4 ⟨Nat.le_of_ble_eq_true rfl, Nat.le_of_ble_eq_true rfl⟩ dX7_copySteps_31 (fun S6 H locs hf hR hS => ?_)
  exact y_vret B hR hS hf dX7_copySteps_34
abbrev xr_X5_copyState : Room := { frames := 3, cells := 0, slots := 0, locals := 79 }
def f_X5_copyState (T : xT) (S : xS) (p0 : Nat) (p1 : Nat) : Option (xS) := xgr T S p0 0 1 (fun a1 => xgr T S p1 0 1 (fun a2 => xcv (f_X1_copyBooks T S a1 a2) (fun S3 => xgr T S3 p0 1 7 (fun a4 => xgr T S3 p1 1 7 (fun a5 => xcv (f_X7_copySteps T S3 a4 a5) (fun S6 => xgr T S6 p1 2 8 (fun a7 => xpr S6 p0 2 a7 (fun S8 => xgr T S8 p1 3 4 (fun a9 => xpr S8 p0 3 a9 (fun S10 => some S10))))))))))
set_option maxRecDepth 100000 in
set_option maxHeartbeats 4000000 in
theorem c_X5_copyState {l : Launch} {z : Nat} {D : va_G} {dA : Nat → ClassId} {T : xT} {S : xS} {p0 : Nat} {p1 : Nat} (k_p0 : xlk T p0 5 = true) (k_p1 : xlk T p1 5 = true) {q : xS} (hf : f_X5_copyState T S p0 p1 = some q) : Met l yX5_copyState (xws yX5_copyState cX5_copyState 2 none) xr_X5_copyState (xPc z D dA T S [.ref (z + p0), .ref (z + p1)]) (xQv z D dA T q) 0 0 (xA z) := by
  refine x_met RX5 (by decide) rfl (Nat.le_of_ble_eq_true rfl) ?_
  intro p e s m below meth c ls _ X hr hlk hml _ hR hS hl
  have B : xB p s m _ meth c cX5_copyState RX5 2 none D dA := ⟨X, hr, hlk, hml⟩
  have hl : xL ls 2 [_, _] := hl
  unfold f_X5_copyState at hf
  refine lv_aload_n B.1.1 B.1.2.1 dX5_copyState_0 rfl (hl.at 0 rfl) ?_
  refine y_getR B hR hf k_p0 fl_X5_10 dX5_copyState_1 (fun a1 k_a1 hf => ?_)
  refine lv_aload_n B.1.1 B.1.2.1 dX5_copyState_4 rfl (hl.at 1 rfl) ?_
  refine y_getR B hR hf k_p1 fl_X5_10 dX5_copyState_5 (fun a2 k_a2 hf => ?_)
  refine y_cv hf (fun q hq => x_runV (ci := 1) (C := RX1) B.1 B.2.2.2 hl hR hS cm_X5_31 ⟨rfl, rfl, Nat.le_of_ble_eq_true rfl, Nat.le_of_ble_eq_true rfl⟩ (by decide) rfl k_a1 (c_X1_copyBooks k_a1 k_a2 hq) rfl rfl (Nat.le_of_ble_eq_true rfl) dX5_copyState_8 ⟨Nat.le_of_ble_eq_true rfl, Nat.le_of_ble_eq_true rfl⟩) hS (fun S3 H locs hf hR hS => ?_)
  refine lv_aload_n B.1.1 B.1.2.1 dX5_copyState_11 rfl (hl.at 0 rfl) ?_
  refine y_getR B hR hf k_p0 fl_X5_19 dX5_copyState_12 (fun a4 k_a4 hf => ?_)
  refine lv_aload_n B.1.1 B.1.2.1 dX5_copyState_15 rfl (hl.at 1 rfl) ?_
  refine y_getR B hR hf k_p1 fl_X5_19 dX5_copyState_16 (fun a5 k_a5 hf => ?_)
  refine y_cv hf (fun q hq => x_runV (ci := 7) (C := RX7) B.1 B.2.2.2 hl hR hS cm_X5_35 ⟨rfl, rfl, Nat.le_of_ble_eq_true rfl, Nat.le_of_ble_eq_true rfl⟩ (by decide) rfl k_a4 (c_X7_copySteps k_a4 k_a5 hq) rfl rfl (Nat.le_of_ble_eq_true rfl) dX5_copyState_19 ⟨Nat.le_of_ble_eq_true rfl, Nat.le_of_ble_eq_true rfl⟩) hS (fun S6 H locs hf hR hS => ?_)
  refine lv_aload_n B.1.1 B.1.2.1 dX5_copyState_22 rfl (hl.at 0 rfl) ?_
  refine lv_aload_n B.1.1 B.1.2.1 dX5_copyState_23 rfl (hl.at 1 rfl) ?_
  refine y_getR B hR hf k_p1 fl_X5_23 dX5_copyState_24 (fun a7 k_a7 hf => ?_)
  refine y_putR B hR hS hf (fun _ => rfl) (fun _ => rfl) k_p0 fp_X5_23 dX5_copyState_27 (fun S8 H locs hf hR hS => ?_)
  refine lv_aload_n B.1.1 B.1.2.1 dX5_copyState_30 rfl (hl.at 0 rfl) ?_
  refine lv_aload_n B.1.1 B.1.2.1 dX5_copyState_31 rfl (hl.at 1 rfl) ?_
  refine y_getR B hR hf k_p1 fl_X5_27 dX5_copyState_32 (fun a9 k_a9 hf => ?_)
  refine y_putR B hR hS hf (fun _ => rfl) (fun _ => rfl) k_p0 fp_X5_27 dX5_copyState_35 (fun S10 H locs hf hR hS => ?_)
  exact y_vret B hR hS hf dX5_copyState_38
