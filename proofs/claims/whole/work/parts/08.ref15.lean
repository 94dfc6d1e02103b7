abbrev xr_X10_write : Room := { frames := 4, cells := 0, slots := 0, locals := 77 }
def f_X10_write_7 (T : xT) : Nat → xS → Nat → Int32 → Option (Int32 × xS)
  | 0, _, _, _ => none
  | n + 1, S, p0, p1 => if (8 : Int32) ≤ p1 then xcv (f_X10_writes T S p0 ((61 : Int32))) (fun S1 => xc (f_X10_net T S1 p0) (fun r3 S2 => xcv (f_X10_writeNumber T S2 p0 r3) (fun S4 => xcv (f_X10_writes T S4 p0 ((46 : Int32))) (fun S5 => some ((S5.1 p0 33), S5))))) else xc (f_X10_isThere T S p0 p1) (fun r7 S6 => if r7 = (0 : Int32) then xl (p1 + (1 : Int32)) (fun v23 => f_X10_write_7 T n S6 p0 v23) else xcv (f_X10_writes T S6 p0 (((97 : Int32) + p1))) (fun S8 => xcv (f_X10_writes T S8 p0 ((58 : Int32))) (fun S9 => xc (f_X10_get T S9 p0 (((5 : Int32) + p1))) (fun r11 S10 => xcv (f_X10_writeNumber T S10 p0 r11) (fun S12 => xcv (f_X10_writes T S12 p0 ((44 : Int32))) (fun S13 => xc (f_X10_get T S13 p0 (((29 : Int32) + p1))) (fun r15 S14 => xcv (f_X10_writeNumber T S14 p0 r15) (fun S16 => xcv (f_X10_writes T S16 p0 ((44 : Int32))) (fun S17 => xc (f_X10_get T S17 p0 (((37 : Int32) + p1))) (fun r19 S18 => xcv (f_X10_writeNumber T S18 p0 r19) (fun S20 => xcv (f_X10_writes T S20 p0 ((59 : Int32))) (fun S21 => xl (p1 + (1 : Int32)) (fun v22 => f_X10_write_7 T n S21 p0 v22)))))))))))))
set_option maxRecDepth 100000 in
set_option maxHeartbeats 4000000 in
theorem w_X10_write_7 {p : Program} {l : Launch} {e : Env} {s : State} {m : MethodId} {args : Array Value} {below : List Frame} {meth : Method} {c : Code} {z : Nat} {D : va_G} {dA : Nat → ClassId} {T : xT} (B : xB p s m args meth c cX10_write RX10 2 (some .int) D dA) {q : Int32 × xS} : ∀ (n : Nat), ∀ (S : xS) (H : Heap) (locs : List Loc) (ls : Array Slot) (p0 : Nat) (p1 : Int32), xlk T p0 10 = true → f_X10_write_7 T n S p0 p1 = some q → xRel z D dA T S H → va_S (xA z) s.heap H locs → xL ls 2 [some (.ref (z + p0)), some (.int p1)] → xGi p l e xr_X10_write s m args below meth c z D dA T q H locs 7 ls [] := by
  intro n
  induction n with
  | zero =>
    intro S H locs ls p0 p1 k_p0 hf hR hS hl
    exact absurd hf (by simp [f_X10_write_7])
  | succ n ih =>
    intro S H locs ls p0 p1 k_p0 hf hR hS hl
    unfold f_X10_write_7 at hf
    refine lv_iload_n B.1.1 B.1.2.1 dX10_write_7 rfl (hl.at 1 rfl) ?_
    refine lv_bipush (v := 8) B.1.1 B.1.2.1 dX10_write_8 (by decide) ?_
    refine y_icmp_ge (tgt := 97) B hf dX10_write_10 (by decide) (fun hf => ?_) (fun hf => ?_)
    · refine lv_aload_n B.1.1 B.1.2.1 dX10_write_97 rfl (hl.at 0 rfl) ?_
      refine lv_bipush (v := 61) B.1.1 B.1.2.1 dX10_write_98 (by decide) ?_
      refine y_cv hf (fun q hq => x_runV (ci := 10) (C := RX10) B.1 B.2.2.2 hl hR hS cm_X10_449 ⟨rfl, rfl, Nat.le_of_ble_eq_true rfl, Nat.le_of_ble_eq_true rfl⟩ (by decide) rfl k_p0 (c_X10_writes k_p0 hq) rfl rfl (Nat.le_of_ble_eq_true rfl) dX10_write_100 ⟨Nat.le_of_ble_eq_true rfl, Nat.le_of_ble_eq_true rfl⟩) hS (fun S1 H locs hf hR hS => ?_)
      refine lv_aload_n B.1.1 B.1.2.1 dX10_write_103 rfl (hl.at 0 rfl) ?_
      refine lv_aload_n B.1.1 B.1.2.1 dX10_write_104 rfl (hl.at 0 rfl) ?_
      refine y_ci hf (fun q hq => x_runV (ci := 10) (C := RX10) B.1 B.2.2.2 hl hR hS cm_X10_231 ⟨rfl, rfl, Nat.le_of_ble_eq_true rfl, Nat.le_of_ble_eq_true rfl⟩ (by decide) rfl k_p0 (c_X10_net k_p0 hq) rfl rfl (Nat.le_of_ble_eq_true rfl) dX10_write_105 ⟨Nat.le_of_ble_eq_true rfl, Nat.le_of_ble_eq_true rfl⟩) hS (fun r3 S2 H locs hf hR hS => ?_)
      refine y_cv hf (fun q hq => x_runV (ci := 10) (C := RX10) B.1 B.2.2.2 hl hR hS cm_X10_452 ⟨rfl, rfl, Nat.le_of_ble_eq_true rfl, Nat.le_of_ble_eq_true rfl⟩ (by decide) rfl k_p0 (c_X10_writeNumber k_p0 hq) rfl rfl (Nat.le_of_ble_eq_true rfl) dX10_write_108 ⟨Nat.le_of_ble_eq_true rfl, Nat.le_of_ble_eq_true rfl⟩) hS (fun S4 H locs hf hR hS => ?_)
      refine lv_aload_n B.1.1 B.1.2.1 dX10_write_111 rfl (hl.at 0 rfl) ?_
      refine lv_bipush (v := 46) B.1.1 B.1.2.1 dX10_write_112 (by decide) ?_
      refine y_cv hf (fun q hq => x_runV (ci := 10) (C := RX10) B.1 B.2.2.2 hl hR hS cm_X10_449 ⟨rfl, rfl, Nat.le_of_ble_eq_true rfl, Nat.le_of_ble_eq_true rfl⟩ (by decide) rfl k_p0 (c_X10_writes k_p0 hq) rfl rfl (Nat.le_of_ble_eq_true rfl) dX10_write_114 ⟨Nat.le_of_ble_eq_true rfl, Nat.le_of_ble_eq_true rfl⟩) hS (fun S5 H locs hf hR hS => ?_)
      refine lv_aload_n B.1.1 B.1.2.1 dX10_write_117 rfl (hl.at 0 rfl) ?_
      refine y_getI B hR k_p0 fl_X10_446 dX10_write_118 ?_
      exact y_iret B hR hS hf dX10_write_121
    · refine lv_aload_n B.1.1 B.1.2.1 dX10_write_13 rfl (hl.at 0 rfl) ?_
      refine lv_iload_n B.1.1 B.1.2.1 dX10_write_14 rfl (hl.at 1 rfl) ?_
      refine y_ci hf (fun q hq => x_runV (ci := 10) (C := RX10) B.1 B.2.2.2 hl hR hS cm_X10_203 ⟨rfl, rfl, Nat.le_of_ble_eq_true rfl, Nat.le_of_ble_eq_true rfl⟩ (by decide) rfl k_p0 (c_X10_isThere k_p0 hq) rfl rfl (Nat.le_of_ble_eq_true rfl) dX10_write_15 ⟨Nat.le_of_ble_eq_true rfl, Nat.le_of_ble_eq_true rfl⟩) hS (fun r7 S6 H locs hf hR hS => ?_)
      refine y_if_ne (tgt := 24) B hf dX10_write_18 (by decide) (fun hf => ?_) (fun hf => ?_)
      · refine lv_aload_n B.1.1 B.1.2.1 dX10_write_24 rfl (hl.at 0 rfl) ?_
        refine lv_bipush (v := 97) B.1.1 B.1.2.1 dX10_write_25 (by decide) ?_
        refine lv_iload_n B.1.1 B.1.2.1 dX10_write_27 rfl (hl.at 1 rfl) ?_
        refine lv_iadd B.1.1 B.1.2.1 dX10_write_28 ?_
        refine y_cv hf (fun q hq => x_runV (ci := 10) (C := RX10) B.1 B.2.2.2 hl hR hS cm_X10_449 ⟨rfl, rfl, Nat.le_of_ble_eq_true rfl, Nat.le_of_ble_eq_true rfl⟩ (by decide) rfl k_p0 (c_X10_writes k_p0 hq) rfl rfl (Nat.le_of_ble_eq_true rfl) dX10_write_29 ⟨Nat.le_of_ble_eq_true rfl, Nat.le_of_ble_eq_true rfl⟩) hS (fun S8 H locs hf hR hS => ?_)
        refine lv_aload_n B.1.1 B.1.2.1 dX10_write_32 rfl (hl.at 0 rfl) ?_
        refine lv_bipush (v := 58) B.1.1 B.1.2.1 dX10_write_33 (by decide) ?_
        refine y_cv hf (fun q hq => x_runV (ci := 10) (C := RX10) B.1 B.2.2.2 hl hR hS cm_X10_449 ⟨rfl, rfl, Nat.le_of_ble_eq_true rfl, Nat.le_of_ble_eq_true rfl⟩ (by decide) rfl k_p0 (c_X10_writes k_p0 hq) rfl rfl (Nat.le_of_ble_eq_true rfl) dX10_write_35 ⟨Nat.le_of_ble_eq_true rfl, Nat.le_of_ble_eq_true rfl⟩) hS (fun S9 H locs hf hR hS => ?_)
        refine lv_aload_n B.1.1 B.1.2.1 dX10_write_38 rfl (hl.at 0 rfl) ?_
        refine lv_aload_n B.1.1 B.1.2.1 dX10_write_39 rfl (hl.at 0 rfl) ?_
        refine lv_iconst (v := 5) B.1.1 B.1.2.1 dX10_write_40 (by decide) ?_
        refine lv_iload_n B.1.1 B.1.2.1 dX10_write_41 rfl (hl.at 1 rfl) ?_
        refine lv_iadd B.1.1 B.1.2.1 dX10_write_42 ?_
        refine y_ci hf (fun q hq => x_runV (ci := 10) (C := RX10) B.1 B.2.2.2 hl hR hS cm_X10_193 ⟨rfl, rfl, Nat.le_of_ble_eq_true rfl, Nat.le_of_ble_eq_true rfl⟩ (by decide) rfl k_p0 (c_X10_get k_p0 hq) rfl rfl (Nat.le_of_ble_eq_true rfl) dX10_write_43 ⟨Nat.le_of_ble_eq_true rfl, Nat.le_of_ble_eq_true rfl⟩) hS (fun r11 S10 H locs hf hR hS => ?_)
        refine y_cv hf (fun q hq => x_runV (ci := 10) (C := RX10) B.1 B.2.2.2 hl hR hS cm_X10_452 ⟨rfl, rfl, Nat.le_of_ble_eq_true rfl, Nat.le_of_ble_eq_true rfl⟩ (by decide) rfl k_p0 (c_X10_writeNumber k_p0 hq) rfl rfl (Nat.le_of_ble_eq_true rfl) dX10_write_46 ⟨Nat.le_of_ble_eq_true rfl, Nat.le_of_ble_eq_true rfl⟩) hS (fun S12 H locs hf hR hS => ?_)
        refine lv_aload_n B.1.1 B.1.2.1 dX10_write_49 rfl (hl.at 0 rfl) ?_
        refine lv_bipush (v := 44) B.1.1 B.1.2.1 dX10_write_50 (by decide) ?_
        refine y_cv hf (fun q hq => x_runV (ci := 10) (C := RX10) B.1 B.2.2.2 hl hR hS cm_X10_449 ⟨rfl, rfl, Nat.le_of_ble_eq_true rfl, Nat.le_of_ble_eq_true rfl⟩ (by decide) rfl k_p0 (c_X10_writes k_p0 hq) rfl rfl (Nat.le_of_ble_eq_true rfl) dX10_write_52 ⟨Nat.le_of_ble_eq_true rfl, Nat.le_of_ble_eq_true rfl⟩) hS (fun S13 H locs hf hR hS => ?_)
        refine lv_aload_n B.1.1 B.1.2.1 dX10_write_55 rfl (hl.at 0 rfl) ?_
        refine lv_aload_n B.1.1 B.1.2.1 dX10_write_56 rfl (hl.at 0 rfl) ?_
        refine lv_bipush (v := 29) B.1.1 B.1.2.1 dX10_write_57 (by decide) ?_
        refine lv_iload_n B.1.1 B.1.2.1 dX10_write_59 rfl (hl.at 1 rfl) ?_
        refine lv_iadd B.1.1 B.1.2.1 dX10_write_60 ?_
        refine y_ci hf (fun q hq => x_runV (ci := 10) (C := RX10) B.1 B.2.2.2 hl hR hS cm_X10_193 ⟨rfl, rfl, Nat.le_of_ble_eq_true rfl, Nat.le_of_ble_eq_true rfl⟩ (by decide) rfl k_p0 (c_X10_get k_p0 hq) rfl rfl (Nat.le_of_ble_eq_true rfl) dX10_write_61 ⟨Nat.le_of_ble_eq_true rfl, Nat.le_of_ble_eq_true rfl⟩) hS (fun r15 S14 H locs hf hR hS => ?_)
        refine y_cv hf (fun q hq => x_runV (ci := 10) (C := RX10) B.1 B.2.2.2 hl hR hS cm_X10_452 ⟨rfl, rfl, Nat.le_of_ble_eq_true rfl, Nat.le_of_ble_eq_true rfl⟩ (by decide) rfl k_p0 (c_X10_writeNumber k_p0 hq) rfl rfl (Nat.le_of_ble_eq_true rfl) dX10_write_64 ⟨Nat.le_of_ble_eq_true rfl, Nat.le_of_ble_eq_true rfl⟩) hS (fun S16 H locs hf hR hS => ?_)
        refine lv_aload_n B.1.1 B.1.2.1 dX10_write_67 rfl (hl.at 0 rfl) ?_
        refine lv_bipush (v := 44) B.1.1 B.1.2.1 dX10_write_68 (by decide) ?_
        refine y_cv hf (fun q hq => x_runV (ci := 10) (C := RX10) B.1 B.2.2.2 hl hR hS cm_X10_449 ⟨rfl, rfl, Nat.le_of_ble_eq_true rfl, Nat.le_of_ble_eq_true rfl⟩ (by decide) rfl k_p0 (c_X10_writes k_p0 hq) rfl rfl (Nat.le_of_ble_eq_true rfl) dX10_write_70 ⟨Nat.le_of_ble_eq_true rfl, Nat.le_of_ble_eq_true rfl⟩) hS (fun S17 H locs hf hR hS => ?_)
        refine lv_aload_n B.1.1 B.1.2.1 dX10_write_73 rfl (hl.at 0 rfl) ?_
        refine lv_aload_n B.1.1 B.1.2.1 dX10_write_74 rfl (hl.at 0 rfl) ?_
        refine lv_bipush (v := 37) B.1.1 B.1.2.1 dX10_write_75 (by decide) ?_
        refine lv_iload_n B.1.1 B.1.2.1 dX10_write_77 rfl (hl.at 1 rfl) ?_
        refine lv_iadd B.1.1 B.1.2.1 dX10_write_78 ?_
        refine y_ci hf (fun q hq => x_runV (ci := 10) (C := RX10) B.1 B.2.2.2 hl hR hS cm_X10_193 ⟨rfl, rfl, Nat.le_of_ble_eq_true rfl, Nat.le_of_ble_eq_true rfl⟩ (by decide) rfl k_p0 (c_X10_get k_p0 hq) rfl rfl (Nat.le_of_ble_eq_true rfl) dX10_write_79 ⟨Nat.le_of_ble_eq_true rfl, Nat.le_of_ble_eq_true rfl⟩) hS (fun r19 S18 H locs hf hR hS => ?_)
        refine y_cv hf (fun q hq => x_runV (ci := 10) (C := RX10) B.1 B.2.2.2 hl hR hS cm_X10_452 ⟨rfl, rfl, Nat.le_of_ble_eq_true rfl, Nat.le_of_ble_eq_true rfl⟩ (by decide) rfl k_p0 (c_X10_writeNumber k_p0 hq) rfl rfl (Nat.le_of_ble_eq_true rfl) dX10_write_82 ⟨Nat.le_of_ble_eq_true rfl, Nat.le_of_ble_eq_true rfl⟩) hS (fun S20 H locs hf hR hS => ?_)
        refine lv_aload_n B.1.1 B.1.2.1 dX10_write_85 rfl (hl.at 0 rfl) ?_
        refine lv_bipush (v := 59) B.1.1 B.1.2.1 dX10_write_86 (by decide) ?_
        refine y_cv hf (fun q hq => x_runV (ci := 10) (C := RX10) B.1 B.2.2.2 hl hR hS cm_X10_449 ⟨rfl, rfl, Nat.le_of_ble_eq_true rfl, Nat.le_of_ble_eq_true rfl⟩ (by decide) rfl k_p0 (c_X10_writes k_p0 hq) rfl rfl (Nat.le_of_ble_eq_true rfl) dX10_write_88 ⟨Nat.le_of_ble_eq_true rfl, Nat.le_of_ble_eq_true rfl⟩) hS (fun S21 H locs hf hR hS => ?_)
        refine y_iinc (d := 1) B hl hf dX10_write_91 rfl (by decide) (by decide) rfl (fun v22 ls hf hl => ?_)
        have hl : xL ls 2 [_, _] := hl
        refine lv_goto (tgt := 7) B.1.1 B.1.2.1 dX10_write_94 (by decide) ?_
        exact ih _ _ _ _ _ _ k_p0 hf hR hS hl
      · refine lv_goto (tgt := 91) B.1.1 B.1.2.1 dX10_write_21 (by decide) ?_
        refine y_iinc (d := 1) B hl hf dX10_write_91 rfl (by decide) (by decide) rfl (fun v23 ls hf hl => ?_)
        have hl : xL ls 2 [_, _] := hl
        refine lv_goto (tgt := 7) B.1.1 B.1.2.1 dX10_write_94 (by decide) ?_
        exact ih _ _ _ _ _ _ k_p0 hf hR hS hl
def f_X10_write (T : xT) (S : xS) (p0 : Nat) : Option (Int32 × xS) := xpi S p0 33 ((0 : Int32)) (fun S1 => xl ((0 : Int32)) (fun v2 => f_X10_write_7 T xfu S1 p0 v2))
set_option maxRecDepth 100000 in
set_option maxHeartbeats 4000000 in
theorem c_X10_write {l : Launch} {z : Nat} {D : va_G} {dA : Nat → ClassId} {T : xT} {S : xS} {p0 : Nat} (k_p0 : xlk T p0 10 = true) {q : Int32 × xS} (hf : f_X10_write T S p0 = some q) : Met l yX10_write (xws yX10_write cX10_write 2 (some .int)) xr_X10_write (xPc z D dA T S [.ref (z + p0)]) (xQi z D dA T q) 0 0 (xA z) := by
  refine x_met RX10 (by decide) rfl (Nat.le_of_ble_eq_true rfl) ?_
  intro p e s m below meth c ls _ X hr hlk hml _ hR hS hl
  have B : xB p s m _ meth c cX10_write RX10 2 (some .int) D dA := ⟨X, hr, hlk, hml⟩
  have hl : xL ls 2 [_, _] := hl
  unfold f_X10_write at hf
  refine lv_aload_n B.1.1 B.1.2.1 dX10_write_0 rfl (hl.at 0 rfl) ?_
  refine lv_iconst (v := 0) B.1.1 B.1.2.1 dX10_write_1 (by decide) ?_
  refine y_putI B hR hS hf k_p0 fp_X10_446 dX10_write_2 (fun S1 H locs hf hR hS => ?_)
  refine lv_iconst (v := 0) B.1.1 B.1.2.1 dX10_write_5 (by decide) ?_
  refine y_istore_n B hl hf dX10_write_6 rfl (by decide) rfl (fun v2 ls hf hl => ?_)
  have hl : xL ls 2 [_, _] := hl
  exact w_X10_write_7 B xfu _ _ _ _ _ _ k_p0 hf hR hS hl
abbrev xr_X10_octet : Room := { frames := 2, cells := 0, slots := 0, locals := 34 }
def f_X10_octet (T : xT) (S : xS) (p0 : Nat) (p1 : Int32) : Option (Int32 × xS) := xc (f_X10_isIn T S p1 ((0 : Int32)) (((S.1 p0 33) - (1 : Int32)))) (fun r2 S1 => if r2 = (0 : Int32) then some ((-1 : Int32), S1) else xgr T S1 p0 32 22 (fun a3 => xai T S1 a3 p1 (fun v4 => some (v4, S1))))
set_option maxRecDepth 100000 in
set_option maxHeartbeats 4000000 in
theorem c_X10_octet {l : Launch} {z : Nat} {D : va_G} {dA : Nat → ClassId} {T : xT} {S : xS} {p0 : Nat} {p1 : Int32} (k_p0 : xlk T p0 10 = true) {q : Int32 × xS} (hf : f_X10_octet T S p0 p1 = some q) : Met l yX10_octet (xws yX10_octet cX10_octet 2 (some .int)) xr_X10_octet (xPc z D dA T S [.ref (z + p0), .int p1]) (xQi z D dA T q) 0 0 (xA z) := by
  refine x_met RX10 (by decide) rfl (Nat.le_of_ble_eq_true rfl) ?_
  intro p e s m below meth c ls _ X hr hlk hml _ hR hS hl
  have B : xB p s m _ meth c cX10_octet RX10 2 (some .int) D dA := ⟨X, hr, hlk, hml⟩
  have hl : xL ls 2 [_, _] := hl
  unfold f_X10_octet at hf
  refine lv_iload_n B.1.1 B.1.2.1 dX10_octet_0 rfl (hl.at 1 rfl) ?_
  refine lv_iconst (v := 0) B.1.1 B.1.2.1 dX10_octet_1 (by decide) ?_
  refine lv_aload_n B.1.1 B.1.2.1 dX10_octet_2 rfl (hl.at 0 rfl) ?_
  refine y_getI B hR k_p0 fl_X10_446 dX10_octet_3 ?_
  refine lv_iconst (v := 1) B.1.1 B.1.2.1 dX10_octet_6 (by decide) ?_
  refine lv_isub B.1.1 B.1.2.1 dX10_octet_7 ?_
  refine y_ci hf (fun q hq => y_runS B.1 B.2.2.2 hl hR hS cm_X10_81 ⟨rfl, rfl, Nat.le_of_ble_eq_true rfl, Nat.le_of_ble_eq_true rfl⟩ (c_X10_isIn hq) rfl rfl (Nat.le_of_ble_eq_true rfl) dX10_octet_8 ⟨Nat.le_of_ble_eq_true rfl, Nat.le_of_ble_eq_true rfl⟩) hS (fun r2 S1 H locs hf hR hS => ?_)
  refine y_if_eq (tgt := 23) B hf dX10_octet_11 (by decide) (fun hf => ?_) (fun hf => ?_)
  · refine lv_iconst (v := -1) B.1.1 B.1.2.1 dX10_octet_23 (by decide) ?_
    exact y_iret B hR hS hf dX10_octet_24
  · refine lv_aload_n B.1.1 B.1.2.1 dX10_octet_14 rfl (hl.at 0 rfl) ?_
    refine y_getR B hR hf k_p0 fl_X10_65 dX10_octet_15 (fun a3 k_a3 hf => ?_)
    refine lv_iload_n B.1.1 B.1.2.1 dX10_octet_18 rfl (hl.at 1 rfl) ?_
    refine y_bald B hR hf k_a3 dX10_octet_19 (fun v4 hf => ?_)
    refine lv_goto (tgt := 24) B.1.1 B.1.2.1 dX10_octet_20 (by decide) ?_
    exact y_iret B hR hS hf dX10_octet_24
