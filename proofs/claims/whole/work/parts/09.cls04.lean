abbrev xr_X2_sellAll : Room := { frames := 3, cells := 0, slots := 0, locals := 63 }
def f_X2_sellAll_145 (T : xT) (S : xS) (p0 : Nat) (p4 : Int32) : Option (xS) := if p4 ≤ (0 : Int32) then xgr T S p0 4 20 (fun a1 => xcv (f_X2_deal T S p0 ((-p4)) a1) (fun S2 => xgr T S2 p0 0 20 (fun a3 => xgr T S2 p0 5 20 (fun a4 => xcv (f_X9_takeAll T S2 a3 a4) (fun S5 => some S5))))) else xgr T S p0 4 20 (fun a6 => xcv (f_X2_deal T S p0 p4 a6) (fun S7 => xgr T S7 p0 0 20 (fun a8 => xgr T S7 p0 5 20 (fun a9 => xcv (f_X9_addAll T S7 a8 a9) (fun S10 => xpi S10 p0 2 (((S10.1 p0 2) + (1 : Int32))) (fun S11 => some S11))))))
set_option maxRecDepth 100000 in
set_option maxHeartbeats 4000000 in
theorem w_X2_sellAll_145 {p : Program} {l : Launch} {e : Env} {s : State} {m : MethodId} {args : Array Value} {below : List Frame} {meth : Method} {c : Code} {z : Nat} {D : va_G} {dA : Nat → ClassId} {T : xT} (B : xB p s m args meth c cX2_sellAll RX2 7 none D dA) {q : xS} : ∀ (S : xS) (H : Heap) (locs : List Loc) (ls : Array Slot) (p0 : Nat) (p4 : Int32), xlk T p0 2 = true → f_X2_sellAll_145 T S p0 p4 = some q → xRel z D dA T S H → va_S (xA z) s.heap H locs → xL ls 7 [some (.ref (z + p0)), none, none, none, some (.int p4), none, none] → xGv p l e xr_X2_sellAll s m args below meth c z D dA T q H locs 145 ls [] := by
  intro S H locs ls p0 p4 k_p0 hf hR hS hl
  unfold f_X2_sellAll_145 at hf
  refine lv_iload B.1.1 B.1.2.1 dX2_sellAll_145 (hl.at 4 rfl) ?_
  refine y_if_le (tgt := 184) B hf dX2_sellAll_147 (by decide) (fun hf => ?_) (fun hf => ?_)
  · refine lv_aload_n B.1.1 B.1.2.1 dX2_sellAll_184 rfl (hl.at 0 rfl) ?_
    refine lv_iload B.1.1 B.1.2.1 dX2_sellAll_185 (hl.at 4 rfl) ?_
    refine lv_ineg B.1.1 B.1.2.1 dX2_sellAll_187 ?_
    refine lv_aload_n B.1.1 B.1.2.1 dX2_sellAll_188 rfl (hl.at 0 rfl) ?_
    refine y_getR B hR hf k_p0 fl_X2_18 dX2_sellAll_189 (fun a1 k_a1 hf => ?_)
    refine y_cv hf (fun q hq => x_runV (ci := 2) (C := RX2) B.1 B.2.2.2 hl hR hS cm_X2_46 ⟨rfl, rfl, Nat.le_of_ble_eq_true rfl, Nat.le_of_ble_eq_true rfl⟩ (by decide) rfl k_p0 (c_X2_deal k_p0 k_a1 hq) rfl rfl (Nat.le_of_ble_eq_true rfl) dX2_sellAll_192 ⟨Nat.le_of_ble_eq_true rfl, Nat.le_of_ble_eq_true rfl⟩) hS (fun S2 H locs hf hR hS => ?_)
    refine lv_aload_n B.1.1 B.1.2.1 dX2_sellAll_195 rfl (hl.at 0 rfl) ?_
    refine y_getR B hR hf k_p0 fl_X2_9 dX2_sellAll_196 (fun a3 k_a3 hf => ?_)
    refine lv_aload_n B.1.1 B.1.2.1 dX2_sellAll_199 rfl (hl.at 0 rfl) ?_
    refine y_getR B hR hf k_p0 fl_X2_21 dX2_sellAll_200 (fun a4 k_a4 hf => ?_)
    refine y_cv hf (fun q hq => x_runN B.1 B.2.2.2 hl hR hS cm_X2_82 ⟨rfl, rfl, Nat.le_of_ble_eq_true rfl, Nat.le_of_ble_eq_true rfl⟩ (c_X9_takeAll k_a3 k_a4 hq) rfl rfl (Nat.le_of_ble_eq_true rfl) dX2_sellAll_203 ⟨Nat.le_of_ble_eq_true rfl, Nat.le_of_ble_eq_true rfl⟩) hS (fun S5 H locs hf hR hS => ?_)
    exact y_vret B hR hS hf dX2_sellAll_206
  · refine lv_aload_n B.1.1 B.1.2.1 dX2_sellAll_150 rfl (hl.at 0 rfl) ?_
    refine lv_iload B.1.1 B.1.2.1 dX2_sellAll_151 (hl.at 4 rfl) ?_
    refine lv_aload_n B.1.1 B.1.2.1 dX2_sellAll_153 rfl (hl.at 0 rfl) ?_
    refine y_getR B hR hf k_p0 fl_X2_18 dX2_sellAll_154 (fun a6 k_a6 hf => ?_)
    refine y_cv hf (fun q hq => x_runV (ci := 2) (C := RX2) B.1 B.2.2.2 hl hR hS cm_X2_46 ⟨rfl, rfl, Nat.le_of_ble_eq_true rfl, Nat.le_of_ble_eq_true rfl⟩ (by decide) rfl k_p0 (c_X2_deal k_p0 k_a6 hq) rfl rfl (Nat.le_of_ble_eq_true rfl) dX2_sellAll_157 ⟨Nat.le_of_ble_eq_true rfl, Nat.le_of_ble_eq_true rfl⟩) hS (fun S7 H locs hf hR hS => ?_)
    refine lv_aload_n B.1.1 B.1.2.1 dX2_sellAll_160 rfl (hl.at 0 rfl) ?_
    refine y_getR B hR hf k_p0 fl_X2_9 dX2_sellAll_161 (fun a8 k_a8 hf => ?_)
    refine lv_aload_n B.1.1 B.1.2.1 dX2_sellAll_164 rfl (hl.at 0 rfl) ?_
    refine y_getR B hR hf k_p0 fl_X2_21 dX2_sellAll_165 (fun a9 k_a9 hf => ?_)
    refine y_cv hf (fun q hq => x_runN B.1 B.2.2.2 hl hR hS cm_X2_75 ⟨rfl, rfl, Nat.le_of_ble_eq_true rfl, Nat.le_of_ble_eq_true rfl⟩ (c_X9_addAll k_a8 k_a9 hq) rfl rfl (Nat.le_of_ble_eq_true rfl) dX2_sellAll_168 ⟨Nat.le_of_ble_eq_true rfl, Nat.le_of_ble_eq_true rfl⟩) hS (fun S10 H locs hf hR hS => ?_)
    refine lv_aload_n B.1.1 B.1.2.1 dX2_sellAll_171 rfl (hl.at 0 rfl) ?_
    refine lv_dup B.1.1 B.1.2.1 dX2_sellAll_172 rfl ?_
    refine y_getI B hR k_p0 fl_X2_53 dX2_sellAll_173 ?_
    refine lv_iconst (v := 1) B.1.1 B.1.2.1 dX2_sellAll_176 (by decide) ?_
    refine lv_iadd B.1.1 B.1.2.1 dX2_sellAll_177 ?_
    refine y_putI B hR hS hf k_p0 fp_X2_53 dX2_sellAll_178 (fun S11 H locs hf hR hS => ?_)
    refine lv_goto (tgt := 206) B.1.1 B.1.2.1 dX2_sellAll_181 (by decide) ?_
    exact y_vret B hR hS hf dX2_sellAll_206
def f_X2_sellAll_107 (T : xT) (S : xS) (p0 : Nat) (p2 : Nat) (p3 : Nat) (p4 : Int32) : Option (xS) := xpi S p0 3 p4 (fun S1 => if p4 = (0 : Int32) then some S1 else xc (f_X2_weighByTier T S1 p0 p3 (((S1.1 p3 0) - (1 : Int32))) ((S1.1 p2 0))) (fun r3 S2 => if r3 = (0 : Int32) then xcv (f_X2_weighEvenly T S2 p0 ((S2.1 p2 0))) (fun S4 => f_X2_sellAll_145 T S4 p0 p4) else f_X2_sellAll_145 T S2 p0 p4))
set_option maxRecDepth 100000 in
set_option maxHeartbeats 4000000 in
theorem w_X2_sellAll_107 {p : Program} {l : Launch} {e : Env} {s : State} {m : MethodId} {args : Array Value} {below : List Frame} {meth : Method} {c : Code} {z : Nat} {D : va_G} {dA : Nat → ClassId} {T : xT} (B : xB p s m args meth c cX2_sellAll RX2 7 none D dA) {q : xS} : ∀ (S : xS) (H : Heap) (locs : List Loc) (ls : Array Slot) (p0 : Nat) (p2 : Nat) (p3 : Nat) (p4 : Int32), xlk T p0 2 = true → xlk T p2 1 = true → xlk T p3 8 = true → f_X2_sellAll_107 T S p0 p2 p3 p4 = some q → xRel z D dA T S H → va_S (xA z) s.heap H locs → xL ls 7 [some (.ref (z + p0)), none, some (.ref (z + p2)), some (.ref (z + p3)), some (.int p4), none, none] → xGv p l e xr_X2_sellAll s m args below meth c z D dA T q H locs 107 ls [] := by
  intro S H locs ls p0 p2 p3 p4 k_p0 k_p2 k_p3 hf hR hS hl
  unfold f_X2_sellAll_107 at hf
  refine lv_aload_n B.1.1 B.1.2.1 dX2_sellAll_107 rfl (hl.at 0 rfl) ?_
  refine lv_iload B.1.1 B.1.2.1 dX2_sellAll_108 (hl.at 4 rfl) ?_
  refine y_putI B hR hS hf k_p0 fp_X2_79 dX2_sellAll_110 (fun S1 H locs hf hR hS => ?_)
  refine lv_iload B.1.1 B.1.2.1 dX2_sellAll_113 (hl.at 4 rfl) ?_
  refine y_if_ne (tgt := 119) B hf dX2_sellAll_115 (by decide) (fun hf => ?_) (fun hf => ?_)
  · refine lv_aload_n B.1.1 B.1.2.1 dX2_sellAll_119 rfl (hl.at 0 rfl) ?_
    refine lv_aload_n B.1.1 B.1.2.1 dX2_sellAll_120 rfl (hl.at 3 rfl) ?_
    refine lv_aload_n B.1.1 B.1.2.1 dX2_sellAll_121 rfl (hl.at 3 rfl) ?_
    refine y_getI B hR k_p3 fl_X2_57 dX2_sellAll_122 ?_
    refine lv_iconst (v := 1) B.1.1 B.1.2.1 dX2_sellAll_125 (by decide) ?_
    refine lv_isub B.1.1 B.1.2.1 dX2_sellAll_126 ?_
    refine lv_aload_n B.1.1 B.1.2.1 dX2_sellAll_127 rfl (hl.at 2 rfl) ?_
    refine y_getI B hR k_p2 fl_X2_60 dX2_sellAll_128 ?_
    refine y_ci hf (fun q hq => x_runV (ci := 2) (C := RX2) B.1 B.2.2.2 hl hR hS cm_X2_65 ⟨rfl, rfl, Nat.le_of_ble_eq_true rfl, Nat.le_of_ble_eq_true rfl⟩ (by decide) rfl k_p0 (c_X2_weighByTier k_p0 k_p3 hq) rfl rfl (Nat.le_of_ble_eq_true rfl) dX2_sellAll_131 ⟨Nat.le_of_ble_eq_true rfl, Nat.le_of_ble_eq_true rfl⟩) hS (fun r3 S2 H locs hf hR hS => ?_)
    refine y_if_ne (tgt := 145) B hf dX2_sellAll_134 (by decide) (fun hf => ?_) (fun hf => ?_)
    · exact w_X2_sellAll_145 B _ _ _ _ _ _ k_p0 hf hR hS (hl.drop [true, false, false, false, true, false, false] rfl)
    · refine lv_aload_n B.1.1 B.1.2.1 dX2_sellAll_137 rfl (hl.at 0 rfl) ?_
      refine lv_aload_n B.1.1 B.1.2.1 dX2_sellAll_138 rfl (hl.at 2 rfl) ?_
      refine y_getI B hR k_p2 fl_X2_60 dX2_sellAll_139 ?_
      refine y_cv hf (fun q hq => x_runV (ci := 2) (C := RX2) B.1 B.2.2.2 hl hR hS cm_X2_42 ⟨rfl, rfl, Nat.le_of_ble_eq_true rfl, Nat.le_of_ble_eq_true rfl⟩ (by decide) rfl k_p0 (c_X2_weighEvenly k_p0 hq) rfl rfl (Nat.le_of_ble_eq_true rfl) dX2_sellAll_142 ⟨Nat.le_of_ble_eq_true rfl, Nat.le_of_ble_eq_true rfl⟩) hS (fun S4 H locs hf hR hS => ?_)
      exact w_X2_sellAll_145 B _ _ _ _ _ _ k_p0 hf hR hS (hl.drop [true, false, false, false, true, false, false] rfl)
  · exact y_vret B hR hS hf dX2_sellAll_118
def f_X2_sellAll_19 (T : xT) : Nat → xS → Nat → Nat → Nat → Int32 → Int32 → Option (xS)
  | 0, _, _, _, _, _, _ => none
  | n + 1, S, p0, p2, p3, p4, p5 => if ((S.1 p3 0) - (1 : Int32)) ≤ p5 then f_X2_sellAll_107 T S p0 p2 p3 p4 else if p4 ≤ (0 : Int32) then f_X2_sellAll_107 T S p0 p2 p3 p4 else xc (f_X2_weighByTier T S p0 p3 p5 ((S.1 p2 0))) (fun r2 S1 => if r2 = (0 : Int32) then xl (p5 + (1 : Int32)) (fun v3 => f_X2_sellAll_19 T n S1 p0 p2 p3 p4 v3) else xgr T S1 p3 1 20 (fun a4 => xai T S1 a4 p5 (fun v5 => xl ((xmin p4 v5)) (fun v6 => xgr T S1 p0 4 20 (fun a7 => xcv (f_X2_deal T S1 p0 v6 a7) (fun S8 => xgr T S8 p0 0 20 (fun a9 => xgr T S8 p0 5 20 (fun a10 => xcv (f_X9_addAll T S8 a9 a10) (fun S11 => xl ((p4 - v6)) (fun v12 => xpi S11 p0 2 (((S11.1 p0 2) + (1 : Int32))) (fun S13 => xl (p5 + (1 : Int32)) (fun v14 => f_X2_sellAll_19 T n S13 p0 p2 p3 v12 v14))))))))))))
set_option maxRecDepth 100000 in
set_option maxHeartbeats 4000000 in
theorem w_X2_sellAll_19 {p : Program} {l : Launch} {e : Env} {s : State} {m : MethodId} {args : Array Value} {below : List Frame} {meth : Method} {c : Code} {z : Nat} {D : va_G} {dA : Nat → ClassId} {T : xT} (B : xB p s m args meth c cX2_sellAll RX2 7 none D dA) {q : xS} : ∀ (n : Nat), ∀ (S : xS) (H : Heap) (locs : List Loc) (ls : Array Slot) (p0 : Nat) (p2 : Nat) (p3 : Nat) (p4 : Int32) (p5 : Int32), xlk T p0 2 = true → xlk T p2 1 = true → xlk T p3 8 = true → f_X2_sellAll_19 T n S p0 p2 p3 p4 p5 = some q → xRel z D dA T S H → va_S (xA z) s.heap H locs → xL ls 7 [some (.ref (z + p0)), none, some (.ref (z + p2)), some (.ref (z + p3)), some (.int p4), some (.int p5), none] → xGv p l e xr_X2_sellAll s m args below meth c z D dA T q H locs 19 ls [] := by
  intro n
  induction n with
  | zero =>
    intro S H locs ls p0 p2 p3 p4 p5 k_p0 k_p2 k_p3 hf hR hS hl
    exact absurd hf (by simp [f_X2_sellAll_19])
  | succ n ih =>
    intro S H locs ls p0 p2 p3 p4 p5 k_p0 k_p2 k_p3 hf hR hS hl
    unfold f_X2_sellAll_19 at hf
    refine lv_iload B.1.1 B.1.2.1 dX2_sellAll_19 (hl.at 5 rfl) ?_
    refine lv_aload_n B.1.1 B.1.2.1 dX2_sellAll_21 rfl (hl.at 3 rfl) ?_
    refine y_getI B hR k_p3 fl_X2_57 dX2_sellAll_22 ?_
    refine lv_iconst (v := 1) B.1.1 B.1.2.1 dX2_sellAll_25 (by decide) ?_
    refine lv_isub B.1.1 B.1.2.1 dX2_sellAll_26 ?_
    refine y_icmp_ge (tgt := 107) B hf dX2_sellAll_27 (by decide) (fun hf => ?_) (fun hf => ?_)
    · exact w_X2_sellAll_107 B _ _ _ _ _ _ _ _ k_p0 k_p2 k_p3 hf hR hS (hl.drop [true, false, true, true, true, false, false] rfl)
    · refine lv_iload B.1.1 B.1.2.1 dX2_sellAll_30 (hl.at 4 rfl) ?_
      refine y_if_le (tgt := 107) B hf dX2_sellAll_32 (by decide) (fun hf => ?_) (fun hf => ?_)
      · exact w_X2_sellAll_107 B _ _ _ _ _ _ _ _ k_p0 k_p2 k_p3 hf hR hS (hl.drop [true, false, true, true, true, false, false] rfl)
      · refine lv_aload_n B.1.1 B.1.2.1 dX2_sellAll_35 rfl (hl.at 0 rfl) ?_
        refine lv_aload_n B.1.1 B.1.2.1 dX2_sellAll_36 rfl (hl.at 3 rfl) ?_
        refine lv_iload B.1.1 B.1.2.1 dX2_sellAll_37 (hl.at 5 rfl) ?_
        refine lv_aload_n B.1.1 B.1.2.1 dX2_sellAll_39 rfl (hl.at 2 rfl) ?_
        refine y_getI B hR k_p2 fl_X2_60 dX2_sellAll_40 ?_
        refine y_ci hf (fun q hq => x_runV (ci := 2) (C := RX2) B.1 B.2.2.2 hl hR hS cm_X2_65 ⟨rfl, rfl, Nat.le_of_ble_eq_true rfl, Nat.le_of_ble_eq_true rfl⟩ (by decide) rfl k_p0 (c_X2_weighByTier k_p0 k_p3 hq) rfl rfl (Nat.le_of_ble_eq_true rfl) dX2_sellAll_43 ⟨Nat.le_of_ble_eq_true rfl, Nat.le_of_ble_eq_true rfl⟩) hS (fun r2 S1 H locs hf hR hS => ?_)
        refine y_if_eq (tgt := 101) B hf dX2_sellAll_46 (by decide) (fun hf => ?_) (fun hf => ?_)
        · refine y_iinc (d := 1) B hl hf dX2_sellAll_101 rfl (by decide) (by decide) rfl (fun v3 ls hf hl => ?_)
          have hl : xL ls 7 [_, _, _, _, _, _, _] := hl
          refine lv_goto (tgt := 19) B.1.1 B.1.2.1 dX2_sellAll_104 (by decide) ?_
          exact ih _ _ _ _ _ _ _ _ _ k_p0 k_p2 k_p3 hf hR hS hl
        · refine lv_iload B.1.1 B.1.2.1 dX2_sellAll_49 (hl.at 4 rfl) ?_
          refine lv_aload_n B.1.1 B.1.2.1 dX2_sellAll_51 rfl (hl.at 3 rfl) ?_
          refine y_getR B hR hf k_p3 fl_X2_69 dX2_sellAll_52 (fun a4 k_a4 hf => ?_)
          refine lv_iload B.1.1 B.1.2.1 dX2_sellAll_55 (hl.at 5 rfl) ?_
          refine y_iald B hR hf k_a4 dX2_sellAll_57 (fun v5 hf => ?_)
          refine y_mmin B hl ma_X2_72 ⟨Nat.le_of_ble_eq_true rfl, Nat.le_of_ble_eq_true rfl⟩ ⟨Nat.le_of_ble_eq_true rfl, Nat.le_of_ble_eq_true rfl⟩ dX2_sellAll_58 ?_
          refine y_istore B hl hf dX2_sellAll_61 (by decide) rfl (fun v6 ls hf hl => ?_)
          have hl : xL ls 7 [_, _, _, _, _, _, _] := hl
          refine lv_aload_n B.1.1 B.1.2.1 dX2_sellAll_63 rfl (hl.at 0 rfl) ?_
          refine lv_iload B.1.1 B.1.2.1 dX2_sellAll_64 (hl.at 6 rfl) ?_
          refine lv_aload_n B.1.1 B.1.2.1 dX2_sellAll_66 rfl (hl.at 0 rfl) ?_
          refine y_getR B hR hf k_p0 fl_X2_18 dX2_sellAll_67 (fun a7 k_a7 hf => ?_)
          refine y_cv hf (fun q hq => x_runV (ci := 2) (C := RX2) B.1 B.2.2.2 hl hR hS cm_X2_46 ⟨rfl, rfl, Nat.le_of_ble_eq_true rfl, Nat.le_of_ble_eq_true rfl⟩ (by decide) rfl k_p0 (c_X2_deal k_p0 k_a7 hq) rfl rfl (Nat.le_of_ble_eq_true rfl) dX2_sellAll_70 ⟨Nat.le_of_ble_eq_true rfl, Nat.le_of_ble_eq_true rfl⟩) hS (fun S8 H locs hf hR hS => ?_)
          refine lv_aload_n B.1.1 B.1.2.1 dX2_sellAll_73 rfl (hl.at 0 rfl) ?_
          refine y_getR B hR hf k_p0 fl_X2_9 dX2_sellAll_74 (fun a9 k_a9 hf => ?_)
          refine lv_aload_n B.1.1 B.1.2.1 dX2_sellAll_77 rfl (hl.at 0 rfl) ?_
          refine y_getR B hR hf k_p0 fl_X2_21 dX2_sellAll_78 (fun a10 k_a10 hf => ?_)
          refine y_cv hf (fun q hq => x_runN B.1 B.2.2.2 hl hR hS cm_X2_75 ⟨rfl, rfl, Nat.le_of_ble_eq_true rfl, Nat.le_of_ble_eq_true rfl⟩ (c_X9_addAll k_a9 k_a10 hq) rfl rfl (Nat.le_of_ble_eq_true rfl) dX2_sellAll_81 ⟨Nat.le_of_ble_eq_true rfl, Nat.le_of_ble_eq_true rfl⟩) hS (fun S11 H locs hf hR hS => ?_)
          refine lv_iload B.1.1 B.1.2.1 dX2_sellAll_84 (hl.at 4 rfl) ?_
          refine lv_iload B.1.1 B.1.2.1 dX2_sellAll_86 (hl.at 6 rfl) ?_
          refine lv_isub B.1.1 B.1.2.1 dX2_sellAll_88 ?_
          refine y_istore B hl hf dX2_sellAll_89 (by decide) rfl (fun v12 ls hf hl => ?_)
          have hl : xL ls 7 [_, _, _, _, _, _, _] := hl
          refine lv_aload_n B.1.1 B.1.2.1 dX2_sellAll_91 rfl (hl.at 0 rfl) ?_
          refine lv_dup B.1.1 B.1.2.1 dX2_sellAll_92 rfl ?_
          refine y_getI B hR k_p0 fl_X2_53 dX2_sellAll_93 ?_
          refine lv_iconst (v := 1) B.1.1 B.1.2.1 dX2_sellAll_96 (by decide) ?_
          refine lv_iadd B.1.1 B.1.2.1 dX2_sellAll_97 ?_
          refine y_putI B hR hS hf k_p0 fp_X2_53 dX2_sellAll_98 (fun S13 H locs hf hR hS => ?_)
          refine y_iinc (d := 1) B hl hf dX2_sellAll_101 rfl (by decide) (by decide) rfl (fun v14 ls hf hl => ?_)
          have hl : xL ls 7 [_, _, _, _, _, _, _] := hl
          refine lv_goto (tgt := 19) B.1.1 B.1.2.1 dX2_sellAll_104 (by decide) ?_
          exact ih _ _ _ _ _ _ _ _ _ k_p0 k_p2 k_p3 hf hR hS (hl.drop [true, false, true, true, true, true, false] rfl)
def f_X2_sellAll (T : xT) (S : xS) (p0 : Nat) (p1 : Int32) (p2 : Nat) (p3 : Nat) : Option (xS) := xgr T S p0 0 20 (fun a1 => xcv (f_J7_fill_53178 T S a1 ((0 : Int32))) (fun S2 => xpi S2 p0 2 ((0 : Int32)) (fun S3 => xl p1 (fun v4 => xl ((0 : Int32)) (fun v5 => f_X2_sellAll_19 T xfu S3 p0 p2 p3 v4 v5)))))
set_option maxRecDepth 100000 in
set_option maxHeartbeats 4000000 in
theorem c_X2_sellAll {l : Launch} {z : Nat} {D : va_G} {dA : Nat → ClassId} {T : xT} {S : xS} {p0 : Nat} {p1 : Int32} {p2 : Nat} {p3 : Nat} (k_p0 : xlk T p0 2 = true) (k_p2 : xlk T p2 1 = true) (k_p3 : xlk T p3 8 = true) {q : xS} (hf : f_X2_sellAll T S p0 p1 p2 p3 = some q) : Met l yX2_sellAll (xws yX2_sellAll cX2_sellAll 7 none) xr_X2_sellAll (xPc z D dA T S [.ref (z + p0), .int p1, .ref (z + p2), .ref (z + p3)]) (xQv z D dA T q) 0 0 (xA z) := by
  refine x_met RX2 (by decide) rfl (Nat.le_of_ble_eq_true rfl) ?_
  intro p e s m below meth c ls _ X hr hlk hml _ hR hS hl
  have B : xB p s m _ meth c cX2_sellAll RX2 7 none D dA := ⟨X, hr, hlk, hml⟩
  have hl : xL ls 7 [_, _, _, _, _, _, _] := hl
  unfold f_X2_sellAll at hf
  refine lv_aload_n B.1.1 B.1.2.1 dX2_sellAll_0 rfl (hl.at 0 rfl) ?_
  refine y_getR B hR hf k_p0 fl_X2_9 dX2_sellAll_1 (fun a1 k_a1 hf => ?_)
  refine lv_iconst (v := 0) B.1.1 B.1.2.1 dX2_sellAll_4 (by decide) ?_
  refine y_cv hf (fun q hq => y_runS B.1 B.2.2.2 hl hR hS cm_X2_30 ⟨rfl, rfl, Nat.le_of_ble_eq_true rfl, Nat.le_of_ble_eq_true rfl⟩ (c_J7_fill_53178 k_a1 hq) rfl rfl (Nat.le_of_ble_eq_true rfl) dX2_sellAll_5 ⟨Nat.le_of_ble_eq_true rfl, Nat.le_of_ble_eq_true rfl⟩) hS (fun S2 H locs hf hR hS => ?_)
  refine lv_aload_n B.1.1 B.1.2.1 dX2_sellAll_8 rfl (hl.at 0 rfl) ?_
  refine lv_iconst (v := 0) B.1.1 B.1.2.1 dX2_sellAll_9 (by decide) ?_
  refine y_putI B hR hS hf k_p0 fp_X2_53 dX2_sellAll_10 (fun S3 H locs hf hR hS => ?_)
  refine lv_iload_n B.1.1 B.1.2.1 dX2_sellAll_13 rfl (hl.at 1 rfl) ?_
  refine y_istore B hl hf dX2_sellAll_14 (by decide) rfl (fun v4 ls hf hl => ?_)
  have hl : xL ls 7 [_, _, _, _, _, _, _] := hl
  refine lv_iconst (v := 0) B.1.1 B.1.2.1 dX2_sellAll_16 (by decide) ?_
  refine y_istore B hl hf dX2_sellAll_17 (by decide) rfl (fun v5 ls hf hl => ?_)
  have hl : xL ls 7 [_, _, _, _, _, _, _] := hl
  exact w_X2_sellAll_19 B xfu _ _ _ _ _ _ _ _ _ k_p0 k_p2 k_p3 hf hR hS (hl.drop [true, false, true, true, true, true, false] rfl)
abbrev xr_X2_measureGaps : Room := { frames := 4, cells := 0, slots := 0, locals := 89 }
def f_X2_measureGaps_18 (T : xT) : Nat → xS → Nat → Nat → Int32 → Option (xS)
  | 0, _, _, _, _ => none
  | n + 1, S, p0, p1, p4 => if (8 : Int32) ≤ p4 then some S else xgr T S p0 1 20 (fun a1 => xgr T S p0 0 20 (fun a2 => xai T S a2 p4 (fun v3 => xgr T S p1 6 20 (fun a4 => xai T S a4 p4 (fun v5 => xst T S a1 p4 ((v3 - v5)) (fun S6 => xl (p4 + (1 : Int32)) (fun v7 => f_X2_measureGaps_18 T n S6 p0 p1 v7)))))))
set_option maxRecDepth 100000 in
set_option maxHeartbeats 4000000 in
theorem w_X2_measureGaps_18 {p : Program} {l : Launch} {e : Env} {s : State} {m : MethodId} {args : Array Value} {below : List Frame} {meth : Method} {c : Code} {z : Nat} {D : va_G} {dA : Nat → ClassId} {T : xT} (B : xB p s m args meth c cX2_measureGaps RX2 5 none D dA) {q : xS} : ∀ (n : Nat), ∀ (S : xS) (H : Heap) (locs : List Loc) (ls : Array Slot) (p0 : Nat) (p1 : Nat) (p4 : Int32), xlk T p0 2 = true → xlk T p1 1 = true → f_X2_measureGaps_18 T n S p0 p1 p4 = some q → xRel z D dA T S H → va_S (xA z) s.heap H locs → xL ls 5 [some (.ref (z + p0)), some (.ref (z + p1)), none, none, some (.int p4)] → xGv p l e xr_X2_measureGaps s m args below meth c z D dA T q H locs 18 ls [] := by
  intro n
  induction n with
  | zero =>
    intro S H locs ls p0 p1 p4 k_p0 k_p1 hf hR hS hl
    exact absurd hf (by simp [f_X2_measureGaps_18])
  | succ n ih =>
    intro S H locs ls p0 p1 p4 k_p0 k_p1 hf hR hS hl
    unfold f_X2_measureGaps_18 at hf
    refine lv_iload B.1.1 B.1.2.1 dX2_measureGaps_18 (hl.at 4 rfl) ?_
    refine lv_bipush (v := 8) B.1.1 B.1.2.1 dX2_measureGaps_20 (by decide) ?_
    refine y_icmp_ge (tgt := 53) B hf dX2_measureGaps_22 (by decide) (fun hf => ?_) (fun hf => ?_)
    · exact y_vret B hR hS hf dX2_measureGaps_53
    · refine lv_aload_n B.1.1 B.1.2.1 dX2_measureGaps_25 rfl (hl.at 0 rfl) ?_
      refine y_getR B hR hf k_p0 fl_X2_15 dX2_measureGaps_26 (fun a1 k_a1 hf => ?_)
      refine lv_iload B.1.1 B.1.2.1 dX2_measureGaps_29 (hl.at 4 rfl) ?_
      refine lv_aload_n B.1.1 B.1.2.1 dX2_measureGaps_31 rfl (hl.at 0 rfl) ?_
      refine y_getR B hR hf k_p0 fl_X2_9 dX2_measureGaps_32 (fun a2 k_a2 hf => ?_)
      refine lv_iload B.1.1 B.1.2.1 dX2_measureGaps_35 (hl.at 4 rfl) ?_
      refine y_iald B hR hf k_a2 dX2_measureGaps_37 (fun v3 hf => ?_)
      refine lv_aload_n B.1.1 B.1.2.1 dX2_measureGaps_38 rfl (hl.at 1 rfl) ?_
      refine y_getR B hR hf k_p1 fl_X2_85 dX2_measureGaps_39 (fun a4 k_a4 hf => ?_)
      refine lv_iload B.1.1 B.1.2.1 dX2_measureGaps_42 (hl.at 4 rfl) ?_
      refine y_iald B hR hf k_a4 dX2_measureGaps_44 (fun v5 hf => ?_)
      refine lv_isub B.1.1 B.1.2.1 dX2_measureGaps_45 ?_
      refine y_iast B hR hS hf k_a1 dX2_measureGaps_46 (fun S6 H locs hf hR hS => ?_)
      refine y_iinc (d := 1) B hl hf dX2_measureGaps_47 rfl (by decide) (by decide) rfl (fun v7 ls hf hl => ?_)
      have hl : xL ls 5 [_, _, _, _, _] := hl
      refine lv_goto (tgt := 18) B.1.1 B.1.2.1 dX2_measureGaps_50 (by decide) ?_
      exact ih _ _ _ _ _ _ _ k_p0 k_p1 hf hR hS hl
def f_X2_measureGaps (T : xT) (S : xS) (p0 : Nat) (p1 : Nat) (p2 : Nat) (p3 : Int32) : Option (xS) := xgr T S p1 6 20 (fun a1 => xc (f_X9_total T S a1) (fun r3 S2 => xcv (f_X2_sellAll T S2 p0 ((r3 + p3)) p1 p2) (fun S4 => xl ((0 : Int32)) (fun v5 => f_X2_measureGaps_18 T xfu S4 p0 p1 v5))))
set_option maxRecDepth 100000 in
set_option maxHeartbeats 4000000 in
theorem c_X2_measureGaps {l : Launch} {z : Nat} {D : va_G} {dA : Nat → ClassId} {T : xT} {S : xS} {p0 : Nat} {p1 : Nat} {p2 : Nat} {p3 : Int32} (k_p0 : xlk T p0 2 = true) (k_p1 : xlk T p1 1 = true) (k_p2 : xlk T p2 8 = true) {q : xS} (hf : f_X2_measureGaps T S p0 p1 p2 p3 = some q) : Met l yX2_measureGaps (xws yX2_measureGaps cX2_measureGaps 5 none) xr_X2_measureGaps (xPc z D dA T S [.ref (z + p0), .ref (z + p1), .ref (z + p2), .int p3]) (xQv z D dA T q) 0 0 (xA z) := by
  refine x_met RX2 (by decide) rfl (Nat.le_of_ble_eq_true rfl) ?_
  intro p e s m below meth c ls _ X hr hlk hml _ hR hS hl
  have B : xB p s m _ meth c cX2_measureGaps RX2 5 none D dA := ⟨X, hr, hlk, hml⟩
  have hl : xL ls 5 [_, _, _, _, _] := hl
  unfold f_X2_measureGaps at hf
  refine lv_aload_n B.1.1 B.1.2.1 dX2_measureGaps_0 rfl (hl.at 0 rfl) ?_
  refine lv_aload_n B.1.1 B.1.2.1 dX2_measureGaps_1 rfl (hl.at 1 rfl) ?_
  refine y_getR B hR hf k_p1 fl_X2_85 dX2_measureGaps_2 (fun a1 k_a1 hf => ?_)
  refine y_ci hf (fun q hq => x_runN B.1 B.2.2.2 hl hR hS cm_X2_88 ⟨rfl, rfl, Nat.le_of_ble_eq_true rfl, Nat.le_of_ble_eq_true rfl⟩ (c_X9_total k_a1 hq) rfl rfl (Nat.le_of_ble_eq_true rfl) dX2_measureGaps_5 ⟨Nat.le_of_ble_eq_true rfl, Nat.le_of_ble_eq_true rfl⟩) hS (fun r3 S2 H locs hf hR hS => ?_)
  refine lv_iload_n B.1.1 B.1.2.1 dX2_measureGaps_8 rfl (hl.at 3 rfl) ?_
  refine lv_iadd B.1.1 B.1.2.1 dX2_measureGaps_9 ?_
  refine lv_aload_n B.1.1 B.1.2.1 dX2_measureGaps_10 rfl (hl.at 1 rfl) ?_
  refine lv_aload_n B.1.1 B.1.2.1 dX2_measureGaps_11 rfl (hl.at 2 rfl) ?_
  refine y_cv hf (fun q hq => x_runV (ci := 2) (C := RX2) B.1 B.2.2.2 hl hR hS cm_X2_92 ⟨rfl, rfl, Nat.le_of_ble_eq_true rfl, Nat.le_of_ble_eq_true rfl⟩ (by decide) rfl k_p0 (c_X2_sellAll k_p0 k_p1 k_p2 hq) rfl rfl (Nat.le_of_ble_eq_true rfl) dX2_measureGaps_12 ⟨Nat.le_of_ble_eq_true rfl, Nat.le_of_ble_eq_true rfl⟩) hS (fun S4 H locs hf hR hS => ?_)
  refine lv_iconst (v := 0) B.1.1 B.1.2.1 dX2_measureGaps_15 (by decide) ?_
  refine y_istore B hl hf dX2_measureGaps_16 (by decide) rfl (fun v5 ls hf hl => ?_)
  have hl : xL ls 5 [_, _, _, _, _] := hl
  exact w_X2_measureGaps_18 B xfu _ _ _ _ _ _ _ k_p0 k_p1 hf hR hS (hl.drop [true, true, false, false, true] rfl)
abbrev xr_X7_startAnew : Room := { frames := 2, cells := 0, slots := 0, locals := 35 }
def f_X7_startAnew (T : xT) (S : xS) (p0 : Nat) : Option (xS) := xgd (xnz ((1 : Int32))) (xpi S p0 0 ((1 : Int32)) (fun S1 => xpi S1 p0 1 ((0 : Int32)) (fun S2 => xgr T S2 p0 2 20 (fun a3 => xcv (f_J7_fill_53178 T S2 a3 ((0 : Int32))) (fun S4 => some S4)))))
set_option maxRecDepth 100000 in
set_option maxHeartbeats 4000000 in
theorem c_X7_startAnew {l : Launch} {z : Nat} {D : va_G} {dA : Nat → ClassId} {T : xT} {S : xS} {p0 : Nat} (k_p0 : xlk T p0 7 = true) {q : xS} (hf : f_X7_startAnew T S p0 = some q) : Met l yX7_startAnew (xws yX7_startAnew cX7_startAnew 1 none) xr_X7_startAnew (xPc z D dA T S [.ref (z + p0)]) (xQv z D dA T q) 0 0 (xA z) := by
  refine x_met RX7 (by decide) rfl (Nat.le_of_ble_eq_true rfl) ?_
  intro p e s m below meth c ls _ X hr hlk hml _ hR hS hl
  have B : xB p s m _ meth c cX7_startAnew RX7 1 none D dA := ⟨X, hr, hlk, hml⟩
  have hl : xL ls 1 [_] := hl
  unfold f_X7_startAnew at hf
  refine lv_aload_n B.1.1 B.1.2.1 dX7_startAnew_0 rfl (hl.at 0 rfl) ?_
  refine lv_iconst (v := 1) B.1.1 B.1.2.1 dX7_startAnew_1 (by decide) ?_
  refine y_putZ B hR hS hf k_p0 fp_X7_15 dX7_startAnew_2 (fun S1 H locs hf hR hS => ?_)
  refine lv_aload_n B.1.1 B.1.2.1 dX7_startAnew_5 rfl (hl.at 0 rfl) ?_
  refine lv_iconst (v := 0) B.1.1 B.1.2.1 dX7_startAnew_6 (by decide) ?_
  refine y_putI B hR hS hf k_p0 fp_X7_19 dX7_startAnew_7 (fun S2 H locs hf hR hS => ?_)
  refine lv_aload_n B.1.1 B.1.2.1 dX7_startAnew_10 rfl (hl.at 0 rfl) ?_
  refine y_getR B hR hf k_p0 fl_X7_9 dX7_startAnew_11 (fun a3 k_a3 hf => ?_)
  refine lv_iconst (v := 0) B.1.1 B.1.2.1 dX7_startAnew_14 (by decide) ?_
  refine y_cv hf (fun q hq => y_runS B.1 B.2.2.2 hl hR hS cm_X7_29 ⟨rfl, rfl, Nat.le_of_ble_eq_true rfl, Nat.le_of_ble_eq_true rfl⟩ (c_J7_fill_53178 k_a3 hq) rfl rfl (Nat.le_of_ble_eq_true rfl) dX7_startAnew_15 ⟨Nat.le_of_ble_eq_true rfl, Nat.le_of_ble_eq_true rfl⟩) hS (fun S4 H locs hf hR hS => ?_)
  exact y_vret B hR hS hf dX7_startAnew_18
abbrev xr_X7_putRow : Room := { frames := 1, cells := 0, slots := 0, locals := 37 }
def f_X7_putRow (T : xT) (S : xS) (p0 : Nat) (p1 : Int32) (p2 : Nat) : Option (xS) := xgr T S p0 2 20 (fun a1 => xcp T S p2 ((0 : Int32)) a1 ((p1 * (8 : Int32))) ((8 : Int32)) (fun S2 => some S2))
set_option maxRecDepth 100000 in
set_option maxHeartbeats 4000000 in
theorem c_X7_putRow {l : Launch} {z : Nat} {D : va_G} {dA : Nat → ClassId} {T : xT} {S : xS} {p0 : Nat} {p1 : Int32} {p2 : Nat} (k_p0 : xlk T p0 7 = true) (k_p2 : xlk T p2 20 = true) {q : xS} (hf : f_X7_putRow T S p0 p1 p2 = some q) : Met l yX7_putRow (xws yX7_putRow cX7_putRow 3 none) xr_X7_putRow (xPc z D dA T S [.ref (z + p0), .int p1, .ref (z + p2)]) (xQv z D dA T q) 0 0 (xA z) := by
  refine x_met RX7 (by decide) rfl (Nat.le_of_ble_eq_true rfl) ?_
  intro p e s m below meth c ls _ X hr hlk hml _ hR hS hl
  have B : xB p s m _ meth c cX7_putRow RX7 3 none D dA := ⟨X, hr, hlk, hml⟩
  have hl : xL ls 3 [_, _, _] := hl
  unfold f_X7_putRow at hf
  refine lv_aload_n B.1.1 B.1.2.1 dX7_putRow_0 rfl (hl.at 2 rfl) ?_
  refine lv_iconst (v := 0) B.1.1 B.1.2.1 dX7_putRow_1 (by decide) ?_
  refine lv_aload_n B.1.1 B.1.2.1 dX7_putRow_2 rfl (hl.at 0 rfl) ?_
  refine y_getR B hR hf k_p0 fl_X7_9 dX7_putRow_3 (fun a1 k_a1 hf => ?_)
  refine lv_iload_n B.1.1 B.1.2.1 dX7_putRow_6 rfl (hl.at 1 rfl) ?_
  refine lv_bipush (v := 8) B.1.1 B.1.2.1 dX7_putRow_7 (by decide) ?_
  refine lv_imul B.1.1 B.1.2.1 dX7_putRow_9 ?_
  refine lv_bipush (v := 8) B.1.1 B.1.2.1 dX7_putRow_10 (by decide) ?_
  refine y_copy B hl hR hS ac_X7_23 hf k_p2 k_a1 ⟨Nat.le_of_ble_eq_true rfl, Nat.le_of_ble_eq_true rfl⟩ dX7_putRow_12 (fun S2 H locs hf hR hS => ?_)
  exact y_vret B hR hS hf dX7_putRow_15
abbrev xr_X2_chargeBack : Room := { frames := 3, cells := 0, slots := 0, locals := 63 }
def f_X2_chargeBack_59 (T : xT) (S : xS) (p0 : Nat) (p1 : Nat) (p3 : Nat) : Option (xS) := xgr T S p1 10 20 (fun a1 => xc (f_X9_total T S a1) (fun r3 S2 => xl ((xmin ((S.1 p1 3)) r3)) (fun v4 => if v4 ≤ (0 : Int32) then some S2 else xgr T S2 p1 10 20 (fun a5 => xcv (f_X2_deal T S2 p0 v4 a5) (fun S6 => xgr T S6 p1 6 20 (fun a7 => xgr T S6 p0 5 20 (fun a8 => xcv (f_X9_addAll T S6 a7 a8) (fun S9 => xgr T S9 p1 10 20 (fun a10 => xgr T S9 p0 5 20 (fun a11 => xcv (f_X9_takeAll T S9 a10 a11) (fun S12 => xpi S12 p1 3 (((S12.1 p1 3) - v4)) (fun S13 => xgr T S13 p0 5 20 (fun a14 => xcv (f_X7_putRow T S13 p3 ((1 : Int32)) a14) (fun S15 => some S15))))))))))))))
set_option maxRecDepth 100000 in
set_option maxHeartbeats 4000000 in
theorem w_X2_chargeBack_59 {p : Program} {l : Launch} {e : Env} {s : State} {m : MethodId} {args : Array Value} {below : List Frame} {meth : Method} {c : Code} {z : Nat} {D : va_G} {dA : Nat → ClassId} {T : xT} (B : xB p s m args meth c cX2_chargeBack RX2 6 none D dA) {q : xS} : ∀ (S : xS) (H : Heap) (locs : List Loc) (ls : Array Slot) (p0 : Nat) (p1 : Nat) (p3 : Nat), xlk T p0 2 = true → xlk T p1 1 = true → xlk T p3 7 = true → f_X2_chargeBack_59 T S p0 p1 p3 = some q → xRel z D dA T S H → va_S (xA z) s.heap H locs → xL ls 6 [some (.ref (z + p0)), some (.ref (z + p1)), none, some (.ref (z + p3)), none, none] → xGv p l e xr_X2_chargeBack s m args below meth c z D dA T q H locs 59 ls [] := by
  intro S H locs ls p0 p1 p3 k_p0 k_p1 k_p3 hf hR hS hl
  unfold f_X2_chargeBack_59 at hf
  refine lv_aload_n B.1.1 B.1.2.1 dX2_chargeBack_59 rfl (hl.at 1 rfl) ?_
  refine y_getI B hR k_p1 fl_X2_123 dX2_chargeBack_60 ?_
  refine lv_aload_n B.1.1 B.1.2.1 dX2_chargeBack_63 rfl (hl.at 1 rfl) ?_
  refine y_getR B hR hf k_p1 fl_X2_136 dX2_chargeBack_64 (fun a1 k_a1 hf => ?_)
  refine y_ci hf (fun q hq => x_runN B.1 B.2.2.2 hl hR hS cm_X2_88 ⟨rfl, rfl, Nat.le_of_ble_eq_true rfl, Nat.le_of_ble_eq_true rfl⟩ (c_X9_total k_a1 hq) rfl rfl (Nat.le_of_ble_eq_true rfl) dX2_chargeBack_67 ⟨Nat.le_of_ble_eq_true rfl, Nat.le_of_ble_eq_true rfl⟩) hS (fun r3 S2 H locs hf hR hS => ?_)
  refine y_mmin B hl ma_X2_72 ⟨Nat.le_of_ble_eq_true rfl, Nat.le_of_ble_eq_true rfl⟩ ⟨Nat.le_of_ble_eq_true rfl, Nat.le_of_ble_eq_true rfl⟩ dX2_chargeBack_70 ?_
  refine y_istore B hl hf dX2_chargeBack_73 (by decide) rfl (fun v4 ls hf hl => ?_)
  have hl : xL ls 6 [_, _, _, _, _, _] := hl
  refine lv_iload B.1.1 B.1.2.1 dX2_chargeBack_75 (hl.at 5 rfl) ?_
  refine y_if_le (tgt := 132) B hf dX2_chargeBack_77 (by decide) (fun hf => ?_) (fun hf => ?_)
  · exact y_vret B hR hS hf dX2_chargeBack_132
  · refine lv_aload_n B.1.1 B.1.2.1 dX2_chargeBack_80 rfl (hl.at 0 rfl) ?_
    refine lv_iload B.1.1 B.1.2.1 dX2_chargeBack_81 (hl.at 5 rfl) ?_
    refine lv_aload_n B.1.1 B.1.2.1 dX2_chargeBack_83 rfl (hl.at 1 rfl) ?_
    refine y_getR B hR hf k_p1 fl_X2_136 dX2_chargeBack_84 (fun a5 k_a5 hf => ?_)
    refine y_cv hf (fun q hq => x_runV (ci := 2) (C := RX2) B.1 B.2.2.2 hl hR hS cm_X2_46 ⟨rfl, rfl, Nat.le_of_ble_eq_true rfl, Nat.le_of_ble_eq_true rfl⟩ (by decide) rfl k_p0 (c_X2_deal k_p0 k_a5 hq) rfl rfl (Nat.le_of_ble_eq_true rfl) dX2_chargeBack_87 ⟨Nat.le_of_ble_eq_true rfl, Nat.le_of_ble_eq_true rfl⟩) hS (fun S6 H locs hf hR hS => ?_)
    refine lv_aload_n B.1.1 B.1.2.1 dX2_chargeBack_90 rfl (hl.at 1 rfl) ?_
    refine y_getR B hR hf k_p1 fl_X2_85 dX2_chargeBack_91 (fun a7 k_a7 hf => ?_)
    refine lv_aload_n B.1.1 B.1.2.1 dX2_chargeBack_94 rfl (hl.at 0 rfl) ?_
    refine y_getR B hR hf k_p0 fl_X2_21 dX2_chargeBack_95 (fun a8 k_a8 hf => ?_)
    refine y_cv hf (fun q hq => x_runN B.1 B.2.2.2 hl hR hS cm_X2_75 ⟨rfl, rfl, Nat.le_of_ble_eq_true rfl, Nat.le_of_ble_eq_true rfl⟩ (c_X9_addAll k_a7 k_a8 hq) rfl rfl (Nat.le_of_ble_eq_true rfl) dX2_chargeBack_98 ⟨Nat.le_of_ble_eq_true rfl, Nat.le_of_ble_eq_true rfl⟩) hS (fun S9 H locs hf hR hS => ?_)
    refine lv_aload_n B.1.1 B.1.2.1 dX2_chargeBack_101 rfl (hl.at 1 rfl) ?_
    refine y_getR B hR hf k_p1 fl_X2_136 dX2_chargeBack_102 (fun a10 k_a10 hf => ?_)
    refine lv_aload_n B.1.1 B.1.2.1 dX2_chargeBack_105 rfl (hl.at 0 rfl) ?_
    refine y_getR B hR hf k_p0 fl_X2_21 dX2_chargeBack_106 (fun a11 k_a11 hf => ?_)
    refine y_cv hf (fun q hq => x_runN B.1 B.2.2.2 hl hR hS cm_X2_82 ⟨rfl, rfl, Nat.le_of_ble_eq_true rfl, Nat.le_of_ble_eq_true rfl⟩ (c_X9_takeAll k_a10 k_a11 hq) rfl rfl (Nat.le_of_ble_eq_true rfl) dX2_chargeBack_109 ⟨Nat.le_of_ble_eq_true rfl, Nat.le_of_ble_eq_true rfl⟩) hS (fun S12 H locs hf hR hS => ?_)
    refine lv_aload_n B.1.1 B.1.2.1 dX2_chargeBack_112 rfl (hl.at 1 rfl) ?_
    refine lv_dup B.1.1 B.1.2.1 dX2_chargeBack_113 rfl ?_
    refine y_getI B hR k_p1 fl_X2_123 dX2_chargeBack_114 ?_
    refine lv_iload B.1.1 B.1.2.1 dX2_chargeBack_117 (hl.at 5 rfl) ?_
    refine lv_isub B.1.1 B.1.2.1 dX2_chargeBack_119 ?_
    refine y_putI B hR hS hf k_p1 fp_X2_123 dX2_chargeBack_120 (fun S13 H locs hf hR hS => ?_)
    refine lv_aload_n B.1.1 B.1.2.1 dX2_chargeBack_123 rfl (hl.at 3 rfl) ?_
    refine lv_iconst (v := 1) B.1.1 B.1.2.1 dX2_chargeBack_124 (by decide) ?_
    refine lv_aload_n B.1.1 B.1.2.1 dX2_chargeBack_125 rfl (hl.at 0 rfl) ?_
    refine y_getR B hR hf k_p0 fl_X2_21 dX2_chargeBack_126 (fun a14 k_a14 hf => ?_)
    refine y_cv hf (fun q hq => x_runV (ci := 7) (C := RX7) B.1 B.2.2.2 hl hR hS cm_X2_139 ⟨rfl, rfl, Nat.le_of_ble_eq_true rfl, Nat.le_of_ble_eq_true rfl⟩ (by decide) rfl k_p3 (c_X7_putRow k_p3 k_a14 hq) rfl rfl (Nat.le_of_ble_eq_true rfl) dX2_chargeBack_129 ⟨Nat.le_of_ble_eq_true rfl, Nat.le_of_ble_eq_true rfl⟩) hS (fun S15 H locs hf hR hS => ?_)
    exact y_vret B hR hS hf dX2_chargeBack_132
def f_X2_chargeBack (T : xT) (S : xS) (p0 : Nat) (p1 : Nat) (p2 : Int32) (p3 : Nat) : Option (xS) := xgr T S p1 9 20 (fun a1 => xc (f_X9_total T S a1) (fun r3 S2 => xl ((xmin p2 r3)) (fun v4 => if v4 ≤ (0 : Int32) then f_X2_chargeBack_59 T S2 p0 p1 p3 else xgr T S2 p1 9 20 (fun a5 => xcv (f_X2_deal T S2 p0 v4 a5) (fun S6 => xgr T S6 p1 9 20 (fun a7 => xgr T S6 p0 5 20 (fun a8 => xcv (f_X9_takeAll T S6 a7 a8) (fun S9 => xgr T S9 p1 10 20 (fun a10 => xgr T S9 p0 5 20 (fun a11 => xcv (f_X9_addAll T S9 a10 a11) (fun S12 => xgr T S12 p0 5 20 (fun a13 => xcv (f_X7_putRow T S12 p3 ((0 : Int32)) a13) (fun S14 => f_X2_chargeBack_59 T S14 p0 p1 p3)))))))))))))
set_option maxRecDepth 100000 in
set_option maxHeartbeats 4000000 in
theorem c_X2_chargeBack {l : Launch} {z : Nat} {D : va_G} {dA : Nat → ClassId} {T : xT} {S : xS} {p0 : Nat} {p1 : Nat} {p2 : Int32} {p3 : Nat} (k_p0 : xlk T p0 2 = true) (k_p1 : xlk T p1 1 = true) (k_p3 : xlk T p3 7 = true) {q : xS} (hf : f_X2_chargeBack T S p0 p1 p2 p3 = some q) : Met l yX2_chargeBack (xws yX2_chargeBack cX2_chargeBack 6 none) xr_X2_chargeBack (xPc z D dA T S [.ref (z + p0), .ref (z + p1), .int p2, .ref (z + p3)]) (xQv z D dA T q) 0 0 (xA z) := by
  refine x_met RX2 (by decide) rfl (Nat.le_of_ble_eq_true rfl) ?_
  intro p e s m below meth c ls _ X hr hlk hml _ hR hS hl
  have B : xB p s m _ meth c cX2_chargeBack RX2 6 none D dA := ⟨X, hr, hlk, hml⟩
  have hl : xL ls 6 [_, _, _, _, _, _] := hl
  unfold f_X2_chargeBack at hf
  refine lv_iload_n B.1.1 B.1.2.1 dX2_chargeBack_0 rfl (hl.at 2 rfl) ?_
  refine lv_aload_n B.1.1 B.1.2.1 dX2_chargeBack_1 rfl (hl.at 1 rfl) ?_
  refine y_getR B hR hf k_p1 fl_X2_133 dX2_chargeBack_2 (fun a1 k_a1 hf => ?_)
  refine y_ci hf (fun q hq => x_runN B.1 B.2.2.2 hl hR hS cm_X2_88 ⟨rfl, rfl, Nat.le_of_ble_eq_true rfl, Nat.le_of_ble_eq_true rfl⟩ (c_X9_total k_a1 hq) rfl rfl (Nat.le_of_ble_eq_true rfl) dX2_chargeBack_5 ⟨Nat.le_of_ble_eq_true rfl, Nat.le_of_ble_eq_true rfl⟩) hS (fun r3 S2 H locs hf hR hS => ?_)
  refine y_mmin B hl ma_X2_72 ⟨Nat.le_of_ble_eq_true rfl, Nat.le_of_ble_eq_true rfl⟩ ⟨Nat.le_of_ble_eq_true rfl, Nat.le_of_ble_eq_true rfl⟩ dX2_chargeBack_8 ?_
  refine y_istore B hl hf dX2_chargeBack_11 (by decide) rfl (fun v4 ls hf hl => ?_)
  have hl : xL ls 6 [_, _, _, _, _, _] := hl
  refine lv_iload B.1.1 B.1.2.1 dX2_chargeBack_13 (hl.at 4 rfl) ?_
  refine y_if_le (tgt := 59) B hf dX2_chargeBack_15 (by decide) (fun hf => ?_) (fun hf => ?_)
  · exact w_X2_chargeBack_59 B _ _ _ _ _ _ _ k_p0 k_p1 k_p3 hf hR hS (hl.drop [true, true, false, true, false, false] rfl)
  · refine lv_aload_n B.1.1 B.1.2.1 dX2_chargeBack_18 rfl (hl.at 0 rfl) ?_
    refine lv_iload B.1.1 B.1.2.1 dX2_chargeBack_19 (hl.at 4 rfl) ?_
    refine lv_aload_n B.1.1 B.1.2.1 dX2_chargeBack_21 rfl (hl.at 1 rfl) ?_
    refine y_getR B hR hf k_p1 fl_X2_133 dX2_chargeBack_22 (fun a5 k_a5 hf => ?_)
    refine y_cv hf (fun q hq => x_runV (ci := 2) (C := RX2) B.1 B.2.2.2 hl hR hS cm_X2_46 ⟨rfl, rfl, Nat.le_of_ble_eq_true rfl, Nat.le_of_ble_eq_true rfl⟩ (by decide) rfl k_p0 (c_X2_deal k_p0 k_a5 hq) rfl rfl (Nat.le_of_ble_eq_true rfl) dX2_chargeBack_25 ⟨Nat.le_of_ble_eq_true rfl, Nat.le_of_ble_eq_true rfl⟩) hS (fun S6 H locs hf hR hS => ?_)
    refine lv_aload_n B.1.1 B.1.2.1 dX2_chargeBack_28 rfl (hl.at 1 rfl) ?_
    refine y_getR B hR hf k_p1 fl_X2_133 dX2_chargeBack_29 (fun a7 k_a7 hf => ?_)
    refine lv_aload_n B.1.1 B.1.2.1 dX2_chargeBack_32 rfl (hl.at 0 rfl) ?_
    refine y_getR B hR hf k_p0 fl_X2_21 dX2_chargeBack_33 (fun a8 k_a8 hf => ?_)
    refine y_cv hf (fun q hq => x_runN B.1 B.2.2.2 hl hR hS cm_X2_82 ⟨rfl, rfl, Nat.le_of_ble_eq_true rfl, Nat.le_of_ble_eq_true rfl⟩ (c_X9_takeAll k_a7 k_a8 hq) rfl rfl (Nat.le_of_ble_eq_true rfl) dX2_chargeBack_36 ⟨Nat.le_of_ble_eq_true rfl, Nat.le_of_ble_eq_true rfl⟩) hS (fun S9 H locs hf hR hS => ?_)
    refine lv_aload_n B.1.1 B.1.2.1 dX2_chargeBack_39 rfl (hl.at 1 rfl) ?_
    refine y_getR B hR hf k_p1 fl_X2_136 dX2_chargeBack_40 (fun a10 k_a10 hf => ?_)
    refine lv_aload_n B.1.1 B.1.2.1 dX2_chargeBack_43 rfl (hl.at 0 rfl) ?_
    refine y_getR B hR hf k_p0 fl_X2_21 dX2_chargeBack_44 (fun a11 k_a11 hf => ?_)
    refine y_cv hf (fun q hq => x_runN B.1 B.2.2.2 hl hR hS cm_X2_75 ⟨rfl, rfl, Nat.le_of_ble_eq_true rfl, Nat.le_of_ble_eq_true rfl⟩ (c_X9_addAll k_a10 k_a11 hq) rfl rfl (Nat.le_of_ble_eq_true rfl) dX2_chargeBack_47 ⟨Nat.le_of_ble_eq_true rfl, Nat.le_of_ble_eq_true rfl⟩) hS (fun S12 H locs hf hR hS => ?_)
    refine lv_aload_n B.1.1 B.1.2.1 dX2_chargeBack_50 rfl (hl.at 3 rfl) ?_
    refine lv_iconst (v := 0) B.1.1 B.1.2.1 dX2_chargeBack_51 (by decide) ?_
    refine lv_aload_n B.1.1 B.1.2.1 dX2_chargeBack_52 rfl (hl.at 0 rfl) ?_
    refine y_getR B hR hf k_p0 fl_X2_21 dX2_chargeBack_53 (fun a13 k_a13 hf => ?_)
    refine y_cv hf (fun q hq => x_runV (ci := 7) (C := RX7) B.1 B.2.2.2 hl hR hS cm_X2_139 ⟨rfl, rfl, Nat.le_of_ble_eq_true rfl, Nat.le_of_ble_eq_true rfl⟩ (by decide) rfl k_p3 (c_X7_putRow k_p3 k_a13 hq) rfl rfl (Nat.le_of_ble_eq_true rfl) dX2_chargeBack_56 ⟨Nat.le_of_ble_eq_true rfl, Nat.le_of_ble_eq_true rfl⟩) hS (fun S14 H locs hf hR hS => ?_)
    exact w_X2_chargeBack_59 B _ _ _ _ _ _ _ k_p0 k_p1 k_p3 hf hR hS (hl.drop [true, true, false, true, false, false] rfl)
abbrev xr_X2_takeDebtLoss : Room := { frames := 4, cells := 0, slots := 0, locals := 88 }
def f_X2_takeDebtLoss (T : xT) (S : xS) (p0 : Nat) (p1 : Nat) (p2 : Int32) (p3 : Nat) : Option (xS) := xl ((xmin p2 ((-(S.1 p1 3))))) (fun v1 => if v1 ≤ (0 : Int32) then some S else xgr T S p1 8 20 (fun a2 => xcv (f_X2_dealByRatio T S p0 v1 a2 ((S.1 p1 0))) (fun S3 => xgr T S3 p1 6 20 (fun a4 => xgr T S3 p0 5 20 (fun a5 => xcv (f_X9_takeAll T S3 a4 a5) (fun S6 => xgr T S6 p1 9 20 (fun a7 => xgr T S6 p0 5 20 (fun a8 => xcv (f_X9_addAll T S6 a7 a8) (fun S9 => xpi S9 p1 3 (((S9.1 p1 3) + v1)) (fun S10 => xgr T S10 p0 5 20 (fun a11 => xcv (f_X7_putRow T S10 p3 ((2 : Int32)) a11) (fun S12 => some S12))))))))))))
set_option maxRecDepth 100000 in
set_option maxHeartbeats 4000000 in
theorem c_X2_takeDebtLoss {l : Launch} {z : Nat} {D : va_G} {dA : Nat → ClassId} {T : xT} {S : xS} {p0 : Nat} {p1 : Nat} {p2 : Int32} {p3 : Nat} (k_p0 : xlk T p0 2 = true) (k_p1 : xlk T p1 1 = true) (k_p3 : xlk T p3 7 = true) {q : xS} (hf : f_X2_takeDebtLoss T S p0 p1 p2 p3 = some q) : Met l yX2_takeDebtLoss (xws yX2_takeDebtLoss cX2_takeDebtLoss 5 none) xr_X2_takeDebtLoss (xPc z D dA T S [.ref (z + p0), .ref (z + p1), .int p2, .ref (z + p3)]) (xQv z D dA T q) 0 0 (xA z) := by
  refine x_met RX2 (by decide) rfl (Nat.le_of_ble_eq_true rfl) ?_
  intro p e s m below meth c ls _ X hr hlk hml _ hR hS hl
  have B : xB p s m _ meth c cX2_takeDebtLoss RX2 5 none D dA := ⟨X, hr, hlk, hml⟩
  have hl : xL ls 5 [_, _, _, _, _] := hl
  unfold f_X2_takeDebtLoss at hf
  refine lv_iload_n B.1.1 B.1.2.1 dX2_takeDebtLoss_0 rfl (hl.at 2 rfl) ?_
  refine lv_aload_n B.1.1 B.1.2.1 dX2_takeDebtLoss_1 rfl (hl.at 1 rfl) ?_
  refine y_getI B hR k_p1 fl_X2_123 dX2_takeDebtLoss_2 ?_
  refine lv_ineg B.1.1 B.1.2.1 dX2_takeDebtLoss_5 ?_
  refine y_mmin B hl ma_X2_72 ⟨Nat.le_of_ble_eq_true rfl, Nat.le_of_ble_eq_true rfl⟩ ⟨Nat.le_of_ble_eq_true rfl, Nat.le_of_ble_eq_true rfl⟩ dX2_takeDebtLoss_6 ?_
  refine y_istore B hl hf dX2_takeDebtLoss_9 (by decide) rfl (fun v1 ls hf hl => ?_)
  have hl : xL ls 5 [_, _, _, _, _] := hl
  refine lv_iload B.1.1 B.1.2.1 dX2_takeDebtLoss_11 (hl.at 4 rfl) ?_
  refine y_if_le (tgt := 72) B hf dX2_takeDebtLoss_13 (by decide) (fun hf => ?_) (fun hf => ?_)
  · exact y_vret B hR hS hf dX2_takeDebtLoss_72
  · refine lv_aload_n B.1.1 B.1.2.1 dX2_takeDebtLoss_16 rfl (hl.at 0 rfl) ?_
    refine lv_iload B.1.1 B.1.2.1 dX2_takeDebtLoss_17 (hl.at 4 rfl) ?_
    refine lv_aload_n B.1.1 B.1.2.1 dX2_takeDebtLoss_19 rfl (hl.at 1 rfl) ?_
    refine y_getR B hR hf k_p1 fl_X2_142 dX2_takeDebtLoss_20 (fun a2 k_a2 hf => ?_)
    refine lv_aload_n B.1.1 B.1.2.1 dX2_takeDebtLoss_23 rfl (hl.at 1 rfl) ?_
    refine y_getI B hR k_p1 fl_X2_60 dX2_takeDebtLoss_24 ?_
    refine y_cv hf (fun q hq => x_runV (ci := 2) (C := RX2) B.1 B.2.2.2 hl hR hS cm_X2_145 ⟨rfl, rfl, Nat.le_of_ble_eq_true rfl, Nat.le_of_ble_eq_true rfl⟩ (by decide) rfl k_p0 (c_X2_dealByRatio k_p0 k_a2 hq) rfl rfl (Nat.le_of_ble_eq_true rfl) dX2_takeDebtLoss_27 ⟨Nat.le_of_ble_eq_true rfl, Nat.le_of_ble_eq_true rfl⟩) hS (fun S3 H locs hf hR hS => ?_)
    refine lv_aload_n B.1.1 B.1.2.1 dX2_takeDebtLoss_30 rfl (hl.at 1 rfl) ?_
    refine y_getR B hR hf k_p1 fl_X2_85 dX2_takeDebtLoss_31 (fun a4 k_a4 hf => ?_)
    refine lv_aload_n B.1.1 B.1.2.1 dX2_takeDebtLoss_34 rfl (hl.at 0 rfl) ?_
    refine y_getR B hR hf k_p0 fl_X2_21 dX2_takeDebtLoss_35 (fun a5 k_a5 hf => ?_)
    refine y_cv hf (fun q hq => x_runN B.1 B.2.2.2 hl hR hS cm_X2_82 ⟨rfl, rfl, Nat.le_of_ble_eq_true rfl, Nat.le_of_ble_eq_true rfl⟩ (c_X9_takeAll k_a4 k_a5 hq) rfl rfl (Nat.le_of_ble_eq_true rfl) dX2_takeDebtLoss_38 ⟨Nat.le_of_ble_eq_true rfl, Nat.le_of_ble_eq_true rfl⟩) hS (fun S6 H locs hf hR hS => ?_)
    refine lv_aload_n B.1.1 B.1.2.1 dX2_takeDebtLoss_41 rfl (hl.at 1 rfl) ?_
    refine y_getR B hR hf k_p1 fl_X2_133 dX2_takeDebtLoss_42 (fun a7 k_a7 hf => ?_)
    refine lv_aload_n B.1.1 B.1.2.1 dX2_takeDebtLoss_45 rfl (hl.at 0 rfl) ?_
    refine y_getR B hR hf k_p0 fl_X2_21 dX2_takeDebtLoss_46 (fun a8 k_a8 hf => ?_)
    refine y_cv hf (fun q hq => x_runN B.1 B.2.2.2 hl hR hS cm_X2_75 ⟨rfl, rfl, Nat.le_of_ble_eq_true rfl, Nat.le_of_ble_eq_true rfl⟩ (c_X9_addAll k_a7 k_a8 hq) rfl rfl (Nat.le_of_ble_eq_true rfl) dX2_takeDebtLoss_49 ⟨Nat.le_of_ble_eq_true rfl, Nat.le_of_ble_eq_true rfl⟩) hS (fun S9 H locs hf hR hS => ?_)
    refine lv_aload_n B.1.1 B.1.2.1 dX2_takeDebtLoss_52 rfl (hl.at 1 rfl) ?_
    refine lv_dup B.1.1 B.1.2.1 dX2_takeDebtLoss_53 rfl ?_
    refine y_getI B hR k_p1 fl_X2_123 dX2_takeDebtLoss_54 ?_
    refine lv_iload B.1.1 B.1.2.1 dX2_takeDebtLoss_57 (hl.at 4 rfl) ?_
    refine lv_iadd B.1.1 B.1.2.1 dX2_takeDebtLoss_59 ?_
    refine y_putI B hR hS hf k_p1 fp_X2_123 dX2_takeDebtLoss_60 (fun S10 H locs hf hR hS => ?_)
    refine lv_aload_n B.1.1 B.1.2.1 dX2_takeDebtLoss_63 rfl (hl.at 3 rfl) ?_
    refine lv_iconst (v := 2) B.1.1 B.1.2.1 dX2_takeDebtLoss_64 (by decide) ?_
    refine lv_aload_n B.1.1 B.1.2.1 dX2_takeDebtLoss_65 rfl (hl.at 0 rfl) ?_
    refine y_getR B hR hf k_p0 fl_X2_21 dX2_takeDebtLoss_66 (fun a11 k_a11 hf => ?_)
    refine y_cv hf (fun q hq => x_runV (ci := 7) (C := RX7) B.1 B.2.2.2 hl hR hS cm_X2_139 ⟨rfl, rfl, Nat.le_of_ble_eq_true rfl, Nat.le_of_ble_eq_true rfl⟩ (by decide) rfl k_p3 (c_X7_putRow k_p3 k_a11 hq) rfl rfl (Nat.le_of_ble_eq_true rfl) dX2_takeDebtLoss_69 ⟨Nat.le_of_ble_eq_true rfl, Nat.le_of_ble_eq_true rfl⟩) hS (fun S12 H locs hf hR hS => ?_)
    exact y_vret B hR hS hf dX2_takeDebtLoss_72
abbrev xr_X2_cure : Room := { frames := 3, cells := 0, slots := 0, locals := 63 }
def f_X2_cure_10 (T : xT) : Nat → xS → Nat → Nat → Nat → Int32 → Option (xS)
  | 0, _, _, _, _, _ => none
  | n + 1, S, p0, p1, p2, p3 => if (8 : Int32) ≤ p3 then xgr T S p0 4 20 (fun a1 => xc (f_X9_total T S a1) (fun r3 S2 => xl ((xmin ((S.1 p1 3)) r3)) (fun v4 => if v4 ≤ (0 : Int32) then some S2 else xgr T S2 p0 4 20 (fun a5 => xcv (f_X2_deal T S2 p0 v4 a5) (fun S6 => xgr T S6 p1 6 20 (fun a7 => xgr T S6 p0 5 20 (fun a8 => xcv (f_X9_addAll T S6 a7 a8) (fun S9 => xpi S9 p1 3 (((S9.1 p1 3) - v4)) (fun S10 => xgr T S10 p0 5 20 (fun a11 => xcv (f_X7_putRow T S10 p2 ((3 : Int32)) a11) (fun S12 => some S12))))))))))) else xgr T S p0 4 20 (fun a13 => xc (f_X1_hasPartner T S p1 p3) (fun r15 S14 => if r15 = (0 : Int32) then xst T S14 a13 p3 ((0 : Int32)) (fun S16 => xl (p3 + (1 : Int32)) (fun v17 => f_X2_cure_10 T n S16 p0 p1 p2 v17)) else xc (f_X1_floorOf T S14 p1 p3) (fun r19 S18 => xgr T S18 p1 6 20 (fun a20 => xai T S18 a20 p3 (fun v21 => xst T S18 a13 p3 ((xmax ((0 : Int32)) ((r19 - v21)))) (fun S22 => xl (p3 + (1 : Int32)) (fun v23 => f_X2_cure_10 T n S22 p0 p1 p2 v23)))))))
set_option maxRecDepth 100000 in
set_option maxHeartbeats 4000000 in
theorem w_X2_cure_10 {p : Program} {l : Launch} {e : Env} {s : State} {m : MethodId} {args : Array Value} {below : List Frame} {meth : Method} {c : Code} {z : Nat} {D : va_G} {dA : Nat → ClassId} {T : xT} (B : xB p s m args meth c cX2_cure RX2 4 none D dA) {q : xS} : ∀ (n : Nat), ∀ (S : xS) (H : Heap) (locs : List Loc) (ls : Array Slot) (p0 : Nat) (p1 : Nat) (p2 : Nat) (p3 : Int32), xlk T p0 2 = true → xlk T p1 1 = true → xlk T p2 7 = true → f_X2_cure_10 T n S p0 p1 p2 p3 = some q → xRel z D dA T S H → va_S (xA z) s.heap H locs → xL ls 4 [some (.ref (z + p0)), some (.ref (z + p1)), some (.ref (z + p2)), some (.int p3)] → xGv p l e xr_X2_cure s m args below meth c z D dA T q H locs 10 ls [] := by
  intro n
  induction n with
  | zero =>
    intro S H locs ls p0 p1 p2 p3 k_p0 k_p1 k_p2 hf hR hS hl
    exact absurd hf (by simp [f_X2_cure_10])
  | succ n ih =>
    intro S H locs ls p0 p1 p2 p3 k_p0 k_p1 k_p2 hf hR hS hl
    unfold f_X2_cure_10 at hf
    refine lv_iload_n B.1.1 B.1.2.1 dX2_cure_10 rfl (hl.at 3 rfl) ?_
    refine lv_bipush (v := 8) B.1.1 B.1.2.1 dX2_cure_11 (by decide) ?_
    refine y_icmp_ge (tgt := 56) B hf dX2_cure_13 (by decide) (fun hf => ?_) (fun hf => ?_)
    · refine lv_aload_n B.1.1 B.1.2.1 dX2_cure_56 rfl (hl.at 1 rfl) ?_
      refine y_getI B hR k_p1 fl_X2_123 dX2_cure_57 ?_
      refine lv_aload_n B.1.1 B.1.2.1 dX2_cure_60 rfl (hl.at 0 rfl) ?_
      refine y_getR B hR hf k_p0 fl_X2_18 dX2_cure_61 (fun a1 k_a1 hf => ?_)
      refine y_ci hf (fun q hq => x_runN B.1 B.2.2.2 hl hR hS cm_X2_88 ⟨rfl, rfl, Nat.le_of_ble_eq_true rfl, Nat.le_of_ble_eq_true rfl⟩ (c_X9_total k_a1 hq) rfl rfl (Nat.le_of_ble_eq_true rfl) dX2_cure_64 ⟨Nat.le_of_ble_eq_true rfl, Nat.le_of_ble_eq_true rfl⟩) hS (fun r3 S2 H locs hf hR hS => ?_)
      refine y_mmin B hl ma_X2_72 ⟨Nat.le_of_ble_eq_true rfl, Nat.le_of_ble_eq_true rfl⟩ ⟨Nat.le_of_ble_eq_true rfl, Nat.le_of_ble_eq_true rfl⟩ dX2_cure_67 ?_
      refine y_istore_n B hl hf dX2_cure_70 rfl (by decide) rfl (fun v4 ls hf hl => ?_)
      have hl : xL ls 4 [_, _, _, _] := hl
      refine lv_iload_n B.1.1 B.1.2.1 dX2_cure_71 rfl (hl.at 3 rfl) ?_
      refine y_if_le (tgt := 114) B hf dX2_cure_72 (by decide) (fun hf => ?_) (fun hf => ?_)
      · exact y_vret B hR hS hf dX2_cure_114
      · refine lv_aload_n B.1.1 B.1.2.1 dX2_cure_75 rfl (hl.at 0 rfl) ?_
        refine lv_iload_n B.1.1 B.1.2.1 dX2_cure_76 rfl (hl.at 3 rfl) ?_
        refine lv_aload_n B.1.1 B.1.2.1 dX2_cure_77 rfl (hl.at 0 rfl) ?_
        refine y_getR B hR hf k_p0 fl_X2_18 dX2_cure_78 (fun a5 k_a5 hf => ?_)
        refine y_cv hf (fun q hq => x_runV (ci := 2) (C := RX2) B.1 B.2.2.2 hl hR hS cm_X2_46 ⟨rfl, rfl, Nat.le_of_ble_eq_true rfl, Nat.le_of_ble_eq_true rfl⟩ (by decide) rfl k_p0 (c_X2_deal k_p0 k_a5 hq) rfl rfl (Nat.le_of_ble_eq_true rfl) dX2_cure_81 ⟨Nat.le_of_ble_eq_true rfl, Nat.le_of_ble_eq_true rfl⟩) hS (fun S6 H locs hf hR hS => ?_)
        refine lv_aload_n B.1.1 B.1.2.1 dX2_cure_84 rfl (hl.at 1 rfl) ?_
        refine y_getR B hR hf k_p1 fl_X2_85 dX2_cure_85 (fun a7 k_a7 hf => ?_)
        refine lv_aload_n B.1.1 B.1.2.1 dX2_cure_88 rfl (hl.at 0 rfl) ?_
        refine y_getR B hR hf k_p0 fl_X2_21 dX2_cure_89 (fun a8 k_a8 hf => ?_)
        refine y_cv hf (fun q hq => x_runN B.1 B.2.2.2 hl hR hS cm_X2_75 ⟨rfl, rfl, Nat.le_of_ble_eq_true rfl, Nat.le_of_ble_eq_true rfl⟩ (c_X9_addAll k_a7 k_a8 hq) rfl rfl (Nat.le_of_ble_eq_true rfl) dX2_cure_92 ⟨Nat.le_of_ble_eq_true rfl, Nat.le_of_ble_eq_true rfl⟩) hS (fun S9 H locs hf hR hS => ?_)
        refine lv_aload_n B.1.1 B.1.2.1 dX2_cure_95 rfl (hl.at 1 rfl) ?_
        refine lv_dup B.1.1 B.1.2.1 dX2_cure_96 rfl ?_
        refine y_getI B hR k_p1 fl_X2_123 dX2_cure_97 ?_
        refine lv_iload_n B.1.1 B.1.2.1 dX2_cure_100 rfl (hl.at 3 rfl) ?_
        refine lv_isub B.1.1 B.1.2.1 dX2_cure_101 ?_
        refine y_putI B hR hS hf k_p1 fp_X2_123 dX2_cure_102 (fun S10 H locs hf hR hS => ?_)
        refine lv_aload_n B.1.1 B.1.2.1 dX2_cure_105 rfl (hl.at 2 rfl) ?_
        refine lv_iconst (v := 3) B.1.1 B.1.2.1 dX2_cure_106 (by decide) ?_
        refine lv_aload_n B.1.1 B.1.2.1 dX2_cure_107 rfl (hl.at 0 rfl) ?_
        refine y_getR B hR hf k_p0 fl_X2_21 dX2_cure_108 (fun a11 k_a11 hf => ?_)
        refine y_cv hf (fun q hq => x_runV (ci := 7) (C := RX7) B.1 B.2.2.2 hl hR hS cm_X2_139 ⟨rfl, rfl, Nat.le_of_ble_eq_true rfl, Nat.le_of_ble_eq_true rfl⟩ (by decide) rfl k_p2 (c_X7_putRow k_p2 k_a11 hq) rfl rfl (Nat.le_of_ble_eq_true rfl) dX2_cure_111 ⟨Nat.le_of_ble_eq_true rfl, Nat.le_of_ble_eq_true rfl⟩) hS (fun S12 H locs hf hR hS => ?_)
        exact y_vret B hR hS hf dX2_cure_114
    · refine lv_aload_n B.1.1 B.1.2.1 dX2_cure_16 rfl (hl.at 0 rfl) ?_
      refine y_getR B hR hf k_p0 fl_X2_18 dX2_cure_17 (fun a13 k_a13 hf => ?_)
      refine lv_iload_n B.1.1 B.1.2.1 dX2_cure_20 rfl (hl.at 3 rfl) ?_
      refine lv_aload_n B.1.1 B.1.2.1 dX2_cure_21 rfl (hl.at 1 rfl) ?_
      refine lv_iload_n B.1.1 B.1.2.1 dX2_cure_22 rfl (hl.at 3 rfl) ?_
      refine y_ci hf (fun q hq => x_runV (ci := 1) (C := RX1) B.1 B.2.2.2 hl hR hS cm_X2_149 ⟨rfl, rfl, Nat.le_of_ble_eq_true rfl, Nat.le_of_ble_eq_true rfl⟩ (by decide) rfl k_p1 (c_X1_hasPartner k_p1 hq) rfl rfl (Nat.le_of_ble_eq_true rfl) dX2_cure_23 ⟨Nat.le_of_ble_eq_true rfl, Nat.le_of_ble_eq_true rfl⟩) hS (fun r15 S14 H locs hf hR hS => ?_)
      refine y_if_eq (tgt := 48) B hf dX2_cure_26 (by decide) (fun hf => ?_) (fun hf => ?_)
      · refine lv_iconst (v := 0) B.1.1 B.1.2.1 dX2_cure_48 (by decide) ?_
        refine y_iast B hR hS hf k_a13 dX2_cure_49 (fun S16 H locs hf hR hS => ?_)
        refine y_iinc (d := 1) B hl hf dX2_cure_50 rfl (by decide) (by decide) rfl (fun v17 ls hf hl => ?_)
        have hl : xL ls 4 [_, _, _, _] := hl
        refine lv_goto (tgt := 10) B.1.1 B.1.2.1 dX2_cure_53 (by decide) ?_
        exact ih _ _ _ _ _ _ _ _ k_p0 k_p1 k_p2 hf hR hS hl
      · refine lv_iconst (v := 0) B.1.1 B.1.2.1 dX2_cure_29 (by decide) ?_
        refine lv_aload_n B.1.1 B.1.2.1 dX2_cure_30 rfl (hl.at 1 rfl) ?_
        refine lv_iload_n B.1.1 B.1.2.1 dX2_cure_31 rfl (hl.at 3 rfl) ?_
        refine y_ci hf (fun q hq => x_runV (ci := 1) (C := RX1) B.1 B.2.2.2 hl hR hS cm_X2_153 ⟨rfl, rfl, Nat.le_of_ble_eq_true rfl, Nat.le_of_ble_eq_true rfl⟩ (by decide) rfl k_p1 (c_X1_floorOf k_p1 hq) rfl rfl (Nat.le_of_ble_eq_true rfl) dX2_cure_32 ⟨Nat.le_of_ble_eq_true rfl, Nat.le_of_ble_eq_true rfl⟩) hS (fun r19 S18 H locs hf hR hS => ?_)
        refine lv_aload_n B.1.1 B.1.2.1 dX2_cure_35 rfl (hl.at 1 rfl) ?_
        refine y_getR B hR hf k_p1 fl_X2_85 dX2_cure_36 (fun a20 k_a20 hf => ?_)
        refine lv_iload_n B.1.1 B.1.2.1 dX2_cure_39 rfl (hl.at 3 rfl) ?_
        refine y_iald B hR hf k_a20 dX2_cure_40 (fun v21 hf => ?_)
        refine lv_isub B.1.1 B.1.2.1 dX2_cure_41 ?_
        refine y_mmax B hl ma_X2_36 ⟨Nat.le_of_ble_eq_true rfl, Nat.le_of_ble_eq_true rfl⟩ ⟨Nat.le_of_ble_eq_true rfl, Nat.le_of_ble_eq_true rfl⟩ dX2_cure_42 ?_
        refine lv_goto (tgt := 49) B.1.1 B.1.2.1 dX2_cure_45 (by decide) ?_
        refine y_iast B hR hS hf k_a13 dX2_cure_49 (fun S22 H locs hf hR hS => ?_)
        refine y_iinc (d := 1) B hl hf dX2_cure_50 rfl (by decide) (by decide) rfl (fun v23 ls hf hl => ?_)
        have hl : xL ls 4 [_, _, _, _] := hl
        refine lv_goto (tgt := 10) B.1.1 B.1.2.1 dX2_cure_53 (by decide) ?_
        exact ih _ _ _ _ _ _ _ _ k_p0 k_p1 k_p2 hf hR hS hl
def f_X2_cure (T : xT) (S : xS) (p0 : Nat) (p1 : Nat) (p2 : Nat) : Option (xS) := if (0 : Int32) < (S.1 p1 3) then xl ((0 : Int32)) (fun v1 => f_X2_cure_10 T xfu S p0 p1 p2 v1) else some S
set_option maxRecDepth 100000 in
set_option maxHeartbeats 4000000 in
theorem c_X2_cure {l : Launch} {z : Nat} {D : va_G} {dA : Nat → ClassId} {T : xT} {S : xS} {p0 : Nat} {p1 : Nat} {p2 : Nat} (k_p0 : xlk T p0 2 = true) (k_p1 : xlk T p1 1 = true) (k_p2 : xlk T p2 7 = true) {q : xS} (hf : f_X2_cure T S p0 p1 p2 = some q) : Met l yX2_cure (xws yX2_cure cX2_cure 4 none) xr_X2_cure (xPc z D dA T S [.ref (z + p0), .ref (z + p1), .ref (z + p2)]) (xQv z D dA T q) 0 0 (xA z) := by
  refine x_met RX2 (by decide) rfl (Nat.le_of_ble_eq_true rfl) ?_
  intro p e s m below meth c ls _ X hr hlk hml _ hR hS hl
  have B : xB p s m _ meth c cX2_cure RX2 4 none D dA := ⟨X, hr, hlk, hml⟩
  have hl : xL ls 4 [_, _, _, _] := hl
  unfold f_X2_cure at hf
  refine lv_aload_n B.1.1 B.1.2.1 dX2_cure_0 rfl (hl.at 1 rfl) ?_
  refine y_getI B hR k_p1 fl_X2_123 dX2_cure_1 ?_
  refine y_if_gt (tgt := 8) B hf dX2_cure_4 (by decide) (fun hf => ?_) (fun hf => ?_)
  · refine lv_iconst (v := 0) B.1.1 B.1.2.1 dX2_cure_8 (by decide) ?_
    refine y_istore_n B hl hf dX2_cure_9 rfl (by decide) rfl (fun v1 ls hf hl => ?_)
    have hl : xL ls 4 [_, _, _, _] := hl
    exact w_X2_cure_10 B xfu _ _ _ _ _ _ _ _ k_p0 k_p1 k_p2 hf hR hS hl
  · exact y_vret B hR hS hf dX2_cure_7
abbrev xr_X4_valueOf : Room := { frames := 2, cells := 0, slots := 0, locals := 34 }
def f_X4_valueOf (T : xT) (S : xS) (p0 : Nat) (p1 : Int32) (p2 : Nat) : Option (Int32 × xS) := xgr T S p0 8 20 (fun a1 => xai T S a1 p1 (fun v2 => if v2 = (1 : Int32) then some ((S.1 p2 3), S) else if v2 = (2 : Int32) then some ((S.1 p2 2), S) else if v2 = (3 : Int32) then xc (f_X1_held T S p2) (fun r7 S6 => some (r7, S6)) else if v2 = (4 : Int32) then some ((S.1 p2 4), S) else if v2 = (5 : Int32) then xc (f_X1_net T S p2) (fun r11 S10 => some (r11, S10)) else if v2 = (6 : Int32) then xgr T S p2 6 20 (fun a13 => xgr T S p0 9 20 (fun a14 => xai T S a14 p1 (fun v15 => xai T S a13 v15 (fun v16 => some (v16, S))))) else if v2 = (7 : Int32) then xgr T S p2 9 20 (fun a18 => xgr T S p0 9 20 (fun a19 => xai T S a19 p1 (fun v20 => xai T S a18 v20 (fun v21 => some (v21, S))))) else xgr T S p0 9 20 (fun a22 => xai T S a22 p1 (fun v23 => some (v23, S)))))
set_option maxRecDepth 100000 in
set_option maxHeartbeats 4000000 in
theorem c_X4_valueOf {l : Launch} {z : Nat} {D : va_G} {dA : Nat → ClassId} {T : xT} {S : xS} {p0 : Nat} {p1 : Int32} {p2 : Nat} (k_p0 : xlk T p0 4 = true) (k_p2 : xlk T p2 1 = true) {q : Int32 × xS} (hf : f_X4_valueOf T S p0 p1 p2 = some q) : Met l yX4_valueOf (xws yX4_valueOf cX4_valueOf 3 (some .int)) xr_X4_valueOf (xPc z D dA T S [.ref (z + p0), .int p1, .ref (z + p2)]) (xQi z D dA T q) 0 0 (xA z) := by
  refine x_met RX4 (by decide) rfl (Nat.le_of_ble_eq_true rfl) ?_
  intro p e s m below meth c ls _ X hr hlk hml _ hR hS hl
  have B : xB p s m _ meth c cX4_valueOf RX4 3 (some .int) D dA := ⟨X, hr, hlk, hml⟩
  have hl : xL ls 3 [_, _, _] := hl
  unfold f_X4_valueOf at hf
  refine lv_aload_n B.1.1 B.1.2.1 dX4_valueOf_0 rfl (hl.at 0 rfl) ?_
  refine y_getR B hR hf k_p0 fl_X4_31 dX4_valueOf_1 (fun a1 k_a1 hf => ?_)
  refine lv_iload_n B.1.1 B.1.2.1 dX4_valueOf_4 rfl (hl.at 1 rfl) ?_
  refine y_iald B hR hf k_a1 dX4_valueOf_5 (fun v2 hf => ?_)
  refine x_if hf (fun c3 hf => ?_) (fun c3 hf => ?_)
  · refine y_tcase (k := 1) (off := 42) (tgt := 48) B c3 dX4_valueOf_6 (by decide) (by decide) (by decide) (by decide) ?_
    refine lv_aload_n B.1.1 B.1.2.1 dX4_valueOf_48 rfl (hl.at 2 rfl) ?_
    refine y_getI B hR k_p2 fl_X4_50 dX4_valueOf_49 ?_
    exact y_iret B hR hS hf dX4_valueOf_52
  refine x_if hf (fun c4 hf => ?_) (fun c4 hf => ?_)
  · refine y_tcase (k := 2) (off := 47) (tgt := 53) B c4 dX4_valueOf_6 (by decide) (by decide) (by decide) (by decide) ?_
    refine lv_aload_n B.1.1 B.1.2.1 dX4_valueOf_53 rfl (hl.at 2 rfl) ?_
    refine y_getI B hR k_p2 fl_X4_67 dX4_valueOf_54 ?_
    exact y_iret B hR hS hf dX4_valueOf_57
  refine x_if hf (fun c5 hf => ?_) (fun c5 hf => ?_)
  · refine y_tcase (k := 3) (off := 52) (tgt := 58) B c5 dX4_valueOf_6 (by decide) (by decide) (by decide) (by decide) ?_
    refine lv_aload_n B.1.1 B.1.2.1 dX4_valueOf_58 rfl (hl.at 2 rfl) ?_
    refine y_ci hf (fun q hq => x_runV (ci := 1) (C := RX1) B.1 B.2.2.2 hl hR hS cm_X4_70 ⟨rfl, rfl, Nat.le_of_ble_eq_true rfl, Nat.le_of_ble_eq_true rfl⟩ (by decide) rfl k_p2 (c_X1_held k_p2 hq) rfl rfl (Nat.le_of_ble_eq_true rfl) dX4_valueOf_59 ⟨Nat.le_of_ble_eq_true rfl, Nat.le_of_ble_eq_true rfl⟩) hS (fun r7 S6 H locs hf hR hS => ?_)
    exact y_iret B hR hS hf dX4_valueOf_62
  refine x_if hf (fun c8 hf => ?_) (fun c8 hf => ?_)
  · refine y_tcase (k := 4) (off := 57) (tgt := 63) B c8 dX4_valueOf_6 (by decide) (by decide) (by decide) (by decide) ?_
    refine lv_aload_n B.1.1 B.1.2.1 dX4_valueOf_63 rfl (hl.at 2 rfl) ?_
    refine y_getI B hR k_p2 fl_X4_74 dX4_valueOf_64 ?_
    exact y_iret B hR hS hf dX4_valueOf_67
  refine x_if hf (fun c9 hf => ?_) (fun c9 hf => ?_)
  · refine y_tcase (k := 5) (off := 62) (tgt := 68) B c9 dX4_valueOf_6 (by decide) (by decide) (by decide) (by decide) ?_
    refine lv_aload_n B.1.1 B.1.2.1 dX4_valueOf_68 rfl (hl.at 2 rfl) ?_
    refine y_ci hf (fun q hq => x_runV (ci := 1) (C := RX1) B.1 B.2.2.2 hl hR hS cm_X4_77 ⟨rfl, rfl, Nat.le_of_ble_eq_true rfl, Nat.le_of_ble_eq_true rfl⟩ (by decide) rfl k_p2 (c_X1_net k_p2 hq) rfl rfl (Nat.le_of_ble_eq_true rfl) dX4_valueOf_69 ⟨Nat.le_of_ble_eq_true rfl, Nat.le_of_ble_eq_true rfl⟩) hS (fun r11 S10 H locs hf hR hS => ?_)
    exact y_iret B hR hS hf dX4_valueOf_72
  refine x_if hf (fun c12 hf => ?_) (fun c12 hf => ?_)
  · refine y_tcase (k := 6) (off := 67) (tgt := 73) B c12 dX4_valueOf_6 (by decide) (by decide) (by decide) (by decide) ?_
    refine lv_aload_n B.1.1 B.1.2.1 dX4_valueOf_73 rfl (hl.at 2 rfl) ?_
    refine y_getR B hR hf k_p2 fl_X4_80 dX4_valueOf_74 (fun a13 k_a13 hf => ?_)
    refine lv_aload_n B.1.1 B.1.2.1 dX4_valueOf_77 rfl (hl.at 0 rfl) ?_
    refine y_getR B hR hf k_p0 fl_X4_34 dX4_valueOf_78 (fun a14 k_a14 hf => ?_)
    refine lv_iload_n B.1.1 B.1.2.1 dX4_valueOf_81 rfl (hl.at 1 rfl) ?_
    refine y_iald B hR hf k_a14 dX4_valueOf_82 (fun v15 hf => ?_)
    refine y_iald B hR hf k_a13 dX4_valueOf_83 (fun v16 hf => ?_)
    exact y_iret B hR hS hf dX4_valueOf_84
  refine x_if hf (fun c17 hf => ?_) (fun c17 hf => ?_)
  · refine y_tcase (k := 7) (off := 79) (tgt := 85) B c17 dX4_valueOf_6 (by decide) (by decide) (by decide) (by decide) ?_
    refine lv_aload_n B.1.1 B.1.2.1 dX4_valueOf_85 rfl (hl.at 2 rfl) ?_
    refine y_getR B hR hf k_p2 fl_X4_83 dX4_valueOf_86 (fun a18 k_a18 hf => ?_)
    refine lv_aload_n B.1.1 B.1.2.1 dX4_valueOf_89 rfl (hl.at 0 rfl) ?_
    refine y_getR B hR hf k_p0 fl_X4_34 dX4_valueOf_90 (fun a19 k_a19 hf => ?_)
    refine lv_iload_n B.1.1 B.1.2.1 dX4_valueOf_93 rfl (hl.at 1 rfl) ?_
    refine y_iald B hR hf k_a19 dX4_valueOf_94 (fun v20 hf => ?_)
    refine y_iald B hR hf k_a18 dX4_valueOf_95 (fun v21 hf => ?_)
    exact y_iret B hR hS hf dX4_valueOf_96
  have n0 := lv_neT c3 (a := 1) (by decide)
  have n1 := lv_neT c4 (a := 2) (by decide)
  have n2 := lv_neT c5 (a := 3) (by decide)
  have n3 := lv_neT c8 (a := 4) (by decide)
  have n4 := lv_neT c9 (a := 5) (by decide)
  have n5 := lv_neT c12 (a := 6) (by decide)
  have n6 := lv_neT c17 (a := 7) (by decide)
  refine y_tdef (tgt := 97) B dX4_valueOf_6 (by omega) (by decide) ?_
  refine lv_aload_n B.1.1 B.1.2.1 dX4_valueOf_97 rfl (hl.at 0 rfl) ?_
  refine y_getR B hR hf k_p0 fl_X4_34 dX4_valueOf_98 (fun a22 k_a22 hf => ?_)
  refine lv_iload_n B.1.1 B.1.2.1 dX4_valueOf_101 rfl (hl.at 1 rfl) ?_
  refine y_iald B hR hf k_a22 dX4_valueOf_102 (fun v23 hf => ?_)
  exact y_iret B hR hS hf dX4_valueOf_103
