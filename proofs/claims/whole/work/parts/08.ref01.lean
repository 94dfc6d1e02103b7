abbrev xr_X10_nextToken : Room := { frames := 2, cells := 0, slots := 0, locals := 34 }
def f_X10_nextToken_65 (T : xT) : Nat → xS → Nat → Option (xS)
  | 0, _, _ => none
  | n + 1, S, p0 => xc (f_X10_here T S p0) (fun r2 S1 => xc (f_X10_isLetter T S1 r2) (fun r4 S3 => if r4 = (0 : Int32) then some S3 else xc (f_X10_here T S3 p0) (fun r6 S5 => xc (f_X10_letter T S5 ((S3.2.1 p0 10)) r6) (fun r8 S7 => xpj S7 p0 10 r8 (fun S9 => xpi S9 p0 6 (((S9.1 p0 6) + (1 : Int32))) (fun S10 => f_X10_nextToken_65 T n S10 p0))))))
set_option maxRecDepth 100000 in
set_option maxHeartbeats 4000000 in
theorem w_X10_nextToken_65 {p : Program} {l : Launch} {e : Env} {s : State} {m : MethodId} {args : Array Value} {below : List Frame} {meth : Method} {c : Code} {z : Nat} {D : va_G} {dA : Nat → ClassId} {T : xT} (B : xB p s m args meth c cX10_nextToken RX10 2 none D dA) {q : xS} : ∀ (n : Nat), ∀ (S : xS) (H : Heap) (locs : List Loc) (ls : Array Slot) (p0 : Nat), xlk T p0 10 = true → f_X10_nextToken_65 T n S p0 = some q → xRel z D dA T S H → va_S (xA z) s.heap H locs → xL ls 2 [some (.ref (z + p0)), none] → xGv p l e xr_X10_nextToken s m args below meth c z D dA T q H locs 65 ls [] := by
  intro n
  induction n with
  | zero =>
    intro S H locs ls p0 k_p0 hf hR hS hl
    exact absurd hf (by simp [f_X10_nextToken_65])
  | succ n ih =>
    intro S H locs ls p0 k_p0 hf hR hS hl
    unfold f_X10_nextToken_65 at hf
    refine lv_aload_n B.1.1 B.1.2.1 dX10_nextToken_65 rfl (hl.at 0 rfl) ?_
    refine y_ci hf (fun q hq => x_runV (ci := 10) (C := RX10) B.1 B.2.2.2 hl hR hS cm_X10_122 ⟨rfl, rfl, Nat.le_of_ble_eq_true rfl, Nat.le_of_ble_eq_true rfl⟩ (by decide) rfl k_p0 (c_X10_here k_p0 hq) rfl rfl (Nat.le_of_ble_eq_true rfl) dX10_nextToken_66 ⟨Nat.le_of_ble_eq_true rfl, Nat.le_of_ble_eq_true rfl⟩) hS (fun r2 S1 H locs hf hR hS => ?_)
    refine y_ci hf (fun q hq => y_runS B.1 B.2.2.2 hl hR hS cm_X10_132 ⟨rfl, rfl, Nat.le_of_ble_eq_true rfl, Nat.le_of_ble_eq_true rfl⟩ (c_X10_isLetter hq) rfl rfl (Nat.le_of_ble_eq_true rfl) dX10_nextToken_69 ⟨Nat.le_of_ble_eq_true rfl, Nat.le_of_ble_eq_true rfl⟩) hS (fun r4 S3 H locs hf hR hS => ?_)
    refine y_if_eq (tgt := 239) B hf dX10_nextToken_72 (by decide) (fun hf => ?_) (fun hf => ?_)
    · exact y_vret B hR hS hf dX10_nextToken_239
    · refine lv_aload_n B.1.1 B.1.2.1 dX10_nextToken_75 rfl (hl.at 0 rfl) ?_
      refine lv_aload_n B.1.1 B.1.2.1 dX10_nextToken_76 rfl (hl.at 0 rfl) ?_
      refine y_getJ B hR k_p0 fl_X10_136 dX10_nextToken_77 ?_
      refine lv_aload_n B.1.1 B.1.2.1 dX10_nextToken_80 rfl (hl.at 0 rfl) ?_
      refine y_ci hf (fun q hq => x_runV (ci := 10) (C := RX10) B.1 B.2.2.2 hl hR hS cm_X10_122 ⟨rfl, rfl, Nat.le_of_ble_eq_true rfl, Nat.le_of_ble_eq_true rfl⟩ (by decide) rfl k_p0 (c_X10_here k_p0 hq) rfl rfl (Nat.le_of_ble_eq_true rfl) dX10_nextToken_81 ⟨Nat.le_of_ble_eq_true rfl, Nat.le_of_ble_eq_true rfl⟩) hS (fun r6 S5 H locs hf hR hS => ?_)
      refine y_cl hf (fun q hq => y_runS B.1 B.2.2.2 hl hR hS cm_X10_106 ⟨rfl, rfl, Nat.le_of_ble_eq_true rfl, Nat.le_of_ble_eq_true rfl⟩ (c_X10_letter hq) rfl rfl (Nat.le_of_ble_eq_true rfl) dX10_nextToken_84 ⟨Nat.le_of_ble_eq_true rfl, Nat.le_of_ble_eq_true rfl⟩) hS (fun r8 S7 H locs hf hR hS => ?_)
      refine y_putJ B hR hS hf k_p0 fp_X10_136 dX10_nextToken_87 (fun S9 H locs hf hR hS => ?_)
      refine lv_aload_n B.1.1 B.1.2.1 dX10_nextToken_90 rfl (hl.at 0 rfl) ?_
      refine lv_dup B.1.1 B.1.2.1 dX10_nextToken_91 rfl ?_
      refine y_getI B hR k_p0 fl_X10_95 dX10_nextToken_92 ?_
      refine lv_iconst (v := 1) B.1.1 B.1.2.1 dX10_nextToken_95 (by decide) ?_
      refine lv_iadd B.1.1 B.1.2.1 dX10_nextToken_96 ?_
      refine y_putI B hR hS hf k_p0 fp_X10_95 dX10_nextToken_97 (fun S10 H locs hf hR hS => ?_)
      refine lv_goto (tgt := 65) B.1.1 B.1.2.1 dX10_nextToken_100 (by decide) ?_
      exact ih _ _ _ _ _ k_p0 hf hR hS hl
def f_X10_nextToken_120 (T : xT) : Nat → xS → Nat → Option (xS)
  | 0, _, _ => none
  | n + 1, S, p0 => xc (f_X10_here T S p0) (fun r2 S1 => xc (f_X10_isFigure T S1 r2) (fun r4 S3 => if r4 = (0 : Int32) then some S3 else if (S3.1 p0 11) ≤ (1000000 : Int32) then xc (f_X10_here T S3 p0) (fun r6 S5 => xpi S5 p0 11 (((((10 : Int32) * (S3.1 p0 11)) + r6) - (48 : Int32))) (fun S7 => xpi S7 p0 6 (((S7.1 p0 6) + (1 : Int32))) (fun S8 => f_X10_nextToken_120 T n S8 p0))) else xpi S3 p0 11 ((S3.1 p0 11)) (fun S9 => xpi S9 p0 6 (((S9.1 p0 6) + (1 : Int32))) (fun S10 => f_X10_nextToken_120 T n S10 p0))))
set_option maxRecDepth 100000 in
set_option maxHeartbeats 4000000 in
theorem w_X10_nextToken_120 {p : Program} {l : Launch} {e : Env} {s : State} {m : MethodId} {args : Array Value} {below : List Frame} {meth : Method} {c : Code} {z : Nat} {D : va_G} {dA : Nat → ClassId} {T : xT} (B : xB p s m args meth c cX10_nextToken RX10 2 none D dA) {q : xS} : ∀ (n : Nat), ∀ (S : xS) (H : Heap) (locs : List Loc) (ls : Array Slot) (p0 : Nat), xlk T p0 10 = true → f_X10_nextToken_120 T n S p0 = some q → xRel z D dA T S H → va_S (xA z) s.heap H locs → xL ls 2 [some (.ref (z + p0)), none] → xGv p l e xr_X10_nextToken s m args below meth c z D dA T q H locs 120 ls [] := by
  intro n
  induction n with
  | zero =>
    intro S H locs ls p0 k_p0 hf hR hS hl
    exact absurd hf (by simp [f_X10_nextToken_120])
  | succ n ih =>
    intro S H locs ls p0 k_p0 hf hR hS hl
    unfold f_X10_nextToken_120 at hf
    refine lv_aload_n B.1.1 B.1.2.1 dX10_nextToken_120 rfl (hl.at 0 rfl) ?_
    refine y_ci hf (fun q hq => x_runV (ci := 10) (C := RX10) B.1 B.2.2.2 hl hR hS cm_X10_122 ⟨rfl, rfl, Nat.le_of_ble_eq_true rfl, Nat.le_of_ble_eq_true rfl⟩ (by decide) rfl k_p0 (c_X10_here k_p0 hq) rfl rfl (Nat.le_of_ble_eq_true rfl) dX10_nextToken_121 ⟨Nat.le_of_ble_eq_true rfl, Nat.le_of_ble_eq_true rfl⟩) hS (fun r2 S1 H locs hf hR hS => ?_)
    refine y_ci hf (fun q hq => y_runS B.1 B.2.2.2 hl hR hS cm_X10_140 ⟨rfl, rfl, Nat.le_of_ble_eq_true rfl, Nat.le_of_ble_eq_true rfl⟩ (c_X10_isFigure hq) rfl rfl (Nat.le_of_ble_eq_true rfl) dX10_nextToken_124 ⟨Nat.le_of_ble_eq_true rfl, Nat.le_of_ble_eq_true rfl⟩) hS (fun r4 S3 H locs hf hR hS => ?_)
    refine y_if_eq (tgt := 239) B hf dX10_nextToken_127 (by decide) (fun hf => ?_) (fun hf => ?_)
    · exact y_vret B hR hS hf dX10_nextToken_239
    · refine lv_aload_n B.1.1 B.1.2.1 dX10_nextToken_130 rfl (hl.at 0 rfl) ?_
      refine lv_aload_n B.1.1 B.1.2.1 dX10_nextToken_131 rfl (hl.at 0 rfl) ?_
      refine y_getI B hR k_p0 fl_X10_143 dX10_nextToken_132 ?_
      refine lv_ldc (v := 1000000) B.1.1 B.1.2.1 B.1.2.2.1 (B.1.2.2.2.1 _ tw_1240) dX10_nextToken_135 ?_
      refine y_icmp_le (tgt := 147) B hf dX10_nextToken_137 (by decide) (fun hf => ?_) (fun hf => ?_)
      · refine lv_bipush (v := 10) B.1.1 B.1.2.1 dX10_nextToken_147 (by decide) ?_
        refine lv_aload_n B.1.1 B.1.2.1 dX10_nextToken_149 rfl (hl.at 0 rfl) ?_
        refine y_getI B hR k_p0 fl_X10_143 dX10_nextToken_150 ?_
        refine lv_imul B.1.1 B.1.2.1 dX10_nextToken_153 ?_
        refine lv_aload_n B.1.1 B.1.2.1 dX10_nextToken_154 rfl (hl.at 0 rfl) ?_
        refine y_ci hf (fun q hq => x_runV (ci := 10) (C := RX10) B.1 B.2.2.2 hl hR hS cm_X10_122 ⟨rfl, rfl, Nat.le_of_ble_eq_true rfl, Nat.le_of_ble_eq_true rfl⟩ (by decide) rfl k_p0 (c_X10_here k_p0 hq) rfl rfl (Nat.le_of_ble_eq_true rfl) dX10_nextToken_155 ⟨Nat.le_of_ble_eq_true rfl, Nat.le_of_ble_eq_true rfl⟩) hS (fun r6 S5 H locs hf hR hS => ?_)
        refine lv_iadd B.1.1 B.1.2.1 dX10_nextToken_158 ?_
        refine lv_bipush (v := 48) B.1.1 B.1.2.1 dX10_nextToken_159 (by decide) ?_
        refine lv_isub B.1.1 B.1.2.1 dX10_nextToken_161 ?_
        refine y_putI B hR hS hf k_p0 fp_X10_143 dX10_nextToken_162 (fun S7 H locs hf hR hS => ?_)
        refine lv_aload_n B.1.1 B.1.2.1 dX10_nextToken_165 rfl (hl.at 0 rfl) ?_
        refine lv_dup B.1.1 B.1.2.1 dX10_nextToken_166 rfl ?_
        refine y_getI B hR k_p0 fl_X10_95 dX10_nextToken_167 ?_
        refine lv_iconst (v := 1) B.1.1 B.1.2.1 dX10_nextToken_170 (by decide) ?_
        refine lv_iadd B.1.1 B.1.2.1 dX10_nextToken_171 ?_
        refine y_putI B hR hS hf k_p0 fp_X10_95 dX10_nextToken_172 (fun S8 H locs hf hR hS => ?_)
        refine lv_goto (tgt := 120) B.1.1 B.1.2.1 dX10_nextToken_175 (by decide) ?_
        exact ih _ _ _ _ _ k_p0 hf hR hS hl
      · refine lv_aload_n B.1.1 B.1.2.1 dX10_nextToken_140 rfl (hl.at 0 rfl) ?_
        refine y_getI B hR k_p0 fl_X10_143 dX10_nextToken_141 ?_
        refine lv_goto (tgt := 162) B.1.1 B.1.2.1 dX10_nextToken_144 (by decide) ?_
        refine y_putI B hR hS hf k_p0 fp_X10_143 dX10_nextToken_162 (fun S9 H locs hf hR hS => ?_)
        refine lv_aload_n B.1.1 B.1.2.1 dX10_nextToken_165 rfl (hl.at 0 rfl) ?_
        refine lv_dup B.1.1 B.1.2.1 dX10_nextToken_166 rfl ?_
        refine y_getI B hR k_p0 fl_X10_95 dX10_nextToken_167 ?_
        refine lv_iconst (v := 1) B.1.1 B.1.2.1 dX10_nextToken_170 (by decide) ?_
        refine lv_iadd B.1.1 B.1.2.1 dX10_nextToken_171 ?_
        refine y_putI B hR hS hf k_p0 fp_X10_95 dX10_nextToken_172 (fun S10 H locs hf hR hS => ?_)
        refine lv_goto (tgt := 120) B.1.1 B.1.2.1 dX10_nextToken_175 (by decide) ?_
        exact ih _ _ _ _ _ k_p0 hf hR hS hl
def f_X10_nextToken_0 (T : xT) : Nat → xS → Nat → Option (xS)
  | 0, _, _ => none
  | n + 1, S, p0 => xc (f_X10_here T S p0) (fun r2 S1 => if r2 = (32 : Int32) then xpi S1 p0 6 (((S1.1 p0 6) + (1 : Int32))) (fun S32 => f_X10_nextToken_0 T n S32 p0) else xpi S1 p0 7 ((S1.1 p0 6)) (fun S3 => xc (f_X10_here T S3 p0) (fun r5 S4 => xl r5 (fun v6 => if v6 = (-1 : Int32) then xpi S4 p0 8 ((0 : Int32)) (fun S31 => some S31) else xc (f_X10_isLetter T S4 v6) (fun r8 S7 => if r8 = (0 : Int32) then xc (f_X10_isFigure T S7 v6) (fun r10 S9 => if r10 = (0 : Int32) then if v6 = (59 : Int32) then xpi S9 p0 8 v6 (fun S11 => xpi S11 p0 6 (((S11.1 p0 6) + (1 : Int32))) (fun S12 => some S12)) else if v6 = (43 : Int32) then xpi S9 p0 8 v6 (fun S13 => xpi S13 p0 6 (((S13.1 p0 6) + (1 : Int32))) (fun S14 => some S14)) else if v6 = (45 : Int32) then xpi S9 p0 8 v6 (fun S15 => xpi S15 p0 6 (((S15.1 p0 6) + (1 : Int32))) (fun S16 => some S16)) else if v6 = (42 : Int32) then xpi S9 p0 8 v6 (fun S17 => xpi S17 p0 6 (((S17.1 p0 6) + (1 : Int32))) (fun S18 => some S18)) else if v6 = (47 : Int32) then xpi S9 p0 8 v6 (fun S19 => xpi S19 p0 6 (((S19.1 p0 6) + (1 : Int32))) (fun S20 => some S20)) else if v6 = (60 : Int32) then xpi S9 p0 8 v6 (fun S21 => xpi S21 p0 6 (((S21.1 p0 6) + (1 : Int32))) (fun S22 => some S22)) else if v6 = (62 : Int32) then xpi S9 p0 8 v6 (fun S25 => xpi S25 p0 6 (((S25.1 p0 6) + (1 : Int32))) (fun S26 => some S26)) else xpi S9 p0 8 ((3 : Int32)) (fun S23 => xpi S23 p0 6 (((S23.1 p0 6) + (1 : Int32))) (fun S24 => some S24)) else xpi S9 p0 8 ((2 : Int32)) (fun S27 => xpi S27 p0 11 ((0 : Int32)) (fun S28 => f_X10_nextToken_120 T xfu S28 p0))) else xpi S7 p0 8 ((1 : Int32)) (fun S29 => xpj S29 p0 10 ((0 : Int64)) (fun S30 => f_X10_nextToken_65 T xfu S30 p0)))))))
set_option maxRecDepth 100000 in
set_option maxHeartbeats 4000000 in
theorem w_X10_nextToken_0 {p : Program} {l : Launch} {e : Env} {s : State} {m : MethodId} {args : Array Value} {below : List Frame} {meth : Method} {c : Code} {z : Nat} {D : va_G} {dA : Nat → ClassId} {T : xT} (B : xB p s m args meth c cX10_nextToken RX10 2 none D dA) {q : xS} : ∀ (n : Nat), ∀ (S : xS) (H : Heap) (locs : List Loc) (ls : Array Slot) (p0 : Nat), xlk T p0 10 = true → f_X10_nextToken_0 T n S p0 = some q → xRel z D dA T S H → va_S (xA z) s.heap H locs → xL ls 2 [some (.ref (z + p0)), none] → xGv p l e xr_X10_nextToken s m args below meth c z D dA T q H locs 0 ls [] := by
  intro n
  induction n with
  | zero =>
    intro S H locs ls p0 k_p0 hf hR hS hl
    exact absurd hf (by simp [f_X10_nextToken_0])
  | succ n ih =>
    intro S H locs ls p0 k_p0 hf hR hS hl
    unfold f_X10_nextToken_0 at hf
    refine lv_aload_n B.1.1 B.1.2.1 dX10_nextToken_0 rfl (hl.at 0 rfl) ?_
    refine y_ci hf (fun q hq => x_runV (ci := 10) (C := RX10) B.1 B.2.2.2 hl hR hS cm_X10_122 ⟨rfl, rfl, Nat.le_of_ble_eq_true rfl, Nat.le_of_ble_eq_true rfl⟩ (by decide) rfl k_p0 (c_X10_here k_p0 hq) rfl rfl (Nat.le_of_ble_eq_true rfl) dX10_nextToken_1 ⟨Nat.le_of_ble_eq_true rfl, Nat.le_of_ble_eq_true rfl⟩) hS (fun r2 S1 H locs hf hR hS => ?_)
    refine lv_bipush (v := 32) B.1.1 B.1.2.1 dX10_nextToken_4 (by decide) ?_
    refine y_icmp_ne (tgt := 22) B hf dX10_nextToken_6 (by decide) (fun hf => ?_) (fun hf => ?_)
    · refine lv_aload_n B.1.1 B.1.2.1 dX10_nextToken_22 rfl (hl.at 0 rfl) ?_
      refine lv_aload_n B.1.1 B.1.2.1 dX10_nextToken_23 rfl (hl.at 0 rfl) ?_
      refine y_getI B hR k_p0 fl_X10_95 dX10_nextToken_24 ?_
      refine y_putI B hR hS hf k_p0 fp_X10_126 dX10_nextToken_27 (fun S3 H locs hf hR hS => ?_)
      refine lv_aload_n B.1.1 B.1.2.1 dX10_nextToken_30 rfl (hl.at 0 rfl) ?_
      refine y_ci hf (fun q hq => x_runV (ci := 10) (C := RX10) B.1 B.2.2.2 hl hR hS cm_X10_122 ⟨rfl, rfl, Nat.le_of_ble_eq_true rfl, Nat.le_of_ble_eq_true rfl⟩ (by decide) rfl k_p0 (c_X10_here k_p0 hq) rfl rfl (Nat.le_of_ble_eq_true rfl) dX10_nextToken_31 ⟨Nat.le_of_ble_eq_true rfl, Nat.le_of_ble_eq_true rfl⟩) hS (fun r5 S4 H locs hf hR hS => ?_)
      refine y_istore_n B hl hf dX10_nextToken_34 rfl (by decide) rfl (fun v6 ls hf hl => ?_)
      have hl : xL ls 2 [_, _] := hl
      refine lv_iload_n B.1.1 B.1.2.1 dX10_nextToken_35 rfl (hl.at 1 rfl) ?_
      refine lv_iconst (v := -1) B.1.1 B.1.2.1 dX10_nextToken_36 (by decide) ?_
      refine y_icmp_ne (tgt := 48) B hf dX10_nextToken_37 (by decide) (fun hf => ?_) (fun hf => ?_)
      · refine lv_iload_n B.1.1 B.1.2.1 dX10_nextToken_48 rfl (hl.at 1 rfl) ?_
        refine y_ci hf (fun q hq => y_runS B.1 B.2.2.2 hl hR hS cm_X10_132 ⟨rfl, rfl, Nat.le_of_ble_eq_true rfl, Nat.le_of_ble_eq_true rfl⟩ (c_X10_isLetter hq) rfl rfl (Nat.le_of_ble_eq_true rfl) dX10_nextToken_49 ⟨Nat.le_of_ble_eq_true rfl, Nat.le_of_ble_eq_true rfl⟩) hS (fun r8 S7 H locs hf hR hS => ?_)
        refine y_if_eq (tgt := 103) B hf dX10_nextToken_52 (by decide) (fun hf => ?_) (fun hf => ?_)
        · refine lv_iload_n B.1.1 B.1.2.1 dX10_nextToken_103 rfl (hl.at 1 rfl) ?_
          refine y_ci hf (fun q hq => y_runS B.1 B.2.2.2 hl hR hS cm_X10_140 ⟨rfl, rfl, Nat.le_of_ble_eq_true rfl, Nat.le_of_ble_eq_true rfl⟩ (c_X10_isFigure hq) rfl rfl (Nat.le_of_ble_eq_true rfl) dX10_nextToken_104 ⟨Nat.le_of_ble_eq_true rfl, Nat.le_of_ble_eq_true rfl⟩) hS (fun r10 S9 H locs hf hR hS => ?_)
          refine y_if_eq (tgt := 178) B hf dX10_nextToken_107 (by decide) (fun hf => ?_) (fun hf => ?_)
          · refine lv_aload_n B.1.1 B.1.2.1 dX10_nextToken_178 rfl (hl.at 0 rfl) ?_
            refine lv_iload_n B.1.1 B.1.2.1 dX10_nextToken_179 rfl (hl.at 1 rfl) ?_
            refine lv_bipush (v := 59) B.1.1 B.1.2.1 dX10_nextToken_180 (by decide) ?_
            refine y_icmp_eq (tgt := 221) B hf dX10_nextToken_182 (by decide) (fun hf => ?_) (fun hf => ?_)
            · refine lv_iload_n B.1.1 B.1.2.1 dX10_nextToken_221 rfl (hl.at 1 rfl) ?_
              refine lv_goto (tgt := 226) B.1.1 B.1.2.1 dX10_nextToken_222 (by decide) ?_
              refine y_putI B hR hS hf k_p0 fp_X10_129 dX10_nextToken_226 (fun S11 H locs hf hR hS => ?_)
              refine lv_aload_n B.1.1 B.1.2.1 dX10_nextToken_229 rfl (hl.at 0 rfl) ?_
              refine lv_dup B.1.1 B.1.2.1 dX10_nextToken_230 rfl ?_
              refine y_getI B hR k_p0 fl_X10_95 dX10_nextToken_231 ?_
              refine lv_iconst (v := 1) B.1.1 B.1.2.1 dX10_nextToken_234 (by decide) ?_
              refine lv_iadd B.1.1 B.1.2.1 dX10_nextToken_235 ?_
              refine y_putI B hR hS hf k_p0 fp_X10_95 dX10_nextToken_236 (fun S12 H locs hf hR hS => ?_)
              exact y_vret B hR hS hf dX10_nextToken_239
            · refine lv_iload_n B.1.1 B.1.2.1 dX10_nextToken_185 rfl (hl.at 1 rfl) ?_
              refine lv_bipush (v := 43) B.1.1 B.1.2.1 dX10_nextToken_186 (by decide) ?_
              refine y_icmp_eq (tgt := 221) B hf dX10_nextToken_188 (by decide) (fun hf => ?_) (fun hf => ?_)
              · refine lv_iload_n B.1.1 B.1.2.1 dX10_nextToken_221 rfl (hl.at 1 rfl) ?_
                refine lv_goto (tgt := 226) B.1.1 B.1.2.1 dX10_nextToken_222 (by decide) ?_
                refine y_putI B hR hS hf k_p0 fp_X10_129 dX10_nextToken_226 (fun S13 H locs hf hR hS => ?_)
                refine lv_aload_n B.1.1 B.1.2.1 dX10_nextToken_229 rfl (hl.at 0 rfl) ?_
                refine lv_dup B.1.1 B.1.2.1 dX10_nextToken_230 rfl ?_
                refine y_getI B hR k_p0 fl_X10_95 dX10_nextToken_231 ?_
                refine lv_iconst (v := 1) B.1.1 B.1.2.1 dX10_nextToken_234 (by decide) ?_
                refine lv_iadd B.1.1 B.1.2.1 dX10_nextToken_235 ?_
                refine y_putI B hR hS hf k_p0 fp_X10_95 dX10_nextToken_236 (fun S14 H locs hf hR hS => ?_)
                exact y_vret B hR hS hf dX10_nextToken_239
              · refine lv_iload_n B.1.1 B.1.2.1 dX10_nextToken_191 rfl (hl.at 1 rfl) ?_
                refine lv_bipush (v := 45) B.1.1 B.1.2.1 dX10_nextToken_192 (by decide) ?_
                refine y_icmp_eq (tgt := 221) B hf dX10_nextToken_194 (by decide) (fun hf => ?_) (fun hf => ?_)
                · refine lv_iload_n B.1.1 B.1.2.1 dX10_nextToken_221 rfl (hl.at 1 rfl) ?_
                  refine lv_goto (tgt := 226) B.1.1 B.1.2.1 dX10_nextToken_222 (by decide) ?_
                  refine y_putI B hR hS hf k_p0 fp_X10_129 dX10_nextToken_226 (fun S15 H locs hf hR hS => ?_)
                  refine lv_aload_n B.1.1 B.1.2.1 dX10_nextToken_229 rfl (hl.at 0 rfl) ?_
                  refine lv_dup B.1.1 B.1.2.1 dX10_nextToken_230 rfl ?_
                  refine y_getI B hR k_p0 fl_X10_95 dX10_nextToken_231 ?_
                  refine lv_iconst (v := 1) B.1.1 B.1.2.1 dX10_nextToken_234 (by decide) ?_
                  refine lv_iadd B.1.1 B.1.2.1 dX10_nextToken_235 ?_
                  refine y_putI B hR hS hf k_p0 fp_X10_95 dX10_nextToken_236 (fun S16 H locs hf hR hS => ?_)
                  exact y_vret B hR hS hf dX10_nextToken_239
                · refine lv_iload_n B.1.1 B.1.2.1 dX10_nextToken_197 rfl (hl.at 1 rfl) ?_
                  refine lv_bipush (v := 42) B.1.1 B.1.2.1 dX10_nextToken_198 (by decide) ?_
                  refine y_icmp_eq (tgt := 221) B hf dX10_nextToken_200 (by decide) (fun hf => ?_) (fun hf => ?_)
                  · refine lv_iload_n B.1.1 B.1.2.1 dX10_nextToken_221 rfl (hl.at 1 rfl) ?_
                    refine lv_goto (tgt := 226) B.1.1 B.1.2.1 dX10_nextToken_222 (by decide) ?_
                    refine y_putI B hR hS hf k_p0 fp_X10_129 dX10_nextToken_226 (fun S17 H locs hf hR hS => ?_)
                    refine lv_aload_n B.1.1 B.1.2.1 dX10_nextToken_229 rfl (hl.at 0 rfl) ?_
                    refine lv_dup B.1.1 B.1.2.1 dX10_nextToken_230 rfl ?_
                    refine y_getI B hR k_p0 fl_X10_95 dX10_nextToken_231 ?_
                    refine lv_iconst (v := 1) B.1.1 B.1.2.1 dX10_nextToken_234 (by decide) ?_
                    refine lv_iadd B.1.1 B.1.2.1 dX10_nextToken_235 ?_
                    refine y_putI B hR hS hf k_p0 fp_X10_95 dX10_nextToken_236 (fun S18 H locs hf hR hS => ?_)
                    exact y_vret B hR hS hf dX10_nextToken_239
                  · refine lv_iload_n B.1.1 B.1.2.1 dX10_nextToken_203 rfl (hl.at 1 rfl) ?_
                    refine lv_bipush (v := 47) B.1.1 B.1.2.1 dX10_nextToken_204 (by decide) ?_
                    refine y_icmp_eq (tgt := 221) B hf dX10_nextToken_206 (by decide) (fun hf => ?_) (fun hf => ?_)
                    · refine lv_iload_n B.1.1 B.1.2.1 dX10_nextToken_221 rfl (hl.at 1 rfl) ?_
                      refine lv_goto (tgt := 226) B.1.1 B.1.2.1 dX10_nextToken_222 (by decide) ?_
                      refine y_putI B hR hS hf k_p0 fp_X10_129 dX10_nextToken_226 (fun S19 H locs hf hR hS => ?_)
                      refine lv_aload_n B.1.1 B.1.2.1 dX10_nextToken_229 rfl (hl.at 0 rfl) ?_
                      refine lv_dup B.1.1 B.1.2.1 dX10_nextToken_230 rfl ?_
                      refine y_getI B hR k_p0 fl_X10_95 dX10_nextToken_231 ?_
                      refine lv_iconst (v := 1) B.1.1 B.1.2.1 dX10_nextToken_234 (by decide) ?_
                      refine lv_iadd B.1.1 B.1.2.1 dX10_nextToken_235 ?_
                      refine y_putI B hR hS hf k_p0 fp_X10_95 dX10_nextToken_236 (fun S20 H locs hf hR hS => ?_)
                      exact y_vret B hR hS hf dX10_nextToken_239
                    · refine lv_iload_n B.1.1 B.1.2.1 dX10_nextToken_209 rfl (hl.at 1 rfl) ?_
                      refine lv_bipush (v := 60) B.1.1 B.1.2.1 dX10_nextToken_210 (by decide) ?_
                      refine y_icmp_eq (tgt := 221) B hf dX10_nextToken_212 (by decide) (fun hf => ?_) (fun hf => ?_)
                      · refine lv_iload_n B.1.1 B.1.2.1 dX10_nextToken_221 rfl (hl.at 1 rfl) ?_
                        refine lv_goto (tgt := 226) B.1.1 B.1.2.1 dX10_nextToken_222 (by decide) ?_
                        refine y_putI B hR hS hf k_p0 fp_X10_129 dX10_nextToken_226 (fun S21 H locs hf hR hS => ?_)
                        refine lv_aload_n B.1.1 B.1.2.1 dX10_nextToken_229 rfl (hl.at 0 rfl) ?_
                        refine lv_dup B.1.1 B.1.2.1 dX10_nextToken_230 rfl ?_
                        refine y_getI B hR k_p0 fl_X10_95 dX10_nextToken_231 ?_
                        refine lv_iconst (v := 1) B.1.1 B.1.2.1 dX10_nextToken_234 (by decide) ?_
                        refine lv_iadd B.1.1 B.1.2.1 dX10_nextToken_235 ?_
                        refine y_putI B hR hS hf k_p0 fp_X10_95 dX10_nextToken_236 (fun S22 H locs hf hR hS => ?_)
                        exact y_vret B hR hS hf dX10_nextToken_239
                      · refine lv_iload_n B.1.1 B.1.2.1 dX10_nextToken_215 rfl (hl.at 1 rfl) ?_
                        refine lv_bipush (v := 62) B.1.1 B.1.2.1 dX10_nextToken_216 (by decide) ?_
                        refine y_icmp_ne (tgt := 225) B hf dX10_nextToken_218 (by decide) (fun hf => ?_) (fun hf => ?_)
                        · refine lv_iconst (v := 3) B.1.1 B.1.2.1 dX10_nextToken_225 (by decide) ?_
                          refine y_putI B hR hS hf k_p0 fp_X10_129 dX10_nextToken_226 (fun S23 H locs hf hR hS => ?_)
                          refine lv_aload_n B.1.1 B.1.2.1 dX10_nextToken_229 rfl (hl.at 0 rfl) ?_
                          refine lv_dup B.1.1 B.1.2.1 dX10_nextToken_230 rfl ?_
                          refine y_getI B hR k_p0 fl_X10_95 dX10_nextToken_231 ?_
                          refine lv_iconst (v := 1) B.1.1 B.1.2.1 dX10_nextToken_234 (by decide) ?_
                          refine lv_iadd B.1.1 B.1.2.1 dX10_nextToken_235 ?_
                          refine y_putI B hR hS hf k_p0 fp_X10_95 dX10_nextToken_236 (fun S24 H locs hf hR hS => ?_)
                          exact y_vret B hR hS hf dX10_nextToken_239
                        · refine lv_iload_n B.1.1 B.1.2.1 dX10_nextToken_221 rfl (hl.at 1 rfl) ?_
                          refine lv_goto (tgt := 226) B.1.1 B.1.2.1 dX10_nextToken_222 (by decide) ?_
                          refine y_putI B hR hS hf k_p0 fp_X10_129 dX10_nextToken_226 (fun S25 H locs hf hR hS => ?_)
                          refine lv_aload_n B.1.1 B.1.2.1 dX10_nextToken_229 rfl (hl.at 0 rfl) ?_
                          refine lv_dup B.1.1 B.1.2.1 dX10_nextToken_230 rfl ?_
                          refine y_getI B hR k_p0 fl_X10_95 dX10_nextToken_231 ?_
                          refine lv_iconst (v := 1) B.1.1 B.1.2.1 dX10_nextToken_234 (by decide) ?_
                          refine lv_iadd B.1.1 B.1.2.1 dX10_nextToken_235 ?_
                          refine y_putI B hR hS hf k_p0 fp_X10_95 dX10_nextToken_236 (fun S26 H locs hf hR hS => ?_)
                          exact y_vret B hR hS hf dX10_nextToken_239
          · refine lv_aload_n B.1.1 B.1.2.1 dX10_nextToken_110 rfl (hl.at 0 rfl) ?_
            refine lv_iconst (v := 2) B.1.1 B.1.2.1 dX10_nextToken_111 (by decide) ?_
            refine y_putI B hR hS hf k_p0 fp_X10_129 dX10_nextToken_112 (fun S27 H locs hf hR hS => ?_)
            refine lv_aload_n B.1.1 B.1.2.1 dX10_nextToken_115 rfl (hl.at 0 rfl) ?_
            refine lv_iconst (v := 0) B.1.1 B.1.2.1 dX10_nextToken_116 (by decide) ?_
            refine y_putI B hR hS hf k_p0 fp_X10_143 dX10_nextToken_117 (fun S28 H locs hf hR hS => ?_)
            exact w_X10_nextToken_120 B xfu _ _ _ _ _ k_p0 hf hR hS (hl.drop [true, false] rfl)
        · refine lv_aload_n B.1.1 B.1.2.1 dX10_nextToken_55 rfl (hl.at 0 rfl) ?_
          refine lv_iconst (v := 1) B.1.1 B.1.2.1 dX10_nextToken_56 (by decide) ?_
          refine y_putI B hR hS hf k_p0 fp_X10_129 dX10_nextToken_57 (fun S29 H locs hf hR hS => ?_)
          refine lv_aload_n B.1.1 B.1.2.1 dX10_nextToken_60 rfl (hl.at 0 rfl) ?_
          refine lv_lconst (v := 0) B.1.1 B.1.2.1 dX10_nextToken_61 (by decide) ?_
          refine y_putJ B hR hS hf k_p0 fp_X10_136 dX10_nextToken_62 (fun S30 H locs hf hR hS => ?_)
          exact w_X10_nextToken_65 B xfu _ _ _ _ _ k_p0 hf hR hS (hl.drop [true, false] rfl)
      · refine lv_aload_n B.1.1 B.1.2.1 dX10_nextToken_40 rfl (hl.at 0 rfl) ?_
        refine lv_iconst (v := 0) B.1.1 B.1.2.1 dX10_nextToken_41 (by decide) ?_
        refine y_putI B hR hS hf k_p0 fp_X10_129 dX10_nextToken_42 (fun S31 H locs hf hR hS => ?_)
        refine lv_goto (tgt := 239) B.1.1 B.1.2.1 dX10_nextToken_45 (by decide) ?_
        exact y_vret B hR hS hf dX10_nextToken_239
    · refine lv_aload_n B.1.1 B.1.2.1 dX10_nextToken_9 rfl (hl.at 0 rfl) ?_
      refine lv_dup B.1.1 B.1.2.1 dX10_nextToken_10 rfl ?_
      refine y_getI B hR k_p0 fl_X10_95 dX10_nextToken_11 ?_
      refine lv_iconst (v := 1) B.1.1 B.1.2.1 dX10_nextToken_14 (by decide) ?_
      refine lv_iadd B.1.1 B.1.2.1 dX10_nextToken_15 ?_
      refine y_putI B hR hS hf k_p0 fp_X10_95 dX10_nextToken_16 (fun S32 H locs hf hR hS => ?_)
      refine lv_goto (tgt := 0) B.1.1 B.1.2.1 dX10_nextToken_19 (by decide) ?_
      exact ih _ _ _ _ _ k_p0 hf hR hS hl
def f_X10_nextToken (T : xT) (S : xS) (p0 : Nat) : Option (xS) := f_X10_nextToken_0 T xfu S p0
set_option maxRecDepth 100000 in
set_option maxHeartbeats 4000000 in
theorem c_X10_nextToken {l : Launch} {z : Nat} {D : va_G} {dA : Nat → ClassId} {T : xT} {S : xS} {p0 : Nat} (k_p0 : xlk T p0 10 = true) {q : xS} (hf : f_X10_nextToken T S p0 = some q) : Met l yX10_nextToken (xws yX10_nextToken cX10_nextToken 2 none) xr_X10_nextToken (xPc z D dA T S [.ref (z + p0)]) (xQv z D dA T q) 0 0 (xA z) := by
  refine x_met RX10 (by decide) rfl (Nat.le_of_ble_eq_true rfl) ?_
  intro p e s m below meth c ls _ X hr hlk hml _ hR hS hl
  have B : xB p s m _ meth c cX10_nextToken RX10 2 none D dA := ⟨X, hr, hlk, hml⟩
  have hl : xL ls 2 [_, _] := hl
  unfold f_X10_nextToken at hf
  exact w_X10_nextToken_0 B xfu _ _ _ _ _ k_p0 hf hR hS hl
abbrev xr_X10_beginText : Room := { frames := 3, cells := 0, slots := 0, locals := 55 }
def f_X10_beginText (T : xT) (S : xS) (p0 : Nat) : Option (xS) := xpi S p0 6 ((0 : Int32)) (fun S1 => xpi S1 p0 9 ((-1 : Int32)) (fun S2 => xcv (f_X10_nextToken T S2 p0) (fun S3 => some S3)))
set_option maxRecDepth 100000 in
set_option maxHeartbeats 4000000 in
theorem c_X10_beginText {l : Launch} {z : Nat} {D : va_G} {dA : Nat → ClassId} {T : xT} {S : xS} {p0 : Nat} (k_p0 : xlk T p0 10 = true) {q : xS} (hf : f_X10_beginText T S p0 = some q) : Met l yX10_beginText (xws yX10_beginText cX10_beginText 1 none) xr_X10_beginText (xPc z D dA T S [.ref (z + p0)]) (xQv z D dA T q) 0 0 (xA z) := by
  refine x_met RX10 (by decide) rfl (Nat.le_of_ble_eq_true rfl) ?_
  intro p e s m below meth c ls _ X hr hlk hml _ hR hS hl
  have B : xB p s m _ meth c cX10_beginText RX10 1 none D dA := ⟨X, hr, hlk, hml⟩
  have hl : xL ls 1 [_] := hl
  unfold f_X10_beginText at hf
  refine lv_aload_n B.1.1 B.1.2.1 dX10_beginText_0 rfl (hl.at 0 rfl) ?_
  refine lv_iconst (v := 0) B.1.1 B.1.2.1 dX10_beginText_1 (by decide) ?_
  refine y_putI B hR hS hf k_p0 fp_X10_95 dX10_beginText_2 (fun S1 H locs hf hR hS => ?_)
  refine lv_aload_n B.1.1 B.1.2.1 dX10_beginText_5 rfl (hl.at 0 rfl) ?_
  refine lv_iconst (v := -1) B.1.1 B.1.2.1 dX10_beginText_6 (by decide) ?_
  refine y_putI B hR hS hf k_p0 fp_X10_25 dX10_beginText_7 (fun S2 H locs hf hR hS => ?_)
  refine lv_aload_n B.1.1 B.1.2.1 dX10_beginText_10 rfl (hl.at 0 rfl) ?_
  refine y_cv hf (fun q hq => x_runV (ci := 10) (C := RX10) B.1 B.2.2.2 hl hR hS cm_X10_147 ⟨rfl, rfl, Nat.le_of_ble_eq_true rfl, Nat.le_of_ble_eq_true rfl⟩ (by decide) rfl k_p0 (c_X10_nextToken k_p0 hq) rfl rfl (Nat.le_of_ble_eq_true rfl) dX10_beginText_11 ⟨Nat.le_of_ble_eq_true rfl, Nat.le_of_ble_eq_true rfl⟩) hS (fun S3 H locs hf hR hS => ?_)
  exact y_vret B hR hS hf dX10_beginText_14
abbrev xr_X10_fails : Room := { frames := 1, cells := 0, slots := 0, locals := 12 }
def f_X10_fails (T : xT) (S : xS) (p0 : Nat) : Option (Int32 × xS) := xpi S p0 9 ((S.1 p0 7)) (fun S1 => some ((0 : Int32), S1))
set_option maxRecDepth 100000 in
set_option maxHeartbeats 4000000 in
theorem c_X10_fails {l : Launch} {z : Nat} {D : va_G} {dA : Nat → ClassId} {T : xT} {S : xS} {p0 : Nat} (k_p0 : xlk T p0 10 = true) {q : Int32 × xS} (hf : f_X10_fails T S p0 = some q) : Met l yX10_fails (xws yX10_fails cX10_fails 1 (some .boolean)) xr_X10_fails (xPc z D dA T S [.ref (z + p0)]) (xQi z D dA T q) 0 0 (xA z) := by
  refine x_met RX10 (by decide) rfl (Nat.le_of_ble_eq_true rfl) ?_
  intro p e s m below meth c ls _ X hr hlk hml _ hR hS hl
  have B : xB p s m _ meth c cX10_fails RX10 1 (some .boolean) D dA := ⟨X, hr, hlk, hml⟩
  have hl : xL ls 1 [_] := hl
  unfold f_X10_fails at hf
  refine lv_aload_n B.1.1 B.1.2.1 dX10_fails_0 rfl (hl.at 0 rfl) ?_
  refine lv_aload_n B.1.1 B.1.2.1 dX10_fails_1 rfl (hl.at 0 rfl) ?_
  refine y_getI B hR k_p0 fl_X10_126 dX10_fails_2 ?_
  refine y_putI B hR hS hf k_p0 fp_X10_25 dX10_fails_5 (fun S1 H locs hf hR hS => ?_)
  refine lv_iconst (v := 0) B.1.1 B.1.2.1 dX10_fails_8 (by decide) ?_
  exact y_zretK B hR hS hf rfl dX10_fails_9
abbrev xr_X10_isWord : Room := { frames := 1, cells := 0, slots := 0, locals := 12 }
def f_X10_isWord (T : xT) (S : xS) (p0 : Nat) (p1 : Int64) : Option (Int32 × xS) := if (S.1 p0 8) = (1 : Int32) then if (lg_cmp ((S.2.1 p0 10)) p1) = (0 : Int32) then some ((1 : Int32), S) else some ((0 : Int32), S) else some ((0 : Int32), S)
set_option maxRecDepth 100000 in
set_option maxHeartbeats 4000000 in
theorem c_X10_isWord {l : Launch} {z : Nat} {D : va_G} {dA : Nat → ClassId} {T : xT} {S : xS} {p0 : Nat} {p1 : Int64} (k_p0 : xlk T p0 10 = true) {q : Int32 × xS} (hf : f_X10_isWord T S p0 p1 = some q) : Met l yX10_isWord (xws yX10_isWord cX10_isWord 3 (some .boolean)) xr_X10_isWord (xPc z D dA T S [.ref (z + p0), .long p1]) (xQi z D dA T q) 0 0 (xA z) := by
  refine x_met RX10 (by decide) rfl (Nat.le_of_ble_eq_true rfl) ?_
  intro p e s m below meth c ls _ X hr hlk hml _ hR hS hl
  have B : xB p s m _ meth c cX10_isWord RX10 3 (some .boolean) D dA := ⟨X, hr, hlk, hml⟩
  have hl : xL ls 3 [_, _, _] := hl
  unfold f_X10_isWord at hf
  refine lv_aload_n B.1.1 B.1.2.1 dX10_isWord_0 rfl (hl.at 0 rfl) ?_
  refine y_getI B hR k_p0 fl_X10_129 dX10_isWord_1 ?_
  refine lv_iconst (v := 1) B.1.1 B.1.2.1 dX10_isWord_4 (by decide) ?_
  refine y_icmp_ne (tgt := 21) B hf dX10_isWord_5 (by decide) (fun hf => ?_) (fun hf => ?_)
  · refine lv_iconst (v := 0) B.1.1 B.1.2.1 dX10_isWord_21 (by decide) ?_
    exact y_zretK B hR hS hf rfl dX10_isWord_22
  · refine lv_aload_n B.1.1 B.1.2.1 dX10_isWord_8 rfl (hl.at 0 rfl) ?_
    refine y_getJ B hR k_p0 fl_X10_136 dX10_isWord_9 ?_
    refine lv_lload_n B.1.1 B.1.2.1 dX10_isWord_12 rfl (hl.at 1 rfl) ?_
    refine W.lcmp B.1.1 B.1.2.1 dX10_isWord_13 ?_
    refine y_if_ne (tgt := 21) B hf dX10_isWord_14 (by decide) (fun hf => ?_) (fun hf => ?_)
    · refine lv_iconst (v := 0) B.1.1 B.1.2.1 dX10_isWord_21 (by decide) ?_
      exact y_zretK B hR hS hf rfl dX10_isWord_22
    · refine lv_iconst (v := 1) B.1.1 B.1.2.1 dX10_isWord_17 (by decide) ?_
      refine lv_goto (tgt := 22) B.1.1 B.1.2.1 dX10_isWord_18 (by decide) ?_
      exact y_zretK B hR hS hf rfl dX10_isWord_22
abbrev xr_X10_takesWord : Room := { frames := 3, cells := 0, slots := 0, locals := 55 }
def f_X10_takesWord (T : xT) (S : xS) (p0 : Nat) (p1 : Int64) : Option (Int32 × xS) := xc (f_X10_isWord T S p0 p1) (fun r2 S1 => if r2 = (0 : Int32) then xc (f_X10_fails T S1 p0) (fun r5 S4 => xgd (xnz r5) (some (r5, S4))) else xcv (f_X10_nextToken T S1 p0) (fun S3 => some ((1 : Int32), S3)))
set_option maxRecDepth 100000 in
set_option maxHeartbeats 4000000 in
theorem c_X10_takesWord {l : Launch} {z : Nat} {D : va_G} {dA : Nat → ClassId} {T : xT} {S : xS} {p0 : Nat} {p1 : Int64} (k_p0 : xlk T p0 10 = true) {q : Int32 × xS} (hf : f_X10_takesWord T S p0 p1 = some q) : Met l yX10_takesWord (xws yX10_takesWord cX10_takesWord 3 (some .boolean)) xr_X10_takesWord (xPc z D dA T S [.ref (z + p0), .long p1]) (xQi z D dA T q) 0 0 (xA z) := by
  refine x_met RX10 (by decide) rfl (Nat.le_of_ble_eq_true rfl) ?_
  intro p e s m below meth c ls _ X hr hlk hml _ hR hS hl
  have B : xB p s m _ meth c cX10_takesWord RX10 3 (some .boolean) D dA := ⟨X, hr, hlk, hml⟩
  have hl : xL ls 3 [_, _, _] := hl
  unfold f_X10_takesWord at hf
  refine lv_aload_n B.1.1 B.1.2.1 dX10_takesWord_0 rfl (hl.at 0 rfl) ?_
  refine lv_lload_n B.1.1 B.1.2.1 dX10_takesWord_1 rfl (hl.at 1 rfl) ?_
  refine y_ci hf (fun q hq => x_runV (ci := 10) (C := RX10) B.1 B.2.2.2 hl hR hS cm_X10_150 ⟨rfl, rfl, Nat.le_of_ble_eq_true rfl, Nat.le_of_ble_eq_true rfl⟩ (by decide) rfl k_p0 (c_X10_isWord k_p0 hq) rfl rfl (Nat.le_of_ble_eq_true rfl) dX10_takesWord_2 ⟨Nat.le_of_ble_eq_true rfl, Nat.le_of_ble_eq_true rfl⟩) hS (fun r2 S1 H locs hf hR hS => ?_)
  refine y_if_ne (tgt := 13) B hf dX10_takesWord_5 (by decide) (fun hf => ?_) (fun hf => ?_)
  · refine lv_aload_n B.1.1 B.1.2.1 dX10_takesWord_13 rfl (hl.at 0 rfl) ?_
    refine y_cv hf (fun q hq => x_runV (ci := 10) (C := RX10) B.1 B.2.2.2 hl hR hS cm_X10_147 ⟨rfl, rfl, Nat.le_of_ble_eq_true rfl, Nat.le_of_ble_eq_true rfl⟩ (by decide) rfl k_p0 (c_X10_nextToken k_p0 hq) rfl rfl (Nat.le_of_ble_eq_true rfl) dX10_takesWord_14 ⟨Nat.le_of_ble_eq_true rfl, Nat.le_of_ble_eq_true rfl⟩) hS (fun S3 H locs hf hR hS => ?_)
    refine lv_iconst (v := 1) B.1.1 B.1.2.1 dX10_takesWord_17 (by decide) ?_
    exact y_zretK B hR hS hf rfl dX10_takesWord_18
  · refine lv_aload_n B.1.1 B.1.2.1 dX10_takesWord_8 rfl (hl.at 0 rfl) ?_
    refine y_ci hf (fun q hq => x_runV (ci := 10) (C := RX10) B.1 B.2.2.2 hl hR hS cm_X10_154 ⟨rfl, rfl, Nat.le_of_ble_eq_true rfl, Nat.le_of_ble_eq_true rfl⟩ (by decide) rfl k_p0 (c_X10_fails k_p0 hq) rfl rfl (Nat.le_of_ble_eq_true rfl) dX10_takesWord_9 ⟨Nat.le_of_ble_eq_true rfl, Nat.le_of_ble_eq_true rfl⟩) hS (fun r5 S4 H locs hf hR hS => ?_)
    exact y_zret B hR hS hf dX10_takesWord_12
abbrev xr_X10_takes : Room := { frames := 3, cells := 0, slots := 0, locals := 55 }
def f_X10_takes (T : xT) (S : xS) (p0 : Nat) (p1 : Int32) : Option (Int32 × xS) := if (S.1 p0 8) = p1 then xcv (f_X10_nextToken T S p0) (fun S1 => some ((1 : Int32), S1)) else xc (f_X10_fails T S p0) (fun r3 S2 => xgd (xnz r3) (some (r3, S2)))
set_option maxRecDepth 100000 in
set_option maxHeartbeats 4000000 in
theorem c_X10_takes {l : Launch} {z : Nat} {D : va_G} {dA : Nat → ClassId} {T : xT} {S : xS} {p0 : Nat} {p1 : Int32} (k_p0 : xlk T p0 10 = true) {q : Int32 × xS} (hf : f_X10_takes T S p0 p1 = some q) : Met l yX10_takes (xws yX10_takes cX10_takes 2 (some .boolean)) xr_X10_takes (xPc z D dA T S [.ref (z + p0), .int p1]) (xQi z D dA T q) 0 0 (xA z) := by
  refine x_met RX10 (by decide) rfl (Nat.le_of_ble_eq_true rfl) ?_
  intro p e s m below meth c ls _ X hr hlk hml _ hR hS hl
  have B : xB p s m _ meth c cX10_takes RX10 2 (some .boolean) D dA := ⟨X, hr, hlk, hml⟩
  have hl : xL ls 2 [_, _] := hl
  unfold f_X10_takes at hf
  refine lv_aload_n B.1.1 B.1.2.1 dX10_takes_0 rfl (hl.at 0 rfl) ?_
  refine y_getI B hR k_p0 fl_X10_129 dX10_takes_1 ?_
  refine lv_iload_n B.1.1 B.1.2.1 dX10_takes_4 rfl (hl.at 1 rfl) ?_
  refine y_icmp_eq (tgt := 13) B hf dX10_takes_5 (by decide) (fun hf => ?_) (fun hf => ?_)
  · refine lv_aload_n B.1.1 B.1.2.1 dX10_takes_13 rfl (hl.at 0 rfl) ?_
    refine y_cv hf (fun q hq => x_runV (ci := 10) (C := RX10) B.1 B.2.2.2 hl hR hS cm_X10_147 ⟨rfl, rfl, Nat.le_of_ble_eq_true rfl, Nat.le_of_ble_eq_true rfl⟩ (by decide) rfl k_p0 (c_X10_nextToken k_p0 hq) rfl rfl (Nat.le_of_ble_eq_true rfl) dX10_takes_14 ⟨Nat.le_of_ble_eq_true rfl, Nat.le_of_ble_eq_true rfl⟩) hS (fun S1 H locs hf hR hS => ?_)
    refine lv_iconst (v := 1) B.1.1 B.1.2.1 dX10_takes_17 (by decide) ?_
    exact y_zretK B hR hS hf rfl dX10_takes_18
  · refine lv_aload_n B.1.1 B.1.2.1 dX10_takes_8 rfl (hl.at 0 rfl) ?_
    refine y_ci hf (fun q hq => x_runV (ci := 10) (C := RX10) B.1 B.2.2.2 hl hR hS cm_X10_154 ⟨rfl, rfl, Nat.le_of_ble_eq_true rfl, Nat.le_of_ble_eq_true rfl⟩ (by decide) rfl k_p0 (c_X10_fails k_p0 hq) rfl rfl (Nat.le_of_ble_eq_true rfl) dX10_takes_9 ⟨Nat.le_of_ble_eq_true rfl, Nat.le_of_ble_eq_true rfl⟩) hS (fun r3 S2 H locs hf hR hS => ?_)
    exact y_zret B hR hS hf dX10_takes_12
abbrev xr_X10_takesNumber : Room := { frames := 3, cells := 0, slots := 0, locals := 55 }
def f_X10_takesNumber (T : xT) (S : xS) (p0 : Nat) (p1 : Int32) (p2 : Int32) : Option (Int32 × xS) := if (S.1 p0 8) = (2 : Int32) then xc (f_X10_isIn T S ((S.1 p0 11)) p1 p2) (fun r4 S3 => if r4 = (0 : Int32) then xc (f_X10_fails T S3 p0) (fun r8 S7 => xgd (xnz r8) (some (r8, S7))) else xpi S3 p0 12 ((S3.1 p0 11)) (fun S5 => xcv (f_X10_nextToken T S5 p0) (fun S6 => some ((1 : Int32), S6)))) else xc (f_X10_fails T S p0) (fun r2 S1 => xgd (xnz r2) (some (r2, S1)))
set_option maxRecDepth 100000 in
set_option maxHeartbeats 4000000 in
theorem c_X10_takesNumber {l : Launch} {z : Nat} {D : va_G} {dA : Nat → ClassId} {T : xT} {S : xS} {p0 : Nat} {p1 : Int32} {p2 : Int32} (k_p0 : xlk T p0 10 = true) {q : Int32 × xS} (hf : f_X10_takesNumber T S p0 p1 p2 = some q) : Met l yX10_takesNumber (xws yX10_takesNumber cX10_takesNumber 3 (some .boolean)) xr_X10_takesNumber (xPc z D dA T S [.ref (z + p0), .int p1, .int p2]) (xQi z D dA T q) 0 0 (xA z) := by
  refine x_met RX10 (by decide) rfl (Nat.le_of_ble_eq_true rfl) ?_
  intro p e s m below meth c ls _ X hr hlk hml _ hR hS hl
  have B : xB p s m _ meth c cX10_takesNumber RX10 3 (some .boolean) D dA := ⟨X, hr, hlk, hml⟩
  have hl : xL ls 3 [_, _, _] := hl
  unfold f_X10_takesNumber at hf
  refine lv_aload_n B.1.1 B.1.2.1 dX10_takesNumber_0 rfl (hl.at 0 rfl) ?_
  refine y_getI B hR k_p0 fl_X10_129 dX10_takesNumber_1 ?_
  refine lv_iconst (v := 2) B.1.1 B.1.2.1 dX10_takesNumber_4 (by decide) ?_
  refine y_icmp_ne (tgt := 20) B hf dX10_takesNumber_5 (by decide) (fun hf => ?_) (fun hf => ?_)
  · refine lv_aload_n B.1.1 B.1.2.1 dX10_takesNumber_20 rfl (hl.at 0 rfl) ?_
    refine y_ci hf (fun q hq => x_runV (ci := 10) (C := RX10) B.1 B.2.2.2 hl hR hS cm_X10_154 ⟨rfl, rfl, Nat.le_of_ble_eq_true rfl, Nat.le_of_ble_eq_true rfl⟩ (by decide) rfl k_p0 (c_X10_fails k_p0 hq) rfl rfl (Nat.le_of_ble_eq_true rfl) dX10_takesNumber_21 ⟨Nat.le_of_ble_eq_true rfl, Nat.le_of_ble_eq_true rfl⟩) hS (fun r2 S1 H locs hf hR hS => ?_)
    exact y_zret B hR hS hf dX10_takesNumber_24
  · refine lv_aload_n B.1.1 B.1.2.1 dX10_takesNumber_8 rfl (hl.at 0 rfl) ?_
    refine y_getI B hR k_p0 fl_X10_143 dX10_takesNumber_9 ?_
    refine lv_iload_n B.1.1 B.1.2.1 dX10_takesNumber_12 rfl (hl.at 1 rfl) ?_
    refine lv_iload_n B.1.1 B.1.2.1 dX10_takesNumber_13 rfl (hl.at 2 rfl) ?_
    refine y_ci hf (fun q hq => y_runS B.1 B.2.2.2 hl hR hS cm_X10_81 ⟨rfl, rfl, Nat.le_of_ble_eq_true rfl, Nat.le_of_ble_eq_true rfl⟩ (c_X10_isIn hq) rfl rfl (Nat.le_of_ble_eq_true rfl) dX10_takesNumber_14 ⟨Nat.le_of_ble_eq_true rfl, Nat.le_of_ble_eq_true rfl⟩) hS (fun r4 S3 H locs hf hR hS => ?_)
    refine y_if_ne (tgt := 25) B hf dX10_takesNumber_17 (by decide) (fun hf => ?_) (fun hf => ?_)
    · refine lv_aload_n B.1.1 B.1.2.1 dX10_takesNumber_25 rfl (hl.at 0 rfl) ?_
      refine lv_aload_n B.1.1 B.1.2.1 dX10_takesNumber_26 rfl (hl.at 0 rfl) ?_
      refine y_getI B hR k_p0 fl_X10_143 dX10_takesNumber_27 ?_
      refine y_putI B hR hS hf k_p0 fp_X10_158 dX10_takesNumber_30 (fun S5 H locs hf hR hS => ?_)
      refine lv_aload_n B.1.1 B.1.2.1 dX10_takesNumber_33 rfl (hl.at 0 rfl) ?_
      refine y_cv hf (fun q hq => x_runV (ci := 10) (C := RX10) B.1 B.2.2.2 hl hR hS cm_X10_147 ⟨rfl, rfl, Nat.le_of_ble_eq_true rfl, Nat.le_of_ble_eq_true rfl⟩ (by decide) rfl k_p0 (c_X10_nextToken k_p0 hq) rfl rfl (Nat.le_of_ble_eq_true rfl) dX10_takesNumber_34 ⟨Nat.le_of_ble_eq_true rfl, Nat.le_of_ble_eq_true rfl⟩) hS (fun S6 H locs hf hR hS => ?_)
      refine lv_iconst (v := 1) B.1.1 B.1.2.1 dX10_takesNumber_37 (by decide) ?_
      exact y_zretK B hR hS hf rfl dX10_takesNumber_38
    · refine lv_aload_n B.1.1 B.1.2.1 dX10_takesNumber_20 rfl (hl.at 0 rfl) ?_
      refine y_ci hf (fun q hq => x_runV (ci := 10) (C := RX10) B.1 B.2.2.2 hl hR hS cm_X10_154 ⟨rfl, rfl, Nat.le_of_ble_eq_true rfl, Nat.le_of_ble_eq_true rfl⟩ (by decide) rfl k_p0 (c_X10_fails k_p0 hq) rfl rfl (Nat.le_of_ble_eq_true rfl) dX10_takesNumber_21 ⟨Nat.le_of_ble_eq_true rfl, Nat.le_of_ble_eq_true rfl⟩) hS (fun r8 S7 H locs hf hR hS => ?_)
      exact y_zret B hR hS hf dX10_takesNumber_24
abbrev xr_X10_partnerHere : Room := { frames := 1, cells := 0, slots := 0, locals := 12 }
def f_X10_partnerHere (T : xT) (S : xS) (p0 : Nat) : Option (Int32 × xS) := if (S.1 p0 8) = (1 : Int32) then if (lg_cmp ((S.2.1 p0 10)) ((1 : Int64))) < (0 : Int32) then some ((-1 : Int32), S) else if (0 : Int32) < (lg_cmp ((S.2.1 p0 10)) ((8 : Int64))) then some ((-1 : Int32), S) else some ((((S.2.1 p0 10)).toInt32 - (1 : Int32)), S) else some ((-1 : Int32), S)
set_option maxRecDepth 100000 in
set_option maxHeartbeats 4000000 in
theorem c_X10_partnerHere {l : Launch} {z : Nat} {D : va_G} {dA : Nat → ClassId} {T : xT} {S : xS} {p0 : Nat} (k_p0 : xlk T p0 10 = true) {q : Int32 × xS} (hf : f_X10_partnerHere T S p0 = some q) : Met l yX10_partnerHere (xws yX10_partnerHere cX10_partnerHere 1 (some .int)) xr_X10_partnerHere (xPc z D dA T S [.ref (z + p0)]) (xQi z D dA T q) 0 0 (xA z) := by
  refine x_met RX10 (by decide) rfl (Nat.le_of_ble_eq_true rfl) ?_
  intro p e s m below meth c ls _ X hr hlk hml _ hR hS hl
  have B : xB p s m _ meth c cX10_partnerHere RX10 1 (some .int) D dA := ⟨X, hr, hlk, hml⟩
  have hl : xL ls 1 [_] := hl
  unfold f_X10_partnerHere at hf
  refine lv_aload_n B.1.1 B.1.2.1 dX10_partnerHere_0 rfl (hl.at 0 rfl) ?_
  refine y_getI B hR k_p0 fl_X10_129 dX10_partnerHere_1 ?_
  refine lv_iconst (v := 1) B.1.1 B.1.2.1 dX10_partnerHere_4 (by decide) ?_
  refine y_icmp_ne (tgt := 38) B hf dX10_partnerHere_5 (by decide) (fun hf => ?_) (fun hf => ?_)
  · refine lv_iconst (v := -1) B.1.1 B.1.2.1 dX10_partnerHere_38 (by decide) ?_
    exact y_iret B hR hS hf dX10_partnerHere_39
  · refine lv_aload_n B.1.1 B.1.2.1 dX10_partnerHere_8 rfl (hl.at 0 rfl) ?_
    refine y_getJ B hR k_p0 fl_X10_136 dX10_partnerHere_9 ?_
    refine lv_lconst (v := 1) B.1.1 B.1.2.1 dX10_partnerHere_12 (by decide) ?_
    refine W.lcmp B.1.1 B.1.2.1 dX10_partnerHere_13 ?_
    refine y_if_lt (tgt := 38) B hf dX10_partnerHere_14 (by decide) (fun hf => ?_) (fun hf => ?_)
    · refine lv_iconst (v := -1) B.1.1 B.1.2.1 dX10_partnerHere_38 (by decide) ?_
      exact y_iret B hR hS hf dX10_partnerHere_39
    · refine lv_aload_n B.1.1 B.1.2.1 dX10_partnerHere_17 rfl (hl.at 0 rfl) ?_
      refine y_getJ B hR k_p0 fl_X10_136 dX10_partnerHere_18 ?_
      refine lv_ldc2 (v := 8) B.1.1 B.1.2.1 B.1.2.2.1 (B.1.2.2.2.1 _ tw_1278) dX10_partnerHere_21 ?_
      refine W.lcmp B.1.1 B.1.2.1 dX10_partnerHere_24 ?_
      refine y_if_gt (tgt := 38) B hf dX10_partnerHere_25 (by decide) (fun hf => ?_) (fun hf => ?_)
      · refine lv_iconst (v := -1) B.1.1 B.1.2.1 dX10_partnerHere_38 (by decide) ?_
        exact y_iret B hR hS hf dX10_partnerHere_39
      · refine lv_aload_n B.1.1 B.1.2.1 dX10_partnerHere_28 rfl (hl.at 0 rfl) ?_
        refine y_getJ B hR k_p0 fl_X10_136 dX10_partnerHere_29 ?_
        refine lv_l2i B.1.1 B.1.2.1 dX10_partnerHere_32 rfl ?_
        refine lv_iconst (v := 1) B.1.1 B.1.2.1 dX10_partnerHere_33 (by decide) ?_
        refine lv_isub B.1.1 B.1.2.1 dX10_partnerHere_34 ?_
        refine lv_goto (tgt := 39) B.1.1 B.1.2.1 dX10_partnerHere_35 (by decide) ?_
        exact y_iret B hR hS hf dX10_partnerHere_39
abbrev xr_X10_takesPartner : Room := { frames := 3, cells := 0, slots := 0, locals := 55 }
def f_X10_takesPartner (T : xT) (S : xS) (p0 : Nat) : Option (Int32 × xS) := xc (f_X10_partnerHere T S p0) (fun r2 S1 => xpi S1 p0 12 r2 (fun S3 => if (S3.1 p0 12) = (-1 : Int32) then xc (f_X10_fails T S3 p0) (fun r6 S5 => xgd (xnz r6) (some (r6, S5))) else xcv (f_X10_nextToken T S3 p0) (fun S4 => some ((1 : Int32), S4))))
set_option maxRecDepth 100000 in
set_option maxHeartbeats 4000000 in
theorem c_X10_takesPartner {l : Launch} {z : Nat} {D : va_G} {dA : Nat → ClassId} {T : xT} {S : xS} {p0 : Nat} (k_p0 : xlk T p0 10 = true) {q : Int32 × xS} (hf : f_X10_takesPartner T S p0 = some q) : Met l yX10_takesPartner (xws yX10_takesPartner cX10_takesPartner 1 (some .boolean)) xr_X10_takesPartner (xPc z D dA T S [.ref (z + p0)]) (xQi z D dA T q) 0 0 (xA z) := by
  refine x_met RX10 (by decide) rfl (Nat.le_of_ble_eq_true rfl) ?_
  intro p e s m below meth c ls _ X hr hlk hml _ hR hS hl
  have B : xB p s m _ meth c cX10_takesPartner RX10 1 (some .boolean) D dA := ⟨X, hr, hlk, hml⟩
  have hl : xL ls 1 [_] := hl
  unfold f_X10_takesPartner at hf
  refine lv_aload_n B.1.1 B.1.2.1 dX10_takesPartner_0 rfl (hl.at 0 rfl) ?_
  refine lv_aload_n B.1.1 B.1.2.1 dX10_takesPartner_1 rfl (hl.at 0 rfl) ?_
  refine y_ci hf (fun q hq => x_runV (ci := 10) (C := RX10) B.1 B.2.2.2 hl hR hS cm_X10_163 ⟨rfl, rfl, Nat.le_of_ble_eq_true rfl, Nat.le_of_ble_eq_true rfl⟩ (by decide) rfl k_p0 (c_X10_partnerHere k_p0 hq) rfl rfl (Nat.le_of_ble_eq_true rfl) dX10_takesPartner_2 ⟨Nat.le_of_ble_eq_true rfl, Nat.le_of_ble_eq_true rfl⟩) hS (fun r2 S1 H locs hf hR hS => ?_)
  refine y_putI B hR hS hf k_p0 fp_X10_158 dX10_takesPartner_5 (fun S3 H locs hf hR hS => ?_)
  refine lv_aload_n B.1.1 B.1.2.1 dX10_takesPartner_8 rfl (hl.at 0 rfl) ?_
  refine y_getI B hR k_p0 fl_X10_158 dX10_takesPartner_9 ?_
  refine lv_iconst (v := -1) B.1.1 B.1.2.1 dX10_takesPartner_12 (by decide) ?_
  refine y_icmp_ne (tgt := 21) B hf dX10_takesPartner_13 (by decide) (fun hf => ?_) (fun hf => ?_)
  · refine lv_aload_n B.1.1 B.1.2.1 dX10_takesPartner_21 rfl (hl.at 0 rfl) ?_
    refine y_cv hf (fun q hq => x_runV (ci := 10) (C := RX10) B.1 B.2.2.2 hl hR hS cm_X10_147 ⟨rfl, rfl, Nat.le_of_ble_eq_true rfl, Nat.le_of_ble_eq_true rfl⟩ (by decide) rfl k_p0 (c_X10_nextToken k_p0 hq) rfl rfl (Nat.le_of_ble_eq_true rfl) dX10_takesPartner_22 ⟨Nat.le_of_ble_eq_true rfl, Nat.le_of_ble_eq_true rfl⟩) hS (fun S4 H locs hf hR hS => ?_)
    refine lv_iconst (v := 1) B.1.1 B.1.2.1 dX10_takesPartner_25 (by decide) ?_
    exact y_zretK B hR hS hf rfl dX10_takesPartner_26
  · refine lv_aload_n B.1.1 B.1.2.1 dX10_takesPartner_16 rfl (hl.at 0 rfl) ?_
    refine y_ci hf (fun q hq => x_runV (ci := 10) (C := RX10) B.1 B.2.2.2 hl hR hS cm_X10_154 ⟨rfl, rfl, Nat.le_of_ble_eq_true rfl, Nat.le_of_ble_eq_true rfl⟩ (by decide) rfl k_p0 (c_X10_fails k_p0 hq) rfl rfl (Nat.le_of_ble_eq_true rfl) dX10_takesPartner_17 ⟨Nat.le_of_ble_eq_true rfl, Nat.le_of_ble_eq_true rfl⟩) hS (fun r6 S5 H locs hf hR hS => ?_)
    exact y_zret B hR hS hf dX10_takesPartner_20
