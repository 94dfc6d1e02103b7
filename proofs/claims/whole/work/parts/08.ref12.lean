abbrev xr_X10_go : Room := { frames := 7, cells := 0, slots := 0, locals := 147 }
def f_X10_go_73 (T : xT) (S : xS) (p0 : Nat) (p1 : Int32) (p3 : Int32) (ps0 : Int32) : Option (Int32 × xS) := xl ps0 (fun v1 => xcv (f_X10_more T S p0 ((3 : Int32)) ((-v1))) (fun S2 => xc (f_X10_get T S2 p0 ((0 : Int32))) (fun r4 S3 => xl ((r4 &&& (((1 : Int32) <<< (p1 &&& 31)) ^^^ (-1 : Int32)))) (fun v5 => xcv (f_X10_weighRatio T S3 p0 v5) (fun S6 => xcv (f_X10_dealOut T S6 p0 ((v1 - p3))) (fun S7 => xcv (f_X10_moves T S7 p0 ((5 : Int32)) ((-1 : Int32))) (fun S8 => xc (f_X10_get T S8 p0 (((29 : Int32) + p1))) (fun r10 S9 => xcv (f_X10_dealOut T S9 p0 r10) (fun S11 => xcv (f_X10_moves T S11 p0 ((29 : Int32)) ((1 : Int32))) (fun S12 => xc (f_X10_get T S12 p0 (((37 : Int32) + p1))) (fun r14 S13 => xcv (f_X10_dealOut T S13 p0 r14) (fun S15 => xcv (f_X10_moves T S15 p0 ((37 : Int32)) ((1 : Int32))) (fun S16 => xcv (f_X10_arrives T S16 p0 p1) (fun S17 => xcv (f_X10_put T S17 p0 (((21 : Int32) + p1)) ((0 : Int32))) (fun S18 => xcv (f_X10_put T S18 p0 ((0 : Int32)) v5) (fun S19 => xc (f_X10_tells T S19 p0 v1) (fun r21 S20 => some (r21, S20))))))))))))))))))
set_option maxRecDepth 100000 in
set_option maxHeartbeats 4000000 in
theorem w_X10_go_73 {p : Program} {l : Launch} {e : Env} {s : State} {m : MethodId} {args : Array Value} {below : List Frame} {meth : Method} {c : Code} {z : Nat} {D : va_G} {dA : Nat → ClassId} {T : xT} (B : xB p s m args meth c cX10_go RX10 6 (some .int) D dA) {q : Int32 × xS} : ∀ (S : xS) (H : Heap) (locs : List Loc) (ls : Array Slot) (p0 : Nat) (p1 : Int32) (p3 : Int32) (ps0 : Int32), xlk T p0 10 = true → f_X10_go_73 T S p0 p1 p3 ps0 = some q → xRel z D dA T S H → va_S (xA z) s.heap H locs → xL ls 6 [some (.ref (z + p0)), some (.int p1), none, some (.int p3), none, none] → xGi p l e xr_X10_go s m args below meth c z D dA T q H locs 73 ls [.int ps0] := by
  intro S H locs ls p0 p1 p3 ps0 k_p0 hf hR hS hl
  unfold f_X10_go_73 at hf
  refine y_istore B hl hf dX10_go_73 (by decide) rfl (fun v1 ls hf hl => ?_)
  have hl : xL ls 6 [_, _, _, _, _, _] := hl
  refine lv_aload_n B.1.1 B.1.2.1 dX10_go_75 rfl (hl.at 0 rfl) ?_
  refine lv_iconst (v := 3) B.1.1 B.1.2.1 dX10_go_76 (by decide) ?_
  refine lv_iload B.1.1 B.1.2.1 dX10_go_77 (hl.at 4 rfl) ?_
  refine lv_ineg B.1.1 B.1.2.1 dX10_go_79 ?_
  refine y_cv hf (fun q hq => x_runV (ci := 10) (C := RX10) B.1 B.2.2.2 hl hR hS cm_X10_246 ⟨rfl, rfl, Nat.le_of_ble_eq_true rfl, Nat.le_of_ble_eq_true rfl⟩ (by decide) rfl k_p0 (c_X10_more k_p0 hq) rfl rfl (Nat.le_of_ble_eq_true rfl) dX10_go_80 ⟨Nat.le_of_ble_eq_true rfl, Nat.le_of_ble_eq_true rfl⟩) hS (fun S2 H locs hf hR hS => ?_)
  refine lv_aload_n B.1.1 B.1.2.1 dX10_go_83 rfl (hl.at 0 rfl) ?_
  refine lv_iconst (v := 0) B.1.1 B.1.2.1 dX10_go_84 (by decide) ?_
  refine y_ci hf (fun q hq => x_runV (ci := 10) (C := RX10) B.1 B.2.2.2 hl hR hS cm_X10_193 ⟨rfl, rfl, Nat.le_of_ble_eq_true rfl, Nat.le_of_ble_eq_true rfl⟩ (by decide) rfl k_p0 (c_X10_get k_p0 hq) rfl rfl (Nat.le_of_ble_eq_true rfl) dX10_go_85 ⟨Nat.le_of_ble_eq_true rfl, Nat.le_of_ble_eq_true rfl⟩) hS (fun r4 S3 H locs hf hR hS => ?_)
  refine lv_iconst (v := 1) B.1.1 B.1.2.1 dX10_go_88 (by decide) ?_
  refine lv_iload_n B.1.1 B.1.2.1 dX10_go_89 rfl (hl.at 1 rfl) ?_
  refine lv_ishl B.1.1 B.1.2.1 dX10_go_90 ?_
  refine lv_iconst (v := -1) B.1.1 B.1.2.1 dX10_go_91 (by decide) ?_
  refine lv_ixor B.1.1 B.1.2.1 dX10_go_92 ?_
  refine lv_iand B.1.1 B.1.2.1 dX10_go_93 ?_
  refine y_istore B hl hf dX10_go_94 (by decide) rfl (fun v5 ls hf hl => ?_)
  have hl : xL ls 6 [_, _, _, _, _, _] := hl
  refine lv_aload_n B.1.1 B.1.2.1 dX10_go_96 rfl (hl.at 0 rfl) ?_
  refine lv_iload B.1.1 B.1.2.1 dX10_go_97 (hl.at 5 rfl) ?_
  refine y_cv hf (fun q hq => x_runV (ci := 10) (C := RX10) B.1 B.2.2.2 hl hR hS cm_X10_262 ⟨rfl, rfl, Nat.le_of_ble_eq_true rfl, Nat.le_of_ble_eq_true rfl⟩ (by decide) rfl k_p0 (c_X10_weighRatio k_p0 hq) rfl rfl (Nat.le_of_ble_eq_true rfl) dX10_go_99 ⟨Nat.le_of_ble_eq_true rfl, Nat.le_of_ble_eq_true rfl⟩) hS (fun S6 H locs hf hR hS => ?_)
  refine lv_aload_n B.1.1 B.1.2.1 dX10_go_102 rfl (hl.at 0 rfl) ?_
  refine lv_iload B.1.1 B.1.2.1 dX10_go_103 (hl.at 4 rfl) ?_
  refine lv_iload_n B.1.1 B.1.2.1 dX10_go_105 rfl (hl.at 3 rfl) ?_
  refine lv_isub B.1.1 B.1.2.1 dX10_go_106 ?_
  refine y_cv hf (fun q hq => x_runV (ci := 10) (C := RX10) B.1 B.2.2.2 hl hR hS cm_X10_209 ⟨rfl, rfl, Nat.le_of_ble_eq_true rfl, Nat.le_of_ble_eq_true rfl⟩ (by decide) rfl k_p0 (c_X10_dealOut k_p0 hq) rfl rfl (Nat.le_of_ble_eq_true rfl) dX10_go_107 ⟨Nat.le_of_ble_eq_true rfl, Nat.le_of_ble_eq_true rfl⟩) hS (fun S7 H locs hf hR hS => ?_)
  refine lv_aload_n B.1.1 B.1.2.1 dX10_go_110 rfl (hl.at 0 rfl) ?_
  refine lv_iconst (v := 5) B.1.1 B.1.2.1 dX10_go_111 (by decide) ?_
  refine lv_iconst (v := -1) B.1.1 B.1.2.1 dX10_go_112 (by decide) ?_
  refine y_cv hf (fun q hq => x_runV (ci := 10) (C := RX10) B.1 B.2.2.2 hl hR hS cm_X10_259 ⟨rfl, rfl, Nat.le_of_ble_eq_true rfl, Nat.le_of_ble_eq_true rfl⟩ (by decide) rfl k_p0 (c_X10_moves k_p0 hq) rfl rfl (Nat.le_of_ble_eq_true rfl) dX10_go_113 ⟨Nat.le_of_ble_eq_true rfl, Nat.le_of_ble_eq_true rfl⟩) hS (fun S8 H locs hf hR hS => ?_)
  refine lv_aload_n B.1.1 B.1.2.1 dX10_go_116 rfl (hl.at 0 rfl) ?_
  refine lv_aload_n B.1.1 B.1.2.1 dX10_go_117 rfl (hl.at 0 rfl) ?_
  refine lv_bipush (v := 29) B.1.1 B.1.2.1 dX10_go_118 (by decide) ?_
  refine lv_iload_n B.1.1 B.1.2.1 dX10_go_120 rfl (hl.at 1 rfl) ?_
  refine lv_iadd B.1.1 B.1.2.1 dX10_go_121 ?_
  refine y_ci hf (fun q hq => x_runV (ci := 10) (C := RX10) B.1 B.2.2.2 hl hR hS cm_X10_193 ⟨rfl, rfl, Nat.le_of_ble_eq_true rfl, Nat.le_of_ble_eq_true rfl⟩ (by decide) rfl k_p0 (c_X10_get k_p0 hq) rfl rfl (Nat.le_of_ble_eq_true rfl) dX10_go_122 ⟨Nat.le_of_ble_eq_true rfl, Nat.le_of_ble_eq_true rfl⟩) hS (fun r10 S9 H locs hf hR hS => ?_)
  refine y_cv hf (fun q hq => x_runV (ci := 10) (C := RX10) B.1 B.2.2.2 hl hR hS cm_X10_209 ⟨rfl, rfl, Nat.le_of_ble_eq_true rfl, Nat.le_of_ble_eq_true rfl⟩ (by decide) rfl k_p0 (c_X10_dealOut k_p0 hq) rfl rfl (Nat.le_of_ble_eq_true rfl) dX10_go_125 ⟨Nat.le_of_ble_eq_true rfl, Nat.le_of_ble_eq_true rfl⟩) hS (fun S11 H locs hf hR hS => ?_)
  refine lv_aload_n B.1.1 B.1.2.1 dX10_go_128 rfl (hl.at 0 rfl) ?_
  refine lv_bipush (v := 29) B.1.1 B.1.2.1 dX10_go_129 (by decide) ?_
  refine lv_iconst (v := 1) B.1.1 B.1.2.1 dX10_go_131 (by decide) ?_
  refine y_cv hf (fun q hq => x_runV (ci := 10) (C := RX10) B.1 B.2.2.2 hl hR hS cm_X10_259 ⟨rfl, rfl, Nat.le_of_ble_eq_true rfl, Nat.le_of_ble_eq_true rfl⟩ (by decide) rfl k_p0 (c_X10_moves k_p0 hq) rfl rfl (Nat.le_of_ble_eq_true rfl) dX10_go_132 ⟨Nat.le_of_ble_eq_true rfl, Nat.le_of_ble_eq_true rfl⟩) hS (fun S12 H locs hf hR hS => ?_)
  refine lv_aload_n B.1.1 B.1.2.1 dX10_go_135 rfl (hl.at 0 rfl) ?_
  refine lv_aload_n B.1.1 B.1.2.1 dX10_go_136 rfl (hl.at 0 rfl) ?_
  refine lv_bipush (v := 37) B.1.1 B.1.2.1 dX10_go_137 (by decide) ?_
  refine lv_iload_n B.1.1 B.1.2.1 dX10_go_139 rfl (hl.at 1 rfl) ?_
  refine lv_iadd B.1.1 B.1.2.1 dX10_go_140 ?_
  refine y_ci hf (fun q hq => x_runV (ci := 10) (C := RX10) B.1 B.2.2.2 hl hR hS cm_X10_193 ⟨rfl, rfl, Nat.le_of_ble_eq_true rfl, Nat.le_of_ble_eq_true rfl⟩ (by decide) rfl k_p0 (c_X10_get k_p0 hq) rfl rfl (Nat.le_of_ble_eq_true rfl) dX10_go_141 ⟨Nat.le_of_ble_eq_true rfl, Nat.le_of_ble_eq_true rfl⟩) hS (fun r14 S13 H locs hf hR hS => ?_)
  refine y_cv hf (fun q hq => x_runV (ci := 10) (C := RX10) B.1 B.2.2.2 hl hR hS cm_X10_209 ⟨rfl, rfl, Nat.le_of_ble_eq_true rfl, Nat.le_of_ble_eq_true rfl⟩ (by decide) rfl k_p0 (c_X10_dealOut k_p0 hq) rfl rfl (Nat.le_of_ble_eq_true rfl) dX10_go_144 ⟨Nat.le_of_ble_eq_true rfl, Nat.le_of_ble_eq_true rfl⟩) hS (fun S15 H locs hf hR hS => ?_)
  refine lv_aload_n B.1.1 B.1.2.1 dX10_go_147 rfl (hl.at 0 rfl) ?_
  refine lv_bipush (v := 37) B.1.1 B.1.2.1 dX10_go_148 (by decide) ?_
  refine lv_iconst (v := 1) B.1.1 B.1.2.1 dX10_go_150 (by decide) ?_
  refine y_cv hf (fun q hq => x_runV (ci := 10) (C := RX10) B.1 B.2.2.2 hl hR hS cm_X10_259 ⟨rfl, rfl, Nat.le_of_ble_eq_true rfl, Nat.le_of_ble_eq_true rfl⟩ (by decide) rfl k_p0 (c_X10_moves k_p0 hq) rfl rfl (Nat.le_of_ble_eq_true rfl) dX10_go_151 ⟨Nat.le_of_ble_eq_true rfl, Nat.le_of_ble_eq_true rfl⟩) hS (fun S16 H locs hf hR hS => ?_)
  refine lv_aload_n B.1.1 B.1.2.1 dX10_go_154 rfl (hl.at 0 rfl) ?_
  refine lv_iload_n B.1.1 B.1.2.1 dX10_go_155 rfl (hl.at 1 rfl) ?_
  refine y_cv hf (fun q hq => x_runV (ci := 10) (C := RX10) B.1 B.2.2.2 hl hR hS cm_X10_377 ⟨rfl, rfl, Nat.le_of_ble_eq_true rfl, Nat.le_of_ble_eq_true rfl⟩ (by decide) rfl k_p0 (c_X10_arrives k_p0 hq) rfl rfl (Nat.le_of_ble_eq_true rfl) dX10_go_156 ⟨Nat.le_of_ble_eq_true rfl, Nat.le_of_ble_eq_true rfl⟩) hS (fun S17 H locs hf hR hS => ?_)
  refine lv_aload_n B.1.1 B.1.2.1 dX10_go_159 rfl (hl.at 0 rfl) ?_
  refine lv_bipush (v := 21) B.1.1 B.1.2.1 dX10_go_160 (by decide) ?_
  refine lv_iload_n B.1.1 B.1.2.1 dX10_go_162 rfl (hl.at 1 rfl) ?_
  refine lv_iadd B.1.1 B.1.2.1 dX10_go_163 ?_
  refine lv_iconst (v := 0) B.1.1 B.1.2.1 dX10_go_164 (by decide) ?_
  refine y_cv hf (fun q hq => x_runV (ci := 10) (C := RX10) B.1 B.2.2.2 hl hR hS cm_X10_71 ⟨rfl, rfl, Nat.le_of_ble_eq_true rfl, Nat.le_of_ble_eq_true rfl⟩ (by decide) rfl k_p0 (c_X10_put k_p0 hq) rfl rfl (Nat.le_of_ble_eq_true rfl) dX10_go_165 ⟨Nat.le_of_ble_eq_true rfl, Nat.le_of_ble_eq_true rfl⟩) hS (fun S18 H locs hf hR hS => ?_)
  refine lv_aload_n B.1.1 B.1.2.1 dX10_go_168 rfl (hl.at 0 rfl) ?_
  refine lv_iconst (v := 0) B.1.1 B.1.2.1 dX10_go_169 (by decide) ?_
  refine lv_iload B.1.1 B.1.2.1 dX10_go_170 (hl.at 5 rfl) ?_
  refine y_cv hf (fun q hq => x_runV (ci := 10) (C := RX10) B.1 B.2.2.2 hl hR hS cm_X10_71 ⟨rfl, rfl, Nat.le_of_ble_eq_true rfl, Nat.le_of_ble_eq_true rfl⟩ (by decide) rfl k_p0 (c_X10_put k_p0 hq) rfl rfl (Nat.le_of_ble_eq_true rfl) dX10_go_172 ⟨Nat.le_of_ble_eq_true rfl, Nat.le_of_ble_eq_true rfl⟩) hS (fun S19 H locs hf hR hS => ?_)
  refine lv_aload_n B.1.1 B.1.2.1 dX10_go_175 rfl (hl.at 0 rfl) ?_
  refine lv_iload B.1.1 B.1.2.1 dX10_go_176 (hl.at 4 rfl) ?_
  refine y_ci hf (fun q hq => x_runV (ci := 10) (C := RX10) B.1 B.2.2.2 hl hR hS cm_X10_304 ⟨rfl, rfl, Nat.le_of_ble_eq_true rfl, Nat.le_of_ble_eq_true rfl⟩ (by decide) rfl k_p0 (c_X10_tells k_p0 hq) rfl rfl (Nat.le_of_ble_eq_true rfl) dX10_go_178 ⟨Nat.le_of_ble_eq_true rfl, Nat.le_of_ble_eq_true rfl⟩) hS (fun r21 S20 H locs hf hR hS => ?_)
  exact y_iret B hR hS hf dX10_go_181
def f_X10_go (T : xT) (S : xS) (p0 : Nat) (p1 : Int32) : Option (Int32 × xS) := xc (f_X10_isThere T S p0 p1) (fun r2 S1 => if r2 = (0 : Int32) then xc (f_X10_refuse T S1 p0 ((-1000000000 : Int32))) (fun r4 S3 => some (r4, S3)) else xc (f_X10_get T S1 p0 ((0 : Int32))) (fun r6 S5 => if r6 = ((1 : Int32) <<< (p1 &&& 31)) then xc (f_X10_refuse T S5 p0 ((-1000000000 : Int32))) (fun r8 S7 => some (r8, S7)) else xc (f_X10_get T S5 p0 ((2 : Int32))) (fun r10 S9 => if r10 = (0 : Int32) then xcv (f_X10_deed T S9 p0) (fun S11 => xc (f_X10_valueAnew T S11 p0) (fun r13 S12 => xl r13 (fun v14 => xc (f_X10_get T S12 p0 (((5 : Int32) + p1))) (fun r16 S15 => xl r16 (fun v17 => if v17 < (0 : Int32) then xc (f_X10_get T S15 p0 (((13 : Int32) + p1))) (fun r19 S18 => xc (f_X10_lesser T S18 ((-v17)) r19) (fun r21 S20 => f_X10_go_73 T S20 p0 p1 v17 ((-r21)))) else f_X10_go_73 T S15 p0 p1 v17 v17))))) else xc (f_X10_refuse T S9 p0 ((-1000000000 : Int32))) (fun r23 S22 => some (r23, S22)))))
set_option maxRecDepth 100000 in
set_option maxHeartbeats 4000000 in
theorem c_X10_go {l : Launch} {z : Nat} {D : va_G} {dA : Nat → ClassId} {T : xT} {S : xS} {p0 : Nat} {p1 : Int32} (k_p0 : xlk T p0 10 = true) {q : Int32 × xS} (hf : f_X10_go T S p0 p1 = some q) : Met l yX10_go (xws yX10_go cX10_go 6 (some .int)) xr_X10_go (xPc z D dA T S [.ref (z + p0), .int p1]) (xQi z D dA T q) 0 0 (xA z) := by
  refine x_met RX10 (by decide) rfl (Nat.le_of_ble_eq_true rfl) ?_
  intro p e s m below meth c ls _ X hr hlk hml _ hR hS hl
  have B : xB p s m _ meth c cX10_go RX10 6 (some .int) D dA := ⟨X, hr, hlk, hml⟩
  have hl : xL ls 6 [_, _, _, _, _, _] := hl
  unfold f_X10_go at hf
  refine lv_aload_n B.1.1 B.1.2.1 dX10_go_0 rfl (hl.at 0 rfl) ?_
  refine lv_iload_n B.1.1 B.1.2.1 dX10_go_1 rfl (hl.at 1 rfl) ?_
  refine y_ci hf (fun q hq => x_runV (ci := 10) (C := RX10) B.1 B.2.2.2 hl hR hS cm_X10_203 ⟨rfl, rfl, Nat.le_of_ble_eq_true rfl, Nat.le_of_ble_eq_true rfl⟩ (by decide) rfl k_p0 (c_X10_isThere k_p0 hq) rfl rfl (Nat.le_of_ble_eq_true rfl) dX10_go_2 ⟨Nat.le_of_ble_eq_true rfl, Nat.le_of_ble_eq_true rfl⟩) hS (fun r2 S1 H locs hf hR hS => ?_)
  refine y_if_eq (tgt := 27) B hf dX10_go_5 (by decide) (fun hf => ?_) (fun hf => ?_)
  · refine lv_aload_n B.1.1 B.1.2.1 dX10_go_27 rfl (hl.at 0 rfl) ?_
    refine lv_ldc (v := -1000000000) B.1.1 B.1.2.1 B.1.2.2.1 (B.1.2.2.2.1 _ tw_1301) dX10_go_28 ?_
    refine y_ci hf (fun q hq => x_runV (ci := 10) (C := RX10) B.1 B.2.2.2 hl hR hS cm_X10_298 ⟨rfl, rfl, Nat.le_of_ble_eq_true rfl, Nat.le_of_ble_eq_true rfl⟩ (by decide) rfl k_p0 (c_X10_refuse k_p0 hq) rfl rfl (Nat.le_of_ble_eq_true rfl) dX10_go_30 ⟨Nat.le_of_ble_eq_true rfl, Nat.le_of_ble_eq_true rfl⟩) hS (fun r4 S3 H locs hf hR hS => ?_)
    exact y_iret B hR hS hf dX10_go_33
  · refine lv_aload_n B.1.1 B.1.2.1 dX10_go_8 rfl (hl.at 0 rfl) ?_
    refine lv_iconst (v := 0) B.1.1 B.1.2.1 dX10_go_9 (by decide) ?_
    refine y_ci hf (fun q hq => x_runV (ci := 10) (C := RX10) B.1 B.2.2.2 hl hR hS cm_X10_193 ⟨rfl, rfl, Nat.le_of_ble_eq_true rfl, Nat.le_of_ble_eq_true rfl⟩ (by decide) rfl k_p0 (c_X10_get k_p0 hq) rfl rfl (Nat.le_of_ble_eq_true rfl) dX10_go_10 ⟨Nat.le_of_ble_eq_true rfl, Nat.le_of_ble_eq_true rfl⟩) hS (fun r6 S5 H locs hf hR hS => ?_)
    refine lv_iconst (v := 1) B.1.1 B.1.2.1 dX10_go_13 (by decide) ?_
    refine lv_iload_n B.1.1 B.1.2.1 dX10_go_14 rfl (hl.at 1 rfl) ?_
    refine lv_ishl B.1.1 B.1.2.1 dX10_go_15 ?_
    refine y_icmp_eq (tgt := 27) B hf dX10_go_16 (by decide) (fun hf => ?_) (fun hf => ?_)
    · refine lv_aload_n B.1.1 B.1.2.1 dX10_go_27 rfl (hl.at 0 rfl) ?_
      refine lv_ldc (v := -1000000000) B.1.1 B.1.2.1 B.1.2.2.1 (B.1.2.2.2.1 _ tw_1301) dX10_go_28 ?_
      refine y_ci hf (fun q hq => x_runV (ci := 10) (C := RX10) B.1 B.2.2.2 hl hR hS cm_X10_298 ⟨rfl, rfl, Nat.le_of_ble_eq_true rfl, Nat.le_of_ble_eq_true rfl⟩ (by decide) rfl k_p0 (c_X10_refuse k_p0 hq) rfl rfl (Nat.le_of_ble_eq_true rfl) dX10_go_30 ⟨Nat.le_of_ble_eq_true rfl, Nat.le_of_ble_eq_true rfl⟩) hS (fun r8 S7 H locs hf hR hS => ?_)
      exact y_iret B hR hS hf dX10_go_33
    · refine lv_aload_n B.1.1 B.1.2.1 dX10_go_19 rfl (hl.at 0 rfl) ?_
      refine lv_iconst (v := 2) B.1.1 B.1.2.1 dX10_go_20 (by decide) ?_
      refine y_ci hf (fun q hq => x_runV (ci := 10) (C := RX10) B.1 B.2.2.2 hl hR hS cm_X10_193 ⟨rfl, rfl, Nat.le_of_ble_eq_true rfl, Nat.le_of_ble_eq_true rfl⟩ (by decide) rfl k_p0 (c_X10_get k_p0 hq) rfl rfl (Nat.le_of_ble_eq_true rfl) dX10_go_21 ⟨Nat.le_of_ble_eq_true rfl, Nat.le_of_ble_eq_true rfl⟩) hS (fun r10 S9 H locs hf hR hS => ?_)
      refine y_if_eq (tgt := 34) B hf dX10_go_24 (by decide) (fun hf => ?_) (fun hf => ?_)
      · refine lv_aload_n B.1.1 B.1.2.1 dX10_go_34 rfl (hl.at 0 rfl) ?_
        refine y_cv hf (fun q hq => x_runV (ci := 10) (C := RX10) B.1 B.2.2.2 hl hR hS cm_X10_85 ⟨rfl, rfl, Nat.le_of_ble_eq_true rfl, Nat.le_of_ble_eq_true rfl⟩ (by decide) rfl k_p0 (c_X10_deed k_p0 hq) rfl rfl (Nat.le_of_ble_eq_true rfl) dX10_go_35 ⟨Nat.le_of_ble_eq_true rfl, Nat.le_of_ble_eq_true rfl⟩) hS (fun S11 H locs hf hR hS => ?_)
        refine lv_aload_n B.1.1 B.1.2.1 dX10_go_38 rfl (hl.at 0 rfl) ?_
        refine y_ci hf (fun q hq => x_runV (ci := 10) (C := RX10) B.1 B.2.2.2 hl hR hS cm_X10_374 ⟨rfl, rfl, Nat.le_of_ble_eq_true rfl, Nat.le_of_ble_eq_true rfl⟩ (by decide) rfl k_p0 (c_X10_valueAnew k_p0 hq) rfl rfl (Nat.le_of_ble_eq_true rfl) dX10_go_39 ⟨Nat.le_of_ble_eq_true rfl, Nat.le_of_ble_eq_true rfl⟩) hS (fun r13 S12 H locs hf hR hS => ?_)
        refine y_istore_n B hl hf dX10_go_42 rfl (by decide) rfl (fun v14 ls hf hl => ?_)
        have hl : xL ls 6 [_, _, _, _, _, _] := hl
        refine lv_aload_n B.1.1 B.1.2.1 dX10_go_43 rfl (hl.at 0 rfl) ?_
        refine lv_iconst (v := 5) B.1.1 B.1.2.1 dX10_go_44 (by decide) ?_
        refine lv_iload_n B.1.1 B.1.2.1 dX10_go_45 rfl (hl.at 1 rfl) ?_
        refine lv_iadd B.1.1 B.1.2.1 dX10_go_46 ?_
        refine y_ci hf (fun q hq => x_runV (ci := 10) (C := RX10) B.1 B.2.2.2 hl hR hS cm_X10_193 ⟨rfl, rfl, Nat.le_of_ble_eq_true rfl, Nat.le_of_ble_eq_true rfl⟩ (by decide) rfl k_p0 (c_X10_get k_p0 hq) rfl rfl (Nat.le_of_ble_eq_true rfl) dX10_go_47 ⟨Nat.le_of_ble_eq_true rfl, Nat.le_of_ble_eq_true rfl⟩) hS (fun r16 S15 H locs hf hR hS => ?_)
        refine y_istore_n B hl hf dX10_go_50 rfl (by decide) rfl (fun v17 ls hf hl => ?_)
        have hl : xL ls 6 [_, _, _, _, _, _] := hl
        refine lv_iload_n B.1.1 B.1.2.1 dX10_go_51 rfl (hl.at 3 rfl) ?_
        refine y_if_lt (tgt := 59) B hf dX10_go_52 (by decide) (fun hf => ?_) (fun hf => ?_)
        · refine lv_iload_n B.1.1 B.1.2.1 dX10_go_59 rfl (hl.at 3 rfl) ?_
          refine lv_ineg B.1.1 B.1.2.1 dX10_go_60 ?_
          refine lv_aload_n B.1.1 B.1.2.1 dX10_go_61 rfl (hl.at 0 rfl) ?_
          refine lv_bipush (v := 13) B.1.1 B.1.2.1 dX10_go_62 (by decide) ?_
          refine lv_iload_n B.1.1 B.1.2.1 dX10_go_64 rfl (hl.at 1 rfl) ?_
          refine lv_iadd B.1.1 B.1.2.1 dX10_go_65 ?_
          refine y_ci hf (fun q hq => x_runV (ci := 10) (C := RX10) B.1 B.2.2.2 hl hR hS cm_X10_193 ⟨rfl, rfl, Nat.le_of_ble_eq_true rfl, Nat.le_of_ble_eq_true rfl⟩ (by decide) rfl k_p0 (c_X10_get k_p0 hq) rfl rfl (Nat.le_of_ble_eq_true rfl) dX10_go_66 ⟨Nat.le_of_ble_eq_true rfl, Nat.le_of_ble_eq_true rfl⟩) hS (fun r19 S18 H locs hf hR hS => ?_)
          refine y_ci hf (fun q hq => y_runS B.1 B.2.2.2 hl hR hS cm_X10_252 ⟨rfl, rfl, Nat.le_of_ble_eq_true rfl, Nat.le_of_ble_eq_true rfl⟩ (c_X10_lesser hq) rfl rfl (Nat.le_of_ble_eq_true rfl) dX10_go_69 ⟨Nat.le_of_ble_eq_true rfl, Nat.le_of_ble_eq_true rfl⟩) hS (fun r21 S20 H locs hf hR hS => ?_)
          refine lv_ineg B.1.1 B.1.2.1 dX10_go_72 ?_
          exact w_X10_go_73 B _ _ _ _ _ _ _ _ k_p0 hf hR hS (hl.drop [true, true, false, true, false, false] rfl)
        · refine lv_iload_n B.1.1 B.1.2.1 dX10_go_55 rfl (hl.at 3 rfl) ?_
          refine lv_goto (tgt := 73) B.1.1 B.1.2.1 dX10_go_56 (by decide) ?_
          exact w_X10_go_73 B _ _ _ _ _ _ _ _ k_p0 hf hR hS (hl.drop [true, true, false, true, false, false] rfl)
      · refine lv_aload_n B.1.1 B.1.2.1 dX10_go_27 rfl (hl.at 0 rfl) ?_
        refine lv_ldc (v := -1000000000) B.1.1 B.1.2.1 B.1.2.2.1 (B.1.2.2.2.1 _ tw_1301) dX10_go_28 ?_
        refine y_ci hf (fun q hq => x_runV (ci := 10) (C := RX10) B.1 B.2.2.2 hl hR hS cm_X10_298 ⟨rfl, rfl, Nat.le_of_ble_eq_true rfl, Nat.le_of_ble_eq_true rfl⟩ (by decide) rfl k_p0 (c_X10_refuse k_p0 hq) rfl rfl (Nat.le_of_ble_eq_true rfl) dX10_go_30 ⟨Nat.le_of_ble_eq_true rfl, Nat.le_of_ble_eq_true rfl⟩) hS (fun r23 S22 H locs hf hR hS => ?_)
        exact y_iret B hR hS hf dX10_go_33
abbrev xr_X10_handsOver : Room := { frames := 2, cells := 0, slots := 0, locals := 34 }
def f_X10_handsOver (T : xT) (S : xS) (p0 : Nat) (p1 : Int32) (p2 : Int32) (p3 : Int32) (p4 : Int32) : Option (xS) := xc (f_X10_get T S p0 ((p1 + p2))) (fun r2 S1 => xgd (xm0 (100 : Int64)) (xl (((((r2).toInt64 * (p4).toInt64) / (100 : Int64))).toInt32) (fun v3 => xcv (f_X10_more T S1 p0 ((p1 + p2)) ((-v3))) (fun S4 => xcv (f_X10_more T S4 p0 ((p1 + p3)) v3) (fun S5 => some S5)))))
set_option maxRecDepth 100000 in
set_option maxHeartbeats 4000000 in
theorem c_X10_handsOver {l : Launch} {z : Nat} {D : va_G} {dA : Nat → ClassId} {T : xT} {S : xS} {p0 : Nat} {p1 : Int32} {p2 : Int32} {p3 : Int32} {p4 : Int32} (k_p0 : xlk T p0 10 = true) {q : xS} (hf : f_X10_handsOver T S p0 p1 p2 p3 p4 = some q) : Met l yX10_handsOver (xws yX10_handsOver cX10_handsOver 6 none) xr_X10_handsOver (xPc z D dA T S [.ref (z + p0), .int p1, .int p2, .int p3, .int p4]) (xQv z D dA T q) 0 0 (xA z) := by
  refine x_met RX10 (by decide) rfl (Nat.le_of_ble_eq_true rfl) ?_
  intro p e s m below meth c ls _ X hr hlk hml _ hR hS hl
  have B : xB p s m _ meth c cX10_handsOver RX10 6 none D dA := ⟨X, hr, hlk, hml⟩
  have hl : xL ls 6 [_, _, _, _, _, _] := hl
  unfold f_X10_handsOver at hf
  refine lv_aload_n B.1.1 B.1.2.1 dX10_handsOver_0 rfl (hl.at 0 rfl) ?_
  refine lv_iload_n B.1.1 B.1.2.1 dX10_handsOver_1 rfl (hl.at 1 rfl) ?_
  refine lv_iload_n B.1.1 B.1.2.1 dX10_handsOver_2 rfl (hl.at 2 rfl) ?_
  refine lv_iadd B.1.1 B.1.2.1 dX10_handsOver_3 ?_
  refine y_ci hf (fun q hq => x_runV (ci := 10) (C := RX10) B.1 B.2.2.2 hl hR hS cm_X10_193 ⟨rfl, rfl, Nat.le_of_ble_eq_true rfl, Nat.le_of_ble_eq_true rfl⟩ (by decide) rfl k_p0 (c_X10_get k_p0 hq) rfl rfl (Nat.le_of_ble_eq_true rfl) dX10_handsOver_4 ⟨Nat.le_of_ble_eq_true rfl, Nat.le_of_ble_eq_true rfl⟩) hS (fun r2 S1 H locs hf hR hS => ?_)
  refine lv_i2l B.1.1 B.1.2.1 dX10_handsOver_7 rfl ?_
  refine lv_iload B.1.1 B.1.2.1 dX10_handsOver_8 (hl.at 4 rfl) ?_
  refine lv_i2l B.1.1 B.1.2.1 dX10_handsOver_10 rfl ?_
  refine lv_lmul B.1.1 B.1.2.1 dX10_handsOver_11 ?_
  refine lv_ldc2 (v := 100) B.1.1 B.1.2.1 B.1.2.2.1 (B.1.2.2.2.1 _ tw_1603) dX10_handsOver_12 ?_
  refine y_ldiv B hf dX10_handsOver_15 (fun hf => ?_)
  refine lv_l2i B.1.1 B.1.2.1 dX10_handsOver_16 rfl ?_
  refine y_istore B hl hf dX10_handsOver_17 (by decide) rfl (fun v3 ls hf hl => ?_)
  have hl : xL ls 6 [_, _, _, _, _, _] := hl
  refine lv_aload_n B.1.1 B.1.2.1 dX10_handsOver_19 rfl (hl.at 0 rfl) ?_
  refine lv_iload_n B.1.1 B.1.2.1 dX10_handsOver_20 rfl (hl.at 1 rfl) ?_
  refine lv_iload_n B.1.1 B.1.2.1 dX10_handsOver_21 rfl (hl.at 2 rfl) ?_
  refine lv_iadd B.1.1 B.1.2.1 dX10_handsOver_22 ?_
  refine lv_iload B.1.1 B.1.2.1 dX10_handsOver_23 (hl.at 5 rfl) ?_
  refine lv_ineg B.1.1 B.1.2.1 dX10_handsOver_25 ?_
  refine y_cv hf (fun q hq => x_runV (ci := 10) (C := RX10) B.1 B.2.2.2 hl hR hS cm_X10_246 ⟨rfl, rfl, Nat.le_of_ble_eq_true rfl, Nat.le_of_ble_eq_true rfl⟩ (by decide) rfl k_p0 (c_X10_more k_p0 hq) rfl rfl (Nat.le_of_ble_eq_true rfl) dX10_handsOver_26 ⟨Nat.le_of_ble_eq_true rfl, Nat.le_of_ble_eq_true rfl⟩) hS (fun S4 H locs hf hR hS => ?_)
  refine lv_aload_n B.1.1 B.1.2.1 dX10_handsOver_29 rfl (hl.at 0 rfl) ?_
  refine lv_iload_n B.1.1 B.1.2.1 dX10_handsOver_30 rfl (hl.at 1 rfl) ?_
  refine lv_iload_n B.1.1 B.1.2.1 dX10_handsOver_31 rfl (hl.at 3 rfl) ?_
  refine lv_iadd B.1.1 B.1.2.1 dX10_handsOver_32 ?_
  refine lv_iload B.1.1 B.1.2.1 dX10_handsOver_33 (hl.at 5 rfl) ?_
  refine y_cv hf (fun q hq => x_runV (ci := 10) (C := RX10) B.1 B.2.2.2 hl hR hS cm_X10_246 ⟨rfl, rfl, Nat.le_of_ble_eq_true rfl, Nat.le_of_ble_eq_true rfl⟩ (by decide) rfl k_p0 (c_X10_more k_p0 hq) rfl rfl (Nat.le_of_ble_eq_true rfl) dX10_handsOver_35 ⟨Nat.le_of_ble_eq_true rfl, Nat.le_of_ble_eq_true rfl⟩) hS (fun S5 H locs hf hR hS => ?_)
  exact y_vret B hR hS hf dX10_handsOver_38
abbrev xr_X10_hand : Room := { frames := 3, cells := 0, slots := 0, locals := 59 }
def f_X10_hand_53 (T : xT) (S : xS) (p0 : Nat) (p1 : Int32) (p2 : Int32) (p3 : Int32) : Option (Int32 × xS) := xcv (f_X10_handsOver T S p0 ((5 : Int32)) p1 p2 p3) (fun S1 => xcv (f_X10_handsOver T S1 p0 ((29 : Int32)) p1 p2 p3) (fun S2 => xcv (f_X10_handsOver T S2 p0 ((37 : Int32)) p1 p2 p3) (fun S3 => xc (f_X10_get T S3 p0 (((5 : Int32) + p2))) (fun r5 S4 => some (r5, S4)))))
set_option maxRecDepth 100000 in
set_option maxHeartbeats 4000000 in
theorem w_X10_hand_53 {p : Program} {l : Launch} {e : Env} {s : State} {m : MethodId} {args : Array Value} {below : List Frame} {meth : Method} {c : Code} {z : Nat} {D : va_G} {dA : Nat → ClassId} {T : xT} (B : xB p s m args meth c cX10_hand RX10 4 (some .int) D dA) {q : Int32 × xS} : ∀ (S : xS) (H : Heap) (locs : List Loc) (ls : Array Slot) (p0 : Nat) (p1 : Int32) (p2 : Int32) (p3 : Int32), xlk T p0 10 = true → f_X10_hand_53 T S p0 p1 p2 p3 = some q → xRel z D dA T S H → va_S (xA z) s.heap H locs → xL ls 4 [some (.ref (z + p0)), some (.int p1), some (.int p2), some (.int p3)] → xGi p l e xr_X10_hand s m args below meth c z D dA T q H locs 53 ls [] := by
  intro S H locs ls p0 p1 p2 p3 k_p0 hf hR hS hl
  unfold f_X10_hand_53 at hf
  refine lv_aload_n B.1.1 B.1.2.1 dX10_hand_53 rfl (hl.at 0 rfl) ?_
  refine lv_iconst (v := 5) B.1.1 B.1.2.1 dX10_hand_54 (by decide) ?_
  refine lv_iload_n B.1.1 B.1.2.1 dX10_hand_55 rfl (hl.at 1 rfl) ?_
  refine lv_iload_n B.1.1 B.1.2.1 dX10_hand_56 rfl (hl.at 2 rfl) ?_
  refine lv_iload_n B.1.1 B.1.2.1 dX10_hand_57 rfl (hl.at 3 rfl) ?_
  refine y_cv hf (fun q hq => x_runV (ci := 10) (C := RX10) B.1 B.2.2.2 hl hR hS cm_X10_382 ⟨rfl, rfl, Nat.le_of_ble_eq_true rfl, Nat.le_of_ble_eq_true rfl⟩ (by decide) rfl k_p0 (c_X10_handsOver k_p0 hq) rfl rfl (Nat.le_of_ble_eq_true rfl) dX10_hand_58 ⟨Nat.le_of_ble_eq_true rfl, Nat.le_of_ble_eq_true rfl⟩) hS (fun S1 H locs hf hR hS => ?_)
  refine lv_aload_n B.1.1 B.1.2.1 dX10_hand_61 rfl (hl.at 0 rfl) ?_
  refine lv_bipush (v := 29) B.1.1 B.1.2.1 dX10_hand_62 (by decide) ?_
  refine lv_iload_n B.1.1 B.1.2.1 dX10_hand_64 rfl (hl.at 1 rfl) ?_
  refine lv_iload_n B.1.1 B.1.2.1 dX10_hand_65 rfl (hl.at 2 rfl) ?_
  refine lv_iload_n B.1.1 B.1.2.1 dX10_hand_66 rfl (hl.at 3 rfl) ?_
  refine y_cv hf (fun q hq => x_runV (ci := 10) (C := RX10) B.1 B.2.2.2 hl hR hS cm_X10_382 ⟨rfl, rfl, Nat.le_of_ble_eq_true rfl, Nat.le_of_ble_eq_true rfl⟩ (by decide) rfl k_p0 (c_X10_handsOver k_p0 hq) rfl rfl (Nat.le_of_ble_eq_true rfl) dX10_hand_67 ⟨Nat.le_of_ble_eq_true rfl, Nat.le_of_ble_eq_true rfl⟩) hS (fun S2 H locs hf hR hS => ?_)
  refine lv_aload_n B.1.1 B.1.2.1 dX10_hand_70 rfl (hl.at 0 rfl) ?_
  refine lv_bipush (v := 37) B.1.1 B.1.2.1 dX10_hand_71 (by decide) ?_
  refine lv_iload_n B.1.1 B.1.2.1 dX10_hand_73 rfl (hl.at 1 rfl) ?_
  refine lv_iload_n B.1.1 B.1.2.1 dX10_hand_74 rfl (hl.at 2 rfl) ?_
  refine lv_iload_n B.1.1 B.1.2.1 dX10_hand_75 rfl (hl.at 3 rfl) ?_
  refine y_cv hf (fun q hq => x_runV (ci := 10) (C := RX10) B.1 B.2.2.2 hl hR hS cm_X10_382 ⟨rfl, rfl, Nat.le_of_ble_eq_true rfl, Nat.le_of_ble_eq_true rfl⟩ (by decide) rfl k_p0 (c_X10_handsOver k_p0 hq) rfl rfl (Nat.le_of_ble_eq_true rfl) dX10_hand_76 ⟨Nat.le_of_ble_eq_true rfl, Nat.le_of_ble_eq_true rfl⟩) hS (fun S3 H locs hf hR hS => ?_)
  refine lv_aload_n B.1.1 B.1.2.1 dX10_hand_79 rfl (hl.at 0 rfl) ?_
  refine lv_iconst (v := 5) B.1.1 B.1.2.1 dX10_hand_80 (by decide) ?_
  refine lv_iload_n B.1.1 B.1.2.1 dX10_hand_81 rfl (hl.at 2 rfl) ?_
  refine lv_iadd B.1.1 B.1.2.1 dX10_hand_82 ?_
  refine y_ci hf (fun q hq => x_runV (ci := 10) (C := RX10) B.1 B.2.2.2 hl hR hS cm_X10_193 ⟨rfl, rfl, Nat.le_of_ble_eq_true rfl, Nat.le_of_ble_eq_true rfl⟩ (by decide) rfl k_p0 (c_X10_get k_p0 hq) rfl rfl (Nat.le_of_ble_eq_true rfl) dX10_hand_83 ⟨Nat.le_of_ble_eq_true rfl, Nat.le_of_ble_eq_true rfl⟩) hS (fun r5 S4 H locs hf hR hS => ?_)
  exact y_iret B hR hS hf dX10_hand_86
def f_X10_hand (T : xT) (S : xS) (p0 : Nat) (p1 : Int32) (p2 : Int32) (p3 : Int32) : Option (Int32 × xS) := xc (f_X10_isThere T S p0 p1) (fun r2 S1 => if r2 = (0 : Int32) then some ((-1000000000 : Int32), S1) else xc (f_X10_isIn T S1 p2 ((0 : Int32)) ((7 : Int32))) (fun r4 S3 => if r4 = (0 : Int32) then some ((-1000000000 : Int32), S3) else if p1 = p2 then some ((-1000000000 : Int32), S3) else xc (f_X10_isIn T S3 p3 ((1 : Int32)) ((100 : Int32))) (fun r6 S5 => if r6 = (0 : Int32) then some ((-1000000000 : Int32), S5) else xcv (f_X10_deed T S5 p0) (fun S7 => xc (f_X10_isThere T S7 p0 p2) (fun r9 S8 => if r9 = (0 : Int32) then xcv (f_X10_arrives T S8 p0 p2) (fun S10 => f_X10_hand_53 T S10 p0 p1 p2 p3) else f_X10_hand_53 T S8 p0 p1 p2 p3)))))
set_option maxRecDepth 100000 in
set_option maxHeartbeats 4000000 in
theorem c_X10_hand {l : Launch} {z : Nat} {D : va_G} {dA : Nat → ClassId} {T : xT} {S : xS} {p0 : Nat} {p1 : Int32} {p2 : Int32} {p3 : Int32} (k_p0 : xlk T p0 10 = true) {q : Int32 × xS} (hf : f_X10_hand T S p0 p1 p2 p3 = some q) : Met l yX10_hand (xws yX10_hand cX10_hand 4 (some .int)) xr_X10_hand (xPc z D dA T S [.ref (z + p0), .int p1, .int p2, .int p3]) (xQi z D dA T q) 0 0 (xA z) := by
  refine x_met RX10 (by decide) rfl (Nat.le_of_ble_eq_true rfl) ?_
  intro p e s m below meth c ls _ X hr hlk hml _ hR hS hl
  have B : xB p s m _ meth c cX10_hand RX10 4 (some .int) D dA := ⟨X, hr, hlk, hml⟩
  have hl : xL ls 4 [_, _, _, _] := hl
  unfold f_X10_hand at hf
  refine lv_aload_n B.1.1 B.1.2.1 dX10_hand_0 rfl (hl.at 0 rfl) ?_
  refine lv_iload_n B.1.1 B.1.2.1 dX10_hand_1 rfl (hl.at 1 rfl) ?_
  refine y_ci hf (fun q hq => x_runV (ci := 10) (C := RX10) B.1 B.2.2.2 hl hR hS cm_X10_203 ⟨rfl, rfl, Nat.le_of_ble_eq_true rfl, Nat.le_of_ble_eq_true rfl⟩ (by decide) rfl k_p0 (c_X10_isThere k_p0 hq) rfl rfl (Nat.le_of_ble_eq_true rfl) dX10_hand_2 ⟨Nat.le_of_ble_eq_true rfl, Nat.le_of_ble_eq_true rfl⟩) hS (fun r2 S1 H locs hf hR hS => ?_)
  refine y_if_eq (tgt := 33) B hf dX10_hand_5 (by decide) (fun hf => ?_) (fun hf => ?_)
  · refine lv_ldc (v := -1000000000) B.1.1 B.1.2.1 B.1.2.2.1 (B.1.2.2.2.1 _ tw_1301) dX10_hand_33 ?_
    exact y_iret B hR hS hf dX10_hand_35
  · refine lv_iload_n B.1.1 B.1.2.1 dX10_hand_8 rfl (hl.at 2 rfl) ?_
    refine lv_iconst (v := 0) B.1.1 B.1.2.1 dX10_hand_9 (by decide) ?_
    refine lv_bipush (v := 7) B.1.1 B.1.2.1 dX10_hand_10 (by decide) ?_
    refine y_ci hf (fun q hq => y_runS B.1 B.2.2.2 hl hR hS cm_X10_81 ⟨rfl, rfl, Nat.le_of_ble_eq_true rfl, Nat.le_of_ble_eq_true rfl⟩ (c_X10_isIn hq) rfl rfl (Nat.le_of_ble_eq_true rfl) dX10_hand_12 ⟨Nat.le_of_ble_eq_true rfl, Nat.le_of_ble_eq_true rfl⟩) hS (fun r4 S3 H locs hf hR hS => ?_)
    refine y_if_eq (tgt := 33) B hf dX10_hand_15 (by decide) (fun hf => ?_) (fun hf => ?_)
    · refine lv_ldc (v := -1000000000) B.1.1 B.1.2.1 B.1.2.2.1 (B.1.2.2.2.1 _ tw_1301) dX10_hand_33 ?_
      exact y_iret B hR hS hf dX10_hand_35
    · refine lv_iload_n B.1.1 B.1.2.1 dX10_hand_18 rfl (hl.at 1 rfl) ?_
      refine lv_iload_n B.1.1 B.1.2.1 dX10_hand_19 rfl (hl.at 2 rfl) ?_
      refine y_icmp_eq (tgt := 33) B hf dX10_hand_20 (by decide) (fun hf => ?_) (fun hf => ?_)
      · refine lv_ldc (v := -1000000000) B.1.1 B.1.2.1 B.1.2.2.1 (B.1.2.2.2.1 _ tw_1301) dX10_hand_33 ?_
        exact y_iret B hR hS hf dX10_hand_35
      · refine lv_iload_n B.1.1 B.1.2.1 dX10_hand_23 rfl (hl.at 3 rfl) ?_
        refine lv_iconst (v := 1) B.1.1 B.1.2.1 dX10_hand_24 (by decide) ?_
        refine lv_bipush (v := 100) B.1.1 B.1.2.1 dX10_hand_25 (by decide) ?_
        refine y_ci hf (fun q hq => y_runS B.1 B.2.2.2 hl hR hS cm_X10_81 ⟨rfl, rfl, Nat.le_of_ble_eq_true rfl, Nat.le_of_ble_eq_true rfl⟩ (c_X10_isIn hq) rfl rfl (Nat.le_of_ble_eq_true rfl) dX10_hand_27 ⟨Nat.le_of_ble_eq_true rfl, Nat.le_of_ble_eq_true rfl⟩) hS (fun r6 S5 H locs hf hR hS => ?_)
        refine y_if_ne (tgt := 36) B hf dX10_hand_30 (by decide) (fun hf => ?_) (fun hf => ?_)
        · refine lv_aload_n B.1.1 B.1.2.1 dX10_hand_36 rfl (hl.at 0 rfl) ?_
          refine y_cv hf (fun q hq => x_runV (ci := 10) (C := RX10) B.1 B.2.2.2 hl hR hS cm_X10_85 ⟨rfl, rfl, Nat.le_of_ble_eq_true rfl, Nat.le_of_ble_eq_true rfl⟩ (by decide) rfl k_p0 (c_X10_deed k_p0 hq) rfl rfl (Nat.le_of_ble_eq_true rfl) dX10_hand_37 ⟨Nat.le_of_ble_eq_true rfl, Nat.le_of_ble_eq_true rfl⟩) hS (fun S7 H locs hf hR hS => ?_)
          refine lv_aload_n B.1.1 B.1.2.1 dX10_hand_40 rfl (hl.at 0 rfl) ?_
          refine lv_iload_n B.1.1 B.1.2.1 dX10_hand_41 rfl (hl.at 2 rfl) ?_
          refine y_ci hf (fun q hq => x_runV (ci := 10) (C := RX10) B.1 B.2.2.2 hl hR hS cm_X10_203 ⟨rfl, rfl, Nat.le_of_ble_eq_true rfl, Nat.le_of_ble_eq_true rfl⟩ (by decide) rfl k_p0 (c_X10_isThere k_p0 hq) rfl rfl (Nat.le_of_ble_eq_true rfl) dX10_hand_42 ⟨Nat.le_of_ble_eq_true rfl, Nat.le_of_ble_eq_true rfl⟩) hS (fun r9 S8 H locs hf hR hS => ?_)
          refine y_if_ne (tgt := 53) B hf dX10_hand_45 (by decide) (fun hf => ?_) (fun hf => ?_)
          · exact w_X10_hand_53 B _ _ _ _ _ _ _ _ k_p0 hf hR hS hl
          · refine lv_aload_n B.1.1 B.1.2.1 dX10_hand_48 rfl (hl.at 0 rfl) ?_
            refine lv_iload_n B.1.1 B.1.2.1 dX10_hand_49 rfl (hl.at 2 rfl) ?_
            refine y_cv hf (fun q hq => x_runV (ci := 10) (C := RX10) B.1 B.2.2.2 hl hR hS cm_X10_377 ⟨rfl, rfl, Nat.le_of_ble_eq_true rfl, Nat.le_of_ble_eq_true rfl⟩ (by decide) rfl k_p0 (c_X10_arrives k_p0 hq) rfl rfl (Nat.le_of_ble_eq_true rfl) dX10_hand_50 ⟨Nat.le_of_ble_eq_true rfl, Nat.le_of_ble_eq_true rfl⟩) hS (fun S10 H locs hf hR hS => ?_)
            exact w_X10_hand_53 B _ _ _ _ _ _ _ _ k_p0 hf hR hS hl
        · refine lv_ldc (v := -1000000000) B.1.1 B.1.2.1 B.1.2.2.1 (B.1.2.2.2.1 _ tw_1301) dX10_hand_33 ?_
          exact y_iret B hR hS hf dX10_hand_35
abbrev xr_X10_closeAside : Room := { frames := 9, cells := 0, slots := 0, locals := 192 }
def f_X10_closeAside (T : xT) (S : xS) (p0 : Nat) (p1 : Int32) : Option (xS) := xcv (f_X10_copyRow T S p0 ((0 : Int32)) ((15 : Int32))) (fun S1 => xpi S1 p0 1 ((5490 : Int32)) (fun S2 => xcv (f_X10_earned T S2 p0 p1) (fun S3 => xcv (f_X10_closeYear T S3 p0) (fun S4 => some S4))))
set_option maxRecDepth 100000 in
set_option maxHeartbeats 4000000 in
theorem c_X10_closeAside {l : Launch} {z : Nat} {D : va_G} {dA : Nat → ClassId} {T : xT} {S : xS} {p0 : Nat} {p1 : Int32} (k_p0 : xlk T p0 10 = true) {q : xS} (hf : f_X10_closeAside T S p0 p1 = some q) : Met l yX10_closeAside (xws yX10_closeAside cX10_closeAside 2 none) xr_X10_closeAside (xPc z D dA T S [.ref (z + p0), .int p1]) (xQv z D dA T q) 0 0 (xA z) := by
  refine x_met RX10 (by decide) rfl (Nat.le_of_ble_eq_true rfl) ?_
  intro p e s m below meth c ls _ X hr hlk hml _ hR hS hl
  have B : xB p s m _ meth c cX10_closeAside RX10 2 none D dA := ⟨X, hr, hlk, hml⟩
  have hl : xL ls 2 [_, _] := hl
  unfold f_X10_closeAside at hf
  refine lv_aload_n B.1.1 B.1.2.1 dX10_closeAside_0 rfl (hl.at 0 rfl) ?_
  refine lv_iconst (v := 0) B.1.1 B.1.2.1 dX10_closeAside_1 (by decide) ?_
  refine lv_bipush (v := 15) B.1.1 B.1.2.1 dX10_closeAside_2 (by decide) ?_
  refine y_cv hf (fun q hq => x_runV (ci := 10) (C := RX10) B.1 B.2.2.2 hl hR hS cm_X10_78 ⟨rfl, rfl, Nat.le_of_ble_eq_true rfl, Nat.le_of_ble_eq_true rfl⟩ (by decide) rfl k_p0 (c_X10_copyRow k_p0 hq) rfl rfl (Nat.le_of_ble_eq_true rfl) dX10_closeAside_4 ⟨Nat.le_of_ble_eq_true rfl, Nat.le_of_ble_eq_true rfl⟩) hS (fun S1 H locs hf hR hS => ?_)
  refine lv_aload_n B.1.1 B.1.2.1 dX10_closeAside_7 rfl (hl.at 0 rfl) ?_
  refine lv_sipush (v := 5490) B.1.1 B.1.2.1 dX10_closeAside_8 (by decide) ?_
  refine y_putI B hR hS hf k_p0 fp_X10_7 dX10_closeAside_11 (fun S2 H locs hf hR hS => ?_)
  refine lv_aload_n B.1.1 B.1.2.1 dX10_closeAside_14 rfl (hl.at 0 rfl) ?_
  refine lv_iload_n B.1.1 B.1.2.1 dX10_closeAside_15 rfl (hl.at 1 rfl) ?_
  refine y_cv hf (fun q hq => x_runV (ci := 10) (C := RX10) B.1 B.2.2.2 hl hR hS cm_X10_371 ⟨rfl, rfl, Nat.le_of_ble_eq_true rfl, Nat.le_of_ble_eq_true rfl⟩ (by decide) rfl k_p0 (c_X10_earned k_p0 hq) rfl rfl (Nat.le_of_ble_eq_true rfl) dX10_closeAside_16 ⟨Nat.le_of_ble_eq_true rfl, Nat.le_of_ble_eq_true rfl⟩) hS (fun S3 H locs hf hR hS => ?_)
  refine lv_aload_n B.1.1 B.1.2.1 dX10_closeAside_19 rfl (hl.at 0 rfl) ?_
  refine y_cv hf (fun q hq => x_runV (ci := 10) (C := RX10) B.1 B.2.2.2 hl hR hS cm_X10_301 ⟨rfl, rfl, Nat.le_of_ble_eq_true rfl, Nat.le_of_ble_eq_true rfl⟩ (by decide) rfl k_p0 (c_X10_closeYear k_p0 hq) rfl rfl (Nat.le_of_ble_eq_true rfl) dX10_closeAside_20 ⟨Nat.le_of_ble_eq_true rfl, Nat.le_of_ble_eq_true rfl⟩) hS (fun S4 H locs hf hR hS => ?_)
  exact y_vret B hR hS hf dX10_closeAside_23
abbrev xr_X10_triedOf : Room := { frames := 10, cells := 0, slots := 0, locals := 213 }
def f_X10_triedOf (T : xT) (S : xS) (p0 : Nat) (p1 : Int32) (p2 : Int32) : Option (Int32 × xS) := xcv (f_X10_closeAside T S p0 p2) (fun S1 => xc (f_X10_get T S1 p0 (((5 : Int32) + p1))) (fun r3 S2 => xl r3 (fun v4 => xpi S2 p0 1 ((0 : Int32)) (fun S5 => some (v4, S5)))))
set_option maxRecDepth 100000 in
set_option maxHeartbeats 4000000 in
theorem c_X10_triedOf {l : Launch} {z : Nat} {D : va_G} {dA : Nat → ClassId} {T : xT} {S : xS} {p0 : Nat} {p1 : Int32} {p2 : Int32} (k_p0 : xlk T p0 10 = true) {q : Int32 × xS} (hf : f_X10_triedOf T S p0 p1 p2 = some q) : Met l yX10_triedOf (xws yX10_triedOf cX10_triedOf 4 (some .int)) xr_X10_triedOf (xPc z D dA T S [.ref (z + p0), .int p1, .int p2]) (xQi z D dA T q) 0 0 (xA z) := by
  refine x_met RX10 (by decide) rfl (Nat.le_of_ble_eq_true rfl) ?_
  intro p e s m below meth c ls _ X hr hlk hml _ hR hS hl
  have B : xB p s m _ meth c cX10_triedOf RX10 4 (some .int) D dA := ⟨X, hr, hlk, hml⟩
  have hl : xL ls 4 [_, _, _, _] := hl
  unfold f_X10_triedOf at hf
  refine lv_aload_n B.1.1 B.1.2.1 dX10_triedOf_0 rfl (hl.at 0 rfl) ?_
  refine lv_iload_n B.1.1 B.1.2.1 dX10_triedOf_1 rfl (hl.at 2 rfl) ?_
  refine y_cv hf (fun q hq => x_runV (ci := 10) (C := RX10) B.1 B.2.2.2 hl hR hS cm_X10_386 ⟨rfl, rfl, Nat.le_of_ble_eq_true rfl, Nat.le_of_ble_eq_true rfl⟩ (by decide) rfl k_p0 (c_X10_closeAside k_p0 hq) rfl rfl (Nat.le_of_ble_eq_true rfl) dX10_triedOf_2 ⟨Nat.le_of_ble_eq_true rfl, Nat.le_of_ble_eq_true rfl⟩) hS (fun S1 H locs hf hR hS => ?_)
  refine lv_aload_n B.1.1 B.1.2.1 dX10_triedOf_5 rfl (hl.at 0 rfl) ?_
  refine lv_iconst (v := 5) B.1.1 B.1.2.1 dX10_triedOf_6 (by decide) ?_
  refine lv_iload_n B.1.1 B.1.2.1 dX10_triedOf_7 rfl (hl.at 1 rfl) ?_
  refine lv_iadd B.1.1 B.1.2.1 dX10_triedOf_8 ?_
  refine y_ci hf (fun q hq => x_runV (ci := 10) (C := RX10) B.1 B.2.2.2 hl hR hS cm_X10_193 ⟨rfl, rfl, Nat.le_of_ble_eq_true rfl, Nat.le_of_ble_eq_true rfl⟩ (by decide) rfl k_p0 (c_X10_get k_p0 hq) rfl rfl (Nat.le_of_ble_eq_true rfl) dX10_triedOf_9 ⟨Nat.le_of_ble_eq_true rfl, Nat.le_of_ble_eq_true rfl⟩) hS (fun r3 S2 H locs hf hR hS => ?_)
  refine y_istore_n B hl hf dX10_triedOf_12 rfl (by decide) rfl (fun v4 ls hf hl => ?_)
  have hl : xL ls 4 [_, _, _, _] := hl
  refine lv_aload_n B.1.1 B.1.2.1 dX10_triedOf_13 rfl (hl.at 0 rfl) ?_
  refine lv_iconst (v := 0) B.1.1 B.1.2.1 dX10_triedOf_14 (by decide) ?_
  refine y_putI B hR hS hf k_p0 fp_X10_7 dX10_triedOf_15 (fun S5 H locs hf hR hS => ?_)
  refine lv_iload_n B.1.1 B.1.2.1 dX10_triedOf_18 rfl (hl.at 3 rfl) ?_
  exact y_iret B hR hS hf dX10_triedOf_19
abbrev xr_X10_tried : Room := { frames := 11, cells := 0, slots := 0, locals := 236 }
def f_X10_tried (T : xT) (S : xS) (p0 : Nat) (p1 : Int32) (p2 : Int32) : Option (Int32 × xS) := xc (f_X10_isThere T S p0 p1) (fun r2 S1 => if r2 = (0 : Int32) then some ((-1000000000 : Int32), S1) else xc (f_X10_isIn T S1 p2 ((-1000000 : Int32)) ((1000000 : Int32))) (fun r4 S3 => if r4 = (0 : Int32) then some ((-1000000000 : Int32), S3) else xc (f_X10_triedOf T S3 p0 p1 p2) (fun r6 S5 => some (r6, S5))))
set_option maxRecDepth 100000 in
set_option maxHeartbeats 4000000 in
theorem c_X10_tried {l : Launch} {z : Nat} {D : va_G} {dA : Nat → ClassId} {T : xT} {S : xS} {p0 : Nat} {p1 : Int32} {p2 : Int32} (k_p0 : xlk T p0 10 = true) {q : Int32 × xS} (hf : f_X10_tried T S p0 p1 p2 = some q) : Met l yX10_tried (xws yX10_tried cX10_tried 3 (some .int)) xr_X10_tried (xPc z D dA T S [.ref (z + p0), .int p1, .int p2]) (xQi z D dA T q) 0 0 (xA z) := by
  refine x_met RX10 (by decide) rfl (Nat.le_of_ble_eq_true rfl) ?_
  intro p e s m below meth c ls _ X hr hlk hml _ hR hS hl
  have B : xB p s m _ meth c cX10_tried RX10 3 (some .int) D dA := ⟨X, hr, hlk, hml⟩
  have hl : xL ls 3 [_, _, _] := hl
  unfold f_X10_tried at hf
  refine lv_aload_n B.1.1 B.1.2.1 dX10_tried_0 rfl (hl.at 0 rfl) ?_
  refine lv_iload_n B.1.1 B.1.2.1 dX10_tried_1 rfl (hl.at 1 rfl) ?_
  refine y_ci hf (fun q hq => x_runV (ci := 10) (C := RX10) B.1 B.2.2.2 hl hR hS cm_X10_203 ⟨rfl, rfl, Nat.le_of_ble_eq_true rfl, Nat.le_of_ble_eq_true rfl⟩ (by decide) rfl k_p0 (c_X10_isThere k_p0 hq) rfl rfl (Nat.le_of_ble_eq_true rfl) dX10_tried_2 ⟨Nat.le_of_ble_eq_true rfl, Nat.le_of_ble_eq_true rfl⟩) hS (fun r2 S1 H locs hf hR hS => ?_)
  refine y_if_eq (tgt := 29) B hf dX10_tried_5 (by decide) (fun hf => ?_) (fun hf => ?_)
  · refine lv_ldc (v := -1000000000) B.1.1 B.1.2.1 B.1.2.2.1 (B.1.2.2.2.1 _ tw_1301) dX10_tried_29 ?_
    exact y_iret B hR hS hf dX10_tried_31
  · refine lv_iload_n B.1.1 B.1.2.1 dX10_tried_8 rfl (hl.at 2 rfl) ?_
    refine lv_ldcw (v := -1000000) B.1.1 B.1.2.1 B.1.2.2.1 (B.1.2.2.2.1 _ tw_1574) dX10_tried_9 ?_
    refine lv_ldc (v := 1000000) B.1.1 B.1.2.1 B.1.2.2.1 (B.1.2.2.2.1 _ tw_1240) dX10_tried_12 ?_
    refine y_ci hf (fun q hq => y_runS B.1 B.2.2.2 hl hR hS cm_X10_81 ⟨rfl, rfl, Nat.le_of_ble_eq_true rfl, Nat.le_of_ble_eq_true rfl⟩ (c_X10_isIn hq) rfl rfl (Nat.le_of_ble_eq_true rfl) dX10_tried_14 ⟨Nat.le_of_ble_eq_true rfl, Nat.le_of_ble_eq_true rfl⟩) hS (fun r4 S3 H locs hf hR hS => ?_)
    refine y_if_eq (tgt := 29) B hf dX10_tried_17 (by decide) (fun hf => ?_) (fun hf => ?_)
    · refine lv_ldc (v := -1000000000) B.1.1 B.1.2.1 B.1.2.2.1 (B.1.2.2.2.1 _ tw_1301) dX10_tried_29 ?_
      exact y_iret B hR hS hf dX10_tried_31
    · refine lv_aload_n B.1.1 B.1.2.1 dX10_tried_20 rfl (hl.at 0 rfl) ?_
      refine lv_iload_n B.1.1 B.1.2.1 dX10_tried_21 rfl (hl.at 1 rfl) ?_
      refine lv_iload_n B.1.1 B.1.2.1 dX10_tried_22 rfl (hl.at 2 rfl) ?_
      refine y_ci hf (fun q hq => x_runV (ci := 10) (C := RX10) B.1 B.2.2.2 hl hR hS cm_X10_389 ⟨rfl, rfl, Nat.le_of_ble_eq_true rfl, Nat.le_of_ble_eq_true rfl⟩ (by decide) rfl k_p0 (c_X10_triedOf k_p0 hq) rfl rfl (Nat.le_of_ble_eq_true rfl) dX10_tried_23 ⟨Nat.le_of_ble_eq_true rfl, Nat.le_of_ble_eq_true rfl⟩) hS (fun r6 S5 H locs hf hR hS => ?_)
      refine lv_goto (tgt := 31) B.1.1 B.1.2.1 dX10_tried_26 (by decide) ?_
      exact y_iret B hR hS hf dX10_tried_31
abbrev xr_X10_even : Room := { frames := 11, cells := 0, slots := 0, locals := 236 }
def f_X10_even_24 (T : xT) : Nat → xS → Nat → Int32 → Int32 → Int32 → Int32 → Option (Int32 × xS)
  | 0, _, _, _, _, _, _ => none
  | n + 1, S, p0, p1, p2, p3, p4 => if p3 < p4 then some ((-1 : Int32), S) else xc (f_X10_triedOf T S p0 p1 p4) (fun r2 S1 => if r2 < p2 then xl (p4 + (1 : Int32)) (fun v3 => f_X10_even_24 T n S1 p0 p1 p2 p3 v3) else some (p4, S1))
set_option maxRecDepth 100000 in
set_option maxHeartbeats 4000000 in
theorem w_X10_even_24 {p : Program} {l : Launch} {e : Env} {s : State} {m : MethodId} {args : Array Value} {below : List Frame} {meth : Method} {c : Code} {z : Nat} {D : va_G} {dA : Nat → ClassId} {T : xT} (B : xB p s m args meth c cX10_even RX10 5 (some .int) D dA) {q : Int32 × xS} : ∀ (n : Nat), ∀ (S : xS) (H : Heap) (locs : List Loc) (ls : Array Slot) (p0 : Nat) (p1 : Int32) (p2 : Int32) (p3 : Int32) (p4 : Int32), xlk T p0 10 = true → f_X10_even_24 T n S p0 p1 p2 p3 p4 = some q → xRel z D dA T S H → va_S (xA z) s.heap H locs → xL ls 5 [some (.ref (z + p0)), some (.int p1), some (.int p2), some (.int p3), some (.int p4)] → xGi p l e xr_X10_even s m args below meth c z D dA T q H locs 24 ls [] := by
  intro n
  induction n with
  | zero =>
    intro S H locs ls p0 p1 p2 p3 p4 k_p0 hf hR hS hl
    exact absurd hf (by simp [f_X10_even_24])
  | succ n ih =>
    intro S H locs ls p0 p1 p2 p3 p4 k_p0 hf hR hS hl
    unfold f_X10_even_24 at hf
    refine lv_iload B.1.1 B.1.2.1 dX10_even_24 (hl.at 4 rfl) ?_
    refine lv_iload_n B.1.1 B.1.2.1 dX10_even_26 rfl (hl.at 3 rfl) ?_
    refine y_icmp_gt (tgt := 50) B hf dX10_even_27 (by decide) (fun hf => ?_) (fun hf => ?_)
    · refine lv_iconst (v := -1) B.1.1 B.1.2.1 dX10_even_50 (by decide) ?_
      exact y_iret B hR hS hf dX10_even_51
    · refine lv_aload_n B.1.1 B.1.2.1 dX10_even_30 rfl (hl.at 0 rfl) ?_
      refine lv_iload_n B.1.1 B.1.2.1 dX10_even_31 rfl (hl.at 1 rfl) ?_
      refine lv_iload B.1.1 B.1.2.1 dX10_even_32 (hl.at 4 rfl) ?_
      refine y_ci hf (fun q hq => x_runV (ci := 10) (C := RX10) B.1 B.2.2.2 hl hR hS cm_X10_389 ⟨rfl, rfl, Nat.le_of_ble_eq_true rfl, Nat.le_of_ble_eq_true rfl⟩ (by decide) rfl k_p0 (c_X10_triedOf k_p0 hq) rfl rfl (Nat.le_of_ble_eq_true rfl) dX10_even_34 ⟨Nat.le_of_ble_eq_true rfl, Nat.le_of_ble_eq_true rfl⟩) hS (fun r2 S1 H locs hf hR hS => ?_)
      refine lv_iload_n B.1.1 B.1.2.1 dX10_even_37 rfl (hl.at 2 rfl) ?_
      refine y_icmp_lt (tgt := 44) B hf dX10_even_38 (by decide) (fun hf => ?_) (fun hf => ?_)
      · refine y_iinc (d := 1) B hl hf dX10_even_44 rfl (by decide) (by decide) rfl (fun v3 ls hf hl => ?_)
        have hl : xL ls 5 [_, _, _, _, _] := hl
        refine lv_goto (tgt := 24) B.1.1 B.1.2.1 dX10_even_47 (by decide) ?_
        exact ih _ _ _ _ _ _ _ _ _ k_p0 hf hR hS hl
      · refine lv_iload B.1.1 B.1.2.1 dX10_even_41 (hl.at 4 rfl) ?_
        exact y_iret B hR hS hf dX10_even_43
def f_X10_even (T : xT) (S : xS) (p0 : Nat) (p1 : Int32) (p2 : Int32) (p3 : Int32) : Option (Int32 × xS) := xc (f_X10_isThere T S p0 p1) (fun r2 S1 => if r2 = (0 : Int32) then some ((-1 : Int32), S1) else xc (f_X10_isIn T S1 p3 ((0 : Int32)) ((200 : Int32))) (fun r4 S3 => if r4 = (0 : Int32) then some ((-1 : Int32), S3) else xl ((0 : Int32)) (fun v5 => f_X10_even_24 T xfu S3 p0 p1 p2 p3 v5)))
set_option maxRecDepth 100000 in
set_option maxHeartbeats 4000000 in
theorem c_X10_even {l : Launch} {z : Nat} {D : va_G} {dA : Nat → ClassId} {T : xT} {S : xS} {p0 : Nat} {p1 : Int32} {p2 : Int32} {p3 : Int32} (k_p0 : xlk T p0 10 = true) {q : Int32 × xS} (hf : f_X10_even T S p0 p1 p2 p3 = some q) : Met l yX10_even (xws yX10_even cX10_even 5 (some .int)) xr_X10_even (xPc z D dA T S [.ref (z + p0), .int p1, .int p2, .int p3]) (xQi z D dA T q) 0 0 (xA z) := by
  refine x_met RX10 (by decide) rfl (Nat.le_of_ble_eq_true rfl) ?_
  intro p e s m below meth c ls _ X hr hlk hml _ hR hS hl
  have B : xB p s m _ meth c cX10_even RX10 5 (some .int) D dA := ⟨X, hr, hlk, hml⟩
  have hl : xL ls 5 [_, _, _, _, _] := hl
  unfold f_X10_even at hf
  refine lv_aload_n B.1.1 B.1.2.1 dX10_even_0 rfl (hl.at 0 rfl) ?_
  refine lv_iload_n B.1.1 B.1.2.1 dX10_even_1 rfl (hl.at 1 rfl) ?_
  refine y_ci hf (fun q hq => x_runV (ci := 10) (C := RX10) B.1 B.2.2.2 hl hR hS cm_X10_203 ⟨rfl, rfl, Nat.le_of_ble_eq_true rfl, Nat.le_of_ble_eq_true rfl⟩ (by decide) rfl k_p0 (c_X10_isThere k_p0 hq) rfl rfl (Nat.le_of_ble_eq_true rfl) dX10_even_2 ⟨Nat.le_of_ble_eq_true rfl, Nat.le_of_ble_eq_true rfl⟩) hS (fun r2 S1 H locs hf hR hS => ?_)
  refine y_if_eq (tgt := 19) B hf dX10_even_5 (by decide) (fun hf => ?_) (fun hf => ?_)
  · refine lv_iconst (v := -1) B.1.1 B.1.2.1 dX10_even_19 (by decide) ?_
    exact y_iret B hR hS hf dX10_even_20
  · refine lv_iload_n B.1.1 B.1.2.1 dX10_even_8 rfl (hl.at 3 rfl) ?_
    refine lv_iconst (v := 0) B.1.1 B.1.2.1 dX10_even_9 (by decide) ?_
    refine lv_sipush (v := 200) B.1.1 B.1.2.1 dX10_even_10 (by decide) ?_
    refine y_ci hf (fun q hq => y_runS B.1 B.2.2.2 hl hR hS cm_X10_81 ⟨rfl, rfl, Nat.le_of_ble_eq_true rfl, Nat.le_of_ble_eq_true rfl⟩ (c_X10_isIn hq) rfl rfl (Nat.le_of_ble_eq_true rfl) dX10_even_13 ⟨Nat.le_of_ble_eq_true rfl, Nat.le_of_ble_eq_true rfl⟩) hS (fun r4 S3 H locs hf hR hS => ?_)
    refine y_if_ne (tgt := 21) B hf dX10_even_16 (by decide) (fun hf => ?_) (fun hf => ?_)
    · refine lv_iconst (v := 0) B.1.1 B.1.2.1 dX10_even_21 (by decide) ?_
      refine y_istore B hl hf dX10_even_22 (by decide) rfl (fun v5 ls hf hl => ?_)
      have hl : xL ls 5 [_, _, _, _, _] := hl
      exact w_X10_even_24 B xfu _ _ _ _ _ _ _ _ _ k_p0 hf hR hS hl
    · refine lv_iconst (v := -1) B.1.1 B.1.2.1 dX10_even_19 (by decide) ?_
      exact y_iret B hR hS hf dX10_even_20
abbrev xr_X10_years : Room := { frames := 9, cells := 0, slots := 0, locals := 192 }
def f_X10_years_50 (T : xT) : Nat → xS → Nat → Int32 → Int32 → Int32 → Int32 → Option (Int32 × xS)
  | 0, _, _, _, _, _, _ => none
  | n + 1, S, p0, p1, p2, p3, p4 => if p3 ≤ p4 then xc (f_X10_get T S p0 (((5 : Int32) + p1))) (fun r2 S1 => xl r2 (fun v3 => xpi S1 p0 1 ((0 : Int32)) (fun S4 => some (v3, S4)))) else xcv (f_X10_earned T S p0 p2) (fun S5 => xcv (f_X10_closeYear T S5 p0) (fun S6 => xl (p4 + (1 : Int32)) (fun v7 => f_X10_years_50 T n S6 p0 p1 p2 p3 v7)))
set_option maxRecDepth 100000 in
set_option maxHeartbeats 4000000 in
theorem w_X10_years_50 {p : Program} {l : Launch} {e : Env} {s : State} {m : MethodId} {args : Array Value} {below : List Frame} {meth : Method} {c : Code} {z : Nat} {D : va_G} {dA : Nat → ClassId} {T : xT} (B : xB p s m args meth c cX10_years RX10 5 (some .int) D dA) {q : Int32 × xS} : ∀ (n : Nat), ∀ (S : xS) (H : Heap) (locs : List Loc) (ls : Array Slot) (p0 : Nat) (p1 : Int32) (p2 : Int32) (p3 : Int32) (p4 : Int32), xlk T p0 10 = true → f_X10_years_50 T n S p0 p1 p2 p3 p4 = some q → xRel z D dA T S H → va_S (xA z) s.heap H locs → xL ls 5 [some (.ref (z + p0)), some (.int p1), some (.int p2), some (.int p3), some (.int p4)] → xGi p l e xr_X10_years s m args below meth c z D dA T q H locs 50 ls [] := by
  intro n
  induction n with
  | zero =>
    intro S H locs ls p0 p1 p2 p3 p4 k_p0 hf hR hS hl
    exact absurd hf (by simp [f_X10_years_50])
  | succ n ih =>
    intro S H locs ls p0 p1 p2 p3 p4 k_p0 hf hR hS hl
    unfold f_X10_years_50 at hf
    refine lv_iload B.1.1 B.1.2.1 dX10_years_50 (hl.at 4 rfl) ?_
    refine lv_iload_n B.1.1 B.1.2.1 dX10_years_52 rfl (hl.at 3 rfl) ?_
    refine y_icmp_ge (tgt := 71) B hf dX10_years_53 (by decide) (fun hf => ?_) (fun hf => ?_)
    · refine lv_aload_n B.1.1 B.1.2.1 dX10_years_71 rfl (hl.at 0 rfl) ?_
      refine lv_iconst (v := 5) B.1.1 B.1.2.1 dX10_years_72 (by decide) ?_
      refine lv_iload_n B.1.1 B.1.2.1 dX10_years_73 rfl (hl.at 1 rfl) ?_
      refine lv_iadd B.1.1 B.1.2.1 dX10_years_74 ?_
      refine y_ci hf (fun q hq => x_runV (ci := 10) (C := RX10) B.1 B.2.2.2 hl hR hS cm_X10_193 ⟨rfl, rfl, Nat.le_of_ble_eq_true rfl, Nat.le_of_ble_eq_true rfl⟩ (by decide) rfl k_p0 (c_X10_get k_p0 hq) rfl rfl (Nat.le_of_ble_eq_true rfl) dX10_years_75 ⟨Nat.le_of_ble_eq_true rfl, Nat.le_of_ble_eq_true rfl⟩) hS (fun r2 S1 H locs hf hR hS => ?_)
      refine y_istore B hl hf dX10_years_78 (by decide) rfl (fun v3 ls hf hl => ?_)
      have hl : xL ls 5 [_, _, _, _, _] := hl
      refine lv_aload_n B.1.1 B.1.2.1 dX10_years_80 rfl (hl.at 0 rfl) ?_
      refine lv_iconst (v := 0) B.1.1 B.1.2.1 dX10_years_81 (by decide) ?_
      refine y_putI B hR hS hf k_p0 fp_X10_7 dX10_years_82 (fun S4 H locs hf hR hS => ?_)
      refine lv_iload B.1.1 B.1.2.1 dX10_years_85 (hl.at 4 rfl) ?_
      exact y_iret B hR hS hf dX10_years_87
    · refine lv_aload_n B.1.1 B.1.2.1 dX10_years_56 rfl (hl.at 0 rfl) ?_
      refine lv_iload_n B.1.1 B.1.2.1 dX10_years_57 rfl (hl.at 2 rfl) ?_
      refine y_cv hf (fun q hq => x_runV (ci := 10) (C := RX10) B.1 B.2.2.2 hl hR hS cm_X10_371 ⟨rfl, rfl, Nat.le_of_ble_eq_true rfl, Nat.le_of_ble_eq_true rfl⟩ (by decide) rfl k_p0 (c_X10_earned k_p0 hq) rfl rfl (Nat.le_of_ble_eq_true rfl) dX10_years_58 ⟨Nat.le_of_ble_eq_true rfl, Nat.le_of_ble_eq_true rfl⟩) hS (fun S5 H locs hf hR hS => ?_)
      refine lv_aload_n B.1.1 B.1.2.1 dX10_years_61 rfl (hl.at 0 rfl) ?_
      refine y_cv hf (fun q hq => x_runV (ci := 10) (C := RX10) B.1 B.2.2.2 hl hR hS cm_X10_301 ⟨rfl, rfl, Nat.le_of_ble_eq_true rfl, Nat.le_of_ble_eq_true rfl⟩ (by decide) rfl k_p0 (c_X10_closeYear k_p0 hq) rfl rfl (Nat.le_of_ble_eq_true rfl) dX10_years_62 ⟨Nat.le_of_ble_eq_true rfl, Nat.le_of_ble_eq_true rfl⟩) hS (fun S6 H locs hf hR hS => ?_)
      refine y_iinc (d := 1) B hl hf dX10_years_65 rfl (by decide) (by decide) rfl (fun v7 ls hf hl => ?_)
      have hl : xL ls 5 [_, _, _, _, _] := hl
      refine lv_goto (tgt := 50) B.1.1 B.1.2.1 dX10_years_68 (by decide) ?_
      exact ih _ _ _ _ _ _ _ _ _ k_p0 hf hR hS hl
def f_X10_years (T : xT) (S : xS) (p0 : Nat) (p1 : Int32) (p2 : Int32) (p3 : Int32) : Option (Int32 × xS) := xc (f_X10_isThere T S p0 p1) (fun r2 S1 => if r2 = (0 : Int32) then some ((-1000000000 : Int32), S1) else xc (f_X10_isIn T S1 p2 ((-1000000 : Int32)) ((1000000 : Int32))) (fun r4 S3 => if r4 = (0 : Int32) then some ((-1000000000 : Int32), S3) else xc (f_X10_isIn T S3 p3 ((1 : Int32)) ((20 : Int32))) (fun r6 S5 => if r6 = (0 : Int32) then some ((-1000000000 : Int32), S5) else xcv (f_X10_copyRow T S5 p0 ((0 : Int32)) ((15 : Int32))) (fun S7 => xpi S7 p0 1 ((5490 : Int32)) (fun S8 => xl ((0 : Int32)) (fun v9 => f_X10_years_50 T xfu S8 p0 p1 p2 p3 v9))))))
set_option maxRecDepth 100000 in
set_option maxHeartbeats 4000000 in
theorem c_X10_years {l : Launch} {z : Nat} {D : va_G} {dA : Nat → ClassId} {T : xT} {S : xS} {p0 : Nat} {p1 : Int32} {p2 : Int32} {p3 : Int32} (k_p0 : xlk T p0 10 = true) {q : Int32 × xS} (hf : f_X10_years T S p0 p1 p2 p3 = some q) : Met l yX10_years (xws yX10_years cX10_years 5 (some .int)) xr_X10_years (xPc z D dA T S [.ref (z + p0), .int p1, .int p2, .int p3]) (xQi z D dA T q) 0 0 (xA z) := by
  refine x_met RX10 (by decide) rfl (Nat.le_of_ble_eq_true rfl) ?_
  intro p e s m below meth c ls _ X hr hlk hml _ hR hS hl
  have B : xB p s m _ meth c cX10_years RX10 5 (some .int) D dA := ⟨X, hr, hlk, hml⟩
  have hl : xL ls 5 [_, _, _, _, _] := hl
  unfold f_X10_years at hf
  refine lv_aload_n B.1.1 B.1.2.1 dX10_years_0 rfl (hl.at 0 rfl) ?_
  refine lv_iload_n B.1.1 B.1.2.1 dX10_years_1 rfl (hl.at 1 rfl) ?_
  refine y_ci hf (fun q hq => x_runV (ci := 10) (C := RX10) B.1 B.2.2.2 hl hR hS cm_X10_203 ⟨rfl, rfl, Nat.le_of_ble_eq_true rfl, Nat.le_of_ble_eq_true rfl⟩ (by decide) rfl k_p0 (c_X10_isThere k_p0 hq) rfl rfl (Nat.le_of_ble_eq_true rfl) dX10_years_2 ⟨Nat.le_of_ble_eq_true rfl, Nat.le_of_ble_eq_true rfl⟩) hS (fun r2 S1 H locs hf hR hS => ?_)
  refine y_if_eq (tgt := 30) B hf dX10_years_5 (by decide) (fun hf => ?_) (fun hf => ?_)
  · refine lv_ldc (v := -1000000000) B.1.1 B.1.2.1 B.1.2.2.1 (B.1.2.2.2.1 _ tw_1301) dX10_years_30 ?_
    exact y_iret B hR hS hf dX10_years_32
  · refine lv_iload_n B.1.1 B.1.2.1 dX10_years_8 rfl (hl.at 2 rfl) ?_
    refine lv_ldcw (v := -1000000) B.1.1 B.1.2.1 B.1.2.2.1 (B.1.2.2.2.1 _ tw_1574) dX10_years_9 ?_
    refine lv_ldc (v := 1000000) B.1.1 B.1.2.1 B.1.2.2.1 (B.1.2.2.2.1 _ tw_1240) dX10_years_12 ?_
    refine y_ci hf (fun q hq => y_runS B.1 B.2.2.2 hl hR hS cm_X10_81 ⟨rfl, rfl, Nat.le_of_ble_eq_true rfl, Nat.le_of_ble_eq_true rfl⟩ (c_X10_isIn hq) rfl rfl (Nat.le_of_ble_eq_true rfl) dX10_years_14 ⟨Nat.le_of_ble_eq_true rfl, Nat.le_of_ble_eq_true rfl⟩) hS (fun r4 S3 H locs hf hR hS => ?_)
    refine y_if_eq (tgt := 30) B hf dX10_years_17 (by decide) (fun hf => ?_) (fun hf => ?_)
    · refine lv_ldc (v := -1000000000) B.1.1 B.1.2.1 B.1.2.2.1 (B.1.2.2.2.1 _ tw_1301) dX10_years_30 ?_
      exact y_iret B hR hS hf dX10_years_32
    · refine lv_iload_n B.1.1 B.1.2.1 dX10_years_20 rfl (hl.at 3 rfl) ?_
      refine lv_iconst (v := 1) B.1.1 B.1.2.1 dX10_years_21 (by decide) ?_
      refine lv_bipush (v := 20) B.1.1 B.1.2.1 dX10_years_22 (by decide) ?_
      refine y_ci hf (fun q hq => y_runS B.1 B.2.2.2 hl hR hS cm_X10_81 ⟨rfl, rfl, Nat.le_of_ble_eq_true rfl, Nat.le_of_ble_eq_true rfl⟩ (c_X10_isIn hq) rfl rfl (Nat.le_of_ble_eq_true rfl) dX10_years_24 ⟨Nat.le_of_ble_eq_true rfl, Nat.le_of_ble_eq_true rfl⟩) hS (fun r6 S5 H locs hf hR hS => ?_)
      refine y_if_ne (tgt := 33) B hf dX10_years_27 (by decide) (fun hf => ?_) (fun hf => ?_)
      · refine lv_aload_n B.1.1 B.1.2.1 dX10_years_33 rfl (hl.at 0 rfl) ?_
        refine lv_iconst (v := 0) B.1.1 B.1.2.1 dX10_years_34 (by decide) ?_
        refine lv_bipush (v := 15) B.1.1 B.1.2.1 dX10_years_35 (by decide) ?_
        refine y_cv hf (fun q hq => x_runV (ci := 10) (C := RX10) B.1 B.2.2.2 hl hR hS cm_X10_78 ⟨rfl, rfl, Nat.le_of_ble_eq_true rfl, Nat.le_of_ble_eq_true rfl⟩ (by decide) rfl k_p0 (c_X10_copyRow k_p0 hq) rfl rfl (Nat.le_of_ble_eq_true rfl) dX10_years_37 ⟨Nat.le_of_ble_eq_true rfl, Nat.le_of_ble_eq_true rfl⟩) hS (fun S7 H locs hf hR hS => ?_)
        refine lv_aload_n B.1.1 B.1.2.1 dX10_years_40 rfl (hl.at 0 rfl) ?_
        refine lv_sipush (v := 5490) B.1.1 B.1.2.1 dX10_years_41 (by decide) ?_
        refine y_putI B hR hS hf k_p0 fp_X10_7 dX10_years_44 (fun S8 H locs hf hR hS => ?_)
        refine lv_iconst (v := 0) B.1.1 B.1.2.1 dX10_years_47 (by decide) ?_
        refine y_istore B hl hf dX10_years_48 (by decide) rfl (fun v9 ls hf hl => ?_)
        have hl : xL ls 5 [_, _, _, _, _] := hl
        exact w_X10_years_50 B xfu _ _ _ _ _ _ _ _ _ k_p0 hf hR hS hl
      · refine lv_ldc (v := -1000000000) B.1.1 B.1.2.1 B.1.2.2.1 (B.1.2.2.2.1 _ tw_1301) dX10_years_30 ?_
        exact y_iret B hR hS hf dX10_years_32
