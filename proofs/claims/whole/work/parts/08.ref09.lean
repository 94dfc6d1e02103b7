abbrev xr_X10_readSum : Room := { frames := 9, cells := 0, slots := 0, locals := 190 }
def f_X10_readSum_27 (T : xT) (rec_9 : xS → Nat → Option (Int32 × xS)) (S : xS) (p0 : Nat) : Option (Int32 × xS) := xl ((S.1 p0 8)) (fun v1 => xcv (f_X10_nextToken T S p0) (fun S2 => xc (f_X10_readProduct T S2 p0) (fun r4 S3 => if r4 = (0 : Int32) then some ((0 : Int32), S3) else xcv (f_X10_does T S3 p0 (((3000000 : Int32) + v1))) (fun S5 => rec_9 S5 p0))))
set_option maxRecDepth 100000 in
set_option maxHeartbeats 4000000 in
theorem w_X10_readSum_27 {p : Program} {l : Launch} {e : Env} {s : State} {m : MethodId} {args : Array Value} {below : List Frame} {meth : Method} {c : Code} {z : Nat} {D : va_G} {dA : Nat → ClassId} {T : xT} (B : xB p s m args meth c cX10_readSum RX10 2 (some .boolean) D dA) {q : Int32 × xS} {rec_9 : xS → Nat → Option (Int32 × xS)} (hrec_9 : ∀ (S : xS) (H : Heap) (locs : List Loc) (ls : Array Slot) (p0 : Nat), xlk T p0 10 = true → rec_9 S p0 = some q → xRel z D dA T S H → va_S (xA z) s.heap H locs → xL ls 2 [some (.ref (z + p0)), none] → xGi p l e xr_X10_readSum s m args below meth c z D dA T q H locs 9 ls []) : ∀ (S : xS) (H : Heap) (locs : List Loc) (ls : Array Slot) (p0 : Nat), xlk T p0 10 = true → f_X10_readSum_27 T rec_9 S p0 = some q → xRel z D dA T S H → va_S (xA z) s.heap H locs → xL ls 2 [some (.ref (z + p0)), none] → xGi p l e xr_X10_readSum s m args below meth c z D dA T q H locs 27 ls [] := by
  intro S H locs ls p0 k_p0 hf hR hS hl
  unfold f_X10_readSum_27 at hf
  refine lv_aload_n B.1.1 B.1.2.1 dX10_readSum_27 rfl (hl.at 0 rfl) ?_
  refine y_getI B hR k_p0 fl_X10_129 dX10_readSum_28 ?_
  refine y_istore_n B hl hf dX10_readSum_31 rfl (by decide) rfl (fun v1 ls hf hl => ?_)
  have hl : xL ls 2 [_, _] := hl
  refine lv_aload_n B.1.1 B.1.2.1 dX10_readSum_32 rfl (hl.at 0 rfl) ?_
  refine y_cv hf (fun q hq => x_runV (ci := 10) (C := RX10) B.1 B.2.2.2 hl hR hS cm_X10_147 ⟨rfl, rfl, Nat.le_of_ble_eq_true rfl, Nat.le_of_ble_eq_true rfl⟩ (by decide) rfl k_p0 (c_X10_nextToken k_p0 hq) rfl rfl (Nat.le_of_ble_eq_true rfl) dX10_readSum_33 ⟨Nat.le_of_ble_eq_true rfl, Nat.le_of_ble_eq_true rfl⟩) hS (fun S2 H locs hf hR hS => ?_)
  refine lv_aload_n B.1.1 B.1.2.1 dX10_readSum_36 rfl (hl.at 0 rfl) ?_
  refine y_ci hf (fun q hq => x_runV (ci := 10) (C := RX10) B.1 B.2.2.2 hl hR hS cm_X10_331 ⟨rfl, rfl, Nat.le_of_ble_eq_true rfl, Nat.le_of_ble_eq_true rfl⟩ (by decide) rfl k_p0 (c_X10_readProduct k_p0 hq) rfl rfl (Nat.le_of_ble_eq_true rfl) dX10_readSum_37 ⟨Nat.le_of_ble_eq_true rfl, Nat.le_of_ble_eq_true rfl⟩) hS (fun r4 S3 H locs hf hR hS => ?_)
  refine y_if_ne (tgt := 45) B hf dX10_readSum_40 (by decide) (fun hf => ?_) (fun hf => ?_)
  · refine lv_aload_n B.1.1 B.1.2.1 dX10_readSum_45 rfl (hl.at 0 rfl) ?_
    refine lv_ldcw (v := 3000000) B.1.1 B.1.2.1 B.1.2.2.1 (B.1.2.2.2.1 _ tw_1437) dX10_readSum_46 ?_
    refine lv_iload_n B.1.1 B.1.2.1 dX10_readSum_49 rfl (hl.at 1 rfl) ?_
    refine lv_iadd B.1.1 B.1.2.1 dX10_readSum_50 ?_
    refine y_cv hf (fun q hq => x_runV (ci := 10) (C := RX10) B.1 B.2.2.2 hl hR hS cm_X10_320 ⟨rfl, rfl, Nat.le_of_ble_eq_true rfl, Nat.le_of_ble_eq_true rfl⟩ (by decide) rfl k_p0 (c_X10_does k_p0 hq) rfl rfl (Nat.le_of_ble_eq_true rfl) dX10_readSum_51 ⟨Nat.le_of_ble_eq_true rfl, Nat.le_of_ble_eq_true rfl⟩) hS (fun S5 H locs hf hR hS => ?_)
    refine lv_goto (tgt := 9) B.1.1 B.1.2.1 dX10_readSum_54 (by decide) ?_
    exact hrec_9 _ _ _ _ _ k_p0 hf hR hS (hl.drop [true, false] rfl)
  · refine lv_iconst (v := 0) B.1.1 B.1.2.1 dX10_readSum_43 (by decide) ?_
    exact y_zretK B hR hS hf rfl dX10_readSum_44
def f_X10_readSum_9 (T : xT) : Nat → xS → Nat → Option (Int32 × xS)
  | 0, _, _ => none
  | n + 1, S, p0 => if (S.1 p0 8) = (43 : Int32) then f_X10_readSum_27 T (f_X10_readSum_9 T n) S p0 else if (S.1 p0 8) = (45 : Int32) then f_X10_readSum_27 T (f_X10_readSum_9 T n) S p0 else some ((1 : Int32), S)
set_option maxRecDepth 100000 in
set_option maxHeartbeats 4000000 in
theorem w_X10_readSum_9 {p : Program} {l : Launch} {e : Env} {s : State} {m : MethodId} {args : Array Value} {below : List Frame} {meth : Method} {c : Code} {z : Nat} {D : va_G} {dA : Nat → ClassId} {T : xT} (B : xB p s m args meth c cX10_readSum RX10 2 (some .boolean) D dA) {q : Int32 × xS} : ∀ (n : Nat), ∀ (S : xS) (H : Heap) (locs : List Loc) (ls : Array Slot) (p0 : Nat), xlk T p0 10 = true → f_X10_readSum_9 T n S p0 = some q → xRel z D dA T S H → va_S (xA z) s.heap H locs → xL ls 2 [some (.ref (z + p0)), none] → xGi p l e xr_X10_readSum s m args below meth c z D dA T q H locs 9 ls [] := by
  intro n
  induction n with
  | zero =>
    intro S H locs ls p0 k_p0 hf hR hS hl
    exact absurd hf (by simp [f_X10_readSum_9])
  | succ n ih =>
    intro S H locs ls p0 k_p0 hf hR hS hl
    unfold f_X10_readSum_9 at hf
    refine lv_aload_n B.1.1 B.1.2.1 dX10_readSum_9 rfl (hl.at 0 rfl) ?_
    refine y_getI B hR k_p0 fl_X10_129 dX10_readSum_10 ?_
    refine lv_bipush (v := 43) B.1.1 B.1.2.1 dX10_readSum_13 (by decide) ?_
    refine y_icmp_eq (tgt := 27) B hf dX10_readSum_15 (by decide) (fun hf => ?_) (fun hf => ?_)
    · exact w_X10_readSum_27 B ih _ _ _ _ _ k_p0 hf hR hS hl
    · refine lv_aload_n B.1.1 B.1.2.1 dX10_readSum_18 rfl (hl.at 0 rfl) ?_
      refine y_getI B hR k_p0 fl_X10_129 dX10_readSum_19 ?_
      refine lv_bipush (v := 45) B.1.1 B.1.2.1 dX10_readSum_22 (by decide) ?_
      refine y_icmp_ne (tgt := 57) B hf dX10_readSum_24 (by decide) (fun hf => ?_) (fun hf => ?_)
      · refine lv_iconst (v := 1) B.1.1 B.1.2.1 dX10_readSum_57 (by decide) ?_
        exact y_zretK B hR hS hf rfl dX10_readSum_58
      · exact w_X10_readSum_27 B ih _ _ _ _ _ k_p0 hf hR hS hl
def f_X10_readSum (T : xT) (S : xS) (p0 : Nat) : Option (Int32 × xS) := xc (f_X10_readProduct T S p0) (fun r2 S1 => if r2 = (0 : Int32) then some ((0 : Int32), S1) else f_X10_readSum_9 T xfu S1 p0)
set_option maxRecDepth 100000 in
set_option maxHeartbeats 4000000 in
theorem c_X10_readSum {l : Launch} {z : Nat} {D : va_G} {dA : Nat → ClassId} {T : xT} {S : xS} {p0 : Nat} (k_p0 : xlk T p0 10 = true) {q : Int32 × xS} (hf : f_X10_readSum T S p0 = some q) : Met l yX10_readSum (xws yX10_readSum cX10_readSum 2 (some .boolean)) xr_X10_readSum (xPc z D dA T S [.ref (z + p0)]) (xQi z D dA T q) 0 0 (xA z) := by
  refine x_met RX10 (by decide) rfl (Nat.le_of_ble_eq_true rfl) ?_
  intro p e s m below meth c ls _ X hr hlk hml _ hR hS hl
  have B : xB p s m _ meth c cX10_readSum RX10 2 (some .boolean) D dA := ⟨X, hr, hlk, hml⟩
  have hl : xL ls 2 [_, _] := hl
  unfold f_X10_readSum at hf
  refine lv_aload_n B.1.1 B.1.2.1 dX10_readSum_0 rfl (hl.at 0 rfl) ?_
  refine y_ci hf (fun q hq => x_runV (ci := 10) (C := RX10) B.1 B.2.2.2 hl hR hS cm_X10_331 ⟨rfl, rfl, Nat.le_of_ble_eq_true rfl, Nat.le_of_ble_eq_true rfl⟩ (by decide) rfl k_p0 (c_X10_readProduct k_p0 hq) rfl rfl (Nat.le_of_ble_eq_true rfl) dX10_readSum_1 ⟨Nat.le_of_ble_eq_true rfl, Nat.le_of_ble_eq_true rfl⟩) hS (fun r2 S1 H locs hf hR hS => ?_)
  refine y_if_ne (tgt := 9) B hf dX10_readSum_4 (by decide) (fun hf => ?_) (fun hf => ?_)
  · exact w_X10_readSum_9 B xfu _ _ _ _ _ k_p0 hf hR hS hl
  · refine lv_iconst (v := 0) B.1.1 B.1.2.1 dX10_readSum_7 (by decide) ?_
    exact y_zretK B hR hS hf rfl dX10_readSum_8
abbrev xr_X10_readSpecial : Room := { frames := 10, cells := 0, slots := 0, locals := 211 }
def f_X10_readSpecial_232 (T : xT) (S : xS) (p0 : Nat) : Option (Int32 × xS) := xpi S p0 22 (((S.1 p0 22) + (1 : Int32))) (fun S1 => xc (f_X10_takes T S1 p0 ((59 : Int32))) (fun r3 S2 => xgd (xnz r3) (some (r3, S2))))
set_option maxRecDepth 100000 in
set_option maxHeartbeats 4000000 in
theorem w_X10_readSpecial_232 {p : Program} {l : Launch} {e : Env} {s : State} {m : MethodId} {args : Array Value} {below : List Frame} {meth : Method} {c : Code} {z : Nat} {D : va_G} {dA : Nat → ClassId} {T : xT} (B : xB p s m args meth c cX10_readSpecial RX10 2 (some .boolean) D dA) {q : Int32 × xS} : ∀ (S : xS) (H : Heap) (locs : List Loc) (ls : Array Slot) (p0 : Nat), xlk T p0 10 = true → f_X10_readSpecial_232 T S p0 = some q → xRel z D dA T S H → va_S (xA z) s.heap H locs → xL ls 2 [some (.ref (z + p0)), none] → xGi p l e xr_X10_readSpecial s m args below meth c z D dA T q H locs 232 ls [] := by
  intro S H locs ls p0 k_p0 hf hR hS hl
  unfold f_X10_readSpecial_232 at hf
  refine lv_aload_n B.1.1 B.1.2.1 dX10_readSpecial_232 rfl (hl.at 0 rfl) ?_
  refine lv_dup B.1.1 B.1.2.1 dX10_readSpecial_233 rfl ?_
  refine y_getI B hR k_p0 fl_X10_334 dX10_readSpecial_234 ?_
  refine lv_iconst (v := 1) B.1.1 B.1.2.1 dX10_readSpecial_237 (by decide) ?_
  refine lv_iadd B.1.1 B.1.2.1 dX10_readSpecial_238 ?_
  refine y_putI B hR hS hf k_p0 fp_X10_334 dX10_readSpecial_239 (fun S1 H locs hf hR hS => ?_)
  refine lv_aload_n B.1.1 B.1.2.1 dX10_readSpecial_242 rfl (hl.at 0 rfl) ?_
  refine lv_bipush (v := 59) B.1.1 B.1.2.1 dX10_readSpecial_243 (by decide) ?_
  refine y_ci hf (fun q hq => x_runV (ci := 10) (C := RX10) B.1 B.2.2.2 hl hR hS cm_X10_170 ⟨rfl, rfl, Nat.le_of_ble_eq_true rfl, Nat.le_of_ble_eq_true rfl⟩ (by decide) rfl k_p0 (c_X10_takes k_p0 hq) rfl rfl (Nat.le_of_ble_eq_true rfl) dX10_readSpecial_245 ⟨Nat.le_of_ble_eq_true rfl, Nat.le_of_ble_eq_true rfl⟩) hS (fun r3 S2 H locs hf hR hS => ?_)
  exact y_zret B hR hS hf dX10_readSpecial_248
def f_X10_readSpecial_207 (T : xT) (S : xS) (p0 : Nat) (p1 : Int32) : Option (Int32 × xS) := xcv (f_X10_nextToken T S p0) (fun S1 => xc (f_X10_readSum T S1 p0) (fun r3 S2 => if r3 = (0 : Int32) then some ((0 : Int32), S2) else xgr T S2 p0 20 20 (fun a4 => xst T S2 a4 ((p1 + (5 : Int32))) ((S2.1 p0 23)) (fun S5 => f_X10_readSpecial_232 T S5 p0))))
set_option maxRecDepth 100000 in
set_option maxHeartbeats 4000000 in
theorem w_X10_readSpecial_207 {p : Program} {l : Launch} {e : Env} {s : State} {m : MethodId} {args : Array Value} {below : List Frame} {meth : Method} {c : Code} {z : Nat} {D : va_G} {dA : Nat → ClassId} {T : xT} (B : xB p s m args meth c cX10_readSpecial RX10 2 (some .boolean) D dA) {q : Int32 × xS} : ∀ (S : xS) (H : Heap) (locs : List Loc) (ls : Array Slot) (p0 : Nat) (p1 : Int32), xlk T p0 10 = true → f_X10_readSpecial_207 T S p0 p1 = some q → xRel z D dA T S H → va_S (xA z) s.heap H locs → xL ls 2 [some (.ref (z + p0)), some (.int p1)] → xGi p l e xr_X10_readSpecial s m args below meth c z D dA T q H locs 207 ls [] := by
  intro S H locs ls p0 p1 k_p0 hf hR hS hl
  unfold f_X10_readSpecial_207 at hf
  refine lv_aload_n B.1.1 B.1.2.1 dX10_readSpecial_207 rfl (hl.at 0 rfl) ?_
  refine y_cv hf (fun q hq => x_runV (ci := 10) (C := RX10) B.1 B.2.2.2 hl hR hS cm_X10_147 ⟨rfl, rfl, Nat.le_of_ble_eq_true rfl, Nat.le_of_ble_eq_true rfl⟩ (by decide) rfl k_p0 (c_X10_nextToken k_p0 hq) rfl rfl (Nat.le_of_ble_eq_true rfl) dX10_readSpecial_208 ⟨Nat.le_of_ble_eq_true rfl, Nat.le_of_ble_eq_true rfl⟩) hS (fun S1 H locs hf hR hS => ?_)
  refine lv_aload_n B.1.1 B.1.2.1 dX10_readSpecial_211 rfl (hl.at 0 rfl) ?_
  refine y_ci hf (fun q hq => x_runV (ci := 10) (C := RX10) B.1 B.2.2.2 hl hR hS cm_X10_337 ⟨rfl, rfl, Nat.le_of_ble_eq_true rfl, Nat.le_of_ble_eq_true rfl⟩ (by decide) rfl k_p0 (c_X10_readSum k_p0 hq) rfl rfl (Nat.le_of_ble_eq_true rfl) dX10_readSpecial_212 ⟨Nat.le_of_ble_eq_true rfl, Nat.le_of_ble_eq_true rfl⟩) hS (fun r3 S2 H locs hf hR hS => ?_)
  refine y_if_ne (tgt := 220) B hf dX10_readSpecial_215 (by decide) (fun hf => ?_) (fun hf => ?_)
  · refine lv_aload_n B.1.1 B.1.2.1 dX10_readSpecial_220 rfl (hl.at 0 rfl) ?_
    refine y_getR B hR hf k_p0 fl_X10_47 dX10_readSpecial_221 (fun a4 k_a4 hf => ?_)
    refine lv_iload_n B.1.1 B.1.2.1 dX10_readSpecial_224 rfl (hl.at 1 rfl) ?_
    refine lv_iconst (v := 5) B.1.1 B.1.2.1 dX10_readSpecial_225 (by decide) ?_
    refine lv_iadd B.1.1 B.1.2.1 dX10_readSpecial_226 ?_
    refine lv_aload_n B.1.1 B.1.2.1 dX10_readSpecial_227 rfl (hl.at 0 rfl) ?_
    refine y_getI B hR k_p0 fl_X10_307 dX10_readSpecial_228 ?_
    refine y_iast B hR hS hf k_a4 dX10_readSpecial_231 (fun S5 H locs hf hR hS => ?_)
    exact w_X10_readSpecial_232 B _ _ _ _ _ k_p0 hf hR hS (hl.drop [true, false] rfl)
  · refine lv_iconst (v := 0) B.1.1 B.1.2.1 dX10_readSpecial_218 (by decide) ?_
    exact y_zretK B hR hS hf rfl dX10_readSpecial_219
def f_X10_readSpecial (T : xT) (S : xS) (p0 : Nat) : Option (Int32 × xS) := xc (f_X10_w4 T S ((103 : Int32)) ((105 : Int32)) ((118 : Int32)) ((101 : Int32))) (fun r2 S1 => xc (f_X10_isWord T S1 p0 r2) (fun r4 S3 => if r4 = (0 : Int32) then xc (f_X10_fails T S3 p0) (fun r6 S5 => xgd (xnz r6) (some (r6, S5))) else if (S3.1 p0 22) = (8 : Int32) then xc (f_X10_fails T S3 p0) (fun r39 S38 => xgd (xnz r39) (some (r39, S38))) else xcv (f_X10_nextToken T S3 p0) (fun S7 => xc (f_X10_takesPartner T S7 p0) (fun r9 S8 => if r9 = (0 : Int32) then some ((0 : Int32), S8) else xl (((6 : Int32) * (S8.1 p0 22))) (fun v10 => xgr T S8 p0 20 20 (fun a11 => xst T S8 a11 v10 ((S8.1 p0 12)) (fun S12 => xgr T S12 p0 20 20 (fun a13 => xst T S12 a13 ((v10 + (1 : Int32))) ((0 : Int32)) (fun S14 => xgr T S14 p0 20 20 (fun a15 => xst T S14 a15 ((v10 + (2 : Int32))) ((S14.1 p0 23)) (fun S16 => xc (f_X10_readSum T S16 p0) (fun r18 S17 => if r18 = (0 : Int32) then some ((0 : Int32), S17) else xgr T S17 p0 20 20 (fun a19 => xst T S17 a19 ((v10 + (3 : Int32))) ((S17.1 p0 23)) (fun S20 => xgr T S20 p0 20 20 (fun a21 => xst T S20 a21 ((v10 + (4 : Int32))) ((S20.1 p0 23)) (fun S22 => xgr T S22 p0 20 20 (fun a23 => xst T S22 a23 ((v10 + (5 : Int32))) ((S22.1 p0 23)) (fun S24 => xc (f_X10_w4 T S24 ((119 : Int32)) ((104 : Int32)) ((101 : Int32)) ((110 : Int32))) (fun r26 S25 => xc (f_X10_isWord T S25 p0 r26) (fun r28 S27 => if r28 = (0 : Int32) then f_X10_readSpecial_232 T S27 p0 else xcv (f_X10_nextToken T S27 p0) (fun S29 => xc (f_X10_readSum T S29 p0) (fun r31 S30 => if r31 = (0 : Int32) then some ((0 : Int32), S30) else xgr T S30 p0 20 20 (fun a32 => xst T S30 a32 ((v10 + (4 : Int32))) ((S30.1 p0 23)) (fun S33 => xgr T S33 p0 20 20 (fun a34 => xst T S33 a34 ((v10 + (1 : Int32))) ((S33.1 p0 8)) (fun S35 => if (S35.1 p0 8) = (60 : Int32) then f_X10_readSpecial_207 T S35 p0 v10 else if (S35.1 p0 8) = (62 : Int32) then f_X10_readSpecial_207 T S35 p0 v10 else xc (f_X10_fails T S35 p0) (fun r37 S36 => xgd (xnz r37) (some (r37, S36)))))))))))))))))))))))))))))
set_option maxRecDepth 100000 in
set_option maxHeartbeats 4000000 in
theorem c_X10_readSpecial {l : Launch} {z : Nat} {D : va_G} {dA : Nat → ClassId} {T : xT} {S : xS} {p0 : Nat} (k_p0 : xlk T p0 10 = true) {q : Int32 × xS} (hf : f_X10_readSpecial T S p0 = some q) : Met l yX10_readSpecial (xws yX10_readSpecial cX10_readSpecial 2 (some .boolean)) xr_X10_readSpecial (xPc z D dA T S [.ref (z + p0)]) (xQi z D dA T q) 0 0 (xA z) := by
  refine x_met RX10 (by decide) rfl (Nat.le_of_ble_eq_true rfl) ?_
  intro p e s m below meth c ls _ X hr hlk hml _ hR hS hl
  have B : xB p s m _ meth c cX10_readSpecial RX10 2 (some .boolean) D dA := ⟨X, hr, hlk, hml⟩
  have hl : xL ls 2 [_, _] := hl
  unfold f_X10_readSpecial at hf
  refine lv_aload_n B.1.1 B.1.2.1 dX10_readSpecial_0 rfl (hl.at 0 rfl) ?_
  refine lv_bipush (v := 103) B.1.1 B.1.2.1 dX10_readSpecial_1 (by decide) ?_
  refine lv_bipush (v := 105) B.1.1 B.1.2.1 dX10_readSpecial_3 (by decide) ?_
  refine lv_bipush (v := 118) B.1.1 B.1.2.1 dX10_readSpecial_5 (by decide) ?_
  refine lv_bipush (v := 101) B.1.1 B.1.2.1 dX10_readSpecial_7 (by decide) ?_
  refine y_cl hf (fun q hq => y_runS B.1 B.2.2.2 hl hR hS cm_X10_114 ⟨rfl, rfl, Nat.le_of_ble_eq_true rfl, Nat.le_of_ble_eq_true rfl⟩ (c_X10_w4 hq) rfl rfl (Nat.le_of_ble_eq_true rfl) dX10_readSpecial_9 ⟨Nat.le_of_ble_eq_true rfl, Nat.le_of_ble_eq_true rfl⟩) hS (fun r2 S1 H locs hf hR hS => ?_)
  refine y_ci hf (fun q hq => x_runV (ci := 10) (C := RX10) B.1 B.2.2.2 hl hR hS cm_X10_150 ⟨rfl, rfl, Nat.le_of_ble_eq_true rfl, Nat.le_of_ble_eq_true rfl⟩ (by decide) rfl k_p0 (c_X10_isWord k_p0 hq) rfl rfl (Nat.le_of_ble_eq_true rfl) dX10_readSpecial_12 ⟨Nat.le_of_ble_eq_true rfl, Nat.le_of_ble_eq_true rfl⟩) hS (fun r4 S3 H locs hf hR hS => ?_)
  refine y_if_eq (tgt := 27) B hf dX10_readSpecial_15 (by decide) (fun hf => ?_) (fun hf => ?_)
  · refine lv_aload_n B.1.1 B.1.2.1 dX10_readSpecial_27 rfl (hl.at 0 rfl) ?_
    refine y_ci hf (fun q hq => x_runV (ci := 10) (C := RX10) B.1 B.2.2.2 hl hR hS cm_X10_154 ⟨rfl, rfl, Nat.le_of_ble_eq_true rfl, Nat.le_of_ble_eq_true rfl⟩ (by decide) rfl k_p0 (c_X10_fails k_p0 hq) rfl rfl (Nat.le_of_ble_eq_true rfl) dX10_readSpecial_28 ⟨Nat.le_of_ble_eq_true rfl, Nat.le_of_ble_eq_true rfl⟩) hS (fun r6 S5 H locs hf hR hS => ?_)
    exact y_zret B hR hS hf dX10_readSpecial_31
  · refine lv_aload_n B.1.1 B.1.2.1 dX10_readSpecial_18 rfl (hl.at 0 rfl) ?_
    refine y_getI B hR k_p0 fl_X10_334 dX10_readSpecial_19 ?_
    refine lv_bipush (v := 8) B.1.1 B.1.2.1 dX10_readSpecial_22 (by decide) ?_
    refine y_icmp_ne (tgt := 32) B hf dX10_readSpecial_24 (by decide) (fun hf => ?_) (fun hf => ?_)
    · refine lv_aload_n B.1.1 B.1.2.1 dX10_readSpecial_32 rfl (hl.at 0 rfl) ?_
      refine y_cv hf (fun q hq => x_runV (ci := 10) (C := RX10) B.1 B.2.2.2 hl hR hS cm_X10_147 ⟨rfl, rfl, Nat.le_of_ble_eq_true rfl, Nat.le_of_ble_eq_true rfl⟩ (by decide) rfl k_p0 (c_X10_nextToken k_p0 hq) rfl rfl (Nat.le_of_ble_eq_true rfl) dX10_readSpecial_33 ⟨Nat.le_of_ble_eq_true rfl, Nat.le_of_ble_eq_true rfl⟩) hS (fun S7 H locs hf hR hS => ?_)
      refine lv_aload_n B.1.1 B.1.2.1 dX10_readSpecial_36 rfl (hl.at 0 rfl) ?_
      refine y_ci hf (fun q hq => x_runV (ci := 10) (C := RX10) B.1 B.2.2.2 hl hR hS cm_X10_324 ⟨rfl, rfl, Nat.le_of_ble_eq_true rfl, Nat.le_of_ble_eq_true rfl⟩ (by decide) rfl k_p0 (c_X10_takesPartner k_p0 hq) rfl rfl (Nat.le_of_ble_eq_true rfl) dX10_readSpecial_37 ⟨Nat.le_of_ble_eq_true rfl, Nat.le_of_ble_eq_true rfl⟩) hS (fun r9 S8 H locs hf hR hS => ?_)
      refine y_if_ne (tgt := 45) B hf dX10_readSpecial_40 (by decide) (fun hf => ?_) (fun hf => ?_)
      · refine lv_bipush (v := 6) B.1.1 B.1.2.1 dX10_readSpecial_45 (by decide) ?_
        refine lv_aload_n B.1.1 B.1.2.1 dX10_readSpecial_47 rfl (hl.at 0 rfl) ?_
        refine y_getI B hR k_p0 fl_X10_334 dX10_readSpecial_48 ?_
        refine lv_imul B.1.1 B.1.2.1 dX10_readSpecial_51 ?_
        refine y_istore_n B hl hf dX10_readSpecial_52 rfl (by decide) rfl (fun v10 ls hf hl => ?_)
        have hl : xL ls 2 [_, _] := hl
        refine lv_aload_n B.1.1 B.1.2.1 dX10_readSpecial_53 rfl (hl.at 0 rfl) ?_
        refine y_getR B hR hf k_p0 fl_X10_47 dX10_readSpecial_54 (fun a11 k_a11 hf => ?_)
        refine lv_iload_n B.1.1 B.1.2.1 dX10_readSpecial_57 rfl (hl.at 1 rfl) ?_
        refine lv_aload_n B.1.1 B.1.2.1 dX10_readSpecial_58 rfl (hl.at 0 rfl) ?_
        refine y_getI B hR k_p0 fl_X10_158 dX10_readSpecial_59 ?_
        refine y_iast B hR hS hf k_a11 dX10_readSpecial_62 (fun S12 H locs hf hR hS => ?_)
        refine lv_aload_n B.1.1 B.1.2.1 dX10_readSpecial_63 rfl (hl.at 0 rfl) ?_
        refine y_getR B hR hf k_p0 fl_X10_47 dX10_readSpecial_64 (fun a13 k_a13 hf => ?_)
        refine lv_iload_n B.1.1 B.1.2.1 dX10_readSpecial_67 rfl (hl.at 1 rfl) ?_
        refine lv_iconst (v := 1) B.1.1 B.1.2.1 dX10_readSpecial_68 (by decide) ?_
        refine lv_iadd B.1.1 B.1.2.1 dX10_readSpecial_69 ?_
        refine lv_iconst (v := 0) B.1.1 B.1.2.1 dX10_readSpecial_70 (by decide) ?_
        refine y_iast B hR hS hf k_a13 dX10_readSpecial_71 (fun S14 H locs hf hR hS => ?_)
        refine lv_aload_n B.1.1 B.1.2.1 dX10_readSpecial_72 rfl (hl.at 0 rfl) ?_
        refine y_getR B hR hf k_p0 fl_X10_47 dX10_readSpecial_73 (fun a15 k_a15 hf => ?_)
        refine lv_iload_n B.1.1 B.1.2.1 dX10_readSpecial_76 rfl (hl.at 1 rfl) ?_
        refine lv_iconst (v := 2) B.1.1 B.1.2.1 dX10_readSpecial_77 (by decide) ?_
        refine lv_iadd B.1.1 B.1.2.1 dX10_readSpecial_78 ?_
        refine lv_aload_n B.1.1 B.1.2.1 dX10_readSpecial_79 rfl (hl.at 0 rfl) ?_
        refine y_getI B hR k_p0 fl_X10_307 dX10_readSpecial_80 ?_
        refine y_iast B hR hS hf k_a15 dX10_readSpecial_83 (fun S16 H locs hf hR hS => ?_)
        refine lv_aload_n B.1.1 B.1.2.1 dX10_readSpecial_84 rfl (hl.at 0 rfl) ?_
        refine y_ci hf (fun q hq => x_runV (ci := 10) (C := RX10) B.1 B.2.2.2 hl hR hS cm_X10_337 ⟨rfl, rfl, Nat.le_of_ble_eq_true rfl, Nat.le_of_ble_eq_true rfl⟩ (by decide) rfl k_p0 (c_X10_readSum k_p0 hq) rfl rfl (Nat.le_of_ble_eq_true rfl) dX10_readSpecial_85 ⟨Nat.le_of_ble_eq_true rfl, Nat.le_of_ble_eq_true rfl⟩) hS (fun r18 S17 H locs hf hR hS => ?_)
        refine y_if_ne (tgt := 93) B hf dX10_readSpecial_88 (by decide) (fun hf => ?_) (fun hf => ?_)
        · refine lv_aload_n B.1.1 B.1.2.1 dX10_readSpecial_93 rfl (hl.at 0 rfl) ?_
          refine y_getR B hR hf k_p0 fl_X10_47 dX10_readSpecial_94 (fun a19 k_a19 hf => ?_)
          refine lv_iload_n B.1.1 B.1.2.1 dX10_readSpecial_97 rfl (hl.at 1 rfl) ?_
          refine lv_iconst (v := 3) B.1.1 B.1.2.1 dX10_readSpecial_98 (by decide) ?_
          refine lv_iadd B.1.1 B.1.2.1 dX10_readSpecial_99 ?_
          refine lv_aload_n B.1.1 B.1.2.1 dX10_readSpecial_100 rfl (hl.at 0 rfl) ?_
          refine y_getI B hR k_p0 fl_X10_307 dX10_readSpecial_101 ?_
          refine y_iast B hR hS hf k_a19 dX10_readSpecial_104 (fun S20 H locs hf hR hS => ?_)
          refine lv_aload_n B.1.1 B.1.2.1 dX10_readSpecial_105 rfl (hl.at 0 rfl) ?_
          refine y_getR B hR hf k_p0 fl_X10_47 dX10_readSpecial_106 (fun a21 k_a21 hf => ?_)
          refine lv_iload_n B.1.1 B.1.2.1 dX10_readSpecial_109 rfl (hl.at 1 rfl) ?_
          refine lv_iconst (v := 4) B.1.1 B.1.2.1 dX10_readSpecial_110 (by decide) ?_
          refine lv_iadd B.1.1 B.1.2.1 dX10_readSpecial_111 ?_
          refine lv_aload_n B.1.1 B.1.2.1 dX10_readSpecial_112 rfl (hl.at 0 rfl) ?_
          refine y_getI B hR k_p0 fl_X10_307 dX10_readSpecial_113 ?_
          refine y_iast B hR hS hf k_a21 dX10_readSpecial_116 (fun S22 H locs hf hR hS => ?_)
          refine lv_aload_n B.1.1 B.1.2.1 dX10_readSpecial_117 rfl (hl.at 0 rfl) ?_
          refine y_getR B hR hf k_p0 fl_X10_47 dX10_readSpecial_118 (fun a23 k_a23 hf => ?_)
          refine lv_iload_n B.1.1 B.1.2.1 dX10_readSpecial_121 rfl (hl.at 1 rfl) ?_
          refine lv_iconst (v := 5) B.1.1 B.1.2.1 dX10_readSpecial_122 (by decide) ?_
          refine lv_iadd B.1.1 B.1.2.1 dX10_readSpecial_123 ?_
          refine lv_aload_n B.1.1 B.1.2.1 dX10_readSpecial_124 rfl (hl.at 0 rfl) ?_
          refine y_getI B hR k_p0 fl_X10_307 dX10_readSpecial_125 ?_
          refine y_iast B hR hS hf k_a23 dX10_readSpecial_128 (fun S24 H locs hf hR hS => ?_)
          refine lv_aload_n B.1.1 B.1.2.1 dX10_readSpecial_129 rfl (hl.at 0 rfl) ?_
          refine lv_bipush (v := 119) B.1.1 B.1.2.1 dX10_readSpecial_130 (by decide) ?_
          refine lv_bipush (v := 104) B.1.1 B.1.2.1 dX10_readSpecial_132 (by decide) ?_
          refine lv_bipush (v := 101) B.1.1 B.1.2.1 dX10_readSpecial_134 (by decide) ?_
          refine lv_bipush (v := 110) B.1.1 B.1.2.1 dX10_readSpecial_136 (by decide) ?_
          refine y_cl hf (fun q hq => y_runS B.1 B.2.2.2 hl hR hS cm_X10_114 ⟨rfl, rfl, Nat.le_of_ble_eq_true rfl, Nat.le_of_ble_eq_true rfl⟩ (c_X10_w4 hq) rfl rfl (Nat.le_of_ble_eq_true rfl) dX10_readSpecial_138 ⟨Nat.le_of_ble_eq_true rfl, Nat.le_of_ble_eq_true rfl⟩) hS (fun r26 S25 H locs hf hR hS => ?_)
          refine y_ci hf (fun q hq => x_runV (ci := 10) (C := RX10) B.1 B.2.2.2 hl hR hS cm_X10_150 ⟨rfl, rfl, Nat.le_of_ble_eq_true rfl, Nat.le_of_ble_eq_true rfl⟩ (by decide) rfl k_p0 (c_X10_isWord k_p0 hq) rfl rfl (Nat.le_of_ble_eq_true rfl) dX10_readSpecial_141 ⟨Nat.le_of_ble_eq_true rfl, Nat.le_of_ble_eq_true rfl⟩) hS (fun r28 S27 H locs hf hR hS => ?_)
          refine y_if_eq (tgt := 232) B hf dX10_readSpecial_144 (by decide) (fun hf => ?_) (fun hf => ?_)
          · exact w_X10_readSpecial_232 B _ _ _ _ _ k_p0 hf hR hS (hl.drop [true, false] rfl)
          · refine lv_aload_n B.1.1 B.1.2.1 dX10_readSpecial_147 rfl (hl.at 0 rfl) ?_
            refine y_cv hf (fun q hq => x_runV (ci := 10) (C := RX10) B.1 B.2.2.2 hl hR hS cm_X10_147 ⟨rfl, rfl, Nat.le_of_ble_eq_true rfl, Nat.le_of_ble_eq_true rfl⟩ (by decide) rfl k_p0 (c_X10_nextToken k_p0 hq) rfl rfl (Nat.le_of_ble_eq_true rfl) dX10_readSpecial_148 ⟨Nat.le_of_ble_eq_true rfl, Nat.le_of_ble_eq_true rfl⟩) hS (fun S29 H locs hf hR hS => ?_)
            refine lv_aload_n B.1.1 B.1.2.1 dX10_readSpecial_151 rfl (hl.at 0 rfl) ?_
            refine y_ci hf (fun q hq => x_runV (ci := 10) (C := RX10) B.1 B.2.2.2 hl hR hS cm_X10_337 ⟨rfl, rfl, Nat.le_of_ble_eq_true rfl, Nat.le_of_ble_eq_true rfl⟩ (by decide) rfl k_p0 (c_X10_readSum k_p0 hq) rfl rfl (Nat.le_of_ble_eq_true rfl) dX10_readSpecial_152 ⟨Nat.le_of_ble_eq_true rfl, Nat.le_of_ble_eq_true rfl⟩) hS (fun r31 S30 H locs hf hR hS => ?_)
            refine y_if_ne (tgt := 160) B hf dX10_readSpecial_155 (by decide) (fun hf => ?_) (fun hf => ?_)
            · refine lv_aload_n B.1.1 B.1.2.1 dX10_readSpecial_160 rfl (hl.at 0 rfl) ?_
              refine y_getR B hR hf k_p0 fl_X10_47 dX10_readSpecial_161 (fun a32 k_a32 hf => ?_)
              refine lv_iload_n B.1.1 B.1.2.1 dX10_readSpecial_164 rfl (hl.at 1 rfl) ?_
              refine lv_iconst (v := 4) B.1.1 B.1.2.1 dX10_readSpecial_165 (by decide) ?_
              refine lv_iadd B.1.1 B.1.2.1 dX10_readSpecial_166 ?_
              refine lv_aload_n B.1.1 B.1.2.1 dX10_readSpecial_167 rfl (hl.at 0 rfl) ?_
              refine y_getI B hR k_p0 fl_X10_307 dX10_readSpecial_168 ?_
              refine y_iast B hR hS hf k_a32 dX10_readSpecial_171 (fun S33 H locs hf hR hS => ?_)
              refine lv_aload_n B.1.1 B.1.2.1 dX10_readSpecial_172 rfl (hl.at 0 rfl) ?_
              refine y_getR B hR hf k_p0 fl_X10_47 dX10_readSpecial_173 (fun a34 k_a34 hf => ?_)
              refine lv_iload_n B.1.1 B.1.2.1 dX10_readSpecial_176 rfl (hl.at 1 rfl) ?_
              refine lv_iconst (v := 1) B.1.1 B.1.2.1 dX10_readSpecial_177 (by decide) ?_
              refine lv_iadd B.1.1 B.1.2.1 dX10_readSpecial_178 ?_
              refine lv_aload_n B.1.1 B.1.2.1 dX10_readSpecial_179 rfl (hl.at 0 rfl) ?_
              refine y_getI B hR k_p0 fl_X10_129 dX10_readSpecial_180 ?_
              refine y_iast B hR hS hf k_a34 dX10_readSpecial_183 (fun S35 H locs hf hR hS => ?_)
              refine lv_aload_n B.1.1 B.1.2.1 dX10_readSpecial_184 rfl (hl.at 0 rfl) ?_
              refine y_getI B hR k_p0 fl_X10_129 dX10_readSpecial_185 ?_
              refine lv_bipush (v := 60) B.1.1 B.1.2.1 dX10_readSpecial_188 (by decide) ?_
              refine y_icmp_eq (tgt := 207) B hf dX10_readSpecial_190 (by decide) (fun hf => ?_) (fun hf => ?_)
              · exact w_X10_readSpecial_207 B _ _ _ _ _ _ k_p0 hf hR hS hl
              · refine lv_aload_n B.1.1 B.1.2.1 dX10_readSpecial_193 rfl (hl.at 0 rfl) ?_
                refine y_getI B hR k_p0 fl_X10_129 dX10_readSpecial_194 ?_
                refine lv_bipush (v := 62) B.1.1 B.1.2.1 dX10_readSpecial_197 (by decide) ?_
                refine y_icmp_eq (tgt := 207) B hf dX10_readSpecial_199 (by decide) (fun hf => ?_) (fun hf => ?_)
                · exact w_X10_readSpecial_207 B _ _ _ _ _ _ k_p0 hf hR hS hl
                · refine lv_aload_n B.1.1 B.1.2.1 dX10_readSpecial_202 rfl (hl.at 0 rfl) ?_
                  refine y_ci hf (fun q hq => x_runV (ci := 10) (C := RX10) B.1 B.2.2.2 hl hR hS cm_X10_154 ⟨rfl, rfl, Nat.le_of_ble_eq_true rfl, Nat.le_of_ble_eq_true rfl⟩ (by decide) rfl k_p0 (c_X10_fails k_p0 hq) rfl rfl (Nat.le_of_ble_eq_true rfl) dX10_readSpecial_203 ⟨Nat.le_of_ble_eq_true rfl, Nat.le_of_ble_eq_true rfl⟩) hS (fun r37 S36 H locs hf hR hS => ?_)
                  exact y_zret B hR hS hf dX10_readSpecial_206
            · refine lv_iconst (v := 0) B.1.1 B.1.2.1 dX10_readSpecial_158 (by decide) ?_
              exact y_zretK B hR hS hf rfl dX10_readSpecial_159
        · refine lv_iconst (v := 0) B.1.1 B.1.2.1 dX10_readSpecial_91 (by decide) ?_
          exact y_zretK B hR hS hf rfl dX10_readSpecial_92
      · refine lv_iconst (v := 0) B.1.1 B.1.2.1 dX10_readSpecial_43 (by decide) ?_
        exact y_zretK B hR hS hf rfl dX10_readSpecial_44
    · refine lv_aload_n B.1.1 B.1.2.1 dX10_readSpecial_27 rfl (hl.at 0 rfl) ?_
      refine y_ci hf (fun q hq => x_runV (ci := 10) (C := RX10) B.1 B.2.2.2 hl hR hS cm_X10_154 ⟨rfl, rfl, Nat.le_of_ble_eq_true rfl, Nat.le_of_ble_eq_true rfl⟩ (by decide) rfl k_p0 (c_X10_fails k_p0 hq) rfl rfl (Nat.le_of_ble_eq_true rfl) dX10_readSpecial_28 ⟨Nat.le_of_ble_eq_true rfl, Nat.le_of_ble_eq_true rfl⟩) hS (fun r39 S38 H locs hf hR hS => ?_)
      exact y_zret B hR hS hf dX10_readSpecial_31
abbrev xr_X10_readSpecials : Room := { frames := 11, cells := 0, slots := 0, locals := 232 }
def f_X10_readSpecials_19 (T : xT) : Nat → xS → Nat → Option (Int32 × xS)
  | 0, _, _ => none
  | n + 1, S, p0 => if (S.1 p0 8) = (0 : Int32) then some ((1 : Int32), S) else xc (f_X10_readSpecial T S p0) (fun r2 S1 => if r2 = (0 : Int32) then some ((0 : Int32), S1) else f_X10_readSpecials_19 T n S1 p0)
set_option maxRecDepth 100000 in
set_option maxHeartbeats 4000000 in
theorem w_X10_readSpecials_19 {p : Program} {l : Launch} {e : Env} {s : State} {m : MethodId} {args : Array Value} {below : List Frame} {meth : Method} {c : Code} {z : Nat} {D : va_G} {dA : Nat → ClassId} {T : xT} (B : xB p s m args meth c cX10_readSpecials RX10 1 (some .boolean) D dA) {q : Int32 × xS} : ∀ (n : Nat), ∀ (S : xS) (H : Heap) (locs : List Loc) (ls : Array Slot) (p0 : Nat), xlk T p0 10 = true → f_X10_readSpecials_19 T n S p0 = some q → xRel z D dA T S H → va_S (xA z) s.heap H locs → xL ls 1 [some (.ref (z + p0))] → xGi p l e xr_X10_readSpecials s m args below meth c z D dA T q H locs 19 ls [] := by
  intro n
  induction n with
  | zero =>
    intro S H locs ls p0 k_p0 hf hR hS hl
    exact absurd hf (by simp [f_X10_readSpecials_19])
  | succ n ih =>
    intro S H locs ls p0 k_p0 hf hR hS hl
    unfold f_X10_readSpecials_19 at hf
    refine lv_aload_n B.1.1 B.1.2.1 dX10_readSpecials_19 rfl (hl.at 0 rfl) ?_
    refine y_getI B hR k_p0 fl_X10_129 dX10_readSpecials_20 ?_
    refine y_if_eq (tgt := 35) B hf dX10_readSpecials_23 (by decide) (fun hf => ?_) (fun hf => ?_)
    · refine lv_iconst (v := 1) B.1.1 B.1.2.1 dX10_readSpecials_35 (by decide) ?_
      exact y_zretK B hR hS hf rfl dX10_readSpecials_36
    · refine lv_aload_n B.1.1 B.1.2.1 dX10_readSpecials_26 rfl (hl.at 0 rfl) ?_
      refine y_ci hf (fun q hq => x_runV (ci := 10) (C := RX10) B.1 B.2.2.2 hl hR hS cm_X10_340 ⟨rfl, rfl, Nat.le_of_ble_eq_true rfl, Nat.le_of_ble_eq_true rfl⟩ (by decide) rfl k_p0 (c_X10_readSpecial k_p0 hq) rfl rfl (Nat.le_of_ble_eq_true rfl) dX10_readSpecials_27 ⟨Nat.le_of_ble_eq_true rfl, Nat.le_of_ble_eq_true rfl⟩) hS (fun r2 S1 H locs hf hR hS => ?_)
      refine y_if_ne (tgt := 19) B hf dX10_readSpecials_30 (by decide) (fun hf => ?_) (fun hf => ?_)
      · exact ih _ _ _ _ _ k_p0 hf hR hS hl
      · refine lv_iconst (v := 0) B.1.1 B.1.2.1 dX10_readSpecials_33 (by decide) ?_
        exact y_zretK B hR hS hf rfl dX10_readSpecials_34
def f_X10_readSpecials (T : xT) (S : xS) (p0 : Nat) : Option (Int32 × xS) := xcv (f_X10_beginText T S p0) (fun S1 => xpi S1 p0 22 ((0 : Int32)) (fun S2 => xpi S2 p0 23 ((0 : Int32)) (fun S3 => xpi S3 p0 24 ((0 : Int32)) (fun S4 => f_X10_readSpecials_19 T xfu S4 p0))))
set_option maxRecDepth 100000 in
set_option maxHeartbeats 4000000 in
theorem c_X10_readSpecials {l : Launch} {z : Nat} {D : va_G} {dA : Nat → ClassId} {T : xT} {S : xS} {p0 : Nat} (k_p0 : xlk T p0 10 = true) {q : Int32 × xS} (hf : f_X10_readSpecials T S p0 = some q) : Met l yX10_readSpecials (xws yX10_readSpecials cX10_readSpecials 1 (some .boolean)) xr_X10_readSpecials (xPc z D dA T S [.ref (z + p0)]) (xQi z D dA T q) 0 0 (xA z) := by
  refine x_met RX10 (by decide) rfl (Nat.le_of_ble_eq_true rfl) ?_
  intro p e s m below meth c ls _ X hr hlk hml _ hR hS hl
  have B : xB p s m _ meth c cX10_readSpecials RX10 1 (some .boolean) D dA := ⟨X, hr, hlk, hml⟩
  have hl : xL ls 1 [_] := hl
  unfold f_X10_readSpecials at hf
  refine lv_aload_n B.1.1 B.1.2.1 dX10_readSpecials_0 rfl (hl.at 0 rfl) ?_
  refine y_cv hf (fun q hq => x_runV (ci := 10) (C := RX10) B.1 B.2.2.2 hl hR hS cm_X10_173 ⟨rfl, rfl, Nat.le_of_ble_eq_true rfl, Nat.le_of_ble_eq_true rfl⟩ (by decide) rfl k_p0 (c_X10_beginText k_p0 hq) rfl rfl (Nat.le_of_ble_eq_true rfl) dX10_readSpecials_1 ⟨Nat.le_of_ble_eq_true rfl, Nat.le_of_ble_eq_true rfl⟩) hS (fun S1 H locs hf hR hS => ?_)
  refine lv_aload_n B.1.1 B.1.2.1 dX10_readSpecials_4 rfl (hl.at 0 rfl) ?_
  refine lv_iconst (v := 0) B.1.1 B.1.2.1 dX10_readSpecials_5 (by decide) ?_
  refine y_putI B hR hS hf k_p0 fp_X10_334 dX10_readSpecials_6 (fun S2 H locs hf hR hS => ?_)
  refine lv_aload_n B.1.1 B.1.2.1 dX10_readSpecials_9 rfl (hl.at 0 rfl) ?_
  refine lv_iconst (v := 0) B.1.1 B.1.2.1 dX10_readSpecials_10 (by decide) ?_
  refine y_putI B hR hS hf k_p0 fp_X10_307 dX10_readSpecials_11 (fun S3 H locs hf hR hS => ?_)
  refine lv_aload_n B.1.1 B.1.2.1 dX10_readSpecials_14 rfl (hl.at 0 rfl) ?_
  refine lv_iconst (v := 0) B.1.1 B.1.2.1 dX10_readSpecials_15 (by decide) ?_
  refine y_putI B hR hS hf k_p0 fp_X10_317 dX10_readSpecials_16 (fun S4 H locs hf hR hS => ?_)
  exact w_X10_readSpecials_19 B xfu _ _ _ _ _ k_p0 hf hR hS hl
abbrev xr_X10_specials : Room := { frames := 12, cells := 0, slots := 0, locals := 252 }
def f_X10_specials_67 (T : xT) : Nat → xS → Nat → Int32 → Option (Int32 × xS)
  | 0, _, _, _ => none
  | n + 1, S, p0, p2 => if (S.1 p0 23) ≤ p2 then some ((S.1 p0 22), S) else xgr T S p0 21 20 (fun a1 => xai T S a1 p2 (fun v2 => xcv (f_X10_put T S p0 (((208 : Int32) + p2)) v2) (fun S3 => xl (p2 + (1 : Int32)) (fun v4 => f_X10_specials_67 T n S3 p0 v4))))
set_option maxRecDepth 100000 in
set_option maxHeartbeats 4000000 in
theorem w_X10_specials_67 {p : Program} {l : Launch} {e : Env} {s : State} {m : MethodId} {args : Array Value} {below : List Frame} {meth : Method} {c : Code} {z : Nat} {D : va_G} {dA : Nat → ClassId} {T : xT} (B : xB p s m args meth c cX10_specials RX10 3 (some .int) D dA) {q : Int32 × xS} : ∀ (n : Nat), ∀ (S : xS) (H : Heap) (locs : List Loc) (ls : Array Slot) (p0 : Nat) (p2 : Int32), xlk T p0 10 = true → f_X10_specials_67 T n S p0 p2 = some q → xRel z D dA T S H → va_S (xA z) s.heap H locs → xL ls 3 [some (.ref (z + p0)), none, some (.int p2)] → xGi p l e xr_X10_specials s m args below meth c z D dA T q H locs 67 ls [] := by
  intro n
  induction n with
  | zero =>
    intro S H locs ls p0 p2 k_p0 hf hR hS hl
    exact absurd hf (by simp [f_X10_specials_67])
  | succ n ih =>
    intro S H locs ls p0 p2 k_p0 hf hR hS hl
    unfold f_X10_specials_67 at hf
    refine lv_iload_n B.1.1 B.1.2.1 dX10_specials_67 rfl (hl.at 2 rfl) ?_
    refine lv_aload_n B.1.1 B.1.2.1 dX10_specials_68 rfl (hl.at 0 rfl) ?_
    refine y_getI B hR k_p0 fl_X10_307 dX10_specials_69 ?_
    refine y_icmp_ge (tgt := 96) B hf dX10_specials_72 (by decide) (fun hf => ?_) (fun hf => ?_)
    · refine lv_aload_n B.1.1 B.1.2.1 dX10_specials_96 rfl (hl.at 0 rfl) ?_
      refine y_getI B hR k_p0 fl_X10_334 dX10_specials_97 ?_
      exact y_iret B hR hS hf dX10_specials_100
    · refine lv_aload_n B.1.1 B.1.2.1 dX10_specials_75 rfl (hl.at 0 rfl) ?_
      refine lv_sipush (v := 208) B.1.1 B.1.2.1 dX10_specials_76 (by decide) ?_
      refine lv_iload_n B.1.1 B.1.2.1 dX10_specials_79 rfl (hl.at 2 rfl) ?_
      refine lv_iadd B.1.1 B.1.2.1 dX10_specials_80 ?_
      refine lv_aload_n B.1.1 B.1.2.1 dX10_specials_81 rfl (hl.at 0 rfl) ?_
      refine y_getR B hR hf k_p0 fl_X10_50 dX10_specials_82 (fun a1 k_a1 hf => ?_)
      refine lv_iload_n B.1.1 B.1.2.1 dX10_specials_85 rfl (hl.at 2 rfl) ?_
      refine y_iald B hR hf k_a1 dX10_specials_86 (fun v2 hf => ?_)
      refine y_cv hf (fun q hq => x_runV (ci := 10) (C := RX10) B.1 B.2.2.2 hl hR hS cm_X10_71 ⟨rfl, rfl, Nat.le_of_ble_eq_true rfl, Nat.le_of_ble_eq_true rfl⟩ (by decide) rfl k_p0 (c_X10_put k_p0 hq) rfl rfl (Nat.le_of_ble_eq_true rfl) dX10_specials_87 ⟨Nat.le_of_ble_eq_true rfl, Nat.le_of_ble_eq_true rfl⟩) hS (fun S3 H locs hf hR hS => ?_)
      refine y_iinc (d := 1) B hl hf dX10_specials_90 rfl (by decide) (by decide) rfl (fun v4 ls hf hl => ?_)
      have hl : xL ls 3 [_, _, _] := hl
      refine lv_goto (tgt := 67) B.1.1 B.1.2.1 dX10_specials_93 (by decide) ?_
      exact ih _ _ _ _ _ _ k_p0 hf hR hS hl
def f_X10_specials_33 (T : xT) : Nat → xS → Nat → Int32 → Option (Int32 × xS)
  | 0, _, _, _ => none
  | n + 1, S, p0, p2 => if ((6 : Int32) * (S.1 p0 22)) ≤ p2 then xl ((0 : Int32)) (fun v1 => f_X10_specials_67 T xfu S p0 v1) else xgr T S p0 20 20 (fun a2 => xai T S a2 p2 (fun v3 => xcv (f_X10_put T S p0 (((160 : Int32) + p2)) v3) (fun S4 => xl (p2 + (1 : Int32)) (fun v5 => f_X10_specials_33 T n S4 p0 v5))))
set_option maxRecDepth 100000 in
set_option maxHeartbeats 4000000 in
theorem w_X10_specials_33 {p : Program} {l : Launch} {e : Env} {s : State} {m : MethodId} {args : Array Value} {below : List Frame} {meth : Method} {c : Code} {z : Nat} {D : va_G} {dA : Nat → ClassId} {T : xT} (B : xB p s m args meth c cX10_specials RX10 3 (some .int) D dA) {q : Int32 × xS} : ∀ (n : Nat), ∀ (S : xS) (H : Heap) (locs : List Loc) (ls : Array Slot) (p0 : Nat) (p2 : Int32), xlk T p0 10 = true → f_X10_specials_33 T n S p0 p2 = some q → xRel z D dA T S H → va_S (xA z) s.heap H locs → xL ls 3 [some (.ref (z + p0)), none, some (.int p2)] → xGi p l e xr_X10_specials s m args below meth c z D dA T q H locs 33 ls [] := by
  intro n
  induction n with
  | zero =>
    intro S H locs ls p0 p2 k_p0 hf hR hS hl
    exact absurd hf (by simp [f_X10_specials_33])
  | succ n ih =>
    intro S H locs ls p0 p2 k_p0 hf hR hS hl
    unfold f_X10_specials_33 at hf
    refine lv_iload_n B.1.1 B.1.2.1 dX10_specials_33 rfl (hl.at 2 rfl) ?_
    refine lv_bipush (v := 6) B.1.1 B.1.2.1 dX10_specials_34 (by decide) ?_
    refine lv_aload_n B.1.1 B.1.2.1 dX10_specials_36 rfl (hl.at 0 rfl) ?_
    refine y_getI B hR k_p0 fl_X10_334 dX10_specials_37 ?_
    refine lv_imul B.1.1 B.1.2.1 dX10_specials_40 ?_
    refine y_icmp_ge (tgt := 65) B hf dX10_specials_41 (by decide) (fun hf => ?_) (fun hf => ?_)
    · refine lv_iconst (v := 0) B.1.1 B.1.2.1 dX10_specials_65 (by decide) ?_
      refine y_istore_n B hl hf dX10_specials_66 rfl (by decide) rfl (fun v1 ls hf hl => ?_)
      have hl : xL ls 3 [_, _, _] := hl
      exact w_X10_specials_67 B xfu _ _ _ _ _ _ k_p0 hf hR hS hl
    · refine lv_aload_n B.1.1 B.1.2.1 dX10_specials_44 rfl (hl.at 0 rfl) ?_
      refine lv_sipush (v := 160) B.1.1 B.1.2.1 dX10_specials_45 (by decide) ?_
      refine lv_iload_n B.1.1 B.1.2.1 dX10_specials_48 rfl (hl.at 2 rfl) ?_
      refine lv_iadd B.1.1 B.1.2.1 dX10_specials_49 ?_
      refine lv_aload_n B.1.1 B.1.2.1 dX10_specials_50 rfl (hl.at 0 rfl) ?_
      refine y_getR B hR hf k_p0 fl_X10_47 dX10_specials_51 (fun a2 k_a2 hf => ?_)
      refine lv_iload_n B.1.1 B.1.2.1 dX10_specials_54 rfl (hl.at 2 rfl) ?_
      refine y_iald B hR hf k_a2 dX10_specials_55 (fun v3 hf => ?_)
      refine y_cv hf (fun q hq => x_runV (ci := 10) (C := RX10) B.1 B.2.2.2 hl hR hS cm_X10_71 ⟨rfl, rfl, Nat.le_of_ble_eq_true rfl, Nat.le_of_ble_eq_true rfl⟩ (by decide) rfl k_p0 (c_X10_put k_p0 hq) rfl rfl (Nat.le_of_ble_eq_true rfl) dX10_specials_56 ⟨Nat.le_of_ble_eq_true rfl, Nat.le_of_ble_eq_true rfl⟩) hS (fun S4 H locs hf hR hS => ?_)
      refine y_iinc (d := 1) B hl hf dX10_specials_59 rfl (by decide) (by decide) rfl (fun v5 ls hf hl => ?_)
      have hl : xL ls 3 [_, _, _] := hl
      refine lv_goto (tgt := 33) B.1.1 B.1.2.1 dX10_specials_62 (by decide) ?_
      exact ih _ _ _ _ _ _ k_p0 hf hR hS hl
def f_X10_specials (T : xT) (S : xS) (p0 : Nat) : Option (Int32 × xS) := xc (f_X10_readSpecials T S p0) (fun r2 S1 => xl r2 (fun v3 => xpi S1 p0 5 ((0 : Int32)) (fun S4 => if v3 = (0 : Int32) then some ((-1 : Int32), S4) else xcv (f_X10_deed T S4 p0) (fun S5 => xcv (f_X10_put T S5 p0 ((159 : Int32)) ((S5.1 p0 22))) (fun S6 => xl ((0 : Int32)) (fun v7 => f_X10_specials_33 T xfu S6 p0 v7))))))
set_option maxRecDepth 100000 in
set_option maxHeartbeats 4000000 in
theorem c_X10_specials {l : Launch} {z : Nat} {D : va_G} {dA : Nat → ClassId} {T : xT} {S : xS} {p0 : Nat} (k_p0 : xlk T p0 10 = true) {q : Int32 × xS} (hf : f_X10_specials T S p0 = some q) : Met l yX10_specials (xws yX10_specials cX10_specials 3 (some .int)) xr_X10_specials (xPc z D dA T S [.ref (z + p0)]) (xQi z D dA T q) 0 0 (xA z) := by
  refine x_met RX10 (by decide) rfl (Nat.le_of_ble_eq_true rfl) ?_
  intro p e s m below meth c ls _ X hr hlk hml _ hR hS hl
  have B : xB p s m _ meth c cX10_specials RX10 3 (some .int) D dA := ⟨X, hr, hlk, hml⟩
  have hl : xL ls 3 [_, _, _] := hl
  unfold f_X10_specials at hf
  refine lv_aload_n B.1.1 B.1.2.1 dX10_specials_0 rfl (hl.at 0 rfl) ?_
  refine y_ci hf (fun q hq => x_runV (ci := 10) (C := RX10) B.1 B.2.2.2 hl hR hS cm_X10_343 ⟨rfl, rfl, Nat.le_of_ble_eq_true rfl, Nat.le_of_ble_eq_true rfl⟩ (by decide) rfl k_p0 (c_X10_readSpecials k_p0 hq) rfl rfl (Nat.le_of_ble_eq_true rfl) dX10_specials_1 ⟨Nat.le_of_ble_eq_true rfl, Nat.le_of_ble_eq_true rfl⟩) hS (fun r2 S1 H locs hf hR hS => ?_)
  refine y_istore_n B hl hf dX10_specials_4 rfl (by decide) rfl (fun v3 ls hf hl => ?_)
  have hl : xL ls 3 [_, _, _] := hl
  refine lv_aload_n B.1.1 B.1.2.1 dX10_specials_5 rfl (hl.at 0 rfl) ?_
  refine lv_iconst (v := 0) B.1.1 B.1.2.1 dX10_specials_6 (by decide) ?_
  refine y_putI B hR hS hf k_p0 fp_X10_88 dX10_specials_7 (fun S4 H locs hf hR hS => ?_)
  refine lv_iload_n B.1.1 B.1.2.1 dX10_specials_10 rfl (hl.at 1 rfl) ?_
  refine y_if_ne (tgt := 16) B hf dX10_specials_11 (by decide) (fun hf => ?_) (fun hf => ?_)
  · refine lv_aload_n B.1.1 B.1.2.1 dX10_specials_16 rfl (hl.at 0 rfl) ?_
    refine y_cv hf (fun q hq => x_runV (ci := 10) (C := RX10) B.1 B.2.2.2 hl hR hS cm_X10_85 ⟨rfl, rfl, Nat.le_of_ble_eq_true rfl, Nat.le_of_ble_eq_true rfl⟩ (by decide) rfl k_p0 (c_X10_deed k_p0 hq) rfl rfl (Nat.le_of_ble_eq_true rfl) dX10_specials_17 ⟨Nat.le_of_ble_eq_true rfl, Nat.le_of_ble_eq_true rfl⟩) hS (fun S5 H locs hf hR hS => ?_)
    refine lv_aload_n B.1.1 B.1.2.1 dX10_specials_20 rfl (hl.at 0 rfl) ?_
    refine lv_sipush (v := 159) B.1.1 B.1.2.1 dX10_specials_21 (by decide) ?_
    refine lv_aload_n B.1.1 B.1.2.1 dX10_specials_24 rfl (hl.at 0 rfl) ?_
    refine y_getI B hR k_p0 fl_X10_334 dX10_specials_25 ?_
    refine y_cv hf (fun q hq => x_runV (ci := 10) (C := RX10) B.1 B.2.2.2 hl hR hS cm_X10_71 ⟨rfl, rfl, Nat.le_of_ble_eq_true rfl, Nat.le_of_ble_eq_true rfl⟩ (by decide) rfl k_p0 (c_X10_put k_p0 hq) rfl rfl (Nat.le_of_ble_eq_true rfl) dX10_specials_28 ⟨Nat.le_of_ble_eq_true rfl, Nat.le_of_ble_eq_true rfl⟩) hS (fun S6 H locs hf hR hS => ?_)
    refine lv_iconst (v := 0) B.1.1 B.1.2.1 dX10_specials_31 (by decide) ?_
    refine y_istore_n B hl hf dX10_specials_32 rfl (by decide) rfl (fun v7 ls hf hl => ?_)
    have hl : xL ls 3 [_, _, _] := hl
    exact w_X10_specials_33 B xfu _ _ _ _ _ _ k_p0 hf hR hS (hl.drop [true, false, true] rfl)
  · refine lv_iconst (v := -1) B.1.1 B.1.2.1 dX10_specials_14 (by decide) ?_
    exact y_iret B hR hS hf dX10_specials_15
abbrev xr_X10_special : Room := { frames := 7, cells := 0, slots := 0, locals := 148 }
def f_X10_special (T : xT) (S : xS) (p0 : Nat) (p1 : Int32) (p2 : Int32) : Option (Int32 × xS) := xc (f_X10_get T S p0 ((159 : Int32))) (fun r2 S1 => xc (f_X10_isIn T S1 p1 ((0 : Int32)) ((r2 - (1 : Int32)))) (fun r4 S3 => if r4 = (0 : Int32) then some ((-1000000000 : Int32), S3) else xc (f_X10_isIn T S3 p2 ((0 : Int32)) ((2 : Int32))) (fun r6 S5 => if r6 = (0 : Int32) then some ((-1000000000 : Int32), S5) else xc (f_X10_specialAt T S5 p1) (fun r8 S7 => xl r8 (fun v9 => if p2 = (0 : Int32) then xc (f_X10_get T S7 p0 v9) (fun r19 S18 => some (r19, S18)) else if p2 = (1 : Int32) then xc (f_X10_get T S7 p0 ((v9 + (2 : Int32)))) (fun r13 S12 => xc (f_X10_get T S12 p0 ((v9 + (3 : Int32)))) (fun r15 S14 => xc (f_X10_worked T S14 p0 r13 r15) (fun r17 S16 => some (r17, S16)))) else xc (f_X10_givesNow T S7 p0 p1) (fun r11 S10 => some (r11, S10)))))))
set_option maxRecDepth 100000 in
set_option maxHeartbeats 4000000 in
theorem c_X10_special {l : Launch} {z : Nat} {D : va_G} {dA : Nat → ClassId} {T : xT} {S : xS} {p0 : Nat} {p1 : Int32} {p2 : Int32} (k_p0 : xlk T p0 10 = true) {q : Int32 × xS} (hf : f_X10_special T S p0 p1 p2 = some q) : Met l yX10_special (xws yX10_special cX10_special 4 (some .int)) xr_X10_special (xPc z D dA T S [.ref (z + p0), .int p1, .int p2]) (xQi z D dA T q) 0 0 (xA z) := by
  refine x_met RX10 (by decide) rfl (Nat.le_of_ble_eq_true rfl) ?_
  intro p e s m below meth c ls _ X hr hlk hml _ hR hS hl
  have B : xB p s m _ meth c cX10_special RX10 4 (some .int) D dA := ⟨X, hr, hlk, hml⟩
  have hl : xL ls 4 [_, _, _, _] := hl
  unfold f_X10_special at hf
  refine lv_iload_n B.1.1 B.1.2.1 dX10_special_0 rfl (hl.at 1 rfl) ?_
  refine lv_iconst (v := 0) B.1.1 B.1.2.1 dX10_special_1 (by decide) ?_
  refine lv_aload_n B.1.1 B.1.2.1 dX10_special_2 rfl (hl.at 0 rfl) ?_
  refine lv_sipush (v := 159) B.1.1 B.1.2.1 dX10_special_3 (by decide) ?_
  refine y_ci hf (fun q hq => x_runV (ci := 10) (C := RX10) B.1 B.2.2.2 hl hR hS cm_X10_193 ⟨rfl, rfl, Nat.le_of_ble_eq_true rfl, Nat.le_of_ble_eq_true rfl⟩ (by decide) rfl k_p0 (c_X10_get k_p0 hq) rfl rfl (Nat.le_of_ble_eq_true rfl) dX10_special_6 ⟨Nat.le_of_ble_eq_true rfl, Nat.le_of_ble_eq_true rfl⟩) hS (fun r2 S1 H locs hf hR hS => ?_)
  refine lv_iconst (v := 1) B.1.1 B.1.2.1 dX10_special_9 (by decide) ?_
  refine lv_isub B.1.1 B.1.2.1 dX10_special_10 ?_
  refine y_ci hf (fun q hq => y_runS B.1 B.2.2.2 hl hR hS cm_X10_81 ⟨rfl, rfl, Nat.le_of_ble_eq_true rfl, Nat.le_of_ble_eq_true rfl⟩ (c_X10_isIn hq) rfl rfl (Nat.le_of_ble_eq_true rfl) dX10_special_11 ⟨Nat.le_of_ble_eq_true rfl, Nat.le_of_ble_eq_true rfl⟩) hS (fun r4 S3 H locs hf hR hS => ?_)
  refine y_if_eq (tgt := 26) B hf dX10_special_14 (by decide) (fun hf => ?_) (fun hf => ?_)
  · refine lv_ldc (v := -1000000000) B.1.1 B.1.2.1 B.1.2.2.1 (B.1.2.2.2.1 _ tw_1301) dX10_special_26 ?_
    exact y_iret B hR hS hf dX10_special_28
  · refine lv_iload_n B.1.1 B.1.2.1 dX10_special_17 rfl (hl.at 2 rfl) ?_
    refine lv_iconst (v := 0) B.1.1 B.1.2.1 dX10_special_18 (by decide) ?_
    refine lv_iconst (v := 2) B.1.1 B.1.2.1 dX10_special_19 (by decide) ?_
    refine y_ci hf (fun q hq => y_runS B.1 B.2.2.2 hl hR hS cm_X10_81 ⟨rfl, rfl, Nat.le_of_ble_eq_true rfl, Nat.le_of_ble_eq_true rfl⟩ (c_X10_isIn hq) rfl rfl (Nat.le_of_ble_eq_true rfl) dX10_special_20 ⟨Nat.le_of_ble_eq_true rfl, Nat.le_of_ble_eq_true rfl⟩) hS (fun r6 S5 H locs hf hR hS => ?_)
    refine y_if_ne (tgt := 29) B hf dX10_special_23 (by decide) (fun hf => ?_) (fun hf => ?_)
    · refine lv_iload_n B.1.1 B.1.2.1 dX10_special_29 rfl (hl.at 1 rfl) ?_
      refine y_ci hf (fun q hq => y_runS B.1 B.2.2.2 hl hR hS cm_X10_268 ⟨rfl, rfl, Nat.le_of_ble_eq_true rfl, Nat.le_of_ble_eq_true rfl⟩ (c_X10_specialAt hq) rfl rfl (Nat.le_of_ble_eq_true rfl) dX10_special_30 ⟨Nat.le_of_ble_eq_true rfl, Nat.le_of_ble_eq_true rfl⟩) hS (fun r8 S7 H locs hf hR hS => ?_)
      refine y_istore_n B hl hf dX10_special_33 rfl (by decide) rfl (fun v9 ls hf hl => ?_)
      have hl : xL ls 4 [_, _, _, _] := hl
      refine lv_iload_n B.1.1 B.1.2.1 dX10_special_34 rfl (hl.at 2 rfl) ?_
      refine y_if_ne (tgt := 46) B hf dX10_special_35 (by decide) (fun hf => ?_) (fun hf => ?_)
      · refine lv_iload_n B.1.1 B.1.2.1 dX10_special_46 rfl (hl.at 2 rfl) ?_
        refine lv_iconst (v := 1) B.1.1 B.1.2.1 dX10_special_47 (by decide) ?_
        refine y_icmp_ne (tgt := 72) B hf dX10_special_48 (by decide) (fun hf => ?_) (fun hf => ?_)
        · refine lv_aload_n B.1.1 B.1.2.1 dX10_special_72 rfl (hl.at 0 rfl) ?_
          refine lv_iload_n B.1.1 B.1.2.1 dX10_special_73 rfl (hl.at 1 rfl) ?_
          refine y_ci hf (fun q hq => x_runV (ci := 10) (C := RX10) B.1 B.2.2.2 hl hR hS cm_X10_265 ⟨rfl, rfl, Nat.le_of_ble_eq_true rfl, Nat.le_of_ble_eq_true rfl⟩ (by decide) rfl k_p0 (c_X10_givesNow k_p0 hq) rfl rfl (Nat.le_of_ble_eq_true rfl) dX10_special_74 ⟨Nat.le_of_ble_eq_true rfl, Nat.le_of_ble_eq_true rfl⟩) hS (fun r11 S10 H locs hf hR hS => ?_)
          exact y_iret B hR hS hf dX10_special_77
        · refine lv_aload_n B.1.1 B.1.2.1 dX10_special_51 rfl (hl.at 0 rfl) ?_
          refine lv_aload_n B.1.1 B.1.2.1 dX10_special_52 rfl (hl.at 0 rfl) ?_
          refine lv_iload_n B.1.1 B.1.2.1 dX10_special_53 rfl (hl.at 3 rfl) ?_
          refine lv_iconst (v := 2) B.1.1 B.1.2.1 dX10_special_54 (by decide) ?_
          refine lv_iadd B.1.1 B.1.2.1 dX10_special_55 ?_
          refine y_ci hf (fun q hq => x_runV (ci := 10) (C := RX10) B.1 B.2.2.2 hl hR hS cm_X10_193 ⟨rfl, rfl, Nat.le_of_ble_eq_true rfl, Nat.le_of_ble_eq_true rfl⟩ (by decide) rfl k_p0 (c_X10_get k_p0 hq) rfl rfl (Nat.le_of_ble_eq_true rfl) dX10_special_56 ⟨Nat.le_of_ble_eq_true rfl, Nat.le_of_ble_eq_true rfl⟩) hS (fun r13 S12 H locs hf hR hS => ?_)
          refine lv_aload_n B.1.1 B.1.2.1 dX10_special_59 rfl (hl.at 0 rfl) ?_
          refine lv_iload_n B.1.1 B.1.2.1 dX10_special_60 rfl (hl.at 3 rfl) ?_
          refine lv_iconst (v := 3) B.1.1 B.1.2.1 dX10_special_61 (by decide) ?_
          refine lv_iadd B.1.1 B.1.2.1 dX10_special_62 ?_
          refine y_ci hf (fun q hq => x_runV (ci := 10) (C := RX10) B.1 B.2.2.2 hl hR hS cm_X10_193 ⟨rfl, rfl, Nat.le_of_ble_eq_true rfl, Nat.le_of_ble_eq_true rfl⟩ (by decide) rfl k_p0 (c_X10_get k_p0 hq) rfl rfl (Nat.le_of_ble_eq_true rfl) dX10_special_63 ⟨Nat.le_of_ble_eq_true rfl, Nat.le_of_ble_eq_true rfl⟩) hS (fun r15 S14 H locs hf hR hS => ?_)
          refine y_ci hf (fun q hq => x_runV (ci := 10) (C := RX10) B.1 B.2.2.2 hl hR hS cm_X10_353 ⟨rfl, rfl, Nat.le_of_ble_eq_true rfl, Nat.le_of_ble_eq_true rfl⟩ (by decide) rfl k_p0 (c_X10_worked k_p0 hq) rfl rfl (Nat.le_of_ble_eq_true rfl) dX10_special_66 ⟨Nat.le_of_ble_eq_true rfl, Nat.le_of_ble_eq_true rfl⟩) hS (fun r17 S16 H locs hf hR hS => ?_)
          refine lv_goto (tgt := 77) B.1.1 B.1.2.1 dX10_special_69 (by decide) ?_
          exact y_iret B hR hS hf dX10_special_77
      · refine lv_aload_n B.1.1 B.1.2.1 dX10_special_38 rfl (hl.at 0 rfl) ?_
        refine lv_iload_n B.1.1 B.1.2.1 dX10_special_39 rfl (hl.at 3 rfl) ?_
        refine y_ci hf (fun q hq => x_runV (ci := 10) (C := RX10) B.1 B.2.2.2 hl hR hS cm_X10_193 ⟨rfl, rfl, Nat.le_of_ble_eq_true rfl, Nat.le_of_ble_eq_true rfl⟩ (by decide) rfl k_p0 (c_X10_get k_p0 hq) rfl rfl (Nat.le_of_ble_eq_true rfl) dX10_special_40 ⟨Nat.le_of_ble_eq_true rfl, Nat.le_of_ble_eq_true rfl⟩) hS (fun r19 S18 H locs hf hR hS => ?_)
        refine lv_goto (tgt := 77) B.1.1 B.1.2.1 dX10_special_43 (by decide) ?_
        exact y_iret B hR hS hf dX10_special_77
    · refine lv_ldc (v := -1000000000) B.1.1 B.1.2.1 B.1.2.2.1 (B.1.2.2.2.1 _ tw_1301) dX10_special_26 ?_
      exact y_iret B hR hS hf dX10_special_28
abbrev xr_X10_become : Room := { frames := 3, cells := 0, slots := 0, locals := 56 }
def f_X10_become (T : xT) (S : xS) (p0 : Nat) (p1 : Int32) (p2 : Int32) : Option (Int32 × xS) := xcv (f_X10_deed T S p0) (fun S1 => xc (f_X10_get T S1 p0 p1) (fun r3 S2 => xl r3 (fun v4 => xcv (f_X10_put T S2 p0 p1 p2) (fun S5 => some (v4, S5)))))
set_option maxRecDepth 100000 in
set_option maxHeartbeats 4000000 in
theorem c_X10_become {l : Launch} {z : Nat} {D : va_G} {dA : Nat → ClassId} {T : xT} {S : xS} {p0 : Nat} {p1 : Int32} {p2 : Int32} (k_p0 : xlk T p0 10 = true) {q : Int32 × xS} (hf : f_X10_become T S p0 p1 p2 = some q) : Met l yX10_become (xws yX10_become cX10_become 4 (some .int)) xr_X10_become (xPc z D dA T S [.ref (z + p0), .int p1, .int p2]) (xQi z D dA T q) 0 0 (xA z) := by
  refine x_met RX10 (by decide) rfl (Nat.le_of_ble_eq_true rfl) ?_
  intro p e s m below meth c ls _ X hr hlk hml _ hR hS hl
  have B : xB p s m _ meth c cX10_become RX10 4 (some .int) D dA := ⟨X, hr, hlk, hml⟩
  have hl : xL ls 4 [_, _, _, _] := hl
  unfold f_X10_become at hf
  refine lv_aload_n B.1.1 B.1.2.1 dX10_become_0 rfl (hl.at 0 rfl) ?_
  refine y_cv hf (fun q hq => x_runV (ci := 10) (C := RX10) B.1 B.2.2.2 hl hR hS cm_X10_85 ⟨rfl, rfl, Nat.le_of_ble_eq_true rfl, Nat.le_of_ble_eq_true rfl⟩ (by decide) rfl k_p0 (c_X10_deed k_p0 hq) rfl rfl (Nat.le_of_ble_eq_true rfl) dX10_become_1 ⟨Nat.le_of_ble_eq_true rfl, Nat.le_of_ble_eq_true rfl⟩) hS (fun S1 H locs hf hR hS => ?_)
  refine lv_aload_n B.1.1 B.1.2.1 dX10_become_4 rfl (hl.at 0 rfl) ?_
  refine lv_iload_n B.1.1 B.1.2.1 dX10_become_5 rfl (hl.at 1 rfl) ?_
  refine y_ci hf (fun q hq => x_runV (ci := 10) (C := RX10) B.1 B.2.2.2 hl hR hS cm_X10_193 ⟨rfl, rfl, Nat.le_of_ble_eq_true rfl, Nat.le_of_ble_eq_true rfl⟩ (by decide) rfl k_p0 (c_X10_get k_p0 hq) rfl rfl (Nat.le_of_ble_eq_true rfl) dX10_become_6 ⟨Nat.le_of_ble_eq_true rfl, Nat.le_of_ble_eq_true rfl⟩) hS (fun r3 S2 H locs hf hR hS => ?_)
  refine y_istore_n B hl hf dX10_become_9 rfl (by decide) rfl (fun v4 ls hf hl => ?_)
  have hl : xL ls 4 [_, _, _, _] := hl
  refine lv_aload_n B.1.1 B.1.2.1 dX10_become_10 rfl (hl.at 0 rfl) ?_
  refine lv_iload_n B.1.1 B.1.2.1 dX10_become_11 rfl (hl.at 1 rfl) ?_
  refine lv_iload_n B.1.1 B.1.2.1 dX10_become_12 rfl (hl.at 2 rfl) ?_
  refine y_cv hf (fun q hq => x_runV (ci := 10) (C := RX10) B.1 B.2.2.2 hl hR hS cm_X10_71 ⟨rfl, rfl, Nat.le_of_ble_eq_true rfl, Nat.le_of_ble_eq_true rfl⟩ (by decide) rfl k_p0 (c_X10_put k_p0 hq) rfl rfl (Nat.le_of_ble_eq_true rfl) dX10_become_13 ⟨Nat.le_of_ble_eq_true rfl, Nat.le_of_ble_eq_true rfl⟩) hS (fun S5 H locs hf hR hS => ?_)
  refine lv_iload_n B.1.1 B.1.2.1 dX10_become_16 rfl (hl.at 3 rfl) ?_
  exact y_iret B hR hS hf dX10_become_17
abbrev xr_X10_duty : Room := { frames := 4, cells := 0, slots := 0, locals := 79 }
def f_X10_duty (T : xT) (S : xS) (p0 : Nat) (p1 : Int32) (p2 : Int32) : Option (Int32 × xS) := xc (f_X10_isThere T S p0 p1) (fun r2 S1 => if r2 = (0 : Int32) then some ((-1 : Int32), S1) else xc (f_X10_isIn T S1 p2 ((0 : Int32)) ((100000 : Int32))) (fun r4 S3 => if r4 = (0 : Int32) then some ((-1 : Int32), S3) else xc (f_X10_become T S3 p0 (((13 : Int32) + p1)) p2) (fun r6 S5 => some (r6, S5))))
set_option maxRecDepth 100000 in
set_option maxHeartbeats 4000000 in
theorem c_X10_duty {l : Launch} {z : Nat} {D : va_G} {dA : Nat → ClassId} {T : xT} {S : xS} {p0 : Nat} {p1 : Int32} {p2 : Int32} (k_p0 : xlk T p0 10 = true) {q : Int32 × xS} (hf : f_X10_duty T S p0 p1 p2 = some q) : Met l yX10_duty (xws yX10_duty cX10_duty 3 (some .int)) xr_X10_duty (xPc z D dA T S [.ref (z + p0), .int p1, .int p2]) (xQi z D dA T q) 0 0 (xA z) := by
  refine x_met RX10 (by decide) rfl (Nat.le_of_ble_eq_true rfl) ?_
  intro p e s m below meth c ls _ X hr hlk hml _ hR hS hl
  have B : xB p s m _ meth c cX10_duty RX10 3 (some .int) D dA := ⟨X, hr, hlk, hml⟩
  have hl : xL ls 3 [_, _, _] := hl
  unfold f_X10_duty at hf
  refine lv_aload_n B.1.1 B.1.2.1 dX10_duty_0 rfl (hl.at 0 rfl) ?_
  refine lv_iload_n B.1.1 B.1.2.1 dX10_duty_1 rfl (hl.at 1 rfl) ?_
  refine y_ci hf (fun q hq => x_runV (ci := 10) (C := RX10) B.1 B.2.2.2 hl hR hS cm_X10_203 ⟨rfl, rfl, Nat.le_of_ble_eq_true rfl, Nat.le_of_ble_eq_true rfl⟩ (by decide) rfl k_p0 (c_X10_isThere k_p0 hq) rfl rfl (Nat.le_of_ble_eq_true rfl) dX10_duty_2 ⟨Nat.le_of_ble_eq_true rfl, Nat.le_of_ble_eq_true rfl⟩) hS (fun r2 S1 H locs hf hR hS => ?_)
  refine y_if_eq (tgt := 31) B hf dX10_duty_5 (by decide) (fun hf => ?_) (fun hf => ?_)
  · refine lv_iconst (v := -1) B.1.1 B.1.2.1 dX10_duty_31 (by decide) ?_
    exact y_iret B hR hS hf dX10_duty_32
  · refine lv_iload_n B.1.1 B.1.2.1 dX10_duty_8 rfl (hl.at 2 rfl) ?_
    refine lv_iconst (v := 0) B.1.1 B.1.2.1 dX10_duty_9 (by decide) ?_
    refine lv_ldcw (v := 100000) B.1.1 B.1.2.1 B.1.2.2.1 (B.1.2.2.2.1 _ tw_1517) dX10_duty_10 ?_
    refine y_ci hf (fun q hq => y_runS B.1 B.2.2.2 hl hR hS cm_X10_81 ⟨rfl, rfl, Nat.le_of_ble_eq_true rfl, Nat.le_of_ble_eq_true rfl⟩ (c_X10_isIn hq) rfl rfl (Nat.le_of_ble_eq_true rfl) dX10_duty_13 ⟨Nat.le_of_ble_eq_true rfl, Nat.le_of_ble_eq_true rfl⟩) hS (fun r4 S3 H locs hf hR hS => ?_)
    refine y_if_eq (tgt := 31) B hf dX10_duty_16 (by decide) (fun hf => ?_) (fun hf => ?_)
    · refine lv_iconst (v := -1) B.1.1 B.1.2.1 dX10_duty_31 (by decide) ?_
      exact y_iret B hR hS hf dX10_duty_32
    · refine lv_aload_n B.1.1 B.1.2.1 dX10_duty_19 rfl (hl.at 0 rfl) ?_
      refine lv_bipush (v := 13) B.1.1 B.1.2.1 dX10_duty_20 (by decide) ?_
      refine lv_iload_n B.1.1 B.1.2.1 dX10_duty_22 rfl (hl.at 1 rfl) ?_
      refine lv_iadd B.1.1 B.1.2.1 dX10_duty_23 ?_
      refine lv_iload_n B.1.1 B.1.2.1 dX10_duty_24 rfl (hl.at 2 rfl) ?_
      refine y_ci hf (fun q hq => x_runV (ci := 10) (C := RX10) B.1 B.2.2.2 hl hR hS cm_X10_361 ⟨rfl, rfl, Nat.le_of_ble_eq_true rfl, Nat.le_of_ble_eq_true rfl⟩ (by decide) rfl k_p0 (c_X10_become k_p0 hq) rfl rfl (Nat.le_of_ble_eq_true rfl) dX10_duty_25 ⟨Nat.le_of_ble_eq_true rfl, Nat.le_of_ble_eq_true rfl⟩) hS (fun r6 S5 H locs hf hR hS => ?_)
      refine lv_goto (tgt := 32) B.1.1 B.1.2.1 dX10_duty_28 (by decide) ?_
      exact y_iret B hR hS hf dX10_duty_32
