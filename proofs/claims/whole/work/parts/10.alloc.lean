section XPF
variable {p : Program} {l : Launch} {e : Env} {R : Room} {s : State} {m : MethodId} {args : Array Value} {below : List Frame} {meth : Method} {c : Code} {H : Heap} {locs : List Loc} {cells slots : Nat} {Q : State → Prop}
variable {cc : ByteArray} {pc : Nat} {ls : Array Slot} {rest : List Value} {own : String} {z : Nat} {D : va_G} {dA : Nat → ClassId} {T : xT} {S : xS} {H0 : Heap} {α : Type} {o : α} {maxL : Nat} {ret : Option FieldType}
theorem y_putF (B : xB p s m args meth c cc own maxL ret D dA) (hR : xRel z D dA T S H) (hS : va_S (xA z) H0 H locs) (hini : meth.name = "<init>") {a ci k index j : Nat} {t : FieldType} {K : xS → Option α} (hf : xpr S a k j K = some o) (hn : ∀ q, narrow t (.ref q) = .ref q) (hfit : ∀ q, fits t (.ref q) = true) (hk : xlk T a ci = true) (hl : xFf own index ci k 2 t) (hdg : decode cc pc = .ok (.putfield index, 3))
    (kk : ∀ (S1 : xS) (H1 : Heap) (locs1 : List Loc), K S1 = some o → xRel z D dA T S1 H1 → va_S (xA z) H0 H1 locs1 → W p l e R s m args below meth c H1 locs1 cells slots Q (F0 m (pc + 3) ls rest)) : W p l e R s m args below meth c H locs cells slots Q (F0 m pc ls (.ref (z + j) :: .ref (z + a) :: rest)) := x_putF B.1 hR hS hini hn hfit hk hl hdg (fun H1 locs1 h1 h2 => kk _ H1 locs1 hf h1 h2)
end XPF
abbrev xr_X0_init : Room := { frames := 3, cells := 4, slots := 120, locals := 85 }
set_option maxRecDepth 100000 in
def f_X0_init (T : xT) (S : xS) (p0 : Nat) : Option (xT × xS) := xpi S p0 1 ((-1 : Int32)) (fun S1 => xnw T S1 20 30 (fun a2 T3 S4 => xgd (xlk T3 p0 0) (xpr S4 p0 2 a2 (fun S5 => xnw T3 S5 20 30 (fun a6 T7 S8 => xgd (xlk T7 p0 0) (xpr S8 p0 3 a6 (fun S9 => xnw T7 S9 20 30 (fun a10 T11 S12 => xgd (xlk T11 p0 0) (xpr S12 p0 4 a10 (fun S13 => xnw T11 S13 20 30 (fun a14 T15 S16 => xgd (xlk T15 p0 0) (xpr S16 p0 5 a14 (fun S17 => some (T15, S17))))))))))))))
set_option maxRecDepth 100000 in
set_option maxHeartbeats 4000000 in
theorem c_X0_init {l : Launch} {z : Nat} {D : va_G} {dA : Nat → ClassId} {T : xT} {S : xS} {p0 : Nat} (k_p0 : xlk T p0 0 = true) {q : xT × xS} (hf : f_X0_init T S p0 = some q) : Met l yX0_init (xws yX0_init cX0_init 1 none) xr_X0_init (xPc z D dA T S [.ref (z + p0)]) (xQvT z D dA q) 4 120 (xA z) := by
  refine x_met RX0 (by decide) rfl (Nat.le_of_ble_eq_true rfl) ?_
  intro p e s m below meth c ls _ X hr hlk hml hnm hR hS hl
  have B : xB p s m _ meth c cX0_init RX0 1 none D dA := ⟨X, hr, hlk, hml⟩
  have hl : xL ls 1 [_] := hl
  unfold f_X0_init at hf
  refine lv_aload_n B.1.1 B.1.2.1 dX0_init_0 rfl (hl.at 0 rfl) ?_
  refine y_obj B hl ob_X0_3 ⟨Nat.le_of_ble_eq_true rfl, Nat.le_of_ble_eq_true rfl⟩ dX0_init_1 ?_
  refine lv_aload_n B.1.1 B.1.2.1 dX0_init_4 rfl (hl.at 0 rfl) ?_
  refine lv_iconst (v := -1) B.1.1 B.1.2.1 dX0_init_5 (by decide) ?_
  refine y_putI B hR hS hf k_p0 fp_X0_9 dX0_init_6 (fun S1 H locs hf hR hS => ?_)
  refine lv_aload_n B.1.1 B.1.2.1 dX0_init_9 rfl (hl.at 0 rfl) ?_
  refine lv_bipush (v := 30) B.1.1 B.1.2.1 dX0_init_10 (by decide) ?_
  refine y_newaI (N := 30) B hR hS hf tw_61 (by decide) (by decide +kernel) (Nat.le_of_ble_eq_true rfl) ⟨Nat.le_of_ble_eq_true rfl, Nat.le_of_ble_eq_true rfl⟩ dX0_init_12 (fun a2 T3 S4 H k_a2 hf hR hS => ?_)
  obtain ⟨k_p0, hf⟩ := x_ok hf
  refine y_putF B hR hS hnm hf (fun _ => rfl) (fun _ => rfl) k_p0 ff_X0_15 dX0_init_14 (fun S5 H locs hf hR hS => ?_)
  refine lv_aload_n B.1.1 B.1.2.1 dX0_init_17 rfl (hl.at 0 rfl) ?_
  refine lv_bipush (v := 30) B.1.1 B.1.2.1 dX0_init_18 (by decide) ?_
  refine y_newaI (N := 30) B hR hS hf tw_61 (by decide) (by decide +kernel) (Nat.le_of_ble_eq_true rfl) ⟨Nat.le_of_ble_eq_true rfl, Nat.le_of_ble_eq_true rfl⟩ dX0_init_20 (fun a6 T7 S8 H k_a6 hf hR hS => ?_)
  obtain ⟨k_p0, hf⟩ := x_ok hf
  refine y_putF B hR hS hnm hf (fun _ => rfl) (fun _ => rfl) k_p0 ff_X0_19 dX0_init_22 (fun S9 H locs hf hR hS => ?_)
  refine lv_aload_n B.1.1 B.1.2.1 dX0_init_25 rfl (hl.at 0 rfl) ?_
  refine lv_bipush (v := 30) B.1.1 B.1.2.1 dX0_init_26 (by decide) ?_
  refine y_newaI (N := 30) B hR hS hf tw_61 (by decide) (by decide +kernel) (Nat.le_of_ble_eq_true rfl) ⟨Nat.le_of_ble_eq_true rfl, Nat.le_of_ble_eq_true rfl⟩ dX0_init_28 (fun a10 T11 S12 H k_a10 hf hR hS => ?_)
  obtain ⟨k_p0, hf⟩ := x_ok hf
  refine y_putF B hR hS hnm hf (fun _ => rfl) (fun _ => rfl) k_p0 ff_X0_22 dX0_init_30 (fun S13 H locs hf hR hS => ?_)
  refine lv_aload_n B.1.1 B.1.2.1 dX0_init_33 rfl (hl.at 0 rfl) ?_
  refine lv_bipush (v := 30) B.1.1 B.1.2.1 dX0_init_34 (by decide) ?_
  refine y_newaI (N := 30) B hR hS hf tw_61 (by decide) (by decide +kernel) (Nat.le_of_ble_eq_true rfl) ⟨Nat.le_of_ble_eq_true rfl, Nat.le_of_ble_eq_true rfl⟩ dX0_init_36 (fun a14 T15 S16 H k_a14 hf hR hS => ?_)
  obtain ⟨k_p0, hf⟩ := x_ok hf
  refine y_putF B hR hS hnm hf (fun _ => rfl) (fun _ => rfl) k_p0 ff_X0_25 dX0_init_38 (fun S17 H locs hf hR hS => ?_)
  refine W.widen (k := 4) (n := 120) (Nat.le_of_ble_eq_true rfl) (Nat.le_of_ble_eq_true rfl) ?_
  exact y_vretT B hR hS hf dX0_init_41
abbrev xr_X1_init : Room := { frames := 3, cells := 8, slots := 64, locals := 85 }
set_option maxRecDepth 100000 in
def f_X1_init (T : xT) (S : xS) (p0 : Nat) : Option (xT × xS) := xnw T S 20 8 (fun a1 T2 S3 => xgd (xlk T2 p0 1) (xpr S3 p0 6 a1 (fun S4 => xnw T2 S4 20 8 (fun a5 T6 S7 => xgd (xlk T6 p0 1) (xpr S7 p0 7 a5 (fun S8 => xnw T6 S8 20 8 (fun a9 T10 S11 => xgd (xlk T10 p0 1) (xpr S11 p0 8 a9 (fun S12 => xnw T10 S12 20 8 (fun a13 T14 S15 => xgd (xlk T14 p0 1) (xpr S15 p0 9 a13 (fun S16 => xnw T14 S16 20 8 (fun a17 T18 S19 => xgd (xlk T18 p0 1) (xpr S19 p0 10 a17 (fun S20 => xnw T18 S20 20 8 (fun a21 T22 S23 => xgd (xlk T22 p0 1) (xpr S23 p0 11 a21 (fun S24 => xnw T22 S24 20 8 (fun a25 T26 S27 => xgd (xlk T26 p0 1) (xpr S27 p0 12 a25 (fun S28 => xnw T26 S28 20 8 (fun a29 T30 S31 => xgd (xlk T30 p0 1) (xpr S31 p0 13 a29 (fun S32 => some (T30, S32)))))))))))))))))))))))))
set_option maxRecDepth 100000 in
set_option maxHeartbeats 4000000 in
theorem c_X1_init {l : Launch} {z : Nat} {D : va_G} {dA : Nat → ClassId} {T : xT} {S : xS} {p0 : Nat} (k_p0 : xlk T p0 1 = true) {q : xT × xS} (hf : f_X1_init T S p0 = some q) : Met l yX1_init (xws yX1_init cX1_init 1 none) xr_X1_init (xPc z D dA T S [.ref (z + p0)]) (xQvT z D dA q) 8 64 (xA z) := by
  refine x_met RX1 (by decide) rfl (Nat.le_of_ble_eq_true rfl) ?_
  intro p e s m below meth c ls _ X hr hlk hml hnm hR hS hl
  have B : xB p s m _ meth c cX1_init RX1 1 none D dA := ⟨X, hr, hlk, hml⟩
  have hl : xL ls 1 [_] := hl
  unfold f_X1_init at hf
  refine lv_aload_n B.1.1 B.1.2.1 dX1_init_0 rfl (hl.at 0 rfl) ?_
  refine y_obj B hl ob_X1_3 ⟨Nat.le_of_ble_eq_true rfl, Nat.le_of_ble_eq_true rfl⟩ dX1_init_1 ?_
  refine lv_aload_n B.1.1 B.1.2.1 dX1_init_4 rfl (hl.at 0 rfl) ?_
  refine lv_bipush (v := 8) B.1.1 B.1.2.1 dX1_init_5 (by decide) ?_
  refine y_newaI (N := 8) B hR hS hf tw_61 (by decide) (by decide +kernel) (Nat.le_of_ble_eq_true rfl) ⟨Nat.le_of_ble_eq_true rfl, Nat.le_of_ble_eq_true rfl⟩ dX1_init_7 (fun a1 T2 S3 H k_a1 hf hR hS => ?_)
  obtain ⟨k_p0, hf⟩ := x_ok hf
  refine y_putF B hR hS hnm hf (fun _ => rfl) (fun _ => rfl) k_p0 ff_X1_9 dX1_init_9 (fun S4 H locs hf hR hS => ?_)
  refine lv_aload_n B.1.1 B.1.2.1 dX1_init_12 rfl (hl.at 0 rfl) ?_
  refine lv_bipush (v := 8) B.1.1 B.1.2.1 dX1_init_13 (by decide) ?_
  refine y_newaI (N := 8) B hR hS hf tw_61 (by decide) (by decide +kernel) (Nat.le_of_ble_eq_true rfl) ⟨Nat.le_of_ble_eq_true rfl, Nat.le_of_ble_eq_true rfl⟩ dX1_init_15 (fun a5 T6 S7 H k_a5 hf hR hS => ?_)
  obtain ⟨k_p0, hf⟩ := x_ok hf
  refine y_putF B hR hS hnm hf (fun _ => rfl) (fun _ => rfl) k_p0 ff_X1_15 dX1_init_17 (fun S8 H locs hf hR hS => ?_)
  refine lv_aload_n B.1.1 B.1.2.1 dX1_init_20 rfl (hl.at 0 rfl) ?_
  refine lv_bipush (v := 8) B.1.1 B.1.2.1 dX1_init_21 (by decide) ?_
  refine y_newaI (N := 8) B hR hS hf tw_61 (by decide) (by decide +kernel) (Nat.le_of_ble_eq_true rfl) ⟨Nat.le_of_ble_eq_true rfl, Nat.le_of_ble_eq_true rfl⟩ dX1_init_23 (fun a9 T10 S11 H k_a9 hf hR hS => ?_)
  obtain ⟨k_p0, hf⟩ := x_ok hf
  refine y_putF B hR hS hnm hf (fun _ => rfl) (fun _ => rfl) k_p0 ff_X1_18 dX1_init_25 (fun S12 H locs hf hR hS => ?_)
  refine lv_aload_n B.1.1 B.1.2.1 dX1_init_28 rfl (hl.at 0 rfl) ?_
  refine lv_bipush (v := 8) B.1.1 B.1.2.1 dX1_init_29 (by decide) ?_
  refine y_newaI (N := 8) B hR hS hf tw_61 (by decide) (by decide +kernel) (Nat.le_of_ble_eq_true rfl) ⟨Nat.le_of_ble_eq_true rfl, Nat.le_of_ble_eq_true rfl⟩ dX1_init_31 (fun a13 T14 S15 H k_a13 hf hR hS => ?_)
  obtain ⟨k_p0, hf⟩ := x_ok hf
  refine y_putF B hR hS hnm hf (fun _ => rfl) (fun _ => rfl) k_p0 ff_X1_21 dX1_init_33 (fun S16 H locs hf hR hS => ?_)
  refine lv_aload_n B.1.1 B.1.2.1 dX1_init_36 rfl (hl.at 0 rfl) ?_
  refine lv_bipush (v := 8) B.1.1 B.1.2.1 dX1_init_37 (by decide) ?_
  refine y_newaI (N := 8) B hR hS hf tw_61 (by decide) (by decide +kernel) (Nat.le_of_ble_eq_true rfl) ⟨Nat.le_of_ble_eq_true rfl, Nat.le_of_ble_eq_true rfl⟩ dX1_init_39 (fun a17 T18 S19 H k_a17 hf hR hS => ?_)
  obtain ⟨k_p0, hf⟩ := x_ok hf
  refine y_putF B hR hS hnm hf (fun _ => rfl) (fun _ => rfl) k_p0 ff_X1_24 dX1_init_41 (fun S20 H locs hf hR hS => ?_)
  refine lv_aload_n B.1.1 B.1.2.1 dX1_init_44 rfl (hl.at 0 rfl) ?_
  refine lv_bipush (v := 8) B.1.1 B.1.2.1 dX1_init_45 (by decide) ?_
  refine y_newaI (N := 8) B hR hS hf tw_61 (by decide) (by decide +kernel) (Nat.le_of_ble_eq_true rfl) ⟨Nat.le_of_ble_eq_true rfl, Nat.le_of_ble_eq_true rfl⟩ dX1_init_47 (fun a21 T22 S23 H k_a21 hf hR hS => ?_)
  obtain ⟨k_p0, hf⟩ := x_ok hf
  refine y_putF B hR hS hnm hf (fun _ => rfl) (fun _ => rfl) k_p0 ff_X1_27 dX1_init_49 (fun S24 H locs hf hR hS => ?_)
  refine lv_aload_n B.1.1 B.1.2.1 dX1_init_52 rfl (hl.at 0 rfl) ?_
  refine lv_bipush (v := 8) B.1.1 B.1.2.1 dX1_init_53 (by decide) ?_
  refine y_newaI (N := 8) B hR hS hf tw_61 (by decide) (by decide +kernel) (Nat.le_of_ble_eq_true rfl) ⟨Nat.le_of_ble_eq_true rfl, Nat.le_of_ble_eq_true rfl⟩ dX1_init_55 (fun a25 T26 S27 H k_a25 hf hR hS => ?_)
  obtain ⟨k_p0, hf⟩ := x_ok hf
  refine y_putF B hR hS hnm hf (fun _ => rfl) (fun _ => rfl) k_p0 ff_X1_30 dX1_init_57 (fun S28 H locs hf hR hS => ?_)
  refine lv_aload_n B.1.1 B.1.2.1 dX1_init_60 rfl (hl.at 0 rfl) ?_
  refine lv_bipush (v := 8) B.1.1 B.1.2.1 dX1_init_61 (by decide) ?_
  refine y_newaI (N := 8) B hR hS hf tw_61 (by decide) (by decide +kernel) (Nat.le_of_ble_eq_true rfl) ⟨Nat.le_of_ble_eq_true rfl, Nat.le_of_ble_eq_true rfl⟩ dX1_init_63 (fun a29 T30 S31 H k_a29 hf hR hS => ?_)
  obtain ⟨k_p0, hf⟩ := x_ok hf
  refine y_putF B hR hS hnm hf (fun _ => rfl) (fun _ => rfl) k_p0 ff_X1_33 dX1_init_65 (fun S32 H locs hf hR hS => ?_)
  refine W.widen (k := 8) (n := 64) (Nat.le_of_ble_eq_true rfl) (Nat.le_of_ble_eq_true rfl) ?_
  exact y_vretT B hR hS hf dX1_init_68
abbrev xr_X2_init : Room := { frames := 3, cells := 6, slots := 48, locals := 85 }
set_option maxRecDepth 100000 in
def f_X2_init (T : xT) (S : xS) (p0 : Nat) : Option (xT × xS) := xnw T S 20 8 (fun a1 T2 S3 => xgd (xlk T2 p0 2) (xpr S3 p0 0 a1 (fun S4 => xnw T2 S4 20 8 (fun a5 T6 S7 => xgd (xlk T6 p0 2) (xpr S7 p0 1 a5 (fun S8 => xnw T6 S8 20 8 (fun a9 T10 S11 => xgd (xlk T10 p0 2) (xpr S11 p0 4 a9 (fun S12 => xnw T10 S12 20 8 (fun a13 T14 S15 => xgd (xlk T14 p0 2) (xpr S15 p0 5 a13 (fun S16 => xnw T14 S16 20 8 (fun a17 T18 S19 => xgd (xlk T18 p0 2) (xpr S19 p0 6 a17 (fun S20 => xnw T18 S20 20 8 (fun a21 T22 S23 => xgd (xlk T22 p0 2) (xpr S23 p0 7 a21 (fun S24 => some (T22, S24)))))))))))))))))))
set_option maxRecDepth 100000 in
set_option maxHeartbeats 4000000 in
theorem c_X2_init {l : Launch} {z : Nat} {D : va_G} {dA : Nat → ClassId} {T : xT} {S : xS} {p0 : Nat} (k_p0 : xlk T p0 2 = true) {q : xT × xS} (hf : f_X2_init T S p0 = some q) : Met l yX2_init (xws yX2_init cX2_init 1 none) xr_X2_init (xPc z D dA T S [.ref (z + p0)]) (xQvT z D dA q) 6 48 (xA z) := by
  refine x_met RX2 (by decide) rfl (Nat.le_of_ble_eq_true rfl) ?_
  intro p e s m below meth c ls _ X hr hlk hml hnm hR hS hl
  have B : xB p s m _ meth c cX2_init RX2 1 none D dA := ⟨X, hr, hlk, hml⟩
  have hl : xL ls 1 [_] := hl
  unfold f_X2_init at hf
  refine lv_aload_n B.1.1 B.1.2.1 dX2_init_0 rfl (hl.at 0 rfl) ?_
  refine y_obj B hl ob_X2_3 ⟨Nat.le_of_ble_eq_true rfl, Nat.le_of_ble_eq_true rfl⟩ dX2_init_1 ?_
  refine lv_aload_n B.1.1 B.1.2.1 dX2_init_4 rfl (hl.at 0 rfl) ?_
  refine lv_bipush (v := 8) B.1.1 B.1.2.1 dX2_init_5 (by decide) ?_
  refine y_newaI (N := 8) B hR hS hf tw_61 (by decide) (by decide +kernel) (Nat.le_of_ble_eq_true rfl) ⟨Nat.le_of_ble_eq_true rfl, Nat.le_of_ble_eq_true rfl⟩ dX2_init_7 (fun a1 T2 S3 H k_a1 hf hR hS => ?_)
  obtain ⟨k_p0, hf⟩ := x_ok hf
  refine y_putF B hR hS hnm hf (fun _ => rfl) (fun _ => rfl) k_p0 ff_X2_9 dX2_init_9 (fun S4 H locs hf hR hS => ?_)
  refine lv_aload_n B.1.1 B.1.2.1 dX2_init_12 rfl (hl.at 0 rfl) ?_
  refine lv_bipush (v := 8) B.1.1 B.1.2.1 dX2_init_13 (by decide) ?_
  refine y_newaI (N := 8) B hR hS hf tw_61 (by decide) (by decide +kernel) (Nat.le_of_ble_eq_true rfl) ⟨Nat.le_of_ble_eq_true rfl, Nat.le_of_ble_eq_true rfl⟩ dX2_init_15 (fun a5 T6 S7 H k_a5 hf hR hS => ?_)
  obtain ⟨k_p0, hf⟩ := x_ok hf
  refine y_putF B hR hS hnm hf (fun _ => rfl) (fun _ => rfl) k_p0 ff_X2_15 dX2_init_17 (fun S8 H locs hf hR hS => ?_)
  refine lv_aload_n B.1.1 B.1.2.1 dX2_init_20 rfl (hl.at 0 rfl) ?_
  refine lv_bipush (v := 8) B.1.1 B.1.2.1 dX2_init_21 (by decide) ?_
  refine y_newaI (N := 8) B hR hS hf tw_61 (by decide) (by decide +kernel) (Nat.le_of_ble_eq_true rfl) ⟨Nat.le_of_ble_eq_true rfl, Nat.le_of_ble_eq_true rfl⟩ dX2_init_23 (fun a9 T10 S11 H k_a9 hf hR hS => ?_)
  obtain ⟨k_p0, hf⟩ := x_ok hf
  refine y_putF B hR hS hnm hf (fun _ => rfl) (fun _ => rfl) k_p0 ff_X2_18 dX2_init_25 (fun S12 H locs hf hR hS => ?_)
  refine lv_aload_n B.1.1 B.1.2.1 dX2_init_28 rfl (hl.at 0 rfl) ?_
  refine lv_bipush (v := 8) B.1.1 B.1.2.1 dX2_init_29 (by decide) ?_
  refine y_newaI (N := 8) B hR hS hf tw_61 (by decide) (by decide +kernel) (Nat.le_of_ble_eq_true rfl) ⟨Nat.le_of_ble_eq_true rfl, Nat.le_of_ble_eq_true rfl⟩ dX2_init_31 (fun a13 T14 S15 H k_a13 hf hR hS => ?_)
  obtain ⟨k_p0, hf⟩ := x_ok hf
  refine y_putF B hR hS hnm hf (fun _ => rfl) (fun _ => rfl) k_p0 ff_X2_21 dX2_init_33 (fun S16 H locs hf hR hS => ?_)
  refine lv_aload_n B.1.1 B.1.2.1 dX2_init_36 rfl (hl.at 0 rfl) ?_
  refine lv_bipush (v := 8) B.1.1 B.1.2.1 dX2_init_37 (by decide) ?_
  refine y_newaI (N := 8) B hR hS hf tw_61 (by decide) (by decide +kernel) (Nat.le_of_ble_eq_true rfl) ⟨Nat.le_of_ble_eq_true rfl, Nat.le_of_ble_eq_true rfl⟩ dX2_init_39 (fun a17 T18 S19 H k_a17 hf hR hS => ?_)
  obtain ⟨k_p0, hf⟩ := x_ok hf
  refine y_putF B hR hS hnm hf (fun _ => rfl) (fun _ => rfl) k_p0 ff_X2_24 dX2_init_41 (fun S20 H locs hf hR hS => ?_)
  refine lv_aload_n B.1.1 B.1.2.1 dX2_init_44 rfl (hl.at 0 rfl) ?_
  refine lv_bipush (v := 8) B.1.1 B.1.2.1 dX2_init_45 (by decide) ?_
  refine y_newaI (N := 8) B hR hS hf tw_61 (by decide) (by decide +kernel) (Nat.le_of_ble_eq_true rfl) ⟨Nat.le_of_ble_eq_true rfl, Nat.le_of_ble_eq_true rfl⟩ dX2_init_47 (fun a21 T22 S23 H k_a21 hf hR hS => ?_)
  obtain ⟨k_p0, hf⟩ := x_ok hf
  refine y_putF B hR hS hnm hf (fun _ => rfl) (fun _ => rfl) k_p0 ff_X2_27 dX2_init_49 (fun S24 H locs hf hR hS => ?_)
  refine W.widen (k := 6) (n := 48) (Nat.le_of_ble_eq_true rfl) (Nat.le_of_ble_eq_true rfl) ?_
  exact y_vretT B hR hS hf dX2_init_52
abbrev xr_X3_init : Room := { frames := 3, cells := 1, slots := 400, locals := 85 }
set_option maxRecDepth 100000 in
def f_X3_init (T : xT) (S : xS) (p0 : Nat) : Option (xT × xS) := xnw T S 20 400 (fun a1 T2 S3 => xgd (xlk T2 p0 3) (xpr S3 p0 0 a1 (fun S4 => some (T2, S4))))
set_option maxRecDepth 100000 in
set_option maxHeartbeats 4000000 in
theorem c_X3_init {l : Launch} {z : Nat} {D : va_G} {dA : Nat → ClassId} {T : xT} {S : xS} {p0 : Nat} (k_p0 : xlk T p0 3 = true) {q : xT × xS} (hf : f_X3_init T S p0 = some q) : Met l yX3_init (xws yX3_init cX3_init 1 none) xr_X3_init (xPc z D dA T S [.ref (z + p0)]) (xQvT z D dA q) 1 400 (xA z) := by
  refine x_met RX3 (by decide) rfl (Nat.le_of_ble_eq_true rfl) ?_
  intro p e s m below meth c ls _ X hr hlk hml hnm hR hS hl
  have B : xB p s m _ meth c cX3_init RX3 1 none D dA := ⟨X, hr, hlk, hml⟩
  have hl : xL ls 1 [_] := hl
  unfold f_X3_init at hf
  refine lv_aload_n B.1.1 B.1.2.1 dX3_init_0 rfl (hl.at 0 rfl) ?_
  refine y_obj B hl ob_X3_3 ⟨Nat.le_of_ble_eq_true rfl, Nat.le_of_ble_eq_true rfl⟩ dX3_init_1 ?_
  refine lv_aload_n B.1.1 B.1.2.1 dX3_init_4 rfl (hl.at 0 rfl) ?_
  refine lv_sipush (v := 400) B.1.1 B.1.2.1 dX3_init_5 (by decide) ?_
  refine y_newaI (N := 400) B hR hS hf tw_61 (by decide) (by decide +kernel) (Nat.le_of_ble_eq_true rfl) ⟨Nat.le_of_ble_eq_true rfl, Nat.le_of_ble_eq_true rfl⟩ dX3_init_8 (fun a1 T2 S3 H k_a1 hf hR hS => ?_)
  obtain ⟨k_p0, hf⟩ := x_ok hf
  refine y_putF B hR hS hnm hf (fun _ => rfl) (fun _ => rfl) k_p0 ff_X3_9 dX3_init_10 (fun S4 H locs hf hR hS => ?_)
  refine W.widen (k := 1) (n := 400) (Nat.le_of_ble_eq_true rfl) (Nat.le_of_ble_eq_true rfl) ?_
  exact y_vretT B hR hS hf dX3_init_13
abbrev xr_X4_init : Room := { frames := 3, cells := 9, slots := 168, locals := 85 }
set_option maxRecDepth 100000 in
def f_X4_init (T : xT) (S : xS) (p0 : Nat) : Option (xT × xS) := xnw T S 20 8 (fun a1 T2 S3 => xgd (xlk T2 p0 4) (xpr S3 p0 2 a1 (fun S4 => xnw T2 S4 20 8 (fun a5 T6 S7 => xgd (xlk T6 p0 4) (xpr S7 p0 3 a5 (fun S8 => xnw T6 S8 20 8 (fun a9 T10 S11 => xgd (xlk T10 p0 4) (xpr S11 p0 4 a9 (fun S12 => xnw T10 S12 20 8 (fun a13 T14 S15 => xgd (xlk T14 p0 4) (xpr S15 p0 5 a13 (fun S16 => xnw T14 S16 20 8 (fun a17 T18 S19 => xgd (xlk T18 p0 4) (xpr S19 p0 6 a17 (fun S20 => xnw T18 S20 24 8 (fun a21 T22 S23 => xgd (xlk T22 p0 4) (xpr S23 p0 7 a21 (fun S24 => xnw T22 S24 20 40 (fun a25 T26 S27 => xgd (xlk T26 p0 4) (xpr S27 p0 8 a25 (fun S28 => xnw T26 S28 20 40 (fun a29 T30 S31 => xgd (xlk T30 p0 4) (xpr S31 p0 9 a29 (fun S32 => xnw T30 S32 24 40 (fun a33 T34 S35 => xgd (xlk T34 p0 4) (xpr S35 p0 10 a33 (fun S36 => some (T34, S36))))))))))))))))))))))))))))
set_option maxRecDepth 100000 in
set_option maxHeartbeats 4000000 in
theorem c_X4_init {l : Launch} {z : Nat} {D : va_G} {dA : Nat → ClassId} {T : xT} {S : xS} {p0 : Nat} (k_p0 : xlk T p0 4 = true) {q : xT × xS} (hf : f_X4_init T S p0 = some q) : Met l yX4_init (xws yX4_init cX4_init 1 none) xr_X4_init (xPc z D dA T S [.ref (z + p0)]) (xQvT z D dA q) 9 168 (xA z) := by
  refine x_met RX4 (by decide) rfl (Nat.le_of_ble_eq_true rfl) ?_
  intro p e s m below meth c ls _ X hr hlk hml hnm hR hS hl
  have B : xB p s m _ meth c cX4_init RX4 1 none D dA := ⟨X, hr, hlk, hml⟩
  have hl : xL ls 1 [_] := hl
  unfold f_X4_init at hf
  refine lv_aload_n B.1.1 B.1.2.1 dX4_init_0 rfl (hl.at 0 rfl) ?_
  refine y_obj B hl ob_X4_3 ⟨Nat.le_of_ble_eq_true rfl, Nat.le_of_ble_eq_true rfl⟩ dX4_init_1 ?_
  refine lv_aload_n B.1.1 B.1.2.1 dX4_init_4 rfl (hl.at 0 rfl) ?_
  refine lv_bipush (v := 8) B.1.1 B.1.2.1 dX4_init_5 (by decide) ?_
  refine y_newaI (N := 8) B hR hS hf tw_61 (by decide) (by decide +kernel) (Nat.le_of_ble_eq_true rfl) ⟨Nat.le_of_ble_eq_true rfl, Nat.le_of_ble_eq_true rfl⟩ dX4_init_7 (fun a1 T2 S3 H k_a1 hf hR hS => ?_)
  obtain ⟨k_p0, hf⟩ := x_ok hf
  refine y_putF B hR hS hnm hf (fun _ => rfl) (fun _ => rfl) k_p0 ff_X4_9 dX4_init_9 (fun S4 H locs hf hR hS => ?_)
  refine lv_aload_n B.1.1 B.1.2.1 dX4_init_12 rfl (hl.at 0 rfl) ?_
  refine lv_bipush (v := 8) B.1.1 B.1.2.1 dX4_init_13 (by decide) ?_
  refine y_newaI (N := 8) B hR hS hf tw_61 (by decide) (by decide +kernel) (Nat.le_of_ble_eq_true rfl) ⟨Nat.le_of_ble_eq_true rfl, Nat.le_of_ble_eq_true rfl⟩ dX4_init_15 (fun a5 T6 S7 H k_a5 hf hR hS => ?_)
  obtain ⟨k_p0, hf⟩ := x_ok hf
  refine y_putF B hR hS hnm hf (fun _ => rfl) (fun _ => rfl) k_p0 ff_X4_15 dX4_init_17 (fun S8 H locs hf hR hS => ?_)
  refine lv_aload_n B.1.1 B.1.2.1 dX4_init_20 rfl (hl.at 0 rfl) ?_
  refine lv_bipush (v := 8) B.1.1 B.1.2.1 dX4_init_21 (by decide) ?_
  refine y_newaI (N := 8) B hR hS hf tw_61 (by decide) (by decide +kernel) (Nat.le_of_ble_eq_true rfl) ⟨Nat.le_of_ble_eq_true rfl, Nat.le_of_ble_eq_true rfl⟩ dX4_init_23 (fun a9 T10 S11 H k_a9 hf hR hS => ?_)
  obtain ⟨k_p0, hf⟩ := x_ok hf
  refine y_putF B hR hS hnm hf (fun _ => rfl) (fun _ => rfl) k_p0 ff_X4_18 dX4_init_25 (fun S12 H locs hf hR hS => ?_)
  refine lv_aload_n B.1.1 B.1.2.1 dX4_init_28 rfl (hl.at 0 rfl) ?_
  refine lv_bipush (v := 8) B.1.1 B.1.2.1 dX4_init_29 (by decide) ?_
  refine y_newaI (N := 8) B hR hS hf tw_61 (by decide) (by decide +kernel) (Nat.le_of_ble_eq_true rfl) ⟨Nat.le_of_ble_eq_true rfl, Nat.le_of_ble_eq_true rfl⟩ dX4_init_31 (fun a13 T14 S15 H k_a13 hf hR hS => ?_)
  obtain ⟨k_p0, hf⟩ := x_ok hf
  refine y_putF B hR hS hnm hf (fun _ => rfl) (fun _ => rfl) k_p0 ff_X4_21 dX4_init_33 (fun S16 H locs hf hR hS => ?_)
  refine lv_aload_n B.1.1 B.1.2.1 dX4_init_36 rfl (hl.at 0 rfl) ?_
  refine lv_bipush (v := 8) B.1.1 B.1.2.1 dX4_init_37 (by decide) ?_
  refine y_newaI (N := 8) B hR hS hf tw_61 (by decide) (by decide +kernel) (Nat.le_of_ble_eq_true rfl) ⟨Nat.le_of_ble_eq_true rfl, Nat.le_of_ble_eq_true rfl⟩ dX4_init_39 (fun a17 T18 S19 H k_a17 hf hR hS => ?_)
  obtain ⟨k_p0, hf⟩ := x_ok hf
  refine y_putF B hR hS hnm hf (fun _ => rfl) (fun _ => rfl) k_p0 ff_X4_24 dX4_init_41 (fun S20 H locs hf hR hS => ?_)
  refine lv_aload_n B.1.1 B.1.2.1 dX4_init_44 rfl (hl.at 0 rfl) ?_
  refine lv_bipush (v := 8) B.1.1 B.1.2.1 dX4_init_45 (by decide) ?_
  refine y_newaC (N := 8) B hR hS hf tw_217 (by decide) (by decide +kernel) (Nat.le_of_ble_eq_true rfl) ⟨Nat.le_of_ble_eq_true rfl, Nat.le_of_ble_eq_true rfl⟩ dX4_init_47 (fun a21 T22 S23 H k_a21 hf hR hS => ?_)
  obtain ⟨k_p0, hf⟩ := x_ok hf
  refine y_putF B hR hS hnm hf (fun _ => rfl) (fun _ => rfl) k_p0 ff_X4_27 dX4_init_49 (fun S24 H locs hf hR hS => ?_)
  refine lv_aload_n B.1.1 B.1.2.1 dX4_init_52 rfl (hl.at 0 rfl) ?_
  refine lv_bipush (v := 40) B.1.1 B.1.2.1 dX4_init_53 (by decide) ?_
  refine y_newaI (N := 40) B hR hS hf tw_61 (by decide) (by decide +kernel) (Nat.le_of_ble_eq_true rfl) ⟨Nat.le_of_ble_eq_true rfl, Nat.le_of_ble_eq_true rfl⟩ dX4_init_55 (fun a25 T26 S27 H k_a25 hf hR hS => ?_)
  obtain ⟨k_p0, hf⟩ := x_ok hf
  refine y_putF B hR hS hnm hf (fun _ => rfl) (fun _ => rfl) k_p0 ff_X4_31 dX4_init_57 (fun S28 H locs hf hR hS => ?_)
  refine lv_aload_n B.1.1 B.1.2.1 dX4_init_60 rfl (hl.at 0 rfl) ?_
  refine lv_bipush (v := 40) B.1.1 B.1.2.1 dX4_init_61 (by decide) ?_
  refine y_newaI (N := 40) B hR hS hf tw_61 (by decide) (by decide +kernel) (Nat.le_of_ble_eq_true rfl) ⟨Nat.le_of_ble_eq_true rfl, Nat.le_of_ble_eq_true rfl⟩ dX4_init_63 (fun a29 T30 S31 H k_a29 hf hR hS => ?_)
  obtain ⟨k_p0, hf⟩ := x_ok hf
  refine y_putF B hR hS hnm hf (fun _ => rfl) (fun _ => rfl) k_p0 ff_X4_34 dX4_init_65 (fun S32 H locs hf hR hS => ?_)
  refine lv_aload_n B.1.1 B.1.2.1 dX4_init_68 rfl (hl.at 0 rfl) ?_
  refine lv_bipush (v := 40) B.1.1 B.1.2.1 dX4_init_69 (by decide) ?_
  refine y_newaC (N := 40) B hR hS hf tw_217 (by decide) (by decide +kernel) (Nat.le_of_ble_eq_true rfl) ⟨Nat.le_of_ble_eq_true rfl, Nat.le_of_ble_eq_true rfl⟩ dX4_init_71 (fun a33 T34 S35 H k_a33 hf hR hS => ?_)
  obtain ⟨k_p0, hf⟩ := x_ok hf
  refine y_putF B hR hS hnm hf (fun _ => rfl) (fun _ => rfl) k_p0 ff_X4_37 dX4_init_73 (fun S36 H locs hf hR hS => ?_)
  refine W.widen (k := 9) (n := 168) (Nat.le_of_ble_eq_true rfl) (Nat.le_of_ble_eq_true rfl) ?_
  exact y_vretT B hR hS hf dX4_init_76
abbrev xr_X7_init : Room := { frames := 3, cells := 1, slots := 56, locals := 85 }
set_option maxRecDepth 100000 in
def f_X7_init (T : xT) (S : xS) (p0 : Nat) : Option (xT × xS) := xnw T S 20 56 (fun a1 T2 S3 => xgd (xlk T2 p0 7) (xpr S3 p0 2 a1 (fun S4 => some (T2, S4))))
set_option maxRecDepth 100000 in
set_option maxHeartbeats 4000000 in
theorem c_X7_init {l : Launch} {z : Nat} {D : va_G} {dA : Nat → ClassId} {T : xT} {S : xS} {p0 : Nat} (k_p0 : xlk T p0 7 = true) {q : xT × xS} (hf : f_X7_init T S p0 = some q) : Met l yX7_init (xws yX7_init cX7_init 1 none) xr_X7_init (xPc z D dA T S [.ref (z + p0)]) (xQvT z D dA q) 1 56 (xA z) := by
  refine x_met RX7 (by decide) rfl (Nat.le_of_ble_eq_true rfl) ?_
  intro p e s m below meth c ls _ X hr hlk hml hnm hR hS hl
  have B : xB p s m _ meth c cX7_init RX7 1 none D dA := ⟨X, hr, hlk, hml⟩
  have hl : xL ls 1 [_] := hl
  unfold f_X7_init at hf
  refine lv_aload_n B.1.1 B.1.2.1 dX7_init_0 rfl (hl.at 0 rfl) ?_
  refine y_obj B hl ob_X7_3 ⟨Nat.le_of_ble_eq_true rfl, Nat.le_of_ble_eq_true rfl⟩ dX7_init_1 ?_
  refine lv_aload_n B.1.1 B.1.2.1 dX7_init_4 rfl (hl.at 0 rfl) ?_
  refine lv_bipush (v := 56) B.1.1 B.1.2.1 dX7_init_5 (by decide) ?_
  refine y_newaI (N := 56) B hR hS hf tw_61 (by decide) (by decide +kernel) (Nat.le_of_ble_eq_true rfl) ⟨Nat.le_of_ble_eq_true rfl, Nat.le_of_ble_eq_true rfl⟩ dX7_init_7 (fun a1 T2 S3 H k_a1 hf hR hS => ?_)
  obtain ⟨k_p0, hf⟩ := x_ok hf
  refine y_putF B hR hS hnm hf (fun _ => rfl) (fun _ => rfl) k_p0 ff_X7_9 dX7_init_9 (fun S4 H locs hf hR hS => ?_)
  refine W.widen (k := 1) (n := 56) (Nat.le_of_ble_eq_true rfl) (Nat.le_of_ble_eq_true rfl) ?_
  exact y_vretT B hR hS hf dX7_init_12
abbrev xr_X5_init : Room := { frames := 4, cells := 11, slots := 137, locals := 105 }
set_option maxRecDepth 100000 in
def f_X5_init (T : xT) (S : xS) (p0 : Nat) (p1 : Nat) (p2 : Nat) : Option (xT × xS) := xnw T S 1 0 (fun a1 T2 S3 => xgd (xlk T2 p0 5) (xgd (xlk T2 p1 8) (xgd (xlk T2 p2 4) (xcT (f_X1_init T2 S3 a1) (fun T4 S5 => xgd (xlk T4 p0 5) (xgd (xlk T4 p1 8) (xgd (xlk T4 p2 4) (xgd (xlk T4 a1 1) (xpr S5 p0 0 a1 (fun S6 => xnw T4 S6 7 0 (fun a7 T8 S9 => xgd (xlk T8 p0 5) (xgd (xlk T8 p1 8) (xgd (xlk T8 p2 4) (xcT (f_X7_init T8 S9 a7) (fun T10 S11 => xgd (xlk T10 p0 5) (xgd (xlk T10 p1 8) (xgd (xlk T10 p2 4) (xgd (xlk T10 a7 7) (xpr S11 p0 1 a7 (fun S12 => xpr S12 p0 2 p1 (fun S13 => xpr S13 p0 3 p2 (fun S14 => some (T10, S14)))))))))))))))))))))))
set_option maxRecDepth 100000 in
set_option maxHeartbeats 4000000 in
theorem c_X5_init {l : Launch} {z : Nat} {D : va_G} {dA : Nat → ClassId} {T : xT} {S : xS} {p0 : Nat} {p1 : Nat} {p2 : Nat} (k_p0 : xlk T p0 5 = true) (k_p1 : xlk T p1 8 = true) (k_p2 : xlk T p2 4 = true) {q : xT × xS} (hf : f_X5_init T S p0 p1 p2 = some q) : Met l yX5_init (xws yX5_init cX5_init 3 none) xr_X5_init (xPc z D dA T S [.ref (z + p0), .ref (z + p1), .ref (z + p2)]) (xQvT z D dA q) 11 137 (xA z) := by
  refine x_met RX5 (by decide) rfl (Nat.le_of_ble_eq_true rfl) ?_
  intro p e s m below meth c ls _ X hr hlk hml hnm hR hS hl
  have B : xB p s m _ meth c cX5_init RX5 3 none D dA := ⟨X, hr, hlk, hml⟩
  have hl : xL ls 3 [_, _, _] := hl
  unfold f_X5_init at hf
  refine lv_aload_n B.1.1 B.1.2.1 dX5_init_0 rfl (hl.at 0 rfl) ?_
  refine y_obj B hl ob_X5_1 ⟨Nat.le_of_ble_eq_true rfl, Nat.le_of_ble_eq_true rfl⟩ dX5_init_1 ?_
  refine lv_aload_n B.1.1 B.1.2.1 dX5_init_4 rfl (hl.at 0 rfl) ?_
  refine y_new B hR hS hf nw_X5_7 ⟨Nat.le_of_ble_eq_true rfl, Nat.le_of_ble_eq_true rfl⟩ dX5_init_5 (fun a1 T2 S3 H k_a1 hf hR hS => ?_)
  obtain ⟨k_p0, hf⟩ := x_ok hf
  obtain ⟨k_p1, hf⟩ := x_ok hf
  obtain ⟨k_p2, hf⟩ := x_ok hf
  refine lv_dup B.1.1 B.1.2.1 dX5_init_8 rfl ?_
  refine y_cT hf (fun q hq => x_runJ B.1 B.2.2.2 hl hR hS cm_X5_9 ⟨rfl, rfl, Nat.le_of_ble_eq_true rfl, Nat.le_of_ble_eq_true rfl⟩ (c_X1_init k_a1 hq) rfl rfl (Nat.le_of_ble_eq_true rfl) dX5_init_9 ⟨Nat.le_of_ble_eq_true rfl, Nat.le_of_ble_eq_true rfl⟩) hS (fun T4 S5 H locs hf hR hS => ?_)
  obtain ⟨k_p0, hf⟩ := x_ok hf
  obtain ⟨k_p1, hf⟩ := x_ok hf
  obtain ⟨k_p2, hf⟩ := x_ok hf
  obtain ⟨k_a1, hf⟩ := x_ok hf
  refine y_putF B hR hS hnm hf (fun _ => rfl) (fun _ => rfl) k_p0 ff_X5_10 dX5_init_12 (fun S6 H locs hf hR hS => ?_)
  refine lv_aload_n B.1.1 B.1.2.1 dX5_init_15 rfl (hl.at 0 rfl) ?_
  refine y_new B hR hS hf nw_X5_16 ⟨Nat.le_of_ble_eq_true rfl, Nat.le_of_ble_eq_true rfl⟩ dX5_init_16 (fun a7 T8 S9 H k_a7 hf hR hS => ?_)
  obtain ⟨k_p0, hf⟩ := x_ok hf
  obtain ⟨k_p1, hf⟩ := x_ok hf
  obtain ⟨k_p2, hf⟩ := x_ok hf
  refine lv_dup B.1.1 B.1.2.1 dX5_init_19 rfl ?_
  refine y_cT hf (fun q hq => x_runJ B.1 B.2.2.2 hl hR hS cm_X5_18 ⟨rfl, rfl, Nat.le_of_ble_eq_true rfl, Nat.le_of_ble_eq_true rfl⟩ (c_X7_init k_a7 hq) rfl rfl (Nat.le_of_ble_eq_true rfl) dX5_init_20 ⟨Nat.le_of_ble_eq_true rfl, Nat.le_of_ble_eq_true rfl⟩) hS (fun T10 S11 H locs hf hR hS => ?_)
  obtain ⟨k_p0, hf⟩ := x_ok hf
  obtain ⟨k_p1, hf⟩ := x_ok hf
  obtain ⟨k_p2, hf⟩ := x_ok hf
  obtain ⟨k_a7, hf⟩ := x_ok hf
  refine y_putF B hR hS hnm hf (fun _ => rfl) (fun _ => rfl) k_p0 ff_X5_19 dX5_init_23 (fun S12 H locs hf hR hS => ?_)
  refine lv_aload_n B.1.1 B.1.2.1 dX5_init_26 rfl (hl.at 0 rfl) ?_
  refine lv_aload_n B.1.1 B.1.2.1 dX5_init_27 rfl (hl.at 1 rfl) ?_
  refine y_putR B hR hS hf (fun _ => rfl) (fun _ => rfl) k_p0 fp_X5_23 dX5_init_28 (fun S13 H locs hf hR hS => ?_)
  refine lv_aload_n B.1.1 B.1.2.1 dX5_init_31 rfl (hl.at 0 rfl) ?_
  refine lv_aload_n B.1.1 B.1.2.1 dX5_init_32 rfl (hl.at 2 rfl) ?_
  refine y_putR B hR hS hf (fun _ => rfl) (fun _ => rfl) k_p0 fp_X5_27 dX5_init_33 (fun S14 H locs hf hR hS => ?_)
  refine W.widen (k := 11) (n := 137) (Nat.le_of_ble_eq_true rfl) (Nat.le_of_ble_eq_true rfl) ?_
  exact y_vretT B hR hS hf dX5_init_36
abbrev xr_X6_init : Room := { frames := 3, cells := 1, slots := 400, locals := 85 }
set_option maxRecDepth 100000 in
def f_X6_init (T : xT) (S : xS) (p0 : Nat) : Option (xT × xS) := xnw T S 20 400 (fun a1 T2 S3 => xgd (xlk T2 p0 6) (xpr S3 p0 1 a1 (fun S4 => some (T2, S4))))
set_option maxRecDepth 100000 in
set_option maxHeartbeats 4000000 in
theorem c_X6_init {l : Launch} {z : Nat} {D : va_G} {dA : Nat → ClassId} {T : xT} {S : xS} {p0 : Nat} (k_p0 : xlk T p0 6 = true) {q : xT × xS} (hf : f_X6_init T S p0 = some q) : Met l yX6_init (xws yX6_init cX6_init 1 none) xr_X6_init (xPc z D dA T S [.ref (z + p0)]) (xQvT z D dA q) 1 400 (xA z) := by
  refine x_met RX6 (by decide) rfl (Nat.le_of_ble_eq_true rfl) ?_
  intro p e s m below meth c ls _ X hr hlk hml hnm hR hS hl
  have B : xB p s m _ meth c cX6_init RX6 1 none D dA := ⟨X, hr, hlk, hml⟩
  have hl : xL ls 1 [_] := hl
  unfold f_X6_init at hf
  refine lv_aload_n B.1.1 B.1.2.1 dX6_init_0 rfl (hl.at 0 rfl) ?_
  refine y_obj B hl ob_X6_1 ⟨Nat.le_of_ble_eq_true rfl, Nat.le_of_ble_eq_true rfl⟩ dX6_init_1 ?_
  refine lv_aload_n B.1.1 B.1.2.1 dX6_init_4 rfl (hl.at 0 rfl) ?_
  refine lv_sipush (v := 400) B.1.1 B.1.2.1 dX6_init_5 (by decide) ?_
  refine y_newaI (N := 400) B hR hS hf tw_61 (by decide) (by decide +kernel) (Nat.le_of_ble_eq_true rfl) ⟨Nat.le_of_ble_eq_true rfl, Nat.le_of_ble_eq_true rfl⟩ dX6_init_8 (fun a1 T2 S3 H k_a1 hf hR hS => ?_)
  obtain ⟨k_p0, hf⟩ := x_ok hf
  refine y_putF B hR hS hnm hf (fun _ => rfl) (fun _ => rfl) k_p0 ff_X6_9 dX6_init_10 (fun S4 H locs hf hR hS => ?_)
  refine W.widen (k := 1) (n := 400) (Nat.le_of_ble_eq_true rfl) (Nat.le_of_ble_eq_true rfl) ?_
  exact y_vretT B hR hS hf dX6_init_13
abbrev xr_X8_init : Room := { frames := 5, cells := 2, slots := 81, locals := 131 }
set_option maxRecDepth 100000 in
def f_X8_init (T : xT) (S : xS) (p0 : Nat) : Option (xT × xS) := xpi S p0 0 ((1 : Int32)) (fun S1 => xnw T S1 20 9 (fun a2 T3 S4 => xgd (xlk T3 p0 8) (xpr S4 p0 1 a2 (fun S5 => xnw T3 S5 20 72 (fun a6 T7 S8 => xgd (xlk T7 p0 8) (xpr S8 p0 2 a6 (fun S9 => xgr T7 S9 p0 1 20 (fun a10 => xst T7 S9 a10 ((0 : Int32)) ((-1 : Int32)) (fun S11 => xgr T7 S11 p0 2 20 (fun a12 => xcv (f_J7_fill_fda19 T7 S11 a12 ((0 : Int32)) ((8 : Int32)) ((1 : Int32))) (fun S13 => some (T7, S13))))))))))))
set_option maxRecDepth 100000 in
set_option maxHeartbeats 4000000 in
theorem c_X8_init {l : Launch} {z : Nat} {D : va_G} {dA : Nat → ClassId} {T : xT} {S : xS} {p0 : Nat} (k_p0 : xlk T p0 8 = true) {q : xT × xS} (hf : f_X8_init T S p0 = some q) : Met l yX8_init (xws yX8_init cX8_init 1 none) xr_X8_init (xPc z D dA T S [.ref (z + p0)]) (xQvT z D dA q) 2 81 (xA z) := by
  refine x_met RX8 (by decide) rfl (Nat.le_of_ble_eq_true rfl) ?_
  intro p e s m below meth c ls _ X hr hlk hml hnm hR hS hl
  have B : xB p s m _ meth c cX8_init RX8 1 none D dA := ⟨X, hr, hlk, hml⟩
  have hl : xL ls 1 [_] := hl
  unfold f_X8_init at hf
  refine lv_aload_n B.1.1 B.1.2.1 dX8_init_0 rfl (hl.at 0 rfl) ?_
  refine y_obj B hl ob_X8_3 ⟨Nat.le_of_ble_eq_true rfl, Nat.le_of_ble_eq_true rfl⟩ dX8_init_1 ?_
  refine lv_aload_n B.1.1 B.1.2.1 dX8_init_4 rfl (hl.at 0 rfl) ?_
  refine lv_iconst (v := 1) B.1.1 B.1.2.1 dX8_init_5 (by decide) ?_
  refine y_putI B hR hS hf k_p0 fp_X8_9 dX8_init_6 (fun S1 H locs hf hR hS => ?_)
  refine lv_aload_n B.1.1 B.1.2.1 dX8_init_9 rfl (hl.at 0 rfl) ?_
  refine lv_bipush (v := 9) B.1.1 B.1.2.1 dX8_init_10 (by decide) ?_
  refine y_newaI (N := 9) B hR hS hf tw_61 (by decide) (by decide +kernel) (Nat.le_of_ble_eq_true rfl) ⟨Nat.le_of_ble_eq_true rfl, Nat.le_of_ble_eq_true rfl⟩ dX8_init_12 (fun a2 T3 S4 H k_a2 hf hR hS => ?_)
  obtain ⟨k_p0, hf⟩ := x_ok hf
  refine y_putF B hR hS hnm hf (fun _ => rfl) (fun _ => rfl) k_p0 ff_X8_15 dX8_init_14 (fun S5 H locs hf hR hS => ?_)
  refine lv_aload_n B.1.1 B.1.2.1 dX8_init_17 rfl (hl.at 0 rfl) ?_
  refine lv_bipush (v := 72) B.1.1 B.1.2.1 dX8_init_18 (by decide) ?_
  refine y_newaI (N := 72) B hR hS hf tw_61 (by decide) (by decide +kernel) (Nat.le_of_ble_eq_true rfl) ⟨Nat.le_of_ble_eq_true rfl, Nat.le_of_ble_eq_true rfl⟩ dX8_init_20 (fun a6 T7 S8 H k_a6 hf hR hS => ?_)
  obtain ⟨k_p0, hf⟩ := x_ok hf
  refine y_putF B hR hS hnm hf (fun _ => rfl) (fun _ => rfl) k_p0 ff_X8_19 dX8_init_22 (fun S9 H locs hf hR hS => ?_)
  refine lv_aload_n B.1.1 B.1.2.1 dX8_init_25 rfl (hl.at 0 rfl) ?_
  refine y_getR B hR hf k_p0 fl_X8_15 dX8_init_26 (fun a10 k_a10 hf => ?_)
  refine lv_iconst (v := 0) B.1.1 B.1.2.1 dX8_init_29 (by decide) ?_
  refine lv_iconst (v := -1) B.1.1 B.1.2.1 dX8_init_30 (by decide) ?_
  refine y_iast B hR hS hf k_a10 dX8_init_31 (fun S11 H locs hf hR hS => ?_)
  refine lv_aload_n B.1.1 B.1.2.1 dX8_init_32 rfl (hl.at 0 rfl) ?_
  refine y_getR B hR hf k_p0 fl_X8_19 dX8_init_33 (fun a12 k_a12 hf => ?_)
  refine lv_iconst (v := 0) B.1.1 B.1.2.1 dX8_init_36 (by decide) ?_
  refine lv_bipush (v := 8) B.1.1 B.1.2.1 dX8_init_37 (by decide) ?_
  refine lv_iconst (v := 1) B.1.1 B.1.2.1 dX8_init_39 (by decide) ?_
  refine y_cv hf (fun q hq => y_runS B.1 B.2.2.2 hl hR hS cm_X8_22 ⟨rfl, rfl, Nat.le_of_ble_eq_true rfl, Nat.le_of_ble_eq_true rfl⟩ (c_J7_fill_fda19 k_a12 hq) rfl rfl (Nat.le_of_ble_eq_true rfl) dX8_init_40 ⟨Nat.le_of_ble_eq_true rfl, Nat.le_of_ble_eq_true rfl⟩) hS (fun S13 H locs hf hR hS => ?_)
  refine W.widen (k := 2) (n := 81) (Nat.le_of_ble_eq_true rfl) (Nat.le_of_ble_eq_true rfl) ?_
  exact y_vretT B hR hS hf dX8_init_43
abbrev xr_X9_init : Room := { frames := 6, cells := 198, slots := 3239, locals := 151 }
set_option maxRecDepth 100000 in
def f_X9_init (T : xT) (S : xS) (p0 : Nat) : Option (xT × xS) := xnw T S 3 0 (fun a1 T2 S3 => xgd (xlk T2 p0 9) (xcT (f_X3_init T2 S3 a1) (fun T4 S5 => xgd (xlk T4 p0 9) (xgd (xlk T4 a1 3) (xpr S5 p0 0 a1 (fun S6 => xnw T4 S6 2 0 (fun a7 T8 S9 => xgd (xlk T8 p0 9) (xcT (f_X2_init T8 S9 a7) (fun T10 S11 => xgd (xlk T10 p0 9) (xgd (xlk T10 a7 2) (xpr S11 p0 1 a7 (fun S12 => xnw T10 S12 0 0 (fun a13 T14 S15 => xgd (xlk T14 p0 9) (xcT (f_X0_init T14 S15 a13) (fun T16 S17 => xgd (xlk T16 p0 9) (xgd (xlk T16 a13 0) (xpr S17 p0 2 a13 (fun S18 => xnw T16 S18 6 0 (fun a19 T20 S21 => xgd (xlk T20 p0 9) (xcT (f_X6_init T20 S21 a19) (fun T22 S23 => xgd (xlk T22 p0 9) (xgd (xlk T22 a19 6) (xpr S23 p0 3 a19 (fun S24 => xnw T22 S24 5 0 (fun a25 T26 S27 => xgd (xlk T26 p0 9) (xnw T26 S27 8 0 (fun a28 T29 S30 => xgd (xlk T29 p0 9) (xgd (xlk T29 a25 5) (xcT (f_X8_init T29 S30 a28) (fun T31 S32 => xgd (xlk T31 p0 9) (xgd (xlk T31 a25 5) (xgd (xlk T31 a28 8) (xnw T31 S32 4 0 (fun a33 T34 S35 => xgd (xlk T34 p0 9) (xgd (xlk T34 a25 5) (xgd (xlk T34 a28 8) (xcT (f_X4_init T34 S35 a33) (fun T36 S37 => xgd (xlk T36 p0 9) (xgd (xlk T36 a25 5) (xgd (xlk T36 a28 8) (xgd (xlk T36 a33 4) (xcT (f_X5_init T36 S37 a25 a28 a33) (fun T38 S39 => xgd (xlk T38 p0 9) (xgd (xlk T38 a25 5) (xpr S39 p0 4 a25 (fun S40 => xnw T38 S40 25 12 (fun a41 T42 S43 => xgd (xlk T42 p0 9) (xpr S43 p0 5 a41 (fun S44 => xgr T42 S44 p0 5 25 (fun a45 => xnw T42 S44 5 0 (fun a46 T47 S48 => xgd (xlk T47 p0 9) (xgd (xlk T47 a45 25) (xgr T47 S48 p0 4 5 (fun a49 => xgr T47 S48 a49 2 8 (fun a50 => xgr T47 S48 p0 4 5 (fun a51 => xgr T47 S48 a51 3 4 (fun a52 => xcT (f_X5_init T47 S48 a46 a50 a52) (fun T53 S54 => xgd (xlk T53 p0 9) (xgd (xlk T53 a45 25) (xgd (xlk T53 a46 5) (xsr T53 S54 a45 ((0 : Int32)) a46 (fun S55 => xgr T53 S55 p0 5 25 (fun a56 => xnw T53 S55 5 0 (fun a57 T58 S59 => xgd (xlk T58 p0 9) (xgd (xlk T58 a56 25) (xgr T58 S59 p0 4 5 (fun a60 => xgr T58 S59 a60 2 8 (fun a61 => xgr T58 S59 p0 4 5 (fun a62 => xgr T58 S59 a62 3 4 (fun a63 => xcT (f_X5_init T58 S59 a57 a61 a63) (fun T64 S65 => xgd (xlk T64 p0 9) (xgd (xlk T64 a56 25) (xgd (xlk T64 a57 5) (xsr T64 S65 a56 ((1 : Int32)) a57 (fun S66 => xgr T64 S66 p0 5 25 (fun a67 => xnw T64 S66 5 0 (fun a68 T69 S70 => xgd (xlk T69 p0 9) (xgd (xlk T69 a67 25) (xgr T69 S70 p0 4 5 (fun a71 => xgr T69 S70 a71 2 8 (fun a72 => xgr T69 S70 p0 4 5 (fun a73 => xgr T69 S70 a73 3 4 (fun a74 => xcT (f_X5_init T69 S70 a68 a72 a74) (fun T75 S76 => xgd (xlk T75 p0 9) (xgd (xlk T75 a67 25) (xgd (xlk T75 a68 5) (xsr T75 S76 a67 ((2 : Int32)) a68 (fun S77 => xgr T75 S77 p0 5 25 (fun a78 => xnw T75 S77 5 0 (fun a79 T80 S81 => xgd (xlk T80 p0 9) (xgd (xlk T80 a78 25) (xgr T80 S81 p0 4 5 (fun a82 => xgr T80 S81 a82 2 8 (fun a83 => xgr T80 S81 p0 4 5 (fun a84 => xgr T80 S81 a84 3 4 (fun a85 => xcT (f_X5_init T80 S81 a79 a83 a85) (fun T86 S87 => xgd (xlk T86 p0 9) (xgd (xlk T86 a78 25) (xgd (xlk T86 a79 5) (xsr T86 S87 a78 ((3 : Int32)) a79 (fun S88 => xgr T86 S88 p0 5 25 (fun a89 => xnw T86 S88 5 0 (fun a90 T91 S92 => xgd (xlk T91 p0 9) (xgd (xlk T91 a89 25) (xgr T91 S92 p0 4 5 (fun a93 => xgr T91 S92 a93 2 8 (fun a94 => xgr T91 S92 p0 4 5 (fun a95 => xgr T91 S92 a95 3 4 (fun a96 => xcT (f_X5_init T91 S92 a90 a94 a96) (fun T97 S98 => xgd (xlk T97 p0 9) (xgd (xlk T97 a89 25) (xgd (xlk T97 a90 5) (xsr T97 S98 a89 ((4 : Int32)) a90 (fun S99 => xgr T97 S99 p0 5 25 (fun a100 => xnw T97 S99 5 0 (fun a101 T102 S103 => xgd (xlk T102 p0 9) (xgd (xlk T102 a100 25) (xgr T102 S103 p0 4 5 (fun a104 => xgr T102 S103 a104 2 8 (fun a105 => xgr T102 S103 p0 4 5 (fun a106 => xgr T102 S103 a106 3 4 (fun a107 => xcT (f_X5_init T102 S103 a101 a105 a107) (fun T108 S109 => xgd (xlk T108 p0 9) (xgd (xlk T108 a100 25) (xgd (xlk T108 a101 5) (xsr T108 S109 a100 ((5 : Int32)) a101 (fun S110 => xgr T108 S110 p0 5 25 (fun a111 => xnw T108 S110 5 0 (fun a112 T113 S114 => xgd (xlk T113 p0 9) (xgd (xlk T113 a111 25) (xgr T113 S114 p0 4 5 (fun a115 => xgr T113 S114 a115 2 8 (fun a116 => xgr T113 S114 p0 4 5 (fun a117 => xgr T113 S114 a117 3 4 (fun a118 => xcT (f_X5_init T113 S114 a112 a116 a118) (fun T119 S120 => xgd (xlk T119 p0 9) (xgd (xlk T119 a111 25) (xgd (xlk T119 a112 5) (xsr T119 S120 a111 ((6 : Int32)) a112 (fun S121 => xgr T119 S121 p0 5 25 (fun a122 => xnw T119 S121 5 0 (fun a123 T124 S125 => xgd (xlk T124 p0 9) (xgd (xlk T124 a122 25) (xgr T124 S125 p0 4 5 (fun a126 => xgr T124 S125 a126 2 8 (fun a127 => xgr T124 S125 p0 4 5 (fun a128 => xgr T124 S125 a128 3 4 (fun a129 => xcT (f_X5_init T124 S125 a123 a127 a129) (fun T130 S131 => xgd (xlk T130 p0 9) (xgd (xlk T130 a122 25) (xgd (xlk T130 a123 5) (xsr T130 S131 a122 ((7 : Int32)) a123 (fun S132 => xgr T130 S132 p0 5 25 (fun a133 => xnw T130 S132 5 0 (fun a134 T135 S136 => xgd (xlk T135 p0 9) (xgd (xlk T135 a133 25) (xgr T135 S136 p0 4 5 (fun a137 => xgr T135 S136 a137 2 8 (fun a138 => xgr T135 S136 p0 4 5 (fun a139 => xgr T135 S136 a139 3 4 (fun a140 => xcT (f_X5_init T135 S136 a134 a138 a140) (fun T141 S142 => xgd (xlk T141 p0 9) (xgd (xlk T141 a133 25) (xgd (xlk T141 a134 5) (xsr T141 S142 a133 ((8 : Int32)) a134 (fun S143 => xgr T141 S143 p0 5 25 (fun a144 => xnw T141 S143 5 0 (fun a145 T146 S147 => xgd (xlk T146 p0 9) (xgd (xlk T146 a144 25) (xgr T146 S147 p0 4 5 (fun a148 => xgr T146 S147 a148 2 8 (fun a149 => xgr T146 S147 p0 4 5 (fun a150 => xgr T146 S147 a150 3 4 (fun a151 => xcT (f_X5_init T146 S147 a145 a149 a151) (fun T152 S153 => xgd (xlk T152 p0 9) (xgd (xlk T152 a144 25) (xgd (xlk T152 a145 5) (xsr T152 S153 a144 ((9 : Int32)) a145 (fun S154 => xgr T152 S154 p0 5 25 (fun a155 => xnw T152 S154 5 0 (fun a156 T157 S158 => xgd (xlk T157 p0 9) (xgd (xlk T157 a155 25) (xgr T157 S158 p0 4 5 (fun a159 => xgr T157 S158 a159 2 8 (fun a160 => xgr T157 S158 p0 4 5 (fun a161 => xgr T157 S158 a161 3 4 (fun a162 => xcT (f_X5_init T157 S158 a156 a160 a162) (fun T163 S164 => xgd (xlk T163 p0 9) (xgd (xlk T163 a155 25) (xgd (xlk T163 a156 5) (xsr T163 S164 a155 ((10 : Int32)) a156 (fun S165 => xgr T163 S165 p0 5 25 (fun a166 => xnw T163 S165 5 0 (fun a167 T168 S169 => xgd (xlk T168 p0 9) (xgd (xlk T168 a166 25) (xgr T168 S169 p0 4 5 (fun a170 => xgr T168 S169 a170 2 8 (fun a171 => xgr T168 S169 p0 4 5 (fun a172 => xgr T168 S169 a172 3 4 (fun a173 => xcT (f_X5_init T168 S169 a167 a171 a173) (fun T174 S175 => xgd (xlk T174 p0 9) (xgd (xlk T174 a166 25) (xgd (xlk T174 a167 5) (xsr T174 S175 a166 ((11 : Int32)) a167 (fun S176 => xnw T174 S176 25 2 (fun a177 T178 S179 => xgd (xlk T178 p0 9) (xpr S179 p0 8 a177 (fun S180 => xnw T178 S180 1 0 (fun a181 T182 S183 => xgd (xlk T182 p0 9) (xcT (f_X1_init T182 S183 a181) (fun T184 S185 => xgd (xlk T184 p0 9) (xgd (xlk T184 a181 1) (xpr S185 p0 9 a181 (fun S186 => xnw T184 S186 7 0 (fun a187 T188 S189 => xgd (xlk T188 p0 9) (xcT (f_X7_init T188 S189 a187) (fun T190 S191 => xgd (xlk T190 p0 9) (xgd (xlk T190 a187 7) (xpr S191 p0 10 a187 (fun S192 => xpi S192 p0 11 ((-1 : Int32)) (fun S193 => some (T190, S193))))))))))))))))))))))))))))))))))))))))))))))))))))))))))))))))))))))))))))))))))))))))))))))))))))))))))))))))))))))))))))))))))))))))))))))))))))))))))))))))))))))))))))))))))))))))))))))))))))))))))))))))))))))))))))))
set_option maxRecDepth 100000 in
set_option maxHeartbeats 4000000 in
theorem c_X9_init {l : Launch} {z : Nat} {D : va_G} {dA : Nat → ClassId} {T : xT} {S : xS} {p0 : Nat} (k_p0 : xlk T p0 9 = true) {q : xT × xS} (hf : f_X9_init T S p0 = some q) : Met l yX9_init (xws yX9_init cX9_init 2 none) xr_X9_init (xPc z D dA T S [.ref (z + p0)]) (xQvT z D dA q) 198 3239 (xA z) := by
  refine x_met RX9 (by decide) rfl (Nat.le_of_ble_eq_true rfl) ?_
  intro p e s m below meth c ls _ X hr hlk hml hnm hR hS hl
  have B : xB p s m _ meth c cX9_init RX9 2 none D dA := ⟨X, hr, hlk, hml⟩
  have hl : xL ls 2 [_, _] := hl
  unfold f_X9_init at hf
  refine lv_aload_n B.1.1 B.1.2.1 dX9_init_0 rfl (hl.at 0 rfl) ?_
  refine y_obj B hl ob_X9_1 ⟨Nat.le_of_ble_eq_true rfl, Nat.le_of_ble_eq_true rfl⟩ dX9_init_1 ?_
  refine lv_aload_n B.1.1 B.1.2.1 dX9_init_4 rfl (hl.at 0 rfl) ?_
  refine y_new B hR hS hf nw_X9_7 ⟨Nat.le_of_ble_eq_true rfl, Nat.le_of_ble_eq_true rfl⟩ dX9_init_5 (fun a1 T2 S3 H k_a1 hf hR hS => ?_)
  obtain ⟨k_p0, hf⟩ := x_ok hf
  refine lv_dup B.1.1 B.1.2.1 dX9_init_8 rfl ?_
  refine y_cT hf (fun q hq => x_runJ B.1 B.2.2.2 hl hR hS cm_X9_9 ⟨rfl, rfl, Nat.le_of_ble_eq_true rfl, Nat.le_of_ble_eq_true rfl⟩ (c_X3_init k_a1 hq) rfl rfl (Nat.le_of_ble_eq_true rfl) dX9_init_9 ⟨Nat.le_of_ble_eq_true rfl, Nat.le_of_ble_eq_true rfl⟩) hS (fun T4 S5 H locs hf hR hS => ?_)
  obtain ⟨k_p0, hf⟩ := x_ok hf
  obtain ⟨k_a1, hf⟩ := x_ok hf
  refine y_putF B hR hS hnm hf (fun _ => rfl) (fun _ => rfl) k_p0 ff_X9_10 dX9_init_12 (fun S6 H locs hf hR hS => ?_)
  refine lv_aload_n B.1.1 B.1.2.1 dX9_init_15 rfl (hl.at 0 rfl) ?_
  refine y_new B hR hS hf nw_X9_16 ⟨Nat.le_of_ble_eq_true rfl, Nat.le_of_ble_eq_true rfl⟩ dX9_init_16 (fun a7 T8 S9 H k_a7 hf hR hS => ?_)
  obtain ⟨k_p0, hf⟩ := x_ok hf
  refine lv_dup B.1.1 B.1.2.1 dX9_init_19 rfl ?_
  refine y_cT hf (fun q hq => x_runJ B.1 B.2.2.2 hl hR hS cm_X9_18 ⟨rfl, rfl, Nat.le_of_ble_eq_true rfl, Nat.le_of_ble_eq_true rfl⟩ (c_X2_init k_a7 hq) rfl rfl (Nat.le_of_ble_eq_true rfl) dX9_init_20 ⟨Nat.le_of_ble_eq_true rfl, Nat.le_of_ble_eq_true rfl⟩) hS (fun T10 S11 H locs hf hR hS => ?_)
  obtain ⟨k_p0, hf⟩ := x_ok hf
  obtain ⟨k_a7, hf⟩ := x_ok hf
  refine y_putF B hR hS hnm hf (fun _ => rfl) (fun _ => rfl) k_p0 ff_X9_19 dX9_init_23 (fun S12 H locs hf hR hS => ?_)
  refine lv_aload_n B.1.1 B.1.2.1 dX9_init_26 rfl (hl.at 0 rfl) ?_
  refine y_new B hR hS hf nw_X9_23 ⟨Nat.le_of_ble_eq_true rfl, Nat.le_of_ble_eq_true rfl⟩ dX9_init_27 (fun a13 T14 S15 H k_a13 hf hR hS => ?_)
  obtain ⟨k_p0, hf⟩ := x_ok hf
  refine lv_dup B.1.1 B.1.2.1 dX9_init_30 rfl ?_
  refine y_cT hf (fun q hq => x_runJ B.1 B.2.2.2 hl hR hS cm_X9_25 ⟨rfl, rfl, Nat.le_of_ble_eq_true rfl, Nat.le_of_ble_eq_true rfl⟩ (c_X0_init k_a13 hq) rfl rfl (Nat.le_of_ble_eq_true rfl) dX9_init_31 ⟨Nat.le_of_ble_eq_true rfl, Nat.le_of_ble_eq_true rfl⟩) hS (fun T16 S17 H locs hf hR hS => ?_)
  obtain ⟨k_p0, hf⟩ := x_ok hf
  obtain ⟨k_a13, hf⟩ := x_ok hf
  refine y_putF B hR hS hnm hf (fun _ => rfl) (fun _ => rfl) k_p0 ff_X9_26 dX9_init_34 (fun S18 H locs hf hR hS => ?_)
  refine lv_aload_n B.1.1 B.1.2.1 dX9_init_37 rfl (hl.at 0 rfl) ?_
  refine y_new B hR hS hf nw_X9_30 ⟨Nat.le_of_ble_eq_true rfl, Nat.le_of_ble_eq_true rfl⟩ dX9_init_38 (fun a19 T20 S21 H k_a19 hf hR hS => ?_)
  obtain ⟨k_p0, hf⟩ := x_ok hf
  refine lv_dup B.1.1 B.1.2.1 dX9_init_41 rfl ?_
  refine y_cT hf (fun q hq => x_runJ B.1 B.2.2.2 hl hR hS cm_X9_32 ⟨rfl, rfl, Nat.le_of_ble_eq_true rfl, Nat.le_of_ble_eq_true rfl⟩ (c_X6_init k_a19 hq) rfl rfl (Nat.le_of_ble_eq_true rfl) dX9_init_42 ⟨Nat.le_of_ble_eq_true rfl, Nat.le_of_ble_eq_true rfl⟩) hS (fun T22 S23 H locs hf hR hS => ?_)
  obtain ⟨k_p0, hf⟩ := x_ok hf
  obtain ⟨k_a19, hf⟩ := x_ok hf
  refine y_putF B hR hS hnm hf (fun _ => rfl) (fun _ => rfl) k_p0 ff_X9_33 dX9_init_45 (fun S24 H locs hf hR hS => ?_)
  refine lv_aload_n B.1.1 B.1.2.1 dX9_init_48 rfl (hl.at 0 rfl) ?_
  refine y_new B hR hS hf nw_X9_37 ⟨Nat.le_of_ble_eq_true rfl, Nat.le_of_ble_eq_true rfl⟩ dX9_init_49 (fun a25 T26 S27 H k_a25 hf hR hS => ?_)
  obtain ⟨k_p0, hf⟩ := x_ok hf
  refine lv_dup B.1.1 B.1.2.1 dX9_init_52 rfl ?_
  refine y_new B hR hS hf nw_X9_39 ⟨Nat.le_of_ble_eq_true rfl, Nat.le_of_ble_eq_true rfl⟩ dX9_init_53 (fun a28 T29 S30 H k_a28 hf hR hS => ?_)
  obtain ⟨k_p0, hf⟩ := x_ok hf
  obtain ⟨k_a25, hf⟩ := x_ok hf
  refine lv_dup B.1.1 B.1.2.1 dX9_init_56 rfl ?_
  refine y_cT hf (fun q hq => x_runI B.1 B.2.2.2 hl hR hS cm_X9_41 ⟨rfl, rfl, Nat.le_of_ble_eq_true rfl, Nat.le_of_ble_eq_true rfl⟩ (c_X8_init k_a28 hq) rfl rfl (Nat.le_of_ble_eq_true rfl) dX9_init_57 ⟨Nat.le_of_ble_eq_true rfl, Nat.le_of_ble_eq_true rfl⟩) hS (fun T31 S32 H locs hf hR hS => ?_)
  obtain ⟨k_p0, hf⟩ := x_ok hf
  obtain ⟨k_a25, hf⟩ := x_ok hf
  obtain ⟨k_a28, hf⟩ := x_ok hf
  refine y_new B hR hS hf nw_X9_42 ⟨Nat.le_of_ble_eq_true rfl, Nat.le_of_ble_eq_true rfl⟩ dX9_init_60 (fun a33 T34 S35 H k_a33 hf hR hS => ?_)
  obtain ⟨k_p0, hf⟩ := x_ok hf
  obtain ⟨k_a25, hf⟩ := x_ok hf
  obtain ⟨k_a28, hf⟩ := x_ok hf
  refine lv_dup B.1.1 B.1.2.1 dX9_init_63 rfl ?_
  refine y_cT hf (fun q hq => x_runJ B.1 B.2.2.2 hl hR hS cm_X9_44 ⟨rfl, rfl, Nat.le_of_ble_eq_true rfl, Nat.le_of_ble_eq_true rfl⟩ (c_X4_init k_a33 hq) rfl rfl (Nat.le_of_ble_eq_true rfl) dX9_init_64 ⟨Nat.le_of_ble_eq_true rfl, Nat.le_of_ble_eq_true rfl⟩) hS (fun T36 S37 H locs hf hR hS => ?_)
  obtain ⟨k_p0, hf⟩ := x_ok hf
  obtain ⟨k_a25, hf⟩ := x_ok hf
  obtain ⟨k_a28, hf⟩ := x_ok hf
  obtain ⟨k_a33, hf⟩ := x_ok hf
  refine y_cT hf (fun q hq => x_runI B.1 B.2.2.2 hl hR hS cm_X9_45 ⟨rfl, rfl, Nat.le_of_ble_eq_true rfl, Nat.le_of_ble_eq_true rfl⟩ (c_X5_init k_a25 k_a28 k_a33 hq) rfl rfl (Nat.le_of_ble_eq_true rfl) dX9_init_67 ⟨Nat.le_of_ble_eq_true rfl, Nat.le_of_ble_eq_true rfl⟩) hS (fun T38 S39 H locs hf hR hS => ?_)
  obtain ⟨k_p0, hf⟩ := x_ok hf
  obtain ⟨k_a25, hf⟩ := x_ok hf
  refine y_putF B hR hS hnm hf (fun _ => rfl) (fun _ => rfl) k_p0 ff_X9_48 dX9_init_70 (fun S40 H locs hf hR hS => ?_)
  refine lv_aload_n B.1.1 B.1.2.1 dX9_init_73 rfl (hl.at 0 rfl) ?_
  refine lv_bipush (v := 12) B.1.1 B.1.2.1 dX9_init_74 (by decide) ?_
  refine y_newq (N := 12) B hR hS hf tw_143 (by decide) (by decide +kernel) (Nat.le_of_ble_eq_true rfl) ⟨Nat.le_of_ble_eq_true rfl, Nat.le_of_ble_eq_true rfl⟩ dX9_init_76 (fun a41 T42 S43 H k_a41 hf hR hS => ?_)
  obtain ⟨k_p0, hf⟩ := x_ok hf
  refine y_putF B hR hS hnm hf (fun _ => rfl) (fun _ => rfl) k_p0 ff_X9_52 dX9_init_79 (fun S44 H locs hf hR hS => ?_)
  refine lv_iconst (v := 0) B.1.1 B.1.2.1 dX9_init_82 (by decide) ?_
  refine x_istore_n B.1 hl dX9_init_83 rfl (by decide) rfl rfl (fun ls hl => ?_)
  have hl : xL ls 2 [_, _] := hl
  refine lv_iload_n B.1.1 B.1.2.1 dX9_init_84 rfl (hl.at 1 rfl) ?_
  refine lv_bipush (v := 12) B.1.1 B.1.2.1 dX9_init_85 (by decide) ?_
  refine lv_icmp_ge (tgt := 123) B.1.1 B.1.2.1 dX9_init_87 (by decide) (fun h => absurd h (by decide)) (fun _ => ?_)
  refine lv_aload_n B.1.1 B.1.2.1 dX9_init_90 rfl (hl.at 0 rfl) ?_
  refine y_getR B hR hf k_p0 fl_X9_52 dX9_init_91 (fun a45 k_a45 hf => ?_)
  refine lv_iload_n B.1.1 B.1.2.1 dX9_init_94 rfl (hl.at 1 rfl) ?_
  refine y_new B hR hS hf nw_X9_37 ⟨Nat.le_of_ble_eq_true rfl, Nat.le_of_ble_eq_true rfl⟩ dX9_init_95 (fun a46 T47 S48 H k_a46 hf hR hS => ?_)
  obtain ⟨k_p0, hf⟩ := x_ok hf
  obtain ⟨k_a45, hf⟩ := x_ok hf
  refine lv_dup B.1.1 B.1.2.1 dX9_init_98 rfl ?_
  refine lv_aload_n B.1.1 B.1.2.1 dX9_init_99 rfl (hl.at 0 rfl) ?_
  refine y_getR B hR hf k_p0 fl_X9_48 dX9_init_100 (fun a49 k_a49 hf => ?_)
  refine y_getR B hR hf k_a49 fl_X9_56 dX9_init_103 (fun a50 k_a50 hf => ?_)
  refine lv_aload_n B.1.1 B.1.2.1 dX9_init_106 rfl (hl.at 0 rfl) ?_
  refine y_getR B hR hf k_p0 fl_X9_48 dX9_init_107 (fun a51 k_a51 hf => ?_)
  refine y_getR B hR hf k_a51 fl_X9_60 dX9_init_110 (fun a52 k_a52 hf => ?_)
  refine y_cT hf (fun q hq => x_runI B.1 B.2.2.2 hl hR hS cm_X9_45 ⟨rfl, rfl, Nat.le_of_ble_eq_true rfl, Nat.le_of_ble_eq_true rfl⟩ (c_X5_init k_a46 k_a50 k_a52 hq) rfl rfl (Nat.le_of_ble_eq_true rfl) dX9_init_113 ⟨Nat.le_of_ble_eq_true rfl, Nat.le_of_ble_eq_true rfl⟩) hS (fun T53 S54 H locs hf hR hS => ?_)
  obtain ⟨k_p0, hf⟩ := x_ok hf
  obtain ⟨k_a45, hf⟩ := x_ok hf
  obtain ⟨k_a46, hf⟩ := x_ok hf
  refine y_aast B hR hS hf k_a45 k_a46 dX9_init_116 (fun S55 H locs hf hR hS => ?_)
  refine x_iinc (v := 1) B.1 hl dX9_init_117 rfl (by decide) (by decide) rfl rfl (fun ls hl => ?_)
  have hl : xL ls 2 [_, _] := hl
  refine lv_goto (tgt := 84) B.1.1 B.1.2.1 dX9_init_120 (by decide) ?_
  refine lv_iload_n B.1.1 B.1.2.1 dX9_init_84 rfl (hl.at 1 rfl) ?_
  refine lv_bipush (v := 12) B.1.1 B.1.2.1 dX9_init_85 (by decide) ?_
  refine lv_icmp_ge (tgt := 123) B.1.1 B.1.2.1 dX9_init_87 (by decide) (fun h => absurd h (by decide)) (fun _ => ?_)
  refine lv_aload_n B.1.1 B.1.2.1 dX9_init_90 rfl (hl.at 0 rfl) ?_
  refine y_getR B hR hf k_p0 fl_X9_52 dX9_init_91 (fun a56 k_a56 hf => ?_)
  refine lv_iload_n B.1.1 B.1.2.1 dX9_init_94 rfl (hl.at 1 rfl) ?_
  refine y_new B hR hS hf nw_X9_37 ⟨Nat.le_of_ble_eq_true rfl, Nat.le_of_ble_eq_true rfl⟩ dX9_init_95 (fun a57 T58 S59 H k_a57 hf hR hS => ?_)
  obtain ⟨k_p0, hf⟩ := x_ok hf
  obtain ⟨k_a56, hf⟩ := x_ok hf
  refine lv_dup B.1.1 B.1.2.1 dX9_init_98 rfl ?_
  refine lv_aload_n B.1.1 B.1.2.1 dX9_init_99 rfl (hl.at 0 rfl) ?_
  refine y_getR B hR hf k_p0 fl_X9_48 dX9_init_100 (fun a60 k_a60 hf => ?_)
  refine y_getR B hR hf k_a60 fl_X9_56 dX9_init_103 (fun a61 k_a61 hf => ?_)
  refine lv_aload_n B.1.1 B.1.2.1 dX9_init_106 rfl (hl.at 0 rfl) ?_
  refine y_getR B hR hf k_p0 fl_X9_48 dX9_init_107 (fun a62 k_a62 hf => ?_)
  refine y_getR B hR hf k_a62 fl_X9_60 dX9_init_110 (fun a63 k_a63 hf => ?_)
  refine y_cT hf (fun q hq => x_runI B.1 B.2.2.2 hl hR hS cm_X9_45 ⟨rfl, rfl, Nat.le_of_ble_eq_true rfl, Nat.le_of_ble_eq_true rfl⟩ (c_X5_init k_a57 k_a61 k_a63 hq) rfl rfl (Nat.le_of_ble_eq_true rfl) dX9_init_113 ⟨Nat.le_of_ble_eq_true rfl, Nat.le_of_ble_eq_true rfl⟩) hS (fun T64 S65 H locs hf hR hS => ?_)
  obtain ⟨k_p0, hf⟩ := x_ok hf
  obtain ⟨k_a56, hf⟩ := x_ok hf
  obtain ⟨k_a57, hf⟩ := x_ok hf
  refine y_aast B hR hS hf k_a56 k_a57 dX9_init_116 (fun S66 H locs hf hR hS => ?_)
  refine x_iinc (v := 2) B.1 hl dX9_init_117 rfl (by decide) (by decide) rfl rfl (fun ls hl => ?_)
  have hl : xL ls 2 [_, _] := hl
  refine lv_goto (tgt := 84) B.1.1 B.1.2.1 dX9_init_120 (by decide) ?_
  refine lv_iload_n B.1.1 B.1.2.1 dX9_init_84 rfl (hl.at 1 rfl) ?_
  refine lv_bipush (v := 12) B.1.1 B.1.2.1 dX9_init_85 (by decide) ?_
  refine lv_icmp_ge (tgt := 123) B.1.1 B.1.2.1 dX9_init_87 (by decide) (fun h => absurd h (by decide)) (fun _ => ?_)
  refine lv_aload_n B.1.1 B.1.2.1 dX9_init_90 rfl (hl.at 0 rfl) ?_
  refine y_getR B hR hf k_p0 fl_X9_52 dX9_init_91 (fun a67 k_a67 hf => ?_)
  refine lv_iload_n B.1.1 B.1.2.1 dX9_init_94 rfl (hl.at 1 rfl) ?_
  refine y_new B hR hS hf nw_X9_37 ⟨Nat.le_of_ble_eq_true rfl, Nat.le_of_ble_eq_true rfl⟩ dX9_init_95 (fun a68 T69 S70 H k_a68 hf hR hS => ?_)
  obtain ⟨k_p0, hf⟩ := x_ok hf
  obtain ⟨k_a67, hf⟩ := x_ok hf
  refine lv_dup B.1.1 B.1.2.1 dX9_init_98 rfl ?_
  refine lv_aload_n B.1.1 B.1.2.1 dX9_init_99 rfl (hl.at 0 rfl) ?_
  refine y_getR B hR hf k_p0 fl_X9_48 dX9_init_100 (fun a71 k_a71 hf => ?_)
  refine y_getR B hR hf k_a71 fl_X9_56 dX9_init_103 (fun a72 k_a72 hf => ?_)
  refine lv_aload_n B.1.1 B.1.2.1 dX9_init_106 rfl (hl.at 0 rfl) ?_
  refine y_getR B hR hf k_p0 fl_X9_48 dX9_init_107 (fun a73 k_a73 hf => ?_)
  refine y_getR B hR hf k_a73 fl_X9_60 dX9_init_110 (fun a74 k_a74 hf => ?_)
  refine y_cT hf (fun q hq => x_runI B.1 B.2.2.2 hl hR hS cm_X9_45 ⟨rfl, rfl, Nat.le_of_ble_eq_true rfl, Nat.le_of_ble_eq_true rfl⟩ (c_X5_init k_a68 k_a72 k_a74 hq) rfl rfl (Nat.le_of_ble_eq_true rfl) dX9_init_113 ⟨Nat.le_of_ble_eq_true rfl, Nat.le_of_ble_eq_true rfl⟩) hS (fun T75 S76 H locs hf hR hS => ?_)
  obtain ⟨k_p0, hf⟩ := x_ok hf
  obtain ⟨k_a67, hf⟩ := x_ok hf
  obtain ⟨k_a68, hf⟩ := x_ok hf
  refine y_aast B hR hS hf k_a67 k_a68 dX9_init_116 (fun S77 H locs hf hR hS => ?_)
  refine x_iinc (v := 3) B.1 hl dX9_init_117 rfl (by decide) (by decide) rfl rfl (fun ls hl => ?_)
  have hl : xL ls 2 [_, _] := hl
  refine lv_goto (tgt := 84) B.1.1 B.1.2.1 dX9_init_120 (by decide) ?_
  refine lv_iload_n B.1.1 B.1.2.1 dX9_init_84 rfl (hl.at 1 rfl) ?_
  refine lv_bipush (v := 12) B.1.1 B.1.2.1 dX9_init_85 (by decide) ?_
  refine lv_icmp_ge (tgt := 123) B.1.1 B.1.2.1 dX9_init_87 (by decide) (fun h => absurd h (by decide)) (fun _ => ?_)
  refine lv_aload_n B.1.1 B.1.2.1 dX9_init_90 rfl (hl.at 0 rfl) ?_
  refine y_getR B hR hf k_p0 fl_X9_52 dX9_init_91 (fun a78 k_a78 hf => ?_)
  refine lv_iload_n B.1.1 B.1.2.1 dX9_init_94 rfl (hl.at 1 rfl) ?_
  refine y_new B hR hS hf nw_X9_37 ⟨Nat.le_of_ble_eq_true rfl, Nat.le_of_ble_eq_true rfl⟩ dX9_init_95 (fun a79 T80 S81 H k_a79 hf hR hS => ?_)
  obtain ⟨k_p0, hf⟩ := x_ok hf
  obtain ⟨k_a78, hf⟩ := x_ok hf
  refine lv_dup B.1.1 B.1.2.1 dX9_init_98 rfl ?_
  refine lv_aload_n B.1.1 B.1.2.1 dX9_init_99 rfl (hl.at 0 rfl) ?_
  refine y_getR B hR hf k_p0 fl_X9_48 dX9_init_100 (fun a82 k_a82 hf => ?_)
  refine y_getR B hR hf k_a82 fl_X9_56 dX9_init_103 (fun a83 k_a83 hf => ?_)
  refine lv_aload_n B.1.1 B.1.2.1 dX9_init_106 rfl (hl.at 0 rfl) ?_
  refine y_getR B hR hf k_p0 fl_X9_48 dX9_init_107 (fun a84 k_a84 hf => ?_)
  refine y_getR B hR hf k_a84 fl_X9_60 dX9_init_110 (fun a85 k_a85 hf => ?_)
  refine y_cT hf (fun q hq => x_runI B.1 B.2.2.2 hl hR hS cm_X9_45 ⟨rfl, rfl, Nat.le_of_ble_eq_true rfl, Nat.le_of_ble_eq_true rfl⟩ (c_X5_init k_a79 k_a83 k_a85 hq) rfl rfl (Nat.le_of_ble_eq_true rfl) dX9_init_113 ⟨Nat.le_of_ble_eq_true rfl, Nat.le_of_ble_eq_true rfl⟩) hS (fun T86 S87 H locs hf hR hS => ?_)
  obtain ⟨k_p0, hf⟩ := x_ok hf
  obtain ⟨k_a78, hf⟩ := x_ok hf
  obtain ⟨k_a79, hf⟩ := x_ok hf
  refine y_aast B hR hS hf k_a78 k_a79 dX9_init_116 (fun S88 H locs hf hR hS => ?_)
  refine x_iinc (v := 4) B.1 hl dX9_init_117 rfl (by decide) (by decide) rfl rfl (fun ls hl => ?_)
  have hl : xL ls 2 [_, _] := hl
  refine lv_goto (tgt := 84) B.1.1 B.1.2.1 dX9_init_120 (by decide) ?_
  refine lv_iload_n B.1.1 B.1.2.1 dX9_init_84 rfl (hl.at 1 rfl) ?_
  refine lv_bipush (v := 12) B.1.1 B.1.2.1 dX9_init_85 (by decide) ?_
  refine lv_icmp_ge (tgt := 123) B.1.1 B.1.2.1 dX9_init_87 (by decide) (fun h => absurd h (by decide)) (fun _ => ?_)
  refine lv_aload_n B.1.1 B.1.2.1 dX9_init_90 rfl (hl.at 0 rfl) ?_
  refine y_getR B hR hf k_p0 fl_X9_52 dX9_init_91 (fun a89 k_a89 hf => ?_)
  refine lv_iload_n B.1.1 B.1.2.1 dX9_init_94 rfl (hl.at 1 rfl) ?_
  refine y_new B hR hS hf nw_X9_37 ⟨Nat.le_of_ble_eq_true rfl, Nat.le_of_ble_eq_true rfl⟩ dX9_init_95 (fun a90 T91 S92 H k_a90 hf hR hS => ?_)
  obtain ⟨k_p0, hf⟩ := x_ok hf
  obtain ⟨k_a89, hf⟩ := x_ok hf
  refine lv_dup B.1.1 B.1.2.1 dX9_init_98 rfl ?_
  refine lv_aload_n B.1.1 B.1.2.1 dX9_init_99 rfl (hl.at 0 rfl) ?_
  refine y_getR B hR hf k_p0 fl_X9_48 dX9_init_100 (fun a93 k_a93 hf => ?_)
  refine y_getR B hR hf k_a93 fl_X9_56 dX9_init_103 (fun a94 k_a94 hf => ?_)
  refine lv_aload_n B.1.1 B.1.2.1 dX9_init_106 rfl (hl.at 0 rfl) ?_
  refine y_getR B hR hf k_p0 fl_X9_48 dX9_init_107 (fun a95 k_a95 hf => ?_)
  refine y_getR B hR hf k_a95 fl_X9_60 dX9_init_110 (fun a96 k_a96 hf => ?_)
  refine y_cT hf (fun q hq => x_runI B.1 B.2.2.2 hl hR hS cm_X9_45 ⟨rfl, rfl, Nat.le_of_ble_eq_true rfl, Nat.le_of_ble_eq_true rfl⟩ (c_X5_init k_a90 k_a94 k_a96 hq) rfl rfl (Nat.le_of_ble_eq_true rfl) dX9_init_113 ⟨Nat.le_of_ble_eq_true rfl, Nat.le_of_ble_eq_true rfl⟩) hS (fun T97 S98 H locs hf hR hS => ?_)
  obtain ⟨k_p0, hf⟩ := x_ok hf
  obtain ⟨k_a89, hf⟩ := x_ok hf
  obtain ⟨k_a90, hf⟩ := x_ok hf
  refine y_aast B hR hS hf k_a89 k_a90 dX9_init_116 (fun S99 H locs hf hR hS => ?_)
  refine x_iinc (v := 5) B.1 hl dX9_init_117 rfl (by decide) (by decide) rfl rfl (fun ls hl => ?_)
  have hl : xL ls 2 [_, _] := hl
  refine lv_goto (tgt := 84) B.1.1 B.1.2.1 dX9_init_120 (by decide) ?_
  refine lv_iload_n B.1.1 B.1.2.1 dX9_init_84 rfl (hl.at 1 rfl) ?_
  refine lv_bipush (v := 12) B.1.1 B.1.2.1 dX9_init_85 (by decide) ?_
  refine lv_icmp_ge (tgt := 123) B.1.1 B.1.2.1 dX9_init_87 (by decide) (fun h => absurd h (by decide)) (fun _ => ?_)
  refine lv_aload_n B.1.1 B.1.2.1 dX9_init_90 rfl (hl.at 0 rfl) ?_
  refine y_getR B hR hf k_p0 fl_X9_52 dX9_init_91 (fun a100 k_a100 hf => ?_)
  refine lv_iload_n B.1.1 B.1.2.1 dX9_init_94 rfl (hl.at 1 rfl) ?_
  refine y_new B hR hS hf nw_X9_37 ⟨Nat.le_of_ble_eq_true rfl, Nat.le_of_ble_eq_true rfl⟩ dX9_init_95 (fun a101 T102 S103 H k_a101 hf hR hS => ?_)
  obtain ⟨k_p0, hf⟩ := x_ok hf
  obtain ⟨k_a100, hf⟩ := x_ok hf
  refine lv_dup B.1.1 B.1.2.1 dX9_init_98 rfl ?_
  refine lv_aload_n B.1.1 B.1.2.1 dX9_init_99 rfl (hl.at 0 rfl) ?_
  refine y_getR B hR hf k_p0 fl_X9_48 dX9_init_100 (fun a104 k_a104 hf => ?_)
  refine y_getR B hR hf k_a104 fl_X9_56 dX9_init_103 (fun a105 k_a105 hf => ?_)
  refine lv_aload_n B.1.1 B.1.2.1 dX9_init_106 rfl (hl.at 0 rfl) ?_
  refine y_getR B hR hf k_p0 fl_X9_48 dX9_init_107 (fun a106 k_a106 hf => ?_)
  refine y_getR B hR hf k_a106 fl_X9_60 dX9_init_110 (fun a107 k_a107 hf => ?_)
  refine y_cT hf (fun q hq => x_runI B.1 B.2.2.2 hl hR hS cm_X9_45 ⟨rfl, rfl, Nat.le_of_ble_eq_true rfl, Nat.le_of_ble_eq_true rfl⟩ (c_X5_init k_a101 k_a105 k_a107 hq) rfl rfl (Nat.le_of_ble_eq_true rfl) dX9_init_113 ⟨Nat.le_of_ble_eq_true rfl, Nat.le_of_ble_eq_true rfl⟩) hS (fun T108 S109 H locs hf hR hS => ?_)
  obtain ⟨k_p0, hf⟩ := x_ok hf
  obtain ⟨k_a100, hf⟩ := x_ok hf
  obtain ⟨k_a101, hf⟩ := x_ok hf
  refine y_aast B hR hS hf k_a100 k_a101 dX9_init_116 (fun S110 H locs hf hR hS => ?_)
  refine x_iinc (v := 6) B.1 hl dX9_init_117 rfl (by decide) (by decide) rfl rfl (fun ls hl => ?_)
  have hl : xL ls 2 [_, _] := hl
  refine lv_goto (tgt := 84) B.1.1 B.1.2.1 dX9_init_120 (by decide) ?_
  refine lv_iload_n B.1.1 B.1.2.1 dX9_init_84 rfl (hl.at 1 rfl) ?_
  refine lv_bipush (v := 12) B.1.1 B.1.2.1 dX9_init_85 (by decide) ?_
  refine lv_icmp_ge (tgt := 123) B.1.1 B.1.2.1 dX9_init_87 (by decide) (fun h => absurd h (by decide)) (fun _ => ?_)
  refine lv_aload_n B.1.1 B.1.2.1 dX9_init_90 rfl (hl.at 0 rfl) ?_
  refine y_getR B hR hf k_p0 fl_X9_52 dX9_init_91 (fun a111 k_a111 hf => ?_)
  refine lv_iload_n B.1.1 B.1.2.1 dX9_init_94 rfl (hl.at 1 rfl) ?_
  refine y_new B hR hS hf nw_X9_37 ⟨Nat.le_of_ble_eq_true rfl, Nat.le_of_ble_eq_true rfl⟩ dX9_init_95 (fun a112 T113 S114 H k_a112 hf hR hS => ?_)
  obtain ⟨k_p0, hf⟩ := x_ok hf
  obtain ⟨k_a111, hf⟩ := x_ok hf
  refine lv_dup B.1.1 B.1.2.1 dX9_init_98 rfl ?_
  refine lv_aload_n B.1.1 B.1.2.1 dX9_init_99 rfl (hl.at 0 rfl) ?_
  refine y_getR B hR hf k_p0 fl_X9_48 dX9_init_100 (fun a115 k_a115 hf => ?_)
  refine y_getR B hR hf k_a115 fl_X9_56 dX9_init_103 (fun a116 k_a116 hf => ?_)
  refine lv_aload_n B.1.1 B.1.2.1 dX9_init_106 rfl (hl.at 0 rfl) ?_
  refine y_getR B hR hf k_p0 fl_X9_48 dX9_init_107 (fun a117 k_a117 hf => ?_)
  refine y_getR B hR hf k_a117 fl_X9_60 dX9_init_110 (fun a118 k_a118 hf => ?_)
  refine y_cT hf (fun q hq => x_runI B.1 B.2.2.2 hl hR hS cm_X9_45 ⟨rfl, rfl, Nat.le_of_ble_eq_true rfl, Nat.le_of_ble_eq_true rfl⟩ (c_X5_init k_a112 k_a116 k_a118 hq) rfl rfl (Nat.le_of_ble_eq_true rfl) dX9_init_113 ⟨Nat.le_of_ble_eq_true rfl, Nat.le_of_ble_eq_true rfl⟩) hS (fun T119 S120 H locs hf hR hS => ?_)
  obtain ⟨k_p0, hf⟩ := x_ok hf
  obtain ⟨k_a111, hf⟩ := x_ok hf
  obtain ⟨k_a112, hf⟩ := x_ok hf
  refine y_aast B hR hS hf k_a111 k_a112 dX9_init_116 (fun S121 H locs hf hR hS => ?_)
  refine x_iinc (v := 7) B.1 hl dX9_init_117 rfl (by decide) (by decide) rfl rfl (fun ls hl => ?_)
  have hl : xL ls 2 [_, _] := hl
  refine lv_goto (tgt := 84) B.1.1 B.1.2.1 dX9_init_120 (by decide) ?_
  refine lv_iload_n B.1.1 B.1.2.1 dX9_init_84 rfl (hl.at 1 rfl) ?_
  refine lv_bipush (v := 12) B.1.1 B.1.2.1 dX9_init_85 (by decide) ?_
  refine lv_icmp_ge (tgt := 123) B.1.1 B.1.2.1 dX9_init_87 (by decide) (fun h => absurd h (by decide)) (fun _ => ?_)
  refine lv_aload_n B.1.1 B.1.2.1 dX9_init_90 rfl (hl.at 0 rfl) ?_
  refine y_getR B hR hf k_p0 fl_X9_52 dX9_init_91 (fun a122 k_a122 hf => ?_)
  refine lv_iload_n B.1.1 B.1.2.1 dX9_init_94 rfl (hl.at 1 rfl) ?_
  refine y_new B hR hS hf nw_X9_37 ⟨Nat.le_of_ble_eq_true rfl, Nat.le_of_ble_eq_true rfl⟩ dX9_init_95 (fun a123 T124 S125 H k_a123 hf hR hS => ?_)
  obtain ⟨k_p0, hf⟩ := x_ok hf
  obtain ⟨k_a122, hf⟩ := x_ok hf
  refine lv_dup B.1.1 B.1.2.1 dX9_init_98 rfl ?_
  refine lv_aload_n B.1.1 B.1.2.1 dX9_init_99 rfl (hl.at 0 rfl) ?_
  refine y_getR B hR hf k_p0 fl_X9_48 dX9_init_100 (fun a126 k_a126 hf => ?_)
  refine y_getR B hR hf k_a126 fl_X9_56 dX9_init_103 (fun a127 k_a127 hf => ?_)
  refine lv_aload_n B.1.1 B.1.2.1 dX9_init_106 rfl (hl.at 0 rfl) ?_
  refine y_getR B hR hf k_p0 fl_X9_48 dX9_init_107 (fun a128 k_a128 hf => ?_)
  refine y_getR B hR hf k_a128 fl_X9_60 dX9_init_110 (fun a129 k_a129 hf => ?_)
  refine y_cT hf (fun q hq => x_runI B.1 B.2.2.2 hl hR hS cm_X9_45 ⟨rfl, rfl, Nat.le_of_ble_eq_true rfl, Nat.le_of_ble_eq_true rfl⟩ (c_X5_init k_a123 k_a127 k_a129 hq) rfl rfl (Nat.le_of_ble_eq_true rfl) dX9_init_113 ⟨Nat.le_of_ble_eq_true rfl, Nat.le_of_ble_eq_true rfl⟩) hS (fun T130 S131 H locs hf hR hS => ?_)
  obtain ⟨k_p0, hf⟩ := x_ok hf
  obtain ⟨k_a122, hf⟩ := x_ok hf
  obtain ⟨k_a123, hf⟩ := x_ok hf
  refine y_aast B hR hS hf k_a122 k_a123 dX9_init_116 (fun S132 H locs hf hR hS => ?_)
  refine x_iinc (v := 8) B.1 hl dX9_init_117 rfl (by decide) (by decide) rfl rfl (fun ls hl => ?_)
  have hl : xL ls 2 [_, _] := hl
  refine lv_goto (tgt := 84) B.1.1 B.1.2.1 dX9_init_120 (by decide) ?_
  refine lv_iload_n B.1.1 B.1.2.1 dX9_init_84 rfl (hl.at 1 rfl) ?_
  refine lv_bipush (v := 12) B.1.1 B.1.2.1 dX9_init_85 (by decide) ?_
  refine lv_icmp_ge (tgt := 123) B.1.1 B.1.2.1 dX9_init_87 (by decide) (fun h => absurd h (by decide)) (fun _ => ?_)
  refine lv_aload_n B.1.1 B.1.2.1 dX9_init_90 rfl (hl.at 0 rfl) ?_
  refine y_getR B hR hf k_p0 fl_X9_52 dX9_init_91 (fun a133 k_a133 hf => ?_)
  refine lv_iload_n B.1.1 B.1.2.1 dX9_init_94 rfl (hl.at 1 rfl) ?_
  refine y_new B hR hS hf nw_X9_37 ⟨Nat.le_of_ble_eq_true rfl, Nat.le_of_ble_eq_true rfl⟩ dX9_init_95 (fun a134 T135 S136 H k_a134 hf hR hS => ?_)
  obtain ⟨k_p0, hf⟩ := x_ok hf
  obtain ⟨k_a133, hf⟩ := x_ok hf
  refine lv_dup B.1.1 B.1.2.1 dX9_init_98 rfl ?_
  refine lv_aload_n B.1.1 B.1.2.1 dX9_init_99 rfl (hl.at 0 rfl) ?_
  refine y_getR B hR hf k_p0 fl_X9_48 dX9_init_100 (fun a137 k_a137 hf => ?_)
  refine y_getR B hR hf k_a137 fl_X9_56 dX9_init_103 (fun a138 k_a138 hf => ?_)
  refine lv_aload_n B.1.1 B.1.2.1 dX9_init_106 rfl (hl.at 0 rfl) ?_
  refine y_getR B hR hf k_p0 fl_X9_48 dX9_init_107 (fun a139 k_a139 hf => ?_)
  refine y_getR B hR hf k_a139 fl_X9_60 dX9_init_110 (fun a140 k_a140 hf => ?_)
  refine y_cT hf (fun q hq => x_runI B.1 B.2.2.2 hl hR hS cm_X9_45 ⟨rfl, rfl, Nat.le_of_ble_eq_true rfl, Nat.le_of_ble_eq_true rfl⟩ (c_X5_init k_a134 k_a138 k_a140 hq) rfl rfl (Nat.le_of_ble_eq_true rfl) dX9_init_113 ⟨Nat.le_of_ble_eq_true rfl, Nat.le_of_ble_eq_true rfl⟩) hS (fun T141 S142 H locs hf hR hS => ?_)
  obtain ⟨k_p0, hf⟩ := x_ok hf
  obtain ⟨k_a133, hf⟩ := x_ok hf
  obtain ⟨k_a134, hf⟩ := x_ok hf
  refine y_aast B hR hS hf k_a133 k_a134 dX9_init_116 (fun S143 H locs hf hR hS => ?_)
  refine x_iinc (v := 9) B.1 hl dX9_init_117 rfl (by decide) (by decide) rfl rfl (fun ls hl => ?_)
  have hl : xL ls 2 [_, _] := hl
  refine lv_goto (tgt := 84) B.1.1 B.1.2.1 dX9_init_120 (by decide) ?_
  refine lv_iload_n B.1.1 B.1.2.1 dX9_init_84 rfl (hl.at 1 rfl) ?_
  refine lv_bipush (v := 12) B.1.1 B.1.2.1 dX9_init_85 (by decide) ?_
  refine lv_icmp_ge (tgt := 123) B.1.1 B.1.2.1 dX9_init_87 (by decide) (fun h => absurd h (by decide)) (fun _ => ?_)
  refine lv_aload_n B.1.1 B.1.2.1 dX9_init_90 rfl (hl.at 0 rfl) ?_
  refine y_getR B hR hf k_p0 fl_X9_52 dX9_init_91 (fun a144 k_a144 hf => ?_)
  refine lv_iload_n B.1.1 B.1.2.1 dX9_init_94 rfl (hl.at 1 rfl) ?_
  refine y_new B hR hS hf nw_X9_37 ⟨Nat.le_of_ble_eq_true rfl, Nat.le_of_ble_eq_true rfl⟩ dX9_init_95 (fun a145 T146 S147 H k_a145 hf hR hS => ?_)
  obtain ⟨k_p0, hf⟩ := x_ok hf
  obtain ⟨k_a144, hf⟩ := x_ok hf
  refine lv_dup B.1.1 B.1.2.1 dX9_init_98 rfl ?_
  refine lv_aload_n B.1.1 B.1.2.1 dX9_init_99 rfl (hl.at 0 rfl) ?_
  refine y_getR B hR hf k_p0 fl_X9_48 dX9_init_100 (fun a148 k_a148 hf => ?_)
  refine y_getR B hR hf k_a148 fl_X9_56 dX9_init_103 (fun a149 k_a149 hf => ?_)
  refine lv_aload_n B.1.1 B.1.2.1 dX9_init_106 rfl (hl.at 0 rfl) ?_
  refine y_getR B hR hf k_p0 fl_X9_48 dX9_init_107 (fun a150 k_a150 hf => ?_)
  refine y_getR B hR hf k_a150 fl_X9_60 dX9_init_110 (fun a151 k_a151 hf => ?_)
  refine y_cT hf (fun q hq => x_runI B.1 B.2.2.2 hl hR hS cm_X9_45 ⟨rfl, rfl, Nat.le_of_ble_eq_true rfl, Nat.le_of_ble_eq_true rfl⟩ (c_X5_init k_a145 k_a149 k_a151 hq) rfl rfl (Nat.le_of_ble_eq_true rfl) dX9_init_113 ⟨Nat.le_of_ble_eq_true rfl, Nat.le_of_ble_eq_true rfl⟩) hS (fun T152 S153 H locs hf hR hS => ?_)
  obtain ⟨k_p0, hf⟩ := x_ok hf
  obtain ⟨k_a144, hf⟩ := x_ok hf
  obtain ⟨k_a145, hf⟩ := x_ok hf
  refine y_aast B hR hS hf k_a144 k_a145 dX9_init_116 (fun S154 H locs hf hR hS => ?_)
  refine x_iinc (v := 10) B.1 hl dX9_init_117 rfl (by decide) (by decide) rfl rfl (fun ls hl => ?_)
  have hl : xL ls 2 [_, _] := hl
  refine lv_goto (tgt := 84) B.1.1 B.1.2.1 dX9_init_120 (by decide) ?_
  refine lv_iload_n B.1.1 B.1.2.1 dX9_init_84 rfl (hl.at 1 rfl) ?_
  refine lv_bipush (v := 12) B.1.1 B.1.2.1 dX9_init_85 (by decide) ?_
  refine lv_icmp_ge (tgt := 123) B.1.1 B.1.2.1 dX9_init_87 (by decide) (fun h => absurd h (by decide)) (fun _ => ?_)
  refine lv_aload_n B.1.1 B.1.2.1 dX9_init_90 rfl (hl.at 0 rfl) ?_
  refine y_getR B hR hf k_p0 fl_X9_52 dX9_init_91 (fun a155 k_a155 hf => ?_)
  refine lv_iload_n B.1.1 B.1.2.1 dX9_init_94 rfl (hl.at 1 rfl) ?_
  refine y_new B hR hS hf nw_X9_37 ⟨Nat.le_of_ble_eq_true rfl, Nat.le_of_ble_eq_true rfl⟩ dX9_init_95 (fun a156 T157 S158 H k_a156 hf hR hS => ?_)
  obtain ⟨k_p0, hf⟩ := x_ok hf
  obtain ⟨k_a155, hf⟩ := x_ok hf
  refine lv_dup B.1.1 B.1.2.1 dX9_init_98 rfl ?_
  refine lv_aload_n B.1.1 B.1.2.1 dX9_init_99 rfl (hl.at 0 rfl) ?_
  refine y_getR B hR hf k_p0 fl_X9_48 dX9_init_100 (fun a159 k_a159 hf => ?_)
  refine y_getR B hR hf k_a159 fl_X9_56 dX9_init_103 (fun a160 k_a160 hf => ?_)
  refine lv_aload_n B.1.1 B.1.2.1 dX9_init_106 rfl (hl.at 0 rfl) ?_
  refine y_getR B hR hf k_p0 fl_X9_48 dX9_init_107 (fun a161 k_a161 hf => ?_)
  refine y_getR B hR hf k_a161 fl_X9_60 dX9_init_110 (fun a162 k_a162 hf => ?_)
  refine y_cT hf (fun q hq => x_runI B.1 B.2.2.2 hl hR hS cm_X9_45 ⟨rfl, rfl, Nat.le_of_ble_eq_true rfl, Nat.le_of_ble_eq_true rfl⟩ (c_X5_init k_a156 k_a160 k_a162 hq) rfl rfl (Nat.le_of_ble_eq_true rfl) dX9_init_113 ⟨Nat.le_of_ble_eq_true rfl, Nat.le_of_ble_eq_true rfl⟩) hS (fun T163 S164 H locs hf hR hS => ?_)
  obtain ⟨k_p0, hf⟩ := x_ok hf
  obtain ⟨k_a155, hf⟩ := x_ok hf
  obtain ⟨k_a156, hf⟩ := x_ok hf
  refine y_aast B hR hS hf k_a155 k_a156 dX9_init_116 (fun S165 H locs hf hR hS => ?_)
  refine x_iinc (v := 11) B.1 hl dX9_init_117 rfl (by decide) (by decide) rfl rfl (fun ls hl => ?_)
  have hl : xL ls 2 [_, _] := hl
  refine lv_goto (tgt := 84) B.1.1 B.1.2.1 dX9_init_120 (by decide) ?_
  refine lv_iload_n B.1.1 B.1.2.1 dX9_init_84 rfl (hl.at 1 rfl) ?_
  refine lv_bipush (v := 12) B.1.1 B.1.2.1 dX9_init_85 (by decide) ?_
  refine lv_icmp_ge (tgt := 123) B.1.1 B.1.2.1 dX9_init_87 (by decide) (fun h => absurd h (by decide)) (fun _ => ?_)
  refine lv_aload_n B.1.1 B.1.2.1 dX9_init_90 rfl (hl.at 0 rfl) ?_
  refine y_getR B hR hf k_p0 fl_X9_52 dX9_init_91 (fun a166 k_a166 hf => ?_)
  refine lv_iload_n B.1.1 B.1.2.1 dX9_init_94 rfl (hl.at 1 rfl) ?_
  refine y_new B hR hS hf nw_X9_37 ⟨Nat.le_of_ble_eq_true rfl, Nat.le_of_ble_eq_true rfl⟩ dX9_init_95 (fun a167 T168 S169 H k_a167 hf hR hS => ?_)
  obtain ⟨k_p0, hf⟩ := x_ok hf
  obtain ⟨k_a166, hf⟩ := x_ok hf
  refine lv_dup B.1.1 B.1.2.1 dX9_init_98 rfl ?_
  refine lv_aload_n B.1.1 B.1.2.1 dX9_init_99 rfl (hl.at 0 rfl) ?_
  refine y_getR B hR hf k_p0 fl_X9_48 dX9_init_100 (fun a170 k_a170 hf => ?_)
  refine y_getR B hR hf k_a170 fl_X9_56 dX9_init_103 (fun a171 k_a171 hf => ?_)
  refine lv_aload_n B.1.1 B.1.2.1 dX9_init_106 rfl (hl.at 0 rfl) ?_
  refine y_getR B hR hf k_p0 fl_X9_48 dX9_init_107 (fun a172 k_a172 hf => ?_)
  refine y_getR B hR hf k_a172 fl_X9_60 dX9_init_110 (fun a173 k_a173 hf => ?_)
  refine y_cT hf (fun q hq => x_runI B.1 B.2.2.2 hl hR hS cm_X9_45 ⟨rfl, rfl, Nat.le_of_ble_eq_true rfl, Nat.le_of_ble_eq_true rfl⟩ (c_X5_init k_a167 k_a171 k_a173 hq) rfl rfl (Nat.le_of_ble_eq_true rfl) dX9_init_113 ⟨Nat.le_of_ble_eq_true rfl, Nat.le_of_ble_eq_true rfl⟩) hS (fun T174 S175 H locs hf hR hS => ?_)
  obtain ⟨k_p0, hf⟩ := x_ok hf
  obtain ⟨k_a166, hf⟩ := x_ok hf
  obtain ⟨k_a167, hf⟩ := x_ok hf
  refine y_aast B hR hS hf k_a166 k_a167 dX9_init_116 (fun S176 H locs hf hR hS => ?_)
  refine x_iinc (v := 12) B.1 hl dX9_init_117 rfl (by decide) (by decide) rfl rfl (fun ls hl => ?_)
  have hl : xL ls 2 [_, _] := hl
  refine lv_goto (tgt := 84) B.1.1 B.1.2.1 dX9_init_120 (by decide) ?_
  refine lv_iload_n B.1.1 B.1.2.1 dX9_init_84 rfl (hl.at 1 rfl) ?_
  refine lv_bipush (v := 12) B.1.1 B.1.2.1 dX9_init_85 (by decide) ?_
  refine lv_icmp_ge (tgt := 123) B.1.1 B.1.2.1 dX9_init_87 (by decide) (fun _ => ?_) (fun h => absurd h (by decide))
  refine lv_aload_n B.1.1 B.1.2.1 dX9_init_123 rfl (hl.at 0 rfl) ?_
  refine lv_iconst (v := 2) B.1.1 B.1.2.1 dX9_init_124 (by decide) ?_
  refine y_newq (N := 2) B hR hS hf tw_143 (by decide) (by decide +kernel) (Nat.le_of_ble_eq_true rfl) ⟨Nat.le_of_ble_eq_true rfl, Nat.le_of_ble_eq_true rfl⟩ dX9_init_125 (fun a177 T178 S179 H k_a177 hf hR hS => ?_)
  obtain ⟨k_p0, hf⟩ := x_ok hf
  refine y_putF B hR hS hnm hf (fun _ => rfl) (fun _ => rfl) k_p0 ff_X9_64 dX9_init_128 (fun S180 H locs hf hR hS => ?_)
  refine lv_aload_n B.1.1 B.1.2.1 dX9_init_131 rfl (hl.at 0 rfl) ?_
  refine y_new B hR hS hf nw_X9_67 ⟨Nat.le_of_ble_eq_true rfl, Nat.le_of_ble_eq_true rfl⟩ dX9_init_132 (fun a181 T182 S183 H k_a181 hf hR hS => ?_)
  obtain ⟨k_p0, hf⟩ := x_ok hf
  refine lv_dup B.1.1 B.1.2.1 dX9_init_135 rfl ?_
  refine y_cT hf (fun q hq => x_runJ B.1 B.2.2.2 hl hR hS cm_X9_69 ⟨rfl, rfl, Nat.le_of_ble_eq_true rfl, Nat.le_of_ble_eq_true rfl⟩ (c_X1_init k_a181 hq) rfl rfl (Nat.le_of_ble_eq_true rfl) dX9_init_136 ⟨Nat.le_of_ble_eq_true rfl, Nat.le_of_ble_eq_true rfl⟩) hS (fun T184 S185 H locs hf hR hS => ?_)
  obtain ⟨k_p0, hf⟩ := x_ok hf
  obtain ⟨k_a181, hf⟩ := x_ok hf
  refine y_putF B hR hS hnm hf (fun _ => rfl) (fun _ => rfl) k_p0 ff_X9_70 dX9_init_139 (fun S186 H locs hf hR hS => ?_)
  refine lv_aload_n B.1.1 B.1.2.1 dX9_init_142 rfl (hl.at 0 rfl) ?_
  refine y_new B hR hS hf nw_X9_74 ⟨Nat.le_of_ble_eq_true rfl, Nat.le_of_ble_eq_true rfl⟩ dX9_init_143 (fun a187 T188 S189 H k_a187 hf hR hS => ?_)
  obtain ⟨k_p0, hf⟩ := x_ok hf
  refine lv_dup B.1.1 B.1.2.1 dX9_init_146 rfl ?_
  refine y_cT hf (fun q hq => x_runJ B.1 B.2.2.2 hl hR hS cm_X9_76 ⟨rfl, rfl, Nat.le_of_ble_eq_true rfl, Nat.le_of_ble_eq_true rfl⟩ (c_X7_init k_a187 hq) rfl rfl (Nat.le_of_ble_eq_true rfl) dX9_init_147 ⟨Nat.le_of_ble_eq_true rfl, Nat.le_of_ble_eq_true rfl⟩) hS (fun T190 S191 H locs hf hR hS => ?_)
  obtain ⟨k_p0, hf⟩ := x_ok hf
  obtain ⟨k_a187, hf⟩ := x_ok hf
  refine y_putF B hR hS hnm hf (fun _ => rfl) (fun _ => rfl) k_p0 ff_X9_77 dX9_init_150 (fun S192 H locs hf hR hS => ?_)
  refine lv_aload_n B.1.1 B.1.2.1 dX9_init_153 rfl (hl.at 0 rfl) ?_
  refine lv_iconst (v := -1) B.1.1 B.1.2.1 dX9_init_154 (by decide) ?_
  refine y_putI B hR hS hf k_p0 fp_X9_81 dX9_init_155 (fun S193 H locs hf hR hS => ?_)
  refine W.widen (k := 198) (n := 3239) (Nat.le_of_ble_eq_true rfl) (Nat.le_of_ble_eq_true rfl) ?_
  exact y_vretT B hR hS hf dX9_init_158
abbrev xr_X10_init : Room := { frames := 3, cells := 15, slots := 7091, locals := 85 }
set_option maxRecDepth 100000 in
def f_X10_init (T : xT) (S : xS) (p0 : Nat) : Option (xT × xS) := xnw T S 20 5856 (fun a1 T2 S3 => xgd (xlk T2 p0 10) (xpr S3 p0 0 a1 (fun S4 => xnw T2 S4 23 2 (fun a5 T6 S7 => xgd (xlk T6 p0 10) (xpr S7 p0 3 a5 (fun S8 => xnw T6 S8 22 400 (fun a9 T10 S11 => xgd (xlk T10 p0 10) (xpr S11 p0 4 a9 (fun S12 => xpi S12 p0 9 ((-1 : Int32)) (fun S13 => xnw T10 S13 20 81 (fun a14 T15 S16 => xgd (xlk T15 p0 10) (xpr S16 p0 13 a14 (fun S17 => xnw T15 S17 21 8 (fun a18 T19 S20 => xgd (xlk T19 p0 10) (xpr S20 p0 15 a18 (fun S21 => xnw T19 S21 20 8 (fun a22 T23 S24 => xgd (xlk T23 p0 10) (xpr S24 p0 16 a22 (fun S25 => xnw T23 S25 20 8 (fun a26 T27 S28 => xgd (xlk T27 p0 10) (xpr S28 p0 17 a26 (fun S29 => xnw T27 S29 20 8 (fun a30 T31 S32 => xgd (xlk T31 p0 10) (xpr S32 p0 18 a30 (fun S33 => xnw T31 S33 20 8 (fun a34 T35 S36 => xgd (xlk T35 p0 10) (xpr S36 p0 19 a34 (fun S37 => xnw T35 S37 20 48 (fun a38 T39 S40 => xgd (xlk T39 p0 10) (xpr S40 p0 20 a38 (fun S41 => xnw T39 S41 20 100 (fun a42 T43 S44 => xgd (xlk T43 p0 10) (xpr S44 p0 21 a42 (fun S45 => xnw T43 S45 20 44 (fun a46 T47 S48 => xgd (xlk T47 p0 10) (xpr S48 p0 25 a46 (fun S49 => xnw T47 S49 20 90 (fun a50 T51 S52 => xgd (xlk T51 p0 10) (xpr S52 p0 27 a50 (fun S53 => xnw T51 S53 20 30 (fun a54 T55 S56 => xgd (xlk T55 p0 10) (xpr S56 p0 28 a54 (fun S57 => xpi S57 p0 31 ((-1 : Int32)) (fun S58 => xnw T55 S58 22 400 (fun a59 T60 S61 => xgd (xlk T60 p0 10) (xpr S61 p0 32 a59 (fun S62 => xcv (f_X10_layPlainTiers T60 S62 p0) (fun S63 => some (T60, S63)))))))))))))))))))))))))))))))))))))))))))))))))
set_option maxRecDepth 100000 in
set_option maxHeartbeats 4000000 in
theorem c_X10_init {l : Launch} {z : Nat} {D : va_G} {dA : Nat → ClassId} {T : xT} {S : xS} {p0 : Nat} (k_p0 : xlk T p0 10 = true) {q : xT × xS} (hf : f_X10_init T S p0 = some q) : Met l yX10_init (xws yX10_init cX10_init 1 none) xr_X10_init (xPc z D dA T S [.ref (z + p0)]) (xQvT z D dA q) 15 7091 (xA z) := by
  refine x_met RX10 (by decide) rfl (Nat.le_of_ble_eq_true rfl) ?_
  intro p e s m below meth c ls _ X hr hlk hml hnm hR hS hl
  have B : xB p s m _ meth c cX10_init RX10 1 none D dA := ⟨X, hr, hlk, hml⟩
  have hl : xL ls 1 [_] := hl
  unfold f_X10_init at hf
  refine lv_aload_n B.1.1 B.1.2.1 dX10_init_0 rfl (hl.at 0 rfl) ?_
  refine y_obj B hl ob_X10_11 ⟨Nat.le_of_ble_eq_true rfl, Nat.le_of_ble_eq_true rfl⟩ dX10_init_1 ?_
  refine lv_aload_n B.1.1 B.1.2.1 dX10_init_4 rfl (hl.at 0 rfl) ?_
  refine lv_sipush (v := 5856) B.1.1 B.1.2.1 dX10_init_5 (by decide) ?_
  refine y_newaI (N := 5856) B hR hS hf tw_61 (by decide) (by decide +kernel) (Nat.le_of_ble_eq_true rfl) ⟨Nat.le_of_ble_eq_true rfl, Nat.le_of_ble_eq_true rfl⟩ dX10_init_8 (fun a1 T2 S3 H k_a1 hf hR hS => ?_)
  obtain ⟨k_p0, hf⟩ := x_ok hf
  refine y_putF B hR hS hnm hf (fun _ => rfl) (fun _ => rfl) k_p0 ff_X10_1 dX10_init_10 (fun S4 H locs hf hR hS => ?_)
  refine lv_aload_n B.1.1 B.1.2.1 dX10_init_13 rfl (hl.at 0 rfl) ?_
  refine lv_iconst (v := 2) B.1.1 B.1.2.1 dX10_init_14 (by decide) ?_
  refine y_newaZ (N := 2) B hR hS hf tw_1166 (by decide) (by decide +kernel) (Nat.le_of_ble_eq_true rfl) ⟨Nat.le_of_ble_eq_true rfl, Nat.le_of_ble_eq_true rfl⟩ dX10_init_15 (fun a5 T6 S7 H k_a5 hf hR hS => ?_)
  obtain ⟨k_p0, hf⟩ := x_ok hf
  refine y_putF B hR hS hnm hf (fun _ => rfl) (fun _ => rfl) k_p0 ff_X10_17 dX10_init_17 (fun S8 H locs hf hR hS => ?_)
  refine lv_aload_n B.1.1 B.1.2.1 dX10_init_20 rfl (hl.at 0 rfl) ?_
  refine lv_sipush (v := 400) B.1.1 B.1.2.1 dX10_init_21 (by decide) ?_
  refine y_newaB (N := 400) B hR hS hf tw_536 (by decide) (by decide +kernel) (Nat.le_of_ble_eq_true rfl) ⟨Nat.le_of_ble_eq_true rfl, Nat.le_of_ble_eq_true rfl⟩ dX10_init_24 (fun a9 T10 S11 H k_a9 hf hR hS => ?_)
  obtain ⟨k_p0, hf⟩ := x_ok hf
  refine y_putF B hR hS hnm hf (fun _ => rfl) (fun _ => rfl) k_p0 ff_X10_21 dX10_init_26 (fun S12 H locs hf hR hS => ?_)
  refine lv_aload_n B.1.1 B.1.2.1 dX10_init_29 rfl (hl.at 0 rfl) ?_
  refine lv_iconst (v := -1) B.1.1 B.1.2.1 dX10_init_30 (by decide) ?_
  refine y_putI B hR hS hf k_p0 fp_X10_25 dX10_init_31 (fun S13 H locs hf hR hS => ?_)
  refine lv_aload_n B.1.1 B.1.2.1 dX10_init_34 rfl (hl.at 0 rfl) ?_
  refine lv_bipush (v := 81) B.1.1 B.1.2.1 dX10_init_35 (by decide) ?_
  refine y_newaI (N := 81) B hR hS hf tw_61 (by decide) (by decide +kernel) (Nat.le_of_ble_eq_true rfl) ⟨Nat.le_of_ble_eq_true rfl, Nat.le_of_ble_eq_true rfl⟩ dX10_init_37 (fun a14 T15 S16 H k_a14 hf hR hS => ?_)
  obtain ⟨k_p0, hf⟩ := x_ok hf
  refine y_putF B hR hS hnm hf (fun _ => rfl) (fun _ => rfl) k_p0 ff_X10_28 dX10_init_39 (fun S17 H locs hf hR hS => ?_)
  refine lv_aload_n B.1.1 B.1.2.1 dX10_init_42 rfl (hl.at 0 rfl) ?_
  refine lv_bipush (v := 8) B.1.1 B.1.2.1 dX10_init_43 (by decide) ?_
  refine y_newaJ (N := 8) B hR hS hf tw_1167 (by decide) (by decide +kernel) (Nat.le_of_ble_eq_true rfl) ⟨Nat.le_of_ble_eq_true rfl, Nat.le_of_ble_eq_true rfl⟩ dX10_init_45 (fun a18 T19 S20 H k_a18 hf hR hS => ?_)
  obtain ⟨k_p0, hf⟩ := x_ok hf
  refine y_putF B hR hS hnm hf (fun _ => rfl) (fun _ => rfl) k_p0 ff_X10_31 dX10_init_47 (fun S21 H locs hf hR hS => ?_)
  refine lv_aload_n B.1.1 B.1.2.1 dX10_init_50 rfl (hl.at 0 rfl) ?_
  refine lv_bipush (v := 8) B.1.1 B.1.2.1 dX10_init_51 (by decide) ?_
  refine y_newaI (N := 8) B hR hS hf tw_61 (by decide) (by decide +kernel) (Nat.le_of_ble_eq_true rfl) ⟨Nat.le_of_ble_eq_true rfl, Nat.le_of_ble_eq_true rfl⟩ dX10_init_53 (fun a22 T23 S24 H k_a22 hf hR hS => ?_)
  obtain ⟨k_p0, hf⟩ := x_ok hf
  refine y_putF B hR hS hnm hf (fun _ => rfl) (fun _ => rfl) k_p0 ff_X10_35 dX10_init_55 (fun S25 H locs hf hR hS => ?_)
  refine lv_aload_n B.1.1 B.1.2.1 dX10_init_58 rfl (hl.at 0 rfl) ?_
  refine lv_bipush (v := 8) B.1.1 B.1.2.1 dX10_init_59 (by decide) ?_
  refine y_newaI (N := 8) B hR hS hf tw_61 (by decide) (by decide +kernel) (Nat.le_of_ble_eq_true rfl) ⟨Nat.le_of_ble_eq_true rfl, Nat.le_of_ble_eq_true rfl⟩ dX10_init_61 (fun a26 T27 S28 H k_a26 hf hR hS => ?_)
  obtain ⟨k_p0, hf⟩ := x_ok hf
  refine y_putF B hR hS hnm hf (fun _ => rfl) (fun _ => rfl) k_p0 ff_X10_38 dX10_init_63 (fun S29 H locs hf hR hS => ?_)
  refine lv_aload_n B.1.1 B.1.2.1 dX10_init_66 rfl (hl.at 0 rfl) ?_
  refine lv_bipush (v := 8) B.1.1 B.1.2.1 dX10_init_67 (by decide) ?_
  refine y_newaI (N := 8) B hR hS hf tw_61 (by decide) (by decide +kernel) (Nat.le_of_ble_eq_true rfl) ⟨Nat.le_of_ble_eq_true rfl, Nat.le_of_ble_eq_true rfl⟩ dX10_init_69 (fun a30 T31 S32 H k_a30 hf hR hS => ?_)
  obtain ⟨k_p0, hf⟩ := x_ok hf
  refine y_putF B hR hS hnm hf (fun _ => rfl) (fun _ => rfl) k_p0 ff_X10_41 dX10_init_71 (fun S33 H locs hf hR hS => ?_)
  refine lv_aload_n B.1.1 B.1.2.1 dX10_init_74 rfl (hl.at 0 rfl) ?_
  refine lv_bipush (v := 8) B.1.1 B.1.2.1 dX10_init_75 (by decide) ?_
  refine y_newaI (N := 8) B hR hS hf tw_61 (by decide) (by decide +kernel) (Nat.le_of_ble_eq_true rfl) ⟨Nat.le_of_ble_eq_true rfl, Nat.le_of_ble_eq_true rfl⟩ dX10_init_77 (fun a34 T35 S36 H k_a34 hf hR hS => ?_)
  obtain ⟨k_p0, hf⟩ := x_ok hf
  refine y_putF B hR hS hnm hf (fun _ => rfl) (fun _ => rfl) k_p0 ff_X10_44 dX10_init_79 (fun S37 H locs hf hR hS => ?_)
  refine lv_aload_n B.1.1 B.1.2.1 dX10_init_82 rfl (hl.at 0 rfl) ?_
  refine lv_bipush (v := 48) B.1.1 B.1.2.1 dX10_init_83 (by decide) ?_
  refine y_newaI (N := 48) B hR hS hf tw_61 (by decide) (by decide +kernel) (Nat.le_of_ble_eq_true rfl) ⟨Nat.le_of_ble_eq_true rfl, Nat.le_of_ble_eq_true rfl⟩ dX10_init_85 (fun a38 T39 S40 H k_a38 hf hR hS => ?_)
  obtain ⟨k_p0, hf⟩ := x_ok hf
  refine y_putF B hR hS hnm hf (fun _ => rfl) (fun _ => rfl) k_p0 ff_X10_47 dX10_init_87 (fun S41 H locs hf hR hS => ?_)
  refine lv_aload_n B.1.1 B.1.2.1 dX10_init_90 rfl (hl.at 0 rfl) ?_
  refine lv_bipush (v := 100) B.1.1 B.1.2.1 dX10_init_91 (by decide) ?_
  refine y_newaI (N := 100) B hR hS hf tw_61 (by decide) (by decide +kernel) (Nat.le_of_ble_eq_true rfl) ⟨Nat.le_of_ble_eq_true rfl, Nat.le_of_ble_eq_true rfl⟩ dX10_init_93 (fun a42 T43 S44 H k_a42 hf hR hS => ?_)
  obtain ⟨k_p0, hf⟩ := x_ok hf
  refine y_putF B hR hS hnm hf (fun _ => rfl) (fun _ => rfl) k_p0 ff_X10_50 dX10_init_95 (fun S45 H locs hf hR hS => ?_)
  refine lv_aload_n B.1.1 B.1.2.1 dX10_init_98 rfl (hl.at 0 rfl) ?_
  refine lv_bipush (v := 44) B.1.1 B.1.2.1 dX10_init_99 (by decide) ?_
  refine y_newaI (N := 44) B hR hS hf tw_61 (by decide) (by decide +kernel) (Nat.le_of_ble_eq_true rfl) ⟨Nat.le_of_ble_eq_true rfl, Nat.le_of_ble_eq_true rfl⟩ dX10_init_101 (fun a46 T47 S48 H k_a46 hf hR hS => ?_)
  obtain ⟨k_p0, hf⟩ := x_ok hf
  refine y_putF B hR hS hnm hf (fun _ => rfl) (fun _ => rfl) k_p0 ff_X10_53 dX10_init_103 (fun S49 H locs hf hR hS => ?_)
  refine lv_aload_n B.1.1 B.1.2.1 dX10_init_106 rfl (hl.at 0 rfl) ?_
  refine lv_bipush (v := 90) B.1.1 B.1.2.1 dX10_init_107 (by decide) ?_
  refine y_newaI (N := 90) B hR hS hf tw_61 (by decide) (by decide +kernel) (Nat.le_of_ble_eq_true rfl) ⟨Nat.le_of_ble_eq_true rfl, Nat.le_of_ble_eq_true rfl⟩ dX10_init_109 (fun a50 T51 S52 H k_a50 hf hR hS => ?_)
  obtain ⟨k_p0, hf⟩ := x_ok hf
  refine y_putF B hR hS hnm hf (fun _ => rfl) (fun _ => rfl) k_p0 ff_X10_56 dX10_init_111 (fun S53 H locs hf hR hS => ?_)
  refine lv_aload_n B.1.1 B.1.2.1 dX10_init_114 rfl (hl.at 0 rfl) ?_
  refine lv_bipush (v := 30) B.1.1 B.1.2.1 dX10_init_115 (by decide) ?_
  refine y_newaI (N := 30) B hR hS hf tw_61 (by decide) (by decide +kernel) (Nat.le_of_ble_eq_true rfl) ⟨Nat.le_of_ble_eq_true rfl, Nat.le_of_ble_eq_true rfl⟩ dX10_init_117 (fun a54 T55 S56 H k_a54 hf hR hS => ?_)
  obtain ⟨k_p0, hf⟩ := x_ok hf
  refine y_putF B hR hS hnm hf (fun _ => rfl) (fun _ => rfl) k_p0 ff_X10_59 dX10_init_119 (fun S57 H locs hf hR hS => ?_)
  refine lv_aload_n B.1.1 B.1.2.1 dX10_init_122 rfl (hl.at 0 rfl) ?_
  refine lv_iconst (v := -1) B.1.1 B.1.2.1 dX10_init_123 (by decide) ?_
  refine y_putI B hR hS hf k_p0 fp_X10_62 dX10_init_124 (fun S58 H locs hf hR hS => ?_)
  refine lv_aload_n B.1.1 B.1.2.1 dX10_init_127 rfl (hl.at 0 rfl) ?_
  refine lv_sipush (v := 400) B.1.1 B.1.2.1 dX10_init_128 (by decide) ?_
  refine y_newaB (N := 400) B hR hS hf tw_536 (by decide) (by decide +kernel) (Nat.le_of_ble_eq_true rfl) ⟨Nat.le_of_ble_eq_true rfl, Nat.le_of_ble_eq_true rfl⟩ dX10_init_131 (fun a59 T60 S61 H k_a59 hf hR hS => ?_)
  obtain ⟨k_p0, hf⟩ := x_ok hf
  refine y_putF B hR hS hnm hf (fun _ => rfl) (fun _ => rfl) k_p0 ff_X10_65 dX10_init_133 (fun S62 H locs hf hR hS => ?_)
  refine lv_aload_n B.1.1 B.1.2.1 dX10_init_136 rfl (hl.at 0 rfl) ?_
  refine y_cv hf (fun q hq => x_runV (ci := 10) (C := RX10) B.1 B.2.2.2 hl hR hS cm_X10_68 ⟨rfl, rfl, Nat.le_of_ble_eq_true rfl, Nat.le_of_ble_eq_true rfl⟩ (by decide) rfl k_p0 (c_X10_layPlainTiers k_p0 hq) rfl rfl (Nat.le_of_ble_eq_true rfl) dX10_init_137 ⟨Nat.le_of_ble_eq_true rfl, Nat.le_of_ble_eq_true rfl⟩) hS (fun S63 H locs hf hR hS => ?_)
  refine W.widen (k := 15) (n := 7091) (Nat.le_of_ble_eq_true rfl) (Nat.le_of_ble_eq_true rfl) ?_
  exact y_vretT B hR hS hf dX10_init_140
abbrev xr_X9_tiers : Room := { frames := 9, cells := 3, slots := 84, locals := 189 }
set_option maxRecDepth 100000 in
def f_X9_tiers (T : xT) (S : xS) (p0 : Nat) : Option (Int32 × xT × xS) := xnw T S 8 0 (fun a1 T2 S3 => xgd (xlk T2 p0 9) (xcT (f_X8_init T2 S3 a1) (fun T4 S5 => xgd (xlk T4 p0 9) (xgd (xlk T4 a1 8) (xgr T4 S5 p0 0 3 (fun a6 => xc (f_X8_readTiers T4 S5 a1 a6) (fun r8 S7 => xcv (f_X9_tapeWasRead T4 S7 p0) (fun S9 => if r8 = (-1 : Int32) then some (r8, T4, S9) else xcv (f_X9_remember T4 S9 p0) (fun S10 => xgr T4 S10 p0 4 5 (fun a11 => xpr S10 a11 2 a1 (fun S12 => some (r8, T4, S12))))))))))))
set_option maxRecDepth 100000 in
set_option maxHeartbeats 4000000 in
theorem c_X9_tiers {l : Launch} {z : Nat} {D : va_G} {dA : Nat → ClassId} {T : xT} {S : xS} {p0 : Nat} (k_p0 : xlk T p0 9 = true) {q : Int32 × xT × xS} (hf : f_X9_tiers T S p0 = some q) : Met l yX9_tiers (xws yX9_tiers cX9_tiers 3 (some .int)) xr_X9_tiers (xPc z D dA T S [.ref (z + p0)]) (xQiT z D dA q) 3 84 (xA z) := by
  refine x_met RX9 (by decide) rfl (Nat.le_of_ble_eq_true rfl) ?_
  intro p e s m below meth c ls _ X hr hlk hml hnm hR hS hl
  have B : xB p s m _ meth c cX9_tiers RX9 3 (some .int) D dA := ⟨X, hr, hlk, hml⟩
  have hl : xL ls 3 [_, _, _] := hl
  unfold f_X9_tiers at hf
  refine y_new B hR hS hf nw_X9_39 ⟨Nat.le_of_ble_eq_true rfl, Nat.le_of_ble_eq_true rfl⟩ dX9_tiers_0 (fun a1 T2 S3 H k_a1 hf hR hS => ?_)
  obtain ⟨k_p0, hf⟩ := x_ok hf
  refine lv_dup B.1.1 B.1.2.1 dX9_tiers_3 rfl ?_
  refine y_cT hf (fun q hq => x_runI B.1 B.2.2.2 hl hR hS cm_X9_41 ⟨rfl, rfl, Nat.le_of_ble_eq_true rfl, Nat.le_of_ble_eq_true rfl⟩ (c_X8_init k_a1 hq) rfl rfl (Nat.le_of_ble_eq_true rfl) dX9_tiers_4 ⟨Nat.le_of_ble_eq_true rfl, Nat.le_of_ble_eq_true rfl⟩) hS (fun T4 S5 H locs hf hR hS => ?_)
  obtain ⟨k_p0, hf⟩ := x_ok hf
  obtain ⟨k_a1, hf⟩ := x_ok hf
  refine x_astore_n B.1 hl dX9_tiers_7 rfl (by decide) rfl rfl (fun ls hl => ?_)
  have hl : xL ls 3 [_, _, _] := hl
  refine lv_aload_n B.1.1 B.1.2.1 dX9_tiers_8 rfl (hl.at 1 rfl) ?_
  refine lv_aload_n B.1.1 B.1.2.1 dX9_tiers_9 rfl (hl.at 0 rfl) ?_
  refine y_getR B hR hf k_p0 fl_X9_10 dX9_tiers_10 (fun a6 k_a6 hf => ?_)
  refine y_ci hf (fun q hq => x_runV (ci := 8) (C := RX8) B.1 B.2.2.2 hl hR hS cm_X9_92 ⟨rfl, rfl, Nat.le_of_ble_eq_true rfl, Nat.le_of_ble_eq_true rfl⟩ (by decide) rfl k_a1 (c_X8_readTiers k_a1 k_a6 hq) rfl rfl (Nat.le_of_ble_eq_true rfl) dX9_tiers_13 ⟨Nat.le_of_ble_eq_true rfl, Nat.le_of_ble_eq_true rfl⟩) hS (fun r8 S7 H locs hf hR hS => ?_)
  refine x_istore_n B.1 hl dX9_tiers_16 rfl (by decide) rfl rfl (fun ls hl => ?_)
  have hl : xL ls 3 [_, _, _] := hl
  refine lv_aload_n B.1.1 B.1.2.1 dX9_tiers_17 rfl (hl.at 0 rfl) ?_
  refine y_cv hf (fun q hq => x_runV (ci := 9) (C := RX9) B.1 B.2.2.2 hl hR hS cm_X9_96 ⟨rfl, rfl, Nat.le_of_ble_eq_true rfl, Nat.le_of_ble_eq_true rfl⟩ (by decide) rfl k_p0 (c_X9_tapeWasRead k_p0 hq) rfl rfl (Nat.le_of_ble_eq_true rfl) dX9_tiers_18 ⟨Nat.le_of_ble_eq_true rfl, Nat.le_of_ble_eq_true rfl⟩) hS (fun S9 H locs hf hR hS => ?_)
  refine lv_iload_n B.1.1 B.1.2.1 dX9_tiers_21 rfl (hl.at 2 rfl) ?_
  refine lv_iconst (v := -1) B.1.1 B.1.2.1 dX9_tiers_22 (by decide) ?_
  refine y_icmp_eq (tgt := 38) B hf dX9_tiers_23 (by decide) (fun hf => ?_) (fun hf => ?_)
  · refine lv_iload_n B.1.1 B.1.2.1 dX9_tiers_38 rfl (hl.at 2 rfl) ?_
    refine W.widen (k := 3) (n := 84) (Nat.le_of_ble_eq_true rfl) (Nat.le_of_ble_eq_true rfl) ?_
    exact y_iretT B hR hS hf dX9_tiers_39
  · refine lv_aload_n B.1.1 B.1.2.1 dX9_tiers_26 rfl (hl.at 0 rfl) ?_
    refine y_cv hf (fun q hq => x_runV (ci := 9) (C := RX9) B.1 B.2.2.2 hl hR hS cm_X9_99 ⟨rfl, rfl, Nat.le_of_ble_eq_true rfl, Nat.le_of_ble_eq_true rfl⟩ (by decide) rfl k_p0 (c_X9_remember k_p0 hq) rfl rfl (Nat.le_of_ble_eq_true rfl) dX9_tiers_27 ⟨Nat.le_of_ble_eq_true rfl, Nat.le_of_ble_eq_true rfl⟩) hS (fun S10 H locs hf hR hS => ?_)
    refine lv_aload_n B.1.1 B.1.2.1 dX9_tiers_30 rfl (hl.at 0 rfl) ?_
    refine y_getR B hR hf k_p0 fl_X9_48 dX9_tiers_31 (fun a11 k_a11 hf => ?_)
    refine lv_aload_n B.1.1 B.1.2.1 dX9_tiers_34 rfl (hl.at 1 rfl) ?_
    refine y_putR B hR hS hf (fun _ => rfl) (fun _ => rfl) k_a11 fp_X9_56 dX9_tiers_35 (fun S12 H locs hf hR hS => ?_)
    refine lv_iload_n B.1.1 B.1.2.1 dX9_tiers_38 rfl (hl.at 2 rfl) ?_
    refine W.widen (k := 3) (n := 84) (Nat.le_of_ble_eq_true rfl) (Nat.le_of_ble_eq_true rfl) ?_
    exact y_iretT B hR hS hf dX9_tiers_39
abbrev xr_X9_specials : Room := { frames := 11, cells := 10, slots := 179, locals := 230 }
set_option maxRecDepth 100000 in
def f_X9_specials (T : xT) (S : xS) (p0 : Nat) : Option (Int32 × xT × xS) := xnw T S 4 0 (fun a1 T2 S3 => xgd (xlk T2 p0 9) (xcT (f_X4_init T2 S3 a1) (fun T4 S5 => xgd (xlk T4 p0 9) (xgd (xlk T4 a1 4) (xgr T4 S5 p0 0 3 (fun a6 => xc (f_X4_readSpecials T4 S5 a1 a6) (fun r8 S7 => xcv (f_X9_tapeWasRead T4 S7 p0) (fun S9 => if r8 = (-1 : Int32) then some (r8, T4, S9) else xcv (f_X9_remember T4 S9 p0) (fun S10 => xgr T4 S10 p0 4 5 (fun a11 => xpr S10 a11 3 a1 (fun S12 => some (r8, T4, S12))))))))))))
set_option maxRecDepth 100000 in
set_option maxHeartbeats 4000000 in
theorem c_X9_specials {l : Launch} {z : Nat} {D : va_G} {dA : Nat → ClassId} {T : xT} {S : xS} {p0 : Nat} (k_p0 : xlk T p0 9 = true) {q : Int32 × xT × xS} (hf : f_X9_specials T S p0 = some q) : Met l yX9_specials (xws yX9_specials cX9_specials 3 (some .int)) xr_X9_specials (xPc z D dA T S [.ref (z + p0)]) (xQiT z D dA q) 10 179 (xA z) := by
  refine x_met RX9 (by decide) rfl (Nat.le_of_ble_eq_true rfl) ?_
  intro p e s m below meth c ls _ X hr hlk hml hnm hR hS hl
  have B : xB p s m _ meth c cX9_specials RX9 3 (some .int) D dA := ⟨X, hr, hlk, hml⟩
  have hl : xL ls 3 [_, _, _] := hl
  unfold f_X9_specials at hf
  refine y_new B hR hS hf nw_X9_42 ⟨Nat.le_of_ble_eq_true rfl, Nat.le_of_ble_eq_true rfl⟩ dX9_specials_0 (fun a1 T2 S3 H k_a1 hf hR hS => ?_)
  obtain ⟨k_p0, hf⟩ := x_ok hf
  refine lv_dup B.1.1 B.1.2.1 dX9_specials_3 rfl ?_
  refine y_cT hf (fun q hq => x_runJ B.1 B.2.2.2 hl hR hS cm_X9_44 ⟨rfl, rfl, Nat.le_of_ble_eq_true rfl, Nat.le_of_ble_eq_true rfl⟩ (c_X4_init k_a1 hq) rfl rfl (Nat.le_of_ble_eq_true rfl) dX9_specials_4 ⟨Nat.le_of_ble_eq_true rfl, Nat.le_of_ble_eq_true rfl⟩) hS (fun T4 S5 H locs hf hR hS => ?_)
  obtain ⟨k_p0, hf⟩ := x_ok hf
  obtain ⟨k_a1, hf⟩ := x_ok hf
  refine x_astore_n B.1 hl dX9_specials_7 rfl (by decide) rfl rfl (fun ls hl => ?_)
  have hl : xL ls 3 [_, _, _] := hl
  refine lv_aload_n B.1.1 B.1.2.1 dX9_specials_8 rfl (hl.at 1 rfl) ?_
  refine lv_aload_n B.1.1 B.1.2.1 dX9_specials_9 rfl (hl.at 0 rfl) ?_
  refine y_getR B hR hf k_p0 fl_X9_10 dX9_specials_10 (fun a6 k_a6 hf => ?_)
  refine y_ci hf (fun q hq => x_runV (ci := 4) (C := RX4) B.1 B.2.2.2 hl hR hS cm_X9_233 ⟨rfl, rfl, Nat.le_of_ble_eq_true rfl, Nat.le_of_ble_eq_true rfl⟩ (by decide) rfl k_a1 (c_X4_readSpecials k_a1 k_a6 hq) rfl rfl (Nat.le_of_ble_eq_true rfl) dX9_specials_13 ⟨Nat.le_of_ble_eq_true rfl, Nat.le_of_ble_eq_true rfl⟩) hS (fun r8 S7 H locs hf hR hS => ?_)
  refine x_istore_n B.1 hl dX9_specials_16 rfl (by decide) rfl rfl (fun ls hl => ?_)
  have hl : xL ls 3 [_, _, _] := hl
  refine lv_aload_n B.1.1 B.1.2.1 dX9_specials_17 rfl (hl.at 0 rfl) ?_
  refine y_cv hf (fun q hq => x_runV (ci := 9) (C := RX9) B.1 B.2.2.2 hl hR hS cm_X9_96 ⟨rfl, rfl, Nat.le_of_ble_eq_true rfl, Nat.le_of_ble_eq_true rfl⟩ (by decide) rfl k_p0 (c_X9_tapeWasRead k_p0 hq) rfl rfl (Nat.le_of_ble_eq_true rfl) dX9_specials_18 ⟨Nat.le_of_ble_eq_true rfl, Nat.le_of_ble_eq_true rfl⟩) hS (fun S9 H locs hf hR hS => ?_)
  refine lv_iload_n B.1.1 B.1.2.1 dX9_specials_21 rfl (hl.at 2 rfl) ?_
  refine lv_iconst (v := -1) B.1.1 B.1.2.1 dX9_specials_22 (by decide) ?_
  refine y_icmp_eq (tgt := 38) B hf dX9_specials_23 (by decide) (fun hf => ?_) (fun hf => ?_)
  · refine lv_iload_n B.1.1 B.1.2.1 dX9_specials_38 rfl (hl.at 2 rfl) ?_
    refine W.widen (k := 10) (n := 179) (Nat.le_of_ble_eq_true rfl) (Nat.le_of_ble_eq_true rfl) ?_
    exact y_iretT B hR hS hf dX9_specials_39
  · refine lv_aload_n B.1.1 B.1.2.1 dX9_specials_26 rfl (hl.at 0 rfl) ?_
    refine y_cv hf (fun q hq => x_runV (ci := 9) (C := RX9) B.1 B.2.2.2 hl hR hS cm_X9_99 ⟨rfl, rfl, Nat.le_of_ble_eq_true rfl, Nat.le_of_ble_eq_true rfl⟩ (by decide) rfl k_p0 (c_X9_remember k_p0 hq) rfl rfl (Nat.le_of_ble_eq_true rfl) dX9_specials_27 ⟨Nat.le_of_ble_eq_true rfl, Nat.le_of_ble_eq_true rfl⟩) hS (fun S10 H locs hf hR hS => ?_)
    refine lv_aload_n B.1.1 B.1.2.1 dX9_specials_30 rfl (hl.at 0 rfl) ?_
    refine y_getR B hR hf k_p0 fl_X9_48 dX9_specials_31 (fun a11 k_a11 hf => ?_)
    refine lv_aload_n B.1.1 B.1.2.1 dX9_specials_34 rfl (hl.at 1 rfl) ?_
    refine y_putR B hR hS hf (fun _ => rfl) (fun _ => rfl) k_a11 fp_X9_60 dX9_specials_35 (fun S12 H locs hf hR hS => ?_)
    refine lv_iload_n B.1.1 B.1.2.1 dX9_specials_38 rfl (hl.at 2 rfl) ?_
    refine W.widen (k := 10) (n := 179) (Nat.le_of_ble_eq_true rfl) (Nat.le_of_ble_eq_true rfl) ?_
    exact y_iretT B hR hS hf dX9_specials_39
abbrev xr_X9_keep : Room := { frames := 5, cells := 12, slots := 141, locals := 127 }
set_option maxRecDepth 100000 in
def f_X9_keep (T : xT) (S : xS) (p0 : Nat) (p1 : Int32) : Option (Int32 × xT × xS) := if p1 < (0 : Int32) then some ((0 : Int32), T, S) else if p1 < (2 : Int32) then xgr T S p0 8 25 (fun a1 => xan T S a1 p1 (fun b => if b = true then xgr T S p0 8 25 (fun a2 => xar T S a2 p1 5 (fun a3 => xgr T S p0 4 5 (fun a4 => xcv (f_X5_copyState T S a3 a4) (fun S5 => some ((1 : Int32), T, S5))))) else xgr T S p0 8 25 (fun a6 => xnw T S 5 0 (fun a7 T8 S9 => xgd (xlk T8 p0 9) (xgd (xlk T8 a6 25) (xgr T8 S9 p0 4 5 (fun a10 => xgr T8 S9 a10 2 8 (fun a11 => xgr T8 S9 p0 4 5 (fun a12 => xgr T8 S9 a12 3 4 (fun a13 => xcT (f_X5_init T8 S9 a7 a11 a13) (fun T14 S15 => xgd (xlk T14 p0 9) (xgd (xlk T14 a6 25) (xgd (xlk T14 a7 5) (xsr T14 S15 a6 p1 a7 (fun S16 => xgr T14 S16 p0 8 25 (fun a17 => xar T14 S16 a17 p1 5 (fun a18 => xgr T14 S16 p0 4 5 (fun a19 => xcv (f_X5_copyState T14 S16 a18 a19) (fun S20 => some ((1 : Int32), T14, S20)))))))))))))))))))) else some ((0 : Int32), T, S)
set_option maxRecDepth 100000 in
set_option maxHeartbeats 4000000 in
theorem c_X9_keep {l : Launch} {z : Nat} {D : va_G} {dA : Nat → ClassId} {T : xT} {S : xS} {p0 : Nat} {p1 : Int32} (k_p0 : xlk T p0 9 = true) {q : Int32 × xT × xS} (hf : f_X9_keep T S p0 p1 = some q) : Met l yX9_keep (xws yX9_keep cX9_keep 2 (some .boolean)) xr_X9_keep (xPc z D dA T S [.ref (z + p0), .int p1]) (xQiT z D dA q) 12 141 (xA z) := by
  refine x_met RX9 (by decide) rfl (Nat.le_of_ble_eq_true rfl) ?_
  intro p e s m below meth c ls _ X hr hlk hml hnm hR hS hl
  have B : xB p s m _ meth c cX9_keep RX9 2 (some .boolean) D dA := ⟨X, hr, hlk, hml⟩
  have hl : xL ls 2 [_, _] := hl
  unfold f_X9_keep at hf
  refine lv_iload_n B.1.1 B.1.2.1 dX9_keep_0 rfl (hl.at 1 rfl) ?_
  refine y_if_lt (tgt := 9) B hf dX9_keep_1 (by decide) (fun hf => ?_) (fun hf => ?_)
  · refine lv_iconst (v := 0) B.1.1 B.1.2.1 dX9_keep_9 (by decide) ?_
    refine W.widen (k := 12) (n := 141) (Nat.le_of_ble_eq_true rfl) (Nat.le_of_ble_eq_true rfl) ?_
    exact y_zretT B hR hS hf rfl dX9_keep_10
  · refine lv_iload_n B.1.1 B.1.2.1 dX9_keep_4 rfl (hl.at 1 rfl) ?_
    refine lv_iconst (v := 2) B.1.1 B.1.2.1 dX9_keep_5 (by decide) ?_
    refine y_icmp_lt (tgt := 11) B hf dX9_keep_6 (by decide) (fun hf => ?_) (fun hf => ?_)
    · refine lv_aload_n B.1.1 B.1.2.1 dX9_keep_11 rfl (hl.at 0 rfl) ?_
      refine y_getR B hR hf k_p0 fl_X9_64 dX9_keep_12 (fun a1 k_a1 hf => ?_)
      refine lv_iload_n B.1.1 B.1.2.1 dX9_keep_15 rfl (hl.at 1 rfl) ?_
      refine y_aaldN (tgt := 47) B hR hf k_a1 dX9_keep_16 dX9_keep_17 (by decide) (fun hf => ?_) (fun hf => ?_)
      · refine lv_aload_n B.1.1 B.1.2.1 dX9_keep_47 rfl (hl.at 0 rfl) ?_
        refine y_getR B hR hf k_p0 fl_X9_64 dX9_keep_48 (fun a2 k_a2 hf => ?_)
        refine lv_iload_n B.1.1 B.1.2.1 dX9_keep_51 rfl (hl.at 1 rfl) ?_
        refine y_aald B hR hf k_a2 dX9_keep_52 (fun a3 k_a3 hf => ?_)
        refine lv_aload_n B.1.1 B.1.2.1 dX9_keep_53 rfl (hl.at 0 rfl) ?_
        refine y_getR B hR hf k_p0 fl_X9_48 dX9_keep_54 (fun a4 k_a4 hf => ?_)
        refine y_cv hf (fun q hq => x_runV (ci := 5) (C := RX5) B.1 B.2.2.2 hl hR hS cm_X9_294 ⟨rfl, rfl, Nat.le_of_ble_eq_true rfl, Nat.le_of_ble_eq_true rfl⟩ (by decide) rfl k_a3 (c_X5_copyState k_a3 k_a4 hq) rfl rfl (Nat.le_of_ble_eq_true rfl) dX9_keep_57 ⟨Nat.le_of_ble_eq_true rfl, Nat.le_of_ble_eq_true rfl⟩) hS (fun S5 H locs hf hR hS => ?_)
        refine lv_iconst (v := 1) B.1.1 B.1.2.1 dX9_keep_60 (by decide) ?_
        refine W.widen (k := 12) (n := 141) (Nat.le_of_ble_eq_true rfl) (Nat.le_of_ble_eq_true rfl) ?_
        exact y_zretT B hR hS hf rfl dX9_keep_61
      · refine lv_aload_n B.1.1 B.1.2.1 dX9_keep_20 rfl (hl.at 0 rfl) ?_
        refine y_getR B hR hf k_p0 fl_X9_64 dX9_keep_21 (fun a6 k_a6 hf => ?_)
        refine lv_iload_n B.1.1 B.1.2.1 dX9_keep_24 rfl (hl.at 1 rfl) ?_
        refine y_new B hR hS hf nw_X9_37 ⟨Nat.le_of_ble_eq_true rfl, Nat.le_of_ble_eq_true rfl⟩ dX9_keep_25 (fun a7 T8 S9 H k_a7 hf hR hS => ?_)
        obtain ⟨k_p0, hf⟩ := x_ok hf
        obtain ⟨k_a6, hf⟩ := x_ok hf
        refine lv_dup B.1.1 B.1.2.1 dX9_keep_28 rfl ?_
        refine lv_aload_n B.1.1 B.1.2.1 dX9_keep_29 rfl (hl.at 0 rfl) ?_
        refine y_getR B hR hf k_p0 fl_X9_48 dX9_keep_30 (fun a10 k_a10 hf => ?_)
        refine y_getR B hR hf k_a10 fl_X9_56 dX9_keep_33 (fun a11 k_a11 hf => ?_)
        refine lv_aload_n B.1.1 B.1.2.1 dX9_keep_36 rfl (hl.at 0 rfl) ?_
        refine y_getR B hR hf k_p0 fl_X9_48 dX9_keep_37 (fun a12 k_a12 hf => ?_)
        refine y_getR B hR hf k_a12 fl_X9_60 dX9_keep_40 (fun a13 k_a13 hf => ?_)
        refine y_cT hf (fun q hq => x_runI B.1 B.2.2.2 hl hR hS cm_X9_45 ⟨rfl, rfl, Nat.le_of_ble_eq_true rfl, Nat.le_of_ble_eq_true rfl⟩ (c_X5_init k_a7 k_a11 k_a13 hq) rfl rfl (Nat.le_of_ble_eq_true rfl) dX9_keep_43 ⟨Nat.le_of_ble_eq_true rfl, Nat.le_of_ble_eq_true rfl⟩) hS (fun T14 S15 H locs hf hR hS => ?_)
        obtain ⟨k_p0, hf⟩ := x_ok hf
        obtain ⟨k_a6, hf⟩ := x_ok hf
        obtain ⟨k_a7, hf⟩ := x_ok hf
        refine y_aast B hR hS hf k_a6 k_a7 dX9_keep_46 (fun S16 H locs hf hR hS => ?_)
        refine lv_aload_n B.1.1 B.1.2.1 dX9_keep_47 rfl (hl.at 0 rfl) ?_
        refine y_getR B hR hf k_p0 fl_X9_64 dX9_keep_48 (fun a17 k_a17 hf => ?_)
        refine lv_iload_n B.1.1 B.1.2.1 dX9_keep_51 rfl (hl.at 1 rfl) ?_
        refine y_aald B hR hf k_a17 dX9_keep_52 (fun a18 k_a18 hf => ?_)
        refine lv_aload_n B.1.1 B.1.2.1 dX9_keep_53 rfl (hl.at 0 rfl) ?_
        refine y_getR B hR hf k_p0 fl_X9_48 dX9_keep_54 (fun a19 k_a19 hf => ?_)
        refine y_cv hf (fun q hq => x_runV (ci := 5) (C := RX5) B.1 B.2.2.2 hl hR hS cm_X9_294 ⟨rfl, rfl, Nat.le_of_ble_eq_true rfl, Nat.le_of_ble_eq_true rfl⟩ (by decide) rfl k_a18 (c_X5_copyState k_a18 k_a19 hq) rfl rfl (Nat.le_of_ble_eq_true rfl) dX9_keep_57 ⟨Nat.le_of_ble_eq_true rfl, Nat.le_of_ble_eq_true rfl⟩) hS (fun S20 H locs hf hR hS => ?_)
        refine lv_iconst (v := 1) B.1.1 B.1.2.1 dX9_keep_60 (by decide) ?_
        refine W.widen (k := 12) (n := 141) (Nat.le_of_ble_eq_true rfl) (Nat.le_of_ble_eq_true rfl) ?_
        exact y_zretT B hR hS hf rfl dX9_keep_61
    · refine lv_iconst (v := 0) B.1.1 B.1.2.1 dX9_keep_9 (by decide) ?_
      refine W.widen (k := 12) (n := 141) (Nat.le_of_ble_eq_true rfl) (Nat.le_of_ble_eq_true rfl) ?_
      exact y_zretT B hR hS hf rfl dX9_keep_10
