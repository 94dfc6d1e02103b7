abbrev xr_J0_coder_7d493 : Room := { frames := 1, cells := 0, slots := 0, locals := 12 }
abbrev xr_J0_isLatin1_aae02 : Room := { frames := 1, cells := 0, slots := 0, locals := 12 }
abbrev xr_J0_length_8abf5 : Room := { frames := 2, cells := 0, slots := 0, locals := 32 }
abbrev xr_J3_checkIndex_8e157 : Room := { frames := 1, cells := 0, slots := 0, locals := 12 }
abbrev xr_J0_checkIndex_df160 : Room := { frames := 2, cells := 0, slots := 0, locals := 34 }
abbrev xr_J1_charAt_3b067 : Room := { frames := 3, cells := 0, slots := 0, locals := 55 }
abbrev xr_J0_charAt_5068e : Room := { frames := 4, cells := 0, slots := 0, locals := 76 }
set_option maxRecDepth 100000 in
set_option maxHeartbeats 4000000 in
theorem c_J0_coder_7d493 {l : Launch} {z : Nat} {D : va_G} {dA : Nat → ClassId} {T : xT} {S : xS} {p0 : Nat} (k_p0 : p0 < 22) {q : Int32 × xS} (hf : some ((0 : Int32), S) = some q) : Met l yJ0_coder_7d493 (xws yJ0_coder_7d493 cJ0_coder_7d493 1 (some .byte)) xr_J0_coder_7d493 (xPc z D dA T S [.ref (dA (100 + p0))]) (xQi z D dA T q) 0 0 (xA z) := by
  cases hf
  refine x_met RJ0 (by decide) rfl (Nat.le_of_ble_eq_true rfl) ?_
  intro p e s m below meth c ls _ X hr hlk hml _ hR hS hl
  have hE := xStr X
  have hZ := xsz hR hS
  have hl : xL ls 1 [_] := hl
  refine va_gets X.1 X.2.1 X.2.2.2.2.2.2.2.2.1 hZ X.2.2.1 (X.2.2.2.1 _ tw_427) (fun _ h => h) dJ0_coder_7d493_0 ?_
  refine lv_if_eq (tgt := 13) X.1 X.2.1 dJ0_coder_7d493_3 (by decide) (fun h => absurd h (by decide)) (fun _ => ?_)
  refine lv_aload_n X.1 X.2.1 dJ0_coder_7d493_6 rfl (hl.at 0 rfl) ?_
  refine vk_getf X.1 X.2.1 (hE.1 p0 k_p0).2.1 hZ X.2.2.1 (X.2.2.2.1 _ tw_1703) (fun _ h => h) dJ0_coder_7d493_7 ?_
  refine lv_goto (tgt := 14) X.1 X.2.1 dJ0_coder_7d493_10 (by decide) ?_
  exact x_zret X hr hlk hR hS rfl rfl dJ0_coder_7d493_14
set_option maxRecDepth 100000 in
set_option maxHeartbeats 4000000 in
theorem c_J0_isLatin1_aae02 {l : Launch} {z : Nat} {D : va_G} {dA : Nat → ClassId} {T : xT} {S : xS} {p0 : Nat} (k_p0 : p0 < 22) {q : Int32 × xS} (hf : some ((1 : Int32), S) = some q) : Met l yJ0_isLatin1_aae02 (xws yJ0_isLatin1_aae02 cJ0_isLatin1_aae02 1 (some .boolean)) xr_J0_isLatin1_aae02 (xPc z D dA T S [.ref (dA (100 + p0))]) (xQi z D dA T q) 0 0 (xA z) := by
  cases hf
  refine x_met RJ0 (by decide) rfl (Nat.le_of_ble_eq_true rfl) ?_
  intro p e s m below meth c ls _ X hr hlk hml _ hR hS hl
  have hE := xStr X
  have hZ := xsz hR hS
  have hl : xL ls 1 [_] := hl
  refine va_gets X.1 X.2.1 X.2.2.2.2.2.2.2.2.1 hZ X.2.2.1 (X.2.2.2.1 _ tw_427) (fun _ h => h) dJ0_isLatin1_aae02_0 ?_
  refine lv_if_eq (tgt := 17) X.1 X.2.1 dJ0_isLatin1_aae02_3 (by decide) (fun h => absurd h (by decide)) (fun _ => ?_)
  refine lv_aload_n X.1 X.2.1 dJ0_isLatin1_aae02_6 rfl (hl.at 0 rfl) ?_
  refine vk_getf X.1 X.2.1 (hE.1 p0 k_p0).2.1 hZ X.2.2.1 (X.2.2.2.1 _ tw_1703) (fun _ h => h) dJ0_isLatin1_aae02_7 ?_
  refine lv_if_ne (tgt := 17) X.1 X.2.1 dJ0_isLatin1_aae02_10 (by decide) (fun h => absurd rfl h) (fun _ => ?_)
  refine lv_iconst (v := 1) X.1 X.2.1 dJ0_isLatin1_aae02_13 (by decide) ?_
  refine lv_goto (tgt := 18) X.1 X.2.1 dJ0_isLatin1_aae02_14 (by decide) ?_
  exact x_zret X hr hlk hR hS rfl rfl dJ0_isLatin1_aae02_18
def f_J0_length_8abf5 (T : xT) (S : xS) (p0 : Nat) : Option (Int32 × xS) := some (Int32.ofNat (xlen.getD p0 0) >>> ((0 : Int32) &&& 31), S)
set_option maxRecDepth 100000 in
set_option maxHeartbeats 4000000 in
theorem c_J0_length_8abf5 {l : Launch} {z : Nat} {D : va_G} {dA : Nat → ClassId} {T : xT} {S : xS} {p0 : Nat} (k_p0 : p0 < 22) {q : Int32 × xS} (hf : f_J0_length_8abf5 T S p0 = some q) : Met l yJ0_length_8abf5 (xws yJ0_length_8abf5 cJ0_length_8abf5 1 (some .int)) xr_J0_length_8abf5 (xPc z D dA T S [.ref (dA (100 + p0))]) (xQi z D dA T q) 0 0 (xA z) := by
  refine x_met RJ0 (by decide) rfl (Nat.le_of_ble_eq_true rfl) ?_
  intro p e s m below meth c ls _ X hr hlk hml _ hR hS hl
  have hE := xStr X
  have hZ := xsz hR hS
  have hl : xL ls 1 [_] := hl
  unfold f_J0_length_8abf5 at hf
  refine lv_aload_n X.1 X.2.1 dJ0_length_8abf5_0 rfl (hl.at 0 rfl) ?_
  refine vk_getf X.1 X.2.1 (hE.1 p0 k_p0).2.2.1 hZ X.2.2.1 (X.2.2.2.1 _ tw_1702) (fun _ h => h) dJ0_length_8abf5_1 ?_
  refine va_tlen X.1 X.2.1 (hE.1 p0 k_p0).2.2.2 hZ rfl dJ0_length_8abf5_4 ?_
  refine lv_aload_n X.1 X.2.1 dJ0_length_8abf5_5 rfl (hl.at 0 rfl) ?_
  refine x_ci (fc := some (0, S)) (K := some) rfl (fun q hq => x_runW (C := RJ0) X hml hl hR hS cm_J0_335 ⟨rfl, rfl, Nat.le_of_ble_eq_true rfl, Nat.le_of_ble_eq_true rfl⟩ (x_rec30 X hR hS k_p0) (c_J0_coder_7d493 k_p0 hq) rfl rfl (Nat.le_of_ble_eq_true rfl) dJ0_length_8abf5_6 ⟨Nat.le_of_ble_eq_true rfl, Nat.le_of_ble_eq_true rfl⟩) hS (fun r S1 H locs hq hR hS => ?_)
  cases hq
  refine lv_ishr X.1 X.2.1 dJ0_length_8abf5_9 ?_
  exact x_iret X hr hlk hR hS hf dJ0_length_8abf5_10
set_option maxRecDepth 100000 in
set_option maxHeartbeats 4000000 in
theorem c_J3_checkIndex_8e157 {l : Launch} {z : Nat} {D : va_G} {dA : Nat → ClassId} {T : xT} {S : xS} {i n : Int32} {v : Value} (hv : v = .null ∨ ∃ t, v = .ref t) (h1 : ¬ i < 0) (h2 : i < n) {q : Int32 × xS} (hf : some (i, S) = some q) : Met l yJ3_checkIndex_8e157 (xws yJ3_checkIndex_8e157 cJ3_checkIndex_8e157 3 (some .int)) xr_J3_checkIndex_8e157 (xPc z D dA T S [.int i, .int n, v]) (xQi z D dA T q) 0 0 (xA z) := by
  cases hf
  rcases hv with rfl | ⟨t, rfl⟩
  all_goals
    refine x_met RJ3 (by decide) rfl (Nat.le_of_ble_eq_true rfl) ?_
    intro p e s m below meth c ls _ X hr hlk hml _ hR hS hl
    have hl : xL ls 3 [_, _, _] := hl
    refine lv_iload_n X.1 X.2.1 dJ3_checkIndex_8e157_0 rfl (hl.at 0 rfl) ?_
    refine lv_if_lt (tgt := 9) X.1 X.2.1 dJ3_checkIndex_8e157_1 (by decide) (fun h => absurd h h1) (fun _ => ?_)
    refine lv_iload_n X.1 X.2.1 dJ3_checkIndex_8e157_4 rfl (hl.at 0 rfl) ?_
    refine lv_iload_n X.1 X.2.1 dJ3_checkIndex_8e157_5 rfl (hl.at 1 rfl) ?_
    refine lv_icmp_lt (tgt := 16) X.1 X.2.1 dJ3_checkIndex_8e157_6 (by decide) (fun _ => ?_) (fun h => absurd h2 h)
    refine lv_iload_n X.1 X.2.1 dJ3_checkIndex_8e157_16 rfl (hl.at 0 rfl) ?_
    exact x_iret X hr hlk hR hS rfl dJ3_checkIndex_8e157_17
set_option maxRecDepth 100000 in
set_option maxHeartbeats 4000000 in
theorem c_J0_checkIndex_df160 {l : Launch} {z : Nat} {D : va_G} {dA : Nat → ClassId} {T : xT} {S : xS} {i n : Int32} (h1 : ¬ i < 0) (h2 : i < n) {q : xS} (hf : some S = some q) : Met l yJ0_checkIndex_df160 (xws yJ0_checkIndex_df160 cJ0_checkIndex_df160 2 none) xr_J0_checkIndex_df160 (xPc z D dA T S [.int i, .int n]) (xQv z D dA T q) 0 0 (xA z) := by
  cases hf
  refine x_met RJ0 (by decide) rfl (Nat.le_of_ble_eq_true rfl) ?_
  intro p e s m below meth c ls _ X hr hlk hml _ hR hS hl
  have hZ := xsz hR hS
  have hl : xL ls 2 [_, _] := hl
  have hq : ∃ v, (v = Value.null ∨ ∃ t, v = .ref t) ∧ va_Z "jdk/internal/util/Preconditions" "SIOOBE_FORMATTER" "Ljava/util/function/BiFunction;" v (xA9 dA) s s.heap := by
    rcases X.2.2.2.2.2.2.2.2.2.1 with h | ⟨t, h⟩
    · exact ⟨_, Or.inl rfl, h⟩
    · exact ⟨_, Or.inr ⟨t, rfl⟩, h⟩
  obtain ⟨v, hv, hz⟩ := hq
  refine lv_iload_n X.1 X.2.1 dJ0_checkIndex_df160_0 rfl (hl.at 0 rfl) ?_
  refine lv_iload_n X.1 X.2.1 dJ0_checkIndex_df160_1 rfl (hl.at 1 rfl) ?_
  refine va_gets X.1 X.2.1 hz hZ X.2.2.1 (X.2.2.2.1 _ tw_443) (fun _ h => h) dJ0_checkIndex_df160_2 ?_
  refine x_ci (fc := some (i, S)) (K := some) rfl (fun q hq => y_runS X hml hl hR hS cm_J0_1059 ⟨rfl, rfl, Nat.le_of_ble_eq_true rfl, Nat.le_of_ble_eq_true rfl⟩ (c_J3_checkIndex_8e157 hv h1 h2 hq) rfl rfl (Nat.le_of_ble_eq_true rfl) dJ0_checkIndex_df160_5 ⟨Nat.le_of_ble_eq_true rfl, Nat.le_of_ble_eq_true rfl⟩) hS (fun r S1 H locs hq hR hS => ?_)
  cases hq
  refine lv_pop X.1 X.2.1 dJ0_checkIndex_df160_8 rfl ?_
  exact x_vret X hr hlk hR hS rfl dJ0_checkIndex_df160_9
def xch (i : Nat) (k : Int32) : Int32 := ((((xbyt.getD i []).getD k.toNatClampNeg 0) &&& 255).toUInt32 % 65536).toInt32
theorem xlen_lt (i : Nat) : xlen.getD i 0 < 2 ^ 31 := by
  by_cases hi : i < 22
  · exact (show ∀ j, j < 22 → xlen.getD j 0 < 2 ^ 31 by decide +kernel) i hi
  · rw [List.getD_eq_getElem?_getD, List.getElem?_eq_none (by show 22 ≤ i; omega)]
    decide
set_option maxRecDepth 100000 in
set_option maxHeartbeats 4000000 in
theorem c_J1_charAt_3b067 {l : Launch} {z : Nat} {D : va_G} {dA : Nat → ClassId} {T : xT} {S : xS} {p0 : Nat} {k : Int32} (k_p0 : p0 < 22) (hk : xin k (xlen.getD p0 0) = true) (hn : xnc (xch p0 k) = true) {q : Int32 × xS} (hf : some (xch p0 k, S) = some q) : Met l yJ1_charAt_3b067 (xws yJ1_charAt_3b067 cJ1_charAt_3b067 2 (some .char)) xr_J1_charAt_3b067 (xPc z D dA T S [.ref (dA (200 + p0)), .int k]) (xQi z D dA T q) 0 0 (xA z) := by
  cases hf
  refine x_met RJ1 (by decide) rfl (Nat.le_of_ble_eq_true rfl) ?_
  intro p e s m below meth c ls _ X hr hlk hml _ hR hS hl
  have hE := xStr X
  have hZ := xsz hR hS
  have hl : xL ls 2 [_, _] := hl
  have hin := xin_vp hk
  have h1 : ¬ k < 0 := fun h => hin (Or.inl h)
  have h2 : k < Int32.ofNat (xlen.getD p0 0) := by
    obtain ⟨j, hj, rfl⟩ := vp_in_of hin (xlen_lt p0)
    exact nI_lt hj (xlen_lt p0)
  refine lv_iload_n X.1 X.2.1 dJ1_charAt_3b067_0 rfl (hl.at 1 rfl) ?_
  refine lv_aload_n X.1 X.2.1 dJ1_charAt_3b067_1 rfl (hl.at 0 rfl) ?_
  refine va_tlen X.1 X.2.1 (hE.1 p0 k_p0).2.2.2 hZ rfl dJ1_charAt_3b067_2 ?_
  refine x_cv (fc := some S) (K := some) rfl (fun q hq => y_runS X hml hl hR hS cm_J1_9 ⟨rfl, rfl, Nat.le_of_ble_eq_true rfl, Nat.le_of_ble_eq_true rfl⟩ (c_J0_checkIndex_df160 h1 h2 hq) rfl rfl (Nat.le_of_ble_eq_true rfl) dJ1_charAt_3b067_3 ⟨Nat.le_of_ble_eq_true rfl, Nat.le_of_ble_eq_true rfl⟩) hS (fun S1 H locs hq hR hS => ?_)
  cases hq
  refine lv_aload_n X.1 X.2.1 dJ1_charAt_3b067_6 rfl (hl.at 0 rfl) ?_
  refine lv_iload_n X.1 X.2.1 dJ1_charAt_3b067_7 rfl (hl.at 1 rfl) ?_
  refine va_tb X.1 X.2.1 (hE.1 p0 k_p0).2.2.2 (xsz hR hS) hin rfl dJ1_charAt_3b067_8 ?_
  refine lv_sipush (v := 255) X.1 X.2.1 dJ1_charAt_3b067_9 (by decide) ?_
  refine lv_iand X.1 X.2.1 dJ1_charAt_3b067_12 ?_
  refine lv_i2c X.1 X.2.1 dJ1_charAt_3b067_13 rfl ?_
  exact x_zret X hr hlk hR hS (xnc_narrow hn) rfl dJ1_charAt_3b067_14
def f_J0_charAt_5068e (T : xT) (S : xS) (p0 : Nat) (p1 : Int32) : Option (Int32 × xS) := if xin p1 (xlen.getD p0 0) = true then xgd (xnc (xch p0 p1)) (some (xch p0 p1, S)) else none
set_option maxRecDepth 100000 in
set_option maxHeartbeats 4000000 in
theorem c_J0_charAt_5068e {l : Launch} {z : Nat} {D : va_G} {dA : Nat → ClassId} {T : xT} {S : xS} {p0 : Nat} {p1 : Int32} (k_p0 : p0 < 22) {q : Int32 × xS} (hf : f_J0_charAt_5068e T S p0 p1 = some q) : Met l yJ0_charAt_5068e (xws yJ0_charAt_5068e cJ0_charAt_5068e 2 (some .char)) xr_J0_charAt_5068e (xPc z D dA T S [.ref (dA (100 + p0)), .int p1]) (xQi z D dA T q) 0 0 (xA z) := by
  refine x_met RJ0 (by decide) rfl (Nat.le_of_ble_eq_true rfl) ?_
  intro p e s m below meth c ls _ X hr hlk hml _ hR hS hl
  have hE := xStr X
  have hZ := xsz hR hS
  have hl : xL ls 2 [_, _] := hl
  unfold f_J0_charAt_5068e at hf
  obtain ⟨hk, hf⟩ := x_ok hf
  obtain ⟨hn, hf⟩ := x_ok hf
  refine lv_aload_n X.1 X.2.1 dJ0_charAt_5068e_0 rfl (hl.at 0 rfl) ?_
  refine x_ci (fc := some (1, S)) (K := some) rfl (fun q hq => x_runW (C := RJ0) X hml hl hR hS cm_J0_492 ⟨rfl, rfl, Nat.le_of_ble_eq_true rfl, Nat.le_of_ble_eq_true rfl⟩ (x_rec30 X hR hS k_p0) (c_J0_isLatin1_aae02 k_p0 hq) rfl rfl (Nat.le_of_ble_eq_true rfl) dJ0_charAt_5068e_1 ⟨Nat.le_of_ble_eq_true rfl, Nat.le_of_ble_eq_true rfl⟩) hS (fun r S1 H locs hq hR hS => ?_)
  cases hq
  refine lv_if_eq (tgt := 16) X.1 X.2.1 dJ0_charAt_5068e_4 (by decide) (fun h => absurd h (by decide)) (fun _ => ?_)
  refine lv_aload_n X.1 X.2.1 dJ0_charAt_5068e_7 rfl (hl.at 0 rfl) ?_
  refine vk_getf X.1 X.2.1 (hE.1 p0 k_p0).2.2.1 (xsz hR hS) X.2.2.1 (X.2.2.2.1 _ tw_1702) (fun _ h => h) dJ0_charAt_5068e_8 ?_
  refine lv_iload_n X.1 X.2.1 dJ0_charAt_5068e_11 rfl (hl.at 1 rfl) ?_
  refine x_ci (fc := some (xch p0 p1, S)) (K := some) rfl (fun q hq => y_runS X hml hl hR hS cm_J0_495 ⟨rfl, rfl, Nat.le_of_ble_eq_true rfl, Nat.le_of_ble_eq_true rfl⟩ (c_J1_charAt_3b067 k_p0 hk hn hq) rfl rfl (Nat.le_of_ble_eq_true rfl) dJ0_charAt_5068e_12 ⟨Nat.le_of_ble_eq_true rfl, Nat.le_of_ble_eq_true rfl⟩) hS (fun r S1 H locs hq hR hS => ?_)
  cases hq
  exact x_zret X hr hlk hR hS (xnc_narrow hn) hf dJ0_charAt_5068e_15
