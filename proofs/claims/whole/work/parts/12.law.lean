def xcI {α : Type} (fc : Option (Int32 × xT × xS)) (K : Int32 → xT → xS → Option α) : Option α := fc.bind (fun q => K q.1 q.2.1 q.2.2)
section XLAW
variable {p : Program} {l : Launch} {e : Env} {R : Room} {s : State} {m : MethodId} {args : Array Value} {below : List Frame} {meth : Method} {c : Code} {H : Heap} {locs : List Loc} {cells slots : Nat} {Q : State → Prop}
variable {cc : ByteArray} {pc : Nat} {ls : Array Slot} {rest st0 : List Value} {own : String} {z : Nat} {D : va_G} {dA : Nat → ClassId} {T : xT} {S : xS} {H0 : Heap} {α : Type} {o : α} {nL mc ms : Nat} {vs : List (Option Value)} {maxL : Nat} {ret : Option FieldType} {a : Array Value}
theorem y_ciT {fc : Option (Int32 × xT × xS)} {K : Int32 → xT → xS → Option α} (hf : xcI fc K = some o) (hr : ∀ q, fc = some q → va_Run p l e R s m args below meth c H locs cells slots mc ms (F0 m pc ls st0) rest (xQiT z D dA q a) (xA z)) (hS : va_S (xA z) H0 H locs)
    (kk : ∀ (r : Int32) (T1 : xT) (S1 : xS) (H1 : Heap) (locs1 : List Loc), K r T1 S1 = some o → xRel z D dA T1 S1 H1 → va_S (xA z) H0 H1 locs1 → W p l e R s m args below meth c H1 locs1 (cells + mc) (slots + ms) Q (F0 m (pc + 3) ls (.int r :: rest))) : W p l e R s m args below meth c H locs cells slots Q (F0 m pc ls st0) := by
  obtain ⟨q, h1, h2⟩ := Option.bind_eq_some_iff.mp hf
  refine va_calli (hr q h1) hS (fun _ _ h => h) (fun _ h => h) (fun r u t H1 locs1 ht hvm hw hB hz1 hk1 hS1 => ?_)
  subst hw
  exact kk r u.1 u.2 H1 locs1 h2 (by rw [← ht]; exact hB) hS1
theorem y_sld (B : xB p s m args meth c cc own maxL ret D dA) {b L : Nat} {xs : Nat → Int32} (hX : va_X b L xs s s.heap) (hbl : b < s.heap.size) (hbA : ¬ xA z b) (hS : va_S (xA z) s.heap H locs) {x : Int32} {j : Nat} (he : x = nI j) (hj : j < L) (hL : L < 2 ^ 31) (hdg : decode cc pc = .ok (.iaload, 1))
    (kk : W p l e R s m args below meth c H locs cells slots Q (F0 m (pc + 1) ls (.int (xs j) :: rest))) : W p l e R s m args below meth c H locs cells slots Q (F0 m pc ls (.int x :: .ref b :: rest)) := by
  subst he
  refine va_sld B.1.1 B.1.2.1 hX hbl hbA hS (vp_in_nI hj hL) hdg ?_
  rw [nI_clamp (by omega)]
  exact kk
end XLAW
/-- one step of both: the class's answer and the reference's, compared -/
def xO (op : Nat) (T : xT) (S : xS) (a : Nat → Int32) : Option (Bool × xT × xS) := match op with
  | 0 => xc (f_X9_feed T S 0 (a 1) (a 2) (a 3) (a 4) (a 5)) (fun r1 S1 => xc (f_X10_feed T S1 199 (a 1) (a 2) (a 3) (a 4) (a 5)) (fun r2 S2 => some (decide (r1 = r2), T, S2)))
  | 1 => xc (f_X9_end T S 0 (a 1)) (fun r1 S1 => xc (f_X10_end T S1 199 (a 1)) (fun r2 S2 => some (decide (r1 = r2), T, S2)))
  | 2 => xcI (f_X9_tiers T S 0) (fun r1 T1 S1 => xgd (xlk T1 0 9) (xgd (xlk T1 199 10) (xc (f_X10_tiers T1 S1 199) (fun r2 S2 => some (decide (r1 = r2), T1, S2)))))
  | 3 => xc (f_X9_fault T S 0) (fun r1 S1 => xc (f_X10_fault T S1 199) (fun r2 S2 => some (decide (r1 = r2), T, S2)))
  | 4 => xc (f_X9_tier T S 0 (a 1) (a 2)) (fun r1 S1 => xc (f_X10_tier T S1 199 (a 1) (a 2)) (fun r2 S2 => some (decide (r1 = r2), T, S2)))
  | 5 => xc (f_X9_sale T S 0 (a 1) (a 2)) (fun r1 S1 => xc (f_X10_sale T S1 199 (a 1) (a 2)) (fun r2 S2 => some (decide (r1 = r2), T, S2)))
  | 6 => xc (f_X9_is T S 0 (a 1)) (fun r1 S1 => xc (f_X10_is T S1 199 (a 1)) (fun r2 S2 => some (decide (r1 = r2), T, S2)))
  | 7 => xc (f_X9_partner T S 0 (a 1) (a 2)) (fun r1 S1 => xc (f_X10_partner T S1 199 (a 1) (a 2)) (fun r2 S2 => some (decide (r1 = r2), T, S2)))
  | 8 => xc (f_X9_asset T S 0 (a 1) (a 2)) (fun r1 S1 => xc (f_X10_asset T S1 199 (a 1) (a 2)) (fun r2 S2 => some (decide (r1 = r2), T, S2)))
  | 9 => xc (f_X9_come T S 0 (a 1) (a 2)) (fun r1 S1 => xc (f_X10_come T S1 199 (a 1) (a 2)) (fun r2 S2 => some (decide (r1 = r2), T, S2)))
  | 10 => xc (f_X9_go T S 0 (a 1)) (fun r1 S1 => xc (f_X10_go T S1 199 (a 1)) (fun r2 S2 => some (decide (r1 = r2), T, S2)))
  | 11 => xc (f_X9_duty T S 0 (a 1) (a 2)) (fun r1 S1 => xc (f_X10_duty T S1 199 (a 1) (a 2)) (fun r2 S2 => some (decide (r1 = r2), T, S2)))
  | 12 => xc (f_X9_ratio T S 0 (a 1) (a 2)) (fun r1 S1 => xc (f_X10_ratio T S1 199 (a 1) (a 2)) (fun r2 S2 => some (decide (r1 = r2), T, S2)))
  | 13 => xc (f_X9_pay T S 0 (a 1) (a 2)) (fun r1 S1 => xc (f_X10_pay T S1 199 (a 1) (a 2)) (fun r2 S2 => some (decide (r1 = r2), T, S2)))
  | 14 => xc (f_X9_draw T S 0 (a 1) (a 2)) (fun r1 S1 => xc (f_X10_draw T S1 199 (a 1) (a 2)) (fun r2 S2 => some (decide (r1 = r2), T, S2)))
  | 15 => xc (f_X9_buy T S 0 (a 1) (a 2) (a 3)) (fun r1 S1 => xc (f_X10_buy T S1 199 (a 1) (a 2) (a 3)) (fun r2 S2 => some (decide (r1 = r2), T, S2)))
  | 16 => xc (f_X9_sell T S 0 (a 1)) (fun r1 S1 => xc (f_X10_sell T S1 199 (a 1)) (fun r2 S2 => some (decide (r1 = r2), T, S2)))
  | 17 => xc (f_X9_market T S 0 (a 1) (a 2)) (fun r1 S1 => xc (f_X10_market T S1 199 (a 1) (a 2)) (fun r2 S2 => some (decide (r1 = r2), T, S2)))
  | 18 => xc (f_X9_lose T S 0 (a 1) (a 2)) (fun r1 S1 => xc (f_X10_lose T S1 199 (a 1) (a 2)) (fun r2 S2 => some (decide (r1 = r2), T, S2)))
  | 19 => xc (f_X9_borrow T S 0 (a 1) (a 2)) (fun r1 S1 => xc (f_X10_borrow T S1 199 (a 1) (a 2)) (fun r2 S2 => some (decide (r1 = r2), T, S2)))
  | 20 => xc (f_X9_repay T S 0 (a 1) (a 2)) (fun r1 S1 => xc (f_X10_repay T S1 199 (a 1) (a 2)) (fun r2 S2 => some (decide (r1 = r2), T, S2)))
  | 21 => xc (f_X9_earn T S 0 (a 1)) (fun r1 S1 => xc (f_X10_earn T S1 199 (a 1)) (fun r2 S2 => some (decide (r1 = r2), T, S2)))
  | 22 => xc (f_X9_close T S 0) (fun r1 S1 => xc (f_X10_close T S1 199) (fun r2 S2 => some (decide (r1 = r2), T, S2)))
  | 23 => xc (f_X9_step T S 0 (a 1) (a 2)) (fun r1 S1 => xc (f_X10_step T S1 199 (a 1) (a 2)) (fun r2 S2 => some (decide (r1 = r2), T, S2)))
  | 24 => xcI (f_X9_specials T S 0) (fun r1 T1 S1 => xgd (xlk T1 0 9) (xgd (xlk T1 199 10) (xc (f_X10_specials T1 S1 199) (fun r2 S2 => some (decide (r1 = r2), T1, S2)))))
  | 25 => xc (f_X9_special T S 0 (a 1) (a 2)) (fun r1 S1 => xc (f_X10_special T S1 199 (a 1) (a 2)) (fun r2 S2 => some (decide (r1 = r2), T, S2)))
  | 26 => xc (f_X9_acts T S 0) (fun r1 S1 => xc (f_X10_acts T S1 199) (fun r2 S2 => some (decide (r1 = r2), T, S2)))
  | 27 => xc (f_X9_ended T S 0) (fun r1 S1 => xc (f_X10_ended T S1 199) (fun r2 S2 => some (decide (r1 = r2), T, S2)))
  | 28 => xc (f_X9_row T S 0 (a 1)) (fun r1 S1 => xc (f_X10_row T S1 199 (a 1)) (fun r2 S2 => some (decide (r1 = r2), T, S2)))
  | 29 => xc (f_X9_hand T S 0 (a 1) (a 2) (a 3)) (fun r1 S1 => xc (f_X10_hand T S1 199 (a 1) (a 2) (a 3)) (fun r2 S2 => some (decide (r1 = r2), T, S2)))
  | 30 => xc (f_X9_breaks T S 0 (a 1)) (fun r1 S1 => xc (f_X10_breaks T S1 199 (a 1)) (fun r2 S2 => some (decide (r1 = r2), T, S2)))
  | 31 => xc (f_X9_gain T S 0 (a 1)) (fun r1 S1 => xc (f_X10_gain T S1 199 (a 1)) (fun r2 S2 => some (decide (r1 = r2), T, S2)))
  | 32 => xc (f_X9_below T S 0) (fun r1 S1 => xc (f_X10_below T S1 199) (fun r2 S2 => some (decide (r1 = r2), T, S2)))
  | 33 => xc (f_X9_tried T S 0 (a 1) (a 2)) (fun r1 S1 => xc (f_X10_tried T S1 199 (a 1) (a 2)) (fun r2 S2 => some (decide (r1 = r2), T, S2)))
  | 34 => xc (f_X9_even T S 0 (a 1) (a 2) (a 3)) (fun r1 S1 => xc (f_X10_even T S1 199 (a 1) (a 2) (a 3)) (fun r2 S2 => some (decide (r1 = r2), T, S2)))
  | 35 => xc (f_X9_back T S 0) (fun r1 S1 => xc (f_X10_back T S1 199) (fun r2 S2 => some (decide (r1 = r2), T, S2)))
  | 36 => xc (f_X9_fills T S 0 (a 1) (a 2)) (fun r1 S1 => xc (f_X10_fills T S1 199 (a 1) (a 2)) (fun r2 S2 => some (decide (r1 = r2), T, S2)))
  | 37 => xc (f_X9_years T S 0 (a 1) (a 2) (a 3)) (fun r1 S1 => xc (f_X10_years T S1 199 (a 1) (a 2) (a 3)) (fun r2 S2 => some (decide (r1 = r2), T, S2)))
  | 38 => xc (f_X9_exit T S 0 (a 1)) (fun r1 S1 => xc (f_X10_exit T S1 199 (a 1)) (fun r2 S2 => some (decide (r1 = r2), T, S2)))
  | 39 => xc (f_X9_first T S 0) (fun r1 S1 => xc (f_X10_first T S1 199) (fun r2 S2 => some (decide (r1 = r2), T, S2)))
  | 40 => xcI (f_X9_keep T S 0 (a 1)) (fun r1 T1 S1 => xgd (xlk T1 0 9) (xgd (xlk T1 199 10) (xc (f_X10_keep T1 S1 199 (a 1)) (fun r2 S2 => some (decide (r1 = r2), T1, S2)))))
  | 41 => xc (f_X9_restore T S 0 (a 1)) (fun r1 S1 => xc (f_X10_restore T S1 199 (a 1)) (fun r2 S2 => some (decide (r1 = r2), T, S2)))
  | 42 => xc (f_X9_write T S 0) (fun r1 S1 => xc (f_X10_write T S1 199) (fun r2 S2 => some (decide (r1 = r2), T, S2)))
  | 43 => xc (f_X9_octet T S 0 (a 1)) (fun r1 S1 => xc (f_X10_octet T S1 199 (a 1)) (fun r2 S2 => some (decide (r1 = r2), T, S2)))
  | _ => some (true, T, S)
/-- what the loop needs of both, from call to call -/
def xStep (INV : Nat → xT → xS → Prop) : Prop := (∀ i T S, INV i T S → xlk T 0 9 = true ∧ xlk T 199 10 = true) ∧ ∀ i T S, i < 512 → INV i T S → ∀ (op : Nat) (a : Nat → Int32), ∃ (T2 : xT) (S2 : xS), xO op T S a = some (true, T2, S2) ∧ INV (i + 1) T2 S2
set_option maxRecDepth 100000 in
set_option maxHeartbeats 4000000 in
theorem law_0 {p : Program} {l : Launch} {e : Env} {s : State} {m : MethodId} {below : List Frame} {meth : Method} {c : Code} {z : Nat} {D : va_G} {dA : Nat → ClassId} {b L : Nat} {xs : Nat → Int32} (hL : L ≤ 3072) (B : xB p s m #[Value.ref b] meth c code RL 4 ret D dA) (hX : va_X b L xs s s.heap) (hbl : b < s.heap.size) (hbA : ¬ xA z b) {INV : Nat → xT → xS → Prop} (hstep : xStep INV) {i : Nat} (hi : i < 512) (hin : 6 * i + 5 < L) {T : xT} {S : xS} {H : Heap} {locs : List Loc} {cells slots : Nat} {ls : Array Slot} (hI : INV i T S) (hR : xRel z D dA T S H) (hS : va_S (xA z) s.heap H locs) (hc : cells ≤ 400 + 12 * i) (hs : slots ≤ 20000 + 200 * i) (hl : xL ls 4 [some (.ref b), some (.ref (z + 0)), some (.ref (z + 199)), some (.int (nI (6 * i)))]) (next : ∀ (T : xT) (S : xS) (H : Heap) (locs : List Loc) (cells slots : Nat) (ls : Array Slot), INV (i + 1) T S → xRel z D dA T S H → va_S (xA z) s.heap H locs → cells ≤ 400 + 12 * (i + 1) → slots ≤ 20000 + 200 * (i + 1) → xL ls 4 [some (.ref b), some (.ref (z + 0)), some (.ref (z + 199)), some (.int (nI (6 * i)))] → W p l e room_1 s m #[Value.ref b] below meth c H locs cells slots (lw_Z below #[Value.ref b] s) (F0 m 1426 ls [])) : W p l e room_1 s m #[Value.ref b] below meth c H locs cells slots (lw_Z below #[Value.ref b] s) (F0 m 224 ls []) := by
  obtain ⟨T2, S2, hf, hI2⟩ := hstep.2 i T S hi hI 0 (fun k => xs (6 * i + k))
  obtain ⟨k_0, k_199⟩ := hstep.1 i T S hI
  unfold xO at hf
  refine lv_aload_n B.1.1 B.1.2.1 dL_law_224 rfl (hl.at 1 rfl) ?_
  refine lv_aload_n B.1.1 B.1.2.1 dL_law_225 rfl (hl.at 0 rfl) ?_
  refine lv_iload_n B.1.1 B.1.2.1 dL_law_226 rfl (hl.at 3 rfl) ?_
  refine lv_iconst (v := 1) B.1.1 B.1.2.1 dL_law_227 (by decide) ?_
  refine lv_iadd B.1.1 B.1.2.1 dL_law_228 ?_
  refine y_sld (j := 6 * i + 1) B hX hbl hbA hS (nI_add (6 * i) 1) (by omega) (by omega) dL_law_229 ?_
  refine lv_aload_n B.1.1 B.1.2.1 dL_law_230 rfl (hl.at 0 rfl) ?_
  refine lv_iload_n B.1.1 B.1.2.1 dL_law_231 rfl (hl.at 3 rfl) ?_
  refine lv_iconst (v := 2) B.1.1 B.1.2.1 dL_law_232 (by decide) ?_
  refine lv_iadd B.1.1 B.1.2.1 dL_law_233 ?_
  refine y_sld (j := 6 * i + 2) B hX hbl hbA hS (nI_add (6 * i) 2) (by omega) (by omega) dL_law_234 ?_
  refine lv_aload_n B.1.1 B.1.2.1 dL_law_235 rfl (hl.at 0 rfl) ?_
  refine lv_iload_n B.1.1 B.1.2.1 dL_law_236 rfl (hl.at 3 rfl) ?_
  refine lv_iconst (v := 3) B.1.1 B.1.2.1 dL_law_237 (by decide) ?_
  refine lv_iadd B.1.1 B.1.2.1 dL_law_238 ?_
  refine y_sld (j := 6 * i + 3) B hX hbl hbA hS (nI_add (6 * i) 3) (by omega) (by omega) dL_law_239 ?_
  refine lv_aload_n B.1.1 B.1.2.1 dL_law_240 rfl (hl.at 0 rfl) ?_
  refine lv_iload_n B.1.1 B.1.2.1 dL_law_241 rfl (hl.at 3 rfl) ?_
  refine lv_iconst (v := 4) B.1.1 B.1.2.1 dL_law_242 (by decide) ?_
  refine lv_iadd B.1.1 B.1.2.1 dL_law_243 ?_
  refine y_sld (j := 6 * i + 4) B hX hbl hbA hS (nI_add (6 * i) 4) (by omega) (by omega) dL_law_244 ?_
  refine lv_aload_n B.1.1 B.1.2.1 dL_law_245 rfl (hl.at 0 rfl) ?_
  refine lv_iload_n B.1.1 B.1.2.1 dL_law_246 rfl (hl.at 3 rfl) ?_
  refine lv_iconst (v := 5) B.1.1 B.1.2.1 dL_law_247 (by decide) ?_
  refine lv_iadd B.1.1 B.1.2.1 dL_law_248 ?_
  refine y_sld (j := 6 * i + 5) B hX hbl hbA hS (nI_add (6 * i) 5) (by omega) (by omega) dL_law_249 ?_
  refine y_ci hf (fun q hq => x_runV (ci := 9) (C := RX9) B.1 B.2.2.2 hl hR hS cm_L_13 ⟨rfl, rfl, Nat.le_of_ble_eq_true rfl, Nat.le_of_ble_eq_true rfl⟩ (by decide) rfl k_0 (c_X9_feed k_0 hq) rfl rfl (Nat.le_of_ble_eq_true rfl) dL_law_250 ⟨by show cells + 0 ≤ 600000; omega, by show slots + 0 ≤ 7302250; omega⟩) hS (fun r1 S1 H locs hf hR hS => ?_)
  refine lv_aload_n B.1.1 B.1.2.1 dL_law_253 rfl (hl.at 2 rfl) ?_
  refine lv_aload_n B.1.1 B.1.2.1 dL_law_254 rfl (hl.at 0 rfl) ?_
  refine lv_iload_n B.1.1 B.1.2.1 dL_law_255 rfl (hl.at 3 rfl) ?_
  refine lv_iconst (v := 1) B.1.1 B.1.2.1 dL_law_256 (by decide) ?_
  refine lv_iadd B.1.1 B.1.2.1 dL_law_257 ?_
  refine y_sld (j := 6 * i + 1) B hX hbl hbA hS (nI_add (6 * i) 1) (by omega) (by omega) dL_law_258 ?_
  refine lv_aload_n B.1.1 B.1.2.1 dL_law_259 rfl (hl.at 0 rfl) ?_
  refine lv_iload_n B.1.1 B.1.2.1 dL_law_260 rfl (hl.at 3 rfl) ?_
  refine lv_iconst (v := 2) B.1.1 B.1.2.1 dL_law_261 (by decide) ?_
  refine lv_iadd B.1.1 B.1.2.1 dL_law_262 ?_
  refine y_sld (j := 6 * i + 2) B hX hbl hbA hS (nI_add (6 * i) 2) (by omega) (by omega) dL_law_263 ?_
  refine lv_aload_n B.1.1 B.1.2.1 dL_law_264 rfl (hl.at 0 rfl) ?_
  refine lv_iload_n B.1.1 B.1.2.1 dL_law_265 rfl (hl.at 3 rfl) ?_
  refine lv_iconst (v := 3) B.1.1 B.1.2.1 dL_law_266 (by decide) ?_
  refine lv_iadd B.1.1 B.1.2.1 dL_law_267 ?_
  refine y_sld (j := 6 * i + 3) B hX hbl hbA hS (nI_add (6 * i) 3) (by omega) (by omega) dL_law_268 ?_
  refine lv_aload_n B.1.1 B.1.2.1 dL_law_269 rfl (hl.at 0 rfl) ?_
  refine lv_iload_n B.1.1 B.1.2.1 dL_law_270 rfl (hl.at 3 rfl) ?_
  refine lv_iconst (v := 4) B.1.1 B.1.2.1 dL_law_271 (by decide) ?_
  refine lv_iadd B.1.1 B.1.2.1 dL_law_272 ?_
  refine y_sld (j := 6 * i + 4) B hX hbl hbA hS (nI_add (6 * i) 4) (by omega) (by omega) dL_law_273 ?_
  refine lv_aload_n B.1.1 B.1.2.1 dL_law_274 rfl (hl.at 0 rfl) ?_
  refine lv_iload_n B.1.1 B.1.2.1 dL_law_275 rfl (hl.at 3 rfl) ?_
  refine lv_iconst (v := 5) B.1.1 B.1.2.1 dL_law_276 (by decide) ?_
  refine lv_iadd B.1.1 B.1.2.1 dL_law_277 ?_
  refine y_sld (j := 6 * i + 5) B hX hbl hbA hS (nI_add (6 * i) 5) (by omega) (by omega) dL_law_278 ?_
  refine y_ci hf (fun q hq => x_runV (ci := 10) (C := RX10) B.1 B.2.2.2 hl hR hS cm_L_17 ⟨rfl, rfl, Nat.le_of_ble_eq_true rfl, Nat.le_of_ble_eq_true rfl⟩ (by decide) rfl k_199 (c_X10_feed k_199 hq) rfl rfl (Nat.le_of_ble_eq_true rfl) dL_law_279 ⟨by show cells + 0 ≤ 600000; omega, by show slots + 0 ≤ 7302250; omega⟩) hS (fun r2 S3 H locs hf hR hS => ?_)
  simp only [Option.some.injEq, Prod.mk.injEq, decide_eq_true_eq] at hf
  obtain ⟨e1, rfl, rfl⟩ := hf
  refine lv_icmp_eq (tgt := 1426) B.1.1 B.1.2.1 dL_law_282 (by decide) (fun _ => ?_) (fun h => absurd e1 h)
  exact next _ _ _ _ _ _ _ hI2 hR hS (by omega) (by omega) hl
set_option maxRecDepth 100000 in
set_option maxHeartbeats 4000000 in
theorem law_1 {p : Program} {l : Launch} {e : Env} {s : State} {m : MethodId} {below : List Frame} {meth : Method} {c : Code} {z : Nat} {D : va_G} {dA : Nat → ClassId} {b L : Nat} {xs : Nat → Int32} (hL : L ≤ 3072) (B : xB p s m #[Value.ref b] meth c code RL 4 ret D dA) (hX : va_X b L xs s s.heap) (hbl : b < s.heap.size) (hbA : ¬ xA z b) {INV : Nat → xT → xS → Prop} (hstep : xStep INV) {i : Nat} (hi : i < 512) (hin : 6 * i + 5 < L) {T : xT} {S : xS} {H : Heap} {locs : List Loc} {cells slots : Nat} {ls : Array Slot} (hI : INV i T S) (hR : xRel z D dA T S H) (hS : va_S (xA z) s.heap H locs) (hc : cells ≤ 400 + 12 * i) (hs : slots ≤ 20000 + 200 * i) (hl : xL ls 4 [some (.ref b), some (.ref (z + 0)), some (.ref (z + 199)), some (.int (nI (6 * i)))]) (next : ∀ (T : xT) (S : xS) (H : Heap) (locs : List Loc) (cells slots : Nat) (ls : Array Slot), INV (i + 1) T S → xRel z D dA T S H → va_S (xA z) s.heap H locs → cells ≤ 400 + 12 * (i + 1) → slots ≤ 20000 + 200 * (i + 1) → xL ls 4 [some (.ref b), some (.ref (z + 0)), some (.ref (z + 199)), some (.int (nI (6 * i)))] → W p l e room_1 s m #[Value.ref b] below meth c H locs cells slots (lw_Z below #[Value.ref b] s) (F0 m 1426 ls [])) : W p l e room_1 s m #[Value.ref b] below meth c H locs cells slots (lw_Z below #[Value.ref b] s) (F0 m 287 ls []) := by
  obtain ⟨T2, S2, hf, hI2⟩ := hstep.2 i T S hi hI 1 (fun k => xs (6 * i + k))
  obtain ⟨k_0, k_199⟩ := hstep.1 i T S hI
  unfold xO at hf
  refine lv_aload_n B.1.1 B.1.2.1 dL_law_287 rfl (hl.at 1 rfl) ?_
  refine lv_aload_n B.1.1 B.1.2.1 dL_law_288 rfl (hl.at 0 rfl) ?_
  refine lv_iload_n B.1.1 B.1.2.1 dL_law_289 rfl (hl.at 3 rfl) ?_
  refine lv_iconst (v := 1) B.1.1 B.1.2.1 dL_law_290 (by decide) ?_
  refine lv_iadd B.1.1 B.1.2.1 dL_law_291 ?_
  refine y_sld (j := 6 * i + 1) B hX hbl hbA hS (nI_add (6 * i) 1) (by omega) (by omega) dL_law_292 ?_
  refine y_ci hf (fun q hq => x_runV (ci := 9) (C := RX9) B.1 B.2.2.2 hl hR hS cm_L_18 ⟨rfl, rfl, Nat.le_of_ble_eq_true rfl, Nat.le_of_ble_eq_true rfl⟩ (by decide) rfl k_0 (c_X9_end k_0 hq) rfl rfl (Nat.le_of_ble_eq_true rfl) dL_law_293 ⟨by show cells + 0 ≤ 600000; omega, by show slots + 0 ≤ 7302250; omega⟩) hS (fun r1 S1 H locs hf hR hS => ?_)
  refine lv_aload_n B.1.1 B.1.2.1 dL_law_296 rfl (hl.at 2 rfl) ?_
  refine lv_aload_n B.1.1 B.1.2.1 dL_law_297 rfl (hl.at 0 rfl) ?_
  refine lv_iload_n B.1.1 B.1.2.1 dL_law_298 rfl (hl.at 3 rfl) ?_
  refine lv_iconst (v := 1) B.1.1 B.1.2.1 dL_law_299 (by decide) ?_
  refine lv_iadd B.1.1 B.1.2.1 dL_law_300 ?_
  refine y_sld (j := 6 * i + 1) B hX hbl hbA hS (nI_add (6 * i) 1) (by omega) (by omega) dL_law_301 ?_
  refine y_ci hf (fun q hq => x_runV (ci := 10) (C := RX10) B.1 B.2.2.2 hl hR hS cm_L_22 ⟨rfl, rfl, Nat.le_of_ble_eq_true rfl, Nat.le_of_ble_eq_true rfl⟩ (by decide) rfl k_199 (c_X10_end k_199 hq) rfl rfl (Nat.le_of_ble_eq_true rfl) dL_law_302 ⟨by show cells + 0 ≤ 600000; omega, by show slots + 0 ≤ 7302250; omega⟩) hS (fun r2 S3 H locs hf hR hS => ?_)
  simp only [Option.some.injEq, Prod.mk.injEq, decide_eq_true_eq] at hf
  obtain ⟨e1, rfl, rfl⟩ := hf
  refine lv_icmp_eq (tgt := 1426) B.1.1 B.1.2.1 dL_law_305 (by decide) (fun _ => ?_) (fun h => absurd e1 h)
  exact next _ _ _ _ _ _ _ hI2 hR hS (by omega) (by omega) hl
set_option maxRecDepth 100000 in
set_option maxHeartbeats 4000000 in
theorem law_2 {p : Program} {l : Launch} {e : Env} {s : State} {m : MethodId} {below : List Frame} {meth : Method} {c : Code} {z : Nat} {D : va_G} {dA : Nat → ClassId} {b L : Nat} {xs : Nat → Int32} (hL : L ≤ 3072) (B : xB p s m #[Value.ref b] meth c code RL 4 ret D dA) (hX : va_X b L xs s s.heap) (hbl : b < s.heap.size) (hbA : ¬ xA z b) {INV : Nat → xT → xS → Prop} (hstep : xStep INV) {i : Nat} (hi : i < 512) (hin : 6 * i + 5 < L) {T : xT} {S : xS} {H : Heap} {locs : List Loc} {cells slots : Nat} {ls : Array Slot} (hI : INV i T S) (hR : xRel z D dA T S H) (hS : va_S (xA z) s.heap H locs) (hc : cells ≤ 400 + 12 * i) (hs : slots ≤ 20000 + 200 * i) (hl : xL ls 4 [some (.ref b), some (.ref (z + 0)), some (.ref (z + 199)), some (.int (nI (6 * i)))]) (next : ∀ (T : xT) (S : xS) (H : Heap) (locs : List Loc) (cells slots : Nat) (ls : Array Slot), INV (i + 1) T S → xRel z D dA T S H → va_S (xA z) s.heap H locs → cells ≤ 400 + 12 * (i + 1) → slots ≤ 20000 + 200 * (i + 1) → xL ls 4 [some (.ref b), some (.ref (z + 0)), some (.ref (z + 199)), some (.int (nI (6 * i)))] → W p l e room_1 s m #[Value.ref b] below meth c H locs cells slots (lw_Z below #[Value.ref b] s) (F0 m 1426 ls [])) : W p l e room_1 s m #[Value.ref b] below meth c H locs cells slots (lw_Z below #[Value.ref b] s) (F0 m 310 ls []) := by
  obtain ⟨T2, S2, hf, hI2⟩ := hstep.2 i T S hi hI 2 (fun k => xs (6 * i + k))
  obtain ⟨k_0, k_199⟩ := hstep.1 i T S hI
  unfold xO at hf
  refine lv_aload_n B.1.1 B.1.2.1 dL_law_310 rfl (hl.at 1 rfl) ?_
  refine y_ciT hf (fun q hq => x_runV (ci := 9) (C := RX9) B.1 B.2.2.2 hl hR hS cm_L_23 ⟨rfl, rfl, Nat.le_of_ble_eq_true rfl, Nat.le_of_ble_eq_true rfl⟩ (by decide) rfl k_0 (c_X9_tiers k_0 hq) rfl rfl (Nat.le_of_ble_eq_true rfl) dL_law_311 ⟨by show cells + 3 ≤ 600000; omega, by show slots + 84 ≤ 7302250; omega⟩) hS (fun r1 T1 S1 H locs hf hR hS => ?_)
  obtain ⟨k_0, hf⟩ := x_ok hf
  obtain ⟨k_199, hf⟩ := x_ok hf
  refine lv_aload_n B.1.1 B.1.2.1 dL_law_314 rfl (hl.at 2 rfl) ?_
  refine y_ci hf (fun q hq => x_runV (ci := 10) (C := RX10) B.1 B.2.2.2 hl hR hS cm_L_27 ⟨rfl, rfl, Nat.le_of_ble_eq_true rfl, Nat.le_of_ble_eq_true rfl⟩ (by decide) rfl k_199 (c_X10_tiers k_199 hq) rfl rfl (Nat.le_of_ble_eq_true rfl) dL_law_315 ⟨by show cells + 3 + 0 ≤ 600000; omega, by show slots + 84 + 0 ≤ 7302250; omega⟩) hS (fun r2 S3 H locs hf hR hS => ?_)
  simp only [Option.some.injEq, Prod.mk.injEq, decide_eq_true_eq] at hf
  obtain ⟨e1, rfl, rfl⟩ := hf
  refine lv_icmp_eq (tgt := 1426) B.1.1 B.1.2.1 dL_law_318 (by decide) (fun _ => ?_) (fun h => absurd e1 h)
  exact next _ _ _ _ _ _ _ hI2 hR hS (by show cells + 3 ≤ 400 + 12 * (i + 1); omega) (by show slots + 84 ≤ 20000 + 200 * (i + 1); omega) hl
set_option maxRecDepth 100000 in
set_option maxHeartbeats 4000000 in
theorem law_3 {p : Program} {l : Launch} {e : Env} {s : State} {m : MethodId} {below : List Frame} {meth : Method} {c : Code} {z : Nat} {D : va_G} {dA : Nat → ClassId} {b L : Nat} {xs : Nat → Int32} (hL : L ≤ 3072) (B : xB p s m #[Value.ref b] meth c code RL 4 ret D dA) (hX : va_X b L xs s s.heap) (hbl : b < s.heap.size) (hbA : ¬ xA z b) {INV : Nat → xT → xS → Prop} (hstep : xStep INV) {i : Nat} (hi : i < 512) (hin : 6 * i + 5 < L) {T : xT} {S : xS} {H : Heap} {locs : List Loc} {cells slots : Nat} {ls : Array Slot} (hI : INV i T S) (hR : xRel z D dA T S H) (hS : va_S (xA z) s.heap H locs) (hc : cells ≤ 400 + 12 * i) (hs : slots ≤ 20000 + 200 * i) (hl : xL ls 4 [some (.ref b), some (.ref (z + 0)), some (.ref (z + 199)), some (.int (nI (6 * i)))]) (next : ∀ (T : xT) (S : xS) (H : Heap) (locs : List Loc) (cells slots : Nat) (ls : Array Slot), INV (i + 1) T S → xRel z D dA T S H → va_S (xA z) s.heap H locs → cells ≤ 400 + 12 * (i + 1) → slots ≤ 20000 + 200 * (i + 1) → xL ls 4 [some (.ref b), some (.ref (z + 0)), some (.ref (z + 199)), some (.int (nI (6 * i)))] → W p l e room_1 s m #[Value.ref b] below meth c H locs cells slots (lw_Z below #[Value.ref b] s) (F0 m 1426 ls [])) : W p l e room_1 s m #[Value.ref b] below meth c H locs cells slots (lw_Z below #[Value.ref b] s) (F0 m 323 ls []) := by
  obtain ⟨T2, S2, hf, hI2⟩ := hstep.2 i T S hi hI 3 (fun k => xs (6 * i + k))
  obtain ⟨k_0, k_199⟩ := hstep.1 i T S hI
  unfold xO at hf
  refine lv_aload_n B.1.1 B.1.2.1 dL_law_323 rfl (hl.at 1 rfl) ?_
  refine y_ci hf (fun q hq => x_runV (ci := 9) (C := RX9) B.1 B.2.2.2 hl hR hS cm_L_28 ⟨rfl, rfl, Nat.le_of_ble_eq_true rfl, Nat.le_of_ble_eq_true rfl⟩ (by decide) rfl k_0 (c_X9_fault k_0 hq) rfl rfl (Nat.le_of_ble_eq_true rfl) dL_law_324 ⟨by show cells + 0 ≤ 600000; omega, by show slots + 0 ≤ 7302250; omega⟩) hS (fun r1 S1 H locs hf hR hS => ?_)
  refine lv_aload_n B.1.1 B.1.2.1 dL_law_327 rfl (hl.at 2 rfl) ?_
  refine y_ci hf (fun q hq => x_runV (ci := 10) (C := RX10) B.1 B.2.2.2 hl hR hS cm_L_31 ⟨rfl, rfl, Nat.le_of_ble_eq_true rfl, Nat.le_of_ble_eq_true rfl⟩ (by decide) rfl k_199 (c_X10_fault k_199 hq) rfl rfl (Nat.le_of_ble_eq_true rfl) dL_law_328 ⟨by show cells + 0 ≤ 600000; omega, by show slots + 0 ≤ 7302250; omega⟩) hS (fun r2 S3 H locs hf hR hS => ?_)
  simp only [Option.some.injEq, Prod.mk.injEq, decide_eq_true_eq] at hf
  obtain ⟨e1, rfl, rfl⟩ := hf
  refine lv_icmp_eq (tgt := 1426) B.1.1 B.1.2.1 dL_law_331 (by decide) (fun _ => ?_) (fun h => absurd e1 h)
  exact next _ _ _ _ _ _ _ hI2 hR hS (by omega) (by omega) hl
set_option maxRecDepth 100000 in
set_option maxHeartbeats 4000000 in
theorem law_4 {p : Program} {l : Launch} {e : Env} {s : State} {m : MethodId} {below : List Frame} {meth : Method} {c : Code} {z : Nat} {D : va_G} {dA : Nat → ClassId} {b L : Nat} {xs : Nat → Int32} (hL : L ≤ 3072) (B : xB p s m #[Value.ref b] meth c code RL 4 ret D dA) (hX : va_X b L xs s s.heap) (hbl : b < s.heap.size) (hbA : ¬ xA z b) {INV : Nat → xT → xS → Prop} (hstep : xStep INV) {i : Nat} (hi : i < 512) (hin : 6 * i + 5 < L) {T : xT} {S : xS} {H : Heap} {locs : List Loc} {cells slots : Nat} {ls : Array Slot} (hI : INV i T S) (hR : xRel z D dA T S H) (hS : va_S (xA z) s.heap H locs) (hc : cells ≤ 400 + 12 * i) (hs : slots ≤ 20000 + 200 * i) (hl : xL ls 4 [some (.ref b), some (.ref (z + 0)), some (.ref (z + 199)), some (.int (nI (6 * i)))]) (next : ∀ (T : xT) (S : xS) (H : Heap) (locs : List Loc) (cells slots : Nat) (ls : Array Slot), INV (i + 1) T S → xRel z D dA T S H → va_S (xA z) s.heap H locs → cells ≤ 400 + 12 * (i + 1) → slots ≤ 20000 + 200 * (i + 1) → xL ls 4 [some (.ref b), some (.ref (z + 0)), some (.ref (z + 199)), some (.int (nI (6 * i)))] → W p l e room_1 s m #[Value.ref b] below meth c H locs cells slots (lw_Z below #[Value.ref b] s) (F0 m 1426 ls [])) : W p l e room_1 s m #[Value.ref b] below meth c H locs cells slots (lw_Z below #[Value.ref b] s) (F0 m 336 ls []) := by
  obtain ⟨T2, S2, hf, hI2⟩ := hstep.2 i T S hi hI 4 (fun k => xs (6 * i + k))
  obtain ⟨k_0, k_199⟩ := hstep.1 i T S hI
  unfold xO at hf
  refine lv_aload_n B.1.1 B.1.2.1 dL_law_336 rfl (hl.at 1 rfl) ?_
  refine lv_aload_n B.1.1 B.1.2.1 dL_law_337 rfl (hl.at 0 rfl) ?_
  refine lv_iload_n B.1.1 B.1.2.1 dL_law_338 rfl (hl.at 3 rfl) ?_
  refine lv_iconst (v := 1) B.1.1 B.1.2.1 dL_law_339 (by decide) ?_
  refine lv_iadd B.1.1 B.1.2.1 dL_law_340 ?_
  refine y_sld (j := 6 * i + 1) B hX hbl hbA hS (nI_add (6 * i) 1) (by omega) (by omega) dL_law_341 ?_
  refine lv_aload_n B.1.1 B.1.2.1 dL_law_342 rfl (hl.at 0 rfl) ?_
  refine lv_iload_n B.1.1 B.1.2.1 dL_law_343 rfl (hl.at 3 rfl) ?_
  refine lv_iconst (v := 2) B.1.1 B.1.2.1 dL_law_344 (by decide) ?_
  refine lv_iadd B.1.1 B.1.2.1 dL_law_345 ?_
  refine y_sld (j := 6 * i + 2) B hX hbl hbA hS (nI_add (6 * i) 2) (by omega) (by omega) dL_law_346 ?_
  refine y_ci hf (fun q hq => x_runV (ci := 9) (C := RX9) B.1 B.2.2.2 hl hR hS cm_L_32 ⟨rfl, rfl, Nat.le_of_ble_eq_true rfl, Nat.le_of_ble_eq_true rfl⟩ (by decide) rfl k_0 (c_X9_tier k_0 hq) rfl rfl (Nat.le_of_ble_eq_true rfl) dL_law_347 ⟨by show cells + 0 ≤ 600000; omega, by show slots + 0 ≤ 7302250; omega⟩) hS (fun r1 S1 H locs hf hR hS => ?_)
  refine lv_aload_n B.1.1 B.1.2.1 dL_law_350 rfl (hl.at 2 rfl) ?_
  refine lv_aload_n B.1.1 B.1.2.1 dL_law_351 rfl (hl.at 0 rfl) ?_
  refine lv_iload_n B.1.1 B.1.2.1 dL_law_352 rfl (hl.at 3 rfl) ?_
  refine lv_iconst (v := 1) B.1.1 B.1.2.1 dL_law_353 (by decide) ?_
  refine lv_iadd B.1.1 B.1.2.1 dL_law_354 ?_
  refine y_sld (j := 6 * i + 1) B hX hbl hbA hS (nI_add (6 * i) 1) (by omega) (by omega) dL_law_355 ?_
  refine lv_aload_n B.1.1 B.1.2.1 dL_law_356 rfl (hl.at 0 rfl) ?_
  refine lv_iload_n B.1.1 B.1.2.1 dL_law_357 rfl (hl.at 3 rfl) ?_
  refine lv_iconst (v := 2) B.1.1 B.1.2.1 dL_law_358 (by decide) ?_
  refine lv_iadd B.1.1 B.1.2.1 dL_law_359 ?_
  refine y_sld (j := 6 * i + 2) B hX hbl hbA hS (nI_add (6 * i) 2) (by omega) (by omega) dL_law_360 ?_
  refine y_ci hf (fun q hq => x_runV (ci := 10) (C := RX10) B.1 B.2.2.2 hl hR hS cm_L_36 ⟨rfl, rfl, Nat.le_of_ble_eq_true rfl, Nat.le_of_ble_eq_true rfl⟩ (by decide) rfl k_199 (c_X10_tier k_199 hq) rfl rfl (Nat.le_of_ble_eq_true rfl) dL_law_361 ⟨by show cells + 0 ≤ 600000; omega, by show slots + 0 ≤ 7302250; omega⟩) hS (fun r2 S3 H locs hf hR hS => ?_)
  simp only [Option.some.injEq, Prod.mk.injEq, decide_eq_true_eq] at hf
  obtain ⟨e1, rfl, rfl⟩ := hf
  refine lv_icmp_eq (tgt := 1426) B.1.1 B.1.2.1 dL_law_364 (by decide) (fun _ => ?_) (fun h => absurd e1 h)
  exact next _ _ _ _ _ _ _ hI2 hR hS (by omega) (by omega) hl
set_option maxRecDepth 100000 in
set_option maxHeartbeats 4000000 in
theorem law_5 {p : Program} {l : Launch} {e : Env} {s : State} {m : MethodId} {below : List Frame} {meth : Method} {c : Code} {z : Nat} {D : va_G} {dA : Nat → ClassId} {b L : Nat} {xs : Nat → Int32} (hL : L ≤ 3072) (B : xB p s m #[Value.ref b] meth c code RL 4 ret D dA) (hX : va_X b L xs s s.heap) (hbl : b < s.heap.size) (hbA : ¬ xA z b) {INV : Nat → xT → xS → Prop} (hstep : xStep INV) {i : Nat} (hi : i < 512) (hin : 6 * i + 5 < L) {T : xT} {S : xS} {H : Heap} {locs : List Loc} {cells slots : Nat} {ls : Array Slot} (hI : INV i T S) (hR : xRel z D dA T S H) (hS : va_S (xA z) s.heap H locs) (hc : cells ≤ 400 + 12 * i) (hs : slots ≤ 20000 + 200 * i) (hl : xL ls 4 [some (.ref b), some (.ref (z + 0)), some (.ref (z + 199)), some (.int (nI (6 * i)))]) (next : ∀ (T : xT) (S : xS) (H : Heap) (locs : List Loc) (cells slots : Nat) (ls : Array Slot), INV (i + 1) T S → xRel z D dA T S H → va_S (xA z) s.heap H locs → cells ≤ 400 + 12 * (i + 1) → slots ≤ 20000 + 200 * (i + 1) → xL ls 4 [some (.ref b), some (.ref (z + 0)), some (.ref (z + 199)), some (.int (nI (6 * i)))] → W p l e room_1 s m #[Value.ref b] below meth c H locs cells slots (lw_Z below #[Value.ref b] s) (F0 m 1426 ls [])) : W p l e room_1 s m #[Value.ref b] below meth c H locs cells slots (lw_Z below #[Value.ref b] s) (F0 m 369 ls []) := by
  obtain ⟨T2, S2, hf, hI2⟩ := hstep.2 i T S hi hI 5 (fun k => xs (6 * i + k))
  obtain ⟨k_0, k_199⟩ := hstep.1 i T S hI
  unfold xO at hf
  refine lv_aload_n B.1.1 B.1.2.1 dL_law_369 rfl (hl.at 1 rfl) ?_
  refine lv_aload_n B.1.1 B.1.2.1 dL_law_370 rfl (hl.at 0 rfl) ?_
  refine lv_iload_n B.1.1 B.1.2.1 dL_law_371 rfl (hl.at 3 rfl) ?_
  refine lv_iconst (v := 1) B.1.1 B.1.2.1 dL_law_372 (by decide) ?_
  refine lv_iadd B.1.1 B.1.2.1 dL_law_373 ?_
  refine y_sld (j := 6 * i + 1) B hX hbl hbA hS (nI_add (6 * i) 1) (by omega) (by omega) dL_law_374 ?_
  refine lv_aload_n B.1.1 B.1.2.1 dL_law_375 rfl (hl.at 0 rfl) ?_
  refine lv_iload_n B.1.1 B.1.2.1 dL_law_376 rfl (hl.at 3 rfl) ?_
  refine lv_iconst (v := 2) B.1.1 B.1.2.1 dL_law_377 (by decide) ?_
  refine lv_iadd B.1.1 B.1.2.1 dL_law_378 ?_
  refine y_sld (j := 6 * i + 2) B hX hbl hbA hS (nI_add (6 * i) 2) (by omega) (by omega) dL_law_379 ?_
  refine y_ci hf (fun q hq => x_runV (ci := 9) (C := RX9) B.1 B.2.2.2 hl hR hS cm_L_37 ⟨rfl, rfl, Nat.le_of_ble_eq_true rfl, Nat.le_of_ble_eq_true rfl⟩ (by decide) rfl k_0 (c_X9_sale k_0 hq) rfl rfl (Nat.le_of_ble_eq_true rfl) dL_law_380 ⟨by show cells + 0 ≤ 600000; omega, by show slots + 0 ≤ 7302250; omega⟩) hS (fun r1 S1 H locs hf hR hS => ?_)
  refine lv_aload_n B.1.1 B.1.2.1 dL_law_383 rfl (hl.at 2 rfl) ?_
  refine lv_aload_n B.1.1 B.1.2.1 dL_law_384 rfl (hl.at 0 rfl) ?_
  refine lv_iload_n B.1.1 B.1.2.1 dL_law_385 rfl (hl.at 3 rfl) ?_
  refine lv_iconst (v := 1) B.1.1 B.1.2.1 dL_law_386 (by decide) ?_
  refine lv_iadd B.1.1 B.1.2.1 dL_law_387 ?_
  refine y_sld (j := 6 * i + 1) B hX hbl hbA hS (nI_add (6 * i) 1) (by omega) (by omega) dL_law_388 ?_
  refine lv_aload_n B.1.1 B.1.2.1 dL_law_389 rfl (hl.at 0 rfl) ?_
  refine lv_iload_n B.1.1 B.1.2.1 dL_law_390 rfl (hl.at 3 rfl) ?_
  refine lv_iconst (v := 2) B.1.1 B.1.2.1 dL_law_391 (by decide) ?_
  refine lv_iadd B.1.1 B.1.2.1 dL_law_392 ?_
  refine y_sld (j := 6 * i + 2) B hX hbl hbA hS (nI_add (6 * i) 2) (by omega) (by omega) dL_law_393 ?_
  refine y_ci hf (fun q hq => x_runV (ci := 10) (C := RX10) B.1 B.2.2.2 hl hR hS cm_L_40 ⟨rfl, rfl, Nat.le_of_ble_eq_true rfl, Nat.le_of_ble_eq_true rfl⟩ (by decide) rfl k_199 (c_X10_sale k_199 hq) rfl rfl (Nat.le_of_ble_eq_true rfl) dL_law_394 ⟨by show cells + 0 ≤ 600000; omega, by show slots + 0 ≤ 7302250; omega⟩) hS (fun r2 S3 H locs hf hR hS => ?_)
  simp only [Option.some.injEq, Prod.mk.injEq, decide_eq_true_eq] at hf
  obtain ⟨e1, rfl, rfl⟩ := hf
  refine lv_icmp_eq (tgt := 1426) B.1.1 B.1.2.1 dL_law_397 (by decide) (fun _ => ?_) (fun h => absurd e1 h)
  exact next _ _ _ _ _ _ _ hI2 hR hS (by omega) (by omega) hl
set_option maxRecDepth 100000 in
set_option maxHeartbeats 4000000 in
theorem law_6 {p : Program} {l : Launch} {e : Env} {s : State} {m : MethodId} {below : List Frame} {meth : Method} {c : Code} {z : Nat} {D : va_G} {dA : Nat → ClassId} {b L : Nat} {xs : Nat → Int32} (hL : L ≤ 3072) (B : xB p s m #[Value.ref b] meth c code RL 4 ret D dA) (hX : va_X b L xs s s.heap) (hbl : b < s.heap.size) (hbA : ¬ xA z b) {INV : Nat → xT → xS → Prop} (hstep : xStep INV) {i : Nat} (hi : i < 512) (hin : 6 * i + 5 < L) {T : xT} {S : xS} {H : Heap} {locs : List Loc} {cells slots : Nat} {ls : Array Slot} (hI : INV i T S) (hR : xRel z D dA T S H) (hS : va_S (xA z) s.heap H locs) (hc : cells ≤ 400 + 12 * i) (hs : slots ≤ 20000 + 200 * i) (hl : xL ls 4 [some (.ref b), some (.ref (z + 0)), some (.ref (z + 199)), some (.int (nI (6 * i)))]) (next : ∀ (T : xT) (S : xS) (H : Heap) (locs : List Loc) (cells slots : Nat) (ls : Array Slot), INV (i + 1) T S → xRel z D dA T S H → va_S (xA z) s.heap H locs → cells ≤ 400 + 12 * (i + 1) → slots ≤ 20000 + 200 * (i + 1) → xL ls 4 [some (.ref b), some (.ref (z + 0)), some (.ref (z + 199)), some (.int (nI (6 * i)))] → W p l e room_1 s m #[Value.ref b] below meth c H locs cells slots (lw_Z below #[Value.ref b] s) (F0 m 1426 ls [])) : W p l e room_1 s m #[Value.ref b] below meth c H locs cells slots (lw_Z below #[Value.ref b] s) (F0 m 402 ls []) := by
  obtain ⟨T2, S2, hf, hI2⟩ := hstep.2 i T S hi hI 6 (fun k => xs (6 * i + k))
  obtain ⟨k_0, k_199⟩ := hstep.1 i T S hI
  unfold xO at hf
  refine lv_aload_n B.1.1 B.1.2.1 dL_law_402 rfl (hl.at 1 rfl) ?_
  refine lv_aload_n B.1.1 B.1.2.1 dL_law_403 rfl (hl.at 0 rfl) ?_
  refine lv_iload_n B.1.1 B.1.2.1 dL_law_404 rfl (hl.at 3 rfl) ?_
  refine lv_iconst (v := 1) B.1.1 B.1.2.1 dL_law_405 (by decide) ?_
  refine lv_iadd B.1.1 B.1.2.1 dL_law_406 ?_
  refine y_sld (j := 6 * i + 1) B hX hbl hbA hS (nI_add (6 * i) 1) (by omega) (by omega) dL_law_407 ?_
  refine y_ci hf (fun q hq => x_runV (ci := 9) (C := RX9) B.1 B.2.2.2 hl hR hS cm_L_41 ⟨rfl, rfl, Nat.le_of_ble_eq_true rfl, Nat.le_of_ble_eq_true rfl⟩ (by decide) rfl k_0 (c_X9_is k_0 hq) rfl rfl (Nat.le_of_ble_eq_true rfl) dL_law_408 ⟨by show cells + 0 ≤ 600000; omega, by show slots + 0 ≤ 7302250; omega⟩) hS (fun r1 S1 H locs hf hR hS => ?_)
  refine lv_aload_n B.1.1 B.1.2.1 dL_law_411 rfl (hl.at 2 rfl) ?_
  refine lv_aload_n B.1.1 B.1.2.1 dL_law_412 rfl (hl.at 0 rfl) ?_
  refine lv_iload_n B.1.1 B.1.2.1 dL_law_413 rfl (hl.at 3 rfl) ?_
  refine lv_iconst (v := 1) B.1.1 B.1.2.1 dL_law_414 (by decide) ?_
  refine lv_iadd B.1.1 B.1.2.1 dL_law_415 ?_
  refine y_sld (j := 6 * i + 1) B hX hbl hbA hS (nI_add (6 * i) 1) (by omega) (by omega) dL_law_416 ?_
  refine y_ci hf (fun q hq => x_runV (ci := 10) (C := RX10) B.1 B.2.2.2 hl hR hS cm_L_44 ⟨rfl, rfl, Nat.le_of_ble_eq_true rfl, Nat.le_of_ble_eq_true rfl⟩ (by decide) rfl k_199 (c_X10_is k_199 hq) rfl rfl (Nat.le_of_ble_eq_true rfl) dL_law_417 ⟨by show cells + 0 ≤ 600000; omega, by show slots + 0 ≤ 7302250; omega⟩) hS (fun r2 S3 H locs hf hR hS => ?_)
  simp only [Option.some.injEq, Prod.mk.injEq, decide_eq_true_eq] at hf
  obtain ⟨e1, rfl, rfl⟩ := hf
  refine lv_icmp_eq (tgt := 1426) B.1.1 B.1.2.1 dL_law_420 (by decide) (fun _ => ?_) (fun h => absurd e1 h)
  exact next _ _ _ _ _ _ _ hI2 hR hS (by omega) (by omega) hl
set_option maxRecDepth 100000 in
set_option maxHeartbeats 4000000 in
theorem law_7 {p : Program} {l : Launch} {e : Env} {s : State} {m : MethodId} {below : List Frame} {meth : Method} {c : Code} {z : Nat} {D : va_G} {dA : Nat → ClassId} {b L : Nat} {xs : Nat → Int32} (hL : L ≤ 3072) (B : xB p s m #[Value.ref b] meth c code RL 4 ret D dA) (hX : va_X b L xs s s.heap) (hbl : b < s.heap.size) (hbA : ¬ xA z b) {INV : Nat → xT → xS → Prop} (hstep : xStep INV) {i : Nat} (hi : i < 512) (hin : 6 * i + 5 < L) {T : xT} {S : xS} {H : Heap} {locs : List Loc} {cells slots : Nat} {ls : Array Slot} (hI : INV i T S) (hR : xRel z D dA T S H) (hS : va_S (xA z) s.heap H locs) (hc : cells ≤ 400 + 12 * i) (hs : slots ≤ 20000 + 200 * i) (hl : xL ls 4 [some (.ref b), some (.ref (z + 0)), some (.ref (z + 199)), some (.int (nI (6 * i)))]) (next : ∀ (T : xT) (S : xS) (H : Heap) (locs : List Loc) (cells slots : Nat) (ls : Array Slot), INV (i + 1) T S → xRel z D dA T S H → va_S (xA z) s.heap H locs → cells ≤ 400 + 12 * (i + 1) → slots ≤ 20000 + 200 * (i + 1) → xL ls 4 [some (.ref b), some (.ref (z + 0)), some (.ref (z + 199)), some (.int (nI (6 * i)))] → W p l e room_1 s m #[Value.ref b] below meth c H locs cells slots (lw_Z below #[Value.ref b] s) (F0 m 1426 ls [])) : W p l e room_1 s m #[Value.ref b] below meth c H locs cells slots (lw_Z below #[Value.ref b] s) (F0 m 425 ls []) := by
  obtain ⟨T2, S2, hf, hI2⟩ := hstep.2 i T S hi hI 7 (fun k => xs (6 * i + k))
  obtain ⟨k_0, k_199⟩ := hstep.1 i T S hI
  unfold xO at hf
  refine lv_aload_n B.1.1 B.1.2.1 dL_law_425 rfl (hl.at 1 rfl) ?_
  refine lv_aload_n B.1.1 B.1.2.1 dL_law_426 rfl (hl.at 0 rfl) ?_
  refine lv_iload_n B.1.1 B.1.2.1 dL_law_427 rfl (hl.at 3 rfl) ?_
  refine lv_iconst (v := 1) B.1.1 B.1.2.1 dL_law_428 (by decide) ?_
  refine lv_iadd B.1.1 B.1.2.1 dL_law_429 ?_
  refine y_sld (j := 6 * i + 1) B hX hbl hbA hS (nI_add (6 * i) 1) (by omega) (by omega) dL_law_430 ?_
  refine lv_aload_n B.1.1 B.1.2.1 dL_law_431 rfl (hl.at 0 rfl) ?_
  refine lv_iload_n B.1.1 B.1.2.1 dL_law_432 rfl (hl.at 3 rfl) ?_
  refine lv_iconst (v := 2) B.1.1 B.1.2.1 dL_law_433 (by decide) ?_
  refine lv_iadd B.1.1 B.1.2.1 dL_law_434 ?_
  refine y_sld (j := 6 * i + 2) B hX hbl hbA hS (nI_add (6 * i) 2) (by omega) (by omega) dL_law_435 ?_
  refine y_ci hf (fun q hq => x_runV (ci := 9) (C := RX9) B.1 B.2.2.2 hl hR hS cm_L_45 ⟨rfl, rfl, Nat.le_of_ble_eq_true rfl, Nat.le_of_ble_eq_true rfl⟩ (by decide) rfl k_0 (c_X9_partner k_0 hq) rfl rfl (Nat.le_of_ble_eq_true rfl) dL_law_436 ⟨by show cells + 0 ≤ 600000; omega, by show slots + 0 ≤ 7302250; omega⟩) hS (fun r1 S1 H locs hf hR hS => ?_)
  refine lv_aload_n B.1.1 B.1.2.1 dL_law_439 rfl (hl.at 2 rfl) ?_
  refine lv_aload_n B.1.1 B.1.2.1 dL_law_440 rfl (hl.at 0 rfl) ?_
  refine lv_iload_n B.1.1 B.1.2.1 dL_law_441 rfl (hl.at 3 rfl) ?_
  refine lv_iconst (v := 1) B.1.1 B.1.2.1 dL_law_442 (by decide) ?_
  refine lv_iadd B.1.1 B.1.2.1 dL_law_443 ?_
  refine y_sld (j := 6 * i + 1) B hX hbl hbA hS (nI_add (6 * i) 1) (by omega) (by omega) dL_law_444 ?_
  refine lv_aload_n B.1.1 B.1.2.1 dL_law_445 rfl (hl.at 0 rfl) ?_
  refine lv_iload_n B.1.1 B.1.2.1 dL_law_446 rfl (hl.at 3 rfl) ?_
  refine lv_iconst (v := 2) B.1.1 B.1.2.1 dL_law_447 (by decide) ?_
  refine lv_iadd B.1.1 B.1.2.1 dL_law_448 ?_
  refine y_sld (j := 6 * i + 2) B hX hbl hbA hS (nI_add (6 * i) 2) (by omega) (by omega) dL_law_449 ?_
  refine y_ci hf (fun q hq => x_runV (ci := 10) (C := RX10) B.1 B.2.2.2 hl hR hS cm_L_48 ⟨rfl, rfl, Nat.le_of_ble_eq_true rfl, Nat.le_of_ble_eq_true rfl⟩ (by decide) rfl k_199 (c_X10_partner k_199 hq) rfl rfl (Nat.le_of_ble_eq_true rfl) dL_law_450 ⟨by show cells + 0 ≤ 600000; omega, by show slots + 0 ≤ 7302250; omega⟩) hS (fun r2 S3 H locs hf hR hS => ?_)
  simp only [Option.some.injEq, Prod.mk.injEq, decide_eq_true_eq] at hf
  obtain ⟨e1, rfl, rfl⟩ := hf
  refine lv_icmp_eq (tgt := 1426) B.1.1 B.1.2.1 dL_law_453 (by decide) (fun _ => ?_) (fun h => absurd e1 h)
  exact next _ _ _ _ _ _ _ hI2 hR hS (by omega) (by omega) hl
set_option maxRecDepth 100000 in
set_option maxHeartbeats 4000000 in
theorem law_8 {p : Program} {l : Launch} {e : Env} {s : State} {m : MethodId} {below : List Frame} {meth : Method} {c : Code} {z : Nat} {D : va_G} {dA : Nat → ClassId} {b L : Nat} {xs : Nat → Int32} (hL : L ≤ 3072) (B : xB p s m #[Value.ref b] meth c code RL 4 ret D dA) (hX : va_X b L xs s s.heap) (hbl : b < s.heap.size) (hbA : ¬ xA z b) {INV : Nat → xT → xS → Prop} (hstep : xStep INV) {i : Nat} (hi : i < 512) (hin : 6 * i + 5 < L) {T : xT} {S : xS} {H : Heap} {locs : List Loc} {cells slots : Nat} {ls : Array Slot} (hI : INV i T S) (hR : xRel z D dA T S H) (hS : va_S (xA z) s.heap H locs) (hc : cells ≤ 400 + 12 * i) (hs : slots ≤ 20000 + 200 * i) (hl : xL ls 4 [some (.ref b), some (.ref (z + 0)), some (.ref (z + 199)), some (.int (nI (6 * i)))]) (next : ∀ (T : xT) (S : xS) (H : Heap) (locs : List Loc) (cells slots : Nat) (ls : Array Slot), INV (i + 1) T S → xRel z D dA T S H → va_S (xA z) s.heap H locs → cells ≤ 400 + 12 * (i + 1) → slots ≤ 20000 + 200 * (i + 1) → xL ls 4 [some (.ref b), some (.ref (z + 0)), some (.ref (z + 199)), some (.int (nI (6 * i)))] → W p l e room_1 s m #[Value.ref b] below meth c H locs cells slots (lw_Z below #[Value.ref b] s) (F0 m 1426 ls [])) : W p l e room_1 s m #[Value.ref b] below meth c H locs cells slots (lw_Z below #[Value.ref b] s) (F0 m 458 ls []) := by
  obtain ⟨T2, S2, hf, hI2⟩ := hstep.2 i T S hi hI 8 (fun k => xs (6 * i + k))
  obtain ⟨k_0, k_199⟩ := hstep.1 i T S hI
  unfold xO at hf
  refine lv_aload_n B.1.1 B.1.2.1 dL_law_458 rfl (hl.at 1 rfl) ?_
  refine lv_aload_n B.1.1 B.1.2.1 dL_law_459 rfl (hl.at 0 rfl) ?_
  refine lv_iload_n B.1.1 B.1.2.1 dL_law_460 rfl (hl.at 3 rfl) ?_
  refine lv_iconst (v := 1) B.1.1 B.1.2.1 dL_law_461 (by decide) ?_
  refine lv_iadd B.1.1 B.1.2.1 dL_law_462 ?_
  refine y_sld (j := 6 * i + 1) B hX hbl hbA hS (nI_add (6 * i) 1) (by omega) (by omega) dL_law_463 ?_
  refine lv_aload_n B.1.1 B.1.2.1 dL_law_464 rfl (hl.at 0 rfl) ?_
  refine lv_iload_n B.1.1 B.1.2.1 dL_law_465 rfl (hl.at 3 rfl) ?_
  refine lv_iconst (v := 2) B.1.1 B.1.2.1 dL_law_466 (by decide) ?_
  refine lv_iadd B.1.1 B.1.2.1 dL_law_467 ?_
  refine y_sld (j := 6 * i + 2) B hX hbl hbA hS (nI_add (6 * i) 2) (by omega) (by omega) dL_law_468 ?_
  refine y_ci hf (fun q hq => x_runV (ci := 9) (C := RX9) B.1 B.2.2.2 hl hR hS cm_L_49 ⟨rfl, rfl, Nat.le_of_ble_eq_true rfl, Nat.le_of_ble_eq_true rfl⟩ (by decide) rfl k_0 (c_X9_asset k_0 hq) rfl rfl (Nat.le_of_ble_eq_true rfl) dL_law_469 ⟨by show cells + 0 ≤ 600000; omega, by show slots + 0 ≤ 7302250; omega⟩) hS (fun r1 S1 H locs hf hR hS => ?_)
  refine lv_aload_n B.1.1 B.1.2.1 dL_law_472 rfl (hl.at 2 rfl) ?_
  refine lv_aload_n B.1.1 B.1.2.1 dL_law_473 rfl (hl.at 0 rfl) ?_
  refine lv_iload_n B.1.1 B.1.2.1 dL_law_474 rfl (hl.at 3 rfl) ?_
  refine lv_iconst (v := 1) B.1.1 B.1.2.1 dL_law_475 (by decide) ?_
  refine lv_iadd B.1.1 B.1.2.1 dL_law_476 ?_
  refine y_sld (j := 6 * i + 1) B hX hbl hbA hS (nI_add (6 * i) 1) (by omega) (by omega) dL_law_477 ?_
  refine lv_aload_n B.1.1 B.1.2.1 dL_law_478 rfl (hl.at 0 rfl) ?_
  refine lv_iload_n B.1.1 B.1.2.1 dL_law_479 rfl (hl.at 3 rfl) ?_
  refine lv_iconst (v := 2) B.1.1 B.1.2.1 dL_law_480 (by decide) ?_
  refine lv_iadd B.1.1 B.1.2.1 dL_law_481 ?_
  refine y_sld (j := 6 * i + 2) B hX hbl hbA hS (nI_add (6 * i) 2) (by omega) (by omega) dL_law_482 ?_
  refine y_ci hf (fun q hq => x_runV (ci := 10) (C := RX10) B.1 B.2.2.2 hl hR hS cm_L_52 ⟨rfl, rfl, Nat.le_of_ble_eq_true rfl, Nat.le_of_ble_eq_true rfl⟩ (by decide) rfl k_199 (c_X10_asset k_199 hq) rfl rfl (Nat.le_of_ble_eq_true rfl) dL_law_483 ⟨by show cells + 0 ≤ 600000; omega, by show slots + 0 ≤ 7302250; omega⟩) hS (fun r2 S3 H locs hf hR hS => ?_)
  simp only [Option.some.injEq, Prod.mk.injEq, decide_eq_true_eq] at hf
  obtain ⟨e1, rfl, rfl⟩ := hf
  refine lv_icmp_eq (tgt := 1426) B.1.1 B.1.2.1 dL_law_486 (by decide) (fun _ => ?_) (fun h => absurd e1 h)
  exact next _ _ _ _ _ _ _ hI2 hR hS (by omega) (by omega) hl
set_option maxRecDepth 100000 in
set_option maxHeartbeats 4000000 in
theorem law_9 {p : Program} {l : Launch} {e : Env} {s : State} {m : MethodId} {below : List Frame} {meth : Method} {c : Code} {z : Nat} {D : va_G} {dA : Nat → ClassId} {b L : Nat} {xs : Nat → Int32} (hL : L ≤ 3072) (B : xB p s m #[Value.ref b] meth c code RL 4 ret D dA) (hX : va_X b L xs s s.heap) (hbl : b < s.heap.size) (hbA : ¬ xA z b) {INV : Nat → xT → xS → Prop} (hstep : xStep INV) {i : Nat} (hi : i < 512) (hin : 6 * i + 5 < L) {T : xT} {S : xS} {H : Heap} {locs : List Loc} {cells slots : Nat} {ls : Array Slot} (hI : INV i T S) (hR : xRel z D dA T S H) (hS : va_S (xA z) s.heap H locs) (hc : cells ≤ 400 + 12 * i) (hs : slots ≤ 20000 + 200 * i) (hl : xL ls 4 [some (.ref b), some (.ref (z + 0)), some (.ref (z + 199)), some (.int (nI (6 * i)))]) (next : ∀ (T : xT) (S : xS) (H : Heap) (locs : List Loc) (cells slots : Nat) (ls : Array Slot), INV (i + 1) T S → xRel z D dA T S H → va_S (xA z) s.heap H locs → cells ≤ 400 + 12 * (i + 1) → slots ≤ 20000 + 200 * (i + 1) → xL ls 4 [some (.ref b), some (.ref (z + 0)), some (.ref (z + 199)), some (.int (nI (6 * i)))] → W p l e room_1 s m #[Value.ref b] below meth c H locs cells slots (lw_Z below #[Value.ref b] s) (F0 m 1426 ls [])) : W p l e room_1 s m #[Value.ref b] below meth c H locs cells slots (lw_Z below #[Value.ref b] s) (F0 m 491 ls []) := by
  obtain ⟨T2, S2, hf, hI2⟩ := hstep.2 i T S hi hI 9 (fun k => xs (6 * i + k))
  obtain ⟨k_0, k_199⟩ := hstep.1 i T S hI
  unfold xO at hf
  refine lv_aload_n B.1.1 B.1.2.1 dL_law_491 rfl (hl.at 1 rfl) ?_
  refine lv_aload_n B.1.1 B.1.2.1 dL_law_492 rfl (hl.at 0 rfl) ?_
  refine lv_iload_n B.1.1 B.1.2.1 dL_law_493 rfl (hl.at 3 rfl) ?_
  refine lv_iconst (v := 1) B.1.1 B.1.2.1 dL_law_494 (by decide) ?_
  refine lv_iadd B.1.1 B.1.2.1 dL_law_495 ?_
  refine y_sld (j := 6 * i + 1) B hX hbl hbA hS (nI_add (6 * i) 1) (by omega) (by omega) dL_law_496 ?_
  refine lv_aload_n B.1.1 B.1.2.1 dL_law_497 rfl (hl.at 0 rfl) ?_
  refine lv_iload_n B.1.1 B.1.2.1 dL_law_498 rfl (hl.at 3 rfl) ?_
  refine lv_iconst (v := 2) B.1.1 B.1.2.1 dL_law_499 (by decide) ?_
  refine lv_iadd B.1.1 B.1.2.1 dL_law_500 ?_
  refine y_sld (j := 6 * i + 2) B hX hbl hbA hS (nI_add (6 * i) 2) (by omega) (by omega) dL_law_501 ?_
  refine y_ci hf (fun q hq => x_runV (ci := 9) (C := RX9) B.1 B.2.2.2 hl hR hS cm_L_53 ⟨rfl, rfl, Nat.le_of_ble_eq_true rfl, Nat.le_of_ble_eq_true rfl⟩ (by decide) rfl k_0 (c_X9_come k_0 hq) rfl rfl (Nat.le_of_ble_eq_true rfl) dL_law_502 ⟨by show cells + 0 ≤ 600000; omega, by show slots + 0 ≤ 7302250; omega⟩) hS (fun r1 S1 H locs hf hR hS => ?_)
  refine lv_aload_n B.1.1 B.1.2.1 dL_law_505 rfl (hl.at 2 rfl) ?_
  refine lv_aload_n B.1.1 B.1.2.1 dL_law_506 rfl (hl.at 0 rfl) ?_
  refine lv_iload_n B.1.1 B.1.2.1 dL_law_507 rfl (hl.at 3 rfl) ?_
  refine lv_iconst (v := 1) B.1.1 B.1.2.1 dL_law_508 (by decide) ?_
  refine lv_iadd B.1.1 B.1.2.1 dL_law_509 ?_
  refine y_sld (j := 6 * i + 1) B hX hbl hbA hS (nI_add (6 * i) 1) (by omega) (by omega) dL_law_510 ?_
  refine lv_aload_n B.1.1 B.1.2.1 dL_law_511 rfl (hl.at 0 rfl) ?_
  refine lv_iload_n B.1.1 B.1.2.1 dL_law_512 rfl (hl.at 3 rfl) ?_
  refine lv_iconst (v := 2) B.1.1 B.1.2.1 dL_law_513 (by decide) ?_
  refine lv_iadd B.1.1 B.1.2.1 dL_law_514 ?_
  refine y_sld (j := 6 * i + 2) B hX hbl hbA hS (nI_add (6 * i) 2) (by omega) (by omega) dL_law_515 ?_
  refine y_ci hf (fun q hq => x_runV (ci := 10) (C := RX10) B.1 B.2.2.2 hl hR hS cm_L_56 ⟨rfl, rfl, Nat.le_of_ble_eq_true rfl, Nat.le_of_ble_eq_true rfl⟩ (by decide) rfl k_199 (c_X10_come k_199 hq) rfl rfl (Nat.le_of_ble_eq_true rfl) dL_law_516 ⟨by show cells + 0 ≤ 600000; omega, by show slots + 0 ≤ 7302250; omega⟩) hS (fun r2 S3 H locs hf hR hS => ?_)
  simp only [Option.some.injEq, Prod.mk.injEq, decide_eq_true_eq] at hf
  obtain ⟨e1, rfl, rfl⟩ := hf
  refine lv_icmp_eq (tgt := 1426) B.1.1 B.1.2.1 dL_law_519 (by decide) (fun _ => ?_) (fun h => absurd e1 h)
  exact next _ _ _ _ _ _ _ hI2 hR hS (by omega) (by omega) hl
set_option maxRecDepth 100000 in
set_option maxHeartbeats 4000000 in
theorem law_10 {p : Program} {l : Launch} {e : Env} {s : State} {m : MethodId} {below : List Frame} {meth : Method} {c : Code} {z : Nat} {D : va_G} {dA : Nat → ClassId} {b L : Nat} {xs : Nat → Int32} (hL : L ≤ 3072) (B : xB p s m #[Value.ref b] meth c code RL 4 ret D dA) (hX : va_X b L xs s s.heap) (hbl : b < s.heap.size) (hbA : ¬ xA z b) {INV : Nat → xT → xS → Prop} (hstep : xStep INV) {i : Nat} (hi : i < 512) (hin : 6 * i + 5 < L) {T : xT} {S : xS} {H : Heap} {locs : List Loc} {cells slots : Nat} {ls : Array Slot} (hI : INV i T S) (hR : xRel z D dA T S H) (hS : va_S (xA z) s.heap H locs) (hc : cells ≤ 400 + 12 * i) (hs : slots ≤ 20000 + 200 * i) (hl : xL ls 4 [some (.ref b), some (.ref (z + 0)), some (.ref (z + 199)), some (.int (nI (6 * i)))]) (next : ∀ (T : xT) (S : xS) (H : Heap) (locs : List Loc) (cells slots : Nat) (ls : Array Slot), INV (i + 1) T S → xRel z D dA T S H → va_S (xA z) s.heap H locs → cells ≤ 400 + 12 * (i + 1) → slots ≤ 20000 + 200 * (i + 1) → xL ls 4 [some (.ref b), some (.ref (z + 0)), some (.ref (z + 199)), some (.int (nI (6 * i)))] → W p l e room_1 s m #[Value.ref b] below meth c H locs cells slots (lw_Z below #[Value.ref b] s) (F0 m 1426 ls [])) : W p l e room_1 s m #[Value.ref b] below meth c H locs cells slots (lw_Z below #[Value.ref b] s) (F0 m 524 ls []) := by
  obtain ⟨T2, S2, hf, hI2⟩ := hstep.2 i T S hi hI 10 (fun k => xs (6 * i + k))
  obtain ⟨k_0, k_199⟩ := hstep.1 i T S hI
  unfold xO at hf
  refine lv_aload_n B.1.1 B.1.2.1 dL_law_524 rfl (hl.at 1 rfl) ?_
  refine lv_aload_n B.1.1 B.1.2.1 dL_law_525 rfl (hl.at 0 rfl) ?_
  refine lv_iload_n B.1.1 B.1.2.1 dL_law_526 rfl (hl.at 3 rfl) ?_
  refine lv_iconst (v := 1) B.1.1 B.1.2.1 dL_law_527 (by decide) ?_
  refine lv_iadd B.1.1 B.1.2.1 dL_law_528 ?_
  refine y_sld (j := 6 * i + 1) B hX hbl hbA hS (nI_add (6 * i) 1) (by omega) (by omega) dL_law_529 ?_
  refine y_ci hf (fun q hq => x_runV (ci := 9) (C := RX9) B.1 B.2.2.2 hl hR hS cm_L_57 ⟨rfl, rfl, Nat.le_of_ble_eq_true rfl, Nat.le_of_ble_eq_true rfl⟩ (by decide) rfl k_0 (c_X9_go k_0 hq) rfl rfl (Nat.le_of_ble_eq_true rfl) dL_law_530 ⟨by show cells + 0 ≤ 600000; omega, by show slots + 0 ≤ 7302250; omega⟩) hS (fun r1 S1 H locs hf hR hS => ?_)
  refine lv_aload_n B.1.1 B.1.2.1 dL_law_533 rfl (hl.at 2 rfl) ?_
  refine lv_aload_n B.1.1 B.1.2.1 dL_law_534 rfl (hl.at 0 rfl) ?_
  refine lv_iload_n B.1.1 B.1.2.1 dL_law_535 rfl (hl.at 3 rfl) ?_
  refine lv_iconst (v := 1) B.1.1 B.1.2.1 dL_law_536 (by decide) ?_
  refine lv_iadd B.1.1 B.1.2.1 dL_law_537 ?_
  refine y_sld (j := 6 * i + 1) B hX hbl hbA hS (nI_add (6 * i) 1) (by omega) (by omega) dL_law_538 ?_
  refine y_ci hf (fun q hq => x_runV (ci := 10) (C := RX10) B.1 B.2.2.2 hl hR hS cm_L_60 ⟨rfl, rfl, Nat.le_of_ble_eq_true rfl, Nat.le_of_ble_eq_true rfl⟩ (by decide) rfl k_199 (c_X10_go k_199 hq) rfl rfl (Nat.le_of_ble_eq_true rfl) dL_law_539 ⟨by show cells + 0 ≤ 600000; omega, by show slots + 0 ≤ 7302250; omega⟩) hS (fun r2 S3 H locs hf hR hS => ?_)
  simp only [Option.some.injEq, Prod.mk.injEq, decide_eq_true_eq] at hf
  obtain ⟨e1, rfl, rfl⟩ := hf
  refine lv_icmp_eq (tgt := 1426) B.1.1 B.1.2.1 dL_law_542 (by decide) (fun _ => ?_) (fun h => absurd e1 h)
  exact next _ _ _ _ _ _ _ hI2 hR hS (by omega) (by omega) hl
set_option maxRecDepth 100000 in
set_option maxHeartbeats 4000000 in
theorem law_11 {p : Program} {l : Launch} {e : Env} {s : State} {m : MethodId} {below : List Frame} {meth : Method} {c : Code} {z : Nat} {D : va_G} {dA : Nat → ClassId} {b L : Nat} {xs : Nat → Int32} (hL : L ≤ 3072) (B : xB p s m #[Value.ref b] meth c code RL 4 ret D dA) (hX : va_X b L xs s s.heap) (hbl : b < s.heap.size) (hbA : ¬ xA z b) {INV : Nat → xT → xS → Prop} (hstep : xStep INV) {i : Nat} (hi : i < 512) (hin : 6 * i + 5 < L) {T : xT} {S : xS} {H : Heap} {locs : List Loc} {cells slots : Nat} {ls : Array Slot} (hI : INV i T S) (hR : xRel z D dA T S H) (hS : va_S (xA z) s.heap H locs) (hc : cells ≤ 400 + 12 * i) (hs : slots ≤ 20000 + 200 * i) (hl : xL ls 4 [some (.ref b), some (.ref (z + 0)), some (.ref (z + 199)), some (.int (nI (6 * i)))]) (next : ∀ (T : xT) (S : xS) (H : Heap) (locs : List Loc) (cells slots : Nat) (ls : Array Slot), INV (i + 1) T S → xRel z D dA T S H → va_S (xA z) s.heap H locs → cells ≤ 400 + 12 * (i + 1) → slots ≤ 20000 + 200 * (i + 1) → xL ls 4 [some (.ref b), some (.ref (z + 0)), some (.ref (z + 199)), some (.int (nI (6 * i)))] → W p l e room_1 s m #[Value.ref b] below meth c H locs cells slots (lw_Z below #[Value.ref b] s) (F0 m 1426 ls [])) : W p l e room_1 s m #[Value.ref b] below meth c H locs cells slots (lw_Z below #[Value.ref b] s) (F0 m 547 ls []) := by
  obtain ⟨T2, S2, hf, hI2⟩ := hstep.2 i T S hi hI 11 (fun k => xs (6 * i + k))
  obtain ⟨k_0, k_199⟩ := hstep.1 i T S hI
  unfold xO at hf
  refine lv_aload_n B.1.1 B.1.2.1 dL_law_547 rfl (hl.at 1 rfl) ?_
  refine lv_aload_n B.1.1 B.1.2.1 dL_law_548 rfl (hl.at 0 rfl) ?_
  refine lv_iload_n B.1.1 B.1.2.1 dL_law_549 rfl (hl.at 3 rfl) ?_
  refine lv_iconst (v := 1) B.1.1 B.1.2.1 dL_law_550 (by decide) ?_
  refine lv_iadd B.1.1 B.1.2.1 dL_law_551 ?_
  refine y_sld (j := 6 * i + 1) B hX hbl hbA hS (nI_add (6 * i) 1) (by omega) (by omega) dL_law_552 ?_
  refine lv_aload_n B.1.1 B.1.2.1 dL_law_553 rfl (hl.at 0 rfl) ?_
  refine lv_iload_n B.1.1 B.1.2.1 dL_law_554 rfl (hl.at 3 rfl) ?_
  refine lv_iconst (v := 2) B.1.1 B.1.2.1 dL_law_555 (by decide) ?_
  refine lv_iadd B.1.1 B.1.2.1 dL_law_556 ?_
  refine y_sld (j := 6 * i + 2) B hX hbl hbA hS (nI_add (6 * i) 2) (by omega) (by omega) dL_law_557 ?_
  refine y_ci hf (fun q hq => x_runV (ci := 9) (C := RX9) B.1 B.2.2.2 hl hR hS cm_L_61 ⟨rfl, rfl, Nat.le_of_ble_eq_true rfl, Nat.le_of_ble_eq_true rfl⟩ (by decide) rfl k_0 (c_X9_duty k_0 hq) rfl rfl (Nat.le_of_ble_eq_true rfl) dL_law_558 ⟨by show cells + 0 ≤ 600000; omega, by show slots + 0 ≤ 7302250; omega⟩) hS (fun r1 S1 H locs hf hR hS => ?_)
  refine lv_aload_n B.1.1 B.1.2.1 dL_law_561 rfl (hl.at 2 rfl) ?_
  refine lv_aload_n B.1.1 B.1.2.1 dL_law_562 rfl (hl.at 0 rfl) ?_
  refine lv_iload_n B.1.1 B.1.2.1 dL_law_563 rfl (hl.at 3 rfl) ?_
  refine lv_iconst (v := 1) B.1.1 B.1.2.1 dL_law_564 (by decide) ?_
  refine lv_iadd B.1.1 B.1.2.1 dL_law_565 ?_
  refine y_sld (j := 6 * i + 1) B hX hbl hbA hS (nI_add (6 * i) 1) (by omega) (by omega) dL_law_566 ?_
  refine lv_aload_n B.1.1 B.1.2.1 dL_law_567 rfl (hl.at 0 rfl) ?_
  refine lv_iload_n B.1.1 B.1.2.1 dL_law_568 rfl (hl.at 3 rfl) ?_
  refine lv_iconst (v := 2) B.1.1 B.1.2.1 dL_law_569 (by decide) ?_
  refine lv_iadd B.1.1 B.1.2.1 dL_law_570 ?_
  refine y_sld (j := 6 * i + 2) B hX hbl hbA hS (nI_add (6 * i) 2) (by omega) (by omega) dL_law_571 ?_
  refine y_ci hf (fun q hq => x_runV (ci := 10) (C := RX10) B.1 B.2.2.2 hl hR hS cm_L_64 ⟨rfl, rfl, Nat.le_of_ble_eq_true rfl, Nat.le_of_ble_eq_true rfl⟩ (by decide) rfl k_199 (c_X10_duty k_199 hq) rfl rfl (Nat.le_of_ble_eq_true rfl) dL_law_572 ⟨by show cells + 0 ≤ 600000; omega, by show slots + 0 ≤ 7302250; omega⟩) hS (fun r2 S3 H locs hf hR hS => ?_)
  simp only [Option.some.injEq, Prod.mk.injEq, decide_eq_true_eq] at hf
  obtain ⟨e1, rfl, rfl⟩ := hf
  refine lv_icmp_eq (tgt := 1426) B.1.1 B.1.2.1 dL_law_575 (by decide) (fun _ => ?_) (fun h => absurd e1 h)
  exact next _ _ _ _ _ _ _ hI2 hR hS (by omega) (by omega) hl
set_option maxRecDepth 100000 in
set_option maxHeartbeats 4000000 in
theorem law_12 {p : Program} {l : Launch} {e : Env} {s : State} {m : MethodId} {below : List Frame} {meth : Method} {c : Code} {z : Nat} {D : va_G} {dA : Nat → ClassId} {b L : Nat} {xs : Nat → Int32} (hL : L ≤ 3072) (B : xB p s m #[Value.ref b] meth c code RL 4 ret D dA) (hX : va_X b L xs s s.heap) (hbl : b < s.heap.size) (hbA : ¬ xA z b) {INV : Nat → xT → xS → Prop} (hstep : xStep INV) {i : Nat} (hi : i < 512) (hin : 6 * i + 5 < L) {T : xT} {S : xS} {H : Heap} {locs : List Loc} {cells slots : Nat} {ls : Array Slot} (hI : INV i T S) (hR : xRel z D dA T S H) (hS : va_S (xA z) s.heap H locs) (hc : cells ≤ 400 + 12 * i) (hs : slots ≤ 20000 + 200 * i) (hl : xL ls 4 [some (.ref b), some (.ref (z + 0)), some (.ref (z + 199)), some (.int (nI (6 * i)))]) (next : ∀ (T : xT) (S : xS) (H : Heap) (locs : List Loc) (cells slots : Nat) (ls : Array Slot), INV (i + 1) T S → xRel z D dA T S H → va_S (xA z) s.heap H locs → cells ≤ 400 + 12 * (i + 1) → slots ≤ 20000 + 200 * (i + 1) → xL ls 4 [some (.ref b), some (.ref (z + 0)), some (.ref (z + 199)), some (.int (nI (6 * i)))] → W p l e room_1 s m #[Value.ref b] below meth c H locs cells slots (lw_Z below #[Value.ref b] s) (F0 m 1426 ls [])) : W p l e room_1 s m #[Value.ref b] below meth c H locs cells slots (lw_Z below #[Value.ref b] s) (F0 m 580 ls []) := by
  obtain ⟨T2, S2, hf, hI2⟩ := hstep.2 i T S hi hI 12 (fun k => xs (6 * i + k))
  obtain ⟨k_0, k_199⟩ := hstep.1 i T S hI
  unfold xO at hf
  refine lv_aload_n B.1.1 B.1.2.1 dL_law_580 rfl (hl.at 1 rfl) ?_
  refine lv_aload_n B.1.1 B.1.2.1 dL_law_581 rfl (hl.at 0 rfl) ?_
  refine lv_iload_n B.1.1 B.1.2.1 dL_law_582 rfl (hl.at 3 rfl) ?_
  refine lv_iconst (v := 1) B.1.1 B.1.2.1 dL_law_583 (by decide) ?_
  refine lv_iadd B.1.1 B.1.2.1 dL_law_584 ?_
  refine y_sld (j := 6 * i + 1) B hX hbl hbA hS (nI_add (6 * i) 1) (by omega) (by omega) dL_law_585 ?_
  refine lv_aload_n B.1.1 B.1.2.1 dL_law_586 rfl (hl.at 0 rfl) ?_
  refine lv_iload_n B.1.1 B.1.2.1 dL_law_587 rfl (hl.at 3 rfl) ?_
  refine lv_iconst (v := 2) B.1.1 B.1.2.1 dL_law_588 (by decide) ?_
  refine lv_iadd B.1.1 B.1.2.1 dL_law_589 ?_
  refine y_sld (j := 6 * i + 2) B hX hbl hbA hS (nI_add (6 * i) 2) (by omega) (by omega) dL_law_590 ?_
  refine y_ci hf (fun q hq => x_runV (ci := 9) (C := RX9) B.1 B.2.2.2 hl hR hS cm_L_65 ⟨rfl, rfl, Nat.le_of_ble_eq_true rfl, Nat.le_of_ble_eq_true rfl⟩ (by decide) rfl k_0 (c_X9_ratio k_0 hq) rfl rfl (Nat.le_of_ble_eq_true rfl) dL_law_591 ⟨by show cells + 0 ≤ 600000; omega, by show slots + 0 ≤ 7302250; omega⟩) hS (fun r1 S1 H locs hf hR hS => ?_)
  refine lv_aload_n B.1.1 B.1.2.1 dL_law_594 rfl (hl.at 2 rfl) ?_
  refine lv_aload_n B.1.1 B.1.2.1 dL_law_595 rfl (hl.at 0 rfl) ?_
  refine lv_iload_n B.1.1 B.1.2.1 dL_law_596 rfl (hl.at 3 rfl) ?_
  refine lv_iconst (v := 1) B.1.1 B.1.2.1 dL_law_597 (by decide) ?_
  refine lv_iadd B.1.1 B.1.2.1 dL_law_598 ?_
  refine y_sld (j := 6 * i + 1) B hX hbl hbA hS (nI_add (6 * i) 1) (by omega) (by omega) dL_law_599 ?_
  refine lv_aload_n B.1.1 B.1.2.1 dL_law_600 rfl (hl.at 0 rfl) ?_
  refine lv_iload_n B.1.1 B.1.2.1 dL_law_601 rfl (hl.at 3 rfl) ?_
  refine lv_iconst (v := 2) B.1.1 B.1.2.1 dL_law_602 (by decide) ?_
  refine lv_iadd B.1.1 B.1.2.1 dL_law_603 ?_
  refine y_sld (j := 6 * i + 2) B hX hbl hbA hS (nI_add (6 * i) 2) (by omega) (by omega) dL_law_604 ?_
  refine y_ci hf (fun q hq => x_runV (ci := 10) (C := RX10) B.1 B.2.2.2 hl hR hS cm_L_68 ⟨rfl, rfl, Nat.le_of_ble_eq_true rfl, Nat.le_of_ble_eq_true rfl⟩ (by decide) rfl k_199 (c_X10_ratio k_199 hq) rfl rfl (Nat.le_of_ble_eq_true rfl) dL_law_605 ⟨by show cells + 0 ≤ 600000; omega, by show slots + 0 ≤ 7302250; omega⟩) hS (fun r2 S3 H locs hf hR hS => ?_)
  simp only [Option.some.injEq, Prod.mk.injEq, decide_eq_true_eq] at hf
  obtain ⟨e1, rfl, rfl⟩ := hf
  refine lv_icmp_eq (tgt := 1426) B.1.1 B.1.2.1 dL_law_608 (by decide) (fun _ => ?_) (fun h => absurd e1 h)
  exact next _ _ _ _ _ _ _ hI2 hR hS (by omega) (by omega) hl
set_option maxRecDepth 100000 in
set_option maxHeartbeats 4000000 in
theorem law_13 {p : Program} {l : Launch} {e : Env} {s : State} {m : MethodId} {below : List Frame} {meth : Method} {c : Code} {z : Nat} {D : va_G} {dA : Nat → ClassId} {b L : Nat} {xs : Nat → Int32} (hL : L ≤ 3072) (B : xB p s m #[Value.ref b] meth c code RL 4 ret D dA) (hX : va_X b L xs s s.heap) (hbl : b < s.heap.size) (hbA : ¬ xA z b) {INV : Nat → xT → xS → Prop} (hstep : xStep INV) {i : Nat} (hi : i < 512) (hin : 6 * i + 5 < L) {T : xT} {S : xS} {H : Heap} {locs : List Loc} {cells slots : Nat} {ls : Array Slot} (hI : INV i T S) (hR : xRel z D dA T S H) (hS : va_S (xA z) s.heap H locs) (hc : cells ≤ 400 + 12 * i) (hs : slots ≤ 20000 + 200 * i) (hl : xL ls 4 [some (.ref b), some (.ref (z + 0)), some (.ref (z + 199)), some (.int (nI (6 * i)))]) (next : ∀ (T : xT) (S : xS) (H : Heap) (locs : List Loc) (cells slots : Nat) (ls : Array Slot), INV (i + 1) T S → xRel z D dA T S H → va_S (xA z) s.heap H locs → cells ≤ 400 + 12 * (i + 1) → slots ≤ 20000 + 200 * (i + 1) → xL ls 4 [some (.ref b), some (.ref (z + 0)), some (.ref (z + 199)), some (.int (nI (6 * i)))] → W p l e room_1 s m #[Value.ref b] below meth c H locs cells slots (lw_Z below #[Value.ref b] s) (F0 m 1426 ls [])) : W p l e room_1 s m #[Value.ref b] below meth c H locs cells slots (lw_Z below #[Value.ref b] s) (F0 m 613 ls []) := by
  obtain ⟨T2, S2, hf, hI2⟩ := hstep.2 i T S hi hI 13 (fun k => xs (6 * i + k))
  obtain ⟨k_0, k_199⟩ := hstep.1 i T S hI
  unfold xO at hf
  refine lv_aload_n B.1.1 B.1.2.1 dL_law_613 rfl (hl.at 1 rfl) ?_
  refine lv_aload_n B.1.1 B.1.2.1 dL_law_614 rfl (hl.at 0 rfl) ?_
  refine lv_iload_n B.1.1 B.1.2.1 dL_law_615 rfl (hl.at 3 rfl) ?_
  refine lv_iconst (v := 1) B.1.1 B.1.2.1 dL_law_616 (by decide) ?_
  refine lv_iadd B.1.1 B.1.2.1 dL_law_617 ?_
  refine y_sld (j := 6 * i + 1) B hX hbl hbA hS (nI_add (6 * i) 1) (by omega) (by omega) dL_law_618 ?_
  refine lv_aload_n B.1.1 B.1.2.1 dL_law_619 rfl (hl.at 0 rfl) ?_
  refine lv_iload_n B.1.1 B.1.2.1 dL_law_620 rfl (hl.at 3 rfl) ?_
  refine lv_iconst (v := 2) B.1.1 B.1.2.1 dL_law_621 (by decide) ?_
  refine lv_iadd B.1.1 B.1.2.1 dL_law_622 ?_
  refine y_sld (j := 6 * i + 2) B hX hbl hbA hS (nI_add (6 * i) 2) (by omega) (by omega) dL_law_623 ?_
  refine y_ci hf (fun q hq => x_runV (ci := 9) (C := RX9) B.1 B.2.2.2 hl hR hS cm_L_69 ⟨rfl, rfl, Nat.le_of_ble_eq_true rfl, Nat.le_of_ble_eq_true rfl⟩ (by decide) rfl k_0 (c_X9_pay k_0 hq) rfl rfl (Nat.le_of_ble_eq_true rfl) dL_law_624 ⟨by show cells + 0 ≤ 600000; omega, by show slots + 0 ≤ 7302250; omega⟩) hS (fun r1 S1 H locs hf hR hS => ?_)
  refine lv_aload_n B.1.1 B.1.2.1 dL_law_627 rfl (hl.at 2 rfl) ?_
  refine lv_aload_n B.1.1 B.1.2.1 dL_law_628 rfl (hl.at 0 rfl) ?_
  refine lv_iload_n B.1.1 B.1.2.1 dL_law_629 rfl (hl.at 3 rfl) ?_
  refine lv_iconst (v := 1) B.1.1 B.1.2.1 dL_law_630 (by decide) ?_
  refine lv_iadd B.1.1 B.1.2.1 dL_law_631 ?_
  refine y_sld (j := 6 * i + 1) B hX hbl hbA hS (nI_add (6 * i) 1) (by omega) (by omega) dL_law_632 ?_
  refine lv_aload_n B.1.1 B.1.2.1 dL_law_633 rfl (hl.at 0 rfl) ?_
  refine lv_iload_n B.1.1 B.1.2.1 dL_law_634 rfl (hl.at 3 rfl) ?_
  refine lv_iconst (v := 2) B.1.1 B.1.2.1 dL_law_635 (by decide) ?_
  refine lv_iadd B.1.1 B.1.2.1 dL_law_636 ?_
  refine y_sld (j := 6 * i + 2) B hX hbl hbA hS (nI_add (6 * i) 2) (by omega) (by omega) dL_law_637 ?_
  refine y_ci hf (fun q hq => x_runV (ci := 10) (C := RX10) B.1 B.2.2.2 hl hR hS cm_L_72 ⟨rfl, rfl, Nat.le_of_ble_eq_true rfl, Nat.le_of_ble_eq_true rfl⟩ (by decide) rfl k_199 (c_X10_pay k_199 hq) rfl rfl (Nat.le_of_ble_eq_true rfl) dL_law_638 ⟨by show cells + 0 ≤ 600000; omega, by show slots + 0 ≤ 7302250; omega⟩) hS (fun r2 S3 H locs hf hR hS => ?_)
  simp only [Option.some.injEq, Prod.mk.injEq, decide_eq_true_eq] at hf
  obtain ⟨e1, rfl, rfl⟩ := hf
  refine lv_icmp_eq (tgt := 1426) B.1.1 B.1.2.1 dL_law_641 (by decide) (fun _ => ?_) (fun h => absurd e1 h)
  exact next _ _ _ _ _ _ _ hI2 hR hS (by omega) (by omega) hl
set_option maxRecDepth 100000 in
set_option maxHeartbeats 4000000 in
theorem law_14 {p : Program} {l : Launch} {e : Env} {s : State} {m : MethodId} {below : List Frame} {meth : Method} {c : Code} {z : Nat} {D : va_G} {dA : Nat → ClassId} {b L : Nat} {xs : Nat → Int32} (hL : L ≤ 3072) (B : xB p s m #[Value.ref b] meth c code RL 4 ret D dA) (hX : va_X b L xs s s.heap) (hbl : b < s.heap.size) (hbA : ¬ xA z b) {INV : Nat → xT → xS → Prop} (hstep : xStep INV) {i : Nat} (hi : i < 512) (hin : 6 * i + 5 < L) {T : xT} {S : xS} {H : Heap} {locs : List Loc} {cells slots : Nat} {ls : Array Slot} (hI : INV i T S) (hR : xRel z D dA T S H) (hS : va_S (xA z) s.heap H locs) (hc : cells ≤ 400 + 12 * i) (hs : slots ≤ 20000 + 200 * i) (hl : xL ls 4 [some (.ref b), some (.ref (z + 0)), some (.ref (z + 199)), some (.int (nI (6 * i)))]) (next : ∀ (T : xT) (S : xS) (H : Heap) (locs : List Loc) (cells slots : Nat) (ls : Array Slot), INV (i + 1) T S → xRel z D dA T S H → va_S (xA z) s.heap H locs → cells ≤ 400 + 12 * (i + 1) → slots ≤ 20000 + 200 * (i + 1) → xL ls 4 [some (.ref b), some (.ref (z + 0)), some (.ref (z + 199)), some (.int (nI (6 * i)))] → W p l e room_1 s m #[Value.ref b] below meth c H locs cells slots (lw_Z below #[Value.ref b] s) (F0 m 1426 ls [])) : W p l e room_1 s m #[Value.ref b] below meth c H locs cells slots (lw_Z below #[Value.ref b] s) (F0 m 646 ls []) := by
  obtain ⟨T2, S2, hf, hI2⟩ := hstep.2 i T S hi hI 14 (fun k => xs (6 * i + k))
  obtain ⟨k_0, k_199⟩ := hstep.1 i T S hI
  unfold xO at hf
  refine lv_aload_n B.1.1 B.1.2.1 dL_law_646 rfl (hl.at 1 rfl) ?_
  refine lv_aload_n B.1.1 B.1.2.1 dL_law_647 rfl (hl.at 0 rfl) ?_
  refine lv_iload_n B.1.1 B.1.2.1 dL_law_648 rfl (hl.at 3 rfl) ?_
  refine lv_iconst (v := 1) B.1.1 B.1.2.1 dL_law_649 (by decide) ?_
  refine lv_iadd B.1.1 B.1.2.1 dL_law_650 ?_
  refine y_sld (j := 6 * i + 1) B hX hbl hbA hS (nI_add (6 * i) 1) (by omega) (by omega) dL_law_651 ?_
  refine lv_aload_n B.1.1 B.1.2.1 dL_law_652 rfl (hl.at 0 rfl) ?_
  refine lv_iload_n B.1.1 B.1.2.1 dL_law_653 rfl (hl.at 3 rfl) ?_
  refine lv_iconst (v := 2) B.1.1 B.1.2.1 dL_law_654 (by decide) ?_
  refine lv_iadd B.1.1 B.1.2.1 dL_law_655 ?_
  refine y_sld (j := 6 * i + 2) B hX hbl hbA hS (nI_add (6 * i) 2) (by omega) (by omega) dL_law_656 ?_
  refine y_ci hf (fun q hq => x_runV (ci := 9) (C := RX9) B.1 B.2.2.2 hl hR hS cm_L_73 ⟨rfl, rfl, Nat.le_of_ble_eq_true rfl, Nat.le_of_ble_eq_true rfl⟩ (by decide) rfl k_0 (c_X9_draw k_0 hq) rfl rfl (Nat.le_of_ble_eq_true rfl) dL_law_657 ⟨by show cells + 0 ≤ 600000; omega, by show slots + 0 ≤ 7302250; omega⟩) hS (fun r1 S1 H locs hf hR hS => ?_)
  refine lv_aload_n B.1.1 B.1.2.1 dL_law_660 rfl (hl.at 2 rfl) ?_
  refine lv_aload_n B.1.1 B.1.2.1 dL_law_661 rfl (hl.at 0 rfl) ?_
  refine lv_iload_n B.1.1 B.1.2.1 dL_law_662 rfl (hl.at 3 rfl) ?_
  refine lv_iconst (v := 1) B.1.1 B.1.2.1 dL_law_663 (by decide) ?_
  refine lv_iadd B.1.1 B.1.2.1 dL_law_664 ?_
  refine y_sld (j := 6 * i + 1) B hX hbl hbA hS (nI_add (6 * i) 1) (by omega) (by omega) dL_law_665 ?_
  refine lv_aload_n B.1.1 B.1.2.1 dL_law_666 rfl (hl.at 0 rfl) ?_
  refine lv_iload_n B.1.1 B.1.2.1 dL_law_667 rfl (hl.at 3 rfl) ?_
  refine lv_iconst (v := 2) B.1.1 B.1.2.1 dL_law_668 (by decide) ?_
  refine lv_iadd B.1.1 B.1.2.1 dL_law_669 ?_
  refine y_sld (j := 6 * i + 2) B hX hbl hbA hS (nI_add (6 * i) 2) (by omega) (by omega) dL_law_670 ?_
  refine y_ci hf (fun q hq => x_runV (ci := 10) (C := RX10) B.1 B.2.2.2 hl hR hS cm_L_76 ⟨rfl, rfl, Nat.le_of_ble_eq_true rfl, Nat.le_of_ble_eq_true rfl⟩ (by decide) rfl k_199 (c_X10_draw k_199 hq) rfl rfl (Nat.le_of_ble_eq_true rfl) dL_law_671 ⟨by show cells + 0 ≤ 600000; omega, by show slots + 0 ≤ 7302250; omega⟩) hS (fun r2 S3 H locs hf hR hS => ?_)
  simp only [Option.some.injEq, Prod.mk.injEq, decide_eq_true_eq] at hf
  obtain ⟨e1, rfl, rfl⟩ := hf
  refine lv_icmp_eq (tgt := 1426) B.1.1 B.1.2.1 dL_law_674 (by decide) (fun _ => ?_) (fun h => absurd e1 h)
  exact next _ _ _ _ _ _ _ hI2 hR hS (by omega) (by omega) hl
set_option maxRecDepth 100000 in
set_option maxHeartbeats 4000000 in
theorem law_15 {p : Program} {l : Launch} {e : Env} {s : State} {m : MethodId} {below : List Frame} {meth : Method} {c : Code} {z : Nat} {D : va_G} {dA : Nat → ClassId} {b L : Nat} {xs : Nat → Int32} (hL : L ≤ 3072) (B : xB p s m #[Value.ref b] meth c code RL 4 ret D dA) (hX : va_X b L xs s s.heap) (hbl : b < s.heap.size) (hbA : ¬ xA z b) {INV : Nat → xT → xS → Prop} (hstep : xStep INV) {i : Nat} (hi : i < 512) (hin : 6 * i + 5 < L) {T : xT} {S : xS} {H : Heap} {locs : List Loc} {cells slots : Nat} {ls : Array Slot} (hI : INV i T S) (hR : xRel z D dA T S H) (hS : va_S (xA z) s.heap H locs) (hc : cells ≤ 400 + 12 * i) (hs : slots ≤ 20000 + 200 * i) (hl : xL ls 4 [some (.ref b), some (.ref (z + 0)), some (.ref (z + 199)), some (.int (nI (6 * i)))]) (next : ∀ (T : xT) (S : xS) (H : Heap) (locs : List Loc) (cells slots : Nat) (ls : Array Slot), INV (i + 1) T S → xRel z D dA T S H → va_S (xA z) s.heap H locs → cells ≤ 400 + 12 * (i + 1) → slots ≤ 20000 + 200 * (i + 1) → xL ls 4 [some (.ref b), some (.ref (z + 0)), some (.ref (z + 199)), some (.int (nI (6 * i)))] → W p l e room_1 s m #[Value.ref b] below meth c H locs cells slots (lw_Z below #[Value.ref b] s) (F0 m 1426 ls [])) : W p l e room_1 s m #[Value.ref b] below meth c H locs cells slots (lw_Z below #[Value.ref b] s) (F0 m 679 ls []) := by
  obtain ⟨T2, S2, hf, hI2⟩ := hstep.2 i T S hi hI 15 (fun k => xs (6 * i + k))
  obtain ⟨k_0, k_199⟩ := hstep.1 i T S hI
  unfold xO at hf
  refine lv_aload_n B.1.1 B.1.2.1 dL_law_679 rfl (hl.at 1 rfl) ?_
  refine lv_aload_n B.1.1 B.1.2.1 dL_law_680 rfl (hl.at 0 rfl) ?_
  refine lv_iload_n B.1.1 B.1.2.1 dL_law_681 rfl (hl.at 3 rfl) ?_
  refine lv_iconst (v := 1) B.1.1 B.1.2.1 dL_law_682 (by decide) ?_
  refine lv_iadd B.1.1 B.1.2.1 dL_law_683 ?_
  refine y_sld (j := 6 * i + 1) B hX hbl hbA hS (nI_add (6 * i) 1) (by omega) (by omega) dL_law_684 ?_
  refine lv_aload_n B.1.1 B.1.2.1 dL_law_685 rfl (hl.at 0 rfl) ?_
  refine lv_iload_n B.1.1 B.1.2.1 dL_law_686 rfl (hl.at 3 rfl) ?_
  refine lv_iconst (v := 2) B.1.1 B.1.2.1 dL_law_687 (by decide) ?_
  refine lv_iadd B.1.1 B.1.2.1 dL_law_688 ?_
  refine y_sld (j := 6 * i + 2) B hX hbl hbA hS (nI_add (6 * i) 2) (by omega) (by omega) dL_law_689 ?_
  refine lv_aload_n B.1.1 B.1.2.1 dL_law_690 rfl (hl.at 0 rfl) ?_
  refine lv_iload_n B.1.1 B.1.2.1 dL_law_691 rfl (hl.at 3 rfl) ?_
  refine lv_iconst (v := 3) B.1.1 B.1.2.1 dL_law_692 (by decide) ?_
  refine lv_iadd B.1.1 B.1.2.1 dL_law_693 ?_
  refine y_sld (j := 6 * i + 3) B hX hbl hbA hS (nI_add (6 * i) 3) (by omega) (by omega) dL_law_694 ?_
  refine y_ci hf (fun q hq => x_runV (ci := 9) (C := RX9) B.1 B.2.2.2 hl hR hS cm_L_77 ⟨rfl, rfl, Nat.le_of_ble_eq_true rfl, Nat.le_of_ble_eq_true rfl⟩ (by decide) rfl k_0 (c_X9_buy k_0 hq) rfl rfl (Nat.le_of_ble_eq_true rfl) dL_law_695 ⟨by show cells + 0 ≤ 600000; omega, by show slots + 0 ≤ 7302250; omega⟩) hS (fun r1 S1 H locs hf hR hS => ?_)
  refine lv_aload_n B.1.1 B.1.2.1 dL_law_698 rfl (hl.at 2 rfl) ?_
  refine lv_aload_n B.1.1 B.1.2.1 dL_law_699 rfl (hl.at 0 rfl) ?_
  refine lv_iload_n B.1.1 B.1.2.1 dL_law_700 rfl (hl.at 3 rfl) ?_
  refine lv_iconst (v := 1) B.1.1 B.1.2.1 dL_law_701 (by decide) ?_
  refine lv_iadd B.1.1 B.1.2.1 dL_law_702 ?_
  refine y_sld (j := 6 * i + 1) B hX hbl hbA hS (nI_add (6 * i) 1) (by omega) (by omega) dL_law_703 ?_
  refine lv_aload_n B.1.1 B.1.2.1 dL_law_704 rfl (hl.at 0 rfl) ?_
  refine lv_iload_n B.1.1 B.1.2.1 dL_law_705 rfl (hl.at 3 rfl) ?_
  refine lv_iconst (v := 2) B.1.1 B.1.2.1 dL_law_706 (by decide) ?_
  refine lv_iadd B.1.1 B.1.2.1 dL_law_707 ?_
  refine y_sld (j := 6 * i + 2) B hX hbl hbA hS (nI_add (6 * i) 2) (by omega) (by omega) dL_law_708 ?_
  refine lv_aload_n B.1.1 B.1.2.1 dL_law_709 rfl (hl.at 0 rfl) ?_
  refine lv_iload_n B.1.1 B.1.2.1 dL_law_710 rfl (hl.at 3 rfl) ?_
  refine lv_iconst (v := 3) B.1.1 B.1.2.1 dL_law_711 (by decide) ?_
  refine lv_iadd B.1.1 B.1.2.1 dL_law_712 ?_
  refine y_sld (j := 6 * i + 3) B hX hbl hbA hS (nI_add (6 * i) 3) (by omega) (by omega) dL_law_713 ?_
  refine y_ci hf (fun q hq => x_runV (ci := 10) (C := RX10) B.1 B.2.2.2 hl hR hS cm_L_81 ⟨rfl, rfl, Nat.le_of_ble_eq_true rfl, Nat.le_of_ble_eq_true rfl⟩ (by decide) rfl k_199 (c_X10_buy k_199 hq) rfl rfl (Nat.le_of_ble_eq_true rfl) dL_law_714 ⟨by show cells + 0 ≤ 600000; omega, by show slots + 0 ≤ 7302250; omega⟩) hS (fun r2 S3 H locs hf hR hS => ?_)
  simp only [Option.some.injEq, Prod.mk.injEq, decide_eq_true_eq] at hf
  obtain ⟨e1, rfl, rfl⟩ := hf
  refine lv_icmp_eq (tgt := 1426) B.1.1 B.1.2.1 dL_law_717 (by decide) (fun _ => ?_) (fun h => absurd e1 h)
  exact next _ _ _ _ _ _ _ hI2 hR hS (by omega) (by omega) hl
set_option maxRecDepth 100000 in
set_option maxHeartbeats 4000000 in
theorem law_16 {p : Program} {l : Launch} {e : Env} {s : State} {m : MethodId} {below : List Frame} {meth : Method} {c : Code} {z : Nat} {D : va_G} {dA : Nat → ClassId} {b L : Nat} {xs : Nat → Int32} (hL : L ≤ 3072) (B : xB p s m #[Value.ref b] meth c code RL 4 ret D dA) (hX : va_X b L xs s s.heap) (hbl : b < s.heap.size) (hbA : ¬ xA z b) {INV : Nat → xT → xS → Prop} (hstep : xStep INV) {i : Nat} (hi : i < 512) (hin : 6 * i + 5 < L) {T : xT} {S : xS} {H : Heap} {locs : List Loc} {cells slots : Nat} {ls : Array Slot} (hI : INV i T S) (hR : xRel z D dA T S H) (hS : va_S (xA z) s.heap H locs) (hc : cells ≤ 400 + 12 * i) (hs : slots ≤ 20000 + 200 * i) (hl : xL ls 4 [some (.ref b), some (.ref (z + 0)), some (.ref (z + 199)), some (.int (nI (6 * i)))]) (next : ∀ (T : xT) (S : xS) (H : Heap) (locs : List Loc) (cells slots : Nat) (ls : Array Slot), INV (i + 1) T S → xRel z D dA T S H → va_S (xA z) s.heap H locs → cells ≤ 400 + 12 * (i + 1) → slots ≤ 20000 + 200 * (i + 1) → xL ls 4 [some (.ref b), some (.ref (z + 0)), some (.ref (z + 199)), some (.int (nI (6 * i)))] → W p l e room_1 s m #[Value.ref b] below meth c H locs cells slots (lw_Z below #[Value.ref b] s) (F0 m 1426 ls [])) : W p l e room_1 s m #[Value.ref b] below meth c H locs cells slots (lw_Z below #[Value.ref b] s) (F0 m 722 ls []) := by
  obtain ⟨T2, S2, hf, hI2⟩ := hstep.2 i T S hi hI 16 (fun k => xs (6 * i + k))
  obtain ⟨k_0, k_199⟩ := hstep.1 i T S hI
  unfold xO at hf
  refine lv_aload_n B.1.1 B.1.2.1 dL_law_722 rfl (hl.at 1 rfl) ?_
  refine lv_aload_n B.1.1 B.1.2.1 dL_law_723 rfl (hl.at 0 rfl) ?_
  refine lv_iload_n B.1.1 B.1.2.1 dL_law_724 rfl (hl.at 3 rfl) ?_
  refine lv_iconst (v := 1) B.1.1 B.1.2.1 dL_law_725 (by decide) ?_
  refine lv_iadd B.1.1 B.1.2.1 dL_law_726 ?_
  refine y_sld (j := 6 * i + 1) B hX hbl hbA hS (nI_add (6 * i) 1) (by omega) (by omega) dL_law_727 ?_
  refine y_ci hf (fun q hq => x_runV (ci := 9) (C := RX9) B.1 B.2.2.2 hl hR hS cm_L_82 ⟨rfl, rfl, Nat.le_of_ble_eq_true rfl, Nat.le_of_ble_eq_true rfl⟩ (by decide) rfl k_0 (c_X9_sell k_0 hq) rfl rfl (Nat.le_of_ble_eq_true rfl) dL_law_728 ⟨by show cells + 0 ≤ 600000; omega, by show slots + 0 ≤ 7302250; omega⟩) hS (fun r1 S1 H locs hf hR hS => ?_)
  refine lv_aload_n B.1.1 B.1.2.1 dL_law_731 rfl (hl.at 2 rfl) ?_
  refine lv_aload_n B.1.1 B.1.2.1 dL_law_732 rfl (hl.at 0 rfl) ?_
  refine lv_iload_n B.1.1 B.1.2.1 dL_law_733 rfl (hl.at 3 rfl) ?_
  refine lv_iconst (v := 1) B.1.1 B.1.2.1 dL_law_734 (by decide) ?_
  refine lv_iadd B.1.1 B.1.2.1 dL_law_735 ?_
  refine y_sld (j := 6 * i + 1) B hX hbl hbA hS (nI_add (6 * i) 1) (by omega) (by omega) dL_law_736 ?_
  refine y_ci hf (fun q hq => x_runV (ci := 10) (C := RX10) B.1 B.2.2.2 hl hR hS cm_L_85 ⟨rfl, rfl, Nat.le_of_ble_eq_true rfl, Nat.le_of_ble_eq_true rfl⟩ (by decide) rfl k_199 (c_X10_sell k_199 hq) rfl rfl (Nat.le_of_ble_eq_true rfl) dL_law_737 ⟨by show cells + 0 ≤ 600000; omega, by show slots + 0 ≤ 7302250; omega⟩) hS (fun r2 S3 H locs hf hR hS => ?_)
  simp only [Option.some.injEq, Prod.mk.injEq, decide_eq_true_eq] at hf
  obtain ⟨e1, rfl, rfl⟩ := hf
  refine lv_icmp_eq (tgt := 1426) B.1.1 B.1.2.1 dL_law_740 (by decide) (fun _ => ?_) (fun h => absurd e1 h)
  exact next _ _ _ _ _ _ _ hI2 hR hS (by omega) (by omega) hl
set_option maxRecDepth 100000 in
set_option maxHeartbeats 4000000 in
theorem law_17 {p : Program} {l : Launch} {e : Env} {s : State} {m : MethodId} {below : List Frame} {meth : Method} {c : Code} {z : Nat} {D : va_G} {dA : Nat → ClassId} {b L : Nat} {xs : Nat → Int32} (hL : L ≤ 3072) (B : xB p s m #[Value.ref b] meth c code RL 4 ret D dA) (hX : va_X b L xs s s.heap) (hbl : b < s.heap.size) (hbA : ¬ xA z b) {INV : Nat → xT → xS → Prop} (hstep : xStep INV) {i : Nat} (hi : i < 512) (hin : 6 * i + 5 < L) {T : xT} {S : xS} {H : Heap} {locs : List Loc} {cells slots : Nat} {ls : Array Slot} (hI : INV i T S) (hR : xRel z D dA T S H) (hS : va_S (xA z) s.heap H locs) (hc : cells ≤ 400 + 12 * i) (hs : slots ≤ 20000 + 200 * i) (hl : xL ls 4 [some (.ref b), some (.ref (z + 0)), some (.ref (z + 199)), some (.int (nI (6 * i)))]) (next : ∀ (T : xT) (S : xS) (H : Heap) (locs : List Loc) (cells slots : Nat) (ls : Array Slot), INV (i + 1) T S → xRel z D dA T S H → va_S (xA z) s.heap H locs → cells ≤ 400 + 12 * (i + 1) → slots ≤ 20000 + 200 * (i + 1) → xL ls 4 [some (.ref b), some (.ref (z + 0)), some (.ref (z + 199)), some (.int (nI (6 * i)))] → W p l e room_1 s m #[Value.ref b] below meth c H locs cells slots (lw_Z below #[Value.ref b] s) (F0 m 1426 ls [])) : W p l e room_1 s m #[Value.ref b] below meth c H locs cells slots (lw_Z below #[Value.ref b] s) (F0 m 745 ls []) := by
  obtain ⟨T2, S2, hf, hI2⟩ := hstep.2 i T S hi hI 17 (fun k => xs (6 * i + k))
  obtain ⟨k_0, k_199⟩ := hstep.1 i T S hI
  unfold xO at hf
  refine lv_aload_n B.1.1 B.1.2.1 dL_law_745 rfl (hl.at 1 rfl) ?_
  refine lv_aload_n B.1.1 B.1.2.1 dL_law_746 rfl (hl.at 0 rfl) ?_
  refine lv_iload_n B.1.1 B.1.2.1 dL_law_747 rfl (hl.at 3 rfl) ?_
  refine lv_iconst (v := 1) B.1.1 B.1.2.1 dL_law_748 (by decide) ?_
  refine lv_iadd B.1.1 B.1.2.1 dL_law_749 ?_
  refine y_sld (j := 6 * i + 1) B hX hbl hbA hS (nI_add (6 * i) 1) (by omega) (by omega) dL_law_750 ?_
  refine lv_aload_n B.1.1 B.1.2.1 dL_law_751 rfl (hl.at 0 rfl) ?_
  refine lv_iload_n B.1.1 B.1.2.1 dL_law_752 rfl (hl.at 3 rfl) ?_
  refine lv_iconst (v := 2) B.1.1 B.1.2.1 dL_law_753 (by decide) ?_
  refine lv_iadd B.1.1 B.1.2.1 dL_law_754 ?_
  refine y_sld (j := 6 * i + 2) B hX hbl hbA hS (nI_add (6 * i) 2) (by omega) (by omega) dL_law_755 ?_
  refine y_ci hf (fun q hq => x_runV (ci := 9) (C := RX9) B.1 B.2.2.2 hl hR hS cm_L_86 ⟨rfl, rfl, Nat.le_of_ble_eq_true rfl, Nat.le_of_ble_eq_true rfl⟩ (by decide) rfl k_0 (c_X9_market k_0 hq) rfl rfl (Nat.le_of_ble_eq_true rfl) dL_law_756 ⟨by show cells + 0 ≤ 600000; omega, by show slots + 0 ≤ 7302250; omega⟩) hS (fun r1 S1 H locs hf hR hS => ?_)
  refine lv_aload_n B.1.1 B.1.2.1 dL_law_759 rfl (hl.at 2 rfl) ?_
  refine lv_aload_n B.1.1 B.1.2.1 dL_law_760 rfl (hl.at 0 rfl) ?_
  refine lv_iload_n B.1.1 B.1.2.1 dL_law_761 rfl (hl.at 3 rfl) ?_
  refine lv_iconst (v := 1) B.1.1 B.1.2.1 dL_law_762 (by decide) ?_
  refine lv_iadd B.1.1 B.1.2.1 dL_law_763 ?_
  refine y_sld (j := 6 * i + 1) B hX hbl hbA hS (nI_add (6 * i) 1) (by omega) (by omega) dL_law_764 ?_
  refine lv_aload_n B.1.1 B.1.2.1 dL_law_765 rfl (hl.at 0 rfl) ?_
  refine lv_iload_n B.1.1 B.1.2.1 dL_law_766 rfl (hl.at 3 rfl) ?_
  refine lv_iconst (v := 2) B.1.1 B.1.2.1 dL_law_767 (by decide) ?_
  refine lv_iadd B.1.1 B.1.2.1 dL_law_768 ?_
  refine y_sld (j := 6 * i + 2) B hX hbl hbA hS (nI_add (6 * i) 2) (by omega) (by omega) dL_law_769 ?_
  refine y_ci hf (fun q hq => x_runV (ci := 10) (C := RX10) B.1 B.2.2.2 hl hR hS cm_L_89 ⟨rfl, rfl, Nat.le_of_ble_eq_true rfl, Nat.le_of_ble_eq_true rfl⟩ (by decide) rfl k_199 (c_X10_market k_199 hq) rfl rfl (Nat.le_of_ble_eq_true rfl) dL_law_770 ⟨by show cells + 0 ≤ 600000; omega, by show slots + 0 ≤ 7302250; omega⟩) hS (fun r2 S3 H locs hf hR hS => ?_)
  simp only [Option.some.injEq, Prod.mk.injEq, decide_eq_true_eq] at hf
  obtain ⟨e1, rfl, rfl⟩ := hf
  refine lv_icmp_eq (tgt := 1426) B.1.1 B.1.2.1 dL_law_773 (by decide) (fun _ => ?_) (fun h => absurd e1 h)
  exact next _ _ _ _ _ _ _ hI2 hR hS (by omega) (by omega) hl
set_option maxRecDepth 100000 in
set_option maxHeartbeats 4000000 in
theorem law_18 {p : Program} {l : Launch} {e : Env} {s : State} {m : MethodId} {below : List Frame} {meth : Method} {c : Code} {z : Nat} {D : va_G} {dA : Nat → ClassId} {b L : Nat} {xs : Nat → Int32} (hL : L ≤ 3072) (B : xB p s m #[Value.ref b] meth c code RL 4 ret D dA) (hX : va_X b L xs s s.heap) (hbl : b < s.heap.size) (hbA : ¬ xA z b) {INV : Nat → xT → xS → Prop} (hstep : xStep INV) {i : Nat} (hi : i < 512) (hin : 6 * i + 5 < L) {T : xT} {S : xS} {H : Heap} {locs : List Loc} {cells slots : Nat} {ls : Array Slot} (hI : INV i T S) (hR : xRel z D dA T S H) (hS : va_S (xA z) s.heap H locs) (hc : cells ≤ 400 + 12 * i) (hs : slots ≤ 20000 + 200 * i) (hl : xL ls 4 [some (.ref b), some (.ref (z + 0)), some (.ref (z + 199)), some (.int (nI (6 * i)))]) (next : ∀ (T : xT) (S : xS) (H : Heap) (locs : List Loc) (cells slots : Nat) (ls : Array Slot), INV (i + 1) T S → xRel z D dA T S H → va_S (xA z) s.heap H locs → cells ≤ 400 + 12 * (i + 1) → slots ≤ 20000 + 200 * (i + 1) → xL ls 4 [some (.ref b), some (.ref (z + 0)), some (.ref (z + 199)), some (.int (nI (6 * i)))] → W p l e room_1 s m #[Value.ref b] below meth c H locs cells slots (lw_Z below #[Value.ref b] s) (F0 m 1426 ls [])) : W p l e room_1 s m #[Value.ref b] below meth c H locs cells slots (lw_Z below #[Value.ref b] s) (F0 m 778 ls []) := by
  obtain ⟨T2, S2, hf, hI2⟩ := hstep.2 i T S hi hI 18 (fun k => xs (6 * i + k))
  obtain ⟨k_0, k_199⟩ := hstep.1 i T S hI
  unfold xO at hf
  refine lv_aload_n B.1.1 B.1.2.1 dL_law_778 rfl (hl.at 1 rfl) ?_
  refine lv_aload_n B.1.1 B.1.2.1 dL_law_779 rfl (hl.at 0 rfl) ?_
  refine lv_iload_n B.1.1 B.1.2.1 dL_law_780 rfl (hl.at 3 rfl) ?_
  refine lv_iconst (v := 1) B.1.1 B.1.2.1 dL_law_781 (by decide) ?_
  refine lv_iadd B.1.1 B.1.2.1 dL_law_782 ?_
  refine y_sld (j := 6 * i + 1) B hX hbl hbA hS (nI_add (6 * i) 1) (by omega) (by omega) dL_law_783 ?_
  refine lv_aload_n B.1.1 B.1.2.1 dL_law_784 rfl (hl.at 0 rfl) ?_
  refine lv_iload_n B.1.1 B.1.2.1 dL_law_785 rfl (hl.at 3 rfl) ?_
  refine lv_iconst (v := 2) B.1.1 B.1.2.1 dL_law_786 (by decide) ?_
  refine lv_iadd B.1.1 B.1.2.1 dL_law_787 ?_
  refine y_sld (j := 6 * i + 2) B hX hbl hbA hS (nI_add (6 * i) 2) (by omega) (by omega) dL_law_788 ?_
  refine y_ci hf (fun q hq => x_runV (ci := 9) (C := RX9) B.1 B.2.2.2 hl hR hS cm_L_90 ⟨rfl, rfl, Nat.le_of_ble_eq_true rfl, Nat.le_of_ble_eq_true rfl⟩ (by decide) rfl k_0 (c_X9_lose k_0 hq) rfl rfl (Nat.le_of_ble_eq_true rfl) dL_law_789 ⟨by show cells + 0 ≤ 600000; omega, by show slots + 0 ≤ 7302250; omega⟩) hS (fun r1 S1 H locs hf hR hS => ?_)
  refine lv_aload_n B.1.1 B.1.2.1 dL_law_792 rfl (hl.at 2 rfl) ?_
  refine lv_aload_n B.1.1 B.1.2.1 dL_law_793 rfl (hl.at 0 rfl) ?_
  refine lv_iload_n B.1.1 B.1.2.1 dL_law_794 rfl (hl.at 3 rfl) ?_
  refine lv_iconst (v := 1) B.1.1 B.1.2.1 dL_law_795 (by decide) ?_
  refine lv_iadd B.1.1 B.1.2.1 dL_law_796 ?_
  refine y_sld (j := 6 * i + 1) B hX hbl hbA hS (nI_add (6 * i) 1) (by omega) (by omega) dL_law_797 ?_
  refine lv_aload_n B.1.1 B.1.2.1 dL_law_798 rfl (hl.at 0 rfl) ?_
  refine lv_iload_n B.1.1 B.1.2.1 dL_law_799 rfl (hl.at 3 rfl) ?_
  refine lv_iconst (v := 2) B.1.1 B.1.2.1 dL_law_800 (by decide) ?_
  refine lv_iadd B.1.1 B.1.2.1 dL_law_801 ?_
  refine y_sld (j := 6 * i + 2) B hX hbl hbA hS (nI_add (6 * i) 2) (by omega) (by omega) dL_law_802 ?_
  refine y_ci hf (fun q hq => x_runV (ci := 10) (C := RX10) B.1 B.2.2.2 hl hR hS cm_L_93 ⟨rfl, rfl, Nat.le_of_ble_eq_true rfl, Nat.le_of_ble_eq_true rfl⟩ (by decide) rfl k_199 (c_X10_lose k_199 hq) rfl rfl (Nat.le_of_ble_eq_true rfl) dL_law_803 ⟨by show cells + 0 ≤ 600000; omega, by show slots + 0 ≤ 7302250; omega⟩) hS (fun r2 S3 H locs hf hR hS => ?_)
  simp only [Option.some.injEq, Prod.mk.injEq, decide_eq_true_eq] at hf
  obtain ⟨e1, rfl, rfl⟩ := hf
  refine lv_icmp_eq (tgt := 1426) B.1.1 B.1.2.1 dL_law_806 (by decide) (fun _ => ?_) (fun h => absurd e1 h)
  exact next _ _ _ _ _ _ _ hI2 hR hS (by omega) (by omega) hl
set_option maxRecDepth 100000 in
set_option maxHeartbeats 4000000 in
theorem law_19 {p : Program} {l : Launch} {e : Env} {s : State} {m : MethodId} {below : List Frame} {meth : Method} {c : Code} {z : Nat} {D : va_G} {dA : Nat → ClassId} {b L : Nat} {xs : Nat → Int32} (hL : L ≤ 3072) (B : xB p s m #[Value.ref b] meth c code RL 4 ret D dA) (hX : va_X b L xs s s.heap) (hbl : b < s.heap.size) (hbA : ¬ xA z b) {INV : Nat → xT → xS → Prop} (hstep : xStep INV) {i : Nat} (hi : i < 512) (hin : 6 * i + 5 < L) {T : xT} {S : xS} {H : Heap} {locs : List Loc} {cells slots : Nat} {ls : Array Slot} (hI : INV i T S) (hR : xRel z D dA T S H) (hS : va_S (xA z) s.heap H locs) (hc : cells ≤ 400 + 12 * i) (hs : slots ≤ 20000 + 200 * i) (hl : xL ls 4 [some (.ref b), some (.ref (z + 0)), some (.ref (z + 199)), some (.int (nI (6 * i)))]) (next : ∀ (T : xT) (S : xS) (H : Heap) (locs : List Loc) (cells slots : Nat) (ls : Array Slot), INV (i + 1) T S → xRel z D dA T S H → va_S (xA z) s.heap H locs → cells ≤ 400 + 12 * (i + 1) → slots ≤ 20000 + 200 * (i + 1) → xL ls 4 [some (.ref b), some (.ref (z + 0)), some (.ref (z + 199)), some (.int (nI (6 * i)))] → W p l e room_1 s m #[Value.ref b] below meth c H locs cells slots (lw_Z below #[Value.ref b] s) (F0 m 1426 ls [])) : W p l e room_1 s m #[Value.ref b] below meth c H locs cells slots (lw_Z below #[Value.ref b] s) (F0 m 811 ls []) := by
  obtain ⟨T2, S2, hf, hI2⟩ := hstep.2 i T S hi hI 19 (fun k => xs (6 * i + k))
  obtain ⟨k_0, k_199⟩ := hstep.1 i T S hI
  unfold xO at hf
  refine lv_aload_n B.1.1 B.1.2.1 dL_law_811 rfl (hl.at 1 rfl) ?_
  refine lv_aload_n B.1.1 B.1.2.1 dL_law_812 rfl (hl.at 0 rfl) ?_
  refine lv_iload_n B.1.1 B.1.2.1 dL_law_813 rfl (hl.at 3 rfl) ?_
  refine lv_iconst (v := 1) B.1.1 B.1.2.1 dL_law_814 (by decide) ?_
  refine lv_iadd B.1.1 B.1.2.1 dL_law_815 ?_
  refine y_sld (j := 6 * i + 1) B hX hbl hbA hS (nI_add (6 * i) 1) (by omega) (by omega) dL_law_816 ?_
  refine lv_aload_n B.1.1 B.1.2.1 dL_law_817 rfl (hl.at 0 rfl) ?_
  refine lv_iload_n B.1.1 B.1.2.1 dL_law_818 rfl (hl.at 3 rfl) ?_
  refine lv_iconst (v := 2) B.1.1 B.1.2.1 dL_law_819 (by decide) ?_
  refine lv_iadd B.1.1 B.1.2.1 dL_law_820 ?_
  refine y_sld (j := 6 * i + 2) B hX hbl hbA hS (nI_add (6 * i) 2) (by omega) (by omega) dL_law_821 ?_
  refine y_ci hf (fun q hq => x_runV (ci := 9) (C := RX9) B.1 B.2.2.2 hl hR hS cm_L_94 ⟨rfl, rfl, Nat.le_of_ble_eq_true rfl, Nat.le_of_ble_eq_true rfl⟩ (by decide) rfl k_0 (c_X9_borrow k_0 hq) rfl rfl (Nat.le_of_ble_eq_true rfl) dL_law_822 ⟨by show cells + 0 ≤ 600000; omega, by show slots + 0 ≤ 7302250; omega⟩) hS (fun r1 S1 H locs hf hR hS => ?_)
  refine lv_aload_n B.1.1 B.1.2.1 dL_law_825 rfl (hl.at 2 rfl) ?_
  refine lv_aload_n B.1.1 B.1.2.1 dL_law_826 rfl (hl.at 0 rfl) ?_
  refine lv_iload_n B.1.1 B.1.2.1 dL_law_827 rfl (hl.at 3 rfl) ?_
  refine lv_iconst (v := 1) B.1.1 B.1.2.1 dL_law_828 (by decide) ?_
  refine lv_iadd B.1.1 B.1.2.1 dL_law_829 ?_
  refine y_sld (j := 6 * i + 1) B hX hbl hbA hS (nI_add (6 * i) 1) (by omega) (by omega) dL_law_830 ?_
  refine lv_aload_n B.1.1 B.1.2.1 dL_law_831 rfl (hl.at 0 rfl) ?_
  refine lv_iload_n B.1.1 B.1.2.1 dL_law_832 rfl (hl.at 3 rfl) ?_
  refine lv_iconst (v := 2) B.1.1 B.1.2.1 dL_law_833 (by decide) ?_
  refine lv_iadd B.1.1 B.1.2.1 dL_law_834 ?_
  refine y_sld (j := 6 * i + 2) B hX hbl hbA hS (nI_add (6 * i) 2) (by omega) (by omega) dL_law_835 ?_
  refine y_ci hf (fun q hq => x_runV (ci := 10) (C := RX10) B.1 B.2.2.2 hl hR hS cm_L_97 ⟨rfl, rfl, Nat.le_of_ble_eq_true rfl, Nat.le_of_ble_eq_true rfl⟩ (by decide) rfl k_199 (c_X10_borrow k_199 hq) rfl rfl (Nat.le_of_ble_eq_true rfl) dL_law_836 ⟨by show cells + 0 ≤ 600000; omega, by show slots + 0 ≤ 7302250; omega⟩) hS (fun r2 S3 H locs hf hR hS => ?_)
  simp only [Option.some.injEq, Prod.mk.injEq, decide_eq_true_eq] at hf
  obtain ⟨e1, rfl, rfl⟩ := hf
  refine lv_icmp_eq (tgt := 1426) B.1.1 B.1.2.1 dL_law_839 (by decide) (fun _ => ?_) (fun h => absurd e1 h)
  exact next _ _ _ _ _ _ _ hI2 hR hS (by omega) (by omega) hl
set_option maxRecDepth 100000 in
set_option maxHeartbeats 4000000 in
theorem law_20 {p : Program} {l : Launch} {e : Env} {s : State} {m : MethodId} {below : List Frame} {meth : Method} {c : Code} {z : Nat} {D : va_G} {dA : Nat → ClassId} {b L : Nat} {xs : Nat → Int32} (hL : L ≤ 3072) (B : xB p s m #[Value.ref b] meth c code RL 4 ret D dA) (hX : va_X b L xs s s.heap) (hbl : b < s.heap.size) (hbA : ¬ xA z b) {INV : Nat → xT → xS → Prop} (hstep : xStep INV) {i : Nat} (hi : i < 512) (hin : 6 * i + 5 < L) {T : xT} {S : xS} {H : Heap} {locs : List Loc} {cells slots : Nat} {ls : Array Slot} (hI : INV i T S) (hR : xRel z D dA T S H) (hS : va_S (xA z) s.heap H locs) (hc : cells ≤ 400 + 12 * i) (hs : slots ≤ 20000 + 200 * i) (hl : xL ls 4 [some (.ref b), some (.ref (z + 0)), some (.ref (z + 199)), some (.int (nI (6 * i)))]) (next : ∀ (T : xT) (S : xS) (H : Heap) (locs : List Loc) (cells slots : Nat) (ls : Array Slot), INV (i + 1) T S → xRel z D dA T S H → va_S (xA z) s.heap H locs → cells ≤ 400 + 12 * (i + 1) → slots ≤ 20000 + 200 * (i + 1) → xL ls 4 [some (.ref b), some (.ref (z + 0)), some (.ref (z + 199)), some (.int (nI (6 * i)))] → W p l e room_1 s m #[Value.ref b] below meth c H locs cells slots (lw_Z below #[Value.ref b] s) (F0 m 1426 ls [])) : W p l e room_1 s m #[Value.ref b] below meth c H locs cells slots (lw_Z below #[Value.ref b] s) (F0 m 844 ls []) := by
  obtain ⟨T2, S2, hf, hI2⟩ := hstep.2 i T S hi hI 20 (fun k => xs (6 * i + k))
  obtain ⟨k_0, k_199⟩ := hstep.1 i T S hI
  unfold xO at hf
  refine lv_aload_n B.1.1 B.1.2.1 dL_law_844 rfl (hl.at 1 rfl) ?_
  refine lv_aload_n B.1.1 B.1.2.1 dL_law_845 rfl (hl.at 0 rfl) ?_
  refine lv_iload_n B.1.1 B.1.2.1 dL_law_846 rfl (hl.at 3 rfl) ?_
  refine lv_iconst (v := 1) B.1.1 B.1.2.1 dL_law_847 (by decide) ?_
  refine lv_iadd B.1.1 B.1.2.1 dL_law_848 ?_
  refine y_sld (j := 6 * i + 1) B hX hbl hbA hS (nI_add (6 * i) 1) (by omega) (by omega) dL_law_849 ?_
  refine lv_aload_n B.1.1 B.1.2.1 dL_law_850 rfl (hl.at 0 rfl) ?_
  refine lv_iload_n B.1.1 B.1.2.1 dL_law_851 rfl (hl.at 3 rfl) ?_
  refine lv_iconst (v := 2) B.1.1 B.1.2.1 dL_law_852 (by decide) ?_
  refine lv_iadd B.1.1 B.1.2.1 dL_law_853 ?_
  refine y_sld (j := 6 * i + 2) B hX hbl hbA hS (nI_add (6 * i) 2) (by omega) (by omega) dL_law_854 ?_
  refine y_ci hf (fun q hq => x_runV (ci := 9) (C := RX9) B.1 B.2.2.2 hl hR hS cm_L_98 ⟨rfl, rfl, Nat.le_of_ble_eq_true rfl, Nat.le_of_ble_eq_true rfl⟩ (by decide) rfl k_0 (c_X9_repay k_0 hq) rfl rfl (Nat.le_of_ble_eq_true rfl) dL_law_855 ⟨by show cells + 0 ≤ 600000; omega, by show slots + 0 ≤ 7302250; omega⟩) hS (fun r1 S1 H locs hf hR hS => ?_)
  refine lv_aload_n B.1.1 B.1.2.1 dL_law_858 rfl (hl.at 2 rfl) ?_
  refine lv_aload_n B.1.1 B.1.2.1 dL_law_859 rfl (hl.at 0 rfl) ?_
  refine lv_iload_n B.1.1 B.1.2.1 dL_law_860 rfl (hl.at 3 rfl) ?_
  refine lv_iconst (v := 1) B.1.1 B.1.2.1 dL_law_861 (by decide) ?_
  refine lv_iadd B.1.1 B.1.2.1 dL_law_862 ?_
  refine y_sld (j := 6 * i + 1) B hX hbl hbA hS (nI_add (6 * i) 1) (by omega) (by omega) dL_law_863 ?_
  refine lv_aload_n B.1.1 B.1.2.1 dL_law_864 rfl (hl.at 0 rfl) ?_
  refine lv_iload_n B.1.1 B.1.2.1 dL_law_865 rfl (hl.at 3 rfl) ?_
  refine lv_iconst (v := 2) B.1.1 B.1.2.1 dL_law_866 (by decide) ?_
  refine lv_iadd B.1.1 B.1.2.1 dL_law_867 ?_
  refine y_sld (j := 6 * i + 2) B hX hbl hbA hS (nI_add (6 * i) 2) (by omega) (by omega) dL_law_868 ?_
  refine y_ci hf (fun q hq => x_runV (ci := 10) (C := RX10) B.1 B.2.2.2 hl hR hS cm_L_101 ⟨rfl, rfl, Nat.le_of_ble_eq_true rfl, Nat.le_of_ble_eq_true rfl⟩ (by decide) rfl k_199 (c_X10_repay k_199 hq) rfl rfl (Nat.le_of_ble_eq_true rfl) dL_law_869 ⟨by show cells + 0 ≤ 600000; omega, by show slots + 0 ≤ 7302250; omega⟩) hS (fun r2 S3 H locs hf hR hS => ?_)
  simp only [Option.some.injEq, Prod.mk.injEq, decide_eq_true_eq] at hf
  obtain ⟨e1, rfl, rfl⟩ := hf
  refine lv_icmp_eq (tgt := 1426) B.1.1 B.1.2.1 dL_law_872 (by decide) (fun _ => ?_) (fun h => absurd e1 h)
  exact next _ _ _ _ _ _ _ hI2 hR hS (by omega) (by omega) hl
set_option maxRecDepth 100000 in
set_option maxHeartbeats 4000000 in
theorem law_21 {p : Program} {l : Launch} {e : Env} {s : State} {m : MethodId} {below : List Frame} {meth : Method} {c : Code} {z : Nat} {D : va_G} {dA : Nat → ClassId} {b L : Nat} {xs : Nat → Int32} (hL : L ≤ 3072) (B : xB p s m #[Value.ref b] meth c code RL 4 ret D dA) (hX : va_X b L xs s s.heap) (hbl : b < s.heap.size) (hbA : ¬ xA z b) {INV : Nat → xT → xS → Prop} (hstep : xStep INV) {i : Nat} (hi : i < 512) (hin : 6 * i + 5 < L) {T : xT} {S : xS} {H : Heap} {locs : List Loc} {cells slots : Nat} {ls : Array Slot} (hI : INV i T S) (hR : xRel z D dA T S H) (hS : va_S (xA z) s.heap H locs) (hc : cells ≤ 400 + 12 * i) (hs : slots ≤ 20000 + 200 * i) (hl : xL ls 4 [some (.ref b), some (.ref (z + 0)), some (.ref (z + 199)), some (.int (nI (6 * i)))]) (next : ∀ (T : xT) (S : xS) (H : Heap) (locs : List Loc) (cells slots : Nat) (ls : Array Slot), INV (i + 1) T S → xRel z D dA T S H → va_S (xA z) s.heap H locs → cells ≤ 400 + 12 * (i + 1) → slots ≤ 20000 + 200 * (i + 1) → xL ls 4 [some (.ref b), some (.ref (z + 0)), some (.ref (z + 199)), some (.int (nI (6 * i)))] → W p l e room_1 s m #[Value.ref b] below meth c H locs cells slots (lw_Z below #[Value.ref b] s) (F0 m 1426 ls [])) : W p l e room_1 s m #[Value.ref b] below meth c H locs cells slots (lw_Z below #[Value.ref b] s) (F0 m 877 ls []) := by
  obtain ⟨T2, S2, hf, hI2⟩ := hstep.2 i T S hi hI 21 (fun k => xs (6 * i + k))
  obtain ⟨k_0, k_199⟩ := hstep.1 i T S hI
  unfold xO at hf
  refine lv_aload_n B.1.1 B.1.2.1 dL_law_877 rfl (hl.at 1 rfl) ?_
  refine lv_aload_n B.1.1 B.1.2.1 dL_law_878 rfl (hl.at 0 rfl) ?_
  refine lv_iload_n B.1.1 B.1.2.1 dL_law_879 rfl (hl.at 3 rfl) ?_
  refine lv_iconst (v := 1) B.1.1 B.1.2.1 dL_law_880 (by decide) ?_
  refine lv_iadd B.1.1 B.1.2.1 dL_law_881 ?_
  refine y_sld (j := 6 * i + 1) B hX hbl hbA hS (nI_add (6 * i) 1) (by omega) (by omega) dL_law_882 ?_
  refine y_ci hf (fun q hq => x_runV (ci := 9) (C := RX9) B.1 B.2.2.2 hl hR hS cm_L_102 ⟨rfl, rfl, Nat.le_of_ble_eq_true rfl, Nat.le_of_ble_eq_true rfl⟩ (by decide) rfl k_0 (c_X9_earn k_0 hq) rfl rfl (Nat.le_of_ble_eq_true rfl) dL_law_883 ⟨by show cells + 0 ≤ 600000; omega, by show slots + 0 ≤ 7302250; omega⟩) hS (fun r1 S1 H locs hf hR hS => ?_)
  refine lv_aload_n B.1.1 B.1.2.1 dL_law_886 rfl (hl.at 2 rfl) ?_
  refine lv_aload_n B.1.1 B.1.2.1 dL_law_887 rfl (hl.at 0 rfl) ?_
  refine lv_iload_n B.1.1 B.1.2.1 dL_law_888 rfl (hl.at 3 rfl) ?_
  refine lv_iconst (v := 1) B.1.1 B.1.2.1 dL_law_889 (by decide) ?_
  refine lv_iadd B.1.1 B.1.2.1 dL_law_890 ?_
  refine y_sld (j := 6 * i + 1) B hX hbl hbA hS (nI_add (6 * i) 1) (by omega) (by omega) dL_law_891 ?_
  refine y_ci hf (fun q hq => x_runV (ci := 10) (C := RX10) B.1 B.2.2.2 hl hR hS cm_L_105 ⟨rfl, rfl, Nat.le_of_ble_eq_true rfl, Nat.le_of_ble_eq_true rfl⟩ (by decide) rfl k_199 (c_X10_earn k_199 hq) rfl rfl (Nat.le_of_ble_eq_true rfl) dL_law_892 ⟨by show cells + 0 ≤ 600000; omega, by show slots + 0 ≤ 7302250; omega⟩) hS (fun r2 S3 H locs hf hR hS => ?_)
  simp only [Option.some.injEq, Prod.mk.injEq, decide_eq_true_eq] at hf
  obtain ⟨e1, rfl, rfl⟩ := hf
  refine lv_icmp_eq (tgt := 1426) B.1.1 B.1.2.1 dL_law_895 (by decide) (fun _ => ?_) (fun h => absurd e1 h)
  exact next _ _ _ _ _ _ _ hI2 hR hS (by omega) (by omega) hl
set_option maxRecDepth 100000 in
set_option maxHeartbeats 4000000 in
theorem law_22 {p : Program} {l : Launch} {e : Env} {s : State} {m : MethodId} {below : List Frame} {meth : Method} {c : Code} {z : Nat} {D : va_G} {dA : Nat → ClassId} {b L : Nat} {xs : Nat → Int32} (hL : L ≤ 3072) (B : xB p s m #[Value.ref b] meth c code RL 4 ret D dA) (hX : va_X b L xs s s.heap) (hbl : b < s.heap.size) (hbA : ¬ xA z b) {INV : Nat → xT → xS → Prop} (hstep : xStep INV) {i : Nat} (hi : i < 512) (hin : 6 * i + 5 < L) {T : xT} {S : xS} {H : Heap} {locs : List Loc} {cells slots : Nat} {ls : Array Slot} (hI : INV i T S) (hR : xRel z D dA T S H) (hS : va_S (xA z) s.heap H locs) (hc : cells ≤ 400 + 12 * i) (hs : slots ≤ 20000 + 200 * i) (hl : xL ls 4 [some (.ref b), some (.ref (z + 0)), some (.ref (z + 199)), some (.int (nI (6 * i)))]) (next : ∀ (T : xT) (S : xS) (H : Heap) (locs : List Loc) (cells slots : Nat) (ls : Array Slot), INV (i + 1) T S → xRel z D dA T S H → va_S (xA z) s.heap H locs → cells ≤ 400 + 12 * (i + 1) → slots ≤ 20000 + 200 * (i + 1) → xL ls 4 [some (.ref b), some (.ref (z + 0)), some (.ref (z + 199)), some (.int (nI (6 * i)))] → W p l e room_1 s m #[Value.ref b] below meth c H locs cells slots (lw_Z below #[Value.ref b] s) (F0 m 1426 ls [])) : W p l e room_1 s m #[Value.ref b] below meth c H locs cells slots (lw_Z below #[Value.ref b] s) (F0 m 900 ls []) := by
  obtain ⟨T2, S2, hf, hI2⟩ := hstep.2 i T S hi hI 22 (fun k => xs (6 * i + k))
  obtain ⟨k_0, k_199⟩ := hstep.1 i T S hI
  unfold xO at hf
  refine lv_aload_n B.1.1 B.1.2.1 dL_law_900 rfl (hl.at 1 rfl) ?_
  refine y_ci hf (fun q hq => x_runV (ci := 9) (C := RX9) B.1 B.2.2.2 hl hR hS cm_L_106 ⟨rfl, rfl, Nat.le_of_ble_eq_true rfl, Nat.le_of_ble_eq_true rfl⟩ (by decide) rfl k_0 (c_X9_close k_0 hq) rfl rfl (Nat.le_of_ble_eq_true rfl) dL_law_901 ⟨by show cells + 0 ≤ 600000; omega, by show slots + 0 ≤ 7302250; omega⟩) hS (fun r1 S1 H locs hf hR hS => ?_)
  refine lv_aload_n B.1.1 B.1.2.1 dL_law_904 rfl (hl.at 2 rfl) ?_
  refine y_ci hf (fun q hq => x_runV (ci := 10) (C := RX10) B.1 B.2.2.2 hl hR hS cm_L_109 ⟨rfl, rfl, Nat.le_of_ble_eq_true rfl, Nat.le_of_ble_eq_true rfl⟩ (by decide) rfl k_199 (c_X10_close k_199 hq) rfl rfl (Nat.le_of_ble_eq_true rfl) dL_law_905 ⟨by show cells + 0 ≤ 600000; omega, by show slots + 0 ≤ 7302250; omega⟩) hS (fun r2 S3 H locs hf hR hS => ?_)
  simp only [Option.some.injEq, Prod.mk.injEq, decide_eq_true_eq] at hf
  obtain ⟨e1, rfl, rfl⟩ := hf
  refine lv_icmp_eq (tgt := 1426) B.1.1 B.1.2.1 dL_law_908 (by decide) (fun _ => ?_) (fun h => absurd e1 h)
  exact next _ _ _ _ _ _ _ hI2 hR hS (by omega) (by omega) hl
set_option maxRecDepth 100000 in
set_option maxHeartbeats 4000000 in
theorem law_23 {p : Program} {l : Launch} {e : Env} {s : State} {m : MethodId} {below : List Frame} {meth : Method} {c : Code} {z : Nat} {D : va_G} {dA : Nat → ClassId} {b L : Nat} {xs : Nat → Int32} (hL : L ≤ 3072) (B : xB p s m #[Value.ref b] meth c code RL 4 ret D dA) (hX : va_X b L xs s s.heap) (hbl : b < s.heap.size) (hbA : ¬ xA z b) {INV : Nat → xT → xS → Prop} (hstep : xStep INV) {i : Nat} (hi : i < 512) (hin : 6 * i + 5 < L) {T : xT} {S : xS} {H : Heap} {locs : List Loc} {cells slots : Nat} {ls : Array Slot} (hI : INV i T S) (hR : xRel z D dA T S H) (hS : va_S (xA z) s.heap H locs) (hc : cells ≤ 400 + 12 * i) (hs : slots ≤ 20000 + 200 * i) (hl : xL ls 4 [some (.ref b), some (.ref (z + 0)), some (.ref (z + 199)), some (.int (nI (6 * i)))]) (next : ∀ (T : xT) (S : xS) (H : Heap) (locs : List Loc) (cells slots : Nat) (ls : Array Slot), INV (i + 1) T S → xRel z D dA T S H → va_S (xA z) s.heap H locs → cells ≤ 400 + 12 * (i + 1) → slots ≤ 20000 + 200 * (i + 1) → xL ls 4 [some (.ref b), some (.ref (z + 0)), some (.ref (z + 199)), some (.int (nI (6 * i)))] → W p l e room_1 s m #[Value.ref b] below meth c H locs cells slots (lw_Z below #[Value.ref b] s) (F0 m 1426 ls [])) : W p l e room_1 s m #[Value.ref b] below meth c H locs cells slots (lw_Z below #[Value.ref b] s) (F0 m 913 ls []) := by
  obtain ⟨T2, S2, hf, hI2⟩ := hstep.2 i T S hi hI 23 (fun k => xs (6 * i + k))
  obtain ⟨k_0, k_199⟩ := hstep.1 i T S hI
  unfold xO at hf
  refine lv_aload_n B.1.1 B.1.2.1 dL_law_913 rfl (hl.at 1 rfl) ?_
  refine lv_aload_n B.1.1 B.1.2.1 dL_law_914 rfl (hl.at 0 rfl) ?_
  refine lv_iload_n B.1.1 B.1.2.1 dL_law_915 rfl (hl.at 3 rfl) ?_
  refine lv_iconst (v := 1) B.1.1 B.1.2.1 dL_law_916 (by decide) ?_
  refine lv_iadd B.1.1 B.1.2.1 dL_law_917 ?_
  refine y_sld (j := 6 * i + 1) B hX hbl hbA hS (nI_add (6 * i) 1) (by omega) (by omega) dL_law_918 ?_
  refine lv_aload_n B.1.1 B.1.2.1 dL_law_919 rfl (hl.at 0 rfl) ?_
  refine lv_iload_n B.1.1 B.1.2.1 dL_law_920 rfl (hl.at 3 rfl) ?_
  refine lv_iconst (v := 2) B.1.1 B.1.2.1 dL_law_921 (by decide) ?_
  refine lv_iadd B.1.1 B.1.2.1 dL_law_922 ?_
  refine y_sld (j := 6 * i + 2) B hX hbl hbA hS (nI_add (6 * i) 2) (by omega) (by omega) dL_law_923 ?_
  refine y_ci hf (fun q hq => x_runV (ci := 9) (C := RX9) B.1 B.2.2.2 hl hR hS cm_L_110 ⟨rfl, rfl, Nat.le_of_ble_eq_true rfl, Nat.le_of_ble_eq_true rfl⟩ (by decide) rfl k_0 (c_X9_step k_0 hq) rfl rfl (Nat.le_of_ble_eq_true rfl) dL_law_924 ⟨by show cells + 0 ≤ 600000; omega, by show slots + 0 ≤ 7302250; omega⟩) hS (fun r1 S1 H locs hf hR hS => ?_)
  refine lv_aload_n B.1.1 B.1.2.1 dL_law_927 rfl (hl.at 2 rfl) ?_
  refine lv_aload_n B.1.1 B.1.2.1 dL_law_928 rfl (hl.at 0 rfl) ?_
  refine lv_iload_n B.1.1 B.1.2.1 dL_law_929 rfl (hl.at 3 rfl) ?_
  refine lv_iconst (v := 1) B.1.1 B.1.2.1 dL_law_930 (by decide) ?_
  refine lv_iadd B.1.1 B.1.2.1 dL_law_931 ?_
  refine y_sld (j := 6 * i + 1) B hX hbl hbA hS (nI_add (6 * i) 1) (by omega) (by omega) dL_law_932 ?_
  refine lv_aload_n B.1.1 B.1.2.1 dL_law_933 rfl (hl.at 0 rfl) ?_
  refine lv_iload_n B.1.1 B.1.2.1 dL_law_934 rfl (hl.at 3 rfl) ?_
  refine lv_iconst (v := 2) B.1.1 B.1.2.1 dL_law_935 (by decide) ?_
  refine lv_iadd B.1.1 B.1.2.1 dL_law_936 ?_
  refine y_sld (j := 6 * i + 2) B hX hbl hbA hS (nI_add (6 * i) 2) (by omega) (by omega) dL_law_937 ?_
  refine y_ci hf (fun q hq => x_runV (ci := 10) (C := RX10) B.1 B.2.2.2 hl hR hS cm_L_113 ⟨rfl, rfl, Nat.le_of_ble_eq_true rfl, Nat.le_of_ble_eq_true rfl⟩ (by decide) rfl k_199 (c_X10_step k_199 hq) rfl rfl (Nat.le_of_ble_eq_true rfl) dL_law_938 ⟨by show cells + 0 ≤ 600000; omega, by show slots + 0 ≤ 7302250; omega⟩) hS (fun r2 S3 H locs hf hR hS => ?_)
  simp only [Option.some.injEq, Prod.mk.injEq, decide_eq_true_eq] at hf
  obtain ⟨e1, rfl, rfl⟩ := hf
  refine lv_icmp_eq (tgt := 1426) B.1.1 B.1.2.1 dL_law_941 (by decide) (fun _ => ?_) (fun h => absurd e1 h)
  exact next _ _ _ _ _ _ _ hI2 hR hS (by omega) (by omega) hl
set_option maxRecDepth 100000 in
set_option maxHeartbeats 4000000 in
theorem law_24 {p : Program} {l : Launch} {e : Env} {s : State} {m : MethodId} {below : List Frame} {meth : Method} {c : Code} {z : Nat} {D : va_G} {dA : Nat → ClassId} {b L : Nat} {xs : Nat → Int32} (hL : L ≤ 3072) (B : xB p s m #[Value.ref b] meth c code RL 4 ret D dA) (hX : va_X b L xs s s.heap) (hbl : b < s.heap.size) (hbA : ¬ xA z b) {INV : Nat → xT → xS → Prop} (hstep : xStep INV) {i : Nat} (hi : i < 512) (hin : 6 * i + 5 < L) {T : xT} {S : xS} {H : Heap} {locs : List Loc} {cells slots : Nat} {ls : Array Slot} (hI : INV i T S) (hR : xRel z D dA T S H) (hS : va_S (xA z) s.heap H locs) (hc : cells ≤ 400 + 12 * i) (hs : slots ≤ 20000 + 200 * i) (hl : xL ls 4 [some (.ref b), some (.ref (z + 0)), some (.ref (z + 199)), some (.int (nI (6 * i)))]) (next : ∀ (T : xT) (S : xS) (H : Heap) (locs : List Loc) (cells slots : Nat) (ls : Array Slot), INV (i + 1) T S → xRel z D dA T S H → va_S (xA z) s.heap H locs → cells ≤ 400 + 12 * (i + 1) → slots ≤ 20000 + 200 * (i + 1) → xL ls 4 [some (.ref b), some (.ref (z + 0)), some (.ref (z + 199)), some (.int (nI (6 * i)))] → W p l e room_1 s m #[Value.ref b] below meth c H locs cells slots (lw_Z below #[Value.ref b] s) (F0 m 1426 ls [])) : W p l e room_1 s m #[Value.ref b] below meth c H locs cells slots (lw_Z below #[Value.ref b] s) (F0 m 946 ls []) := by
  obtain ⟨T2, S2, hf, hI2⟩ := hstep.2 i T S hi hI 24 (fun k => xs (6 * i + k))
  obtain ⟨k_0, k_199⟩ := hstep.1 i T S hI
  unfold xO at hf
  refine lv_aload_n B.1.1 B.1.2.1 dL_law_946 rfl (hl.at 1 rfl) ?_
  refine y_ciT hf (fun q hq => x_runV (ci := 9) (C := RX9) B.1 B.2.2.2 hl hR hS cm_L_114 ⟨rfl, rfl, Nat.le_of_ble_eq_true rfl, Nat.le_of_ble_eq_true rfl⟩ (by decide) rfl k_0 (c_X9_specials k_0 hq) rfl rfl (Nat.le_of_ble_eq_true rfl) dL_law_947 ⟨by show cells + 10 ≤ 600000; omega, by show slots + 179 ≤ 7302250; omega⟩) hS (fun r1 T1 S1 H locs hf hR hS => ?_)
  obtain ⟨k_0, hf⟩ := x_ok hf
  obtain ⟨k_199, hf⟩ := x_ok hf
  refine lv_aload_n B.1.1 B.1.2.1 dL_law_950 rfl (hl.at 2 rfl) ?_
  refine y_ci hf (fun q hq => x_runV (ci := 10) (C := RX10) B.1 B.2.2.2 hl hR hS cm_L_117 ⟨rfl, rfl, Nat.le_of_ble_eq_true rfl, Nat.le_of_ble_eq_true rfl⟩ (by decide) rfl k_199 (c_X10_specials k_199 hq) rfl rfl (Nat.le_of_ble_eq_true rfl) dL_law_951 ⟨by show cells + 10 + 0 ≤ 600000; omega, by show slots + 179 + 0 ≤ 7302250; omega⟩) hS (fun r2 S3 H locs hf hR hS => ?_)
  simp only [Option.some.injEq, Prod.mk.injEq, decide_eq_true_eq] at hf
  obtain ⟨e1, rfl, rfl⟩ := hf
  refine lv_icmp_eq (tgt := 1426) B.1.1 B.1.2.1 dL_law_954 (by decide) (fun _ => ?_) (fun h => absurd e1 h)
  exact next _ _ _ _ _ _ _ hI2 hR hS (by show cells + 10 ≤ 400 + 12 * (i + 1); omega) (by show slots + 179 ≤ 20000 + 200 * (i + 1); omega) hl
set_option maxRecDepth 100000 in
set_option maxHeartbeats 4000000 in
theorem law_25 {p : Program} {l : Launch} {e : Env} {s : State} {m : MethodId} {below : List Frame} {meth : Method} {c : Code} {z : Nat} {D : va_G} {dA : Nat → ClassId} {b L : Nat} {xs : Nat → Int32} (hL : L ≤ 3072) (B : xB p s m #[Value.ref b] meth c code RL 4 ret D dA) (hX : va_X b L xs s s.heap) (hbl : b < s.heap.size) (hbA : ¬ xA z b) {INV : Nat → xT → xS → Prop} (hstep : xStep INV) {i : Nat} (hi : i < 512) (hin : 6 * i + 5 < L) {T : xT} {S : xS} {H : Heap} {locs : List Loc} {cells slots : Nat} {ls : Array Slot} (hI : INV i T S) (hR : xRel z D dA T S H) (hS : va_S (xA z) s.heap H locs) (hc : cells ≤ 400 + 12 * i) (hs : slots ≤ 20000 + 200 * i) (hl : xL ls 4 [some (.ref b), some (.ref (z + 0)), some (.ref (z + 199)), some (.int (nI (6 * i)))]) (next : ∀ (T : xT) (S : xS) (H : Heap) (locs : List Loc) (cells slots : Nat) (ls : Array Slot), INV (i + 1) T S → xRel z D dA T S H → va_S (xA z) s.heap H locs → cells ≤ 400 + 12 * (i + 1) → slots ≤ 20000 + 200 * (i + 1) → xL ls 4 [some (.ref b), some (.ref (z + 0)), some (.ref (z + 199)), some (.int (nI (6 * i)))] → W p l e room_1 s m #[Value.ref b] below meth c H locs cells slots (lw_Z below #[Value.ref b] s) (F0 m 1426 ls [])) : W p l e room_1 s m #[Value.ref b] below meth c H locs cells slots (lw_Z below #[Value.ref b] s) (F0 m 959 ls []) := by
  obtain ⟨T2, S2, hf, hI2⟩ := hstep.2 i T S hi hI 25 (fun k => xs (6 * i + k))
  obtain ⟨k_0, k_199⟩ := hstep.1 i T S hI
  unfold xO at hf
  refine lv_aload_n B.1.1 B.1.2.1 dL_law_959 rfl (hl.at 1 rfl) ?_
  refine lv_aload_n B.1.1 B.1.2.1 dL_law_960 rfl (hl.at 0 rfl) ?_
  refine lv_iload_n B.1.1 B.1.2.1 dL_law_961 rfl (hl.at 3 rfl) ?_
  refine lv_iconst (v := 1) B.1.1 B.1.2.1 dL_law_962 (by decide) ?_
  refine lv_iadd B.1.1 B.1.2.1 dL_law_963 ?_
  refine y_sld (j := 6 * i + 1) B hX hbl hbA hS (nI_add (6 * i) 1) (by omega) (by omega) dL_law_964 ?_
  refine lv_aload_n B.1.1 B.1.2.1 dL_law_965 rfl (hl.at 0 rfl) ?_
  refine lv_iload_n B.1.1 B.1.2.1 dL_law_966 rfl (hl.at 3 rfl) ?_
  refine lv_iconst (v := 2) B.1.1 B.1.2.1 dL_law_967 (by decide) ?_
  refine lv_iadd B.1.1 B.1.2.1 dL_law_968 ?_
  refine y_sld (j := 6 * i + 2) B hX hbl hbA hS (nI_add (6 * i) 2) (by omega) (by omega) dL_law_969 ?_
  refine y_ci hf (fun q hq => x_runV (ci := 9) (C := RX9) B.1 B.2.2.2 hl hR hS cm_L_118 ⟨rfl, rfl, Nat.le_of_ble_eq_true rfl, Nat.le_of_ble_eq_true rfl⟩ (by decide) rfl k_0 (c_X9_special k_0 hq) rfl rfl (Nat.le_of_ble_eq_true rfl) dL_law_970 ⟨by show cells + 0 ≤ 600000; omega, by show slots + 0 ≤ 7302250; omega⟩) hS (fun r1 S1 H locs hf hR hS => ?_)
  refine lv_aload_n B.1.1 B.1.2.1 dL_law_973 rfl (hl.at 2 rfl) ?_
  refine lv_aload_n B.1.1 B.1.2.1 dL_law_974 rfl (hl.at 0 rfl) ?_
  refine lv_iload_n B.1.1 B.1.2.1 dL_law_975 rfl (hl.at 3 rfl) ?_
  refine lv_iconst (v := 1) B.1.1 B.1.2.1 dL_law_976 (by decide) ?_
  refine lv_iadd B.1.1 B.1.2.1 dL_law_977 ?_
  refine y_sld (j := 6 * i + 1) B hX hbl hbA hS (nI_add (6 * i) 1) (by omega) (by omega) dL_law_978 ?_
  refine lv_aload_n B.1.1 B.1.2.1 dL_law_979 rfl (hl.at 0 rfl) ?_
  refine lv_iload_n B.1.1 B.1.2.1 dL_law_980 rfl (hl.at 3 rfl) ?_
  refine lv_iconst (v := 2) B.1.1 B.1.2.1 dL_law_981 (by decide) ?_
  refine lv_iadd B.1.1 B.1.2.1 dL_law_982 ?_
  refine y_sld (j := 6 * i + 2) B hX hbl hbA hS (nI_add (6 * i) 2) (by omega) (by omega) dL_law_983 ?_
  refine y_ci hf (fun q hq => x_runV (ci := 10) (C := RX10) B.1 B.2.2.2 hl hR hS cm_L_121 ⟨rfl, rfl, Nat.le_of_ble_eq_true rfl, Nat.le_of_ble_eq_true rfl⟩ (by decide) rfl k_199 (c_X10_special k_199 hq) rfl rfl (Nat.le_of_ble_eq_true rfl) dL_law_984 ⟨by show cells + 0 ≤ 600000; omega, by show slots + 0 ≤ 7302250; omega⟩) hS (fun r2 S3 H locs hf hR hS => ?_)
  simp only [Option.some.injEq, Prod.mk.injEq, decide_eq_true_eq] at hf
  obtain ⟨e1, rfl, rfl⟩ := hf
  refine lv_icmp_eq (tgt := 1426) B.1.1 B.1.2.1 dL_law_987 (by decide) (fun _ => ?_) (fun h => absurd e1 h)
  exact next _ _ _ _ _ _ _ hI2 hR hS (by omega) (by omega) hl
set_option maxRecDepth 100000 in
set_option maxHeartbeats 4000000 in
theorem law_26 {p : Program} {l : Launch} {e : Env} {s : State} {m : MethodId} {below : List Frame} {meth : Method} {c : Code} {z : Nat} {D : va_G} {dA : Nat → ClassId} {b L : Nat} {xs : Nat → Int32} (hL : L ≤ 3072) (B : xB p s m #[Value.ref b] meth c code RL 4 ret D dA) (hX : va_X b L xs s s.heap) (hbl : b < s.heap.size) (hbA : ¬ xA z b) {INV : Nat → xT → xS → Prop} (hstep : xStep INV) {i : Nat} (hi : i < 512) (hin : 6 * i + 5 < L) {T : xT} {S : xS} {H : Heap} {locs : List Loc} {cells slots : Nat} {ls : Array Slot} (hI : INV i T S) (hR : xRel z D dA T S H) (hS : va_S (xA z) s.heap H locs) (hc : cells ≤ 400 + 12 * i) (hs : slots ≤ 20000 + 200 * i) (hl : xL ls 4 [some (.ref b), some (.ref (z + 0)), some (.ref (z + 199)), some (.int (nI (6 * i)))]) (next : ∀ (T : xT) (S : xS) (H : Heap) (locs : List Loc) (cells slots : Nat) (ls : Array Slot), INV (i + 1) T S → xRel z D dA T S H → va_S (xA z) s.heap H locs → cells ≤ 400 + 12 * (i + 1) → slots ≤ 20000 + 200 * (i + 1) → xL ls 4 [some (.ref b), some (.ref (z + 0)), some (.ref (z + 199)), some (.int (nI (6 * i)))] → W p l e room_1 s m #[Value.ref b] below meth c H locs cells slots (lw_Z below #[Value.ref b] s) (F0 m 1426 ls [])) : W p l e room_1 s m #[Value.ref b] below meth c H locs cells slots (lw_Z below #[Value.ref b] s) (F0 m 992 ls []) := by
  obtain ⟨T2, S2, hf, hI2⟩ := hstep.2 i T S hi hI 26 (fun k => xs (6 * i + k))
  obtain ⟨k_0, k_199⟩ := hstep.1 i T S hI
  unfold xO at hf
  refine lv_aload_n B.1.1 B.1.2.1 dL_law_992 rfl (hl.at 1 rfl) ?_
  refine y_ci hf (fun q hq => x_runV (ci := 9) (C := RX9) B.1 B.2.2.2 hl hR hS cm_L_122 ⟨rfl, rfl, Nat.le_of_ble_eq_true rfl, Nat.le_of_ble_eq_true rfl⟩ (by decide) rfl k_0 (c_X9_acts k_0 hq) rfl rfl (Nat.le_of_ble_eq_true rfl) dL_law_993 ⟨by show cells + 0 ≤ 600000; omega, by show slots + 0 ≤ 7302250; omega⟩) hS (fun r1 S1 H locs hf hR hS => ?_)
  refine lv_aload_n B.1.1 B.1.2.1 dL_law_996 rfl (hl.at 2 rfl) ?_
  refine y_ci hf (fun q hq => x_runV (ci := 10) (C := RX10) B.1 B.2.2.2 hl hR hS cm_L_125 ⟨rfl, rfl, Nat.le_of_ble_eq_true rfl, Nat.le_of_ble_eq_true rfl⟩ (by decide) rfl k_199 (c_X10_acts k_199 hq) rfl rfl (Nat.le_of_ble_eq_true rfl) dL_law_997 ⟨by show cells + 0 ≤ 600000; omega, by show slots + 0 ≤ 7302250; omega⟩) hS (fun r2 S3 H locs hf hR hS => ?_)
  simp only [Option.some.injEq, Prod.mk.injEq, decide_eq_true_eq] at hf
  obtain ⟨e1, rfl, rfl⟩ := hf
  refine lv_icmp_eq (tgt := 1426) B.1.1 B.1.2.1 dL_law_1000 (by decide) (fun _ => ?_) (fun h => absurd e1 h)
  exact next _ _ _ _ _ _ _ hI2 hR hS (by omega) (by omega) hl
set_option maxRecDepth 100000 in
set_option maxHeartbeats 4000000 in
theorem law_27 {p : Program} {l : Launch} {e : Env} {s : State} {m : MethodId} {below : List Frame} {meth : Method} {c : Code} {z : Nat} {D : va_G} {dA : Nat → ClassId} {b L : Nat} {xs : Nat → Int32} (hL : L ≤ 3072) (B : xB p s m #[Value.ref b] meth c code RL 4 ret D dA) (hX : va_X b L xs s s.heap) (hbl : b < s.heap.size) (hbA : ¬ xA z b) {INV : Nat → xT → xS → Prop} (hstep : xStep INV) {i : Nat} (hi : i < 512) (hin : 6 * i + 5 < L) {T : xT} {S : xS} {H : Heap} {locs : List Loc} {cells slots : Nat} {ls : Array Slot} (hI : INV i T S) (hR : xRel z D dA T S H) (hS : va_S (xA z) s.heap H locs) (hc : cells ≤ 400 + 12 * i) (hs : slots ≤ 20000 + 200 * i) (hl : xL ls 4 [some (.ref b), some (.ref (z + 0)), some (.ref (z + 199)), some (.int (nI (6 * i)))]) (next : ∀ (T : xT) (S : xS) (H : Heap) (locs : List Loc) (cells slots : Nat) (ls : Array Slot), INV (i + 1) T S → xRel z D dA T S H → va_S (xA z) s.heap H locs → cells ≤ 400 + 12 * (i + 1) → slots ≤ 20000 + 200 * (i + 1) → xL ls 4 [some (.ref b), some (.ref (z + 0)), some (.ref (z + 199)), some (.int (nI (6 * i)))] → W p l e room_1 s m #[Value.ref b] below meth c H locs cells slots (lw_Z below #[Value.ref b] s) (F0 m 1426 ls [])) : W p l e room_1 s m #[Value.ref b] below meth c H locs cells slots (lw_Z below #[Value.ref b] s) (F0 m 1005 ls []) := by
  obtain ⟨T2, S2, hf, hI2⟩ := hstep.2 i T S hi hI 27 (fun k => xs (6 * i + k))
  obtain ⟨k_0, k_199⟩ := hstep.1 i T S hI
  unfold xO at hf
  refine lv_aload_n B.1.1 B.1.2.1 dL_law_1005 rfl (hl.at 1 rfl) ?_
  refine y_ci hf (fun q hq => x_runV (ci := 9) (C := RX9) B.1 B.2.2.2 hl hR hS cm_L_126 ⟨rfl, rfl, Nat.le_of_ble_eq_true rfl, Nat.le_of_ble_eq_true rfl⟩ (by decide) rfl k_0 (c_X9_ended k_0 hq) rfl rfl (Nat.le_of_ble_eq_true rfl) dL_law_1006 ⟨by show cells + 0 ≤ 600000; omega, by show slots + 0 ≤ 7302250; omega⟩) hS (fun r1 S1 H locs hf hR hS => ?_)
  refine lv_aload_n B.1.1 B.1.2.1 dL_law_1009 rfl (hl.at 2 rfl) ?_
  refine y_ci hf (fun q hq => x_runV (ci := 10) (C := RX10) B.1 B.2.2.2 hl hR hS cm_L_129 ⟨rfl, rfl, Nat.le_of_ble_eq_true rfl, Nat.le_of_ble_eq_true rfl⟩ (by decide) rfl k_199 (c_X10_ended k_199 hq) rfl rfl (Nat.le_of_ble_eq_true rfl) dL_law_1010 ⟨by show cells + 0 ≤ 600000; omega, by show slots + 0 ≤ 7302250; omega⟩) hS (fun r2 S3 H locs hf hR hS => ?_)
  simp only [Option.some.injEq, Prod.mk.injEq, decide_eq_true_eq] at hf
  obtain ⟨e1, rfl, rfl⟩ := hf
  refine lv_icmp_eq (tgt := 1426) B.1.1 B.1.2.1 dL_law_1013 (by decide) (fun _ => ?_) (fun h => absurd e1 h)
  exact next _ _ _ _ _ _ _ hI2 hR hS (by omega) (by omega) hl
set_option maxRecDepth 100000 in
set_option maxHeartbeats 4000000 in
theorem law_28 {p : Program} {l : Launch} {e : Env} {s : State} {m : MethodId} {below : List Frame} {meth : Method} {c : Code} {z : Nat} {D : va_G} {dA : Nat → ClassId} {b L : Nat} {xs : Nat → Int32} (hL : L ≤ 3072) (B : xB p s m #[Value.ref b] meth c code RL 4 ret D dA) (hX : va_X b L xs s s.heap) (hbl : b < s.heap.size) (hbA : ¬ xA z b) {INV : Nat → xT → xS → Prop} (hstep : xStep INV) {i : Nat} (hi : i < 512) (hin : 6 * i + 5 < L) {T : xT} {S : xS} {H : Heap} {locs : List Loc} {cells slots : Nat} {ls : Array Slot} (hI : INV i T S) (hR : xRel z D dA T S H) (hS : va_S (xA z) s.heap H locs) (hc : cells ≤ 400 + 12 * i) (hs : slots ≤ 20000 + 200 * i) (hl : xL ls 4 [some (.ref b), some (.ref (z + 0)), some (.ref (z + 199)), some (.int (nI (6 * i)))]) (next : ∀ (T : xT) (S : xS) (H : Heap) (locs : List Loc) (cells slots : Nat) (ls : Array Slot), INV (i + 1) T S → xRel z D dA T S H → va_S (xA z) s.heap H locs → cells ≤ 400 + 12 * (i + 1) → slots ≤ 20000 + 200 * (i + 1) → xL ls 4 [some (.ref b), some (.ref (z + 0)), some (.ref (z + 199)), some (.int (nI (6 * i)))] → W p l e room_1 s m #[Value.ref b] below meth c H locs cells slots (lw_Z below #[Value.ref b] s) (F0 m 1426 ls [])) : W p l e room_1 s m #[Value.ref b] below meth c H locs cells slots (lw_Z below #[Value.ref b] s) (F0 m 1018 ls []) := by
  obtain ⟨T2, S2, hf, hI2⟩ := hstep.2 i T S hi hI 28 (fun k => xs (6 * i + k))
  obtain ⟨k_0, k_199⟩ := hstep.1 i T S hI
  unfold xO at hf
  refine lv_aload_n B.1.1 B.1.2.1 dL_law_1018 rfl (hl.at 1 rfl) ?_
  refine lv_aload_n B.1.1 B.1.2.1 dL_law_1019 rfl (hl.at 0 rfl) ?_
  refine lv_iload_n B.1.1 B.1.2.1 dL_law_1020 rfl (hl.at 3 rfl) ?_
  refine lv_iconst (v := 1) B.1.1 B.1.2.1 dL_law_1021 (by decide) ?_
  refine lv_iadd B.1.1 B.1.2.1 dL_law_1022 ?_
  refine y_sld (j := 6 * i + 1) B hX hbl hbA hS (nI_add (6 * i) 1) (by omega) (by omega) dL_law_1023 ?_
  refine y_ci hf (fun q hq => x_runV (ci := 9) (C := RX9) B.1 B.2.2.2 hl hR hS cm_L_130 ⟨rfl, rfl, Nat.le_of_ble_eq_true rfl, Nat.le_of_ble_eq_true rfl⟩ (by decide) rfl k_0 (c_X9_row k_0 hq) rfl rfl (Nat.le_of_ble_eq_true rfl) dL_law_1024 ⟨by show cells + 0 ≤ 600000; omega, by show slots + 0 ≤ 7302250; omega⟩) hS (fun r1 S1 H locs hf hR hS => ?_)
  refine lv_aload_n B.1.1 B.1.2.1 dL_law_1027 rfl (hl.at 2 rfl) ?_
  refine lv_aload_n B.1.1 B.1.2.1 dL_law_1028 rfl (hl.at 0 rfl) ?_
  refine lv_iload_n B.1.1 B.1.2.1 dL_law_1029 rfl (hl.at 3 rfl) ?_
  refine lv_iconst (v := 1) B.1.1 B.1.2.1 dL_law_1030 (by decide) ?_
  refine lv_iadd B.1.1 B.1.2.1 dL_law_1031 ?_
  refine y_sld (j := 6 * i + 1) B hX hbl hbA hS (nI_add (6 * i) 1) (by omega) (by omega) dL_law_1032 ?_
  refine y_ci hf (fun q hq => x_runV (ci := 10) (C := RX10) B.1 B.2.2.2 hl hR hS cm_L_133 ⟨rfl, rfl, Nat.le_of_ble_eq_true rfl, Nat.le_of_ble_eq_true rfl⟩ (by decide) rfl k_199 (c_X10_row k_199 hq) rfl rfl (Nat.le_of_ble_eq_true rfl) dL_law_1033 ⟨by show cells + 0 ≤ 600000; omega, by show slots + 0 ≤ 7302250; omega⟩) hS (fun r2 S3 H locs hf hR hS => ?_)
  simp only [Option.some.injEq, Prod.mk.injEq, decide_eq_true_eq] at hf
  obtain ⟨e1, rfl, rfl⟩ := hf
  refine lv_icmp_eq (tgt := 1426) B.1.1 B.1.2.1 dL_law_1036 (by decide) (fun _ => ?_) (fun h => absurd e1 h)
  exact next _ _ _ _ _ _ _ hI2 hR hS (by omega) (by omega) hl
set_option maxRecDepth 100000 in
set_option maxHeartbeats 4000000 in
theorem law_29 {p : Program} {l : Launch} {e : Env} {s : State} {m : MethodId} {below : List Frame} {meth : Method} {c : Code} {z : Nat} {D : va_G} {dA : Nat → ClassId} {b L : Nat} {xs : Nat → Int32} (hL : L ≤ 3072) (B : xB p s m #[Value.ref b] meth c code RL 4 ret D dA) (hX : va_X b L xs s s.heap) (hbl : b < s.heap.size) (hbA : ¬ xA z b) {INV : Nat → xT → xS → Prop} (hstep : xStep INV) {i : Nat} (hi : i < 512) (hin : 6 * i + 5 < L) {T : xT} {S : xS} {H : Heap} {locs : List Loc} {cells slots : Nat} {ls : Array Slot} (hI : INV i T S) (hR : xRel z D dA T S H) (hS : va_S (xA z) s.heap H locs) (hc : cells ≤ 400 + 12 * i) (hs : slots ≤ 20000 + 200 * i) (hl : xL ls 4 [some (.ref b), some (.ref (z + 0)), some (.ref (z + 199)), some (.int (nI (6 * i)))]) (next : ∀ (T : xT) (S : xS) (H : Heap) (locs : List Loc) (cells slots : Nat) (ls : Array Slot), INV (i + 1) T S → xRel z D dA T S H → va_S (xA z) s.heap H locs → cells ≤ 400 + 12 * (i + 1) → slots ≤ 20000 + 200 * (i + 1) → xL ls 4 [some (.ref b), some (.ref (z + 0)), some (.ref (z + 199)), some (.int (nI (6 * i)))] → W p l e room_1 s m #[Value.ref b] below meth c H locs cells slots (lw_Z below #[Value.ref b] s) (F0 m 1426 ls [])) : W p l e room_1 s m #[Value.ref b] below meth c H locs cells slots (lw_Z below #[Value.ref b] s) (F0 m 1041 ls []) := by
  obtain ⟨T2, S2, hf, hI2⟩ := hstep.2 i T S hi hI 29 (fun k => xs (6 * i + k))
  obtain ⟨k_0, k_199⟩ := hstep.1 i T S hI
  unfold xO at hf
  refine lv_aload_n B.1.1 B.1.2.1 dL_law_1041 rfl (hl.at 1 rfl) ?_
  refine lv_aload_n B.1.1 B.1.2.1 dL_law_1042 rfl (hl.at 0 rfl) ?_
  refine lv_iload_n B.1.1 B.1.2.1 dL_law_1043 rfl (hl.at 3 rfl) ?_
  refine lv_iconst (v := 1) B.1.1 B.1.2.1 dL_law_1044 (by decide) ?_
  refine lv_iadd B.1.1 B.1.2.1 dL_law_1045 ?_
  refine y_sld (j := 6 * i + 1) B hX hbl hbA hS (nI_add (6 * i) 1) (by omega) (by omega) dL_law_1046 ?_
  refine lv_aload_n B.1.1 B.1.2.1 dL_law_1047 rfl (hl.at 0 rfl) ?_
  refine lv_iload_n B.1.1 B.1.2.1 dL_law_1048 rfl (hl.at 3 rfl) ?_
  refine lv_iconst (v := 2) B.1.1 B.1.2.1 dL_law_1049 (by decide) ?_
  refine lv_iadd B.1.1 B.1.2.1 dL_law_1050 ?_
  refine y_sld (j := 6 * i + 2) B hX hbl hbA hS (nI_add (6 * i) 2) (by omega) (by omega) dL_law_1051 ?_
  refine lv_aload_n B.1.1 B.1.2.1 dL_law_1052 rfl (hl.at 0 rfl) ?_
  refine lv_iload_n B.1.1 B.1.2.1 dL_law_1053 rfl (hl.at 3 rfl) ?_
  refine lv_iconst (v := 3) B.1.1 B.1.2.1 dL_law_1054 (by decide) ?_
  refine lv_iadd B.1.1 B.1.2.1 dL_law_1055 ?_
  refine y_sld (j := 6 * i + 3) B hX hbl hbA hS (nI_add (6 * i) 3) (by omega) (by omega) dL_law_1056 ?_
  refine y_ci hf (fun q hq => x_runV (ci := 9) (C := RX9) B.1 B.2.2.2 hl hR hS cm_L_134 ⟨rfl, rfl, Nat.le_of_ble_eq_true rfl, Nat.le_of_ble_eq_true rfl⟩ (by decide) rfl k_0 (c_X9_hand k_0 hq) rfl rfl (Nat.le_of_ble_eq_true rfl) dL_law_1057 ⟨by show cells + 0 ≤ 600000; omega, by show slots + 0 ≤ 7302250; omega⟩) hS (fun r1 S1 H locs hf hR hS => ?_)
  refine lv_aload_n B.1.1 B.1.2.1 dL_law_1060 rfl (hl.at 2 rfl) ?_
  refine lv_aload_n B.1.1 B.1.2.1 dL_law_1061 rfl (hl.at 0 rfl) ?_
  refine lv_iload_n B.1.1 B.1.2.1 dL_law_1062 rfl (hl.at 3 rfl) ?_
  refine lv_iconst (v := 1) B.1.1 B.1.2.1 dL_law_1063 (by decide) ?_
  refine lv_iadd B.1.1 B.1.2.1 dL_law_1064 ?_
  refine y_sld (j := 6 * i + 1) B hX hbl hbA hS (nI_add (6 * i) 1) (by omega) (by omega) dL_law_1065 ?_
  refine lv_aload_n B.1.1 B.1.2.1 dL_law_1066 rfl (hl.at 0 rfl) ?_
  refine lv_iload_n B.1.1 B.1.2.1 dL_law_1067 rfl (hl.at 3 rfl) ?_
  refine lv_iconst (v := 2) B.1.1 B.1.2.1 dL_law_1068 (by decide) ?_
  refine lv_iadd B.1.1 B.1.2.1 dL_law_1069 ?_
  refine y_sld (j := 6 * i + 2) B hX hbl hbA hS (nI_add (6 * i) 2) (by omega) (by omega) dL_law_1070 ?_
  refine lv_aload_n B.1.1 B.1.2.1 dL_law_1071 rfl (hl.at 0 rfl) ?_
  refine lv_iload_n B.1.1 B.1.2.1 dL_law_1072 rfl (hl.at 3 rfl) ?_
  refine lv_iconst (v := 3) B.1.1 B.1.2.1 dL_law_1073 (by decide) ?_
  refine lv_iadd B.1.1 B.1.2.1 dL_law_1074 ?_
  refine y_sld (j := 6 * i + 3) B hX hbl hbA hS (nI_add (6 * i) 3) (by omega) (by omega) dL_law_1075 ?_
  refine y_ci hf (fun q hq => x_runV (ci := 10) (C := RX10) B.1 B.2.2.2 hl hR hS cm_L_137 ⟨rfl, rfl, Nat.le_of_ble_eq_true rfl, Nat.le_of_ble_eq_true rfl⟩ (by decide) rfl k_199 (c_X10_hand k_199 hq) rfl rfl (Nat.le_of_ble_eq_true rfl) dL_law_1076 ⟨by show cells + 0 ≤ 600000; omega, by show slots + 0 ≤ 7302250; omega⟩) hS (fun r2 S3 H locs hf hR hS => ?_)
  simp only [Option.some.injEq, Prod.mk.injEq, decide_eq_true_eq] at hf
  obtain ⟨e1, rfl, rfl⟩ := hf
  refine lv_icmp_eq (tgt := 1426) B.1.1 B.1.2.1 dL_law_1079 (by decide) (fun _ => ?_) (fun h => absurd e1 h)
  exact next _ _ _ _ _ _ _ hI2 hR hS (by omega) (by omega) hl
set_option maxRecDepth 100000 in
set_option maxHeartbeats 4000000 in
theorem law_30 {p : Program} {l : Launch} {e : Env} {s : State} {m : MethodId} {below : List Frame} {meth : Method} {c : Code} {z : Nat} {D : va_G} {dA : Nat → ClassId} {b L : Nat} {xs : Nat → Int32} (hL : L ≤ 3072) (B : xB p s m #[Value.ref b] meth c code RL 4 ret D dA) (hX : va_X b L xs s s.heap) (hbl : b < s.heap.size) (hbA : ¬ xA z b) {INV : Nat → xT → xS → Prop} (hstep : xStep INV) {i : Nat} (hi : i < 512) (hin : 6 * i + 5 < L) {T : xT} {S : xS} {H : Heap} {locs : List Loc} {cells slots : Nat} {ls : Array Slot} (hI : INV i T S) (hR : xRel z D dA T S H) (hS : va_S (xA z) s.heap H locs) (hc : cells ≤ 400 + 12 * i) (hs : slots ≤ 20000 + 200 * i) (hl : xL ls 4 [some (.ref b), some (.ref (z + 0)), some (.ref (z + 199)), some (.int (nI (6 * i)))]) (next : ∀ (T : xT) (S : xS) (H : Heap) (locs : List Loc) (cells slots : Nat) (ls : Array Slot), INV (i + 1) T S → xRel z D dA T S H → va_S (xA z) s.heap H locs → cells ≤ 400 + 12 * (i + 1) → slots ≤ 20000 + 200 * (i + 1) → xL ls 4 [some (.ref b), some (.ref (z + 0)), some (.ref (z + 199)), some (.int (nI (6 * i)))] → W p l e room_1 s m #[Value.ref b] below meth c H locs cells slots (lw_Z below #[Value.ref b] s) (F0 m 1426 ls [])) : W p l e room_1 s m #[Value.ref b] below meth c H locs cells slots (lw_Z below #[Value.ref b] s) (F0 m 1084 ls []) := by
  obtain ⟨T2, S2, hf, hI2⟩ := hstep.2 i T S hi hI 30 (fun k => xs (6 * i + k))
  obtain ⟨k_0, k_199⟩ := hstep.1 i T S hI
  unfold xO at hf
  refine lv_aload_n B.1.1 B.1.2.1 dL_law_1084 rfl (hl.at 1 rfl) ?_
  refine lv_aload_n B.1.1 B.1.2.1 dL_law_1085 rfl (hl.at 0 rfl) ?_
  refine lv_iload_n B.1.1 B.1.2.1 dL_law_1086 rfl (hl.at 3 rfl) ?_
  refine lv_iconst (v := 1) B.1.1 B.1.2.1 dL_law_1087 (by decide) ?_
  refine lv_iadd B.1.1 B.1.2.1 dL_law_1088 ?_
  refine y_sld (j := 6 * i + 1) B hX hbl hbA hS (nI_add (6 * i) 1) (by omega) (by omega) dL_law_1089 ?_
  refine y_ci hf (fun q hq => x_runV (ci := 9) (C := RX9) B.1 B.2.2.2 hl hR hS cm_L_138 ⟨rfl, rfl, Nat.le_of_ble_eq_true rfl, Nat.le_of_ble_eq_true rfl⟩ (by decide) rfl k_0 (c_X9_breaks k_0 hq) rfl rfl (Nat.le_of_ble_eq_true rfl) dL_law_1090 ⟨by show cells + 0 ≤ 600000; omega, by show slots + 0 ≤ 7302250; omega⟩) hS (fun r1 S1 H locs hf hR hS => ?_)
  refine lv_aload_n B.1.1 B.1.2.1 dL_law_1093 rfl (hl.at 2 rfl) ?_
  refine lv_aload_n B.1.1 B.1.2.1 dL_law_1094 rfl (hl.at 0 rfl) ?_
  refine lv_iload_n B.1.1 B.1.2.1 dL_law_1095 rfl (hl.at 3 rfl) ?_
  refine lv_iconst (v := 1) B.1.1 B.1.2.1 dL_law_1096 (by decide) ?_
  refine lv_iadd B.1.1 B.1.2.1 dL_law_1097 ?_
  refine y_sld (j := 6 * i + 1) B hX hbl hbA hS (nI_add (6 * i) 1) (by omega) (by omega) dL_law_1098 ?_
  refine y_ci hf (fun q hq => x_runV (ci := 10) (C := RX10) B.1 B.2.2.2 hl hR hS cm_L_141 ⟨rfl, rfl, Nat.le_of_ble_eq_true rfl, Nat.le_of_ble_eq_true rfl⟩ (by decide) rfl k_199 (c_X10_breaks k_199 hq) rfl rfl (Nat.le_of_ble_eq_true rfl) dL_law_1099 ⟨by show cells + 0 ≤ 600000; omega, by show slots + 0 ≤ 7302250; omega⟩) hS (fun r2 S3 H locs hf hR hS => ?_)
  simp only [Option.some.injEq, Prod.mk.injEq, decide_eq_true_eq] at hf
  obtain ⟨e1, rfl, rfl⟩ := hf
  refine lv_icmp_eq (tgt := 1426) B.1.1 B.1.2.1 dL_law_1102 (by decide) (fun _ => ?_) (fun h => absurd e1 h)
  exact next _ _ _ _ _ _ _ hI2 hR hS (by omega) (by omega) hl
set_option maxRecDepth 100000 in
set_option maxHeartbeats 4000000 in
theorem law_31 {p : Program} {l : Launch} {e : Env} {s : State} {m : MethodId} {below : List Frame} {meth : Method} {c : Code} {z : Nat} {D : va_G} {dA : Nat → ClassId} {b L : Nat} {xs : Nat → Int32} (hL : L ≤ 3072) (B : xB p s m #[Value.ref b] meth c code RL 4 ret D dA) (hX : va_X b L xs s s.heap) (hbl : b < s.heap.size) (hbA : ¬ xA z b) {INV : Nat → xT → xS → Prop} (hstep : xStep INV) {i : Nat} (hi : i < 512) (hin : 6 * i + 5 < L) {T : xT} {S : xS} {H : Heap} {locs : List Loc} {cells slots : Nat} {ls : Array Slot} (hI : INV i T S) (hR : xRel z D dA T S H) (hS : va_S (xA z) s.heap H locs) (hc : cells ≤ 400 + 12 * i) (hs : slots ≤ 20000 + 200 * i) (hl : xL ls 4 [some (.ref b), some (.ref (z + 0)), some (.ref (z + 199)), some (.int (nI (6 * i)))]) (next : ∀ (T : xT) (S : xS) (H : Heap) (locs : List Loc) (cells slots : Nat) (ls : Array Slot), INV (i + 1) T S → xRel z D dA T S H → va_S (xA z) s.heap H locs → cells ≤ 400 + 12 * (i + 1) → slots ≤ 20000 + 200 * (i + 1) → xL ls 4 [some (.ref b), some (.ref (z + 0)), some (.ref (z + 199)), some (.int (nI (6 * i)))] → W p l e room_1 s m #[Value.ref b] below meth c H locs cells slots (lw_Z below #[Value.ref b] s) (F0 m 1426 ls [])) : W p l e room_1 s m #[Value.ref b] below meth c H locs cells slots (lw_Z below #[Value.ref b] s) (F0 m 1107 ls []) := by
  obtain ⟨T2, S2, hf, hI2⟩ := hstep.2 i T S hi hI 31 (fun k => xs (6 * i + k))
  obtain ⟨k_0, k_199⟩ := hstep.1 i T S hI
  unfold xO at hf
  refine lv_aload_n B.1.1 B.1.2.1 dL_law_1107 rfl (hl.at 1 rfl) ?_
  refine lv_aload_n B.1.1 B.1.2.1 dL_law_1108 rfl (hl.at 0 rfl) ?_
  refine lv_iload_n B.1.1 B.1.2.1 dL_law_1109 rfl (hl.at 3 rfl) ?_
  refine lv_iconst (v := 1) B.1.1 B.1.2.1 dL_law_1110 (by decide) ?_
  refine lv_iadd B.1.1 B.1.2.1 dL_law_1111 ?_
  refine y_sld (j := 6 * i + 1) B hX hbl hbA hS (nI_add (6 * i) 1) (by omega) (by omega) dL_law_1112 ?_
  refine y_ci hf (fun q hq => x_runV (ci := 9) (C := RX9) B.1 B.2.2.2 hl hR hS cm_L_142 ⟨rfl, rfl, Nat.le_of_ble_eq_true rfl, Nat.le_of_ble_eq_true rfl⟩ (by decide) rfl k_0 (c_X9_gain k_0 hq) rfl rfl (Nat.le_of_ble_eq_true rfl) dL_law_1113 ⟨by show cells + 0 ≤ 600000; omega, by show slots + 0 ≤ 7302250; omega⟩) hS (fun r1 S1 H locs hf hR hS => ?_)
  refine lv_aload_n B.1.1 B.1.2.1 dL_law_1116 rfl (hl.at 2 rfl) ?_
  refine lv_aload_n B.1.1 B.1.2.1 dL_law_1117 rfl (hl.at 0 rfl) ?_
  refine lv_iload_n B.1.1 B.1.2.1 dL_law_1118 rfl (hl.at 3 rfl) ?_
  refine lv_iconst (v := 1) B.1.1 B.1.2.1 dL_law_1119 (by decide) ?_
  refine lv_iadd B.1.1 B.1.2.1 dL_law_1120 ?_
  refine y_sld (j := 6 * i + 1) B hX hbl hbA hS (nI_add (6 * i) 1) (by omega) (by omega) dL_law_1121 ?_
  refine y_ci hf (fun q hq => x_runV (ci := 10) (C := RX10) B.1 B.2.2.2 hl hR hS cm_L_145 ⟨rfl, rfl, Nat.le_of_ble_eq_true rfl, Nat.le_of_ble_eq_true rfl⟩ (by decide) rfl k_199 (c_X10_gain k_199 hq) rfl rfl (Nat.le_of_ble_eq_true rfl) dL_law_1122 ⟨by show cells + 0 ≤ 600000; omega, by show slots + 0 ≤ 7302250; omega⟩) hS (fun r2 S3 H locs hf hR hS => ?_)
  simp only [Option.some.injEq, Prod.mk.injEq, decide_eq_true_eq] at hf
  obtain ⟨e1, rfl, rfl⟩ := hf
  refine lv_icmp_eq (tgt := 1426) B.1.1 B.1.2.1 dL_law_1125 (by decide) (fun _ => ?_) (fun h => absurd e1 h)
  exact next _ _ _ _ _ _ _ hI2 hR hS (by omega) (by omega) hl
set_option maxRecDepth 100000 in
set_option maxHeartbeats 4000000 in
theorem law_32 {p : Program} {l : Launch} {e : Env} {s : State} {m : MethodId} {below : List Frame} {meth : Method} {c : Code} {z : Nat} {D : va_G} {dA : Nat → ClassId} {b L : Nat} {xs : Nat → Int32} (hL : L ≤ 3072) (B : xB p s m #[Value.ref b] meth c code RL 4 ret D dA) (hX : va_X b L xs s s.heap) (hbl : b < s.heap.size) (hbA : ¬ xA z b) {INV : Nat → xT → xS → Prop} (hstep : xStep INV) {i : Nat} (hi : i < 512) (hin : 6 * i + 5 < L) {T : xT} {S : xS} {H : Heap} {locs : List Loc} {cells slots : Nat} {ls : Array Slot} (hI : INV i T S) (hR : xRel z D dA T S H) (hS : va_S (xA z) s.heap H locs) (hc : cells ≤ 400 + 12 * i) (hs : slots ≤ 20000 + 200 * i) (hl : xL ls 4 [some (.ref b), some (.ref (z + 0)), some (.ref (z + 199)), some (.int (nI (6 * i)))]) (next : ∀ (T : xT) (S : xS) (H : Heap) (locs : List Loc) (cells slots : Nat) (ls : Array Slot), INV (i + 1) T S → xRel z D dA T S H → va_S (xA z) s.heap H locs → cells ≤ 400 + 12 * (i + 1) → slots ≤ 20000 + 200 * (i + 1) → xL ls 4 [some (.ref b), some (.ref (z + 0)), some (.ref (z + 199)), some (.int (nI (6 * i)))] → W p l e room_1 s m #[Value.ref b] below meth c H locs cells slots (lw_Z below #[Value.ref b] s) (F0 m 1426 ls [])) : W p l e room_1 s m #[Value.ref b] below meth c H locs cells slots (lw_Z below #[Value.ref b] s) (F0 m 1130 ls []) := by
  obtain ⟨T2, S2, hf, hI2⟩ := hstep.2 i T S hi hI 32 (fun k => xs (6 * i + k))
  obtain ⟨k_0, k_199⟩ := hstep.1 i T S hI
  unfold xO at hf
  refine lv_aload_n B.1.1 B.1.2.1 dL_law_1130 rfl (hl.at 1 rfl) ?_
  refine y_ci hf (fun q hq => x_runV (ci := 9) (C := RX9) B.1 B.2.2.2 hl hR hS cm_L_146 ⟨rfl, rfl, Nat.le_of_ble_eq_true rfl, Nat.le_of_ble_eq_true rfl⟩ (by decide) rfl k_0 (c_X9_below k_0 hq) rfl rfl (Nat.le_of_ble_eq_true rfl) dL_law_1131 ⟨by show cells + 0 ≤ 600000; omega, by show slots + 0 ≤ 7302250; omega⟩) hS (fun r1 S1 H locs hf hR hS => ?_)
  refine lv_aload_n B.1.1 B.1.2.1 dL_law_1134 rfl (hl.at 2 rfl) ?_
  refine y_ci hf (fun q hq => x_runV (ci := 10) (C := RX10) B.1 B.2.2.2 hl hR hS cm_L_149 ⟨rfl, rfl, Nat.le_of_ble_eq_true rfl, Nat.le_of_ble_eq_true rfl⟩ (by decide) rfl k_199 (c_X10_below k_199 hq) rfl rfl (Nat.le_of_ble_eq_true rfl) dL_law_1135 ⟨by show cells + 0 ≤ 600000; omega, by show slots + 0 ≤ 7302250; omega⟩) hS (fun r2 S3 H locs hf hR hS => ?_)
  simp only [Option.some.injEq, Prod.mk.injEq, decide_eq_true_eq] at hf
  obtain ⟨e1, rfl, rfl⟩ := hf
  refine lv_icmp_eq (tgt := 1426) B.1.1 B.1.2.1 dL_law_1138 (by decide) (fun _ => ?_) (fun h => absurd e1 h)
  exact next _ _ _ _ _ _ _ hI2 hR hS (by omega) (by omega) hl
set_option maxRecDepth 100000 in
set_option maxHeartbeats 4000000 in
theorem law_33 {p : Program} {l : Launch} {e : Env} {s : State} {m : MethodId} {below : List Frame} {meth : Method} {c : Code} {z : Nat} {D : va_G} {dA : Nat → ClassId} {b L : Nat} {xs : Nat → Int32} (hL : L ≤ 3072) (B : xB p s m #[Value.ref b] meth c code RL 4 ret D dA) (hX : va_X b L xs s s.heap) (hbl : b < s.heap.size) (hbA : ¬ xA z b) {INV : Nat → xT → xS → Prop} (hstep : xStep INV) {i : Nat} (hi : i < 512) (hin : 6 * i + 5 < L) {T : xT} {S : xS} {H : Heap} {locs : List Loc} {cells slots : Nat} {ls : Array Slot} (hI : INV i T S) (hR : xRel z D dA T S H) (hS : va_S (xA z) s.heap H locs) (hc : cells ≤ 400 + 12 * i) (hs : slots ≤ 20000 + 200 * i) (hl : xL ls 4 [some (.ref b), some (.ref (z + 0)), some (.ref (z + 199)), some (.int (nI (6 * i)))]) (next : ∀ (T : xT) (S : xS) (H : Heap) (locs : List Loc) (cells slots : Nat) (ls : Array Slot), INV (i + 1) T S → xRel z D dA T S H → va_S (xA z) s.heap H locs → cells ≤ 400 + 12 * (i + 1) → slots ≤ 20000 + 200 * (i + 1) → xL ls 4 [some (.ref b), some (.ref (z + 0)), some (.ref (z + 199)), some (.int (nI (6 * i)))] → W p l e room_1 s m #[Value.ref b] below meth c H locs cells slots (lw_Z below #[Value.ref b] s) (F0 m 1426 ls [])) : W p l e room_1 s m #[Value.ref b] below meth c H locs cells slots (lw_Z below #[Value.ref b] s) (F0 m 1143 ls []) := by
  obtain ⟨T2, S2, hf, hI2⟩ := hstep.2 i T S hi hI 33 (fun k => xs (6 * i + k))
  obtain ⟨k_0, k_199⟩ := hstep.1 i T S hI
  unfold xO at hf
  refine lv_aload_n B.1.1 B.1.2.1 dL_law_1143 rfl (hl.at 1 rfl) ?_
  refine lv_aload_n B.1.1 B.1.2.1 dL_law_1144 rfl (hl.at 0 rfl) ?_
  refine lv_iload_n B.1.1 B.1.2.1 dL_law_1145 rfl (hl.at 3 rfl) ?_
  refine lv_iconst (v := 1) B.1.1 B.1.2.1 dL_law_1146 (by decide) ?_
  refine lv_iadd B.1.1 B.1.2.1 dL_law_1147 ?_
  refine y_sld (j := 6 * i + 1) B hX hbl hbA hS (nI_add (6 * i) 1) (by omega) (by omega) dL_law_1148 ?_
  refine lv_aload_n B.1.1 B.1.2.1 dL_law_1149 rfl (hl.at 0 rfl) ?_
  refine lv_iload_n B.1.1 B.1.2.1 dL_law_1150 rfl (hl.at 3 rfl) ?_
  refine lv_iconst (v := 2) B.1.1 B.1.2.1 dL_law_1151 (by decide) ?_
  refine lv_iadd B.1.1 B.1.2.1 dL_law_1152 ?_
  refine y_sld (j := 6 * i + 2) B hX hbl hbA hS (nI_add (6 * i) 2) (by omega) (by omega) dL_law_1153 ?_
  refine y_ci hf (fun q hq => x_runV (ci := 9) (C := RX9) B.1 B.2.2.2 hl hR hS cm_L_150 ⟨rfl, rfl, Nat.le_of_ble_eq_true rfl, Nat.le_of_ble_eq_true rfl⟩ (by decide) rfl k_0 (c_X9_tried k_0 hq) rfl rfl (Nat.le_of_ble_eq_true rfl) dL_law_1154 ⟨by show cells + 0 ≤ 600000; omega, by show slots + 0 ≤ 7302250; omega⟩) hS (fun r1 S1 H locs hf hR hS => ?_)
  refine lv_aload_n B.1.1 B.1.2.1 dL_law_1157 rfl (hl.at 2 rfl) ?_
  refine lv_aload_n B.1.1 B.1.2.1 dL_law_1158 rfl (hl.at 0 rfl) ?_
  refine lv_iload_n B.1.1 B.1.2.1 dL_law_1159 rfl (hl.at 3 rfl) ?_
  refine lv_iconst (v := 1) B.1.1 B.1.2.1 dL_law_1160 (by decide) ?_
  refine lv_iadd B.1.1 B.1.2.1 dL_law_1161 ?_
  refine y_sld (j := 6 * i + 1) B hX hbl hbA hS (nI_add (6 * i) 1) (by omega) (by omega) dL_law_1162 ?_
  refine lv_aload_n B.1.1 B.1.2.1 dL_law_1163 rfl (hl.at 0 rfl) ?_
  refine lv_iload_n B.1.1 B.1.2.1 dL_law_1164 rfl (hl.at 3 rfl) ?_
  refine lv_iconst (v := 2) B.1.1 B.1.2.1 dL_law_1165 (by decide) ?_
  refine lv_iadd B.1.1 B.1.2.1 dL_law_1166 ?_
  refine y_sld (j := 6 * i + 2) B hX hbl hbA hS (nI_add (6 * i) 2) (by omega) (by omega) dL_law_1167 ?_
  refine y_ci hf (fun q hq => x_runV (ci := 10) (C := RX10) B.1 B.2.2.2 hl hR hS cm_L_153 ⟨rfl, rfl, Nat.le_of_ble_eq_true rfl, Nat.le_of_ble_eq_true rfl⟩ (by decide) rfl k_199 (c_X10_tried k_199 hq) rfl rfl (Nat.le_of_ble_eq_true rfl) dL_law_1168 ⟨by show cells + 0 ≤ 600000; omega, by show slots + 0 ≤ 7302250; omega⟩) hS (fun r2 S3 H locs hf hR hS => ?_)
  simp only [Option.some.injEq, Prod.mk.injEq, decide_eq_true_eq] at hf
  obtain ⟨e1, rfl, rfl⟩ := hf
  refine lv_icmp_eq (tgt := 1426) B.1.1 B.1.2.1 dL_law_1171 (by decide) (fun _ => ?_) (fun h => absurd e1 h)
  exact next _ _ _ _ _ _ _ hI2 hR hS (by omega) (by omega) hl
set_option maxRecDepth 100000 in
set_option maxHeartbeats 4000000 in
theorem law_34 {p : Program} {l : Launch} {e : Env} {s : State} {m : MethodId} {below : List Frame} {meth : Method} {c : Code} {z : Nat} {D : va_G} {dA : Nat → ClassId} {b L : Nat} {xs : Nat → Int32} (hL : L ≤ 3072) (B : xB p s m #[Value.ref b] meth c code RL 4 ret D dA) (hX : va_X b L xs s s.heap) (hbl : b < s.heap.size) (hbA : ¬ xA z b) {INV : Nat → xT → xS → Prop} (hstep : xStep INV) {i : Nat} (hi : i < 512) (hin : 6 * i + 5 < L) {T : xT} {S : xS} {H : Heap} {locs : List Loc} {cells slots : Nat} {ls : Array Slot} (hI : INV i T S) (hR : xRel z D dA T S H) (hS : va_S (xA z) s.heap H locs) (hc : cells ≤ 400 + 12 * i) (hs : slots ≤ 20000 + 200 * i) (hl : xL ls 4 [some (.ref b), some (.ref (z + 0)), some (.ref (z + 199)), some (.int (nI (6 * i)))]) (next : ∀ (T : xT) (S : xS) (H : Heap) (locs : List Loc) (cells slots : Nat) (ls : Array Slot), INV (i + 1) T S → xRel z D dA T S H → va_S (xA z) s.heap H locs → cells ≤ 400 + 12 * (i + 1) → slots ≤ 20000 + 200 * (i + 1) → xL ls 4 [some (.ref b), some (.ref (z + 0)), some (.ref (z + 199)), some (.int (nI (6 * i)))] → W p l e room_1 s m #[Value.ref b] below meth c H locs cells slots (lw_Z below #[Value.ref b] s) (F0 m 1426 ls [])) : W p l e room_1 s m #[Value.ref b] below meth c H locs cells slots (lw_Z below #[Value.ref b] s) (F0 m 1176 ls []) := by
  obtain ⟨T2, S2, hf, hI2⟩ := hstep.2 i T S hi hI 34 (fun k => xs (6 * i + k))
  obtain ⟨k_0, k_199⟩ := hstep.1 i T S hI
  unfold xO at hf
  refine lv_aload_n B.1.1 B.1.2.1 dL_law_1176 rfl (hl.at 1 rfl) ?_
  refine lv_aload_n B.1.1 B.1.2.1 dL_law_1177 rfl (hl.at 0 rfl) ?_
  refine lv_iload_n B.1.1 B.1.2.1 dL_law_1178 rfl (hl.at 3 rfl) ?_
  refine lv_iconst (v := 1) B.1.1 B.1.2.1 dL_law_1179 (by decide) ?_
  refine lv_iadd B.1.1 B.1.2.1 dL_law_1180 ?_
  refine y_sld (j := 6 * i + 1) B hX hbl hbA hS (nI_add (6 * i) 1) (by omega) (by omega) dL_law_1181 ?_
  refine lv_aload_n B.1.1 B.1.2.1 dL_law_1182 rfl (hl.at 0 rfl) ?_
  refine lv_iload_n B.1.1 B.1.2.1 dL_law_1183 rfl (hl.at 3 rfl) ?_
  refine lv_iconst (v := 2) B.1.1 B.1.2.1 dL_law_1184 (by decide) ?_
  refine lv_iadd B.1.1 B.1.2.1 dL_law_1185 ?_
  refine y_sld (j := 6 * i + 2) B hX hbl hbA hS (nI_add (6 * i) 2) (by omega) (by omega) dL_law_1186 ?_
  refine lv_aload_n B.1.1 B.1.2.1 dL_law_1187 rfl (hl.at 0 rfl) ?_
  refine lv_iload_n B.1.1 B.1.2.1 dL_law_1188 rfl (hl.at 3 rfl) ?_
  refine lv_iconst (v := 3) B.1.1 B.1.2.1 dL_law_1189 (by decide) ?_
  refine lv_iadd B.1.1 B.1.2.1 dL_law_1190 ?_
  refine y_sld (j := 6 * i + 3) B hX hbl hbA hS (nI_add (6 * i) 3) (by omega) (by omega) dL_law_1191 ?_
  refine y_ci hf (fun q hq => x_runV (ci := 9) (C := RX9) B.1 B.2.2.2 hl hR hS cm_L_154 ⟨rfl, rfl, Nat.le_of_ble_eq_true rfl, Nat.le_of_ble_eq_true rfl⟩ (by decide) rfl k_0 (c_X9_even k_0 hq) rfl rfl (Nat.le_of_ble_eq_true rfl) dL_law_1192 ⟨by show cells + 0 ≤ 600000; omega, by show slots + 0 ≤ 7302250; omega⟩) hS (fun r1 S1 H locs hf hR hS => ?_)
  refine lv_aload_n B.1.1 B.1.2.1 dL_law_1195 rfl (hl.at 2 rfl) ?_
  refine lv_aload_n B.1.1 B.1.2.1 dL_law_1196 rfl (hl.at 0 rfl) ?_
  refine lv_iload_n B.1.1 B.1.2.1 dL_law_1197 rfl (hl.at 3 rfl) ?_
  refine lv_iconst (v := 1) B.1.1 B.1.2.1 dL_law_1198 (by decide) ?_
  refine lv_iadd B.1.1 B.1.2.1 dL_law_1199 ?_
  refine y_sld (j := 6 * i + 1) B hX hbl hbA hS (nI_add (6 * i) 1) (by omega) (by omega) dL_law_1200 ?_
  refine lv_aload_n B.1.1 B.1.2.1 dL_law_1201 rfl (hl.at 0 rfl) ?_
  refine lv_iload_n B.1.1 B.1.2.1 dL_law_1202 rfl (hl.at 3 rfl) ?_
  refine lv_iconst (v := 2) B.1.1 B.1.2.1 dL_law_1203 (by decide) ?_
  refine lv_iadd B.1.1 B.1.2.1 dL_law_1204 ?_
  refine y_sld (j := 6 * i + 2) B hX hbl hbA hS (nI_add (6 * i) 2) (by omega) (by omega) dL_law_1205 ?_
  refine lv_aload_n B.1.1 B.1.2.1 dL_law_1206 rfl (hl.at 0 rfl) ?_
  refine lv_iload_n B.1.1 B.1.2.1 dL_law_1207 rfl (hl.at 3 rfl) ?_
  refine lv_iconst (v := 3) B.1.1 B.1.2.1 dL_law_1208 (by decide) ?_
  refine lv_iadd B.1.1 B.1.2.1 dL_law_1209 ?_
  refine y_sld (j := 6 * i + 3) B hX hbl hbA hS (nI_add (6 * i) 3) (by omega) (by omega) dL_law_1210 ?_
  refine y_ci hf (fun q hq => x_runV (ci := 10) (C := RX10) B.1 B.2.2.2 hl hR hS cm_L_157 ⟨rfl, rfl, Nat.le_of_ble_eq_true rfl, Nat.le_of_ble_eq_true rfl⟩ (by decide) rfl k_199 (c_X10_even k_199 hq) rfl rfl (Nat.le_of_ble_eq_true rfl) dL_law_1211 ⟨by show cells + 0 ≤ 600000; omega, by show slots + 0 ≤ 7302250; omega⟩) hS (fun r2 S3 H locs hf hR hS => ?_)
  simp only [Option.some.injEq, Prod.mk.injEq, decide_eq_true_eq] at hf
  obtain ⟨e1, rfl, rfl⟩ := hf
  refine lv_icmp_eq (tgt := 1426) B.1.1 B.1.2.1 dL_law_1214 (by decide) (fun _ => ?_) (fun h => absurd e1 h)
  exact next _ _ _ _ _ _ _ hI2 hR hS (by omega) (by omega) hl
set_option maxRecDepth 100000 in
set_option maxHeartbeats 4000000 in
theorem law_35 {p : Program} {l : Launch} {e : Env} {s : State} {m : MethodId} {below : List Frame} {meth : Method} {c : Code} {z : Nat} {D : va_G} {dA : Nat → ClassId} {b L : Nat} {xs : Nat → Int32} (hL : L ≤ 3072) (B : xB p s m #[Value.ref b] meth c code RL 4 ret D dA) (hX : va_X b L xs s s.heap) (hbl : b < s.heap.size) (hbA : ¬ xA z b) {INV : Nat → xT → xS → Prop} (hstep : xStep INV) {i : Nat} (hi : i < 512) (hin : 6 * i + 5 < L) {T : xT} {S : xS} {H : Heap} {locs : List Loc} {cells slots : Nat} {ls : Array Slot} (hI : INV i T S) (hR : xRel z D dA T S H) (hS : va_S (xA z) s.heap H locs) (hc : cells ≤ 400 + 12 * i) (hs : slots ≤ 20000 + 200 * i) (hl : xL ls 4 [some (.ref b), some (.ref (z + 0)), some (.ref (z + 199)), some (.int (nI (6 * i)))]) (next : ∀ (T : xT) (S : xS) (H : Heap) (locs : List Loc) (cells slots : Nat) (ls : Array Slot), INV (i + 1) T S → xRel z D dA T S H → va_S (xA z) s.heap H locs → cells ≤ 400 + 12 * (i + 1) → slots ≤ 20000 + 200 * (i + 1) → xL ls 4 [some (.ref b), some (.ref (z + 0)), some (.ref (z + 199)), some (.int (nI (6 * i)))] → W p l e room_1 s m #[Value.ref b] below meth c H locs cells slots (lw_Z below #[Value.ref b] s) (F0 m 1426 ls [])) : W p l e room_1 s m #[Value.ref b] below meth c H locs cells slots (lw_Z below #[Value.ref b] s) (F0 m 1219 ls []) := by
  obtain ⟨T2, S2, hf, hI2⟩ := hstep.2 i T S hi hI 35 (fun k => xs (6 * i + k))
  obtain ⟨k_0, k_199⟩ := hstep.1 i T S hI
  unfold xO at hf
  refine lv_aload_n B.1.1 B.1.2.1 dL_law_1219 rfl (hl.at 1 rfl) ?_
  refine y_ci hf (fun q hq => x_runV (ci := 9) (C := RX9) B.1 B.2.2.2 hl hR hS cm_L_158 ⟨rfl, rfl, Nat.le_of_ble_eq_true rfl, Nat.le_of_ble_eq_true rfl⟩ (by decide) rfl k_0 (c_X9_back k_0 hq) rfl rfl (Nat.le_of_ble_eq_true rfl) dL_law_1220 ⟨by show cells + 0 ≤ 600000; omega, by show slots + 0 ≤ 7302250; omega⟩) hS (fun r1 S1 H locs hf hR hS => ?_)
  refine lv_aload_n B.1.1 B.1.2.1 dL_law_1223 rfl (hl.at 2 rfl) ?_
  refine y_ci hf (fun q hq => x_runV (ci := 10) (C := RX10) B.1 B.2.2.2 hl hR hS cm_L_161 ⟨rfl, rfl, Nat.le_of_ble_eq_true rfl, Nat.le_of_ble_eq_true rfl⟩ (by decide) rfl k_199 (c_X10_back k_199 hq) rfl rfl (Nat.le_of_ble_eq_true rfl) dL_law_1224 ⟨by show cells + 0 ≤ 600000; omega, by show slots + 0 ≤ 7302250; omega⟩) hS (fun r2 S3 H locs hf hR hS => ?_)
  simp only [Option.some.injEq, Prod.mk.injEq, decide_eq_true_eq] at hf
  obtain ⟨e1, rfl, rfl⟩ := hf
  refine lv_icmp_eq (tgt := 1426) B.1.1 B.1.2.1 dL_law_1227 (by decide) (fun _ => ?_) (fun h => absurd e1 h)
  exact next _ _ _ _ _ _ _ hI2 hR hS (by omega) (by omega) hl
set_option maxRecDepth 100000 in
set_option maxHeartbeats 4000000 in
theorem law_36 {p : Program} {l : Launch} {e : Env} {s : State} {m : MethodId} {below : List Frame} {meth : Method} {c : Code} {z : Nat} {D : va_G} {dA : Nat → ClassId} {b L : Nat} {xs : Nat → Int32} (hL : L ≤ 3072) (B : xB p s m #[Value.ref b] meth c code RL 4 ret D dA) (hX : va_X b L xs s s.heap) (hbl : b < s.heap.size) (hbA : ¬ xA z b) {INV : Nat → xT → xS → Prop} (hstep : xStep INV) {i : Nat} (hi : i < 512) (hin : 6 * i + 5 < L) {T : xT} {S : xS} {H : Heap} {locs : List Loc} {cells slots : Nat} {ls : Array Slot} (hI : INV i T S) (hR : xRel z D dA T S H) (hS : va_S (xA z) s.heap H locs) (hc : cells ≤ 400 + 12 * i) (hs : slots ≤ 20000 + 200 * i) (hl : xL ls 4 [some (.ref b), some (.ref (z + 0)), some (.ref (z + 199)), some (.int (nI (6 * i)))]) (next : ∀ (T : xT) (S : xS) (H : Heap) (locs : List Loc) (cells slots : Nat) (ls : Array Slot), INV (i + 1) T S → xRel z D dA T S H → va_S (xA z) s.heap H locs → cells ≤ 400 + 12 * (i + 1) → slots ≤ 20000 + 200 * (i + 1) → xL ls 4 [some (.ref b), some (.ref (z + 0)), some (.ref (z + 199)), some (.int (nI (6 * i)))] → W p l e room_1 s m #[Value.ref b] below meth c H locs cells slots (lw_Z below #[Value.ref b] s) (F0 m 1426 ls [])) : W p l e room_1 s m #[Value.ref b] below meth c H locs cells slots (lw_Z below #[Value.ref b] s) (F0 m 1232 ls []) := by
  obtain ⟨T2, S2, hf, hI2⟩ := hstep.2 i T S hi hI 36 (fun k => xs (6 * i + k))
  obtain ⟨k_0, k_199⟩ := hstep.1 i T S hI
  unfold xO at hf
  refine lv_aload_n B.1.1 B.1.2.1 dL_law_1232 rfl (hl.at 1 rfl) ?_
  refine lv_aload_n B.1.1 B.1.2.1 dL_law_1233 rfl (hl.at 0 rfl) ?_
  refine lv_iload_n B.1.1 B.1.2.1 dL_law_1234 rfl (hl.at 3 rfl) ?_
  refine lv_iconst (v := 1) B.1.1 B.1.2.1 dL_law_1235 (by decide) ?_
  refine lv_iadd B.1.1 B.1.2.1 dL_law_1236 ?_
  refine y_sld (j := 6 * i + 1) B hX hbl hbA hS (nI_add (6 * i) 1) (by omega) (by omega) dL_law_1237 ?_
  refine lv_aload_n B.1.1 B.1.2.1 dL_law_1238 rfl (hl.at 0 rfl) ?_
  refine lv_iload_n B.1.1 B.1.2.1 dL_law_1239 rfl (hl.at 3 rfl) ?_
  refine lv_iconst (v := 2) B.1.1 B.1.2.1 dL_law_1240 (by decide) ?_
  refine lv_iadd B.1.1 B.1.2.1 dL_law_1241 ?_
  refine y_sld (j := 6 * i + 2) B hX hbl hbA hS (nI_add (6 * i) 2) (by omega) (by omega) dL_law_1242 ?_
  refine y_ci hf (fun q hq => x_runV (ci := 9) (C := RX9) B.1 B.2.2.2 hl hR hS cm_L_162 ⟨rfl, rfl, Nat.le_of_ble_eq_true rfl, Nat.le_of_ble_eq_true rfl⟩ (by decide) rfl k_0 (c_X9_fills k_0 hq) rfl rfl (Nat.le_of_ble_eq_true rfl) dL_law_1243 ⟨by show cells + 0 ≤ 600000; omega, by show slots + 0 ≤ 7302250; omega⟩) hS (fun r1 S1 H locs hf hR hS => ?_)
  refine lv_aload_n B.1.1 B.1.2.1 dL_law_1246 rfl (hl.at 2 rfl) ?_
  refine lv_aload_n B.1.1 B.1.2.1 dL_law_1247 rfl (hl.at 0 rfl) ?_
  refine lv_iload_n B.1.1 B.1.2.1 dL_law_1248 rfl (hl.at 3 rfl) ?_
  refine lv_iconst (v := 1) B.1.1 B.1.2.1 dL_law_1249 (by decide) ?_
  refine lv_iadd B.1.1 B.1.2.1 dL_law_1250 ?_
  refine y_sld (j := 6 * i + 1) B hX hbl hbA hS (nI_add (6 * i) 1) (by omega) (by omega) dL_law_1251 ?_
  refine lv_aload_n B.1.1 B.1.2.1 dL_law_1252 rfl (hl.at 0 rfl) ?_
  refine lv_iload_n B.1.1 B.1.2.1 dL_law_1253 rfl (hl.at 3 rfl) ?_
  refine lv_iconst (v := 2) B.1.1 B.1.2.1 dL_law_1254 (by decide) ?_
  refine lv_iadd B.1.1 B.1.2.1 dL_law_1255 ?_
  refine y_sld (j := 6 * i + 2) B hX hbl hbA hS (nI_add (6 * i) 2) (by omega) (by omega) dL_law_1256 ?_
  refine y_ci hf (fun q hq => x_runV (ci := 10) (C := RX10) B.1 B.2.2.2 hl hR hS cm_L_165 ⟨rfl, rfl, Nat.le_of_ble_eq_true rfl, Nat.le_of_ble_eq_true rfl⟩ (by decide) rfl k_199 (c_X10_fills k_199 hq) rfl rfl (Nat.le_of_ble_eq_true rfl) dL_law_1257 ⟨by show cells + 0 ≤ 600000; omega, by show slots + 0 ≤ 7302250; omega⟩) hS (fun r2 S3 H locs hf hR hS => ?_)
  simp only [Option.some.injEq, Prod.mk.injEq, decide_eq_true_eq] at hf
  obtain ⟨e1, rfl, rfl⟩ := hf
  refine lv_icmp_eq (tgt := 1426) B.1.1 B.1.2.1 dL_law_1260 (by decide) (fun _ => ?_) (fun h => absurd e1 h)
  exact next _ _ _ _ _ _ _ hI2 hR hS (by omega) (by omega) hl
set_option maxRecDepth 100000 in
set_option maxHeartbeats 4000000 in
theorem law_37 {p : Program} {l : Launch} {e : Env} {s : State} {m : MethodId} {below : List Frame} {meth : Method} {c : Code} {z : Nat} {D : va_G} {dA : Nat → ClassId} {b L : Nat} {xs : Nat → Int32} (hL : L ≤ 3072) (B : xB p s m #[Value.ref b] meth c code RL 4 ret D dA) (hX : va_X b L xs s s.heap) (hbl : b < s.heap.size) (hbA : ¬ xA z b) {INV : Nat → xT → xS → Prop} (hstep : xStep INV) {i : Nat} (hi : i < 512) (hin : 6 * i + 5 < L) {T : xT} {S : xS} {H : Heap} {locs : List Loc} {cells slots : Nat} {ls : Array Slot} (hI : INV i T S) (hR : xRel z D dA T S H) (hS : va_S (xA z) s.heap H locs) (hc : cells ≤ 400 + 12 * i) (hs : slots ≤ 20000 + 200 * i) (hl : xL ls 4 [some (.ref b), some (.ref (z + 0)), some (.ref (z + 199)), some (.int (nI (6 * i)))]) (next : ∀ (T : xT) (S : xS) (H : Heap) (locs : List Loc) (cells slots : Nat) (ls : Array Slot), INV (i + 1) T S → xRel z D dA T S H → va_S (xA z) s.heap H locs → cells ≤ 400 + 12 * (i + 1) → slots ≤ 20000 + 200 * (i + 1) → xL ls 4 [some (.ref b), some (.ref (z + 0)), some (.ref (z + 199)), some (.int (nI (6 * i)))] → W p l e room_1 s m #[Value.ref b] below meth c H locs cells slots (lw_Z below #[Value.ref b] s) (F0 m 1426 ls [])) : W p l e room_1 s m #[Value.ref b] below meth c H locs cells slots (lw_Z below #[Value.ref b] s) (F0 m 1265 ls []) := by
  obtain ⟨T2, S2, hf, hI2⟩ := hstep.2 i T S hi hI 37 (fun k => xs (6 * i + k))
  obtain ⟨k_0, k_199⟩ := hstep.1 i T S hI
  unfold xO at hf
  refine lv_aload_n B.1.1 B.1.2.1 dL_law_1265 rfl (hl.at 1 rfl) ?_
  refine lv_aload_n B.1.1 B.1.2.1 dL_law_1266 rfl (hl.at 0 rfl) ?_
  refine lv_iload_n B.1.1 B.1.2.1 dL_law_1267 rfl (hl.at 3 rfl) ?_
  refine lv_iconst (v := 1) B.1.1 B.1.2.1 dL_law_1268 (by decide) ?_
  refine lv_iadd B.1.1 B.1.2.1 dL_law_1269 ?_
  refine y_sld (j := 6 * i + 1) B hX hbl hbA hS (nI_add (6 * i) 1) (by omega) (by omega) dL_law_1270 ?_
  refine lv_aload_n B.1.1 B.1.2.1 dL_law_1271 rfl (hl.at 0 rfl) ?_
  refine lv_iload_n B.1.1 B.1.2.1 dL_law_1272 rfl (hl.at 3 rfl) ?_
  refine lv_iconst (v := 2) B.1.1 B.1.2.1 dL_law_1273 (by decide) ?_
  refine lv_iadd B.1.1 B.1.2.1 dL_law_1274 ?_
  refine y_sld (j := 6 * i + 2) B hX hbl hbA hS (nI_add (6 * i) 2) (by omega) (by omega) dL_law_1275 ?_
  refine lv_aload_n B.1.1 B.1.2.1 dL_law_1276 rfl (hl.at 0 rfl) ?_
  refine lv_iload_n B.1.1 B.1.2.1 dL_law_1277 rfl (hl.at 3 rfl) ?_
  refine lv_iconst (v := 3) B.1.1 B.1.2.1 dL_law_1278 (by decide) ?_
  refine lv_iadd B.1.1 B.1.2.1 dL_law_1279 ?_
  refine y_sld (j := 6 * i + 3) B hX hbl hbA hS (nI_add (6 * i) 3) (by omega) (by omega) dL_law_1280 ?_
  refine y_ci hf (fun q hq => x_runV (ci := 9) (C := RX9) B.1 B.2.2.2 hl hR hS cm_L_166 ⟨rfl, rfl, Nat.le_of_ble_eq_true rfl, Nat.le_of_ble_eq_true rfl⟩ (by decide) rfl k_0 (c_X9_years k_0 hq) rfl rfl (Nat.le_of_ble_eq_true rfl) dL_law_1281 ⟨by show cells + 0 ≤ 600000; omega, by show slots + 0 ≤ 7302250; omega⟩) hS (fun r1 S1 H locs hf hR hS => ?_)
  refine lv_aload_n B.1.1 B.1.2.1 dL_law_1284 rfl (hl.at 2 rfl) ?_
  refine lv_aload_n B.1.1 B.1.2.1 dL_law_1285 rfl (hl.at 0 rfl) ?_
  refine lv_iload_n B.1.1 B.1.2.1 dL_law_1286 rfl (hl.at 3 rfl) ?_
  refine lv_iconst (v := 1) B.1.1 B.1.2.1 dL_law_1287 (by decide) ?_
  refine lv_iadd B.1.1 B.1.2.1 dL_law_1288 ?_
  refine y_sld (j := 6 * i + 1) B hX hbl hbA hS (nI_add (6 * i) 1) (by omega) (by omega) dL_law_1289 ?_
  refine lv_aload_n B.1.1 B.1.2.1 dL_law_1290 rfl (hl.at 0 rfl) ?_
  refine lv_iload_n B.1.1 B.1.2.1 dL_law_1291 rfl (hl.at 3 rfl) ?_
  refine lv_iconst (v := 2) B.1.1 B.1.2.1 dL_law_1292 (by decide) ?_
  refine lv_iadd B.1.1 B.1.2.1 dL_law_1293 ?_
  refine y_sld (j := 6 * i + 2) B hX hbl hbA hS (nI_add (6 * i) 2) (by omega) (by omega) dL_law_1294 ?_
  refine lv_aload_n B.1.1 B.1.2.1 dL_law_1295 rfl (hl.at 0 rfl) ?_
  refine lv_iload_n B.1.1 B.1.2.1 dL_law_1296 rfl (hl.at 3 rfl) ?_
  refine lv_iconst (v := 3) B.1.1 B.1.2.1 dL_law_1297 (by decide) ?_
  refine lv_iadd B.1.1 B.1.2.1 dL_law_1298 ?_
  refine y_sld (j := 6 * i + 3) B hX hbl hbA hS (nI_add (6 * i) 3) (by omega) (by omega) dL_law_1299 ?_
  refine y_ci hf (fun q hq => x_runV (ci := 10) (C := RX10) B.1 B.2.2.2 hl hR hS cm_L_169 ⟨rfl, rfl, Nat.le_of_ble_eq_true rfl, Nat.le_of_ble_eq_true rfl⟩ (by decide) rfl k_199 (c_X10_years k_199 hq) rfl rfl (Nat.le_of_ble_eq_true rfl) dL_law_1300 ⟨by show cells + 0 ≤ 600000; omega, by show slots + 0 ≤ 7302250; omega⟩) hS (fun r2 S3 H locs hf hR hS => ?_)
  simp only [Option.some.injEq, Prod.mk.injEq, decide_eq_true_eq] at hf
  obtain ⟨e1, rfl, rfl⟩ := hf
  refine lv_icmp_eq (tgt := 1426) B.1.1 B.1.2.1 dL_law_1303 (by decide) (fun _ => ?_) (fun h => absurd e1 h)
  exact next _ _ _ _ _ _ _ hI2 hR hS (by omega) (by omega) hl
set_option maxRecDepth 100000 in
set_option maxHeartbeats 4000000 in
theorem law_38 {p : Program} {l : Launch} {e : Env} {s : State} {m : MethodId} {below : List Frame} {meth : Method} {c : Code} {z : Nat} {D : va_G} {dA : Nat → ClassId} {b L : Nat} {xs : Nat → Int32} (hL : L ≤ 3072) (B : xB p s m #[Value.ref b] meth c code RL 4 ret D dA) (hX : va_X b L xs s s.heap) (hbl : b < s.heap.size) (hbA : ¬ xA z b) {INV : Nat → xT → xS → Prop} (hstep : xStep INV) {i : Nat} (hi : i < 512) (hin : 6 * i + 5 < L) {T : xT} {S : xS} {H : Heap} {locs : List Loc} {cells slots : Nat} {ls : Array Slot} (hI : INV i T S) (hR : xRel z D dA T S H) (hS : va_S (xA z) s.heap H locs) (hc : cells ≤ 400 + 12 * i) (hs : slots ≤ 20000 + 200 * i) (hl : xL ls 4 [some (.ref b), some (.ref (z + 0)), some (.ref (z + 199)), some (.int (nI (6 * i)))]) (next : ∀ (T : xT) (S : xS) (H : Heap) (locs : List Loc) (cells slots : Nat) (ls : Array Slot), INV (i + 1) T S → xRel z D dA T S H → va_S (xA z) s.heap H locs → cells ≤ 400 + 12 * (i + 1) → slots ≤ 20000 + 200 * (i + 1) → xL ls 4 [some (.ref b), some (.ref (z + 0)), some (.ref (z + 199)), some (.int (nI (6 * i)))] → W p l e room_1 s m #[Value.ref b] below meth c H locs cells slots (lw_Z below #[Value.ref b] s) (F0 m 1426 ls [])) : W p l e room_1 s m #[Value.ref b] below meth c H locs cells slots (lw_Z below #[Value.ref b] s) (F0 m 1308 ls []) := by
  obtain ⟨T2, S2, hf, hI2⟩ := hstep.2 i T S hi hI 38 (fun k => xs (6 * i + k))
  obtain ⟨k_0, k_199⟩ := hstep.1 i T S hI
  unfold xO at hf
  refine lv_aload_n B.1.1 B.1.2.1 dL_law_1308 rfl (hl.at 1 rfl) ?_
  refine lv_aload_n B.1.1 B.1.2.1 dL_law_1309 rfl (hl.at 0 rfl) ?_
  refine lv_iload_n B.1.1 B.1.2.1 dL_law_1310 rfl (hl.at 3 rfl) ?_
  refine lv_iconst (v := 1) B.1.1 B.1.2.1 dL_law_1311 (by decide) ?_
  refine lv_iadd B.1.1 B.1.2.1 dL_law_1312 ?_
  refine y_sld (j := 6 * i + 1) B hX hbl hbA hS (nI_add (6 * i) 1) (by omega) (by omega) dL_law_1313 ?_
  refine y_ci hf (fun q hq => x_runV (ci := 9) (C := RX9) B.1 B.2.2.2 hl hR hS cm_L_170 ⟨rfl, rfl, Nat.le_of_ble_eq_true rfl, Nat.le_of_ble_eq_true rfl⟩ (by decide) rfl k_0 (c_X9_exit k_0 hq) rfl rfl (Nat.le_of_ble_eq_true rfl) dL_law_1314 ⟨by show cells + 0 ≤ 600000; omega, by show slots + 0 ≤ 7302250; omega⟩) hS (fun r1 S1 H locs hf hR hS => ?_)
  refine lv_aload_n B.1.1 B.1.2.1 dL_law_1317 rfl (hl.at 2 rfl) ?_
  refine lv_aload_n B.1.1 B.1.2.1 dL_law_1318 rfl (hl.at 0 rfl) ?_
  refine lv_iload_n B.1.1 B.1.2.1 dL_law_1319 rfl (hl.at 3 rfl) ?_
  refine lv_iconst (v := 1) B.1.1 B.1.2.1 dL_law_1320 (by decide) ?_
  refine lv_iadd B.1.1 B.1.2.1 dL_law_1321 ?_
  refine y_sld (j := 6 * i + 1) B hX hbl hbA hS (nI_add (6 * i) 1) (by omega) (by omega) dL_law_1322 ?_
  refine y_ci hf (fun q hq => x_runV (ci := 10) (C := RX10) B.1 B.2.2.2 hl hR hS cm_L_173 ⟨rfl, rfl, Nat.le_of_ble_eq_true rfl, Nat.le_of_ble_eq_true rfl⟩ (by decide) rfl k_199 (c_X10_exit k_199 hq) rfl rfl (Nat.le_of_ble_eq_true rfl) dL_law_1323 ⟨by show cells + 0 ≤ 600000; omega, by show slots + 0 ≤ 7302250; omega⟩) hS (fun r2 S3 H locs hf hR hS => ?_)
  simp only [Option.some.injEq, Prod.mk.injEq, decide_eq_true_eq] at hf
  obtain ⟨e1, rfl, rfl⟩ := hf
  refine lv_icmp_eq (tgt := 1426) B.1.1 B.1.2.1 dL_law_1326 (by decide) (fun _ => ?_) (fun h => absurd e1 h)
  exact next _ _ _ _ _ _ _ hI2 hR hS (by omega) (by omega) hl
set_option maxRecDepth 100000 in
set_option maxHeartbeats 4000000 in
theorem law_39 {p : Program} {l : Launch} {e : Env} {s : State} {m : MethodId} {below : List Frame} {meth : Method} {c : Code} {z : Nat} {D : va_G} {dA : Nat → ClassId} {b L : Nat} {xs : Nat → Int32} (hL : L ≤ 3072) (B : xB p s m #[Value.ref b] meth c code RL 4 ret D dA) (hX : va_X b L xs s s.heap) (hbl : b < s.heap.size) (hbA : ¬ xA z b) {INV : Nat → xT → xS → Prop} (hstep : xStep INV) {i : Nat} (hi : i < 512) (hin : 6 * i + 5 < L) {T : xT} {S : xS} {H : Heap} {locs : List Loc} {cells slots : Nat} {ls : Array Slot} (hI : INV i T S) (hR : xRel z D dA T S H) (hS : va_S (xA z) s.heap H locs) (hc : cells ≤ 400 + 12 * i) (hs : slots ≤ 20000 + 200 * i) (hl : xL ls 4 [some (.ref b), some (.ref (z + 0)), some (.ref (z + 199)), some (.int (nI (6 * i)))]) (next : ∀ (T : xT) (S : xS) (H : Heap) (locs : List Loc) (cells slots : Nat) (ls : Array Slot), INV (i + 1) T S → xRel z D dA T S H → va_S (xA z) s.heap H locs → cells ≤ 400 + 12 * (i + 1) → slots ≤ 20000 + 200 * (i + 1) → xL ls 4 [some (.ref b), some (.ref (z + 0)), some (.ref (z + 199)), some (.int (nI (6 * i)))] → W p l e room_1 s m #[Value.ref b] below meth c H locs cells slots (lw_Z below #[Value.ref b] s) (F0 m 1426 ls [])) : W p l e room_1 s m #[Value.ref b] below meth c H locs cells slots (lw_Z below #[Value.ref b] s) (F0 m 1331 ls []) := by
  obtain ⟨T2, S2, hf, hI2⟩ := hstep.2 i T S hi hI 39 (fun k => xs (6 * i + k))
  obtain ⟨k_0, k_199⟩ := hstep.1 i T S hI
  unfold xO at hf
  refine lv_aload_n B.1.1 B.1.2.1 dL_law_1331 rfl (hl.at 1 rfl) ?_
  refine y_ci hf (fun q hq => x_runV (ci := 9) (C := RX9) B.1 B.2.2.2 hl hR hS cm_L_174 ⟨rfl, rfl, Nat.le_of_ble_eq_true rfl, Nat.le_of_ble_eq_true rfl⟩ (by decide) rfl k_0 (c_X9_first k_0 hq) rfl rfl (Nat.le_of_ble_eq_true rfl) dL_law_1332 ⟨by show cells + 0 ≤ 600000; omega, by show slots + 0 ≤ 7302250; omega⟩) hS (fun r1 S1 H locs hf hR hS => ?_)
  refine lv_aload_n B.1.1 B.1.2.1 dL_law_1335 rfl (hl.at 2 rfl) ?_
  refine y_ci hf (fun q hq => x_runV (ci := 10) (C := RX10) B.1 B.2.2.2 hl hR hS cm_L_177 ⟨rfl, rfl, Nat.le_of_ble_eq_true rfl, Nat.le_of_ble_eq_true rfl⟩ (by decide) rfl k_199 (c_X10_first k_199 hq) rfl rfl (Nat.le_of_ble_eq_true rfl) dL_law_1336 ⟨by show cells + 0 ≤ 600000; omega, by show slots + 0 ≤ 7302250; omega⟩) hS (fun r2 S3 H locs hf hR hS => ?_)
  simp only [Option.some.injEq, Prod.mk.injEq, decide_eq_true_eq] at hf
  obtain ⟨e1, rfl, rfl⟩ := hf
  refine lv_icmp_eq (tgt := 1426) B.1.1 B.1.2.1 dL_law_1339 (by decide) (fun _ => ?_) (fun h => absurd e1 h)
  exact next _ _ _ _ _ _ _ hI2 hR hS (by omega) (by omega) hl
set_option maxRecDepth 100000 in
set_option maxHeartbeats 4000000 in
theorem law_40 {p : Program} {l : Launch} {e : Env} {s : State} {m : MethodId} {below : List Frame} {meth : Method} {c : Code} {z : Nat} {D : va_G} {dA : Nat → ClassId} {b L : Nat} {xs : Nat → Int32} (hL : L ≤ 3072) (B : xB p s m #[Value.ref b] meth c code RL 4 ret D dA) (hX : va_X b L xs s s.heap) (hbl : b < s.heap.size) (hbA : ¬ xA z b) {INV : Nat → xT → xS → Prop} (hstep : xStep INV) {i : Nat} (hi : i < 512) (hin : 6 * i + 5 < L) {T : xT} {S : xS} {H : Heap} {locs : List Loc} {cells slots : Nat} {ls : Array Slot} (hI : INV i T S) (hR : xRel z D dA T S H) (hS : va_S (xA z) s.heap H locs) (hc : cells ≤ 400 + 12 * i) (hs : slots ≤ 20000 + 200 * i) (hl : xL ls 4 [some (.ref b), some (.ref (z + 0)), some (.ref (z + 199)), some (.int (nI (6 * i)))]) (next : ∀ (T : xT) (S : xS) (H : Heap) (locs : List Loc) (cells slots : Nat) (ls : Array Slot), INV (i + 1) T S → xRel z D dA T S H → va_S (xA z) s.heap H locs → cells ≤ 400 + 12 * (i + 1) → slots ≤ 20000 + 200 * (i + 1) → xL ls 4 [some (.ref b), some (.ref (z + 0)), some (.ref (z + 199)), some (.int (nI (6 * i)))] → W p l e room_1 s m #[Value.ref b] below meth c H locs cells slots (lw_Z below #[Value.ref b] s) (F0 m 1426 ls [])) : W p l e room_1 s m #[Value.ref b] below meth c H locs cells slots (lw_Z below #[Value.ref b] s) (F0 m 1344 ls []) := by
  obtain ⟨T2, S2, hf, hI2⟩ := hstep.2 i T S hi hI 40 (fun k => xs (6 * i + k))
  obtain ⟨k_0, k_199⟩ := hstep.1 i T S hI
  unfold xO at hf
  refine lv_aload_n B.1.1 B.1.2.1 dL_law_1344 rfl (hl.at 1 rfl) ?_
  refine lv_aload_n B.1.1 B.1.2.1 dL_law_1345 rfl (hl.at 0 rfl) ?_
  refine lv_iload_n B.1.1 B.1.2.1 dL_law_1346 rfl (hl.at 3 rfl) ?_
  refine lv_iconst (v := 1) B.1.1 B.1.2.1 dL_law_1347 (by decide) ?_
  refine lv_iadd B.1.1 B.1.2.1 dL_law_1348 ?_
  refine y_sld (j := 6 * i + 1) B hX hbl hbA hS (nI_add (6 * i) 1) (by omega) (by omega) dL_law_1349 ?_
  refine y_ciT hf (fun q hq => x_runV (ci := 9) (C := RX9) B.1 B.2.2.2 hl hR hS cm_L_178 ⟨rfl, rfl, Nat.le_of_ble_eq_true rfl, Nat.le_of_ble_eq_true rfl⟩ (by decide) rfl k_0 (c_X9_keep k_0 hq) rfl rfl (Nat.le_of_ble_eq_true rfl) dL_law_1350 ⟨by show cells + 12 ≤ 600000; omega, by show slots + 141 ≤ 7302250; omega⟩) hS (fun r1 T1 S1 H locs hf hR hS => ?_)
  obtain ⟨k_0, hf⟩ := x_ok hf
  obtain ⟨k_199, hf⟩ := x_ok hf
  refine lv_aload_n B.1.1 B.1.2.1 dL_law_1353 rfl (hl.at 2 rfl) ?_
  refine lv_aload_n B.1.1 B.1.2.1 dL_law_1354 rfl (hl.at 0 rfl) ?_
  refine lv_iload_n B.1.1 B.1.2.1 dL_law_1355 rfl (hl.at 3 rfl) ?_
  refine lv_iconst (v := 1) B.1.1 B.1.2.1 dL_law_1356 (by decide) ?_
  refine lv_iadd B.1.1 B.1.2.1 dL_law_1357 ?_
  refine y_sld (j := 6 * i + 1) B hX hbl hbA hS (nI_add (6 * i) 1) (by omega) (by omega) dL_law_1358 ?_
  refine y_ci hf (fun q hq => x_runV (ci := 10) (C := RX10) B.1 B.2.2.2 hl hR hS cm_L_182 ⟨rfl, rfl, Nat.le_of_ble_eq_true rfl, Nat.le_of_ble_eq_true rfl⟩ (by decide) rfl k_199 (c_X10_keep k_199 hq) rfl rfl (Nat.le_of_ble_eq_true rfl) dL_law_1359 ⟨by show cells + 12 + 0 ≤ 600000; omega, by show slots + 141 + 0 ≤ 7302250; omega⟩) hS (fun r2 S3 H locs hf hR hS => ?_)
  simp only [Option.some.injEq, Prod.mk.injEq, decide_eq_true_eq] at hf
  obtain ⟨e1, rfl, rfl⟩ := hf
  refine lv_icmp_eq (tgt := 1426) B.1.1 B.1.2.1 dL_law_1362 (by decide) (fun _ => ?_) (fun h => absurd e1 h)
  exact next _ _ _ _ _ _ _ hI2 hR hS (by show cells + 12 ≤ 400 + 12 * (i + 1); omega) (by show slots + 141 ≤ 20000 + 200 * (i + 1); omega) hl
set_option maxRecDepth 100000 in
set_option maxHeartbeats 4000000 in
theorem law_41 {p : Program} {l : Launch} {e : Env} {s : State} {m : MethodId} {below : List Frame} {meth : Method} {c : Code} {z : Nat} {D : va_G} {dA : Nat → ClassId} {b L : Nat} {xs : Nat → Int32} (hL : L ≤ 3072) (B : xB p s m #[Value.ref b] meth c code RL 4 ret D dA) (hX : va_X b L xs s s.heap) (hbl : b < s.heap.size) (hbA : ¬ xA z b) {INV : Nat → xT → xS → Prop} (hstep : xStep INV) {i : Nat} (hi : i < 512) (hin : 6 * i + 5 < L) {T : xT} {S : xS} {H : Heap} {locs : List Loc} {cells slots : Nat} {ls : Array Slot} (hI : INV i T S) (hR : xRel z D dA T S H) (hS : va_S (xA z) s.heap H locs) (hc : cells ≤ 400 + 12 * i) (hs : slots ≤ 20000 + 200 * i) (hl : xL ls 4 [some (.ref b), some (.ref (z + 0)), some (.ref (z + 199)), some (.int (nI (6 * i)))]) (next : ∀ (T : xT) (S : xS) (H : Heap) (locs : List Loc) (cells slots : Nat) (ls : Array Slot), INV (i + 1) T S → xRel z D dA T S H → va_S (xA z) s.heap H locs → cells ≤ 400 + 12 * (i + 1) → slots ≤ 20000 + 200 * (i + 1) → xL ls 4 [some (.ref b), some (.ref (z + 0)), some (.ref (z + 199)), some (.int (nI (6 * i)))] → W p l e room_1 s m #[Value.ref b] below meth c H locs cells slots (lw_Z below #[Value.ref b] s) (F0 m 1426 ls [])) : W p l e room_1 s m #[Value.ref b] below meth c H locs cells slots (lw_Z below #[Value.ref b] s) (F0 m 1367 ls []) := by
  obtain ⟨T2, S2, hf, hI2⟩ := hstep.2 i T S hi hI 41 (fun k => xs (6 * i + k))
  obtain ⟨k_0, k_199⟩ := hstep.1 i T S hI
  unfold xO at hf
  refine lv_aload_n B.1.1 B.1.2.1 dL_law_1367 rfl (hl.at 1 rfl) ?_
  refine lv_aload_n B.1.1 B.1.2.1 dL_law_1368 rfl (hl.at 0 rfl) ?_
  refine lv_iload_n B.1.1 B.1.2.1 dL_law_1369 rfl (hl.at 3 rfl) ?_
  refine lv_iconst (v := 1) B.1.1 B.1.2.1 dL_law_1370 (by decide) ?_
  refine lv_iadd B.1.1 B.1.2.1 dL_law_1371 ?_
  refine y_sld (j := 6 * i + 1) B hX hbl hbA hS (nI_add (6 * i) 1) (by omega) (by omega) dL_law_1372 ?_
  refine y_ci hf (fun q hq => x_runV (ci := 9) (C := RX9) B.1 B.2.2.2 hl hR hS cm_L_183 ⟨rfl, rfl, Nat.le_of_ble_eq_true rfl, Nat.le_of_ble_eq_true rfl⟩ (by decide) rfl k_0 (c_X9_restore k_0 hq) rfl rfl (Nat.le_of_ble_eq_true rfl) dL_law_1373 ⟨by show cells + 0 ≤ 600000; omega, by show slots + 0 ≤ 7302250; omega⟩) hS (fun r1 S1 H locs hf hR hS => ?_)
  refine lv_aload_n B.1.1 B.1.2.1 dL_law_1376 rfl (hl.at 2 rfl) ?_
  refine lv_aload_n B.1.1 B.1.2.1 dL_law_1377 rfl (hl.at 0 rfl) ?_
  refine lv_iload_n B.1.1 B.1.2.1 dL_law_1378 rfl (hl.at 3 rfl) ?_
  refine lv_iconst (v := 1) B.1.1 B.1.2.1 dL_law_1379 (by decide) ?_
  refine lv_iadd B.1.1 B.1.2.1 dL_law_1380 ?_
  refine y_sld (j := 6 * i + 1) B hX hbl hbA hS (nI_add (6 * i) 1) (by omega) (by omega) dL_law_1381 ?_
  refine y_ci hf (fun q hq => x_runV (ci := 10) (C := RX10) B.1 B.2.2.2 hl hR hS cm_L_186 ⟨rfl, rfl, Nat.le_of_ble_eq_true rfl, Nat.le_of_ble_eq_true rfl⟩ (by decide) rfl k_199 (c_X10_restore k_199 hq) rfl rfl (Nat.le_of_ble_eq_true rfl) dL_law_1382 ⟨by show cells + 0 ≤ 600000; omega, by show slots + 0 ≤ 7302250; omega⟩) hS (fun r2 S3 H locs hf hR hS => ?_)
  simp only [Option.some.injEq, Prod.mk.injEq, decide_eq_true_eq] at hf
  obtain ⟨e1, rfl, rfl⟩ := hf
  refine lv_icmp_eq (tgt := 1426) B.1.1 B.1.2.1 dL_law_1385 (by decide) (fun _ => ?_) (fun h => absurd e1 h)
  exact next _ _ _ _ _ _ _ hI2 hR hS (by omega) (by omega) hl
set_option maxRecDepth 100000 in
set_option maxHeartbeats 4000000 in
theorem law_42 {p : Program} {l : Launch} {e : Env} {s : State} {m : MethodId} {below : List Frame} {meth : Method} {c : Code} {z : Nat} {D : va_G} {dA : Nat → ClassId} {b L : Nat} {xs : Nat → Int32} (hL : L ≤ 3072) (B : xB p s m #[Value.ref b] meth c code RL 4 ret D dA) (hX : va_X b L xs s s.heap) (hbl : b < s.heap.size) (hbA : ¬ xA z b) {INV : Nat → xT → xS → Prop} (hstep : xStep INV) {i : Nat} (hi : i < 512) (hin : 6 * i + 5 < L) {T : xT} {S : xS} {H : Heap} {locs : List Loc} {cells slots : Nat} {ls : Array Slot} (hI : INV i T S) (hR : xRel z D dA T S H) (hS : va_S (xA z) s.heap H locs) (hc : cells ≤ 400 + 12 * i) (hs : slots ≤ 20000 + 200 * i) (hl : xL ls 4 [some (.ref b), some (.ref (z + 0)), some (.ref (z + 199)), some (.int (nI (6 * i)))]) (next : ∀ (T : xT) (S : xS) (H : Heap) (locs : List Loc) (cells slots : Nat) (ls : Array Slot), INV (i + 1) T S → xRel z D dA T S H → va_S (xA z) s.heap H locs → cells ≤ 400 + 12 * (i + 1) → slots ≤ 20000 + 200 * (i + 1) → xL ls 4 [some (.ref b), some (.ref (z + 0)), some (.ref (z + 199)), some (.int (nI (6 * i)))] → W p l e room_1 s m #[Value.ref b] below meth c H locs cells slots (lw_Z below #[Value.ref b] s) (F0 m 1426 ls [])) : W p l e room_1 s m #[Value.ref b] below meth c H locs cells slots (lw_Z below #[Value.ref b] s) (F0 m 1390 ls []) := by
  obtain ⟨T2, S2, hf, hI2⟩ := hstep.2 i T S hi hI 42 (fun k => xs (6 * i + k))
  obtain ⟨k_0, k_199⟩ := hstep.1 i T S hI
  unfold xO at hf
  refine lv_aload_n B.1.1 B.1.2.1 dL_law_1390 rfl (hl.at 1 rfl) ?_
  refine y_ci hf (fun q hq => x_runV (ci := 9) (C := RX9) B.1 B.2.2.2 hl hR hS cm_L_187 ⟨rfl, rfl, Nat.le_of_ble_eq_true rfl, Nat.le_of_ble_eq_true rfl⟩ (by decide) rfl k_0 (c_X9_write k_0 hq) rfl rfl (Nat.le_of_ble_eq_true rfl) dL_law_1391 ⟨by show cells + 0 ≤ 600000; omega, by show slots + 0 ≤ 7302250; omega⟩) hS (fun r1 S1 H locs hf hR hS => ?_)
  refine lv_aload_n B.1.1 B.1.2.1 dL_law_1394 rfl (hl.at 2 rfl) ?_
  refine y_ci hf (fun q hq => x_runV (ci := 10) (C := RX10) B.1 B.2.2.2 hl hR hS cm_L_190 ⟨rfl, rfl, Nat.le_of_ble_eq_true rfl, Nat.le_of_ble_eq_true rfl⟩ (by decide) rfl k_199 (c_X10_write k_199 hq) rfl rfl (Nat.le_of_ble_eq_true rfl) dL_law_1395 ⟨by show cells + 0 ≤ 600000; omega, by show slots + 0 ≤ 7302250; omega⟩) hS (fun r2 S3 H locs hf hR hS => ?_)
  simp only [Option.some.injEq, Prod.mk.injEq, decide_eq_true_eq] at hf
  obtain ⟨e1, rfl, rfl⟩ := hf
  refine lv_icmp_eq (tgt := 1426) B.1.1 B.1.2.1 dL_law_1398 (by decide) (fun _ => ?_) (fun h => absurd e1 h)
  exact next _ _ _ _ _ _ _ hI2 hR hS (by omega) (by omega) hl
set_option maxRecDepth 100000 in
set_option maxHeartbeats 4000000 in
theorem law_43 {p : Program} {l : Launch} {e : Env} {s : State} {m : MethodId} {below : List Frame} {meth : Method} {c : Code} {z : Nat} {D : va_G} {dA : Nat → ClassId} {b L : Nat} {xs : Nat → Int32} (hL : L ≤ 3072) (B : xB p s m #[Value.ref b] meth c code RL 4 ret D dA) (hX : va_X b L xs s s.heap) (hbl : b < s.heap.size) (hbA : ¬ xA z b) {INV : Nat → xT → xS → Prop} (hstep : xStep INV) {i : Nat} (hi : i < 512) (hin : 6 * i + 5 < L) {T : xT} {S : xS} {H : Heap} {locs : List Loc} {cells slots : Nat} {ls : Array Slot} (hI : INV i T S) (hR : xRel z D dA T S H) (hS : va_S (xA z) s.heap H locs) (hc : cells ≤ 400 + 12 * i) (hs : slots ≤ 20000 + 200 * i) (hl : xL ls 4 [some (.ref b), some (.ref (z + 0)), some (.ref (z + 199)), some (.int (nI (6 * i)))]) (next : ∀ (T : xT) (S : xS) (H : Heap) (locs : List Loc) (cells slots : Nat) (ls : Array Slot), INV (i + 1) T S → xRel z D dA T S H → va_S (xA z) s.heap H locs → cells ≤ 400 + 12 * (i + 1) → slots ≤ 20000 + 200 * (i + 1) → xL ls 4 [some (.ref b), some (.ref (z + 0)), some (.ref (z + 199)), some (.int (nI (6 * i)))] → W p l e room_1 s m #[Value.ref b] below meth c H locs cells slots (lw_Z below #[Value.ref b] s) (F0 m 1426 ls [])) : W p l e room_1 s m #[Value.ref b] below meth c H locs cells slots (lw_Z below #[Value.ref b] s) (F0 m 1403 ls []) := by
  obtain ⟨T2, S2, hf, hI2⟩ := hstep.2 i T S hi hI 43 (fun k => xs (6 * i + k))
  obtain ⟨k_0, k_199⟩ := hstep.1 i T S hI
  unfold xO at hf
  refine lv_aload_n B.1.1 B.1.2.1 dL_law_1403 rfl (hl.at 1 rfl) ?_
  refine lv_aload_n B.1.1 B.1.2.1 dL_law_1404 rfl (hl.at 0 rfl) ?_
  refine lv_iload_n B.1.1 B.1.2.1 dL_law_1405 rfl (hl.at 3 rfl) ?_
  refine lv_iconst (v := 1) B.1.1 B.1.2.1 dL_law_1406 (by decide) ?_
  refine lv_iadd B.1.1 B.1.2.1 dL_law_1407 ?_
  refine y_sld (j := 6 * i + 1) B hX hbl hbA hS (nI_add (6 * i) 1) (by omega) (by omega) dL_law_1408 ?_
  refine y_ci hf (fun q hq => x_runV (ci := 9) (C := RX9) B.1 B.2.2.2 hl hR hS cm_L_191 ⟨rfl, rfl, Nat.le_of_ble_eq_true rfl, Nat.le_of_ble_eq_true rfl⟩ (by decide) rfl k_0 (c_X9_octet k_0 hq) rfl rfl (Nat.le_of_ble_eq_true rfl) dL_law_1409 ⟨by show cells + 0 ≤ 600000; omega, by show slots + 0 ≤ 7302250; omega⟩) hS (fun r1 S1 H locs hf hR hS => ?_)
  refine lv_aload_n B.1.1 B.1.2.1 dL_law_1412 rfl (hl.at 2 rfl) ?_
  refine lv_aload_n B.1.1 B.1.2.1 dL_law_1413 rfl (hl.at 0 rfl) ?_
  refine lv_iload_n B.1.1 B.1.2.1 dL_law_1414 rfl (hl.at 3 rfl) ?_
  refine lv_iconst (v := 1) B.1.1 B.1.2.1 dL_law_1415 (by decide) ?_
  refine lv_iadd B.1.1 B.1.2.1 dL_law_1416 ?_
  refine y_sld (j := 6 * i + 1) B hX hbl hbA hS (nI_add (6 * i) 1) (by omega) (by omega) dL_law_1417 ?_
  refine y_ci hf (fun q hq => x_runV (ci := 10) (C := RX10) B.1 B.2.2.2 hl hR hS cm_L_194 ⟨rfl, rfl, Nat.le_of_ble_eq_true rfl, Nat.le_of_ble_eq_true rfl⟩ (by decide) rfl k_199 (c_X10_octet k_199 hq) rfl rfl (Nat.le_of_ble_eq_true rfl) dL_law_1418 ⟨by show cells + 0 ≤ 600000; omega, by show slots + 0 ≤ 7302250; omega⟩) hS (fun r2 S3 H locs hf hR hS => ?_)
  simp only [Option.some.injEq, Prod.mk.injEq, decide_eq_true_eq] at hf
  obtain ⟨e1, rfl, rfl⟩ := hf
  refine lv_icmp_eq (tgt := 1426) B.1.1 B.1.2.1 dL_law_1421 (by decide) (fun _ => ?_) (fun h => absurd e1 h)
  exact next _ _ _ _ _ _ _ hI2 hR hS (by omega) (by omega) hl
set_option maxRecDepth 100000 in
set_option maxHeartbeats 4000000 in
theorem law_loop {p : Program} {l : Launch} {e : Env} {s : State} {m : MethodId} {below : List Frame} {meth : Method} {c : Code} {z : Nat} {D : va_G} {dA : Nat → ClassId} {b L : Nat} {xs : Nat → Int32} (hL : L ≤ 3072) (B : xB p s m #[Value.ref b] meth c code RL 4 ret D dA) (hX : va_X b L xs s s.heap) (hbl : b < s.heap.size) (hbA : ¬ xA z b) {INV : Nat → xT → xS → Prop} (hstep : xStep INV) : ∀ (n i : Nat) (T : xT) (S : xS) (H : Heap) (locs : List Loc) (cells slots : Nat) (ls : Array Slot), i ≤ 512 → 512 < i + n → INV i T S → xRel z D dA T S H → va_S (xA z) s.heap H locs → cells ≤ 400 + 12 * i → slots ≤ 20000 + 200 * i → xL ls 4 [some (.ref b), some (.ref (z + 0)), some (.ref (z + 199)), some (.int (nI (6 * i)))] → (z = s.heap.size) → W p l e room_1 s m #[Value.ref b] below meth c H locs cells slots (lw_Z below #[Value.ref b] s) (F0 m 18 ls []) := by
  intro n
  induction n with
  | zero =>
    intro i T S H locs cells slots ls h1 h2
    exact absurd h2 (by omega)
  | succ n ih =>
    intro i T S H locs cells slots ls h1 h2 hI hR hS hc hs hl hz
    have hbA' : ¬ (fun q : Nat => z ≤ q) b := hbA
    refine lv_iload_n B.1.1 B.1.2.1 dL_law_18 rfl (hl.at 3 rfl) ?_
    refine lv_aload_n B.1.1 B.1.2.1 dL_law_19 rfl (hl.at 0 rfl) ?_
    refine va_slen B.1.1 B.1.2.1 hX hbl hbA hS dL_law_20 ?_
    refine lv_bipush (v := 6) B.1.1 B.1.2.1 dL_law_21 (by decide) ?_
    refine lv_isub B.1.1 B.1.2.1 dL_law_23 ?_
    have hcmp : (Int32.ofNat L - 6 < nI (6 * i)) ↔ ¬ (6 * i + 5 < L) := by
      have e6 : (6 : Int32) = nI 6 := rfl
      have eL : Int32.ofNat L = nI L := rfl
      rw [eL, e6, Int32.lt_iff_toInt_lt, pk_sub_toInt (by omega) (by omega), nI_toInt (by omega)]
      omega
    refine lv_icmp_gt (tgt := 1432) B.1.1 B.1.2.1 dL_law_24 (by decide) (fun h => ?_) (fun h => ?_)
    · refine lv_iconst (v := 1) B.1.1 B.1.2.1 dL_law_1432 (by decide) ?_
      refine va_forget (fun q hq => ?_) ?_
      · have := hS.2.2 q hq
        have hzq : z ≤ q.base := this
        omega
      · refine W.widen (k := 600000) (n := 7302250) (by omega) (by omega) ?_
        exact lw_ret B.1.1 B.1.2.1 B.2.1 B.2.2.1 dL_law_1433
    · have hin : 6 * i + 5 < L := Classical.byContradiction (fun q => h (hcmp.mpr q))
      have hi : i < 512 := by omega
      have next : ∀ (T : xT) (S : xS) (H : Heap) (locs : List Loc) (cells slots : Nat) (ls : Array Slot), INV (i + 1) T S → xRel z D dA T S H → va_S (xA z) s.heap H locs → cells ≤ 400 + 12 * (i + 1) → slots ≤ 20000 + 200 * (i + 1) → xL ls 4 [some (.ref b), some (.ref (z + 0)), some (.ref (z + 199)), some (.int (nI (6 * i)))] → W p l e room_1 s m #[Value.ref b] below meth c H locs cells slots (lw_Z below #[Value.ref b] s) (F0 m 1426 ls []) := by
        intro T S H locs cells slots ls hI hR hS hc hs hl
        refine x_iinc (v := nI (6 * (i + 1))) B.1 hl dL_law_1426 rfl (by show nI (6 * i) + nI 6 = _; rw [nI_add]; rfl) (by decide) rfl rfl (fun ls hl => ?_)
        refine lv_goto (tgt := 18) B.1.1 B.1.2.1 dL_law_1429 (by decide) ?_
        exact ih (i + 1) T S H locs cells slots ls (by omega) (by omega) hI hR hS hc hs hl hz
      refine lv_aload_n B.1.1 B.1.2.1 dL_law_27 rfl (hl.at 0 rfl) ?_
      refine lv_iload_n B.1.1 B.1.2.1 dL_law_28 rfl (hl.at 3 rfl) ?_
      refine y_sld (j := 6 * i) B hX hbl hbA hS rfl (by omega) (by omega) dL_law_29 ?_
      refine lv_bipush (v := 63) B.1.1 B.1.2.1 dL_law_30 (by decide) ?_
      refine lv_iand B.1.1 B.1.2.1 dL_law_32 ?_
      by_cases c0 : xs (6 * i) &&& 63 = 0
      · refine y_tcase (k := 0) (off := 191) (tgt := 224) B c0 dL_law_33 (by decide) (by decide) (by decide) (by decide) ?_
        exact law_0 hL B hX hbl hbA hstep hi hin hI hR hS hc hs hl next
      by_cases c1 : xs (6 * i) &&& 63 = 1
      · refine y_tcase (k := 1) (off := 254) (tgt := 287) B c1 dL_law_33 (by decide) (by decide) (by decide) (by decide) ?_
        exact law_1 hL B hX hbl hbA hstep hi hin hI hR hS hc hs hl next
      by_cases c2 : xs (6 * i) &&& 63 = 2
      · refine y_tcase (k := 2) (off := 277) (tgt := 310) B c2 dL_law_33 (by decide) (by decide) (by decide) (by decide) ?_
        exact law_2 hL B hX hbl hbA hstep hi hin hI hR hS hc hs hl next
      by_cases c3 : xs (6 * i) &&& 63 = 3
      · refine y_tcase (k := 3) (off := 290) (tgt := 323) B c3 dL_law_33 (by decide) (by decide) (by decide) (by decide) ?_
        exact law_3 hL B hX hbl hbA hstep hi hin hI hR hS hc hs hl next
      by_cases c4 : xs (6 * i) &&& 63 = 4
      · refine y_tcase (k := 4) (off := 303) (tgt := 336) B c4 dL_law_33 (by decide) (by decide) (by decide) (by decide) ?_
        exact law_4 hL B hX hbl hbA hstep hi hin hI hR hS hc hs hl next
      by_cases c5 : xs (6 * i) &&& 63 = 5
      · refine y_tcase (k := 5) (off := 336) (tgt := 369) B c5 dL_law_33 (by decide) (by decide) (by decide) (by decide) ?_
        exact law_5 hL B hX hbl hbA hstep hi hin hI hR hS hc hs hl next
      by_cases c6 : xs (6 * i) &&& 63 = 6
      · refine y_tcase (k := 6) (off := 369) (tgt := 402) B c6 dL_law_33 (by decide) (by decide) (by decide) (by decide) ?_
        exact law_6 hL B hX hbl hbA hstep hi hin hI hR hS hc hs hl next
      by_cases c7 : xs (6 * i) &&& 63 = 7
      · refine y_tcase (k := 7) (off := 392) (tgt := 425) B c7 dL_law_33 (by decide) (by decide) (by decide) (by decide) ?_
        exact law_7 hL B hX hbl hbA hstep hi hin hI hR hS hc hs hl next
      by_cases c8 : xs (6 * i) &&& 63 = 8
      · refine y_tcase (k := 8) (off := 425) (tgt := 458) B c8 dL_law_33 (by decide) (by decide) (by decide) (by decide) ?_
        exact law_8 hL B hX hbl hbA hstep hi hin hI hR hS hc hs hl next
      by_cases c9 : xs (6 * i) &&& 63 = 9
      · refine y_tcase (k := 9) (off := 458) (tgt := 491) B c9 dL_law_33 (by decide) (by decide) (by decide) (by decide) ?_
        exact law_9 hL B hX hbl hbA hstep hi hin hI hR hS hc hs hl next
      by_cases c10 : xs (6 * i) &&& 63 = 10
      · refine y_tcase (k := 10) (off := 491) (tgt := 524) B c10 dL_law_33 (by decide) (by decide) (by decide) (by decide) ?_
        exact law_10 hL B hX hbl hbA hstep hi hin hI hR hS hc hs hl next
      by_cases c11 : xs (6 * i) &&& 63 = 11
      · refine y_tcase (k := 11) (off := 514) (tgt := 547) B c11 dL_law_33 (by decide) (by decide) (by decide) (by decide) ?_
        exact law_11 hL B hX hbl hbA hstep hi hin hI hR hS hc hs hl next
      by_cases c12 : xs (6 * i) &&& 63 = 12
      · refine y_tcase (k := 12) (off := 547) (tgt := 580) B c12 dL_law_33 (by decide) (by decide) (by decide) (by decide) ?_
        exact law_12 hL B hX hbl hbA hstep hi hin hI hR hS hc hs hl next
      by_cases c13 : xs (6 * i) &&& 63 = 13
      · refine y_tcase (k := 13) (off := 580) (tgt := 613) B c13 dL_law_33 (by decide) (by decide) (by decide) (by decide) ?_
        exact law_13 hL B hX hbl hbA hstep hi hin hI hR hS hc hs hl next
      by_cases c14 : xs (6 * i) &&& 63 = 14
      · refine y_tcase (k := 14) (off := 613) (tgt := 646) B c14 dL_law_33 (by decide) (by decide) (by decide) (by decide) ?_
        exact law_14 hL B hX hbl hbA hstep hi hin hI hR hS hc hs hl next
      by_cases c15 : xs (6 * i) &&& 63 = 15
      · refine y_tcase (k := 15) (off := 646) (tgt := 679) B c15 dL_law_33 (by decide) (by decide) (by decide) (by decide) ?_
        exact law_15 hL B hX hbl hbA hstep hi hin hI hR hS hc hs hl next
      by_cases c16 : xs (6 * i) &&& 63 = 16
      · refine y_tcase (k := 16) (off := 689) (tgt := 722) B c16 dL_law_33 (by decide) (by decide) (by decide) (by decide) ?_
        exact law_16 hL B hX hbl hbA hstep hi hin hI hR hS hc hs hl next
      by_cases c17 : xs (6 * i) &&& 63 = 17
      · refine y_tcase (k := 17) (off := 712) (tgt := 745) B c17 dL_law_33 (by decide) (by decide) (by decide) (by decide) ?_
        exact law_17 hL B hX hbl hbA hstep hi hin hI hR hS hc hs hl next
      by_cases c18 : xs (6 * i) &&& 63 = 18
      · refine y_tcase (k := 18) (off := 745) (tgt := 778) B c18 dL_law_33 (by decide) (by decide) (by decide) (by decide) ?_
        exact law_18 hL B hX hbl hbA hstep hi hin hI hR hS hc hs hl next
      by_cases c19 : xs (6 * i) &&& 63 = 19
      · refine y_tcase (k := 19) (off := 778) (tgt := 811) B c19 dL_law_33 (by decide) (by decide) (by decide) (by decide) ?_
        exact law_19 hL B hX hbl hbA hstep hi hin hI hR hS hc hs hl next
      by_cases c20 : xs (6 * i) &&& 63 = 20
      · refine y_tcase (k := 20) (off := 811) (tgt := 844) B c20 dL_law_33 (by decide) (by decide) (by decide) (by decide) ?_
        exact law_20 hL B hX hbl hbA hstep hi hin hI hR hS hc hs hl next
      by_cases c21 : xs (6 * i) &&& 63 = 21
      · refine y_tcase (k := 21) (off := 844) (tgt := 877) B c21 dL_law_33 (by decide) (by decide) (by decide) (by decide) ?_
        exact law_21 hL B hX hbl hbA hstep hi hin hI hR hS hc hs hl next
      by_cases c22 : xs (6 * i) &&& 63 = 22
      · refine y_tcase (k := 22) (off := 867) (tgt := 900) B c22 dL_law_33 (by decide) (by decide) (by decide) (by decide) ?_
        exact law_22 hL B hX hbl hbA hstep hi hin hI hR hS hc hs hl next
      by_cases c23 : xs (6 * i) &&& 63 = 23
      · refine y_tcase (k := 23) (off := 880) (tgt := 913) B c23 dL_law_33 (by decide) (by decide) (by decide) (by decide) ?_
        exact law_23 hL B hX hbl hbA hstep hi hin hI hR hS hc hs hl next
      by_cases c24 : xs (6 * i) &&& 63 = 24
      · refine y_tcase (k := 24) (off := 913) (tgt := 946) B c24 dL_law_33 (by decide) (by decide) (by decide) (by decide) ?_
        exact law_24 hL B hX hbl hbA hstep hi hin hI hR hS hc hs hl next
      by_cases c25 : xs (6 * i) &&& 63 = 25
      · refine y_tcase (k := 25) (off := 926) (tgt := 959) B c25 dL_law_33 (by decide) (by decide) (by decide) (by decide) ?_
        exact law_25 hL B hX hbl hbA hstep hi hin hI hR hS hc hs hl next
      by_cases c26 : xs (6 * i) &&& 63 = 26
      · refine y_tcase (k := 26) (off := 959) (tgt := 992) B c26 dL_law_33 (by decide) (by decide) (by decide) (by decide) ?_
        exact law_26 hL B hX hbl hbA hstep hi hin hI hR hS hc hs hl next
      by_cases c27 : xs (6 * i) &&& 63 = 27
      · refine y_tcase (k := 27) (off := 972) (tgt := 1005) B c27 dL_law_33 (by decide) (by decide) (by decide) (by decide) ?_
        exact law_27 hL B hX hbl hbA hstep hi hin hI hR hS hc hs hl next
      by_cases c28 : xs (6 * i) &&& 63 = 28
      · refine y_tcase (k := 28) (off := 985) (tgt := 1018) B c28 dL_law_33 (by decide) (by decide) (by decide) (by decide) ?_
        exact law_28 hL B hX hbl hbA hstep hi hin hI hR hS hc hs hl next
      by_cases c29 : xs (6 * i) &&& 63 = 29
      · refine y_tcase (k := 29) (off := 1008) (tgt := 1041) B c29 dL_law_33 (by decide) (by decide) (by decide) (by decide) ?_
        exact law_29 hL B hX hbl hbA hstep hi hin hI hR hS hc hs hl next
      by_cases c30 : xs (6 * i) &&& 63 = 30
      · refine y_tcase (k := 30) (off := 1051) (tgt := 1084) B c30 dL_law_33 (by decide) (by decide) (by decide) (by decide) ?_
        exact law_30 hL B hX hbl hbA hstep hi hin hI hR hS hc hs hl next
      by_cases c31 : xs (6 * i) &&& 63 = 31
      · refine y_tcase (k := 31) (off := 1074) (tgt := 1107) B c31 dL_law_33 (by decide) (by decide) (by decide) (by decide) ?_
        exact law_31 hL B hX hbl hbA hstep hi hin hI hR hS hc hs hl next
      by_cases c32 : xs (6 * i) &&& 63 = 32
      · refine y_tcase (k := 32) (off := 1097) (tgt := 1130) B c32 dL_law_33 (by decide) (by decide) (by decide) (by decide) ?_
        exact law_32 hL B hX hbl hbA hstep hi hin hI hR hS hc hs hl next
      by_cases c33 : xs (6 * i) &&& 63 = 33
      · refine y_tcase (k := 33) (off := 1110) (tgt := 1143) B c33 dL_law_33 (by decide) (by decide) (by decide) (by decide) ?_
        exact law_33 hL B hX hbl hbA hstep hi hin hI hR hS hc hs hl next
      by_cases c34 : xs (6 * i) &&& 63 = 34
      · refine y_tcase (k := 34) (off := 1143) (tgt := 1176) B c34 dL_law_33 (by decide) (by decide) (by decide) (by decide) ?_
        exact law_34 hL B hX hbl hbA hstep hi hin hI hR hS hc hs hl next
      by_cases c35 : xs (6 * i) &&& 63 = 35
      · refine y_tcase (k := 35) (off := 1186) (tgt := 1219) B c35 dL_law_33 (by decide) (by decide) (by decide) (by decide) ?_
        exact law_35 hL B hX hbl hbA hstep hi hin hI hR hS hc hs hl next
      by_cases c36 : xs (6 * i) &&& 63 = 36
      · refine y_tcase (k := 36) (off := 1199) (tgt := 1232) B c36 dL_law_33 (by decide) (by decide) (by decide) (by decide) ?_
        exact law_36 hL B hX hbl hbA hstep hi hin hI hR hS hc hs hl next
      by_cases c37 : xs (6 * i) &&& 63 = 37
      · refine y_tcase (k := 37) (off := 1232) (tgt := 1265) B c37 dL_law_33 (by decide) (by decide) (by decide) (by decide) ?_
        exact law_37 hL B hX hbl hbA hstep hi hin hI hR hS hc hs hl next
      by_cases c38 : xs (6 * i) &&& 63 = 38
      · refine y_tcase (k := 38) (off := 1275) (tgt := 1308) B c38 dL_law_33 (by decide) (by decide) (by decide) (by decide) ?_
        exact law_38 hL B hX hbl hbA hstep hi hin hI hR hS hc hs hl next
      by_cases c39 : xs (6 * i) &&& 63 = 39
      · refine y_tcase (k := 39) (off := 1298) (tgt := 1331) B c39 dL_law_33 (by decide) (by decide) (by decide) (by decide) ?_
        exact law_39 hL B hX hbl hbA hstep hi hin hI hR hS hc hs hl next
      by_cases c40 : xs (6 * i) &&& 63 = 40
      · refine y_tcase (k := 40) (off := 1311) (tgt := 1344) B c40 dL_law_33 (by decide) (by decide) (by decide) (by decide) ?_
        exact law_40 hL B hX hbl hbA hstep hi hin hI hR hS hc hs hl next
      by_cases c41 : xs (6 * i) &&& 63 = 41
      · refine y_tcase (k := 41) (off := 1334) (tgt := 1367) B c41 dL_law_33 (by decide) (by decide) (by decide) (by decide) ?_
        exact law_41 hL B hX hbl hbA hstep hi hin hI hR hS hc hs hl next
      by_cases c42 : xs (6 * i) &&& 63 = 42
      · refine y_tcase (k := 42) (off := 1357) (tgt := 1390) B c42 dL_law_33 (by decide) (by decide) (by decide) (by decide) ?_
        exact law_42 hL B hX hbl hbA hstep hi hin hI hR hS hc hs hl next
      by_cases c43 : xs (6 * i) &&& 63 = 43
      · refine y_tcase (k := 43) (off := 1370) (tgt := 1403) B c43 dL_law_33 (by decide) (by decide) (by decide) (by decide) ?_
        exact law_43 hL B hX hbl hbA hstep hi hin hI hR hS hc hs hl next
      have n0 := lv_neT c0 (a := 0) (by decide)
      have n1 := lv_neT c1 (a := 1) (by decide)
      have n2 := lv_neT c2 (a := 2) (by decide)
      have n3 := lv_neT c3 (a := 3) (by decide)
      have n4 := lv_neT c4 (a := 4) (by decide)
      have n5 := lv_neT c5 (a := 5) (by decide)
      have n6 := lv_neT c6 (a := 6) (by decide)
      have n7 := lv_neT c7 (a := 7) (by decide)
      have n8 := lv_neT c8 (a := 8) (by decide)
      have n9 := lv_neT c9 (a := 9) (by decide)
      have n10 := lv_neT c10 (a := 10) (by decide)
      have n11 := lv_neT c11 (a := 11) (by decide)
      have n12 := lv_neT c12 (a := 12) (by decide)
      have n13 := lv_neT c13 (a := 13) (by decide)
      have n14 := lv_neT c14 (a := 14) (by decide)
      have n15 := lv_neT c15 (a := 15) (by decide)
      have n16 := lv_neT c16 (a := 16) (by decide)
      have n17 := lv_neT c17 (a := 17) (by decide)
      have n18 := lv_neT c18 (a := 18) (by decide)
      have n19 := lv_neT c19 (a := 19) (by decide)
      have n20 := lv_neT c20 (a := 20) (by decide)
      have n21 := lv_neT c21 (a := 21) (by decide)
      have n22 := lv_neT c22 (a := 22) (by decide)
      have n23 := lv_neT c23 (a := 23) (by decide)
      have n24 := lv_neT c24 (a := 24) (by decide)
      have n25 := lv_neT c25 (a := 25) (by decide)
      have n26 := lv_neT c26 (a := 26) (by decide)
      have n27 := lv_neT c27 (a := 27) (by decide)
      have n28 := lv_neT c28 (a := 28) (by decide)
      have n29 := lv_neT c29 (a := 29) (by decide)
      have n30 := lv_neT c30 (a := 30) (by decide)
      have n31 := lv_neT c31 (a := 31) (by decide)
      have n32 := lv_neT c32 (a := 32) (by decide)
      have n33 := lv_neT c33 (a := 33) (by decide)
      have n34 := lv_neT c34 (a := 34) (by decide)
      have n35 := lv_neT c35 (a := 35) (by decide)
      have n36 := lv_neT c36 (a := 36) (by decide)
      have n37 := lv_neT c37 (a := 37) (by decide)
      have n38 := lv_neT c38 (a := 38) (by decide)
      have n39 := lv_neT c39 (a := 39) (by decide)
      have n40 := lv_neT c40 (a := 40) (by decide)
      have n41 := lv_neT c41 (a := 41) (by decide)
      have n42 := lv_neT c42 (a := 42) (by decide)
      have n43 := lv_neT c43 (a := 43) (by decide)
      refine y_tdef (tgt := 1426) B dL_law_33 (by omega) (by decide) ?_
      obtain ⟨T2, S2, hf, hI2⟩ := hstep.2 i T S hi hI 44 (fun k => xs (6 * i + k))
      unfold xO at hf
      simp only [Option.some.injEq, Prod.mk.injEq, true_and] at hf
      obtain ⟨rfl, rfl⟩ := hf
      exact next _ _ _ _ _ _ _ hI2 hR hS (by omega) (by omega) hl
