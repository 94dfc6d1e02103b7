set_option maxRecDepth 100000 in
set_option maxHeartbeats 4000000 in
theorem x_env {args : Array Value} {s : State} (hts : ∀ w ∈ lw_tbl, w.before args s = true) (hgv : (Jvm.Cond.and given_1 narrow_1).before args s = true) : ∃ (D : va_G) (dA : Nat → ClassId), dA 99 = s.heap.size ∧ va_K D vwCl (xtys dA) s ∧ xNest dA s := by
  have hw : ∀ w ∈ xW, w.before args s = true := fun w h => hts w (List.mem_filter.mp h).1
  have hs := flat_of_before _ hgv
  obtain ⟨c0, i0, h0⟩ := u_known (C := RX0) (T := TX0) (N := 6) hw cl_X0.2.1 (hw _ tw_98)
  obtain ⟨c1, i1, h1⟩ := u_known (C := RX1) (T := TX1) (N := 14) hw cl_X1.2.1 (hw _ tw_223)
  obtain ⟨c2, i2, h2⟩ := u_known (C := RX2) (T := TX2) (N := 8) hw cl_X2.2.1 (hw _ tw_63)
  obtain ⟨c3, i3, h3⟩ := u_known (C := RX3) (T := TX3) (N := 8) hw cl_X3.2.1 (hw _ tw_28)
  obtain ⟨c4, i4, h4⟩ := u_known (C := RX4) (T := TX4) (N := 11) hw cl_X4.2.1 (hw _ tw_174)
  obtain ⟨c5, i5, h5⟩ := u_known (C := RX5) (T := TX5) (N := 4) hw cl_X5.2.1 (hw _ tw_144)
  obtain ⟨c6, i6, h6⟩ := u_known (C := RX6) (T := TX6) (N := 2) hw cl_X6.2.1 (hw _ tw_129)
  obtain ⟨c7, i7, h7⟩ := u_known (C := RX7) (T := TX7) (N := 3) hw cl_X7.2.1 (hw _ tw_303)
  obtain ⟨c8, i8, h8⟩ := u_known (C := RX8) (T := TX8) (N := 3) hw cl_X8.2.1 (hw _ tw_146)
  obtain ⟨c9, i9, h9⟩ := u_known (C := RX9) (T := TX9) (N := 12) hw cl_X9.2.1 (hw _ tw_20)
  obtain ⟨c10, i10, h10⟩ := u_known (C := RX10) (T := TX10) (N := 34) hw cl_X10.2.1 (hw _ tw_1050)
  obtain ⟨a0, ka0, co0, f0, g0, e0⟩ := Cond.arrayClass_spec (hw _ tw_61)
  obtain ⟨a1, ka1, co1, f1, g1, e1⟩ := Cond.arrayClass_spec (hw _ tw_1167)
  obtain ⟨a2, ka2, co2, f2, g2, e2⟩ := Cond.arrayClass_spec (hw _ tw_536)
  obtain ⟨a3, ka3, co3, f3, g3, e3⟩ := Cond.arrayClass_spec (hw _ tw_1166)
  obtain ⟨a4, ka4, co4, f4, g4, e4⟩ := Cond.arrayClass_spec (hw _ tw_217)
  have hao : (Cond.arrayOver (.object "PartnerBooks$State")).before args s = true := hts _ (xt_one 339 (by decide +kernel))
  obtain ⟨co5, a5, ka5, f5, -, g5, e5, m5⟩ := Cond.arrayOver_spec hao
  have hA : ∀ a : Nat, a < s.heap.size → ¬ (fun q : Nat => s.heap.size ≤ q) a := fun a h q => absurd q (Nat.not_le.mpr h)
  obtain ⟨adK, adV, hv, ht⟩ := vk_Sof (args := args) (s := s) (N := 22) (tm := xtm) (len := xlen) (byt := xbyt) (A := fun q => s.heap.size ≤ q) (fun i _ => xlen_lt i) (fun i hi => hs _ (xs_ex i hi)) (fun i hi => hs _ (xs_co i hi)) (fun i hi => hs _ (xs_ar i hi)) (fun i hi => hs _ (xs_le i hi)) (fun i hi j hj => hs _ (xs_el i hi j hj)) (fun i j hi hj hij => by
    rcases Nat.lt_or_gt_of_ne hij with h | h
    · exact Or.inl (hs _ (xs_ne i hi j hj h))
    · exact Or.inr (hs _ (xs_ne j hj i hi h))) hA
  have hz1 := va_Zof (args := args) (A := fun q => s.heap.size ≤ q) (hts _ (xt_one 428 (by decide +kernel))) (hw _ tw_13) (va_eqt (hs _ xs_cs)) hA
  have hz2 := va_Zqof (args := args) (A := fun q => s.heap.size ≤ q) (hts _ (xt_one 444 (by decide +kernel))) (hts _ (xt_one 15 (by decide +kernel))) (hs _ xs_si) hA
  refine ⟨(fun k => match k with | 0 => c0 | 1 => c1 | 2 => c2 | 3 => c3 | 4 => c4 | 5 => c5 | 6 => c6 | 7 => c7 | 8 => c8 | 9 => c9 | _ => c10, fun k => match k with | 0 => i0 | 1 => i1 | 2 => i2 | 3 => i3 | 4 => i4 | 5 => i5 | 6 => i6 | 7 => i7 | 8 => i8 | 9 => i9 | _ => i10), (fun k => if k < 6 then (match k with | 0 => a0 | 1 => a1 | 2 => a2 | 3 => a3 | 4 => a4 | _ => a5) else if k = 99 then s.heap.size else if k < 200 then adK (k - 100) else adV (k - 200)), rfl, ⟨?_, ?_⟩, ?_⟩
  · intro q r hr
    match q with
    | 0 => cases hr; exact h0
    | 1 => cases hr; exact h1
    | 2 => cases hr; exact h2
    | 3 => cases hr; exact h3
    | 4 => cases hr; exact h4
    | 5 => cases hr; exact h5
    | 6 => cases hr; exact h6
    | 7 => cases hr; exact h7
    | 8 => cases hr; exact h8
    | 9 => cases hr; exact h9
    | 10 => cases hr; exact h10
    | q + 11 => simp [vwCl] at hr
  · intro q r hr
    match q with
    | 0 => cases hr; exact ⟨fun n w => ⟨fun k h => (by cases h), ka0, g0, co0, e0⟩, f0⟩
    | 1 => cases hr; exact ⟨fun n w => ⟨fun k h => (by cases h), ka1, g1, co1, e1⟩, f1⟩
    | 2 => cases hr; exact ⟨fun n w => ⟨fun k h => (by cases h), ka2, g2, co2, e2⟩, f2⟩
    | 3 => cases hr; exact ⟨fun n w => ⟨fun k h => (by cases h), ka3, g3, co3, e3⟩, f3⟩
    | 4 => cases hr; exact ⟨fun n w => ⟨fun k h => (by cases h), ka4, g4, co4, e4⟩, f4⟩
    | 5 => cases hr; exact ⟨fun n w => ⟨fun k h => (by cases h), ka5, g5, co5, e5⟩, ⟨ka5, co5, g5, e5, f5, m5⟩⟩
    | q + 6 => simp [xtys] at hr
  · have eK : (fun i : Nat => (fun k : Nat => if k < 6 then (match k with | 0 => a0 | 1 => a1 | 2 => a2 | 3 => a3 | 4 => a4 | _ => a5) else if k = 99 then s.heap.size else if k < 200 then adK (k - 100) else adV (k - 200)) (100 + i)) = fun i => if i < 100 then adK i else adV (i - 100) := by
      funext i
      show (if 100 + i < 6 then _ else if 100 + i = 99 then _ else if 100 + i < 200 then adK (100 + i - 100) else adV (100 + i - 200)) = _
      rw [if_neg (by omega), if_neg (by omega)]
      by_cases h : i < 100
      · rw [if_pos (by omega), if_pos h]; congr 1; omega
      · rw [if_neg (by omega), if_neg h]; congr 1; omega
    have eV : (fun i : Nat => (fun k : Nat => if k < 6 then (match k with | 0 => a0 | 1 => a1 | 2 => a2 | 3 => a3 | 4 => a4 | _ => a5) else if k = 99 then s.heap.size else if k < 200 then adK (k - 100) else adV (k - 200)) (200 + i)) = adV := by
      funext i
      show (if 200 + i < 6 then _ else if 200 + i = 99 then _ else if 200 + i < 200 then adK (200 + i - 100) else adV (200 + i - 200)) = _
      rw [if_neg (by omega), if_neg (by omega), if_neg (by omega)]; congr 1; omega
    refine ⟨fun q hq => va_Nw.of rfl (hts _ (xt_nest _ (List.mem_map.mpr ⟨q, hq, rfl⟩))), fun q hq => ?_, ?_, hz1, hz2, va_AO.of hao⟩
    · obtain ⟨i, hi⟩ := List.getElem?_of_mem hq
      have hlt : i < 22 := (List.getElem?_eq_some_iff.mp hi).1
      have hq0 : xsl.getD i xd0 = q := by rw [List.getD_eq_getElem?_getD, hi]; rfl
      have hn := xsl_i i hlt
      rw [hq0] at hn
      have h1 := ht i hlt
      unfold xtm at h1
      rw [hq0] at h1
      have ha : (fun k : Nat => if k < 6 then (match k with | 0 => a0 | 1 => a1 | 2 => a2 | 3 => a3 | 4 => a4 | _ => a5) else if k = 99 then s.heap.size else if k < 200 then adK (k - 100) else adV (k - 200)) (100 + q.2.2.2) = adK i := by
        rw [hn]
        have := congrFun eK i
        rw [if_pos (by omega)] at this
        exact this
      rw [ha]
      exact vk_R.of (hts _ (xt_str _ (List.mem_map.mpr ⟨q, hq, rfl⟩))) h1
    · show vk_S 22 xlen xbyt (fun i : Nat => (fun k : Nat => if k < 6 then (match k with | 0 => a0 | 1 => a1 | 2 => a2 | 3 => a3 | 4 => a4 | _ => a5) else if k = 99 then s.heap.size else if k < 200 then adK (k - 100) else adV (k - 200)) (100 + i)) (fun i : Nat => (fun k : Nat => if k < 6 then (match k with | 0 => a0 | 1 => a1 | 2 => a2 | 3 => a3 | 4 => a4 | _ => a5) else if k = 99 then s.heap.size else if k < 200 then adK (k - 100) else adV (k - 200)) (200 + i)) (fun q => s.heap.size ≤ q) s s.heap
      rw [eK, eV]
      refine ⟨fun i hi => ?_, fun i j hi hj h => ?_⟩
      · show va_O _ (if i < 100 then adK i else adV (i - 100)) _ _ _ ∧ va_OF _ _ _ _ (if i < 100 then adK i else adV (i - 100)) _ _ _ ∧ va_OF _ _ _ _ (if i < 100 then adK i else adV (i - 100)) _ _ _ ∧ _
        rw [if_pos (by omega)]
        exact hv.1 i hi
      · have h2 : (if i < 100 then adK i else adV (i - 100)) = (if j < 100 then adK j else adV (j - 100)) := h
        rw [if_pos (by omega), if_pos (by omega)] at h2
        exact hv.2 i j hi hj h2
def xT0 : xT := (fun _ => 0, fun _ => 0, 0)
def xS0 : xS := (fun _ _ => 0, fun _ _ => 0, fun _ _ => none)
/-- both objects made -/
def xStart : Option (xT × xS) := xnw xT0 xS0 9 0 (fun a1 T1 S1 => xcT (f_X9_init T1 S1 a1) (fun T2 S2 => xgd (decide (a1 = 0)) (xnw T2 S2 10 0 (fun a2 T3 S3 => xcT (f_X10_init T3 S3 a2) (fun T4 S4 => xgd (decide (a2 = 199)) (some (T4, S4)))))))
set_option maxRecDepth 100000 in
set_option maxHeartbeats 4000000 in
/-- the walk of the law's body over the steps of both -/
theorem whole_open {p : Program} {e : Env} {s : State} {m : MethodId} {below : List Frame} {meth : Method} {c : Code} (l : Launch) {b L : Nat} {xs : Nat → Int32} (hL : L ≤ 3072) (C0 : lw_At p s m meth c b L xs) {INV : Nat → xT → xS → Prop} (hstep : xStep INV) {q : xT × xS} (hf : xStart = some q) (h0 : INV 0 q.1 q.2) : W p l e room_1 s m #[Value.ref b] below meth c s.heap [] 0 0 (lw_Z below #[Value.ref b] s) (entryFrame m ([Value.ref b] : List Value).toArray 4) := by
  obtain ⟨hx, hb, hr, hml, hown, hts, hX, hbl, hlocks, hgv⟩ := C0
  obtain ⟨D, dA, hz, hK, hN⟩ := x_env hts hgv
  have hw : ∀ w ∈ xW, w.before #[Value.ref b] s = true := fun w h => hts w (List.mem_filter.mp h).1
  have B : xB p s m #[Value.ref b] meth c code RL 4 ret D dA := ⟨⟨hx, hb, hown, hw, hK, hN⟩, hr, hlocks, hml⟩
  have hbA : ¬ xA s.heap.size b := Nat.not_le.mpr hbl
  have hR : xRel s.heap.size D dA xT0 xS0 s.heap := ⟨⟨rfl, hz.symm⟩, fun a h => absurd h (Nat.not_lt_zero a)⟩
  have hS : va_S (xA s.heap.size) s.heap s.heap [] := va_S.rf
  have hl := lv_entry ([Value.ref b]) (n := 4) (Nat.le_of_ble_eq_true rfl)
  rw [lg_entry_eq]
  have hl : xL _ 4 [some (.ref b), none, none, none] := xL_entry [Value.ref b] hl (r := 3) rfl
  generalize (lg_sl [Value.ref b] ++ List.replicate (4 - (lg_sl [Value.ref b]).length) Slot.unset).toArray = ls at hl ⊢
  unfold xStart at hf
  refine y_new B hR hS hf nw_L_7 ⟨Nat.le_of_ble_eq_true rfl, Nat.le_of_ble_eq_true rfl⟩ dL_law_0 (fun a1 T1 S1 H k_a1 hf hR hS => ?_)
  refine lv_dup B.1.1 B.1.2.1 dL_law_3 rfl ?_
  refine y_cT hf (fun q hq => x_runI B.1 B.2.2.2 hl hR hS cm_L_9 ⟨rfl, rfl, Nat.le_of_ble_eq_true rfl, Nat.le_of_ble_eq_true rfl⟩ (c_X9_init k_a1 hq) rfl rfl (Nat.le_of_ble_eq_true rfl) dL_law_4 ⟨Nat.le_of_ble_eq_true rfl, Nat.le_of_ble_eq_true rfl⟩) hS (fun T2 S2 H locs hf hR hS => ?_)
  obtain ⟨e1, hf2⟩ := x_ok hf
  have e1 : a1 = 0 := of_decide_eq_true e1
  subst e1
  refine x_astore_n B.1 hl dL_law_7 rfl (by decide) rfl rfl (fun ls hl => ?_)
  have hl : xL ls 4 [_, _, _, _] := hl
  refine y_new B hR hS hf2 nw_L_10 ⟨Nat.le_of_ble_eq_true rfl, Nat.le_of_ble_eq_true rfl⟩ dL_law_8 (fun a2 T3 S3 H k_a2 hf hR hS => ?_)
  refine lv_dup B.1.1 B.1.2.1 dL_law_11 rfl ?_
  refine y_cT hf (fun q hq => x_runI B.1 B.2.2.2 hl hR hS cm_L_12 ⟨rfl, rfl, Nat.le_of_ble_eq_true rfl, Nat.le_of_ble_eq_true rfl⟩ (c_X10_init k_a2 hq) rfl rfl (Nat.le_of_ble_eq_true rfl) dL_law_12 ⟨Nat.le_of_ble_eq_true rfl, Nat.le_of_ble_eq_true rfl⟩) hS (fun T4 S4 H locs hf hR hS => ?_)
  obtain ⟨e2, hf3⟩ := x_ok hf
  have e2 : a2 = 199 := of_decide_eq_true e2
  subst e2
  cases hf3
  refine x_astore_n B.1 hl dL_law_15 rfl (by decide) rfl rfl (fun ls hl => ?_)
  have hl : xL ls 4 [_, _, _, _] := hl
  refine lv_iconst (v := 0) B.1.1 B.1.2.1 dL_law_16 (by decide) ?_
  refine x_istore_n B.1 hl dL_law_17 rfl (by decide) rfl rfl (fun ls hl => ?_)
  have hl : xL ls 4 [_, _, _, _] := hl
  exact law_loop hL B hX hbl hbA hstep 513 0 T4 S4 H locs _ _ ls (by omega) (by omega) h0 hR hS (Nat.le_of_ble_eq_true rfl) (Nat.le_of_ble_eq_true rfl) hl rfl
