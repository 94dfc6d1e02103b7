/-! steps of a closing, on the class's desk -/
def cN (n : Int32) : Int32 := if n ≤ 0 then 0 else n
theorem dl_np {n : Int32} {w : Nat → Int32} (h : n ≤ 0) : dl n w = fun _ => 0 := by
  funext k
  exact congrFun (if_neg (fun q => by have h1 := (xle0 n).mp h; have h2 := (xgt0 n).mp q.1; omega)) k
theorem rop_0 {q : Nat} {ro : Nat → Int32} (h : ∀ k, 8 * q ≤ k → k < 8 * q + 8 → ro k = 0) : rop q (fun _ => 0) ro = ro := by
  funext k
  unfold rop
  by_cases hk : 8 * q ≤ k ∧ k < 8 * q + 8
  · rw [if_pos hk, h k hk.1 hk.2]
  · rw [if_neg hk]
theorem rop_out {q k : Nat} {p ro : Nat → Int32} (h : k < 8 * q ∨ 8 * q + 8 ≤ k) : rop q p ro k = ro k := by
  unfold rop
  rw [if_neg (by omega)]
theorem rop_in {q k : Nat} {p ro : Nat → Int32} (h : k < 8) : rop q p ro (8 * q + k) = p k := by
  unfold rop
  rw [if_pos (by omega)]
  congr 1; omega
theorem xsub0 (a : Int32) : a - 0 = a := Int32.sub_zero a
theorem xf_add0 (f : Nat → Int32) : (fun k => f k + (fun _ => (0 : Int32)) k) = f := funext fun k => xadd0 _
theorem xf_sub0 (f : Nat → Int32) : (fun k => f k - (fun _ => (0 : Int32)) k) = f := funext fun k => xsub0 _
theorem g_charge59 {T : xT} {S : xS} {b t : Nat} {gv gp w p l r ro cap du ra sh ow bo ma de : Nat → Int32} {tf ll kn lo pa av ca re ye ch : Int32} (o : xbt b t) (tp : xTp T S.2.2) (hO : ∀ k, k < 8 → 0 ≤ (ow k).toInt) (hz : ∀ k, 8 ≤ k → k < 16 → ro k = 0) : ∃ p', f_X2_chargeBack_59 T (kS S b t gv gp tf ll w p l r kn lo ro pa av ca re ye ch cap du ra sh ow bo ma de) 3 b t = some (kS S b t gv gp tf ll w p' l r kn lo (rop 1 (dl (xmin re (xtot ow)) ow) ro) pa av ca (re - cN (xmin re (xtot ow))) ye ch (fun k => cap k + dl (xmin re (xtot ow)) ow k) du ra sh (fun k => ow k - dl (xmin re (xtot ow)) ow k) bo ma de) := by
  unfold f_X2_chargeBack_59
  by_cases hc : xmin re (xtot ow) ≤ 0
  · refine ⟨p, ?_⟩
    have e : cN (xmin re (xtot ow)) = 0 := if_pos hc
    rw [dl_np hc, xf_add0, xf_sub0, rop_0 (q := 1) hz, e, xsub0]
    simp (disch := first | assumption | omega | ((repeat first | apply kS_tp | apply xI_tp | apply xw_tp); exact tp) | (apply xn8 tp; decide) | (apply xnb o tp; omega)) only [↓xl_e, ↓xc_e, ↓xcv_e, ↓xpi_e, ↓reduceIte, ↓rr_3_0, ↓rr_3_1, ↓rr_3_4, ↓rr_3_5, ↓rr_3_6, ↓rr_3_7, ↓kg_6, ↓kg_7, ↓kg_8, ↓kg_9, ↓kg_10, ↓kg_11, ↓kg_12, ↓kg_13, ↓kg_t, ↓xai_w, ↓xst_w, kr_gv, kr_gp, kr_w, kr_p, kr_l, kr_r, kr_cap, kr_du, kr_ra, kr_sh, kr_ow, kr_bo, kr_ma, kr_de, kr_ro, kr_tf, kr_ll, kr_kn, kr_lo, kr_pa, kr_av, kr_ca, kr_re, kr_ye, kr_ch, kw_gv, kw_gp, kw_w, kw_p, kw_l, kw_r, kw_cap, kw_du, kw_ra, kw_sh, kw_ow, kw_bo, kw_ma, kw_de, kw_ro, kw_tf, kw_ll, kw_kn, kw_lo, kw_pa, kw_av, kw_ca, kw_re, kw_ye, kw_ch, x8_ff, nI_1, xb_e, xup_at, xm_n, xm_at, x00, g_tot_ow o tp, hc]
  · refine ⟨dl (xmin re (xtot ow)) ow, ?_⟩
    have e : cN (xmin re (xtot ow)) = xmin re (xtot ow) := if_neg hc
    rw [e]
    simp (disch := first | assumption | omega | ((repeat first | apply kS_tp | apply xI_tp | apply xw_tp); exact tp) | (apply xn8 tp; decide) | (apply xnb o tp; omega)) only [↓xl_e, ↓xc_e, ↓xcv_e, ↓xpi_e, ↓reduceIte, ↓rr_3_0, ↓rr_3_1, ↓rr_3_4, ↓rr_3_5, ↓rr_3_6, ↓rr_3_7, ↓kg_6, ↓kg_7, ↓kg_8, ↓kg_9, ↓kg_10, ↓kg_11, ↓kg_12, ↓kg_13, ↓kg_t, ↓xai_w, ↓xst_w, kr_gv, kr_gp, kr_w, kr_p, kr_l, kr_r, kr_cap, kr_du, kr_ra, kr_sh, kr_ow, kr_bo, kr_ma, kr_de, kr_ro, kr_tf, kr_ll, kr_kn, kr_lo, kr_pa, kr_av, kr_ca, kr_re, kr_ye, kr_ch, kw_gv, kw_gp, kw_w, kw_p, kw_l, kw_r, kw_cap, kw_du, kw_ra, kw_sh, kw_ow, kw_bo, kw_ma, kw_de, kw_ro, kw_tf, kw_ll, kw_kn, kw_lo, kw_pa, kw_av, kw_ca, kw_re, kw_ye, kw_ch, x8_ff, nI_1, xb_e, xup_at, xm_n, xm_at, x00, g_tot_ow o tp, hc, g_deal_ow o tp hO, g_add_cap_p o tp, g_take_ow_p o tp, g_row_1 o tp]
theorem g_charge {T : xT} {S : xS} {b t : Nat} {gv gp w p l r ro cap du ra sh ow bo ma de : Nat → Int32} {tf ll kn lo pa av ca re ye ch : Int32} {fa : Int32} (o : xbt b t) (tp : xTp T S.2.2) (hS : ∀ k, k < 8 → 0 ≤ (sh k).toInt) (hO : ∀ k, k < 8 → 0 ≤ (ow k + dl (xmin fa (xtot sh)) sh k).toInt) (hz : ∀ k, k < 16 → ro k = 0) : ∃ p', f_X2_chargeBack T (kS S b t gv gp tf ll w p l r kn lo ro pa av ca re ye ch cap du ra sh ow bo ma de) 3 b fa t = some (kS S b t gv gp tf ll w p' l r kn lo (rop 1 (dl (xmin re (xtot (fun k => ow k + dl (xmin fa (xtot sh)) sh k))) (fun k => ow k + dl (xmin fa (xtot sh)) sh k)) (rop 0 (dl (xmin fa (xtot sh)) sh) ro)) pa av ca (re - cN (xmin re (xtot (fun k => ow k + dl (xmin fa (xtot sh)) sh k)))) ye ch (fun k => cap k + dl (xmin re (xtot (fun k => ow k + dl (xmin fa (xtot sh)) sh k))) (fun k => ow k + dl (xmin fa (xtot sh)) sh k) k) du ra (fun k => sh k - dl (xmin fa (xtot sh)) sh k) (fun k => (ow k + dl (xmin fa (xtot sh)) sh k) - dl (xmin re (xtot (fun k => ow k + dl (xmin fa (xtot sh)) sh k))) (fun k => ow k + dl (xmin fa (xtot sh)) sh k) k) bo ma de) := by
  unfold f_X2_chargeBack
  by_cases hc : xmin fa (xtot sh) ≤ 0
  · rw [dl_np hc] at hO ⊢
    rw [xf_sub0, rop_0 (q := 0) (fun k h1 h2 => hz k (by omega)), xf_add0]
    simp (disch := first | assumption | omega | ((repeat first | apply kS_tp | apply xI_tp | apply xw_tp); exact tp) | (apply xn8 tp; decide) | (apply xnb o tp; omega)) only [↓xl_e, ↓xc_e, ↓xcv_e, ↓xpi_e, ↓reduceIte, ↓rr_3_0, ↓rr_3_1, ↓rr_3_4, ↓rr_3_5, ↓rr_3_6, ↓rr_3_7, ↓kg_6, ↓kg_7, ↓kg_8, ↓kg_9, ↓kg_10, ↓kg_11, ↓kg_12, ↓kg_13, ↓kg_t, ↓xai_w, ↓xst_w, kr_gv, kr_gp, kr_w, kr_p, kr_l, kr_r, kr_cap, kr_du, kr_ra, kr_sh, kr_ow, kr_bo, kr_ma, kr_de, kr_ro, kr_tf, kr_ll, kr_kn, kr_lo, kr_pa, kr_av, kr_ca, kr_re, kr_ye, kr_ch, kw_gv, kw_gp, kw_w, kw_p, kw_l, kw_r, kw_cap, kw_du, kw_ra, kw_sh, kw_ow, kw_bo, kw_ma, kw_de, kw_ro, kw_tf, kw_ll, kw_kn, kw_lo, kw_pa, kw_av, kw_ca, kw_re, kw_ye, kw_ch, x8_ff, nI_1, xb_e, xup_at, xm_n, xm_at, x00, g_tot_sh o tp, hc, xadd0]
    exact g_charge59 o tp (fun k hk => by have := hO k hk; rwa [xadd0] at this) (fun k h1 h2 => hz k h2)
  · simp (disch := first | assumption | omega | ((repeat first | apply kS_tp | apply xI_tp | apply xw_tp); exact tp) | (apply xn8 tp; decide) | (apply xnb o tp; omega)) only [↓xl_e, ↓xc_e, ↓xcv_e, ↓xpi_e, ↓reduceIte, ↓rr_3_0, ↓rr_3_1, ↓rr_3_4, ↓rr_3_5, ↓rr_3_6, ↓rr_3_7, ↓kg_6, ↓kg_7, ↓kg_8, ↓kg_9, ↓kg_10, ↓kg_11, ↓kg_12, ↓kg_13, ↓kg_t, ↓xai_w, ↓xst_w, kr_gv, kr_gp, kr_w, kr_p, kr_l, kr_r, kr_cap, kr_du, kr_ra, kr_sh, kr_ow, kr_bo, kr_ma, kr_de, kr_ro, kr_tf, kr_ll, kr_kn, kr_lo, kr_pa, kr_av, kr_ca, kr_re, kr_ye, kr_ch, kw_gv, kw_gp, kw_w, kw_p, kw_l, kw_r, kw_cap, kw_du, kw_ra, kw_sh, kw_ow, kw_bo, kw_ma, kw_de, kw_ro, kw_tf, kw_ll, kw_kn, kw_lo, kw_pa, kw_av, kw_ca, kw_re, kw_ye, kw_ch, x8_ff, nI_1, xb_e, xup_at, xm_n, xm_at, x00, g_tot_sh o tp, hc, g_deal_sh o tp hS, g_take_sh_p o tp, g_add_ow_p o tp, g_row_0 o tp]
    exact g_charge59 o tp hO (fun k h1 h2 => by rw [rop_out (by omega)]; exact hz k h2)
theorem g_loss {T : xT} {S : xS} {b t : Nat} {gv gp w p l r ro cap du ra sh ow bo ma de : Nat → Int32} {tf ll kn lo pa av ca re ye ch : Int32} {ri : Int32} (o : xbt b t) (tp : xTp T S.2.2) (hra : ∀ k, k < 8 → 0 ≤ (ra k).toInt) (hz : ∀ k, 16 ≤ k → k < 24 → ro k = 0) : ∃ w' p', f_X2_takeDebtLoss T (kS S b t gv gp tf ll w p l r kn lo ro pa av ca re ye ch cap du ra sh ow bo ma de) 3 b ri t = some (kS S b t gv gp tf ll w' p' l r kn lo (rop 2 (dl (xmin ri (-re)) (wq pa ra)) ro) pa av ca (re + cN (xmin ri (-re))) ye ch (fun k => cap k - dl (xmin ri (-re)) (wq pa ra) k) du ra (fun k => sh k + dl (xmin ri (-re)) (wq pa ra) k) ow bo ma de) := by
  unfold f_X2_takeDebtLoss
  by_cases hc : xmin ri (-re) ≤ 0
  · refine ⟨w, p, ?_⟩
    have e : cN (xmin ri (-re)) = 0 := if_pos hc
    rw [dl_np hc, xf_add0, xf_sub0, rop_0 (q := 2) hz, e, xadd0]
    simp (disch := first | assumption | omega | ((repeat first | apply kS_tp | apply xI_tp | apply xw_tp); exact tp) | (apply xn8 tp; decide) | (apply xnb o tp; omega)) only [↓xl_e, ↓xc_e, ↓xcv_e, ↓xpi_e, ↓reduceIte, ↓rr_3_0, ↓rr_3_1, ↓rr_3_4, ↓rr_3_5, ↓rr_3_6, ↓rr_3_7, ↓kg_6, ↓kg_7, ↓kg_8, ↓kg_9, ↓kg_10, ↓kg_11, ↓kg_12, ↓kg_13, ↓kg_t, ↓xai_w, ↓xst_w, kr_gv, kr_gp, kr_w, kr_p, kr_l, kr_r, kr_cap, kr_du, kr_ra, kr_sh, kr_ow, kr_bo, kr_ma, kr_de, kr_ro, kr_tf, kr_ll, kr_kn, kr_lo, kr_pa, kr_av, kr_ca, kr_re, kr_ye, kr_ch, kw_gv, kw_gp, kw_w, kw_p, kw_l, kw_r, kw_cap, kw_du, kw_ra, kw_sh, kw_ow, kw_bo, kw_ma, kw_de, kw_ro, kw_tf, kw_ll, kw_kn, kw_lo, kw_pa, kw_av, kw_ca, kw_re, kw_ye, kw_ch, x8_ff, nI_1, xb_e, xup_at, xm_n, xm_at, x00, hc]
  · refine ⟨wq pa ra, dl (xmin ri (-re)) (wq pa ra), ?_⟩
    have e : cN (xmin ri (-re)) = xmin ri (-re) := if_neg hc
    rw [e]
    simp (disch := first | assumption | omega | ((repeat first | apply kS_tp | apply xI_tp | apply xw_tp); exact tp) | (apply xn8 tp; decide) | (apply xnb o tp; omega)) only [↓xl_e, ↓xc_e, ↓xcv_e, ↓xpi_e, ↓reduceIte, ↓rr_3_0, ↓rr_3_1, ↓rr_3_4, ↓rr_3_5, ↓rr_3_6, ↓rr_3_7, ↓kg_6, ↓kg_7, ↓kg_8, ↓kg_9, ↓kg_10, ↓kg_11, ↓kg_12, ↓kg_13, ↓kg_t, ↓xai_w, ↓xst_w, kr_gv, kr_gp, kr_w, kr_p, kr_l, kr_r, kr_cap, kr_du, kr_ra, kr_sh, kr_ow, kr_bo, kr_ma, kr_de, kr_ro, kr_tf, kr_ll, kr_kn, kr_lo, kr_pa, kr_av, kr_ca, kr_re, kr_ye, kr_ch, kw_gv, kw_gp, kw_w, kw_p, kw_l, kw_r, kw_cap, kw_du, kw_ra, kw_sh, kw_ow, kw_bo, kw_ma, kw_de, kw_ro, kw_tf, kw_ll, kw_kn, kw_lo, kw_pa, kw_av, kw_ca, kw_re, kw_ye, kw_ch, x8_ff, nI_1, xb_e, xup_at, xm_n, xm_at, x00, hc, g_ratio o tp hra, g_take_cap_p o tp, g_add_sh_p o tp, g_row_2 o tp]
/-- what each is below what he has to make good -/
def cW (pa : Int32) (cap du sh : Nat → Int32) : Nat → Int32 := fun k => if xb pa k = 0 then 0 else xmax 0 (-du k - sh k - cap k)
theorem cW_nn (pa : Int32) (cap du sh : Nat → Int32) : ∀ k, k < 8 → 0 ≤ (cW pa cap du sh k).toInt := fun k _ => by
  unfold cW
  by_cases hb : xb pa k = 0
  · rw [if_pos hb]; decide
  · rw [if_neg hb, xmax_i, show (0 : Int32).toInt = 0 from by decide]; omega
theorem L_cure {T : xT} {S : xS} {b t : Nat} {gv gp w p l r ro cap du ra sh ow bo ma de : Nat → Int32} {tf ll kn lo pa av ca re ye ch : Int32} (o : xbt b t) (tp : xTp T S.2.2) : ∀ (m i n : Nat), i + m = 8 → m < n → f_X2_cure_10 T n (kS S b t gv gp tf ll (xm i (cW pa cap du sh) w) p l r kn lo ro pa av ca re ye ch cap du ra sh ow bo ma de) 3 b t (nI i) = (if xmin re (xtot (cW pa cap du sh)) ≤ 0 then some (kS S b t gv gp tf ll (cW pa cap du sh) p l r kn lo ro pa av ca re ye ch cap du ra sh ow bo ma de) else some (kS S b t gv gp tf ll (cW pa cap du sh) (dl (xmin re (xtot (cW pa cap du sh))) (cW pa cap du sh)) l r kn lo (rop 3 (dl (xmin re (xtot (cW pa cap du sh))) (cW pa cap du sh)) ro) pa av ca (re - xmin re (xtot (cW pa cap du sh))) ye ch (fun k => cap k + dl (xmin re (xtot (cW pa cap du sh))) (cW pa cap du sh) k) du ra sh ow bo ma de)) := by
  intro m
  induction m with
  | zero =>
    intro i n hi hn
    obtain ⟨n, rfl⟩ : ∃ n', n = n' + 1 := ⟨n - 1, by omega⟩
    obtain rfl : i = 8 := by omega
    unfold f_X2_cure_10
    rw [if_pos x8_t, kc_w xm_8]
    by_cases hc : xmin re (xtot (cW pa cap du sh)) ≤ 0
    · simp (disch := first | assumption | omega | ((repeat first | apply kS_tp | apply xI_tp | apply xw_tp); exact tp) | (apply xn8 tp; decide) | (apply xnb o tp; omega)) only [↓xl_e, ↓xc_e, ↓xcv_e, ↓xpi_e, ↓reduceIte, ↓rr_3_0, ↓rr_3_1, ↓rr_3_4, ↓rr_3_5, ↓rr_3_6, ↓rr_3_7, ↓kg_6, ↓kg_7, ↓kg_8, ↓kg_9, ↓kg_10, ↓kg_11, ↓kg_12, ↓kg_13, ↓kg_t, ↓xai_w, ↓xst_w, kr_gv, kr_gp, kr_w, kr_p, kr_l, kr_r, kr_cap, kr_du, kr_ra, kr_sh, kr_ow, kr_bo, kr_ma, kr_de, kr_ro, kr_tf, kr_ll, kr_kn, kr_lo, kr_pa, kr_av, kr_ca, kr_re, kr_ye, kr_ch, kw_gv, kw_gp, kw_w, kw_p, kw_l, kw_r, kw_cap, kw_du, kw_ra, kw_sh, kw_ow, kw_bo, kw_ma, kw_de, kw_ro, kw_tf, kw_ll, kw_kn, kw_lo, kw_pa, kw_av, kw_ca, kw_re, kw_ye, kw_ch, x8_ff, nI_1, xb_e, xup_at, xm_n, xm_at, x00, g_tot_w o tp, hc]
    · simp (disch := first | assumption | omega | ((repeat first | apply kS_tp | apply xI_tp | apply xw_tp); exact tp) | (apply xn8 tp; decide) | (apply xnb o tp; omega)) only [↓xl_e, ↓xc_e, ↓xcv_e, ↓xpi_e, ↓reduceIte, ↓rr_3_0, ↓rr_3_1, ↓rr_3_4, ↓rr_3_5, ↓rr_3_6, ↓rr_3_7, ↓kg_6, ↓kg_7, ↓kg_8, ↓kg_9, ↓kg_10, ↓kg_11, ↓kg_12, ↓kg_13, ↓kg_t, ↓xai_w, ↓xst_w, kr_gv, kr_gp, kr_w, kr_p, kr_l, kr_r, kr_cap, kr_du, kr_ra, kr_sh, kr_ow, kr_bo, kr_ma, kr_de, kr_ro, kr_tf, kr_ll, kr_kn, kr_lo, kr_pa, kr_av, kr_ca, kr_re, kr_ye, kr_ch, kw_gv, kw_gp, kw_w, kw_p, kw_l, kw_r, kw_cap, kw_du, kw_ra, kw_sh, kw_ow, kw_bo, kw_ma, kw_de, kw_ro, kw_tf, kw_ll, kw_kn, kw_lo, kw_pa, kw_av, kw_ca, kw_re, kw_ye, kw_ch, x8_ff, nI_1, xb_e, xup_at, xm_n, xm_at, x00, g_tot_w o tp, hc, g_deal_w o tp (cW_nn pa cap du sh), g_add_cap_p o tp, g_row_3 o tp]
  | succ m ih =>
    intro i n hi hn
    obtain ⟨n, rfl⟩ : ∃ n', n = n' + 1 := ⟨n - 1, by omega⟩
    have hi8 : i < 8 := by omega
    unfold f_X2_cure_10
    have e : cW pa cap du sh i = if xb pa i = 0 then 0 else xmax 0 (-du i - sh i - cap i) := rfl
    have e3 := xm_s i (cW pa cap du sh) w
    by_cases hb : xb pa i = 0
    · rw [if_pos hb] at e
      rw [e] at e3
      simp (disch := first | assumption | omega | ((repeat first | apply kS_tp | apply xI_tp | apply xw_tp); exact tp) | (apply xn8 tp; decide) | (apply xnb o tp; omega)) only [↓xl_e, ↓xc_e, ↓xcv_e, ↓xpi_e, ↓reduceIte, ↓rr_3_0, ↓rr_3_1, ↓rr_3_4, ↓rr_3_5, ↓rr_3_6, ↓rr_3_7, ↓kg_6, ↓kg_7, ↓kg_8, ↓kg_9, ↓kg_10, ↓kg_11, ↓kg_12, ↓kg_13, ↓kg_t, ↓xai_w, ↓xst_w, kr_gv, kr_gp, kr_w, kr_p, kr_l, kr_r, kr_cap, kr_du, kr_ra, kr_sh, kr_ow, kr_bo, kr_ma, kr_de, kr_ro, kr_tf, kr_ll, kr_kn, kr_lo, kr_pa, kr_av, kr_ca, kr_re, kr_ye, kr_ch, kw_gv, kw_gp, kw_w, kw_p, kw_l, kw_r, kw_cap, kw_du, kw_ra, kw_sh, kw_ow, kw_bo, kw_ma, kw_de, kw_ro, kw_tf, kw_ll, kw_kn, kw_lo, kw_pa, kw_av, kw_ca, kw_re, kw_ye, kw_ch, x8_ff, nI_1, xb_e, xup_at, xm_n, xm_at, x00, g_has o hi8, hb, e3, ih]
    · rw [if_neg hb] at e
      rw [e] at e3
      have h10 : (1 : Int32) = 0 ↔ False := by decide
      simp (disch := first | assumption | omega | ((repeat first | apply kS_tp | apply xI_tp | apply xw_tp); exact tp) | (apply xn8 tp; decide) | (apply xnb o tp; omega)) only [↓xl_e, ↓xc_e, ↓xcv_e, ↓xpi_e, ↓reduceIte, ↓rr_3_0, ↓rr_3_1, ↓rr_3_4, ↓rr_3_5, ↓rr_3_6, ↓rr_3_7, ↓kg_6, ↓kg_7, ↓kg_8, ↓kg_9, ↓kg_10, ↓kg_11, ↓kg_12, ↓kg_13, ↓kg_t, ↓xai_w, ↓xst_w, kr_gv, kr_gp, kr_w, kr_p, kr_l, kr_r, kr_cap, kr_du, kr_ra, kr_sh, kr_ow, kr_bo, kr_ma, kr_de, kr_ro, kr_tf, kr_ll, kr_kn, kr_lo, kr_pa, kr_av, kr_ca, kr_re, kr_ye, kr_ch, kw_gv, kw_gp, kw_w, kw_p, kw_l, kw_r, kw_cap, kw_du, kw_ra, kw_sh, kw_ow, kw_bo, kw_ma, kw_de, kw_ro, kw_tf, kw_ll, kw_kn, kw_lo, kw_pa, kw_av, kw_ca, kw_re, kw_ye, kw_ch, x8_ff, nI_1, xb_e, xup_at, xm_n, xm_at, x00, g_has o hi8, hb, h10, g_floor o tp hi8, e3, ih]
theorem g_cure {T : xT} {S : xS} {b t : Nat} {gv gp w p l r ro cap du ra sh ow bo ma de : Nat → Int32} {tf ll kn lo pa av ca re ye ch : Int32} (o : xbt b t) (tp : xTp T S.2.2) (hz : ∀ k, 24 ≤ k → k < 32 → ro k = 0) : ∃ w' p', f_X2_cure T (kS S b t gv gp tf ll w p l r kn lo ro pa av ca re ye ch cap du ra sh ow bo ma de) 3 b t = some (kS S b t gv gp tf ll w' p' l r kn lo (rop 3 (dl (xmin re (xtot (cW pa cap du sh))) (cW pa cap du sh)) ro) pa av ca (re - cN (xmin re (xtot (cW pa cap du sh)))) ye ch (fun k => cap k + dl (xmin re (xtot (cW pa cap du sh))) (cW pa cap du sh) k) du ra sh ow bo ma de) := by
  unfold f_X2_cure
  rw [kr_re o]
  by_cases hr : 0 < re
  · rw [if_pos hr, xl_e]
    have h : f_X2_cure_10 T xfu (kS S b t gv gp tf ll (xm 0 (cW pa cap du sh) w) p l r kn lo ro pa av ca re ye ch cap du ra sh ow bo ma de) 3 b t (nI 0) = _ := L_cure o tp 8 0 xfu rfl (by decide)
    rw [xm_0] at h
    have h' : f_X2_cure_10 T xfu (kS S b t gv gp tf ll w p l r kn lo ro pa av ca re ye ch cap du ra sh ow bo ma de) 3 b t 0 = _ := h
    rw [h']
    by_cases hc : xmin re (xtot (cW pa cap du sh)) ≤ 0
    · refine ⟨cW pa cap du sh, p, ?_⟩
      have e : cN (xmin re (xtot (cW pa cap du sh))) = 0 := if_pos hc
      rw [if_pos hc, dl_np hc, xf_add0, rop_0 (q := 3) hz, e, xsub0]
    · refine ⟨cW pa cap du sh, dl (xmin re (xtot (cW pa cap du sh))) (cW pa cap du sh), ?_⟩
      have e : cN (xmin re (xtot (cW pa cap du sh))) = xmin re (xtot (cW pa cap du sh)) := if_neg hc
      rw [if_neg hc, e]
  · refine ⟨w, p, ?_⟩
    have hc : xmin re (xtot (cW pa cap du sh)) ≤ 0 := by
      rw [xle0, xmin_i]
      rw [xgt0] at hr
      omega
    have e : cN (xmin re (xtot (cW pa cap du sh))) = 0 := if_pos hc
    rw [if_neg hr, dl_np hc, xf_add0, rop_0 (q := 3) hz, e, xsub0]
