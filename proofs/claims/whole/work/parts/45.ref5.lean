/-! steps of a closing in the reference -/
theorem cN_i (n : Int32) : (cN n).toInt = max 0 n.toInt := by
  unfold cN
  by_cases h : n ≤ 0
  · rw [if_pos h]; rw [xle0] at h; rw [show (0 : Int32).toInt = 0 from by decide]; omega
  · rw [if_neg h]; rw [xle0] at h; omega
theorem cN_nn (n : Int32) : 0 ≤ (cN n).toInt := by rw [cN_i]; omega
theorem dl_cN (n : Int32) (w : Nat → Int32) : dl (cN n) w = dl n w := by
  unfold cN
  by_cases h : n ≤ 0
  · rw [if_pos h, dl_np (by decide), dl_np h]
  · rw [if_neg h]
theorem xmm {a t : Int32} (h : 0 ≤ t.toInt) : xmin (xmax 0 a) t = cN (xmin a t) := by
  rw [xeq, xmin_i, xmax_i, cN_i, xmin_i, show (0 : Int32).toInt = 0 from by decide]
  omega
theorem xmm2 (a t : Int32) : xmin (xmax 0 a) (xmax 0 t) = cN (xmin a t) := by
  rw [xeq, xmin_i, xmax_i, xmax_i, cN_i, xmin_i, show (0 : Int32).toInt = 0 from by decide]
  omega
theorem xsn (a c : Int32) : a + -c = a - c := (Int32.sub_eq_add_neg a c).symm
theorem h_charge {T : xT} {S : xS} {b : Nat} {wt pt gq ls sp ro cap du ra sh ow bo ma de u : Nat → Int32} {kn lo pa av ca re ye ch : Int32} (tp : xTp T S.2.2) (hb : S.1 199 1 = nI b) (hb2 : b ≤ 5490) {fa : Int32} (hS : ∀ k, k < 8 → 0 ≤ (sh k).toInt) (hSt : 0 ≤ (xtot sh).toInt) (hO : ∀ k, k < 8 → 0 ≤ (clB fa sh ow k).toInt) (hOt : 0 ≤ (xtot (clB fa sh ow)).toInt) : ∃ wt' pt', f_X10_chargeBack T (rS S b wt pt gq ls sp (enc kn lo ro pa av ca re ye ch cap du ra sh ow bo ma de u)) 199 fa = some (rS S b wt' pt' gq ls sp (enc kn lo (rop 1 (clC fa re sh ow) (rop 0 (clA fa sh) ro)) pa av ca (clr1 fa re sh ow) ye ch (fun k => cap k + clC fa re sh ow k) du ra (fun k => sh k - clA fa sh k) (fun k => clB fa sh ow k - clC fa re sh ow k) bo ma de u)) := by
  unfold f_X10_chargeBack
  have eA : clA fa sh = dl (xmin fa (xtot sh)) sh := rfl
  have eB : clB fa sh ow = fun k => ow k + dl (xmin fa (xtot sh)) sh k := rfl
  have eC : clC fa re sh ow = dl (xmin re (xtot (clB fa sh ow))) (clB fa sh ow) := rfl
  refine ⟨clB fa sh ow, clC fa re sh ow, ?_⟩
  rw [h_by_sh tp hb hb2, xcv_e, h_greater, xc_e, h_sumOf_sh tp hb hb2, xc_e, h_lesser, xc_e, xmm hSt, h_deal tp hb hb2 hS (cN_nn _), dl_cN, xcv_e, h_notes_shm tp hb hb2 (q := 0) (q' := 0) (by decide) rfl, xcv_e, h_moves_owp tp hb hb2, xcv_e, h_by_ow tp hb hb2, xcv_e, rget_2 tp hb hb2, xc_e, h_greater, xc_e, h_sumOf_ow tp hb hb2, xc_e, h_lesser, xc_e, xl_e, ← eB, xmm hOt, h_deal tp hb hb2 hO (cN_nn _), dl_cN, xcv_e, ← eC, h_notes_capp tp hb hb2 (q := 1) (q' := 1) (by decide) rfl, xcv_e, h_moves_owm tp hb hb2, xcv_e, rmore_2 tp hb hb2, xcv_e, xsn]
  rfl
theorem h_loss {T : xT} {S : xS} {b : Nat} {wt pt gq ls sp ro cap du ra sh ow bo ma de u : Nat → Int32} {kn lo pa av ca re ye ch : Int32} (tp : xTp T S.2.2) (hb : S.1 199 1 = nI b) (hb2 : b ≤ 5490) {ri : Int32} (hra : ∀ k, k < 8 → 0 ≤ (ra k).toInt) : ∃ wt' pt', f_X10_takeLoss T (rS S b wt pt gq ls sp (enc kn lo ro pa av ca re ye ch cap du ra sh ow bo ma de u)) 199 ri = some (rS S b wt' pt' gq ls sp (enc kn lo (rop 2 (clD ri re pa ra) ro) pa av ca (re + cN (xmin ri (-re))) ye ch (fun k => cap k - clD ri re pa ra k) du ra (fun k => sh k + clD ri re pa ra k) ow bo ma de u)) := by
  unfold f_X10_takeLoss
  have eD : clD ri re pa ra = dl (xmin ri (-re)) (wq pa ra) := rfl
  refine ⟨wq pa ra, clD ri re pa ra, ?_⟩
  rw [h_greater, xc_e, rget_2 tp hb hb2, xc_e, h_greater, xc_e, h_lesser, xc_e, xl_e, rget_0 tp hb hb2, xc_e, h_wratio tp hb hb2 hra, xcv_e, xmm2, h_deal tp hb hb2 (wq_nn hra) (cN_nn _), dl_cN, xcv_e, ← eD, h_notes_capm tp hb hb2 (q := 2) (q' := 2) (by decide) rfl, xcv_e, h_moves_shp tp hb hb2, xcv_e, rmore_2 tp hb hb2, xcv_e]
theorem L_rcure {T : xT} {S : xS} {b : Nat} {wt pt gq ls sp ro cap du ra sh ow bo ma de u : Nat → Int32} {kn lo pa av ca re ye ch : Int32} (tp : xTp T S.2.2) (hb : S.1 199 1 = nI b) (hb2 : b ≤ 5490) (ht : 0 ≤ (xtot (cW pa cap du sh)).toInt) : ∀ (m i n : Nat) (c : Int32), i + m = 8 → m < n → xsm (cW pa cap du sh) m i c = xtot (cW pa cap du sh) → f_X10_cure_4 T n (rS S b (xm i (cW pa cap du sh) wt) pt gq ls sp (enc kn lo ro pa av ca re ye ch cap du ra sh ow bo ma de u)) 199 c (nI i) = some (rS S b (cW pa cap du sh) (clE re pa cap du sh) gq ls sp (enc kn lo (rop 3 (clE re pa cap du sh) ro) pa av ca (re - cN (xmin re (xtot (cW pa cap du sh)))) ye ch (fun k => cap k + clE re pa cap du sh k) du ra sh ow bo ma de u)) := by
  intro m
  induction m with
  | zero =>
    intro i n c hi hn hs
    obtain ⟨n, rfl⟩ : ∃ n', n = n' + 1 := ⟨n - 1, by omega⟩
    obtain rfl : i = 8 := by omega
    have hs' : c = xtot (cW pa cap du sh) := hs
    have eE : clE re pa cap du sh = dl (xmin re (xtot (cW pa cap du sh))) (cW pa cap du sh) := rfl
    unfold f_X10_cure_4
    rw [if_pos x8_t, rc_wt xm_8, hs', rget_2 tp hb hb2, xc_e, h_greater, xc_e, h_lesser, xc_e, xl_e, xmm ht, h_deal tp hb hb2 (cW_nn pa cap du sh) (cN_nn _), dl_cN, xcv_e, ← eE, h_notes_capp tp hb hb2 (q := 3) (q' := 3) (by decide) rfl, xcv_e, rmore_2 tp hb hb2, xcv_e, xsn]
  | succ m ih =>
    intro i n c hi hn hs
    obtain ⟨n, rfl⟩ : ∃ n', n = n' + 1 := ⟨n - 1, by omega⟩
    have hi8 : i < 8 := by omega
    unfold f_X10_cure_4
    have e : cW pa cap du sh i = if xb pa i = 0 then 0 else xmax 0 (-du i - sh i - cap i) := rfl
    have hs' : xsm (cW pa cap du sh) m (i + 1) (c + cW pa cap du sh i) = xtot (cW pa cap du sh) := hs
    have e3 := xm_s i (cW pa cap du sh) wt
    have hr := ih (i + 1) n (c + cW pa cap du sh i) (by omega) (by omega) hs'
    by_cases hx : xb pa i = 0
    · rw [if_pos hx] at e
      rw [e] at e3 hr
      simp (disch := first | assumption | omega | ((repeat first | apply rS_tp | apply xI_tp | apply xJ_tp | apply xw_tp); exact tp) | (apply xn8 tp; decide)) only [↓xl_e, ↓xc_e, ↓xcv_e, ↓xpi_e, ↓reduceIte, ↓rr_199_15, ↓rr_199_16, ↓rr_199_17, ↓rr_199_18, ↓rr_199_19, ↓xai_w, ↓xst_w, ↓xaj_w, ↓xsj_w, rr_pt, rr_gq, rr_ls, rr_sp, rw_pt, rw_gq, rw_ls, rw_sp, rj_wt, rk_wt, ↓rget_0, ↓rget_1, ↓rget_2, ↓rget_3, ↓rget_4, ↓rget_308, ↓rget_309, ↓rput_0, ↓rput_1, ↓rput_2, ↓rput_3, ↓rput_4, ↓rput_308, ↓rput_309, ↓rmore_1, ↓rmore_2, ↓rmore_3, rget, rput, rmore, er_pa, er_ye, er_re, er_ca, er_ch, er_kn, er_lo, er_cap, er_du, er_ra, er_sh, er_ow, er_ro, er_av, er_bo, er_ma, er_de, ew_cap, ew_du, ew_ra, ew_sh, ew_ow, ew_ro, ew_bo, ew_ma, ew_de, ew_on, ew_off, x8_ff, nI_1, xb_e, xup_at, xm_n, xm_at, x00, ix_5, ix_13, ix_21, ix_29, ix_37, ix_78, ix_160, ix_208, ix_310, xc8, h_there tp hb hb2 hi8, hx, f_X10_cure_39, e3, hr]
    · rw [if_neg hx] at e
      rw [e] at e3 hr
      simp (disch := first | assumption | omega | ((repeat first | apply rS_tp | apply xI_tp | apply xJ_tp | apply xw_tp); exact tp) | (apply xn8 tp; decide)) only [↓xl_e, ↓xc_e, ↓xcv_e, ↓xpi_e, ↓reduceIte, ↓rr_199_15, ↓rr_199_16, ↓rr_199_17, ↓rr_199_18, ↓rr_199_19, ↓xai_w, ↓xst_w, ↓xaj_w, ↓xsj_w, rr_pt, rr_gq, rr_ls, rr_sp, rw_pt, rw_gq, rw_ls, rw_sp, rj_wt, rk_wt, ↓rget_0, ↓rget_1, ↓rget_2, ↓rget_3, ↓rget_4, ↓rget_308, ↓rget_309, ↓rput_0, ↓rput_1, ↓rput_2, ↓rput_3, ↓rput_4, ↓rput_308, ↓rput_309, ↓rmore_1, ↓rmore_2, ↓rmore_3, rget, rput, rmore, er_pa, er_ye, er_re, er_ca, er_ch, er_kn, er_lo, er_cap, er_du, er_ra, er_sh, er_ow, er_ro, er_av, er_bo, er_ma, er_de, ew_cap, ew_du, ew_ra, ew_sh, ew_ow, ew_ro, ew_bo, ew_ma, ew_de, ew_on, ew_off, x8_ff, nI_1, xb_e, xup_at, xm_n, xm_at, x00, ix_5, ix_13, ix_21, ix_29, ix_37, ix_78, ix_160, ix_208, ix_310, xc8, h_there tp hb hb2 hi8, hx, h_floor tp hb hb2 hi8, h_greater, f_X10_cure_39, e3, hr]
theorem h_cure {T : xT} {S : xS} {b : Nat} {wt pt gq ls sp ro cap du ra sh ow bo ma de u : Nat → Int32} {kn lo pa av ca re ye ch : Int32} (tp : xTp T S.2.2) (hb : S.1 199 1 = nI b) (hb2 : b ≤ 5490) (ht : 0 ≤ (xtot (cW pa cap du sh)).toInt) : ∃ wt' pt', f_X10_cure T (rS S b wt pt gq ls sp (enc kn lo ro pa av ca re ye ch cap du ra sh ow bo ma de u)) 199 = some (rS S b wt' pt' gq ls sp (enc kn lo (rop 3 (clE re pa cap du sh) ro) pa av ca (re - cN (xmin re (xtot (cW pa cap du sh)))) ye ch (fun k => cap k + clE re pa cap du sh k) du ra sh ow bo ma de u)) := by
  have h : f_X10_cure_4 T xfu (rS S b (xm 0 (cW pa cap du sh) wt) pt gq ls sp (enc kn lo ro pa av ca re ye ch cap du ra sh ow bo ma de u)) 199 0 (nI 0) = _ := L_rcure tp hb hb2 ht 8 0 xfu 0 rfl (by decide) rfl
  rw [xm_0] at h
  exact ⟨_, _, h⟩
