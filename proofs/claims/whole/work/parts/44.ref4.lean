/-! a sale of all in the reference -/
def rsu (u : Nat → Int32) (k : Nat) : Int32 := u (78 + 9 * k)
def rtw (u : Nat → Int32) (k p : Nat) : Int32 := u (78 + 9 * k + 1 + p)
def rTo (u : Nat → Int32) (fi : Nat) : Prop := u 77 = nI fi ∧ fi < 9 ∧ (∀ k p, k ≤ fi → p < 8 → 0 ≤ (rtw u k p).toInt ∧ (rtw u k p).toInt ≤ 99) ∧ ∀ k, k < fi → 0 < (rsu u k).toInt
theorem rget_77 {T : xT} {S : xS} {b : Nat} {wt pt gq ls sp ro cap du ra sh ow bo ma de u : Nat → Int32} {kn lo pa av ca re ye ch : Int32} (tp : xTp T S.2.2) (hb : S.1 199 1 = nI b) (hb2 : b ≤ 5490) : f_X10_get T (rS S b wt pt gq ls sp (enc kn lo ro pa av ca re ye ch cap du ra sh ow bo ma de u)) 199 (77 : Int32) = some (u 77, (rS S b wt pt gq ls sp (enc kn lo ro pa av ca re ye ch cap du ra sh ow bo ma de u))) := by
  have h := rget (T := T) (S := S) (b := b) (wt := wt) (pt := pt) (gq := gq) (ls := ls) (sp := sp) (r := (enc kn lo ro pa av ca re ye ch cap du ra sh ow bo ma de u)) (k := 77) tp hb hb2 (by decide)
  rw [er_u (by decide)] at h
  exact h
theorem ix78 (k : Nat) : (78 : Int32) + (9 : Int32) * nI k = nI (78 + 9 * k) := by
  rw [show (9 : Int32) * nI k = nI (9 * k) from pk_mul 9 k, ix_78]
theorem rget_su {T : xT} {S : xS} {b : Nat} {wt pt gq ls sp ro cap du ra sh ow bo ma de u : Nat → Int32} {kn lo pa av ca re ye ch : Int32} (tp : xTp T S.2.2) (hb : S.1 199 1 = nI b) (hb2 : b ≤ 5490) {k : Nat} (hk : k < 9) : f_X10_get T (rS S b wt pt gq ls sp (enc kn lo ro pa av ca re ye ch cap du ra sh ow bo ma de u)) 199 ((78 : Int32) + (9 : Int32) * nI k) = some (rsu u k, (rS S b wt pt gq ls sp (enc kn lo ro pa av ca re ye ch cap du ra sh ow bo ma de u))) := by
  rw [ix78, rget tp hb hb2 (by omega), er_u (by omega)]
  rfl
theorem rget_tw {T : xT} {S : xS} {b : Nat} {wt pt gq ls sp ro cap du ra sh ow bo ma de u : Nat → Int32} {kn lo pa av ca re ye ch : Int32} (tp : xTp T S.2.2) (hb : S.1 199 1 = nI b) (hb2 : b ≤ 5490) {k i : Nat} (hk : k < 9) (hi : i < 8) : f_X10_get T (rS S b wt pt gq ls sp (enc kn lo ro pa av ca re ye ch cap du ra sh ow bo ma de u)) 199 ((((78 : Int32) + (9 : Int32) * nI k) + (1 : Int32)) + nI i) = some (rtw u k i, (rS S b wt pt gq ls sp (enc kn lo ro pa av ca re ye ch cap du ra sh ow bo ma de u))) := by
  rw [ix78, show nI (78 + 9 * k) + (1 : Int32) = nI (78 + 9 * k + 1) from nI_add _ 1, nI_add, rget tp hb hb2 (by omega), er_u (by omega)]
  rfl
theorem L_rtier {T : xT} {S : xS} {b : Nat} {wt pt gq ls sp ro cap du ra sh ow bo ma de u : Nat → Int32} {kn lo pa av ca re ye ch : Int32} (tp : xTp T S.2.2) (hb : S.1 199 1 = nI b) (hb2 : b ≤ 5490) {k : Nat} (hk : k < 9) : ∀ (m i n : Nat), i + m = 8 → m < n → f_X10_weighTier_2 T n (rS S b (xm i (wr pa (rtw u k)) wt) pt gq ls sp (enc kn lo ro pa av ca re ye ch cap du ra sh ow bo ma de u)) 199 (nI k) (nI i) = some (rS S b (wr pa (rtw u k)) pt gq ls sp (enc kn lo ro pa av ca re ye ch cap du ra sh ow bo ma de u)) := by
  intro m
  induction m with
  | zero =>
    intro i n hi hn
    obtain ⟨n, rfl⟩ : ∃ n', n = n' + 1 := ⟨n - 1, by omega⟩
    obtain rfl : i = 8 := by omega
    unfold f_X10_weighTier_2
    rw [if_pos x8_t, rc_wt xm_8]
  | succ m ih =>
    intro i n hi hn
    obtain ⟨n, rfl⟩ : ∃ n', n = n' + 1 := ⟨n - 1, by omega⟩
    have hi8 : i < 8 := by omega
    unfold f_X10_weighTier_2
    have e : wr pa (rtw u k) i = if xb pa i = 0 then 0 else rtw u k i := rfl
    have e3 := xm_s i (wr pa (rtw u k)) wt
    have h0 : (0 : Int64) = (0 : Int32).toInt64 := rfl
    rw [if_neg (x8_f hi8), rr_199_15 (S := (rS S b (xm i (wr pa (rtw u k)) wt) pt gq ls sp (enc kn lo ro pa av ca re ye ch cap du ra sh ow bo ma de u))) tp, h_there tp hb hb2 hi8, xc_e]
    by_cases hx : xb pa i = 0
    · rw [if_pos hx] at e
      rw [e] at e3
      rw [if_pos hx, h0]
      simp (disch := first | assumption | omega | ((repeat first | apply rS_tp | apply xI_tp | apply xJ_tp | apply xw_tp); exact tp) | (apply xn8 tp; decide)) only [↓xl_e, ↓xc_e, ↓xcv_e, ↓xpi_e, ↓reduceIte, ↓rr_199_15, ↓rr_199_16, ↓rr_199_17, ↓rr_199_18, ↓rr_199_19, ↓xai_w, ↓xst_w, ↓xaj_w, ↓xsj_w, rr_pt, rr_gq, rr_ls, rr_sp, rw_pt, rw_gq, rw_ls, rw_sp, rj_wt, rk_wt, ↓rget_0, ↓rget_1, ↓rget_2, ↓rget_3, ↓rget_4, ↓rget_308, ↓rget_309, ↓rput_0, ↓rput_1, ↓rput_2, ↓rput_3, ↓rput_4, ↓rput_308, ↓rput_309, ↓rmore_1, ↓rmore_2, ↓rmore_3, rget, rput, rmore, er_pa, er_ye, er_re, er_ca, er_ch, er_kn, er_lo, er_cap, er_du, er_ra, er_sh, er_ow, er_ro, er_av, er_bo, er_ma, er_de, ew_cap, ew_du, ew_ra, ew_sh, ew_ow, ew_ro, ew_bo, ew_ma, ew_de, ew_on, ew_off, x8_ff, nI_1, xb_e, xup_at, xm_n, xm_at, x00, ix_5, ix_13, ix_21, ix_29, ix_37, ix_78, ix_160, ix_208, ix_310, xc8, e3, ih]
    · rw [if_neg hx] at e
      rw [e] at e3
      rw [if_neg hx, rget_tw tp hb hb2 hk hi8, xc_e]
      simp (disch := first | assumption | omega | ((repeat first | apply rS_tp | apply xI_tp | apply xJ_tp | apply xw_tp); exact tp) | (apply xn8 tp; decide)) only [↓xl_e, ↓xc_e, ↓xcv_e, ↓xpi_e, ↓reduceIte, ↓rr_199_15, ↓rr_199_16, ↓rr_199_17, ↓rr_199_18, ↓rr_199_19, ↓xai_w, ↓xst_w, ↓xaj_w, ↓xsj_w, rr_pt, rr_gq, rr_ls, rr_sp, rw_pt, rw_gq, rw_ls, rw_sp, rj_wt, rk_wt, ↓rget_0, ↓rget_1, ↓rget_2, ↓rget_3, ↓rget_4, ↓rget_308, ↓rget_309, ↓rput_0, ↓rput_1, ↓rput_2, ↓rput_3, ↓rput_4, ↓rput_308, ↓rput_309, ↓rmore_1, ↓rmore_2, ↓rmore_3, rget, rput, rmore, er_pa, er_ye, er_re, er_ca, er_ch, er_kn, er_lo, er_cap, er_du, er_ra, er_sh, er_ow, er_ro, er_av, er_bo, er_ma, er_de, ew_cap, ew_du, ew_ra, ew_sh, ew_ow, ew_ro, ew_bo, ew_ma, ew_de, ew_on, ew_off, x8_ff, nI_1, xb_e, xup_at, xm_n, xm_at, x00, ix_5, ix_13, ix_21, ix_29, ix_37, ix_78, ix_160, ix_208, ix_310, xc8, e3, ih]
theorem h_rtier {T : xT} {S : xS} {b : Nat} {wt pt gq ls sp ro cap du ra sh ow bo ma de u : Nat → Int32} {kn lo pa av ca re ye ch : Int32} (tp : xTp T S.2.2) (hb : S.1 199 1 = nI b) (hb2 : b ≤ 5490) {k : Nat} (hk : k < 9) : f_X10_weighTier T (rS S b wt pt gq ls sp (enc kn lo ro pa av ca re ye ch cap du ra sh ow bo ma de u)) 199 (nI k) = some (rS S b (wr pa (rtw u k)) pt gq ls sp (enc kn lo ro pa av ca re ye ch cap du ra sh ow bo ma de u)) := by
  have h : f_X10_weighTier_2 T xfu (rS S b (xm 0 (wr pa (rtw u k)) wt) pt gq ls sp (enc kn lo ro pa av ca re ye ch cap du ra sh ow bo ma de u)) 199 (nI k) (nI 0) = _ := L_rtier tp hb hb2 hk 8 0 xfu rfl (by decide)
  rw [xm_0] at h
  exact h
theorem L_lay97 {T : xT} {S : xS} {b : Nat} {wt pt gq ls sp ro cap du ra sh ow bo ma de u : Nat → Int32} {kn lo pa av ca re ye ch : Int32} (tp : xTp T S.2.2) (hb : S.1 199 1 = nI b) (hb2 : b ≤ 5490) {rec : xS → Nat → Int32 → Int32 → Option xS} {c mm : Int32} {k : Nat} : ∀ (m i n : Nat), i + m = 8 → m < n → f_X10_laySale_97 T rec n (rS S b wt pt (xm i (fun j => gq j + pt j) gq) ls sp (enc kn lo ro pa av ca re ye ch cap du ra sh ow bo ma de u)) 199 c (nI k) mm (nI i) = rec (rS S b wt pt (fun j => gq j + pt j) ls sp (enc kn lo ro pa av ca re ye ch cap du ra sh ow bo ma de u)) 199 (c - mm) (nI (k + 1)) := by
  intro m
  induction m with
  | zero =>
    intro i n hi hn
    obtain ⟨n, rfl⟩ : ∃ n', n = n' + 1 := ⟨n - 1, by omega⟩
    obtain rfl : i = 8 := by omega
    unfold f_X10_laySale_97
    rw [if_pos x8_t, rc_gq xm_8, xl_e, xl_e, nI_1]
  | succ m ih =>
    intro i n hi hn
    obtain ⟨n, rfl⟩ : ∃ n', n = n' + 1 := ⟨n - 1, by omega⟩
    have hi8 : i < 8 := by omega
    unfold f_X10_laySale_97
    have e3 : va_up (xm i (fun j => gq j + pt j) gq) i (gq i + pt i) = _ := xm_s i (fun j => gq j + pt j) gq
    simp (disch := first | assumption | omega | ((repeat first | apply rS_tp | apply xI_tp | apply xJ_tp | apply xw_tp); exact tp) | (apply xn8 tp; decide)) only [↓xl_e, ↓xc_e, ↓xcv_e, ↓xpi_e, ↓reduceIte, ↓rr_199_15, ↓rr_199_16, ↓rr_199_17, ↓rr_199_18, ↓rr_199_19, ↓xai_w, ↓xst_w, ↓xaj_w, ↓xsj_w, rr_pt, rr_gq, rr_ls, rr_sp, rw_pt, rw_gq, rw_ls, rw_sp, rj_wt, rk_wt, ↓rget_0, ↓rget_1, ↓rget_2, ↓rget_3, ↓rget_4, ↓rget_308, ↓rget_309, ↓rput_0, ↓rput_1, ↓rput_2, ↓rput_3, ↓rput_4, ↓rput_308, ↓rput_309, ↓rmore_1, ↓rmore_2, ↓rmore_3, rget, rput, rmore, er_pa, er_ye, er_re, er_ca, er_ch, er_kn, er_lo, er_cap, er_du, er_ra, er_sh, er_ow, er_ro, er_av, er_bo, er_ma, er_de, ew_cap, ew_du, ew_ra, ew_sh, ew_ow, ew_ro, ew_bo, ew_ma, ew_de, ew_on, ew_off, x8_ff, nI_1, xb_e, xup_at, xm_n, xm_at, x00, ix_5, ix_13, ix_21, ix_29, ix_37, ix_78, ix_160, ix_208, ix_310, xc8, e3, ih]
theorem h_lay97 {T : xT} {S : xS} {b : Nat} {wt pt gq ls sp ro cap du ra sh ow bo ma de u : Nat → Int32} {kn lo pa av ca re ye ch : Int32} (tp : xTp T S.2.2) (hb : S.1 199 1 = nI b) (hb2 : b ≤ 5490) {rec : xS → Nat → Int32 → Int32 → Option xS} {c mm : Int32} {k : Nat} : f_X10_laySale_97 T rec xfu (rS S b wt pt gq ls sp (enc kn lo ro pa av ca re ye ch cap du ra sh ow bo ma de u)) 199 c (nI k) mm 0 = rec (rS S b wt pt (fun j => gq j + pt j) ls sp (enc kn lo ro pa av ca re ye ch cap du ra sh ow bo ma de u)) 199 (c - mm) (nI (k + 1)) := by
  have h : f_X10_laySale_97 T rec xfu (rS S b wt pt (xm 0 (fun j => gq j + pt j) gq) ls sp (enc kn lo ro pa av ca re ye ch cap du ra sh ow bo ma de u)) 199 c (nI k) mm (nI 0) = _ := L_lay97 tp hb hb2 8 0 xfu rfl (by decide)
  rw [xm_0] at h
  exact h
theorem L_lay173 {T : xT} {S : xS} {b : Nat} {wt pt gq ls sp ro cap du ra sh ow bo ma de u : Nat → Int32} {kn lo pa av ca re ye ch : Int32} (tp : xTp T S.2.2) (hb : S.1 199 1 = nI b) (hb2 : b ≤ 5490) {c : Int32} : ∀ (m i n : Nat), i + m = 8 → m < n → f_X10_laySale_173 T n (rS S b wt pt (xm i (fun j => if 0 ≤ c then gq j + pt j else gq j - pt j) gq) ls sp (enc kn lo ro pa av ca re ye ch cap du ra sh ow bo ma de u)) 199 c (nI i) = some (rS S b wt pt (fun j => if 0 ≤ c then gq j + pt j else gq j - pt j) ls sp (enc kn lo ro pa av ca re ye ch cap du ra sh ow bo ma de u)) := by
  intro m
  induction m with
  | zero =>
    intro i n hi hn
    obtain ⟨n, rfl⟩ : ∃ n', n = n' + 1 := ⟨n - 1, by omega⟩
    obtain rfl : i = 8 := by omega
    unfold f_X10_laySale_173
    rw [if_pos x8_t, rc_gq xm_8]
  | succ m ih =>
    intro i n hi hn
    obtain ⟨n, rfl⟩ : ∃ n', n = n' + 1 := ⟨n - 1, by omega⟩
    have hi8 : i < 8 := by omega
    unfold f_X10_laySale_173
    have e3 : va_up (xm i (fun j => if 0 ≤ c then gq j + pt j else gq j - pt j) gq) i (if 0 ≤ c then gq i + pt i else gq i - pt i) = _ := xm_s i (fun j => if 0 ≤ c then gq j + pt j else gq j - pt j) gq
    have hr := ih (i + 1) n (by omega) (by omega)
    rw [if_neg (x8_f hi8)]
    by_cases hc : 0 ≤ c
    · rw [if_pos hc] at e3
      simp (disch := first | assumption | omega | ((repeat first | apply rS_tp | apply xI_tp | apply xJ_tp | apply xw_tp); exact tp) | (apply xn8 tp; decide)) only [hc, ↓xl_e, ↓xc_e, ↓xcv_e, ↓xpi_e, ↓reduceIte, ↓rr_199_15, ↓rr_199_16, ↓rr_199_17, ↓rr_199_18, ↓rr_199_19, ↓xai_w, ↓xst_w, ↓xaj_w, ↓xsj_w, rr_pt, rr_gq, rr_ls, rr_sp, rw_pt, rw_gq, rw_ls, rw_sp, rj_wt, rk_wt, ↓rget_0, ↓rget_1, ↓rget_2, ↓rget_3, ↓rget_4, ↓rget_308, ↓rget_309, ↓rput_0, ↓rput_1, ↓rput_2, ↓rput_3, ↓rput_4, ↓rput_308, ↓rput_309, ↓rmore_1, ↓rmore_2, ↓rmore_3, rget, rput, rmore, er_pa, er_ye, er_re, er_ca, er_ch, er_kn, er_lo, er_cap, er_du, er_ra, er_sh, er_ow, er_ro, er_av, er_bo, er_ma, er_de, ew_cap, ew_du, ew_ra, ew_sh, ew_ow, ew_ro, ew_bo, ew_ma, ew_de, ew_on, ew_off, x8_ff, nI_1, xb_e, xup_at, xm_n, xm_at, x00, ix_5, ix_13, ix_21, ix_29, ix_37, ix_78, ix_160, ix_208, ix_310, xc8] at e3 hr ⊢
      rw [e3, hr]
    · rw [if_neg hc, Int32.sub_eq_add_neg] at e3
      simp (disch := first | assumption | omega | ((repeat first | apply rS_tp | apply xI_tp | apply xJ_tp | apply xw_tp); exact tp) | (apply xn8 tp; decide)) only [hc, ↓xl_e, ↓xc_e, ↓xcv_e, ↓xpi_e, ↓reduceIte, ↓rr_199_15, ↓rr_199_16, ↓rr_199_17, ↓rr_199_18, ↓rr_199_19, ↓xai_w, ↓xst_w, ↓xaj_w, ↓xsj_w, rr_pt, rr_gq, rr_ls, rr_sp, rw_pt, rw_gq, rw_ls, rw_sp, rj_wt, rk_wt, ↓rget_0, ↓rget_1, ↓rget_2, ↓rget_3, ↓rget_4, ↓rget_308, ↓rget_309, ↓rput_0, ↓rput_1, ↓rput_2, ↓rput_3, ↓rput_4, ↓rput_308, ↓rput_309, ↓rmore_1, ↓rmore_2, ↓rmore_3, rget, rput, rmore, er_pa, er_ye, er_re, er_ca, er_ch, er_kn, er_lo, er_cap, er_du, er_ra, er_sh, er_ow, er_ro, er_av, er_bo, er_ma, er_de, ew_cap, ew_du, ew_ra, ew_sh, ew_ow, ew_ro, ew_bo, ew_ma, ew_de, ew_on, ew_off, x8_ff, nI_1, xb_e, xup_at, xm_n, xm_at, x00, ix_5, ix_13, ix_21, ix_29, ix_37, ix_78, ix_160, ix_208, ix_310, xc8] at e3 hr ⊢
      rw [e3, hr]
theorem h_lay173 {T : xT} {S : xS} {b : Nat} {wt pt gq ls sp ro cap du ra sh ow bo ma de u : Nat → Int32} {kn lo pa av ca re ye ch : Int32} (tp : xTp T S.2.2) (hb : S.1 199 1 = nI b) (hb2 : b ≤ 5490) {c : Int32} : f_X10_laySale_173 T xfu (rS S b wt pt gq ls sp (enc kn lo ro pa av ca re ye ch cap du ra sh ow bo ma de u)) 199 c 0 = some (rS S b wt pt (fun j => if 0 ≤ c then gq j + pt j else gq j - pt j) ls sp (enc kn lo ro pa av ca re ye ch cap du ra sh ow bo ma de u)) := by
  have h : f_X10_laySale_173 T xfu (rS S b wt pt (xm 0 (fun j => if 0 ≤ c then gq j + pt j else gq j - pt j) gq) ls sp (enc kn lo ro pa av ca re ye ch cap du ra sh ow bo ma de u)) 199 c (nI 0) = _ := L_lay173 tp hb hb2 8 0 xfu rfl (by decide)
  rw [xm_0] at h
  exact h
theorem h_lay138 {T : xT} {fi : Nat} {S : xS} {b : Nat} {wt pt gq ls sp ro cap du ra sh ow bo ma de u : Nat → Int32} {kn lo pa av ca re ye ch : Int32} (tp : xTp T S.2.2) (hb : S.1 199 1 = nI b) (hb2 : b ≤ 5490) (to : rTo u fi) {c : Int32} (hc : -2147483648 < c.toInt) : ∃ wt' pt', f_X10_laySale_138 T (rS S b wt pt gq ls sp (enc kn lo ro pa av ca re ye ch cap du ra sh ow bo ma de u)) 199 c = some (rS S b wt' pt' (if c = 0 then gq else if c ≤ 0 then fun j => gq j - dl (-c) (wq pa (rtw u fi)) j else fun j => gq j + dl c (wq pa (rtw u fi)) j) ls sp (enc kn lo ro pa av ca re ye ch cap du ra sh ow bo ma de u)) := by
  have h9 := to.2.1
  have hra : ∀ j, j < 8 → 0 ≤ (rtw u fi j).toInt := fun j hj => (to.2.2.1 fi j (Nat.le_refl _) hj).1
  unfold f_X10_laySale_138
  rw [rget_77 tp hb hb2, xc_e, to.1, h_rtier tp hb hb2 h9, xcv_e, rget_0 tp hb hb2, xc_e, h_alike tp hb hb2 (wr_nn hra), xcv_e]
  have ew : (if xhw (wr pa (rtw u fi)) 8 0 0 = 0 then xb pa else wr pa (rtw u fi)) = wq pa (rtw u fi) := rfl
  rw [ew]
  by_cases h0 : 0 ≤ c
  · have h0' := (xge0 c).mp h0
    rw [if_pos h0, h_deal tp hb hb2 (wq_nn hra) h0', xcv_e, xl_e, h_lay173 tp hb hb2]
    refine ⟨wq pa (rtw u fi), dl c (wq pa (rtw u fi)), ?_⟩
    refine congrArg some (rc_gq (fun k hk => ?_))
    rw [if_pos h0]
    by_cases hz : c = 0
    · rw [if_pos hz, dl_np (by rw [hz]; decide), xadd0]
    · rw [if_neg hz, if_neg (by rw [xle0]; rw [xeq0] at hz; omega)]
  · have h0' : c.toInt < 0 := by rw [xge0] at h0; omega
    have hneg : 0 ≤ (-c).toInt := by rw [xneg hc]; omega
    rw [if_neg h0, h_deal tp hb hb2 (wq_nn hra) hneg, xcv_e, xl_e, h_lay173 tp hb hb2]
    refine ⟨wq pa (rtw u fi), dl (-c) (wq pa (rtw u fi)), ?_⟩
    refine congrArg some (rc_gq (fun k hk => ?_))
    rw [if_neg h0, if_neg (by rw [xeq0]; omega), if_pos (by rw [xle0]; omega)]
theorem L_lay25 {T : xT} {fi : Nat} {S : xS} {b : Nat} {ls sp ro cap du ra sh ow bo ma de u : Nat → Int32} {kn lo pa av ca re ye ch : Int32} (tp : xTp T S.2.2) (hb : S.1 199 1 = nI b) (hb2 : b ≤ 5490) (to : rTo u fi) : ∀ (m k n : Nat) (c : Int32) (wt pt gq : Nat → Int32) (f : Int32), k + m = fi → m < n → -2147483648 < c.toInt → ∃ wt' pt', f_X10_laySale_25 T n (rS S b wt pt gq ls sp (enc kn lo ro pa av ca re ye ch cap du ra sh ow bo ma de u)) 199 c (nI k) = some (rS S b wt' pt' (if (sG pa (rsu u) (rtw u) m k c gq f).1 = 0 then (sG pa (rsu u) (rtw u) m k c gq f).2.1 else if (sG pa (rsu u) (rtw u) m k c gq f).1 ≤ 0 then fun j => (sG pa (rsu u) (rtw u) m k c gq f).2.1 j - dl (-(sG pa (rsu u) (rtw u) m k c gq f).1) (wq pa (rtw u fi)) j else fun j => (sG pa (rsu u) (rtw u) m k c gq f).2.1 j + dl (sG pa (rsu u) (rtw u) m k c gq f).1 (wq pa (rtw u fi)) j) ls sp (enc kn lo ro pa av ca re ye ch cap du ra sh ow bo ma de u)) := by
  have h9 := to.2.1
  intro m
  induction m with
  | zero =>
    intro k n c wt pt gq f hk hn hc
    obtain ⟨n, rfl⟩ : ∃ n', n = n' + 1 := ⟨n - 1, by omega⟩
    obtain rfl : k = fi := by omega
    unfold f_X10_laySale_25
    rw [rget_77 tp hb hb2, xc_e, to.1, if_pos (nI_le (Nat.le_refl _) (by omega))]
    exact h_lay138 tp hb hb2 to hc
  | succ m ih =>
    intro k n c wt pt gq f hk hn hc
    obtain ⟨n, rfl⟩ : ∃ n', n = n' + 1 := ⟨n - 1, by omega⟩
    unfold f_X10_laySale_25
    rw [rget_77 tp hb hb2, xc_e, to.1, if_neg (nI_ge (by omega) (by omega))]
    have eG : sG pa (rsu u) (rtw u) (m + 1) k c gq f = if c ≤ 0 then (c, gq, f) else if xhw (wr pa (rtw u k)) 8 0 0 = 0 then sG pa (rsu u) (rtw u) m (k + 1) c gq f else sG pa (rsu u) (rtw u) m (k + 1) (c - xmin c (rsu u k)) (fun j => gq j + dl (xmin c (rsu u k)) (wr pa (rtw u k)) j) (f + 1) := rfl
    rw [eG]
    by_cases hc0 : c ≤ 0
    · rw [if_pos hc0, if_pos hc0]
      exact h_lay138 tp hb hb2 to hc
    · have hcp : 0 < c.toInt := by rw [xle0] at hc0; omega
      have hra : ∀ j, j < 8 → 0 ≤ (rtw u k j).toInt := fun j hj => (to.2.2.1 k j (by omega) hj).1
      have hsu := to.2.2.2 k (by omega)
      rw [if_neg hc0, if_neg hc0, h_rtier tp hb hb2 (by omega), xcv_e, h_sumW tp hb hb2, xc_e]
      by_cases hx : xhw (wr pa (rtw u k)) 8 0 0 = 0
      · rw [if_pos hx, if_pos ((xcmp_z _).mpr ((dAll_0 (wr_nn hra)).mpr hx)), xl_e, nI_1]
        exact ih (k + 1) n c _ pt gq f (by omega) (by omega) hc
      · rw [if_neg hx, if_neg (fun q => hx ((dAll_0 (wr_nn hra)).mp ((xcmp_z _).mp q))), rget_su tp hb hb2 (by omega), xc_e]
        have hmi : (xmin c (rsu u k)).toInt = min c.toInt (rsu u k).toInt := xmin_i _ _
        have hch := xhi c
        have hm0 : 0 ≤ (xmin c (rsu u k)).toInt := by omega
        have hcm : (c - xmin c (rsu u k)).toInt = c.toInt - (xmin c (rsu u k)).toInt := xsub (by omega) (by omega)
        have hr := ih (k + 1) n (c - xmin c (rsu u k)) (wr pa (rtw u k)) (dl (xmin c (rsu u k)) (wr pa (rtw u k))) (fun j => gq j + dl (xmin c (rsu u k)) (wr pa (rtw u k)) j) (f + 1) (by omega) (by omega) (by omega)
        by_cases hs : rsu u k ≤ c
        · have em : xmin c (rsu u k) = rsu u k := by
            rw [xeq, hmi]; rw [xle] at hs; omega
          rw [em] at hr hm0 ⊢
          rw [if_pos hs, rget_su tp hb hb2 (by omega), xc_e, xl_e, h_deal tp hb hb2 (wr_nn hra) hm0, xcv_e, xl_e, h_lay97 tp hb hb2]
          exact hr
        · have em : xmin c (rsu u k) = c := by
            rw [xeq, hmi]; rw [xle] at hs; omega
          rw [em] at hr hm0 ⊢
          rw [if_neg hs, xl_e, h_deal tp hb hb2 (wr_nn hra) hm0, xcv_e, xl_e, h_lay97 tp hb hb2]
          exact hr
theorem L_lay2 {T : xT} {S : xS} {b : Nat} {wt pt gq ls sp ro cap du ra sh ow bo ma de u : Nat → Int32} {kn lo pa av ca re ye ch : Int32} (tp : xTp T S.2.2) (hb : S.1 199 1 = nI b) (hb2 : b ≤ 5490) {c : Int32} : ∀ (m i n : Nat), i + m = 8 → m < n → f_X10_laySale_2 T n (rS S b wt pt (xm i (fun _ => 0) gq) ls sp (enc kn lo ro pa av ca re ye ch cap du ra sh ow bo ma de u)) 199 c (nI i) = f_X10_laySale_25 T xfu (rS S b wt pt (fun _ => 0) ls sp (enc kn lo ro pa av ca re ye ch cap du ra sh ow bo ma de u)) 199 c 0 := by
  intro m
  induction m with
  | zero =>
    intro i n hi hn
    obtain ⟨n, rfl⟩ : ∃ n', n = n' + 1 := ⟨n - 1, by omega⟩
    obtain rfl : i = 8 := by omega
    unfold f_X10_laySale_2
    rw [if_pos x8_t, rc_gq xm_8, xl_e, xl_e]
  | succ m ih =>
    intro i n hi hn
    obtain ⟨n, rfl⟩ : ∃ n', n = n' + 1 := ⟨n - 1, by omega⟩
    have hi8 : i < 8 := by omega
    unfold f_X10_laySale_2
    have e3 : va_up (xm i (fun _ => 0) gq) i 0 = _ := xm_s i (fun _ => 0) gq
    simp (disch := first | assumption | omega | ((repeat first | apply rS_tp | apply xI_tp | apply xJ_tp | apply xw_tp); exact tp) | (apply xn8 tp; decide)) only [↓xl_e, ↓xc_e, ↓xcv_e, ↓xpi_e, ↓reduceIte, ↓rr_199_15, ↓rr_199_16, ↓rr_199_17, ↓rr_199_18, ↓rr_199_19, ↓xai_w, ↓xst_w, ↓xaj_w, ↓xsj_w, rr_pt, rr_gq, rr_ls, rr_sp, rw_pt, rw_gq, rw_ls, rw_sp, rj_wt, rk_wt, ↓rget_0, ↓rget_1, ↓rget_2, ↓rget_3, ↓rget_4, ↓rget_308, ↓rget_309, ↓rput_0, ↓rput_1, ↓rput_2, ↓rput_3, ↓rput_4, ↓rput_308, ↓rput_309, ↓rmore_1, ↓rmore_2, ↓rmore_3, rget, rput, rmore, er_pa, er_ye, er_re, er_ca, er_ch, er_kn, er_lo, er_cap, er_du, er_ra, er_sh, er_ow, er_ro, er_av, er_bo, er_ma, er_de, ew_cap, ew_du, ew_ra, ew_sh, ew_ow, ew_ro, ew_bo, ew_ma, ew_de, ew_on, ew_off, x8_ff, nI_1, xb_e, xup_at, xm_n, xm_at, x00, ix_5, ix_13, ix_21, ix_29, ix_37, ix_78, ix_160, ix_208, ix_310, xc8, e3, ih]
theorem h_lay {T : xT} {fi : Nat} {S : xS} {b : Nat} {wt pt gq ls sp ro cap du ra sh ow bo ma de u : Nat → Int32} {kn lo pa av ca re ye ch : Int32} (tp : xTp T S.2.2) (hb : S.1 199 1 = nI b) (hb2 : b ≤ 5490) (to : rTo u fi) {c : Int32} (hc : -2147483648 < c.toInt) : ∃ wt' pt', f_X10_laySale T (rS S b wt pt gq ls sp (enc kn lo ro pa av ca re ye ch cap du ra sh ow bo ma de u)) 199 c = some (rS S b wt' pt' (sV pa (rsu u) (rtw u) fi c) ls sp (enc kn lo ro pa av ca re ye ch cap du ra sh ow bo ma de u)) := by
  have h9 := to.2.1
  have h : f_X10_laySale_2 T xfu (rS S b wt pt (xm 0 (fun _ => 0) gq) ls sp (enc kn lo ro pa av ca re ye ch cap du ra sh ow bo ma de u)) 199 c (nI 0) = _ := L_lay2 tp hb hb2 8 0 xfu rfl (by decide)
  rw [xm_0] at h
  obtain ⟨wt', pt', h2⟩ := L_lay25 (T := T) (S := S) (b := b) (ls := ls) (sp := sp) (kn := kn) (lo := lo) (ro := ro) (pa := pa) (av := av) (ca := ca) (re := re) (ye := ye) (ch := ch) (cap := cap) (du := du) (ra := ra) (sh := sh) (ow := ow) (bo := bo) (ma := ma) (de := de) (u := u) tp hb hb2 to fi 0 xfu c wt pt (fun _ => 0) 0 (by omega) (by show fi < 1000; omega) hc
  exact ⟨wt', pt', h.trans h2⟩
