/-! limits in the reference -/
theorem L_over {T : xT} {S : xS} {b : Nat} {wt pt gq sp ro cap du ra sh ow bo ma de u : Nat → Int32} {kn lo pa av ca re ye ch : Int32} (tp : xTp T S.2.2) (hb : S.1 199 1 = nI b) (hb2 : b ≤ 5490) (l0 : Nat → Int32) : ∀ (m i n : Nat) (c : Int32), i + m = 8 → m < n → f_X10_overSpace_4 T n (rS S b wt pt gq (xm i (xct l0 sp) l0) sp (enc kn lo ro pa av ca re ye ch cap du ra sh ow bo ma de u)) 199 c (nI i) = some (xsm (xcu l0 sp) m i c, (rS S b wt pt gq (xct l0 sp) sp (enc kn lo ro pa av ca re ye ch cap du ra sh ow bo ma de u))) := by
  intro m
  induction m with
  | zero =>
    intro i n c hi hn
    obtain ⟨n, rfl⟩ : ∃ n', n = n' + 1 := ⟨n - 1, by omega⟩
    obtain rfl : i = 8 := by omega
    unfold f_X10_overSpace_4
    rw [if_pos x8_t, rc_ls xm_8]
    rfl
  | succ m ih =>
    intro i n c hi hn
    obtain ⟨n, rfl⟩ : ∃ n', n = n' + 1 := ⟨n - 1, by omega⟩
    have hi8 : i < 8 := by omega
    unfold f_X10_overSpace_4
    have e2 : xsm (xcu l0 sp) (m + 1) i c = xsm (xcu l0 sp) m (i + 1) (c + xcu l0 sp i) := rfl
    have e : xct l0 sp i = if l0 i ≤ sp i then l0 i else sp i := rfl
    have e4 : xcu l0 sp i = if l0 i ≤ sp i then 0 else l0 i - sp i := rfl
    have e3 := xm_s i (xct l0 sp) l0
    rw [e2]
    by_cases hc : l0 i ≤ sp i
    · have hc2 : (sp i < l0 i) = False := eq_false (by rw [xlt]; rw [xle] at hc; omega)
      rw [if_pos hc] at e e4
      have e5 : xm i (xct l0 sp) l0 = xm (i + 1) (xct l0 sp) l0 := by
        rw [← e3, e]
        have := xm_at (i := i) (g := xct l0 sp) (f := l0)
        rw [← this, xup_self]
      simp (disch := first | assumption | omega | ((repeat first | apply rS_tp | apply xI_tp | apply xJ_tp | apply xw_tp); exact tp) | (apply xn8 tp; decide)) only [↓xl_e, ↓xc_e, ↓xcv_e, ↓xpi_e, ↓reduceIte, ↓rr_199_15, ↓rr_199_16, ↓rr_199_17, ↓rr_199_18, ↓rr_199_19, ↓xai_w, ↓xst_w, ↓xaj_w, ↓xsj_w, rr_pt, rr_gq, rr_ls, rr_sp, rw_pt, rw_gq, rw_ls, rw_sp, rj_wt, rk_wt, ↓rget_0, ↓rget_1, ↓rget_2, ↓rget_3, ↓rget_4, ↓rget_308, ↓rget_309, ↓rput_0, ↓rput_1, ↓rput_2, ↓rput_3, ↓rput_4, ↓rput_308, ↓rput_309, ↓rmore_1, ↓rmore_2, ↓rmore_3, rget, rput, rmore, er_pa, er_ye, er_re, er_ca, er_ch, er_kn, er_lo, er_cap, er_du, er_ra, er_sh, er_ow, er_ro, er_av, er_bo, er_ma, er_de, ew_cap, ew_du, ew_ra, ew_sh, ew_ow, ew_ro, ew_bo, ew_ma, ew_de, ew_on, ew_off, x8_ff, nI_1, xb_e, xup_at, xm_n, xm_at, x00, ix_5, ix_13, ix_21, ix_29, ix_37, ix_78, ix_160, ix_208, ix_310, xc8, hc2, e4, xadd0]
      rw [e5, ih _ _ _ (by omega) (by omega)]
    · have hc2 : (sp i < l0 i) = True := eq_true (by rw [xlt]; rw [xle] at hc; omega)
      rw [if_neg hc] at e e4
      rw [e] at e3
      simp (disch := first | assumption | omega | ((repeat first | apply rS_tp | apply xI_tp | apply xJ_tp | apply xw_tp); exact tp) | (apply xn8 tp; decide)) only [↓xl_e, ↓xc_e, ↓xcv_e, ↓xpi_e, ↓reduceIte, ↓rr_199_15, ↓rr_199_16, ↓rr_199_17, ↓rr_199_18, ↓rr_199_19, ↓xai_w, ↓xst_w, ↓xaj_w, ↓xsj_w, rr_pt, rr_gq, rr_ls, rr_sp, rw_pt, rw_gq, rw_ls, rw_sp, rj_wt, rk_wt, ↓rget_0, ↓rget_1, ↓rget_2, ↓rget_3, ↓rget_4, ↓rget_308, ↓rget_309, ↓rput_0, ↓rput_1, ↓rput_2, ↓rput_3, ↓rput_4, ↓rput_308, ↓rput_309, ↓rmore_1, ↓rmore_2, ↓rmore_3, rget, rput, rmore, er_pa, er_ye, er_re, er_ca, er_ch, er_kn, er_lo, er_cap, er_du, er_ra, er_sh, er_ow, er_ro, er_av, er_bo, er_ma, er_de, ew_cap, ew_du, ew_ra, ew_sh, ew_ow, ew_ro, ew_bo, ew_ma, ew_de, ew_on, ew_off, x8_ff, nI_1, xb_e, xup_at, xm_n, xm_at, x00, ix_5, ix_13, ix_21, ix_29, ix_37, ix_78, ix_160, ix_208, ix_310, xc8, hc2, e4, e3, ih]
theorem h_over {T : xT} {S : xS} {b : Nat} {wt pt gq ls sp ro cap du ra sh ow bo ma de u : Nat → Int32} {kn lo pa av ca re ye ch : Int32} (tp : xTp T S.2.2) (hb : S.1 199 1 = nI b) (hb2 : b ≤ 5490) : f_X10_overSpace T (rS S b wt pt gq ls sp (enc kn lo ro pa av ca re ye ch cap du ra sh ow bo ma de u)) 199 = some (xtot (xcu ls sp), (rS S b wt pt gq (xct ls sp) sp (enc kn lo ro pa av ca re ye ch cap du ra sh ow bo ma de u))) := by
  have h : f_X10_overSpace_4 T xfu (rS S b wt pt gq (xm 0 (xct ls sp) ls) sp (enc kn lo ro pa av ca re ye ch cap du ra sh ow bo ma de u)) 199 0 (nI 0) = _ := L_over tp hb hb2 ls 8 0 xfu 0 rfl (by decide)
  rw [xm_0] at h
  exact h
theorem L_rfirst {T : xT} {S : xS} {b : Nat} {wt pt gq ls sp ro cap du ra sh ow bo ma de u : Nat → Int32} {kn lo pa av ca re ye ch : Int32} (tp : xTp T S.2.2) (hb : S.1 199 1 = nI b) (hb2 : b ≤ 5490) : ∀ (m i n : Nat), i + m = 8 → m < n → (∃ p, i ≤ p ∧ p < 8 ∧ ¬ xb pa p = 0) → ∃ p, p < 8 ∧ ¬ xb pa p = 0 ∧ (∀ q, i ≤ q → q < p → xb pa q = 0) ∧ i ≤ p ∧ f_X10_firstThere_2 T n (rS S b wt pt gq ls sp (enc kn lo ro pa av ca re ye ch cap du ra sh ow bo ma de u)) 199 (nI i) = some (nI p, (rS S b wt pt gq ls sp (enc kn lo ro pa av ca re ye ch cap du ra sh ow bo ma de u))) ∧ ∀ (a : Int32) (l : Nat → Int32), xfi pa a m i l = va_up l p (l p + a) := by
  intro m
  induction m with
  | zero =>
    intro i n hi hn hex
    obtain ⟨p, h1, h2, _⟩ := hex
    omega
  | succ m ih =>
    intro i n hi hn hex
    obtain ⟨n, rfl⟩ : ∃ n', n = n' + 1 := ⟨n - 1, by omega⟩
    have hi8 : i < 8 := by omega
    unfold f_X10_firstThere_2
    rw [h_there tp hb hb2 hi8, xc_e]
    by_cases hx : xb pa i = 0
    · obtain ⟨p, h1, h2, h3⟩ := hex
      have hpi : p ≠ i := fun q => h3 (q ▸ hx)
      obtain ⟨p', h4, h4', hmin, hge, h5, h6⟩ := ih (i + 1) n (by omega) (by omega) ⟨p, by omega, h2, h3⟩
      rw [if_pos hx, xl_e, nI_1]
      refine ⟨p', h4, h4', fun q hq1 hq2 => ?_, by omega, h5, fun a l => ?_⟩
      · by_cases hqi : q = i
        · rw [hqi]; exact hx
        · exact hmin q (by omega) hq2
      · show (if xb pa i = 0 then xfi pa a m (i + 1) l else _) = _
        rw [if_pos hx, h6]
    · rw [if_neg hx]
      refine ⟨i, hi8, hx, fun q hq1 hq2 => by omega, Nat.le_refl _, rfl, fun a l => ?_⟩
      show (if xb pa i = 0 then _ else _) = _
      rw [if_neg hx]
theorem xor0 (c : Int32) : c ||| 0 = c := Int32.or_zero
theorem L_l96 {T : xT} {S : xS} {b : Nat} {wt pt gq ls sp ro cap du ra sh ow bo ma de u : Nat → Int32} {kn lo pa av ca re ye ch : Int32} (tp : xTp T S.2.2) (hb : S.1 199 1 = nI b) (hb2 : b ≤ 5490) {rec : xS → Nat → Int32 → Option xS} : ∀ (m i n : Nat), i + m = 8 → m < n → f_X10_limit_96 T rec n (rS S b wt pt gq (xm i (fun j => ls j + pt j) ls) sp (enc kn lo ro pa av ca re ye ch cap du ra sh ow bo ma de u)) 199 (nI i) = rec (rS S b wt pt gq (xct (fun j => ls j + pt j) sp) sp (enc kn lo ro pa av ca re ye ch cap du ra sh ow bo ma de u)) 199 (xtot (xcu (fun j => ls j + pt j) sp)) := by
  intro m
  induction m with
  | zero =>
    intro i n hi hn
    obtain ⟨n, rfl⟩ : ∃ n', n = n' + 1 := ⟨n - 1, by omega⟩
    obtain rfl : i = 8 := by omega
    unfold f_X10_limit_96
    rw [if_pos x8_t, rc_ls xm_8, h_over tp hb hb2, xc_e, xl_e]
  | succ m ih =>
    intro i n hi hn
    obtain ⟨n, rfl⟩ : ∃ n', n = n' + 1 := ⟨n - 1, by omega⟩
    have hi8 : i < 8 := by omega
    unfold f_X10_limit_96
    have e3 : va_up (xm i (fun j => ls j + pt j) ls) i (ls i + pt i) = _ := xm_s i (fun j => ls j + pt j) ls
    simp (disch := first | assumption | omega | ((repeat first | apply rS_tp | apply xI_tp | apply xJ_tp | apply xw_tp); exact tp) | (apply xn8 tp; decide)) only [↓xl_e, ↓xc_e, ↓xcv_e, ↓xpi_e, ↓reduceIte, ↓rr_199_15, ↓rr_199_16, ↓rr_199_17, ↓rr_199_18, ↓rr_199_19, ↓xai_w, ↓xst_w, ↓xaj_w, ↓xsj_w, rr_pt, rr_gq, rr_ls, rr_sp, rw_pt, rw_gq, rw_ls, rw_sp, rj_wt, rk_wt, ↓rget_0, ↓rget_1, ↓rget_2, ↓rget_3, ↓rget_4, ↓rget_308, ↓rget_309, ↓rput_0, ↓rput_1, ↓rput_2, ↓rput_3, ↓rput_4, ↓rput_308, ↓rput_309, ↓rmore_1, ↓rmore_2, ↓rmore_3, rget, rput, rmore, er_pa, er_ye, er_re, er_ca, er_ch, er_kn, er_lo, er_cap, er_du, er_ra, er_sh, er_ow, er_ro, er_av, er_bo, er_ma, er_de, ew_cap, ew_du, ew_ra, ew_sh, ew_ow, ew_ro, ew_bo, ew_ma, ew_de, ew_on, ew_off, x8_ff, nI_1, xb_e, xup_at, xm_n, xm_at, x00, ix_5, ix_13, ix_21, ix_29, ix_37, ix_78, ix_160, ix_208, ix_310, xc8, e3, ih]
theorem h_l96 {T : xT} {S : xS} {b : Nat} {wt pt gq ls sp ro cap du ra sh ow bo ma de u : Nat → Int32} {kn lo pa av ca re ye ch : Int32} (tp : xTp T S.2.2) (hb : S.1 199 1 = nI b) (hb2 : b ≤ 5490) {rec : xS → Nat → Int32 → Option xS} : f_X10_limit_96 T rec xfu (rS S b wt pt gq ls sp (enc kn lo ro pa av ca re ye ch cap du ra sh ow bo ma de u)) 199 0 = rec (rS S b wt pt gq (xct (fun j => ls j + pt j) sp) sp (enc kn lo ro pa av ca re ye ch cap du ra sh ow bo ma de u)) 199 (xtot (xcu (fun j => ls j + pt j) sp)) := by
  have h : f_X10_limit_96 T rec xfu (rS S b wt pt gq (xm 0 (fun j => ls j + pt j) ls) sp (enc kn lo ro pa av ca re ye ch cap du ra sh ow bo ma de u)) 199 (nI 0) = _ := L_l96 tp hb hb2 8 0 xfu rfl (by decide)
  rw [xm_0] at h
  exact h
theorem L_l13 {T : xT} {S : xS} {b : Nat} {wt pt gq ls sp ro cap du ra sh ow bo ma de u : Nat → Int32} {kn lo pa av ca re ye ch : Int32} (tp : xTp T S.2.2) (hb : S.1 199 1 = nI b) (hb2 : b ≤ 5490) (hra : ∀ k, k < 8 → 0 ≤ (ra k).toInt) {rec : xS → Nat → Int32 → Option xS} {a : Int32} (ha : 0 ≤ a.toInt) (hex : ∃ p, 0 ≤ p ∧ p < 8 ∧ ¬ xb pa p = 0) : ∀ (m i n : Nat) (c : Int32), i + m = 8 → m < n → f_X10_limit_13 T rec n (rS S b wt pt gq ls sp (enc kn lo ro pa av ca re ye ch cap du ra sh ow bo ma de u)) 199 a c (nI i) = (if xmk pa ls sp m i c = 0 then some (rS S b wt pt gq (xfi pa a 8 0 ls) sp (enc kn a ro pa av ca re ye ch cap du ra sh ow bo ma de u)) else rec (rS S b (wq (xmk pa ls sp m i c) ra) (dl a (wq (xmk pa ls sp m i c) ra)) gq (xct (fun j => ls j + dl a (wq (xmk pa ls sp m i c) ra) j) sp) sp (enc kn lo ro pa av ca re ye ch cap du ra sh ow bo ma de u)) 199 (xtot (xcu (fun j => ls j + dl a (wq (xmk pa ls sp m i c) ra) j) sp))) := by
  intro m
  induction m with
  | zero =>
    intro i n c hi hn
    obtain ⟨n, rfl⟩ : ∃ n', n = n' + 1 := ⟨n - 1, by omega⟩
    obtain rfl : i = 8 := by omega
    unfold f_X10_limit_13
    rw [if_pos x8_t]
    show (if c = 0 then _ else _) = if c = 0 then _ else _
    by_cases hc : c = 0
    · rw [if_pos hc, if_pos hc, rput_309 tp hb hb2, xcv_e, rr_199_18 (S := (rS S b wt pt gq ls sp (enc kn a ro pa av ca re ye ch cap du ra sh ow bo ma de u))) tp]
      obtain ⟨p, hp, _, _, _, h5, h6⟩ := L_rfirst (T := T) (S := S) (b := b) (wt := wt) (pt := pt) (gq := gq) (ls := ls) (sp := sp) (kn := kn) (lo := a) (ro := ro) (pa := pa) (av := av) (ca := ca) (re := re) (ye := ye) (ch := ch) (cap := cap) (du := du) (ra := ra) (sh := sh) (ow := ow) (bo := bo) (ma := ma) (de := de) (u := u) tp hb hb2 8 0 xfu rfl (by decide) hex
      have h5' : f_X10_firstThere T (rS S b wt pt gq ls sp (enc kn a ro pa av ca re ye ch cap du ra sh ow bo ma de u)) 199 = some (nI p, (rS S b wt pt gq ls sp (enc kn a ro pa av ca re ye ch cap du ra sh ow bo ma de u))) := h5
      rw [h5', xc_e, xai_w (xn8 tp (by decide)) hp, xst_w (xn8 tp (by decide)) hp, rr_ls hp, rw_ls hp, h6]
    · rw [if_neg hc, if_neg hc, h_wratio tp hb hb2 hra, xcv_e, h_deal tp hb hb2 (wq_nn hra) ha, xcv_e, xl_e, h_l96 tp hb hb2]
      rfl
  | succ m ih =>
    intro i n c hi hn
    obtain ⟨n, rfl⟩ : ∃ n', n = n' + 1 := ⟨n - 1, by omega⟩
    have hi8 : i < 8 := by omega
    unfold f_X10_limit_13
    have e2 : xmk pa ls sp (m + 1) i c = xmk pa ls sp m (i + 1) (if xb pa i = 0 then c else if sp i ≤ ls i then c else c ||| ((1 : Int32) <<< (nI i &&& 31))) := rfl
    rw [e2]
    by_cases hx : xb pa i = 0
    · simp (disch := first | assumption | omega | ((repeat first | apply rS_tp | apply xI_tp | apply xJ_tp | apply xw_tp); exact tp) | (apply xn8 tp; decide)) only [↓xl_e, ↓xc_e, ↓xcv_e, ↓xpi_e, ↓reduceIte, ↓rr_199_15, ↓rr_199_16, ↓rr_199_17, ↓rr_199_18, ↓rr_199_19, ↓xai_w, ↓xst_w, ↓xaj_w, ↓xsj_w, rr_pt, rr_gq, rr_ls, rr_sp, rw_pt, rw_gq, rw_ls, rw_sp, rj_wt, rk_wt, ↓rget_0, ↓rget_1, ↓rget_2, ↓rget_3, ↓rget_4, ↓rget_308, ↓rget_309, ↓rput_0, ↓rput_1, ↓rput_2, ↓rput_3, ↓rput_4, ↓rput_308, ↓rput_309, ↓rmore_1, ↓rmore_2, ↓rmore_3, rget, rput, rmore, er_pa, er_ye, er_re, er_ca, er_ch, er_kn, er_lo, er_cap, er_du, er_ra, er_sh, er_ow, er_ro, er_av, er_bo, er_ma, er_de, ew_cap, ew_du, ew_ra, ew_sh, ew_ow, ew_ro, ew_bo, ew_ma, ew_de, ew_on, ew_off, x8_ff, nI_1, xb_e, xup_at, xm_n, xm_at, x00, ix_5, ix_13, ix_21, ix_29, ix_37, ix_78, ix_160, ix_208, ix_310, xc8, h_there tp hb hb2 hi8, hx, xor0, ih]
    · by_cases hc : sp i ≤ ls i <;> simp (disch := first | assumption | omega | ((repeat first | apply rS_tp | apply xI_tp | apply xJ_tp | apply xw_tp); exact tp) | (apply xn8 tp; decide)) only [↓xl_e, ↓xc_e, ↓xcv_e, ↓xpi_e, ↓reduceIte, ↓rr_199_15, ↓rr_199_16, ↓rr_199_17, ↓rr_199_18, ↓rr_199_19, ↓xai_w, ↓xst_w, ↓xaj_w, ↓xsj_w, rr_pt, rr_gq, rr_ls, rr_sp, rw_pt, rw_gq, rw_ls, rw_sp, rj_wt, rk_wt, ↓rget_0, ↓rget_1, ↓rget_2, ↓rget_3, ↓rget_4, ↓rget_308, ↓rget_309, ↓rput_0, ↓rput_1, ↓rput_2, ↓rput_3, ↓rput_4, ↓rput_308, ↓rput_309, ↓rmore_1, ↓rmore_2, ↓rmore_3, rget, rput, rmore, er_pa, er_ye, er_re, er_ca, er_ch, er_kn, er_lo, er_cap, er_du, er_ra, er_sh, er_ow, er_ro, er_av, er_bo, er_ma, er_de, ew_cap, ew_du, ew_ra, ew_sh, ew_ow, ew_ro, ew_bo, ew_ma, ew_de, ew_on, ew_off, x8_ff, nI_1, xb_e, xup_at, xm_n, xm_at, x00, ix_5, ix_13, ix_21, ix_29, ix_37, ix_78, ix_160, ix_208, ix_310, xc8, h_there tp hb hb2 hi8, hx, hc, xor0, ih]
theorem L_l5 {T : xT} {S : xS} {b : Nat} {gq sp ro cap du ra sh ow bo ma de u : Nat → Int32} {kn pa av ca re ye ch : Int32} (tp : xTp T S.2.2) (hb : S.1 199 1 = nI b) (hb2 : b ≤ 5490) (hra : ∀ k, k < 8 → 0 ≤ (ra k).toInt) (hex : ∃ p, 0 ≤ p ∧ p < 8 ∧ ¬ xb pa p = 0) : ∀ (m n : Nat) (l wt pt : Nat → Int32), lOk l sp → lmu pa l sp ≤ m → m < n → ∃ wt' pt', f_X10_limit_5 T n (rS S b wt pt gq (xct l sp) sp (enc kn 0 ro pa av ca re ye ch cap du ra sh ow bo ma de u)) 199 (xtot (xcu l sp)) = some (rS S b wt' pt' gq ((lm pa ra sp (m + 1) l).2) sp (enc kn ((lm pa ra sp (m + 1) l).1) ro pa av ca re ye ch cap du ra sh ow bo ma de u)) := by
  intro m
  induction m with
  | zero =>
    intro n l wt pt h hmu hn
    obtain ⟨n, rfl⟩ : ∃ n', n = n' + 1 := ⟨n - 1, by omega⟩
    have ha := lOk_a h
    have e2 : lm pa ra sp (0 + 1) l = if xtot (xcu l sp) = 0 then (0, xct l sp) else if xmk pa (xct l sp) sp 8 0 0 = 0 then (xtot (xcu l sp), xfi pa (xtot (xcu l sp)) 8 0 (xct l sp)) else lm pa ra sp 0 (lNx pa ra sp l) := rfl
    unfold f_X10_limit_5
    rw [e2]
    by_cases h0 : xtot (xcu l sp) = 0
    · rw [if_pos (by rw [h0]; decide), if_pos h0]
      exact ⟨wt, pt, rfl⟩
    · have hm0 : xmk pa (xct l sp) sp 8 0 0 = 0 := Classical.byContradiction (fun q => by
        obtain ⟨p, hp, hc⟩ := xmk_ex q
        have := lmu_pos hp hc
        omega)
      have hpos : ¬ xtot (xcu l sp) ≤ 0 := by rw [xle0]; rw [xeq0] at h0; omega
      have e3 : f_X10_limit_13 T (f_X10_limit_5 T n) xfu (rS S b wt pt gq (xct l sp) sp (enc kn 0 ro pa av ca re ye ch cap du ra sh ow bo ma de u)) 199 (xtot (xcu l sp)) 0 0 = _ := L_l13 tp hb hb2 hra ha.2.1 hex 8 0 xfu 0 rfl (by decide)
      rw [if_neg hpos, xl_e, xl_e, e3, if_pos hm0, if_neg h0, if_pos hm0]
      exact ⟨wt, pt, rfl⟩
  | succ m ih =>
    intro n l wt pt h hmu hn
    obtain ⟨n, rfl⟩ : ∃ n', n = n' + 1 := ⟨n - 1, by omega⟩
    have ha := lOk_a h
    have e2 : lm pa ra sp (m + 1 + 1) l = if xtot (xcu l sp) = 0 then (0, xct l sp) else if xmk pa (xct l sp) sp 8 0 0 = 0 then (xtot (xcu l sp), xfi pa (xtot (xcu l sp)) 8 0 (xct l sp)) else lm pa ra sp (m + 1) (lNx pa ra sp l) := rfl
    unfold f_X10_limit_5
    rw [e2]
    by_cases h0 : xtot (xcu l sp) = 0
    · rw [if_pos (by rw [h0]; decide), if_pos h0]
      exact ⟨wt, pt, rfl⟩
    · have hpos : ¬ xtot (xcu l sp) ≤ 0 := by rw [xle0]; rw [xeq0] at h0; omega
      have e3 : f_X10_limit_13 T (f_X10_limit_5 T n) xfu (rS S b wt pt gq (xct l sp) sp (enc kn 0 ro pa av ca re ye ch cap du ra sh ow bo ma de u)) 199 (xtot (xcu l sp)) 0 0 = _ := L_l13 tp hb hb2 hra ha.2.1 hex 8 0 xfu 0 rfl (by decide)
      rw [if_neg hpos, xl_e, xl_e, e3, if_neg h0]
      by_cases hm0 : xmk pa (xct l sp) sp 8 0 0 = 0
      · rw [if_pos hm0, if_pos hm0]
        exact ⟨wt, pt, rfl⟩
      · rw [if_neg hm0, if_neg hm0]
        have hk := (lNx_ok (pa := pa) h hra).1
        by_cases hz : xtot (xcu (lNx pa ra sp l) sp) = 0
        · -- the next round ends it
          have e4 : lm pa ra sp (m + 1) (lNx pa ra sp l) = if xtot (xcu (lNx pa ra sp l) sp) = 0 then (0, xct (lNx pa ra sp l) sp) else if xmk pa (xct (lNx pa ra sp l) sp) sp 8 0 0 = 0 then (xtot (xcu (lNx pa ra sp l) sp), xfi pa (xtot (xcu (lNx pa ra sp l) sp)) 8 0 (xct (lNx pa ra sp l) sp)) else lm pa ra sp m (lNx pa ra sp (lNx pa ra sp l)) := rfl
          obtain ⟨n, rfl⟩ : ∃ n', n = n' + 1 := ⟨n - 1, by omega⟩
          have hz' : xtot (xcu (fun j => xct l sp j + dl (xtot (xcu l sp)) (wq (xmk pa (xct l sp) sp 8 0 0) ra) j) sp) = 0 := hz
          rw [e4, if_pos hz]
          unfold f_X10_limit_5
          rw [if_pos (by rw [hz']; decide)]
          exact ⟨_, _, rfl⟩
        · have hd := lmu_dec (pa := pa) h hra hz
          exact ih n (lNx pa ra sp l) _ _ hk (by omega) (by omega)
theorem h_limit {T : xT} {S : xS} {b : Nat} {wt pt gq ls sp ro cap du ra sh ow bo ma de u : Nat → Int32} {kn lo pa av ca re ye ch : Int32} (tp : xTp T S.2.2) (hb : S.1 199 1 = nI b) (hb2 : b ≤ 5490) (hra : ∀ k, k < 8 → 0 ≤ (ra k).toInt) (hex : ∃ p, 0 ≤ p ∧ p < 8 ∧ ¬ xb pa p = 0) (h : lOk ls sp) (hlo : lo = 0) : ∃ wt' pt', f_X10_limit T (rS S b wt pt gq ls sp (enc kn lo ro pa av ca re ye ch cap du ra sh ow bo ma de u)) 199 = some (rS S b wt' pt' gq ((lm pa ra sp 9 ls).2) sp (enc kn ((lm pa ra sp 9 ls).1) ro pa av ca re ye ch cap du ra sh ow bo ma de u)) := by
  subst hlo
  unfold f_X10_limit
  rw [h_over tp hb hb2, xc_e, xl_e]
  exact L_l5 tp hb hb2 hra hex 8 xfu ls wt pt h (lmu_le _ _ _) (by decide)
