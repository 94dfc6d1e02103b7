/-! shares in the reference -/
theorem xng (a : Int32) : -a = 0 - a := (Int32.zero_sub a).symm
/-- as it is, or less than 0 -/
def xsg (n : Int32) (f : Nat → Int32) : Nat → Int32 := fun k => if 0 ≤ n then f k else 0 - f k
theorem L_s199 {T : xT} {S : xS} {b : Nat} {wt pt gq ls sp ro cap du ra sh ow bo ma de u : Nat → Int32} {kn lo pa av ca re ye ch : Int32} (tp : xTp T S.2.2) (hb : S.1 199 1 = nI b) (hb2 : b ≤ 5490) {nn : Int32} : ∀ (m i n : Nat), i + m = 8 → m < n → f_X10_share_199 T n (rS S b wt pt gq ls sp (enc kn lo (xrq 6 i (xsg nn ls) ro) pa av ca re ye ch (xm i (fun k => cap k + xsg nn ls k) cap) du ra sh ow bo ma de u)) 199 nn (nI i) = some (rS S b wt pt gq ls sp (enc kn lo (rop 6 (xsg nn ls) ro) pa av ca 0 ye ch (fun k => cap k + xsg nn ls k) du ra sh ow bo ma de u)) := by
  intro m
  induction m with
  | zero =>
    intro i n hi hn
    obtain ⟨n, rfl⟩ : ∃ n', n = n' + 1 := ⟨n - 1, by omega⟩
    obtain rfl : i = 8 := by omega
    unfold f_X10_share_199
    rw [if_pos x8_t, rput_2 tp hb hb2, xcv_e, xrq_8]
    exact congrArg some (congrArg (rS S b wt pt gq ls sp) (en_cap xm_8))
  | succ m ih =>
    intro i n hi hn
    obtain ⟨n, rfl⟩ : ∃ n', n = n' + 1 := ⟨n - 1, by omega⟩
    have hi8 : i < 8 := by omega
    unfold f_X10_share_199
    have e : xsg nn ls i = if 0 ≤ nn then ls i else 0 - ls i := rfl
    have e3 : va_up (xm i (fun k => cap k + xsg nn ls k) cap) i (cap i + xsg nn ls i) = _ := xm_s i (fun k => cap k + xsg nn ls k) cap
    have e4 : va_up (xrq 6 i (xsg nn ls) ro) (8 * 6 + i) (xsg nn ls i) = _ := xrq_s 6 i (xsg nn ls) ro
    have ix6 : ((310 : Int32) + (8 : Int32) * 6) + nI i = nI (310 + (8 * 6 + i)) := ix310 6 i
    have h56 : 8 * 6 + i < 56 := by omega
    by_cases hc : 0 ≤ nn
    · rw [if_pos hc] at e
      rw [e] at e3 e4
      simp (disch := first | assumption | omega | ((repeat first | apply rS_tp | apply xI_tp | apply xJ_tp | apply xw_tp); exact tp) | (apply xn8 tp; decide)) only [hc, f_X10_share_225, f_X10_stepAt, ix6, ↓xl_e, ↓xc_e, ↓xcv_e, ↓xpi_e, ↓reduceIte, ↓rr_199_15, ↓rr_199_16, ↓rr_199_17, ↓rr_199_18, ↓rr_199_19, ↓xai_w, ↓xst_w, ↓xaj_w, ↓xsj_w, rr_pt, rr_gq, rr_ls, rr_sp, rw_pt, rw_gq, rw_ls, rw_sp, rj_wt, rk_wt, ↓rget_0, ↓rget_1, ↓rget_2, ↓rget_3, ↓rget_4, ↓rget_308, ↓rget_309, ↓rput_0, ↓rput_1, ↓rput_2, ↓rput_3, ↓rput_4, ↓rput_308, ↓rput_309, ↓rmore_1, ↓rmore_2, ↓rmore_3, rget, rput, rmore, er_pa, er_ye, er_re, er_ca, er_ch, er_kn, er_lo, er_cap, er_du, er_ra, er_sh, er_ow, er_ro, er_av, er_bo, er_ma, er_de, ew_cap, ew_du, ew_ra, ew_sh, ew_ow, ew_ro, ew_bo, ew_ma, ew_de, ew_on, ew_off, x8_ff, nI_1, xb_e, xup_at, xm_n, xm_at, x00, ix_5, ix_13, ix_21, ix_29, ix_37, ix_78, ix_160, ix_208, ix_310, xc8, e3, e4, ih]
    · rw [if_neg hc] at e
      rw [e] at e3 e4
      simp (disch := first | assumption | omega | ((repeat first | apply rS_tp | apply xI_tp | apply xJ_tp | apply xw_tp); exact tp) | (apply xn8 tp; decide)) only [hc, f_X10_share_225, f_X10_stepAt, ix6, ↓xl_e, ↓xc_e, ↓xcv_e, ↓xpi_e, ↓reduceIte, ↓rr_199_15, ↓rr_199_16, ↓rr_199_17, ↓rr_199_18, ↓rr_199_19, ↓xai_w, ↓xst_w, ↓xaj_w, ↓xsj_w, rr_pt, rr_gq, rr_ls, rr_sp, rw_pt, rw_gq, rw_ls, rw_sp, rj_wt, rk_wt, ↓rget_0, ↓rget_1, ↓rget_2, ↓rget_3, ↓rget_4, ↓rget_308, ↓rget_309, ↓rput_0, ↓rput_1, ↓rput_2, ↓rput_3, ↓rput_4, ↓rput_308, ↓rput_309, ↓rmore_1, ↓rmore_2, ↓rmore_3, rget, rput, rmore, er_pa, er_ye, er_re, er_ca, er_ch, er_kn, er_lo, er_cap, er_du, er_ra, er_sh, er_ow, er_ro, er_av, er_bo, er_ma, er_de, ew_cap, ew_du, ew_ra, ew_sh, ew_ow, ew_ro, ew_bo, ew_ma, ew_de, ew_on, ew_off, x8_ff, nI_1, xb_e, xup_at, xm_n, xm_at, x00, ix_5, ix_13, ix_21, ix_29, ix_37, ix_78, ix_160, ix_208, ix_310, xc8, xng, e3, e4, ih]
theorem h_s199 {T : xT} {S : xS} {b : Nat} {wt pt gq ls sp ro cap du ra sh ow bo ma de u : Nat → Int32} {kn lo pa av ca re ye ch : Int32} (tp : xTp T S.2.2) (hb : S.1 199 1 = nI b) (hb2 : b ≤ 5490) {nn : Int32} : f_X10_share_199 T xfu (rS S b wt pt gq ls sp (enc kn lo ro pa av ca re ye ch cap du ra sh ow bo ma de u)) 199 nn 0 = some (rS S b wt pt gq ls sp (enc kn lo (rop 6 (xsg nn ls) ro) pa av ca 0 ye ch (fun k => cap k + xsg nn ls k) du ra sh ow bo ma de u)) := by
  have h : f_X10_share_199 T xfu (rS S b wt pt gq ls sp (enc kn lo (xrq 6 0 (xsg nn ls) ro) pa av ca re ye ch (xm 0 (fun k => cap k + xsg nn ls k) cap) du ra sh ow bo ma de u)) 199 nn (nI 0) = _ := L_s199 tp hb hb2 8 0 xfu rfl (by decide)
  rw [xm_0, xrq_0] at h
  exact h
theorem L_s135 {T : xT} {S : xS} {b : Nat} {wt pt gq ls sp ro cap du ra sh ow bo ma de u : Nat → Int32} {kn lo pa av ca re ye ch : Int32} (tp : xTp T S.2.2) (hb : S.1 199 1 = nI b) (hb2 : b ≤ 5490) {nn : Int32} (hra : ∀ k, k < 8 → 0 ≤ (ra k).toInt) (hex : ∃ p, 0 ≤ p ∧ p < 8 ∧ ¬ xb pa p = 0) (h : lOk pt sp) (hlo : lo = 0) : ∀ (m i n : Nat), i + m = 8 → m < n → ∃ wt' pt' ls', f_X10_share_135 T n (rS S b wt pt gq (xm i pt ls) sp (enc kn lo (xrq 5 i (xsg nn pt) ro) pa av ca re ye ch cap du ra sh ow bo ma de u)) 199 nn (nI i) = some (rS S b wt' pt' gq ls' sp (enc kn (if 0 ≤ nn then lo else (lm pa ra sp 9 pt).1) (rop 6 (if 0 ≤ nn then pt else fun k => 0 - (lm pa ra sp 9 pt).2 k) (rop 5 (xsg nn pt) ro)) pa av ca 0 ye ch (fun k => cap k + (if 0 ≤ nn then pt else fun k => 0 - (lm pa ra sp 9 pt).2 k) k) du ra sh ow bo ma de u)) := by
  intro m
  induction m with
  | zero =>
    intro i n hi hn
    obtain ⟨n, rfl⟩ : ∃ n', n = n' + 1 := ⟨n - 1, by omega⟩
    obtain rfl : i = 8 := by omega
    unfold f_X10_share_135
    rw [if_pos x8_t, rc_ls xm_8, xrq_8]
    by_cases hc : 0 ≤ nn
    · rw [if_pos hc, if_pos hc, if_pos hc, xl_e, h_s199 tp hb hb2]
      have e : xsg nn pt = pt := funext fun k => if_pos hc
      refine ⟨wt, pt, pt, ?_⟩
      rw [e]
    · rw [if_neg hc, if_neg hc, if_neg hc]
      obtain ⟨wt', pt', e2⟩ := h_limit (T := T) (S := S) (b := b) (wt := wt) (pt := pt) (gq := gq) (ls := pt) (sp := sp) (kn := kn) (lo := lo) (ro := rop 5 (xsg nn pt) ro) (pa := pa) (av := av) (ca := ca) (re := re) (ye := ye) (ch := ch) (cap := cap) (du := du) (ra := ra) (sh := sh) (ow := ow) (bo := bo) (ma := ma) (de := de) (u := u) tp hb hb2 hra hex h hlo
      rw [e2, xcv_e, xl_e, h_s199 tp hb hb2]
      have e : xsg nn (lm pa ra sp 9 pt).2 = fun k => 0 - (lm pa ra sp 9 pt).2 k := funext fun k => if_neg hc
      rw [e]
      exact ⟨_, _, _, rfl⟩
  | succ m ih =>
    intro i n hi hn
    obtain ⟨n, rfl⟩ : ∃ n', n = n' + 1 := ⟨n - 1, by omega⟩
    have hi8 : i < 8 := by omega
    unfold f_X10_share_135
    have e : xsg nn pt i = if 0 ≤ nn then pt i else 0 - pt i := rfl
    have e3 := xm_s i pt ls
    have e4 : va_up (xrq 5 i (xsg nn pt) ro) (8 * 5 + i) (xsg nn pt i) = _ := xrq_s 5 i (xsg nn pt) ro
    have ix5 : ((310 : Int32) + (8 : Int32) * 5) + nI i = nI (310 + (8 * 5 + i)) := ix310 5 i
    have h56 : 8 * 5 + i < 56 := by omega
    have hr := ih (i + 1) n (by omega) (by omega)
    by_cases hc : 0 ≤ nn
    · rw [if_pos hc] at e
      rw [e] at e4
      rw [if_neg (x8_f hi8)]
      have hs : f_X10_share_168 T (f_X10_share_135 T n) (rS S b wt pt gq (xm i pt ls) sp (enc kn lo (xrq 5 i (xsg nn pt) ro) pa av ca re ye ch cap du ra sh ow bo ma de u)) 199 nn (nI i) 199 (((310 : Int32) + (8 : Int32) * 5) + nI i) (pt i) = f_X10_share_135 T n (rS S b wt pt gq (xm (i + 1) pt ls) sp (enc kn lo (xrq 5 (i + 1) (xsg nn pt) ro) pa av ca re ye ch cap du ra sh ow bo ma de u)) 199 nn (nI (i + 1)) := by
        simp (disch := first | assumption | omega | ((repeat first | apply rS_tp | apply xI_tp | apply xJ_tp | apply xw_tp); exact tp) | (apply xn8 tp; decide)) only [f_X10_share_168, ix5, ↓xl_e, ↓xc_e, ↓xcv_e, ↓xpi_e, ↓reduceIte, ↓rr_199_15, ↓rr_199_16, ↓rr_199_17, ↓rr_199_18, ↓rr_199_19, ↓xai_w, ↓xst_w, ↓xaj_w, ↓xsj_w, rr_pt, rr_gq, rr_ls, rr_sp, rw_pt, rw_gq, rw_ls, rw_sp, rj_wt, rk_wt, ↓rget_0, ↓rget_1, ↓rget_2, ↓rget_3, ↓rget_4, ↓rget_308, ↓rget_309, ↓rput_0, ↓rput_1, ↓rput_2, ↓rput_3, ↓rput_4, ↓rput_308, ↓rput_309, ↓rmore_1, ↓rmore_2, ↓rmore_3, rget, rput, rmore, er_pa, er_ye, er_re, er_ca, er_ch, er_kn, er_lo, er_cap, er_du, er_ra, er_sh, er_ow, er_ro, er_av, er_bo, er_ma, er_de, ew_cap, ew_du, ew_ra, ew_sh, ew_ow, ew_ro, ew_bo, ew_ma, ew_de, ew_on, ew_off, x8_ff, nI_1, xb_e, xup_at, xm_n, xm_at, x00, ix_5, ix_13, ix_21, ix_29, ix_37, ix_78, ix_160, ix_208, ix_310, xc8, e3, e4]
      unfold f_X10_stepAt
      rw [xc_e, if_pos hc, rr_199_16 (S := (rS S b wt pt gq (xm i pt ls) sp (enc kn lo (xrq 5 i (xsg nn pt) ro) pa av ca re ye ch cap du ra sh ow bo ma de u))) tp, xai_w (xn8 tp (by decide)) hi8, rr_pt hi8, hs]
      exact hr
    · rw [if_neg hc] at e
      rw [e] at e4
      rw [if_neg (x8_f hi8)]
      have hs : f_X10_share_168 T (f_X10_share_135 T n) (rS S b wt pt gq (xm i pt ls) sp (enc kn lo (xrq 5 i (xsg nn pt) ro) pa av ca re ye ch cap du ra sh ow bo ma de u)) 199 nn (nI i) 199 (((310 : Int32) + (8 : Int32) * 5) + nI i) (-(pt i)) = f_X10_share_135 T n (rS S b wt pt gq (xm (i + 1) pt ls) sp (enc kn lo (xrq 5 (i + 1) (xsg nn pt) ro) pa av ca re ye ch cap du ra sh ow bo ma de u)) 199 nn (nI (i + 1)) := by
        simp (disch := first | assumption | omega | ((repeat first | apply rS_tp | apply xI_tp | apply xJ_tp | apply xw_tp); exact tp) | (apply xn8 tp; decide)) only [f_X10_share_168, ix5, ↓xl_e, ↓xc_e, ↓xcv_e, ↓xpi_e, ↓reduceIte, ↓rr_199_15, ↓rr_199_16, ↓rr_199_17, ↓rr_199_18, ↓rr_199_19, ↓xai_w, ↓xst_w, ↓xaj_w, ↓xsj_w, rr_pt, rr_gq, rr_ls, rr_sp, rw_pt, rw_gq, rw_ls, rw_sp, rj_wt, rk_wt, ↓rget_0, ↓rget_1, ↓rget_2, ↓rget_3, ↓rget_4, ↓rget_308, ↓rget_309, ↓rput_0, ↓rput_1, ↓rput_2, ↓rput_3, ↓rput_4, ↓rput_308, ↓rput_309, ↓rmore_1, ↓rmore_2, ↓rmore_3, rget, rput, rmore, er_pa, er_ye, er_re, er_ca, er_ch, er_kn, er_lo, er_cap, er_du, er_ra, er_sh, er_ow, er_ro, er_av, er_bo, er_ma, er_de, ew_cap, ew_du, ew_ra, ew_sh, ew_ow, ew_ro, ew_bo, ew_ma, ew_de, ew_on, ew_off, x8_ff, nI_1, xb_e, xup_at, xm_n, xm_at, x00, ix_5, ix_13, ix_21, ix_29, ix_37, ix_78, ix_160, ix_208, ix_310, xc8, xng, e3, e4]
      unfold f_X10_stepAt
      rw [xc_e, if_neg hc, rr_199_16 (S := (rS S b wt pt gq (xm i pt ls) sp (enc kn lo (xrq 5 i (xsg nn pt) ro) pa av ca re ye ch cap du ra sh ow bo ma de u))) tp, xai_w (xn8 tp (by decide)) hi8, rr_pt hi8, hs]
      exact hr
theorem h_s135 {T : xT} {S : xS} {b : Nat} {wt pt gq ls sp ro cap du ra sh ow bo ma de u : Nat → Int32} {kn lo pa av ca re ye ch : Int32} (tp : xTp T S.2.2) (hb : S.1 199 1 = nI b) (hb2 : b ≤ 5490) {nn : Int32} (hra : ∀ k, k < 8 → 0 ≤ (ra k).toInt) (hex : ∃ p, 0 ≤ p ∧ p < 8 ∧ ¬ xb pa p = 0) (h : lOk pt sp) (hlo : lo = 0) : ∃ wt' pt' ls', f_X10_share_135 T xfu (rS S b wt pt gq ls sp (enc kn lo ro pa av ca re ye ch cap du ra sh ow bo ma de u)) 199 nn 0 = some (rS S b wt' pt' gq ls' sp (enc kn (if 0 ≤ nn then lo else (lm pa ra sp 9 pt).1) (rop 6 (if 0 ≤ nn then pt else fun k => 0 - (lm pa ra sp 9 pt).2 k) (rop 5 (xsg nn pt) ro)) pa av ca 0 ye ch (fun k => cap k + (if 0 ≤ nn then pt else fun k => 0 - (lm pa ra sp 9 pt).2 k) k) du ra sh ow bo ma de u)) := by
  have h2 := L_s135 (T := T) (nn := nn) (S := S) (b := b) (wt := wt) (pt := pt) (gq := gq) (ls := ls) (sp := sp) (kn := kn) (lo := lo) (ro := ro) (pa := pa) (av := av) (ca := ca) (re := re) (ye := ye) (ch := ch) (cap := cap) (du := du) (ra := ra) (sh := sh) (ow := ow) (bo := bo) (ma := ma) (de := de) (u := u) tp hb hb2 hra hex h hlo 8 0 xfu rfl (by decide)
  rw [xm_0, xrq_0] at h2
  exact h2
theorem xrm_nn (pa : Int32) (cap du sh : Nat → Int32) : ∀ k, k < 8 → 0 ≤ (xrm pa cap du sh k).toInt := fun k _ => by
  unfold xrm
  by_cases hb : xb pa k = 0
  · rw [if_pos hb]; decide
  · rw [if_neg hb, xmax_i, show (0 : Int32).toInt = 0 from by decide]; omega
theorem xabs_i {n : Int32} (h : -2147483648 < n.toInt) : (xabs n).toInt = max n.toInt (-n.toInt) := by
  have := xhi n
  unfold xabs
  by_cases h0 : 0 ≤ n
  · rw [if_pos h0]; rw [xge0] at h0; omega
  · rw [if_neg h0, ← xng, xneg h]; rw [xge0] at h0; omega
theorem lOk_dl {n : Int32} {w r : Nat → Int32} (hw : ∀ k, k < 8 → 0 ≤ (w k).toInt) (hr : ∀ k, k < 8 → 0 ≤ (r k).toInt) : lOk (dl n w) r := by
  have h := dl_le (n := n) hw
  have := xhi n
  exact ⟨fun p hp => (dl_nn hw hp).1, hr, by omega⟩
theorem L_s19 {T : xT} {g : Nat → Int32} {S : xS} {b : Nat} {wt pt gq ls sp ro cap du ra sh ow bo ma de u : Nat → Int32} {kn lo pa av ca re ye ch : Int32} (tp : xTp T S.2.2) (hb : S.1 199 1 = nI b) (hb2 : b ≤ 5490) {nn : Int32} (hnn : -2147483648 < nn.toInt) (hra : ∀ k, k < 8 → 0 ≤ (ra k).toInt) (hex : ∃ p, 0 ≤ p ∧ p < 8 ∧ ¬ xb pa p = 0) (hlo : lo = 0) (hg : ∀ k, k < 8 → (if xb pa k = 0 then 0 else gq k - cap k) = g k) : ∀ (m i n : Nat), i + m = 8 → m < n → ∃ wt' pt' ls', f_X10_share_19 T n (rS S b (xm i (shW nn g) wt) pt gq ls (xm i (xrm pa cap du sh) sp) (enc kn lo ro pa av ca re ye ch cap du ra sh ow bo ma de u)) 199 nn (nI i) = some (rS S b wt' pt' gq ls' (xrm pa cap du sh) (enc kn (if 0 ≤ nn then lo else (lm pa ra (xrm pa cap du sh) 9 (dl (xabs nn) (shW nn g))).1) (rop 6 (if 0 ≤ nn then dl (xabs nn) (shW nn g) else fun k => 0 - (lm pa ra (xrm pa cap du sh) 9 (dl (xabs nn) (shW nn g))).2 k) (rop 5 (xsg nn (dl (xabs nn) (shW nn g))) ro)) pa av ca 0 ye ch (fun k => cap k + (if 0 ≤ nn then dl (xabs nn) (shW nn g) else fun k => 0 - (lm pa ra (xrm pa cap du sh) 9 (dl (xabs nn) (shW nn g))).2 k) k) du ra sh ow bo ma de u)) := by
  intro m
  induction m with
  | zero =>
    intro i n hi hn
    obtain ⟨n, rfl⟩ : ∃ n', n = n' + 1 := ⟨n - 1, by omega⟩
    obtain rfl : i = 8 := by omega
    unfold f_X10_share_19
    rw [if_pos x8_t, rc_wt xm_8, rc_sp xm_8]
    have hab : 0 ≤ (xabs nn).toInt := by rw [xabs_i hnn]; omega
    by_cases hc : 0 ≤ nn
    · have e : xabs nn = nn := if_pos hc
      rw [e] at hab ⊢
      rw [if_pos hc, h_deal tp hb hb2 (shW_nn nn g) hab, xcv_e, xl_e]
      exact h_s135 tp hb hb2 hra hex (lOk_dl (shW_nn nn g) (xrm_nn pa cap du sh)) hlo
    · have e : xabs nn = -nn := by rw [xng]; exact if_neg hc
      rw [e] at hab ⊢
      rw [if_neg hc, h_deal tp hb hb2 (shW_nn nn g) hab, xcv_e, xl_e]
      exact h_s135 tp hb hb2 hra hex (lOk_dl (shW_nn nn g) (xrm_nn pa cap du sh)) hlo
  | succ m ih =>
    intro i n hi hn
    obtain ⟨n, rfl⟩ : ∃ n', n = n' + 1 := ⟨n - 1, by omega⟩
    have hi8 : i < 8 := by omega
    have e : shW nn g i = xmax 0 (if nn ≤ 0 then -(g i) else g i) := rfl
    have eg := hg i hi8
    have er : xrm pa cap du sh i = if xb pa i = 0 then 0 else xmax 0 (cap i - (-du i - sh i)) := rfl
    have e3 := xm_s i (shW nn g) wt
    have e4 := xm_s i (xrm pa cap du sh) sp
    have hr := ih (i + 1) n (by omega) (by omega)
    have h77 : ∀ v : Int32, v = shW nn g i → f_X10_share_77 T (f_X10_share_19 T n) (rS S b (xm i (shW nn g) wt) pt gq ls (xm i (xrm pa cap du sh) sp) (enc kn lo ro pa av ca re ye ch cap du ra sh ow bo ma de u)) 199 nn (nI i) 204 (nI i) v.toInt64 = f_X10_share_19 T n (rS S b (xm (i + 1) (shW nn g) wt) pt gq ls (xm (i + 1) (xrm pa cap du sh) sp) (enc kn lo ro pa av ca re ye ch cap du ra sh ow bo ma de u)) 199 nn (nI (i + 1)) := fun v hv => by
      rw [hv]
      by_cases hx : xb pa i = 0
      · rw [if_pos hx] at er
        rw [er] at e4
        simp (disch := first | assumption | omega | ((repeat first | apply rS_tp | apply xI_tp | apply xJ_tp | apply xw_tp); exact tp) | (apply xn8 tp; decide)) only [f_X10_share_77, ↓xl_e, ↓xc_e, ↓xcv_e, ↓xpi_e, ↓reduceIte, ↓rr_199_15, ↓rr_199_16, ↓rr_199_17, ↓rr_199_18, ↓rr_199_19, ↓xai_w, ↓xst_w, ↓xaj_w, ↓xsj_w, rr_pt, rr_gq, rr_ls, rr_sp, rw_pt, rw_gq, rw_ls, rw_sp, rj_wt, rk_wt, ↓rget_0, ↓rget_1, ↓rget_2, ↓rget_3, ↓rget_4, ↓rget_308, ↓rget_309, ↓rput_0, ↓rput_1, ↓rput_2, ↓rput_3, ↓rput_4, ↓rput_308, ↓rput_309, ↓rmore_1, ↓rmore_2, ↓rmore_3, rget, rput, rmore, er_pa, er_ye, er_re, er_ca, er_ch, er_kn, er_lo, er_cap, er_du, er_ra, er_sh, er_ow, er_ro, er_av, er_bo, er_ma, er_de, ew_cap, ew_du, ew_ra, ew_sh, ew_ow, ew_ro, ew_bo, ew_ma, ew_de, ew_on, ew_off, x8_ff, nI_1, xb_e, xup_at, xm_n, xm_at, x00, ix_5, ix_13, ix_21, ix_29, ix_37, ix_78, ix_160, ix_208, ix_310, xc8, h_there tp hb hb2 hi8, hx, e3, e4]
      · rw [if_neg hx] at er
        rw [er] at e4
        simp (disch := first | assumption | omega | ((repeat first | apply rS_tp | apply xI_tp | apply xJ_tp | apply xw_tp); exact tp) | (apply xn8 tp; decide)) only [f_X10_share_77, ↓xl_e, ↓xc_e, ↓xcv_e, ↓xpi_e, ↓reduceIte, ↓rr_199_15, ↓rr_199_16, ↓rr_199_17, ↓rr_199_18, ↓rr_199_19, ↓xai_w, ↓xst_w, ↓xaj_w, ↓xsj_w, rr_pt, rr_gq, rr_ls, rr_sp, rw_pt, rw_gq, rw_ls, rw_sp, rj_wt, rk_wt, ↓rget_0, ↓rget_1, ↓rget_2, ↓rget_3, ↓rget_4, ↓rget_308, ↓rget_309, ↓rput_0, ↓rput_1, ↓rput_2, ↓rput_3, ↓rput_4, ↓rput_308, ↓rput_309, ↓rmore_1, ↓rmore_2, ↓rmore_3, rget, rput, rmore, er_pa, er_ye, er_re, er_ca, er_ch, er_kn, er_lo, er_cap, er_du, er_ra, er_sh, er_ow, er_ro, er_av, er_bo, er_ma, er_de, ew_cap, ew_du, ew_ra, ew_sh, ew_ow, ew_ro, ew_bo, ew_ma, ew_de, ew_on, ew_off, x8_ff, nI_1, xb_e, xup_at, xm_n, xm_at, x00, ix_5, ix_13, ix_21, ix_29, ix_37, ix_78, ix_160, ix_208, ix_310, xc8, h_there tp hb hb2 hi8, hx, h_floor tp hb hb2 hi8, h_greater, e3, e4]
    have h51 : ∀ v : Int32, v = g i → f_X10_share_51 T (f_X10_share_19 T n) (rS S b (xm i (shW nn g) wt) pt gq ls (xm i (xrm pa cap du sh) sp) (enc kn lo ro pa av ca re ye ch cap du ra sh ow bo ma de u)) 199 nn (nI i) v = f_X10_share_19 T n (rS S b (xm (i + 1) (shW nn g) wt) pt gq ls (xm (i + 1) (xrm pa cap du sh) sp) (enc kn lo ro pa av ca re ye ch cap du ra sh ow bo ma de u)) 199 nn (nI (i + 1)) := fun v hv => by
      unfold f_X10_share_51
      rw [xl_e, rr_199_15 (S := (rS S b (xm i (shW nn g) wt) pt gq ls (xm i (xrm pa cap du sh) sp) (enc kn lo ro pa av ca re ye ch cap du ra sh ow bo ma de u))) tp, hv]
      by_cases hc : nn ≤ 0
      · rw [if_pos hc] at e
        rw [if_pos hc, h_greater, xc_e, h77 _ e.symm]
      · rw [if_neg hc] at e
        rw [if_neg hc, h_greater, xc_e, h77 _ e.symm]
    unfold f_X10_share_19
    rw [if_neg (x8_f hi8), h_there tp hb hb2 hi8, xc_e]
    by_cases hx : xb pa i = 0
    · rw [if_pos hx] at eg
      rw [if_pos hx, h51 0 eg]
      exact hr
    · rw [if_neg hx] at eg
      rw [if_neg hx, rr_199_17 (S := (rS S b (xm i (shW nn g) wt) pt gq ls (xm i (xrm pa cap du sh) sp) (enc kn lo ro pa av ca re ye ch cap du ra sh ow bo ma de u))) tp, xai_w (xn8 tp (by decide)) hi8, rr_gq hi8, ix_5, rget tp hb hb2 (by omega), er_cap hi8, xc_e, h51 _ eg]
      exact hr
/-! nothing is given to who isn't there -/
theorem sG_out {pa : Int32} {su : Nat → Int32} {tw : Nat → Nat → Int32} {p : Nat} (hp : p < 8) (hx : xb pa p = 0) : ∀ (m k : Nat) (c : Int32) (g : Nat → Int32) (f : Int32), (∀ q j, q < k + m → j < 8 → 0 ≤ (tw q j).toInt) → g p = 0 → (sG pa su tw m k c g f).2.1 p = 0
  | 0, k, c, g, f, hw, h => h
  | m + 1, k, c, g, f, hw, h => by
    show (if c ≤ 0 then (c, g, f) else if xhw (wr pa (tw k)) 8 0 0 = 0 then sG pa su tw m (k + 1) c g f else sG pa su tw m (k + 1) (c - xmin c (su k)) (fun j => g j + dl (xmin c (su k)) (wr pa (tw k)) j) (f + 1)).2.1 p = 0
    by_cases hc : c ≤ 0
    · rw [if_pos hc]; exact h
    · rw [if_neg hc]
      by_cases hq : xhw (wr pa (tw k)) 8 0 0 = 0
      · rw [if_pos hq]; exact sG_out hp hx m (k + 1) c g f (fun q j h1 h2 => hw q j (by omega) h2) h
      · rw [if_neg hq]
        refine sG_out hp hx m (k + 1) _ _ _ (fun q j h1 h2 => hw q j (by omega) h2) ?_
        show g p + dl _ _ p = 0
        rw [h, dl_out (wr_nn (fun j hj => hw k j (by omega) hj)) hp (by unfold wr; rw [if_pos hx])]
        rfl
theorem sV_out {pa : Int32} {su : Nat → Int32} {tw : Nat → Nat → Int32} {fi p : Nat} {n : Int32} (hp : p < 8) (hx : xb pa p = 0) (hw : ∀ q j, q ≤ fi → j < 8 → 0 ≤ (tw q j).toInt) : sV pa su tw fi n p = 0 := by
  have h1 : (sF pa su tw fi n).2.1 p = 0 := sG_out hp hx fi 0 n (fun _ => 0) 0 (fun q j h1 h2 => hw q j (by omega) h2) rfl
  have h2 : ∀ c, dl c (wq pa (tw fi)) p = 0 := fun c => dl_out (wq_nn (fun j hj => hw fi j (Nat.le_refl _) hj)) hp (wq_out hx)
  unfold sV
  by_cases h0 : (sF pa su tw fi n).1 = 0
  · rw [if_pos h0]; exact h1
  · rw [if_neg h0]
    by_cases h3 : (sF pa su tw fi n).1 ≤ 0
    · rw [if_pos h3, h1, h2]; rfl
    · rw [if_neg h3, h1, h2]; rfl
theorem h_share {T : xT} {fi : Nat} {S : xS} {b : Nat} {wt pt gq ls sp ro cap du ra sh ow bo ma de u : Nat → Int32} {kn lo pa av ca re ye ch : Int32} (tp : xTp T S.2.2) (hb : S.1 199 1 = nI b) (hb2 : b ≤ 5490) (to : rTo u fi) (hre : -2147483648 < re.toInt) (hct : -2147483648 < (xtot cap + re).toInt) (hra : ∀ k, k < 8 → 0 ≤ (ra k).toInt) (hex : ∃ p, 0 ≤ p ∧ p < 8 ∧ ¬ xb pa p = 0) (hlo : lo = 0) (hab : ∀ p, p < 8 → xb pa p = 0 → cap p = 0) (hz : ∀ k, 40 ≤ k → k < 56 → ro k = 0) : ∃ wt' pt' gq' ls' sp', f_X10_share T (rS S b wt pt gq ls sp (enc kn lo ro pa av ca re ye ch cap du ra sh ow bo ma de u)) 199 = some (rS S b wt' pt' gq' ls' sp' (enc kn (shO re pa ra cap du sh (sgp pa (rsu u) (rtw u) fi cap re) lo) (shR re pa ra cap du sh (sgp pa (rsu u) (rtw u) fi cap re) ro) pa av ca 0 ye ch (shC re pa ra cap du sh (sgp pa (rsu u) (rtw u) fi cap re)) du ra sh ow bo ma de u)) := by
  unfold f_X10_share
  rw [rget_2 tp hb hb2, xc_e, xl_e, h_sumOf_cap tp hb hb2, xc_e]
  obtain ⟨wt1, pt1, e1⟩ := h_lay (T := T) (c := xtot cap + re) (S := S) (b := b) (wt := wt) (pt := pt) (gq := gq) (ls := ls) (sp := sp) (kn := kn) (lo := lo) (ro := ro) (pa := pa) (av := av) (ca := ca) (re := re) (ye := ye) (ch := ch) (cap := cap) (du := du) (ra := ra) (sh := sh) (ow := ow) (bo := bo) (ma := ma) (de := de) (u := u) tp hb hb2 to hct
  rw [e1, xcv_e, xl_e]
  have hg : ∀ k, k < 8 → (if xb pa k = 0 then 0 else sV pa (rsu u) (rtw u) fi (xtot cap + re) k - cap k) = sgp pa (rsu u) (rtw u) fi cap re k := fun k hk => by
    unfold sgp
    by_cases hx : xb pa k = 0
    · rw [if_pos hx, sV_out hk hx (fun q j h1 h2 => (to.2.2.1 q j h1 h2).1), hab k hk hx]; rfl
    · rw [if_neg hx]
  obtain ⟨wt2, pt2, ls2, e2⟩ := L_s19 (T := T) (nn := re) (S := S) (b := b) (wt := wt1) (pt := pt1) (gq := sV pa (rsu u) (rtw u) fi (xtot cap + re)) (ls := ls) (sp := sp) (kn := kn) (lo := lo) (ro := ro) (pa := pa) (av := av) (ca := ca) (re := re) (ye := ye) (ch := ch) (cap := cap) (du := du) (ra := ra) (sh := sh) (ow := ow) (bo := bo) (ma := ma) (de := de) (u := u) tp hb hb2 hre hra hex hlo hg 8 0 xfu rfl (by decide)
  rw [xm_0, xm_0] at e2
  have e2' : f_X10_share_19 T xfu (rS S b wt1 pt1 (sV pa (rsu u) (rtw u) fi (xtot cap + re)) ls sp (enc kn lo ro pa av ca re ye ch cap du ra sh ow bo ma de u)) 199 re 0 = _ := e2
  rw [e2']
  refine ⟨wt2, pt2, sV pa (rsu u) (rtw u) fi (xtot cap + re), ls2, xrm pa cap du sh, ?_⟩
  unfold shO shR shC shL
  by_cases h0 : re = 0
  · have hge : 0 ≤ re := by rw [h0]; decide
    have hz0 : dl (xabs re) (shW re (sgp pa (rsu u) (rtw u) fi cap re)) = fun _ => 0 := dl_np (by rw [h0]; decide)
    have hs : xsg re (fun _ => 0) = fun _ => 0 := funext fun k => if_pos hge
    rw [if_pos h0, if_pos h0, if_pos h0, if_pos hge, if_pos hge, hz0, hs, rop_0 (q := 5) (fun k h1 h2 => hz k (by omega) (by omega)), rop_0 (q := 6) (fun k h1 h2 => hz k (by omega) (by omega)), xf_add0]
  · rw [if_neg h0, if_neg h0, if_neg h0]
    by_cases hr : re ≤ 0
    · have hge : ¬ 0 ≤ re := by rw [xge0]; rw [xle0] at hr; rw [xeq0] at h0; omega
      have hs : xsg re (dl (xabs re) (shW re (sgp pa (rsu u) (rtw u) fi cap re))) = fun k => 0 - dl (xabs re) (shW re (sgp pa (rsu u) (rtw u) fi cap re)) k := funext fun k => if_neg hge
      have hs2 : (fun k => cap k + (fun k => 0 - (lm pa ra (xrm pa cap du sh) 9 (dl (xabs re) (shW re (sgp pa (rsu u) (rtw u) fi cap re)))).2 k) k) = fun k => cap k - (lm pa ra (xrm pa cap du sh) 9 (dl (xabs re) (shW re (sgp pa (rsu u) (rtw u) fi cap re)))).2 k := funext fun k => by
        show cap k + (0 - _) = _
        rw [← xng, xsn]
      rw [if_neg hge, if_neg hge, if_pos hr, if_pos hr, if_pos hr, hs, hs2]
    · have hge : 0 ≤ re := by rw [xge0]; rw [xle0] at hr; omega
      have hs : xsg re (dl (xabs re) (shW re (sgp pa (rsu u) (rtw u) fi cap re))) = dl (xabs re) (shW re (sgp pa (rsu u) (rtw u) fi cap re)) := funext fun k => if_pos hge
      rw [if_pos hge, if_pos hge, if_neg hr, if_neg hr, if_neg hr, hs]
