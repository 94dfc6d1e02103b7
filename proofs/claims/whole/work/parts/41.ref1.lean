/-! the reference at its desk -/
theorem xaj_w {α : Type} {T : xT} {S : xS} {a i : Nat} {K : Int64 → Option α} (hN : T.2.1 a = 8) (h : i < 8) : xaj T S a (nI i) K = K (S.2.1 a i) := xaj_n hN h (by decide)
theorem xsj_w {α : Type} {T : xT} {S : xS} {a i : Nat} {v : Int64} {K : xS → Option α} (hN : T.2.1 a = 8) (h : i < 8) : xsj T S a (nI i) v K = K (xJ S a i v) := xsj_n hN h (by decide)
theorem ix_5 (p : Nat) : (5 : Int32) + nI p = nI (5 + p) := nI_add 5 p
theorem ix_13 (p : Nat) : (13 : Int32) + nI p = nI (13 + p) := nI_add 13 p
theorem ix_21 (p : Nat) : (21 : Int32) + nI p = nI (21 + p) := nI_add 21 p
theorem ix_29 (p : Nat) : (29 : Int32) + nI p = nI (29 + p) := nI_add 29 p
theorem ix_37 (p : Nat) : (37 : Int32) + nI p = nI (37 + p) := nI_add 37 p
theorem ix_78 (p : Nat) : (78 : Int32) + nI p = nI (78 + p) := nI_add 78 p
theorem ix_160 (p : Nat) : (160 : Int32) + nI p = nI (160 + p) := nI_add 160 p
theorem ix_208 (p : Nat) : (208 : Int32) + nI p = nI (208 + p) := nI_add 208 p
theorem ix_310 (p : Nat) : (310 : Int32) + nI p = nI (310 + p) := nI_add 310 p
theorem xc8 : ((8 : Int32) ≤ nI 8) = True := eq_true x8_t
theorem rget_0 {T : xT} {S : xS} {b : Nat} {wt pt gq ls sp ro cap du ra sh ow bo ma de u : Nat → Int32} {kn lo pa av ca re ye ch : Int32} (tp : xTp T S.2.2) (hb : S.1 199 1 = nI b) (hb2 : b ≤ 5490) : f_X10_get T (rS S b wt pt gq ls sp (enc kn lo ro pa av ca re ye ch cap du ra sh ow bo ma de u)) 199 (0 : Int32) = some (pa, (rS S b wt pt gq ls sp (enc kn lo ro pa av ca re ye ch cap du ra sh ow bo ma de u))) := rget (k := 0) tp hb hb2 (by decide)
theorem rput_0 {T : xT} {S : xS} {b : Nat} {wt pt gq ls sp ro cap du ra sh ow bo ma de u : Nat → Int32} {kn lo pa av ca re ye ch : Int32} {v : Int32} (tp : xTp T S.2.2) (hb : S.1 199 1 = nI b) (hb2 : b ≤ 5490) : f_X10_put T (rS S b wt pt gq ls sp (enc kn lo ro pa av ca re ye ch cap du ra sh ow bo ma de u)) 199 (0 : Int32) v = some (rS S b wt pt gq ls sp (enc kn lo ro v av ca re ye ch cap du ra sh ow bo ma de u)) := by
  have h := rput (T := T) (S := S) (b := b) (wt := wt) (pt := pt) (gq := gq) (ls := ls) (sp := sp) (r := (enc kn lo ro pa av ca re ye ch cap du ra sh ow bo ma de u)) (k := 0) (v := v) tp hb hb2 (by decide)
  rw [ew_pa] at h
  exact h
theorem rget_1 {T : xT} {S : xS} {b : Nat} {wt pt gq ls sp ro cap du ra sh ow bo ma de u : Nat → Int32} {kn lo pa av ca re ye ch : Int32} (tp : xTp T S.2.2) (hb : S.1 199 1 = nI b) (hb2 : b ≤ 5490) : f_X10_get T (rS S b wt pt gq ls sp (enc kn lo ro pa av ca re ye ch cap du ra sh ow bo ma de u)) 199 (1 : Int32) = some (ye, (rS S b wt pt gq ls sp (enc kn lo ro pa av ca re ye ch cap du ra sh ow bo ma de u))) := rget (k := 1) tp hb hb2 (by decide)
theorem rput_1 {T : xT} {S : xS} {b : Nat} {wt pt gq ls sp ro cap du ra sh ow bo ma de u : Nat → Int32} {kn lo pa av ca re ye ch : Int32} {v : Int32} (tp : xTp T S.2.2) (hb : S.1 199 1 = nI b) (hb2 : b ≤ 5490) : f_X10_put T (rS S b wt pt gq ls sp (enc kn lo ro pa av ca re ye ch cap du ra sh ow bo ma de u)) 199 (1 : Int32) v = some (rS S b wt pt gq ls sp (enc kn lo ro pa av ca re v ch cap du ra sh ow bo ma de u)) := by
  have h := rput (T := T) (S := S) (b := b) (wt := wt) (pt := pt) (gq := gq) (ls := ls) (sp := sp) (r := (enc kn lo ro pa av ca re ye ch cap du ra sh ow bo ma de u)) (k := 1) (v := v) tp hb hb2 (by decide)
  rw [ew_ye] at h
  exact h
theorem rget_2 {T : xT} {S : xS} {b : Nat} {wt pt gq ls sp ro cap du ra sh ow bo ma de u : Nat → Int32} {kn lo pa av ca re ye ch : Int32} (tp : xTp T S.2.2) (hb : S.1 199 1 = nI b) (hb2 : b ≤ 5490) : f_X10_get T (rS S b wt pt gq ls sp (enc kn lo ro pa av ca re ye ch cap du ra sh ow bo ma de u)) 199 (2 : Int32) = some (re, (rS S b wt pt gq ls sp (enc kn lo ro pa av ca re ye ch cap du ra sh ow bo ma de u))) := rget (k := 2) tp hb hb2 (by decide)
theorem rput_2 {T : xT} {S : xS} {b : Nat} {wt pt gq ls sp ro cap du ra sh ow bo ma de u : Nat → Int32} {kn lo pa av ca re ye ch : Int32} {v : Int32} (tp : xTp T S.2.2) (hb : S.1 199 1 = nI b) (hb2 : b ≤ 5490) : f_X10_put T (rS S b wt pt gq ls sp (enc kn lo ro pa av ca re ye ch cap du ra sh ow bo ma de u)) 199 (2 : Int32) v = some (rS S b wt pt gq ls sp (enc kn lo ro pa av ca v ye ch cap du ra sh ow bo ma de u)) := by
  have h := rput (T := T) (S := S) (b := b) (wt := wt) (pt := pt) (gq := gq) (ls := ls) (sp := sp) (r := (enc kn lo ro pa av ca re ye ch cap du ra sh ow bo ma de u)) (k := 2) (v := v) tp hb hb2 (by decide)
  rw [ew_re] at h
  exact h
theorem rget_3 {T : xT} {S : xS} {b : Nat} {wt pt gq ls sp ro cap du ra sh ow bo ma de u : Nat → Int32} {kn lo pa av ca re ye ch : Int32} (tp : xTp T S.2.2) (hb : S.1 199 1 = nI b) (hb2 : b ≤ 5490) : f_X10_get T (rS S b wt pt gq ls sp (enc kn lo ro pa av ca re ye ch cap du ra sh ow bo ma de u)) 199 (3 : Int32) = some (ca, (rS S b wt pt gq ls sp (enc kn lo ro pa av ca re ye ch cap du ra sh ow bo ma de u))) := rget (k := 3) tp hb hb2 (by decide)
theorem rput_3 {T : xT} {S : xS} {b : Nat} {wt pt gq ls sp ro cap du ra sh ow bo ma de u : Nat → Int32} {kn lo pa av ca re ye ch : Int32} {v : Int32} (tp : xTp T S.2.2) (hb : S.1 199 1 = nI b) (hb2 : b ≤ 5490) : f_X10_put T (rS S b wt pt gq ls sp (enc kn lo ro pa av ca re ye ch cap du ra sh ow bo ma de u)) 199 (3 : Int32) v = some (rS S b wt pt gq ls sp (enc kn lo ro pa av v re ye ch cap du ra sh ow bo ma de u)) := by
  have h := rput (T := T) (S := S) (b := b) (wt := wt) (pt := pt) (gq := gq) (ls := ls) (sp := sp) (r := (enc kn lo ro pa av ca re ye ch cap du ra sh ow bo ma de u)) (k := 3) (v := v) tp hb hb2 (by decide)
  rw [ew_ca] at h
  exact h
theorem rget_4 {T : xT} {S : xS} {b : Nat} {wt pt gq ls sp ro cap du ra sh ow bo ma de u : Nat → Int32} {kn lo pa av ca re ye ch : Int32} (tp : xTp T S.2.2) (hb : S.1 199 1 = nI b) (hb2 : b ≤ 5490) : f_X10_get T (rS S b wt pt gq ls sp (enc kn lo ro pa av ca re ye ch cap du ra sh ow bo ma de u)) 199 (4 : Int32) = some (ch, (rS S b wt pt gq ls sp (enc kn lo ro pa av ca re ye ch cap du ra sh ow bo ma de u))) := rget (k := 4) tp hb hb2 (by decide)
theorem rput_4 {T : xT} {S : xS} {b : Nat} {wt pt gq ls sp ro cap du ra sh ow bo ma de u : Nat → Int32} {kn lo pa av ca re ye ch : Int32} {v : Int32} (tp : xTp T S.2.2) (hb : S.1 199 1 = nI b) (hb2 : b ≤ 5490) : f_X10_put T (rS S b wt pt gq ls sp (enc kn lo ro pa av ca re ye ch cap du ra sh ow bo ma de u)) 199 (4 : Int32) v = some (rS S b wt pt gq ls sp (enc kn lo ro pa av ca re ye v cap du ra sh ow bo ma de u)) := by
  have h := rput (T := T) (S := S) (b := b) (wt := wt) (pt := pt) (gq := gq) (ls := ls) (sp := sp) (r := (enc kn lo ro pa av ca re ye ch cap du ra sh ow bo ma de u)) (k := 4) (v := v) tp hb hb2 (by decide)
  rw [ew_ch] at h
  exact h
theorem rget_308 {T : xT} {S : xS} {b : Nat} {wt pt gq ls sp ro cap du ra sh ow bo ma de u : Nat → Int32} {kn lo pa av ca re ye ch : Int32} (tp : xTp T S.2.2) (hb : S.1 199 1 = nI b) (hb2 : b ≤ 5490) : f_X10_get T (rS S b wt pt gq ls sp (enc kn lo ro pa av ca re ye ch cap du ra sh ow bo ma de u)) 199 (308 : Int32) = some (kn, (rS S b wt pt gq ls sp (enc kn lo ro pa av ca re ye ch cap du ra sh ow bo ma de u))) := rget (k := 308) tp hb hb2 (by decide)
theorem rput_308 {T : xT} {S : xS} {b : Nat} {wt pt gq ls sp ro cap du ra sh ow bo ma de u : Nat → Int32} {kn lo pa av ca re ye ch : Int32} {v : Int32} (tp : xTp T S.2.2) (hb : S.1 199 1 = nI b) (hb2 : b ≤ 5490) : f_X10_put T (rS S b wt pt gq ls sp (enc kn lo ro pa av ca re ye ch cap du ra sh ow bo ma de u)) 199 (308 : Int32) v = some (rS S b wt pt gq ls sp (enc v lo ro pa av ca re ye ch cap du ra sh ow bo ma de u)) := by
  have h := rput (T := T) (S := S) (b := b) (wt := wt) (pt := pt) (gq := gq) (ls := ls) (sp := sp) (r := (enc kn lo ro pa av ca re ye ch cap du ra sh ow bo ma de u)) (k := 308) (v := v) tp hb hb2 (by decide)
  rw [ew_kn] at h
  exact h
theorem rget_309 {T : xT} {S : xS} {b : Nat} {wt pt gq ls sp ro cap du ra sh ow bo ma de u : Nat → Int32} {kn lo pa av ca re ye ch : Int32} (tp : xTp T S.2.2) (hb : S.1 199 1 = nI b) (hb2 : b ≤ 5490) : f_X10_get T (rS S b wt pt gq ls sp (enc kn lo ro pa av ca re ye ch cap du ra sh ow bo ma de u)) 199 (309 : Int32) = some (lo, (rS S b wt pt gq ls sp (enc kn lo ro pa av ca re ye ch cap du ra sh ow bo ma de u))) := rget (k := 309) tp hb hb2 (by decide)
theorem rput_309 {T : xT} {S : xS} {b : Nat} {wt pt gq ls sp ro cap du ra sh ow bo ma de u : Nat → Int32} {kn lo pa av ca re ye ch : Int32} {v : Int32} (tp : xTp T S.2.2) (hb : S.1 199 1 = nI b) (hb2 : b ≤ 5490) : f_X10_put T (rS S b wt pt gq ls sp (enc kn lo ro pa av ca re ye ch cap du ra sh ow bo ma de u)) 199 (309 : Int32) v = some (rS S b wt pt gq ls sp (enc kn v ro pa av ca re ye ch cap du ra sh ow bo ma de u)) := by
  have h := rput (T := T) (S := S) (b := b) (wt := wt) (pt := pt) (gq := gq) (ls := ls) (sp := sp) (r := (enc kn lo ro pa av ca re ye ch cap du ra sh ow bo ma de u)) (k := 309) (v := v) tp hb hb2 (by decide)
  rw [ew_lo] at h
  exact h
theorem rmore_1 {T : xT} {S : xS} {b : Nat} {wt pt gq ls sp ro cap du ra sh ow bo ma de u : Nat → Int32} {kn lo pa av ca re ye ch : Int32} {v : Int32} (tp : xTp T S.2.2) (hb : S.1 199 1 = nI b) (hb2 : b ≤ 5490) : f_X10_more T (rS S b wt pt gq ls sp (enc kn lo ro pa av ca re ye ch cap du ra sh ow bo ma de u)) 199 (1 : Int32) v = some (rS S b wt pt gq ls sp (enc kn lo ro pa av ca re (ye + v) ch cap du ra sh ow bo ma de u)) := by
  have h := rmore (T := T) (S := S) (b := b) (wt := wt) (pt := pt) (gq := gq) (ls := ls) (sp := sp) (r := (enc kn lo ro pa av ca re ye ch cap du ra sh ow bo ma de u)) (k := 1) (v := v) tp hb hb2 (by decide)
  rw [ew_ye] at h
  exact h
theorem rmore_2 {T : xT} {S : xS} {b : Nat} {wt pt gq ls sp ro cap du ra sh ow bo ma de u : Nat → Int32} {kn lo pa av ca re ye ch : Int32} {v : Int32} (tp : xTp T S.2.2) (hb : S.1 199 1 = nI b) (hb2 : b ≤ 5490) : f_X10_more T (rS S b wt pt gq ls sp (enc kn lo ro pa av ca re ye ch cap du ra sh ow bo ma de u)) 199 (2 : Int32) v = some (rS S b wt pt gq ls sp (enc kn lo ro pa av ca (re + v) ye ch cap du ra sh ow bo ma de u)) := by
  have h := rmore (T := T) (S := S) (b := b) (wt := wt) (pt := pt) (gq := gq) (ls := ls) (sp := sp) (r := (enc kn lo ro pa av ca re ye ch cap du ra sh ow bo ma de u)) (k := 2) (v := v) tp hb hb2 (by decide)
  rw [ew_re] at h
  exact h
theorem rmore_3 {T : xT} {S : xS} {b : Nat} {wt pt gq ls sp ro cap du ra sh ow bo ma de u : Nat → Int32} {kn lo pa av ca re ye ch : Int32} {v : Int32} (tp : xTp T S.2.2) (hb : S.1 199 1 = nI b) (hb2 : b ≤ 5490) : f_X10_more T (rS S b wt pt gq ls sp (enc kn lo ro pa av ca re ye ch cap du ra sh ow bo ma de u)) 199 (3 : Int32) v = some (rS S b wt pt gq ls sp (enc kn lo ro pa av (ca + v) re ye ch cap du ra sh ow bo ma de u)) := by
  have h := rmore (T := T) (S := S) (b := b) (wt := wt) (pt := pt) (gq := gq) (ls := ls) (sp := sp) (r := (enc kn lo ro pa av ca re ye ch cap du ra sh ow bo ma de u)) (k := 3) (v := v) tp hb hb2 (by decide)
  rw [ew_ca] at h
  exact h
theorem L_sumOf_cap {T : xT} {S : xS} {b : Nat} {wt pt gq ls sp ro cap du ra sh ow bo ma de u : Nat → Int32} {kn lo pa av ca re ye ch : Int32} (tp : xTp T S.2.2) (hb : S.1 199 1 = nI b) (hb2 : b ≤ 5490) : ∀ (m i n : Nat) (c : Int32), i + m = 8 → m < n → f_X10_sumOf_4 T n (rS S b wt pt gq ls sp (enc kn lo ro pa av ca re ye ch cap du ra sh ow bo ma de u)) 199 (5 : Int32) c (nI i) = some (xsm cap m i c, (rS S b wt pt gq ls sp (enc kn lo ro pa av ca re ye ch cap du ra sh ow bo ma de u))) := by
  intro m
  induction m with
  | zero =>
    intro i n c hi hn
    obtain ⟨n, rfl⟩ : ∃ n', n = n' + 1 := ⟨n - 1, by omega⟩
    obtain rfl : i = 8 := by omega
    unfold f_X10_sumOf_4
    rw [if_pos x8_t]
    rfl
  | succ m ih =>
    intro i n c hi hn
    obtain ⟨n, rfl⟩ : ∃ n', n = n' + 1 := ⟨n - 1, by omega⟩
    have hi8 : i < 8 := by omega
    unfold f_X10_sumOf_4
    simp (disch := first | assumption | omega | ((repeat first | apply rS_tp | apply xI_tp | apply xJ_tp | apply xw_tp); exact tp) | (apply xn8 tp; decide)) only [↓xl_e, ↓xc_e, ↓xcv_e, ↓xpi_e, ↓reduceIte, ↓rr_199_15, ↓rr_199_16, ↓rr_199_17, ↓rr_199_18, ↓rr_199_19, ↓xai_w, ↓xst_w, ↓xaj_w, ↓xsj_w, rr_pt, rr_gq, rr_ls, rr_sp, rw_pt, rw_gq, rw_ls, rw_sp, rj_wt, rk_wt, ↓rget_0, ↓rget_1, ↓rget_2, ↓rget_3, ↓rget_4, ↓rget_308, ↓rget_309, ↓rput_0, ↓rput_1, ↓rput_2, ↓rput_3, ↓rput_4, ↓rput_308, ↓rput_309, ↓rmore_1, ↓rmore_2, ↓rmore_3, rget, rput, rmore, er_pa, er_ye, er_re, er_ca, er_ch, er_kn, er_lo, er_cap, er_du, er_ra, er_sh, er_ow, er_ro, er_av, er_bo, er_ma, er_de, ew_cap, ew_du, ew_ra, ew_sh, ew_ow, ew_ro, ew_bo, ew_ma, ew_de, ew_on, ew_off, x8_ff, nI_1, xb_e, xup_at, xm_n, xm_at, x00, ix_5, ix_13, ix_21, ix_29, ix_37, ix_78, ix_160, ix_208, ix_310, xc8, ih]
    rfl
theorem h_sumOf_cap {T : xT} {S : xS} {b : Nat} {wt pt gq ls sp ro cap du ra sh ow bo ma de u : Nat → Int32} {kn lo pa av ca re ye ch : Int32} (tp : xTp T S.2.2) (hb : S.1 199 1 = nI b) (hb2 : b ≤ 5490) : f_X10_sumOf T (rS S b wt pt gq ls sp (enc kn lo ro pa av ca re ye ch cap du ra sh ow bo ma de u)) 199 (5 : Int32) = some (xtot cap, (rS S b wt pt gq ls sp (enc kn lo ro pa av ca re ye ch cap du ra sh ow bo ma de u))) := L_sumOf_cap tp hb hb2 8 0 xfu 0 rfl (by decide)
theorem L_by_cap {T : xT} {S : xS} {b : Nat} {wt pt gq ls sp ro cap du ra sh ow bo ma de u : Nat → Int32} {kn lo pa av ca re ye ch : Int32} (tp : xTp T S.2.2) (hb : S.1 199 1 = nI b) (hb2 : b ≤ 5490) : ∀ (m i n : Nat), i + m = 8 → m < n → f_X10_weighBy_2 T n (rS S b (xm i cap wt) pt gq ls sp (enc kn lo ro pa av ca re ye ch cap du ra sh ow bo ma de u)) 199 (5 : Int32) (nI i) = some (rS S b cap pt gq ls sp (enc kn lo ro pa av ca re ye ch cap du ra sh ow bo ma de u)) := by
  intro m
  induction m with
  | zero =>
    intro i n hi hn
    obtain ⟨n, rfl⟩ : ∃ n', n = n' + 1 := ⟨n - 1, by omega⟩
    obtain rfl : i = 8 := by omega
    unfold f_X10_weighBy_2
    rw [if_pos x8_t, rc_wt xm_8]
  | succ m ih =>
    intro i n hi hn
    obtain ⟨n, rfl⟩ : ∃ n', n = n' + 1 := ⟨n - 1, by omega⟩
    have hi8 : i < 8 := by omega
    unfold f_X10_weighBy_2
    simp (disch := first | assumption | omega | ((repeat first | apply rS_tp | apply xI_tp | apply xJ_tp | apply xw_tp); exact tp) | (apply xn8 tp; decide)) only [↓xl_e, ↓xc_e, ↓xcv_e, ↓xpi_e, ↓reduceIte, ↓rr_199_15, ↓rr_199_16, ↓rr_199_17, ↓rr_199_18, ↓rr_199_19, ↓xai_w, ↓xst_w, ↓xaj_w, ↓xsj_w, rr_pt, rr_gq, rr_ls, rr_sp, rw_pt, rw_gq, rw_ls, rw_sp, rj_wt, rk_wt, ↓rget_0, ↓rget_1, ↓rget_2, ↓rget_3, ↓rget_4, ↓rget_308, ↓rget_309, ↓rput_0, ↓rput_1, ↓rput_2, ↓rput_3, ↓rput_4, ↓rput_308, ↓rput_309, ↓rmore_1, ↓rmore_2, ↓rmore_3, rget, rput, rmore, er_pa, er_ye, er_re, er_ca, er_ch, er_kn, er_lo, er_cap, er_du, er_ra, er_sh, er_ow, er_ro, er_av, er_bo, er_ma, er_de, ew_cap, ew_du, ew_ra, ew_sh, ew_ow, ew_ro, ew_bo, ew_ma, ew_de, ew_on, ew_off, x8_ff, nI_1, xb_e, xup_at, xm_n, xm_at, x00, ix_5, ix_13, ix_21, ix_29, ix_37, ix_78, ix_160, ix_208, ix_310, xc8, xm_s, ih]
theorem h_by_cap {T : xT} {S : xS} {b : Nat} {wt pt gq ls sp ro cap du ra sh ow bo ma de u : Nat → Int32} {kn lo pa av ca re ye ch : Int32} (tp : xTp T S.2.2) (hb : S.1 199 1 = nI b) (hb2 : b ≤ 5490) : f_X10_weighBy T (rS S b wt pt gq ls sp (enc kn lo ro pa av ca re ye ch cap du ra sh ow bo ma de u)) 199 (5 : Int32) = some (rS S b cap pt gq ls sp (enc kn lo ro pa av ca re ye ch cap du ra sh ow bo ma de u)) := by
  have h : f_X10_weighBy_2 T xfu (rS S b (xm 0 cap wt) pt gq ls sp (enc kn lo ro pa av ca re ye ch cap du ra sh ow bo ma de u)) 199 (5 : Int32) (nI 0) = _ := L_by_cap tp hb hb2 8 0 xfu rfl (by decide)
  rw [xm_0] at h
  exact h
theorem L_sumOf_sh {T : xT} {S : xS} {b : Nat} {wt pt gq ls sp ro cap du ra sh ow bo ma de u : Nat → Int32} {kn lo pa av ca re ye ch : Int32} (tp : xTp T S.2.2) (hb : S.1 199 1 = nI b) (hb2 : b ≤ 5490) : ∀ (m i n : Nat) (c : Int32), i + m = 8 → m < n → f_X10_sumOf_4 T n (rS S b wt pt gq ls sp (enc kn lo ro pa av ca re ye ch cap du ra sh ow bo ma de u)) 199 (29 : Int32) c (nI i) = some (xsm sh m i c, (rS S b wt pt gq ls sp (enc kn lo ro pa av ca re ye ch cap du ra sh ow bo ma de u))) := by
  intro m
  induction m with
  | zero =>
    intro i n c hi hn
    obtain ⟨n, rfl⟩ : ∃ n', n = n' + 1 := ⟨n - 1, by omega⟩
    obtain rfl : i = 8 := by omega
    unfold f_X10_sumOf_4
    rw [if_pos x8_t]
    rfl
  | succ m ih =>
    intro i n c hi hn
    obtain ⟨n, rfl⟩ : ∃ n', n = n' + 1 := ⟨n - 1, by omega⟩
    have hi8 : i < 8 := by omega
    unfold f_X10_sumOf_4
    simp (disch := first | assumption | omega | ((repeat first | apply rS_tp | apply xI_tp | apply xJ_tp | apply xw_tp); exact tp) | (apply xn8 tp; decide)) only [↓xl_e, ↓xc_e, ↓xcv_e, ↓xpi_e, ↓reduceIte, ↓rr_199_15, ↓rr_199_16, ↓rr_199_17, ↓rr_199_18, ↓rr_199_19, ↓xai_w, ↓xst_w, ↓xaj_w, ↓xsj_w, rr_pt, rr_gq, rr_ls, rr_sp, rw_pt, rw_gq, rw_ls, rw_sp, rj_wt, rk_wt, ↓rget_0, ↓rget_1, ↓rget_2, ↓rget_3, ↓rget_4, ↓rget_308, ↓rget_309, ↓rput_0, ↓rput_1, ↓rput_2, ↓rput_3, ↓rput_4, ↓rput_308, ↓rput_309, ↓rmore_1, ↓rmore_2, ↓rmore_3, rget, rput, rmore, er_pa, er_ye, er_re, er_ca, er_ch, er_kn, er_lo, er_cap, er_du, er_ra, er_sh, er_ow, er_ro, er_av, er_bo, er_ma, er_de, ew_cap, ew_du, ew_ra, ew_sh, ew_ow, ew_ro, ew_bo, ew_ma, ew_de, ew_on, ew_off, x8_ff, nI_1, xb_e, xup_at, xm_n, xm_at, x00, ix_5, ix_13, ix_21, ix_29, ix_37, ix_78, ix_160, ix_208, ix_310, xc8, ih]
    rfl
theorem h_sumOf_sh {T : xT} {S : xS} {b : Nat} {wt pt gq ls sp ro cap du ra sh ow bo ma de u : Nat → Int32} {kn lo pa av ca re ye ch : Int32} (tp : xTp T S.2.2) (hb : S.1 199 1 = nI b) (hb2 : b ≤ 5490) : f_X10_sumOf T (rS S b wt pt gq ls sp (enc kn lo ro pa av ca re ye ch cap du ra sh ow bo ma de u)) 199 (29 : Int32) = some (xtot sh, (rS S b wt pt gq ls sp (enc kn lo ro pa av ca re ye ch cap du ra sh ow bo ma de u))) := L_sumOf_sh tp hb hb2 8 0 xfu 0 rfl (by decide)
theorem L_by_sh {T : xT} {S : xS} {b : Nat} {wt pt gq ls sp ro cap du ra sh ow bo ma de u : Nat → Int32} {kn lo pa av ca re ye ch : Int32} (tp : xTp T S.2.2) (hb : S.1 199 1 = nI b) (hb2 : b ≤ 5490) : ∀ (m i n : Nat), i + m = 8 → m < n → f_X10_weighBy_2 T n (rS S b (xm i sh wt) pt gq ls sp (enc kn lo ro pa av ca re ye ch cap du ra sh ow bo ma de u)) 199 (29 : Int32) (nI i) = some (rS S b sh pt gq ls sp (enc kn lo ro pa av ca re ye ch cap du ra sh ow bo ma de u)) := by
  intro m
  induction m with
  | zero =>
    intro i n hi hn
    obtain ⟨n, rfl⟩ : ∃ n', n = n' + 1 := ⟨n - 1, by omega⟩
    obtain rfl : i = 8 := by omega
    unfold f_X10_weighBy_2
    rw [if_pos x8_t, rc_wt xm_8]
  | succ m ih =>
    intro i n hi hn
    obtain ⟨n, rfl⟩ : ∃ n', n = n' + 1 := ⟨n - 1, by omega⟩
    have hi8 : i < 8 := by omega
    unfold f_X10_weighBy_2
    simp (disch := first | assumption | omega | ((repeat first | apply rS_tp | apply xI_tp | apply xJ_tp | apply xw_tp); exact tp) | (apply xn8 tp; decide)) only [↓xl_e, ↓xc_e, ↓xcv_e, ↓xpi_e, ↓reduceIte, ↓rr_199_15, ↓rr_199_16, ↓rr_199_17, ↓rr_199_18, ↓rr_199_19, ↓xai_w, ↓xst_w, ↓xaj_w, ↓xsj_w, rr_pt, rr_gq, rr_ls, rr_sp, rw_pt, rw_gq, rw_ls, rw_sp, rj_wt, rk_wt, ↓rget_0, ↓rget_1, ↓rget_2, ↓rget_3, ↓rget_4, ↓rget_308, ↓rget_309, ↓rput_0, ↓rput_1, ↓rput_2, ↓rput_3, ↓rput_4, ↓rput_308, ↓rput_309, ↓rmore_1, ↓rmore_2, ↓rmore_3, rget, rput, rmore, er_pa, er_ye, er_re, er_ca, er_ch, er_kn, er_lo, er_cap, er_du, er_ra, er_sh, er_ow, er_ro, er_av, er_bo, er_ma, er_de, ew_cap, ew_du, ew_ra, ew_sh, ew_ow, ew_ro, ew_bo, ew_ma, ew_de, ew_on, ew_off, x8_ff, nI_1, xb_e, xup_at, xm_n, xm_at, x00, ix_5, ix_13, ix_21, ix_29, ix_37, ix_78, ix_160, ix_208, ix_310, xc8, xm_s, ih]
theorem h_by_sh {T : xT} {S : xS} {b : Nat} {wt pt gq ls sp ro cap du ra sh ow bo ma de u : Nat → Int32} {kn lo pa av ca re ye ch : Int32} (tp : xTp T S.2.2) (hb : S.1 199 1 = nI b) (hb2 : b ≤ 5490) : f_X10_weighBy T (rS S b wt pt gq ls sp (enc kn lo ro pa av ca re ye ch cap du ra sh ow bo ma de u)) 199 (29 : Int32) = some (rS S b sh pt gq ls sp (enc kn lo ro pa av ca re ye ch cap du ra sh ow bo ma de u)) := by
  have h : f_X10_weighBy_2 T xfu (rS S b (xm 0 sh wt) pt gq ls sp (enc kn lo ro pa av ca re ye ch cap du ra sh ow bo ma de u)) 199 (29 : Int32) (nI 0) = _ := L_by_sh tp hb hb2 8 0 xfu rfl (by decide)
  rw [xm_0] at h
  exact h
theorem L_sumOf_ow {T : xT} {S : xS} {b : Nat} {wt pt gq ls sp ro cap du ra sh ow bo ma de u : Nat → Int32} {kn lo pa av ca re ye ch : Int32} (tp : xTp T S.2.2) (hb : S.1 199 1 = nI b) (hb2 : b ≤ 5490) : ∀ (m i n : Nat) (c : Int32), i + m = 8 → m < n → f_X10_sumOf_4 T n (rS S b wt pt gq ls sp (enc kn lo ro pa av ca re ye ch cap du ra sh ow bo ma de u)) 199 (37 : Int32) c (nI i) = some (xsm ow m i c, (rS S b wt pt gq ls sp (enc kn lo ro pa av ca re ye ch cap du ra sh ow bo ma de u))) := by
  intro m
  induction m with
  | zero =>
    intro i n c hi hn
    obtain ⟨n, rfl⟩ : ∃ n', n = n' + 1 := ⟨n - 1, by omega⟩
    obtain rfl : i = 8 := by omega
    unfold f_X10_sumOf_4
    rw [if_pos x8_t]
    rfl
  | succ m ih =>
    intro i n c hi hn
    obtain ⟨n, rfl⟩ : ∃ n', n = n' + 1 := ⟨n - 1, by omega⟩
    have hi8 : i < 8 := by omega
    unfold f_X10_sumOf_4
    simp (disch := first | assumption | omega | ((repeat first | apply rS_tp | apply xI_tp | apply xJ_tp | apply xw_tp); exact tp) | (apply xn8 tp; decide)) only [↓xl_e, ↓xc_e, ↓xcv_e, ↓xpi_e, ↓reduceIte, ↓rr_199_15, ↓rr_199_16, ↓rr_199_17, ↓rr_199_18, ↓rr_199_19, ↓xai_w, ↓xst_w, ↓xaj_w, ↓xsj_w, rr_pt, rr_gq, rr_ls, rr_sp, rw_pt, rw_gq, rw_ls, rw_sp, rj_wt, rk_wt, ↓rget_0, ↓rget_1, ↓rget_2, ↓rget_3, ↓rget_4, ↓rget_308, ↓rget_309, ↓rput_0, ↓rput_1, ↓rput_2, ↓rput_3, ↓rput_4, ↓rput_308, ↓rput_309, ↓rmore_1, ↓rmore_2, ↓rmore_3, rget, rput, rmore, er_pa, er_ye, er_re, er_ca, er_ch, er_kn, er_lo, er_cap, er_du, er_ra, er_sh, er_ow, er_ro, er_av, er_bo, er_ma, er_de, ew_cap, ew_du, ew_ra, ew_sh, ew_ow, ew_ro, ew_bo, ew_ma, ew_de, ew_on, ew_off, x8_ff, nI_1, xb_e, xup_at, xm_n, xm_at, x00, ix_5, ix_13, ix_21, ix_29, ix_37, ix_78, ix_160, ix_208, ix_310, xc8, ih]
    rfl
theorem h_sumOf_ow {T : xT} {S : xS} {b : Nat} {wt pt gq ls sp ro cap du ra sh ow bo ma de u : Nat → Int32} {kn lo pa av ca re ye ch : Int32} (tp : xTp T S.2.2) (hb : S.1 199 1 = nI b) (hb2 : b ≤ 5490) : f_X10_sumOf T (rS S b wt pt gq ls sp (enc kn lo ro pa av ca re ye ch cap du ra sh ow bo ma de u)) 199 (37 : Int32) = some (xtot ow, (rS S b wt pt gq ls sp (enc kn lo ro pa av ca re ye ch cap du ra sh ow bo ma de u))) := L_sumOf_ow tp hb hb2 8 0 xfu 0 rfl (by decide)
theorem L_by_ow {T : xT} {S : xS} {b : Nat} {wt pt gq ls sp ro cap du ra sh ow bo ma de u : Nat → Int32} {kn lo pa av ca re ye ch : Int32} (tp : xTp T S.2.2) (hb : S.1 199 1 = nI b) (hb2 : b ≤ 5490) : ∀ (m i n : Nat), i + m = 8 → m < n → f_X10_weighBy_2 T n (rS S b (xm i ow wt) pt gq ls sp (enc kn lo ro pa av ca re ye ch cap du ra sh ow bo ma de u)) 199 (37 : Int32) (nI i) = some (rS S b ow pt gq ls sp (enc kn lo ro pa av ca re ye ch cap du ra sh ow bo ma de u)) := by
  intro m
  induction m with
  | zero =>
    intro i n hi hn
    obtain ⟨n, rfl⟩ : ∃ n', n = n' + 1 := ⟨n - 1, by omega⟩
    obtain rfl : i = 8 := by omega
    unfold f_X10_weighBy_2
    rw [if_pos x8_t, rc_wt xm_8]
  | succ m ih =>
    intro i n hi hn
    obtain ⟨n, rfl⟩ : ∃ n', n = n' + 1 := ⟨n - 1, by omega⟩
    have hi8 : i < 8 := by omega
    unfold f_X10_weighBy_2
    simp (disch := first | assumption | omega | ((repeat first | apply rS_tp | apply xI_tp | apply xJ_tp | apply xw_tp); exact tp) | (apply xn8 tp; decide)) only [↓xl_e, ↓xc_e, ↓xcv_e, ↓xpi_e, ↓reduceIte, ↓rr_199_15, ↓rr_199_16, ↓rr_199_17, ↓rr_199_18, ↓rr_199_19, ↓xai_w, ↓xst_w, ↓xaj_w, ↓xsj_w, rr_pt, rr_gq, rr_ls, rr_sp, rw_pt, rw_gq, rw_ls, rw_sp, rj_wt, rk_wt, ↓rget_0, ↓rget_1, ↓rget_2, ↓rget_3, ↓rget_4, ↓rget_308, ↓rget_309, ↓rput_0, ↓rput_1, ↓rput_2, ↓rput_3, ↓rput_4, ↓rput_308, ↓rput_309, ↓rmore_1, ↓rmore_2, ↓rmore_3, rget, rput, rmore, er_pa, er_ye, er_re, er_ca, er_ch, er_kn, er_lo, er_cap, er_du, er_ra, er_sh, er_ow, er_ro, er_av, er_bo, er_ma, er_de, ew_cap, ew_du, ew_ra, ew_sh, ew_ow, ew_ro, ew_bo, ew_ma, ew_de, ew_on, ew_off, x8_ff, nI_1, xb_e, xup_at, xm_n, xm_at, x00, ix_5, ix_13, ix_21, ix_29, ix_37, ix_78, ix_160, ix_208, ix_310, xc8, xm_s, ih]
theorem h_by_ow {T : xT} {S : xS} {b : Nat} {wt pt gq ls sp ro cap du ra sh ow bo ma de u : Nat → Int32} {kn lo pa av ca re ye ch : Int32} (tp : xTp T S.2.2) (hb : S.1 199 1 = nI b) (hb2 : b ≤ 5490) : f_X10_weighBy T (rS S b wt pt gq ls sp (enc kn lo ro pa av ca re ye ch cap du ra sh ow bo ma de u)) 199 (37 : Int32) = some (rS S b ow pt gq ls sp (enc kn lo ro pa av ca re ye ch cap du ra sh ow bo ma de u)) := by
  have h : f_X10_weighBy_2 T xfu (rS S b (xm 0 ow wt) pt gq ls sp (enc kn lo ro pa av ca re ye ch cap du ra sh ow bo ma de u)) 199 (37 : Int32) (nI 0) = _ := L_by_ow tp hb hb2 8 0 xfu rfl (by decide)
  rw [xm_0] at h
  exact h
theorem h_isIn (T : xT) (S : xS) (a l h : Int32) : f_X10_isIn T S a l h = some (if a < l then 0 else if h < a then 0 else 1, S) := by
  unfold f_X10_isIn
  by_cases h1 : a < l
  · rw [if_pos h1, if_pos h1]
  · by_cases h2 : h < a
    · rw [if_neg h1, if_neg h1, if_pos h2, if_pos h2]
    · rw [if_neg h1, if_neg h1, if_neg h2, if_neg h2]
theorem h_isIn7 (T : xT) (S : xS) {i : Nat} (h : i < 8) : f_X10_isIn T S (nI i) 0 7 = some (1, S) := by
  have h7 : ¬ (7 : Int32) < nI i := nI_nlt (a := 7) (b := i) (by omega) (by decide)
  rw [h_isIn, if_neg (nI_pos (by omega)), if_neg h7]
theorem h_there {T : xT} {S : xS} {b : Nat} {wt pt gq ls sp ro cap du ra sh ow bo ma de u : Nat → Int32} {kn lo pa av ca re ye ch : Int32} (tp : xTp T S.2.2) (hb : S.1 199 1 = nI b) (hb2 : b ≤ 5490) {i : Nat} (hi : i < 8) : f_X10_isThere T (rS S b wt pt gq ls sp (enc kn lo ro pa av ca re ye ch cap du ra sh ow bo ma de u)) 199 (nI i) = some (xb pa i, (rS S b wt pt gq ls sp (enc kn lo ro pa av ca re ye ch cap du ra sh ow bo ma de u))) := by
  unfold f_X10_isThere
  rw [h_isIn7 _ _ hi, xc_e, if_neg (by decide), rget_0 tp hb hb2, xc_e, xb_e]
  rcases xb_01 pa i with h | h <;> rw [h]
  · rw [if_neg (by decide)]
  · rw [if_pos rfl]
theorem ix45 (i : Nat) : (45 : Int32) + (4 : Int32) * nI i = nI (45 + 4 * i + 0) := by
  rw [show (4 : Int32) * nI i = nI (4 * i) from pk_mul 4 i]
  exact nI_add 45 (4 * i)
theorem ix451 (i : Nat) : nI (45 + 4 * i + 0) + (1 : Int32) = nI (45 + 4 * i + 1) := nI_add _ 1
theorem ix452 (i : Nat) : nI (45 + 4 * i + 0) + (2 : Int32) = nI (45 + 4 * i + 2) := nI_add _ 2
theorem ix453 (i : Nat) : nI (45 + 4 * i + 0) + (3 : Int32) = nI (45 + 4 * i + 3) := nI_add _ 3
theorem h_assetAt (T : xT) (S : xS) (i : Nat) : f_X10_assetAt T S (nI i) = some (nI (45 + 4 * i + 0), S) := by
  unfold f_X10_assetAt
  rw [ix45]
theorem h_asset {T : xT} {S : xS} {b : Nat} {wt pt gq ls sp ro cap du ra sh ow bo ma de u : Nat → Int32} {kn lo pa av ca re ye ch : Int32} (tp : xTp T S.2.2) (hb : S.1 199 1 = nI b) (hb2 : b ≤ 5490) {i : Nat} (hi : i < 8) : f_X10_isAsset T (rS S b wt pt gq ls sp (enc kn lo ro pa av ca re ye ch cap du ra sh ow bo ma de u)) 199 (nI i) = some (xb av i, (rS S b wt pt gq ls sp (enc kn lo ro pa av ca re ye ch cap du ra sh ow bo ma de u))) := by
  unfold f_X10_isAsset
  rw [h_isIn7 _ _ hi, xc_e, if_neg (by decide), h_assetAt, xc_e, rget tp hb hb2 (by omega), er_av hi, xc_e]
  rcases xb_01 av i with h | h <;> rw [h]
  · rw [if_neg (by decide)]
  · rw [if_pos rfl]
theorem h_greater (T : xT) (S : xS) (a : Int32) : f_X10_greater T S 0 a = some (xmax 0 a, S) := by
  unfold f_X10_greater xmax
  by_cases h : (0 : Int32) ≤ a
  · rw [if_pos h]
    by_cases h2 : (0 : Int32) < a
    · rw [if_pos h2]
    · rw [if_neg h2]
      have : a = 0 := by rw [xeq0]; rw [xge0] at h; rw [xgt0] at h2; omega
      rw [this]
  · rw [if_neg h, if_neg (by rw [xge0] at h; rw [xgt0]; omega)]
theorem h_greater2 (T : xT) (S : xS) (a c : Int32) : f_X10_greater T S a c = some (xmax a c, S) := by
  unfold f_X10_greater xmax
  by_cases h : a ≤ c
  · rw [if_pos h]
    by_cases h2 : a < c
    · rw [if_pos h2]
    · rw [if_neg h2]
      have : c = a := by rw [xeq]; rw [xle] at h; rw [xlt] at h2; omega
      rw [this]
  · rw [if_neg h, if_neg (by rw [xle] at h; rw [xlt]; omega)]
theorem h_lesser (T : xT) (S : xS) (a c : Int32) : f_X10_lesser T S a c = some (xmin a c, S) := by
  unfold f_X10_lesser xmin
  by_cases h : c ≤ a
  · rw [if_pos h]
    by_cases h2 : c < a
    · rw [if_pos h2]
    · rw [if_neg h2]
      have : c = a := by rw [xeq]; rw [xle] at h; rw [xlt] at h2; omega
      rw [this]
  · rw [if_neg h, if_neg (by rw [xle] at h; rw [xlt]; omega)]
theorem h_floor {T : xT} {S : xS} {b : Nat} {wt pt gq ls sp ro cap du ra sh ow bo ma de u : Nat → Int32} {kn lo pa av ca re ye ch : Int32} (tp : xTp T S.2.2) (hb : S.1 199 1 = nI b) (hb2 : b ≤ 5490) {i : Nat} (hi : i < 8) : f_X10_floorOf T (rS S b wt pt gq ls sp (enc kn lo ro pa av ca re ye ch cap du ra sh ow bo ma de u)) 199 (nI i) = some (-du i - sh i, (rS S b wt pt gq ls sp (enc kn lo ro pa av ca re ye ch cap du ra sh ow bo ma de u))) := by
  unfold f_X10_floorOf
  simp (disch := first | assumption | omega | ((repeat first | apply rS_tp | apply xI_tp | apply xJ_tp | apply xw_tp); exact tp) | (apply xn8 tp; decide)) only [↓xl_e, ↓xc_e, ↓xcv_e, ↓xpi_e, ↓reduceIte, ↓rr_199_15, ↓rr_199_16, ↓rr_199_17, ↓rr_199_18, ↓rr_199_19, ↓xai_w, ↓xst_w, ↓xaj_w, ↓xsj_w, rr_pt, rr_gq, rr_ls, rr_sp, rw_pt, rw_gq, rw_ls, rw_sp, rj_wt, rk_wt, ↓rget_0, ↓rget_1, ↓rget_2, ↓rget_3, ↓rget_4, ↓rget_308, ↓rget_309, ↓rput_0, ↓rput_1, ↓rput_2, ↓rput_3, ↓rput_4, ↓rput_308, ↓rput_309, ↓rmore_1, ↓rmore_2, ↓rmore_3, rget, rput, rmore, er_pa, er_ye, er_re, er_ca, er_ch, er_kn, er_lo, er_cap, er_du, er_ra, er_sh, er_ow, er_ro, er_av, er_bo, er_ma, er_de, ew_cap, ew_du, ew_ra, ew_sh, ew_ow, ew_ro, ew_bo, ew_ma, ew_de, ew_on, ew_off, x8_ff, nI_1, xb_e, xup_at, xm_n, xm_at, x00, ix_5, ix_13, ix_21, ix_29, ix_37, ix_78, ix_160, ix_208, ix_310, xc8]
/-- assets are well -/
def xAs (av : Int32) (bo ma de : Nat → Int32) : Prop := ∀ i, i < 8 → (0 ≤ (bo i).toInt ∧ (bo i).toInt ≤ 1000000) ∧ (0 ≤ (ma i).toInt ∧ (ma i).toInt ≤ 1000000) ∧ (0 ≤ (de i).toInt ∧ (de i).toInt ≤ 1000000) ∧ (xb av i = 0 → bo i = 0 ∧ ma i = 0 ∧ de i = 0)
theorem xhe_eq {av : Int32} {bo ma de : Nat → Int32} (ha : xAs av bo ma de) {i : Nat} (hi : i < 8) : (if xb av i = 0 then 0 else xmax 0 (de i - bo i)) = xhe bo de i := by
  obtain ⟨h1, h2, h3, h4⟩ := ha i hi
  unfold xhe
  by_cases hb : xb av i = 0
  · obtain ⟨e1, e2, e3⟩ := h4 hb
    rw [if_pos hb, e1, e3, if_pos (by decide)]
  · rw [if_neg hb]
    have e : (de i - bo i).toInt = (de i).toInt - (bo i).toInt := xsub (by omega) (by omega)
    by_cases hd : de i ≤ bo i
    · rw [if_pos hd, xeq0, xmax_i, e]
      rw [xle] at hd
      have : (0 : Int32).toInt = 0 := by decide
      rw [this]; omega
    · rw [if_neg hd, xeq, xmax_i, e]
      rw [xle] at hd
      have : (0 : Int32).toInt = 0 := by decide
      rw [this]; omega
theorem L_rheld {T : xT} {S : xS} {b : Nat} {wt pt gq ls sp ro cap du ra sh ow bo ma de u : Nat → Int32} {kn lo pa av ca re ye ch : Int32} (tp : xTp T S.2.2) (hb : S.1 199 1 = nI b) (hb2 : b ≤ 5490) (ha : xAs av bo ma de) : ∀ (m i n : Nat) (c : Int32), i + m = 8 → m < n → f_X10_held_4 T n (rS S b wt pt gq ls sp (enc kn lo ro pa av ca re ye ch cap du ra sh ow bo ma de u)) 199 c (nI i) = some (xsm (xhe bo de) m i c, (rS S b wt pt gq ls sp (enc kn lo ro pa av ca re ye ch cap du ra sh ow bo ma de u))) := by
  intro m
  induction m with
  | zero =>
    intro i n c hi hn
    obtain ⟨n, rfl⟩ : ∃ n', n = n' + 1 := ⟨n - 1, by omega⟩
    obtain rfl : i = 8 := by omega
    unfold f_X10_held_4
    rw [if_pos x8_t]
    rfl
  | succ m ih =>
    intro i n c hi hn
    obtain ⟨n, rfl⟩ : ∃ n', n = n' + 1 := ⟨n - 1, by omega⟩
    have hi8 : i < 8 := by omega
    unfold f_X10_held_4
    have e2 : xsm (xhe bo de) (m + 1) i c = xsm (xhe bo de) m (i + 1) (c + xhe bo de i) := rfl
    have e3 := xhe_eq ha hi8
    rw [e2, ← e3]
    by_cases hx : xb av i = 0
    · simp (disch := first | assumption | omega | ((repeat first | apply rS_tp | apply xI_tp | apply xJ_tp | apply xw_tp); exact tp) | (apply xn8 tp; decide)) only [↓xl_e, ↓xc_e, ↓xcv_e, ↓xpi_e, ↓reduceIte, ↓rr_199_15, ↓rr_199_16, ↓rr_199_17, ↓rr_199_18, ↓rr_199_19, ↓xai_w, ↓xst_w, ↓xaj_w, ↓xsj_w, rr_pt, rr_gq, rr_ls, rr_sp, rw_pt, rw_gq, rw_ls, rw_sp, rj_wt, rk_wt, ↓rget_0, ↓rget_1, ↓rget_2, ↓rget_3, ↓rget_4, ↓rget_308, ↓rget_309, ↓rput_0, ↓rput_1, ↓rput_2, ↓rput_3, ↓rput_4, ↓rput_308, ↓rput_309, ↓rmore_1, ↓rmore_2, ↓rmore_3, rget, rput, rmore, er_pa, er_ye, er_re, er_ca, er_ch, er_kn, er_lo, er_cap, er_du, er_ra, er_sh, er_ow, er_ro, er_av, er_bo, er_ma, er_de, ew_cap, ew_du, ew_ra, ew_sh, ew_ow, ew_ro, ew_bo, ew_ma, ew_de, ew_on, ew_off, x8_ff, nI_1, xb_e, xup_at, xm_n, xm_at, x00, ix_5, ix_13, ix_21, ix_29, ix_37, ix_78, ix_160, ix_208, ix_310, xc8, h_asset tp hb hb2 hi8, hx, ih]
    · simp (disch := first | assumption | omega | ((repeat first | apply rS_tp | apply xI_tp | apply xJ_tp | apply xw_tp); exact tp) | (apply xn8 tp; decide)) only [↓xl_e, ↓xc_e, ↓xcv_e, ↓xpi_e, ↓reduceIte, ↓rr_199_15, ↓rr_199_16, ↓rr_199_17, ↓rr_199_18, ↓rr_199_19, ↓xai_w, ↓xst_w, ↓xaj_w, ↓xsj_w, rr_pt, rr_gq, rr_ls, rr_sp, rw_pt, rw_gq, rw_ls, rw_sp, rj_wt, rk_wt, ↓rget_0, ↓rget_1, ↓rget_2, ↓rget_3, ↓rget_4, ↓rget_308, ↓rget_309, ↓rput_0, ↓rput_1, ↓rput_2, ↓rput_3, ↓rput_4, ↓rput_308, ↓rput_309, ↓rmore_1, ↓rmore_2, ↓rmore_3, rget, rput, rmore, er_pa, er_ye, er_re, er_ca, er_ch, er_kn, er_lo, er_cap, er_du, er_ra, er_sh, er_ow, er_ro, er_av, er_bo, er_ma, er_de, ew_cap, ew_du, ew_ra, ew_sh, ew_ow, ew_ro, ew_bo, ew_ma, ew_de, ew_on, ew_off, x8_ff, nI_1, xb_e, xup_at, xm_n, xm_at, x00, ix_5, ix_13, ix_21, ix_29, ix_37, ix_78, ix_160, ix_208, ix_310, xc8, h_asset tp hb hb2 hi8, hx, h_assetAt, ix451, ix453, h_greater, ih]
theorem h_held {T : xT} {S : xS} {b : Nat} {wt pt gq ls sp ro cap du ra sh ow bo ma de u : Nat → Int32} {kn lo pa av ca re ye ch : Int32} (tp : xTp T S.2.2) (hb : S.1 199 1 = nI b) (hb2 : b ≤ 5490) (ha : xAs av bo ma de) : f_X10_held T (rS S b wt pt gq ls sp (enc kn lo ro pa av ca re ye ch cap du ra sh ow bo ma de u)) 199 = some (xtot (xhe bo de), (rS S b wt pt gq ls sp (enc kn lo ro pa av ca re ye ch cap du ra sh ow bo ma de u))) := L_rheld tp hb hb2 ha 8 0 xfu 0 rfl (by decide)
theorem L_rnet {T : xT} {S : xS} {b : Nat} {wt pt gq ls sp ro cap du ra sh ow bo ma de u : Nat → Int32} {kn lo pa av ca re ye ch : Int32} (tp : xTp T S.2.2) (hb : S.1 199 1 = nI b) (hb2 : b ≤ 5490) (ha : xAs av bo ma de) : ∀ (m i n : Nat) (c : Int32), i + m = 8 → m < n → f_X10_net_8 T n (rS S b wt pt gq ls sp (enc kn lo ro pa av ca re ye ch cap du ra sh ow bo ma de u)) 199 c (nI i) = some (xsm (fun k => bo k - de k) m i c, (rS S b wt pt gq ls sp (enc kn lo ro pa av ca re ye ch cap du ra sh ow bo ma de u))) := by
  intro m
  induction m with
  | zero =>
    intro i n c hi hn
    obtain ⟨n, rfl⟩ : ∃ n', n = n' + 1 := ⟨n - 1, by omega⟩
    obtain rfl : i = 8 := by omega
    unfold f_X10_net_8
    rw [if_pos x8_t]
    rfl
  | succ m ih =>
    intro i n c hi hn
    obtain ⟨n, rfl⟩ : ∃ n', n = n' + 1 := ⟨n - 1, by omega⟩
    have hi8 : i < 8 := by omega
    unfold f_X10_net_8
    have e2 : xsm (fun k => bo k - de k) (m + 1) i c = xsm (fun k => bo k - de k) m (i + 1) (c + (bo i - de i)) := rfl
    rw [e2]
    by_cases hx : xb av i = 0
    · obtain ⟨e4, _, e6⟩ := (ha i hi8).2.2.2 hx
      have e5 : bo i - de i = 0 := by rw [e4, e6]; rfl
      simp (disch := first | assumption | omega | ((repeat first | apply rS_tp | apply xI_tp | apply xJ_tp | apply xw_tp); exact tp) | (apply xn8 tp; decide)) only [↓xl_e, ↓xc_e, ↓xcv_e, ↓xpi_e, ↓reduceIte, ↓rr_199_15, ↓rr_199_16, ↓rr_199_17, ↓rr_199_18, ↓rr_199_19, ↓xai_w, ↓xst_w, ↓xaj_w, ↓xsj_w, rr_pt, rr_gq, rr_ls, rr_sp, rw_pt, rw_gq, rw_ls, rw_sp, rj_wt, rk_wt, ↓rget_0, ↓rget_1, ↓rget_2, ↓rget_3, ↓rget_4, ↓rget_308, ↓rget_309, ↓rput_0, ↓rput_1, ↓rput_2, ↓rput_3, ↓rput_4, ↓rput_308, ↓rput_309, ↓rmore_1, ↓rmore_2, ↓rmore_3, rget, rput, rmore, er_pa, er_ye, er_re, er_ca, er_ch, er_kn, er_lo, er_cap, er_du, er_ra, er_sh, er_ow, er_ro, er_av, er_bo, er_ma, er_de, ew_cap, ew_du, ew_ra, ew_sh, ew_ow, ew_ro, ew_bo, ew_ma, ew_de, ew_on, ew_off, x8_ff, nI_1, xb_e, xup_at, xm_n, xm_at, x00, ix_5, ix_13, ix_21, ix_29, ix_37, ix_78, ix_160, ix_208, ix_310, xc8, h_asset tp hb hb2 hi8, hx, e5, ih]
    · simp (disch := first | assumption | omega | ((repeat first | apply rS_tp | apply xI_tp | apply xJ_tp | apply xw_tp); exact tp) | (apply xn8 tp; decide)) only [↓xl_e, ↓xc_e, ↓xcv_e, ↓xpi_e, ↓reduceIte, ↓rr_199_15, ↓rr_199_16, ↓rr_199_17, ↓rr_199_18, ↓rr_199_19, ↓xai_w, ↓xst_w, ↓xaj_w, ↓xsj_w, rr_pt, rr_gq, rr_ls, rr_sp, rw_pt, rw_gq, rw_ls, rw_sp, rj_wt, rk_wt, ↓rget_0, ↓rget_1, ↓rget_2, ↓rget_3, ↓rget_4, ↓rget_308, ↓rget_309, ↓rput_0, ↓rput_1, ↓rput_2, ↓rput_3, ↓rput_4, ↓rput_308, ↓rput_309, ↓rmore_1, ↓rmore_2, ↓rmore_3, rget, rput, rmore, er_pa, er_ye, er_re, er_ca, er_ch, er_kn, er_lo, er_cap, er_du, er_ra, er_sh, er_ow, er_ro, er_av, er_bo, er_ma, er_de, ew_cap, ew_du, ew_ra, ew_sh, ew_ow, ew_ro, ew_bo, ew_ma, ew_de, ew_on, ew_off, x8_ff, nI_1, xb_e, xup_at, xm_n, xm_at, x00, ix_5, ix_13, ix_21, ix_29, ix_37, ix_78, ix_160, ix_208, ix_310, xc8, h_asset tp hb hb2 hi8, hx, h_assetAt, ix451, ix453, ih]
theorem h_net {T : xT} {S : xS} {b : Nat} {wt pt gq ls sp ro cap du ra sh ow bo ma de u : Nat → Int32} {kn lo pa av ca re ye ch : Int32} (tp : xTp T S.2.2) (hb : S.1 199 1 = nI b) (hb2 : b ≤ 5490) (ha : xAs av bo ma de) : f_X10_net T (rS S b wt pt gq ls sp (enc kn lo ro pa av ca re ye ch cap du ra sh ow bo ma de u)) 199 = some (xsm (fun k => bo k - de k) 8 0 ca, (rS S b wt pt gq ls sp (enc kn lo ro pa av ca re ye ch cap du ra sh ow bo ma de u))) := by
  unfold f_X10_net
  rw [rget_3 tp hb hb2, xc_e, xl_e]
  exact L_rnet tp hb hb2 ha 8 0 xfu ca rfl (by decide)
