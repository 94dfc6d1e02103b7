theorem en_cap {ro cap du ra sh ow bo ma de u : Nat → Int32} {kn lo pa av ca re ye ch : Int32} {g : Nat → Int32} (h : ∀ k, k < 8 → cap k = g k) : (enc kn lo ro pa av ca re ye ch cap du ra sh ow bo ma de u) = (enc kn lo ro pa av ca re ye ch g du ra sh ow bo ma de u) := by
  funext j
  unfold enc
  repeat' split
  all_goals first | rfl | rw [h _ (by omega)]
theorem en_du {ro cap du ra sh ow bo ma de u : Nat → Int32} {kn lo pa av ca re ye ch : Int32} {g : Nat → Int32} (h : ∀ k, k < 8 → du k = g k) : (enc kn lo ro pa av ca re ye ch cap du ra sh ow bo ma de u) = (enc kn lo ro pa av ca re ye ch cap g ra sh ow bo ma de u) := by
  funext j
  unfold enc
  repeat' split
  all_goals first | rfl | rw [h _ (by omega)]
theorem en_ra {ro cap du ra sh ow bo ma de u : Nat → Int32} {kn lo pa av ca re ye ch : Int32} {g : Nat → Int32} (h : ∀ k, k < 8 → ra k = g k) : (enc kn lo ro pa av ca re ye ch cap du ra sh ow bo ma de u) = (enc kn lo ro pa av ca re ye ch cap du g sh ow bo ma de u) := by
  funext j
  unfold enc
  repeat' split
  all_goals first | rfl | rw [h _ (by omega)]
theorem en_sh {ro cap du ra sh ow bo ma de u : Nat → Int32} {kn lo pa av ca re ye ch : Int32} {g : Nat → Int32} (h : ∀ k, k < 8 → sh k = g k) : (enc kn lo ro pa av ca re ye ch cap du ra sh ow bo ma de u) = (enc kn lo ro pa av ca re ye ch cap du ra g ow bo ma de u) := by
  funext j
  unfold enc
  repeat' split
  all_goals first | rfl | rw [h _ (by omega)]
theorem en_ow {ro cap du ra sh ow bo ma de u : Nat → Int32} {kn lo pa av ca re ye ch : Int32} {g : Nat → Int32} (h : ∀ k, k < 8 → ow k = g k) : (enc kn lo ro pa av ca re ye ch cap du ra sh ow bo ma de u) = (enc kn lo ro pa av ca re ye ch cap du ra sh g bo ma de u) := by
  funext j
  unfold enc
  repeat' split
  all_goals first | rfl | rw [h _ (by omega)]
theorem en_bo {ro cap du ra sh ow bo ma de u : Nat → Int32} {kn lo pa av ca re ye ch : Int32} {g : Nat → Int32} (h : ∀ k, k < 8 → bo k = g k) : (enc kn lo ro pa av ca re ye ch cap du ra sh ow bo ma de u) = (enc kn lo ro pa av ca re ye ch cap du ra sh ow g ma de u) := by
  funext j
  unfold enc
  repeat' split
  all_goals first | rfl | rw [h _ (by omega)]
theorem en_ma {ro cap du ra sh ow bo ma de u : Nat → Int32} {kn lo pa av ca re ye ch : Int32} {g : Nat → Int32} (h : ∀ k, k < 8 → ma k = g k) : (enc kn lo ro pa av ca re ye ch cap du ra sh ow bo ma de u) = (enc kn lo ro pa av ca re ye ch cap du ra sh ow bo g de u) := by
  funext j
  unfold enc
  repeat' split
  all_goals first | rfl | rw [h _ (by omega)]
theorem en_de {ro cap du ra sh ow bo ma de u : Nat → Int32} {kn lo pa av ca re ye ch : Int32} {g : Nat → Int32} (h : ∀ k, k < 8 → de k = g k) : (enc kn lo ro pa av ca re ye ch cap du ra sh ow bo ma de u) = (enc kn lo ro pa av ca re ye ch cap du ra sh ow bo ma g u) := by
  funext j
  unfold enc
  repeat' split
  all_goals first | rfl | rw [h _ (by omega)]
/-! steps noted, sums moved, in the reference -/
def xrq (q i : Nat) (p ro : Nat → Int32) : Nat → Int32 := fun k => if 8 * q ≤ k ∧ k < 8 * q + i then p (k - 8 * q) else ro k
theorem xrq_0 (q : Nat) (p ro : Nat → Int32) : xrq q 0 p ro = ro := by funext k; unfold xrq; rw [if_neg (by omega)]
theorem xrq_8 (q : Nat) (p ro : Nat → Int32) : xrq q 8 p ro = rop q p ro := rfl
theorem xrq_s (q i : Nat) (p ro : Nat → Int32) : va_up (xrq q i p ro) (8 * q + i) (p i) = xrq q (i + 1) p ro := by
  funext k; unfold xrq
  by_cases hk : k = 8 * q + i
  · subst hk; rw [xup_at, if_pos (by omega), show 8 * q + i - 8 * q = i by omega]
  · rw [va_up_ne _ _ hk]
    show (if 8 * q ≤ k ∧ k < 8 * q + i then p (k - 8 * q) else ro k) = _
    by_cases h2 : 8 * q ≤ k ∧ k < 8 * q + i
    · rw [if_pos h2, if_pos (by omega)]
    · rw [if_neg h2, if_neg (by omega)]
theorem ix310 (q i : Nat) : ((310 : Int32) + (8 : Int32) * nI q) + nI i = nI (310 + (8 * q + i)) := by
  rw [show (8 : Int32) * nI q = nI (8 * q) from pk_mul 8 q, ix_310, nI_add]
  congr 1; omega
theorem xm1 (a c : Int32) : a + -1 * c = a - c := by
  rw [Int32.neg_mul, Int32.one_mul, Int32.sub_eq_add_neg]
theorem xp1 (a c : Int32) : a + 1 * c = a + c := by
  rw [Int32.one_mul]
theorem L_moves_capp {T : xT} {S : xS} {b : Nat} {wt pt gq ls sp ro cap du ra sh ow bo ma de u : Nat → Int32} {kn lo pa av ca re ye ch : Int32} (tp : xTp T S.2.2) (hb : S.1 199 1 = nI b) (hb2 : b ≤ 5490) : ∀ (m i n : Nat), i + m = 8 → m < n → f_X10_moves_2 T n (rS S b wt pt gq ls sp (enc kn lo ro pa av ca re ye ch (xm i (fun j => cap j + pt j) cap) du ra sh ow bo ma de u)) 199 (5 : Int32) (1 : Int32) (nI i) = some (rS S b wt pt gq ls sp (enc kn lo ro pa av ca re ye ch (fun j => cap j + pt j) du ra sh ow bo ma de u)) := by
  intro m
  induction m with
  | zero =>
    intro i n hi hn
    obtain ⟨n, rfl⟩ : ∃ n', n = n' + 1 := ⟨n - 1, by omega⟩
    obtain rfl : i = 8 := by omega
    unfold f_X10_moves_2
    rw [if_pos x8_t]
    exact congrArg some (congrArg (rS S b wt pt gq ls sp) (en_cap xm_8))
  | succ m ih =>
    intro i n hi hn
    obtain ⟨n, rfl⟩ : ∃ n', n = n' + 1 := ⟨n - 1, by omega⟩
    have hi8 : i < 8 := by omega
    unfold f_X10_moves_2
    have e3 : va_up (xm i (fun j => cap j + pt j) cap) i (cap i + pt i) = _ := xm_s i (fun j => cap j + pt j) cap
    simp (disch := first | assumption | omega | ((repeat first | apply rS_tp | apply xI_tp | apply xJ_tp | apply xw_tp); exact tp) | (apply xn8 tp; decide)) only [↓xl_e, ↓xc_e, ↓xcv_e, ↓xpi_e, ↓reduceIte, ↓rr_199_15, ↓rr_199_16, ↓rr_199_17, ↓rr_199_18, ↓rr_199_19, ↓xai_w, ↓xst_w, ↓xaj_w, ↓xsj_w, rr_pt, rr_gq, rr_ls, rr_sp, rw_pt, rw_gq, rw_ls, rw_sp, rj_wt, rk_wt, ↓rget_0, ↓rget_1, ↓rget_2, ↓rget_3, ↓rget_4, ↓rget_308, ↓rget_309, ↓rput_0, ↓rput_1, ↓rput_2, ↓rput_3, ↓rput_4, ↓rput_308, ↓rput_309, ↓rmore_1, ↓rmore_2, ↓rmore_3, rget, rput, rmore, er_pa, er_ye, er_re, er_ca, er_ch, er_kn, er_lo, er_cap, er_du, er_ra, er_sh, er_ow, er_ro, er_av, er_bo, er_ma, er_de, ew_cap, ew_du, ew_ra, ew_sh, ew_ow, ew_ro, ew_bo, ew_ma, ew_de, ew_on, ew_off, x8_ff, nI_1, xb_e, xup_at, xm_n, xm_at, x00, ix_5, ix_13, ix_21, ix_29, ix_37, ix_78, ix_160, ix_208, ix_310, xc8, xp1, e3, ih]
theorem h_moves_capp {T : xT} {S : xS} {b : Nat} {wt pt gq ls sp ro cap du ra sh ow bo ma de u : Nat → Int32} {kn lo pa av ca re ye ch : Int32} (tp : xTp T S.2.2) (hb : S.1 199 1 = nI b) (hb2 : b ≤ 5490) : f_X10_moves T (rS S b wt pt gq ls sp (enc kn lo ro pa av ca re ye ch cap du ra sh ow bo ma de u)) 199 (5 : Int32) (1 : Int32) = some (rS S b wt pt gq ls sp (enc kn lo ro pa av ca re ye ch (fun j => cap j + pt j) du ra sh ow bo ma de u)) := by
  have h : f_X10_moves_2 T xfu (rS S b wt pt gq ls sp (enc kn lo ro pa av ca re ye ch (xm 0 (fun j => cap j + pt j) cap) du ra sh ow bo ma de u)) 199 (5 : Int32) (1 : Int32) (nI 0) = _ := L_moves_capp tp hb hb2 8 0 xfu rfl (by decide)
  rw [xm_0] at h
  exact h
theorem L_notes_capp {T : xT} {S : xS} {b : Nat} {wt pt gq ls sp ro cap du ra sh ow bo ma de u : Nat → Int32} {kn lo pa av ca re ye ch : Int32} (tp : xTp T S.2.2) (hb : S.1 199 1 = nI b) (hb2 : b ≤ 5490) {q : Nat} (hq : q < 7) : ∀ (m i n : Nat), i + m = 8 → m < n → f_X10_notes_3 T n (rS S b wt pt gq ls sp (enc kn lo (xrq q i pt ro) pa av ca re ye ch (xm i (fun j => cap j + pt j) cap) du ra sh ow bo ma de u)) 199 (nI q) (5 : Int32) (1 : Int32) (nI i) = some (rS S b wt pt gq ls sp (enc kn lo (rop q pt ro) pa av ca re ye ch (fun j => cap j + pt j) du ra sh ow bo ma de u)) := by
  intro m
  induction m with
  | zero =>
    intro i n hi hn
    obtain ⟨n, rfl⟩ : ∃ n', n = n' + 1 := ⟨n - 1, by omega⟩
    obtain rfl : i = 8 := by omega
    unfold f_X10_notes_3
    rw [if_pos x8_t, xrq_8]
    exact congrArg some (congrArg (rS S b wt pt gq ls sp) (en_cap xm_8))
  | succ m ih =>
    intro i n hi hn
    obtain ⟨n, rfl⟩ : ∃ n', n = n' + 1 := ⟨n - 1, by omega⟩
    have hi8 : i < 8 := by omega
    unfold f_X10_notes_3
    have e3 : va_up (xm i (fun j => cap j + pt j) cap) i (cap i + pt i) = _ := xm_s i (fun j => cap j + pt j) cap
    have h56 : 8 * q + i < 56 := by omega
    simp (disch := first | assumption | omega | ((repeat first | apply rS_tp | apply xI_tp | apply xJ_tp | apply xw_tp); exact tp) | (apply xn8 tp; decide)) only [f_X10_stepAt, ix310, ↓xl_e, ↓xc_e, ↓xcv_e, ↓xpi_e, ↓reduceIte, ↓rr_199_15, ↓rr_199_16, ↓rr_199_17, ↓rr_199_18, ↓rr_199_19, ↓xai_w, ↓xst_w, ↓xaj_w, ↓xsj_w, rr_pt, rr_gq, rr_ls, rr_sp, rw_pt, rw_gq, rw_ls, rw_sp, rj_wt, rk_wt, ↓rget_0, ↓rget_1, ↓rget_2, ↓rget_3, ↓rget_4, ↓rget_308, ↓rget_309, ↓rput_0, ↓rput_1, ↓rput_2, ↓rput_3, ↓rput_4, ↓rput_308, ↓rput_309, ↓rmore_1, ↓rmore_2, ↓rmore_3, rget, rput, rmore, er_pa, er_ye, er_re, er_ca, er_ch, er_kn, er_lo, er_cap, er_du, er_ra, er_sh, er_ow, er_ro, er_av, er_bo, er_ma, er_de, ew_cap, ew_du, ew_ra, ew_sh, ew_ow, ew_ro, ew_bo, ew_ma, ew_de, ew_on, ew_off, x8_ff, nI_1, xb_e, xup_at, xm_n, xm_at, x00, ix_5, ix_13, ix_21, ix_29, ix_37, ix_78, ix_160, ix_208, ix_310, xc8, xp1, e3, xrq_s, ih]
theorem h_notes_capp {T : xT} {S : xS} {b : Nat} {wt pt gq ls sp ro cap du ra sh ow bo ma de u : Nat → Int32} {kn lo pa av ca re ye ch : Int32} (tp : xTp T S.2.2) (hb : S.1 199 1 = nI b) (hb2 : b ≤ 5490) {q : Nat} (hq : q < 7) {q' : Int32} (e : q' = nI q) : f_X10_notes T (rS S b wt pt gq ls sp (enc kn lo ro pa av ca re ye ch cap du ra sh ow bo ma de u)) 199 q' (5 : Int32) (1 : Int32) = some (rS S b wt pt gq ls sp (enc kn lo (rop q pt ro) pa av ca re ye ch (fun j => cap j + pt j) du ra sh ow bo ma de u)) := by
  have h : f_X10_notes_3 T xfu (rS S b wt pt gq ls sp (enc kn lo (xrq q 0 pt ro) pa av ca re ye ch (xm 0 (fun j => cap j + pt j) cap) du ra sh ow bo ma de u)) 199 (nI q) (5 : Int32) (1 : Int32) (nI 0) = _ := L_notes_capp tp hb hb2 hq 8 0 xfu rfl (by decide)
  rw [xm_0, xrq_0] at h
  rw [e]
  exact h
theorem L_moves_capm {T : xT} {S : xS} {b : Nat} {wt pt gq ls sp ro cap du ra sh ow bo ma de u : Nat → Int32} {kn lo pa av ca re ye ch : Int32} (tp : xTp T S.2.2) (hb : S.1 199 1 = nI b) (hb2 : b ≤ 5490) : ∀ (m i n : Nat), i + m = 8 → m < n → f_X10_moves_2 T n (rS S b wt pt gq ls sp (enc kn lo ro pa av ca re ye ch (xm i (fun j => cap j - pt j) cap) du ra sh ow bo ma de u)) 199 (5 : Int32) (-1 : Int32) (nI i) = some (rS S b wt pt gq ls sp (enc kn lo ro pa av ca re ye ch (fun j => cap j - pt j) du ra sh ow bo ma de u)) := by
  intro m
  induction m with
  | zero =>
    intro i n hi hn
    obtain ⟨n, rfl⟩ : ∃ n', n = n' + 1 := ⟨n - 1, by omega⟩
    obtain rfl : i = 8 := by omega
    unfold f_X10_moves_2
    rw [if_pos x8_t]
    exact congrArg some (congrArg (rS S b wt pt gq ls sp) (en_cap xm_8))
  | succ m ih =>
    intro i n hi hn
    obtain ⟨n, rfl⟩ : ∃ n', n = n' + 1 := ⟨n - 1, by omega⟩
    have hi8 : i < 8 := by omega
    unfold f_X10_moves_2
    have e3 : va_up (xm i (fun j => cap j - pt j) cap) i (cap i - pt i) = _ := xm_s i (fun j => cap j - pt j) cap
    simp (disch := first | assumption | omega | ((repeat first | apply rS_tp | apply xI_tp | apply xJ_tp | apply xw_tp); exact tp) | (apply xn8 tp; decide)) only [↓xl_e, ↓xc_e, ↓xcv_e, ↓xpi_e, ↓reduceIte, ↓rr_199_15, ↓rr_199_16, ↓rr_199_17, ↓rr_199_18, ↓rr_199_19, ↓xai_w, ↓xst_w, ↓xaj_w, ↓xsj_w, rr_pt, rr_gq, rr_ls, rr_sp, rw_pt, rw_gq, rw_ls, rw_sp, rj_wt, rk_wt, ↓rget_0, ↓rget_1, ↓rget_2, ↓rget_3, ↓rget_4, ↓rget_308, ↓rget_309, ↓rput_0, ↓rput_1, ↓rput_2, ↓rput_3, ↓rput_4, ↓rput_308, ↓rput_309, ↓rmore_1, ↓rmore_2, ↓rmore_3, rget, rput, rmore, er_pa, er_ye, er_re, er_ca, er_ch, er_kn, er_lo, er_cap, er_du, er_ra, er_sh, er_ow, er_ro, er_av, er_bo, er_ma, er_de, ew_cap, ew_du, ew_ra, ew_sh, ew_ow, ew_ro, ew_bo, ew_ma, ew_de, ew_on, ew_off, x8_ff, nI_1, xb_e, xup_at, xm_n, xm_at, x00, ix_5, ix_13, ix_21, ix_29, ix_37, ix_78, ix_160, ix_208, ix_310, xc8, xm1, e3, ih]
theorem h_moves_capm {T : xT} {S : xS} {b : Nat} {wt pt gq ls sp ro cap du ra sh ow bo ma de u : Nat → Int32} {kn lo pa av ca re ye ch : Int32} (tp : xTp T S.2.2) (hb : S.1 199 1 = nI b) (hb2 : b ≤ 5490) : f_X10_moves T (rS S b wt pt gq ls sp (enc kn lo ro pa av ca re ye ch cap du ra sh ow bo ma de u)) 199 (5 : Int32) (-1 : Int32) = some (rS S b wt pt gq ls sp (enc kn lo ro pa av ca re ye ch (fun j => cap j - pt j) du ra sh ow bo ma de u)) := by
  have h : f_X10_moves_2 T xfu (rS S b wt pt gq ls sp (enc kn lo ro pa av ca re ye ch (xm 0 (fun j => cap j - pt j) cap) du ra sh ow bo ma de u)) 199 (5 : Int32) (-1 : Int32) (nI 0) = _ := L_moves_capm tp hb hb2 8 0 xfu rfl (by decide)
  rw [xm_0] at h
  exact h
theorem L_notes_capm {T : xT} {S : xS} {b : Nat} {wt pt gq ls sp ro cap du ra sh ow bo ma de u : Nat → Int32} {kn lo pa av ca re ye ch : Int32} (tp : xTp T S.2.2) (hb : S.1 199 1 = nI b) (hb2 : b ≤ 5490) {q : Nat} (hq : q < 7) : ∀ (m i n : Nat), i + m = 8 → m < n → f_X10_notes_3 T n (rS S b wt pt gq ls sp (enc kn lo (xrq q i pt ro) pa av ca re ye ch (xm i (fun j => cap j - pt j) cap) du ra sh ow bo ma de u)) 199 (nI q) (5 : Int32) (-1 : Int32) (nI i) = some (rS S b wt pt gq ls sp (enc kn lo (rop q pt ro) pa av ca re ye ch (fun j => cap j - pt j) du ra sh ow bo ma de u)) := by
  intro m
  induction m with
  | zero =>
    intro i n hi hn
    obtain ⟨n, rfl⟩ : ∃ n', n = n' + 1 := ⟨n - 1, by omega⟩
    obtain rfl : i = 8 := by omega
    unfold f_X10_notes_3
    rw [if_pos x8_t, xrq_8]
    exact congrArg some (congrArg (rS S b wt pt gq ls sp) (en_cap xm_8))
  | succ m ih =>
    intro i n hi hn
    obtain ⟨n, rfl⟩ : ∃ n', n = n' + 1 := ⟨n - 1, by omega⟩
    have hi8 : i < 8 := by omega
    unfold f_X10_notes_3
    have e3 : va_up (xm i (fun j => cap j - pt j) cap) i (cap i - pt i) = _ := xm_s i (fun j => cap j - pt j) cap
    have h56 : 8 * q + i < 56 := by omega
    simp (disch := first | assumption | omega | ((repeat first | apply rS_tp | apply xI_tp | apply xJ_tp | apply xw_tp); exact tp) | (apply xn8 tp; decide)) only [f_X10_stepAt, ix310, ↓xl_e, ↓xc_e, ↓xcv_e, ↓xpi_e, ↓reduceIte, ↓rr_199_15, ↓rr_199_16, ↓rr_199_17, ↓rr_199_18, ↓rr_199_19, ↓xai_w, ↓xst_w, ↓xaj_w, ↓xsj_w, rr_pt, rr_gq, rr_ls, rr_sp, rw_pt, rw_gq, rw_ls, rw_sp, rj_wt, rk_wt, ↓rget_0, ↓rget_1, ↓rget_2, ↓rget_3, ↓rget_4, ↓rget_308, ↓rget_309, ↓rput_0, ↓rput_1, ↓rput_2, ↓rput_3, ↓rput_4, ↓rput_308, ↓rput_309, ↓rmore_1, ↓rmore_2, ↓rmore_3, rget, rput, rmore, er_pa, er_ye, er_re, er_ca, er_ch, er_kn, er_lo, er_cap, er_du, er_ra, er_sh, er_ow, er_ro, er_av, er_bo, er_ma, er_de, ew_cap, ew_du, ew_ra, ew_sh, ew_ow, ew_ro, ew_bo, ew_ma, ew_de, ew_on, ew_off, x8_ff, nI_1, xb_e, xup_at, xm_n, xm_at, x00, ix_5, ix_13, ix_21, ix_29, ix_37, ix_78, ix_160, ix_208, ix_310, xc8, xm1, e3, xrq_s, ih]
theorem h_notes_capm {T : xT} {S : xS} {b : Nat} {wt pt gq ls sp ro cap du ra sh ow bo ma de u : Nat → Int32} {kn lo pa av ca re ye ch : Int32} (tp : xTp T S.2.2) (hb : S.1 199 1 = nI b) (hb2 : b ≤ 5490) {q : Nat} (hq : q < 7) {q' : Int32} (e : q' = nI q) : f_X10_notes T (rS S b wt pt gq ls sp (enc kn lo ro pa av ca re ye ch cap du ra sh ow bo ma de u)) 199 q' (5 : Int32) (-1 : Int32) = some (rS S b wt pt gq ls sp (enc kn lo (rop q pt ro) pa av ca re ye ch (fun j => cap j - pt j) du ra sh ow bo ma de u)) := by
  have h : f_X10_notes_3 T xfu (rS S b wt pt gq ls sp (enc kn lo (xrq q 0 pt ro) pa av ca re ye ch (xm 0 (fun j => cap j - pt j) cap) du ra sh ow bo ma de u)) 199 (nI q) (5 : Int32) (-1 : Int32) (nI 0) = _ := L_notes_capm tp hb hb2 hq 8 0 xfu rfl (by decide)
  rw [xm_0, xrq_0] at h
  rw [e]
  exact h
theorem L_moves_shp {T : xT} {S : xS} {b : Nat} {wt pt gq ls sp ro cap du ra sh ow bo ma de u : Nat → Int32} {kn lo pa av ca re ye ch : Int32} (tp : xTp T S.2.2) (hb : S.1 199 1 = nI b) (hb2 : b ≤ 5490) : ∀ (m i n : Nat), i + m = 8 → m < n → f_X10_moves_2 T n (rS S b wt pt gq ls sp (enc kn lo ro pa av ca re ye ch cap du ra (xm i (fun j => sh j + pt j) sh) ow bo ma de u)) 199 (29 : Int32) (1 : Int32) (nI i) = some (rS S b wt pt gq ls sp (enc kn lo ro pa av ca re ye ch cap du ra (fun j => sh j + pt j) ow bo ma de u)) := by
  intro m
  induction m with
  | zero =>
    intro i n hi hn
    obtain ⟨n, rfl⟩ : ∃ n', n = n' + 1 := ⟨n - 1, by omega⟩
    obtain rfl : i = 8 := by omega
    unfold f_X10_moves_2
    rw [if_pos x8_t]
    exact congrArg some (congrArg (rS S b wt pt gq ls sp) (en_sh xm_8))
  | succ m ih =>
    intro i n hi hn
    obtain ⟨n, rfl⟩ : ∃ n', n = n' + 1 := ⟨n - 1, by omega⟩
    have hi8 : i < 8 := by omega
    unfold f_X10_moves_2
    have e3 : va_up (xm i (fun j => sh j + pt j) sh) i (sh i + pt i) = _ := xm_s i (fun j => sh j + pt j) sh
    simp (disch := first | assumption | omega | ((repeat first | apply rS_tp | apply xI_tp | apply xJ_tp | apply xw_tp); exact tp) | (apply xn8 tp; decide)) only [↓xl_e, ↓xc_e, ↓xcv_e, ↓xpi_e, ↓reduceIte, ↓rr_199_15, ↓rr_199_16, ↓rr_199_17, ↓rr_199_18, ↓rr_199_19, ↓xai_w, ↓xst_w, ↓xaj_w, ↓xsj_w, rr_pt, rr_gq, rr_ls, rr_sp, rw_pt, rw_gq, rw_ls, rw_sp, rj_wt, rk_wt, ↓rget_0, ↓rget_1, ↓rget_2, ↓rget_3, ↓rget_4, ↓rget_308, ↓rget_309, ↓rput_0, ↓rput_1, ↓rput_2, ↓rput_3, ↓rput_4, ↓rput_308, ↓rput_309, ↓rmore_1, ↓rmore_2, ↓rmore_3, rget, rput, rmore, er_pa, er_ye, er_re, er_ca, er_ch, er_kn, er_lo, er_cap, er_du, er_ra, er_sh, er_ow, er_ro, er_av, er_bo, er_ma, er_de, ew_cap, ew_du, ew_ra, ew_sh, ew_ow, ew_ro, ew_bo, ew_ma, ew_de, ew_on, ew_off, x8_ff, nI_1, xb_e, xup_at, xm_n, xm_at, x00, ix_5, ix_13, ix_21, ix_29, ix_37, ix_78, ix_160, ix_208, ix_310, xc8, xp1, e3, ih]
theorem h_moves_shp {T : xT} {S : xS} {b : Nat} {wt pt gq ls sp ro cap du ra sh ow bo ma de u : Nat → Int32} {kn lo pa av ca re ye ch : Int32} (tp : xTp T S.2.2) (hb : S.1 199 1 = nI b) (hb2 : b ≤ 5490) : f_X10_moves T (rS S b wt pt gq ls sp (enc kn lo ro pa av ca re ye ch cap du ra sh ow bo ma de u)) 199 (29 : Int32) (1 : Int32) = some (rS S b wt pt gq ls sp (enc kn lo ro pa av ca re ye ch cap du ra (fun j => sh j + pt j) ow bo ma de u)) := by
  have h : f_X10_moves_2 T xfu (rS S b wt pt gq ls sp (enc kn lo ro pa av ca re ye ch cap du ra (xm 0 (fun j => sh j + pt j) sh) ow bo ma de u)) 199 (29 : Int32) (1 : Int32) (nI 0) = _ := L_moves_shp tp hb hb2 8 0 xfu rfl (by decide)
  rw [xm_0] at h
  exact h
theorem L_moves_shm {T : xT} {S : xS} {b : Nat} {wt pt gq ls sp ro cap du ra sh ow bo ma de u : Nat → Int32} {kn lo pa av ca re ye ch : Int32} (tp : xTp T S.2.2) (hb : S.1 199 1 = nI b) (hb2 : b ≤ 5490) : ∀ (m i n : Nat), i + m = 8 → m < n → f_X10_moves_2 T n (rS S b wt pt gq ls sp (enc kn lo ro pa av ca re ye ch cap du ra (xm i (fun j => sh j - pt j) sh) ow bo ma de u)) 199 (29 : Int32) (-1 : Int32) (nI i) = some (rS S b wt pt gq ls sp (enc kn lo ro pa av ca re ye ch cap du ra (fun j => sh j - pt j) ow bo ma de u)) := by
  intro m
  induction m with
  | zero =>
    intro i n hi hn
    obtain ⟨n, rfl⟩ : ∃ n', n = n' + 1 := ⟨n - 1, by omega⟩
    obtain rfl : i = 8 := by omega
    unfold f_X10_moves_2
    rw [if_pos x8_t]
    exact congrArg some (congrArg (rS S b wt pt gq ls sp) (en_sh xm_8))
  | succ m ih =>
    intro i n hi hn
    obtain ⟨n, rfl⟩ : ∃ n', n = n' + 1 := ⟨n - 1, by omega⟩
    have hi8 : i < 8 := by omega
    unfold f_X10_moves_2
    have e3 : va_up (xm i (fun j => sh j - pt j) sh) i (sh i - pt i) = _ := xm_s i (fun j => sh j - pt j) sh
    simp (disch := first | assumption | omega | ((repeat first | apply rS_tp | apply xI_tp | apply xJ_tp | apply xw_tp); exact tp) | (apply xn8 tp; decide)) only [↓xl_e, ↓xc_e, ↓xcv_e, ↓xpi_e, ↓reduceIte, ↓rr_199_15, ↓rr_199_16, ↓rr_199_17, ↓rr_199_18, ↓rr_199_19, ↓xai_w, ↓xst_w, ↓xaj_w, ↓xsj_w, rr_pt, rr_gq, rr_ls, rr_sp, rw_pt, rw_gq, rw_ls, rw_sp, rj_wt, rk_wt, ↓rget_0, ↓rget_1, ↓rget_2, ↓rget_3, ↓rget_4, ↓rget_308, ↓rget_309, ↓rput_0, ↓rput_1, ↓rput_2, ↓rput_3, ↓rput_4, ↓rput_308, ↓rput_309, ↓rmore_1, ↓rmore_2, ↓rmore_3, rget, rput, rmore, er_pa, er_ye, er_re, er_ca, er_ch, er_kn, er_lo, er_cap, er_du, er_ra, er_sh, er_ow, er_ro, er_av, er_bo, er_ma, er_de, ew_cap, ew_du, ew_ra, ew_sh, ew_ow, ew_ro, ew_bo, ew_ma, ew_de, ew_on, ew_off, x8_ff, nI_1, xb_e, xup_at, xm_n, xm_at, x00, ix_5, ix_13, ix_21, ix_29, ix_37, ix_78, ix_160, ix_208, ix_310, xc8, xm1, e3, ih]
theorem h_moves_shm {T : xT} {S : xS} {b : Nat} {wt pt gq ls sp ro cap du ra sh ow bo ma de u : Nat → Int32} {kn lo pa av ca re ye ch : Int32} (tp : xTp T S.2.2) (hb : S.1 199 1 = nI b) (hb2 : b ≤ 5490) : f_X10_moves T (rS S b wt pt gq ls sp (enc kn lo ro pa av ca re ye ch cap du ra sh ow bo ma de u)) 199 (29 : Int32) (-1 : Int32) = some (rS S b wt pt gq ls sp (enc kn lo ro pa av ca re ye ch cap du ra (fun j => sh j - pt j) ow bo ma de u)) := by
  have h : f_X10_moves_2 T xfu (rS S b wt pt gq ls sp (enc kn lo ro pa av ca re ye ch cap du ra (xm 0 (fun j => sh j - pt j) sh) ow bo ma de u)) 199 (29 : Int32) (-1 : Int32) (nI 0) = _ := L_moves_shm tp hb hb2 8 0 xfu rfl (by decide)
  rw [xm_0] at h
  exact h
theorem L_notes_shm {T : xT} {S : xS} {b : Nat} {wt pt gq ls sp ro cap du ra sh ow bo ma de u : Nat → Int32} {kn lo pa av ca re ye ch : Int32} (tp : xTp T S.2.2) (hb : S.1 199 1 = nI b) (hb2 : b ≤ 5490) {q : Nat} (hq : q < 7) : ∀ (m i n : Nat), i + m = 8 → m < n → f_X10_notes_3 T n (rS S b wt pt gq ls sp (enc kn lo (xrq q i pt ro) pa av ca re ye ch cap du ra (xm i (fun j => sh j - pt j) sh) ow bo ma de u)) 199 (nI q) (29 : Int32) (-1 : Int32) (nI i) = some (rS S b wt pt gq ls sp (enc kn lo (rop q pt ro) pa av ca re ye ch cap du ra (fun j => sh j - pt j) ow bo ma de u)) := by
  intro m
  induction m with
  | zero =>
    intro i n hi hn
    obtain ⟨n, rfl⟩ : ∃ n', n = n' + 1 := ⟨n - 1, by omega⟩
    obtain rfl : i = 8 := by omega
    unfold f_X10_notes_3
    rw [if_pos x8_t, xrq_8]
    exact congrArg some (congrArg (rS S b wt pt gq ls sp) (en_sh xm_8))
  | succ m ih =>
    intro i n hi hn
    obtain ⟨n, rfl⟩ : ∃ n', n = n' + 1 := ⟨n - 1, by omega⟩
    have hi8 : i < 8 := by omega
    unfold f_X10_notes_3
    have e3 : va_up (xm i (fun j => sh j - pt j) sh) i (sh i - pt i) = _ := xm_s i (fun j => sh j - pt j) sh
    have h56 : 8 * q + i < 56 := by omega
    simp (disch := first | assumption | omega | ((repeat first | apply rS_tp | apply xI_tp | apply xJ_tp | apply xw_tp); exact tp) | (apply xn8 tp; decide)) only [f_X10_stepAt, ix310, ↓xl_e, ↓xc_e, ↓xcv_e, ↓xpi_e, ↓reduceIte, ↓rr_199_15, ↓rr_199_16, ↓rr_199_17, ↓rr_199_18, ↓rr_199_19, ↓xai_w, ↓xst_w, ↓xaj_w, ↓xsj_w, rr_pt, rr_gq, rr_ls, rr_sp, rw_pt, rw_gq, rw_ls, rw_sp, rj_wt, rk_wt, ↓rget_0, ↓rget_1, ↓rget_2, ↓rget_3, ↓rget_4, ↓rget_308, ↓rget_309, ↓rput_0, ↓rput_1, ↓rput_2, ↓rput_3, ↓rput_4, ↓rput_308, ↓rput_309, ↓rmore_1, ↓rmore_2, ↓rmore_3, rget, rput, rmore, er_pa, er_ye, er_re, er_ca, er_ch, er_kn, er_lo, er_cap, er_du, er_ra, er_sh, er_ow, er_ro, er_av, er_bo, er_ma, er_de, ew_cap, ew_du, ew_ra, ew_sh, ew_ow, ew_ro, ew_bo, ew_ma, ew_de, ew_on, ew_off, x8_ff, nI_1, xb_e, xup_at, xm_n, xm_at, x00, ix_5, ix_13, ix_21, ix_29, ix_37, ix_78, ix_160, ix_208, ix_310, xc8, xm1, e3, xrq_s, ih]
theorem h_notes_shm {T : xT} {S : xS} {b : Nat} {wt pt gq ls sp ro cap du ra sh ow bo ma de u : Nat → Int32} {kn lo pa av ca re ye ch : Int32} (tp : xTp T S.2.2) (hb : S.1 199 1 = nI b) (hb2 : b ≤ 5490) {q : Nat} (hq : q < 7) {q' : Int32} (e : q' = nI q) : f_X10_notes T (rS S b wt pt gq ls sp (enc kn lo ro pa av ca re ye ch cap du ra sh ow bo ma de u)) 199 q' (29 : Int32) (-1 : Int32) = some (rS S b wt pt gq ls sp (enc kn lo (rop q pt ro) pa av ca re ye ch cap du ra (fun j => sh j - pt j) ow bo ma de u)) := by
  have h : f_X10_notes_3 T xfu (rS S b wt pt gq ls sp (enc kn lo (xrq q 0 pt ro) pa av ca re ye ch cap du ra (xm 0 (fun j => sh j - pt j) sh) ow bo ma de u)) 199 (nI q) (29 : Int32) (-1 : Int32) (nI 0) = _ := L_notes_shm tp hb hb2 hq 8 0 xfu rfl (by decide)
  rw [xm_0, xrq_0] at h
  rw [e]
  exact h
theorem L_moves_owp {T : xT} {S : xS} {b : Nat} {wt pt gq ls sp ro cap du ra sh ow bo ma de u : Nat → Int32} {kn lo pa av ca re ye ch : Int32} (tp : xTp T S.2.2) (hb : S.1 199 1 = nI b) (hb2 : b ≤ 5490) : ∀ (m i n : Nat), i + m = 8 → m < n → f_X10_moves_2 T n (rS S b wt pt gq ls sp (enc kn lo ro pa av ca re ye ch cap du ra sh (xm i (fun j => ow j + pt j) ow) bo ma de u)) 199 (37 : Int32) (1 : Int32) (nI i) = some (rS S b wt pt gq ls sp (enc kn lo ro pa av ca re ye ch cap du ra sh (fun j => ow j + pt j) bo ma de u)) := by
  intro m
  induction m with
  | zero =>
    intro i n hi hn
    obtain ⟨n, rfl⟩ : ∃ n', n = n' + 1 := ⟨n - 1, by omega⟩
    obtain rfl : i = 8 := by omega
    unfold f_X10_moves_2
    rw [if_pos x8_t]
    exact congrArg some (congrArg (rS S b wt pt gq ls sp) (en_ow xm_8))
  | succ m ih =>
    intro i n hi hn
    obtain ⟨n, rfl⟩ : ∃ n', n = n' + 1 := ⟨n - 1, by omega⟩
    have hi8 : i < 8 := by omega
    unfold f_X10_moves_2
    have e3 : va_up (xm i (fun j => ow j + pt j) ow) i (ow i + pt i) = _ := xm_s i (fun j => ow j + pt j) ow
    simp (disch := first | assumption | omega | ((repeat first | apply rS_tp | apply xI_tp | apply xJ_tp | apply xw_tp); exact tp) | (apply xn8 tp; decide)) only [↓xl_e, ↓xc_e, ↓xcv_e, ↓xpi_e, ↓reduceIte, ↓rr_199_15, ↓rr_199_16, ↓rr_199_17, ↓rr_199_18, ↓rr_199_19, ↓xai_w, ↓xst_w, ↓xaj_w, ↓xsj_w, rr_pt, rr_gq, rr_ls, rr_sp, rw_pt, rw_gq, rw_ls, rw_sp, rj_wt, rk_wt, ↓rget_0, ↓rget_1, ↓rget_2, ↓rget_3, ↓rget_4, ↓rget_308, ↓rget_309, ↓rput_0, ↓rput_1, ↓rput_2, ↓rput_3, ↓rput_4, ↓rput_308, ↓rput_309, ↓rmore_1, ↓rmore_2, ↓rmore_3, rget, rput, rmore, er_pa, er_ye, er_re, er_ca, er_ch, er_kn, er_lo, er_cap, er_du, er_ra, er_sh, er_ow, er_ro, er_av, er_bo, er_ma, er_de, ew_cap, ew_du, ew_ra, ew_sh, ew_ow, ew_ro, ew_bo, ew_ma, ew_de, ew_on, ew_off, x8_ff, nI_1, xb_e, xup_at, xm_n, xm_at, x00, ix_5, ix_13, ix_21, ix_29, ix_37, ix_78, ix_160, ix_208, ix_310, xc8, xp1, e3, ih]
theorem h_moves_owp {T : xT} {S : xS} {b : Nat} {wt pt gq ls sp ro cap du ra sh ow bo ma de u : Nat → Int32} {kn lo pa av ca re ye ch : Int32} (tp : xTp T S.2.2) (hb : S.1 199 1 = nI b) (hb2 : b ≤ 5490) : f_X10_moves T (rS S b wt pt gq ls sp (enc kn lo ro pa av ca re ye ch cap du ra sh ow bo ma de u)) 199 (37 : Int32) (1 : Int32) = some (rS S b wt pt gq ls sp (enc kn lo ro pa av ca re ye ch cap du ra sh (fun j => ow j + pt j) bo ma de u)) := by
  have h : f_X10_moves_2 T xfu (rS S b wt pt gq ls sp (enc kn lo ro pa av ca re ye ch cap du ra sh (xm 0 (fun j => ow j + pt j) ow) bo ma de u)) 199 (37 : Int32) (1 : Int32) (nI 0) = _ := L_moves_owp tp hb hb2 8 0 xfu rfl (by decide)
  rw [xm_0] at h
  exact h
theorem L_moves_owm {T : xT} {S : xS} {b : Nat} {wt pt gq ls sp ro cap du ra sh ow bo ma de u : Nat → Int32} {kn lo pa av ca re ye ch : Int32} (tp : xTp T S.2.2) (hb : S.1 199 1 = nI b) (hb2 : b ≤ 5490) : ∀ (m i n : Nat), i + m = 8 → m < n → f_X10_moves_2 T n (rS S b wt pt gq ls sp (enc kn lo ro pa av ca re ye ch cap du ra sh (xm i (fun j => ow j - pt j) ow) bo ma de u)) 199 (37 : Int32) (-1 : Int32) (nI i) = some (rS S b wt pt gq ls sp (enc kn lo ro pa av ca re ye ch cap du ra sh (fun j => ow j - pt j) bo ma de u)) := by
  intro m
  induction m with
  | zero =>
    intro i n hi hn
    obtain ⟨n, rfl⟩ : ∃ n', n = n' + 1 := ⟨n - 1, by omega⟩
    obtain rfl : i = 8 := by omega
    unfold f_X10_moves_2
    rw [if_pos x8_t]
    exact congrArg some (congrArg (rS S b wt pt gq ls sp) (en_ow xm_8))
  | succ m ih =>
    intro i n hi hn
    obtain ⟨n, rfl⟩ : ∃ n', n = n' + 1 := ⟨n - 1, by omega⟩
    have hi8 : i < 8 := by omega
    unfold f_X10_moves_2
    have e3 : va_up (xm i (fun j => ow j - pt j) ow) i (ow i - pt i) = _ := xm_s i (fun j => ow j - pt j) ow
    simp (disch := first | assumption | omega | ((repeat first | apply rS_tp | apply xI_tp | apply xJ_tp | apply xw_tp); exact tp) | (apply xn8 tp; decide)) only [↓xl_e, ↓xc_e, ↓xcv_e, ↓xpi_e, ↓reduceIte, ↓rr_199_15, ↓rr_199_16, ↓rr_199_17, ↓rr_199_18, ↓rr_199_19, ↓xai_w, ↓xst_w, ↓xaj_w, ↓xsj_w, rr_pt, rr_gq, rr_ls, rr_sp, rw_pt, rw_gq, rw_ls, rw_sp, rj_wt, rk_wt, ↓rget_0, ↓rget_1, ↓rget_2, ↓rget_3, ↓rget_4, ↓rget_308, ↓rget_309, ↓rput_0, ↓rput_1, ↓rput_2, ↓rput_3, ↓rput_4, ↓rput_308, ↓rput_309, ↓rmore_1, ↓rmore_2, ↓rmore_3, rget, rput, rmore, er_pa, er_ye, er_re, er_ca, er_ch, er_kn, er_lo, er_cap, er_du, er_ra, er_sh, er_ow, er_ro, er_av, er_bo, er_ma, er_de, ew_cap, ew_du, ew_ra, ew_sh, ew_ow, ew_ro, ew_bo, ew_ma, ew_de, ew_on, ew_off, x8_ff, nI_1, xb_e, xup_at, xm_n, xm_at, x00, ix_5, ix_13, ix_21, ix_29, ix_37, ix_78, ix_160, ix_208, ix_310, xc8, xm1, e3, ih]
theorem h_moves_owm {T : xT} {S : xS} {b : Nat} {wt pt gq ls sp ro cap du ra sh ow bo ma de u : Nat → Int32} {kn lo pa av ca re ye ch : Int32} (tp : xTp T S.2.2) (hb : S.1 199 1 = nI b) (hb2 : b ≤ 5490) : f_X10_moves T (rS S b wt pt gq ls sp (enc kn lo ro pa av ca re ye ch cap du ra sh ow bo ma de u)) 199 (37 : Int32) (-1 : Int32) = some (rS S b wt pt gq ls sp (enc kn lo ro pa av ca re ye ch cap du ra sh (fun j => ow j - pt j) bo ma de u)) := by
  have h : f_X10_moves_2 T xfu (rS S b wt pt gq ls sp (enc kn lo ro pa av ca re ye ch cap du ra sh (xm 0 (fun j => ow j - pt j) ow) bo ma de u)) 199 (37 : Int32) (-1 : Int32) (nI 0) = _ := L_moves_owm tp hb hb2 8 0 xfu rfl (by decide)
  rw [xm_0] at h
  exact h
theorem L_forget {T : xT} {S : xS} {b : Nat} {wt pt gq ls sp ro cap du ra sh ow bo ma de u : Nat → Int32} {kn lo pa av ca re ye ch : Int32} (tp : xTp T S.2.2) (hb : S.1 199 1 = nI b) (hb2 : b ≤ 5490) : ∀ (m i n : Nat), i + m = 56 → m < n → f_X10_forgetSteps_18 T n (rS S b wt pt gq ls sp (enc kn lo (xm i (fun _ => 0) ro) pa av ca re ye ch cap du ra sh ow bo ma de u)) 199 (nI i) = some (rS S b wt pt gq ls sp (enc kn lo (xm 56 (fun _ => 0) ro) pa av ca re ye ch cap du ra sh ow bo ma de u)) := by
  intro m
  induction m with
  | zero =>
    intro i n hi hn
    obtain ⟨n, rfl⟩ : ∃ n', n = n' + 1 := ⟨n - 1, by omega⟩
    obtain rfl : i = 56 := by omega
    unfold f_X10_forgetSteps_18
    rw [if_pos (by decide)]
  | succ m ih =>
    intro i n hi hn
    obtain ⟨n, rfl⟩ : ∃ n', n = n' + 1 := ⟨n - 1, by omega⟩
    have hi8 : i < 56 := by omega
    unfold f_X10_forgetSteps_18
    have hlt : ¬ (56 : Int32) ≤ nI i := nI_ge (b := 56) (by omega) (by decide)
    have e3 : va_up (xm i (fun _ => 0) ro) i 0 = _ := xm_s i (fun _ => 0) ro
    simp (disch := first | assumption | omega | ((repeat first | apply rS_tp | apply xI_tp | apply xJ_tp | apply xw_tp); exact tp) | (apply xn8 tp; decide)) only [hlt, ↓xl_e, ↓xc_e, ↓xcv_e, ↓xpi_e, ↓reduceIte, ↓rr_199_15, ↓rr_199_16, ↓rr_199_17, ↓rr_199_18, ↓rr_199_19, ↓xai_w, ↓xst_w, ↓xaj_w, ↓xsj_w, rr_pt, rr_gq, rr_ls, rr_sp, rw_pt, rw_gq, rw_ls, rw_sp, rj_wt, rk_wt, ↓rget_0, ↓rget_1, ↓rget_2, ↓rget_3, ↓rget_4, ↓rget_308, ↓rget_309, ↓rput_0, ↓rput_1, ↓rput_2, ↓rput_3, ↓rput_4, ↓rput_308, ↓rput_309, ↓rmore_1, ↓rmore_2, ↓rmore_3, rget, rput, rmore, er_pa, er_ye, er_re, er_ca, er_ch, er_kn, er_lo, er_cap, er_du, er_ra, er_sh, er_ow, er_ro, er_av, er_bo, er_ma, er_de, ew_cap, ew_du, ew_ra, ew_sh, ew_ow, ew_ro, ew_bo, ew_ma, ew_de, ew_on, ew_off, x8_ff, nI_1, xb_e, xup_at, xm_n, xm_at, x00, ix_5, ix_13, ix_21, ix_29, ix_37, ix_78, ix_160, ix_208, ix_310, xc8, e3, ih]
theorem en_ro {ro cap du ra sh ow bo ma de u : Nat → Int32} {kn lo pa av ca re ye ch : Int32} {g : Nat → Int32} {S : xS} {b : Nat} {wt pt gq ls sp : Nat → Int32} (h : ∀ k, k < 56 → ro k = g k) : (rS S b wt pt gq ls sp (enc kn lo ro pa av ca re ye ch cap du ra sh ow bo ma de u)) = (rS S b wt pt gq ls sp (enc kn lo g pa av ca re ye ch cap du ra sh ow bo ma de u)) := by
  unfold rS
  have e : x366 b (enc kn lo ro pa av ca re ye ch cap du ra sh ow bo ma de u) (S.1 200) = x366 b (enc kn lo g pa av ca re ye ch cap du ra sh ow bo ma de u) (S.1 200) := by
    funext j
    unfold x366
    by_cases hj : b ≤ j ∧ j < b + 366
    · rw [if_pos hj, if_pos hj]
      unfold enc
      repeat' split
      all_goals first | rfl | rw [h _ (by omega)]
    · rw [if_neg hj, if_neg hj]
  rw [e]
theorem h_forget {T : xT} {S : xS} {b : Nat} {wt pt gq ls sp ro cap du ra sh ow bo ma de u : Nat → Int32} {kn lo pa av ca re ye ch : Int32} (tp : xTp T S.2.2) (hb : S.1 199 1 = nI b) (hb2 : b ≤ 5490) : f_X10_forgetSteps T (rS S b wt pt gq ls sp (enc kn lo ro pa av ca re ye ch cap du ra sh ow bo ma de u)) 199 = some (rS S b wt pt gq ls sp (enc 1 0 (fun _ => 0) pa av ca re ye ch cap du ra sh ow bo ma de u)) := by
  unfold f_X10_forgetSteps
  rw [rput_308 tp hb hb2, xcv_e, rput_309 tp hb hb2, xcv_e, xl_e]
  have h : f_X10_forgetSteps_18 T xfu (rS S b wt pt gq ls sp (enc 1 0 (xm 0 (fun _ => 0) ro) pa av ca re ye ch cap du ra sh ow bo ma de u)) 199 (nI 0) = _ := L_forget tp hb hb2 56 0 xfu rfl (by decide)
  rw [xm_0] at h
  refine h.trans (congrArg some (en_ro (fun k hk => ?_)))
  unfold xm
  rw [if_pos hk]
