/-! losses within limits -/
def xcu (l r : Nat → Int32) : Nat → Int32 := fun k => if l k ≤ r k then 0 else l k - r k
def xct (l r : Nat → Int32) : Nat → Int32 := fun k => if l k ≤ r k then l k else r k
theorem L_cut {T : xT} {S : xS} {b t : Nat} {gv gp w p r ro cap du ra sh ow bo ma de : Nat → Int32} {tf ll kn lo pa av ca re ye ch : Int32} (l0 : Nat → Int32) (o : xbt b t) (tp : xTp T S.2.2) : ∀ (m i n : Nat) (c : Int32), i + m = 8 → m < n → f_X2_cutToRooms_4 T n (kS S b t gv gp tf ll w p (xm i (xct l0 r) l0) r kn lo ro pa av ca re ye ch cap du ra sh ow bo ma de) 3 c (nI i) = some (xsm (xcu l0 r) m i c, (kS S b t gv gp tf ll w p (xct l0 r) r kn lo ro pa av ca re ye ch cap du ra sh ow bo ma de)) := by
  intro m
  induction m with
  | zero =>
    intro i n c hi hn
    obtain ⟨n, rfl⟩ : ∃ n', n = n' + 1 := ⟨n - 1, by omega⟩
    obtain rfl : i = 8 := by omega
    unfold f_X2_cutToRooms_4
    rw [if_pos x8_t, kc_l xm_8]
    rfl
  | succ m ih =>
    intro i n c hi hn
    obtain ⟨n, rfl⟩ : ∃ n', n = n' + 1 := ⟨n - 1, by omega⟩
    have hi8 : i < 8 := by omega
    unfold f_X2_cutToRooms_4
    have e2 : xsm (xcu l0 r) (m + 1) i c = xsm (xcu l0 r) m (i + 1) (c + xcu l0 r i) := rfl
    have e : xct l0 r i = if l0 i ≤ r i then l0 i else r i := rfl
    have e4 : xcu l0 r i = if l0 i ≤ r i then 0 else l0 i - r i := rfl
    have e3 := xm_s i (xct l0 r) l0
    rw [e2]
    by_cases hc : l0 i ≤ r i
    · rw [if_pos hc] at e e4
      have e5 : xm i (xct l0 r) l0 = xm (i + 1) (xct l0 r) l0 := by
        rw [← e3, e]
        have := xm_at (i := i) (g := xct l0 r) (f := l0)
        rw [← this, xup_self]
      simp (disch := first | assumption | omega | ((repeat first | apply kS_tp | apply xI_tp | apply xw_tp); exact tp) | (apply xn8 tp; decide) | (apply xnb o tp; omega)) only [↓xl_e, ↓xc_e, ↓xcv_e, ↓xpi_e, ↓reduceIte, ↓rr_3_0, ↓rr_3_1, ↓rr_3_4, ↓rr_3_5, ↓rr_3_6, ↓rr_3_7, ↓kg_6, ↓kg_7, ↓kg_8, ↓kg_9, ↓kg_10, ↓kg_11, ↓kg_12, ↓kg_13, ↓kg_t, ↓xai_w, ↓xst_w, kr_gv, kr_gp, kr_w, kr_p, kr_l, kr_r, kr_cap, kr_du, kr_ra, kr_sh, kr_ow, kr_bo, kr_ma, kr_de, kr_ro, kr_tf, kr_ll, kr_kn, kr_lo, kr_pa, kr_av, kr_ca, kr_re, kr_ye, kr_ch, kw_gv, kw_gp, kw_w, kw_p, kw_l, kw_r, kw_cap, kw_du, kw_ra, kw_sh, kw_ow, kw_bo, kw_ma, kw_de, kw_ro, kw_tf, kw_ll, kw_kn, kw_lo, kw_pa, kw_av, kw_ca, kw_re, kw_ye, kw_ch, x8_ff, nI_1, xb_e, xup_at, xm_n, xm_at, x00, hc, e4, xadd0]
      rw [e5, ih _ _ _ (by omega) (by omega)]
    · rw [if_neg hc] at e e4
      rw [e] at e3
      simp (disch := first | assumption | omega | ((repeat first | apply kS_tp | apply xI_tp | apply xw_tp); exact tp) | (apply xn8 tp; decide) | (apply xnb o tp; omega)) only [↓xl_e, ↓xc_e, ↓xcv_e, ↓xpi_e, ↓reduceIte, ↓rr_3_0, ↓rr_3_1, ↓rr_3_4, ↓rr_3_5, ↓rr_3_6, ↓rr_3_7, ↓kg_6, ↓kg_7, ↓kg_8, ↓kg_9, ↓kg_10, ↓kg_11, ↓kg_12, ↓kg_13, ↓kg_t, ↓xai_w, ↓xst_w, kr_gv, kr_gp, kr_w, kr_p, kr_l, kr_r, kr_cap, kr_du, kr_ra, kr_sh, kr_ow, kr_bo, kr_ma, kr_de, kr_ro, kr_tf, kr_ll, kr_kn, kr_lo, kr_pa, kr_av, kr_ca, kr_re, kr_ye, kr_ch, kw_gv, kw_gp, kw_w, kw_p, kw_l, kw_r, kw_cap, kw_du, kw_ra, kw_sh, kw_ow, kw_bo, kw_ma, kw_de, kw_ro, kw_tf, kw_ll, kw_kn, kw_lo, kw_pa, kw_av, kw_ca, kw_re, kw_ye, kw_ch, x8_ff, nI_1, xb_e, xup_at, xm_n, xm_at, x00, hc, e4, e3, ih]
theorem g_cut {T : xT} {S : xS} {b t : Nat} {gv gp w p l r ro cap du ra sh ow bo ma de : Nat → Int32} {tf ll kn lo pa av ca re ye ch : Int32} (o : xbt b t) (tp : xTp T S.2.2) : f_X2_cutToRooms T (kS S b t gv gp tf ll w p l r kn lo ro pa av ca re ye ch cap du ra sh ow bo ma de) 3 = some (xtot (xcu l r), (kS S b t gv gp tf ll w p (xct l r) r kn lo ro pa av ca re ye ch cap du ra sh ow bo ma de)) := by
  have h : f_X2_cutToRooms_4 T xfu (kS S b t gv gp tf ll w p (xm 0 (xct l r) l) r kn lo ro pa av ca re ye ch cap du ra sh ow bo ma de) 3 0 (nI 0) = _ := L_cut l o tp 8 0 xfu 0 rfl (by decide)
  rw [xm_0] at h
  exact h
/-- who has room left, as bits -/
def xmk (pa : Int32) (l r : Nat → Int32) : Nat → Nat → Int32 → Int32
  | 0, _, c => c
  | m + 1, i, c => xmk pa l r m (i + 1) (if xb pa i = 0 then c else if r i ≤ l i then c else c ||| ((1 : Int32) <<< (nI i &&& 31)))
theorem x10 : ((1 : Int32) = 0) = False := by decide
theorem L_room {T : xT} {S : xS} {b t : Nat} {gv gp w p l r ro cap du ra sh ow bo ma de : Nat → Int32} {tf ll kn lo pa av ca re ye ch : Int32} (o : xbt b t) (tp : xTp T S.2.2) : ∀ (m i n : Nat) (c : Int32), i + m = 8 → m < n → f_X2_withRoomLeft_4 T n (kS S b t gv gp tf ll w p l r kn lo ro pa av ca re ye ch cap du ra sh ow bo ma de) 3 b c (nI i) = some (xmk pa l r m i c, (kS S b t gv gp tf ll w p l r kn lo ro pa av ca re ye ch cap du ra sh ow bo ma de)) := by
  intro m
  induction m with
  | zero =>
    intro i n c hi hn
    obtain ⟨n, rfl⟩ : ∃ n', n = n' + 1 := ⟨n - 1, by omega⟩
    obtain rfl : i = 8 := by omega
    unfold f_X2_withRoomLeft_4
    rw [if_pos x8_t]
    rfl
  | succ m ih =>
    intro i n c hi hn
    obtain ⟨n, rfl⟩ : ∃ n', n = n' + 1 := ⟨n - 1, by omega⟩
    have hi8 : i < 8 := by omega
    unfold f_X2_withRoomLeft_4
    have e2 : xmk pa l r (m + 1) i c = xmk pa l r m (i + 1) (if xb pa i = 0 then c else if r i ≤ l i then c else c ||| ((1 : Int32) <<< (nI i &&& 31))) := rfl
    rw [e2]
    by_cases hb : xb pa i = 0
    · simp (disch := first | assumption | omega | ((repeat first | apply kS_tp | apply xI_tp | apply xw_tp); exact tp) | (apply xn8 tp; decide) | (apply xnb o tp; omega)) only [↓xl_e, ↓xc_e, ↓xcv_e, ↓xpi_e, ↓reduceIte, ↓rr_3_0, ↓rr_3_1, ↓rr_3_4, ↓rr_3_5, ↓rr_3_6, ↓rr_3_7, ↓kg_6, ↓kg_7, ↓kg_8, ↓kg_9, ↓kg_10, ↓kg_11, ↓kg_12, ↓kg_13, ↓kg_t, ↓xai_w, ↓xst_w, kr_gv, kr_gp, kr_w, kr_p, kr_l, kr_r, kr_cap, kr_du, kr_ra, kr_sh, kr_ow, kr_bo, kr_ma, kr_de, kr_ro, kr_tf, kr_ll, kr_kn, kr_lo, kr_pa, kr_av, kr_ca, kr_re, kr_ye, kr_ch, kw_gv, kw_gp, kw_w, kw_p, kw_l, kw_r, kw_cap, kw_du, kw_ra, kw_sh, kw_ow, kw_bo, kw_ma, kw_de, kw_ro, kw_tf, kw_ll, kw_kn, kw_lo, kw_pa, kw_av, kw_ca, kw_re, kw_ye, kw_ch, x8_ff, nI_1, xb_e, xup_at, xm_n, xm_at, x00, g_has o hi8, hb, ih]
    · by_cases hc : r i ≤ l i <;> simp (disch := first | assumption | omega | ((repeat first | apply kS_tp | apply xI_tp | apply xw_tp); exact tp) | (apply xn8 tp; decide) | (apply xnb o tp; omega)) only [↓xl_e, ↓xc_e, ↓xcv_e, ↓xpi_e, ↓reduceIte, ↓rr_3_0, ↓rr_3_1, ↓rr_3_4, ↓rr_3_5, ↓rr_3_6, ↓rr_3_7, ↓kg_6, ↓kg_7, ↓kg_8, ↓kg_9, ↓kg_10, ↓kg_11, ↓kg_12, ↓kg_13, ↓kg_t, ↓xai_w, ↓xst_w, kr_gv, kr_gp, kr_w, kr_p, kr_l, kr_r, kr_cap, kr_du, kr_ra, kr_sh, kr_ow, kr_bo, kr_ma, kr_de, kr_ro, kr_tf, kr_ll, kr_kn, kr_lo, kr_pa, kr_av, kr_ca, kr_re, kr_ye, kr_ch, kw_gv, kw_gp, kw_w, kw_p, kw_l, kw_r, kw_cap, kw_du, kw_ra, kw_sh, kw_ow, kw_bo, kw_ma, kw_de, kw_ro, kw_tf, kw_ll, kw_kn, kw_lo, kw_pa, kw_av, kw_ca, kw_re, kw_ye, kw_ch, x8_ff, nI_1, xb_e, xup_at, xm_n, xm_at, x00, g_has o hi8, hb, x10, hc, ih]
theorem g_room {T : xT} {S : xS} {b t : Nat} {gv gp w p l r ro cap du ra sh ow bo ma de : Nat → Int32} {tf ll kn lo pa av ca re ye ch : Int32} (o : xbt b t) (tp : xTp T S.2.2) : f_X2_withRoomLeft T (kS S b t gv gp tf ll w p l r kn lo ro pa av ca re ye ch cap du ra sh ow bo ma de) 3 b = some (xmk pa l r 8 0 0, (kS S b t gv gp tf ll w p l r kn lo ro pa av ca re ye ch cap du ra sh ow bo ma de)) := L_room o tp 8 0 xfu 0 rfl (by decide)
/-- the first who is there has a more -/
def xfi (pa a : Int32) : Nat → Nat → (Nat → Int32) → Nat → Int32
  | 0, _, l => l
  | m + 1, i, l => if xb pa i = 0 then xfi pa a m (i + 1) l else va_up l i (l i + a)
theorem L_first {T : xT} {S : xS} {b t : Nat} {gv gp w p l r ro cap du ra sh ow bo ma de : Nat → Int32} {tf ll kn lo pa av ca re ye ch : Int32} {a : Int32} (o : xbt b t) (tp : xTp T S.2.2) : ∀ (m i n : Nat), i + m = 8 → m < n → f_X2_addToFirst_2 T n (kS S b t gv gp tf ll w p l r kn lo ro pa av ca re ye ch cap du ra sh ow bo ma de) 3 b a (nI i) = some (kS S b t gv gp tf ll w p (xfi pa a m i l) r kn lo ro pa av ca re ye ch cap du ra sh ow bo ma de) := by
  intro m
  induction m with
  | zero =>
    intro i n hi hn
    obtain ⟨n, rfl⟩ : ∃ n', n = n' + 1 := ⟨n - 1, by omega⟩
    obtain rfl : i = 8 := by omega
    unfold f_X2_addToFirst_2
    rw [if_pos x8_t]
    rfl
  | succ m ih =>
    intro i n hi hn
    obtain ⟨n, rfl⟩ : ∃ n', n = n' + 1 := ⟨n - 1, by omega⟩
    have hi8 : i < 8 := by omega
    unfold f_X2_addToFirst_2
    have e2 : xfi pa a (m + 1) i l = if xb pa i = 0 then xfi pa a m (i + 1) l else va_up l i (l i + a) := rfl
    rw [e2]
    by_cases hb : xb pa i = 0
    · simp (disch := first | assumption | omega | ((repeat first | apply kS_tp | apply xI_tp | apply xw_tp); exact tp) | (apply xn8 tp; decide) | (apply xnb o tp; omega)) only [↓xl_e, ↓xc_e, ↓xcv_e, ↓xpi_e, ↓reduceIte, ↓rr_3_0, ↓rr_3_1, ↓rr_3_4, ↓rr_3_5, ↓rr_3_6, ↓rr_3_7, ↓kg_6, ↓kg_7, ↓kg_8, ↓kg_9, ↓kg_10, ↓kg_11, ↓kg_12, ↓kg_13, ↓kg_t, ↓xai_w, ↓xst_w, kr_gv, kr_gp, kr_w, kr_p, kr_l, kr_r, kr_cap, kr_du, kr_ra, kr_sh, kr_ow, kr_bo, kr_ma, kr_de, kr_ro, kr_tf, kr_ll, kr_kn, kr_lo, kr_pa, kr_av, kr_ca, kr_re, kr_ye, kr_ch, kw_gv, kw_gp, kw_w, kw_p, kw_l, kw_r, kw_cap, kw_du, kw_ra, kw_sh, kw_ow, kw_bo, kw_ma, kw_de, kw_ro, kw_tf, kw_ll, kw_kn, kw_lo, kw_pa, kw_av, kw_ca, kw_re, kw_ye, kw_ch, x8_ff, nI_1, xb_e, xup_at, xm_n, xm_at, x00, g_has o hi8, hb, ih]
    · simp (disch := first | assumption | omega | ((repeat first | apply kS_tp | apply xI_tp | apply xw_tp); exact tp) | (apply xn8 tp; decide) | (apply xnb o tp; omega)) only [↓xl_e, ↓xc_e, ↓xcv_e, ↓xpi_e, ↓reduceIte, ↓rr_3_0, ↓rr_3_1, ↓rr_3_4, ↓rr_3_5, ↓rr_3_6, ↓rr_3_7, ↓kg_6, ↓kg_7, ↓kg_8, ↓kg_9, ↓kg_10, ↓kg_11, ↓kg_12, ↓kg_13, ↓kg_t, ↓xai_w, ↓xst_w, kr_gv, kr_gp, kr_w, kr_p, kr_l, kr_r, kr_cap, kr_du, kr_ra, kr_sh, kr_ow, kr_bo, kr_ma, kr_de, kr_ro, kr_tf, kr_ll, kr_kn, kr_lo, kr_pa, kr_av, kr_ca, kr_re, kr_ye, kr_ch, kw_gv, kw_gp, kw_w, kw_p, kw_l, kw_r, kw_cap, kw_du, kw_ra, kw_sh, kw_ow, kw_bo, kw_ma, kw_de, kw_ro, kw_tf, kw_ll, kw_kn, kw_lo, kw_pa, kw_av, kw_ca, kw_re, kw_ye, kw_ch, x8_ff, nI_1, xb_e, xup_at, xm_n, xm_at, x00, g_has o hi8, hb, x10]
theorem g_first {T : xT} {S : xS} {b t : Nat} {gv gp w p l r ro cap du ra sh ow bo ma de : Nat → Int32} {tf ll kn lo pa av ca re ye ch : Int32} {a : Int32} (o : xbt b t) (tp : xTp T S.2.2) : f_X2_addToFirst T (kS S b t gv gp tf ll w p l r kn lo ro pa av ca re ye ch cap du ra sh ow bo ma de) 3 b a = some (kS S b t gv gp tf ll w p (xfi pa a 8 0 l) r kn lo ro pa av ca re ye ch cap du ra sh ow bo ma de) := L_first o tp 8 0 xfu rfl (by decide)
/-- rounds of it: what no room was found for, and the losses -/
def lm (pa : Int32) (ra r : Nat → Int32) : Nat → (Nat → Int32) → Int32 × (Nat → Int32)
  | 0, l => (0, l)
  | m + 1, l => if xtot (xcu l r) = 0 then (0, xct l r) else if xmk pa (xct l r) r 8 0 0 = 0 then (xtot (xcu l r), xfi pa (xtot (xcu l r)) 8 0 (xct l r)) else lm pa ra r m (fun k => xct l r k + dl (xtot (xcu l r)) (wq (xmk pa (xct l r) r 8 0 0) ra) k)
theorem L_lim {T : xT} {S : xS} {b t : Nat} {gv gp r ro cap du ra sh ow bo ma de : Nat → Int32} {tf ll kn lo pa av ca re ye ch : Int32} (o : xbt b t) (tp : xTp T S.2.2) (hra : ∀ k, k < 8 → 0 ≤ (ra k).toInt) : ∀ (m i n : Nat) (w p l : Nat → Int32), i + m = 9 → m < n → ∃ w' p', f_X2_limitLosses_50 T n (kS S b t gv gp tf ll w p l r kn lo ro pa av ca re ye ch cap du ra sh ow bo ma de) 3 b (nI i) = some ((lm pa ra r m l).1, (kS S b t gv gp tf ll w' p' ((lm pa ra r m l).2) r kn lo ro pa av ca re ye ch cap du ra sh ow bo ma de)) := by
  intro m
  induction m with
  | zero =>
    intro i n w p l hi hn
    obtain ⟨n, rfl⟩ : ∃ n', n = n' + 1 := ⟨n - 1, by omega⟩
    obtain rfl : i = 9 := by omega
    unfold f_X2_limitLosses_50
    rw [if_pos (by decide)]
    exact ⟨w, p, rfl⟩
  | succ m ih =>
    intro i n w p l hi hn
    obtain ⟨n, rfl⟩ : ∃ n', n = n' + 1 := ⟨n - 1, by omega⟩
    unfold f_X2_limitLosses_50
    have h8 : ¬ (8 : Int32) < nI i := by
      show ¬ nI 8 < nI i
      exact nI_nlt (by omega) (by decide)
    rw [if_neg h8, g_cut o tp, xc_e, xl_e]
    have e2 : lm pa ra r (m + 1) l = if xtot (xcu l r) = 0 then (0, xct l r) else if xmk pa (xct l r) r 8 0 0 = 0 then (xtot (xcu l r), xfi pa (xtot (xcu l r)) 8 0 (xct l r)) else lm pa ra r m (fun k => xct l r k + dl (xtot (xcu l r)) (wq (xmk pa (xct l r) r 8 0 0) ra) k) := rfl
    rw [e2]
    by_cases h1 : xtot (xcu l r) = 0
    · rw [if_pos h1, if_pos h1]
      exact ⟨w, p, rfl⟩
    · rw [if_neg h1, if_neg h1, g_room o tp, xc_e, xl_e]
      by_cases h2 : xmk pa (xct l r) r 8 0 0 = 0
      · rw [if_pos h2, if_pos h2, g_first o tp, xcv_e]
        exact ⟨w, p, rfl⟩
      · rw [if_neg h2, if_neg h2]
        simp (disch := first | assumption | omega | ((repeat first | apply kS_tp | apply xI_tp | apply xw_tp); exact tp) | (apply xn8 tp; decide) | (apply xnb o tp; omega)) only [↓xl_e, ↓xc_e, ↓xcv_e, ↓xpi_e, ↓reduceIte, ↓rr_3_0, ↓rr_3_1, ↓rr_3_4, ↓rr_3_5, ↓rr_3_6, ↓rr_3_7, ↓kg_6, ↓kg_7, ↓kg_8, ↓kg_9, ↓kg_10, ↓kg_11, ↓kg_12, ↓kg_13, ↓kg_t, ↓xai_w, ↓xst_w, kr_gv, kr_gp, kr_w, kr_p, kr_l, kr_r, kr_cap, kr_du, kr_ra, kr_sh, kr_ow, kr_bo, kr_ma, kr_de, kr_ro, kr_tf, kr_ll, kr_kn, kr_lo, kr_pa, kr_av, kr_ca, kr_re, kr_ye, kr_ch, kw_gv, kw_gp, kw_w, kw_p, kw_l, kw_r, kw_cap, kw_du, kw_ra, kw_sh, kw_ow, kw_bo, kw_ma, kw_de, kw_ro, kw_tf, kw_ll, kw_kn, kw_lo, kw_pa, kw_av, kw_ca, kw_re, kw_ye, kw_ch, x8_ff, nI_1, xb_e, xup_at, xm_n, xm_at, x00, g_ratio o tp hra, g_add_l_p o tp]
        exact ih (i + 1) n _ _ _ (by omega) (by omega)
/-- the room that each has -/
def xrm (pa : Int32) (cap du sh : Nat → Int32) : Nat → Int32 := fun k => if xb pa k = 0 then 0 else xmax 0 (cap k - (-du k - sh k))
theorem L_limit {T : xT} {S : xS} {b t : Nat} {gv gp w p l r ro cap du ra sh ow bo ma de : Nat → Int32} {tf ll kn lo pa av ca re ye ch : Int32} (o : xbt b t) (tp : xTp T S.2.2) (hra : ∀ k, k < 8 → 0 ≤ (ra k).toInt) : ∀ (m i n : Nat), i + m = 8 → m < n → ∃ w' p', f_X2_limitLosses_2 T n (kS S b t gv gp tf ll w p l (xm i (xrm pa cap du sh) r) kn lo ro pa av ca re ye ch cap du ra sh ow bo ma de) 3 b (nI i) = some ((lm pa ra (xrm pa cap du sh) 9 l).1, (kS S b t gv gp tf ll w' p' ((lm pa ra (xrm pa cap du sh) 9 l).2) (xrm pa cap du sh) kn lo ro pa av ca re ye ch cap du ra sh ow bo ma de)) := by
  intro m
  induction m with
  | zero =>
    intro i n hi hn
    obtain ⟨n, rfl⟩ : ∃ n', n = n' + 1 := ⟨n - 1, by omega⟩
    obtain rfl : i = 8 := by omega
    unfold f_X2_limitLosses_2
    rw [if_pos x8_t, kc_r xm_8, xl_e]
    exact L_lim o tp hra 9 0 xfu w p l rfl (by decide)
  | succ m ih =>
    intro i n hi hn
    obtain ⟨n, rfl⟩ : ∃ n', n = n' + 1 := ⟨n - 1, by omega⟩
    have hi8 : i < 8 := by omega
    unfold f_X2_limitLosses_2
    have e : xrm pa cap du sh i = if xb pa i = 0 then 0 else xmax 0 (cap i - (-du i - sh i)) := rfl
    have e3 := xm_s i (xrm pa cap du sh) r
    have hh := ih (i + 1) n (by omega) (by omega)
    by_cases hb : xb pa i = 0
    · rw [if_pos hb] at e
      rw [e] at e3
      simp (disch := first | assumption | omega | ((repeat first | apply kS_tp | apply xI_tp | apply xw_tp); exact tp) | (apply xn8 tp; decide) | (apply xnb o tp; omega)) only [↓xl_e, ↓xc_e, ↓xcv_e, ↓xpi_e, ↓reduceIte, ↓rr_3_0, ↓rr_3_1, ↓rr_3_4, ↓rr_3_5, ↓rr_3_6, ↓rr_3_7, ↓kg_6, ↓kg_7, ↓kg_8, ↓kg_9, ↓kg_10, ↓kg_11, ↓kg_12, ↓kg_13, ↓kg_t, ↓xai_w, ↓xst_w, kr_gv, kr_gp, kr_w, kr_p, kr_l, kr_r, kr_cap, kr_du, kr_ra, kr_sh, kr_ow, kr_bo, kr_ma, kr_de, kr_ro, kr_tf, kr_ll, kr_kn, kr_lo, kr_pa, kr_av, kr_ca, kr_re, kr_ye, kr_ch, kw_gv, kw_gp, kw_w, kw_p, kw_l, kw_r, kw_cap, kw_du, kw_ra, kw_sh, kw_ow, kw_bo, kw_ma, kw_de, kw_ro, kw_tf, kw_ll, kw_kn, kw_lo, kw_pa, kw_av, kw_ca, kw_re, kw_ye, kw_ch, x8_ff, nI_1, xb_e, xup_at, xm_n, xm_at, x00, g_has o hi8, hb, e3]
      exact hh
    · rw [if_neg hb] at e
      rw [e] at e3
      simp (disch := first | assumption | omega | ((repeat first | apply kS_tp | apply xI_tp | apply xw_tp); exact tp) | (apply xn8 tp; decide) | (apply xnb o tp; omega)) only [↓xl_e, ↓xc_e, ↓xcv_e, ↓xpi_e, ↓reduceIte, ↓rr_3_0, ↓rr_3_1, ↓rr_3_4, ↓rr_3_5, ↓rr_3_6, ↓rr_3_7, ↓kg_6, ↓kg_7, ↓kg_8, ↓kg_9, ↓kg_10, ↓kg_11, ↓kg_12, ↓kg_13, ↓kg_t, ↓xai_w, ↓xst_w, kr_gv, kr_gp, kr_w, kr_p, kr_l, kr_r, kr_cap, kr_du, kr_ra, kr_sh, kr_ow, kr_bo, kr_ma, kr_de, kr_ro, kr_tf, kr_ll, kr_kn, kr_lo, kr_pa, kr_av, kr_ca, kr_re, kr_ye, kr_ch, kw_gv, kw_gp, kw_w, kw_p, kw_l, kw_r, kw_cap, kw_du, kw_ra, kw_sh, kw_ow, kw_bo, kw_ma, kw_de, kw_ro, kw_tf, kw_ll, kw_kn, kw_lo, kw_pa, kw_av, kw_ca, kw_re, kw_ye, kw_ch, x8_ff, nI_1, xb_e, xup_at, xm_n, xm_at, x00, g_has o hi8, hb, x10, g_floor o tp hi8, e3]
      exact hh
theorem g_limit {T : xT} {S : xS} {b t : Nat} {gv gp w p l r ro cap du ra sh ow bo ma de : Nat → Int32} {tf ll kn lo pa av ca re ye ch : Int32} (o : xbt b t) (tp : xTp T S.2.2) (hra : ∀ k, k < 8 → 0 ≤ (ra k).toInt) : ∃ w' p', f_X2_limitLosses T (kS S b t gv gp tf ll w p l r kn lo ro pa av ca re ye ch cap du ra sh ow bo ma de) 3 b = some ((lm pa ra (xrm pa cap du sh) 9 l).1, (kS S b t gv gp tf ll w' p' ((lm pa ra (xrm pa cap du sh) 9 l).2) (xrm pa cap du sh) kn lo ro pa av ca re ye ch cap du ra sh ow bo ma de)) := by
  have h := L_limit (T := T) (S := S) (b := b) (t := t) (gv := gv) (gp := gp) (tf := tf) (ll := ll) (w := w) (p := p) (l := l) (r := r) (kn := kn) (lo := lo) (ro := ro) (pa := pa) (av := av) (ca := ca) (re := re) (ye := ye) (ch := ch) (cap := cap) (du := du) (ra := ra) (sh := sh) (ow := ow) (bo := bo) (ma := ma) (de := de) o tp hra 8 0 xfu rfl (by decide)
  rw [xm_0] at h
  exact h
/-! shareOut -/
theorem g_cp8 {T : xT} {S : xS} {b t : Nat} {gv gp w p l r ro cap du ra sh ow bo ma de : Nat → Int32} {tf ll kn lo pa av ca re ye ch : Int32} (o : xbt b t) (tp : xTp T S.2.2) : f_X9_copyEight T (kS S b t gv gp tf ll w p l r kn lo ro pa av ca re ye ch cap du ra sh ow bo ma de) 7 8 = some (kS S b t gv gp tf ll w p p r kn lo ro pa av ca re ye ch cap du ra sh ow bo ma de) := by
  unfold f_X9_copyEight xcp
  have hok : xcok T 7 0 8 0 8 = true := by
    unfold xcok
    rw [xn8 tp (a := 7) (by decide), xn8 tp (a := 8) (by decide)]
    decide
  rw [if_pos hok]
  refine congrArg some ?_
  have e : va_cpy ((kS S b t gv gp tf ll w p l r kn lo ro pa av ca re ye ch cap du ra sh ow bo ma de).1 7) ((kS S b t gv gp tf ll w p l r kn lo ro pa av ca re ye ch cap du ra sh ow bo ma de).1 8) (Int32.toNatClampNeg 0) (Int32.toNatClampNeg 0) (Int32.toNatClampNeg 8) = xmp 0 ((kS S b t gv gp tf ll w p l r kn lo ro pa av ca re ye ch cap du ra sh ow bo ma de).1 7) ((kS S b t gv gp tf ll w p l r kn lo ro pa av ca re ye ch cap du ra sh ow bo ma de).1 8) := by
    funext k
    show (if 0 ≤ k ∧ k < 0 + 8 then (kS S b t gv gp tf ll w p l r kn lo ro pa av ca re ye ch cap du ra sh ow bo ma de).1 7 (0 + (k - 0)) else (kS S b t gv gp tf ll w p l r kn lo ro pa av ca re ye ch cap du ra sh ow bo ma de).1 8 k) = if 0 ≤ k ∧ k < 8 then (kS S b t gv gp tf ll w p l r kn lo ro pa av ca re ye ch cap du ra sh ow bo ma de).1 7 k else (kS S b t gv gp tf ll w p l r kn lo ro pa av ca re ye ch cap du ra sh ow bo ma de).1 8 k
    rw [Nat.zero_add, Nat.zero_add, Nat.sub_zero]
  show xw (kS S b t gv gp tf ll w p l r kn lo ro pa av ca re ye ch cap du ra sh ow bo ma de) 8 (va_cpy _ _ _ _ _) = _
  rw [e]
  exact kx_l (fun k hk => kr_p hk)
theorem g_putL {T : xT} {S : xS} {b t : Nat} {gv gp w p l r ro cap du ra sh ow bo ma de : Nat → Int32} {tf ll kn lo pa av ca re ye ch : Int32} (o : xbt b t) (tp : xTp T S.2.2) {q : Nat} {q' : Int32} (hq : q < 7) (e : q' = nI q) : f_X2_putLosses T (kS S b t gv gp tf ll w p l r kn lo ro pa av ca re ye ch cap du ra sh ow bo ma de) 3 q' t = some (kS S b t gv gp tf ll w (fun k => 0 - l k) l r kn lo (rop q (fun k => 0 - l k) ro) pa av ca re ye ch cap du ra sh ow bo ma de) := by
  unfold f_X2_putLosses
  subst e
  simp (disch := first | assumption | omega | ((repeat first | apply kS_tp | apply xI_tp | apply xw_tp); exact tp) | (apply xn8 tp; decide) | (apply xnb o tp; omega)) only [↓xl_e, ↓xc_e, ↓xcv_e, ↓xpi_e, ↓reduceIte, ↓rr_3_0, ↓rr_3_1, ↓rr_3_4, ↓rr_3_5, ↓rr_3_6, ↓rr_3_7, ↓kg_6, ↓kg_7, ↓kg_8, ↓kg_9, ↓kg_10, ↓kg_11, ↓kg_12, ↓kg_13, ↓kg_t, ↓xai_w, ↓xst_w, kr_gv, kr_gp, kr_w, kr_p, kr_l, kr_r, kr_cap, kr_du, kr_ra, kr_sh, kr_ow, kr_bo, kr_ma, kr_de, kr_ro, kr_tf, kr_ll, kr_kn, kr_lo, kr_pa, kr_av, kr_ca, kr_re, kr_ye, kr_ch, kw_gv, kw_gp, kw_w, kw_p, kw_l, kw_r, kw_cap, kw_du, kw_ra, kw_sh, kw_ow, kw_bo, kw_ma, kw_de, kw_ro, kw_tf, kw_ll, kw_kn, kw_lo, kw_pa, kw_av, kw_ca, kw_re, kw_ye, kw_ch, x8_ff, nI_1, xb_e, xup_at, xm_n, xm_at, x00, g_fill_p o tp, g_take_p_l o tp, g_row o tp hq]
def shW (res : Int32) (g : Nat → Int32) : Nat → Int32 := fun k => xmax 0 (if res ≤ 0 then -(g k) else g k)
theorem shW_nn (res : Int32) (g : Nat → Int32) : ∀ k, k < 8 → 0 ≤ (shW res g k).toInt := fun k _ => by
  unfold shW
  rw [xmax_i, show (0 : Int32).toInt = 0 from by decide]; omega
/-- the losses behind limits: leftover and losses -/
def shL (pa : Int32) (ra cap du sh : Nat → Int32) (l : Nat → Int32) : Int32 × (Nat → Int32) := lm pa ra (xrm pa cap du sh) 9 l
theorem L_share {T : xT} {S : xS} {b t : Nat} {gv gp w p l r ro cap du ra sh ow bo ma de : Nat → Int32} {tf ll kn lo pa av ca re ye ch : Int32} {res : Int32} (o : xbt b t) (tp : xTp T S.2.2) (hra : ∀ k, k < 8 → 0 ≤ (ra k).toInt) : ∀ (m i n : Nat), i + m = 8 → m < n → ∃ w' p' l' r', f_X2_shareOut_15 T n (kS S b t gv gp tf ll (xm i (shW res gp) w) p l r kn lo ro pa av ca re ye ch cap du ra sh ow bo ma de) 3 res b t (nI i) = (if res ≤ 0 then some (kS S b t gv gp tf ll w' p' l' r' kn ((shL pa ra cap du sh (dl (xabs res) (shW res gp))).1) (rop 6 (fun k => 0 - (shL pa ra cap du sh (dl (xabs res) (shW res gp))).2 k) (rop 5 (fun k => 0 - dl (xabs res) (shW res gp) k) ro)) pa av ca re ye ch (fun k => cap k - (shL pa ra cap du sh (dl (xabs res) (shW res gp))).2 k) du ra sh ow bo ma de) else some (kS S b t gv gp tf ll w' p' l' r' kn lo (rop 6 (dl (xabs res) (shW res gp)) (rop 5 (dl (xabs res) (shW res gp)) ro)) pa av ca re ye ch (fun k => cap k + dl (xabs res) (shW res gp) k) du ra sh ow bo ma de)) := by
  intro m
  induction m with
  | zero =>
    intro i n hi hn
    obtain ⟨n, rfl⟩ : ∃ n', n = n' + 1 := ⟨n - 1, by omega⟩
    obtain rfl : i = 8 := by omega
    unfold f_X2_shareOut_15
    rw [if_pos x8_t, kc_w xm_8]
    by_cases hr : res ≤ 0
    · obtain ⟨w', p', e⟩ := g_limit (T := T) (S := S) (b := b) (t := t) (gv := gv) (gp := gp) (tf := tf) (ll := ll) (w := shW res gp) (p := fun k => 0 - dl (xabs res) (shW res gp) k) (l := dl (xabs res) (shW res gp)) (r := r) (kn := kn) (lo := lo) (ro := rop 5 (fun k => 0 - dl (xabs res) (shW res gp) k) ro) (pa := pa) (av := av) (ca := ca) (re := re) (ye := ye) (ch := ch) (cap := cap) (du := du) (ra := ra) (sh := sh) (ow := ow) (bo := bo) (ma := ma) (de := de) o tp hra
      refine ⟨w', fun k => 0 - (shL pa ra cap du sh (dl (xabs res) (shW res gp))).2 k, (shL pa ra cap du sh (dl (xabs res) (shW res gp))).2, xrm pa cap du sh, ?_⟩
      simp (disch := first | assumption | omega | ((repeat first | apply kS_tp | apply xI_tp | apply xw_tp); exact tp) | (apply xn8 tp; decide) | (apply xnb o tp; omega)) only [↓xl_e, ↓xc_e, ↓xcv_e, ↓xpi_e, ↓reduceIte, ↓rr_3_0, ↓rr_3_1, ↓rr_3_4, ↓rr_3_5, ↓rr_3_6, ↓rr_3_7, ↓kg_6, ↓kg_7, ↓kg_8, ↓kg_9, ↓kg_10, ↓kg_11, ↓kg_12, ↓kg_13, ↓kg_t, ↓xai_w, ↓xst_w, kr_gv, kr_gp, kr_w, kr_p, kr_l, kr_r, kr_cap, kr_du, kr_ra, kr_sh, kr_ow, kr_bo, kr_ma, kr_de, kr_ro, kr_tf, kr_ll, kr_kn, kr_lo, kr_pa, kr_av, kr_ca, kr_re, kr_ye, kr_ch, kw_gv, kw_gp, kw_w, kw_p, kw_l, kw_r, kw_cap, kw_du, kw_ra, kw_sh, kw_ow, kw_bo, kw_ma, kw_de, kw_ro, kw_tf, kw_ll, kw_kn, kw_lo, kw_pa, kw_av, kw_ca, kw_re, kw_ye, kw_ch, x8_ff, nI_1, xb_e, xup_at, xm_n, xm_at, x00, g_deal_w o tp (shW_nn res gp), hr, g_cp8 o tp, g_putL o tp (q := 5) (q' := 5) (by decide) rfl]
      rw [e, xc_e]
      simp (disch := first | assumption | omega | ((repeat first | apply kS_tp | apply xI_tp | apply xw_tp); exact tp) | (apply xn8 tp; decide) | (apply xnb o tp; omega)) only [↓xl_e, ↓xc_e, ↓xcv_e, ↓xpi_e, ↓reduceIte, ↓rr_3_0, ↓rr_3_1, ↓rr_3_4, ↓rr_3_5, ↓rr_3_6, ↓rr_3_7, ↓kg_6, ↓kg_7, ↓kg_8, ↓kg_9, ↓kg_10, ↓kg_11, ↓kg_12, ↓kg_13, ↓kg_t, ↓xai_w, ↓xst_w, kr_gv, kr_gp, kr_w, kr_p, kr_l, kr_r, kr_cap, kr_du, kr_ra, kr_sh, kr_ow, kr_bo, kr_ma, kr_de, kr_ro, kr_tf, kr_ll, kr_kn, kr_lo, kr_pa, kr_av, kr_ca, kr_re, kr_ye, kr_ch, kw_gv, kw_gp, kw_w, kw_p, kw_l, kw_r, kw_cap, kw_du, kw_ra, kw_sh, kw_ow, kw_bo, kw_ma, kw_de, kw_ro, kw_tf, kw_ll, kw_kn, kw_lo, kw_pa, kw_av, kw_ca, kw_re, kw_ye, kw_ch, x8_ff, nI_1, xb_e, xup_at, xm_n, xm_at, x00, g_putL o tp (q := 6) (q' := 6) (by decide) rfl, g_take_cap_l o tp]
      rfl
    · refine ⟨shW res gp, dl (xabs res) (shW res gp), l, r, ?_⟩
      simp (disch := first | assumption | omega | ((repeat first | apply kS_tp | apply xI_tp | apply xw_tp); exact tp) | (apply xn8 tp; decide) | (apply xnb o tp; omega)) only [↓xl_e, ↓xc_e, ↓xcv_e, ↓xpi_e, ↓reduceIte, ↓rr_3_0, ↓rr_3_1, ↓rr_3_4, ↓rr_3_5, ↓rr_3_6, ↓rr_3_7, ↓kg_6, ↓kg_7, ↓kg_8, ↓kg_9, ↓kg_10, ↓kg_11, ↓kg_12, ↓kg_13, ↓kg_t, ↓xai_w, ↓xst_w, kr_gv, kr_gp, kr_w, kr_p, kr_l, kr_r, kr_cap, kr_du, kr_ra, kr_sh, kr_ow, kr_bo, kr_ma, kr_de, kr_ro, kr_tf, kr_ll, kr_kn, kr_lo, kr_pa, kr_av, kr_ca, kr_re, kr_ye, kr_ch, kw_gv, kw_gp, kw_w, kw_p, kw_l, kw_r, kw_cap, kw_du, kw_ra, kw_sh, kw_ow, kw_bo, kw_ma, kw_de, kw_ro, kw_tf, kw_ll, kw_kn, kw_lo, kw_pa, kw_av, kw_ca, kw_re, kw_ye, kw_ch, x8_ff, nI_1, xb_e, xup_at, xm_n, xm_at, x00, g_deal_w o tp (shW_nn res gp), hr, g_add_cap_p o tp, g_row_5 o tp, g_row_6 o tp]
  | succ m ih =>
    intro i n hi hn
    obtain ⟨n, rfl⟩ : ∃ n', n = n' + 1 := ⟨n - 1, by omega⟩
    have hi8 : i < 8 := by omega
    unfold f_X2_shareOut_15
    have e : shW res gp i = xmax 0 (if res ≤ 0 then -(gp i) else gp i) := rfl
    have e3 := xm_s i (shW res gp) w
    have hh := ih (i + 1) n (by omega) (by omega)
    by_cases hr : res ≤ 0
    · rw [if_pos hr] at e
      rw [e] at e3
      rw [if_neg (x8_f hi8), rr_3_4 (S := (kS S b t gv gp tf ll (xm i (shW res gp) w) p l r kn lo ro pa av ca re ye ch cap du ra sh ow bo ma de)) tp, if_pos hr]
      simp (disch := first | assumption | omega | ((repeat first | apply kS_tp | apply xI_tp | apply xw_tp); exact tp) | (apply xn8 tp; decide) | (apply xnb o tp; omega)) only [↓xl_e, ↓xc_e, ↓xcv_e, ↓xpi_e, ↓reduceIte, ↓rr_3_0, ↓rr_3_1, ↓rr_3_4, ↓rr_3_5, ↓rr_3_6, ↓rr_3_7, ↓kg_6, ↓kg_7, ↓kg_8, ↓kg_9, ↓kg_10, ↓kg_11, ↓kg_12, ↓kg_13, ↓kg_t, ↓xai_w, ↓xst_w, kr_gv, kr_gp, kr_w, kr_p, kr_l, kr_r, kr_cap, kr_du, kr_ra, kr_sh, kr_ow, kr_bo, kr_ma, kr_de, kr_ro, kr_tf, kr_ll, kr_kn, kr_lo, kr_pa, kr_av, kr_ca, kr_re, kr_ye, kr_ch, kw_gv, kw_gp, kw_w, kw_p, kw_l, kw_r, kw_cap, kw_du, kw_ra, kw_sh, kw_ow, kw_bo, kw_ma, kw_de, kw_ro, kw_tf, kw_ll, kw_kn, kw_lo, kw_pa, kw_av, kw_ca, kw_re, kw_ye, kw_ch, x8_ff, nI_1, xb_e, xup_at, xm_n, xm_at, x00, e3]
      exact hh
    · rw [if_neg hr] at e
      rw [e] at e3
      rw [if_neg (x8_f hi8), rr_3_4 (S := (kS S b t gv gp tf ll (xm i (shW res gp) w) p l r kn lo ro pa av ca re ye ch cap du ra sh ow bo ma de)) tp, if_neg hr]
      simp (disch := first | assumption | omega | ((repeat first | apply kS_tp | apply xI_tp | apply xw_tp); exact tp) | (apply xn8 tp; decide) | (apply xnb o tp; omega)) only [↓xl_e, ↓xc_e, ↓xcv_e, ↓xpi_e, ↓reduceIte, ↓rr_3_0, ↓rr_3_1, ↓rr_3_4, ↓rr_3_5, ↓rr_3_6, ↓rr_3_7, ↓kg_6, ↓kg_7, ↓kg_8, ↓kg_9, ↓kg_10, ↓kg_11, ↓kg_12, ↓kg_13, ↓kg_t, ↓xai_w, ↓xst_w, kr_gv, kr_gp, kr_w, kr_p, kr_l, kr_r, kr_cap, kr_du, kr_ra, kr_sh, kr_ow, kr_bo, kr_ma, kr_de, kr_ro, kr_tf, kr_ll, kr_kn, kr_lo, kr_pa, kr_av, kr_ca, kr_re, kr_ye, kr_ch, kw_gv, kw_gp, kw_w, kw_p, kw_l, kw_r, kw_cap, kw_du, kw_ra, kw_sh, kw_ow, kw_bo, kw_ma, kw_de, kw_ro, kw_tf, kw_ll, kw_kn, kw_lo, kw_pa, kw_av, kw_ca, kw_re, kw_ye, kw_ch, x8_ff, nI_1, xb_e, xup_at, xm_n, xm_at, x00, e3]
      exact hh
/-- the accounts, the leftover and the steps behind it -/
def shC (res : Int32) (pa : Int32) (ra cap du sh g : Nat → Int32) : Nat → Int32 := if res = 0 then cap else if res ≤ 0 then fun k => cap k - (shL pa ra cap du sh (dl (xabs res) (shW res g))).2 k else fun k => cap k + dl (xabs res) (shW res g) k
def shO (res : Int32) (pa : Int32) (ra cap du sh g : Nat → Int32) (lo : Int32) : Int32 := if res = 0 then lo else if res ≤ 0 then (shL pa ra cap du sh (dl (xabs res) (shW res g))).1 else lo
def shR (res : Int32) (pa : Int32) (ra cap du sh g ro : Nat → Int32) : Nat → Int32 := if res = 0 then ro else if res ≤ 0 then rop 6 (fun k => 0 - (shL pa ra cap du sh (dl (xabs res) (shW res g))).2 k) (rop 5 (fun k => 0 - dl (xabs res) (shW res g) k) ro) else rop 6 (dl (xabs res) (shW res g)) (rop 5 (dl (xabs res) (shW res g)) ro)
/-- the gaps -/
def sgp (pa : Int32) (su : Nat → Int32) (tw : Nat → Nat → Int32) (fi : Nat) (cap : Nat → Int32) (n : Int32) : Nat → Int32 := fun k => sV pa su tw fi (xtot cap + n) k - cap k
theorem g_share {T : xT} {ta fi : Nat} {S : xS} {b t : Nat} {gv gp w p l r ro cap du ra sh ow bo ma de : Nat → Int32} {tf ll kn lo pa av ca re ye ch : Int32} {res : Int32} (o : xbt b t) (tp : xTp T S.2.2) (ti : xTi T S.2.2 ta) (to : xTo S ta fi) (hra : ∀ k, k < 8 → 0 ≤ (ra k).toInt) : ∃ gv' gp' tf' ll' w' p' l' r', f_X2_shareOut T (kS S b t gv gp tf ll w p l r kn lo ro pa av ca re ye ch cap du ra sh ow bo ma de) 3 res b ta t = some (kS S b t gv' gp' tf' ll' w' p' l' r' kn (shO res pa ra cap du sh (sgp pa (S.1 (ta + 1)) (tw S ta) fi cap res) lo) (shR res pa ra cap du sh (sgp pa (S.1 (ta + 1)) (tw S ta) fi cap res) ro) pa av ca re ye ch (shC res pa ra cap du sh (sgp pa (S.1 (ta + 1)) (tw S ta) fi cap res)) du ra sh ow bo ma de) := by
  unfold f_X2_shareOut shO shR shC
  by_cases h0 : res = 0
  · rw [if_pos h0, if_pos h0, if_pos h0, if_pos h0]
    exact ⟨gv, gp, tf, ll, w, p, l, r, rfl⟩
  · rw [if_neg h0, if_neg h0, if_neg h0, if_neg h0]
    obtain ⟨ll', tf', w', p', e⟩ := g_gaps (c := res) (S := S) (b := b) (t := t) (gv := gv) (gp := gp) (tf := tf) (ll := ll) (w := w) (p := p) (l := l) (r := r) (kn := kn) (lo := lo) (ro := ro) (pa := pa) (av := av) (ca := ca) (re := re) (ye := ye) (ch := ch) (cap := cap) (du := du) (ra := ra) (sh := sh) (ow := ow) (bo := bo) (ma := ma) (de := de) o tp ti to
    rw [e, xcv_e, xl_e]
    obtain ⟨w2, p2, l2, r2, h⟩ := L_share (T := T) (res := res) (S := S) (b := b) (t := t) (gv := sV pa (S.1 (ta + 1)) (tw S ta) fi (xtot cap + res)) (gp := sgp pa (S.1 (ta + 1)) (tw S ta) fi cap res) (tf := tf') (ll := ll') (w := w') (p := p') (l := l) (r := r) (kn := kn) (lo := lo) (ro := ro) (pa := pa) (av := av) (ca := ca) (re := re) (ye := ye) (ch := ch) (cap := cap) (du := du) (ra := ra) (sh := sh) (ow := ow) (bo := bo) (ma := ma) (de := de) o tp hra 8 0 xfu rfl (by decide)
    rw [xm_0] at h
    refine ⟨sV pa (S.1 (ta + 1)) (tw S ta) fi (xtot cap + res), sgp pa (S.1 (ta + 1)) (tw S ta) fi cap res, tf', ll', w2, p2, l2, r2, ?_⟩
    refine h.trans ?_
    by_cases hr : res ≤ 0
    · rw [if_pos hr, if_pos hr, if_pos hr, if_pos hr]
    · rw [if_neg hr, if_neg hr, if_neg hr, if_neg hr]
