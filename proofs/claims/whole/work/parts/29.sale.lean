/-! tiers at an address, and a sale of all -/
def xTi (T : xT) (r : Nat → Nat → Option Nat) (ta : Nat) : Prop := (ta = 18 ∨ 215 ≤ ta) ∧ (ta + 2 < T.2.2 ∧ T.1 ta = 8 ∧ T.1 (ta + 1) = 20 ∧ T.1 (ta + 2) = 20 ∧ T.2.1 (ta + 1) = 9 ∧ T.2.1 (ta + 2) = 72) ∧ r ta 1 = some (ta + 1) ∧ r ta 2 = some (ta + 2)
theorem xld_mk {T : xT} {S : xS} {a k j kd : Nat} (h : S.2.2 a k = some j) (hl : j < T.2.2) (hk : T.1 j = kd) : xld T S a k kd = some j := by
  unfold xld
  rw [h]
  show (if xlk T j kd = true then some j else none) = some j
  rw [if_pos (by unfold xlk; simp [hl, hk])]
theorem xgr_mk {α : Type} {T : xT} {S : xS} {a k j kd : Nat} {K : Nat → Option α} (h : S.2.2 a k = some j) (hl : j < T.2.2) (hk : T.1 j = kd) : xgr T S a k kd K = K j := by
  unfold xgr
  rw [xld_mk h hl hk]
  rfl
theorem tg_1 {α : Type} {T : xT} {S : xS} {ta : Nat} {K : Nat → Option α} (ti : xTi T S.2.2 ta) : xgr T S ta 1 20 K = K (ta + 1) := xgr_mk ti.2.2.1 (by have := ti.2.1.1; omega) ti.2.1.2.2.1
theorem tg_2 {α : Type} {T : xT} {S : xS} {ta : Nat} {K : Nat → Option α} (ti : xTi T S.2.2 ta) : xgr T S ta 2 20 K = K (ta + 2) := xgr_mk ti.2.2.2 (by have := ti.2.1.1; omega) ti.2.1.2.2.2.1
theorem xTi_out {T : xT} {r : Nat → Nat → Option Nat} {ta j : Nat} (ti : xTi T r ta) (hj : j ≤ 2) : (ta + j < 3 ∨ 9 < ta + j) ∧ (ta + j < 31 ∨ 41 < ta + j) ∧ (ta + j < 188 ∨ 198 < ta + j) := by
  have := ti.1
  omega
theorem kS_ti {T : xT} {ta : Nat} {S : xS} {b t : Nat} {gv gp w p l r ro cap du ra sh ow bo ma de : Nat → Int32} {tf ll kn lo pa av ca re ye ch : Int32} (ti : xTi T S.2.2 ta) : xTi T (kS S b t gv gp tf ll w p l r kn lo ro pa av ca re ye ch cap du ra sh ow bo ma de).2.2 ta := ti
theorem xI_ti {T : xT} {ta : Nat} {S : xS} {a k : Nat} {v : Int32} (ti : xTi T S.2.2 ta) : xTi T (xI S a k v).2.2 ta := ti
theorem xhw_01 (w : Nat → Int32) : ∀ (m i : Nat) (c : Int32), (c = 0 ∨ c = 1) → (xhw w m i c = 0 ∨ xhw w m i c = 1)
  | 0, i, c, h => h
  | m + 1, i, c, h => by
    show xhw w m (i + 1) _ = 0 ∨ xhw w m (i + 1) _ = 1
    apply xhw_01 w m (i + 1)
    by_cases hw : w i ≤ 0
    · rw [if_pos hw]; rcases h with rfl | rfl <;> decide
    · rw [if_neg hw]; rcases h with rfl | rfl <;> decide
theorem xnz_01 {c : Int32} (h : c = 0 ∨ c = 1) : xnz c = true := by
  rcases h with rfl | rfl <;> decide
/-- the weights of tier k -/
def tw (S : xS) (ta k : Nat) : Nat → Int32 := fun p => S.1 (ta + 2) (k * 8 + p)
theorem L_wtier {T : xT} {ta : Nat} {S : xS} {b t : Nat} {gv gp w p l r ro cap du ra sh ow bo ma de : Nat → Int32} {tf ll kn lo pa av ca re ye ch : Int32} {am : Int32} {k : Nat} (hk : k < 9) (o : xbt b t) (tp : xTp T S.2.2) (ti : xTi T S.2.2 ta) : ∀ (m i n : Nat) (c : Int32), i + m = 8 → m < n → (c = 0 ∨ c = 1) → f_X2_weighByTier_6 T n (kS S b t gv gp tf ll (xm i (wr am (tw S ta k)) w) p l r kn lo ro pa av ca re ye ch cap du ra sh ow bo ma de) 3 ta (nI k) am c (nI i) = some (xhw (wr am (tw S ta k)) m i c, (kS S b t gv gp tf ll (wr am (tw S ta k)) p l r kn lo ro pa av ca re ye ch cap du ra sh ow bo ma de)) := by
  intro m
  induction m with
  | zero =>
    intro i n c hi hn hc
    obtain ⟨n, rfl⟩ : ∃ n', n = n' + 1 := ⟨n - 1, by omega⟩
    obtain rfl : i = 8 := by omega
    unfold f_X2_weighByTier_6
    rw [if_pos x8_t, kc_w xm_8, xgd_h (xnz_01 hc)]
    rfl
  | succ m ih =>
    intro i n c hi hn hc
    obtain ⟨n, rfl⟩ : ∃ n', n = n' + 1 := ⟨n - 1, by omega⟩
    have hi8 : i < 8 := by omega
    unfold f_X2_weighByTier_6
    have e : wr am (tw S ta k) i = if xb am i = 0 then 0 else tw S ta k i := rfl
    have e2 : xhw (wr am (tw S ta k)) (m + 1) i c = xhw (wr am (tw S ta k)) m (i + 1) (if wr am (tw S ta k) i ≤ 0 then c ||| 0 else c ||| 1) := rfl
    rw [e2]
    have ei : nI k * 8 + nI i = nI (k * 8 + i) := by rw [show nI k * 8 = nI (k * 8) from pk_mul k 8, nI_add]
    have h0 : c ||| 0 = 0 ∨ c ||| 0 = 1 := by rcases hc with rfl | rfl <;> decide
    have h1 : c ||| 1 = 0 ∨ c ||| 1 = 1 := by rcases hc with rfl | rfl <;> decide
    have h72 : T.2.1 (ta + 2) = 72 := ti.2.1.2.2.2.2.2
    by_cases hb : xb am i = 0
    · rw [if_pos hb] at e
      have e3 := xm_s i (wr am (tw S ta k)) w
      rw [e] at e3
      simp (disch := first | assumption | omega | ((repeat first | apply kS_tp | apply xI_tp | apply xw_tp); exact tp) | (apply xn8 tp; decide) | (apply xnb o tp; omega)) only [↓xl_e, ↓xc_e, ↓xcv_e, ↓xpi_e, ↓reduceIte, ↓rr_3_0, ↓rr_3_1, ↓rr_3_4, ↓rr_3_5, ↓rr_3_6, ↓rr_3_7, ↓kg_6, ↓kg_7, ↓kg_8, ↓kg_9, ↓kg_10, ↓kg_11, ↓kg_12, ↓kg_13, ↓kg_t, ↓xai_w, ↓xst_w, kr_gv, kr_gp, kr_w, kr_p, kr_l, kr_r, kr_cap, kr_du, kr_ra, kr_sh, kr_ow, kr_bo, kr_ma, kr_de, kr_ro, kr_tf, kr_ll, kr_kn, kr_lo, kr_pa, kr_av, kr_ca, kr_re, kr_ye, kr_ch, kw_gv, kw_gp, kw_w, kw_p, kw_l, kw_r, kw_cap, kw_du, kw_ra, kw_sh, kw_ow, kw_bo, kw_ma, kw_de, kw_ro, kw_tf, kw_ll, kw_kn, kw_lo, kw_pa, kw_av, kw_ca, kw_re, kw_ye, kw_ch, x8_ff, nI_1, xb_e, xup_at, xm_n, xm_at, x00, hb, f_X2_weighByTier_44, e3, ih, e]
    · rw [if_neg hb] at e
      have e3 := xm_s i (wr am (tw S ta k)) w
      rw [e] at e3
      have e4 : ∀ {α : Type} {K : Int32 → Option α}, xai T (kS S b t gv gp tf ll (xm i (wr am (tw S ta k)) w) p l r kn lo ro pa av ca re ye ch cap du ra sh ow bo ma de) (ta + 2) (nI k * 8 + nI i) K = K (tw S ta k i) := fun {α K} => by
        rw [ei, xai_n h72 (by omega) (by decide), ka_out o (xTi_out ti (by omega))]; rfl
      rw [if_neg (x8_f hi8), rr_3_4 (S := (kS S b t gv gp tf ll (xm i (wr am (tw S ta k)) w) p l r kn lo ro pa av ca re ye ch cap du ra sh ow bo ma de)) tp, xb_e, if_neg hb, tg_2 (S := (kS S b t gv gp tf ll (xm i (wr am (tw S ta k)) w) p l r kn lo ro pa av ca re ye ch cap du ra sh ow bo ma de)) ti, e4]
      by_cases hr : tw S ta k i ≤ 0 <;> simp (disch := first | assumption | omega | ((repeat first | apply kS_tp | apply xI_tp | apply xw_tp); exact tp) | (apply xn8 tp; decide) | (apply xnb o tp; omega)) only [↓xl_e, ↓xc_e, ↓xcv_e, ↓xpi_e, ↓reduceIte, ↓rr_3_0, ↓rr_3_1, ↓rr_3_4, ↓rr_3_5, ↓rr_3_6, ↓rr_3_7, ↓kg_6, ↓kg_7, ↓kg_8, ↓kg_9, ↓kg_10, ↓kg_11, ↓kg_12, ↓kg_13, ↓kg_t, ↓xai_w, ↓xst_w, kr_gv, kr_gp, kr_w, kr_p, kr_l, kr_r, kr_cap, kr_du, kr_ra, kr_sh, kr_ow, kr_bo, kr_ma, kr_de, kr_ro, kr_tf, kr_ll, kr_kn, kr_lo, kr_pa, kr_av, kr_ca, kr_re, kr_ye, kr_ch, kw_gv, kw_gp, kw_w, kw_p, kw_l, kw_r, kw_cap, kw_du, kw_ra, kw_sh, kw_ow, kw_bo, kw_ma, kw_de, kw_ro, kw_tf, kw_ll, kw_kn, kw_lo, kw_pa, kw_av, kw_ca, kw_re, kw_ye, kw_ch, x8_ff, nI_1, xb_e, xup_at, xm_n, xm_at, x00, hb, hr, f_X2_weighByTier_44, e3, ih, e]
theorem g_wtier {T : xT} {ta : Nat} {S : xS} {b t : Nat} {gv gp w p l r ro cap du ra sh ow bo ma de : Nat → Int32} {tf ll kn lo pa av ca re ye ch : Int32} {am : Int32} {k : Nat} (hk : k < 9) (o : xbt b t) (tp : xTp T S.2.2) (ti : xTi T S.2.2 ta) : f_X2_weighByTier T (kS S b t gv gp tf ll w p l r kn lo ro pa av ca re ye ch cap du ra sh ow bo ma de) 3 ta (nI k) am = some (xhw (wr am (tw S ta k)) 8 0 0, (kS S b t gv gp tf ll (wr am (tw S ta k)) p l r kn lo ro pa av ca re ye ch cap du ra sh ow bo ma de)) := by
  have h : f_X2_weighByTier_6 T xfu (kS S b t gv gp tf ll (xm 0 (wr am (tw S ta k)) w) p l r kn lo ro pa av ca re ye ch cap du ra sh ow bo ma de) 3 ta (nI k) am 0 (nI 0) = _ := L_wtier hk o tp ti 8 0 xfu 0 rfl (by decide) (Or.inl rfl)
  rw [xm_0] at h
  exact h
/-- the first tiers: what is left, what is given, how many are filled -/
def sG (pa : Int32) (su : Nat → Int32) (tw : Nat → Nat → Int32) : Nat → Nat → Int32 → (Nat → Int32) → Int32 → Int32 × (Nat → Int32) × Int32
  | 0, _, c, g, f => (c, g, f)
  | m + 1, k, c, g, f => if c ≤ 0 then (c, g, f) else if xhw (wr pa (tw k)) 8 0 0 = 0 then sG pa su tw m (k + 1) c g f else sG pa su tw m (k + 1) (c - xmin c (su k)) (fun j => g j + dl (xmin c (su k)) (wr pa (tw k)) j) (f + 1)
def sF (pa : Int32) (su : Nat → Int32) (tw : Nat → Nat → Int32) (fi : Nat) (n : Int32) : Int32 × (Nat → Int32) × Int32 := sG pa su tw fi 0 n (fun _ => 0) 0
/-- what each has of a sale -/
def sV (pa : Int32) (su : Nat → Int32) (tw : Nat → Nat → Int32) (fi : Nat) (n : Int32) : Nat → Int32 :=
  if (sF pa su tw fi n).1 = 0 then (sF pa su tw fi n).2.1 else if (sF pa su tw fi n).1 ≤ 0 then fun j => (sF pa su tw fi n).2.1 j - dl (-(sF pa su tw fi n).1) (wq pa (tw fi)) j else fun j => (sF pa su tw fi n).2.1 j + dl (sF pa su tw fi n).1 (wq pa (tw fi)) j
def sN (pa : Int32) (su : Nat → Int32) (tw : Nat → Nat → Int32) (fi : Nat) (n : Int32) : Int32 :=
  if (sF pa su tw fi n).1 = 0 then (sF pa su tw fi n).2.2 else if (sF pa su tw fi n).1 ≤ 0 then (sF pa su tw fi n).2.2 else (sF pa su tw fi n).2.2 + 1
/-- the text of tiers is well: so many first ones, weights not below 0, sums above 0 -/
def xTo (S : xS) (ta fi : Nat) : Prop := S.1 ta 0 = nI (fi + 1) ∧ fi < 9 ∧ (∀ k p, k ≤ fi → p < 8 → 0 ≤ (tw S ta k p).toInt ∧ (tw S ta k p).toInt ≤ 99) ∧ ∀ k, k < fi → 0 < (S.1 (ta + 1) k).toInt
theorem g_sell145 {T : xT} {S : xS} {b t : Nat} {gv gp w p l r ro cap du ra sh ow bo ma de : Nat → Int32} {tf ll kn lo pa av ca re ye ch : Int32} {c : Int32} (o : xbt b t) (tp : xTp T S.2.2) (hw : ∀ k, k < 8 → 0 ≤ (w k).toInt) : f_X2_sellAll_145 T (kS S b t gv gp tf ll w p l r kn lo ro pa av ca re ye ch cap du ra sh ow bo ma de) 3 c = if c ≤ 0 then some (kS S b t (fun j => gv j - dl (-c) w j) gp tf ll w (dl (-c) w) l r kn lo ro pa av ca re ye ch cap du ra sh ow bo ma de) else some (kS S b t (fun j => gv j + dl c w j) gp (tf + 1) ll w (dl c w) l r kn lo ro pa av ca re ye ch cap du ra sh ow bo ma de) := by
  unfold f_X2_sellAll_145
  by_cases hc : c ≤ 0
  · simp (disch := first | assumption | omega | ((repeat first | apply kS_tp | apply xI_tp | apply xw_tp); exact tp) | (apply xn8 tp; decide) | (apply xnb o tp; omega)) only [↓xl_e, ↓xc_e, ↓xcv_e, ↓xpi_e, ↓reduceIte, ↓rr_3_0, ↓rr_3_1, ↓rr_3_4, ↓rr_3_5, ↓rr_3_6, ↓rr_3_7, ↓kg_6, ↓kg_7, ↓kg_8, ↓kg_9, ↓kg_10, ↓kg_11, ↓kg_12, ↓kg_13, ↓kg_t, ↓xai_w, ↓xst_w, kr_gv, kr_gp, kr_w, kr_p, kr_l, kr_r, kr_cap, kr_du, kr_ra, kr_sh, kr_ow, kr_bo, kr_ma, kr_de, kr_ro, kr_tf, kr_ll, kr_kn, kr_lo, kr_pa, kr_av, kr_ca, kr_re, kr_ye, kr_ch, kw_gv, kw_gp, kw_w, kw_p, kw_l, kw_r, kw_cap, kw_du, kw_ra, kw_sh, kw_ow, kw_bo, kw_ma, kw_de, kw_ro, kw_tf, kw_ll, kw_kn, kw_lo, kw_pa, kw_av, kw_ca, kw_re, kw_ye, kw_ch, x8_ff, nI_1, xb_e, xup_at, xm_n, xm_at, x00, hc, g_deal_w o tp hw, g_take_gv_p o tp]
  · simp (disch := first | assumption | omega | ((repeat first | apply kS_tp | apply xI_tp | apply xw_tp); exact tp) | (apply xn8 tp; decide) | (apply xnb o tp; omega)) only [↓xl_e, ↓xc_e, ↓xcv_e, ↓xpi_e, ↓reduceIte, ↓rr_3_0, ↓rr_3_1, ↓rr_3_4, ↓rr_3_5, ↓rr_3_6, ↓rr_3_7, ↓kg_6, ↓kg_7, ↓kg_8, ↓kg_9, ↓kg_10, ↓kg_11, ↓kg_12, ↓kg_13, ↓kg_t, ↓xai_w, ↓xst_w, kr_gv, kr_gp, kr_w, kr_p, kr_l, kr_r, kr_cap, kr_du, kr_ra, kr_sh, kr_ow, kr_bo, kr_ma, kr_de, kr_ro, kr_tf, kr_ll, kr_kn, kr_lo, kr_pa, kr_av, kr_ca, kr_re, kr_ye, kr_ch, kw_gv, kw_gp, kw_w, kw_p, kw_l, kw_r, kw_cap, kw_du, kw_ra, kw_sh, kw_ow, kw_bo, kw_ma, kw_de, kw_ro, kw_tf, kw_ll, kw_kn, kw_lo, kw_pa, kw_av, kw_ca, kw_re, kw_ye, kw_ch, x8_ff, nI_1, xb_e, xup_at, xm_n, xm_at, x00, hc, g_deal_w o tp hw, g_add_gv_p o tp]
theorem g_sell107 {T : xT} {ta fi : Nat} {S : xS} {b t : Nat} {gv gp w p l r ro cap du ra sh ow bo ma de : Nat → Int32} {tf ll kn lo pa av ca re ye ch : Int32} {c : Int32} (o : xbt b t) (tp : xTp T S.2.2) (ti : xTi T S.2.2 ta) (to : xTo S ta fi) : ∃ w' p', f_X2_sellAll_107 T (kS S b t gv gp tf ll w p l r kn lo ro pa av ca re ye ch cap du ra sh ow bo ma de) 3 b ta c = some (kS S b t (if c = 0 then gv else if c ≤ 0 then fun j => gv j - dl (-c) (wq pa (tw S ta fi)) j else fun j => gv j + dl c (wq pa (tw S ta fi)) j) gp (if c = 0 then tf else if c ≤ 0 then tf else tf + 1) c w' p' l r kn lo ro pa av ca re ye ch cap du ra sh ow bo ma de) := by
  unfold f_X2_sellAll_107
  by_cases hc : c = 0
  · refine ⟨w, p, ?_⟩
    simp (disch := first | assumption | omega | ((repeat first | apply kS_tp | apply xI_tp | apply xw_tp); exact tp) | (apply xn8 tp; decide) | (apply xnb o tp; omega)) only [↓xl_e, ↓xc_e, ↓xcv_e, ↓xpi_e, ↓reduceIte, ↓rr_3_0, ↓rr_3_1, ↓rr_3_4, ↓rr_3_5, ↓rr_3_6, ↓rr_3_7, ↓kg_6, ↓kg_7, ↓kg_8, ↓kg_9, ↓kg_10, ↓kg_11, ↓kg_12, ↓kg_13, ↓kg_t, ↓xai_w, ↓xst_w, kr_gv, kr_gp, kr_w, kr_p, kr_l, kr_r, kr_cap, kr_du, kr_ra, kr_sh, kr_ow, kr_bo, kr_ma, kr_de, kr_ro, kr_tf, kr_ll, kr_kn, kr_lo, kr_pa, kr_av, kr_ca, kr_re, kr_ye, kr_ch, kw_gv, kw_gp, kw_w, kw_p, kw_l, kw_r, kw_cap, kw_du, kw_ra, kw_sh, kw_ow, kw_bo, kw_ma, kw_de, kw_ro, kw_tf, kw_ll, kw_kn, kw_lo, kw_pa, kw_av, kw_ca, kw_re, kw_ye, kw_ch, x8_ff, nI_1, xb_e, xup_at, xm_n, xm_at, x00, hc]
  · have hn : S.1 ta 0 - 1 = nI fi := by rw [to.1, nI_pred]
    have h9 := to.2.1
    have hra : ∀ k, k < 8 → 0 ≤ (tw S ta fi k).toInt := fun k hk => (to.2.2.1 fi k (Nat.le_refl _) hk).1
    have e0 : (kS S b t gv gp tf c w p l r kn lo ro pa av ca re ye ch cap du ra sh ow bo ma de).1 ta 0 = S.1 ta 0 := by rw [ka_out o (a := ta) (xTi_out (j := 0) ti (by omega))]
    rw [xpi_e, kw_ll, if_neg hc, e0, hn, kr_pa o, g_wtier h9 o tp ti, xc_e]
    by_cases hx : xhw (wr pa (tw S ta fi)) 8 0 0 = 0
    · have e : wq pa (tw S ta fi) = xb pa := by unfold wq; rw [if_pos hx]
      refine ⟨xb pa, if c ≤ 0 then dl (-c) (xb pa) else dl c (xb pa), ?_⟩
      rw [if_pos hx, kr_pa o, g_even o tp, xcv_e, g_sell145 o tp (fun k _ => xb_nn pa k), e, if_neg hc, if_neg hc]
      by_cases h2 : c ≤ 0
      · rw [if_pos h2, if_pos h2, if_pos h2, if_pos h2]
      · rw [if_neg h2, if_neg h2, if_neg h2, if_neg h2]
    · have e : wq pa (tw S ta fi) = wr pa (tw S ta fi) := by unfold wq; rw [if_neg hx]
      refine ⟨wr pa (tw S ta fi), if c ≤ 0 then dl (-c) (wr pa (tw S ta fi)) else dl c (wr pa (tw S ta fi)), ?_⟩
      rw [if_neg hx, g_sell145 o tp (wr_nn hra), e, if_neg hc, if_neg hc]
      by_cases h2 : c ≤ 0
      · rw [if_pos h2, if_pos h2, if_pos h2, if_pos h2]
      · rw [if_neg h2, if_neg h2, if_neg h2, if_neg h2]
theorem L_sell {T : xT} {ta fi : Nat} {S : xS} {b t : Nat} {gp l r ro cap du ra sh ow bo ma de : Nat → Int32} {ll kn lo pa av ca re ye ch : Int32} (o : xbt b t) (tp : xTp T S.2.2) (ti : xTi T S.2.2 ta) (to : xTo S ta fi) : ∀ (m k n : Nat) (c : Int32) (gv w p : Nat → Int32) (tf : Int32), k + m = fi → m < n → ∃ w' p', f_X2_sellAll_19 T n (kS S b t gv gp tf ll w p l r kn lo ro pa av ca re ye ch cap du ra sh ow bo ma de) 3 b ta c (nI k) = some (kS S b t (if (sG pa (S.1 (ta + 1)) (tw S ta) m k c gv tf).1 = 0 then (sG pa (S.1 (ta + 1)) (tw S ta) m k c gv tf).2.1 else if (sG pa (S.1 (ta + 1)) (tw S ta) m k c gv tf).1 ≤ 0 then fun j => (sG pa (S.1 (ta + 1)) (tw S ta) m k c gv tf).2.1 j - dl (-(sG pa (S.1 (ta + 1)) (tw S ta) m k c gv tf).1) (wq pa (tw S ta fi)) j else fun j => (sG pa (S.1 (ta + 1)) (tw S ta) m k c gv tf).2.1 j + dl (sG pa (S.1 (ta + 1)) (tw S ta) m k c gv tf).1 (wq pa (tw S ta fi)) j) gp (if (sG pa (S.1 (ta + 1)) (tw S ta) m k c gv tf).1 = 0 then (sG pa (S.1 (ta + 1)) (tw S ta) m k c gv tf).2.2 else if (sG pa (S.1 (ta + 1)) (tw S ta) m k c gv tf).1 ≤ 0 then (sG pa (S.1 (ta + 1)) (tw S ta) m k c gv tf).2.2 else (sG pa (S.1 (ta + 1)) (tw S ta) m k c gv tf).2.2 + 1) ((sG pa (S.1 (ta + 1)) (tw S ta) m k c gv tf).1) w' p' l r kn lo ro pa av ca re ye ch cap du ra sh ow bo ma de) := by
  have h9 := to.2.1
  have e0 : ∀ (gv w p : Nat → Int32) (tf : Int32), (kS S b t gv gp tf ll w p l r kn lo ro pa av ca re ye ch cap du ra sh ow bo ma de).1 ta 0 - 1 = nI fi := fun gv w p tf => by rw [ka_out o (a := ta) (xTi_out (j := 0) ti (by omega)), to.1, nI_pred]
  intro m
  induction m with
  | zero =>
    intro k n c gv w p tf hk hn
    obtain ⟨n, rfl⟩ : ∃ n', n = n' + 1 := ⟨n - 1, by omega⟩
    obtain rfl : k = fi := by omega
    unfold f_X2_sellAll_19
    rw [e0, if_pos (nI_le (Nat.le_refl _) (by omega))]
    exact g_sell107 o tp ti to
  | succ m ih =>
    intro k n c gv w p tf hk hn
    obtain ⟨n, rfl⟩ : ∃ n', n = n' + 1 := ⟨n - 1, by omega⟩
    unfold f_X2_sellAll_19
    rw [e0, if_neg (nI_ge (by omega) (by omega))]
    have eG : sG pa (S.1 (ta + 1)) (tw S ta) (m + 1) k c gv tf = if c ≤ 0 then (c, gv, tf) else if xhw (wr pa (tw S ta k)) 8 0 0 = 0 then sG pa (S.1 (ta + 1)) (tw S ta) m (k + 1) c gv tf else sG pa (S.1 (ta + 1)) (tw S ta) m (k + 1) (c - xmin c (S.1 (ta + 1) k)) (fun j => gv j + dl (xmin c (S.1 (ta + 1) k)) (wr pa (tw S ta k)) j) (tf + 1) := rfl
    by_cases hc : c ≤ 0
    · rw [eG, if_pos hc, if_pos hc]
      exact g_sell107 o tp ti to
    · rw [eG, if_neg hc, if_neg hc, kr_pa o, g_wtier (by omega) o tp ti, xc_e]
      by_cases hx : xhw (wr pa (tw S ta k)) 8 0 0 = 0
      · rw [if_pos hx, if_pos hx, xl_e, nI_1]
        exact ih (k + 1) n c gv _ p tf (by omega) (by omega)
      · rw [if_neg hx, if_neg hx]
        have e9 : T.2.1 (ta + 1) = 9 := ti.2.1.2.2.2.2.1
        have hra : ∀ j, j < 8 → 0 ≤ (tw S ta k j).toInt := fun j hj => (to.2.2.1 k j (by omega) hj).1
        have e4 : ∀ {α : Type} {K : Int32 → Option α}, xai T (kS S b t gv gp tf ll (wr pa (tw S ta k)) p l r kn lo ro pa av ca re ye ch cap du ra sh ow bo ma de) (ta + 1) (nI k) K = K (S.1 (ta + 1) k) := fun {α K} => by
          rw [xai_n e9 (by omega) (by decide), ka_out o (xTi_out ti (by omega))]
        rw [tg_1 (S := (kS S b t gv gp tf ll (wr pa (tw S ta k)) p l r kn lo ro pa av ca re ye ch cap du ra sh ow bo ma de)) ti, e4]
        simp (disch := first | assumption | omega | ((repeat first | apply kS_tp | apply xI_tp | apply xw_tp); exact tp) | (apply xn8 tp; decide) | (apply xnb o tp; omega)) only [↓xl_e, ↓xc_e, ↓xcv_e, ↓xpi_e, ↓reduceIte, ↓rr_3_0, ↓rr_3_1, ↓rr_3_4, ↓rr_3_5, ↓rr_3_6, ↓rr_3_7, ↓kg_6, ↓kg_7, ↓kg_8, ↓kg_9, ↓kg_10, ↓kg_11, ↓kg_12, ↓kg_13, ↓kg_t, ↓xai_w, ↓xst_w, kr_gv, kr_gp, kr_w, kr_p, kr_l, kr_r, kr_cap, kr_du, kr_ra, kr_sh, kr_ow, kr_bo, kr_ma, kr_de, kr_ro, kr_tf, kr_ll, kr_kn, kr_lo, kr_pa, kr_av, kr_ca, kr_re, kr_ye, kr_ch, kw_gv, kw_gp, kw_w, kw_p, kw_l, kw_r, kw_cap, kw_du, kw_ra, kw_sh, kw_ow, kw_bo, kw_ma, kw_de, kw_ro, kw_tf, kw_ll, kw_kn, kw_lo, kw_pa, kw_av, kw_ca, kw_re, kw_ye, kw_ch, x8_ff, nI_1, xb_e, xup_at, xm_n, xm_at, x00, g_deal_w o tp (wr_nn hra), g_add_gv_p o tp]
        exact ih (k + 1) n _ _ _ _ _ (by omega) (by omega)
theorem g_sell {T : xT} {ta fi : Nat} {S : xS} {b t : Nat} {gv gp w p l r ro cap du ra sh ow bo ma de : Nat → Int32} {tf ll kn lo pa av ca re ye ch : Int32} {c : Int32} (o : xbt b t) (tp : xTp T S.2.2) (ti : xTi T S.2.2 ta) (to : xTo S ta fi) : ∃ w' p', f_X2_sellAll T (kS S b t gv gp tf ll w p l r kn lo ro pa av ca re ye ch cap du ra sh ow bo ma de) 3 c b ta = some (kS S b t (sV pa (S.1 (ta + 1)) (tw S ta) fi c) gp (sN pa (S.1 (ta + 1)) (tw S ta) fi c) ((sF pa (S.1 (ta + 1)) (tw S ta) fi c).1) w' p' l r kn lo ro pa av ca re ye ch cap du ra sh ow bo ma de) := by
  have h9 := to.2.1
  unfold f_X2_sellAll
  rw [rr_3_0 (S := (kS S b t gv gp tf ll w p l r kn lo ro pa av ca re ye ch cap du ra sh ow bo ma de)) tp, g_fill_gv o tp, xcv_e, xpi_e, kw_tf, xl_e, xl_e]
  exact L_sell o tp ti to fi 0 xfu c (fun _ => 0) w p 0 (by omega) (by show fi < 1000; omega)
theorem L_gaps {T : xT} {S : xS} {b t : Nat} {gv gp w p l r ro cap du ra sh ow bo ma de : Nat → Int32} {tf ll kn lo pa av ca re ye ch : Int32} (o : xbt b t) (tp : xTp T S.2.2) : ∀ (m i n : Nat), i + m = 8 → m < n → f_X2_measureGaps_18 T n (kS S b t gv (xm i (fun k => gv k - cap k) gp) tf ll w p l r kn lo ro pa av ca re ye ch cap du ra sh ow bo ma de) 3 b (nI i) = some (kS S b t gv (fun k => gv k - cap k) tf ll w p l r kn lo ro pa av ca re ye ch cap du ra sh ow bo ma de) := by
  intro m
  induction m with
  | zero =>
    intro i n hi hn
    obtain ⟨n, rfl⟩ : ∃ n', n = n' + 1 := ⟨n - 1, by omega⟩
    obtain rfl : i = 8 := by omega
    unfold f_X2_measureGaps_18
    rw [if_pos x8_t, kc_gp xm_8]
  | succ m ih =>
    intro i n hi hn
    obtain ⟨n, rfl⟩ : ∃ n', n = n' + 1 := ⟨n - 1, by omega⟩
    have hi8 : i < 8 := by omega
    unfold f_X2_measureGaps_18
    have e3 : va_up (xm i (fun k => gv k - cap k) gp) i (gv i - cap i) = _ := xm_s i (fun k => gv k - cap k) gp
    simp (disch := first | assumption | omega | ((repeat first | apply kS_tp | apply xI_tp | apply xw_tp); exact tp) | (apply xn8 tp; decide) | (apply xnb o tp; omega)) only [↓xl_e, ↓xc_e, ↓xcv_e, ↓xpi_e, ↓reduceIte, ↓rr_3_0, ↓rr_3_1, ↓rr_3_4, ↓rr_3_5, ↓rr_3_6, ↓rr_3_7, ↓kg_6, ↓kg_7, ↓kg_8, ↓kg_9, ↓kg_10, ↓kg_11, ↓kg_12, ↓kg_13, ↓kg_t, ↓xai_w, ↓xst_w, kr_gv, kr_gp, kr_w, kr_p, kr_l, kr_r, kr_cap, kr_du, kr_ra, kr_sh, kr_ow, kr_bo, kr_ma, kr_de, kr_ro, kr_tf, kr_ll, kr_kn, kr_lo, kr_pa, kr_av, kr_ca, kr_re, kr_ye, kr_ch, kw_gv, kw_gp, kw_w, kw_p, kw_l, kw_r, kw_cap, kw_du, kw_ra, kw_sh, kw_ow, kw_bo, kw_ma, kw_de, kw_ro, kw_tf, kw_ll, kw_kn, kw_lo, kw_pa, kw_av, kw_ca, kw_re, kw_ye, kw_ch, x8_ff, nI_1, xb_e, xup_at, xm_n, xm_at, x00, e3, ih]
theorem g_gaps {T : xT} {ta fi : Nat} {S : xS} {b t : Nat} {gv gp w p l r ro cap du ra sh ow bo ma de : Nat → Int32} {tf ll kn lo pa av ca re ye ch : Int32} {c : Int32} (o : xbt b t) (tp : xTp T S.2.2) (ti : xTi T S.2.2 ta) (to : xTo S ta fi) : ∃ ll' tf' w' p', f_X2_measureGaps T (kS S b t gv gp tf ll w p l r kn lo ro pa av ca re ye ch cap du ra sh ow bo ma de) 3 b ta c = some (kS S b t (sV pa (S.1 (ta + 1)) (tw S ta) fi (xtot cap + c)) (fun k => sV pa (S.1 (ta + 1)) (tw S ta) fi (xtot cap + c) k - cap k) tf' ll' w' p' l r kn lo ro pa av ca re ye ch cap du ra sh ow bo ma de) := by
  unfold f_X2_measureGaps
  rw [kg_6 (S := (kS S b t gv gp tf ll w p l r kn lo ro pa av ca re ye ch cap du ra sh ow bo ma de)) o tp, g_tot_cap o tp, xc_e]
  obtain ⟨w', p', e⟩ := g_sell (c := xtot cap + c) (S := S) (b := b) (t := t) (gv := gv) (gp := gp) (tf := tf) (ll := ll) (w := w) (p := p) (l := l) (r := r) (kn := kn) (lo := lo) (ro := ro) (pa := pa) (av := av) (ca := ca) (re := re) (ye := ye) (ch := ch) (cap := cap) (du := du) (ra := ra) (sh := sh) (ow := ow) (bo := bo) (ma := ma) (de := de) o tp ti to
  rw [e, xcv_e, xl_e]
  have h := L_gaps (T := T) (S := S) (b := b) (t := t) (gv := sV pa (S.1 (ta + 1)) (tw S ta) fi (xtot cap + c)) (gp := gp) (tf := sN pa (S.1 (ta + 1)) (tw S ta) fi (xtot cap + c)) (ll := (sF pa (S.1 (ta + 1)) (tw S ta) fi (xtot cap + c)).1) (w := w') (p := p') (l := l) (r := r) (kn := kn) (lo := lo) (ro := ro) (pa := pa) (av := av) (ca := ca) (re := re) (ye := ye) (ch := ch) (cap := cap) (du := du) (ra := ra) (sh := sh) (ow := ow) (bo := bo) (ma := ma) (de := de) o tp 8 0 xfu rfl (by decide)
  rw [xm_0] at h
  exact ⟨_, _, w', p', h⟩
