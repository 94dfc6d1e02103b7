/-! the class at its desk: loops over eight -/
theorem xn8 {T : xT} {r : Nat → Nat → Option Nat} {a : Nat} (tp : xTp T r) (h : a < 215 ∧ xN.getD a 0 = 8) : T.2.1 a = 8 := xTp_n tp 8 h.1 h.2
theorem xnb {T : xT} {r : Nat → Nat → Option Nat} {b t j : Nat} (o : xbt b t) (tp : xTp T r) (h : 1 ≤ j ∧ j ≤ 8) : T.2.1 (b + j) = 8 := by
  obtain rfl | rfl | rfl | rfl | rfl | rfl | rfl | rfl : j = 1 ∨ j = 2 ∨ j = 3 ∨ j = 4 ∨ j = 5 ∨ j = 6 ∨ j = 7 ∨ j = 8 := by omega
  all_goals rcases o with ⟨rfl, rfl⟩ | ⟨rfl, rfl⟩ <;> exact xTp_n tp 8 (by decide) rfl
theorem xnt {T : xT} {r : Nat → Nat → Option Nat} {b t : Nat} (o : xbt b t) (tp : xTp T r) : T.2.1 (t + 1) = 56 := by
  rcases o with ⟨rfl, rfl⟩ | ⟨rfl, rfl⟩ <;> exact xTp_n tp 56 (by decide) rfl
theorem kS_tp {T : xT} {S : xS} {b t : Nat} {gv gp w p l r ro cap du ra sh ow bo ma de : Nat → Int32} {tf ll kn lo pa av ca re ye ch : Int32} (tp : xTp T S.2.2) : xTp T (kS S b t gv gp tf ll w p l r kn lo ro pa av ca re ye ch cap du ra sh ow bo ma de).2.2 := tp
theorem xI_tp {T : xT} {S : xS} {a k : Nat} {v : Int32} (tp : xTp T S.2.2) : xTp T (xI S a k v).2.2 := tp
theorem xw_tp {T : xT} {S : xS} {a : Nat} {g : Nat → Int32} (tp : xTp T S.2.2) : xTp T (xw S a g).2.2 := tp
theorem kg_6 {T : xT} {S : xS} {α : Type} {K : Nat → Option α} {b t : Nat} (o : xbt b t) (tp : xTp T S.2.2) : xgr T S b 6 20 K = K (b + 1) := by
  rcases o with ⟨rfl, rfl⟩ | ⟨rfl, rfl⟩
  · exact rr_31_6 tp
  · exact rr_188_6 tp
theorem kg_7 {T : xT} {S : xS} {α : Type} {K : Nat → Option α} {b t : Nat} (o : xbt b t) (tp : xTp T S.2.2) : xgr T S b 7 20 K = K (b + 2) := by
  rcases o with ⟨rfl, rfl⟩ | ⟨rfl, rfl⟩
  · exact rr_31_7 tp
  · exact rr_188_7 tp
theorem kg_8 {T : xT} {S : xS} {α : Type} {K : Nat → Option α} {b t : Nat} (o : xbt b t) (tp : xTp T S.2.2) : xgr T S b 8 20 K = K (b + 3) := by
  rcases o with ⟨rfl, rfl⟩ | ⟨rfl, rfl⟩
  · exact rr_31_8 tp
  · exact rr_188_8 tp
theorem kg_9 {T : xT} {S : xS} {α : Type} {K : Nat → Option α} {b t : Nat} (o : xbt b t) (tp : xTp T S.2.2) : xgr T S b 9 20 K = K (b + 4) := by
  rcases o with ⟨rfl, rfl⟩ | ⟨rfl, rfl⟩
  · exact rr_31_9 tp
  · exact rr_188_9 tp
theorem kg_10 {T : xT} {S : xS} {α : Type} {K : Nat → Option α} {b t : Nat} (o : xbt b t) (tp : xTp T S.2.2) : xgr T S b 10 20 K = K (b + 5) := by
  rcases o with ⟨rfl, rfl⟩ | ⟨rfl, rfl⟩
  · exact rr_31_10 tp
  · exact rr_188_10 tp
theorem kg_11 {T : xT} {S : xS} {α : Type} {K : Nat → Option α} {b t : Nat} (o : xbt b t) (tp : xTp T S.2.2) : xgr T S b 11 20 K = K (b + 6) := by
  rcases o with ⟨rfl, rfl⟩ | ⟨rfl, rfl⟩
  · exact rr_31_11 tp
  · exact rr_188_11 tp
theorem kg_12 {T : xT} {S : xS} {α : Type} {K : Nat → Option α} {b t : Nat} (o : xbt b t) (tp : xTp T S.2.2) : xgr T S b 12 20 K = K (b + 7) := by
  rcases o with ⟨rfl, rfl⟩ | ⟨rfl, rfl⟩
  · exact rr_31_12 tp
  · exact rr_188_12 tp
theorem kg_13 {T : xT} {S : xS} {α : Type} {K : Nat → Option α} {b t : Nat} (o : xbt b t) (tp : xTp T S.2.2) : xgr T S b 13 20 K = K (b + 8) := by
  rcases o with ⟨rfl, rfl⟩ | ⟨rfl, rfl⟩
  · exact rr_31_13 tp
  · exact rr_188_13 tp
theorem kg_t {T : xT} {S : xS} {α : Type} {K : Nat → Option α} {b t : Nat} (o : xbt b t) (tp : xTp T S.2.2) : xgr T S t 2 20 K = K (t + 1) := by
  rcases o with ⟨rfl, rfl⟩ | ⟨rfl, rfl⟩
  · exact rr_40_2 tp
  · exact rr_197_2 tp
theorem xai_w {α : Type} {T : xT} {S : xS} {a i : Nat} {K : Int32 → Option α} (hN : T.2.1 a = 8) (h : i < 8) : xai T S a (nI i) K = K (S.1 a i) := xai_n hN h (by decide)
theorem xst_w {α : Type} {T : xT} {S : xS} {a i : Nat} {v : Int32} {K : xS → Option α} (hN : T.2.1 a = 8) (h : i < 8) : xst T S a (nI i) v K = K (xI S a i v) := xst_n hN h (by decide)
theorem x8_ff {i : Nat} (h : i < 8) : ((8 : Int32) ≤ nI i) = False := eq_false (x8_f h)
/-- below i: g, else f -/
def xm (i : Nat) (g f : Nat → Int32) : Nat → Int32 := fun k => if k < i then g k else f k
theorem xm_0 (g f : Nat → Int32) : xm 0 g f = f := by funext k; unfold xm; rw [if_neg (by omega)]
theorem xm_at {i : Nat} {g f : Nat → Int32} : xm i g f i = f i := by unfold xm; rw [if_neg (by omega)]
theorem xm_n {i : Nat} {g f : Nat → Int32} : xm (i + 1) g f i = g i := by unfold xm; rw [if_pos (by omega)]
theorem x00 : ((0 : Int32) ≤ 0) = True := by decide
theorem xm_s (i : Nat) (g f : Nat → Int32) : va_up (xm i g f) i (g i) = xm (i + 1) g f := by
  funext k; unfold xm
  by_cases hk : k = i
  · subst hk; rw [xup_at, if_pos (by omega)]
  · rw [va_up_ne _ _ hk]
    show (if k < i then g k else f k) = _
    by_cases h2 : k < i
    · rw [if_pos h2, if_pos (by omega)]
    · rw [if_neg h2, if_neg (by omega)]
theorem xm_8 {g f : Nat → Int32} : ∀ k, k < 8 → xm 8 g f k = g k := fun k h => by unfold xm; rw [if_pos h]
theorem L_even {T : xT} {S : xS} {b t : Nat} {gv gp w p l r ro cap du ra sh ow bo ma de : Nat → Int32} {tf ll kn lo pa av ca re ye ch : Int32} {am : Int32} (o : xbt b t) (tp : xTp T S.2.2) : ∀ (m i n : Nat), i + m = 8 → m < n → f_X2_weighEvenly_2 T n (kS S b t gv gp tf ll (xm i (xb am) w) p l r kn lo ro pa av ca re ye ch cap du ra sh ow bo ma de) 3 am (nI i) = some (kS S b t gv gp tf ll (xb am) p l r kn lo ro pa av ca re ye ch cap du ra sh ow bo ma de) := by
  intro m
  induction m with
  | zero =>
    intro i n hi hn
    obtain ⟨n, rfl⟩ : ∃ n', n = n' + 1 := ⟨n - 1, by omega⟩
    obtain rfl : i = 8 := by omega
    unfold f_X2_weighEvenly_2
    rw [if_pos x8_t, kc_w xm_8]
  | succ m ih =>
    intro i n hi hn
    obtain ⟨n, rfl⟩ : ∃ n', n = n' + 1 := ⟨n - 1, by omega⟩
    have hi8 : i < 8 := by omega
    unfold f_X2_weighEvenly_2
    simp (disch := first | assumption | omega | ((repeat first | apply kS_tp | apply xI_tp | apply xw_tp); exact tp) | (apply xn8 tp; decide) | (apply xnb o tp; omega)) only [↓xl_e, ↓xc_e, ↓xcv_e, ↓xpi_e, ↓reduceIte, ↓rr_3_0, ↓rr_3_1, ↓rr_3_4, ↓rr_3_5, ↓rr_3_6, ↓rr_3_7, ↓kg_6, ↓kg_7, ↓kg_8, ↓kg_9, ↓kg_10, ↓kg_11, ↓kg_12, ↓kg_13, ↓kg_t, ↓xai_w, ↓xst_w, kr_gv, kr_gp, kr_w, kr_p, kr_l, kr_r, kr_cap, kr_du, kr_ra, kr_sh, kr_ow, kr_bo, kr_ma, kr_de, kr_ro, kr_tf, kr_ll, kr_kn, kr_lo, kr_pa, kr_av, kr_ca, kr_re, kr_ye, kr_ch, kw_gv, kw_gp, kw_w, kw_p, kw_l, kw_r, kw_cap, kw_du, kw_ra, kw_sh, kw_ow, kw_bo, kw_ma, kw_de, kw_ro, kw_tf, kw_ll, kw_kn, kw_lo, kw_pa, kw_av, kw_ca, kw_re, kw_ye, kw_ch, x8_ff, nI_1, xb_e, xup_at, xm_n, xm_at, x00, xm_s, ih]
theorem g_even {T : xT} {S : xS} {b t : Nat} {gv gp w p l r ro cap du ra sh ow bo ma de : Nat → Int32} {tf ll kn lo pa av ca re ye ch : Int32} {am : Int32} (o : xbt b t) (tp : xTp T S.2.2) : f_X2_weighEvenly T (kS S b t gv gp tf ll w p l r kn lo ro pa av ca re ye ch cap du ra sh ow bo ma de) 3 am = some (kS S b t gv gp tf ll (xb am) p l r kn lo ro pa av ca re ye ch cap du ra sh ow bo ma de) := by
  have h : f_X2_weighEvenly_2 T xfu (kS S b t gv gp tf ll (xm 0 (xb am) w) p l r kn lo ro pa av ca re ye ch cap du ra sh ow bo ma de) 3 am (nI 0) = _ := L_even o tp 8 0 xfu rfl (by decide)
  rw [xm_0] at h
  exact h
/-! deal on the overlay -/
theorem xdl_ext {S' : xS} {S : xS} {b t : Nat} {gv gp w p l r ro cap du ra sh ow bo ma de : Nat → Int32} {tf ll kn lo pa av ca re ye ch : Int32} {n : Int32} {q : Nat → Int32} (hf : xfr (kS S b t gv gp tf ll w p l r kn lo ro pa av ca re ye ch cap du ra sh ow bo ma de) S' [7] []) (h1 : ∀ k, k < 8 → S'.1 7 k = q k) (h2 : ∀ k, 8 ≤ k → S'.1 7 k = (kS S b t gv gp tf ll w p l r kn lo ro pa av ca re ye ch cap du ra sh ow bo ma de).1 7 k) : S' = (kS S b t gv gp tf ll w q l r kn lo ro pa av ca re ye ch cap du ra sh ow bo ma de) := by
  obtain ⟨i1, j1, r1⟩ := S'
  have hr : r1 = S.2.2 := hf.1
  have hj : j1 = S.2.1 := funext fun a => hf.2.2 a (by simp)
  have hi : i1 = (kS S b t gv gp tf ll w q l r kn lo ro pa av ca re ye ch cap du ra sh ow bo ma de).1 := by
    funext a
    by_cases ha : a = 7
    · subst ha
      rw [ka_7]
      funext k
      unfold x8
      by_cases hk : k < 8
      · rw [if_pos hk]; exact h1 k hk
      · rw [if_neg hk]
        have := h2 k (by omega)
        rw [ka_7] at this
        unfold x8 at this
        rw [if_neg hk] at this
        exact this
    · have := hf.2.1 a (by simpa using ha)
      rw [show i1 a = (kS S b t gv gp tf ll w p l r kn lo ro pa av ca re ye ch cap du ra sh ow bo ma de).1 a from this]
      unfold kS
      simp only [ha, if_false]
  rw [hr, hj, hi]
  rfl
theorem g_deal_w {T : xT} {S : xS} {b t : Nat} {gv gp w p l r ro cap du ra sh ow bo ma de : Nat → Int32} {tf ll kn lo pa av ca re ye ch : Int32} {n : Int32} (o : xbt b t) (tp : xTp T S.2.2) (hw : ∀ k, k < 8 → 0 ≤ (w k).toInt) : f_X2_deal T (kS S b t gv gp tf ll w p l r kn lo ro pa av ca re ye ch cap du ra sh ow bo ma de) 3 n 6 = some (kS S b t gv gp tf ll w (dl n w) l r kn lo ro pa av ca re ye ch cap du ra sh ow bo ma de) := by
  obtain ⟨S', e, hf, h1, h2⟩ := g_deal (T := T) (S := (kS S b t gv gp tf ll w p l r kn lo ro pa av ca re ye ch cap du ra sh ow bo ma de)) (b := 6) (n := n) tp (by decide) (xn8 tp (by decide)) (fun k hk => by rw [kr_w hk]; exact hw k hk)
  rw [e, xdl_ext (n := n) hf (fun k hk => (h1 k hk).trans (dl_cong (fun j hj => kr_w hj) k hk)) h2]
theorem g_deal_sh {T : xT} {S : xS} {b t : Nat} {gv gp w p l r ro cap du ra sh ow bo ma de : Nat → Int32} {tf ll kn lo pa av ca re ye ch : Int32} {n : Int32} (o : xbt b t) (tp : xTp T S.2.2) (hw : ∀ k, k < 8 → 0 ≤ (sh k).toInt) : f_X2_deal T (kS S b t gv gp tf ll w p l r kn lo ro pa av ca re ye ch cap du ra sh ow bo ma de) 3 n (b + 4) = some (kS S b t gv gp tf ll w (dl n sh) l r kn lo ro pa av ca re ye ch cap du ra sh ow bo ma de) := by
  obtain ⟨S', e, hf, h1, h2⟩ := g_deal (T := T) (S := (kS S b t gv gp tf ll w p l r kn lo ro pa av ca re ye ch cap du ra sh ow bo ma de)) (b := b + 4) (n := n) tp (by rcases o with ⟨rfl, rfl⟩ | ⟨rfl, rfl⟩ <;> decide) (xnb o tp (by omega)) (fun k hk => by rw [kr_sh o hk]; exact hw k hk)
  rw [e, xdl_ext (n := n) hf (fun k hk => (h1 k hk).trans (dl_cong (fun j hj => kr_sh o hj) k hk)) h2]
theorem g_deal_ow {T : xT} {S : xS} {b t : Nat} {gv gp w p l r ro cap du ra sh ow bo ma de : Nat → Int32} {tf ll kn lo pa av ca re ye ch : Int32} {n : Int32} (o : xbt b t) (tp : xTp T S.2.2) (hw : ∀ k, k < 8 → 0 ≤ (ow k).toInt) : f_X2_deal T (kS S b t gv gp tf ll w p l r kn lo ro pa av ca re ye ch cap du ra sh ow bo ma de) 3 n (b + 5) = some (kS S b t gv gp tf ll w (dl n ow) l r kn lo ro pa av ca re ye ch cap du ra sh ow bo ma de) := by
  obtain ⟨S', e, hf, h1, h2⟩ := g_deal (T := T) (S := (kS S b t gv gp tf ll w p l r kn lo ro pa av ca re ye ch cap du ra sh ow bo ma de)) (b := b + 5) (n := n) tp (by rcases o with ⟨rfl, rfl⟩ | ⟨rfl, rfl⟩ <;> decide) (xnb o tp (by omega)) (fun k hk => by rw [kr_ow o hk]; exact hw k hk)
  rw [e, xdl_ext (n := n) hf (fun k hk => (h1 k hk).trans (dl_cong (fun j hj => kr_ow o hj) k hk)) h2]
/-! weights by ratio -/
def xhw (w : Nat → Int32) : Nat → Nat → Int32 → Int32
  | 0, _, c => c
  | m + 1, i, c => xhw w m (i + 1) (if w i ≤ 0 then c ||| 0 else c ||| 1)
def wr (am : Int32) (ra : Nat → Int32) : Nat → Int32 := fun k => if xb am k = 0 then 0 else ra k
def wq (am : Int32) (ra : Nat → Int32) : Nat → Int32 := if xhw (wr am ra) 8 0 0 = 0 then xb am else wr am ra
theorem xb_01 (m : Int32) (i : Nat) : xb m i = 0 ∨ xb m i = 1 := by
  unfold xb
  generalize m >>> (nI i &&& 31) = q
  have h : ∀ j, j < 32 → bt (q &&& 1) j = (bt q 0 && decide (j = 0)) := fun j hj => by
    rw [b_and, b_1 j hj]
    by_cases h0 : j = 0
    · subst h0; rfl
    · rw [decide_eq_false h0, Bool.and_false, Bool.and_false]
  cases hq : bt q 0
  · left
    exact b_ext (fun j hj => by rw [h j hj, hq, b_0, Bool.false_and])
  · right
    exact b_ext (fun j hj => by rw [h j hj, hq, b_1 j hj, Bool.true_and])
theorem xb_nn (m : Int32) (i : Nat) : 0 ≤ (xb m i).toInt := by
  rcases xb_01 m i with h | h <;> rw [h] <;> decide
theorem wr_nn {am : Int32} {ra : Nat → Int32} (h : ∀ k, k < 8 → 0 ≤ (ra k).toInt) : ∀ k, k < 8 → 0 ≤ (wr am ra k).toInt := fun k hk => by
  unfold wr
  by_cases hb : xb am k = 0
  · rw [if_pos hb]; decide
  · rw [if_neg hb]; exact h k hk
theorem wq_nn {am : Int32} {ra : Nat → Int32} (h : ∀ k, k < 8 → 0 ≤ (ra k).toInt) : ∀ k, k < 8 → 0 ≤ (wq am ra k).toInt := fun k hk => by
  unfold wq
  by_cases hb : xhw (wr am ra) 8 0 0 = 0
  · rw [if_pos hb]; exact xb_nn _ _
  · rw [if_neg hb]; exact wr_nn h k hk
theorem L_ratio {T : xT} {S : xS} {b t : Nat} {gv gp w p l r ro cap du ra sh ow bo ma de : Nat → Int32} {tf ll kn lo pa av ca re ye ch : Int32} {am su : Int32} (o : xbt b t) (tp : xTp T S.2.2) (hra : ∀ k, k < 8 → 0 ≤ (ra k).toInt) : ∀ (m i n : Nat) (c : Int32), i + m = 8 → m < n → f_X2_dealByRatio_6 T n (kS S b t gv gp tf ll (xm i (wr am ra) w) p l r kn lo ro pa av ca re ye ch cap du ra sh ow bo ma de) 3 su (b + 3) am c (nI i) = (if xhw (wr am ra) m i c = 0 then some (kS S b t gv gp tf ll (xb am) (dl su (xb am)) l r kn lo ro pa av ca re ye ch cap du ra sh ow bo ma de) else some (kS S b t gv gp tf ll (wr am ra) (dl su (wr am ra)) l r kn lo ro pa av ca re ye ch cap du ra sh ow bo ma de)) := by
  intro m
  induction m with
  | zero =>
    intro i n c hi hn
    obtain ⟨n, rfl⟩ : ∃ n', n = n' + 1 := ⟨n - 1, by omega⟩
    obtain rfl : i = 8 := by omega
    unfold f_X2_dealByRatio_6
    rw [if_pos x8_t, kc_w xm_8]
    show (if c = 0 then _ else _) = if c = 0 then _ else _
    by_cases hc : c = 0
    · rw [if_pos hc, if_pos hc]
      simp (disch := first | assumption | omega | ((repeat first | apply kS_tp | apply xI_tp | apply xw_tp); exact tp) | (apply xn8 tp; decide) | (apply xnb o tp; omega)) only [↓xl_e, ↓xc_e, ↓xcv_e, ↓xpi_e, ↓reduceIte, ↓rr_3_0, ↓rr_3_1, ↓rr_3_4, ↓rr_3_5, ↓rr_3_6, ↓rr_3_7, ↓kg_6, ↓kg_7, ↓kg_8, ↓kg_9, ↓kg_10, ↓kg_11, ↓kg_12, ↓kg_13, ↓kg_t, ↓xai_w, ↓xst_w, kr_gv, kr_gp, kr_w, kr_p, kr_l, kr_r, kr_cap, kr_du, kr_ra, kr_sh, kr_ow, kr_bo, kr_ma, kr_de, kr_ro, kr_tf, kr_ll, kr_kn, kr_lo, kr_pa, kr_av, kr_ca, kr_re, kr_ye, kr_ch, kw_gv, kw_gp, kw_w, kw_p, kw_l, kw_r, kw_cap, kw_du, kw_ra, kw_sh, kw_ow, kw_bo, kw_ma, kw_de, kw_ro, kw_tf, kw_ll, kw_kn, kw_lo, kw_pa, kw_av, kw_ca, kw_re, kw_ye, kw_ch, x8_ff, nI_1, xb_e, xup_at, xm_n, xm_at, x00, g_even o tp, g_deal_w o tp (fun k _ => xb_nn am k)]
    · rw [if_neg hc, if_neg hc]
      simp (disch := first | assumption | omega | ((repeat first | apply kS_tp | apply xI_tp | apply xw_tp); exact tp) | (apply xn8 tp; decide) | (apply xnb o tp; omega)) only [↓xl_e, ↓xc_e, ↓xcv_e, ↓xpi_e, ↓reduceIte, ↓rr_3_0, ↓rr_3_1, ↓rr_3_4, ↓rr_3_5, ↓rr_3_6, ↓rr_3_7, ↓kg_6, ↓kg_7, ↓kg_8, ↓kg_9, ↓kg_10, ↓kg_11, ↓kg_12, ↓kg_13, ↓kg_t, ↓xai_w, ↓xst_w, kr_gv, kr_gp, kr_w, kr_p, kr_l, kr_r, kr_cap, kr_du, kr_ra, kr_sh, kr_ow, kr_bo, kr_ma, kr_de, kr_ro, kr_tf, kr_ll, kr_kn, kr_lo, kr_pa, kr_av, kr_ca, kr_re, kr_ye, kr_ch, kw_gv, kw_gp, kw_w, kw_p, kw_l, kw_r, kw_cap, kw_du, kw_ra, kw_sh, kw_ow, kw_bo, kw_ma, kw_de, kw_ro, kw_tf, kw_ll, kw_kn, kw_lo, kw_pa, kw_av, kw_ca, kw_re, kw_ye, kw_ch, x8_ff, nI_1, xb_e, xup_at, xm_n, xm_at, x00, g_deal_w o tp (wr_nn hra)]
  | succ m ih =>
    intro i n c hi hn
    obtain ⟨n, rfl⟩ : ∃ n', n = n' + 1 := ⟨n - 1, by omega⟩
    have hi8 : i < 8 := by omega
    unfold f_X2_dealByRatio_6
    have e : wr am ra i = if xb am i = 0 then 0 else ra i := rfl
    have e2 : xhw (wr am ra) (m + 1) i c = xhw (wr am ra) m (i + 1) (if wr am ra i ≤ 0 then c ||| 0 else c ||| 1) := rfl
    rw [e2]
    by_cases hb : xb am i = 0
    · rw [if_pos hb] at e
      have e3 := xm_s i (wr am ra) w
      rw [e] at e3
      simp (disch := first | assumption | omega | ((repeat first | apply kS_tp | apply xI_tp | apply xw_tp); exact tp) | (apply xn8 tp; decide) | (apply xnb o tp; omega)) only [↓xl_e, ↓xc_e, ↓xcv_e, ↓xpi_e, ↓reduceIte, ↓rr_3_0, ↓rr_3_1, ↓rr_3_4, ↓rr_3_5, ↓rr_3_6, ↓rr_3_7, ↓kg_6, ↓kg_7, ↓kg_8, ↓kg_9, ↓kg_10, ↓kg_11, ↓kg_12, ↓kg_13, ↓kg_t, ↓xai_w, ↓xst_w, kr_gv, kr_gp, kr_w, kr_p, kr_l, kr_r, kr_cap, kr_du, kr_ra, kr_sh, kr_ow, kr_bo, kr_ma, kr_de, kr_ro, kr_tf, kr_ll, kr_kn, kr_lo, kr_pa, kr_av, kr_ca, kr_re, kr_ye, kr_ch, kw_gv, kw_gp, kw_w, kw_p, kw_l, kw_r, kw_cap, kw_du, kw_ra, kw_sh, kw_ow, kw_bo, kw_ma, kw_de, kw_ro, kw_tf, kw_ll, kw_kn, kw_lo, kw_pa, kw_av, kw_ca, kw_re, kw_ye, kw_ch, x8_ff, nI_1, xb_e, xup_at, xm_n, xm_at, x00, hb, f_X2_dealByRatio_36, e3, ih, e]
    · rw [if_neg hb] at e
      have e3 := xm_s i (wr am ra) w
      rw [e] at e3
      by_cases hr : ra i ≤ 0 <;> simp (disch := first | assumption | omega | ((repeat first | apply kS_tp | apply xI_tp | apply xw_tp); exact tp) | (apply xn8 tp; decide) | (apply xnb o tp; omega)) only [↓xl_e, ↓xc_e, ↓xcv_e, ↓xpi_e, ↓reduceIte, ↓rr_3_0, ↓rr_3_1, ↓rr_3_4, ↓rr_3_5, ↓rr_3_6, ↓rr_3_7, ↓kg_6, ↓kg_7, ↓kg_8, ↓kg_9, ↓kg_10, ↓kg_11, ↓kg_12, ↓kg_13, ↓kg_t, ↓xai_w, ↓xst_w, kr_gv, kr_gp, kr_w, kr_p, kr_l, kr_r, kr_cap, kr_du, kr_ra, kr_sh, kr_ow, kr_bo, kr_ma, kr_de, kr_ro, kr_tf, kr_ll, kr_kn, kr_lo, kr_pa, kr_av, kr_ca, kr_re, kr_ye, kr_ch, kw_gv, kw_gp, kw_w, kw_p, kw_l, kw_r, kw_cap, kw_du, kw_ra, kw_sh, kw_ow, kw_bo, kw_ma, kw_de, kw_ro, kw_tf, kw_ll, kw_kn, kw_lo, kw_pa, kw_av, kw_ca, kw_re, kw_ye, kw_ch, x8_ff, nI_1, xb_e, xup_at, xm_n, xm_at, x00, hb, hr, f_X2_dealByRatio_36, e3, ih, e]
theorem g_ratio {T : xT} {S : xS} {b t : Nat} {gv gp w p l r ro cap du ra sh ow bo ma de : Nat → Int32} {tf ll kn lo pa av ca re ye ch : Int32} {am su : Int32} (o : xbt b t) (tp : xTp T S.2.2) (hra : ∀ k, k < 8 → 0 ≤ (ra k).toInt) : f_X2_dealByRatio T (kS S b t gv gp tf ll w p l r kn lo ro pa av ca re ye ch cap du ra sh ow bo ma de) 3 su (b + 3) am = some (kS S b t gv gp tf ll (wq am ra) (dl su (wq am ra)) l r kn lo ro pa av ca re ye ch cap du ra sh ow bo ma de) := by
  have h : f_X2_dealByRatio_6 T xfu (kS S b t gv gp tf ll (xm 0 (wr am ra) w) p l r kn lo ro pa av ca re ye ch cap du ra sh ow bo ma de) 3 su (b + 3) am 0 (nI 0) = _ := L_ratio o tp hra 8 0 xfu 0 rfl (by decide)
  rw [xm_0] at h
  show f_X2_dealByRatio_6 T xfu (kS S b t gv gp tf ll w p l r kn lo ro pa av ca re ye ch cap du ra sh ow bo ma de) 3 su (b + 3) am 0 (nI 0) = _
  rw [h]
  unfold wq
  by_cases hc : xhw (wr am ra) 8 0 0 = 0
  · rw [if_pos hc, if_pos hc]
  · rw [if_neg hc, if_neg hc]
