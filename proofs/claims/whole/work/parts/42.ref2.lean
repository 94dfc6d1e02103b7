/-! DEALT in the reference -/
theorem L_sumW {T : xT} {S : xS} {b : Nat} {wt pt gq ls sp ro cap du ra sh ow bo ma de u : Nat → Int32} {kn lo pa av ca re ye ch : Int32} (tp : xTp T S.2.2) (hb : S.1 199 1 = nI b) (hb2 : b ≤ 5490) : ∀ (m i n : Nat) (c : Int64), i + m = 8 → m < n → f_X10_sumWeights_4 T n (rS S b wt pt gq ls sp (enc kn lo ro pa av ca re ye ch cap du ra sh ow bo ma de u)) 199 c (nI i) = some (xsmj (fun k => (wt k).toInt64) m i c, (rS S b wt pt gq ls sp (enc kn lo ro pa av ca re ye ch cap du ra sh ow bo ma de u))) := by
  intro m
  induction m with
  | zero =>
    intro i n c hi hn
    obtain ⟨n, rfl⟩ : ∃ n', n = n' + 1 := ⟨n - 1, by omega⟩
    obtain rfl : i = 8 := by omega
    unfold f_X10_sumWeights_4
    rw [if_pos x8_t]
    rfl
  | succ m ih =>
    intro i n c hi hn
    obtain ⟨n, rfl⟩ : ∃ n', n = n' + 1 := ⟨n - 1, by omega⟩
    have hi8 : i < 8 := by omega
    unfold f_X10_sumWeights_4
    simp (disch := first | assumption | omega | ((repeat first | apply rS_tp | apply xI_tp | apply xJ_tp | apply xw_tp); exact tp) | (apply xn8 tp; decide)) only [↓xl_e, ↓xc_e, ↓xcv_e, ↓xpi_e, ↓reduceIte, ↓rr_199_15, ↓rr_199_16, ↓rr_199_17, ↓rr_199_18, ↓rr_199_19, ↓xai_w, ↓xst_w, ↓xaj_w, ↓xsj_w, rr_pt, rr_gq, rr_ls, rr_sp, rw_pt, rw_gq, rw_ls, rw_sp, rj_wt, rk_wt, ↓rget_0, ↓rget_1, ↓rget_2, ↓rget_3, ↓rget_4, ↓rget_308, ↓rget_309, ↓rput_0, ↓rput_1, ↓rput_2, ↓rput_3, ↓rput_4, ↓rput_308, ↓rput_309, ↓rmore_1, ↓rmore_2, ↓rmore_3, rget, rput, rmore, er_pa, er_ye, er_re, er_ca, er_ch, er_kn, er_lo, er_cap, er_du, er_ra, er_sh, er_ow, er_ro, er_av, er_bo, er_ma, er_de, ew_cap, ew_du, ew_ra, ew_sh, ew_ow, ew_ro, ew_bo, ew_ma, ew_de, ew_on, ew_off, x8_ff, nI_1, xb_e, xup_at, xm_n, xm_at, x00, ix_5, ix_13, ix_21, ix_29, ix_37, ix_78, ix_160, ix_208, ix_310, xc8, ih]
    rfl
theorem h_sumW {T : xT} {S : xS} {b : Nat} {wt pt gq ls sp ro cap du ra sh ow bo ma de u : Nat → Int32} {kn lo pa av ca re ye ch : Int32} (tp : xTp T S.2.2) (hb : S.1 199 1 = nI b) (hb2 : b ≤ 5490) : f_X10_sumWeights T (rS S b wt pt gq ls sp (enc kn lo ro pa av ca re ye ch cap du ra sh ow bo ma de u)) 199 = some (dAll wt, (rS S b wt pt gq ls sp (enc kn lo ro pa av ca re ye ch cap du ra sh ow bo ma de u))) := L_sumW tp hb hb2 8 0 xfu 0 rfl (by decide)
theorem xi64_0 (x : Int32) : x.toInt64 = 0 ↔ x = 0 := by
  constructor
  · intro h
    rw [xeq0, ← Int32.toInt_toInt64, h]
    decide
  · intro h
    rw [h]; rfl
theorem dB_z (w : Nat → Int32) : ∀ (m i : Nat) (f : Nat → Int32), dB w m i 0 f = f
  | 0, i, f => rfl
  | m + 1, i, f => by unfold dB; rw [if_pos (by decide)]
theorem L_dealO69 {T : xT} {S : xS} {b : Nat} {wt gq ls sp ro cap du ra sh ow bo ma de u : Nat → Int32} {kn lo pa av ca re ye ch : Int32} (tp : xTp T S.2.2) (hb : S.1 199 1 = nI b) (hb2 : b ≤ 5490) {sm : Int64} (hs : 0 < sm) (hw : ∀ k, k < 8 → 0 ≤ (wt k).toInt) : ∀ (m i n : Nat) (c : Int32) (pt : Nat → Int32), i + m = 8 → m < n → 0 ≤ c.toInt → f_X10_dealOut_69 T n (rS S b wt pt gq ls sp (enc kn lo ro pa av ca re ye ch cap du ra sh ow bo ma de u)) 199 sm c (nI i) = some (rS S b wt (dB wt m i c pt) gq ls sp (enc kn lo ro pa av ca re ye ch cap du ra sh ow bo ma de u)) := by
  intro m
  induction m with
  | zero =>
    intro i n c pt hi hn hc
    obtain ⟨n, rfl⟩ : ∃ n', n = n' + 1 := ⟨n - 1, by omega⟩
    obtain rfl : i = 8 := by omega
    unfold f_X10_dealOut_69
    rw [if_pos x8_t]
    rfl
  | succ m ih =>
    intro i n c pt hi hn hc
    obtain ⟨n, rfl⟩ : ∃ n', n = n' + 1 := ⟨n - 1, by omega⟩
    have hi8 : i < 8 := by omega
    have hs2 : ¬ lg_cmp sm 0 ≤ 0 := fun q => ((xcmp_npos sm).mp q) hs
    have hwi := hw i hi8
    unfold f_X10_dealOut_69
    have hbe : dB wt (m + 1) i c pt = if c ≤ 0 then pt else if wt i ≤ 0 then dB wt m (i + 1) c pt else dB wt m (i + 1) (c + (-1)) (va_up pt i (pt i + 1)) := rfl
    rw [if_neg (x8_f hi8), if_neg hs2, rr_199_15 (S := (rS S b wt pt gq ls sp (enc kn lo ro pa av ca re ye ch cap du ra sh ow bo ma de u))) tp, xaj_w (xn8 tp (by decide)) hi8, rj_wt hi8, hbe]
    by_cases h0 : c = 0
    · subst h0
      rw [if_pos (show (0 : Int32) ≤ 0 by decide)]
      have hr := ih (i + 1) n 0 pt (by omega) (by omega) (by decide)
      rw [dB_z] at hr
      by_cases hz : lg_cmp (wt i).toInt64 0 = 0
      · rw [if_pos hz, xl_e, nI_1, hr]
      · rw [if_neg hz, if_pos rfl, xl_e, nI_1, hr]
    · have hc0 : ¬ c ≤ 0 := by
        rw [xle0]
        rw [xeq0] at h0
        omega
      rw [if_neg hc0]
      by_cases hz : wt i = 0
      · have hz2 : lg_cmp (wt i).toInt64 0 = 0 := (xcmp_z _).mpr ((xi64_0 _).mpr hz)
        rw [if_pos hz2, if_pos (by rw [hz]; decide), xl_e, nI_1, ih (i + 1) n c pt (by omega) (by omega) hc]
      · have hz2 : ¬ lg_cmp (wt i).toInt64 0 = 0 := fun q => hz ((xi64_0 _).mp ((xcmp_z _).mp q))
        have hz3 : ¬ wt i ≤ 0 := by
          rw [xle0]
          rw [xeq0] at hz
          omega
        have hm1 : 0 ≤ (c + (-1)).toInt := by
          have h11 : (-1 : Int32).toInt = -1 := by decide
          have := xhi c
          rw [xeq0] at h0
          rw [xadd (by rw [h11]; omega) (by rw [h11]; omega), h11]; omega
        rw [if_neg hz2, if_neg h0, if_neg hz3]
        simp (disch := first | assumption | omega | ((repeat first | apply rS_tp | apply xI_tp | apply xJ_tp | apply xw_tp); exact tp) | (apply xn8 tp; decide)) only [↓xl_e, ↓xc_e, ↓xcv_e, ↓xpi_e, ↓reduceIte, ↓rr_199_15, ↓rr_199_16, ↓rr_199_17, ↓rr_199_18, ↓rr_199_19, ↓xai_w, ↓xst_w, ↓xaj_w, ↓xsj_w, rr_pt, rr_gq, rr_ls, rr_sp, rw_pt, rw_gq, rw_ls, rw_sp, rj_wt, rk_wt, ↓rget_0, ↓rget_1, ↓rget_2, ↓rget_3, ↓rget_4, ↓rget_308, ↓rget_309, ↓rput_0, ↓rput_1, ↓rput_2, ↓rput_3, ↓rput_4, ↓rput_308, ↓rput_309, ↓rmore_1, ↓rmore_2, ↓rmore_3, rget, rput, rmore, er_pa, er_ye, er_re, er_ca, er_ch, er_kn, er_lo, er_cap, er_du, er_ra, er_sh, er_ow, er_ro, er_av, er_bo, er_ma, er_de, ew_cap, ew_du, ew_ra, ew_sh, ew_ow, ew_ro, ew_bo, ew_ma, ew_de, ew_on, ew_off, x8_ff, nI_1, xb_e, xup_at, xm_n, xm_at, x00, ix_5, ix_13, ix_21, ix_29, ix_37, ix_78, ix_160, ix_208, ix_310, xc8]
        rw [ih (i + 1) n _ _ (by omega) (by omega) hm1]
theorem L_dealO11 {T : xT} {S : xS} {b : Nat} {wt pt gq ls sp ro cap du ra sh ow bo ma de u : Nat → Int32} {kn lo pa av ca re ye ch : Int32} (tp : xTp T S.2.2) (hb : S.1 199 1 = nI b) (hb2 : b ≤ 5490) {nn : Int32} {sm : Int64} (hs : sm ≠ 0) {q : Nat → Int32} (hq : ∀ k, k < 8 → q k = ((nn.toInt64 * (wt k).toInt64) / sm).toInt32) : ∀ (m i n : Nat) (c : Int32), i + m = 8 → m < n → f_X10_dealOut_11 T n (rS S b wt (xm i q pt) gq ls sp (enc kn lo ro pa av ca re ye ch cap du ra sh ow bo ma de u)) 199 nn sm c (nI i) = f_X10_dealOut_69 T xfu (rS S b wt q gq ls sp (enc kn lo ro pa av ca re ye ch cap du ra sh ow bo ma de u)) 199 sm (xsb q m i c) 0 := by
  intro m
  induction m with
  | zero =>
    intro i n c hi hn
    obtain ⟨n, rfl⟩ : ∃ n', n = n' + 1 := ⟨n - 1, by omega⟩
    obtain rfl : i = 8 := by omega
    unfold f_X10_dealOut_11
    have e : xsb q 0 8 c = c := rfl
    rw [if_pos x8_t, rc_pt xm_8, xl_e, e]
  | succ m ih =>
    intro i n c hi hn
    obtain ⟨n, rfl⟩ : ∃ n', n = n' + 1 := ⟨n - 1, by omega⟩
    have hi8 : i < 8 := by omega
    unfold f_X10_dealOut_11
    have hs2 : ¬ lg_cmp sm 0 = 0 := fun h => hs ((xcmp_z _).mp h)
    have hm : xm0 sm = true := by unfold xm0; simpa using hs
    have e := hq i hi8
    have e3 := xm_s i q pt
    have e4 : xsb q (m + 1) i c = xsb q m (i + 1) (c - q i) := rfl
    rw [e4]
    simp (disch := first | assumption | omega | ((repeat first | apply rS_tp | apply xI_tp | apply xJ_tp | apply xw_tp); exact tp) | (apply xn8 tp; decide)) only [↓xl_e, ↓xc_e, ↓xcv_e, ↓xpi_e, ↓reduceIte, ↓rr_199_15, ↓rr_199_16, ↓rr_199_17, ↓rr_199_18, ↓rr_199_19, ↓xai_w, ↓xst_w, ↓xaj_w, ↓xsj_w, rr_pt, rr_gq, rr_ls, rr_sp, rw_pt, rw_gq, rw_ls, rw_sp, rj_wt, rk_wt, ↓rget_0, ↓rget_1, ↓rget_2, ↓rget_3, ↓rget_4, ↓rget_308, ↓rget_309, ↓rput_0, ↓rput_1, ↓rput_2, ↓rput_3, ↓rput_4, ↓rput_308, ↓rput_309, ↓rmore_1, ↓rmore_2, ↓rmore_3, rget, rput, rmore, er_pa, er_ye, er_re, er_ca, er_ch, er_kn, er_lo, er_cap, er_du, er_ra, er_sh, er_ow, er_ro, er_av, er_bo, er_ma, er_de, ew_cap, ew_du, ew_ra, ew_sh, ew_ow, ew_ro, ew_bo, ew_ma, ew_de, ew_on, ew_off, x8_ff, nI_1, xb_e, xup_at, xm_n, xm_at, x00, ix_5, ix_13, ix_21, ix_29, ix_37, ix_78, ix_160, ix_208, ix_310, xc8, hs2, xgd_h hm, ← e, e3, ih]
theorem L_dealO110 {T : xT} {S : xS} {b : Nat} {wt pt gq ls sp ro cap du ra sh ow bo ma de u : Nat → Int32} {kn lo pa av ca re ye ch : Int32} (tp : xTp T S.2.2) (hb : S.1 199 1 = nI b) (hb2 : b ≤ 5490) {nn : Int32} : ∀ (m i n : Nat) (c : Int32), i + m = 8 → m < n → f_X10_dealOut_11 T n (rS S b wt (xm i (fun _ => 0) pt) gq ls sp (enc kn lo ro pa av ca re ye ch cap du ra sh ow bo ma de u)) 199 nn 0 c (nI i) = some (rS S b wt (fun _ => 0) gq ls sp (enc kn lo ro pa av ca re ye ch cap du ra sh ow bo ma de u)) := by
  intro m
  induction m with
  | zero =>
    intro i n c hi hn
    obtain ⟨n, rfl⟩ : ∃ n', n = n' + 1 := ⟨n - 1, by omega⟩
    obtain rfl : i = 8 := by omega
    unfold f_X10_dealOut_11
    rw [if_pos x8_t, rc_pt xm_8, xl_e]
    rfl
  | succ m ih =>
    intro i n c hi hn
    obtain ⟨n, rfl⟩ : ∃ n', n = n' + 1 := ⟨n - 1, by omega⟩
    have hi8 : i < 8 := by omega
    unfold f_X10_dealOut_11
    have e3 : va_up (xm i (fun _ => 0) pt) i 0 = _ := xm_s i (fun _ => 0) pt
    have hz : (lg_cmp (0 : Int64) 0 = 0) = True := by decide
    simp (disch := first | assumption | omega | ((repeat first | apply rS_tp | apply xI_tp | apply xJ_tp | apply xw_tp); exact tp) | (apply xn8 tp; decide)) only [↓xl_e, ↓xc_e, ↓xcv_e, ↓xpi_e, ↓reduceIte, ↓rr_199_15, ↓rr_199_16, ↓rr_199_17, ↓rr_199_18, ↓rr_199_19, ↓xai_w, ↓xst_w, ↓xaj_w, ↓xsj_w, rr_pt, rr_gq, rr_ls, rr_sp, rw_pt, rw_gq, rw_ls, rw_sp, rj_wt, rk_wt, ↓rget_0, ↓rget_1, ↓rget_2, ↓rget_3, ↓rget_4, ↓rget_308, ↓rget_309, ↓rput_0, ↓rput_1, ↓rput_2, ↓rput_3, ↓rput_4, ↓rput_308, ↓rput_309, ↓rmore_1, ↓rmore_2, ↓rmore_3, rget, rput, rmore, er_pa, er_ye, er_re, er_ca, er_ch, er_kn, er_lo, er_cap, er_du, er_ra, er_sh, er_ow, er_ro, er_av, er_bo, er_ma, er_de, ew_cap, ew_du, ew_ra, ew_sh, ew_ow, ew_ro, ew_bo, ew_ma, ew_de, ew_on, ew_off, x8_ff, nI_1, xb_e, xup_at, xm_n, xm_at, x00, ix_5, ix_13, ix_21, ix_29, ix_37, ix_78, ix_160, ix_208, ix_310, xc8, hz, e3, ih]
theorem h_deal {T : xT} {S : xS} {b : Nat} {wt pt gq ls sp ro cap du ra sh ow bo ma de u : Nat → Int32} {kn lo pa av ca re ye ch : Int32} (tp : xTp T S.2.2) (hb : S.1 199 1 = nI b) (hb2 : b ≤ 5490) {nn : Int32} (hw : ∀ k, k < 8 → 0 ≤ (wt k).toInt) (hn : 0 ≤ nn.toInt) : f_X10_dealOut T (rS S b wt pt gq ls sp (enc kn lo ro pa av ca re ye ch cap du ra sh ow bo ma de u)) 199 nn = some (rS S b wt (dl nn wt) gq ls sp (enc kn lo ro pa av ca re ye ch cap du ra sh ow bo ma de u)) := by
  unfold f_X10_dealOut
  rw [h_sumW tp hb hb2, xc_e, xl_e, xl_e, xl_e]
  have hA := dAll_i hw
  have hA0 : 0 ≤ (dAll wt).toInt := by
    rw [hA]; exact xS8_nn _ 8 0 (fun k _ h => hw k (by omega))
  by_cases h0 : dAll wt = 0
  · have e : dl nn wt = fun _ => 0 := by
      funext k
      exact congrFun (if_neg (fun q => by rw [h0] at q; exact absurd q.2 (by decide))) k
    have h : f_X10_dealOut_11 T xfu (rS S b wt (xm 0 (fun _ => 0) pt) gq ls sp (enc kn lo ro pa av ca re ye ch cap du ra sh ow bo ma de u)) 199 nn 0 nn (nI 0) = _ := L_dealO110 tp hb hb2 8 0 xfu nn rfl (by decide)
    rw [xm_0] at h
    rw [e, h0]
    exact h
  · have hA1 : 0 < (dAll wt).toInt := by
      rcases Int.lt_or_eq_of_le hA0 with h | h
      · exact h
      · exact absurd (Int64.toInt_inj.mp (h.symm.trans (by decide))) h0
    have hpos : 0 < dAll wt := Int64.lt_iff_toInt_lt.mpr (by simpa using hA1)
    have h : f_X10_dealOut_11 T xfu (rS S b wt (xm 0 (dQ nn wt) pt) gq ls sp (enc kn lo ro pa av ca re ye ch cap du ra sh ow bo ma de u)) 199 nn (dAll wt) nn (nI 0) = _ := L_dealO11 tp hb hb2 h0 (q := dQ nn wt) (fun k hk => rfl) 8 0 xfu nn rfl (by decide)
    rw [xm_0] at h
    by_cases hz : nn.toInt = 0
    · have hz' : nn = 0 := (xeq0 nn).mpr hz
      have hq : ∀ k, k < 8 → dQ nn wt k = 0 := fun k hk => by
        rw [xeq0, dQ_i hw hn hA1 hk, hz]; simp
      have hL : xsb (dQ nn wt) 8 0 nn = 0 := by
        rw [xsb_cong (dQ nn wt) (fun _ => 0) 8 0 nn (fun k _ hk => hq k (by omega)), hz']
        decide
      have h2 := L_dealO69 (T := T) (S := S) (b := b) (wt := wt) (pt := dQ nn wt) (gq := gq) (ls := ls) (sp := sp) (kn := kn) (lo := lo) (ro := ro) (pa := pa) (av := av) (ca := ca) (re := re) (ye := ye) (ch := ch) (cap := cap) (du := du) (ra := ra) (sh := sh) (ow := ow) (bo := bo) (ma := ma) (de := de) (u := u) tp hb hb2 hpos hw 8 0 xfu 0 rfl (by decide) (by decide)
      rw [dB_z] at h2
      rw [hL] at h
      rw [dl_np (by rw [hz']; decide)]
      refine (h.trans h2).trans (congrArg some (rc_pt hq))
    · have hn1 : 0 < nn.toInt := by omega
      have hd := dl_all hw hn1 (by rw [← hA]; exact hA1)
      have h2 := L_dealO69 (T := T) (S := S) (b := b) (wt := wt) (pt := dQ nn wt) (gq := gq) (ls := ls) (sp := sp) (kn := kn) (lo := lo) (ro := ro) (pa := pa) (av := av) (ca := ca) (re := re) (ye := ye) (ch := ch) (cap := cap) (du := du) (ra := ra) (sh := sh) (ow := ow) (bo := bo) (ma := ma) (de := de) (u := u) tp hb hb2 hpos hw 8 0 xfu (dL nn wt) rfl (by decide) hd.2.1
      have e : dl nn wt = dB wt 8 0 (dL nn wt) (dQ nn wt) := if_pos hd.1
      rw [e]
      exact h.trans h2
/-! weights in the reference -/
theorem xhw_or (w : Nat → Int32) : ∀ (m i : Nat) (c : Int32), (c = 0 ∨ c = 1) → (xhw w m i c = 0 ↔ c = 0 ∧ ∀ k, i ≤ k → k < i + m → w k ≤ 0)
  | 0, i, c, h => by
    show c = 0 ↔ _
    exact ⟨fun e => ⟨e, fun k h1 h2 => by omega⟩, fun e => e.1⟩
  | m + 1, i, c, h => by
    show xhw w m (i + 1) (if w i ≤ 0 then c ||| 0 else c ||| 1) = 0 ↔ _
    by_cases hw : w i ≤ 0
    · have e : c ||| 0 = c := by rcases h with rfl | rfl <;> decide
      rw [if_pos hw, e, xhw_or w m (i + 1) c h]
      constructor
      · rintro ⟨h1, h2⟩
        refine ⟨h1, fun k h3 h4 => ?_⟩
        by_cases hk : k = i
        · rw [hk]; exact hw
        · exact h2 k (by omega) (by omega)
      · rintro ⟨h1, h2⟩
        exact ⟨h1, fun k h3 h4 => h2 k (by omega) (by omega)⟩
    · have e : c ||| 1 = 1 := by rcases h with rfl | rfl <;> decide
      rw [if_neg hw, e, xhw_or w m (i + 1) 1 (Or.inr rfl)]
      constructor
      · rintro ⟨h1, _⟩
        exact absurd h1 (by decide)
      · rintro ⟨_, h2⟩
        exact absurd (h2 i (Nat.le_refl _) (by omega)) hw
theorem dAll_0 {w : Nat → Int32} (hw : ∀ k, k < 8 → 0 ≤ (w k).toInt) : dAll w = 0 ↔ xhw w 8 0 0 = 0 := by
  rw [xhw_or w 8 0 0 (Or.inl rfl)]
  have hA := dAll_i hw
  constructor
  · intro h
    refine ⟨rfl, fun k _ hk => ?_⟩
    rw [h] at hA
    have h1 := xS8_get (fun k => (w k).toInt) 8 0 k (by omega) (by omega) (fun j _ hj => hw j (by omega))
    rw [← hA] at h1
    rw [xle0]
    have : (0 : Int64).toInt = 0 := by decide
    rw [this] at h1
    exact h1
  · intro h
    have h1 : xS8 (fun k => (w k).toInt) 8 0 = xS8 (fun _ => 0) 8 0 := xS8_cong _ _ 8 0 (fun k _ hk => by
      have := (xle0 _).mp (h.2 k (by omega) hk)
      have := hw k (by omega)
      show (w k).toInt = 0
      omega)
    apply Int64.toInt_inj.mp
    rw [hA, h1]
    decide
theorem xb_mul (am : Int32) (ra : Nat → Int32) (k : Nat) : xb am k * ra k = wr am ra k := by
  unfold wr
  rcases xb_01 am k with h | h <;> rw [h]
  · rw [if_pos rfl]; exact Int32.zero_mul
  · rw [if_neg (by decide)]; exact Int32.one_mul _
theorem L_alike {T : xT} {S : xS} {b : Nat} {wt pt gq ls sp ro cap du ra sh ow bo ma de u : Nat → Int32} {kn lo pa av ca re ye ch : Int32} (tp : xTp T S.2.2) (hb : S.1 199 1 = nI b) (hb2 : b ≤ 5490) {am : Int32} : ∀ (m i n : Nat), i + m = 8 → m < n → f_X10_weighAlike_11 T n (rS S b (xm i (xb am) wt) pt gq ls sp (enc kn lo ro pa av ca re ye ch cap du ra sh ow bo ma de u)) 199 am (nI i) = some (rS S b (xb am) pt gq ls sp (enc kn lo ro pa av ca re ye ch cap du ra sh ow bo ma de u)) := by
  intro m
  induction m with
  | zero =>
    intro i n hi hn
    obtain ⟨n, rfl⟩ : ∃ n', n = n' + 1 := ⟨n - 1, by omega⟩
    obtain rfl : i = 8 := by omega
    unfold f_X10_weighAlike_11
    rw [if_pos x8_t, rc_wt xm_8]
  | succ m ih =>
    intro i n hi hn
    obtain ⟨n, rfl⟩ : ∃ n', n = n' + 1 := ⟨n - 1, by omega⟩
    have hi8 : i < 8 := by omega
    unfold f_X10_weighAlike_11
    simp (disch := first | assumption | omega | ((repeat first | apply rS_tp | apply xI_tp | apply xJ_tp | apply xw_tp); exact tp) | (apply xn8 tp; decide)) only [↓xl_e, ↓xc_e, ↓xcv_e, ↓xpi_e, ↓reduceIte, ↓rr_199_15, ↓rr_199_16, ↓rr_199_17, ↓rr_199_18, ↓rr_199_19, ↓xai_w, ↓xst_w, ↓xaj_w, ↓xsj_w, rr_pt, rr_gq, rr_ls, rr_sp, rw_pt, rw_gq, rw_ls, rw_sp, rj_wt, rk_wt, ↓rget_0, ↓rget_1, ↓rget_2, ↓rget_3, ↓rget_4, ↓rget_308, ↓rget_309, ↓rput_0, ↓rput_1, ↓rput_2, ↓rput_3, ↓rput_4, ↓rput_308, ↓rput_309, ↓rmore_1, ↓rmore_2, ↓rmore_3, rget, rput, rmore, er_pa, er_ye, er_re, er_ca, er_ch, er_kn, er_lo, er_cap, er_du, er_ra, er_sh, er_ow, er_ro, er_av, er_bo, er_ma, er_de, ew_cap, ew_du, ew_ra, ew_sh, ew_ow, ew_ro, ew_bo, ew_ma, ew_de, ew_on, ew_off, x8_ff, nI_1, xb_e, xup_at, xm_n, xm_at, x00, ix_5, ix_13, ix_21, ix_29, ix_37, ix_78, ix_160, ix_208, ix_310, xc8, xm_s, ih]
theorem h_alike {T : xT} {S : xS} {b : Nat} {wt pt gq ls sp ro cap du ra sh ow bo ma de u : Nat → Int32} {kn lo pa av ca re ye ch : Int32} (tp : xTp T S.2.2) (hb : S.1 199 1 = nI b) (hb2 : b ≤ 5490) {am : Int32} (hw : ∀ k, k < 8 → 0 ≤ (wt k).toInt) : f_X10_weighAlike T (rS S b wt pt gq ls sp (enc kn lo ro pa av ca re ye ch cap du ra sh ow bo ma de u)) 199 am = some (rS S b (if xhw wt 8 0 0 = 0 then xb am else wt) pt gq ls sp (enc kn lo ro pa av ca re ye ch cap du ra sh ow bo ma de u)) := by
  unfold f_X10_weighAlike
  rw [h_sumW tp hb hb2, xc_e]
  by_cases h : dAll wt = 0
  · rw [if_pos ((xcmp_z _).mpr h), if_pos ((dAll_0 hw).mp h), xl_e]
    have h2 : f_X10_weighAlike_11 T xfu (rS S b (xm 0 (xb am) wt) pt gq ls sp (enc kn lo ro pa av ca re ye ch cap du ra sh ow bo ma de u)) 199 am (nI 0) = _ := L_alike tp hb hb2 8 0 xfu rfl (by decide)
    rw [xm_0] at h2
    exact h2
  · rw [if_neg (fun q => h ((xcmp_z _).mp q)), if_neg (fun q => h ((dAll_0 hw).mpr q))]
theorem L_wratio {T : xT} {S : xS} {b : Nat} {wt pt gq ls sp ro cap du ra sh ow bo ma de u : Nat → Int32} {kn lo pa av ca re ye ch : Int32} (tp : xTp T S.2.2) (hb : S.1 199 1 = nI b) (hb2 : b ≤ 5490) {am : Int32} (hra : ∀ k, k < 8 → 0 ≤ (ra k).toInt) : ∀ (m i n : Nat), i + m = 8 → m < n → f_X10_weighRatio_2 T n (rS S b (xm i (wr am ra) wt) pt gq ls sp (enc kn lo ro pa av ca re ye ch cap du ra sh ow bo ma de u)) 199 am (nI i) = some (rS S b (wq am ra) pt gq ls sp (enc kn lo ro pa av ca re ye ch cap du ra sh ow bo ma de u)) := by
  intro m
  induction m with
  | zero =>
    intro i n hi hn
    obtain ⟨n, rfl⟩ : ∃ n', n = n' + 1 := ⟨n - 1, by omega⟩
    obtain rfl : i = 8 := by omega
    unfold f_X10_weighRatio_2
    rw [if_pos x8_t, rc_wt xm_8, h_alike tp hb hb2 (wr_nn hra), xcv_e]
    rfl
  | succ m ih =>
    intro i n hi hn
    obtain ⟨n, rfl⟩ : ∃ n', n = n' + 1 := ⟨n - 1, by omega⟩
    have hi8 : i < 8 := by omega
    unfold f_X10_weighRatio_2
    simp (disch := first | assumption | omega | ((repeat first | apply rS_tp | apply xI_tp | apply xJ_tp | apply xw_tp); exact tp) | (apply xn8 tp; decide)) only [↓xl_e, ↓xc_e, ↓xcv_e, ↓xpi_e, ↓reduceIte, ↓rr_199_15, ↓rr_199_16, ↓rr_199_17, ↓rr_199_18, ↓rr_199_19, ↓xai_w, ↓xst_w, ↓xaj_w, ↓xsj_w, rr_pt, rr_gq, rr_ls, rr_sp, rw_pt, rw_gq, rw_ls, rw_sp, rj_wt, rk_wt, ↓rget_0, ↓rget_1, ↓rget_2, ↓rget_3, ↓rget_4, ↓rget_308, ↓rget_309, ↓rput_0, ↓rput_1, ↓rput_2, ↓rput_3, ↓rput_4, ↓rput_308, ↓rput_309, ↓rmore_1, ↓rmore_2, ↓rmore_3, rget, rput, rmore, er_pa, er_ye, er_re, er_ca, er_ch, er_kn, er_lo, er_cap, er_du, er_ra, er_sh, er_ow, er_ro, er_av, er_bo, er_ma, er_de, ew_cap, ew_du, ew_ra, ew_sh, ew_ow, ew_ro, ew_bo, ew_ma, ew_de, ew_on, ew_off, x8_ff, nI_1, xb_e, xup_at, xm_n, xm_at, x00, ix_5, ix_13, ix_21, ix_29, ix_37, ix_78, ix_160, ix_208, ix_310, xc8, xb_mul, xm_s, ih]
theorem h_wratio {T : xT} {S : xS} {b : Nat} {wt pt gq ls sp ro cap du ra sh ow bo ma de u : Nat → Int32} {kn lo pa av ca re ye ch : Int32} (tp : xTp T S.2.2) (hb : S.1 199 1 = nI b) (hb2 : b ≤ 5490) {am : Int32} (hra : ∀ k, k < 8 → 0 ≤ (ra k).toInt) : f_X10_weighRatio T (rS S b wt pt gq ls sp (enc kn lo ro pa av ca re ye ch cap du ra sh ow bo ma de u)) 199 am = some (rS S b (wq am ra) pt gq ls sp (enc kn lo ro pa av ca re ye ch cap du ra sh ow bo ma de u)) := by
  have h : f_X10_weighRatio_2 T xfu (rS S b (xm 0 (wr am ra) wt) pt gq ls sp (enc kn lo ro pa av ca re ye ch cap du ra sh ow bo ma de u)) 199 am (nI 0) = _ := L_wratio tp hb hb2 hra 8 0 xfu rfl (by decide)
  rw [xm_0] at h
  exact h
