/-! specials kept -/
theorem ra_209 {S : xS} {b : Nat} {wt pt gq ls sp r : Nat → Int32} : (rS S b wt pt gq ls sp r).1 209 = S.1 209 := rfl
theorem ra_210 {S : xS} {b : Nat} {wt pt gq ls sp r : Nat → Int32} : (rS S b wt pt gq ls sp r).1 210 = S.1 210 := rfl
theorem L_s67 {T : xT} {ns nc : Nat} {S : xS} {b : Nat} {wt pt gq ls sp ro cap du ra sh ow bo ma de : Nat → Int32} {kn lo pa av ca re ye ch : Int32} (tp : xTp T S.2.2) (hb : S.1 199 1 = nI b) (hb2 : b ≤ 5490) (h22 : S.1 199 22 = nI ns) (h23 : S.1 199 23 = nI nc) (hnc : nc ≤ 100) : ∀ (m k n : Nat) (u : Nat → Int32), k + m = nc → m < n → f_X10_specials_67 T n (rS S b wt pt gq ls sp (enc kn lo ro pa av ca re ye ch cap du ra sh ow bo ma de u)) 199 (nI k) = some (nI ns, (rS S b wt pt gq ls sp (enc kn lo ro pa av ca re ye ch cap du ra sh ow bo ma de (fun j => if 208 + k ≤ j ∧ j < 208 + nc then S.1 210 (j - 208) else u j)))) := by
  intro m
  induction m with
  | zero =>
    intro k n u hk hn
    obtain ⟨n, rfl⟩ : ∃ n', n = n' + 1 := ⟨n - 1, by omega⟩
    obtain rfl : k = nc := by omega
    unfold f_X10_specials_67
    rw [ra_199, h23, if_pos (Int32.le_refl _), h22]
    have eu : (fun j => if 208 + k ≤ j ∧ j < 208 + k then S.1 210 (j - 208) else u j) = u := funext fun j => if_neg (by omega)
    rw [eu]
  | succ m ih =>
    intro k n u hk hn
    obtain ⟨n, rfl⟩ : ∃ n', n = n' + 1 := ⟨n - 1, by omega⟩
    unfold f_X10_specials_67
    rw [ra_199, h23, if_neg (show ¬ nI nc ≤ nI k by rw [xle, nI_toInt (by omega), nI_toInt (by omega)]; omega), rr_199_21 (S := (rS S b wt pt gq ls sp (enc kn lo ro pa av ca re ye ch cap du ra sh ow bo ma de u))) tp, xai_n (S := (rS S b wt pt gq ls sp (enc kn lo ro pa av ca re ye ch cap du ra sh ow bo ma de u))) (xTp_n tp 100 (by decide) rfl) (by omega) (by decide), ra_210, ix_208, h_putu tp hb hb2 (by omega), xcv_e, xl_e, nI_1, ih (k + 1) n _ (by omega) (by omega)]
    have eu : (fun j => if 208 + (k + 1) ≤ j ∧ j < 208 + nc then S.1 210 (j - 208) else va_up u (208 + k) (S.1 210 k) j) = fun j => if 208 + k ≤ j ∧ j < 208 + nc then S.1 210 (j - 208) else u j := funext fun j => by
      by_cases z : j = 208 + k
      · subst z
        show (if _ then _ else va_up u (208 + k) (S.1 210 k) (208 + k)) = _
        rw [if_neg (by omega), xup_at, if_pos (by omega), show 208 + k - 208 = k by omega]
      · show (if _ then _ else va_up u (208 + k) (S.1 210 k) j) = _
        rw [va_up_ne _ _ z]
        by_cases y : 208 + k ≤ j ∧ j < 208 + nc
        · rw [if_pos (by omega), if_pos y]
        · rw [if_neg (by omega), if_neg y]
    rw [eu]
theorem L_s33 {T : xT} {ns nc : Nat} {S : xS} {b : Nat} {wt pt gq ls sp ro cap du ra sh ow bo ma de : Nat → Int32} {kn lo pa av ca re ye ch : Int32} (tp : xTp T S.2.2) (hb : S.1 199 1 = nI b) (hb2 : b ≤ 5490) (h22 : S.1 199 22 = nI ns) (h23 : S.1 199 23 = nI nc) (hns : ns ≤ 8) (hnc : nc ≤ 100) : ∀ (m k n : Nat) (u : Nat → Int32), k + m = 6 * ns → m < n → f_X10_specials_33 T n (rS S b wt pt gq ls sp (enc kn lo ro pa av ca re ye ch cap du ra sh ow bo ma de u)) 199 (nI k) = some (nI ns, (rS S b wt pt gq ls sp (enc kn lo ro pa av ca re ye ch cap du ra sh ow bo ma de (fun j => if 208 + 0 ≤ j ∧ j < 208 + nc then S.1 210 (j - 208) else if 160 + k ≤ j ∧ j < 160 + 6 * ns then S.1 209 (j - 160) else u j)))) := by
  have e6 : (6 : Int32) * nI ns = nI (6 * ns) := pk_mul 6 _
  intro m
  induction m with
  | zero =>
    intro k n u hk hn
    obtain ⟨n, rfl⟩ : ∃ n', n = n' + 1 := ⟨n - 1, by omega⟩
    obtain rfl : k = 6 * ns := by omega
    unfold f_X10_specials_33
    rw [ra_199, h22, e6, if_pos (Int32.le_refl _), xl_e]
    have eu : (fun j => if 208 + 0 ≤ j ∧ j < 208 + nc then S.1 210 (j - 208) else if 160 + 6 * ns ≤ j ∧ j < 160 + 6 * ns then S.1 209 (j - 160) else u j) = fun j => if 208 + 0 ≤ j ∧ j < 208 + nc then S.1 210 (j - 208) else u j := funext fun j => by
      by_cases z : 208 + 0 ≤ j ∧ j < 208 + nc
      · rw [if_pos z, if_pos z]
      · rw [if_neg z, if_neg z, if_neg (by omega)]
    rw [eu]
    exact L_s67 tp hb hb2 h22 h23 hnc nc 0 xfu u (by omega) (by show nc < 1000; omega)
  | succ m ih =>
    intro k n u hk hn
    obtain ⟨n, rfl⟩ : ∃ n', n = n' + 1 := ⟨n - 1, by omega⟩
    unfold f_X10_specials_33
    rw [ra_199, h22, e6, if_neg (show ¬ nI (6 * ns) ≤ nI k by rw [xle, nI_toInt (by omega), nI_toInt (by omega)]; omega), rr_199_20 (S := (rS S b wt pt gq ls sp (enc kn lo ro pa av ca re ye ch cap du ra sh ow bo ma de u))) tp, xai_n (S := (rS S b wt pt gq ls sp (enc kn lo ro pa av ca re ye ch cap du ra sh ow bo ma de u))) (xTp_n tp 48 (by decide) rfl) (by omega) (by decide), ra_209, ix_160, h_putu tp hb hb2 (by omega), xcv_e, xl_e, nI_1, ih (k + 1) n _ (by omega) (by omega)]
    have eu : (fun j => if 208 + 0 ≤ j ∧ j < 208 + nc then S.1 210 (j - 208) else if 160 + (k + 1) ≤ j ∧ j < 160 + 6 * ns then S.1 209 (j - 160) else va_up u (160 + k) (S.1 209 k) j) = fun j => if 208 + 0 ≤ j ∧ j < 208 + nc then S.1 210 (j - 208) else if 160 + k ≤ j ∧ j < 160 + 6 * ns then S.1 209 (j - 160) else u j := funext fun j => by
      by_cases w : 208 + 0 ≤ j ∧ j < 208 + nc
      · rw [if_pos w, if_pos w]
      · rw [if_neg w, if_neg w]
        by_cases z : j = 160 + k
        · subst z
          rw [if_neg (by omega), xup_at, if_pos (by omega), show 160 + k - 160 = k by omega]
        · rw [va_up_ne _ _ z]
          by_cases y : 160 + k ≤ j ∧ j < 160 + 6 * ns
          · rw [if_pos (by omega), if_pos y]
          · rw [if_neg (by omega), if_neg y]
    rw [eu]
theorem h_spec33 {T : xT} {ns nc : Nat} {S : xS} {b : Nat} {wt pt gq ls sp ro cap du ra sh ow bo ma de u : Nat → Int32} {kn lo pa av ca re ye ch : Int32} (tp : xTp T S.2.2) (hb : S.1 199 1 = nI b) (hb2 : b ≤ 5490) (h22 : S.1 199 22 = nI ns) (h23 : S.1 199 23 = nI nc) (hns : ns ≤ 8) (hnc : nc ≤ 100) : xcv (f_X10_put T (rS S b wt pt gq ls sp (enc kn lo ro pa av ca re ye ch cap du ra sh ow bo ma de u)) 199 (159 : Int32) (nI ns)) (fun S6 => xl (0 : Int32) (fun v7 => f_X10_specials_33 T xfu S6 199 v7)) = some (nI ns, (rS S b wt pt gq ls sp (enc kn lo ro pa av ca re ye ch cap du ra sh ow bo ma de (uSp u ns nc (S.1 209) (S.1 210))))) := by
  rw [show (159 : Int32) = nI 159 from rfl, h_putu tp hb hb2 (by omega), xcv_e, xl_e]
  exact L_s33 tp hb hb2 h22 h23 hns hnc (6 * ns) 0 xfu _ (by omega) (by show 6 * ns < 1000; omega)
theorem r_specs {T : xT} {S : xS} {M : zM} {ns nc : Nat} (c0 : M.d ≤ 12) (tp : xTp T S.2.2) (r : zR S M) (h22 : S.1 199 22 = nI ns) (h23 : S.1 199 23 = nI nc) (hns : ns ≤ 8) (hnc : nc ≤ 100) (n : Nat) : ∃ S', xcv (f_X10_deed T S 199) (fun S5 => xcv (f_X10_put T S5 199 ((159 : Int32)) ((S5.1 199 22))) (fun S6 => xl ((0 : Int32)) (fun v7 => f_X10_specials_33 T xfu S6 199 v7))) = some (nI ns, S') ∧ zR S' (M.rm.sN (M.now.1, n, M.now.2.2.1, uSp M.now.2.2.2 ns nc (S.1 209) (S.1 210))) ∧ S'.2.2 = S.2.2 ∧ ∀ a, a < 199 ∨ 214 < a → S'.1 a = S.1 a := by
  obtain ⟨Q1, wt, y0, r1, tr1, hs, y1, y2, y3⟩ := q_rem c0 r tp
  have k22 : Q1.1 199 22 = nI ns := by rw [y3 22 (by decide)]; exact h22
  have k23 : Q1.1 199 23 = nI nc := by rw [y3 23 (by decide)]; exact h23
  have e4 : xcv (f_X10_put T (rF Q1 (366 * 0) wt M.now.2.2.1 M.now.2.2.2) 199 (159 : Int32) (nI ns)) (fun S6 => xl (0 : Int32) (fun v7 => f_X10_specials_33 T xfu S6 199 v7)) = _ := h_spec33 tr1 (q_hb r1) (by decide) k22 k23 hns hnc
  rw [hs, y2 209 (by decide) (by decide), y2 210 (by decide) (by decide)] at e4
  refine ⟨_, ?_, r_setU (wt := wt) (pt := Q1.1 205) (gq := Q1.1 206) (ls := Q1.1 207) (sp := Q1.1 208) (M := M.rm) r1, ?_, fun a q => ?_⟩
  · rw [y0, xcv_e, k22]
    exact e4
  · show Q1.2.2 = _
    rw [y1]
  · show (rS Q1 (366 * 0) wt (Q1.1 205) (Q1.1 206) (Q1.1 207) (Q1.1 208) _).1 a = _
    rw [ra_out (by omega), y2 a (by omega) (by omega)]
theorem spB_self (S : xS) (sa : Nat) : spB S sa (fun i => S.1 (sa + i)) = S := by
  unfold spB
  refine Prod.ext (funext fun a => ?_) rfl
  show (if sa ≤ a ∧ a ≤ sa + 9 then S.1 (sa + (a - sa)) else S.1 a) = S.1 a
  by_cases h : sa ≤ a ∧ a ≤ sa + 9
  · rw [if_pos h, show sa + (a - sa) = a by omega]
  · rw [if_neg h]
theorem rB_self (S : xS) : rB S (S.1 209) (S.1 210) = S := by
  unfold rB
  rw [xw_self, xw_self]
theorem o_specials : zOp 24 := by
  intro i T S a hi h
  have h' := h
  obtain ⟨M, B, c, r, g, b0, b1⟩ := h'
  have tp := c.1
  have hN := tp.1.1
  show ∃ (T2 : xT) (S2 : xS), xcI (f_X9_specials T S 0) (fun r1 T1 S1 => xgd (xlk T1 0 9) (xgd (xlk T1 199 10) (xc (f_X10_specials T1 S1 199) (fun r2 S2 => some (decide (r1 = r2), T1, S2))))) = some (true, T2, S2) ∧ zI (i + 1) T2 S2
  have g8 : tLe T (xTn T 4 0) := ⟨by show T.2.2 ≤ T.2.2 + 1; omega, fun a ha => ⟨va_up_ne _ _ (by omega), va_up_ne _ _ (by omega)⟩⟩
  have s8 : sLe T S (xSn S T.2.2) := fun a ha => ⟨va_up_ne _ _ (by omega), va_up_ne _ _ (by omega), va_up_ne _ _ (by omega)⟩
  have tp8 : xTp (xTn T 4 0) (xSn S T.2.2).2.2 := xTp_g g8 s8 tp
  obtain ⟨T4, S5, e1, n1, t1, s1, si, hz⟩ := i_specs (T := xTn T 4 0) (S := xSn S T.2.2) (b := T.2.2) rfl (xup_at _ _ _) hN (xup_at _ _ _)
  have gT : tLe T T4 := ⟨by omega, fun a ha => by rw [(t1 a (by omega)).1, (t1 a (by omega)).2]; exact g8.2 a ha⟩
  have sT : sLe T S S5 := fun a ha => by
    rw [(s1 a ha).1, (s1 a ha).2.1, (s1 a ha).2.2]; exact s8 a ha
  have c5 := zC_g gT sT c
  have tp5 := c5.1
  have k4 : T4.1 T.2.2 = 4 := si.2.1.2
  have rd := c_readSpecials (X := fun i => S5.1 (T.2.2 + i)) (C := S.1 210) (N := S.1 209) (g := S5.1 1) (cTb_of c5) si c5.2.2.2.2.1.2.1 (by show S5.1 (T.2.2 + 0) 1 = 0; rw [hz 0 (by omega)]) (by show S5.1 (T.2.2 + 0) 0 = 0; rw [hz 0 (by omega)])
  rw [spB_self, xw_self] at rd
  have v0 : tV (fun i => S5.1 (T.2.2 + i)) := fun t ht => by
    have ht' : S5.1 (T.2.2 + 7) t = 6 ∨ S5.1 (T.2.2 + 7) t = 7 := ht
    rw [hz 7 (by omega)] at ht'
    rcases ht' with w | w
    · exact absurd (show (0 : Int32) = 6 from w) (by decide)
    · exact absurd (show (0 : Int32) = 7 from w) (by decide)
  have pk := pSp_ok (tb := M.tb) (L := M.L) 8 0 0 (((fun i => S5.1 (T.2.2 + i)), 0, 0, S.1 210), S.1 209) (Nat.zero_le _) rfl (Nat.le_refl 0) (fun q k G hq ok => pGv_q hq ok)
  have pk2 := pSp_ok2 (tb := M.tb) (L := M.L) 8 0 0 (((fun i => S5.1 (T.2.2 + i)), 0, 0, S.1 210), S.1 209) (Nat.zero_le _) rfl (Nat.le_refl 0) v0
  have rdr := fun Sr (r' : zR Sr M) (tr : xTp T4 Sr.2.2) => r_readSpecials (T := T4) (X := fun i => S5.1 (T.2.2 + i)) (N := Sr.1 209) (C := Sr.1 210) (g := Sr.1 199) (j := Sr.2.1 199) (rTb_of c5 r' tr) r'.2.2.2.2.1.1
  have mid : ∀ (X' : Nat → Nat → Int32) (g' : Nat → Int32), (∀ x, x ≠ 1 → x < T.2.2 → (xw (spB S5 T.2.2 X') 1 g').1 x = S.1 x) ∧ (xw (spB S5 T.2.2 X') 1 g').1 1 = g' ∧ (xw (spB S5 T.2.2 X') 1 g').2 = S5.2 ∧ ∀ i, i ≤ 9 → (xw (spB S5 T.2.2 X') 1 g').1 (T.2.2 + i) = X' i := fun X' g' => ⟨fun x h1 h2 => by
    rw [xw_ne _ _ h1, spB_out (by omega)]
    exact (sT x h2).1, xw_1 _ _ _, rfl, fun i hi => by
    rw [xw_ne _ _ (by omega)]
    exact spB_at hi⟩
  have gen : ∀ (S7 : xS) (g' : Nat → Int32), (∀ x, x ≠ 1 → x < T.2.2 → S7.1 x = S.1 x) → S7.1 1 = g' → S7.2 = S5.2 → f_X9_tapeWasRead T4 S7 0 = some (xI (xI S7 0 11 (S7.1 1 2)) 1 1 0) ∧ zC T4 (xI (xI S7 0 11 (S7.1 1 2)) 1 1 0) (M.rd (g' 2)) ∧ zG T4 (xI (xI S7 0 11 (S7.1 1 2)) 1 1 0) B (M.rd (g' 2)) ∧ zR (xI (xI S7 0 11 (S7.1 1 2)) 1 1 0) M ∧ (∀ x, x ≠ 0 → x ≠ 1 → (xI (xI S7 0 11 (S7.1 1 2)) 1 1 0).1 x = S7.1 x) ∧ (xI (xI S7 0 11 (S7.1 1 2)) 1 1 0).2 = S5.2 := fun S7 g' q7 q71 q7j => by
    have tp7 : xTp T4 S7.2.2 := by rw [q7j]; exact tp5
    have c0 : zC T (xI (xI (xw S 1 g') 0 11 (g' 2)) 1 1 0) (M.rd (g' 2)) := zC_rd c rfl (fun a q => by rw [xI_ne (by omega), xI_ne (by omega), xw_ne _ _ (by omega)]) (fun k hk => by rw [xI_ne (by decide), xI_at hk, xw_ne _ _ (by decide)]) (by rw [xI_ne (by decide), xI_1, xup_at]) (by rw [xI_1, xup_at])
    have g0 : zG T (xI (xI (xw S 1 g') 0 11 (g' 2)) 1 1 0) B (M.rd (g' 2)) := zG_f (S := S) (M := M) (fun a q => by rw [xI_ne (by unfold zTS at q; omega), xI_ne (by unfold zTS at q; omega), xw_ne _ _ (by unfold zTS at q; omega)]) (fun a _ => rfl) g
    have s9 : sLe T (xI (xI (xw S 1 g') 0 11 (g' 2)) 1 1 0) (xI (xI S7 0 11 (S7.1 1 2)) 1 1 0) := fun x hx => ⟨by
      by_cases x1 : x = 1
      · subst x1
        rw [xI_1, xI_1, xI_ne (by decide), xI_ne (by decide), q71, xw_1]
      · rw [xI_ne x1, xI_ne x1]
        by_cases x0 : x = 0
        · subst x0
          rw [xI_1, xI_1, q71, q7 0 (by decide) hx, xw_ne _ _ (by decide)]
        · rw [xI_ne x0, xI_ne x0, q7 x x1 hx, xw_ne _ _ x1], by
        show S7.2.1 x = S.2.1 x
        rw [q7j]; exact (sT x hx).2.1, by
        show S7.2.2 x = S.2.2 x
        rw [q7j]; exact (sT x hx).2.2⟩
    have f9 : ∀ x, x ≠ 0 → x ≠ 1 → (xI (xI S7 0 11 (S7.1 1 2)) 1 1 0).1 x = S7.1 x := fun x h0 h1 => by rw [xI_ne h1, xI_ne h0]
    exact ⟨c_tape tp7, zC_g gT s9 c0, zG_g gT s9 g0, zR_c (fun a q1 q2 => by rw [f9 a (by omega) (by omega), q7 a (by omega) (by omega)]) (by show S7.2.1 204 = _; rw [q7j]; exact (sT 204 (by omega)).2.1) r, f9, q7j⟩
  have ev : ∀ (R : Int32) (S7 S9 : xS) (X : Option (Int32 × xT × xS)), f_X4_readSpecials T4 S5 T.2.2 1 = some (R, S7) → f_X9_tapeWasRead T4 S7 0 = some S9 → (if R = (-1 : Int32) then some (R, T4, S9) else xcv (f_X9_remember T4 S9 0) (fun S10 => xgr T4 S10 0 4 5 (fun a11 => xpr S10 a11 3 T.2.2 (fun S12 => some (R, T4, S12))))) = X → f_X9_specials T S 0 = X := fun R S7 S9 X e2 et hX => by
    rw [← hX]
    unfold f_X9_specials
    show xgd (xlk (xTn T 4 0) 0 9) (xcT (f_X4_init (xTn T 4 0) (xSn S T.2.2) T.2.2) _) = _
    rw [xgd_h (xTp_lk tp8 (by decide) (by decide)), e1, xcT_e, xgd_h (xTp_lk tp5 (by decide) (by decide)), xgd_h (xlk_m (by omega) k4), rr_0_0 tp5, e2, xc_e, et, xcv_e]
  generalize hP : pSp M.tb M.L 8 0 0 (((fun i => S5.1 (T.2.2 + i)), 0, 0, S.1 210), S.1 209) = P at *
  have rfm : ∀ Sr (r' : zR Sr M), Sr.1 209 = S.1 209 → Sr.1 210 = S.1 210 → ∀ (R2 : Int32) (N' C' g2 : Nat → Int32) (j2 : Nat → Int64) (f : Int32), gFr (Sr.1 199) g2 → g2 9 = f → zR (xI (rW (rB Sr N' C') g2 j2) 199 5 0) (M.rd f) ∧ (rW (rB Sr N' C') g2 j2).1 199 = g2 ∧ (rW (rB Sr N' C') g2 j2).1 209 = N' ∧ (rW (rB Sr N' C') g2 j2).1 210 = C' ∧ (∀ a, a < 199 ∨ 214 < a → (rW (rB Sr N' C') g2 j2).1 a = Sr.1 a) ∧ (rW (rB Sr N' C') g2 j2).2.2 = Sr.2.2 := fun Sr r' _ _ R2 N' C' g2 j2 f fr hf => by
    have q199 : (rW (rB Sr N' C') g2 j2).1 199 = g2 := rW_1 _ _ _
    have q200 : ∀ x, x ≠ 199 → x ≠ 209 → x ≠ 210 → (rW (rB Sr N' C') g2 j2).1 x = Sr.1 x := fun x h1 h2 h3 => by
      unfold rB
      rw [rW_ne _ _ _ h1, xw_ne _ _ h3, xw_ne _ _ h2]
    refine ⟨zR_rd r' (fun a q => by rw [xI_ne (by omega), q200 a (by omega) (by omega) (by omega)]) (fun k q => by rw [xI_at (by omega), q199, fr k (by omega)]) (by rw [xI_1, xup_at]) (by rw [xI_at (by decide), q199]; exact hf) (rW_jn (g := g2) (j := j2) (S := rB Sr N' C') (by decide)), q199, ?_, ?_, fun a q => q200 a (by omega) (by omega) (by omega), rfl⟩
    · unfold rB
      rw [rW_ne _ _ _ (by decide), xw_ne _ _ (by decide), xw_1]
    · unfold rB
      rw [rW_ne _ _ _ (by decide), xw_1]
  by_cases hp : P.1 = true
  · obtain ⟨g', e2, ft, h40, h00⟩ := rd.1 hp
    obtain ⟨_, p2, _, p4, _, _, _⟩ := pk hp
    obtain ⟨p8, p9⟩ := pk2 hp
    obtain ⟨m1, m2, m3, m4⟩ := mid P.2.2.2.1.1 g'
    generalize xw (spB S5 T.2.2 P.2.2.2.1.1) 1 g' = S7 at *
    obtain ⟨et, c9, g9, r9, f9, j9⟩ := gen S7 g' m1 m2 m3
    have hev := ev (nI P.2.2.1) S7 (xI (xI S7 0 11 (S7.1 1 2)) 1 1 0)
    generalize xI (xI S7 0 11 (S7.1 1 2)) 1 1 0 = S9 at *
    obtain ⟨S10, w1, w2, w3, w4⟩ := c_rem2 c9 g9
    have hc : f_X9_specials T S 0 = some (nI P.2.2.1, T4, xR S10 17 3 (some T.2.2)) := hev _ e2 et (by
      rw [if_neg (fun w => by rw [xeq, nI_toInt (by omega), show (-1 : Int32).toInt = -1 from by decide] at w; omega), w1, xcv_e, rr_0_4 w2.1]
      rfl)
    have r12 : zR (xR S10 17 3 (some T.2.2)) M := zR_c (S := S9) (fun a q1 q2 => w4.2.1 a (by omega)) (by show S10.2.1 204 = _; rw [w4.1]) r9
    have c12 := c_put3 (u' := uSp M.now.2.2.2 P.2.2.1 P.2.2.2.1.2.2.1 P.2.2.2.2 P.2.2.2.1.2.2.2) (x := T.2.2) w2
    have tp12 := c12.1
    have hh : ∀ x, 199 ≤ x → x < T.2.2 → (xR S10 17 3 (some T.2.2)).1 x = S.1 x := fun x h1 h2 => by
      show S10.1 x = _
      rw [w4.2.1 x (by omega), f9 x (by omega) (by omega), m1 x (by omega) h2]
    have h209 := hh 209 (by omega) (by omega)
    have h210 := hh 210 (by omega) (by omega)
    have rdx := (rdr _ r12 tp12).1
    rw [h209, h210, hP] at rdx
    obtain ⟨g2, j2, k1, k2, k3, k4', k5⟩ := rdx hp
    rw [← h209, ← h210, rB_self, rW_self] at k1
    obtain ⟨z1, z2, z3, z4, z5, z6⟩ := rfm _ r12 h209 h210 1 P.2.2.2.2 P.2.2.2.1.2.2.2 g2 j2 (g' 2) k5 (by rw [k2, ft])
    generalize rW (rB (xR S10 17 3 (some T.2.2)) P.2.2.2.2 P.2.2.2.1.2.2.2) g2 j2 = S2 at *
    obtain ⟨S', p1', p2', p3', p4'⟩ := r_specs (M := M.rd (g' 2)) (S := xI S2 199 5 0) (ns := P.2.2.1) (nc := P.2.2.2.1.2.2.1) c.2.2.1.1.1 (by show xTp T4 S2.2.2; rw [z6]; exact tp12) z1 (by rw [xI_at (by decide), z2]; exact k3) (by rw [xI_at (by decide), z2]; exact k4') p2 (by omega) T.2.2
    rw [xI_ne (show (209 : Nat) ≠ 199 by decide), xI_ne (show (210 : Nat) ≠ 199 by decide), z3, z4] at p2'
    have e7 : ∀ j, j ≤ 9 → (xR S10 17 3 (some T.2.2)).1 (T.2.2 + j) = P.2.2.2.1.1 j := fun j hj => by
      show S10.1 (T.2.2 + j) = _
      rw [w4.2.1 _ (by omega), f9 _ (by omega) (by omega)]
      exact m4 j hj
    have si12 : xSi T4 (xR S10 17 3 (some T.2.2)).2.2 T.2.2 := xSi_c (tLe_r T4) (by
      rw [show (xR S10 17 3 (some T.2.2)).2.2 T.2.2 = S10.2.2 T.2.2 from xput_ne _ _ _ (by omega), w4.2.2.2 T.2.2 (by unfold zTS; omega), j9]) si
    have g12 : zG T4 (xR S10 17 3 (some T.2.2)) B (M.rd (g' 2)).rm := zG_f (S := S10) (fun a q => rfl) (fun a q => xput_ne _ _ _ (by unfold zTS at q; omega)) w3
    obtain ⟨so, sp⟩ := spR_new (S := xR S10 17 3 (some T.2.2)) (sa := T.2.2) (ns := P.2.2.1) (P := P.2.2.2) (u := M.now.2.2.2) e7 p2 h00 h40 p4 p8 (fun F hF hA h40' h100 x hx => p9 F hF hA h40' h100 x (Nat.zero_le _) hx)
    have gn : gSt T4 (xR S10 17 3 (some T.2.2)) B (M.now.1, T.2.2, M.now.2.2.1, uSp M.now.2.2.2 P.2.2.1 P.2.2.2.1.2.2.1 P.2.2.2.2 P.2.2.2.1.2.2.2) := ⟨gTS_s (g12.1.1 : gTS T4 (xR S10 17 3 (some T.2.2)) M.now.1 M.now.2.1 M.now.2.2.2) si12 so sp (fun j hj => by
      show uSp M.now.2.2.2 P.2.2.1 P.2.2.2.1.2.2.1 P.2.2.2.2 P.2.2.2.1.2.2.2 j = M.now.2.2.2 j
      unfold uSp
      rw [if_neg (by omega), if_neg (by omega), va_up_ne _ _ (by omega)]), g12.1.2.1, g12.1.2.2⟩
    refine ⟨T4, S', zXI (f10 := fun T1 S1 => f_X10_specials T1 S1 199) hc tp12 ?_, zFin c12 ⟨gn, g12.2.1, g12.2.2⟩ (by rw [p3']; exact z6) (fun a q => by rw [p4' a (by omega), xI_ne (by omega), z5 a (by omega)]) p2' b0 (by show 5 * B + 1000000 * ((0 : Nat) : Int) ≤ 20000000 * ((i + 1 : Nat) : Int); omega)⟩
    show f_X10_specials T4 _ 199 = _
    unfold f_X10_specials
    rw [k1, xc_e, xl_e, xpi_e, if_neg (by decide)]
    exact p1'
  · obtain ⟨g', X', e2, ft⟩ := rd.2 (bool_f hp)
    obtain ⟨m1, m2, m3, m4⟩ := mid X' g'
    generalize xw (spB S5 T.2.2 X') 1 g' = S7 at *
    obtain ⟨et, c9, g9, r9, f9, j9⟩ := gen S7 g' m1 m2 m3
    have hev := ev (-1) S7 (xI (xI S7 0 11 (S7.1 1 2)) 1 1 0)
    generalize xI (xI S7 0 11 (S7.1 1 2)) 1 1 0 = S9 at *
    have hh : ∀ x, 199 ≤ x → x < T.2.2 → S9.1 x = S.1 x := fun x h1 h2 => by rw [f9 x (by omega) (by omega), m1 x (by omega) h2]
    have h209 := hh 209 (by omega) (by omega)
    have h210 := hh 210 (by omega) (by omega)
    have rdx := (rdr _ r9 c9.1).2
    rw [h209, h210, hP] at rdx
    obtain ⟨g2, j2, N', C', k1, k2, k5⟩ := rdx (bool_f hp)
    rw [← h209, ← h210, rB_self, rW_self] at k1
    obtain ⟨z1, z2, z3, z4, z5, z6⟩ := rfm _ r9 h209 h210 1 N' C' g2 j2 (g' 2) k5 (by rw [k2, ft])
    generalize rW (rB S9 N' C') g2 j2 = S2 at *
    refine ⟨T4, xI S2 199 5 0, zXI (f10 := fun T1 S1 => f_X10_specials T1 S1 199) (r := -1) (S1 := S9) (hev _ e2 et (by rw [if_pos rfl])) c9.1 ?_, zFin c9 g9 (by show S2.2.2 = _; rw [z6]) (fun a q => by rw [xI_ne (by omega), z5 a (by omega)]) z1 b0 (by show 5 * B + 1000000 * ((0 : Nat) : Int) ≤ 20000000 * ((i + 1 : Nat) : Int); omega)⟩
    show f_X10_specials T4 S9 199 = _
    unfold f_X10_specials
    rw [k1, xc_e, xl_e, xpi_e, if_pos rfl]
