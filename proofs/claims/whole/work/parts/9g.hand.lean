/-! hand -/
theorem g_hand66 {T : xT} {S : xS} {b t : Nat} {gv gp w p l r ro cap du ra sh ow bo ma de : Nat → Int32} {tf ll kn lo pa av ca re ye ch : Int32} {i j : Nat} {n : Int32} (o : xbt b t) (tp : xTp T S.2.2) (hi : i < 8) (hj : j < 8) (hij : j ≠ i) : f_X9_hand_66 T (kS S b t gv gp tf ll w p l r kn lo ro pa av ca re ye ch cap du ra sh ow bo ma de) (nI i) (nI j) n b = some (cap j + xho (cap i) n, (kS S b t gv gp tf ll w p l r kn lo ro pa av ca re ye ch (va_up (va_up cap i (cap i - xho (cap i) n)) j (cap j + xho (cap i) n)) du ra (va_up (va_up sh i (sh i - xho (sh i) n)) j (sh j + xho (sh i) n)) (va_up (va_up ow i (ow i - xho (ow i) n)) j (ow j + xho (ow i) n)) bo ma de)) := by
  unfold f_X9_hand_66
  simp (disch := first | assumption | omega | ((repeat first | apply kS_tp | apply xI_tp | apply xw_tp); exact tp) | (apply xn8 tp; decide) | (apply xnb o tp; omega)) only [↓xl_e, ↓xc_e, ↓xcv_e, ↓xpi_e, ↓reduceIte, ↓rr_3_0, ↓rr_3_1, ↓rr_3_4, ↓rr_3_5, ↓rr_3_6, ↓rr_3_7, ↓kg_6, ↓kg_7, ↓kg_8, ↓kg_9, ↓kg_10, ↓kg_11, ↓kg_12, ↓kg_13, ↓kg_t, ↓xai_w, ↓xst_w, kr_gv, kr_gp, kr_w, kr_p, kr_l, kr_r, kr_cap, kr_du, kr_ra, kr_sh, kr_ow, kr_bo, kr_ma, kr_de, kr_ro, kr_tf, kr_ll, kr_kn, kr_lo, kr_pa, kr_av, kr_ca, kr_re, kr_ye, kr_ch, kw_gv, kw_gp, kw_w, kw_p, kw_l, kw_r, kw_cap, kw_du, kw_ra, kw_sh, kw_ow, kw_bo, kw_ma, kw_de, kw_ro, kw_tf, kw_ll, kw_kn, kw_lo, kw_pa, kw_av, kw_ca, kw_re, kw_ye, kw_ch, x8_ff, nI_1, xb_e, xup_at, xm_n, xm_at, x00, g_pass_cap o tp hi hj hij, g_pass_sh o tp hi hj hij, g_pass_ow o tp hi hj hij]
theorem h_hov_cap {T : xT} {S : xS} {b : Nat} {wt pt gq ls sp ro cap du ra sh ow bo ma de u : Nat → Int32} {kn lo pa av ca re ye ch : Int32} {n : Int32} (tp : xTp T S.2.2) (hb : S.1 199 1 = nI b) (hb2 : b ≤ 5490) {i j : Nat} (hi : i < 8) (hj : j < 8) (hij : j ≠ i) : f_X10_handsOver T (rS S b wt pt gq ls sp (enc kn lo ro pa av ca re ye ch cap du ra sh ow bo ma de u)) 199 (5 : Int32) (nI i) (nI j) n = some (rS S b wt pt gq ls sp (enc kn lo ro pa av ca re ye ch (va_up (va_up cap i (cap i - xho (cap i) n)) j (cap j + xho (cap i) n)) du ra sh ow bo ma de u)) := by
  unfold f_X10_handsOver
  rw [ix_5, ix_5, rget tp hb hb2 (by omega), xc_e, er_cap hi, xgd_h (by decide), xl_e]
  show xcv (f_X10_more T (rS S b wt pt gq ls sp (enc kn lo ro pa av ca re ye ch cap du ra sh ow bo ma de u)) 199 (nI (5 + i)) (-(xho (cap i) n))) (fun S4 => xcv (f_X10_more T S4 199 (nI (5 + j)) (xho (cap i) n)) (fun S5 => some S5)) = _
  rw [rmore tp hb hb2 (by omega), xcv_e, er_cap hi, ew_cap hi, xsn, rmore tp hb hb2 (by omega), xcv_e, er_cap hj, ew_cap hj, va_up_ne _ _ hij]
theorem h_hov_sh {T : xT} {S : xS} {b : Nat} {wt pt gq ls sp ro cap du ra sh ow bo ma de u : Nat → Int32} {kn lo pa av ca re ye ch : Int32} {n : Int32} (tp : xTp T S.2.2) (hb : S.1 199 1 = nI b) (hb2 : b ≤ 5490) {i j : Nat} (hi : i < 8) (hj : j < 8) (hij : j ≠ i) : f_X10_handsOver T (rS S b wt pt gq ls sp (enc kn lo ro pa av ca re ye ch cap du ra sh ow bo ma de u)) 199 (29 : Int32) (nI i) (nI j) n = some (rS S b wt pt gq ls sp (enc kn lo ro pa av ca re ye ch cap du ra (va_up (va_up sh i (sh i - xho (sh i) n)) j (sh j + xho (sh i) n)) ow bo ma de u)) := by
  unfold f_X10_handsOver
  rw [ix_29, ix_29, rget tp hb hb2 (by omega), xc_e, er_sh hi, xgd_h (by decide), xl_e]
  show xcv (f_X10_more T (rS S b wt pt gq ls sp (enc kn lo ro pa av ca re ye ch cap du ra sh ow bo ma de u)) 199 (nI (29 + i)) (-(xho (sh i) n))) (fun S4 => xcv (f_X10_more T S4 199 (nI (29 + j)) (xho (sh i) n)) (fun S5 => some S5)) = _
  rw [rmore tp hb hb2 (by omega), xcv_e, er_sh hi, ew_sh hi, xsn, rmore tp hb hb2 (by omega), xcv_e, er_sh hj, ew_sh hj, va_up_ne _ _ hij]
theorem h_hov_ow {T : xT} {S : xS} {b : Nat} {wt pt gq ls sp ro cap du ra sh ow bo ma de u : Nat → Int32} {kn lo pa av ca re ye ch : Int32} {n : Int32} (tp : xTp T S.2.2) (hb : S.1 199 1 = nI b) (hb2 : b ≤ 5490) {i j : Nat} (hi : i < 8) (hj : j < 8) (hij : j ≠ i) : f_X10_handsOver T (rS S b wt pt gq ls sp (enc kn lo ro pa av ca re ye ch cap du ra sh ow bo ma de u)) 199 (37 : Int32) (nI i) (nI j) n = some (rS S b wt pt gq ls sp (enc kn lo ro pa av ca re ye ch cap du ra sh (va_up (va_up ow i (ow i - xho (ow i) n)) j (ow j + xho (ow i) n)) bo ma de u)) := by
  unfold f_X10_handsOver
  rw [ix_37, ix_37, rget tp hb hb2 (by omega), xc_e, er_ow hi, xgd_h (by decide), xl_e]
  show xcv (f_X10_more T (rS S b wt pt gq ls sp (enc kn lo ro pa av ca re ye ch cap du ra sh ow bo ma de u)) 199 (nI (37 + i)) (-(xho (ow i) n))) (fun S4 => xcv (f_X10_more T S4 199 (nI (37 + j)) (xho (ow i) n)) (fun S5 => some S5)) = _
  rw [rmore tp hb hb2 (by omega), xcv_e, er_ow hi, ew_ow hi, xsn, rmore tp hb hb2 (by omega), xcv_e, er_ow hj, ew_ow hj, va_up_ne _ _ hij]
theorem h_hand53 {T : xT} {S : xS} {b : Nat} {wt pt gq ls sp ro cap du ra sh ow bo ma de u : Nat → Int32} {kn lo pa av ca re ye ch : Int32} {n : Int32} (tp : xTp T S.2.2) (hb : S.1 199 1 = nI b) (hb2 : b ≤ 5490) {i j : Nat} (hi : i < 8) (hj : j < 8) (hij : j ≠ i) : f_X10_hand_53 T (rS S b wt pt gq ls sp (enc kn lo ro pa av ca re ye ch cap du ra sh ow bo ma de u)) 199 (nI i) (nI j) n = some (cap j + xho (cap i) n, (rS S b wt pt gq ls sp (enc kn lo ro pa av ca re ye ch (va_up (va_up cap i (cap i - xho (cap i) n)) j (cap j + xho (cap i) n)) du ra (va_up (va_up sh i (sh i - xho (sh i) n)) j (sh j + xho (sh i) n)) (va_up (va_up ow i (ow i - xho (ow i) n)) j (ow j + xho (ow i) n)) bo ma de u))) := by
  unfold f_X10_hand_53
  rw [h_hov_cap tp hb hb2 hi hj hij, xcv_e, h_hov_sh tp hb hb2 hi hj hij, xcv_e, h_hov_ow tp hb hb2 hi hj hij, xcv_e, ix_5, rget tp hb hb2 (by omega), xc_e, er_cap hj, xup_at]
def t_handC (T : xT) (S : xS) (b : Nat) (p q n : Int32) : Option (Int32 × xS) := xc (f_X1_hasPartner T S b q) (fun r7 S6 => if r7 = (0 : Int32) then xcv (f_X1_admit T S6 b q) (fun S8 => f_X9_hand_66 T S8 p q n b) else f_X9_hand_66 T S6 p q n b)
def t_handR (T : xT) (S : xS) (p q n : Int32) : Option (Int32 × xS) := xc (f_X10_isThere T S 199 q) (fun r9 S8 => if r9 = (0 : Int32) then xcv (f_X10_arrives T S8 199 q) (fun S10 => f_X10_hand_53 T S10 199 p q n) else f_X10_hand_53 T S8 199 p q n)
theorem x_hand0 {T : xT} {i j : Nat} {n : Int32} {S : xS} {b t : Nat} {gv gp w p l r ro cap du ra sh ow bo ma de : Nat → Int32} {tf ll kn lo pa av ca re ye ch : Int32} {u : Nat → Int32} {B : Int} (o : xbt b t) (tp : xTp T S.2.2) (ok : bOk B pa av re ch cap du ra sh ow bo ma de) (hB : B ≤ 2100000000) (hi : i < 8) (hj : j < 8) (hij : j ≠ i) (hx : ¬ xb pa i = 0) (n1 : 1 ≤ n.toInt) (n2 : n.toInt ≤ 100) :
    ∃ v pa2 ra2 cap2 sh2 ow2, t_handC T (kS S b t gv gp tf ll w p l r kn lo ro pa av ca re ye ch cap du ra sh ow bo ma de) b (nI i) (nI j) n = some (v, (kS S b t gv gp tf ll w p l r kn lo ro pa2 av ca re ye ch cap2 du ra2 sh2 ow2 bo ma de)) ∧ bOk B pa2 av re ch cap2 du ra2 sh2 ow2 bo ma de ∧ ∀ (Q : xS) (x : Nat) (wt pt gq ls sp : Nat → Int32), xTp T Q.2.2 → Q.1 199 1 = nI x → x ≤ 5490 → t_handR T (rS Q x wt pt gq ls sp (enc kn lo ro pa av ca re ye ch cap du ra sh ow bo ma de u)) (nI i) (nI j) n = some (v, (rS Q x wt pt gq ls sp (enc kn lo ro pa2 av ca re ye ch cap2 du ra2 sh2 ow2 bo ma de u))) := by
  by_cases hy : xb pa j = 0
  · obtain ⟨a1, a2, a3, a4, a5⟩ := ok.2.2.2.1 j hj hy
    have ok1 := b_admit (i := j) ok hj
    have x1 : ¬ xb (pa ||| ((1 : Int32) <<< (nI j &&& 31))) i = 0 := by rw [xb_or (by omega) (by omega), if_neg (fun q => hij q.symm)]; exact hx
    have x2 : ¬ xb (pa ||| ((1 : Int32) <<< (nI j &&& 31))) j = 0 := by rw [xb_or (by omega) (by omega), if_pos rfl]; decide
    refine ⟨cap j + xho (cap i) n, _, _, _, _, _, ?_, b_hand (n := n) ok1 hB hi hj hij x1 x2 n1 n2, fun Q x wt pt gq ls sp tq hb hb2 => ?_⟩
    · unfold t_handC
      rw [g_has o hj, xc_e, if_pos hy, if_pos rfl, g_admit o tp hj, xcv_e, g_hand66 o tp hi hj hij]
    · unfold t_handR
      rw [h_there tq hb hb2 hj, xc_e, if_pos hy, h_arrives tq hb hb2 hj, xcv_e, up_same a1, up_same a2, up_same a4, up_same a5, h_hand53 tq hb hb2 hi hj hij]
  · refine ⟨cap j + xho (cap i) n, _, _, _, _, _, ?_, b_hand (n := n) ok hB hi hj hij hx hy n1 n2, fun Q x wt pt gq ls sp tq hb hb2 => ?_⟩
    · unfold t_handC
      rw [g_has o hj, xc_e, if_neg hy, if_neg (by decide), g_hand66 o tp hi hj hij]
    · unfold t_handR
      rw [h_there tq hb hb2 hj, xc_e, if_neg hy, h_hand53 tq hb hb2 hi hj hij]
theorem o_hand : zOp 29 := by
  intro i T S a hi h
  have h' := h
  obtain ⟨M, B, c, r, g, b0, b1⟩ := h'
  have tp := c.1
  have ok : bOkF B M.now.2.2.1 := g.1.2.2
  have hB := zB_le hi b1
  show ∃ (T2 : xT) (S2 : xS), xc (f_X9_hand T S 0 (a 1) (a 2) (a 3)) (fun r1 S1 => xc (f_X10_hand T S1 199 (a 1) (a 2) (a 3)) (fun r2 S2 => some (decide (r1 = r2), T, S2))) = some (true, T2, S2) ∧ zI (i + 1) T2 S2
  generalize a 1 = p
  generalize a 2 = q
  generalize a 3 = n
  rcases i8 p with ⟨k, hk, rfl⟩ | hp
  · by_cases hb : xb (M.now.2.2.1 0 0) k = 0
    · refine zQ (r := -1000000000) h ?_ ?_
      · unfold f_X9_hand
        rw [rr_0_4 tp, rr_17_0 tp, n_has c hk, xc_e, if_pos hb, if_pos rfl]
      · unfold f_X10_hand
        rw [q_there r tp hk, xc_e, if_pos hb]
    · rcases i8 q with ⟨j, hj, rfl⟩ | hq
      · have j0 : ¬ nI j < 0 := by rw [xlt, nI_toInt (by omega), i0]; omega
        have j8 : ¬ (8 : Int32) ≤ nI j := x8_f hj
        by_cases hjk : j = k
        · subst hjk
          refine zQ (r := -1000000000) h ?_ ?_
          · unfold f_X9_hand
            rw [rr_0_4 tp, rr_17_0 tp, n_has c hk, xc_e, if_neg hb, if_neg (by decide), if_neg j0, if_neg j8, if_pos rfl]
          · unfold f_X10_hand
            rw [q_there r tp hk, xc_e, if_neg hb, h_isIn7 T S hj, xc_e, if_neg (by decide), if_pos rfl]
        · have jk : ¬ nI j = nI k := fun w => hjk ((nI_eq (by omega) (by omega)).mp w)
          have kj : ¬ nI k = nI j := fun w => jk w.symm
          by_cases n1 : n < 1
          · refine zQ (r := -1000000000) h ?_ ?_
            · unfold f_X9_hand
              rw [rr_0_4 tp, rr_17_0 tp, n_has c hk, xc_e, if_neg hb, if_neg (by decide), if_neg j0, if_neg j8, if_neg jk, if_pos n1]
            · unfold f_X10_hand
              rw [q_there r tp hk, xc_e, if_neg hb, h_isIn7 T S hj, xc_e, if_neg (by decide), if_neg kj, h_isIn, xc_e, if_pos n1, if_pos rfl]
          · by_cases n2 : n ≤ 100
            · have n3 : ¬ (100 : Int32) < n := by
                rw [xle, show (100 : Int32).toInt = 100 from by decide] at n2
                rw [xlt, show (100 : Int32).toInt = 100 from by decide]; omega
              have m1 := n1
              have m2 := n2
              rw [xlt, i1] at m1
              rw [xle, show (100 : Int32).toInt = 100 from by decide] at m2
              obtain ⟨S1, e1, c1, g1, f1⟩ := c_rem2 c g
              have nv : clV S1 31 40 M.now.2.2.1 := c1.2.1.2.2
              obtain ⟨v, pa2, ra2, cap2, sh2, ow2, e2, ok2, hq⟩ := x_hand0 (T := T) (i := k) (j := j) (n := n) (S := S1) (b := 31) (t := 40) (gv := (S1.1 4)) (gp := (S1.1 5)) (tf := (S1.1 3 2)) (ll := (S1.1 3 3)) (w := (S1.1 6)) (p := (S1.1 7)) (l := (S1.1 8)) (r := (S1.1 9)) (kn := (M.now.2.2.1 9 0)) (lo := (M.now.2.2.1 9 1)) (ro := (M.now.2.2.1 10)) (pa := (M.now.2.2.1 0 0)) (av := (M.now.2.2.1 0 1)) (ca := (M.now.2.2.1 0 2)) (re := (M.now.2.2.1 0 3)) (ye := (M.now.2.2.1 0 4)) (ch := (M.now.2.2.1 0 5)) (cap := (M.now.2.2.1 1)) (du := (M.now.2.2.1 2)) (ra := (M.now.2.2.1 3)) (sh := (M.now.2.2.1 4)) (ow := (M.now.2.2.1 5)) (bo := (M.now.2.2.1 6)) (ma := (M.now.2.2.1 7)) (de := (M.now.2.2.1 8)) (u := M.now.2.2.2) oo c1.1 ok (by omega) hk hj hjk hb (by omega) m2
              have e2' : t_handC T (kF S1 31 40 M.now.2.2.1) 31 (nI k) (nI j) n = _ := e2
              rw [c_self nv] at e2'
              have e3 : f_X9_hand T S 0 (nI k) (nI j) n = t_handC T S1 31 (nI k) (nI j) n := by
                unfold f_X9_hand
                rw [rr_0_4 tp, rr_17_0 tp, n_has c hk, xc_e, if_neg hb, if_neg (by decide), if_neg j0, if_neg j8, if_neg jk, if_neg n1, if_pos n2, e1, xcv_e]
                rfl
              refine zHd (rf := fun T S => f_X10_hand T S 199 (nI k) (nI j) n) r b0 b1 c1 g1 f1 (e3.trans e2') (kn_ok g) (bOk_mono (by omega) ok2) (fun Sr r' tr => ?_)
              obtain ⟨Q1, wt, y0, r1, tr1, hs, y1, y2, y3⟩ := q_rem c.2.2.1.1.1 r' tr
              have e4 := hq Q1 (366 * 0) wt (Q1.1 205) (Q1.1 206) (Q1.1 207) (Q1.1 208) tr1 (q_hb r1) (by decide)
              have e4' : t_handR T (rF Q1 (366 * 0) wt M.now.2.2.1 M.now.2.2.2) (nI k) (nI j) n = _ := e4
              rw [hs] at e4'
              refine q_mk0 (Eq.trans ?_ e4') r1 y1 y2 y3
              show f_X10_hand T Sr 199 (nI k) (nI j) n = _
              unfold f_X10_hand
              rw [q_there r' tr hk, xc_e, if_neg hb, h_isIn7 T Sr hj, xc_e, if_neg (by decide), if_neg kj, h_isIn, xc_e, if_neg n1, if_neg n3, if_neg (by decide), y0, xcv_e]
              rfl
            · have n3 : (100 : Int32) < n := by
                rw [xle, show (100 : Int32).toInt = 100 from by decide] at n2
                rw [xlt, show (100 : Int32).toInt = 100 from by decide]; omega
              refine zQ (r := -1000000000) h ?_ ?_
              · unfold f_X9_hand
                rw [rr_0_4 tp, rr_17_0 tp, n_has c hk, xc_e, if_neg hb, if_neg (by decide), if_neg j0, if_neg j8, if_neg jk, if_neg n1, if_neg n2]
              · unfold f_X10_hand
                rw [q_there r tp hk, xc_e, if_neg hb, h_isIn7 T S hj, xc_e, if_neg (by decide), if_neg kj, h_isIn, xc_e, if_neg n1, if_pos n3, if_pos rfl]
      · refine zQ (r := -1000000000) h ?_ ?_
        · unfold f_X9_hand
          rw [rr_0_4 tp, rr_17_0 tp, n_has c hk, xc_e, if_neg hb, if_neg (by decide)]
          by_cases z : q < 0
          · rw [if_pos z]
          · rw [if_neg z]
            rcases hq with hq | hq
            · exact absurd hq z
            · rw [if_pos hq]
        · unfold f_X10_hand
          rw [q_there r tp hk, xc_e, if_neg hb, h_out (show q < 0 ∨ (7 : Int32) < q from hq.imp id (fun z => by rw [xle, show (8 : Int32).toInt = 8 from by decide] at z; rw [xlt, show (7 : Int32).toInt = 7 from by decide]; omega)), xc_e, if_pos rfl]
  · refine zQ (r := -1000000000) h ?_ ?_
    · unfold f_X9_hand
      rw [rr_0_4 tp, rr_17_0 tp, (o8 hp T S 31).1, xc_e, if_pos rfl]
    · unfold f_X10_hand
      rw [(o8 hp T S 31).2.2.1, xc_e, if_pos rfl]
