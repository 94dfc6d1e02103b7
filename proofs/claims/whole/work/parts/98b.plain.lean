/-! the plain acts -/
theorem d_duty {T : xT} {S : xS} {M : zM} {B : Int} {wh n : Int32} (c : zC T S M) (g : zG T S B M) (hB : B ≤ 2100000000) : zDo T S M (B + 1000000) 10 wh n (fun T S => f_X10_duty T S 199 wh n) (-1) false := by
  have tp := c.1
  have ok : bOkF B M.now.2.2.1 := g.1.2.2
  rcases i8 wh with ⟨k, hk, rfl⟩ | hw
  · by_cases hb : xb (M.now.2.2.1 0 0) k = 0
    · refine Or.inl ⟨c_beg0 ?_, fun Sr r tr => ?_⟩
      · rw [al_10 tp, n_has c hk, xc_e, if_pos hb, if_pos rfl]
      · show f_X10_duty T Sr 199 (nI k) n = some (-1, Sr)
        unfold f_X10_duty
        rw [q_there r tr hk, xc_e, if_pos hb]
    · by_cases n1 : n < 0
      · refine Or.inl ⟨c_beg0 ?_, fun Sr r tr => ?_⟩
        · rw [al_10 tp, n_has c hk, xc_e, if_neg hb, if_neg (by decide), if_pos n1]
        · show f_X10_duty T Sr 199 (nI k) n = some (-1, Sr)
          unfold f_X10_duty
          rw [q_there r tr hk, xc_e, if_neg hb, h_isIn, xc_e, if_pos n1, if_pos rfl]
      · by_cases n2 : (100000 : Int32) < n
        · refine Or.inl ⟨c_beg0 ?_, fun Sr r tr => ?_⟩
          · rw [al_10 tp, n_has c hk, xc_e, if_neg hb, if_neg (by decide), if_neg n1, if_pos n2]
          · show f_X10_duty T Sr 199 (nI k) n = some (-1, Sr)
            unfold f_X10_duty
            rw [q_there r tr hk, xc_e, if_neg hb, h_isIn, xc_e, if_neg n1, if_pos n2, if_pos rfl]
        · obtain ⟨S1, e1, c1, g1, f1⟩ := c_beg (kd := 10) (w := (nI k)) (n := n) c g (by rw [al_10 tp, n_has c hk, xc_e, if_neg hb, if_neg (by decide), if_neg n1, if_neg n2])
          have nv : clV S1 31 40 M.now.2.2.1 := c1.2.1.2.2
          have e2 : f_X9_replace T (kF S1 31 40 M.now.2.2.1) 33 (nI k) n = _ := g_repl_du oo c1.1 hk
          rw [c_self nv] at e2
          have e3 := pf_10 (w := (nI k)) (n := n) c1.1
          rw [rr_31_7 c1.1, e2, xc_e] at e3
          have m1 := n1
          have m2 := n2
          rw [xlt, i0] at m1
          rw [xlt, show (100000 : Int32).toInt = 100000 from by decide] at m2
          refine zDo_mk (by omega) e1 c1 g1 f1 e3 (kn_ok g) (bOk_mono (by omega) (b_du (n := n) ok hk hb (by omega) (by omega))) (fun Sr r tr => ?_)
          obtain ⟨Q1, wt, y0, r1, tr1, hs, y1, y2, y3⟩ := q_rem c.2.2.1.1.1 r tr
          have e4 : f_X10_put T (rF Q1 (366 * 0) wt M.now.2.2.1 M.now.2.2.2) 199 (nI (13 + k)) n = _ := h_putdu tr1 (q_hb r1) (by decide) hk
          rw [hs] at e4
          obtain ⟨X, eX, hX⟩ := some_ex e4
          have eg : encF M.rm.now.2.2.1 M.rm.now.2.2.2 (13 + k) = M.now.2.2.1 2 k := er_du hk
          have e5 : f_X10_duty T Sr 199 (nI k) n = some (M.now.2.2.1 2 k, X) := by
            unfold f_X10_duty f_X10_become
            rw [q_there r tr hk, xc_e, if_neg hb, h_isIn, xc_e, if_neg n1, if_neg n2, if_neg (by decide), y0, xcv_e, ix_13, q_get r1 tr1 (k := 13 + k) (by omega), xc_e, xl_e, eX, xcv_e, xc_e, eg]
          subst hX
          exact q_mk0 e5 r1 y1 y2 y3
  · refine Or.inl ⟨c_beg0 ?_, fun Sr r tr => ?_⟩
    · rw [al_10 tp, (o8 hw T S 31).1, xc_e, if_pos rfl]
    · show f_X10_duty T Sr 199 wh n = some (-1, Sr)
      unfold f_X10_duty
      rw [(o8 hw T Sr 31).2.2.1, xc_e, if_pos rfl]
theorem d_ratio {T : xT} {S : xS} {M : zM} {B : Int} {wh n : Int32} (c : zC T S M) (g : zG T S B M) (hB : B ≤ 2100000000) : zDo T S M (B + 1000000) 11 wh n (fun T S => f_X10_ratio T S 199 wh n) (-1) false := by
  have tp := c.1
  have ok : bOkF B M.now.2.2.1 := g.1.2.2
  rcases i8 wh with ⟨k, hk, rfl⟩ | hw
  · by_cases hb : xb (M.now.2.2.1 0 0) k = 0
    · refine Or.inl ⟨c_beg0 ?_, fun Sr r tr => ?_⟩
      · rw [al_11 tp, n_has c hk, xc_e, if_pos hb, if_pos rfl]
      · show f_X10_ratio T Sr 199 (nI k) n = some (-1, Sr)
        unfold f_X10_ratio
        rw [q_there r tr hk, xc_e, if_pos hb]
    · by_cases n1 : n < 0
      · refine Or.inl ⟨c_beg0 ?_, fun Sr r tr => ?_⟩
        · rw [al_11 tp, n_has c hk, xc_e, if_neg hb, if_neg (by decide), if_pos n1]
        · show f_X10_ratio T Sr 199 (nI k) n = some (-1, Sr)
          unfold f_X10_ratio
          rw [q_there r tr hk, xc_e, if_neg hb, h_isIn, xc_e, if_pos n1, if_pos rfl]
      · by_cases n2 : (99 : Int32) < n
        · refine Or.inl ⟨c_beg0 ?_, fun Sr r tr => ?_⟩
          · rw [al_11 tp, n_has c hk, xc_e, if_neg hb, if_neg (by decide), if_neg n1, if_pos n2]
          · show f_X10_ratio T Sr 199 (nI k) n = some (-1, Sr)
            unfold f_X10_ratio
            rw [q_there r tr hk, xc_e, if_neg hb, h_isIn, xc_e, if_neg n1, if_pos n2, if_pos rfl]
        · obtain ⟨S1, e1, c1, g1, f1⟩ := c_beg (kd := 11) (w := (nI k)) (n := n) c g (by rw [al_11 tp, n_has c hk, xc_e, if_neg hb, if_neg (by decide), if_neg n1, if_neg n2])
          have nv : clV S1 31 40 M.now.2.2.1 := c1.2.1.2.2
          have e2 : f_X9_replace T (kF S1 31 40 M.now.2.2.1) 34 (nI k) n = _ := g_repl_ra oo c1.1 hk
          rw [c_self nv] at e2
          have e3 := pf_11 (w := (nI k)) (n := n) c1.1
          rw [rr_31_8 c1.1, e2, xc_e] at e3
          have m1 := n1
          have m2 := n2
          rw [xlt, i0] at m1
          rw [xlt, show (99 : Int32).toInt = 99 from by decide] at m2
          refine zDo_mk (by omega) e1 c1 g1 f1 e3 (kn_ok g) (bOk_mono (by omega) (b_ra (n := n) ok hk hb (by omega) (by omega))) (fun Sr r tr => ?_)
          obtain ⟨Q1, wt, y0, r1, tr1, hs, y1, y2, y3⟩ := q_rem c.2.2.1.1.1 r tr
          have e4 : f_X10_put T (rF Q1 (366 * 0) wt M.now.2.2.1 M.now.2.2.2) 199 (nI (21 + k)) n = _ := h_putra tr1 (q_hb r1) (by decide) hk
          rw [hs] at e4
          obtain ⟨X, eX, hX⟩ := some_ex e4
          have eg : encF M.rm.now.2.2.1 M.rm.now.2.2.2 (21 + k) = M.now.2.2.1 3 k := er_ra hk
          have e5 : f_X10_ratio T Sr 199 (nI k) n = some (M.now.2.2.1 3 k, X) := by
            unfold f_X10_ratio f_X10_become
            rw [q_there r tr hk, xc_e, if_neg hb, h_isIn, xc_e, if_neg n1, if_neg n2, if_neg (by decide), y0, xcv_e, ix_21, q_get r1 tr1 (k := 21 + k) (by omega), xc_e, xl_e, eX, xcv_e, xc_e, eg]
          subst hX
          exact q_mk0 e5 r1 y1 y2 y3
  · refine Or.inl ⟨c_beg0 ?_, fun Sr r tr => ?_⟩
    · rw [al_11 tp, (o8 hw T S 31).1, xc_e, if_pos rfl]
    · show f_X10_ratio T Sr 199 wh n = some (-1, Sr)
      unfold f_X10_ratio
      rw [(o8 hw T Sr 31).2.2.1, xc_e, if_pos rfl]
theorem d_pay {T : xT} {S : xS} {M : zM} {B : Int} {wh n : Int32} (c : zC T S M) (g : zG T S B M) (hB : B ≤ 2100000000) : zDo T S M (B + 1000000) 6 wh n (fun T S => f_X10_pay T S 199 wh n) (-1000000000) true := by
  have tp := c.1
  have ok : bOkF B M.now.2.2.1 := g.1.2.2
  rcases i8 wh with ⟨k, hk, rfl⟩ | hw
  · by_cases hb : xb (M.now.2.2.1 0 0) k = 0
    · refine Or.inl ⟨c_beg0 ?_, fun Sr r tr => ?_⟩
      · rw [al_6 tp, n_has c hk, xc_e, if_pos hb, if_pos rfl]
      · show f_X10_pay T Sr 199 (nI k) n = some (-1000000000, xI Sr 199 26 0)
        unfold f_X10_pay
        rw [q_there r tr hk, xc_e, if_pos hb, h_refuse, xc_e]
    · by_cases n1 : n < 1
      · refine Or.inl ⟨c_beg0 ?_, fun Sr r tr => ?_⟩
        · rw [al_6 tp, n_has c hk, xc_e, if_neg hb, if_neg (by decide), n_sum1, if_pos n1]
        · show f_X10_pay T Sr 199 (nI k) n = some (-1000000000, xI Sr 199 26 0)
          unfold f_X10_pay
          rw [q_there r tr hk, xc_e, if_neg hb, h_isIn, xc_e, if_pos n1, if_pos rfl, h_refuse, xc_e]
      · by_cases n2 : (1000000 : Int32) < n
        · refine Or.inl ⟨c_beg0 ?_, fun Sr r tr => ?_⟩
          · rw [al_6 tp, n_has c hk, xc_e, if_neg hb, if_neg (by decide), n_sum1, if_neg n1, if_pos n2]
          · show f_X10_pay T Sr 199 (nI k) n = some (-1000000000, xI Sr 199 26 0)
            unfold f_X10_pay
            rw [q_there r tr hk, xc_e, if_neg hb, h_isIn, xc_e, if_neg n1, if_pos n2, if_pos rfl, h_refuse, xc_e]
        · obtain ⟨S1, e1, c1, g1, f1⟩ := c_beg (kd := 6) (w := (nI k)) (n := n) c g (by rw [al_6 tp, n_has c hk, xc_e, if_neg hb, if_neg (by decide), n_sum1, if_neg n1, if_neg n2])
          have nv : clV S1 31 40 M.now.2.2.1 := c1.2.1.2.2
          have e2 : f_X1_payIn T (kF S1 31 40 M.now.2.2.1) 31 (nI k) n = _ := g_payIn oo c1.1 hk
          rw [c_self nv] at e2
          have e3 := pf_6 (w := (nI k)) (n := n) c1.1
          rw [e2, xc_e] at e3
          have m1 := n1
          have m2 := n2
          rw [xlt, i1] at m1
          rw [xlt, iM] at m2
          refine zDo_mk (by omega) e1 c1 g1 f1 e3 (kn_ok g) (b_pay ok hB hk hb (by omega) (by omega)) (fun Sr r tr => ?_)
          obtain ⟨Q1, wt, y0, r1, tr1, hs, y1, y2, y3⟩ := q_rem c.2.2.1.1.1 r tr
          have e4 : t_bring T (rF Q1 (366 * 0) wt M.now.2.2.1 M.now.2.2.2) (nI k) n = _ := h_bring tr1 (q_hb r1) (by decide) hk
          rw [hs] at e4
          obtain ⟨X, eX, hX⟩ := some_ex2 e4
          have e5 : f_X10_pay T Sr 199 (nI k) n = some (M.now.2.2.1 1 k + n, X) := by
            unfold f_X10_pay f_X10_brings
            rw [q_there r tr hk, xc_e, if_neg hb, h_isIn, xc_e, if_neg n1, if_neg n2, if_neg (by decide), y0, xcv_e]
            exact congrArg (fun q => xc q (fun r10 S9 => some (r10, S9))) eX
          subst hX
          exact q_mk1 e5 r1 y1 y2 y3
  · refine Or.inl ⟨c_beg0 ?_, fun Sr r tr => ?_⟩
    · rw [al_6 tp, (o8 hw T S 31).1, xc_e, if_pos rfl]
    · show f_X10_pay T Sr 199 wh n = some (-1000000000, xI Sr 199 26 0)
      unfold f_X10_pay
      rw [(o8 hw T Sr 31).2.2.1, xc_e, if_pos rfl, h_refuse, xc_e]
theorem d_draw {T : xT} {S : xS} {M : zM} {B : Int} {wh n : Int32} (c : zC T S M) (g : zG T S B M) (hB : B ≤ 2100000000) : zDo T S M (B + 1000000) 7 wh n (fun T S => f_X10_draw T S 199 wh n) (-1000000000) true := by
  have tp := c.1
  have ok : bOkF B M.now.2.2.1 := g.1.2.2
  rcases i8 wh with ⟨k, hk, rfl⟩ | hw
  · by_cases hb : xb (M.now.2.2.1 0 0) k = 0
    · refine Or.inl ⟨c_beg0 ?_, fun Sr r tr => ?_⟩
      · rw [al_7 tp, n_has c hk, xc_e, if_pos hb, if_pos rfl]
      · show f_X10_draw T Sr 199 (nI k) n = some (-1000000000, xI Sr 199 26 0)
        unfold f_X10_draw
        rw [q_there r tr hk, xc_e, if_pos hb, h_refuse, xc_e]
    · by_cases n1 : n < 1
      · refine Or.inl ⟨c_beg0 ?_, fun Sr r tr => ?_⟩
        · rw [al_7 tp, n_has c hk, xc_e, if_neg hb, if_neg (by decide), n_sum1, if_pos n1]
        · show f_X10_draw T Sr 199 (nI k) n = some (-1000000000, xI Sr 199 26 0)
          unfold f_X10_draw
          rw [q_there r tr hk, xc_e, if_neg hb, h_isIn, xc_e, if_pos n1, if_pos rfl, h_refuse, xc_e]
      · by_cases n2 : (1000000 : Int32) < n
        · refine Or.inl ⟨c_beg0 ?_, fun Sr r tr => ?_⟩
          · rw [al_7 tp, n_has c hk, xc_e, if_neg hb, if_neg (by decide), n_sum1, if_neg n1, if_pos n2]
          · show f_X10_draw T Sr 199 (nI k) n = some (-1000000000, xI Sr 199 26 0)
            unfold f_X10_draw
            rw [q_there r tr hk, xc_e, if_neg hb, h_isIn, xc_e, if_neg n1, if_pos n2, if_pos rfl, h_refuse, xc_e]
        · obtain ⟨S1, e1, c1, g1, f1⟩ := c_beg (kd := 7) (w := (nI k)) (n := n) c g (by rw [al_7 tp, n_has c hk, xc_e, if_neg hb, if_neg (by decide), n_sum1, if_neg n1, if_neg n2])
          have nv : clV S1 31 40 M.now.2.2.1 := c1.2.1.2.2
          have e2 : f_X1_payIn T (kF S1 31 40 M.now.2.2.1) 31 (nI k) (-n) = _ := g_payIn oo c1.1 hk
          rw [c_self nv] at e2
          have e3 := pf_7 (w := (nI k)) (n := n) c1.1
          rw [e2, xc_e] at e3
          have m1 := n1
          have m2 := n2
          rw [xlt, i1] at m1
          rw [xlt, iM] at m2
          have mn : (-n).toInt = -n.toInt := xneg (by omega)
          refine zDo_mk (by omega) e1 c1 g1 f1 e3 (kn_ok g) (b_pay ok hB hk hb (by omega) (by omega)) (fun Sr r tr => ?_)
          obtain ⟨Q1, wt, y0, r1, tr1, hs, y1, y2, y3⟩ := q_rem c.2.2.1.1.1 r tr
          have e4 : t_bring T (rF Q1 (366 * 0) wt M.now.2.2.1 M.now.2.2.2) (nI k) (-n) = _ := h_bring tr1 (q_hb r1) (by decide) hk
          rw [hs] at e4
          obtain ⟨X, eX, hX⟩ := some_ex2 e4
          have e5 : f_X10_draw T Sr 199 (nI k) n = some (M.now.2.2.1 1 k + (-n), X) := by
            unfold f_X10_draw f_X10_brings
            rw [q_there r tr hk, xc_e, if_neg hb, h_isIn, xc_e, if_neg n1, if_neg n2, if_neg (by decide), y0, xcv_e]
            exact congrArg (fun q => xc q (fun r10 S9 => some (r10, S9))) eX
          subst hX
          exact q_mk1 e5 r1 y1 y2 y3
  · refine Or.inl ⟨c_beg0 ?_, fun Sr r tr => ?_⟩
    · rw [al_7 tp, (o8 hw T S 31).1, xc_e, if_pos rfl]
    · show f_X10_draw T Sr 199 wh n = some (-1000000000, xI Sr 199 26 0)
      unfold f_X10_draw
      rw [(o8 hw T Sr 31).2.2.1, xc_e, if_pos rfl, h_refuse, xc_e]
theorem d_market {T : xT} {S : xS} {M : zM} {B : Int} {wh n : Int32} (c : zC T S M) (g : zG T S B M) (hB : B ≤ 2100000000) : zDo T S M (B + 1000000) 5 wh n (fun T S => f_X10_market T S 199 wh n) (-1) true := by
  have tp := c.1
  have ok : bOkF B M.now.2.2.1 := g.1.2.2
  rcases i8 wh with ⟨k, hk, rfl⟩ | hw
  · by_cases hb : xb (M.now.2.2.1 0 1) k = 0
    · refine Or.inl ⟨c_beg0 ?_, fun Sr r tr => ?_⟩
      · rw [al_5 tp, n_hasA c hk, xc_e, if_pos hb, if_pos rfl]
      · show f_X10_market T Sr 199 (nI k) n = some (-1, xI Sr 199 26 0)
        unfold f_X10_market
        rw [q_asset r tr hk, xc_e, if_pos hb, h_refuse, xc_e]
    · by_cases n1 : n < 0
      · refine Or.inl ⟨c_beg0 ?_, fun Sr r tr => ?_⟩
        · rw [al_5 tp, n_hasA c hk, xc_e, if_neg hb, if_neg (by decide), n_sum, xc_e, if_pos n1, if_pos rfl]
        · show f_X10_market T Sr 199 (nI k) n = some (-1, xI Sr 199 26 0)
          unfold f_X10_market
          rw [q_asset r tr hk, xc_e, if_neg hb, h_isIn, xc_e, if_pos n1, if_pos rfl, h_refuse, xc_e]
      · by_cases n2 : (1000000 : Int32) < n
        · refine Or.inl ⟨c_beg0 ?_, fun Sr r tr => ?_⟩
          · rw [al_5 tp, n_hasA c hk, xc_e, if_neg hb, if_neg (by decide), n_sum, xc_e, if_neg n1, if_pos n2, if_pos rfl]
          · show f_X10_market T Sr 199 (nI k) n = some (-1, xI Sr 199 26 0)
            unfold f_X10_market
            rw [q_asset r tr hk, xc_e, if_neg hb, h_isIn, xc_e, if_neg n1, if_pos n2, if_pos rfl, h_refuse, xc_e]
        · obtain ⟨S1, e1, c1, g1, f1⟩ := c_beg (kd := 5) (w := (nI k)) (n := n) c g (by rw [al_5 tp, n_hasA c hk, xc_e, if_neg hb, if_neg (by decide), n_sum, xc_e, if_neg n1, if_neg n2, if_neg (by decide)])
          have nv : clV S1 31 40 M.now.2.2.1 := c1.2.1.2.2
          have e2 : f_X9_replace T (kF S1 31 40 M.now.2.2.1) 38 (nI k) n = _ := g_repl_ma oo c1.1 hk
          rw [c_self nv] at e2
          have e3 := pf_5 (w := (nI k)) (n := n) c1.1
          rw [rr_31_12 c1.1, e2, xc_e] at e3
          have m1 := n1
          have m2 := n2
          rw [xlt, i0] at m1
          rw [xlt, iM] at m2
          refine zDo_mk (by omega) e1 c1 g1 f1 e3 (kn_ok g) (b_ma ok hk hb (by omega) (by omega)) (fun Sr r tr => ?_)
          obtain ⟨Q1, wt, y0, r1, tr1, hs, y1, y2, y3⟩ := q_rem c.2.2.1.1.1 r tr
          have e4 : f_X10_put T (rF Q1 (366 * 0) wt M.now.2.2.1 M.now.2.2.2) 199 (nI (45 + 4 * k + 2)) n = _ := h_putma tr1 (q_hb r1) (by decide) hk
          rw [hs] at e4
          obtain ⟨X, eX, hX⟩ := some_ex e4
          have eg : encF M.rm.now.2.2.1 M.rm.now.2.2.2 (45 + 4 * k + 2) = M.now.2.2.1 7 k := er_ma hk
          have e5 : f_X10_market T Sr 199 (nI k) n = some (M.now.2.2.1 7 k, xI X 199 26 1) := by
            unfold f_X10_market f_X10_become f_X10_tells
            rw [q_asset r tr hk, xc_e, if_neg hb, h_isIn, xc_e, if_neg n1, if_neg n2, if_neg (by decide), h_assetAt, xc_e, y0, xcv_e, ix452, q_get r1 tr1 (k := 45 + 4 * k + 2) (by omega), xc_e, xl_e, eX, xcv_e, xc_e, xgd_h (by decide), xpi_e, xc_e, eg]
          subst hX
          rw [rw_26] at e5
          exact q_mk1 e5 r1 y1 y2 y3
  · refine Or.inl ⟨c_beg0 ?_, fun Sr r tr => ?_⟩
    · rw [al_5 tp, (o8 hw T S 31).2.1, xc_e, if_pos rfl]
    · show f_X10_market T Sr 199 wh n = some (-1, xI Sr 199 26 0)
      unfold f_X10_market
      rw [(o8 hw T Sr 31).2.2.2, xc_e, if_pos rfl, h_refuse, xc_e]
theorem d_lose {T : xT} {S : xS} {M : zM} {B : Int} {wh n : Int32} (c : zC T S M) (g : zG T S B M) (hB : B ≤ 2100000000) : zDo T S M (B + 1000000) 2 wh n (fun T S => f_X10_lose T S 199 wh n) (-1) true := by
  have tp := c.1
  have ok : bOkF B M.now.2.2.1 := g.1.2.2
  rcases i8 wh with ⟨k, hk, rfl⟩ | hw
  · by_cases hb : xb (M.now.2.2.1 0 1) k = 0
    · refine Or.inl ⟨c_beg0 ?_, fun Sr r tr => ?_⟩
      · rw [al_2 tp, n_hasA c hk, xc_e, if_pos hb, if_pos rfl]
      · show f_X10_lose T Sr 199 (nI k) n = some (-1, xI Sr 199 26 0)
        unfold f_X10_lose
        rw [q_asset r tr hk, xc_e, if_pos hb, h_refuse, xc_e]
    · by_cases n1 : n < 1
      · refine Or.inl ⟨c_beg0 ?_, fun Sr r tr => ?_⟩
        · rw [al_2 tp, n_hasA c hk, xc_e, if_neg hb, if_neg (by decide), if_pos n1]
        · show f_X10_lose T Sr 199 (nI k) n = some (-1, xI Sr 199 26 0)
          unfold f_X10_lose
          rw [q_asset r tr hk, xc_e, if_neg hb, h_assetAt, xc_e, ix451, show f_X10_get T Sr 199 (nI (45 + 4 * k + 1)) = some (M.now.2.2.1 6 k, Sr) from (q_get r tr (by omega)).trans (congrArg (fun x => some (x, Sr)) (er_bo hk)), xc_e, h_isIn, xc_e, if_pos n1, if_pos rfl, h_refuse, xc_e]
      · by_cases n2 : M.now.2.2.1 6 k < n
        · refine Or.inl ⟨c_beg0 ?_, fun Sr r tr => ?_⟩
          · rw [al_2 tp, n_hasA c hk, xc_e, if_neg hb, if_neg (by decide), if_neg n1, rr_31_11 tp, n_at (j := 6) c (by decide) hk, if_pos n2]
          · show f_X10_lose T Sr 199 (nI k) n = some (-1, xI Sr 199 26 0)
            unfold f_X10_lose
            rw [q_asset r tr hk, xc_e, if_neg hb, h_assetAt, xc_e, ix451, show f_X10_get T Sr 199 (nI (45 + 4 * k + 1)) = some (M.now.2.2.1 6 k, Sr) from (q_get r tr (by omega)).trans (congrArg (fun x => some (x, Sr)) (er_bo hk)), xc_e, h_isIn, xc_e, if_neg n1, if_pos n2, if_pos rfl, h_refuse, xc_e]
        · obtain ⟨S1, e1, c1, g1, f1⟩ := c_beg (kd := 2) (w := (nI k)) (n := n) c g (by rw [al_2 tp, n_hasA c hk, xc_e, if_neg hb, if_neg (by decide), if_neg n1, rr_31_11 tp, n_at (j := 6) c (by decide) hk, if_neg n2])
          have nv : clV S1 31 40 M.now.2.2.1 := c1.2.1.2.2
          have e2 : f_X1_writeOff T (kF S1 31 40 M.now.2.2.1) 31 (nI k) n = _ := g_writeOff oo c1.1 hk
          rw [c_self nv] at e2
          have e3 := pf_2 (w := (nI k)) (n := n) c1.1
          rw [e2, xc_e] at e3
          have m1 := n1
          have m2 := n2
          rw [xlt, i1] at m1
          have ha := (ok.2.1 k hk)
          rw [xlt] at m2
          refine zDo_mk (by omega) e1 c1 g1 f1 e3 (kn_ok g) (b_lose ok hB hk hb (by omega) (by omega)) (fun Sr r tr => ?_)
          obtain ⟨Q1, wt, y0, r1, tr1, hs, y1, y2, y3⟩ := q_rem c.2.2.1.1.1 r tr
          have e4 : t_lose T (rF Q1 (366 * 0) wt M.now.2.2.1 M.now.2.2.2) (nI k) n = _ := h_lose tr1 (q_hb r1) (by decide) hk
          rw [hs] at e4
          obtain ⟨X, eX, hX⟩ := some_ex2 e4
          have e5 : f_X10_lose T Sr 199 (nI k) n = some (M.now.2.2.1 6 k - n, X) := by
            unfold f_X10_lose
            rw [q_asset r tr hk, xc_e, if_neg hb, h_assetAt, xc_e, ix451, show f_X10_get T Sr 199 (nI (45 + 4 * k + 1)) = some (M.now.2.2.1 6 k, Sr) from (q_get r tr (by omega)).trans (congrArg (fun x => some (x, Sr)) (er_bo hk)), xc_e, h_isIn, xc_e, if_neg n1, if_neg n2, if_neg (by decide), y0, xcv_e]
            exact eX
          subst hX
          exact q_mk1 e5 r1 y1 y2 y3
  · refine Or.inl ⟨c_beg0 ?_, fun Sr r tr => ?_⟩
    · rw [al_2 tp, (o8 hw T S 31).2.1, xc_e, if_pos rfl]
    · show f_X10_lose T Sr 199 wh n = some (-1, xI Sr 199 26 0)
      unfold f_X10_lose
      rw [(o8 hw T Sr 31).2.2.2, xc_e, if_pos rfl, h_refuse, xc_e]
theorem d_borrow {T : xT} {S : xS} {M : zM} {B : Int} {wh n : Int32} (c : zC T S M) (g : zG T S B M) (hB : B ≤ 2100000000) : zDo T S M (B + 1000000) 3 wh n (fun T S => f_X10_borrow T S 199 wh n) (-1) true := by
  have tp := c.1
  have ok : bOkF B M.now.2.2.1 := g.1.2.2
  rcases i8 wh with ⟨k, hk, rfl⟩ | hw
  · by_cases hb : xb (M.now.2.2.1 0 1) k = 0
    · refine Or.inl ⟨c_beg0 ?_, fun Sr r tr => ?_⟩
      · rw [al_3 tp, n_hasA c hk, xc_e, if_pos hb, if_pos rfl]
      · show f_X10_borrow T Sr 199 (nI k) n = some (-1, xI Sr 199 26 0)
        unfold f_X10_borrow
        rw [q_asset r tr hk, xc_e, if_pos hb, h_refuse, xc_e]
    · by_cases n1 : n < 1
      · refine Or.inl ⟨c_beg0 ?_, fun Sr r tr => ?_⟩
        · rw [al_3 tp, n_hasA c hk, xc_e, if_neg hb, if_neg (by decide), if_pos n1]
        · show f_X10_borrow T Sr 199 (nI k) n = some (-1, xI Sr 199 26 0)
          unfold f_X10_borrow
          rw [q_asset r tr hk, xc_e, if_neg hb, h_assetAt, xc_e, ix453, show f_X10_get T Sr 199 (nI (45 + 4 * k + 3)) = some (M.now.2.2.1 8 k, Sr) from (q_get r tr (by omega)).trans (congrArg (fun x => some (x, Sr)) (er_de hk)), xc_e, h_isIn, xc_e, if_pos n1, if_pos rfl, h_refuse, xc_e]
      · by_cases n2 : (1000000 : Int32) - M.now.2.2.1 8 k < n
        · refine Or.inl ⟨c_beg0 ?_, fun Sr r tr => ?_⟩
          · rw [al_3 tp, n_hasA c hk, xc_e, if_neg hb, if_neg (by decide), if_neg n1, rr_31_13 tp, n_at (j := 8) c (by decide) hk, if_pos n2]
          · show f_X10_borrow T Sr 199 (nI k) n = some (-1, xI Sr 199 26 0)
            unfold f_X10_borrow
            rw [q_asset r tr hk, xc_e, if_neg hb, h_assetAt, xc_e, ix453, show f_X10_get T Sr 199 (nI (45 + 4 * k + 3)) = some (M.now.2.2.1 8 k, Sr) from (q_get r tr (by omega)).trans (congrArg (fun x => some (x, Sr)) (er_de hk)), xc_e, h_isIn, xc_e, if_neg n1, if_pos n2, if_pos rfl, h_refuse, xc_e]
        · obtain ⟨S1, e1, c1, g1, f1⟩ := c_beg (kd := 3) (w := (nI k)) (n := n) c g (by rw [al_3 tp, n_hasA c hk, xc_e, if_neg hb, if_neg (by decide), if_neg n1, rr_31_13 tp, n_at (j := 8) c (by decide) hk, if_neg n2])
          have nv : clV S1 31 40 M.now.2.2.1 := c1.2.1.2.2
          have e2 : f_X1_changeDebt T (kF S1 31 40 M.now.2.2.1) 31 (nI k) n = _ := g_debt oo c1.1 hk
          rw [c_self nv] at e2
          have e3 := pf_3 (w := (nI k)) (n := n) c1.1
          rw [e2, xc_e] at e3
          have m1 := n1
          have m2 := n2
          rw [xlt, i1] at m1
          have ha := (ok.2.1 k hk)
          rw [xlt, xsub (by rw [iM]; omega) (by rw [iM]; omega), iM] at m2
          refine zDo_mk (by omega) e1 c1 g1 f1 e3 (kn_ok g) (b_de ok hk hb (by omega) (by omega)) (fun Sr r tr => ?_)
          obtain ⟨Q1, wt, y0, r1, tr1, hs, y1, y2, y3⟩ := q_rem c.2.2.1.1.1 r tr
          have e4 : t_owes T (rF Q1 (366 * 0) wt M.now.2.2.1 M.now.2.2.2) (nI k) n = _ := h_owes tr1 (q_hb r1) (by decide) hk
          rw [hs] at e4
          obtain ⟨X, eX, hX⟩ := some_ex2 e4
          have e5 : f_X10_borrow T Sr 199 (nI k) n = some (M.now.2.2.1 8 k + n, X) := by
            unfold f_X10_borrow f_X10_owes
            rw [q_asset r tr hk, xc_e, if_neg hb, h_assetAt, xc_e, ix453, show f_X10_get T Sr 199 (nI (45 + 4 * k + 3)) = some (M.now.2.2.1 8 k, Sr) from (q_get r tr (by omega)).trans (congrArg (fun x => some (x, Sr)) (er_de hk)), xc_e, h_isIn, xc_e, if_neg n1, if_neg n2, if_neg (by decide), y0, xcv_e]
            exact congrArg (fun q => xc q (fun r10 S9 => some (r10, S9))) eX
          subst hX
          exact q_mk1 e5 r1 y1 y2 y3
  · refine Or.inl ⟨c_beg0 ?_, fun Sr r tr => ?_⟩
    · rw [al_3 tp, (o8 hw T S 31).2.1, xc_e, if_pos rfl]
    · show f_X10_borrow T Sr 199 wh n = some (-1, xI Sr 199 26 0)
      unfold f_X10_borrow
      rw [(o8 hw T Sr 31).2.2.2, xc_e, if_pos rfl, h_refuse, xc_e]
theorem d_repay {T : xT} {S : xS} {M : zM} {B : Int} {wh n : Int32} (c : zC T S M) (g : zG T S B M) (hB : B ≤ 2100000000) : zDo T S M (B + 1000000) 4 wh n (fun T S => f_X10_repay T S 199 wh n) (-1) true := by
  have tp := c.1
  have ok : bOkF B M.now.2.2.1 := g.1.2.2
  rcases i8 wh with ⟨k, hk, rfl⟩ | hw
  · by_cases hb : xb (M.now.2.2.1 0 1) k = 0
    · refine Or.inl ⟨c_beg0 ?_, fun Sr r tr => ?_⟩
      · rw [al_4 tp, n_hasA c hk, xc_e, if_pos hb, if_pos rfl]
      · show f_X10_repay T Sr 199 (nI k) n = some (-1, xI Sr 199 26 0)
        unfold f_X10_repay
        rw [q_asset r tr hk, xc_e, if_pos hb, h_refuse, xc_e]
    · by_cases n1 : n < 1
      · refine Or.inl ⟨c_beg0 ?_, fun Sr r tr => ?_⟩
        · rw [al_4 tp, n_hasA c hk, xc_e, if_neg hb, if_neg (by decide), if_pos n1]
        · show f_X10_repay T Sr 199 (nI k) n = some (-1, xI Sr 199 26 0)
          unfold f_X10_repay
          rw [q_asset r tr hk, xc_e, if_neg hb, h_assetAt, xc_e, ix453, show f_X10_get T Sr 199 (nI (45 + 4 * k + 3)) = some (M.now.2.2.1 8 k, Sr) from (q_get r tr (by omega)).trans (congrArg (fun x => some (x, Sr)) (er_de hk)), xc_e, h_isIn, xc_e, if_pos n1, if_pos rfl, h_refuse, xc_e]
      · by_cases n2 : M.now.2.2.1 8 k < n
        · refine Or.inl ⟨c_beg0 ?_, fun Sr r tr => ?_⟩
          · rw [al_4 tp, n_hasA c hk, xc_e, if_neg hb, if_neg (by decide), if_neg n1, rr_31_13 tp, n_at (j := 8) c (by decide) hk, if_pos n2]
          · show f_X10_repay T Sr 199 (nI k) n = some (-1, xI Sr 199 26 0)
            unfold f_X10_repay
            rw [q_asset r tr hk, xc_e, if_neg hb, h_assetAt, xc_e, ix453, show f_X10_get T Sr 199 (nI (45 + 4 * k + 3)) = some (M.now.2.2.1 8 k, Sr) from (q_get r tr (by omega)).trans (congrArg (fun x => some (x, Sr)) (er_de hk)), xc_e, h_isIn, xc_e, if_neg n1, if_pos n2, if_pos rfl, h_refuse, xc_e]
        · obtain ⟨S1, e1, c1, g1, f1⟩ := c_beg (kd := 4) (w := (nI k)) (n := n) c g (by rw [al_4 tp, n_hasA c hk, xc_e, if_neg hb, if_neg (by decide), if_neg n1, rr_31_13 tp, n_at (j := 8) c (by decide) hk, if_neg n2])
          have nv : clV S1 31 40 M.now.2.2.1 := c1.2.1.2.2
          have e2 : f_X1_changeDebt T (kF S1 31 40 M.now.2.2.1) 31 (nI k) (-n) = _ := g_debt oo c1.1 hk
          rw [c_self nv] at e2
          have e3 := pf_4 (w := (nI k)) (n := n) c1.1
          rw [e2, xc_e] at e3
          have m1 := n1
          have m2 := n2
          rw [xlt, i1] at m1
          have ha := (ok.2.1 k hk)
          rw [xlt] at m2
          have mn : (-n).toInt = -n.toInt := xneg (by omega)
          refine zDo_mk (by omega) e1 c1 g1 f1 e3 (kn_ok g) (b_de ok hk hb (by omega) (by omega)) (fun Sr r tr => ?_)
          obtain ⟨Q1, wt, y0, r1, tr1, hs, y1, y2, y3⟩ := q_rem c.2.2.1.1.1 r tr
          have e4 : t_owes T (rF Q1 (366 * 0) wt M.now.2.2.1 M.now.2.2.2) (nI k) (-n) = _ := h_owes tr1 (q_hb r1) (by decide) hk
          rw [hs] at e4
          obtain ⟨X, eX, hX⟩ := some_ex2 e4
          have e5 : f_X10_repay T Sr 199 (nI k) n = some (M.now.2.2.1 8 k + (-n), X) := by
            unfold f_X10_repay f_X10_owes
            rw [q_asset r tr hk, xc_e, if_neg hb, h_assetAt, xc_e, ix453, show f_X10_get T Sr 199 (nI (45 + 4 * k + 3)) = some (M.now.2.2.1 8 k, Sr) from (q_get r tr (by omega)).trans (congrArg (fun x => some (x, Sr)) (er_de hk)), xc_e, h_isIn, xc_e, if_neg n1, if_neg n2, if_neg (by decide), y0, xcv_e]
            exact congrArg (fun q => xc q (fun r10 S9 => some (r10, S9))) eX
          subst hX
          exact q_mk1 e5 r1 y1 y2 y3
  · refine Or.inl ⟨c_beg0 ?_, fun Sr r tr => ?_⟩
    · rw [al_4 tp, (o8 hw T S 31).2.1, xc_e, if_pos rfl]
    · show f_X10_repay T Sr 199 wh n = some (-1, xI Sr 199 26 0)
      unfold f_X10_repay
      rw [(o8 hw T Sr 31).2.2.2, xc_e, if_pos rfl, h_refuse, xc_e]
theorem d_earn {T : xT} {S : xS} {M : zM} {B : Int} {wh n : Int32} (c : zC T S M) (g : zG T S B M) (hB : B ≤ 2100000000) : zDo T S M (B + 1000000) 1 wh n (fun T S => f_X10_earn T S 199 n) (-1000000000) true := by
  have tp := c.1
  have ok : bOkF B M.now.2.2.1 := g.1.2.2
  by_cases n1 : n < -1000000
  · refine Or.inl ⟨c_beg0 ?_, fun Sr r tr => ?_⟩
    · rw [al_1 tp, if_pos n1]
    · show f_X10_earn T Sr 199 n = some (-1000000000, xI Sr 199 26 0)
      unfold f_X10_earn
      rw [h_isIn, xc_e, if_pos n1, if_pos rfl, h_refuse, xc_e]
  · by_cases n2 : (1000000 : Int32) < n
    · refine Or.inl ⟨c_beg0 ?_, fun Sr r tr => ?_⟩
      · rw [al_1 tp, if_neg n1, if_pos n2]
      · show f_X10_earn T Sr 199 n = some (-1000000000, xI Sr 199 26 0)
        unfold f_X10_earn
        rw [h_isIn, xc_e, if_neg n1, if_pos n2, if_pos rfl, h_refuse, xc_e]
    · obtain ⟨S1, e1, c1, g1, f1⟩ := c_beg (kd := 1) (w := wh) (n := n) c g (by rw [al_1 tp, if_neg n1, if_neg n2])
      have nv : clV S1 31 40 M.now.2.2.1 := c1.2.1.2.2
      have e2 : f_X1_earnMore T (kF S1 31 40 M.now.2.2.1) 31 n = _ := g_earn oo
      rw [c_self nv] at e2
      have e3 := pf_1 (w := wh) (n := n) c1.1
      rw [e2, xc_e] at e3
      have m1 := n1
      have m2 := n2
      rw [xlt, jM] at m1
      rw [xlt, iM] at m2
      refine zDo_mk (by omega) e1 c1 g1 f1 e3 (kn_ok g) (b_earn ok hB (by omega) (by omega)) (fun Sr r tr => ?_)
      obtain ⟨Q1, wt, y0, r1, tr1, hs, y1, y2, y3⟩ := q_rem c.2.2.1.1.1 r tr
      have e4 : t_earn T (rF Q1 (366 * 0) wt M.now.2.2.1 M.now.2.2.2) n = _ := h_earn tr1 (q_hb r1) (by decide)
      rw [hs] at e4
      obtain ⟨X, eX, hX⟩ := some_ex2 e4
      have e5 : f_X10_earn T Sr 199 n = some (M.now.2.2.1 0 3 + n, X) := by
        unfold f_X10_earn
        rw [h_isIn, xc_e, if_neg n1, if_neg n2, if_neg (by decide), y0, xcv_e]
        exact eX
      subst hX
      exact q_mk1 e5 r1 y1 y2 y3
