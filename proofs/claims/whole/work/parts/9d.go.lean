/-! go, sell -/
theorem has_neg {v d : Int32} (h : v < 0) (hv : -2147483648 < v.toInt) (hd : 0 ≤ d.toInt) : -(xmin (-v) d) = xmax v (-d) := by
  have e1 : (-v).toInt = -v.toInt := xneg hv
  have e2 : (-d).toInt = -d.toInt := xneg (by omega)
  rw [xlt, i0] at h
  rw [xeq, xneg (by rw [xmin_i, e1]; omega), xmin_i, xmax_i, e1, e2]
  omega
theorem has_pos {v d : Int32} (h : ¬ v < 0) (hd : 0 ≤ d.toInt) : v = xmax v (-d) := by
  have e2 : (-d).toInt = -d.toInt := xneg (by omega)
  rw [xlt, i0] at h
  rw [xeq, xmax_i, e2]
  omega
def t_goC (T : xT) (S : xS) (b ta t : Nat) (p : Int32) : Option (Int32 × xS) := xc (f_X2_valueAnew T S 3 b ta t) (fun r52 S51 => xgr T S51 0 1 2 (fun a53 => xc (f_X2_letOut T S51 a53 p b) (fun r55 S54 => some (r55, S54))))
def t_goR (T : xT) (S : xS) (p : Int32) : Option (Int32 × xS) := xc (f_X10_valueAnew T S 199) (fun r13 S12 => xl r13 (fun v14 => xc (f_X10_get T S12 199 (((5 : Int32) + p))) (fun r16 S15 => xl r16 (fun v17 => if v17 < (0 : Int32) then xc (f_X10_get T S15 199 (((13 : Int32) + p))) (fun r19 S18 => xc (f_X10_lesser T S18 ((-v17)) r19) (fun r21 S20 => f_X10_go_73 T S20 199 p v17 ((-r21)))) else f_X10_go_73 T S15 199 p v17 v17))))
theorem x_go0 {T : xT} {ta fi i : Nat} {S : xS} {b t : Nat} {gv gp w p l r ro cap du ra sh ow bo ma de : Nat → Int32} {tf ll kn lo pa av ca re ye ch : Int32} {u : Nat → Int32} {B : Int} (o : xbt b t) (tp : xTp T S.2.2) (ti : xTi T S.2.2 ta) (to : xTo S ta fi) (rto : rTo u fi) (hsu : ∀ k, k ≤ fi → S.1 (ta + 1) k = rsu u k) (htw : ∀ k p, k ≤ fi → p < 8 → tw S ta k p = rtw u k p) (hre : re = 0) (ok : bOk B pa av re ch cap du ra sh ow bo ma de) (hB : B ≤ 2100000000) (hi : i < 8) (hp : ¬ pa = 0) :
    ∃ v lo2 ro2 cap2 sh2 ow2, (∃ gv' gp' tf' ll' w' p' l' r', t_goC T (kS S b t gv gp tf ll w p l r kn lo ro pa av ca re ye ch cap du ra sh ow bo ma de) b ta t (nI i) = some (v, (kS S b t gv' gp' tf' ll' w' p' l' r' 1 lo2 ro2 (xwo pa i) av (ca - v) 0 ye ch cap2 (va_up du i 0) (va_up ra i 0) sh2 ow2 ma ma de))) ∧ bOk B (xwo pa i) av 0 ch cap2 (va_up du i 0) (va_up ra i 0) sh2 ow2 ma ma de ∧ ∀ (Q : xS) (j : Nat) (wt pt gq ls sp : Nat → Int32), xTp T Q.2.2 → Q.1 199 1 = nI j → j ≤ 5490 → ∃ wt' pt' gq' ls' sp', t_goR T (rS Q j wt pt gq ls sp (enc kn lo ro pa av ca re ye ch cap du ra sh ow bo ma de u)) (nI i) = some (v, (rS (xI Q 199 26 1) j wt' pt' gq' ls' sp' (enc 1 lo2 ro2 (xwo pa i) av (ca - v) 0 ye ch cap2 (va_up du i 0) (va_up ra i 0) sh2 ow2 ma ma de u))) := by
  subst hre
  obtain ⟨lo2, ro2, cap2, ⟨gv', gp', tf', ll', w', p', l', r', e⟩, _, hc1, hr⟩ := x_anew0 (T := T) (S := S) (b := b) (t := t) (gv := gv) (gp := gp) (tf := tf) (ll := ll) (w := w) (p := p) (l := l) (r := r) (kn := kn) (lo := lo) (ro := ro) (pa := pa) (av := av) (ca := ca) (re := 0) (ye := ye) (ch := ch) (cap := cap) (du := du) (ra := ra) (sh := sh) (ow := ow) (bo := bo) (ma := ma) (de := de) (u := u) o tp ti to rto hsu htw ok hB
  have ok1 := hc1 hp
  obtain ⟨hm0, ok2⟩ := b_go (i := i) ok1 hB hi
  have hn := ok1.2.2.1
  have hra : ∀ k, k < 8 → 0 ≤ (ra k).toInt := fun k hk => (hn k hk).2.1.1
  obtain ⟨w2, p2, e2⟩ := g_letOut (T := T) (i := i) (S := S) (b := b) (t := t) (gv := gv') (gp := gp') (tf := tf') (ll := ll') (w := w') (p := p') (l := l') (r := r') (kn := 1) (lo := lo2) (ro := ro2) (pa := pa) (av := av) (ca := ca) (re := 0) (ye := ye) (ch := ch) (cap := cap2) (du := du) (ra := ra) (sh := sh) (ow := ow) (bo := ma) (ma := ma) (de := de) o tp hi hra
  refine ⟨xmax (cap2 i) (-(du i)), lo2, ro2, _, _, _, ⟨gv', gp', tf', ll', w2, p2, l', r', ?_⟩, ok2, fun Q j wt pt gq ls sp tq hb hb2 => ?_⟩
  · unfold t_goC
    rw [e, xc_e, rr_0_1 (S := (kS S b t gv' gp' tf' ll' w' p' l' r' 1 lo2 ro2 pa av ca 0 ye ch cap2 du ra sh ow ma ma de)) tp, e2, xc_e]
  · obtain ⟨wt', pt', gq', ls', sp', e3⟩ := hr Q j wt pt gq ls sp tq hb hb2
    obtain ⟨wt2, pt2, e4⟩ := h_go73 (T := T) (i := i) (v := cap2 i) (has := xmax (cap2 i) (-(du i))) (S := Q) (b := j) (wt := wt') (pt := pt') (gq := gq') (ls := ls') (sp := sp') (kn := 1) (lo := lo2) (ro := ro2) (pa := pa) (av := av) (ca := ca) (re := 0) (ye := ye) (ch := ch) (cap := cap2) (du := du) (ra := ra) (sh := sh) (ow := ow) (bo := ma) (ma := ma) (de := de) (u := u) tq hb hb2 hi hm0 hra (fun k hk => (hn k hk).2.2.1) (fun k hk => (hn k hk).2.2.2)
    refine ⟨wt2, pt2, gq', ls', sp', ?_⟩
    have hv : -2147483648 < (cap2 i).toInt := by
      have q1 := xNg_get cap2 hi
      have q2 := ok1.2.2.2.2.2.1.2
      have q3 := xDp_nn ma ma
      omega
    unfold t_goR
    rw [e3, xc_e, xl_e, ix_5, ix_13, ite_self, rget tq hb hb2 (by omega), xc_e, xl_e, er_cap hi]
    by_cases q : cap2 i < 0
    · rw [if_pos q, rget tq hb hb2 (by omega), xc_e, er_du hi, h_lesser, xc_e, has_neg q hv (hn i hi).1.1]
      exact e4
    · rw [if_neg q]
      have hh := has_pos q (hn i hi).1.1
      rw [show f_X10_go_73 T (rS Q j wt' pt' gq' ls' sp' (enc 1 lo2 ro2 pa av ca 0 ye ch cap2 du ra sh ow ma ma de u)) 199 (nI i) (cap2 i) (cap2 i) = f_X10_go_73 T (rS Q j wt' pt' gq' ls' sp' (enc 1 lo2 ro2 pa av ca 0 ye ch cap2 du ra sh ow ma ma de u)) 199 (nI i) (cap2 i) (xmax (cap2 i) (-(du i))) by rw [← hh]]
      exact e4
theorem d_go {T : xT} {S : xS} {M : zM} {B : Int} {wh n : Int32} (c : zC T S M) (g : zG T S B M) (hB : B ≤ 2100000000) : zDo T S M B 9 wh n (fun T S => f_X10_go T S 199 wh) (-1000000000) true := by
  have tp := c.1
  have ok : bOkF B M.now.2.2.1 := g.1.2.2
  rcases i8 wh with ⟨k, hk, rfl⟩ | hw
  · by_cases hb : xb (M.now.2.2.1 0 0) k = 0
    · refine Or.inl ⟨c_beg0 ?_, fun Sr r tr => ?_⟩
      · rw [al_9 tp, n_has c hk, xc_e, if_pos hb, if_pos rfl]
      · show f_X10_go T Sr 199 (nI k) = some (-1000000000, xI Sr 199 26 0)
        unfold f_X10_go
        rw [q_there r tr hk, xc_e, if_pos hb, h_refuse, xc_e]
    · have hp : ¬ M.now.2.2.1 0 0 = 0 := fun z => hb (by rw [z]; exact xb_zero k (by omega))
      by_cases h1 : M.now.2.2.1 0 0 = (1 : Int32) <<< (nI k &&& 31)
      · refine Or.inl ⟨c_beg0 ?_, fun Sr r tr => ?_⟩
        · rw [al_9 tp, n_has c hk, xc_e, if_neg hb, if_neg (by decide), n_0 c (by decide), if_pos h1]
        · show f_X10_go T Sr 199 (nI k) = some (-1000000000, xI Sr 199 26 0)
          unfold f_X10_go
          rw [q_there r tr hk, xc_e, if_neg hb, q_get0 r tr, xc_e, if_pos h1, h_refuse, xc_e]
      · by_cases hre : M.now.2.2.1 0 3 = 0
        · obtain ⟨S1, e1, c1, g1, f1⟩ := c_beg (kd := 9) (w := nI k) (n := n) c g (by rw [al_9 tp, n_has c hk, xc_e, if_neg hb, if_neg (by decide), n_0 c (by decide), if_neg h1, n_0 c (by decide), if_pos hre])
          have nv : clV S1 31 40 M.now.2.2.1 := c1.2.1.2.2
          obtain ⟨fi, ns, ⟨ti, to⟩, _, ⟨rto, hsu, htw⟩, _⟩ := (show gTS T S1 M.now.1 M.now.2.1 M.now.2.2.2 from g1.1.1)
          obtain ⟨v, lo2, ro2, cap2, sh2, ow2, ⟨gv', gp', tf', ll', w', p', l', r', e2⟩, ok2, hq⟩ := x_go0 (T := T) (i := k) (S := S1) (b := 31) (t := 40) (gv := (S1.1 4)) (gp := (S1.1 5)) (tf := (S1.1 3 2)) (ll := (S1.1 3 3)) (w := (S1.1 6)) (p := (S1.1 7)) (l := (S1.1 8)) (r := (S1.1 9)) (kn := (M.now.2.2.1 9 0)) (lo := (M.now.2.2.1 9 1)) (ro := (M.now.2.2.1 10)) (pa := (M.now.2.2.1 0 0)) (av := (M.now.2.2.1 0 1)) (ca := (M.now.2.2.1 0 2)) (re := (M.now.2.2.1 0 3)) (ye := (M.now.2.2.1 0 4)) (ch := (M.now.2.2.1 0 5)) (cap := (M.now.2.2.1 1)) (du := (M.now.2.2.1 2)) (ra := (M.now.2.2.1 3)) (sh := (M.now.2.2.1 4)) (ow := (M.now.2.2.1 5)) (bo := (M.now.2.2.1 6)) (ma := (M.now.2.2.1 7)) (de := (M.now.2.2.1 8)) (u := M.now.2.2.2) oo c1.1 ti to rto hsu htw hre ok hB hk hp
          have e2' : t_goC T (kF S1 31 40 M.now.2.2.1) 31 M.now.1 40 (nI k) = _ := e2
          rw [c_self nv] at e2'
          have e3 := pf_9 (w := nI k) (n := n) c1.1
          rw [rr_0_1 c1.1, rr_0_4 c1.1, show xgr T S1 17 2 8 _ = _ from n_ta (M := M.rm) c1 ti, rr_0_4 c1.1, rr_17_1 c1.1] at e3
          refine zDo_mk (Int.le_refl _) e1 c1 g1 f1 (e3.trans e2') (Or.inr rfl) ok2 (fun Sr r tr => ?_)
          obtain ⟨Q1, wt, y0, r1, tr1, hs, y1, y2, y3⟩ := q_rem c.2.2.1.1.1 r tr
          obtain ⟨wt', pt', gq', ls', sp', e4⟩ := hq Q1 (366 * 0) wt (Q1.1 205) (Q1.1 206) (Q1.1 207) (Q1.1 208) tr1 (q_hb r1) (by decide)
          have e4' : t_goR T (rF Q1 (366 * 0) wt M.now.2.2.1 M.now.2.2.2) (nI k) = _ := e4
          rw [hs] at e4'
          refine q_mk1 (Eq.trans ?_ e4') r1 y1 y2 y3
          show f_X10_go T Sr 199 (nI k) = _
          unfold f_X10_go
          rw [q_there r tr hk, xc_e, if_neg hb, q_get0 r tr, xc_e, if_neg h1, q_get2 r tr, xc_e, if_pos hre, y0, xcv_e]
          rfl
        · refine Or.inl ⟨c_beg0 ?_, fun Sr r tr => ?_⟩
          · rw [al_9 tp, n_has c hk, xc_e, if_neg hb, if_neg (by decide), n_0 c (by decide), if_neg h1, n_0 c (by decide), if_neg hre]
          · show f_X10_go T Sr 199 (nI k) = some (-1000000000, xI Sr 199 26 0)
            unfold f_X10_go
            rw [q_there r tr hk, xc_e, if_neg hb, q_get0 r tr, xc_e, if_neg h1, q_get2 r tr, xc_e, if_neg hre, h_refuse, xc_e]
  · refine Or.inl ⟨c_beg0 ?_, fun Sr r tr => ?_⟩
    · rw [al_9 tp, (o8 hw T S 31).1, xc_e, if_pos rfl]
    · show f_X10_go T Sr 199 wh = some (-1000000000, xI Sr 199 26 0)
      unfold f_X10_go
      rw [(o8 hw T Sr 31).2.2.1, xc_e, if_pos rfl, h_refuse, xc_e]
theorem sl1 {T : xT} {n k : Nat} {S : xS} {x : Int32} (hk : k < 4) : f_X10_sell_62 T (n + 1) S 199 x (nI k) = xcv (f_X10_put T S 199 (x + nI k) 0) (fun S3 => f_X10_sell_62 T n S3 199 x (nI (k + 1))) := by
  conv => lhs; unfold f_X10_sell_62
  rw [if_neg (show ¬ (4 : Int32) ≤ nI k by rw [xle, nI_toInt (by omega), show (4 : Int32).toInt = 4 from by decide]; omega), nI_1]
  rfl
def t_sell (T : xT) (S : xS) (p : Int32) : Option (Int32 × xS) := xc (f_X10_assetAt T S p) (fun r5 S4 => xl r5 (fun v6 => xc (f_X10_get T S4 199 ((v6 + (2 : Int32)))) (fun r8 S7 => xc (f_X10_get T S7 199 ((v6 + (3 : Int32)))) (fun r10 S9 => xcv (f_X10_more T S9 199 ((3 : Int32)) ((r8 - r10))) (fun S11 => xc (f_X10_get T S11 199 ((v6 + (2 : Int32)))) (fun r13 S12 => xc (f_X10_get T S12 199 ((v6 + (1 : Int32)))) (fun r15 S14 => xcv (f_X10_more T S14 199 ((2 : Int32)) ((r13 - r15))) (fun S16 => xl ((0 : Int32)) (fun v17 => f_X10_sell_62 T xfu S16 199 v6 v17)))))))))
theorem h_sell {T : xT} {S : xS} {b : Nat} {wt pt gq ls sp ro cap du ra sh ow bo ma de u : Nat → Int32} {kn lo pa av ca re ye ch : Int32} (tp : xTp T S.2.2) (hb : S.1 199 1 = nI b) (hb2 : b ≤ 5490) {i : Nat} (hi : i < 8) : t_sell T (rS S b wt pt gq ls sp (enc kn lo ro pa av ca re ye ch cap du ra sh ow bo ma de u)) (nI i) = some (re + (ma i - bo i), (rS S b wt pt gq ls sp (enc kn lo ro pa (xwo av i) (ca + (ma i - de i)) (re + (ma i - bo i)) ye ch cap du ra sh ow (va_up bo i 0) (va_up ma i 0) (va_up de i 0) u))) := by
  unfold t_sell
  rw [h_assetAt, xc_e, xl_e, ix452, ix453, ix451, rget tp hb hb2 (by omega), xc_e, rget tp hb hb2 (by omega), xc_e, er_ma hi, er_de hi, rmore_3 tp hb hb2, xcv_e, rget tp hb hb2 (by omega), xc_e, rget tp hb hb2 (by omega), xc_e, er_ma hi, er_bo hi, rmore_2 tp hb hb2, xcv_e, xl_e]
  rw [show xfu = 995 + 1 + 1 + 1 + 1 + 1 from rfl, show (0 : Int32) = nI 0 from rfl, sl1 (by decide), nI_add, rput tp hb hb2 (by omega), xcv_e, sl1 (by decide), nI_add, rput tp hb hb2 (by omega), xcv_e, sl1 (by decide), nI_add, rput tp hb hb2 (by omega), xcv_e, sl1 (by decide), nI_add, rput tp hb hb2 (by omega), xcv_e]
  unfold f_X10_sell_62
  rw [if_pos (by decide), show 45 + 4 * i + 0 + 0 = 45 + 4 * i + 0 from rfl, show (0 + 1 : Nat) = 1 from rfl, show 45 + 4 * i + 0 + 1 = 45 + 4 * i + 1 from rfl, show 45 + 4 * i + 0 + (1 + 1) = 45 + 4 * i + 2 from rfl, show 45 + 4 * i + 0 + (1 + 1 + 1) = 45 + 4 * i + 3 from rfl, ew_off hi, ew_bo hi, ew_ma hi, ew_de hi, rget_2 tp hb hb2, xc_e]
  rfl
theorem d_sell {T : xT} {S : xS} {M : zM} {B : Int} {wh n : Int32} (c : zC T S M) (g : zG T S B M) (hB : B ≤ 2100000000) : zDo T S M (B + 1000000) 12 wh n (fun T S => f_X10_sell T S 199 wh) (-1000000000) false := by
  have tp := c.1
  have ok : bOkF B M.now.2.2.1 := g.1.2.2
  rcases i8 wh with ⟨k, hk, rfl⟩ | hw
  · by_cases hb : xb (M.now.2.2.1 0 1) k = 0
    · refine Or.inl ⟨c_beg0 ?_, fun Sr r tr => ?_⟩
      · rw [al_12 tp, n_hasA c hk, xc_e, if_pos hb, xgd_h (by decide)]
      · show f_X10_sell T Sr 199 (nI k) = some (-1000000000, Sr)
        unfold f_X10_sell
        rw [q_asset r tr hk, xc_e, if_pos hb]
    · obtain ⟨S1, e1, c1, g1, f1⟩ := c_beg (kd := 12) (w := nI k) (n := n) c g (by rw [al_12 tp, n_hasA c hk, xc_e, if_neg hb, xgd_h (by decide)])
      have nv : clV S1 31 40 M.now.2.2.1 := c1.2.1.2.2
      have e2 : f_X1_sellAsset T (kF S1 31 40 M.now.2.2.1) 31 (nI k) = _ := g_sellA oo c1.1 hk
      rw [c_self nv] at e2
      have e3 := pf_12 (w := nI k) (n := n) c1.1
      rw [e2, xc_e] at e3
      refine zDo_mk (by omega) e1 c1 g1 f1 e3 (kn_ok g) (bOk_mono (by omega) (b_sell ok hB hk)) (fun Sr r tr => ?_)
      obtain ⟨Q1, wt, y0, r1, tr1, hs, y1, y2, y3⟩ := q_rem c.2.2.1.1.1 r tr
      have e4 : t_sell T (rF Q1 (366 * 0) wt M.now.2.2.1 M.now.2.2.2) (nI k) = _ := h_sell tr1 (q_hb r1) (by decide) hk
      rw [hs] at e4
      refine q_mk0 (Eq.trans ?_ e4) r1 y1 y2 y3
      show f_X10_sell T Sr 199 (nI k) = _
      unfold f_X10_sell
      rw [q_asset r tr hk, xc_e, if_neg hb, y0, xcv_e]
      rfl
  · refine Or.inl ⟨c_beg0 ?_, fun Sr r tr => ?_⟩
    · rw [al_12 tp, (o8 hw T S 31).2.1, xc_e, xgd_h (by decide)]
    · show f_X10_sell T Sr 199 wh = some (-1000000000, Sr)
      unfold f_X10_sell
      rw [(o8 hw T Sr 31).2.2.2, xc_e, if_pos rfl]
