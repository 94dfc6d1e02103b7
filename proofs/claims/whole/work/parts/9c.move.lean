/-! close, come, go -/
theorem up_same {f : Nat → Int32} {i : Nat} {v : Int32} (h : f i = v) : va_up f i v = f := by
  subst h
  exact xup_self f i
theorem n_ta {α : Type} {T : xT} {S : xS} {M : zM} (c : zC T S M) (ti : xTi T S.2.2 M.now.1) {K : Nat → Option α} : xgr T S 17 2 8 K = K M.now.1 := xgr_mk c.2.1.1 (by have := ti.2.1.1; omega) ti.2.1.2.1
theorem n_sa {α : Type} {T : xT} {S : xS} {M : zM} (c : zC T S M) (si : xSi T S.2.2 M.now.2.1) {K : Nat → Option α} : xgr T S 17 3 4 K = K M.now.2.1 := xgr_mk c.2.1.2.1 (by have := si.2.1.1; omega) si.2.1.2
theorem q_get0 {T : xT} {S : xS} {M : zM} (r : zR S M) (tp : xTp T S.2.2) : f_X10_get T S 199 (0 : Int32) = some (M.now.2.2.1 0 0, S) := q_get (k := 0) r tp (by decide)
theorem q_get2 {T : xT} {S : xS} {M : zM} (r : zR S M) (tp : xTp T S.2.2) : f_X10_get T S 199 (2 : Int32) = some (M.now.2.2.1 0 3, S) := q_get (k := 2) r tp (by decide)
def t_close (T : xT) (S : xS) : Option (Int32 × xS) := xcv (f_X10_closeYear T S 199) (fun S4 => xc (f_X10_get T S4 199 ((1 : Int32))) (fun r6 S5 => xc (f_X10_tells T S5 199 r6) (fun r8 S7 => some (r8, S7))))
theorem t_close_e {T : xT} {S : xS} {b : Nat} {wt pt gq ls sp ro cap du ra sh ow bo ma de u : Nat → Int32} {kn lo pa av ca re ye ch : Int32} {Q : xS} {P : Nat → Int32} (e : f_X10_closeYear T Q 199 = some (rS (xw S 211 P) b wt pt gq ls sp (enc kn lo ro pa av ca re ye ch cap du ra sh ow bo ma de u))) (tp : xTp T S.2.2) (hb : S.1 199 1 = nI b) (hb2 : b ≤ 5490) : t_close T Q = some (ye, (rS (xI (xw S 211 P) 199 26 1) b wt pt gq ls sp (enc kn lo ro pa av ca re ye ch cap du ra sh ow bo ma de u))) := by
  unfold t_close
  rw [e, xcv_e, rget_1 (S := xw S 211 P) tp (xw_hb hb) hb2, xc_e, h_tells, xc_e]
theorem d_close {T : xT} {S : xS} {M : zM} {B : Int} {wh n : Int32} (c : zC T S M) (g : zG T S B M) (hB : B ≤ 2100000000) : zDo T S M (B + 1000000) 0 wh n (fun T S => f_X10_close T S 199) (-1) true := by
  have tp := c.1
  have ok : bOkF B M.now.2.2.1 := g.1.2.2
  by_cases hp : M.now.2.2.1 0 0 = 0
  · refine Or.inl ⟨c_beg0 ?_, fun Sr r tr => ?_⟩
    · rw [al_0 tp, n_0 c (by decide), if_pos hp]
    · show f_X10_close T Sr 199 = some (-1, xI Sr 199 26 0)
      unfold f_X10_close
      rw [q_get0 r tr, xc_e, if_pos hp, h_refuse, xc_e]
  · obtain ⟨S1, e1, c1, g1, f1⟩ := c_beg (kd := 0) (w := wh) (n := n) c g (by rw [al_0 tp, n_0 c (by decide), if_neg hp])
    have nv : clV S1 31 40 M.now.2.2.1 := c1.2.1.2.2
    obtain ⟨fi, ns, ⟨ti, to⟩, ⟨si, so⟩, ⟨rto, hsu, htw⟩, spr⟩ := (show gTS T S1 M.now.1 M.now.2.1 M.now.2.2.2 from g1.1.1)
    obtain ⟨lo2, ro2, cap2, sh2, ow2, ⟨gv', gp', tf', ll', w', p', l', r', e2⟩, ok2, hq⟩ := x_close0 (T := T) (S := S1) (b := 31) (t := 40) (gv := (S1.1 4)) (gp := (S1.1 5)) (tf := (S1.1 3 2)) (ll := (S1.1 3 3)) (w := (S1.1 6)) (p := (S1.1 7)) (l := (S1.1 8)) (r := (S1.1 9)) (kn := (M.now.2.2.1 9 0)) (lo := (M.now.2.2.1 9 1)) (ro := (M.now.2.2.1 10)) (pa := (M.now.2.2.1 0 0)) (av := (M.now.2.2.1 0 1)) (ca := (M.now.2.2.1 0 2)) (re := (M.now.2.2.1 0 3)) (ye := (M.now.2.2.1 0 4)) (ch := (M.now.2.2.1 0 5)) (cap := (M.now.2.2.1 1)) (du := (M.now.2.2.1 2)) (ra := (M.now.2.2.1 3)) (sh := (M.now.2.2.1 4)) (ow := (M.now.2.2.1 5)) (bo := (M.now.2.2.1 6)) (ma := (M.now.2.2.1 7)) (de := (M.now.2.2.1 8)) (u := M.now.2.2.2) oo c1.1 ti to si so rto hsu htw spr ok hB hp
    have e2' : f_X2_closeYear T (kF S1 31 40 M.now.2.2.1) 3 31 M.now.1 M.now.2.1 40 = _ := e2
    rw [c_self nv] at e2'
    have e3 := pf_0 (w := wh) (n := n) c1.1
    rw [rr_0_1 c1.1, rr_0_4 c1.1, show xgr T S1 17 2 8 _ = _ from n_ta (M := M.rm) c1 ti, rr_0_4 c1.1, show xgr T S1 17 3 4 _ = _ from n_sa (M := M.rm) c1 si, rr_0_4 c1.1, rr_17_1 c1.1, show f_X2_closeYear T S1 3 31 M.rm.now.1 M.rm.now.2.1 40 = _ from e2', xc_e] at e3
    refine zDo_mk (by omega) e1 c1 g1 f1 e3 (Or.inr rfl) (bOk_mono (by omega) ok2) (fun Sr r tr => ?_)
    obtain ⟨Q1, wt, y0, r1, tr1, hs, y1, y2, y3⟩ := q_rem c.2.2.1.1.1 r tr
    obtain ⟨wt', pt', gq', ls', sp', P', e4⟩ := hq Q1 (366 * 0) wt (Q1.1 205) (Q1.1 206) (Q1.1 207) (Q1.1 208) (M.now.2.2.1 9 0) (M.now.2.2.1 9 1) (M.now.2.2.1 10) tr1 (q_hb r1) (by decide)
    have e4' : f_X10_closeYear T (rF Q1 (366 * 0) wt M.now.2.2.1 M.now.2.2.2) 199 = _ := e4
    rw [hs] at e4'
    refine q_mk (Eq.trans ?_ (t_close_e e4' tr1 (q_hb r1) (by decide))) r1 y1 y2 y3 rfl (fun a h1 h2 => by rw [xI_ne h1, xw_ne _ _ h2]) (fun k h => by rw [xI_at h, xw_ne _ _ (by decide)]) (fun _ => by rw [xI_1, xup_at])
    show f_X10_close T Sr 199 = _
    unfold f_X10_close
    rw [q_get0 r tr, xc_e, if_neg hp, y0, xcv_e]
    rfl
def t_comeC (T : xT) (S : xS) (b ta t : Nat) (p n : Int32) : Option (Int32 × xS) := xc (f_X2_valueAnew T S 3 b ta t) (fun r42 S41 => xc (f_X1_letIn T S41 b p n r42) (fun r44 S43 => some (r44, S43)))
def t_comeR (T : xT) (S : xS) (p n : Int32) : Option (Int32 × xS) := xc (f_X10_valueAnew T S 199) (fun r17 S16 => xl r17 (fun v18 => xcv (f_X10_arrives T S16 199 p) (fun S19 => xcv (f_X10_more T S19 199 ((3 : Int32)) n) (fun S20 => xcv (f_X10_put T S20 199 (((5 : Int32) + p)) ((v18 + n))) (fun S21 => xc (f_X10_get T S21 199 (((5 : Int32) + p))) (fun r23 S22 => xc (f_X10_tells T S22 199 r23) (fun r25 S24 => some (r25, S24))))))))
theorem x_come0 {T : xT} {ta fi i : Nat} {n : Int32} {S : xS} {b t : Nat} {gv gp w p l r ro cap du ra sh ow bo ma de : Nat → Int32} {tf ll kn lo pa av ca re ye ch : Int32} {u : Nat → Int32} {B : Int} (o : xbt b t) (tp : xTp T S.2.2) (ti : xTi T S.2.2 ta) (to : xTo S ta fi) (rto : rTo u fi) (hsu : ∀ k, k ≤ fi → S.1 (ta + 1) k = rsu u k) (htw : ∀ k p, k ≤ fi → p < 8 → tw S ta k p = rtw u k p) (hre : re = 0) (ok : bOk B pa av re ch cap du ra sh ow bo ma de) (hB : B ≤ 2100000000) (hi : i < 8) (hx : xb pa i = 0) (n1 : 0 ≤ n.toInt) (n2 : n.toInt ≤ 1000000) :
    ∃ v lo2 ro2 cap2, (∃ gv' gp' tf' ll' w' p' l' r', t_comeC T (kS S b t gv gp tf ll w p l r kn lo ro pa av ca re ye ch cap du ra sh ow bo ma de) b ta t (nI i) n = some (v, (kS S b t gv' gp' tf' ll' w' p' l' r' 1 lo2 ro2 (pa ||| ((1 : Int32) <<< (nI i &&& 31))) av (ca + n) 0 ye ch cap2 du (va_up ra i 1) sh ow ma ma de))) ∧ bOk (B + 1000000) (pa ||| ((1 : Int32) <<< (nI i &&& 31))) av 0 ch cap2 du (va_up ra i 1) sh ow ma ma de ∧ ∀ (Q : xS) (j : Nat) (wt pt gq ls sp : Nat → Int32), xTp T Q.2.2 → Q.1 199 1 = nI j → j ≤ 5490 → ∃ wt' pt' gq' ls' sp', t_comeR T (rS Q j wt pt gq ls sp (enc kn lo ro pa av ca re ye ch cap du ra sh ow bo ma de u)) (nI i) n = some (v, (rS (xI Q 199 26 1) j wt' pt' gq' ls' sp' (enc 1 lo2 ro2 (pa ||| ((1 : Int32) <<< (nI i &&& 31))) av (ca + n) 0 ye ch cap2 du (va_up ra i 1) sh ow ma ma de u))) := by
  subst hre
  obtain ⟨lo2, ro2, cap2, ⟨gv', gp', tf', ll', w', p', l', r', e⟩, hc0, hc1, hr⟩ := x_anew0 (T := T) (S := S) (b := b) (t := t) (gv := gv) (gp := gp) (tf := tf) (ll := ll) (w := w) (p := p) (l := l) (r := r) (kn := kn) (lo := lo) (ro := ro) (pa := pa) (av := av) (ca := ca) (re := 0) (ye := ye) (ch := ch) (cap := cap) (du := du) (ra := ra) (sh := sh) (ow := ow) (bo := bo) (ma := ma) (de := de) (u := u) o tp ti to rto hsu htw ok hB
  have ok2 := b_come (i := i) (n := n) ok hB hi hx n1 n2 hc0 hc1
  refine ⟨(if pa = 0 then xtot ma - xtot bo else 0) + n, lo2, ro2, va_up cap2 i ((if pa = 0 then xtot ma - xtot bo else 0) + n), ⟨gv', gp', tf', ll', w', p', l', r', ?_⟩, ok2, fun Q j wt pt gq ls sp tq hb hb2 => ?_⟩
  · unfold t_comeC
    rw [e, xc_e, g_letIn o tp hi, xc_e]
  · obtain ⟨wt', pt', gq', ls', sp', e2⟩ := hr Q j wt pt gq ls sp tq hb hb2
    obtain ⟨a1, a2, a3, a4, a5⟩ := ok.2.2.2.1 i hi hx
    refine ⟨wt', pt', gq', ls', sp', ?_⟩
    unfold t_comeR
    rw [e2, xc_e, xl_e, h_arrives tq hb hb2 hi, xcv_e, rmore_3 tq hb hb2, xcv_e, ix_5, rput tq hb hb2 (by omega), xcv_e, ew_cap hi, xup2, rget tq hb hb2 (by omega), xc_e, er_cap hi, xup_at, h_tells, xc_e, up_same a2, up_same a4, up_same a5, ite_self]
theorem d_come {T : xT} {S : xS} {M : zM} {B : Int} {wh n : Int32} (c : zC T S M) (g : zG T S B M) (hB : B ≤ 2100000000) : zDo T S M (B + 1000000) 8 wh n (fun T S => f_X10_come T S 199 wh n) (-1) true := by
  have tp := c.1
  have ok : bOkF B M.now.2.2.1 := g.1.2.2
  rcases i8 wh with ⟨k, hk, rfl⟩ | hw
  · have k0 : ¬ nI k < 0 := by rw [xlt, nI_toInt (by omega), i0]; omega
    have k8 : ¬ (8 : Int32) ≤ nI k := x8_f hk
    by_cases hb : xb (M.now.2.2.1 0 0) k = 0
    · by_cases n1 : n < 0
      · refine Or.inl ⟨c_beg0 ?_, fun Sr r tr => ?_⟩
        · rw [al_8 tp, if_neg k0, if_neg k8, n_has c hk, xc_e, if_pos hb, if_pos rfl, n_sum, xc_e, if_pos n1, if_pos rfl]
        · show f_X10_come T Sr 199 (nI k) n = some (-1, xI Sr 199 26 0)
          unfold f_X10_come
          rw [h_isIn7 T Sr hk, xc_e, if_neg (by decide), q_there r tr hk, xc_e, if_pos hb, h_isIn, xc_e, if_pos n1, if_pos rfl, h_refuse, xc_e]
      · by_cases n2 : (1000000 : Int32) < n
        · refine Or.inl ⟨c_beg0 ?_, fun Sr r tr => ?_⟩
          · rw [al_8 tp, if_neg k0, if_neg k8, n_has c hk, xc_e, if_pos hb, if_pos rfl, n_sum, xc_e, if_neg n1, if_pos n2, if_pos rfl]
          · show f_X10_come T Sr 199 (nI k) n = some (-1, xI Sr 199 26 0)
            unfold f_X10_come
            rw [h_isIn7 T Sr hk, xc_e, if_neg (by decide), q_there r tr hk, xc_e, if_pos hb, h_isIn, xc_e, if_neg n1, if_pos n2, if_pos rfl, h_refuse, xc_e]
        · by_cases hre : M.now.2.2.1 0 3 = 0
          · obtain ⟨S1, e1, c1, g1, f1⟩ := c_beg (kd := 8) (w := nI k) (n := n) c g (by rw [al_8 tp, if_neg k0, if_neg k8, n_has c hk, xc_e, if_pos hb, if_pos rfl, n_sum, xc_e, if_neg n1, if_neg n2, if_neg (by decide), n_0 c (by decide), if_pos hre])
            have nv : clV S1 31 40 M.now.2.2.1 := c1.2.1.2.2
            obtain ⟨fi, ns, ⟨ti, to⟩, _, ⟨rto, hsu, htw⟩, _⟩ := (show gTS T S1 M.now.1 M.now.2.1 M.now.2.2.2 from g1.1.1)
            have m1 := n1
            have m2 := n2
            rw [xlt, i0] at m1
            rw [xlt, iM] at m2
            obtain ⟨v, lo2, ro2, cap2, ⟨gv', gp', tf', ll', w', p', l', r', e2⟩, ok2, hq⟩ := x_come0 (T := T) (i := k) (n := n) (S := S1) (b := 31) (t := 40) (gv := (S1.1 4)) (gp := (S1.1 5)) (tf := (S1.1 3 2)) (ll := (S1.1 3 3)) (w := (S1.1 6)) (p := (S1.1 7)) (l := (S1.1 8)) (r := (S1.1 9)) (kn := (M.now.2.2.1 9 0)) (lo := (M.now.2.2.1 9 1)) (ro := (M.now.2.2.1 10)) (pa := (M.now.2.2.1 0 0)) (av := (M.now.2.2.1 0 1)) (ca := (M.now.2.2.1 0 2)) (re := (M.now.2.2.1 0 3)) (ye := (M.now.2.2.1 0 4)) (ch := (M.now.2.2.1 0 5)) (cap := (M.now.2.2.1 1)) (du := (M.now.2.2.1 2)) (ra := (M.now.2.2.1 3)) (sh := (M.now.2.2.1 4)) (ow := (M.now.2.2.1 5)) (bo := (M.now.2.2.1 6)) (ma := (M.now.2.2.1 7)) (de := (M.now.2.2.1 8)) (u := M.now.2.2.2) oo c1.1 ti to rto hsu htw hre ok hB hk hb (by omega) (by omega)
            have e2' : t_comeC T (kF S1 31 40 M.now.2.2.1) 31 M.now.1 40 (nI k) n = _ := e2
            rw [c_self nv] at e2'
            have e3 := pf_8 (w := nI k) (n := n) c1.1
            rw [rr_0_1 c1.1, rr_0_4 c1.1, show xgr T S1 17 2 8 _ = _ from n_ta (M := M.rm) c1 ti, rr_0_4 c1.1, rr_17_1 c1.1] at e3
            refine zDo_mk (by omega) e1 c1 g1 f1 (e3.trans e2') (Or.inr rfl) ok2 (fun Sr r tr => ?_)
            obtain ⟨Q1, wt, y0, r1, tr1, hs, y1, y2, y3⟩ := q_rem c.2.2.1.1.1 r tr
            obtain ⟨wt', pt', gq', ls', sp', e4⟩ := hq Q1 (366 * 0) wt (Q1.1 205) (Q1.1 206) (Q1.1 207) (Q1.1 208) tr1 (q_hb r1) (by decide)
            have e4' : t_comeR T (rF Q1 (366 * 0) wt M.now.2.2.1 M.now.2.2.2) (nI k) n = _ := e4
            rw [hs] at e4'
            refine q_mk1 (Eq.trans ?_ e4') r1 y1 y2 y3
            show f_X10_come T Sr 199 (nI k) n = _
            unfold f_X10_come
            rw [h_isIn7 T Sr hk, xc_e, if_neg (by decide), q_there r tr hk, xc_e, if_pos hb, h_isIn, xc_e, if_neg n1, if_neg n2, if_neg (by decide), q_get2 r tr, xc_e, if_pos hre, y0, xcv_e]
            rfl
          · refine Or.inl ⟨c_beg0 ?_, fun Sr r tr => ?_⟩
            · rw [al_8 tp, if_neg k0, if_neg k8, n_has c hk, xc_e, if_pos hb, if_pos rfl, n_sum, xc_e, if_neg n1, if_neg n2, if_neg (by decide), n_0 c (by decide), if_neg hre]
            · show f_X10_come T Sr 199 (nI k) n = some (-1, xI Sr 199 26 0)
              unfold f_X10_come
              rw [h_isIn7 T Sr hk, xc_e, if_neg (by decide), q_there r tr hk, xc_e, if_pos hb, h_isIn, xc_e, if_neg n1, if_neg n2, if_neg (by decide), q_get2 r tr, xc_e, if_neg hre, h_refuse, xc_e]
    · refine Or.inl ⟨c_beg0 ?_, fun Sr r tr => ?_⟩
      · rw [al_8 tp, if_neg k0, if_neg k8, n_has c hk, xc_e, if_neg hb, if_neg (by decide)]
      · show f_X10_come T Sr 199 (nI k) n = some (-1, xI Sr 199 26 0)
        unfold f_X10_come
        rw [h_isIn7 T Sr hk, xc_e, if_neg (by decide), q_there r tr hk, xc_e, if_neg hb, h_refuse, xc_e]
  · refine Or.inl ⟨c_beg0 ?_, fun Sr r tr => ?_⟩
    · rw [al_8 tp]
      by_cases z : wh < 0
      · rw [if_pos z]
      · rw [if_neg z]
        rcases hw with hw | hw
        · exact absurd hw z
        · rw [if_pos hw]
    · show f_X10_come T Sr 199 wh n = some (-1, xI Sr 199 26 0)
      unfold f_X10_come
      rw [h_out (show wh < 0 ∨ (7 : Int32) < wh from hw.imp id (fun z => by rw [xle, show (8 : Int32).toInt = 8 from by decide] at z; rw [xlt, show (7 : Int32).toInt = 7 from by decide]; omega)), xc_e, if_pos rfl, h_refuse, xc_e]
