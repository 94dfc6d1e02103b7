/-! a year closed, all valued anew: both sides, any books, any row -/
theorem x_close0 {T : xT} {ta sa fi ns : Nat} {S : xS} {b t : Nat} {gv gp w p l r ro cap du ra sh ow bo ma de : Nat → Int32} {tf ll kn lo pa av ca re ye ch : Int32} {u : Nat → Int32} {B : Int} (o : xbt b t) (tp : xTp T S.2.2) (ti : xTi T S.2.2 ta) (to : xTo S ta fi) (si : xSi T S.2.2 sa) (so : xSo S sa ns) (rto : rTo u fi) (hsu : ∀ k, k ≤ fi → S.1 (ta + 1) k = rsu u k) (htw : ∀ k p, k ≤ fi → p < 8 → tw S ta k p = rtw u k p) (spr : spR S sa u ns) (ok : bOk B pa av re ch cap du ra sh ow bo ma de) (hB : B ≤ 2100000000) (hp : ¬ pa = 0) :
    ∃ lo2 ro2 cap2 sh2 ow2, (∃ gv' gp' tf' ll' w' p' l' r', f_X2_closeYear T (kS S b t gv gp tf ll w p l r kn lo ro pa av ca re ye ch cap du ra sh ow bo ma de) 3 b ta sa t = some (ye + 1, (kS S b t gv' gp' tf' ll' w' p' l' r' 1 lo2 ro2 pa av ca 0 (ye + 1) (xtot (xhe bo de)) cap2 du ra sh2 ow2 bo ma de))) ∧ bOk B pa av 0 (xtot (xhe bo de)) cap2 du ra sh2 ow2 bo ma de ∧ ∀ (Q : xS) (j : Nat) (wt pt gq ls sp : Nat → Int32) (kn' lo' : Int32) (ro' : Nat → Int32), xTp T Q.2.2 → Q.1 199 1 = nI j → j ≤ 5490 → ∃ wt' pt' gq' ls' sp' P', f_X10_closeYear T (rS Q j wt pt gq ls sp (enc kn' lo' ro' pa av ca re ye ch cap du ra sh ow bo ma de u)) 199 = some (rS (xw Q 211 P') j wt' pt' gq' ls' sp' (enc 1 lo2 ro2 pa av ca 0 (ye + 1) (xtot (xhe bo de)) cap2 du ra sh2 ow2 bo ma de u)) := by
  obtain ⟨c1, c2, c3, c4, c5, c6, c7, c8, c9⟩ := bClose ok hB
  obtain ⟨⟨hpa, hav⟩, ha, hn, hab, hch, hc, how⟩ := id ok
  have hra : ∀ k, k < 8 → 0 ≤ (ra k).toInt := fun k hk => (hn k hk).2.1.1
  have hS : ∀ k, k < 8 → 0 ≤ (sh k).toInt := fun k hk => (hn k hk).2.2.1
  have hq : ∀ k, k < ns → xrcv S sa k < 8 := fun k hk => by
    obtain ⟨q, q1, q2, _⟩ := (spr.2.2 k hk).1
    unfold xrcv
    rw [q2, nI_clamp (by omega)]
    exact q1
  obtain ⟨gv', gp', tf', ll', w', p', l', r', e⟩ := g_close (T := T) (S := S) (b := b) (t := t) (gv := gv) (gp := gp) (tf := tf) (ll := ll) (w := w) (p := p) (l := l) (r := r) (kn := kn) (lo := lo) (ro := ro) (pa := pa) (av := av) (ca := ca) (re := re) (ye := ye) (ch := ch) (cap := cap) (du := du) (ra := ra) (sh := sh) (ow := ow) (bo := bo) (ma := ma) (de := de) o tp ti to si so hra hS c1
  obtain ⟨g, eg⟩ : ∃ g, gS (gF S sa pa ca ye (clsh2 pa ch re ra sh ow bo de) bo de) (xrcv S sa) ns 0 (clre3 (clre2 ch re sh ow bo de) pa (clcap2 pa ch re cap ra sh ow bo de) du (clsh2 pa ch re ra sh ow bo de)) (clcap3 (clre2 ch re sh ow bo de) pa (clcap2 pa ch re cap ra sh ow bo de) du (clsh2 pa ch re ra sh ow bo de)) (fun _ => 0) = g := ⟨_, rfl⟩
  obtain ⟨d1, d2, d3, d4⟩ := bClosed (su := S.1 (ta + 1)) (tw := tw S ta) (fi := fi) ok hB hp hq (fun q j h1 h2 => (to.2.2.1 q j h1 h2).1) eg
  rw [clo_e pa ch re cap du ra sh ow bo de (S.1 (ta + 1)) (tw S ta) fi (fun s => gF S sa pa ca ye s bo de) (xrcv S sa) ns (cl1_e pa ch re cap du ra sh ow bo de) eg] at e
  refine ⟨_, _, _, _, _, ⟨gv', gp', tf', ll', w', p', l', r', e⟩, d4, fun Q j wt pt gq ls sp kn' lo' ro' tq hb hb2 => ?_⟩
  obtain ⟨wt', pt', gq', ls', sp', P', e2⟩ := h_close (T := T) (fi := fi) (sa := sa) (ns := ns) (S0 := S) (S := Q) (b := j) (wt := wt) (pt := pt) (gq := gq) (ls := ls) (sp := sp) (kn := kn') (lo := lo') (ro := ro') (pa := pa) (av := av) (ca := ca) (re := re) (ye := ye) (ch := ch) (cap := cap) (du := du) (ra := ra) (sh := sh) (ow := ow) (bo := bo) (ma := ma) (de := de) (u := u) tq hb hb2 rto ha spr hra hS c2 c1 c3 c4 (cl1_e pa ch re cap du ra sh ow bo de) eg d1 d2 (bHi_ex hpa hp) d3
  have hg : ∀ k, k < 8 → sgp pa (rsu u) (rtw u) fi g.2.1 g.1 k = sgp pa (S.1 (ta + 1)) (tw S ta) fi g.2.1 g.1 k := sgp_cong (fun x hx => (hsu x (by omega)).symm) (fun x p hx hp => (htw x p hx hp).symm)
  obtain ⟨k1, k2, k3⟩ := sh_cong (res := g.1) (pa := pa) (lo := 0) (ra := ra) (cap := g.2.1) (du := du) (sh := clsh2 pa ch re ra sh ow bo de) (ro := rop 4 g.2.2 (clro3 (clre2 ch re sh ow bo de) pa ch re ra sh ow bo de (clcap2 pa ch re cap ra sh ow bo de) du (clsh2 pa ch re ra sh ow bo de))) hg
  rw [k2, en_cap k1, en_ro k3] at e2
  exact ⟨wt', pt', gq', ls', sp', P', e2⟩
theorem x_anew0 {T : xT} {ta fi : Nat} {S : xS} {b t : Nat} {gv gp w p l r ro cap du ra sh ow bo ma de : Nat → Int32} {tf ll kn lo pa av ca re ye ch : Int32} {u : Nat → Int32} {B : Int} (o : xbt b t) (tp : xTp T S.2.2) (ti : xTi T S.2.2 ta) (to : xTo S ta fi) (rto : rTo u fi) (hsu : ∀ k, k ≤ fi → S.1 (ta + 1) k = rsu u k) (htw : ∀ k p, k ≤ fi → p < 8 → tw S ta k p = rtw u k p) (ok : bOk B pa av re ch cap du ra sh ow bo ma de) (hB : B ≤ 2100000000) :
    ∃ lo2 ro2 cap2, (∃ gv' gp' tf' ll' w' p' l' r', f_X2_valueAnew T (kS S b t gv gp tf ll w p l r kn lo ro pa av ca re ye ch cap du ra sh ow bo ma de) 3 b ta t = some (xtot ma - xtot bo, (kS S b t gv' gp' tf' ll' w' p' l' r' 1 lo2 ro2 pa av ca re ye ch cap2 du ra sh ow ma ma de))) ∧ (pa = 0 → cap2 = cap) ∧ (¬ pa = 0 → bOk B pa av 0 ch cap2 du ra sh ow ma ma de) ∧ ∀ (Q : xS) (j : Nat) (wt pt gq ls sp : Nat → Int32), xTp T Q.2.2 → Q.1 199 1 = nI j → j ≤ 5490 → ∃ wt' pt' gq' ls' sp', f_X10_valueAnew T (rS Q j wt pt gq ls sp (enc kn lo ro pa av ca re ye ch cap du ra sh ow bo ma de u)) 199 = some (if pa = 0 then xtot ma - xtot bo else 0, (rS Q j wt' pt' gq' ls' sp' (enc 1 lo2 ro2 pa av ca (if pa = 0 then re else 0) ye ch cap2 du ra sh ow ma ma de u))) := by
  obtain ⟨c1, c2, c3, c4⟩ := bAnew (su := S.1 (ta + 1)) (tw := tw S ta) (fi := fi) ok hB (fun q j h1 h2 => (to.2.2.1 q j h1 h2).1)
  obtain ⟨⟨hpa, hav⟩, ha, hn, hab, hch, hc, how⟩ := id ok
  have hra : ∀ k, k < 8 → 0 ≤ (ra k).toInt := fun k hk => (hn k hk).2.1.1
  obtain ⟨gv', gp', tf', ll', w', p', l', r', e⟩ := g_anewAll (T := T) (S := S) (b := b) (t := t) (gv := gv) (gp := gp) (tf := tf) (ll := ll) (w := w) (p := p) (l := l) (r := r) (kn := kn) (lo := lo) (ro := ro) (pa := pa) (av := av) (ca := ca) (re := re) (ye := ye) (ch := ch) (cap := cap) (du := du) (ra := ra) (sh := sh) (ow := ow) (bo := bo) (ma := ma) (de := de) o tp ti to hra
  have hg : ∀ k, k < 8 → sgp pa (rsu u) (rtw u) fi cap (xtot ma - xtot bo) k = sgp pa (S.1 (ta + 1)) (tw S ta) fi cap (xtot ma - xtot bo) k := sgp_cong (fun x hx => (hsu x (by omega)).symm) (fun x p hx hp => (htw x p hx hp).symm)
  obtain ⟨k1, k2, k3⟩ := sh_cong (res := xtot ma - xtot bo) (pa := pa) (lo := 0) (ra := ra) (cap := cap) (du := du) (sh := sh) (ro := fun _ => 0) hg
  by_cases hp : pa = 0
  · simp only [if_pos hp] at e ⊢
    refine ⟨_, _, _, ⟨gv', gp', tf', ll', w', p', l', r', e⟩, fun _ => rfl, fun z => absurd hp z, fun Q j wt pt gq ls sp tq hb hb2 => ?_⟩
    obtain ⟨wt', pt', gq', ls', sp', e2⟩ := h_anewAll (T := T) (fi := fi) (S := Q) (b := j) (wt := wt) (pt := pt) (gq := gq) (ls := ls) (sp := sp) (kn := kn) (lo := lo) (ro := ro) (pa := pa) (av := av) (ca := ca) (re := re) (ye := ye) (ch := ch) (cap := cap) (du := du) (ra := ra) (sh := sh) (ow := ow) (bo := bo) (ma := ma) (de := de) (u := u) tq hb hb2 rto ha hra c1 c2 (bHi_ex hpa) c3
    simp only [if_pos hp] at e2
    exact ⟨wt', pt', gq', ls', sp', e2⟩
  · simp only [if_neg hp] at e ⊢
    refine ⟨_, _, _, ⟨gv', gp', tf', ll', w', p', l', r', e⟩, fun z => absurd z hp, fun _ => (c4 hp).1, fun Q j wt pt gq ls sp tq hb hb2 => ?_⟩
    obtain ⟨wt', pt', gq', ls', sp', e2⟩ := h_anewAll (T := T) (fi := fi) (S := Q) (b := j) (wt := wt) (pt := pt) (gq := gq) (ls := ls) (sp := sp) (kn := kn) (lo := lo) (ro := ro) (pa := pa) (av := av) (ca := ca) (re := re) (ye := ye) (ch := ch) (cap := cap) (du := du) (ra := ra) (sh := sh) (ow := ow) (bo := bo) (ma := ma) (de := de) (u := u) tq hb hb2 rto ha hra c1 c2 (bHi_ex hpa) c3
    simp only [if_neg hp] at e2
    rw [k2, en_cap k1, en_ro k3] at e2
    exact ⟨wt', pt', gq', ls', sp', e2⟩
