/-! a year closed, all valued anew, in the reference -/
def clri (ch : Int32) (bo de : Nat → Int32) : Int32 := xtot (xhe bo de) - ch
def clre2 (ch re : Int32) (sh ow bo de : Nat → Int32) : Int32 := clr1 (-(clri ch bo de)) re sh ow + cN (xmin (clri ch bo de) (-(clr1 (-(clri ch bo de)) re sh ow)))
def clcap2 (pa ch re : Int32) (cap ra sh ow bo de : Nat → Int32) : Nat → Int32 := fun k => (cap k + clC (-(clri ch bo de)) re sh ow k) - clD (clri ch bo de) (clr1 (-(clri ch bo de)) re sh ow) pa ra k
def clsh2 (pa ch re : Int32) (ra sh ow bo de : Nat → Int32) : Nat → Int32 := fun k => (sh k - clA (-(clri ch bo de)) sh k) + clD (clri ch bo de) (clr1 (-(clri ch bo de)) re sh ow) pa ra k
def clow2 (ch re : Int32) (sh ow bo de : Nat → Int32) : Nat → Int32 := fun k => clB (-(clri ch bo de)) sh ow k - clC (-(clri ch bo de)) re sh ow k
def clre3 (re2 pa : Int32) (cap2 du sh2 : Nat → Int32) : Int32 := re2 - cN (xmin re2 (xtot (cW pa cap2 du sh2)))
def clcap3 (re2 pa : Int32) (cap2 du sh2 : Nat → Int32) : Nat → Int32 := fun k => cap2 k + clE re2 pa cap2 du sh2 k
def clro3 (re2 pa ch re : Int32) (ra sh ow bo de cap2 du sh2 : Nat → Int32) : Nat → Int32 := rop 3 (clE re2 pa cap2 du sh2) (rop 2 (clD (clri ch bo de) (clr1 (-(clri ch bo de)) re sh ow) pa ra) (rop 1 (clC (-(clri ch bo de)) re sh ow) (rop 0 (clA (-(clri ch bo de)) sh) (fun _ => 0))))
theorem cl1_e (pa ch re : Int32) (cap du ra sh ow bo de : Nat → Int32) : cl1 pa ch re cap du ra sh ow bo de = (clre3 (clre2 ch re sh ow bo de) pa (clcap2 pa ch re cap ra sh ow bo de) du (clsh2 pa ch re ra sh ow bo de), clcap3 (clre2 ch re sh ow bo de) pa (clcap2 pa ch re cap ra sh ow bo de) du (clsh2 pa ch re ra sh ow bo de), clsh2 pa ch re ra sh ow bo de, clow2 ch re sh ow bo de, clro3 (clre2 ch re sh ow bo de) pa ch re ra sh ow bo de (clcap2 pa ch re cap ra sh ow bo de) du (clsh2 pa ch re ra sh ow bo de)) := rfl
theorem clo_e (pa ch re : Int32) (cap du ra sh ow bo de su : Nat → Int32) (tw : Nat → Nat → Int32) (fi : Nat) (G : (Nat → Int32) → Nat → Int32 → (Nat → Int32) → Int32) (Q : Nat → Nat) (ns : Nat) {re3 : Int32} {cap3 sh2 ow2 ro3 : Nat → Int32} (e : cl1 pa ch re cap du ra sh ow bo de = (re3, cap3, sh2, ow2, ro3)) {g : Int32 × (Nat → Int32) × (Nat → Int32)} (eg : gS (G sh2) Q ns 0 re3 cap3 (fun _ => 0) = g) : clo pa ch re cap du ra sh ow bo de su tw fi G Q ns = (shO g.1 pa ra g.2.1 du sh2 (sgp pa su tw fi g.2.1 g.1) 0, shC g.1 pa ra g.2.1 du sh2 (sgp pa su tw fi g.2.1 g.1), sh2, ow2, shR g.1 pa ra g.2.1 du sh2 (sgp pa su tw fi g.2.1 g.1) (rop 4 g.2.2 ro3)) := by
  subst eg
  unfold clo
  rw [e]
theorem h_close {T : xT} {fi sa ns : Nat} {S0 : xS} {S : xS} {b : Nat} {wt pt gq ls sp ro cap du ra sh ow bo ma de u : Nat → Int32} {kn lo pa av ca re ye ch : Int32} (tp : xTp T S.2.2) (hb : S.1 199 1 = nI b) (hb2 : b ≤ 5490) (to : rTo u fi) (ha : xAs av bo ma de) (sr : spR S0 sa u ns) (hra : ∀ k, k < 8 → 0 ≤ (ra k).toInt) (hS : ∀ k, k < 8 → 0 ≤ (sh k).toInt) (hSt : 0 ≤ (xtot sh).toInt) (hO : ∀ k, k < 8 → 0 ≤ (clB (-(clri ch bo de)) sh ow k).toInt) (hOt : 0 ≤ (xtot (clB (-(clri ch bo de)) sh ow)).toInt) (ht : 0 ≤ (xtot (cW pa (clcap2 pa ch re cap ra sh ow bo de) du (clsh2 pa ch re ra sh ow bo de))).toInt) {re3 : Int32} {cap3 sh2 ow2 ro3 : Nat → Int32} (e : cl1 pa ch re cap du ra sh ow bo de = (re3, cap3, sh2, ow2, ro3)) {g : Int32 × (Nat → Int32) × (Nat → Int32)} (eg : gS (gF S0 sa pa ca ye sh2 bo de) (xrcv S0 sa) ns 0 re3 cap3 (fun _ => 0) = g) (hre : -2147483648 < g.1.toInt) (hct : -2147483648 < (xtot g.2.1 + g.1).toInt) (hex : ∃ p, 0 ≤ p ∧ p < 8 ∧ ¬ xb pa p = 0) (hab : ∀ p, p < 8 → xb pa p = 0 → g.2.1 p = 0) : ∃ wt' pt' gq' ls' sp' P', f_X10_closeYear T (rS S b wt pt gq ls sp (enc kn lo ro pa av ca re ye ch cap du ra sh ow bo ma de u)) 199 = some (rS (xw S 211 P') b wt' pt' gq' ls' sp' (enc 1 (shO g.1 pa ra g.2.1 du sh2 (sgp pa (rsu u) (rtw u) fi g.2.1 g.1) 0) (shR g.1 pa ra g.2.1 du sh2 (sgp pa (rsu u) (rtw u) fi g.2.1 g.1) (rop 4 g.2.2 ro3)) pa av ca 0 (ye + 1) (xtot (xhe bo de)) (shC g.1 pa ra g.2.1 du sh2 (sgp pa (rsu u) (rtw u) fi g.2.1 g.1)) du ra sh2 ow2 bo ma de u)) := by
  rw [cl1_e] at e
  obtain ⟨e1, e2⟩ := Prod.mk.inj e
  obtain ⟨e2, e3⟩ := Prod.mk.inj e2
  obtain ⟨e3, e4⟩ := Prod.mk.inj e3
  obtain ⟨e4, e5⟩ := Prod.mk.inj e4
  clear e
  unfold f_X10_closeYear
  rw [h_forget tp hb hb2, xcv_e, h_held tp hb hb2 ha, xc_e, rget_4 tp hb hb2, xc_e, xl_e]
  have er : xtot (xhe bo de) - ch = clri ch bo de := rfl
  rw [er]
  obtain ⟨wt1, pt1, q1⟩ := h_charge (T := T) (fa := -(clri ch bo de)) (S := S) (b := b) (wt := wt) (pt := pt) (gq := gq) (ls := ls) (sp := sp) (kn := 1) (lo := 0) (ro := fun _ => 0) (pa := pa) (av := av) (ca := ca) (re := re) (ye := ye) (ch := ch) (cap := cap) (du := du) (ra := ra) (sh := sh) (ow := ow) (bo := bo) (ma := ma) (de := de) (u := u) tp hb hb2 hS hSt hO hOt
  rw [q1, xcv_e]
  clear q1
  obtain ⟨wt2, pt2, q2⟩ := h_loss (T := T) (ri := clri ch bo de) (S := S) (b := b) (wt := wt1) (pt := pt1) (gq := gq) (ls := ls) (sp := sp) (kn := 1) (lo := 0) (ro := rop 1 (clC (-(clri ch bo de)) re sh ow) (rop 0 (clA (-(clri ch bo de)) sh) (fun _ => 0))) (pa := pa) (av := av) (ca := ca) (re := clr1 (-(clri ch bo de)) re sh ow) (ye := ye) (ch := ch) (cap := fun k => cap k + clC (-(clri ch bo de)) re sh ow k) (du := du) (ra := ra) (sh := fun k => sh k - clA (-(clri ch bo de)) sh k) (ow := fun k => clB (-(clri ch bo de)) sh ow k - clC (-(clri ch bo de)) re sh ow k) (bo := bo) (ma := ma) (de := de) (u := u) tp hb hb2 hra
  rw [q2, xcv_e]
  clear q2
  obtain ⟨wt3, pt3, q3⟩ := h_cure (T := T) (S := S) (b := b) (wt := wt2) (pt := pt2) (gq := gq) (ls := ls) (sp := sp) (kn := 1) (lo := 0) (ro := rop 2 (clD (clri ch bo de) (clr1 (-(clri ch bo de)) re sh ow) pa ra) (rop 1 (clC (-(clri ch bo de)) re sh ow) (rop 0 (clA (-(clri ch bo de)) sh) (fun _ => 0)))) (pa := pa) (av := av) (ca := ca) (re := clre2 ch re sh ow bo de) (ye := ye) (ch := ch) (cap := clcap2 pa ch re cap ra sh ow bo de) (du := du) (ra := ra) (sh := clsh2 pa ch re ra sh ow bo de) (ow := clow2 ch re sh ow bo de) (bo := bo) (ma := ma) (de := de) (u := u) tp hb hb2 ht
  erw [q3]
  clear q3
  rw [xcv_e]
  have z3 : ∀ k, 32 ≤ k → clro3 (clre2 ch re sh ow bo de) pa ch re ra sh ow bo de (clcap2 pa ch re cap ra sh ow bo de) du (clsh2 pa ch re ra sh ow bo de) k = 0 := fun k hk => by
    unfold clro3
    rw [rop_out (by omega), rop_out (by omega), rop_out (by omega), rop_out (by omega)]
  obtain ⟨P4, q4⟩ := h_give (T := T) (S0 := S0) (S := S) (b := b) (wt := wt3) (pt := pt3) (gq := gq) (ls := ls) (sp := sp) (kn := 1) (lo := 0) (ro := clro3 (clre2 ch re sh ow bo de) pa ch re ra sh ow bo de (clcap2 pa ch re cap ra sh ow bo de) du (clsh2 pa ch re ra sh ow bo de)) (pa := pa) (av := av) (ca := ca) (re := clre3 (clre2 ch re sh ow bo de) pa (clcap2 pa ch re cap ra sh ow bo de) du (clsh2 pa ch re ra sh ow bo de)) (ye := ye) (ch := ch) (cap := clcap3 (clre2 ch re sh ow bo de) pa (clcap2 pa ch re cap ra sh ow bo de) du (clsh2 pa ch re ra sh ow bo de)) (du := du) (ra := ra) (sh := clsh2 pa ch re ra sh ow bo de) (ow := clow2 ch re sh ow bo de) (bo := bo) (ma := ma) (de := de) (u := u) tp hb hb2 ha sr (fun k h1 _ => z3 k h1)
  erw [q4]
  clear q4
  rw [xcv_e]
  rw [e5] at z3
  rw [e5, e1, e2, e4, e3, eg]
  clear e1 e2 e3 e4 e5 eg ht hO hOt hS hSt er
  have hb4 := xw_hb (P := P4) hb
  obtain ⟨wt5, pt5, gq5, ls5, sp5, q5⟩ := h_share (T := T) (fi := fi) (S := xw S 211 P4) (b := b) (wt := wt3) (pt := pt3) (gq := gq) (ls := ls) (sp := sp) (kn := 1) (lo := 0) (ro := rop 4 g.2.2 ro3) (pa := pa) (av := av) (ca := ca) (re := g.1) (ye := ye) (ch := ch) (cap := g.2.1) (du := du) (ra := ra) (sh := sh2) (ow := ow2) (bo := bo) (ma := ma) (de := de) (u := u) tp hb4 hb2 to hre hct hra hex rfl hab (fun k h1 h2 => by rw [rop_out (by omega)]; exact z3 k (by omega))
  rw [q5, xcv_e, h_held (S := xw S 211 P4) tp hb4 hb2 ha, xc_e, rput_4 (S := xw S 211 P4) tp hb4 hb2, xcv_e, rmore_1 (S := xw S 211 P4) tp hb4 hb2, xcv_e]
  exact ⟨wt5, pt5, gq5, ls5, sp5, P4, rfl⟩
/-! sums of wrapped numbers -/
theorem xsm_c (f : Nat → Int32) : ∀ (m i : Nat) (c : Int32), xsm f m i c = c + xsm f m i 0
  | 0, i, c => by show c = c + 0; rw [xadd0]
  | m + 1, i, c => by
    show xsm f m (i + 1) (c + f i) = c + xsm f m (i + 1) (0 + f i)
    rw [xsm_c f m (i + 1) (c + f i), xsm_c f m (i + 1) (0 + f i)]
    grind
theorem xsm_add (f g : Nat → Int32) : ∀ (m i : Nat), xsm (fun k => f k + g k) m i 0 = xsm f m i 0 + xsm g m i 0
  | 0, i => by show (0 : Int32) = 0 + 0; rfl
  | m + 1, i => by
    show xsm (fun k => f k + g k) m (i + 1) (0 + (f i + g i)) = xsm f m (i + 1) (0 + f i) + xsm g m (i + 1) (0 + g i)
    rw [xsm_c _ m (i + 1) (0 + (f i + g i)), xsm_c f m (i + 1) (0 + f i), xsm_c g m (i + 1) (0 + g i), xsm_add f g m (i + 1)]
    grind
theorem xsm_sub (f g : Nat → Int32) : ∀ (m i : Nat), xsm (fun k => f k - g k) m i 0 = xsm f m i 0 - xsm g m i 0
  | 0, i => by show (0 : Int32) = 0 - 0; rfl
  | m + 1, i => by
    show xsm (fun k => f k - g k) m (i + 1) (0 + (f i - g i)) = xsm f m (i + 1) (0 + f i) - xsm g m (i + 1) (0 + g i)
    rw [xsm_c _ m (i + 1) (0 + (f i - g i)), xsm_c f m (i + 1) (0 + f i), xsm_c g m (i + 1) (0 + g i), xsm_sub f g m (i + 1)]
    grind
theorem L_ranew0 {T : xT} {S : xS} {b : Nat} {wt pt gq ls sp ro cap du ra sh ow bo ma de u : Nat → Int32} {kn lo pa av ca re ye ch : Int32} (tp : xTp T S.2.2) (hb : S.1 199 1 = nI b) (hb2 : b ≤ 5490) {n : Nat} {c : Int32} : f_X10_valueAnew_4 T n (rS S b wt pt gq ls sp (enc kn lo ro pa av ca re ye ch cap du ra sh ow (xm 8 ma bo) ma de u)) 199 c (nI 8) = f_X10_valueAnew_4 T n (rS S b wt pt gq ls sp (enc kn lo ro pa av ca re ye ch cap du ra sh ow ma ma de u)) 199 c (nI 8) := by
  have hh : (rS S b wt pt gq ls sp (enc kn lo ro pa av ca re ye ch cap du ra sh ow (xm 8 ma bo) ma de u)) = (rS S b wt pt gq ls sp (enc kn lo ro pa av ca re ye ch cap du ra sh ow ma ma de u)) := by
    rw [en_bo (bo := xm 8 ma bo) (g := ma) xm_8]
  rw [hh]
theorem L_ranew1 {T : xT} {S : xS} {b : Nat} {wt pt gq ls sp ro cap du ra sh ow bo ma de u : Nat → Int32} {kn lo pa av ca re ye ch : Int32} (tp : xTp T S.2.2) (hb : S.1 199 1 = nI b) (hb2 : b ≤ 5490) (ha : xAs av bo ma de) {n i : Nat} {c : Int32} (hi8 : i < 8) : f_X10_valueAnew_4 T (n + 1) (rS S b wt pt gq ls sp (enc kn lo ro pa av ca re ye ch cap du ra sh ow (xm i ma bo) ma de u)) 199 c (nI i) = f_X10_valueAnew_4 T n (rS S b wt pt gq ls sp (enc kn lo ro pa av ca re ye ch cap du ra sh ow (xm (i + 1) ma bo) ma de u)) 199 (c + (ma i - bo i)) (nI (i + 1)) := by
  have e3 := xm_s i ma bo
  rw [← e3]
  by_cases hx : xb av i = 0
  · obtain ⟨e4, e5, _⟩ := (ha i hi8).2.2.2 hx
    have e7 : ma i - bo i = 0 := by rw [e4, e5]; rfl
    have e6 : va_up (xm i ma bo) i (ma i) = xm i ma bo := by
      have : ma i = xm i ma bo i := by rw [xm_at, e4]; exact e5
      rw [this, xup_self]
    rw [e7, e6, xadd0, f_X10_valueAnew_4]
    rw [if_neg (x8_f hi8), h_asset tp hb hb2 hi8, xc_e, if_pos hx, xl_e, nI_1]
  · rw [f_X10_valueAnew_4, if_neg (x8_f hi8), h_asset tp hb hb2 hi8, xc_e, if_neg hx, h_assetAt, xc_e, ix452, rget tp hb hb2 (by omega), xc_e, er_ma hi8, h_assetAt, xc_e, ix451, rget tp hb hb2 (by omega), xc_e, er_bo hi8, xl_e, h_assetAt, xc_e, h_assetAt, xc_e, ix452, rget tp hb hb2 (by omega), xc_e, er_ma hi8, ix451, rput tp hb hb2 (by omega), xcv_e, ew_bo hi8, xl_e, nI_1, xm_at]
theorem L_ranew {T : xT} {S : xS} {b : Nat} {wt pt gq ls sp ro cap du ra sh ow bo ma de u : Nat → Int32} {kn lo pa av ca re ye ch : Int32} (tp : xTp T S.2.2) (hb : S.1 199 1 = nI b) (hb2 : b ≤ 5490) (ha : xAs av bo ma de) {n : Nat} : ∀ (m i : Nat) (c : Int32), i + m = 8 → f_X10_valueAnew_4 T (n + m) (rS S b wt pt gq ls sp (enc kn lo ro pa av ca re ye ch cap du ra sh ow (xm i ma bo) ma de u)) 199 c (nI i) = f_X10_valueAnew_4 T n (rS S b wt pt gq ls sp (enc kn lo ro pa av ca re ye ch cap du ra sh ow ma ma de u)) 199 (xsm (fun k => ma k - bo k) m i c) (nI 8)
  | 0, i, c, hi => by
    obtain rfl : i = 8 := by omega
    exact L_ranew0 tp hb hb2
  | m + 1, i, c, hi => by
    exact (L_ranew1 (n := n + m) tp hb hb2 ha (by omega)).trans (L_ranew tp hb hb2 ha m (i + 1) (c + (ma i - bo i)) (by omega))
theorem h_anewAll {T : xT} {fi : Nat} {S : xS} {b : Nat} {wt pt gq ls sp ro cap du ra sh ow bo ma de u : Nat → Int32} {kn lo pa av ca re ye ch : Int32} (tp : xTp T S.2.2) (hb : S.1 199 1 = nI b) (hb2 : b ≤ 5490) (to : rTo u fi) (ha : xAs av bo ma de) (hra : ∀ k, k < 8 → 0 ≤ (ra k).toInt) (hre : -2147483648 < (xtot ma - xtot bo).toInt) (hct : -2147483648 < (xtot cap + (xtot ma - xtot bo)).toInt) (hex : ¬ pa = 0 → ∃ p, 0 ≤ p ∧ p < 8 ∧ ¬ xb pa p = 0) (hab : ∀ p, p < 8 → xb pa p = 0 → cap p = 0) : ∃ wt' pt' gq' ls' sp', f_X10_valueAnew T (rS S b wt pt gq ls sp (enc kn lo ro pa av ca re ye ch cap du ra sh ow bo ma de u)) 199 = some (if pa = 0 then xtot ma - xtot bo else 0, (rS S b wt' pt' gq' ls' sp' (enc 1 (if pa = 0 then 0 else shO (xtot ma - xtot bo) pa ra cap du sh (sgp pa (rsu u) (rtw u) fi cap (xtot ma - xtot bo)) 0) (if pa = 0 then (fun _ => 0) else shR (xtot ma - xtot bo) pa ra cap du sh (sgp pa (rsu u) (rtw u) fi cap (xtot ma - xtot bo)) (fun _ => 0)) pa av ca (if pa = 0 then re else 0) ye ch (if pa = 0 then cap else shC (xtot ma - xtot bo) pa ra cap du sh (sgp pa (rsu u) (rtw u) fi cap (xtot ma - xtot bo))) du ra sh ow ma ma de u))) := by
  unfold f_X10_valueAnew
  rw [xl_e, xl_e]
  have h := L_ranew (T := T) (S := S) (b := b) (wt := wt) (pt := pt) (gq := gq) (ls := ls) (sp := sp) (kn := kn) (lo := lo) (ro := ro) (pa := pa) (av := av) (ca := ca) (re := re) (ye := ye) (ch := ch) (cap := cap) (du := du) (ra := ra) (sh := sh) (ow := ow) (bo := bo) (ma := ma) (de := de) (u := u) tp hb hb2 ha (n := 991 + 1) 8 0 0 rfl
  rw [xm_0, xsm_sub] at h
  have h' : f_X10_valueAnew_4 T xfu (rS S b wt pt gq ls sp (enc kn lo ro pa av ca re ye ch cap du ra sh ow bo ma de u)) 199 0 0 = f_X10_valueAnew_4 T (991 + 1) (rS S b wt pt gq ls sp (enc kn lo ro pa av ca re ye ch cap du ra sh ow ma ma de u)) 199 (xtot ma - xtot bo) (nI 8) := h
  rw [h']
  clear h h'
  unfold f_X10_valueAnew_4
  rw [if_pos x8_t, h_forget tp hb hb2, xcv_e, rget_0 tp hb hb2, xc_e]
  by_cases hp : pa = 0
  · simp only [if_pos hp]
    exact ⟨wt, pt, gq, ls, sp, rfl⟩
  · simp only [if_neg hp]
    obtain ⟨wt5, pt5, gq5, ls5, sp5, q5⟩ := h_share (T := T) (fi := fi) (S := S) (b := b) (wt := wt) (pt := pt) (gq := gq) (ls := ls) (sp := sp) (kn := 1) (lo := 0) (ro := fun _ => 0) (pa := pa) (av := av) (ca := ca) (re := xtot ma - xtot bo) (ye := ye) (ch := ch) (cap := cap) (du := du) (ra := ra) (sh := sh) (ow := ow) (bo := ma) (ma := ma) (de := de) (u := u) tp hb hb2 to hre hct hra (hex hp) rfl hab (fun k _ _ => rfl)
    rw [rput_2 tp hb hb2, xcv_e, q5, xcv_e]
    exact ⟨wt5, pt5, gq5, ls5, sp5, rfl⟩
theorem h_earned {T : xT} {S : xS} {b : Nat} {wt pt gq ls sp ro cap du ra sh ow bo ma de u : Nat → Int32} {kn lo pa av ca re ye ch : Int32} (tp : xTp T S.2.2) (hb : S.1 199 1 = nI b) (hb2 : b ≤ 5490) {n : Int32} : f_X10_earned T (rS S b wt pt gq ls sp (enc kn lo ro pa av ca re ye ch cap du ra sh ow bo ma de u)) 199 n = some (rS S b wt pt gq ls sp (enc kn lo ro pa av (ca + n) (re + n) ye ch cap du ra sh ow bo ma de u)) := by
  unfold f_X10_earned
  rw [rmore_2 tp hb hb2, xcv_e, rmore_3 tp hb hb2, xcv_e]
theorem h_arrives {T : xT} {S : xS} {b : Nat} {wt pt gq ls sp ro cap du ra sh ow bo ma de u : Nat → Int32} {kn lo pa av ca re ye ch : Int32} (tp : xTp T S.2.2) (hb : S.1 199 1 = nI b) (hb2 : b ≤ 5490) {i : Nat} (hi : i < 8) : f_X10_arrives T (rS S b wt pt gq ls sp (enc kn lo ro pa av ca re ye ch cap du ra sh ow bo ma de u)) 199 (nI i) = some (rS S b wt pt gq ls sp (enc kn lo ro (pa ||| ((1 : Int32) <<< (nI i &&& 31))) av ca re ye ch (va_up cap i 0) (va_up du i 0) (va_up ra i 1) (va_up sh i 0) (va_up ow i 0) bo ma de u)) := by
  unfold f_X10_arrives
  simp (disch := first | assumption | omega | ((repeat first | apply rS_tp | apply xI_tp | apply xJ_tp | apply xw_tp); exact tp) | (apply xn8 tp; decide)) only [↓xl_e, ↓xc_e, ↓xcv_e, ↓xpi_e, ↓reduceIte, ↓rr_199_15, ↓rr_199_16, ↓rr_199_17, ↓rr_199_18, ↓rr_199_19, ↓xai_w, ↓xst_w, ↓xaj_w, ↓xsj_w, rr_pt, rr_gq, rr_ls, rr_sp, rw_pt, rw_gq, rw_ls, rw_sp, rj_wt, rk_wt, ↓rget_0, ↓rget_1, ↓rget_2, ↓rget_3, ↓rget_4, ↓rget_308, ↓rget_309, ↓rput_0, ↓rput_1, ↓rput_2, ↓rput_3, ↓rput_4, ↓rput_308, ↓rput_309, ↓rmore_1, ↓rmore_2, ↓rmore_3, rget, rput, rmore, er_pa, er_ye, er_re, er_ca, er_ch, er_kn, er_lo, er_cap, er_du, er_ra, er_sh, er_ow, er_ro, er_av, er_bo, er_ma, er_de, ew_cap, ew_du, ew_ra, ew_sh, ew_ow, ew_ro, ew_bo, ew_ma, ew_de, ew_on, ew_off, x8_ff, nI_1, xb_e, xup_at, xm_n, xm_at, x00, ix_5, ix_13, ix_21, ix_29, ix_37, ix_78, ix_160, ix_208, ix_310, xc8]
theorem rw_26 {S : xS} {b : Nat} {wt pt gq ls sp r : Nat → Int32} {v : Int32} : xI (rS S b wt pt gq ls sp r) 199 26 v = rS (xI S 199 26 v) b wt pt gq ls sp r := rw_out (by omega)
theorem x26_hb {S : xS} {v : Int32} {b : Nat} (hb : S.1 199 1 = nI b) : (xI S 199 26 v).1 199 1 = nI b := by rw [xI_at (by decide)]; exact hb
theorem h_tells {T : xT} {S : xS} {b : Nat} {wt pt gq ls sp r : Nat → Int32} {v : Int32} : f_X10_tells T (rS S b wt pt gq ls sp r) 199 v = some (v, rS (xI S 199 26 1) b wt pt gq ls sp r) := by
  unfold f_X10_tells
  rw [xgd_h (by decide), xpi_e, rw_26]
theorem h_refuse {T : xT} {S : xS} {v : Int32} : f_X10_refuse T S 199 v = some (v, xI S 199 26 0) := by
  unfold f_X10_refuse
  rw [xgd_h (by decide), xpi_e]
theorem wq_cong {am : Int32} {ra ra' : Nat → Int32} (h : ∀ k, k < 8 → xb am k ≠ 0 → ra k = ra' k) : ∀ k, k < 8 → wq am ra k = wq am ra' k := by
  have hw : ∀ k, k < 8 → wr am ra k = wr am ra' k := fun k hk => by
    unfold wr
    by_cases hx : xb am k = 0
    · rw [if_pos hx, if_pos hx]
    · rw [if_neg hx, if_neg hx, h k hk hx]
  have hh : ∀ (m i : Nat) (c : Int32), i + m ≤ 8 → xhw (wr am ra) m i c = xhw (wr am ra') m i c := by
    intro m
    induction m with
    | zero => intro i c _; rfl
    | succ m ih =>
      intro i c hi
      unfold xhw
      rw [hw i (by omega), ih (i + 1) _ (by omega)]
  intro k hk
  unfold wq
  rw [hh 8 0 0 (by omega)]
  by_cases hz : xhw (wr am ra') 8 0 0 = 0
  · rw [if_pos hz, if_pos hz]
  · rw [if_neg hz, if_neg hz]; exact hw k hk
theorem h_go73 {T : xT} {S : xS} {b : Nat} {wt pt gq ls sp ro cap du ra sh ow bo ma de u : Nat → Int32} {kn lo pa av ca re ye ch : Int32} (tp : xTp T S.2.2) (hb : S.1 199 1 = nI b) (hb2 : b ≤ 5490) {i : Nat} (hi : i < 8) {v has : Int32} (hv : 0 ≤ (has - v).toInt) (hra : ∀ k, k < 8 → 0 ≤ (ra k).toInt) (hS : ∀ k, k < 8 → 0 ≤ (sh k).toInt) (hO : ∀ k, k < 8 → 0 ≤ (ow k).toInt) : ∃ wt' pt', f_X10_go_73 T (rS S b wt pt gq ls sp (enc kn lo ro pa av ca re ye ch cap du ra sh ow bo ma de u)) 199 (nI i) v has = some (has, (rS (xI S 199 26 1) b wt' pt' gq ls sp (enc kn lo ro (xwo pa i) av (ca - has) re ye ch (fun k => va_up cap i 0 k - dl (has - v) (wq (xwo pa i) (va_up ra i 0)) k) (va_up du i 0) (va_up ra i 0) (fun k => va_up sh i 0 k + dl (sh i) (wq (xwo pa i) (va_up ra i 0)) k) (fun k => va_up ow i 0 k + dl (ow i) (wq (xwo pa i) (va_up ra i 0)) k) bo ma de u))) := by
  have hwn : ∀ k, k < 8 → 0 ≤ (wq (xwo pa i) ra k).toInt := wq_nn hra
  have hbz : xb (xwo pa i) i = 0 := by rw [xb_wo (by omega) (by omega), if_pos rfl]
  have hwc : ∀ k, k < 8 → wq (xwo pa i) ra k = wq (xwo pa i) (va_up ra i 0) k := wq_cong (fun k hk hx => by
    have : k ≠ i := fun q => hx (by rw [q]; exact hbz)
    rw [va_up_ne _ _ this])
  have hdi : ∀ n, dl n (wq (xwo pa i) ra) i = 0 := fun n => dl_out hwn hi (wq_out hbz)
  have hdc : ∀ n k, k < 8 → dl n (wq (xwo pa i) ra) k = dl n (wq (xwo pa i) (va_up ra i 0)) k := fun n k hk => dl_cong hwc k hk
  have ecap : ∀ n, ∀ k, k < 8 → va_up (fun j => cap j - dl n (wq (xwo pa i) ra) j) i 0 k = (fun k => va_up cap i 0 k - dl n (wq (xwo pa i) (va_up ra i 0)) k) k := fun n k hk => by
    by_cases hk2 : k = i
    · subst hk2; show va_up _ k 0 k = va_up cap k 0 k - _; rw [xup_at, xup_at, ← hdc n k hk, hdi n]; rfl
    · show va_up _ i 0 k = va_up cap i 0 k - _; rw [va_up_ne _ _ hk2, va_up_ne _ _ hk2, hdc n k hk]
  have eadd : ∀ (f : Nat → Int32) n, ∀ k, k < 8 → va_up (fun j => f j + dl n (wq (xwo pa i) ra) j) i 0 k = (fun k => va_up f i 0 k + dl n (wq (xwo pa i) (va_up ra i 0)) k) k := fun f n k hk => by
    by_cases hk2 : k = i
    · subst hk2; show va_up _ k 0 k = va_up f k 0 k + _; rw [xup_at, xup_at, ← hdc n k hk, hdi n]; rfl
    · show va_up _ i 0 k = va_up f i 0 k + _; rw [va_up_ne _ _ hk2, va_up_ne _ _ hk2, hdc n k hk]
  have exw : pa &&& (((1 : Int32) <<< (nI i &&& 31)) ^^^ (-1 : Int32)) = xwo pa i := rfl
  unfold f_X10_go_73
  refine ⟨wq (xwo pa i) ra, dl (ow i) (wq (xwo pa i) ra), ?_⟩
  rw [xl_e, rmore_3 tp hb hb2, xcv_e, rget_0 tp hb hb2, xc_e, xl_e, exw, h_wratio tp hb hb2 hra, xcv_e, h_deal tp hb hb2 hwn hv, xcv_e, h_moves_capm tp hb hb2, xcv_e, ix_29, rget tp hb hb2 (by omega), xc_e, er_sh hi, h_deal tp hb hb2 hwn (hS i hi), xcv_e, h_moves_shp tp hb hb2, xcv_e, ix_37, rget tp hb hb2 (by omega), xc_e, er_ow hi, h_deal tp hb hb2 hwn (hO i hi), xcv_e, h_moves_owp tp hb hb2, xcv_e, h_arrives tp hb hb2 hi, xcv_e, ix_21, rput tp hb hb2 (by omega), xcv_e, ew_ra hi, xup2, rput_0 tp hb hb2, xcv_e, h_tells, xc_e, xsn]
  rw [en_cap (ecap (has - v)), en_sh (eadd sh (sh i)), en_ow (eadd ow (ow i))]
