/-! on paper: books 188, steps 197; the reference's row 15 -/
def pFr (S0 S : xS) : Prop := S.2 = S0.2 ∧ ∀ a, (a < 3 ∨ 9 < a) ∧ (a < 188 ∨ 198 < a) → S.1 a = S0.1 a
theorem zC_p {T : xT} {S0 S : xS} {M : zM} (c : zC T S0 M) (f : pFr S0 S) : zC T S M := by
  have h := f.2
  have tp : xTp T S.2.2 := by rw [f.1]; exact c.1
  have hn : cSt S 17 31 40 M.now := cSt_c c.2.1 (by rw [f.1]) (fun a q1 q2 => h a (by omega)) (h 40 (by omega)) (h 41 (by omega))
  exact zC_k (M := M) (fun a _ => by rw [f.1]) tp (fun k _ => by rw [h 0 (by omega)]) (by rw [h 1 (by omega)]) (fun a q => h a (by omega)) (fun a q1 q2 => h a (by omega)) (fun a q => h a (by omega)) hn c
theorem zG_p {T : xT} {S0 S : xS} {M : zM} {B : Int} (g : zG T S0 B M) (f : pFr S0 S) : zG T S B M := zG_f (fun a q => f.2 a (by unfold zTS at q; omega)) (fun a _ => by rw [f.1]) g
def FX (F : Nat → Nat → Int32) (S : xS) : Nat → Nat → Int32 := fun j => if j = 9 then S.1 197 else if j = 10 then S.1 198 else F j
theorem cpA_n {m : Nat} {S : xS} {b b' a : Nat} (h : ¬ (b < a ∧ a ≤ b + m)) : (cpA m S b b').1 a = S.1 a := if_neg h
theorem p_copy {T : xT} {S0 S : xS} {M : zM} (c : zC T S0 M) (f : pFr S0 S) : ∃ S1, f_X1_copyBooks T S 188 31 = some S1 ∧ pFr S0 S1 ∧ clV S1 188 197 (FX M.now.2.2.1 S1) := by
  have c1 := zC_p c f
  have tp := c1.1
  have hv := c1.2.1.2.2
  have e := g_cpBooks (bk_paper tp) (st_now tp).2.1 (by decide)
  refine ⟨_, e, ⟨f.1, fun a h => ?_⟩, fun k hk => ?_, fun j h1 h2 k hk => ?_, fun k hk => rfl, fun k hk => rfl⟩
  · show (if 188 < a ∧ a ≤ 188 + 8 then _ else (c06 S 188 31).1 a) = _
    rw [if_neg (by omega)]
    unfold c06
    rw [xw_ne _ _ (by omega)]
    exact f.2 a h
  · rw [cpA_n (by omega)]
    unfold c06
    rw [xw_1]
    show x06 (S.1 31 0) (S.1 31 1) (S.1 31 2) (S.1 31 3) (S.1 31 4) (S.1 31 5) (S.1 188) k = M.now.2.2.1 0 k
    rw [← hv.1 k hk]
    unfold x06
    rcases (show k = 0 ∨ k = 1 ∨ k = 2 ∨ k = 3 ∨ k = 4 ∨ k = 5 by omega) with rfl | rfl | rfl | rfl | rfl | rfl <;> rfl
  · have ef : FX M.now.2.2.1 (cpA 8 (c06 S 188 31) 188 31) j = M.now.2.2.1 j := by
      unfold FX
      rw [if_neg (by omega), if_neg (by omega)]
    rw [ef]
    show (if 188 < 188 + j ∧ 188 + j ≤ 188 + 8 then x8 ((c06 S 188 31).1 (31 + (188 + j - 188))) _ else _) k = _
    rw [if_pos (by omega), x8_at hk, show 31 + (188 + j - 188) = 31 + j by omega]
    unfold c06
    rw [xw_ne _ _ (by omega)]
    exact hv.2.1 j h1 h2 k hk
theorem ka_p {S : xS} {gv gp w p l r ro cap du ra sh ow bo ma de : Nat → Int32} {tf ll kn lo pa av ca re ye ch : Int32} {a : Nat} (h : (a < 3 ∨ 9 < a) ∧ (a < 188 ∨ 198 < a)) : (kS S 188 197 gv gp tf ll w p l r kn lo ro pa av ca re ye ch cap du ra sh ow bo ma de).1 a = S.1 a := by
  unfold kS
  simp only [if_neg (show ¬ a = 3 by omega), if_neg (show ¬ a = 4 by omega), if_neg (show ¬ a = 5 by omega), if_neg (show ¬ a = 6 by omega), if_neg (show ¬ a = 7 by omega), if_neg (show ¬ a = 8 by omega), if_neg (show ¬ a = 9 by omega), if_neg (show ¬ a = 188 by omega), if_neg (show ¬ a = 188 + 1 by omega), if_neg (show ¬ a = 188 + 2 by omega), if_neg (show ¬ a = 188 + 3 by omega), if_neg (show ¬ a = 188 + 4 by omega), if_neg (show ¬ a = 188 + 5 by omega), if_neg (show ¬ a = 188 + 6 by omega), if_neg (show ¬ a = 188 + 7 by omega), if_neg (show ¬ a = 188 + 8 by omega), if_neg (show ¬ a = 197 by omega), if_neg (show ¬ a = 197 + 1 by omega)]
/-- the reference aside: its row 15, scratch, no more -/
def qSt (S Q : xS) (F : Nat → Nat → Int32) (u : Nat → Int32) : Prop := Q.2.2 = S.2.2 ∧ (∀ a, a < 200 ∨ a = 201 ∨ a = 202 ∨ 211 < a → Q.1 a = S.1 a) ∧ (∀ j k, j < 15 → k < 366 → Q.1 200 (366 * j + k) = S.1 200 (366 * j + k)) ∧ rV Q 15 F u ∧ ∃ wt, rwV Q wt
theorem qSt_t {S Q R : xS} {F F' : Nat → Nat → Int32} {u : Nat → Int32} (h : qSt S Q F u) (h' : qSt Q R F' u) : qSt S R F' u := ⟨h'.1.trans h.1, fun a q => (h'.2.1 a q).trans (h.2.1 a q), fun j k q1 q2 => (h'.2.2.1 j k q1 q2).trans (h.2.2.1 j k q1 q2), h'.2.2.2⟩
theorem qSt_rS {S : xS} {P wt pt gq ls sp ro cap du ra sh ow bo ma de u : Nat → Int32} {kn lo pa av ca re ye ch : Int32} : qSt S (rS (xw S 211 P) (366 * 15) wt pt gq ls sp (enc kn lo ro pa av ca re ye ch cap du ra sh ow bo ma de u)) (FF kn lo ro pa av ca re ye ch cap du ra sh ow bo ma de) u := by
  refine ⟨rfl, fun a q => ?_, fun j k q1 q2 => ?_, rS_V, wt, rS_wV⟩
  · have e : (rS (xw S 211 P) (366 * 15) wt pt gq ls sp (enc kn lo ro pa av ca re ye ch cap du ra sh ow bo ma de u)).1 a = (xw S 211 P).1 a := by
      show (if a = 200 then _ else if a = 205 then _ else if a = 206 then _ else if a = 207 then _ else if a = 208 then _ else (xw S 211 P).1 a) = _
      rw [if_neg (by omega), if_neg (by omega), if_neg (by omega), if_neg (by omega), if_neg (by omega)]
    rw [e, xw_ne _ _ (by omega)]
  · rw [rS_row (by omega) k q2, xw_ne _ _ (by decide)]
theorem qSt_rS0 {S : xS} {wt pt gq ls sp ro cap du ra sh ow bo ma de u : Nat → Int32} {kn lo pa av ca re ye ch : Int32} : qSt S (rS S (366 * 15) wt pt gq ls sp (enc kn lo ro pa av ca re ye ch cap du ra sh ow bo ma de u)) (FF kn lo ro pa av ca re ye ch cap du ra sh ow bo ma de) u := by
  have h := qSt_rS (S := S) (P := S.1 211) (wt := wt) (pt := pt) (gq := gq) (ls := ls) (sp := sp) (ro := ro) (cap := cap) (du := du) (ra := ra) (sh := sh) (ow := ow) (bo := bo) (ma := ma) (de := de) (u := u) (kn := kn) (lo := lo) (pa := pa) (av := av) (ca := ca) (re := re) (ye := ye) (ch := ch)
  rw [xw_self] at h
  exact h
theorem p_close {T : xT} {S0 S : xS} {M : zM} {B0 B : Int} {F : Nat → Nat → Int32} {n : Int32} (c : zC T S0 M) (g : zG T S0 B0 M) (f : pFr S0 S) (hv : clV S 188 197 F) (ok : bOkF B F) (hB : B ≤ 2099000000) (hp : ¬ F 0 0 = 0) (n1 : -1000000 ≤ n.toInt) (n2 : n.toInt ≤ 1000000) :
    ∃ S2 F', f_X9_closeOnPaper T S 0 n = some S2 ∧ pFr S0 S2 ∧ clV S2 188 197 F' ∧ bOkF (B + 1000000) F' ∧ F' 0 0 = F 0 0 ∧ ∀ Sr G, (∀ j, j ≠ 9 → j ≠ 10 → G j = F j) → xTp T Sr.2.2 → Sr.1 199 1 = nI (366 * 15) → rV Sr 15 G M.now.2.2.2 → (∃ wt, rwV Sr wt) → ∃ Sx Sr', f_X10_earned T Sr 199 n = some Sx ∧ f_X10_closeYear T Sx 199 = some Sr' ∧ qSt Sr Sr' F' M.now.2.2.2 := by
  have o : xbt 188 197 := Or.inr ⟨rfl, rfl⟩
  have c1 := zC_p c f
  have g1 := zG_p g f
  have tp := c1.1
  obtain ⟨fi, ns, ⟨ti, to⟩, ⟨si, so⟩, ⟨rto, hsu, htw⟩, spr⟩ := g1.1.1
  have e1 : f_X1_earnMore T (kF S 188 197 F) 188 n = _ := g_earn o
  rw [c_self hv] at e1
  have ok1 := b_earn (n := n) ok (by omega) n1 n2
  obtain ⟨lo2, ro2, cap2, sh2, ow2, ⟨gv', gp', tf', ll', w', p', l', r', e2⟩, ok2, hq⟩ := x_close0 (T := T) (S := S) (b := 188) (t := 197) (gv := (S.1 4)) (gp := (S.1 5)) (tf := (S.1 3 2)) (ll := (S.1 3 3)) (w := (S.1 6)) (p := (S.1 7)) (l := (S.1 8)) (r := (S.1 9)) (kn := (F 9 0)) (lo := (F 9 1)) (ro := (F 10)) (pa := (F 0 0)) (av := (F 0 1)) (ca := (F 0 2 + n)) (re := (F 0 3 + n)) (ye := (F 0 4)) (ch := (F 0 5)) (cap := (F 1)) (du := (F 2)) (ra := (F 3)) (sh := (F 4)) (ow := (F 5)) (bo := (F 6)) (ma := (F 7)) (de := (F 8)) (u := M.now.2.2.2) o tp ti to si so rto hsu htw spr ok1 (by omega) hp
  obtain ⟨X, eX, hX⟩ := some_ex2 e1
  have tpX : xTp T X.2.2 := by rw [hX]; exact tp
  have cX : X.2.2 = S.2.2 := by rw [hX]; rfl
  rw [← hX] at e2
  refine ⟨_, FF 1 lo2 ro2 (F 0 0) (F 0 1) (F 0 2 + n) 0 (F 0 4 + 1) (xtot (xhe (F 6) (F 8))) cap2 (F 2) (F 3) sh2 ow2 (F 6) (F 7) (F 8), ?_, ⟨?_, fun a h => ?_⟩, kS_V (S := S) (gv := gv') (gp := gp') (tf := tf') (ll := ll') (w := w') (p := p') (l := l') (r := r') o, ok2, rfl, fun Sr G hG tr hb hr hw => ?_⟩
  · unfold f_X9_closeOnPaper
    rw [rr_0_9 tp, eX, xc_e, rr_0_1 tpX, rr_0_9 tpX, rr_0_4 tpX, show xgr T X 17 2 8 _ = _ from xgr_mk (by rw [cX]; exact c1.2.1.1) (by have := ti.2.1.1; omega) ti.2.1.2.1, rr_0_4 tpX, show xgr T X 17 3 4 _ = _ from xgr_mk (by rw [cX]; exact c1.2.1.2.1) (by have := si.2.1.1; omega) si.2.1.2, rr_0_10 tpX, e2, xc_e]
  · exact f.1
  · rw [ka_p h]; exact f.2 a h
  · obtain ⟨wt, hw⟩ := hw
    have hs := r_self hr hw
    have e4 : f_X10_earned T (rF Sr (366 * 15) wt G M.now.2.2.2) 199 n = _ := h_earned tr hb (by decide)
    rw [hs, hG 0 (by decide) (by decide), hG 1 (by decide) (by decide), hG 2 (by decide) (by decide), hG 3 (by decide) (by decide), hG 4 (by decide) (by decide), hG 5 (by decide) (by decide), hG 6 (by decide) (by decide), hG 7 (by decide) (by decide), hG 8 (by decide) (by decide)] at e4
    obtain ⟨wt', pt', gq', ls', sp', P', e5⟩ := hq Sr (366 * 15) wt (Sr.1 205) (Sr.1 206) (Sr.1 207) (Sr.1 208) (G 9 0) (G 9 1) (G 10) tr hb (by decide)
    exact ⟨_, _, e4, e5, qSt_rS⟩
/-- the reference steps aside -/
theorem q_aside {T : xT} {Sr : xS} {M : zM} (r : zR Sr M) (tr : xTp T Sr.2.2) : ∃ Q, f_X10_copyRow T Sr 199 (0 : Int32) (15 : Int32) = some Q ∧ xTp T (xI Q 199 1 5490).2.2 ∧ (xI Q 199 1 5490).1 199 1 = nI (366 * 15) ∧ rV (xI Q 199 1 5490) 15 M.now.2.2.1 M.now.2.2.2 ∧ (∃ wt, rwV (xI Q 199 1 5490) wt) ∧ (xI Q 199 1 5490).2.2 = Sr.2.2 ∧ (∀ a, a < 199 ∨ a = 201 ∨ a = 202 ∨ 211 < a → (xI Q 199 1 5490).1 a = Sr.1 a) ∧ (∀ k, k ≠ 1 → (xI Q 199 1 5490).1 199 k = Sr.1 199 k) ∧ ∀ j k, j < 15 → k < 366 → (xI Q 199 1 5490).1 200 (366 * j + k) = Sr.1 200 (366 * j + k) := by
  refine ⟨cpR Sr 0 15 366, h_copyRow (i := 0) (j := 15) tr (by decide) (by decide) (by decide), tr, by rw [xI_1, xup_at]; rfl, fun k hk => ?_, ⟨r.1.2.choose, rwV_c r.1.2.choose_spec rfl⟩, rfl, fun a q => by rw [xI_ne (by omega), cpR_out (by omega)], fun k hk => by rw [xI_at hk, cpR_out (by decide)], fun j k hj hk => ?_⟩
  · rw [xI_ne (by decide), cpR_mp 15 (by decide) k hk]
    show Sr.1 200 (366 * (if 15 = 15 then 0 else 15) + k) = _
    rw [if_pos rfl]
    exact r.2.1 k hk
  · rw [xI_ne (by decide), cpR_mp j (by omega) k hk]
    show Sr.1 200 (366 * (if j = 15 then 0 else j) + k) = _
    rw [if_neg (by omega)]
/-- and comes back -/
def qFr (S Q : xS) : Prop := Q.2.2 = S.2.2 ∧ (∀ a, a < 199 ∨ a = 201 ∨ a = 202 ∨ 211 < a → Q.1 a = S.1 a) ∧ (∀ k, k ≠ 1 → Q.1 199 k = S.1 199 k) ∧ (∀ j k, j < 15 → k < 366 → Q.1 200 (366 * j + k) = S.1 200 (366 * j + k)) ∧ ∃ wt, rwV Q wt
theorem q_end {S Q : xS} {M : zM} (hd : M.d ≤ 12) (r : zR S M) (f : qFr S Q) : zR (xI Q 199 1 0) M := by
  obtain ⟨⟨r1, _⟩, r3, ⟨r4, r5⟩, r6, ⟨r7, r8⟩, r9, ⟨r10, r11, r12⟩, r13, r14⟩ := r
  obtain ⟨f1, f2, f3, f4, wt, f5⟩ := f
  have h9 : ∀ k, k ≠ 1 → (xI Q 199 1 0).1 199 k = S.1 199 k := fun k hk => by rw [xI_at hk, f3 k hk]
  have ha : ∀ a, a = 201 ∨ a = 202 ∨ 211 < a → (xI Q 199 1 0).1 a = S.1 a := fun a h => by rw [xI_ne (by omega), f2 a (by omega)]
  have row : ∀ j F u, j < 15 → rV S j F u → rV (xI Q 199 1 0) j F u := fun j F u hj hv k hk => by
    rw [xI_ne (by decide), f4 j k hj hk]; exact hv k hk
  exact ⟨⟨by rw [xI_1, xup_at], wt, rwV_c f5 rfl⟩, row 0 _ _ (by decide) r3, ⟨by rw [h9 2 (by decide)]; exact r4, fun k hk => row (3 + k) _ _ (by omega) (r5 k hk)⟩, fun k hk => ⟨fun z => by rw [ha 201 (by decide)]; exact (r6 k hk).1 z, fun K s z => ⟨by rw [ha 201 (by decide)]; exact ((r6 k hk).2 K s z).1, row (1 + k) _ _ (by omega) ((r6 k hk).2 K s z).2⟩⟩, ⟨by rw [h9 5 (by decide)]; exact r7, fun k hk => by rw [ha 202 (by decide)]; exact r8 k hk⟩, by rw [h9 9 (by decide)]; exact r9, ⟨by rw [h9 30 (by decide)]; exact r10, by rw [h9 31 (by decide)]; exact r11, fun k hk => by rw [ha 213 (by decide)]; exact r12 k hk⟩, by rw [h9 33 (by decide)]; exact r13, fun k hk => by rw [ha 214 (by decide)]; exact r14 k hk⟩
theorem qFr_t {S Q R : xS} {F : Nat → Nat → Int32} {u : Nat → Int32} (f : qFr S Q) (h : qSt Q R F u) : qFr S R := ⟨h.1.trans f.1, fun a q => (h.2.1 a (by omega)).trans (f.2.1 a q), fun k q => by rw [h.2.1 199 (by omega)]; exact f.2.2.1 k q, fun j k q1 q2 => (h.2.2.1 j k q1 q2).trans (f.2.2.2.1 j k q1 q2), h.2.2.2.2⟩
/-- one year tried, from now's own books -/
theorem p_try {T : xT} {S0 S : xS} {M : zM} {B : Int} {n : Int32} (c : zC T S0 M) (g : zG T S0 B M) (f : pFr S0 S) (hB : B ≤ 2099000000) (hp : ¬ M.now.2.2.1 0 0 = 0) (n1 : -1000000 ≤ n.toInt) (n2 : n.toInt ≤ 1000000) :
    ∃ S1 S2 F', f_X1_copyBooks T S 188 31 = some S1 ∧ f_X9_closeOnPaper T S1 0 n = some S2 ∧ pFr S0 S1 ∧ pFr S0 S2 ∧ clV S2 188 197 F' ∧ bOkF (B + 1000000) F' ∧ F' 0 0 = M.now.2.2.1 0 0 ∧ ∀ Sr, zR Sr M → xTp T Sr.2.2 → ∃ Q, f_X10_closeAside T Sr 199 n = some Q ∧ xTp T Q.2.2 ∧ Q.1 199 1 = nI (366 * 15) ∧ rV Q 15 F' M.now.2.2.2 ∧ qFr Sr Q := by
  obtain ⟨S1, e1, f1, v1⟩ := p_copy c f
  have hF : ∀ j, j ≠ 9 → j ≠ 10 → FX M.now.2.2.1 S1 j = M.now.2.2.1 j := fun j h1 h2 => by unfold FX; rw [if_neg h1, if_neg h2]
  have ok : bOkF B (FX M.now.2.2.1 S1) := g.1.2.2
  obtain ⟨S2, F', e2, f2, v2, ok2, hp2, hr⟩ := p_close (n := n) c g f1 v1 ok hB hp n1 n2
  refine ⟨S1, S2, F', e1, e2, f1, f2, v2, ok2, hp2, fun Sr r tr => ?_⟩
  obtain ⟨Q, k0, k1, k2, k3, k4, k5, k6, k7, k8⟩ := q_aside r tr
  obtain ⟨Sx, Sr', h1, h2, h3⟩ := hr (xI Q 199 1 5490) M.now.2.2.1 (fun j a1 a2 => (hF j a1 a2).symm) k1 k2 k3 k4
  refine ⟨Sr', ?_, by rw [h3.1]; exact k1, by rw [h3.2.1 199 (by omega)]; exact k2, h3.2.2.2.1, qFr_t ⟨k5, k6, k7, k8, k4⟩ h3⟩
  unfold f_X10_closeAside
  rw [k0, xcv_e, xpi_e, h1, xcv_e, h2, xcv_e]
theorem p_get {T : xT} {Q : xS} {F : Nat → Nat → Int32} {u : Nat → Int32} {k : Nat} (tq : xTp T Q.2.2) (hb : Q.1 199 1 = nI (366 * 15)) (hr : rV Q 15 F u) (hw : ∃ wt, rwV Q wt) (hk : k < 366) : f_X10_get T Q 199 (nI k) = some (encF F u k, Q) := s_get (i := 15) tq hb (by decide) hr hw.choose_spec hk
theorem p_at {α : Type} {T : xT} {S : xS} {F : Nat → Nat → Int32} (tp : xTp T S.2.2) (hv : clV S 188 197 F) {j k : Nat} (hj : 1 ≤ j ∧ j ≤ 8) (hk : k < 8) {K : Int32 → Option α} : xai T S (188 + j) (nI k) K = K (F j k) := by
  rw [xai_n (xTp_n tp 8 (by omega) ((show ∀ j, j < 9 → 1 ≤ j → xN.getD (188 + j) 0 = 8 by decide +kernel) j (by omega) hj.1)) hk (by decide), hv.2.1 j hj.1 hj.2 k hk]
/-- an op that only worked on paper -/
theorem zPap {i : Nat} {T : xT} {S S1 S2 : xS} {M : zM} {B : Int} (c : zC T S M) (g : zG T S B M) (b0 : 0 ≤ B) (b1 : 5 * B + 1000000 * (M.L : Int) ≤ 20000000 * (i : Int)) (f : pFr S S1) (h : S2.2.2 = S1.2.2) (h2 : ∀ a, a < 199 ∨ 211 < a → S2.1 a = S1.1 a) (r : zR S2 M) : zI (i + 1) T S2 := zFin (zC_p c f) (zG_p g f) h (fun a q => h2 a (by omega)) r b0 (by omega)
