/-! buy, hand: deeds with no look of their own -/
theorem zHd {i : Nat} {T : xT} {S S1 : xS} {M : zM} {B : Int} {f9 : Option (Int32 × xS)} {rf : xT → xS → Option (Int32 × xS)} {v : Int32} {gv gp w p l r ro cap du ra sh ow bo ma de : Nat → Int32} {tf ll kn lo pa av ca re ye ch : Int32} (r0 : zR S M) (b0 : 0 ≤ B) (b1 : 5 * B + 1000000 * (M.L : Int) ≤ 20000000 * (i : Int)) (c1 : zC T S1 M.rm) (g1 : zG T S1 B M.rm) (f1 : zFr S S1) (e2 : f9 = some (v, (kS S1 31 40 gv gp tf ll w p l r kn lo ro pa av ca re ye ch cap du ra sh ow bo ma de))) (hk : kn = 0 ∨ kn = 1) (ok : bOk (B + 1000000) pa av re ch cap du ra sh ow bo ma de) (hr : ∀ Sr, zR Sr M → xTp T Sr.2.2 → ∃ Sr', rf T Sr = some (v, Sr') ∧ zR Sr' (M.rm.sF' (FF kn lo ro pa av ca re ye ch cap du ra sh ow bo ma de)) ∧ zFq Sr Sr' ∧ (false = true → Sr'.1 199 26 = 1)) :
    ∃ (T2 : xT) (S2 : xS), xc f9 (fun r1 S1 => xc (rf T S1) (fun r2 S2 => some (decide (r1 = r2), T, S2))) = some (true, T2, S2) ∧ zI (i + 1) T2 S2 := by
  obtain ⟨d1, d2, d3⟩ := c_new (gv := gv) (gp := gp) (w := w) (p := p) (l := l) (r := r) (tf := tf) (ll := ll) (lo := lo) (ro := ro) (ca := ca) (ye := ye) c1 g1 f1 (by omega) hk ok
  obtain ⟨Sr', e1, e3, ⟨e4, e5, _⟩, _⟩ := hr _ (zR_of (T := T) d3 r0) d1.1
  refine ⟨T, Sr', zX e2 e1, zFin d1 d2 e4 (fun a q => e5 a (by omega)) e3 (by omega) (by show 5 * (B + 1000000) + 1000000 * (M.L : Int) ≤ 20000000 * ((i + 1 : Nat) : Int); omega)⟩
theorem c_rem2 {T : xT} {S : xS} {M : zM} {B : Int} (c : zC T S M) (g : zG T S B M) : ∃ S1, f_X9_remember T S 0 = some S1 ∧ zC T S1 M.rm ∧ zG T S1 B M.rm ∧ zFr S S1 := by
  obtain ⟨S1, e1, c1, j1, f1, fr⟩ := c_rem c g.1
  refine ⟨S1, e1, c1, zG_rm (zG_f (fun a q => f1 a (by unfold zTS at q; omega) (by unfold zTS at q; omega)) (fun a q => fr a (by unfold zTS at q; omega)) g), j1, fun a q => f1 a (by omega) (by omega), ?_, fun a q => fr a (by unfold zTS at q; omega)⟩
  rw [c1.2.2.2.2.2.1, c.2.2.2.2.2.1]; rfl
def fA (av : Int32) : Nat → Nat → Nat
  | 0, i => i
  | m + 1, i => if xb av i = 0 then i else fA av m (i + 1)
theorem fA_ok (av : Int32) : ∀ (m i : Nat), i ≤ fA av m i ∧ fA av m i ≤ i + m ∧ (fA av m i < i + m → xb av (fA av m i) = 0)
  | 0, i => ⟨Nat.le_refl _, Nat.le_refl _, fun h => absurd h (Nat.lt_irrefl _)⟩
  | m + 1, i => by
    unfold fA
    by_cases h : xb av i = 0
    · rw [if_pos h]; exact ⟨by omega, by omega, fun _ => h⟩
    · rw [if_neg h]
      obtain ⟨h1, h2, h3⟩ := fA_ok av m (i + 1)
      exact ⟨by omega, by omega, fun q => h3 (by omega)⟩
theorem L_free {T : xT} {S : xS} {M : zM} (c : zC T S M) : ∀ (m i n : Nat), i + m = 8 → m < n → f_X1_freeAsset_2 T n S 31 (nI i) = some (if fA (M.now.2.2.1 0 1) m i = 8 then -1 else nI (fA (M.now.2.2.1 0 1) m i), S) := by
  intro m
  induction m with
  | zero =>
    intro i n hi hn
    obtain ⟨n, rfl⟩ : ∃ n', n = n' + 1 := ⟨n - 1, by omega⟩
    obtain rfl : i = 8 := by omega
    unfold f_X1_freeAsset_2 fA
    rw [if_pos x8_t, if_pos rfl]
  | succ m ih =>
    intro i n hi hn
    obtain ⟨n, rfl⟩ : ∃ n', n = n' + 1 := ⟨n - 1, by omega⟩
    unfold f_X1_freeAsset_2 fA
    rw [if_neg (x8_f (show i < 8 by omega)), n_hasA c (by omega), xc_e]
    by_cases h : xb (M.now.2.2.1 0 1) i = 0
    · rw [if_pos h, if_pos rfl, if_pos h, if_neg (by omega)]
    · rw [if_neg h, if_neg (by decide), if_neg h, xl_e, nI_1]
      exact ih (i + 1) n (by omega) (by omega)
theorem L_buy {T : xT} {S : xS} {M : zM} {x y z : Int32} (r : zR S M) (tp : xTp T S.2.2) : ∀ (m i n : Nat), i + m = 8 → m < n → f_X10_buy_35 T n S 199 x y z (nI i) = f_X10_buy_57 T S 199 x y z (nI (fA (M.now.2.2.1 0 1) m i)) := by
  intro m
  induction m with
  | zero =>
    intro i n hi hn
    obtain ⟨n, rfl⟩ : ∃ n', n = n' + 1 := ⟨n - 1, by omega⟩
    obtain rfl : i = 8 := by omega
    unfold f_X10_buy_35 fA
    rw [if_pos x8_t]
  | succ m ih =>
    intro i n hi hn
    obtain ⟨n, rfl⟩ : ∃ n', n = n' + 1 := ⟨n - 1, by omega⟩
    unfold f_X10_buy_35 fA
    rw [if_neg (x8_f (show i < 8 by omega)), q_asset r tp (by omega), xc_e]
    by_cases h : xb (M.now.2.2.1 0 1) i = 0
    · rw [if_pos h, if_pos h]
    · rw [if_neg h, if_neg h, xl_e, nI_1]
      exact ih (i + 1) n (by omega) (by omega)
def t_buy (T : xT) (S : xS) (x y z p : Int32) : Option (Int32 × xS) := xc (f_X10_assetAt T S p) (fun r3 S2 => xl r3 (fun v4 => xcv (f_X10_put T S2 199 v4 ((1 : Int32))) (fun S5 => xcv (f_X10_put T S5 199 ((v4 + (1 : Int32))) x) (fun S6 => xcv (f_X10_put T S6 199 ((v4 + (2 : Int32))) y) (fun S7 => xcv (f_X10_put T S7 199 ((v4 + (3 : Int32))) z) (fun S8 => xcv (f_X10_more T S8 199 ((3 : Int32)) ((z - x))) (fun S9 => some (p, S9))))))))
theorem sub_neg2 (a x z : Int32) : a + (z - x) = a - (x - z) := by
  rw [xeq, Int32.toInt_add, Int32.toInt_sub, Int32.toInt_sub, Int32.toInt_sub, Int.add_bmod_bmod, Int.sub_bmod_bmod]
  congr 1
  omega
theorem h_buy {T : xT} {S : xS} {b : Nat} {wt pt gq ls sp ro cap du ra sh ow bo ma de u : Nat → Int32} {kn lo pa av ca re ye ch : Int32} {x y z : Int32} (tp : xTp T S.2.2) (hb : S.1 199 1 = nI b) (hb2 : b ≤ 5490) {i : Nat} (hi : i < 8) : t_buy T (rS S b wt pt gq ls sp (enc kn lo ro pa av ca re ye ch cap du ra sh ow bo ma de u)) x y z (nI i) = some (nI i, (rS S b wt pt gq ls sp (enc kn lo ro pa (av ||| ((1 : Int32) <<< (nI i &&& 31))) (ca - (x - z)) re ye ch cap du ra sh ow (va_up bo i x) (va_up ma i y) (va_up de i z) u))) := by
  unfold t_buy
  rw [h_assetAt, xc_e, xl_e, ix451, ix452, ix453, rput tp hb hb2 (by omega), xcv_e, ew_on hi, rput tp hb hb2 (by omega), xcv_e, ew_bo hi, rput tp hb hb2 (by omega), xcv_e, ew_ma hi, rput tp hb hb2 (by omega), xcv_e, ew_de hi, rmore_3 tp hb hb2, xcv_e, sub_neg2]
theorem o_buy : zOp 15 := by
  intro i T S a hi h
  have h' := h
  obtain ⟨M, B, c, r, g, b0, b1⟩ := h'
  have tp := c.1
  have ok : bOkF B M.now.2.2.1 := g.1.2.2
  show ∃ (T2 : xT) (S2 : xS), xc (f_X9_buy T S 0 (a 1) (a 2) (a 3)) (fun r1 S1 => xc (f_X10_buy T S1 199 (a 1) (a 2) (a 3)) (fun r2 S2 => some (decide (r1 = r2), T, S2))) = some (true, T2, S2) ∧ zI (i + 1) T2 S2
  generalize a 1 = x
  generalize a 2 = y
  generalize a 3 = z
  obtain ⟨_, q2, q3⟩ := fA_ok (M.now.2.2.1 0 1) 8 0
  have ef : f_X1_freeAsset T S 31 = _ := L_free c 8 0 xfu rfl (by decide)
  have sm : ∀ q : Int32, (∃ v, (v = 0 ∨ v = 1) ∧ (∀ S, f_X9_isSum T S q = some (v, S) ∧ f_X10_isIn T S q 0 1000000 = some (v, S)) ∧ (v = 1 → 0 ≤ q.toInt ∧ q.toInt ≤ 1000000)) := fun q => by
    by_cases h1 : q < 0
    · exact ⟨0, Or.inl rfl, fun S => ⟨by rw [n_sum, if_pos h1], by rw [h_isIn, if_pos h1]⟩, fun z => absurd z (by decide)⟩
    · by_cases h2 : 1000000 < q
      · exact ⟨0, Or.inl rfl, fun S => ⟨by rw [n_sum, if_neg h1, if_pos h2], by rw [h_isIn, if_neg h1, if_pos h2]⟩, fun z => absurd z (by decide)⟩
      · refine ⟨1, Or.inr rfl, fun S => ⟨by rw [n_sum, if_neg h1, if_neg h2], by rw [h_isIn, if_neg h1, if_neg h2]⟩, fun _ => ?_⟩
        rw [xlt, i0] at h1
        rw [xlt, iM] at h2
        omega
  obtain ⟨vx, ox, sx, bx⟩ := sm x
  obtain ⟨vy, oy, sy, byy⟩ := sm y
  obtain ⟨vz, oz, sz, bz⟩ := sm z
  have lb := fun S' (r' : zR S' M) (tp' : xTp T S'.2.2) => L_buy (x := x) (y := y) (z := z) r' tp' 8 0 xfu rfl (by decide)
  by_cases f8 : fA (M.now.2.2.1 0 1) 8 0 = 8
  · refine zQ (r := -1) h ?_ ?_
    · unfold f_X9_buy
      rw [rr_0_4 tp, rr_17_0 tp, ef, xc_e, xl_e, if_pos f8, if_pos rfl]
    · unfold f_X10_buy
      rw [(sx S).2, xc_e]
      rcases ox with rfl | rfl
      · rw [if_pos rfl]
      · rw [if_neg (by decide), (sy S).2, xc_e]
        rcases oy with rfl | rfl
        · rw [if_pos rfl]
        · rw [if_neg (by decide), (sz S).2, xc_e]
          rcases oz with rfl | rfl
          · rw [if_pos rfl]
          · rw [if_neg (by decide), xl_e]
            refine (lb S r tp).trans ?_
            unfold f_X10_buy_57
            rw [f8, if_pos (by decide)]
  · have n1 : ¬ (nI (fA (M.now.2.2.1 0 1) 8 0) = (-1 : Int32)) := fun w => by
      rw [xeq, nI_toInt (by omega), show (-1 : Int32).toInt = -1 from by decide] at w
      omega
    have ref : ∀ (v : Int32), (vx = 0 ∨ vy = 0 ∨ vz = 0) → f_X9_buy T S 0 x y z = some (-1, S) ∧ f_X10_buy T S 199 x y z = some (-1, S) := fun _ hv => by
      unfold f_X9_buy f_X10_buy
      rw [rr_0_4 tp, rr_17_0 tp, ef, xc_e, xl_e, if_neg f8, if_neg n1, (sx S).1, xc_e, (sx S).2, xc_e]
      rcases ox with rfl | rfl
      · rw [if_pos rfl, if_pos rfl]; exact ⟨rfl, rfl⟩
      · rw [if_neg (by decide), if_neg (by decide), (sy S).1, xc_e, (sy S).2, xc_e]
        rcases oy with rfl | rfl
        · rw [if_pos rfl, if_pos rfl]; exact ⟨rfl, rfl⟩
        · rw [if_neg (by decide), if_neg (by decide), (sz S).1, xc_e, (sz S).2, xc_e]
          rcases oz with rfl | rfl
          · rw [if_pos rfl, if_pos rfl]; exact ⟨rfl, rfl⟩
          · rcases hv with hv | hv | hv <;> exact absurd hv (by decide)
    rcases ox with e0 | rfl
    · exact zQ h (ref 0 (Or.inl e0)).1 (ref 0 (Or.inl e0)).2
    · rcases oy with e0 | rfl
      · exact zQ h (ref 0 (Or.inr (Or.inl e0))).1 (ref 0 (Or.inr (Or.inl e0))).2
      · rcases oz with e0 | rfl
        · exact zQ h (ref 0 (Or.inr (Or.inr e0))).1 (ref 0 (Or.inr (Or.inr e0))).2
        · clear ref
          have k8 : fA (M.now.2.2.1 0 1) 8 0 < 8 := by omega
          have kx := q3 (by omega)
          generalize hk : fA (M.now.2.2.1 0 1) 8 0 = k at *
          obtain ⟨S1, e1, c1, g1, f1⟩ := c_rem2 c g
          have nv : clV S1 31 40 M.now.2.2.1 := c1.2.1.2.2
          have e2 : f_X1_addAsset T (kF S1 31 40 M.now.2.2.1) 31 (nI k) x y z = _ := g_addAsset oo c1.1 k8
          rw [c_self nv] at e2
          obtain ⟨X, eX, hX⟩ := some_ex e2
          have e3 : f_X9_buy T S 0 x y z = some (nI k, X) := by
            unfold f_X9_buy
            rw [rr_0_4 tp, rr_17_0 tp, ef, xc_e, xl_e, if_neg f8, if_neg n1, (sx S).1, xc_e, if_neg (by decide), (sy S).1, xc_e, if_neg (by decide), (sz S).1, xc_e, if_neg (by decide), e1, xcv_e, rr_0_4 c1.1, rr_17_0 c1.1, eX, xcv_e]
          subst hX
          refine zHd (rf := fun T S => f_X10_buy T S 199 x y z) r b0 b1 c1 g1 f1 e3 (kn_ok g) (b_buy ok k8 kx (bx rfl) (byy rfl) (bz rfl)) (fun Sr r' tr => ?_)
          obtain ⟨Q1, wt, y0, r1, tr1, hs, y1, y2, y3⟩ := q_rem c.2.2.1.1.1 r' tr
          have e4 : t_buy T (rF Q1 (366 * 0) wt M.now.2.2.1 M.now.2.2.2) x y z (nI k) = _ := h_buy tr1 (q_hb r1) (by decide) k8
          rw [hs] at e4
          refine q_mk0 (Eq.trans ?_ e4) r1 y1 y2 y3
          show f_X10_buy T Sr 199 x y z = _
          unfold f_X10_buy
          rw [(sx Sr).2, xc_e, if_neg (by decide), (sy Sr).2, xc_e, if_neg (by decide), (sz Sr).2, xc_e, if_neg (by decide), xl_e]
          refine (lb Sr r' tr).trans ?_
          unfold f_X10_buy_57
          rw [if_neg (show ¬ nI k = (8 : Int32) from fun w => by rw [xeq, nI_toInt (by omega), show (8 : Int32).toInt = 8 from by decide] at w; omega), y0, xcv_e]
          rfl
