/-! how many tiers a sale fills, and what is left -/
theorem y_of {T : xT} {S : xS} {F : Nat → Nat → Int32} {u wt wt' pt gq ls sp : Nat → Int32} (z : zV T S F u wt) : (∀ a, a < 205 ∨ 208 < a → (rS S (366 * 0) wt' pt gq ls sp (encF F u)).1 a = S.1 a) ∧ zV T (rS S (366 * 0) wt' pt gq ls sp (encF F u)) F u wt' := by
  have f : ∀ a, a < 205 ∨ 208 < a → (rS S (366 * 0) wt' pt gq ls sp (encF F u)).1 a = S.1 a := fun a ha => rS_scr z.2.2.2.1 ha
  refine ⟨f, ?_⟩
  obtain ⟨a1, a2, a3, a4, a5, a6⟩ := z
  exact ⟨a1, clV_c a2 (fun a q1 q2 => f a (by omega)) (f 40 (by omega)) (f 41 (by omega)), by rw [f 199 (by omega)]; exact a3, rV_c a4 (f 200 (by omega)), rS_wV, a6⟩
theorem y_tier {T : xT} {S : xS} {F : Nat → Nat → Int32} {u wt : Nat → Int32} {k : Nat} (z : zV T S F u wt) (hk : k < 9) : ∃ S2, f_X10_weighTier T S 199 (nI k) = some S2 ∧ (∀ a, a < 205 ∨ 208 < a → S2.1 a = S.1 a) ∧ S2.2.2 = S.2.2 ∧ zV T S2 F u (wr (F 0 0) (rtw u k)) := by
  have g : f_X10_weighTier T (rF S (366 * 0) wt F u) 199 (nI k) = some (rS S (366 * 0) (wr (F 0 0) (rtw u k)) (S.1 205) (S.1 206) (S.1 207) (S.1 208) (encF F u)) := h_rtier z.1 z.2.2.1 (by decide) hk
  rw [r_self z.2.2.2.1 z.2.2.2.2.1] at g
  exact ⟨_, g, (y_of z).1, rfl, (y_of z).2⟩
theorem y_sumW {T : xT} {S : xS} {F : Nat → Nat → Int32} {u wt : Nat → Int32} (z : zV T S F u wt) : f_X10_sumWeights T S 199 = some (dAll wt, S) := by
  have g : f_X10_sumWeights T (rF S (366 * 0) wt F u) 199 = some (dAll wt, rF S (366 * 0) wt F u) := h_sumW z.1 z.2.2.1 (by decide)
  rw [r_self z.2.2.2.1 z.2.2.2.2.1] at g
  exact g
def f99 (q c f : Int32) : Int32 := if q = 1 then c else if c ≤ 0 then f else f + 1
theorem r_f99 (T : xT) (S : xS) (q c f : Int32) : f_X10_fills_99 T S q c f = some (f99 q c f, S) := by
  unfold f_X10_fills_99 f99
  by_cases h : q = 1
  · rw [if_pos h, if_pos h]
  · rw [if_neg h, if_neg h]
    by_cases h2 : c ≤ 0
    · rw [if_pos h2, if_pos h2]
    · rw [if_neg h2, if_neg h2]
theorem L_fills {T : xT} {F : Nat → Nat → Int32} {u : Nat → Int32} {fi : Nat} {q : Int32} (to : rTo u fi) : ∀ (m k n : Nat) (c f : Int32) (g : Nat → Int32) (S : xS) (wt : Nat → Int32), zV T S F u wt → k + m = fi → m < n → ∃ S2 wt', f_X10_fills_38 T n S 199 q c f (nI k) = some (f99 q (sG (F 0 0) (rsu u) (rtw u) m k c g f).1 (sG (F 0 0) (rsu u) (rtw u) m k c g f).2.2, S2) ∧ (∀ a, a < 205 ∨ 208 < a → S2.1 a = S.1 a) ∧ S2.2.2 = S.2.2 ∧ zV T S2 F u wt' := by
  have h9 := to.2.1
  intro m
  induction m with
  | zero =>
    intro k n c f g S wt z hk hn
    obtain ⟨n, rfl⟩ : ∃ n', n = n' + 1 := ⟨n - 1, by omega⟩
    obtain rfl : k = fi := by omega
    unfold f_X10_fills_38
    rw [show f_X10_get T S 199 (77 : Int32) = _ from y_u (k := 77) z (by decide), xc_e, to.1, if_pos (nI_le (Nat.le_refl _) (by omega)), r_f99]
    exact ⟨S, wt, rfl, fun _ _ => rfl, rfl, z⟩
  | succ m ih =>
    intro k n c f g S wt z hk hn
    obtain ⟨n, rfl⟩ : ∃ n', n = n' + 1 := ⟨n - 1, by omega⟩
    unfold f_X10_fills_38
    rw [show f_X10_get T S 199 (77 : Int32) = _ from y_u (k := 77) z (by decide), xc_e, to.1, if_neg (nI_ge (by omega) (by omega))]
    have eG : sG (F 0 0) (rsu u) (rtw u) (m + 1) k c g f = if c ≤ 0 then (c, g, f) else if xhw (wr (F 0 0) (rtw u k)) 8 0 0 = 0 then sG (F 0 0) (rsu u) (rtw u) m (k + 1) c g f else sG (F 0 0) (rsu u) (rtw u) m (k + 1) (c - xmin c (rsu u k)) (fun j => g j + dl (xmin c (rsu u k)) (wr (F 0 0) (rtw u k)) j) (f + 1) := rfl
    rw [eG]
    by_cases hc0 : c ≤ 0
    · rw [if_pos hc0, if_pos hc0, r_f99]
      exact ⟨S, wt, rfl, fun _ _ => rfl, rfl, z⟩
    · have hra : ∀ j, j < 8 → 0 ≤ (rtw u k j).toInt := fun j hj => (to.2.2.1 k j (by omega) hj).1
      obtain ⟨S2, t1, t2, t3, t4⟩ := y_tier (k := k) z (by omega)
      rw [if_neg hc0, if_neg hc0, t1, xcv_e, y_sumW t4, xc_e]
      by_cases hx : xhw (wr (F 0 0) (rtw u k)) 8 0 0 = 0
      · rw [if_pos hx, if_pos ((xcmp_z _).mpr ((dAll_0 (wr_nn hra)).mpr hx)), xl_e, nI_1]
        obtain ⟨S3, wt', e1, e2, e3, e4⟩ := ih (k + 1) n c f g S2 _ t4 (by omega) (by omega)
        exact ⟨S3, wt', e1, fun a ha => by rw [e2 a ha, t2 a ha], by rw [e3, t3], e4⟩
      · have su : f_X10_get T S2 199 ((78 : Int32) + (9 : Int32) * nI k) = some (rsu u k, S2) := by
          rw [show (9 : Int32) * nI k = nI (9 * k) from pk_mul 9 k, show (78 : Int32) + nI (9 * k) = nI (78 + 9 * k) from nI_add 78 (9 * k), y_u t4 (by omega)]
          rfl
        rw [if_neg hx, if_neg (fun q => hx ((dAll_0 (wr_nn hra)).mp ((xcmp_z _).mp q))), su, xc_e, h_lesser, xc_e, xl_e, xl_e, xl_e, nI_1]
        obtain ⟨S3, wt', e1, e2, e3, e4⟩ := ih (k + 1) n (c - xmin c (rsu u k)) (f + 1) (fun j => g j + dl (xmin c (rsu u k)) (wr (F 0 0) (rtw u k)) j) S2 _ t4 (by omega) (by omega)
        exact ⟨S3, wt', e1, fun a ha => by rw [e2 a ha, t2 a ha], by rw [e3, t3], e4⟩
theorem o_fills : zOp 36 := by
  intro i T S a hi h
  have h' := h
  obtain ⟨M, B, c, r, g, b0, b1⟩ := h'
  obtain ⟨wt, z⟩ := zV_of c r g
  have tp := c.1
  obtain ⟨fi, ti, to, ro, e17, cong⟩ := zTi c g
  have v0 : S.1 31 0 = M.now.2.2.1 0 0 := z.2.1.1 0 (by decide)
  have u0 : ∀ S1 wt1, zV T S1 M.now.2.2.1 M.now.2.2.2 wt1 → f_X10_get T S1 199 (0 : Int32) = some (M.now.2.2.1 0 0, S1) := fun S1 wt1 z1 => y_get (k := 0) z1 (by decide)
  show ∃ (T2 : xT) (S2 : xS), xc (f_X9_fills T S 0 (a 1) (a 2)) (fun r1 S1 => xc (f_X10_fills T S1 199 (a 1) (a 2)) (fun r2 S2 => some (decide (r1 = r2), T, S2))) = some (true, T2, S2) ∧ zI (i + 1) T2 S2
  generalize a 1 = p
  generalize a 2 = q
  by_cases p1 : p < 0
  · refine zQ (r := -1000000000) h ?_ ?_
    · unfold f_X9_fills; rw [if_pos p1]
    · unfold f_X10_fills
      rw [u0 S wt z, xc_e]
      by_cases w : M.now.2.2.1 0 0 = 0
      · rw [if_pos w]
      · rw [if_neg w, h_out (Or.inl p1), xc_e, if_pos rfl]
  · by_cases p2 : 100000000 < p
    · refine zQ (r := -1000000000) h ?_ ?_
      · unfold f_X9_fills; rw [if_neg p1, if_pos p2]
      · unfold f_X10_fills
        rw [u0 S wt z, xc_e]
        by_cases w : M.now.2.2.1 0 0 = 0
        · rw [if_pos w]
        · rw [if_neg w, h_out (Or.inr p2), xc_e, if_pos rfl]
    · by_cases w : M.now.2.2.1 0 0 = 0
      · refine zQ (r := -1000000000) h ?_ ?_
        · unfold f_X9_fills; rw [if_neg p1, if_neg p2, rr_0_4 tp, rr_17_0 tp, v0, if_pos w]
        · unfold f_X10_fills; rw [u0 S wt z, xc_e, if_pos w]
      · obtain ⟨S1, s1, s2, s3, s4, s5, s6⟩ := w_sell (c := p) z ti to
        have z1 := zV_c z s2 s3
        have tp1 : xTp T S1.2.2 := z1.1
        rw [(cong p).2.2] at s4
        rw [(cong p).1] at s5
        have hc : ∀ X, (if q = (0 : Int32) then some (S1.1 3 2, S1) else if q = (1 : Int32) then some (S1.1 3 3, S1) else some ((-1000000000 : Int32), S1)) = X → f_X9_fills T S 0 p q = X := fun X hX => by
          rw [← hX]
          unfold f_X9_fills
          rw [if_neg p1, if_neg p2, rr_0_4 tp, rr_17_0 tp, v0, if_neg w, rr_0_1 tp, rr_0_4 tp, rr_17_0 tp, rr_0_4 tp, e17 _ _ S rfl, s1, xcv_e, rr_0_1 tp1, rr_0_1 tp1]
        have hr0 : f_X10_fills T S1 199 p q = (if (if q < (0 : Int32) then (0 : Int32) else if 1 < q then 0 else 1) = 0 then some ((-1000000000 : Int32), S1) else f_X10_fills_38 T xfu S1 199 q p 0 0) := by
          unfold f_X10_fills
          rw [u0 S1 wt z1, xc_e, if_neg w, h_isIn, xc_e, if_neg p1, if_neg p2, if_neg (by decide), h_isIn, xc_e, xl_e, xl_e, xl_e]
        rcases iN 1 (by decide) q with ⟨j, hj, rfl⟩ | hq
        · have j0 : ¬ nI j < 0 := by rw [xlt, nI_toInt (by omega), show (0 : Int32).toInt = 0 from by decide]; omega
          have j1 : ¬ (1 : Int32) < nI j := by rw [xlt, nI_toInt (by omega), show (1 : Int32).toInt = 1 from by decide]; omega
          rw [if_neg j0, if_neg j1, if_neg (show ¬ (1 : Int32) = 0 by decide)] at hr0
          obtain ⟨S2, wt', t1, t2, t3, t4⟩ := L_fills (F := M.now.2.2.1) (q := nI j) ro fi 0 xfu p 0 (fun _ => 0) S1 wt z1 (by omega) (by have := ro.2.1; show fi < 1000; omega)
          have t1' : f_X10_fills T S1 199 p (nI j) = some (f99 (nI j) (sF (M.now.2.2.1 0 0) (rsu M.now.2.2.2) (rtw M.now.2.2.2) fi p).1 (sF (M.now.2.2.1 0 0) (rsu M.now.2.2.2) (rtw M.now.2.2.2) fi p).2.2, S2) := by
            rw [hr0]; exact t1
          refine ⟨T, S2, zX (S1 := S1) (hc _ ?_) t1', zScr c r g b0 b1 s2 (by rw [s3]) (fun a q => t2 a (by omega)) t3 ⟨wt', t4.2.2.2.2.1⟩⟩
          rcases (show j = 0 ∨ j = 1 by omega) with rfl | rfl
          · rw [if_pos (by decide), s4]
            unfold sN f99
            rw [if_neg (show ¬ nI 0 = (1 : Int32) by decide)]
            by_cases e0 : (sF (M.now.2.2.1 0 0) (rsu M.now.2.2.2) (rtw M.now.2.2.2) fi p).1 = 0
            · rw [if_pos e0, if_pos (by rw [e0]; decide)]
            · rw [if_neg e0]
          · rw [if_neg (by decide), if_pos (by decide), s5]
            unfold f99
            rw [if_pos (by decide)]
        · have hq1 : q < 0 ∨ (1 : Int32) < q := hq
          have n : ∀ j, j < 2 → ¬ q = nI j := fun j hj e => by
            subst e
            rcases hq with w | w
            · rw [xlt, nI_toInt (by omega), show (0 : Int32).toInt = 0 from by decide] at w; omega
            · rw [xlt, nI_toInt (by omega), nI_toInt (by omega)] at w; omega
          have e : (if q < (0 : Int32) then (0 : Int32) else if 1 < q then 0 else 1) = 0 := by
            by_cases v : q < 0
            · rw [if_pos v]
            · rcases hq1 with v' | v'
              · exact absurd v' v
              · rw [if_neg v, if_pos v']
          rw [if_pos e] at hr0
          refine ⟨T, S1, zX (S1 := S1) (hc _ ?_) hr0, zScr (S1 := S1) c r g b0 b1 s2 (by rw [s3]) (fun a _ => rfl) rfl ⟨wt, z1.2.2.2.2.1⟩⟩
          rw [if_neg (show ¬ q = (0 : Int32) from n 0 (by decide)), if_neg (show ¬ q = (1 : Int32) from n 1 (by decide))]
