/-! a sale asked; a partner asked -/
theorem zV_c {T : xT} {S S1 : xS} {F : Nat → Nat → Int32} {u wt : Nat → Int32} (z : zV T S F u wt) (h1 : ∀ a, a < 3 ∨ 9 < a → S1.1 a = S.1 a) (h2 : S1.2 = S.2) : zV T S1 F u wt := by
  obtain ⟨a1, a2, a3, a4, a5, a6⟩ := z
  exact ⟨by rw [h2]; exact a1, clV_c a2 (fun a q1 q2 => h1 a (by omega)) (h1 40 (by omega)) (h1 41 (by omega)), by rw [h1 199 (by omega)]; exact a3, rV_c a4 (h1 200 (by omega)), rwV_c a5 (by rw [h2]), a6⟩
theorem w_sell {T : xT} {S : xS} {F : Nat → Nat → Int32} {u wt : Nat → Int32} {ta fi : Nat} {c : Int32} (z : zV T S F u wt) (ti : xTi T S.2.2 ta) (to : xTo S ta fi) : ∃ S1, f_X2_sellAll T S 3 c 31 ta = some S1 ∧ (∀ a, a < 3 ∨ 9 < a → S1.1 a = S.1 a) ∧ S1.2 = S.2 ∧ S1.1 3 2 = sN (F 0 0) (S.1 (ta + 1)) (tw S ta) fi c ∧ S1.1 3 3 = (sF (F 0 0) (S.1 (ta + 1)) (tw S ta) fi c).1 ∧ ∀ k, k < 8 → S1.1 4 k = sV (F 0 0) (S.1 (ta + 1)) (tw S ta) fi c k := by
  have g : ∃ w' p', f_X2_sellAll T (kF S 31 40 F) 3 c 31 ta = some (kS S 31 40 (sV (F 0 0) (S.1 (ta + 1)) (tw S ta) fi c) (S.1 5) (sN (F 0 0) (S.1 (ta + 1)) (tw S ta) fi c) (sF (F 0 0) (S.1 (ta + 1)) (tw S ta) fi c).1 w' p' (S.1 8) (S.1 9) (F 9 0) (F 9 1) (F 10) (F 0 0) (F 0 1) (F 0 2) (F 0 3) (F 0 4) (F 0 5) (F 1) (F 2) (F 3) (F 4) (F 5) (F 6) (F 7) (F 8)) := g_sell (Or.inl ⟨rfl, rfl⟩) z.1 ti to
  rw [c_self z.2.1] at g
  obtain ⟨w', p', e⟩ := g
  exact ⟨_, e, fun a ha => kS_scr z.2.1 ha, rfl, kr_tf, kr_ll, fun k hk => kr_gv hk⟩
theorem w_gaps {T : xT} {S : xS} {F : Nat → Nat → Int32} {u wt : Nat → Int32} {ta fi : Nat} {c : Int32} (z : zV T S F u wt) (ti : xTi T S.2.2 ta) (to : xTo S ta fi) : ∃ S1, f_X2_measureGaps T S 3 31 ta c = some S1 ∧ (∀ a, a < 3 ∨ 9 < a → S1.1 a = S.1 a) ∧ S1.2 = S.2 ∧ ∀ k, k < 8 → S1.1 5 k = sV (F 0 0) (S.1 (ta + 1)) (tw S ta) fi (xtot (F 1) + c) k - F 1 k := by
  have g : ∃ ll' tf' w' p', f_X2_measureGaps T (kF S 31 40 F) 3 31 ta c = some (kS S 31 40 (sV (F 0 0) (S.1 (ta + 1)) (tw S ta) fi (xtot (F 1) + c)) (fun k => sV (F 0 0) (S.1 (ta + 1)) (tw S ta) fi (xtot (F 1) + c) k - F 1 k) tf' ll' w' p' (S.1 8) (S.1 9) (F 9 0) (F 9 1) (F 10) (F 0 0) (F 0 1) (F 0 2) (F 0 3) (F 0 4) (F 0 5) (F 1) (F 2) (F 3) (F 4) (F 5) (F 6) (F 7) (F 8)) := g_gaps (Or.inl ⟨rfl, rfl⟩) z.1 ti to
  rw [c_self z.2.1] at g
  obtain ⟨ll', tf', w', p', e⟩ := g
  exact ⟨_, e, fun a ha => kS_scr z.2.1 ha, rfl, fun k hk => kr_gp hk⟩
theorem y_lay {T : xT} {S : xS} {F : Nat → Nat → Int32} {u wt : Nat → Int32} {fi : Nat} {c : Int32} (z : zV T S F u wt) (to : rTo u fi) (hc : -2147483648 < c.toInt) : ∃ S2 wt', f_X10_laySale T S 199 c = some S2 ∧ (∀ a, a < 205 ∨ 208 < a → S2.1 a = S.1 a) ∧ S2.2.2 = S.2.2 ∧ zV T S2 F u wt' ∧ ∀ k, k < 8 → S2.1 206 k = sV (F 0 0) (rsu u) (rtw u) fi c k := by
  have g : ∃ wt' pt', f_X10_laySale T (rF S (366 * 0) wt F u) 199 c = some (rS S (366 * 0) wt' pt' (sV (F 0 0) (rsu u) (rtw u) fi c) (S.1 207) (S.1 208) (encF F u)) := h_lay z.1 z.2.2.1 (by decide) to hc
  rw [r_self z.2.2.2.1 z.2.2.2.2.1] at g
  obtain ⟨wt', pt', e⟩ := g
  have f : ∀ a, a < 205 ∨ 208 < a → (rS S (366 * 0) wt' pt' (sV (F 0 0) (rsu u) (rtw u) fi c) (S.1 207) (S.1 208) (encF F u)).1 a = S.1 a := fun a ha => rS_scr z.2.2.2.1 ha
  refine ⟨_, wt', e, f, rfl, ?_, fun k hk => rr_gq hk⟩
  obtain ⟨a1, a2, a3, a4, a5, a6⟩ := z
  exact ⟨a1, clV_c a2 (fun a q1 q2 => f a (by omega)) (f 40 (by omega)) (f 41 (by omega)), by rw [f 199 (by omega)]; exact a3, rV_c a4 (f 200 (by omega)), rS_wV, a6⟩
theorem zTi {T : xT} {S : xS} {B : Int} {M : zM} (c : zC T S M) (g : zG T S B M) : ∃ fi, xTi T S.2.2 M.now.1 ∧ xTo S M.now.1 fi ∧ rTo M.now.2.2.2 fi ∧ (∀ α (K : Nat → Option α) (S1 : xS), S1.2.2 = S.2.2 → xgr T S1 17 2 8 K = K M.now.1) ∧ ∀ n, (sF (M.now.2.2.1 0 0) (S.1 (M.now.1 + 1)) (tw S M.now.1) fi n).1 = (sF (M.now.2.2.1 0 0) (rsu M.now.2.2.2) (rtw M.now.2.2.2) fi n).1 ∧ (∀ j, j < 8 → sV (M.now.2.2.1 0 0) (S.1 (M.now.1 + 1)) (tw S M.now.1) fi n j = sV (M.now.2.2.1 0 0) (rsu M.now.2.2.2) (rtw M.now.2.2.2) fi n j) ∧ sN (M.now.2.2.1 0 0) (S.1 (M.now.1 + 1)) (tw S M.now.1) fi n = sN (M.now.2.2.1 0 0) (rsu M.now.2.2.2) (rtw M.now.2.2.2) fi n := by
  obtain ⟨fi, ns, ⟨ti, to⟩, _, ⟨ro, su, tt⟩, _⟩ := g.1.1
  exact ⟨fi, ti, to, ro, fun α K S1 e => xgr_mk (by rw [e]; exact c.2.1.1) (by have := ti.2.1.1; omega) ti.2.1.2.1, fun n => sV_cong (fun x hx => su x (by omega)) (fun x p hx hp => tt x p hx hp)⟩
theorem o_sale : zOp 5 := by
  intro i T S a hi h
  have h' := h
  obtain ⟨M, B, c, r, g, b0, b1⟩ := h'
  obtain ⟨wt, z⟩ := zV_of c r g
  have tp := c.1
  obtain ⟨fi, ti, to, ro, e17, cong⟩ := zTi c g
  show ∃ (T2 : xT) (S2 : xS), xc (f_X9_sale T S 0 (a 1) (a 2)) (fun r1 S1 => xc (f_X10_sale T S1 199 (a 1) (a 2)) (fun r2 S2 => some (decide (r1 = r2), T, S2))) = some (true, T2, S2) ∧ zI (i + 1) T2 S2
  generalize a 1 = p
  generalize a 2 = q
  by_cases p1 : p < -100000000
  · refine zQ (r := -1000000000) h ?_ ?_
    · unfold f_X9_sale; rw [if_pos p1]
    · unfold f_X10_sale; rw [h_isIn, xc_e, if_pos p1, if_pos rfl]
  · by_cases p2 : 100000000 < p
    · refine zQ (r := -1000000000) h ?_ ?_
      · unfold f_X9_sale; rw [if_neg p1, if_pos p2]
      · unfold f_X10_sale; rw [h_isIn, xc_e, if_neg p1, if_pos p2, if_pos rfl]
    · rcases i8 q with ⟨k, hk, rfl⟩ | hq
      · by_cases hb : xb (M.now.2.2.1 0 0) k = 0
        · refine zQ (r := -1000000000) h ?_ ?_
          · unfold f_X9_sale; rw [if_neg p1, if_neg p2, rr_0_4 tp, rr_17_0 tp, w_has z hk, xc_e, if_pos hb, if_pos rfl]
          · unfold f_X10_sale; rw [h_isIn, xc_e, if_neg p1, if_neg p2, if_neg (by decide), y_there z hk, xc_e, if_pos hb]
        · obtain ⟨S1, s1, s2, s3, s4, s5, s6⟩ := w_sell (c := p) z ti to
          have z1 := zV_c z s2 s3
          have tp1 : xTp T S1.2.2 := z1.1
          have hc : -2147483648 < p.toInt := by
            rw [xlt, show (-100000000 : Int32).toInt = -100000000 from by decide] at p1
            omega
          obtain ⟨S2, wt', t1, t2, t3, t4, t5⟩ := y_lay (c := p) z1 ro hc
          have tp2 : xTp T S2.2.2 := t4.1
          refine ⟨T, S2, zX (r := sV (M.now.2.2.1 0 0) (rsu M.now.2.2.2) (rtw M.now.2.2.2) fi p k) (S1 := S1) ?_ ?_, zScr c r g b0 b1 s2 (by rw [s3]) (fun a q => t2 a (by omega)) t3 ⟨wt', t4.2.2.2.2.1⟩⟩
          · unfold f_X9_sale
            rw [if_neg p1, if_neg p2, rr_0_4 tp, rr_17_0 tp, w_has z hk, xc_e, if_neg hb, if_neg (by decide), rr_0_1 tp, rr_0_4 tp, rr_17_0 tp, rr_0_4 tp, e17 _ _ S rfl, s1, xcv_e, rr_0_1 tp1, rr_3_0 tp1, xai_n (xTp_n tp1 8 (by decide) rfl) hk (by decide), s6 k hk, (cong p).2.1 k hk]
          · unfold f_X10_sale
            rw [h_isIn, xc_e, if_neg p1, if_neg p2, if_neg (by decide), y_there z1 hk, xc_e, if_neg hb, t1, xcv_e, rr_199_17 tp2, xai_n (xTp_n tp2 8 (by decide) rfl) hk (by decide), t5 k hk]
      · refine zQ (r := -1000000000) h ?_ ?_
        · unfold f_X9_sale; rw [if_neg p1, if_neg p2, rr_0_4 tp, rr_17_0 tp, (o8 hq T S 31).1, xc_e, if_pos rfl]
        · unfold f_X10_sale; rw [h_isIn, xc_e, if_neg p1, if_neg p2, if_neg (by decide), (o8 hq T S 31).2.2.1, xc_e, if_pos rfl]
