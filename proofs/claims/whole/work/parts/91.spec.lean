/-! a special asked -/
theorem m1_i {n : Nat} (hn : n < 1000) : (nI n - 1).toInt = (n : Int) - 1 := by
  have e1 : (1 : Int32).toInt = 1 := by decide
  rw [xsub (by rw [nI_toInt (by omega), e1]; omega) (by rw [nI_toInt (by omega), e1]; omega), nI_toInt (by omega), e1]
theorem h_inm {T : xT} {S : xS} {n k : Nat} (hn : n < 1000) (hk : k < n) : f_X10_isIn T S (nI k) 0 (nI n - 1) = some (1, S) := by
  rw [h_isIn, if_neg (show ¬ nI k < 0 by rw [xlt, nI_toInt (by omega), show (0 : Int32).toInt = 0 from by decide]; omega), if_neg (show ¬ nI n - 1 < nI k by rw [xlt, nI_toInt (by omega), m1_i hn]; omega)]
theorem iL (n : Nat) (hn : n < 1000) (p : Int32) : (∃ k, k < n ∧ p = nI k) ∨ p < 0 ∨ (¬ p < 0 ∧ ¬ p < nI n ∧ nI n - 1 < p) := by
  by_cases h : p < 0
  · exact Or.inr (Or.inl h)
  · have h' := h
    rw [xlt, show (0 : Int32).toInt = 0 from by decide] at h'
    by_cases h2 : p < nI n
    · have h2' := h2
      rw [xlt, nI_toInt (by omega)] at h2'
      exact Or.inl ⟨p.toInt.toNat, by omega, by rw [xeq, nI_toInt (by omega)]; omega⟩
    · have h2' := h2
      rw [xlt, nI_toInt (by omega)] at h2'
      exact Or.inr (Or.inr ⟨h, h2, by rw [xlt, m1_i hn]; omega⟩)
theorem w_gift {T : xT} {S : xS} {F : Nat → Nat → Int32} {u wt : Nat → Int32} {sa ns k : Nat} (z : zV T S F u wt) (si : xSi T S.2.2 sa) (so : xSo S sa ns) (hk : k < ns) : f_X4_gift T S sa (nI k) 31 = some (gif S sa (F 0 0) (F 0 3) (F 0 2) (F 0 4) (xtot (xhe (F 6) (F 8))) (xsm (fun k => F 6 k - F 8 k) 8 0 (F 0 2)) (F 1) (F 4) k, S) := by
  have g : f_X4_gift T (kF S 31 40 F) sa (nI k) 31 = some (gif S sa (F 0 0) (F 0 3) (F 0 2) (F 0 4) (xtot (xhe (F 6) (F 8))) (xsm (fun k => F 6 k - F 8 k) 8 0 (F 0 2)) (F 1) (F 4) k, kF S 31 40 F) := g_gift (Or.inl ⟨rfl, rfl⟩) z.1 si so hk
  rw [c_self z.2.1] at g
  exact g
theorem w_sum {T : xT} {S : xS} {F : Nat → Nat → Int32} {u wt : Nat → Int32} {sa ns k : Nat} (z : zV T S F u wt) (si : xSi T S.2.2 sa) (so : xSo S sa ns) (hk : k < ns) : f_X4_sumOf T S sa (nI k) 31 = some (eV S sa (F 0 3) (F 0 2) (F 0 4) (xtot (xhe (F 6) (F 8))) (xsm (fun k => F 6 k - F 8 k) 8 0 (F 0 2)) (F 1) (F 4) (S.1 (sa + 2) k) (S.1 (sa + 3) k), S) := by
  have g : f_X4_sumOf T (kF S 31 40 F) sa (nI k) 31 = some (eV S sa (F 0 3) (F 0 2) (F 0 4) (xtot (xhe (F 6) (F 8))) (xsm (fun k => F 6 k - F 8 k) 8 0 (F 0 2)) (F 1) (F 4) (S.1 (sa + 2) k) (S.1 (sa + 3) k), kF S 31 40 F) := g_sumOf (Or.inl ⟨rfl, rfl⟩) z.1 si so hk
  rw [c_self z.2.1] at g
  exact g
theorem pile_f {T : xT} {S : xS} {F : Nat → Nat → Int32} {u wt P : Nat → Int32} (z : zV T S F u wt) : (∀ a, a < 203 ∨ 212 < a → (rS (xw S 211 P) (366 * 0) wt (S.1 205) (S.1 206) (S.1 207) (S.1 208) (encF F u)).1 a = S.1 a) ∧ ∃ wt', rwV (rS (xw S 211 P) (366 * 0) wt (S.1 205) (S.1 206) (S.1 207) (S.1 208) (encF F u)) wt' := by
  refine ⟨fun a ha => ?_, wt, rS_wV⟩
  rw [rS_scr (rV_c z.2.2.2.1 (xw_ne _ _ (by decide))) (by omega), xw_ne _ _ (by omega)]
theorem y_gives {T : xT} {S : xS} {F : Nat → Nat → Int32} {u wt : Nat → Int32} {sa ns k : Nat} (z : zV T S F u wt) (sr : spR S sa u ns) (hk : k < ns) : ∃ S2, f_X10_givesNow T S 199 (nI k) = some (gif S sa (F 0 0) (F 0 3) (F 0 2) (F 0 4) (xtot (xhe (F 6) (F 8))) (xsm (fun k => F 6 k - F 8 k) 8 0 (F 0 2)) (F 1) (F 4) k, S2) ∧ (∀ a, a < 203 ∨ 212 < a → S2.1 a = S.1 a) ∧ S2.2.2 = S.2.2 ∧ ∃ wt', rwV S2 wt' := by
  have g : ∃ P', f_X10_givesNow T (rF S (366 * 0) wt F u) 199 (nI k) = some (gif S sa (F 0 0) (F 0 3) (F 0 2) (F 0 4) (xtot (xhe (F 6) (F 8))) (xsm (fun k => F 6 k - F 8 k) 8 0 (F 0 2)) (F 1) (F 4) k, rS (xw S 211 P') (366 * 0) wt (S.1 205) (S.1 206) (S.1 207) (S.1 208) (encF F u)) := h_gives z.1 z.2.2.1 (by decide) (bOkF_as z.2.2.2.2.2.choose_spec) sr hk
  rw [r_self z.2.2.2.1 z.2.2.2.2.1] at g
  obtain ⟨P', e⟩ := g
  exact ⟨_, e, (pile_f z).1, rfl, (pile_f z).2⟩
theorem y_work {T : xT} {S : xS} {F : Nat → Nat → Int32} {u wt : Nat → Int32} {kd vl op : Nat → Int32} {a c A C : Nat} (z : zV T S F u wt) (hC : C ≤ 100) (h : cs kd vl op (fun j => u (208 + j)) a c A C) : ∃ S2, f_X10_worked T S 199 (nI A) (nI C) = some (ev (fun t => xvo (kd t) (vl t) (F 0 3) (F 0 2) (F 0 4) (xtot (xhe (F 6) (F 8))) (xsm (fun k => F 6 k - F 8 k) 8 0 (F 0 2)) (F 1) (F 4)) op (c - a) a 0 0 0, S2) ∧ (∀ a, a < 203 ∨ 212 < a → S2.1 a = S.1 a) ∧ S2.2.2 = S.2.2 ∧ ∃ wt', rwV S2 wt' := by
  have g : ∃ P', f_X10_worked T (rF S (366 * 0) wt F u) 199 (nI A) (nI C) = some (ev (fun t => xvo (kd t) (vl t) (F 0 3) (F 0 2) (F 0 4) (xtot (xhe (F 6) (F 8))) (xsm (fun k => F 6 k - F 8 k) 8 0 (F 0 2)) (F 1) (F 4)) op (c - a) a 0 0 0, rS (xw S 211 P') (366 * 0) wt (S.1 205) (S.1 206) (S.1 207) (S.1 208) (encF F u)) := h_work z.1 z.2.2.1 (by decide) (bOkF_as z.2.2.2.2.2.choose_spec) hC h
  rw [r_self z.2.2.2.1 z.2.2.2.2.1] at g
  obtain ⟨P', e⟩ := g
  exact ⟨_, e, (pile_f z).1, rfl, (pile_f z).2⟩
theorem o_special : zOp 25 := by
  intro i T S a hi h
  have h' := h
  obtain ⟨M, B, c, r, g, b0, b1⟩ := h'
  obtain ⟨wt, z⟩ := zV_of c r g
  have tp := c.1
  obtain ⟨fi, ns, _, ⟨si, so⟩, _, sr⟩ := g.1.1
  have h8 := sr.2.1
  have e17 : ∀ {α : Type} {K : Nat → Option α}, xgr T S 17 3 4 K = K M.now.2.1 := fun {α} {K} => xgr_mk c.2.1.2.1 (by have := si.2.1.1; omega) si.2.1.2
  have u159 : f_X10_get T S 199 (159 : Int32) = some (nI ns, S) := by
    rw [show f_X10_get T S 199 (159 : Int32) = _ from y_u (k := 159) z (by decide), sr.1]
  show ∃ (T2 : xT) (S2 : xS), xc (f_X9_special T S 0 (a 1) (a 2)) (fun r1 S1 => xc (f_X10_special T S1 199 (a 1) (a 2)) (fun r2 S2 => some (decide (r1 = r2), T, S2))) = some (true, T2, S2) ∧ zI (i + 1) T2 S2
  generalize a 1 = p
  generalize a 2 = q
  rcases iL ns (by omega) p with ⟨k, hk, rfl⟩ | hp
  · have k0 : ¬ nI k < 0 := by rw [xlt, nI_toInt (by omega), show (0 : Int32).toInt = 0 from by decide]; omega
    have k1 : nI k < nI ns := by rw [xlt, nI_toInt (by omega), nI_toInt (by omega)]; omega
    obtain ⟨⟨qq, hqq, eq1, eq2⟩, a', c', A, C, ⟨e1, e2, e3, e4, h1, h2, h3, h4⟩, _⟩ := sr.2.2 k hk
    rcases iN 2 (by decide) q with ⟨j, hj, rfl⟩ | hq
    · rcases (show j = 0 ∨ j = 1 ∨ j = 2 by omega) with rfl | rfl | rfl
      · refine zQ (r := nI qq) h ?_ ?_
        · unfold f_X9_special
          rw [rr_0_4 tp, e17, if_neg k0, so.1, if_pos k1, if_pos (by decide), sg_2 si, xai_n si.2.2.2.1.1 (by omega) (by decide), eq1]
        · unfold f_X10_special
          rw [u159, xc_e, h_inm (by omega) hk, xc_e, if_neg (by decide), show f_X10_isIn T S (nI 0) 0 2 = _ from h_in (n := 2) (by decide) hj, xc_e, if_neg (by decide), h_specAt, xc_e, xl_e, if_pos (by decide), y_u z (by omega), xc_e, eq2]
      · obtain ⟨S2, t1, t2, t3, t4⟩ := y_work z h3 h4
        refine ⟨T, S2, zX (S1 := S) (r := eV S M.now.2.1 (M.now.2.2.1 0 3) (M.now.2.2.1 0 2) (M.now.2.2.1 0 4) (xtot (xhe (M.now.2.2.1 6) (M.now.2.2.1 8))) (xsm (fun k => M.now.2.2.1 6 k - M.now.2.2.1 8 k) 8 0 (M.now.2.2.1 0 2)) (M.now.2.2.1 1) (M.now.2.2.1 4) (S.1 (M.now.2.1 + 2) k) (S.1 (M.now.2.1 + 3) k)) ?_ ?_, zScr (S1 := S) c r g b0 b1 (fun _ _ => rfl) rfl t2 t3 t4⟩
        · unfold f_X9_special
          rw [rr_0_4 tp, e17, if_neg k0, so.1, if_pos k1, if_neg (by decide), if_pos (by decide), rr_0_4 tp, rr_17_0 tp, w_sum z si so hk, xc_e]
        · unfold f_X10_special
          rw [u159, xc_e, h_inm (by omega) hk, xc_e, if_neg (by decide), show f_X10_isIn T S (nI 1) 0 2 = _ from h_in (n := 2) (by decide) hj, xc_e, if_neg (by decide), h_specAt, xc_e, xl_e, if_neg (by decide), if_pos (by decide), show nI (160 + 6 * k) + (2 : Int32) = nI (160 + 6 * k + 2) from nI_add _ 2, y_u z (by omega), xc_e, show nI (160 + 6 * k) + (3 : Int32) = nI (160 + 6 * k + 3) from nI_add _ 3, y_u z (by omega), xc_e, e3, e4, t1, xc_e, e1, e2, eV_e _ _ _ _ _ _ _ _ _ h1 h2]
      · obtain ⟨S2, t1, t2, t3, t4⟩ := y_gives z sr hk
        refine ⟨T, S2, zX (S1 := S) (r := gif S M.now.2.1 (M.now.2.2.1 0 0) (M.now.2.2.1 0 3) (M.now.2.2.1 0 2) (M.now.2.2.1 0 4) (xtot (xhe (M.now.2.2.1 6) (M.now.2.2.1 8))) (xsm (fun k => M.now.2.2.1 6 k - M.now.2.2.1 8 k) 8 0 (M.now.2.2.1 0 2)) (M.now.2.2.1 1) (M.now.2.2.1 4) k) ?_ ?_, zScr (S1 := S) c r g b0 b1 (fun _ _ => rfl) rfl t2 t3 t4⟩
        · unfold f_X9_special
          rw [rr_0_4 tp, e17, if_neg k0, so.1, if_pos k1, if_neg (by decide), if_neg (by decide), if_pos (by decide), rr_0_4 tp, rr_17_0 tp, w_gift z si so hk, xc_e]
        · unfold f_X10_special
          rw [u159, xc_e, h_inm (by omega) hk, xc_e, if_neg (by decide), show f_X10_isIn T S (nI 2) 0 2 = _ from h_in (n := 2) (by decide) hj, xc_e, if_neg (by decide), h_specAt, xc_e, xl_e, if_neg (by decide), if_neg (by decide), t1, xc_e]
    · have hq2 : q < 0 ∨ (2 : Int32) < q := hq
      have n : ∀ j, j < 3 → ¬ q = nI j := fun j hj e => by
        subst e
        rcases hq with w | w
        · rw [xlt, nI_toInt (by omega), show (0 : Int32).toInt = 0 from by decide] at w; omega
        · rw [xlt, nI_toInt (by omega), nI_toInt (by omega)] at w; omega
      refine zQ (r := -1000000000) h ?_ ?_
      · unfold f_X9_special
        rw [rr_0_4 tp, e17, if_neg k0, so.1, if_pos k1, if_neg (show ¬ q = (0 : Int32) from n 0 (by decide)), if_neg (show ¬ q = (1 : Int32) from n 1 (by decide)), if_neg (show ¬ q = (2 : Int32) from n 2 (by decide))]
      · unfold f_X10_special
        rw [u159, xc_e, h_inm (by omega) hk, xc_e, if_neg (by decide), h_out hq2, xc_e, if_pos rfl]
  · refine zQ (r := -1000000000) h ?_ ?_
    · unfold f_X9_special
      rw [rr_0_4 tp, e17, so.1]
      rcases hp with w | ⟨w1, w2, w3⟩
      · rw [if_pos w]
      · rw [if_neg w1, if_neg w2]
    · unfold f_X10_special
      rw [u159, xc_e]
      rcases hp with w | ⟨w1, w2, w3⟩
      · rw [h_out (Or.inl w), xc_e, if_pos rfl]
      · rw [h_out (Or.inr w3), xc_e, if_pos rfl]
