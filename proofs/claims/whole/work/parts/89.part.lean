/-! a partner asked; what a sale fills -/
theorem zB_le {i : Nat} {B : Int} {L : Nat} (hi : i < 512) (b1 : 5 * B + 1000000 * (L : Int) ≤ 20000000 * (i : Int)) : B ≤ 2048000000 := by omega
theorem ct_ok {B : Int} {F : Nat → Nat → Int32} (h : bOkF B F) (hB : B ≤ 2100000000) : (xtot (F 1)).toInt = xSu (F 1) ∧ (xtot (F 1) + F 0 3).toInt = xSu (F 1) + (F 0 3).toInt ∧ -2147483648 < xSu (F 1) + (F 0 3).toInt := by
  obtain ⟨_, _, _, _, _, ⟨c1, c2⟩, _⟩ := h
  have d1 := xDp_nn (F 7) (F 6)
  have d2 := xDp_nn (F 6) (F 7)
  have p0 := xP_nn (F 1)
  have n0 := xNg_nn (F 1)
  have pn := xSu_PN (F 1)
  have t : (xtot (F 1)).toInt = xSu (F 1) := xtot_b (by omega) (by omega)
  refine ⟨t, ?_, by omega⟩
  rw [xadd (by omega) (by omega), t]
theorem o_partner : zOp 7 := by
  intro i T S a hi h
  have h' := h
  obtain ⟨M, B, c, r, g, b0, b1⟩ := h'
  obtain ⟨wt, z⟩ := zV_of c r g
  have tp := c.1
  obtain ⟨fi, ti, to, ro, e17, cong⟩ := zTi c g
  show ∃ (T2 : xT) (S2 : xS), xc (f_X9_partner T S 0 (a 1) (a 2)) (fun r1 S1 => xc (f_X10_partner T S1 199 (a 1) (a 2)) (fun r2 S2 => some (decide (r1 = r2), T, S2))) = some (true, T2, S2) ∧ zI (i + 1) T2 S2
  generalize a 1 = p
  generalize a 2 = q
  rcases i8 p with ⟨k, hk, rfl⟩ | hp
  · by_cases hb : xb (M.now.2.2.1 0 0) k = 0
    · refine zQ (r := -1000000000) h ?_ ?_
      · unfold f_X9_partner
        rw [rr_0_4 tp, rr_17_0 tp, w_has z hk, xc_e, if_pos hb, if_pos rfl]
      · unfold f_X10_partner
        rw [y_there z hk, xc_e, if_pos hb]
    · rcases iN 4 (by decide) q with ⟨j, hj, rfl⟩ | hq
      · have hr : ∀ v, encF M.now.2.2.1 M.now.2.2.2 (5 + 8 * j + k) = v → f_X10_partner T S 199 (nI k) (nI j) = some (v, S) := fun v hv => by
          unfold f_X10_partner
          rw [y_there z hk, xc_e, if_neg hb, show f_X10_isIn T S (nI j) 0 4 = _ from h_in (n := 4) (by decide) hj, xc_e, if_neg (by decide), show (8 : Int32) * nI j = nI (8 * j) from pk_mul 8 j, show (5 : Int32) + nI (8 * j) = nI (5 + 8 * j) from nI_add 5 (8 * j), nI_add, y_get z (by omega), xc_e, hv]
        rcases (show j = 0 ∨ j = 1 ∨ j = 2 ∨ j = 3 ∨ j = 4 by omega) with rfl | rfl | rfl | rfl | rfl
        · refine zQ (r := M.now.2.2.1 1 k) h ?_ (hr _ (er_cap hk))
          unfold f_X9_partner
          rw [rr_0_4 tp, rr_17_0 tp, w_has z hk, xc_e, if_neg hb, if_neg (show ¬ (1 : Int32) = 0 by decide), if_pos (by decide), rr_31_6 tp, w_at (j := 1) z (by decide) hk]
        · refine zQ (r := M.now.2.2.1 2 k) h ?_ (hr _ (er_du hk))
          unfold f_X9_partner
          rw [rr_0_4 tp, rr_17_0 tp, w_has z hk, xc_e, if_neg hb, if_neg (show ¬ (1 : Int32) = 0 by decide), if_neg (by decide), if_pos (by decide), rr_31_7 tp, w_at (j := 2) z (by decide) hk]
        · refine zQ (r := M.now.2.2.1 3 k) h ?_ (hr _ (er_ra hk))
          unfold f_X9_partner
          rw [rr_0_4 tp, rr_17_0 tp, w_has z hk, xc_e, if_neg hb, if_neg (show ¬ (1 : Int32) = 0 by decide), if_neg (by decide), if_neg (by decide), if_pos (by decide), rr_31_8 tp, w_at (j := 3) z (by decide) hk]
        · refine zQ (r := M.now.2.2.1 4 k) h ?_ (hr _ (er_sh hk))
          unfold f_X9_partner
          rw [rr_0_4 tp, rr_17_0 tp, w_has z hk, xc_e, if_neg hb, if_neg (show ¬ (1 : Int32) = 0 by decide), if_neg (by decide), if_neg (by decide), if_neg (by decide), if_pos (by decide), rr_31_9 tp, w_at (j := 4) z (by decide) hk]
        · refine zQ (r := M.now.2.2.1 5 k) h ?_ (hr _ (er_ow hk))
          unfold f_X9_partner
          rw [rr_0_4 tp, rr_17_0 tp, w_has z hk, xc_e, if_neg hb, if_neg (show ¬ (1 : Int32) = 0 by decide), if_neg (by decide), if_neg (by decide), if_neg (by decide), if_neg (by decide), if_pos (by decide), rr_31_10 tp, w_at (j := 5) z (by decide) hk]
      · have hq4 : q < 0 ∨ (4 : Int32) < q := hq
        have n : ∀ j, j < 5 → ¬ q = nI j := fun j hj e => by
          subst e
          rcases hq with w | w
          · rw [xlt, nI_toInt (by omega), show (0 : Int32).toInt = 0 from by decide] at w; omega
          · rw [xlt, nI_toInt (by omega), nI_toInt (by omega)] at w; omega
        have hr1 : ∀ S1 wt1, zV T S1 M.now.2.2.1 M.now.2.2.2 wt1 → f_X10_partner T S1 199 (nI k) q = (if q = (5 : Int32) then xc (f_X10_floorOf T S1 199 (nI k)) (fun r8 S7 => some (r8, S7)) else if q = (6 : Int32) then xc (f_X10_gapOf T S1 199 (nI k)) (fun r6 S5 => some (r6, S5)) else some ((-1000000000 : Int32), S1)) := fun S1 wt1 z1 => by
          unfold f_X10_partner
          rw [y_there z1 hk, xc_e, if_neg hb, show f_X10_isIn T S1 q 0 4 = _ from h_out hq4, xc_e, if_pos rfl]
        by_cases q5 : q = 5
        · refine zQ (r := -M.now.2.2.1 2 k - M.now.2.2.1 4 k) h ?_ ?_
          · unfold f_X9_partner
            rw [rr_0_4 tp, rr_17_0 tp, w_has z hk, xc_e, if_neg hb, if_neg (show ¬ (1 : Int32) = 0 by decide), if_neg (show ¬ q = (0 : Int32) from n 0 (by decide)), if_neg (show ¬ q = (1 : Int32) from n 1 (by decide)), if_neg (show ¬ q = (2 : Int32) from n 2 (by decide)), if_neg (show ¬ q = (3 : Int32) from n 3 (by decide)), if_neg (show ¬ q = (4 : Int32) from n 4 (by decide)), if_pos q5, w_floor z hk, xc_e]
          · rw [hr1 S wt z, if_pos q5, y_floor z hk, xc_e]
        · by_cases q6 : q = 6
          · have re3 : S.1 31 3 = M.now.2.2.1 0 3 := z.2.1.1 3 (by decide)
            obtain ⟨S1, s1, s2, s3, s4⟩ := w_gaps (c := M.now.2.2.1 0 3) z ti to
            have z1 := zV_c z s2 s3
            have tp1 : xTp T S1.2.2 := z1.1
            have ok := ct_ok g.1.2.2 (by have := zB_le hi b1; omega)
            obtain ⟨S2, wt', t1, t2, t3, t4, t5⟩ := y_lay (c := xtot (M.now.2.2.1 1) + M.now.2.2.1 0 3) z1 ro (by rw [ok.2.1]; exact ok.2.2)
            have tp2 : xTp T S2.2.2 := t4.1
            have e5 : encF M.now.2.2.1 M.now.2.2.2 (5 + k) = M.now.2.2.1 1 k := er_cap hk
            refine ⟨T, S2, zX (r := sV (M.now.2.2.1 0 0) (rsu M.now.2.2.2) (rtw M.now.2.2.2) fi (xtot (M.now.2.2.1 1) + M.now.2.2.1 0 3) k - M.now.2.2.1 1 k) (S1 := S1) ?_ ?_, zScr c r g b0 b1 s2 (by rw [s3]) (fun a q => t2 a (by omega)) t3 ⟨wt', t4.2.2.2.2.1⟩⟩
            · unfold f_X9_partner
              rw [rr_0_4 tp, rr_17_0 tp, w_has z hk, xc_e, if_neg hb, if_neg (show ¬ (1 : Int32) = 0 by decide), if_neg (show ¬ q = (0 : Int32) from n 0 (by decide)), if_neg (show ¬ q = (1 : Int32) from n 1 (by decide)), if_neg (show ¬ q = (2 : Int32) from n 2 (by decide)), if_neg (show ¬ q = (3 : Int32) from n 3 (by decide)), if_neg (show ¬ q = (4 : Int32) from n 4 (by decide)), if_neg q5, if_pos q6, rr_0_1 tp, rr_0_4 tp, e17 _ _ S rfl, re3, s1, xcv_e, rr_0_1 tp1, rr_3_1 tp1, xai_n (xTp_n tp1 8 (by decide) rfl) hk (by decide), s4 k hk, (cong _).2.1 k hk]
            · rw [hr1 S1 wt z1, if_neg q5, if_pos q6]
              unfold f_X10_gapOf
              rw [y_cap z1, xc_e, show f_X10_get T S1 199 (2 : Int32) = some (M.now.2.2.1 0 3, S1) from y_get (k := 2) z1 (by decide), xc_e, t1, xcv_e, rr_199_17 tp2, xai_n (xTp_n tp2 8 (by decide) rfl) hk (by decide), show (5 : Int32) + nI k = nI (5 + k) from nI_add 5 k, y_get t4 (by omega), xc_e, xc_e, e5, t5 k hk]
          · refine zQ (r := -1000000000) h ?_ ?_
            · unfold f_X9_partner
              rw [rr_0_4 tp, rr_17_0 tp, w_has z hk, xc_e, if_neg hb, if_neg (show ¬ (1 : Int32) = 0 by decide), if_neg (show ¬ q = (0 : Int32) from n 0 (by decide)), if_neg (show ¬ q = (1 : Int32) from n 1 (by decide)), if_neg (show ¬ q = (2 : Int32) from n 2 (by decide)), if_neg (show ¬ q = (3 : Int32) from n 3 (by decide)), if_neg (show ¬ q = (4 : Int32) from n 4 (by decide)), if_neg q5, if_neg q6]
            · rw [hr1 S wt z, if_neg q5, if_neg q6]
  · refine zQ (r := -1000000000) h ?_ ?_
    · unfold f_X9_partner
      rw [rr_0_4 tp, rr_17_0 tp, (o8 hp T S 31).1, xc_e, if_pos rfl]
    · unfold f_X10_partner
      rw [(o8 hp T S 31).2.2.1, xc_e, if_pos rfl]
