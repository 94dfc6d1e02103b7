/-! a tier asked, a step asked -/
theorem y_u {T : xT} {S : xS} {F : Nat → Nat → Int32} {u wt : Nat → Int32} (z : zV T S F u wt) {k : Nat} (hk : 77 ≤ k ∧ k < 308) : f_X10_get T S 199 (nI k) = some (u k, S) := by
  rw [y_get z (by omega)]
  have e : encF F u k = u k := er_u hk
  rw [e]
theorem o_tier : zOp 4 := by
  intro i T S a hi h
  have h' := h
  obtain ⟨M, B, c, r, g, b0, b1⟩ := h'
  obtain ⟨wt, z⟩ := zV_of c r g
  have tp := c.1
  obtain ⟨fi, ns, ⟨ti, to⟩, _, ⟨ro, su, tt⟩, _⟩ := g.1.1
  have hf := to.2.1
  have e17 : ∀ {α : Type} {K : Nat → Option α}, xgr T S 17 2 8 K = K M.now.1 := fun {α} {K} => xgr_mk c.2.1.1 (by have := ti.2.1.1; omega) ti.2.1.2.1
  have ea : ∀ {α : Type} {K : Nat → Option α}, xgr T S M.now.1 1 20 K = K (M.now.1 + 1) := fun {α} {K} => xgr_mk ti.2.2.1 (by have := ti.2.1.1; omega) ti.2.1.2.2.1
  have eb : ∀ {α : Type} {K : Nat → Option α}, xgr T S M.now.1 2 20 K = K (M.now.1 + 2) := fun {α} {K} => xgr_mk ti.2.2.2 (by have := ti.2.1.1; omega) ti.2.1.2.2.2.1
  have u77 : f_X10_get T S 199 (77 : Int32) = some (nI fi, S) := by
    rw [show f_X10_get T S 199 (77 : Int32) = _ from y_u (k := 77) z (by decide), ro.1]
  show ∃ (T2 : xT) (S2 : xS), xc (f_X9_tier T S 0 (a 1) (a 2)) (fun r1 S1 => xc (f_X10_tier T S1 199 (a 1) (a 2)) (fun r2 S2 => some (decide (r1 = r2), T, S2))) = some (true, T2, S2) ∧ zI (i + 1) T2 S2
  generalize a 1 = p
  generalize a 2 = q
  rcases iN fi (by omega) p with ⟨k, hk, rfl⟩ | hp
  · have k0 : ¬ nI k < 0 := by rw [xlt, nI_toInt (by omega), show (0 : Int32).toInt = 0 from by decide]; omega
    have k1 : ¬ nI (fi + 1) ≤ nI k := by rw [xle, nI_toInt (by omega), nI_toInt (by omega)]; omega
    rcases iN 8 (by decide) q with ⟨j, hj, rfl⟩ | hq
    · have j0 : ¬ nI j < 0 := by rw [xlt, nI_toInt (by omega), show (0 : Int32).toInt = 0 from by decide]; omega
      have j1 : nI j ≤ 8 := by rw [xle, nI_toInt (by omega), show (8 : Int32).toInt = 8 from by decide]; omega
      have hr : f_X10_tier T S 199 (nI k) (nI j) = some (M.now.2.2.2 (78 + 9 * k + j), S) := by
        unfold f_X10_tier
        rw [u77, xc_e, h_in (by omega) hk, xc_e, if_neg (by decide), show f_X10_isIn T S (nI j) 0 8 = _ from h_in (n := 8) (by decide) hj, xc_e, if_neg (by decide), show (9 : Int32) * nI k = nI (9 * k) from pk_mul 9 k, show (78 : Int32) + nI (9 * k) = nI (78 + 9 * k) from nI_add 78 (9 * k), nI_add, y_u z (by omega), xc_e]
      refine zQ h ?_ hr
      unfold f_X9_tier
      rw [rr_0_4 tp, e17, if_neg k0, to.1, if_neg k1, if_neg j0, if_pos j1]
      by_cases z0 : j = 0
      · subst z0
        rw [if_pos (by decide), ea, xai_n ti.2.1.2.2.2.2.1 (by omega) (by decide), su k hk]
        rfl
      · have zn : ¬ nI j = 0 := fun w => z0 ((nI_eq (a := j) (b := 0) (by omega) (by omega)).mp w)
        have ix : nI k * 8 + nI j - 1 = nI (k * 8 + (j - 1)) := by
          rw [show nI k * 8 = nI (k * 8) by rw [Int32.mul_comm, show (8 : Int32) * nI k = nI (8 * k) from pk_mul 8 k, Nat.mul_comm], nI_add, show k * 8 + j = (k * 8 + (j - 1)) + 1 by omega]
          exact nI_pred _
        rw [if_neg zn, eb, ix, xai_n ti.2.1.2.2.2.2.2 (by omega) (by decide)]
        have t1 := tt k (j - 1) hk (by omega)
        unfold tw rtw at t1
        rw [t1, show 78 + 9 * k + 1 + (j - 1) = 78 + 9 * k + j by omega]
    · have hq8 : q < 0 ∨ (8 : Int32) < q := hq
      refine zQ (r := -2) h ?_ ?_
      · unfold f_X9_tier
        rw [rr_0_4 tp, e17, if_neg k0, to.1, if_neg k1]
        rcases hq8 with w | w
        · rw [if_pos w]
        · have n1 : ¬ q < 0 := by
            rw [xlt, show (8 : Int32).toInt = 8 from by decide] at w
            rw [xlt, show (0 : Int32).toInt = 0 from by decide]; omega
          have n2 : ¬ q ≤ 8 := by
            rw [xlt, show (8 : Int32).toInt = 8 from by decide] at w
            rw [xle, show (8 : Int32).toInt = 8 from by decide]; omega
          rw [if_neg n1, if_neg n2]
      · unfold f_X10_tier
        rw [u77, xc_e, h_in (by omega) hk, xc_e, if_neg (by decide), h_out hq8, xc_e, if_pos rfl]
  · refine zQ (r := -2) h ?_ ?_
    · unfold f_X9_tier
      rw [rr_0_4 tp, e17, to.1]
      rcases hp with w | w
      · rw [if_pos w]
      · have n1 : ¬ p < 0 := by
          rw [xlt, nI_toInt (by omega)] at w
          rw [xlt, show (0 : Int32).toInt = 0 from by decide]; omega
        have n2 : nI (fi + 1) ≤ p := by
          rw [xlt, nI_toInt (by omega)] at w
          rw [xle, nI_toInt (by omega)]; omega
        rw [if_neg n1, if_pos n2]
    · unfold f_X10_tier
      rw [u77, xc_e, h_out hp, xc_e, if_pos rfl]
theorem L_sum {T : xT} {S : xS} {F : Nat → Nat → Int32} {u wt : Nat → Int32} (z : zV T S F u wt) {b : Nat} (hb : b + 8 ≤ 366) : ∀ (m i n : Nat) (v : Int32), i + m = 8 → m < n → f_X10_sumOf_4 T n S 199 (nI b) v (nI i) = some (xsm (fun k => encF F u (b + k)) m i v, S) := by
  intro m
  induction m with
  | zero =>
    intro i n v hi hn
    obtain ⟨n, rfl⟩ : ∃ n', n = n' + 1 := ⟨n - 1, by omega⟩
    obtain rfl : i = 8 := by omega
    unfold f_X10_sumOf_4
    rw [if_pos (by decide)]
    rfl
  | succ m ih =>
    intro i n v hi hn
    obtain ⟨n, rfl⟩ : ∃ n', n = n' + 1 := ⟨n - 1, by omega⟩
    have hi8 : i < 8 := by omega
    unfold f_X10_sumOf_4
    rw [if_neg (of_eq_false (x8_ff hi8)), nI_add, y_get z (by omega), xc_e, xl_e, xl_e, nI_1, ih (i + 1) n _ (by omega) (by omega)]
    rfl
theorem w_41 {α : Type} {T : xT} {S : xS} {F : Nat → Nat → Int32} {u wt : Nat → Int32} (z : zV T S F u wt) {j k : Nat} (hj : j ≤ 6) (hk : k < 8) {K : Int32 → Option α} : xai T S 41 (nI j * 8 + nI k) K = K (F 10 (8 * j + k)) := by
  rw [show nI j * 8 = nI (8 * j) by rw [Int32.mul_comm]; exact pk_mul 8 j, nI_add, xai_n (xTp_n z.1 56 (by decide) rfl) (by omega) (by decide)]
  rw [show S.1 41 (8 * j + k) = F 10 (8 * j + k) from z.2.1.2.2.2 (8 * j + k) (by omega)]
theorem L_tot {T : xT} {S : xS} {F : Nat → Nat → Int32} {u wt : Nat → Int32} (z : zV T S F u wt) {j : Nat} (hj : j ≤ 6) : ∀ (m i n : Nat) (v : Int32), i + m = 8 → m < n → f_X7_totalOf_4 T n S 40 (nI j) v (nI i) = some (xsm (fun k => F 10 (8 * j + k)) m i v, S) := by
  intro m
  induction m with
  | zero =>
    intro i n v hi hn
    obtain ⟨n, rfl⟩ : ∃ n', n = n' + 1 := ⟨n - 1, by omega⟩
    obtain rfl : i = 8 := by omega
    unfold f_X7_totalOf_4
    rw [if_pos (by decide)]
    rfl
  | succ m ih =>
    intro i n v hi hn
    obtain ⟨n, rfl⟩ : ∃ n', n = n' + 1 := ⟨n - 1, by omega⟩
    have hi8 : i < 8 := by omega
    unfold f_X7_totalOf_4
    rw [if_neg (of_eq_false (x8_ff hi8)), rr_40_2 z.1, w_41 z hj hi8, xl_e, xl_e, nI_1, ih (i + 1) n _ (by omega) (by omega)]
    rfl
theorem o_step : zOp 23 := by
  intro i T S a hi h
  have h' := h
  obtain ⟨M, B, c, r, g, b0, b1⟩ := h'
  obtain ⟨wt, z⟩ := zV_of c r g
  have tp := c.1
  have v40 : S.1 40 0 = M.now.2.2.1 9 0 := z.2.1.2.2.1 0 (by decide)
  have v41 : S.1 40 1 = M.now.2.2.1 9 1 := z.2.1.2.2.1 1 (by decide)
  have u308 : f_X10_get T S 199 (308 : Int32) = some (M.now.2.2.1 9 0, S) := y_get (k := 308) z (by decide)
  have u309 : f_X10_get T S 199 (309 : Int32) = some (M.now.2.2.1 9 1, S) := y_get (k := 309) z (by decide)
  show ∃ (T2 : xT) (S2 : xS), xc (f_X9_step T S 0 (a 1) (a 2)) (fun r1 S1 => xc (f_X10_step T S1 199 (a 1) (a 2)) (fun r2 S2 => some (decide (r1 = r2), T, S2))) = some (true, T2, S2) ∧ zI (i + 1) T2 S2
  generalize a 1 = p
  generalize a 2 = q
  by_cases kn : M.now.2.2.1 9 0 = 0
  · refine zQ (r := -1000000000) h ?_ ?_
    · unfold f_X9_step
      rw [rr_0_4 tp, rr_17_1 tp, v40, if_pos kn]
    · unfold f_X10_step
      rw [u308, xc_e, if_pos kn]
  · have c0 : f_X9_step T S 0 p q = (if p < (-1 : Int32) then some ((-1000000000 : Int32), S) else if p < (8 : Int32) then if q = (7 : Int32) then if p = (-1 : Int32) then some (M.now.2.2.1 9 1, S) else f_X9_step_45 T S p q 40 else f_X9_step_45 T S p q 40 else some ((-1000000000 : Int32), S)) := by
      unfold f_X9_step
      rw [rr_0_4 tp, rr_17_1 tp, v40, if_neg kn, v41]
    have r0 : f_X10_step T S 199 p q = (if (if p < (-1 : Int32) then (0 : Int32) else if 7 < p then 0 else 1) = 0 then some ((-1000000000 : Int32), S) else if (if q < (0 : Int32) then (0 : Int32) else if 7 < q then 0 else 1) = 0 then some ((-1000000000 : Int32), S) else if q = (7 : Int32) then if p = (-1 : Int32) then f_X10_step_44 T S 199 p q else some ((-1000000000 : Int32), S) else f_X10_step_44 T S 199 p q) := by
      unfold f_X10_step
      rw [u308, xc_e, if_neg kn, h_isIn, xc_e]
      by_cases w : (if p < (-1 : Int32) then (0 : Int32) else if 7 < p then 0 else 1) = 0
      · rw [if_pos w, if_pos w]
      · rw [if_neg w, if_neg w, h_isIn, xc_e]
    by_cases p1 : p < -1
    · refine zQ (r := -1000000000) h ?_ ?_
      · rw [c0, if_pos p1]
      · rw [r0, if_pos p1, if_pos rfl]
    · by_cases p8 : p < 8
      · have p7 : ¬ 7 < p := by
          rw [xlt, show (8 : Int32).toInt = 8 from by decide] at p8
          rw [xlt, show (7 : Int32).toInt = 7 from by decide]; omega
        rw [c0, if_neg p1, if_pos p8]
        have r1 : f_X10_step T S 199 p q = (if (if q < (0 : Int32) then (0 : Int32) else if 7 < q then 0 else 1) = 0 then some ((-1000000000 : Int32), S) else if q = (7 : Int32) then if p = (-1 : Int32) then f_X10_step_44 T S 199 p q else some ((-1000000000 : Int32), S) else f_X10_step_44 T S 199 p q) := by
          rw [r0, if_neg p1, if_neg p7, if_neg (show ¬ (1 : Int32) = 0 by decide)]
        rcases iN 7 (by decide) q with ⟨j, hj, rfl⟩ | hq
        · have j0 : ¬ nI j < 0 := by rw [xlt, nI_toInt (by omega), show (0 : Int32).toInt = 0 from by decide]; omega
          have j7 : ¬ (7 : Int32) < nI j := by rw [xlt, nI_toInt (by omega), show (7 : Int32).toInt = 7 from by decide]; omega
          rw [if_neg j0, if_neg j7, if_neg (show ¬ (1 : Int32) = 0 by decide)] at r1
          by_cases e7 : j = 7
          · subst e7
            rw [if_pos (show nI 7 = (7 : Int32) from rfl)]
            rw [if_pos (show nI 7 = (7 : Int32) from rfl)] at r1
            by_cases pm : p = -1
            · rw [if_pos pm]
              rw [if_pos pm] at r1
              refine zQ h rfl ?_
              rw [r1]
              unfold f_X10_step_44
              rw [if_pos (show nI 7 = (7 : Int32) from rfl), u309, xc_e]
            · rw [if_neg pm]
              rw [if_neg pm] at r1
              refine zQ h ?_ r1
              unfold f_X9_step_45
              rw [if_neg j0, if_neg (by decide)]
          · have n7 : ¬ nI j = 7 := fun w => e7 ((nI_eq (a := j) (b := 7) (by omega) (by omega)).mp w)
            have j6 : nI j ≤ 6 := by rw [xle, nI_toInt (by omega), show (6 : Int32).toInt = 6 from by decide]; omega
            rw [if_neg n7]
            rw [if_neg n7] at r1
            have ix : (310 : Int32) + (8 : Int32) * nI j = nI (310 + 8 * j) := by rw [show (8 : Int32) * nI j = nI (8 * j) from pk_mul 8 j]; exact nI_add 310 (8 * j)
            have en : ∀ k, k < 8 → encF M.now.2.2.1 M.now.2.2.2 (310 + 8 * j + k) = M.now.2.2.1 10 (8 * j + k) := fun k hk => by
              rw [Nat.add_assoc]; exact er_ro (by omega)
            by_cases pm : p = -1
            · refine zQ (r := xtot (fun k => M.now.2.2.1 10 (8 * j + k))) h ?_ ?_
              · unfold f_X9_step_45 f_X7_totalOf
                rw [if_neg j0, if_pos j6, if_pos pm, xl_e, xl_e, show f_X7_totalOf_4 T xfu S 40 (nI j) 0 0 = _ from L_tot z (by omega) 8 0 xfu 0 rfl (by decide), xc_e]
              · rw [r1]
                unfold f_X10_step_44 f_X10_stepAt f_X10_sumOf
                rw [if_neg n7, if_pos pm, xc_e, ix, xl_e, xl_e, show f_X10_sumOf_4 T xfu S 199 (nI (310 + 8 * j)) 0 0 = _ from L_sum z (by omega) 8 0 xfu 0 rfl (by decide), xc_e]
                exact congrArg (fun v => some (v, S)) (xtot_cong en)
            · obtain ⟨k, hk, rfl⟩ : ∃ k, k < 8 ∧ p = nI k := by
                rcases i8 p with w | w | w
                · exact w
                · exfalso
                  rw [xlt, show (-1 : Int32).toInt = -1 from by decide] at p1
                  rw [xlt, show (0 : Int32).toInt = 0 from by decide] at w
                  apply pm
                  rw [xeq, show (-1 : Int32).toInt = -1 from by decide]; omega
                · exfalso
                  rw [xle, show (8 : Int32).toInt = 8 from by decide] at w
                  rw [xlt, show (8 : Int32).toInt = 8 from by decide] at p8
                  omega
              refine zQ (r := M.now.2.2.1 10 (8 * j + k)) h ?_ ?_
              · unfold f_X9_step_45
                rw [if_neg j0, if_pos j6, if_neg pm, rr_40_2 tp, w_41 z (by omega) hk]
              · rw [r1]
                unfold f_X10_step_44 f_X10_stepAt
                rw [if_neg n7, if_neg pm, xc_e, ix, nI_add, y_get z (by omega), xc_e, en k hk]
        · have hq7 : q < 0 ∨ (7 : Int32) < q := hq
          have q7 : ¬ q = 7 := fun w => by
            subst w
            rcases hq7 with w | w
            · exact absurd w (by decide)
            · exact absurd w (by decide)
          rw [if_neg q7]
          refine zQ (r := -1000000000) h ?_ ?_
          · unfold f_X9_step_45
            by_cases w : q < 0
            · rw [if_pos w]
            · have w7 : ¬ q ≤ 6 := by
                rcases hq7 with v | v
                · exact absurd v w
                · rw [xlt, show (7 : Int32).toInt = 7 from by decide] at v
                  rw [xle, show (6 : Int32).toInt = 6 from by decide]; omega
              rw [if_neg w, if_neg w7]
          · rw [r1]
            by_cases w : q < 0
            · rw [if_pos w, if_pos rfl]
            · rcases hq7 with v | v
              · exact absurd v w
              · rw [if_neg w, if_pos v, if_pos rfl]
      · have p7 : 7 < p := by
          rw [xlt, show (8 : Int32).toInt = 8 from by decide] at p8
          rw [xlt, show (7 : Int32).toInt = 7 from by decide]; omega
        refine zQ (r := -1000000000) h ?_ ?_
        · rw [c0, if_neg p1, if_neg p8]
        · rw [r0, if_neg p1, if_pos p7, if_pos rfl]
