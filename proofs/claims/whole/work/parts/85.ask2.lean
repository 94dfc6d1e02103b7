/-! assets, tiers, gains, floors, steps asked -/
theorem iN (n : Nat) (hn : n < 1000) (p : Int32) : (∃ k, k ≤ n ∧ p = nI k) ∨ p < 0 ∨ nI n < p := by
  by_cases h : p < 0
  · exact Or.inr (Or.inl h)
  · by_cases h2 : nI n < p
    · exact Or.inr (Or.inr h2)
    · rw [xlt, show (0 : Int32).toInt = 0 from by decide] at h
      rw [xlt, nI_toInt (by omega)] at h2
      exact Or.inl ⟨p.toInt.toNat, by omega, by rw [xeq, nI_toInt (by omega)]; omega⟩
theorem h_in {T : xT} {S : xS} {n k : Nat} (hn : n < 1000) (hk : k ≤ n) : f_X10_isIn T S (nI k) 0 (nI n) = some (1, S) := by
  rw [h_isIn, if_neg (show ¬ nI k < 0 by rw [xlt, nI_toInt (by omega), show (0 : Int32).toInt = 0 from by decide]; omega), if_neg (show ¬ nI n < nI k by rw [xlt, nI_toInt (by omega), nI_toInt (by omega)]; omega)]
theorem h_out {T : xT} {S : xS} {p q : Int32} (h : p < 0 ∨ q < p) : f_X10_isIn T S p 0 q = some (0, S) := by
  rw [h_isIn]
  rcases h with h | h
  · rw [if_pos h]
  · by_cases h2 : p < 0
    · rw [if_pos h2]
    · rw [if_neg h2, if_pos h]
theorem o_asset : zOp 8 := by
  intro i T S a hi h
  have h' := h
  obtain ⟨M, B, c, r, g, b0, b1⟩ := h'
  obtain ⟨wt, z⟩ := zV_of c r g
  have tp := c.1
  show ∃ (T2 : xT) (S2 : xS), xc (f_X9_asset T S 0 (a 1) (a 2)) (fun r1 S1 => xc (f_X10_asset T S1 199 (a 1) (a 2)) (fun r2 S2 => some (decide (r1 = r2), T, S2))) = some (true, T2, S2) ∧ zI (i + 1) T2 S2
  generalize a 1 = p
  generalize a 2 = q
  rcases i8 p with ⟨k, hk, rfl⟩ | hp
  · by_cases hb : xb (M.now.2.2.1 0 1) k = 0
    · refine zQ (r := -1) h ?_ ?_
      · unfold f_X9_asset
        rw [rr_0_4 tp, rr_17_0 tp, w_hasA z hk, xc_e, if_pos hb, if_pos rfl]
      · unfold f_X10_asset
        rw [y_asset z hk, xc_e, if_pos hb]
    · have e1 : encF M.now.2.2.1 M.now.2.2.2 (45 + 4 * k + 1) = M.now.2.2.1 6 k := er_bo hk
      have e2 : encF M.now.2.2.1 M.now.2.2.2 (45 + 4 * k + 2) = M.now.2.2.1 7 k := er_ma hk
      have e3 : encF M.now.2.2.1 M.now.2.2.2 (45 + 4 * k + 3) = M.now.2.2.1 8 k := er_de hk
      have ix : ∀ j, nI (45 + 4 * k + 0) + 1 + nI j = nI (45 + 4 * k + (j + 1)) := fun j => by
        rw [nI_1, nI_add]; congr 1; omega
      rcases iN 2 (by decide) q with ⟨j, hj, rfl⟩ | hq
      · have hr : ∀ v, encF M.now.2.2.1 M.now.2.2.2 (45 + 4 * k + (j + 1)) = v → f_X10_asset T S 199 (nI k) (nI j) = some (v, S) := fun v hv => by
          unfold f_X10_asset
          rw [y_asset z hk, xc_e, if_neg hb, show f_X10_isIn T S (nI j) 0 2 = _ from h_in (n := 2) (by decide) hj, xc_e, if_neg (by decide), h_assetAt, xc_e, ix j, y_get z (by omega), xc_e, hv]
        rcases (show j = 0 ∨ j = 1 ∨ j = 2 by omega) with rfl | rfl | rfl
        · refine zQ h ?_ (hr _ e1)
          unfold f_X9_asset
          rw [rr_0_4 tp, rr_17_0 tp, w_hasA z hk, xc_e, if_neg hb, if_neg (by decide), if_pos (by decide), rr_31_11 tp, w_at (j := 6) z (by decide) hk]
        · refine zQ h ?_ (hr _ e2)
          unfold f_X9_asset
          rw [rr_0_4 tp, rr_17_0 tp, w_hasA z hk, xc_e, if_neg hb, if_neg (by decide), if_neg (by decide), if_pos (by decide), rr_31_12 tp, w_at (j := 7) z (by decide) hk]
        · refine zQ h ?_ (hr _ e3)
          unfold f_X9_asset
          rw [rr_0_4 tp, rr_17_0 tp, w_hasA z hk, xc_e, if_neg hb, if_neg (by decide), if_neg (by decide), if_neg (by decide), if_pos (by decide), rr_31_13 tp, w_at (j := 8) z (by decide) hk]
      · have n : ∀ j, j < 3 → ¬ q = nI j := fun j hj e => by
          subst e
          rcases hq with w | w
          · rw [xlt, nI_toInt (by omega), show (0 : Int32).toInt = 0 from by decide] at w; omega
          · rw [xlt, nI_toInt (by omega), nI_toInt (by omega)] at w; omega
        refine zQ (r := -1) h ?_ ?_
        · unfold f_X9_asset
          rw [rr_0_4 tp, rr_17_0 tp, w_hasA z hk, xc_e, if_neg hb, if_neg (by decide), if_neg (show ¬ q = (0 : Int32) from n 0 (by decide)), if_neg (show ¬ q = (1 : Int32) from n 1 (by decide)), if_neg (show ¬ q = (2 : Int32) from n 2 (by decide))]
        · unfold f_X10_asset
          rw [y_asset z hk, xc_e, if_neg hb, show f_X10_isIn T S q 0 2 = _ from h_out hq, xc_e, if_pos rfl]
  · refine zQ (r := -1) h ?_ ?_
    · unfold f_X9_asset
      rw [rr_0_4 tp, rr_17_0 tp, (o8 hp T S 31).2.1, xc_e, if_pos rfl]
    · unfold f_X10_asset
      rw [(o8 hp T S 31).2.2.2, xc_e, if_pos rfl]
/-! the gain -/
theorem L_gA {T : xT} {S : xS} {F : Nat → Nat → Int32} {u wt : Nat → Int32} (z : zV T S F u wt) : ∀ (m i n : Nat) (v : Int32), i + m = 8 → m < n → f_X10_gain_20 T n S 199 (-1) v (nI i) = some (xsm (fun k => F 7 k - F 6 k) m i v, S) := by
  have ha := bOkF_as z.2.2.2.2.2.choose_spec
  intro m
  induction m with
  | zero =>
    intro i n v hi hn
    obtain ⟨n, rfl⟩ : ∃ n', n = n' + 1 := ⟨n - 1, by omega⟩
    obtain rfl : i = 8 := by omega
    unfold f_X10_gain_20
    rw [if_pos (by decide)]
    rfl
  | succ m ih =>
    intro i n v hi hn
    obtain ⟨n, rfl⟩ : ∃ n', n = n' + 1 := ⟨n - 1, by omega⟩
    have hi8 : i < 8 := by omega
    unfold f_X10_gain_20
    rw [if_neg (of_eq_false (x8_ff hi8)), y_asset z hi8, xc_e]
    have e1 : encF F u (45 + 4 * i + 1) = F 6 i := er_bo hi8
    have e2 : encF F u (45 + 4 * i + 2) = F 7 i := er_ma hi8
    by_cases q : xb (F 0 1) i = 0
    · obtain ⟨z1, z2, _⟩ := (ha i hi8).2.2.2 q
      rw [if_pos q, xl_e, nI_1, ih (i + 1) n v (by omega) (by omega)]
      show _ = some (xsm (fun k => F 7 k - F 6 k) m (i + 1) (v + (F 7 i - F 6 i)), S)
      rw [z1, z2, show v + ((0 : Int32) - 0) = v from Int32.add_zero v]
    · rw [if_neg q, if_pos rfl]
      unfold f_X10_gain_47
      rw [h_assetAt, xc_e, show nI (45 + 4 * i + 0) + 2 = nI (45 + 4 * i + 2) from nI_add _ 2, y_get z (by omega), xc_e, h_assetAt, xc_e, show nI (45 + 4 * i + 0) + 1 = nI (45 + 4 * i + 1) from nI_add _ 1, y_get z (by omega), xc_e, xl_e, xl_e, e1, e2, nI_1, ih (i + 1) n _ (by omega) (by omega)]
      rfl
theorem L_g1 {T : xT} {S : xS} {F : Nat → Nat → Int32} {u wt : Nat → Int32} (z : zV T S F u wt) {k : Nat} (hk : k < 8) (hb : ¬ xb (F 0 1) k = 0) : ∀ (m i n : Nat) (v : Int32), i + m = 8 → m < n → f_X10_gain_20 T n S 199 (nI k) v (nI i) = some (if i ≤ k then v + (F 7 k - F 6 k) else v, S) := by
  intro m
  induction m with
  | zero =>
    intro i n v hi hn
    obtain ⟨n, rfl⟩ : ∃ n', n = n' + 1 := ⟨n - 1, by omega⟩
    obtain rfl : i = 8 := by omega
    unfold f_X10_gain_20
    rw [if_pos (by decide), if_neg (by omega)]
  | succ m ih =>
    intro i n v hi hn
    obtain ⟨n, rfl⟩ : ∃ n', n = n' + 1 := ⟨n - 1, by omega⟩
    have hi8 : i < 8 := by omega
    have n1 : ¬ nI k = -1 := (show ∀ k, k < 8 → ¬ nI k = -1 by decide +kernel) k hk
    unfold f_X10_gain_20
    rw [if_neg (of_eq_false (x8_ff hi8)), y_asset z hi8, xc_e]
    have e1 : encF F u (45 + 4 * i + 1) = F 6 i := er_bo hi8
    have e2 : encF F u (45 + 4 * i + 2) = F 7 i := er_ma hi8
    by_cases e : i = k
    · subst e
      rw [if_neg hb, if_neg n1, if_pos rfl]
      unfold f_X10_gain_47
      rw [h_assetAt, xc_e, show nI (45 + 4 * i + 0) + 2 = nI (45 + 4 * i + 2) from nI_add _ 2, y_get z (by omega), xc_e, h_assetAt, xc_e, show nI (45 + 4 * i + 0) + 1 = nI (45 + 4 * i + 1) from nI_add _ 1, y_get z (by omega), xc_e, xl_e, xl_e, e1, e2, nI_1, ih (i + 1) n _ (by omega) (by omega), if_neg (by omega), if_pos (Nat.le_refl _)]
    · have ne : ¬ nI i = nI k := fun w => e ((nI_eq (a := i) (b := k) (by omega) (by omega)).mp w)
      have tail : (if i + 1 ≤ k then v + (F 7 k - F 6 k) else v) = if i ≤ k then v + (F 7 k - F 6 k) else v := by
        by_cases l : i ≤ k
        · rw [if_pos l, if_pos (by omega)]
        · rw [if_neg l, if_neg (by omega)]
      by_cases q : xb (F 0 1) i = 0
      · rw [if_pos q, xl_e, nI_1, ih (i + 1) n v (by omega) (by omega), tail]
      · rw [if_neg q, if_neg n1, if_neg ne, xl_e, nI_1, ih (i + 1) n v (by omega) (by omega), tail]
theorem o_gain : zOp 31 := by
  intro i T S a hi h
  have h' := h
  obtain ⟨M, B, c, r, g, b0, b1⟩ := h'
  obtain ⟨wt, z⟩ := zV_of c r g
  have tp := c.1
  show ∃ (T2 : xT) (S2 : xS), xc (f_X9_gain T S 0 (a 1)) (fun r1 S1 => xc (f_X10_gain T S1 199 (a 1)) (fun r2 S2 => some (decide (r1 = r2), T, S2))) = some (true, T2, S2) ∧ zI (i + 1) T2 S2
  generalize a 1 = p
  by_cases hm : p = -1
  · subst hm
    refine zQ (r := xtot (M.now.2.2.1 7) - xtot (M.now.2.2.1 6)) h ?_ ?_
    · unfold f_X9_gain
      rw [rr_0_4 tp, rr_17_0 tp, if_pos rfl, w_gain z, xc_e]
    · unfold f_X10_gain
      rw [if_pos rfl, xl_e, xl_e, show f_X10_gain_20 T xfu S 199 (-1) 0 0 = _ from L_gA z 8 0 xfu 0 rfl (by decide), xsm_sub]
  · rcases i8 p with ⟨k, hk, rfl⟩ | hp
    · by_cases hb : xb (M.now.2.2.1 0 1) k = 0
      · refine zQ (r := -1000000000) h ?_ ?_
        · unfold f_X9_gain
          rw [rr_0_4 tp, rr_17_0 tp, if_neg hm, w_hasA z hk, xc_e, if_pos hb, if_pos rfl]
        · unfold f_X10_gain
          rw [if_neg hm, y_asset z hk, xc_e, if_pos hb]
      · refine zQ (r := M.now.2.2.1 7 k - M.now.2.2.1 6 k) h ?_ ?_
        · unfold f_X9_gain
          rw [rr_0_4 tp, rr_17_0 tp, if_neg hm, w_hasA z hk, xc_e, if_neg hb, if_neg (by decide), rr_31_12 tp, w_at (j := 7) z (by decide) hk, rr_31_11 tp, w_at (j := 6) z (by decide) hk]
        · unfold f_X10_gain
          rw [if_neg hm, y_asset z hk, xc_e, if_neg hb, xl_e, xl_e, show f_X10_gain_20 T xfu S 199 (nI k) 0 0 = _ from L_g1 z hk hb 8 0 xfu 0 rfl (by decide), if_pos (Nat.zero_le _), Int32.zero_add]
    · refine zQ (r := -1000000000) h ?_ ?_
      · unfold f_X9_gain
        rw [rr_0_4 tp, rr_17_0 tp, if_neg hm, (o8 hp T S 31).2.1, xc_e, if_pos rfl]
      · unfold f_X10_gain
        rw [if_neg hm, (o8 hp T S 31).2.2.2, xc_e, if_pos rfl]
/-! who is below the floor -/
def bel (F : Nat → Nat → Int32) : Nat → Nat → Int32 → Int32
  | 0, _, v => v
  | m + 1, i, v => bel F m (i + 1) (if xb (F 0 0) i = 0 then v else if -F 2 i - F 4 i ≤ F 1 i then v else v ||| ((1 : Int32) <<< (nI i &&& 31)))
theorem L_cbel {T : xT} {S : xS} {F : Nat → Nat → Int32} {u wt : Nat → Int32} (z : zV T S F u wt) : ∀ (m i n : Nat) (v : Int32), i + m = 8 → m < n → f_X9_below_12 T n S 31 v (nI i) = some (bel F m i v, S) := by
  intro m
  induction m with
  | zero =>
    intro i n v hi hn
    obtain ⟨n, rfl⟩ : ∃ n', n = n' + 1 := ⟨n - 1, by omega⟩
    obtain rfl : i = 8 := by omega
    unfold f_X9_below_12
    rw [if_pos (by decide)]
    rfl
  | succ m ih =>
    intro i n v hi hn
    obtain ⟨n, rfl⟩ : ∃ n', n = n' + 1 := ⟨n - 1, by omega⟩
    have hi8 : i < 8 := by omega
    unfold f_X9_below_12 bel
    rw [if_neg (of_eq_false (x8_ff hi8)), w_has z hi8, xc_e]
    by_cases q : xb (F 0 0) i = 0
    · rw [if_pos q, if_pos rfl, xl_e, nI_1, ih (i + 1) n v (by omega) (by omega), if_pos q]
    · rw [if_neg q, if_neg (by decide), rr_31_6 z.1, w_at (j := 1) z (by decide) hi8, w_floor z hi8, xc_e, if_neg q]
      by_cases l : -F 2 i - F 4 i ≤ F 1 i
      · rw [if_pos l, if_pos l, xl_e, nI_1, ih (i + 1) n v (by omega) (by omega)]
      · rw [if_neg l, if_neg l, xl_e, xl_e, nI_1, ih (i + 1) n _ (by omega) (by omega)]
theorem L_rbel {T : xT} {S : xS} {F : Nat → Nat → Int32} {u wt : Nat → Int32} (z : zV T S F u wt) : ∀ (m i n : Nat) (v : Int32), i + m = 8 → m < n → f_X10_below_4 T n S 199 v (nI i) = some (bel F m i v, S) := by
  intro m
  induction m with
  | zero =>
    intro i n v hi hn
    obtain ⟨n, rfl⟩ : ∃ n', n = n' + 1 := ⟨n - 1, by omega⟩
    obtain rfl : i = 8 := by omega
    unfold f_X10_below_4
    rw [if_pos (by decide)]
    rfl
  | succ m ih =>
    intro i n v hi hn
    obtain ⟨n, rfl⟩ : ∃ n', n = n' + 1 := ⟨n - 1, by omega⟩
    have hi8 : i < 8 := by omega
    have e5 : encF F u (5 + i) = F 1 i := er_cap hi8
    unfold f_X10_below_4 bel
    rw [if_neg (of_eq_false (x8_ff hi8)), y_there z hi8, xc_e]
    by_cases q : xb (F 0 0) i = 0
    · rw [if_pos q, xl_e, xl_e, nI_1, show v ||| 0 = v from Int32.or_zero, ih (i + 1) n v (by omega) (by omega), if_pos q]
    · rw [if_neg q, show (5 : Int32) + nI i = nI (5 + i) from nI_add 5 i, y_get z (by omega), xc_e, e5, y_floor z hi8, xc_e, if_neg q]
      by_cases l : -F 2 i - F 4 i ≤ F 1 i
      · rw [if_pos l, if_pos l, xl_e, xl_e, nI_1, show v ||| 0 = v from Int32.or_zero, ih (i + 1) n v (by omega) (by omega)]
      · rw [if_neg l, if_neg l, xl_e, xl_e, nI_1, ih (i + 1) n _ (by omega) (by omega)]
theorem o_below : zOp 32 := by
  intro i T S a hi h
  have h' := h
  obtain ⟨M, B, c, r, g, b0, b1⟩ := h'
  obtain ⟨wt, z⟩ := zV_of c r g
  have tp := c.1
  show ∃ (T2 : xT) (S2 : xS), xc (f_X9_below T S 0) (fun r1 S1 => xc (f_X10_below T S1 199) (fun r2 S2 => some (decide (r1 = r2), T, S2))) = some (true, T2, S2) ∧ zI (i + 1) T2 S2
  refine zQ (r := bel M.now.2.2.1 8 0 0) h ?_ ?_
  · unfold f_X9_below
    rw [rr_0_4 tp, rr_17_0 tp, xl_e, xl_e]
    exact L_cbel z 8 0 xfu 0 rfl (by decide)
  · unfold f_X10_below
    rw [xl_e, xl_e]
    exact L_rbel z 8 0 xfu 0 rfl (by decide)
