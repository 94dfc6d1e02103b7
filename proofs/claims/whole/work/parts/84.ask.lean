/-! what is asked: numbers of the state -/
def zV (T : xT) (S : xS) (F : Nat → Nat → Int32) (u wt : Nat → Int32) : Prop := xTp T S.2.2 ∧ clV S 31 40 F ∧ S.1 199 1 = nI (366 * 0) ∧ rV S 0 F u ∧ rwV S wt ∧ ∃ B, bOkF B F
theorem zV_of {T : xT} {S : xS} {M : zM} {B : Int} (c : zC T S M) (r : zR S M) (g : zG T S B M) : ∃ wt, zV T S M.now.2.2.1 M.now.2.2.2 wt := ⟨r.1.2.choose, c.1, c.2.1.2.2, r.1.1, r.2.1, r.1.2.choose_spec, B, g.1.2.2⟩
theorem zQ {i : Nat} {T : xT} {S : xS} {f9 : Option (Int32 × xS)} {f10 : xS → Option (Int32 × xS)} {r : Int32} (h : zI i T S) (h1 : f9 = some (r, S)) (h2 : f10 S = some (r, S)) : ∃ (T2 : xT) (S2 : xS), xc f9 (fun r1 S1 => xc (f10 S1) (fun r2 S2 => some (decide (r1 = r2), T, S2))) = some (true, T2, S2) ∧ zI (i + 1) T2 S2 := ⟨T, S, zX h1 h2, zId h⟩
theorem i8 (p : Int32) : (∃ k, k < 8 ∧ p = nI k) ∨ p < 0 ∨ 8 ≤ p := by
  by_cases h : p < 0
  · exact Or.inr (Or.inl h)
  · by_cases h2 : 8 ≤ p
    · exact Or.inr (Or.inr h2)
    · rw [xlt, show (0 : Int32).toInt = 0 from by decide] at h
      rw [xle, show (8 : Int32).toInt = 8 from by decide] at h2
      exact Or.inl ⟨p.toInt.toNat, by omega, by rw [xeq, nI_toInt (by omega)]; omega⟩
theorem o8 {p : Int32} (h : p < 0 ∨ 8 ≤ p) (T : xT) (S : xS) (b : Nat) : f_X1_hasPartner T S b p = some (0, S) ∧ f_X1_hasAsset T S b p = some (0, S) ∧ f_X10_isThere T S 199 p = some (0, S) ∧ f_X10_isAsset T S 199 p = some (0, S) := by
  unfold f_X1_hasPartner f_X1_hasAsset f_X10_isThere f_X10_isAsset
  rw [h_isIn, xc_e, xc_e]
  rcases h with h | h
  · rw [if_pos h, if_pos h, if_pos h, if_pos rfl, if_pos rfl]
    exact ⟨rfl, rfl, rfl, rfl⟩
  · have n : ¬ p < 0 := by
      rw [xle, show (8 : Int32).toInt = 8 from by decide] at h
      rw [xlt, show (0 : Int32).toInt = 0 from by decide]; omega
    have m : (7 : Int32) < p := by
      rw [xle, show (8 : Int32).toInt = 8 from by decide] at h
      rw [xlt, show (7 : Int32).toInt = 7 from by decide]; omega
    rw [if_neg n, if_neg n, if_neg n, if_pos h, if_pos h, if_pos m, if_pos rfl, if_pos rfl]
    exact ⟨rfl, rfl, rfl, rfl⟩
theorem xb_ext {m n : Int32} (h : ∀ j, j < 32 → xb m j = xb n j) : m = n := b_ext (fun i hi => by
  have := h i hi
  by_cases q : bt n i = true
  · rw [q]
    exact (xb_1 m hi).mp (this.trans ((xb_1 n hi).mpr q))
  · have q' : bt n i = false := by cases hq : bt n i with
      | true => exact absurd hq q
      | false => rfl
    rw [q']
    exact (xb_0 m hi).mp (this.trans ((xb_0 n hi).mpr q')))
theorem w_net {T : xT} {S : xS} {F : Nat → Nat → Int32} {u wt : Nat → Int32} (z : zV T S F u wt) : f_X1_net T S 31 = some (xsm (fun k => F 6 k - F 8 k) 8 0 (F 0 2), S) := by
  have g : f_X1_net T (kF S 31 40 F) 31 = some (xsm (fun k => F 6 k - F 8 k) 8 0 (F 0 2), kF S 31 40 F) := g_net (Or.inl ⟨rfl, rfl⟩) z.1
  rw [c_self z.2.1] at g
  exact g
theorem w_held {T : xT} {S : xS} {F : Nat → Nat → Int32} {u wt : Nat → Int32} (z : zV T S F u wt) : f_X1_held T S 31 = some (xtot (xhe (F 6) (F 8)), S) := by
  have g : f_X1_held T (kF S 31 40 F) 31 = some (xtot (xhe (F 6) (F 8)), kF S 31 40 F) := g_held (Or.inl ⟨rfl, rfl⟩) z.1
  rw [c_self z.2.1] at g
  exact g
theorem w_cap {T : xT} {S : xS} {F : Nat → Nat → Int32} {u wt : Nat → Int32} (z : zV T S F u wt) : f_X9_total T S 32 = some (xtot (F 1), S) := by
  have g : f_X9_total T (kF S 31 40 F) 32 = some (xtot (F 1), kF S 31 40 F) := g_tot_cap (Or.inl ⟨rfl, rfl⟩) z.1
  rw [c_self z.2.1] at g
  exact g
theorem w_sh {T : xT} {S : xS} {F : Nat → Nat → Int32} {u wt : Nat → Int32} (z : zV T S F u wt) : f_X9_total T S 35 = some (xtot (F 4), S) := by
  have g : f_X9_total T (kF S 31 40 F) 35 = some (xtot (F 4), kF S 31 40 F) := g_tot_sh (Or.inl ⟨rfl, rfl⟩) z.1
  rw [c_self z.2.1] at g
  exact g
theorem w_ow {T : xT} {S : xS} {F : Nat → Nat → Int32} {u wt : Nat → Int32} (z : zV T S F u wt) : f_X9_total T S 36 = some (xtot (F 5), S) := by
  have g : f_X9_total T (kF S 31 40 F) 36 = some (xtot (F 5), kF S 31 40 F) := g_tot_ow (Or.inl ⟨rfl, rfl⟩) z.1
  rw [c_self z.2.1] at g
  exact g
theorem w_gain {T : xT} {S : xS} {F : Nat → Nat → Int32} {u wt : Nat → Int32} (z : zV T S F u wt) : f_X1_gainOfAll T S 31 = some (xtot (F 7) - xtot (F 6), S) := by
  have g : f_X1_gainOfAll T (kF S 31 40 F) 31 = some (xtot (F 7) - xtot (F 6), kF S 31 40 F) := g_gainAll (Or.inl ⟨rfl, rfl⟩) z.1
  rw [c_self z.2.1] at g
  exact g
theorem w_has {T : xT} {S : xS} {F : Nat → Nat → Int32} {u wt : Nat → Int32} (z : zV T S F u wt) {k : Nat} (hk : k < 8) : f_X1_hasPartner T S 31 (nI k) = some (if xb (F 0 0) k = 0 then 0 else 1, S) := by
  have g : f_X1_hasPartner T (kF S 31 40 F) 31 (nI k) = some (if xb (F 0 0) k = 0 then 0 else 1, kF S 31 40 F) := g_has (Or.inl ⟨rfl, rfl⟩) hk
  rw [c_self z.2.1] at g
  exact g
theorem w_hasA {T : xT} {S : xS} {F : Nat → Nat → Int32} {u wt : Nat → Int32} (z : zV T S F u wt) {k : Nat} (hk : k < 8) : f_X1_hasAsset T S 31 (nI k) = some (if xb (F 0 1) k = 0 then 0 else 1, S) := by
  have g : f_X1_hasAsset T (kF S 31 40 F) 31 (nI k) = some (if xb (F 0 1) k = 0 then 0 else 1, kF S 31 40 F) := g_hasA (Or.inl ⟨rfl, rfl⟩) hk
  rw [c_self z.2.1] at g
  exact g
theorem w_floor {T : xT} {S : xS} {F : Nat → Nat → Int32} {u wt : Nat → Int32} (z : zV T S F u wt) {k : Nat} (hk : k < 8) : f_X1_floorOf T S 31 (nI k) = some (-F 2 k - F 4 k, S) := by
  have g : f_X1_floorOf T (kF S 31 40 F) 31 (nI k) = some (-F 2 k - F 4 k, kF S 31 40 F) := g_floor (Or.inl ⟨rfl, rfl⟩) z.1 hk
  rw [c_self z.2.1] at g
  exact g
theorem y_net {T : xT} {S : xS} {F : Nat → Nat → Int32} {u wt : Nat → Int32} (z : zV T S F u wt) : f_X10_net T S 199 = some (xsm (fun k => F 6 k - F 8 k) 8 0 (F 0 2), S) := by
  have g : f_X10_net T (rF S (366 * 0) wt F u) 199 = some (xsm (fun k => F 6 k - F 8 k) 8 0 (F 0 2), rF S (366 * 0) wt F u) := h_net z.1 z.2.2.1 (by decide) (bOkF_as z.2.2.2.2.2.choose_spec)
  rw [r_self z.2.2.2.1 z.2.2.2.2.1] at g
  exact g
theorem y_held {T : xT} {S : xS} {F : Nat → Nat → Int32} {u wt : Nat → Int32} (z : zV T S F u wt) : f_X10_held T S 199 = some (xtot (xhe (F 6) (F 8)), S) := by
  have g : f_X10_held T (rF S (366 * 0) wt F u) 199 = some (xtot (xhe (F 6) (F 8)), rF S (366 * 0) wt F u) := h_held z.1 z.2.2.1 (by decide) (bOkF_as z.2.2.2.2.2.choose_spec)
  rw [r_self z.2.2.2.1 z.2.2.2.2.1] at g
  exact g
theorem y_cap {T : xT} {S : xS} {F : Nat → Nat → Int32} {u wt : Nat → Int32} (z : zV T S F u wt) : f_X10_sumOf T S 199 (5 : Int32) = some (xtot (F 1), S) := by
  have g : f_X10_sumOf T (rF S (366 * 0) wt F u) 199 (5 : Int32) = some (xtot (F 1), rF S (366 * 0) wt F u) := h_sumOf_cap z.1 z.2.2.1 (by decide)
  rw [r_self z.2.2.2.1 z.2.2.2.2.1] at g
  exact g
theorem y_sh {T : xT} {S : xS} {F : Nat → Nat → Int32} {u wt : Nat → Int32} (z : zV T S F u wt) : f_X10_sumOf T S 199 (29 : Int32) = some (xtot (F 4), S) := by
  have g : f_X10_sumOf T (rF S (366 * 0) wt F u) 199 (29 : Int32) = some (xtot (F 4), rF S (366 * 0) wt F u) := h_sumOf_sh z.1 z.2.2.1 (by decide)
  rw [r_self z.2.2.2.1 z.2.2.2.2.1] at g
  exact g
theorem y_ow {T : xT} {S : xS} {F : Nat → Nat → Int32} {u wt : Nat → Int32} (z : zV T S F u wt) : f_X10_sumOf T S 199 (37 : Int32) = some (xtot (F 5), S) := by
  have g : f_X10_sumOf T (rF S (366 * 0) wt F u) 199 (37 : Int32) = some (xtot (F 5), rF S (366 * 0) wt F u) := h_sumOf_ow z.1 z.2.2.1 (by decide)
  rw [r_self z.2.2.2.1 z.2.2.2.2.1] at g
  exact g
theorem y_there {T : xT} {S : xS} {F : Nat → Nat → Int32} {u wt : Nat → Int32} (z : zV T S F u wt) {k : Nat} (hk : k < 8) : f_X10_isThere T S 199 (nI k) = some (xb (F 0 0) k, S) := by
  have g : f_X10_isThere T (rF S (366 * 0) wt F u) 199 (nI k) = some (xb (F 0 0) k, rF S (366 * 0) wt F u) := h_there z.1 z.2.2.1 (by decide) hk
  rw [r_self z.2.2.2.1 z.2.2.2.2.1] at g
  exact g
theorem y_asset {T : xT} {S : xS} {F : Nat → Nat → Int32} {u wt : Nat → Int32} (z : zV T S F u wt) {k : Nat} (hk : k < 8) : f_X10_isAsset T S 199 (nI k) = some (xb (F 0 1) k, S) := by
  have g : f_X10_isAsset T (rF S (366 * 0) wt F u) 199 (nI k) = some (xb (F 0 1) k, rF S (366 * 0) wt F u) := h_asset z.1 z.2.2.1 (by decide) hk
  rw [r_self z.2.2.2.1 z.2.2.2.2.1] at g
  exact g
theorem y_floor {T : xT} {S : xS} {F : Nat → Nat → Int32} {u wt : Nat → Int32} (z : zV T S F u wt) {k : Nat} (hk : k < 8) : f_X10_floorOf T S 199 (nI k) = some (-F 2 k - F 4 k, S) := by
  have g : f_X10_floorOf T (rF S (366 * 0) wt F u) 199 (nI k) = some (-F 2 k - F 4 k, rF S (366 * 0) wt F u) := h_floor z.1 z.2.2.1 (by decide) hk
  rw [r_self z.2.2.2.1 z.2.2.2.2.1] at g
  exact g
theorem y_get {T : xT} {S : xS} {F : Nat → Nat → Int32} {u wt : Nat → Int32} (z : zV T S F u wt) {k : Nat} (hk : k < 366) : f_X10_get T S 199 (nI k) = some (encF F u k, S) := by
  have g : f_X10_get T (rF S (366 * 0) wt F u) 199 (nI k) = some (encF F u k, rF S (366 * 0) wt F u) := rget z.1 z.2.2.1 (by decide) hk
  rw [r_self z.2.2.2.1 z.2.2.2.2.1] at g
  exact g
theorem w_at {α : Type} {T : xT} {S : xS} {F : Nat → Nat → Int32} {u wt : Nat → Int32} (z : zV T S F u wt) {j k : Nat} (hj : 1 ≤ j ∧ j ≤ 8) (hk : k < 8) {K : Int32 → Option α} : xai T S (31 + j) (nI k) K = K (F j k) := by
  rw [xai_n (xTp_n z.1 8 (by omega) ((show ∀ j, j < 9 → 1 ≤ j → xN.getD (31 + j) 0 = 8 by decide +kernel) j (by omega) hj.1)) hk (by decide), z.2.1.2.1 j hj.1 hj.2 k hk]
theorem L_is {T : xT} {S : xS} {F : Nat → Nat → Int32} {u wt : Nat → Int32} (z : zV T S F u wt) : ∀ (m i n : Nat) (v : Int32), i + m = 8 → m < n → (∀ j, j < 32 → xb v j = if j < i then xb (F 0 1) j else 0) → f_X10_is_102 T n S 199 v (nI i) = some (F 0 1, S) := by
  intro m
  induction m with
  | zero =>
    intro i n v hi hn hv
    obtain ⟨n, rfl⟩ : ∃ n', n = n' + 1 := ⟨n - 1, by omega⟩
    obtain rfl : i = 8 := by omega
    unfold f_X10_is_102
    rw [if_pos (by decide)]
    have e : v = F 0 1 := xb_ext (fun j hj => by
      rw [hv j hj]
      by_cases q : j < 8
      · rw [if_pos q]
      · rw [if_neg q]
        exact (z.2.2.2.2.2.choose_spec.1.2 j (by omega) hj).symm)
    rw [e]
  | succ m ih =>
    intro i n v hi hn hv
    obtain ⟨n, rfl⟩ : ∃ n', n = n' + 1 := ⟨n - 1, by omega⟩
    have hi8 : i < 8 := by omega
    unfold f_X10_is_102
    rw [if_neg (of_eq_false (x8_ff hi8)), y_asset z hi8, xc_e]
    by_cases q : xb (F 0 1) i = 0
    · rw [if_pos q, xl_e, xl_e, nI_1, show v ||| 0 = v from Int32.or_zero]
      refine ih (i + 1) n v (by omega) (by omega) (fun j hj => ?_)
      rw [hv j hj]
      by_cases e : j = i
      · subst e
        rw [if_neg (by omega), if_pos (by omega), q]
      · by_cases l : j < i
        · rw [if_pos l, if_pos (by omega)]
        · rw [if_neg l, if_neg (by omega)]
    · rw [if_neg q, xl_e, xl_e, nI_1]
      refine ih (i + 1) n _ (by omega) (by omega) (fun j hj => ?_)
      rw [xb_or (by omega) hj]
      by_cases e : j = i
      · subst e
        rw [if_pos rfl, if_pos (by omega)]
        rcases xb_01 (F 0 1) j with w | w
        · exact absurd w q
        · exact w.symm
      · rw [if_neg e, hv j hj]
        by_cases l : j < i
        · rw [if_pos l, if_pos (by omega)]
        · rw [if_neg l, if_neg (by omega)]
theorem o_is : zOp 6 := by
  intro i T S a hi h
  have h' := h
  obtain ⟨M, B, c, r, g, b0, b1⟩ := h'
  obtain ⟨wt, z⟩ := zV_of c r g
  have tp := c.1
  show ∃ (T2 : xT) (S2 : xS), xc (f_X9_is T S 0 (a 1)) (fun r1 S1 => xc (f_X10_is T S1 199 (a 1)) (fun r2 S2 => some (decide (r1 = r2), T, S2))) = some (true, T2, S2) ∧ zI (i + 1) T2 S2
  generalize a 1 = p
  have v0 := z.2.1.1
  by_cases h0 : p = 0
  · subst h0
    refine zQ (r := M.now.2.2.1 0 4) h ?_ ?_
    · unfold f_X9_is
      rw [rr_0_4 tp, rr_17_0 tp, if_pos rfl]
      rw [v0 4 (by decide)]
    · unfold f_X10_is
      rw [if_pos rfl]
      rw [show f_X10_get T S 199 ((1 : Int32) + 0) = _ from y_get (k := 1) z (by decide), xc_e]; rfl
  by_cases h1 : p = 1
  · subst h1
    refine zQ (r := M.now.2.2.1 0 3) h ?_ ?_
    · unfold f_X9_is
      rw [rr_0_4 tp, rr_17_0 tp, if_neg (by decide), if_pos rfl]
      rw [v0 3 (by decide)]
    · unfold f_X10_is
      rw [if_neg (by decide), if_pos rfl]
      rw [show f_X10_get T S 199 ((1 : Int32) + 1) = _ from y_get (k := 2) z (by decide), xc_e]; rfl
  by_cases h2 : p = 2
  · subst h2
    refine zQ (r := M.now.2.2.1 0 2) h ?_ ?_
    · unfold f_X9_is
      rw [rr_0_4 tp, rr_17_0 tp, if_neg (by decide), if_neg (by decide), if_pos rfl]
      rw [v0 2 (by decide)]
    · unfold f_X10_is
      rw [if_neg (by decide), if_neg (by decide), if_pos rfl]
      rw [show f_X10_get T S 199 ((1 : Int32) + 2) = _ from y_get (k := 3) z (by decide), xc_e]; rfl
  by_cases h3 : p = 3
  · subst h3
    refine zQ (r := xsm (fun k => M.now.2.2.1 6 k - M.now.2.2.1 8 k) 8 0 (M.now.2.2.1 0 2)) h ?_ ?_
    · unfold f_X9_is
      rw [rr_0_4 tp, rr_17_0 tp, if_neg (by decide), if_neg (by decide), if_neg (by decide), if_pos rfl]
      rw [w_net z, xc_e]
    · unfold f_X10_is
      rw [if_neg (by decide), if_neg (by decide), if_neg (by decide), if_pos rfl]
      rw [y_net z, xc_e]
  by_cases h4 : p = 4
  · subst h4
    refine zQ (r := xtot (xhe (M.now.2.2.1 6) (M.now.2.2.1 8))) h ?_ ?_
    · unfold f_X9_is
      rw [rr_0_4 tp, rr_17_0 tp, if_neg (by decide), if_neg (by decide), if_neg (by decide), if_neg (by decide), if_pos rfl]
      rw [w_held z, xc_e]
    · unfold f_X10_is
      rw [if_neg (by decide), if_neg (by decide), if_neg (by decide), if_neg (by decide), if_pos rfl]
      rw [y_held z, xc_e]
  by_cases h5 : p = 5
  · subst h5
    refine zQ (r := M.now.2.2.1 0 5) h ?_ ?_
    · unfold f_X9_is
      rw [rr_0_4 tp, rr_17_0 tp, if_neg (by decide), if_neg (by decide), if_neg (by decide), if_neg (by decide), if_neg (by decide), if_pos rfl]
      rw [v0 5 (by decide)]
    · unfold f_X10_is
      rw [if_neg (by decide), if_neg (by decide), if_neg (by decide), if_neg (by decide), if_neg (by decide), if_pos rfl]
      rw [show f_X10_get T S 199 (4 : Int32) = _ from y_get (k := 4) z (by decide), xc_e]; rfl
  by_cases h6 : p = 6
  · subst h6
    refine zQ (r := M.now.2.2.1 0 0) h ?_ ?_
    · unfold f_X9_is
      rw [rr_0_4 tp, rr_17_0 tp, if_neg (by decide), if_neg (by decide), if_neg (by decide), if_neg (by decide), if_neg (by decide), if_neg (by decide), if_pos rfl]
      rw [v0 0 (by decide)]
    · unfold f_X10_is
      rw [if_neg (by decide), if_neg (by decide), if_neg (by decide), if_neg (by decide), if_neg (by decide), if_neg (by decide), if_pos rfl]
      rw [show f_X10_get T S 199 (0 : Int32) = _ from y_get (k := 0) z (by decide), xc_e]; rfl
  by_cases h7 : p = 7
  · subst h7
    refine zQ (r := M.now.2.2.1 0 1) h ?_ ?_
    · unfold f_X9_is
      rw [rr_0_4 tp, rr_17_0 tp, if_neg (by decide), if_neg (by decide), if_neg (by decide), if_neg (by decide), if_neg (by decide), if_neg (by decide), if_neg (by decide), if_pos rfl]
      rw [v0 1 (by decide)]
    · unfold f_X10_is
      rw [if_neg (by decide), if_neg (by decide), if_neg (by decide), if_neg (by decide), if_neg (by decide), if_neg (by decide), if_neg (by decide), if_pos rfl]
      rw [xl_e, xl_e]; exact L_is z 8 0 xfu 0 rfl (by decide) (fun j hj => by rw [xb_zero j hj, if_neg (by omega)])
  by_cases h8 : p = 8
  · subst h8
    refine zQ (r := xtot (M.now.2.2.1 1)) h ?_ ?_
    · unfold f_X9_is
      rw [rr_0_4 tp, rr_17_0 tp, if_neg (by decide), if_neg (by decide), if_neg (by decide), if_neg (by decide), if_neg (by decide), if_neg (by decide), if_neg (by decide), if_neg (by decide), if_pos rfl]
      rw [rr_31_6 tp, w_cap z, xc_e]
    · unfold f_X10_is
      rw [if_neg (by decide), if_neg (by decide), if_neg (by decide), if_neg (by decide), if_neg (by decide), if_neg (by decide), if_neg (by decide), if_neg (by decide), if_pos rfl]
      rw [y_cap z, xc_e]
  by_cases h9 : p = 9
  · subst h9
    refine zQ (r := xtot (M.now.2.2.1 4)) h ?_ ?_
    · unfold f_X9_is
      rw [rr_0_4 tp, rr_17_0 tp, if_neg (by decide), if_neg (by decide), if_neg (by decide), if_neg (by decide), if_neg (by decide), if_neg (by decide), if_neg (by decide), if_neg (by decide), if_neg (by decide), if_pos rfl]
      rw [rr_31_9 tp, w_sh z, xc_e]
    · unfold f_X10_is
      rw [if_neg (by decide), if_neg (by decide), if_neg (by decide), if_neg (by decide), if_neg (by decide), if_neg (by decide), if_neg (by decide), if_neg (by decide), if_neg (by decide), if_pos rfl]
      rw [y_sh z, xc_e]
  by_cases h10 : p = 10
  · subst h10
    refine zQ (r := xtot (M.now.2.2.1 5)) h ?_ ?_
    · unfold f_X9_is
      rw [rr_0_4 tp, rr_17_0 tp, if_neg (by decide), if_neg (by decide), if_neg (by decide), if_neg (by decide), if_neg (by decide), if_neg (by decide), if_neg (by decide), if_neg (by decide), if_neg (by decide), if_neg (by decide), if_pos rfl]
      rw [rr_31_10 tp, w_ow z, xc_e]
    · unfold f_X10_is
      rw [if_neg (by decide), if_neg (by decide), if_neg (by decide), if_neg (by decide), if_neg (by decide), if_neg (by decide), if_neg (by decide), if_neg (by decide), if_neg (by decide), if_neg (by decide), if_pos rfl]
      rw [y_ow z, xc_e]
  by_cases h11 : p = 11
  · subst h11
    refine zQ (r := nI M.d) h ?_ ?_
    · unfold f_X9_is
      rw [rr_0_4 tp, rr_17_0 tp, if_neg (by decide), if_neg (by decide), if_neg (by decide), if_neg (by decide), if_neg (by decide), if_neg (by decide), if_neg (by decide), if_neg (by decide), if_neg (by decide), if_neg (by decide), if_neg (by decide), if_pos rfl]
      rw [c.2.2.1.2.1.1]
    · unfold f_X10_is
      rw [if_neg (by decide), if_neg (by decide), if_neg (by decide), if_neg (by decide), if_neg (by decide), if_neg (by decide), if_neg (by decide), if_neg (by decide), if_neg (by decide), if_neg (by decide), if_neg (by decide), if_pos rfl]
      rw [r.2.2.1.1]
  by_cases h12 : p = 12
  · subst h12
    refine zQ (r := nI M.L) h ?_ ?_
    · unfold f_X9_is
      rw [rr_0_4 tp, rr_17_0 tp, if_neg (by decide), if_neg (by decide), if_neg (by decide), if_neg (by decide), if_neg (by decide), if_neg (by decide), if_neg (by decide), if_neg (by decide), if_neg (by decide), if_neg (by decide), if_neg (by decide), if_neg (by decide), if_pos rfl]
      rw [rr_0_0 tp, c.2.2.2.2.1.2.1]
    · unfold f_X10_is
      rw [if_neg (by decide), if_neg (by decide), if_neg (by decide), if_neg (by decide), if_neg (by decide), if_neg (by decide), if_neg (by decide), if_neg (by decide), if_neg (by decide), if_neg (by decide), if_neg (by decide), if_neg (by decide), if_pos rfl]
      rw [r.2.2.2.2.1.1]
  refine zQ (r := -1000000000) h ?_ ?_
  · unfold f_X9_is
    rw [rr_0_4 tp, rr_17_0 tp, if_neg h0, if_neg h1, if_neg h2, if_neg h3, if_neg h4, if_neg h5, if_neg h6, if_neg h7, if_neg h8, if_neg h9, if_neg h10, if_neg h11, if_neg h12]
  · unfold f_X10_is
    rw [if_neg h0, if_neg h1, if_neg h2, if_neg h3, if_neg h4, if_neg h5, if_neg h6, if_neg h7, if_neg h8, if_neg h9, if_neg h10, if_neg h11, if_neg h12]
