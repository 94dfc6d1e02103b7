/-! the text of tiers: begin of the class, and the reference -/
theorem c_start {T : xT} {S : xS} {tb : Nat → Int32} {L : Nat} {g : Nat → Int32} (h : cTb T S tb L) (h1 : g 1 = nI L) : ∃ g', f_X3_start T (xw S 1 g) 1 = some (xw S 1 g') ∧ cTk tb L 0 g' ∧ g' 2 = -1 := by
  unfold f_X3_start
  rw [xpi_e, xI_xw, xpi_e, xI_xw]
  obtain ⟨g', e, k, z⟩ := c_adv (q := 0) h (by omega) (g := va_up (va_up g 4 0) 2 (-1)) (by rw [up_ne (by decide), up_ne (by decide)]; exact h1) (by rw [up_ne (by decide), xup_at]; rfl)
  rw [e, xcv_e]
  exact ⟨g', rfl, k, by rw [z, xup_at]⟩
def z88 : Nat → Nat → Int32 := fun _ => z8
theorem c_readTiers {T : xT} {S : xS} {tb : Nat → Int32} {L ta : Nat} {c s A g : Nat → Int32} (h : cTb T S tb L) (ti : xTi T S.2.2 ta) (h1 : g 1 = nI L) : ∃ R g' c' s' A', f_X8_readTiers T (xw (tB S ta c s A) 1 g) ta 1 = some (R, xw (tB S ta c' s' A') 1 g') ∧ (tKd tb L 0 = 0 → R = 0 ∧ c' = c ∧ s' = s ∧ A' = A ∧ g' 2 = -1) ∧ (tKd tb L 0 ≠ 0 → (pT tb L 8 0 0 z8 z88).1 = true → R = nI ((pT tb L 8 0 0 z8 z88).2.2.1 + 1) ∧ g' 2 = -1 ∧ tOk (tB S ta c' s' A') ta (pT tb L 8 0 0 z8 z88).2.2.1 (pT tb L 8 0 0 z8 z88).2.2.2.1 (pT tb L 8 0 0 z8 z88).2.2.2.2) ∧ (tKd tb L 0 ≠ 0 → (pT tb L 8 0 0 z8 z88).1 = false → R = -1 ∧ g' 2 = nI (tPl tb L (pT tb L 8 0 0 z8 z88).2.1)) := by
  have hta := ti.1
  have hb : cTb T (tB S ta c s A) tb L := cTb_w (by omega) (tB_h h ti)
  unfold f_X8_readTiers
  obtain ⟨g1, e1, k1, z1⟩ := c_start hb h1
  rw [e1, xcv_e]
  unfold f_X3_isAtEnd
  rw [xw_1, k1.2.2.2.1]
  by_cases a : tKd tb L 0 = 0
  · rw [if_pos a, xc_e, if_neg (show ¬ (1 : Int32) = 0 by decide)]
    exact ⟨0, g1, c, s, A, rfl, fun _ => ⟨rfl, rfl, rfl, rfl, z1⟩, fun z => absurd a z, fun z => absurd a z⟩
  · rw [if_neg a, xc_e, if_pos rfl, xl_e, xl_e]
    obtain ⟨g2, c2, s2, A2, e2, k2, t2⟩ := L_cT (c := c) h ti 8 0 xfu 0 s A g1 z8 z88 rfl (by decide) (by omega) k1 (fun j hj => by omega) (fun j hj => by omega)
    refine ⟨_, g2, c2, s2, A2, e2, fun z => absurd z a, fun _ z => ?_, fun _ z => ?_⟩
    · refine ⟨by rw [if_pos z], ?_, t2 z⟩
      exact (c_af z k2).2.trans z1
    · refine ⟨by rw [if_neg (by rw [z]; decide)], c_aff z k2⟩
/-! the reference -/
theorem rW_c {S : xS} {g : Nat → Int32} {j : Nat → Int64} {a k : Nat} {v : Int32} (ha : a ≠ 199) : xI (rW S g j) a k v = rW (xI S a k v) g j := by
  unfold xI rW xput
  refine Prod.ext (funext fun c => ?_) rfl
  show va_up (va_up S.1 199 g) a (va_up (va_up S.1 199 g a) k v) c = va_up (va_up S.1 a (va_up (S.1 a) k v)) 199 g c
  rw [va_up_ne _ _ ha]
  by_cases h1 : c = a
  · subst h1; rw [xup_at, va_up_ne _ _ ha, xup_at]
  · rw [va_up_ne _ _ h1]
    by_cases h2 : c = 199
    · subst h2; rw [xup_at, xup_at]
    · rw [va_up_ne _ _ h2, va_up_ne _ _ h2, va_up_ne _ _ h1]
theorem rTb_w {T : xT} {S : xS} {tb : Nat → Int32} {L a : Nat} {f : Nat → Int32} (ha : a ≠ 202) (h : rTb T S tb L) : rTb T (xw S a f) tb L := ⟨h.1, h.2.1, fun k hk => by rw [xw_ne _ _ (fun q => ha q.symm)]; exact h.2.2 k hk⟩
def rq (k : Nat) (w f : Nat → Int32) : Nat → Int32 := fun j => if 9 * k + 1 ≤ j ∧ j < 9 * k + 9 then w (j - (9 * k + 1)) else f j
theorem rq_in {k p : Nat} {w f : Nat → Int32} (h : p < 8) : rq k w f (9 * k + 1 + p) = w p := by
  unfold rq
  rw [if_pos (by omega), Nat.add_sub_cancel_left]
theorem rq_out {k x : Nat} {w f : Nat → Int32} (h : x < 9 * k + 1 ∨ 9 * k + 9 ≤ x) : rq k w f x = f x := by
  unfold rq
  rw [if_neg (by omega)]
theorem rq_up {k p : Nat} {w f : Nat → Int32} {v : Int32} (h : p < 8) : va_up (rq k w f) (9 * k + 1 + p) v = rq k (va_up w p v) f := by
  funext x
  unfold rq
  by_cases hx : x = 9 * k + 1 + p
  · subst hx; rw [xup_at, if_pos (by omega), Nat.add_sub_cancel_left, xup_at]
  · rw [va_up_ne _ _ hx]
    show (if 9 * k + 1 ≤ x ∧ x < 9 * k + 9 then w (x - (9 * k + 1)) else f x) = _
    by_cases h2 : 9 * k + 1 ≤ x ∧ x < 9 * k + 9
    · rw [if_pos h2, if_pos h2, va_up_ne _ _ (by omega)]
    · rw [if_neg h2, if_neg h2]
def cnz (w : Nat → Int32) : Nat → Nat → Nat
  | 0, _ => 0
  | m + 1, i => (if w i = 0 then 0 else 1) + cnz w m (i + 1)
theorem cnz_le (w : Nat → Int32) : ∀ (m i : Nat), cnz w m i ≤ m
  | 0, _ => Nat.le_refl 0
  | m + 1, i => by
    have := cnz_le w m (i + 1)
    unfold cnz
    split <;> omega
theorem cnz_all {w : Nat → Int32} : ∀ (m i : Nat), cnz w m i = m → ∀ k, i ≤ k → k < i + m → w k ≠ 0
  | 0, i, h, k, h1, h2 => by omega
  | m + 1, i, h, k, h1, h2 => by
    have := cnz_le w m (i + 1)
    unfold cnz at h
    by_cases hz : w i = 0
    · rw [if_pos hz] at h; omega
    · rw [if_neg hz] at h
      by_cases hk : k = i
      · subst hk; exact hz
      · exact cnz_all m (i + 1) (by omega) k (by omega) (by omega)
theorem cnz_far {w : Nat → Int32} {p : Nat} {v : Int32} : ∀ (m i : Nat), p < i → cnz (va_up w p v) m i = cnz w m i
  | 0, i, h => rfl
  | m + 1, i, h => by
    unfold cnz
    rw [up_ne (by omega), cnz_far m (i + 1) (by omega)]
theorem cnz_up {w : Nat → Int32} {p : Nat} {v : Int32} (h0 : w p = 0) (hv : v ≠ 0) : ∀ (m i : Nat), i ≤ p → p < i + m → cnz (va_up w p v) m i = cnz w m i + 1
  | 0, i, h1, h2 => by omega
  | m + 1, i, h1, h2 => by
    unfold cnz
    by_cases hk : p = i
    · subst hk
      rw [xup_at, if_neg hv, if_pos h0, cnz_far m (p + 1) (by omega)]
      omega
    · rw [up_ne (fun q => hk q.symm), cnz_up h0 hv m (i + 1) (by omega) (by omega)]
      omega
theorem r_afT {tb : Nat → Int32} {L q : Nat} {f0 : Int32} {g0 g : Nat → Int32} {j : Nat → Int64} {b : Bool} (hb : b = true) (h : rAf tb L b q f0 g0 g j) : rTk tb L q g j ∧ g 9 = f0 := by
  have := h.1; rw [if_pos hb] at this; exact this
theorem r_afF {tb : Nat → Int32} {L q : Nat} {f0 : Int32} {g0 g : Nat → Int32} {j : Nat → Int64} {b : Bool} (hb : b = false) (h : rAf tb L b q f0 g0 g j) : g 9 = nI (tPl tb L q) := by
  have := h.1; rw [if_neg (by rw [hb]; decide)] at this; exact this
theorem r_afM {tb : Nat → Int32} {L q : Nat} {f0 f1 : Int32} {g0 g1 g : Nat → Int32} {j : Nat → Int64} {b : Bool} (h : rAf tb L b q f1 g1 g j) (hf : f1 = f0) (hg : ∀ k, k < 5 ∨ 12 < k → g1 k = g0 k) : rAf tb L b q f0 g0 g j := ⟨by rw [← hf]; exact h.1, fun k hk => (h.2 k hk).trans (hg k hk)⟩
theorem L_rG {T : xT} {S : xS} {tb : Nat → Int32} {L k : Nat} {f : Nat → Int32} (h : rTb T S tb L) (hk : k < 9) : ∀ (m n q : Nat) (w g : Nat → Int32) (j : Nat → Int64), cnz w 8 0 + m = 8 → m + 1 < n → q ≤ L → rTk tb L q g j → (∀ p, p < 8 → 0 ≤ (w p).toInt) → ∃ g' j', f_X10_readGives_27 T n (rW (xw S 203 (rq k w f)) g j) 199 (nI (9 * k)) 1 = some (b2 (pG tb L m q w).1, rW (xw S 203 (rq k (pG tb L m q w).2.2 f)) g' j') ∧ rAf tb L (pG tb L m q w).1 (pG tb L m q w).2.1 (g 9) g g' j' := by
  have h' : ∀ w, rTb T (xw S 203 w) tb L := fun w => rTb_w (by decide) h
  have hl : T.2.1 203 = 81 := xTp_n h.1 81 (by decide) rfl
  intro m
  induction m with
  | zero =>
    intro n q w g j hc hn hq hg hw
    obtain ⟨n, rfl⟩ : ∃ n', n = n' + 1 := ⟨n - 1, by omega⟩
    unfold f_X10_readGives_27
    rw [if_neg (show ¬ (1 : Int32) = 0 by decide), r_partner hq hg, xc_e, xl_e]
    by_cases a1 : tPn tb L q = -1
    · rw [if_pos a1, r_fails hg, xc_e, xgd_h (by decide)]
      exact ⟨_, j, rfl, r_failA (fun _ _ => rfl)⟩
    · obtain ⟨p, hp, ep, _⟩ := tPn_r a1
      have e1 : (nI (9 * k) + 1) + nI p = nI (9 * k + 1 + p) := by rw [nI_1, nI_add]
      have hz := cnz_all 8 0 hc p (by omega) (by omega)
      have hz2 : ¬ w p ≤ 0 := by
        have := hw p hp
        rw [xle0]
        intro q
        exact hz (by rw [xeq0]; omega)
      rw [if_neg a1, ep, e1, rr_199_13 (S := rW (xw S 203 (rq k w f)) g j) h.1, xai_n hl (by omega) (by decide), rW_ne _ _ _ (by decide), xw_1, rq_in hp, if_neg hz2, r_fails hg, xc_e, xgd_h (by decide)]
      exact ⟨_, j, rfl, r_failA (fun _ _ => rfl)⟩
  | succ m ih =>
    intro n q w g j hc hn hq hg hw
    obtain ⟨n, rfl⟩ : ∃ n', n = n' + 1 := ⟨n - 1, by omega⟩
    unfold f_X10_readGives_27 pG
    rw [if_neg (show ¬ (1 : Int32) = 0 by decide), r_partner hq hg, xc_e, xl_e]
    by_cases a1 : tPn tb L q = -1
    · rw [if_pos a1, r_fails hg, xc_e, xgd_h (by decide)]
      simp only [if_pos a1]
      exact ⟨_, j, rfl, r_failA (fun _ _ => rfl)⟩
    · obtain ⟨p, hp, ep, _⟩ := tPn_r a1
      have e1 : (nI (9 * k) + 1) + nI p = nI (9 * k + 1 + p) := by rw [nI_1, nI_add]
      rw [if_neg a1]
      simp only [if_neg a1]
      rw [ep, nI_clamp (by omega), e1, rr_199_13 (S := rW (xw S 203 (rq k w f)) g j) h.1, xai_n hl (by omega) (by decide), rW_ne _ _ _ (by decide), xw_1, rq_in hp]
      by_cases a2 : w p = 0
      · rw [if_pos (show w p ≤ 0 by rw [a2]; decide)]
        simp only [if_pos a2]
        obtain ⟨g1, j1, f1, k1, z1⟩ := r_next (h' (rq k w f)) hq hg
        have q1 := (tNx_r tb hq).2.1
        rw [f1, xcv_e]
        obtain ⟨g2, j2, f2, k2, t2⟩ := r_takesNumber (h' (rq k w f)) q1 k1 (lo := 1) (hi := 99) (by decide) (by decide)
        have m2 := r_afM k2 (z1 9 (by decide) (by decide) (by decide) (by decide)) (fun k hk => z1 k (by omega) (by omega) (by omega) (by omega))
        rw [f2, xc_e]
        by_cases a3 : tNm tb L (tNx tb L q) 1 99 = -1
        · rw [show (if tNm tb L (tNx tb L q) 1 99 ≠ -1 then (1 : Int32) else 0) = 0 from if_neg (fun z => z a3), if_pos rfl]
          simp only [if_pos a3]
          rw [show (decide (tNm tb L (tNx tb L q) 1 99 ≠ -1)) = false from decide_eq_false (fun z => z a3), if_neg (fun z => z a3)] at m2
          exact ⟨g2, j2, rfl, m2⟩
        · rw [if_pos a3, if_neg (show ¬ (1 : Int32) = 0 by decide)]
          simp only [if_neg a3]
          rw [show (decide (tNm tb L (tNx tb L q) 1 99 ≠ -1)) = true from decide_eq_true a3, if_pos a3] at m2
          obtain ⟨k2', z2⟩ := r_afT rfl m2
          have q2 := (tNx_r tb q1).2.1
          have q3 := (tNx_r tb q2).2.1
          obtain ⟨v1, v2, v3, v4⟩ := tNm_r a3
          have v3 : 1 ≤ (tNm tb L (tNx tb L q) 1 99).toInt := v3
          rw [rr_199_13 (S := rW (xw S 203 (rq k w f)) g2 j2) h.1, xst_n hl (by omega) (by decide), rW_c (by decide), xI_xw, rq_up hp, rW_1 (xw S 203 (rq k w f)) g2 j2, t2 a3, rW_1, k2'.2.2.2.1]
          generalize tNm tb L (tNx tb L q) 1 99 = v at a3 v3 ⊢
          by_cases a4 : tKd tb L (tNx tb L (tNx tb L q)) = 3 ∧ tb (tPl tb L (tNx tb L (tNx tb L q))) = 43
          · rw [if_pos ((tTk_s (c := 43) (by right; left; rfl) tb L _).mpr a4), xl_e, if_neg (show ¬ (1 : Int32) = 0 by decide)]
            simp only [if_pos a4]
            obtain ⟨g3, j3, f3, k3, z3⟩ := r_next (h' (rq k (va_up w p v) f)) q2 k2'
            rw [f3, xcv_e]
            obtain ⟨g4, j4, f4, k4⟩ := ih n (tNx tb L (tNx tb L (tNx tb L q))) (va_up w p v) g3 j3 (by rw [cnz_up a2 (fun z => by rw [z, show (0 : Int32).toInt = 0 from by decide] at v3; omega) 8 0 (by omega) (by omega)]; omega) (by omega) q3 k3 (fun x hx => by
              by_cases hxp : x = p
              · subst hxp; rw [xup_at]; omega
              · rw [up_ne hxp]; exact hw x hx)
            refine ⟨g4, j4, f4, r_afM k4 ?_ ?_⟩
            · rw [z3 9 (by decide) (by decide) (by decide) (by decide), z2]
            · intro x hx
              rw [z3 x (by omega) (by omega) (by omega) (by omega)]
              exact m2.2 x hx
          · rw [if_neg (fun z => a4 ((tTk_s (c := 43) (by right; left; rfl) tb L _).mp z)), xl_e, if_pos rfl]
            simp only [if_neg a4]
            obtain ⟨n, rfl⟩ : ∃ n', n = n' + 1 := ⟨n - 1, by omega⟩
            unfold f_X10_readGives_27
            rw [if_pos rfl]
            obtain ⟨g3, j3, f3, k3⟩ := r_takes (h' (rq k (va_up w p v) f)) q2 k2' (c := 59) (Or.inl rfl)
            have m3 := r_afM k3 z2 m2.2
            rw [f3, xc_e]
            by_cases a5 : tKd tb L (tNx tb L (tNx tb L q)) = 3 ∧ tb (tPl tb L (tNx tb L (tNx tb L q))) = 59
            · rw [if_pos a5, xgd_h (by decide)]
              simp only [if_pos a5]
              rw [decide_eq_true a5, if_pos a5] at m3
              exact ⟨g3, j3, rfl, m3⟩
            · rw [if_neg a5, xgd_h (by decide)]
              simp only [if_neg a5]
              rw [decide_eq_false a5, if_neg a5] at m3
              exact ⟨g3, j3, rfl, m3⟩
      · have hz2 : ¬ w p ≤ 0 := by
          have := hw p hp
          rw [xle0]
          intro q
          exact a2 (by rw [xeq0]; omega)
        rw [if_neg hz2, r_fails hg, xc_e, xgd_h (by decide)]
        simp only [if_neg a2]
        exact ⟨_, j, rfl, r_failA (fun _ _ => rfl)⟩
theorem L_rz {T : xT} {S : xS} {k : Nat} {A g : Nat → Int32} {j : Nat → Int64} (tp : xTp T S.2.2) (hk : k < 9) : ∀ (m c n : Nat), c + m = 8 → m < n → f_X10_readGives_2 T n (rW (xw S 203 (fun x => if 9 * k + 1 ≤ x ∧ x < 9 * k + 1 + c then 0 else A x)) g j) 199 (nI (9 * k)) (nI c) = f_X10_readGives_27 T xfu (rW (xw S 203 (rq k z8 A)) g j) 199 (nI (9 * k)) 1 := by
  have hl : T.2.1 203 = 81 := xTp_n tp 81 (by decide) rfl
  intro m
  induction m with
  | zero =>
    intro c n hc hn
    obtain ⟨n, rfl⟩ : ∃ n', n = n' + 1 := ⟨n - 1, by omega⟩
    obtain rfl : c = 8 := by omega
    unfold f_X10_readGives_2
    rw [if_pos x8_t, xl_e]
    rfl
  | succ m ih =>
    intro c n hc hn
    obtain ⟨n, rfl⟩ : ∃ n', n = n' + 1 := ⟨n - 1, by omega⟩
    have e1 : (nI (9 * k) + 1) + nI c = nI (9 * k + 1 + c) := by rw [nI_1, nI_add]
    unfold f_X10_readGives_2
    rw [if_neg (x8_f (by omega)), rr_199_13 (S := rW (xw S 203 _) g j) tp, e1, xst_n hl (by omega) (by decide), rW_c (by decide), xI_xw, xl_e, nI_1]
    have e : va_up (fun x => if 9 * k + 1 ≤ x ∧ x < 9 * k + 1 + c then 0 else A x) (9 * k + 1 + c) 0 = fun x => if 9 * k + 1 ≤ x ∧ x < 9 * k + 1 + (c + 1) then 0 else A x := by
      funext x
      by_cases hx : x = 9 * k + 1 + c
      · subst hx; rw [xup_at, if_pos (by omega)]
      · rw [va_up_ne _ _ hx]
        by_cases h2 : 9 * k + 1 ≤ x ∧ x < 9 * k + 1 + c
        · rw [if_pos h2, if_pos (by omega)]
        · rw [if_neg h2, if_neg (by omega)]
    rw [e]
    exact ih (c + 1) n (by omega) (by omega)
theorem r_gives {T : xT} {S : xS} {tb : Nat → Int32} {L k q : Nat} {A g : Nat → Int32} {j : Nat → Int64} (h : rTb T S tb L) (hk : k < 9) (hq : q ≤ L) (hg : rTk tb L q g j) : ∃ g' j', f_X10_readGives T (rW (xw S 203 A) g j) 199 (nI (9 * k)) = some (b2 (pG tb L 8 q z8).1, rW (xw S 203 (rq k (pG tb L 8 q z8).2.2 A)) g' j') ∧ rAf tb L (pG tb L 8 q z8).1 (pG tb L 8 q z8).2.1 (g 9) g g' j' := by
  unfold f_X10_readGives
  rw [xl_e]
  have e := L_rz (A := A) (g := g) (j := j) (S := S) h.1 hk 8 0 xfu rfl (by decide)
  have e0 : (fun x => if 9 * k + 1 ≤ x ∧ x < 9 * k + 1 + 0 then 0 else A x) = A := by
    funext x
    rw [if_neg (by omega)]
  rw [e0] at e
  rw [show (0 : Int32) = nI 0 from rfl, e]
  exact L_rG h hk 8 xfu q z8 g j rfl (by decide) hq hg (fun p _ => by show 0 ≤ (0 : Int32).toInt; decide)
theorem wd_0 (T : xT) (S : xS) : f_X10_w5 T S 102 105 114 115 116 = some (tLt 0, S) := by
  unfold f_X10_w5 f_X10_w4 f_X10_w3
  simp only [r_lett, xc_e]
  exact congrArg (fun w => some (w, S)) (by decide +kernel)
theorem wd_1 (T : xT) (S : xS) : f_X10_toWord T S = some (tLt 1, S) := by
  unfold f_X10_toWord
  simp only [r_lett, xc_e]
  exact congrArg (fun w => some (w, S)) (by decide +kernel)
theorem wd_2 (T : xT) (S : xS) : f_X10_w4 T S 114 101 115 116 = some (tLt 2, S) := by
  unfold f_X10_w4 f_X10_w3
  simp only [r_lett, xc_e]
  exact congrArg (fun w => some (w, S)) (by decide +kernel)
theorem tIw_len {tb : Nat → Int32} {L q i : Nat} (h : tIw tb L q i = true) : tNx tb L q = tPl tb L q + xlen.getD i 0 := by
  unfold tIw at h
  by_cases k1 : tKd tb L q = 1
  · rw [if_pos k1] at h
    by_cases k2 : tNx tb L q = tPl tb L q + xlen.getD i 0
    · exact k2
    · rw [if_neg k2] at h; cases h
  · rw [if_neg k1] at h; cases h
theorem tIw_ne {tb : Nat → Int32} {L q i k : Nat} (h : tIw tb L q i = true) (hl : xlen.getD i 0 ≠ xlen.getD k 0) : tIw tb L q k = false := by
  cases hh : tIw tb L q k with
  | false => rfl
  | true =>
    have a := tIw_len h
    have b := tIw_len hh
    omega
/-- what the reference has read -/
def rOk (A : Nat → Int32) (fi : Nat) (s : Nat → Int32) (W : Nat → Nat → Int32) : Prop := (∀ k, k ≤ fi → A (9 * k) = s k) ∧ ∀ k, k ≤ fi → ∀ p, p < 8 → A (9 * k + 1 + p) = W k p
theorem ix9k (k : Nat) : (9 : Int32) * nI k = nI (9 * k) := pk_mul 9 k
def rFr (g g' : Nat → Int32) : Prop := ∀ k, k < 5 ∨ 14 < k → g' k = g k
theorem r_rest {T : xT} {S : xS} {tb : Nat → Int32} {L k q n : Nat} {A g sm : Nat → Int32} {j : Nat → Int64} {W : Nat → Nat → Int32} (h : rTb T S tb L) (hk : k < 9) (hq : q ≤ L) (hg : rTk tb L q g j) (h14 : g 14 = nI k) (h0 : tIw tb L q 0 = false) (hA : ∀ x, x < k → A (9 * x) = sm x) (hW : ∀ x, x < k → ∀ p, p < 8 → A (9 * x + 1 + p) = W x p) : ∃ g' j' A', f_X10_readTiers_23 T (n + 1) (rW (xw S 203 A) g j) 199 = some (b2 (pT tb L 0 k q sm W).1, rW (xw S 203 A') g' j') ∧ rFr g g' ∧ ((pT tb L 0 k q sm W).1 = true → g' 9 = g 9 ∧ g' 14 = nI k ∧ (pT tb L 0 k q sm W).2.2.1 = k ∧ rOk A' k (pT tb L 0 k q sm W).2.2.2.1 (pT tb L 0 k q sm W).2.2.2.2) ∧ ((pT tb L 0 k q sm W).1 = false → g' 9 = nI (tPl tb L (pT tb L 0 k q sm W).2.1)) := by
  have h' : ∀ w, rTb T (xw S 203 w) tb L := fun w => rTb_w (by decide) h
  have hl : T.2.1 203 = 81 := xTp_n h.1 81 (by decide) rfl
  have q1 := (tNx_r tb hq).2.1
  have q2 := (tNx_r tb q1).2.1
  unfold f_X10_readTiers_23 pT
  rw [wd_0, xc_e, r_isWord hq (i := 0) (by decide) hg rfl, xc_e, if_neg (show ¬ tIw tb L q 0 = true by rw [h0]; decide), if_pos rfl, wd_2, xc_e]
  obtain ⟨g1, j1, f1, k1⟩ := r_takesWord (i := 2) (h' A) hq (by decide) hg rfl
  rw [f1, xc_e]
  by_cases a1 : tIw tb L q 2 = true
  · rw [if_pos a1, if_neg (show ¬ (1 : Int32) = 0 by decide), wd_1, xc_e]
    simp only [if_pos a1]
    rw [if_pos a1] at k1
    obtain ⟨k1', z1⟩ := r_afT a1 k1
    obtain ⟨g2, j2, f2, k2⟩ := r_takesWord (i := 1) (h' A) q1 (by decide) k1' rfl
    have m2 := r_afM k2 z1 k1.2
    rw [f2, xc_e]
    by_cases a2 : tIw tb L (tNx tb L q) 1 = true
    · have eH : pH tb L (tNx tb L q) = pG tb L 8 (tNx tb L (tNx tb L q)) z8 := by unfold pH; rw [if_pos a2]
      rw [if_pos a2, if_neg (show ¬ (1 : Int32) = 0 by decide)]
      rw [if_pos a2] at m2
      obtain ⟨k2', z2⟩ := r_afT a2 m2
      have h14' : g2 14 = nI k := (m2.2 14 (by decide)).trans h14
      rw [rr_199_13 (S := rW (xw S 203 A) g2 j2) h.1, rW_1, h14', ix9k, xst_n hl (by omega) (by decide), rW_c (by decide), xI_xw, rW_1, h14', ix9k, eH]
      obtain ⟨g3, j3, f3, k3⟩ := r_gives (A := va_up A (9 * k) (-1)) h hk q2 k2'
      have m3 := r_afM k3 z2 m2.2
      rw [f3, xc_e]
      by_cases a3 : (pG tb L 8 (tNx tb L (tNx tb L q)) z8).1 = true
      · rw [if_neg (show ¬ b2 (pG tb L 8 (tNx tb L (tNx tb L q)) z8).1 = 0 by rw [a3]; decide)]
        obtain ⟨k3', z3⟩ := r_afT a3 m3
        rw [rW_1, k3'.2.2.2.1]
        by_cases a4 : tKd tb L (pG tb L 8 (tNx tb L (tNx tb L q)) z8).2.1 = 0
        · rw [if_pos ((tTk_n (Or.inl rfl) tb L _).mpr a4)]
          simp only [if_pos (show (pG tb L 8 (tNx tb L (tNx tb L q)) z8).1 = true ∧ tKd tb L (pG tb L 8 (tNx tb L (tNx tb L q)) z8).2.1 = 0 from ⟨a3, a4⟩)]
          refine ⟨g3, j3, _, rfl, fun x hx => m3.2 x (by omega), fun _ => ⟨z3, (m3.2 14 (by decide)).trans h14, trivial, fun x hx => ?_, fun x hx p hp => ?_⟩, fun z => by cases z⟩
          · rw [rq_out (by omega)]
            by_cases hxk : x = k
            · subst hxk; rw [xup_at, xup_at]
            · rw [up_ne (by omega), up_ne hxk]; exact hA x (by omega)
          · by_cases hxk : x = k
            · subst hxk; rw [rq_in hp, xup_at]
            · rw [rq_out (by omega), up_ne (by omega), va_up_ne _ _ hxk]; exact hW x (by omega) p hp
        · rw [if_neg (fun z => a4 ((tTk_n (Or.inl rfl) tb L _).mp z)), r_fails k3', xc_e, if_pos rfl]
          simp only [if_neg (show ¬ ((pG tb L 8 (tNx tb L (tNx tb L q)) z8).1 = true ∧ tKd tb L (pG tb L 8 (tNx tb L (tNx tb L q)) z8).2.1 = 0) from fun z => a4 z.2)]
          exact ⟨_, j3, _, rfl, fun x hx => by rw [up_ne (by omega)]; exact m3.2 x (by omega), fun z => (by cases z), fun _ => xup_at _ _ _⟩
      · have a3' : (pG tb L 8 (tNx tb L (tNx tb L q)) z8).1 = false := by cases hh : (pG tb L 8 (tNx tb L (tNx tb L q)) z8).1 <;> simp_all
        rw [if_pos (show b2 (pG tb L 8 (tNx tb L (tNx tb L q)) z8).1 = 0 by rw [a3']; decide)]
        simp only [if_neg (show ¬ ((pG tb L 8 (tNx tb L (tNx tb L q)) z8).1 = true ∧ tKd tb L (pG tb L 8 (tNx tb L (tNx tb L q)) z8).2.1 = 0) from fun z => a3 z.1)]
        exact ⟨g3, j3, _, rfl, fun x hx => m3.2 x (by omega), fun z => (by cases z), fun _ => r_afF a3' m3⟩
    · have a2' : tIw tb L (tNx tb L q) 1 = false := by cases hh : tIw tb L (tNx tb L q) 1 <;> simp_all
      have eH : pH tb L (tNx tb L q) = (false, tNx tb L q, z8) := by unfold pH; rw [if_neg a2]
      rw [if_neg a2, if_pos rfl, eH]
      rw [if_neg a2] at m2
      simp only [if_neg (show ¬ (false = true ∧ tKd tb L (tNx tb L q) = 0) from fun z => by cases z.1)]
      exact ⟨g2, j2, _, rfl, fun x hx => m2.2 x (by omega), fun z => (by cases z), fun _ => r_afF a2' m2⟩
  · have a1' : tIw tb L q 2 = false := by cases hh : tIw tb L q 2 <;> simp_all
    rw [if_neg a1, if_pos rfl]
    simp only [if_neg a1]
    rw [if_neg a1] at k1
    exact ⟨g1, j1, _, rfl, fun x hx => k1.2 x (by omega), fun z => (by cases z), fun _ => r_afF a1' k1⟩
theorem L_rT {T : xT} {S : xS} {tb : Nat → Int32} {L : Nat} (h : rTb T S tb L) : ∀ (m k n q : Nat) (A g sm : Nat → Int32) (j : Nat → Int64) (W : Nat → Nat → Int32), k + m = 8 → m < n → q ≤ L → rTk tb L q g j → g 14 = nI k → (∀ x, x < k → A (9 * x) = sm x) → (∀ x, x < k → ∀ p, p < 8 → A (9 * x + 1 + p) = W x p) → ∃ g' j' A', f_X10_readTiers_23 T n (rW (xw S 203 A) g j) 199 = some (b2 (pT tb L m k q sm W).1, rW (xw S 203 A') g' j') ∧ rFr g g' ∧ ((pT tb L m k q sm W).1 = true → g' 9 = g 9 ∧ g' 14 = nI (pT tb L m k q sm W).2.2.1 ∧ rOk A' (pT tb L m k q sm W).2.2.1 (pT tb L m k q sm W).2.2.2.1 (pT tb L m k q sm W).2.2.2.2) ∧ ((pT tb L m k q sm W).1 = false → g' 9 = nI (tPl tb L (pT tb L m k q sm W).2.1)) := by
  have h' : ∀ w, rTb T (xw S 203 w) tb L := fun w => rTb_w (by decide) h
  have hl : T.2.1 203 = 81 := xTp_n h.1 81 (by decide) rfl
  have fin : ∀ (m k n q : Nat) (A g sm : Nat → Int32) (j : Nat → Int64) (W : Nat → Nat → Int32), k + m = 8 → q ≤ L → rTk tb L q g j → g 14 = nI k → (∀ x, x < k → A (9 * x) = sm x) → (∀ x, x < k → ∀ p, p < 8 → A (9 * x + 1 + p) = W x p) → tIw tb L q 0 = false → ∃ g' j' A', f_X10_readTiers_23 T (n + 1) (rW (xw S 203 A) g j) 199 = some (b2 (pT tb L m k q sm W).1, rW (xw S 203 A') g' j') ∧ rFr g g' ∧ ((pT tb L m k q sm W).1 = true → g' 9 = g 9 ∧ g' 14 = nI (pT tb L m k q sm W).2.2.1 ∧ rOk A' (pT tb L m k q sm W).2.2.1 (pT tb L m k q sm W).2.2.2.1 (pT tb L m k q sm W).2.2.2.2) ∧ ((pT tb L m k q sm W).1 = false → g' 9 = nI (tPl tb L (pT tb L m k q sm W).2.1)) := fun m k n q A g sm j W hk hq hg h14 hA hW a1 => by
    rw [pT_0 a1]
    obtain ⟨g', j', A', e1, e2, e3, e4⟩ := r_rest (n := n) h (show k < 9 by omega) hq hg h14 a1 hA hW
    refine ⟨g', j', A', e1, e2, fun z => ?_, e4⟩
    obtain ⟨b1, b2, b3, b4⟩ := e3 z
    rw [b3]
    exact ⟨b1, b2, b4⟩
  intro m
  induction m with
  | zero =>
    intro k n q A g sm j W hk hn hq hg h14 hA hW
    obtain ⟨n, rfl⟩ : ∃ n', n = n' + 1 := ⟨n - 1, by omega⟩
    by_cases a1 : tIw tb L q 0 = true
    · have a2 : tIw tb L q 2 = false := tIw_ne a1 (by decide)
      obtain rfl : k = 8 := by omega
      unfold f_X10_readTiers_23 pT
      rw [wd_0, xc_e, r_isWord hq (i := 0) (by decide) hg rfl, xc_e, if_pos a1, if_neg (show ¬ (1 : Int32) = 0 by decide), rW_1, h14, if_pos (show nI 8 = (8 : Int32) from rfl), r_fails hg, xc_e, xgd_h (by decide)]
      simp only [if_neg (show ¬ tIw tb L q 2 = true by rw [a2]; decide)]
      exact ⟨_, j, A, rfl, fun x hx => up_ne (by omega), fun z => (by cases z), fun _ => xup_at _ _ _⟩
    · exact fin 0 k n q A g sm j W hk hq hg h14 hA hW (by cases hh : tIw tb L q 0 <;> simp_all)
  | succ m ih =>
    intro k n q A g sm j W hk hn hq hg h14 hA hW
    obtain ⟨n, rfl⟩ : ∃ n', n = n' + 1 := ⟨n - 1, by omega⟩
    by_cases a1 : tIw tb L q 0 = true
    · have q1 := (tNx_r tb hq).2.1
      have q2 := (tNx_r tb q1).2.1
      have q3 := (tNx_r tb q2).2.1
      unfold f_X10_readTiers_23 pT
      rw [wd_0, xc_e, r_isWord hq (i := 0) (by decide) hg rfl, xc_e, if_pos a1, if_neg (show ¬ (1 : Int32) = 0 by decide), rW_1, h14, if_neg (show ¬ nI k = (8 : Int32) from fun z => by have := (nI_eq (a := k) (b := 8) (by omega) (by omega)).mp z; omega)]
      simp only [if_pos a1]
      obtain ⟨g1, j1, f1, k1, z1⟩ := r_next (h' A) hq hg
      rw [f1, xcv_e]
      obtain ⟨g2, j2, f2, k2, t2⟩ := r_takesNumber (h' A) q1 k1 (lo := 1) (hi := 999999) (by decide) (by decide)
      have m2 := r_afM k2 (z1 9 (by decide) (by decide) (by decide) (by decide)) (fun k hk => z1 k (by omega) (by omega) (by omega) (by omega))
      rw [f2, xc_e]
      by_cases a2 : tNm tb L (tNx tb L q) 1 999999 = -1
      · rw [show (if tNm tb L (tNx tb L q) 1 999999 ≠ -1 then (1 : Int32) else 0) = 0 from if_neg (fun z => z a2), if_pos rfl]
        simp only [if_pos a2]
        rw [show (decide (tNm tb L (tNx tb L q) 1 999999 ≠ -1)) = false from decide_eq_false (fun z => z a2), if_neg (fun z => z a2)] at m2
        exact ⟨g2, j2, A, rfl, fun x hx => m2.2 x (by omega), fun z => (by cases z), fun _ => r_afF rfl m2⟩
      · rw [if_pos a2, if_neg (show ¬ (1 : Int32) = 0 by decide)]
        simp only [if_neg a2]
        rw [show (decide (tNm tb L (tNx tb L q) 1 999999 ≠ -1)) = true from decide_eq_true a2, if_pos a2] at m2
        obtain ⟨k2', z2⟩ := r_afT rfl m2
        have h14' : g2 14 = nI k := (m2.2 14 (by decide)).trans h14
        rw [rr_199_13 (S := rW (xw S 203 A) g2 j2) h.1, rW_1, h14', ix9k, xst_n hl (by omega) (by decide), rW_c (by decide), xI_xw, t2 a2, wd_1, xc_e]
        generalize tNm tb L (tNx tb L q) 1 999999 = v
        obtain ⟨g3, j3, f3, k3⟩ := r_takesWord (i := 1) (h' (va_up A (9 * k) v)) q2 (by decide) k2' rfl
        have m3 := r_afM k3 z2 m2.2
        rw [f3, xc_e]
        by_cases a3 : tIw tb L (tNx tb L (tNx tb L q)) 1 = true
        · have eH : pH tb L (tNx tb L (tNx tb L q)) = pG tb L 8 (tNx tb L (tNx tb L (tNx tb L q))) z8 := by unfold pH; rw [if_pos a3]
          rw [if_pos a3, if_neg (show ¬ (1 : Int32) = 0 by decide), eH]
          rw [if_pos a3] at m3
          obtain ⟨k3', z3⟩ := r_afT a3 m3
          have h14'' : g3 14 = nI k := (m3.2 14 (by decide)).trans h14
          rw [rW_1, h14'', ix9k]
          obtain ⟨g4, j4, f4, k4⟩ := r_gives (A := va_up A (9 * k) v) h (show k < 9 by omega) q3 k3'
          have m4 := r_afM k4 z3 m3.2
          rw [f4, xc_e]
          by_cases a4 : (pG tb L 8 (tNx tb L (tNx tb L (tNx tb L q))) z8).1 = true
          · rw [if_neg (show ¬ b2 (pG tb L 8 (tNx tb L (tNx tb L (tNx tb L q))) z8).1 = 0 by rw [a4]; decide)]
            simp only [if_pos a4]
            obtain ⟨k4', z4⟩ := r_afT a4 m4
            have h14''' : g4 14 = nI k := (m4.2 14 (by decide)).trans h14
            rw [xpi_e, rW_I, rW_1, h14''', nI_1]
            have k5 : rTk tb L (pG tb L 8 (tNx tb L (tNx tb L (tNx tb L q))) z8).2.1 (va_up g4 14 (nI (k + 1))) j4 := by
              obtain ⟨b5, b6, b7, b8, b10, b11⟩ := k4'
              exact ⟨by rw [up_ne (by decide)]; exact b5, by rw [up_ne (by decide)]; exact b6, by rw [up_ne (by decide)]; exact b7, by rw [up_ne (by decide)]; exact b8, b10, fun z => by rw [up_ne (by decide)]; exact b11 z⟩
            obtain ⟨g5, j5, A5, e1, e2, e3, e4⟩ := ih (k + 1) n (pG tb L 8 (tNx tb L (tNx tb L (tNx tb L q))) z8).2.1 (rq k (pG tb L 8 (tNx tb L (tNx tb L (tNx tb L q))) z8).2.2 (va_up A (9 * k) v)) (va_up g4 14 (nI (k + 1))) (va_up sm k v) j4 (va_up W k (pG tb L 8 (tNx tb L (tNx tb L (tNx tb L q))) z8).2.2) (by omega) (by omega) (pG_r 8 _ _ q3) k5 (xup_at _ _ _) (fun x hx => by
              rw [rq_out (by omega)]
              by_cases hxk : x = k
              · subst hxk; rw [xup_at, xup_at]
              · rw [up_ne (by omega), up_ne hxk]; exact hA x (by omega)) (fun x hx p hp => by
              by_cases hxk : x = k
              · subst hxk; rw [rq_in hp, xup_at]
              · rw [rq_out (by omega), up_ne (by omega), va_up_ne _ _ hxk]; exact hW x (by omega) p hp)
            refine ⟨g5, j5, A5, e1, fun x hx => ?_, fun z => ?_, e4⟩
            · rw [e2 x hx, up_ne (by omega)]; exact m4.2 x (by omega)
            · obtain ⟨b1, b2, b3⟩ := e3 z
              refine ⟨?_, b2, b3⟩
              rw [b1, up_ne (by decide)]; exact z4
          · have a4' : (pG tb L 8 (tNx tb L (tNx tb L (tNx tb L q))) z8).1 = false := by cases hh : (pG tb L 8 (tNx tb L (tNx tb L (tNx tb L q))) z8).1 <;> simp_all
            rw [if_pos (show b2 (pG tb L 8 (tNx tb L (tNx tb L (tNx tb L q))) z8).1 = 0 by rw [a4']; decide)]
            simp only [if_neg a4]
            exact ⟨g4, j4, _, rfl, fun x hx => m4.2 x (by omega), fun z => (by cases z), fun _ => r_afF a4' m4⟩
        · have a3' : tIw tb L (tNx tb L (tNx tb L q)) 1 = false := by cases hh : tIw tb L (tNx tb L (tNx tb L q)) 1 <;> simp_all
          have eH : pH tb L (tNx tb L (tNx tb L q)) = (false, tNx tb L (tNx tb L q), z8) := by unfold pH; rw [if_neg a3]
          rw [if_neg a3, if_pos rfl, eH]
          rw [if_neg a3] at m3
          exact ⟨g3, j3, _, rfl, fun x hx => m3.2 x (by omega), fun z => (by cases z), fun _ => r_afF a3' m3⟩
    · exact fin (m + 1) k n q A g sm j W hk hq hg h14 hA hW (by cases hh : tIw tb L q 0 <;> simp_all)
theorem r_begin {T : xT} {S : xS} {tb : Nat → Int32} {L : Nat} {g : Nat → Int32} {j : Nat → Int64} (h : rTb T S tb L) (h5 : g 5 = nI L) : ∃ g' j', f_X10_beginText T (rW S g j) 199 = some (rW S g' j') ∧ rTk tb L 0 g' j' ∧ g' 9 = -1 ∧ ∀ k, k < 5 ∨ 11 < k → g' k = g k := by
  unfold f_X10_beginText
  rw [xpi_e, rW_I, xpi_e, rW_I]
  obtain ⟨g', j', e, k, z, _⟩ := r_adv (q := 0) h (by omega) (g := va_up (va_up g 6 0) 9 (-1)) (j := j) (by rw [up_ne (by decide), up_ne (by decide)]; exact h5) (by rw [up_ne (by decide), xup_at]; rfl)
  rw [e, xcv_e]
  refine ⟨g', j', rfl, k, ?_, fun x hx => ?_⟩
  · rw [z 9 (by decide) (by decide) (by decide) (by decide), xup_at]
  · rw [z x (by omega) (by omega) (by omega) (by omega), up_ne (by omega), up_ne (by omega)]
theorem r_readTiers {T : xT} {S : xS} {tb : Nat → Int32} {L : Nat} {A g : Nat → Int32} {j : Nat → Int64} (h : rTb T S tb L) (h5 : g 5 = nI L) : ∃ R g' j' A', f_X10_readTiers T (rW (xw S 203 A) g j) 199 = some (R, rW (xw S 203 A') g' j') ∧ rFr g g' ∧ (tKd tb L 0 = 0 → R = 1 ∧ g' 9 = -1 ∧ g' 14 = -1) ∧ (tKd tb L 0 ≠ 0 → (pT tb L 8 0 0 z8 z88).1 = true → R = 1 ∧ g' 9 = -1 ∧ g' 14 = nI (pT tb L 8 0 0 z8 z88).2.2.1 ∧ rOk A' (pT tb L 8 0 0 z8 z88).2.2.1 (pT tb L 8 0 0 z8 z88).2.2.2.1 (pT tb L 8 0 0 z8 z88).2.2.2.2) ∧ (tKd tb L 0 ≠ 0 → (pT tb L 8 0 0 z8 z88).1 = false → R = 0 ∧ g' 9 = nI (tPl tb L (pT tb L 8 0 0 z8 z88).2.1)) := by
  have h' : rTb T (xw S 203 A) tb L := rTb_w (by decide) h
  unfold f_X10_readTiers
  obtain ⟨g1, j1, f1, k1, n1, z1⟩ := r_begin h' h5 (j := j)
  rw [f1, xcv_e, xpi_e, rW_I, rW_1, up_ne (by decide), k1.2.2.2.1]
  by_cases a : tKd tb L 0 = 0
  · rw [if_pos ((tTk_n (Or.inl rfl) tb L 0).mpr a)]
    refine ⟨1, _, j1, A, rfl, fun x hx => ?_, fun _ => ⟨rfl, ?_, xup_at _ _ _⟩, fun z => absurd a z, fun z => absurd a z⟩
    · rw [up_ne (by omega)]; exact z1 x (by omega)
    · rw [up_ne (by decide)]; exact n1
  · rw [if_neg (fun z => a ((tTk_n (Or.inl rfl) tb L 0).mp z)), xpi_e, rW_I, xup2]
    have k5 : rTk tb L 0 (va_up g1 14 0) j1 := by
      obtain ⟨b5, b6, b7, b8, b10, b11⟩ := k1
      exact ⟨by rw [up_ne (by decide)]; exact b5, by rw [up_ne (by decide)]; exact b6, by rw [up_ne (by decide)]; exact b7, by rw [up_ne (by decide)]; exact b8, b10, fun z => by rw [up_ne (by decide)]; exact b11 z⟩
    obtain ⟨g2, j2, A2, e1, e2, e3, e4⟩ := L_rT h 8 0 xfu 0 A (va_up g1 14 0) z8 j1 z88 rfl (by decide) (by omega) k5 (xup_at _ _ _) (fun x hx => by omega) (fun x hx => by omega)
    refine ⟨_, g2, j2, A2, e1, fun x hx => ?_, fun z => absurd z a, fun _ z => ?_, fun _ z => ?_⟩
    · rw [e2 x hx, up_ne (by omega)]; exact z1 x (by omega)
    · obtain ⟨b1, b2', b3⟩ := e3 z
      refine ⟨by rw [z]; rfl, ?_, b2', b3⟩
      rw [b1, up_ne (by decide)]; exact n1
    · exact ⟨by rw [z]; rfl, e4 z⟩
