/-! the text of tiers: class -/
theorem g_fill2 {T : xT} {S : xS} {a N i M : Nat} {v : Int32} (hN : T.2.1 a = N) (hi : i ≤ M) (hM : M ≤ N) (hN2 : N < 1000) : f_J7_fill_fda19 T S a (nI i) (nI M) v = some (xw S a (fun j => if i ≤ j ∧ j < M then v else S.1 a j)) := by
  unfold f_J7_fill_fda19 f_J7_rangeCheck_23922
  rw [hN, if_pos (nI_le hi (by omega)), if_pos (show (0 : Int32) ≤ nI i from nI_le (a := 0) (by omega) (by omega)), if_pos (show nI M ≤ Int32.ofNat N from nI_le (b := N) hM (by omega)), xcv_e, xl_e]
  have h := L_fill2 (T := T) (S := S) (a := a) (i := i) (v := v) hN hM (by omega) (M - i) i xfu (by omega) (by show M - i < 1000; omega) (Nat.le_refl i)
  have e : (fun j => if i ≤ j ∧ j < i then v else S.1 a j) = S.1 a := by
    funext j
    rw [if_neg (by omega)]
  rw [e, xw_self] at h
  exact h
theorem xw_c {S : xS} {a c : Nat} {f g : Nat → Int32} (h : a ≠ c) : xw (xw S a f) c g = xw (xw S c g) a f := by
  unfold xw
  refine Prod.ext (funext fun x => ?_) rfl
  show va_up (va_up S.1 a f) c g x = va_up (va_up S.1 c g) a f x
  by_cases h1 : x = c
  · subst h1; rw [xup_at, va_up_ne _ _ (fun q => h q.symm), xup_at]
  · rw [va_up_ne _ _ h1]
    by_cases h2 : x = a
    · subst h2; rw [xup_at, xup_at]
    · rw [va_up_ne _ _ h2, va_up_ne _ _ h2, va_up_ne _ _ h1]
def z8 : Nat → Int32 := fun _ => 0
/-- behind the word to: a tier's gives -/
def pH (tb : Nat → Int32) (L q : Nat) : Bool × Nat × (Nat → Int32) := if tIw tb L q 1 = true then pG tb L 8 (tNx tb L q) z8 else (false, q, z8)
theorem c_gives {T : xT} {S : xS} {tb : Nat → Int32} {L ta k q : Nat} {A g : Nat → Int32} (h : cTb T S tb L) (ti : xTi T S.2.2 ta) (hk : k < 9) (hq : q ≤ L) (hg : cTk tb L q g) : ∃ g', f_X8_readGives T (xw (xw S (ta + 2) A) 1 g) ta 1 (nI k) = some (b2 (pH tb L q).1, xw (xw S (ta + 2) (rop k (pH tb L q).2.2 A)) 1 g') ∧ cAf tb L (pH tb L q).1 (pH tb L q).2.1 (g 2) g' := by
  have hta : ta + 2 ≠ 2 := by have := ti.1; omega
  have hta1 : ta + 2 ≠ 1 := by omega
  have h' : ∀ w, cTb T (xw S (ta + 2) w) tb L := fun w => cTb_w hta h
  unfold f_X8_readGives
  have e8 : nI (8 * k) + (8 : Int32) = nI (8 * k + 8) := nI_add (8 * k) 8
  rw [xl_e, ix8, e8, tg_2 (S := xw (xw S (ta + 2) A) 1 g) ti, g_fill2 (N := 72) ti.2.1.2.2.2.2.2 (by omega) (by omega) (by omega), xcv_e]
  have e : xw (xw (xw S (ta + 2) A) 1 g) (ta + 2) (fun j => if 8 * k ≤ j ∧ j < 8 * k + 8 then 0 else (xw (xw S (ta + 2) A) 1 g).1 (ta + 2) j) = xw (xw S (ta + 2) (rop k z8 A)) 1 g := by
    rw [xw_ne _ _ hta1, xw_1, xw_c (fun q => hta1 q.symm), xw_w]
    rfl
  rw [e]
  obtain ⟨g1, e1, k1⟩ := c_needWord (i := 1) (h' (rop k z8 A)) hq (by decide) hg
  rw [e1, xc_e]
  unfold pH
  by_cases a1 : tIw tb L q 1 = true
  · rw [if_pos a1] at k1
    rw [if_pos a1, if_neg (show ¬ (1 : Int32) = 0 by decide), if_pos a1, xl_e]
    obtain ⟨k1, z1⟩ := c_af a1 k1
    obtain ⟨g2, e2, k2⟩ := L_cG (f := A) h ti hk 8 xfu 0 (tNx tb L q) z8 g1 rfl (by decide) (tNx_r tb hq).2.1 k1
    rw [z1] at k2
    exact ⟨g2, e2, k2⟩
  · rw [if_neg a1] at k1
    rw [if_neg a1, if_pos rfl, if_neg a1]
    refine ⟨g1, rfl, ?_⟩
    rw [show tIw tb L q 1 = false from by cases hh : tIw tb L q 1 <;> simp_all] at k1
    exact k1
def pT (tb : Nat → Int32) (L : Nat) : Nat → Nat → Nat → (Nat → Int32) → (Nat → Nat → Int32) → Bool × Nat × Nat × (Nat → Int32) × (Nat → Nat → Int32)
  | 0, k, q, s, W => if tIw tb L q 2 = true then (if (pH tb L (tNx tb L q)).1 = true ∧ tKd tb L (pH tb L (tNx tb L q)).2.1 = 0 then (true, (pH tb L (tNx tb L q)).2.1, k, va_up s k (-1), va_up W k (pH tb L (tNx tb L q)).2.2) else (false, (pH tb L (tNx tb L q)).2.1, k, s, W)) else (false, q, k, s, W)
  | m + 1, k, q, s, W => if tIw tb L q 0 = true then
      (if tNm tb L (tNx tb L q) 1 999999 = -1 then (false, tNx tb L q, k, s, W) else
        (if (pH tb L (tNx tb L (tNx tb L q))).1 = true then pT tb L m (k + 1) (pH tb L (tNx tb L (tNx tb L q))).2.1 (va_up s k (tNm tb L (tNx tb L q) 1 999999)) (va_up W k (pH tb L (tNx tb L (tNx tb L q))).2.2) else (false, (pH tb L (tNx tb L (tNx tb L q))).2.1, k, s, W)))
    else (if tIw tb L q 2 = true then (if (pH tb L (tNx tb L q)).1 = true ∧ tKd tb L (pH tb L (tNx tb L q)).2.1 = 0 then (true, (pH tb L (tNx tb L q)).2.1, k, va_up s k (-1), va_up W k (pH tb L (tNx tb L q)).2.2) else (false, (pH tb L (tNx tb L q)).2.1, k, s, W)) else (false, q, k, s, W))
theorem pG_r {tb : Nat → Int32} {L : Nat} : ∀ (m q : Nat) (w : Nat → Int32), q ≤ L → (pG tb L m q w).2.1 ≤ L
  | 0, q, w, h => h
  | m + 1, q, w, h => by
    have h1 := (tNx_r tb h).2.1
    have h2 := (tNx_r tb h1).2.1
    have h3 := (tNx_r tb h2).2.1
    unfold pG
    split
    · exact h
    · split
      · split
        · exact h1
        · split
          · exact pG_r m _ _ h3
          · split
            · exact h3
            · exact h2
      · exact h
theorem pH_r {tb : Nat → Int32} {L q : Nat} (h : q ≤ L) : (pH tb L q).2.1 ≤ L := by
  unfold pH
  split
  · exact pG_r 8 _ _ (tNx_r tb h).2.1
  · exact h
/-- the tiers at ta, being read -/
def tB (S : xS) (ta : Nat) (c s A : Nat → Int32) : xS := xw (xw (xw S ta c) (ta + 1) s) (ta + 2) A
theorem tB_h {T : xT} {S : xS} {tb : Nat → Int32} {L ta : Nat} {c s : Nat → Int32} (h : cTb T S tb L) (ti : xTi T S.2.2 ta) : cTb T (xw (xw S ta c) (ta + 1) s) tb L := by
  have := ti.1
  exact cTb_w (by omega) (cTb_w (by omega) h)
/-- what was read: so many first ones, their sums and weights -/
def tOk (S : xS) (ta fi : Nat) (s : Nat → Int32) (W : Nat → Nat → Int32) : Prop := S.1 ta 0 = nI (fi + 1) ∧ (∀ k, k ≤ fi → S.1 (ta + 1) k = s k) ∧ ∀ k, k ≤ fi → ∀ p, p < 8 → S.1 (ta + 2) (8 * k + p) = W k p
theorem c_rest {T : xT} {S : xS} {tb : Nat → Int32} {L ta k q : Nat} {c s A g sm : Nat → Int32} {W : Nat → Nat → Int32} (h : cTb T S tb L) (ti : xTi T S.2.2 ta) (hk : k < 9) (hq : q ≤ L) (hg : cTk tb L q g) (hs : ∀ j, j < k → s j = sm j) (hA : ∀ j, j < k → ∀ p, p < 8 → A (8 * j + p) = W j p) : ∃ g' c' s' A', f_X8_readTiers_79 T (xw (tB S ta c s A) 1 g) ta 1 (nI k) = some (if (pT tb L 0 k q sm W).1 = true then nI (k + 1) else -1, xw (tB S ta c' s' A') 1 g') ∧ cAf tb L (pT tb L 0 k q sm W).1 (pT tb L 0 k q sm W).2.1 (g 2) g' ∧ ((pT tb L 0 k q sm W).1 = true → (pT tb L 0 k q sm W).2.2.1 = k ∧ tOk (tB S ta c' s' A') ta k (pT tb L 0 k q sm W).2.2.2.1 (pT tb L 0 k q sm W).2.2.2.2) := by
  have hta := ti.1
  have h0 := tB_h (c := c) (s := s) h ti
  have h1 : ∀ w, cTb T (xw (xw (xw S ta c) (ta + 1) s) (ta + 2) w) tb L := fun w => cTb_w (by omega) h0
  unfold f_X8_readTiers_79 tB pT
  obtain ⟨g1, e1, k1⟩ := c_needWord (i := 2) (h1 A) hq (by decide) hg
  rw [e1, xc_e]
  by_cases a1 : tIw tb L q 2 = true
  · rw [if_pos a1] at k1
    rw [if_pos a1, if_neg (show ¬ (1 : Int32) = 0 by decide)]
    obtain ⟨k1, z1⟩ := c_af a1 k1
    have q1 := (tNx_r tb hq).2.1
    obtain ⟨g2, e2, k2⟩ := c_gives (A := A) h0 ti hk q1 k1
    rw [e2, xc_e]
    simp only [if_pos a1]
    rw [z1] at k2
    by_cases a2 : (pH tb L (tNx tb L q)).1 = true
    · obtain ⟨k2, z2⟩ := c_af a2 k2
      rw [if_neg (show ¬ b2 (pH tb L (tNx tb L q)).1 = 0 by rw [a2]; decide)]
      obtain ⟨g3, e3, k3⟩ := c_needEnd (T := T) (S := xw (xw (xw S ta c) (ta + 1) s) (ta + 2) (rop k (pH tb L (tNx tb L q)).2.2 A)) k2
      rw [e3, xc_e]
      by_cases a3 : tKd tb L (pH tb L (tNx tb L q)).2.1 = 0
      · rw [if_pos a3, if_neg (show ¬ (1 : Int32) = 0 by decide)]
        rw [decide_eq_true a3] at k3
        have r1 : ta + 1 ≠ 1 := by omega
        have r0 : ta ≠ 1 := by omega
        rw [tg_1 (S := xw (xw (xw (xw S ta c) (ta + 1) s) (ta + 2) (rop k (pH tb L (tNx tb L q)).2.2 A)) 1 g3) ti, xst_n (N := 9) ti.2.1.2.2.2.2.1 (by omega) (by decide), xpi_e, xI_w1 r1, xI_w1 r0, nI_1]
        have ea : xI (xw (xw (xw S ta c) (ta + 1) s) (ta + 2) (rop k (pH tb L (tNx tb L q)).2.2 A)) (ta + 1) k (-1) = xw (xw (xw S ta c) (ta + 1) (va_up s k (-1))) (ta + 2) (rop k (pH tb L (tNx tb L q)).2.2 A) := by
          rw [xw_c (show ta + 1 ≠ ta + 2 by omega), xI_xw, xw_c (show ta + 2 ≠ ta + 1 by omega)]
        have eb : xI (xw (xw (xw S ta c) (ta + 1) (va_up s k (-1))) (ta + 2) (rop k (pH tb L (tNx tb L q)).2.2 A)) ta 0 (nI (k + 1)) = xw (xw (xw S ta (va_up c 0 (nI (k + 1)))) (ta + 1) (va_up s k (-1))) (ta + 2) (rop k (pH tb L (tNx tb L q)).2.2 A) := by
          rw [xw_c (show ta + 1 ≠ ta + 2 by omega), xw_c (show ta ≠ ta + 2 by omega), xw_c (show ta ≠ ta + 1 by omega), xI_xw, xw_c (show ta + 1 ≠ ta by omega), xw_c (show ta + 2 ≠ ta by omega), xw_c (show ta + 2 ≠ ta + 1 by omega)]
        rw [ea, eb, xw_ne _ _ r0, xw_ne _ _ (show ta ≠ ta + 2 by omega), xw_ne _ _ (show ta ≠ ta + 1 by omega), xw_1, xup_at]
        simp only [if_pos (show (pH tb L (tNx tb L q)).1 = true ∧ tKd tb L (pH tb L (tNx tb L q)).2.1 = 0 from ⟨a2, a3⟩)]
        obtain ⟨k3, z3⟩ := c_af rfl k3
        refine ⟨g3, _, _, _, by rw [if_pos trivial], c_afT k3 (z3.trans z2), fun _ => ⟨trivial, ?_, fun j hj => ?_, fun j hj p hp => ?_⟩⟩
        · rw [xw_ne _ _ (show ta ≠ ta + 2 by omega), xw_ne _ _ (show ta ≠ ta + 1 by omega), xw_1, xup_at]
        · rw [xw_ne _ _ (show ta + 1 ≠ ta + 2 by omega), xw_1]
          by_cases hjk : j = k
          · subst hjk; rw [xup_at, xup_at]
          · rw [up_ne hjk, up_ne hjk]; exact hs j (by omega)
        · rw [xw_1]
          by_cases hjk : j = k
          · subst hjk; rw [rop_in hp, xup_at]
          · rw [rop_out (by omega), va_up_ne _ _ hjk]; exact hA j (by omega) p hp
      · rw [if_neg a3, if_pos rfl]
        rw [decide_eq_false a3] at k3
        simp only [if_neg (show ¬ ((pH tb L (tNx tb L q)).1 = true ∧ tKd tb L (pH tb L (tNx tb L q)).2.1 = 0) from fun z => a3 z.2)]
        exact ⟨g3, c, s, _, by rw [if_neg (by decide)], c_afF (c_aff rfl k3), fun z => by cases z⟩
    · have a2' : (pH tb L (tNx tb L q)).1 = false := by cases hh : (pH tb L (tNx tb L q)).1 <;> simp_all
      rw [if_pos (show b2 (pH tb L (tNx tb L q)).1 = 0 by rw [a2']; decide)]
      simp only [if_neg (show ¬ ((pH tb L (tNx tb L q)).1 = true ∧ tKd tb L (pH tb L (tNx tb L q)).2.1 = 0) from fun z => a2 z.1)]
      exact ⟨g2, c, s, _, by rw [if_neg (by decide)], c_afF (c_aff a2' k2), fun z => by cases z⟩
  · rw [if_neg a1] at k1
    rw [if_neg a1, if_pos rfl]
    simp only [if_neg a1]
    have a1' : tIw tb L q 2 = false := by cases hh : tIw tb L q 2 <;> simp_all
    exact ⟨g1, c, s, A, by rw [if_neg (by decide)], c_afF (c_aff a1' k1), fun z => by cases z⟩
theorem pT_0 {tb : Nat → Int32} {L m k q : Nat} {s : Nat → Int32} {W : Nat → Nat → Int32} (h : tIw tb L q 0 = false) : pT tb L m k q s W = pT tb L 0 k q s W := by
  cases m with
  | zero => rfl
  | succ m =>
    conv => lhs; unfold pT
    rw [if_neg (by rw [h]; decide)]
    rfl
theorem L_cT {T : xT} {S : xS} {tb : Nat → Int32} {L ta : Nat} {c : Nat → Int32} (h : cTb T S tb L) (ti : xTi T S.2.2 ta) : ∀ (m k n q : Nat) (s A g sm : Nat → Int32) (W : Nat → Nat → Int32), k + m = 8 → m < n → q ≤ L → cTk tb L q g → (∀ j, j < k → s j = sm j) → (∀ j, j < k → ∀ p, p < 8 → A (8 * j + p) = W j p) → ∃ g' c' s' A', f_X8_readTiers_17 T n (xw (tB S ta c s A) 1 g) ta 1 (nI k) (nI k) = some (if (pT tb L m k q sm W).1 = true then nI ((pT tb L m k q sm W).2.2.1 + 1) else -1, xw (tB S ta c' s' A') 1 g') ∧ cAf tb L (pT tb L m k q sm W).1 (pT tb L m k q sm W).2.1 (g 2) g' ∧ ((pT tb L m k q sm W).1 = true → tOk (tB S ta c' s' A') ta (pT tb L m k q sm W).2.2.1 (pT tb L m k q sm W).2.2.2.1 (pT tb L m k q sm W).2.2.2.2) := by
  have hta := ti.1
  intro m
  induction m with
  | zero =>
    intro k n q s A g sm W hk hn hq hg hs hA
    obtain ⟨n, rfl⟩ : ∃ n', n = n' + 1 := ⟨n - 1, by omega⟩
    obtain rfl : k = 8 := by omega
    unfold f_X8_readTiers_17
    rw [if_pos x8_t]
    obtain ⟨g', c', s', A', e1, e2, e3⟩ := c_rest (c := c) h ti (by decide) hq hg hs hA
    refine ⟨g', c', s', A', ?_, e2, fun z => ?_⟩
    · rw [e1]
      by_cases z : (pT tb L 0 8 q sm W).1 = true
      · rw [if_pos z, if_pos z, (e3 z).1]
      · rw [if_neg z, if_neg z]
    · rw [(e3 z).1]; exact (e3 z).2
  | succ m ih =>
    intro k n q s A g sm W hk hn hq hg hs hA
    obtain ⟨n, rfl⟩ : ∃ n', n = n' + 1 := ⟨n - 1, by omega⟩
    have h0 := tB_h (c := c) (s := s) h ti
    have h1 : ∀ w, cTb T (xw (xw (xw S ta c) (ta + 1) s) (ta + 2) w) tb L := fun w => cTb_w (by omega) h0
    unfold f_X8_readTiers_17
    rw [if_neg (x8_f (by omega)), show f_X3_isWord T (xw (tB S ta c s A) 1 g) 1 0 = some (if tIw tb L q 0 = true then 1 else 0, xw (tB S ta c s A) 1 g) from c_isWord (h1 A) hq (by decide) hg, xc_e]
    by_cases a1 : tIw tb L q 0 = true
    · rw [if_pos a1, if_neg (show ¬ (1 : Int32) = 0 by decide)]
      obtain ⟨g1, e1, k1, z1⟩ := c_next (h1 A) hq hg
      have q1 := (tNx_r tb hq).2.1
      have q2 := (tNx_r tb q1).2.1
      rw [show f_X3_advance T (xw (tB S ta c s A) 1 g) 1 = _ from e1, xcv_e, tg_1 (S := xw (xw (xw (xw S ta c) (ta + 1) s) (ta + 2) A) 1 g1) ti]
      obtain ⟨g2, e2, k2⟩ := c_needNumber (h1 A) q1 k1 (lo := 1) (hi := 999999) (by decide)
      have r1 : ta + 1 ≠ 1 := by omega
      rw [e2, xc_e, xst_n (N := 9) ti.2.1.2.2.2.2.1 (by omega) (by decide), xI_w1 r1]
      have ea : xI (xw (xw (xw S ta c) (ta + 1) s) (ta + 2) A) (ta + 1) k (tNm tb L (tNx tb L q) 1 999999) = xw (xw (xw S ta c) (ta + 1) (va_up s k (tNm tb L (tNx tb L q) 1 999999))) (ta + 2) A := by
        rw [xw_c (show ta + 1 ≠ ta + 2 by omega), xI_xw, xw_c (show ta + 2 ≠ ta + 1 by omega)]
      rw [ea, tg_1 (S := xw (xw (xw (xw S ta c) (ta + 1) (va_up s k (tNm tb L (tNx tb L q) 1 999999))) (ta + 2) A) 1 g2) ti, xai_n (N := 9) ti.2.1.2.2.2.2.1 (by omega) (by decide), xw_ne _ _ r1, xw_ne _ _ (show ta + 1 ≠ ta + 2 by omega), xw_1, xup_at]
      unfold pT
      rw [if_pos a1]
      by_cases a2 : tNm tb L (tNx tb L q) 1 999999 = -1
      · rw [if_pos a2]
        simp only [if_pos a2]
        rw [show (decide (tNm tb L (tNx tb L q) 1 999999 ≠ -1)) = false from decide_eq_false (fun z => z a2), if_neg (fun z => z a2)] at k2
        exact ⟨g2, c, _, A, by rw [if_neg (by decide)]; rfl, c_afF (c_aff rfl k2), fun z => by cases z⟩
      · rw [if_neg a2]
        simp only [if_neg a2]
        rw [show (decide (tNm tb L (tNx tb L q) 1 999999 ≠ -1)) = true from decide_eq_true a2, if_pos a2] at k2
        obtain ⟨k2, z2⟩ := c_af rfl k2
        have h0' := tB_h (c := c) (s := va_up s k (tNm tb L (tNx tb L q) 1 999999)) h ti
        obtain ⟨g3, e3, k3⟩ := c_gives (A := A) (k := k) h0' ti (by omega) q2 k2
        rw [e3, xc_e]
        rw [z2, z1] at k3
        by_cases a3 : (pH tb L (tNx tb L (tNx tb L q))).1 = true
        · obtain ⟨k3, z3⟩ := c_af a3 k3
          rw [if_neg (show ¬ b2 (pH tb L (tNx tb L (tNx tb L q))).1 = 0 by rw [a3]; decide), xl_e, xl_e, nI_1]
          simp only [if_pos a3]
          obtain ⟨g4, c4, s4, A4, e4, k4, t4⟩ := ih (k + 1) n (pH tb L (tNx tb L (tNx tb L q))).2.1 (va_up s k (tNm tb L (tNx tb L q) 1 999999)) (rop k (pH tb L (tNx tb L (tNx tb L q))).2.2 A) g3 (va_up sm k (tNm tb L (tNx tb L q) 1 999999)) (va_up W k (pH tb L (tNx tb L (tNx tb L q))).2.2) (by omega) (by omega) (pH_r q2) k3 (fun j hj => by
            by_cases hjk : j = k
            · subst hjk; rw [xup_at, xup_at]
            · rw [up_ne hjk, up_ne hjk]; exact hs j (by omega)) (fun j hj p hp => by
            by_cases hjk : j = k
            · subst hjk; rw [rop_in hp, xup_at]
            · rw [rop_out (by omega), va_up_ne _ _ hjk]; exact hA j (by omega) p hp)
          rw [z3] at k4
          exact ⟨g4, c4, s4, A4, e4, k4, t4⟩
        · have a3' : (pH tb L (tNx tb L (tNx tb L q))).1 = false := by cases hh : (pH tb L (tNx tb L (tNx tb L q))).1 <;> simp_all
          rw [if_pos (show b2 (pH tb L (tNx tb L (tNx tb L q))).1 = 0 by rw [a3']; decide)]
          simp only [if_neg a3]
          exact ⟨g3, c, _, _, by rw [if_neg (by decide)]; rfl, c_afF (c_aff a3' k3), fun z => by cases z⟩
    · have a1' : tIw tb L q 0 = false := by cases hh : tIw tb L q 0 <;> simp_all
      rw [if_neg a1, if_pos rfl, pT_0 a1']
      obtain ⟨g', c', s', A', e1, e2, e3⟩ := c_rest (c := c) h ti (by omega) hq hg hs hA
      refine ⟨g', c', s', A', ?_, e2, fun z => ?_⟩
      · rw [e1]
        by_cases z : (pT tb L 0 k q sm W).1 = true
        · rw [if_pos z, if_pos z, (e3 z).1]
        · rw [if_neg z, if_neg z]
      · rw [(e3 z).1]; exact (e3 z).2
