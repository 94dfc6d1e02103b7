/-! gives of a tier -/
def pG (tb : Nat → Int32) (L : Nat) : Nat → Nat → (Nat → Int32) → Bool × Nat × (Nat → Int32)
  | 0, q, w => (false, q, w)
  | m + 1, q, w => if tPn tb L q = -1 then (false, q, w) else if w (tPn tb L q).toNatClampNeg = 0 then
      (if tNm tb L (tNx tb L q) 1 99 = -1 then (false, tNx tb L q, w) else
        (if tKd tb L (tNx tb L (tNx tb L q)) = 3 ∧ tb (tPl tb L (tNx tb L (tNx tb L q))) = 43 then pG tb L m (tNx tb L (tNx tb L (tNx tb L q))) (va_up w (tPn tb L q).toNatClampNeg (tNm tb L (tNx tb L q) 1 99))
         else if tKd tb L (tNx tb L (tNx tb L q)) = 3 ∧ tb (tPl tb L (tNx tb L (tNx tb L q))) = 59 then (true, tNx tb L (tNx tb L (tNx tb L q)), va_up w (tPn tb L q).toNatClampNeg (tNm tb L (tNx tb L q) 1 99))
         else (false, tNx tb L (tNx tb L q), va_up w (tPn tb L q).toNatClampNeg (tNm tb L (tNx tb L q) 1 99))))
      else (false, q, w)
def b2 (b : Bool) : Int32 := if b = true then 1 else 0
theorem b2_nz (b : Bool) : xnz (b2 b) = true := by cases b <;> decide
theorem b2_0 (b : Bool) : b2 b = 0 ↔ b = false := by cases b <;> decide
theorem cTb_w {T : xT} {S : xS} {tb : Nat → Int32} {L a : Nat} {f : Nat → Int32} (ha : a ≠ 2) (h : cTb T S tb L) : cTb T (xw S a f) tb L := ⟨h.1, h.2.1, fun k hk => by rw [xw_ne _ _ (fun q => ha q.symm)]; exact h.2.2 k hk⟩
theorem xI_w1 {S : xS} {a k : Nat} {g : Nat → Int32} {v : Int32} (ha : a ≠ 1) : xI (xw S 1 g) a k v = xw (xI S a k v) 1 g := by
  unfold xI xw xput
  refine Prod.ext (funext fun c => ?_) rfl
  show va_up (va_up S.1 1 g) a (va_up (va_up S.1 1 g a) k v) c = va_up (va_up S.1 a (va_up (S.1 a) k v)) 1 g c
  rw [va_up_ne _ _ ha]
  by_cases h1 : c = a
  · subst h1; rw [xup_at, va_up_ne _ _ ha, xup_at]
  · rw [va_up_ne _ _ h1]
    by_cases h2 : c = 1
    · subst h2; rw [xup_at, xup_at]
    · rw [va_up_ne _ _ h2, va_up_ne _ _ h2, va_up_ne _ _ h1]
theorem ix8 (k : Nat) : nI k * 8 = nI (8 * k) := by rw [Int32.mul_comm]; exact pk_mul 8 k
theorem c_af {tb : Nat → Int32} {L q : Nat} {f0 : Int32} {g : Nat → Int32} {b : Bool} (hb : b = true) (h : cAf tb L b q f0 g) : cTk tb L q g ∧ g 2 = f0 := by
  unfold cAf at h; rw [if_pos hb] at h; exact h
theorem c_aff {tb : Nat → Int32} {L q : Nat} {f0 : Int32} {g : Nat → Int32} {b : Bool} (hb : b = false) (h : cAf tb L b q f0 g) : g 2 = nI (tPl tb L q) := by
  unfold cAf at h; rw [if_neg (by rw [hb]; decide)] at h; exact h
theorem c_afF {tb : Nat → Int32} {L q : Nat} {f0 : Int32} {g : Nat → Int32} (h : g 2 = nI (tPl tb L q)) : cAf tb L false q f0 g := by
  unfold cAf; rw [if_neg (by decide)]; exact h
theorem c_afT {tb : Nat → Int32} {L q : Nat} {f0 : Int32} {g : Nat → Int32} (h : cTk tb L q g) (h2 : g 2 = f0) : cAf tb L true q f0 g := by
  unfold cAf; rw [if_pos rfl]; exact ⟨h, h2⟩
theorem L_cG {T : xT} {S : xS} {tb : Nat → Int32} {L ta k : Nat} {f : Nat → Int32} (h : cTb T S tb L) (ti : xTi T S.2.2 ta) (hk : k < 9) : ∀ (m n c q : Nat) (w g : Nat → Int32), c + m = 8 → m < n → q ≤ L → cTk tb L q g → ∃ g', f_X8_readGives_32 T n (xw (xw S (ta + 2) (rop k w f)) 1 g) ta 1 (nI (8 * k)) (nI c) = some (b2 (pG tb L m q w).1, xw (xw S (ta + 2) (rop k (pG tb L m q w).2.2 f)) 1 g') ∧ cAf tb L (pG tb L m q w).1 (pG tb L m q w).2.1 (g 2) g' := by
  have hta : ta + 2 ≠ 2 := by have := ti.1; omega
  have hta1 : ta + 2 ≠ 1 := by omega
  have h' : ∀ w, cTb T (xw S (ta + 2) w) tb L := fun w => cTb_w hta h
  intro m
  induction m with
  | zero =>
    intro n c q w g hc hn hq hg
    obtain ⟨n, rfl⟩ : ∃ n', n = n' + 1 := ⟨n - 1, by omega⟩
    obtain rfl : c = 8 := by omega
    unfold f_X8_readGives_32
    rw [if_pos x8_t, c_refuse hg, xc_e, xgd_h (by decide)]
    exact ⟨_, rfl, c_afF (xup_at _ _ _)⟩
  | succ m ih =>
    intro n c q w g hc hn hq hg
    obtain ⟨n, rfl⟩ : ∃ n', n = n' + 1 := ⟨n - 1, by omega⟩
    unfold f_X8_readGives_32 pG
    rw [if_neg (x8_f (by omega)), c_partner (h' _) hq hg, xc_e, xl_e]
    by_cases a1 : tPn tb L q = -1
    · rw [if_pos a1, if_pos a1, c_refuse hg, xc_e, xgd_h (by decide)]
      exact ⟨_, rfl, c_afF (xup_at _ _ _)⟩
    · obtain ⟨p, hp, ep, _⟩ := tPn_r a1
      rw [if_neg a1, if_neg a1, ep, nI_clamp (by omega), nI_add, tg_2 (S := xw (xw S (ta + 2) (rop k w f)) 1 g) ti, xai_n (N := 72) ti.2.1.2.2.2.2.2 (by omega) (by decide), xw_ne _ _ hta1, xw_1, rop_in hp]
      by_cases a2 : w p = 0
      · rw [if_pos a2, if_pos a2]
        obtain ⟨g1, e1, k1, z1⟩ := c_next (h' (rop k w f)) hq hg
        have q1 := (tNx_r tb hq).2.1
        rw [e1, xcv_e]
        obtain ⟨g2, e2, k2⟩ := c_needNumber (h' (rop k w f)) q1 k1 (lo := 1) (hi := 99) (by decide)
        rw [e2, xc_e, xl_e]
        by_cases a3 : tNm tb L (tNx tb L q) 1 99 = -1
        · rw [if_pos a3, if_pos a3]
          rw [show (decide (tNm tb L (tNx tb L q) 1 99 ≠ -1)) = false from decide_eq_false (fun z => z a3), if_neg (fun z => z a3)] at k2
          exact ⟨g2, rfl, c_afF (c_aff rfl k2)⟩
        · rw [if_neg a3, if_neg a3]
          rw [show (decide (tNm tb L (tNx tb L q) 1 99 ≠ -1)) = true from decide_eq_true a3, if_pos a3] at k2
          obtain ⟨k2, z2⟩ := c_af rfl k2
          have q2 := (tNx_r tb q1).2.1
          have q3 := (tNx_r tb q2).2.1
          rw [tg_2 (S := xw (xw S (ta + 2) (rop k w f)) 1 g2) ti, xst_n (N := 72) ti.2.1.2.2.2.2.2 (by omega) (by decide), xI_w1 hta1, xI_xw, rop_up hp]
          generalize tNm tb L (tNx tb L q) 1 99 = v at a3 ⊢
          rw [c_isSign k2, xc_e]
          by_cases a4 : tKd tb L (tNx tb L (tNx tb L q)) = 3 ∧ tb (tPl tb L (tNx tb L (tNx tb L q))) = 43
          · rw [if_pos a4, if_neg (show ¬ (1 : Int32) = 0 by decide), if_pos a4]
            obtain ⟨g3, e3, k3, z3⟩ := c_next (h' (rop k (va_up w p v) f)) q2 k2
            rw [e3, xcv_e, xl_e, nI_1]
            obtain ⟨g4, e4, k4⟩ := ih n (c + 1) (tNx tb L (tNx tb L (tNx tb L q))) (va_up w p v) g3 (by omega) (by omega) q3 k3
            refine ⟨g4, e4, ?_⟩
            rw [z3, z2, z1] at k4
            exact k4
          · rw [if_neg a4, if_pos rfl, if_neg a4]
            obtain ⟨g3, e3, k3⟩ := c_needSign (h' (rop k (va_up w p v) f)) q2 k2 59
            rw [e3, xc_e]
            rw [z2, z1] at k3
            by_cases a5 : tKd tb L (tNx tb L (tNx tb L q)) = 3 ∧ tb (tPl tb L (tNx tb L (tNx tb L q))) = 59
            · rw [if_pos a5, if_pos a5, xgd_h (by decide)]
              rw [decide_eq_true a5, if_pos a5] at k3
              exact ⟨g3, rfl, k3⟩
            · rw [if_neg a5, if_neg a5, xgd_h (by decide)]
              rw [decide_eq_false a5, if_neg a5] at k3
              exact ⟨g3, rfl, k3⟩
      · rw [if_neg a2, if_neg a2, c_refuse hg, xc_e, xgd_h (by decide)]
        exact ⟨_, rfl, c_afF (xup_at _ _ _)⟩
/-! fill of a stretch -/
theorem L_fill2 {T : xT} {S : xS} {a N i M : Nat} {v : Int32} (hN : T.2.1 a = N) (hM : M ≤ N) (hN2 : N < 2 ^ 31) : ∀ (m c n : Nat), c + m = M → m < n → i ≤ c → f_J7_fill_fda19_10 T n (xw S a (fun j => if i ≤ j ∧ j < c then v else S.1 a j)) a (nI M) v (nI c) = some (xw S a (fun j => if i ≤ j ∧ j < M then v else S.1 a j)) := by
  intro m
  induction m with
  | zero =>
    intro c n hc hn hi
    obtain ⟨n, rfl⟩ : ∃ n', n = n' + 1 := ⟨n - 1, by omega⟩
    obtain rfl : c = M := by omega
    unfold f_J7_fill_fda19_10
    rw [if_pos (nI_le (Nat.le_refl _) (by omega))]
  | succ m ih =>
    intro c n hc hn hi
    obtain ⟨n, rfl⟩ : ∃ n', n = n' + 1 := ⟨n - 1, by omega⟩
    unfold f_J7_fill_fda19_10
    rw [if_neg (nI_ge (by omega) (by omega)), xst_n hN (by omega) hN2, xl_e, nI_1, xI_xw]
    have e : va_up (fun j => if i ≤ j ∧ j < c then v else S.1 a j) c v = fun j => if i ≤ j ∧ j < c + 1 then v else S.1 a j := by
      funext j
      by_cases hj : j = c
      · subst hj; rw [xup_at, if_pos (by omega)]
      · rw [va_up_ne _ _ hj]
        by_cases h2 : i ≤ j ∧ j < c
        · rw [if_pos h2, if_pos (by omega)]
        · rw [if_neg h2, if_neg (by omega)]
    rw [e]
    exact ih (c + 1) n (by omega) (by omega) (by omega)
