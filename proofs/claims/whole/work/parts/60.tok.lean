/-! tokens: one pure reader for both sides -/
def tSp (tb : Nat → Int32) : Nat → Nat → Nat
  | 0, q => q
  | m + 1, q => if tb q = 32 then tSp tb m (q + 1) else q
def tRl (tb : Nat → Int32) : Nat → Nat → Nat
  | 0, q => q
  | m + 1, q => if tb q < 97 then q else if 122 < tb q then q else tRl tb m (q + 1)
def tRd (tb : Nat → Int32) : Nat → Nat → Nat
  | 0, q => q
  | m + 1, q => if tb q < 48 then q else if 57 < tb q then q else tRd tb m (q + 1)
def tVc (tb : Nat → Int32) : Nat → Nat → Int32 → Int32
  | 0, _, v => v
  | m + 1, q, v => if tb q < 48 then v else if 57 < tb q then v else tVc tb m (q + 1) (if (100000000 : Int32) ≤ v then 100000000 else v * 10 + tb q - 48)
def tVr (tb : Nat → Int32) : Nat → Nat → Int32 → Int32
  | 0, _, v => v
  | m + 1, q, v => if tb q < 48 then v else if 57 < tb q then v else tVr tb m (q + 1) (if v ≤ (1000000 : Int32) then 10 * v + tb q - 48 else v)
def lett (w : Int64) (c : Int32) : Int64 := if lg_cmp w 0 < 0 then -1 else if lg_cmp w 1125899906842624 < 0 then w * 32 + c.toInt64 - 96 else -1
def tWd (tb : Nat → Int32) : Nat → Nat → Int64 → Int64
  | 0, _, w => w
  | m + 1, q, w => if tb q < 97 then w else if 122 < tb q then w else tWd tb m (q + 1) (lett w (tb q))
def tPl (tb : Nat → Int32) (L q : Nat) : Nat := tSp tb (L - q) q
/-- 0 the end, 1 a word, 2 a number, 3 else -/
def tKp (tb : Nat → Int32) (L p : Nat) : Int32 := if L ≤ p then 0 else if tb p < 97 then (if tb p < 48 then 3 else if 57 < tb p then 3 else 2) else if 122 < tb p then (if tb p < 48 then 3 else if 57 < tb p then 3 else 2) else 1
def tKd (tb : Nat → Int32) (L q : Nat) : Int32 := tKp tb L (tPl tb L q)
def tNp (tb : Nat → Int32) (L p : Nat) : Nat := if tKp tb L p = 0 then p else if tKp tb L p = 1 then tRl tb (L - p) p else if tKp tb L p = 2 then tRd tb (L - p) p else p + 1
def tNx (tb : Nat → Int32) (L q : Nat) : Nat := tNp tb L (tPl tb L q)
/-- the token of the reference -/
def tSg (c : Int32) : Int32 := if c = 59 then c else if c = 43 then c else if c = 45 then c else if c = 42 then c else if c = 47 then c else if c = 60 then c else if c = 62 then c else 3
def tTk (tb : Nat → Int32) (L q : Nat) : Int32 := if tKd tb L q = 3 then tSg (tb (tPl tb L q)) else tKd tb L q
theorem tSp_r (tb : Nat → Int32) : ∀ (m q : Nat), q ≤ tSp tb m q ∧ tSp tb m q ≤ q + m
  | 0, q => ⟨Nat.le_refl q, Nat.le_refl q⟩
  | m + 1, q => by
    unfold tSp
    by_cases h : tb q = 32
    · rw [if_pos h]; have := tSp_r tb m (q + 1); omega
    · rw [if_neg h]; omega
theorem tRl_r (tb : Nat → Int32) : ∀ (m q : Nat), q ≤ tRl tb m q ∧ tRl tb m q ≤ q + m
  | 0, q => ⟨Nat.le_refl q, Nat.le_refl q⟩
  | m + 1, q => by
    unfold tRl
    have := tRl_r tb m (q + 1)
    repeat' split
    all_goals omega
theorem tRd_r (tb : Nat → Int32) : ∀ (m q : Nat), q ≤ tRd tb m q ∧ tRd tb m q ≤ q + m
  | 0, q => ⟨Nat.le_refl q, Nat.le_refl q⟩
  | m + 1, q => by
    unfold tRd
    have := tRd_r tb m (q + 1)
    repeat' split
    all_goals omega
theorem tPl_r (tb : Nat → Int32) {L q : Nat} (h : q ≤ L) : q ≤ tPl tb L q ∧ tPl tb L q ≤ L := by
  have := tSp_r tb (L - q) q
  unfold tPl; omega
theorem tKp_lt {tb : Nat → Int32} {L p : Nat} (h : tKp tb L p ≠ 0) : p < L := by
  unfold tKp at h
  by_cases q : L ≤ p
  · rw [if_pos q] at h; exact absurd rfl h
  · omega
theorem tNp_r (tb : Nat → Int32) {L p : Nat} (h : p ≤ L) : p ≤ tNp tb L p ∧ tNp tb L p ≤ L ∧ (tKp tb L p ≠ 0 → p < tNp tb L p) := by
  unfold tNp
  by_cases h0 : tKp tb L p = 0
  · rw [if_pos h0]; exact ⟨Nat.le_refl p, h, fun q => absurd h0 q⟩
  · rw [if_neg h0]
    have hp := tKp_lt h0
    have hkp : tKp tb L p = if tb p < 97 then (if tb p < 48 then 3 else if 57 < tb p then 3 else 2) else if 122 < tb p then (if tb p < 48 then 3 else if 57 < tb p then 3 else 2) else 1 := by
      unfold tKp; rw [if_neg (by omega)]
    obtain ⟨m, hm⟩ : ∃ m, L - p = m + 1 := ⟨L - p - 1, by omega⟩
    by_cases h1 : tKp tb L p = 1
    · rw [if_pos h1]
      have r := tRl_r tb (L - p) p
      refine ⟨r.1, by omega, fun _ => ?_⟩
      rw [hm]
      unfold tRl
      have r2 := tRl_r tb m (p + 1)
      by_cases a1 : tb p < 97
      · rw [if_pos a1] at hkp
        rw [hkp] at h1
        revert h1
        repeat' split
        all_goals (intro h1; exact absurd h1 (by decide))
      · rw [if_neg a1]
        by_cases a2 : 122 < tb p
        · rw [if_neg a1, if_pos a2] at hkp
          rw [hkp] at h1
          revert h1
          repeat' split
          all_goals (intro h1; exact absurd h1 (by decide))
        · rw [if_neg a2]; omega
    · rw [if_neg h1]
      by_cases h2 : tKp tb L p = 2
      · rw [if_pos h2]
        have r := tRd_r tb (L - p) p
        refine ⟨r.1, by omega, fun _ => ?_⟩
        rw [hm]
        unfold tRd
        have r2 := tRd_r tb m (p + 1)
        by_cases a1 : tb p < 48
        · simp only [if_pos a1] at hkp
          rw [hkp] at h2
          revert h2
          repeat' split
          all_goals (intro h2; exact absurd h2 (by decide))
        · rw [if_neg a1]
          by_cases a2 : 57 < tb p
          · simp only [if_neg a1, if_pos a2] at hkp
            rw [hkp] at h2
            revert h2
            repeat' split
            all_goals (intro h2; exact absurd h2 (by decide))
          · rw [if_neg a2]; omega
      · rw [if_neg h2]; omega
theorem tNx_r (tb : Nat → Int32) {L q : Nat} (h : q ≤ L) : q ≤ tNx tb L q ∧ tNx tb L q ≤ L ∧ (tKd tb L q ≠ 0 → q < tNx tb L q) := by
  have h1 := tPl_r tb h
  have h2 := tNp_r tb h1.2
  unfold tNx tKd
  exact ⟨by omega, h2.2.1, fun k => by have := h2.2.2 k; omega⟩
/-! the class's reader -/
/-- the token that stands behind q, as the class has it -/
def cTk (tb : Nat → Int32) (L q : Nat) (g : Nat → Int32) : Prop := g 1 = nI L ∧ g 4 = nI (tNx tb L q) ∧ g 5 = nI (tPl tb L q) ∧ g 6 = tKd tb L q ∧ (tKd tb L q = 2 → g 7 = tVc tb (L - tPl tb L q) (tPl tb L q) 0) ∧ (tKd tb L q = 3 → g 3 = tb (tPl tb L q))
def cTb (T : xT) (S : xS) (tb : Nat → Int32) (L : Nat) : Prop := xTp T S.2.2 ∧ L ≤ 400 ∧ ∀ k, k < L → S.1 2 k = tb k ∧ 0 ≤ (tb k).toInt ∧ (tb k).toInt < 256
theorem c_byte {α : Type} {T : xT} {S : xS} {tb : Nat → Int32} {L q : Nat} {g : Nat → Int32} {K : Int32 → Option α} (h : cTb T S tb L) (hq : q < L) : xgr T (xw S 1 g) 1 0 20 (fun a => xai T (xw S 1 g) a (nI q) K) = K (tb q) := by
  have hL := h.2.1
  rw [rr_1_0 (S := xw S 1 g) h.1, xai_n (N := 400) (xTp_n h.1 400 (by decide) rfl) (by omega) (by decide), xw_ne _ _ (by decide), (h.2.2 q hq).1]
theorem L_c98 {T : xT} {S : xS} {tb : Nat → Int32} {L : Nat} (h : cTb T S tb L) : ∀ (m q n : Nat) (g : Nat → Int32), q + m = L → m < n → g 1 = nI L → g 4 = nI q → f_X3_advance_98 T n (xw S 1 g) 1 = some (xw S 1 (va_up g 4 (nI (tRl tb m q)))) := by
  have hL := h.2.1
  intro m
  induction m with
  | zero =>
    intro q n g hq hn h1 h4
    obtain ⟨n, rfl⟩ : ∃ n', n = n' + 1 := ⟨n - 1, by omega⟩
    unfold f_X3_advance_98
    rw [xw_1, h1, h4, if_pos (nI_le (by omega) (by omega))]
    show some (xw S 1 g) = some (xw S 1 (va_up g 4 (nI q)))
    rw [← h4, xup_self]
  | succ m ih =>
    intro q n g hq hn h1 h4
    obtain ⟨n, rfl⟩ : ∃ n', n = n' + 1 := ⟨n - 1, by omega⟩
    unfold f_X3_advance_98
    rw [xw_1, h1, h4, if_neg (nI_ge (by omega) (by omega)), c_byte h (by omega)]
    unfold tRl
    by_cases a1 : tb q < 97
    · rw [if_pos a1, if_pos a1, ← h4, xup_self]
    · rw [if_neg a1, if_neg a1, c_byte h (by omega)]
      by_cases a2 : 122 < tb q
      · rw [if_pos a2, if_pos a2, ← h4, xup_self]
      · rw [if_neg a2, if_neg a2, xpi_e, xI_xw, nI_1, ih (q + 1) n _ (by omega) (by omega) (by rw [up_ne (by decide)]; exact h1) (xup_at _ _ _), xup2]
theorem L_c188 {T : xT} {S : xS} {tb : Nat → Int32} {L : Nat} (h : cTb T S tb L) : ∀ (m q n : Nat) (g : Nat → Int32), q + m = L → m < n → g 1 = nI L → g 4 = nI q → ∃ g', f_X3_advance_188 T n (xw S 1 g) 1 = some (xw S 1 g') ∧ g' 4 = nI (tRd tb m q) ∧ g' 7 = tVc tb m q (g 7) ∧ ∀ k, k ≠ 4 → k ≠ 7 → g' k = g k := by
  have hL := h.2.1
  intro m
  induction m with
  | zero =>
    intro q n g hq hn h1 h4
    obtain ⟨n, rfl⟩ : ∃ n', n = n' + 1 := ⟨n - 1, by omega⟩
    unfold f_X3_advance_188
    rw [xw_1, h1, h4, if_pos (nI_le (by omega) (by omega))]
    exact ⟨g, rfl, h4, rfl, fun _ _ _ => rfl⟩
  | succ m ih =>
    intro q n g hq hn h1 h4
    obtain ⟨n, rfl⟩ : ∃ n', n = n' + 1 := ⟨n - 1, by omega⟩
    unfold f_X3_advance_188
    rw [xw_1, h1, h4, if_neg (nI_ge (by omega) (by omega)), c_byte h (by omega)]
    unfold tRd tVc
    by_cases a1 : tb q < 48
    · rw [if_pos a1, if_pos a1, if_pos a1]
      exact ⟨g, rfl, h4, rfl, fun _ _ _ => rfl⟩
    · rw [if_neg a1, if_neg a1, if_neg a1, c_byte h (by omega)]
      by_cases a2 : 57 < tb q
      · rw [if_pos a2, if_pos a2, if_pos a2]
        exact ⟨g, rfl, h4, rfl, fun _ _ _ => rfl⟩
      · rw [if_neg a2, if_neg a2, if_neg a2]
        have key : ∀ v : Int32, ∃ g', f_X3_advance_188 T n (xw S 1 (va_up (va_up g 7 v) 4 (nI (q + 1)))) 1 = some (xw S 1 g') ∧ g' 4 = nI (tRd tb m (q + 1)) ∧ g' 7 = tVc tb m (q + 1) v ∧ ∀ k, k ≠ 4 → k ≠ 7 → g' k = g k := fun v => by
          obtain ⟨g', e1, e2, e3, e4⟩ := ih (q + 1) n (va_up (va_up g 7 v) 4 (nI (q + 1))) (by omega) (by omega) (by rw [up_ne (by decide), up_ne (by decide)]; exact h1) (xup_at _ _ _)
          refine ⟨g', e1, e2, ?_, fun k h2 h3 => ?_⟩
          · rw [e3, up_ne (by decide), xup_at]
          · rw [e4 k h2 h3, up_ne h2, up_ne h3]
        by_cases a3 : (100000000 : Int32) ≤ g 7
        · rw [if_pos a3, if_pos a3, xpi_e, xI_xw, xpi_e, xI_xw, xw_1, up_ne (by decide), h4, nI_1]
          exact key _
        · rw [if_neg a3, if_neg a3, c_byte h (by omega), xpi_e, xI_xw, xpi_e, xI_xw, xw_1, up_ne (by decide), h4, nI_1]
          exact key _
theorem x256 {c : Int32} (h0 : 0 ≤ c.toInt) (h1 : c.toInt < 256) : (c.toUInt32 % 65536).toInt32 = c ∧ xnc c = true := by
  obtain ⟨j, hj, rfl⟩ : ∃ j : Nat, j < 256 ∧ c = nI j := by
    obtain ⟨j, hj, e⟩ := nI_of (x := c) (fun q => by rw [xlt0] at q; omega)
    refine ⟨j, ?_, e⟩
    rw [e, nI_toInt hj] at h1
    omega
  exact (by decide +kernel : ∀ j, j < 256 → ((nI j).toUInt32 % 65536).toInt32 = nI j ∧ xnc (nI j) = true) j hj
/-- what stands at p, all spaces passed -/
theorem L_c38 {T : xT} {S : xS} {tb : Nat → Int32} {L : Nat} (h : cTb T S tb L) {p : Nat} (hp : p ≤ L) {g : Nat → Int32} (h1 : g 1 = nI L) (h4 : g 4 = nI p) : ∃ g', f_X3_advance_38 T (xw S 1 g) 1 = some (xw S 1 g') ∧ g' 1 = nI L ∧ g' 2 = g 2 ∧ g' 4 = nI (tNp tb L p) ∧ g' 5 = nI p ∧ g' 6 = tKp tb L p ∧ (tKp tb L p = 2 → g' 7 = tVc tb (L - p) p 0) ∧ (tKp tb L p = 3 → g' 3 = tb p) := by
  have hL := h.2.1
  unfold f_X3_advance_38
  rw [xpi_e, xI_xw]
  simp only [xw_1, h4]
  rw [up_ne (show (4 : Nat) ≠ 5 by decide), up_ne (show (1 : Nat) ≠ 5 by decide), h4, h1]
  rcases Nat.lt_or_ge p L with hpl | hpl
  · rw [if_pos (nI_lt hpl (by omega)), c_byte h hpl]
    have hb := h.2.2 p hpl
    have kp : tKp tb L p = if tb p < 97 then (if tb p < 48 then 3 else if 57 < tb p then 3 else 2) else if 122 < tb p then (if tb p < 48 then 3 else if 57 < tb p then 3 else 2) else 1 := by
      unfold tKp; rw [if_neg (by omega)]
    -- numbers and signs
    have key : tKp tb L p = (if tb p < 48 then 3 else if 57 < tb p then 3 else 2) → ∃ g', f_X3_advance_150 T (xw S 1 (va_up g 5 (nI p))) 1 = some (xw S 1 g') ∧ g' 1 = nI L ∧ g' 2 = g 2 ∧ g' 4 = nI (tNp tb L p) ∧ g' 5 = nI p ∧ g' 6 = tKp tb L p ∧ (tKp tb L p = 2 → g' 7 = tVc tb (L - p) p 0) ∧ (tKp tb L p = 3 → g' 3 = tb p) := fun kq => by
      have key3 : tKp tb L p = 3 → ∃ g', f_X3_advance_278 T (xw S 1 (va_up g 5 (nI p))) 1 = some (xw S 1 g') ∧ g' 1 = nI L ∧ g' 2 = g 2 ∧ g' 4 = nI (tNp tb L p) ∧ g' 5 = nI p ∧ g' 6 = tKp tb L p ∧ (tKp tb L p = 2 → g' 7 = tVc tb (L - p) p 0) ∧ (tKp tb L p = 3 → g' 3 = tb p) := fun k3 => by
        unfold f_X3_advance_278
        have e4 : va_up (va_up g 5 (nI p)) 6 3 4 = nI p := by rw [up_ne (by decide), up_ne (by decide)]; exact h4
        rw [xpi_e, xI_xw, xw_1, e4, c_byte h hpl, (x256 hb.2.1 hb.2.2).1, xgd_h (x256 hb.2.1 hb.2.2).2, xpi_e, xI_xw, xpi_e, xI_xw, xw_1, up_ne (show (4 : Nat) ≠ 3 by decide), e4, nI_1]
        have en : tNp tb L p = p + 1 := by
          unfold tNp
          rw [k3, if_neg (by decide), if_neg (by decide), if_neg (by decide)]
        refine ⟨_, rfl, ?_, ?_, ?_, ?_, ?_, ?_, ?_⟩
        · rw [up_ne (by decide), up_ne (by decide), up_ne (by decide), up_ne (by decide)]; exact h1
        · rw [up_ne (by decide), up_ne (by decide), up_ne (by decide), up_ne (by decide)]
        · rw [xup_at, en]
        · rw [up_ne (by decide), up_ne (by decide), up_ne (by decide), xup_at]
        · rw [up_ne (by decide), up_ne (by decide), xup_at, k3]
        · intro q; rw [k3] at q; exact absurd q (by decide)
        · intro _; rw [up_ne (by decide), xup_at]
      unfold f_X3_advance_150
      have e4 : va_up g 5 (nI p) 4 = nI p := by rw [up_ne (by decide)]; exact h4
      rw [xw_1, e4, c_byte h hpl]
      by_cases a1 : tb p < 48
      · rw [if_pos a1] at kq ⊢
        exact key3 kq
      · rw [if_neg a1] at kq ⊢
        rw [c_byte h hpl]
        by_cases a2 : 57 < tb p
        · rw [if_pos a2] at kq ⊢
          exact key3 kq
        · rw [if_neg a2] at kq ⊢
          rw [xpi_e, xI_xw, xpi_e, xI_xw]
          obtain ⟨g', f1, f2, f3, f4⟩ := L_c188 h (L - p) p xfu (va_up (va_up (va_up g 5 (nI p)) 6 2) 7 0) (by omega) (by show L - p < 1000; omega) (by rw [up_ne (by decide), up_ne (by decide), up_ne (by decide)]; exact h1) (by rw [up_ne (by decide), up_ne (by decide)]; exact e4)
          have en : tNp tb L p = tRd tb (L - p) p := by
            unfold tNp
            rw [kq, if_neg (by decide), if_neg (by decide), if_pos rfl]
          refine ⟨g', f1, ?_, ?_, ?_, ?_, ?_, ?_, ?_⟩
          · rw [f4 1 (by decide) (by decide), up_ne (by decide), up_ne (by decide), up_ne (by decide)]; exact h1
          · rw [f4 2 (by decide) (by decide), up_ne (by decide), up_ne (by decide), up_ne (by decide)]
          · rw [f2, en]
          · rw [f4 5 (by decide) (by decide), up_ne (by decide), up_ne (by decide), xup_at]
          · rw [f4 6 (by decide) (by decide), up_ne (by decide), xup_at, kq]
          · intro _; rw [f3, xup_at]
          · intro q; rw [kq] at q; exact absurd q (by decide)
    by_cases a1 : tb p < 97
    · rw [if_pos a1] at kp ⊢
      exact key kp
    · rw [if_neg a1] at kp ⊢
      rw [c_byte h hpl]
      by_cases a2 : 122 < tb p
      · rw [if_pos a2] at kp ⊢
        exact key kp
      · rw [if_neg a2] at kp ⊢
        rw [xpi_e, xI_xw, L_c98 h (L - p) p xfu _ (by omega) (by show L - p < 1000; omega) (by rw [up_ne (by decide), up_ne (by decide)]; exact h1) (by rw [up_ne (by decide), up_ne (by decide)]; exact h4)]
        have en : tNp tb L p = tRl tb (L - p) p := by
          unfold tNp
          rw [kp, if_neg (by decide), if_pos rfl]
        refine ⟨_, rfl, ?_, ?_, ?_, ?_, ?_, ?_, ?_⟩
        · rw [up_ne (by decide), up_ne (by decide), up_ne (by decide)]; exact h1
        · rw [up_ne (by decide), up_ne (by decide), up_ne (by decide)]
        · rw [xup_at, en]
        · rw [up_ne (by decide), up_ne (by decide), xup_at]
        · rw [up_ne (by decide), xup_at, kp]
        · intro q; rw [kp] at q; exact absurd q (by decide)
        · intro q; rw [kp] at q; exact absurd q (by decide)
  · have hpe : p = L := by omega
    have kp : tKp tb L p = 0 := by unfold tKp; rw [if_pos hpl]
    rw [if_neg (nI_nlt (by omega) (by omega)), xpi_e, xI_xw]
    have en : tNp tb L p = p := by unfold tNp; rw [if_pos kp]
    refine ⟨_, rfl, ?_, ?_, ?_, ?_, ?_, ?_, ?_⟩
    · rw [up_ne (by decide), up_ne (by decide)]; exact h1
    · rw [up_ne (by decide), up_ne (by decide)]
    · rw [up_ne (by decide), up_ne (by decide), h4, en]
    · rw [up_ne (by decide), xup_at]
    · rw [xup_at, kp]
    · intro q; rw [kp] at q; exact absurd q (by decide)
    · intro q; rw [kp] at q; exact absurd q (by decide)
theorem L_c0 {T : xT} {S : xS} {tb : Nat → Int32} {L : Nat} (h : cTb T S tb L) : ∀ (m q n : Nat) (g : Nat → Int32), q + m = L → m < n → g 1 = nI L → g 4 = nI q → f_X3_advance_0 T n (xw S 1 g) 1 = f_X3_advance_38 T (xw S 1 (va_up g 4 (nI (tSp tb m q)))) 1 := by
  have hL := h.2.1
  intro m
  induction m with
  | zero =>
    intro q n g hq hn h1 h4
    obtain ⟨n, rfl⟩ : ∃ n', n = n' + 1 := ⟨n - 1, by omega⟩
    unfold f_X3_advance_0
    rw [xw_1, h1, h4, if_pos (nI_le (by omega) (by omega))]
    show _ = f_X3_advance_38 T (xw S 1 (va_up g 4 (nI q))) 1
    rw [← h4, xup_self]
  | succ m ih =>
    intro q n g hq hn h1 h4
    obtain ⟨n, rfl⟩ : ∃ n', n = n' + 1 := ⟨n - 1, by omega⟩
    unfold f_X3_advance_0
    rw [xw_1, h1, h4, if_neg (nI_ge (by omega) (by omega)), c_byte h (by omega)]
    unfold tSp
    by_cases a1 : tb q = 32
    · rw [if_pos a1, if_pos a1, xpi_e, xI_xw, nI_1, ih (q + 1) n _ (by omega) (by omega) (by rw [up_ne (by decide)]; exact h1) (xup_at _ _ _), xup2]
    · rw [if_neg a1, if_neg a1, ← h4, xup_self]
theorem c_adv {T : xT} {S : xS} {tb : Nat → Int32} {L q : Nat} (h : cTb T S tb L) (hq : q ≤ L) {g : Nat → Int32} (h1 : g 1 = nI L) (h4 : g 4 = nI q) : ∃ g', f_X3_advance T (xw S 1 g) 1 = some (xw S 1 g') ∧ cTk tb L q g' ∧ g' 2 = g 2 := by
  have hL := h.2.1
  unfold f_X3_advance
  rw [L_c0 h (L - q) q xfu g (by omega) (by show L - q < 1000; omega) h1 h4]
  obtain ⟨g', e, e1, e2, e3, e4, e5, e6, e7⟩ := L_c38 h (tPl_r tb hq).2 (g := va_up g 4 (nI (tSp tb (L - q) q))) (by rw [up_ne (by decide)]; exact h1) (xup_at _ _ _)
  exact ⟨g', e, ⟨e1, e3, e4, e5, e6, e7⟩, by rw [e2, up_ne (by decide)]⟩
