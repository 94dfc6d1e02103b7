/-! the reference's reader -/
def rW (S : xS) (g : Nat → Int32) (j : Nat → Int64) : xS := (va_up S.1 199 g, va_up S.2.1 199 j, S.2.2)
theorem rW_1 (S : xS) (g : Nat → Int32) (j : Nat → Int64) : (rW S g j).1 199 = g := va_up_self S.1 199 g
theorem rW_2 (S : xS) (g : Nat → Int32) (j : Nat → Int64) : (rW S g j).2.1 199 = j := va_up_self S.2.1 199 j
theorem rW_ne (S : xS) (g : Nat → Int32) (j : Nat → Int64) {a : Nat} (h : a ≠ 199) : (rW S g j).1 a = S.1 a := va_up_ne S.1 g h
theorem rW_r (S : xS) (g : Nat → Int32) (j : Nat → Int64) : (rW S g j).2.2 = S.2.2 := rfl
theorem rW_I {S : xS} {g : Nat → Int32} {j : Nat → Int64} {k : Nat} {v : Int32} : xI (rW S g j) 199 k v = rW S (va_up g k v) j := by
  unfold xI rW xput
  simp only [xup_up, xup_at]
theorem rW_J {S : xS} {g : Nat → Int32} {j : Nat → Int64} {k : Nat} {v : Int64} : xJ (rW S g j) 199 k v = rW S g (va_up j k v) := by
  unfold xJ rW xput
  simp only [xup_up, xup_at]
theorem rW_self (S : xS) : rW S (S.1 199) (S.2.1 199) = S := by
  unfold rW
  rw [xup_self, xup_self]
theorem xpj_e {α : Type} (S : xS) (a k : Nat) (v : Int64) (K : xS → Option α) : xpj S a k v K = K (xJ S a k v) := rfl
def rTb (T : xT) (S : xS) (tb : Nat → Int32) (L : Nat) : Prop := xTp T S.2.2 ∧ L ≤ 400 ∧ ∀ k, k < L → S.1 202 k &&& 255 = tb k ∧ 0 ≤ (tb k).toInt ∧ (tb k).toInt < 256
/-- what stands here: -1 behind the end -/
def tHe (tb : Nat → Int32) (L q : Nat) : Int32 := if L ≤ q then -1 else tb q
theorem r_here {T : xT} {S : xS} {tb : Nat → Int32} {L q : Nat} {g : Nat → Int32} {j : Nat → Int64} (h : rTb T S tb L) (hq : q ≤ L) (h5 : g 5 = nI L) (h6 : g 6 = nI q) : f_X10_here T (rW S g j) 199 = some (tHe tb L q, rW S g j) := by
  have hL := h.2.1
  unfold f_X10_here tHe
  rw [rW_1, h5, h6]
  rcases Nat.lt_or_ge q L with hl | hl
  · rw [if_neg (nI_ge hl (by omega)), if_neg (by omega), rr_199_4 (S := rW S g j) h.1, xai_n (N := 400) (xTp_n h.1 400 (by decide) rfl) (by omega) (by decide), rW_ne _ _ _ (by decide), (h.2.2 q hl).1]
  · rw [if_pos (nI_le hl (by omega)), if_pos hl]
theorem r_isL (T : xT) (S : xS) (c : Int32) : f_X10_isLetter T S c = some (if c < 97 then 0 else if 122 < c then 0 else 1, S) := by
  unfold f_X10_isLetter
  repeat' split
  all_goals rfl
theorem r_isD (T : xT) (S : xS) (c : Int32) : f_X10_isFigure T S c = some (if c < 48 then 0 else if 57 < c then 0 else 1, S) := by
  unfold f_X10_isFigure
  repeat' split
  all_goals rfl
theorem r_lett (T : xT) (S : xS) (w : Int64) (c : Int32) : f_X10_letter T S w c = some (lett w c, S) := by
  unfold f_X10_letter lett
  repeat' split
  all_goals rfl
theorem tHe_lt {tb : Nat → Int32} {L q : Nat} (h : q < L) : tHe tb L q = tb q := by unfold tHe; rw [if_neg (by omega)]
theorem tHe_ge {tb : Nat → Int32} {L q : Nat} (h : L ≤ q) : tHe tb L q = -1 := by unfold tHe; rw [if_pos h]
theorem L_r65 {T : xT} {S : xS} {tb : Nat → Int32} {L : Nat} (h : rTb T S tb L) : ∀ (m q n : Nat) (g : Nat → Int32) (j : Nat → Int64), q + m = L → m < n → g 5 = nI L → g 6 = nI q → f_X10_nextToken_65 T n (rW S g j) 199 = some (rW S (va_up g 6 (nI (tRl tb m q))) (va_up j 10 (tWd tb m q (j 10)))) := by
  have hL := h.2.1
  intro m
  induction m with
  | zero =>
    intro q n g j hq hn h5 h6
    obtain ⟨n, rfl⟩ : ∃ n', n = n' + 1 := ⟨n - 1, by omega⟩
    unfold f_X10_nextToken_65
    rw [r_here h (by omega) h5 h6, xc_e, r_isL, xc_e, tHe_ge (by omega), if_pos (by decide)]
    show some (rW S g j) = some (rW S (va_up g 6 (nI q)) (va_up j 10 (j 10)))
    rw [← h6, xup_self, xup_self]
  | succ m ih =>
    intro q n g j hq hn h5 h6
    obtain ⟨n, rfl⟩ : ∃ n', n = n' + 1 := ⟨n - 1, by omega⟩
    unfold f_X10_nextToken_65
    rw [r_here h (by omega) h5 h6, xc_e, r_isL, xc_e, tHe_lt (by omega)]
    unfold tRl tWd
    by_cases a1 : tb q < 97
    · rw [if_pos a1, if_pos a1, if_pos a1, if_pos rfl, ← h6, xup_self, xup_self]
    · rw [if_neg a1, if_neg a1, if_neg a1]
      by_cases a2 : 122 < tb q
      · rw [if_pos a2, if_pos a2, if_pos a2, if_pos rfl, ← h6, xup_self, xup_self]
      · rw [if_neg a2, if_neg a2, if_neg a2, if_neg (by decide), r_here h (by omega) h5 h6, xc_e, tHe_lt (by omega), r_lett, xc_e, rW_2, xpj_e, rW_J, xpi_e, rW_I, rW_1, h6, nI_1, ih (q + 1) n _ _ (by omega) (by omega) (by rw [up_ne (by decide)]; exact h5) (xup_at _ _ _), xup2, xup_up, xup_at]
theorem L_r120 {T : xT} {S : xS} {tb : Nat → Int32} {L : Nat} (h : rTb T S tb L) {j : Nat → Int64} : ∀ (m q n : Nat) (g : Nat → Int32), q + m = L → m < n → g 5 = nI L → g 6 = nI q → ∃ g', f_X10_nextToken_120 T n (rW S g j) 199 = some (rW S g' j) ∧ g' 6 = nI (tRd tb m q) ∧ g' 11 = tVr tb m q (g 11) ∧ ∀ k, k ≠ 6 → k ≠ 11 → g' k = g k := by
  have hL := h.2.1
  intro m
  induction m with
  | zero =>
    intro q n g hq hn h5 h6
    obtain ⟨n, rfl⟩ : ∃ n', n = n' + 1 := ⟨n - 1, by omega⟩
    unfold f_X10_nextToken_120
    rw [r_here h (by omega) h5 h6, xc_e, r_isD, xc_e, tHe_ge (by omega), if_pos (by decide)]
    exact ⟨g, rfl, h6, rfl, fun _ _ _ => rfl⟩
  | succ m ih =>
    intro q n g hq hn h5 h6
    obtain ⟨n, rfl⟩ : ∃ n', n = n' + 1 := ⟨n - 1, by omega⟩
    unfold f_X10_nextToken_120
    rw [r_here h (by omega) h5 h6, xc_e, r_isD, xc_e, tHe_lt (by omega)]
    unfold tRd tVr
    by_cases a1 : tb q < 48
    · rw [if_pos a1, if_pos a1, if_pos a1, if_pos rfl]
      exact ⟨g, rfl, h6, rfl, fun _ _ _ => rfl⟩
    · rw [if_neg a1, if_neg a1, if_neg a1]
      by_cases a2 : 57 < tb q
      · rw [if_pos a2, if_pos a2, if_pos a2, if_pos rfl]
        exact ⟨g, rfl, h6, rfl, fun _ _ _ => rfl⟩
      · rw [if_neg a2, if_neg a2, if_neg a2, if_neg (by decide)]
        have key : ∀ v : Int32, ∃ g', f_X10_nextToken_120 T n (rW S (va_up (va_up g 11 v) 6 (nI (q + 1))) j) 199 = some (rW S g' j) ∧ g' 6 = nI (tRd tb m (q + 1)) ∧ g' 11 = tVr tb m (q + 1) v ∧ ∀ k, k ≠ 6 → k ≠ 11 → g' k = g k := fun v => by
          obtain ⟨g', e1, e2, e3, e4⟩ := ih (q + 1) n (va_up (va_up g 11 v) 6 (nI (q + 1))) (by omega) (by omega) (by rw [up_ne (by decide), up_ne (by decide)]; exact h5) (xup_at _ _ _)
          refine ⟨g', e1, e2, ?_, fun k h2 h3 => ?_⟩
          · rw [e3, up_ne (by decide), xup_at]
          · rw [e4 k h2 h3, up_ne h2, up_ne h3]
        rw [rW_1]
        by_cases a3 : g 11 ≤ (1000000 : Int32)
        · rw [if_pos a3, if_pos a3, r_here h (by omega) h5 h6, xc_e, tHe_lt (by omega), xpi_e, rW_I, xpi_e, rW_I, rW_1, up_ne (by decide), h6, nI_1]
          exact key _
        · rw [if_neg a3, if_neg a3, xpi_e, rW_I, xpi_e, rW_I, rW_1, up_ne (by decide), h6, nI_1]
          exact key _
/-- the token behind q, as the reference has it -/
def rTk (tb : Nat → Int32) (L q : Nat) (g : Nat → Int32) (j : Nat → Int64) : Prop := g 5 = nI L ∧ g 6 = nI (tNx tb L q) ∧ g 7 = nI (tPl tb L q) ∧ g 8 = tTk tb L q ∧ (tKd tb L q = 1 → j 10 = tWd tb (L - tPl tb L q) (tPl tb L q) 0) ∧ (tKd tb L q = 2 → g 11 = tVr tb (L - tPl tb L q) (tPl tb L q) 0)
theorem L_rp {T : xT} {S : xS} {tb : Nat → Int32} {L : Nat} (h : rTb T S tb L) {p n : Nat} (hp : p ≤ L) (hs : p < L → tb p ≠ 32) {g : Nat → Int32} {j : Nat → Int64} (h5 : g 5 = nI L) (h6 : g 6 = nI p) : ∃ g' j', f_X10_nextToken_0 T (n + 1) (rW S g j) 199 = some (rW S g' j') ∧ g' 5 = nI L ∧ (∀ k, k ≠ 6 → k ≠ 7 → k ≠ 8 → k ≠ 11 → g' k = g k) ∧ (∀ k, k ≠ 10 → j' k = j k) ∧ g' 6 = nI (tNp tb L p) ∧ g' 7 = nI p ∧ g' 8 = (if tKp tb L p = 3 then tSg (tb p) else tKp tb L p) ∧ (tKp tb L p = 1 → j' 10 = tWd tb (L - p) p 0) ∧ (tKp tb L p = 2 → g' 11 = tVr tb (L - p) p 0) := by
  have hL := h.2.1
  have h5' : va_up g 7 (nI p) 5 = nI L := by rw [up_ne (by decide)]; exact h5
  have h6' : va_up g 7 (nI p) 6 = nI p := by rw [up_ne (by decide)]; exact h6
  unfold f_X10_nextToken_0
  rw [r_here h hp h5 h6, xc_e]
  rcases Nat.lt_or_ge p L with hpl | hpl
  · have hb := h.2.2 p hpl
    have kp : tKp tb L p = if tb p < 97 then (if tb p < 48 then 3 else if 57 < tb p then 3 else 2) else if 122 < tb p then (if tb p < 48 then 3 else if 57 < tb p then 3 else 2) else 1 := by
      unfold tKp; rw [if_neg (by omega)]
    have hm1 : tb p ≠ -1 := fun q => by
      have := hb.2.1
      rw [q] at this
      exact absurd this (by decide)
    rw [tHe_lt hpl, if_neg (hs hpl), xpi_e, rW_I, rW_1, h6, r_here h hp h5' h6', xc_e, xl_e, tHe_lt hpl, if_neg hm1, r_isL, xc_e]
    have keyD : tKp tb L p = (if tb p < 48 then 3 else if 57 < tb p then 3 else 2) → ∃ g' j', xc (f_X10_isFigure T (rW S (va_up g 7 (nI p)) j) (tb p)) (fun r10 S9 => if r10 = (0 : Int32) then if tb p = (59 : Int32) then xpi S9 199 8 (tb p) (fun S11 => xpi S11 199 6 (((S11.1 199 6) + (1 : Int32))) (fun S12 => some S12)) else if tb p = (43 : Int32) then xpi S9 199 8 (tb p) (fun S13 => xpi S13 199 6 (((S13.1 199 6) + (1 : Int32))) (fun S14 => some S14)) else if tb p = (45 : Int32) then xpi S9 199 8 (tb p) (fun S15 => xpi S15 199 6 (((S15.1 199 6) + (1 : Int32))) (fun S16 => some S16)) else if tb p = (42 : Int32) then xpi S9 199 8 (tb p) (fun S17 => xpi S17 199 6 (((S17.1 199 6) + (1 : Int32))) (fun S18 => some S18)) else if tb p = (47 : Int32) then xpi S9 199 8 (tb p) (fun S19 => xpi S19 199 6 (((S19.1 199 6) + (1 : Int32))) (fun S20 => some S20)) else if tb p = (60 : Int32) then xpi S9 199 8 (tb p) (fun S21 => xpi S21 199 6 (((S21.1 199 6) + (1 : Int32))) (fun S22 => some S22)) else if tb p = (62 : Int32) then xpi S9 199 8 (tb p) (fun S25 => xpi S25 199 6 (((S25.1 199 6) + (1 : Int32))) (fun S26 => some S26)) else xpi S9 199 8 ((3 : Int32)) (fun S23 => xpi S23 199 6 (((S23.1 199 6) + (1 : Int32))) (fun S24 => some S24)) else xpi S9 199 8 ((2 : Int32)) (fun S27 => xpi S27 199 11 ((0 : Int32)) (fun S28 => f_X10_nextToken_120 T xfu S28 199))) = some (rW S g' j') ∧ g' 5 = nI L ∧ (∀ k, k ≠ 6 → k ≠ 7 → k ≠ 8 → k ≠ 11 → g' k = g k) ∧ (∀ k, k ≠ 10 → j' k = j k) ∧ g' 6 = nI (tNp tb L p) ∧ g' 7 = nI p ∧ g' 8 = (if tKp tb L p = 3 then tSg (tb p) else tKp tb L p) ∧ (tKp tb L p = 1 → j' 10 = tWd tb (L - p) p 0) ∧ (tKp tb L p = 2 → g' 11 = tVr tb (L - p) p 0) := fun kq => by
      rw [r_isD, xc_e]
      have key3 : tKp tb L p = 3 → ∀ c, c = tSg (tb p) → ∃ g' j', xpi (rW S (va_up g 7 (nI p)) j) 199 8 c (fun S11 => xpi S11 199 6 (((S11.1 199 6) + (1 : Int32))) (fun S12 => some S12)) = some (rW S g' j') ∧ g' 5 = nI L ∧ (∀ k, k ≠ 6 → k ≠ 7 → k ≠ 8 → k ≠ 11 → g' k = g k) ∧ (∀ k, k ≠ 10 → j' k = j k) ∧ g' 6 = nI (tNp tb L p) ∧ g' 7 = nI p ∧ g' 8 = (if tKp tb L p = 3 then tSg (tb p) else tKp tb L p) ∧ (tKp tb L p = 1 → j' 10 = tWd tb (L - p) p 0) ∧ (tKp tb L p = 2 → g' 11 = tVr tb (L - p) p 0) := fun k3 c hc => by
        rw [xpi_e, rW_I, xpi_e, rW_I, rW_1, up_ne (show (6 : Nat) ≠ 8 by decide), h6', nI_1]
        have en : tNp tb L p = p + 1 := by
          unfold tNp
          rw [k3, if_neg (by decide), if_neg (by decide), if_neg (by decide)]
        refine ⟨_, j, rfl, ?_, ?_, fun _ _ => rfl, ?_, ?_, ?_, ?_, ?_⟩
        · rw [up_ne (by decide), up_ne (by decide)]; exact h5'
        · intro k q1 q2 q3 q4; rw [up_ne q1, up_ne q3, up_ne q2]
        · rw [xup_at, en]
        · rw [up_ne (by decide), up_ne (by decide), xup_at]
        · rw [up_ne (by decide), xup_at, if_pos k3, hc]
        · intro q; rw [k3] at q; exact absurd q (by decide)
        · intro q; rw [k3] at q; exact absurd q (by decide)
      have key3' : tKp tb L p = 3 → ∃ g' j', (if tb p = (59 : Int32) then xpi (rW S (va_up g 7 (nI p)) j) 199 8 (tb p) (fun S11 => xpi S11 199 6 (((S11.1 199 6) + (1 : Int32))) (fun S12 => some S12)) else if tb p = (43 : Int32) then xpi (rW S (va_up g 7 (nI p)) j) 199 8 (tb p) (fun S13 => xpi S13 199 6 (((S13.1 199 6) + (1 : Int32))) (fun S14 => some S14)) else if tb p = (45 : Int32) then xpi (rW S (va_up g 7 (nI p)) j) 199 8 (tb p) (fun S15 => xpi S15 199 6 (((S15.1 199 6) + (1 : Int32))) (fun S16 => some S16)) else if tb p = (42 : Int32) then xpi (rW S (va_up g 7 (nI p)) j) 199 8 (tb p) (fun S17 => xpi S17 199 6 (((S17.1 199 6) + (1 : Int32))) (fun S18 => some S18)) else if tb p = (47 : Int32) then xpi (rW S (va_up g 7 (nI p)) j) 199 8 (tb p) (fun S19 => xpi S19 199 6 (((S19.1 199 6) + (1 : Int32))) (fun S20 => some S20)) else if tb p = (60 : Int32) then xpi (rW S (va_up g 7 (nI p)) j) 199 8 (tb p) (fun S21 => xpi S21 199 6 (((S21.1 199 6) + (1 : Int32))) (fun S22 => some S22)) else if tb p = (62 : Int32) then xpi (rW S (va_up g 7 (nI p)) j) 199 8 (tb p) (fun S25 => xpi S25 199 6 (((S25.1 199 6) + (1 : Int32))) (fun S26 => some S26)) else xpi (rW S (va_up g 7 (nI p)) j) 199 8 ((3 : Int32)) (fun S23 => xpi S23 199 6 (((S23.1 199 6) + (1 : Int32))) (fun S24 => some S24))) = some (rW S g' j') ∧ g' 5 = nI L ∧ (∀ k, k ≠ 6 → k ≠ 7 → k ≠ 8 → k ≠ 11 → g' k = g k) ∧ (∀ k, k ≠ 10 → j' k = j k) ∧ g' 6 = nI (tNp tb L p) ∧ g' 7 = nI p ∧ g' 8 = (if tKp tb L p = 3 then tSg (tb p) else tKp tb L p) ∧ (tKp tb L p = 1 → j' 10 = tWd tb (L - p) p 0) ∧ (tKp tb L p = 2 → g' 11 = tVr tb (L - p) p 0) := fun k3 => by
        by_cases c1 : tb p = 59
        · rw [if_pos c1]; exact key3 k3 _ (by unfold tSg; rw [if_pos c1])
        rw [if_neg c1]
        by_cases c2 : tb p = 43
        · rw [if_pos c2]; exact key3 k3 _ (by unfold tSg; rw [if_neg c1, if_pos c2])
        rw [if_neg c2]
        by_cases c3 : tb p = 45
        · rw [if_pos c3]; exact key3 k3 _ (by unfold tSg; rw [if_neg c1, if_neg c2, if_pos c3])
        rw [if_neg c3]
        by_cases c4 : tb p = 42
        · rw [if_pos c4]; exact key3 k3 _ (by unfold tSg; rw [if_neg c1, if_neg c2, if_neg c3, if_pos c4])
        rw [if_neg c4]
        by_cases c5 : tb p = 47
        · rw [if_pos c5]; exact key3 k3 _ (by unfold tSg; rw [if_neg c1, if_neg c2, if_neg c3, if_neg c4, if_pos c5])
        rw [if_neg c5]
        by_cases c6 : tb p = 60
        · rw [if_pos c6]; exact key3 k3 _ (by unfold tSg; rw [if_neg c1, if_neg c2, if_neg c3, if_neg c4, if_neg c5, if_pos c6])
        rw [if_neg c6]
        by_cases c7 : tb p = 62
        · rw [if_pos c7]; exact key3 k3 _ (by unfold tSg; rw [if_neg c1, if_neg c2, if_neg c3, if_neg c4, if_neg c5, if_neg c6, if_pos c7])
        rw [if_neg c7]
        exact key3 k3 _ (by unfold tSg; rw [if_neg c1, if_neg c2, if_neg c3, if_neg c4, if_neg c5, if_neg c6, if_neg c7])
      by_cases a1 : tb p < 48
      · rw [if_pos a1] at kq
        rw [if_pos a1, if_pos rfl]
        exact key3' kq
      · rw [if_neg a1] at kq
        rw [if_neg a1]
        by_cases a2 : 57 < tb p
        · rw [if_pos a2] at kq
          rw [if_pos a2, if_pos rfl]
          exact key3' kq
        · rw [if_neg a2] at kq
          rw [if_neg a2, if_neg (by decide), xpi_e, rW_I, xpi_e, rW_I]
          obtain ⟨g', f1, f2, f3, f4⟩ := L_r120 h (j := j) (L - p) p xfu (va_up (va_up (va_up g 7 (nI p)) 8 2) 11 0) (by omega) (by show L - p < 1000; omega) (by rw [up_ne (by decide), up_ne (by decide)]; exact h5') (by rw [up_ne (by decide), up_ne (by decide)]; exact h6')
          have en : tNp tb L p = tRd tb (L - p) p := by
            unfold tNp
            rw [kq, if_neg (by decide), if_neg (by decide), if_pos rfl]
          refine ⟨g', j, f1, ?_, ?_, fun _ _ => rfl, ?_, ?_, ?_, ?_, ?_⟩
          · rw [f4 5 (by decide) (by decide), up_ne (by decide), up_ne (by decide)]; exact h5'
          · intro k q1 q2 q3 q4; rw [f4 k q1 q4, up_ne q4, up_ne q3, up_ne q2]
          · rw [f2, en]
          · rw [f4 7 (by decide) (by decide), up_ne (by decide), up_ne (by decide), xup_at]
          · rw [f4 8 (by decide) (by decide), up_ne (by decide), xup_at, kq, if_neg (by decide)]
          · intro q; rw [kq] at q; exact absurd q (by decide)
          · intro _; rw [f3, xup_at]
    by_cases a1 : tb p < 97
    · rw [if_pos a1] at kp
      rw [if_pos a1, if_pos rfl]
      exact keyD kp
    · rw [if_neg a1] at kp
      rw [if_neg a1]
      by_cases a2 : 122 < tb p
      · rw [if_pos a2] at kp
        rw [if_pos a2, if_pos rfl]
        exact keyD kp
      · rw [if_neg a2] at kp
        rw [if_neg a2, if_neg (by decide), xpi_e, rW_I, xpj_e, rW_J, L_r65 h (L - p) p xfu _ _ (by omega) (by show L - p < 1000; omega) (by rw [up_ne (by decide)]; exact h5') (by rw [up_ne (by decide)]; exact h6')]
        have en : tNp tb L p = tRl tb (L - p) p := by
          unfold tNp
          rw [kp, if_neg (by decide), if_pos rfl]
        refine ⟨_, _, rfl, ?_, ?_, ?_, ?_, ?_, ?_, ?_, ?_⟩
        · rw [up_ne (by decide), up_ne (by decide)]; exact h5'
        · intro k q1 q2 q3 q4; rw [up_ne q1, up_ne q3, up_ne q2]
        · intro k q1; rw [va_up_ne _ _ q1, va_up_ne _ _ q1]
        · rw [xup_at, en]
        · rw [up_ne (by decide), up_ne (by decide), xup_at]
        · rw [up_ne (by decide), xup_at, kp, if_neg (by decide)]
        · intro _; rw [xup_at, xup_at]
        · intro q; rw [kp] at q; exact absurd q (by decide)
  · have kp : tKp tb L p = 0 := by unfold tKp; rw [if_pos hpl]
    have en : tNp tb L p = p := by unfold tNp; rw [if_pos kp]
    rw [tHe_ge hpl, if_neg (by decide), xpi_e, rW_I, rW_1, h6, r_here h hp h5' h6', xc_e, xl_e, tHe_ge hpl, if_pos rfl, xpi_e, rW_I]
    refine ⟨_, j, rfl, ?_, ?_, fun _ _ => rfl, ?_, ?_, ?_, ?_, ?_⟩
    · rw [up_ne (by decide)]; exact h5'
    · intro k q1 q2 q3 q4; rw [up_ne q3, up_ne q2]
    · rw [up_ne (by decide), h6', en]
    · rw [up_ne (by decide), xup_at]
    · rw [xup_at, kp, if_neg (by decide)]
    · intro q; rw [kp] at q; exact absurd q (by decide)
    · intro q; rw [kp] at q; exact absurd q (by decide)
theorem L_r0 {T : xT} {S : xS} {tb : Nat → Int32} {L : Nat} (h : rTb T S tb L) {j : Nat → Int64} : ∀ (m q n : Nat) (g : Nat → Int32), q + m = L → m < n → g 5 = nI L → g 6 = nI q → ∃ n', f_X10_nextToken_0 T n (rW S g j) 199 = f_X10_nextToken_0 T (n' + 1) (rW S (va_up g 6 (nI (tSp tb m q))) j) 199 ∧ (tSp tb m q < L → tb (tSp tb m q) ≠ 32) := by
  have hL := h.2.1
  intro m
  induction m with
  | zero =>
    intro q n g hq hn h5 h6
    obtain ⟨n, rfl⟩ : ∃ n', n = n' + 1 := ⟨n - 1, by omega⟩
    refine ⟨n, ?_, fun q2 => ?_⟩
    · show _ = f_X10_nextToken_0 T (n + 1) (rW S (va_up g 6 (nI q)) j) 199
      rw [← h6, xup_self]
    · have q3 : q < L := q2
      omega
  | succ m ih =>
    intro q n g hq hn h5 h6
    obtain ⟨n, rfl⟩ : ∃ n', n = n' + 1 := ⟨n - 1, by omega⟩
    unfold tSp
    by_cases a1 : tb q = 32
    · rw [if_pos a1]
      obtain ⟨n', e1, e2⟩ := ih (q + 1) n (va_up g 6 (nI (q + 1))) (by omega) (by omega) (by rw [up_ne (by decide)]; exact h5) (xup_at _ _ _)
      rw [xup2] at e1
      refine ⟨n', ?_, e2⟩
      rw [← e1]
      conv => lhs; unfold f_X10_nextToken_0
      rw [r_here h (by omega) h5 h6, xc_e, tHe_lt (by omega), if_pos a1, xpi_e, rW_I, rW_1, h6, nI_1]
    · rw [if_neg a1]
      refine ⟨n, ?_, fun _ => a1⟩
      rw [← h6, xup_self]
theorem r_adv {T : xT} {S : xS} {tb : Nat → Int32} {L q : Nat} (h : rTb T S tb L) (hq : q ≤ L) {g : Nat → Int32} {j : Nat → Int64} (h5 : g 5 = nI L) (h6 : g 6 = nI q) : ∃ g' j', f_X10_nextToken T (rW S g j) 199 = some (rW S g' j') ∧ rTk tb L q g' j' ∧ (∀ k, k ≠ 6 → k ≠ 7 → k ≠ 8 → k ≠ 11 → g' k = g k) ∧ ∀ k, k ≠ 10 → j' k = j k := by
  have hL := h.2.1
  unfold f_X10_nextToken
  obtain ⟨n', e, hs⟩ := L_r0 h (j := j) (L - q) q xfu g (by omega) (by show L - q < 1000; omega) h5 h6
  rw [e]
  obtain ⟨g', j', f, f1, f2, f3, f4, f5, f6, f7, f8⟩ := L_rp h (n := n') (j := j) (tPl_r tb hq).2 hs (g := va_up g 6 (nI (tSp tb (L - q) q))) (by rw [up_ne (by decide)]; exact h5) (xup_at _ _ _)
  exact ⟨g', j', f, ⟨f1, f4, f5, f6, f7, f8⟩, fun k q1 q2 q3 q4 => by rw [f2 k q1 q2 q3 q4, up_ne q1], f3⟩
