/-! all specials: class; things and sums: reference -/
theorem pGv_q {tb : Nat → Int32} {L q k : Nat} {G : pGt} (hq : q ≤ L) (ok : (pGv tb L q k G).1 = true) : (pGv tb L q k G).2.1 ≤ L := by
  have q1 := (tNx_r tb hq).2.1
  have pq1 : (pG1 tb L q k G).2.1 ≤ L := pSu_q q1
  unfold pGv at ok ⊢
  by_cases a : tPn tb L q = -1
  · rw [if_pos a]; exact hq
  simp only [if_neg a] at ok ⊢
  generalize pG1 tb L q k G = P at *
  by_cases b : P.1 = false
  · simp only [if_pos b] at ok; cases ok
  simp only [if_neg b] at ok ⊢
  by_cases w : tIw tb L P.2.1 11 = true
  · simp only [if_pos w] at ok ⊢
    have pq2 : (pG2 tb L k P).2.1 ≤ L := pSu_q (tNx_r tb pq1).2.1
    generalize pG2 tb L k P = P2 at *
    by_cases b2' : P2.1 = false
    · simp only [if_pos b2'] at ok; cases ok
    simp only [if_neg b2'] at ok ⊢
    by_cases s : tSn tb L P2.2.1 = 60 ∨ tSn tb L P2.2.1 = 62
    · simp only [if_pos s] at ok ⊢
      have pq3 : (pG3 tb L k P2).2.1 ≤ L := pSu_q (tNx_r tb pq2).2.1
      generalize pG3 tb L k P2 = P3 at *
      by_cases b3 : P3.1 = false
      · simp only [if_pos b3] at ok; cases ok
      simp only [if_neg b3] at ok ⊢
      rw [pEn_t ok]
      exact (tNx_r tb pq3).2.1
    · simp only [if_neg s] at ok; cases ok
  · simp only [if_neg w] at ok ⊢
    rw [pEn_t ok]
    exact (tNx_r tb pq1).2.1
theorem L_cSp {T : xT} {S : xS} {tb : Nat → Int32} {L sa : Nat} (h : cTb T S tb L) (si : xSi T S.2.2 sa) : ∀ (m k n q : Nat) (G : pGt) (g : Nat → Int32), k + m = 8 → m < n → q ≤ L → cTk tb L q g → G.1.2.1 ≤ 40 → G.1.2.2.1 ≤ 2 * G.1.2.1 → G.1.1 0 1 = nI G.1.2.1 → G.1.1 0 0 = nI k → ((pSp tb L m k q G).1 = true → ∃ g', f_X4_readSpecials_6 T n (xw (spB S sa G.1.1) 1 g) sa 1 (nI k) = some (nI (pSp tb L m k q G).2.2.1, xw (spB S sa (pSp tb L m k q G).2.2.2.1.1) 1 g') ∧ g' 2 = g 2 ∧ (pSp tb L m k q G).2.2.2.1.2.1 ≤ 40 ∧ (pSp tb L m k q G).2.2.2.1.1 0 0 = nI (pSp tb L m k q G).2.2.1) ∧ ((pSp tb L m k q G).1 = false → ∃ g' X', f_X4_readSpecials_6 T n (xw (spB S sa G.1.1) 1 g) sa 1 (nI k) = some (-1, xw (spB S sa X') 1 g') ∧ g' 2 = nI (tPl tb L (pSp tb L m k q G).2.1)) := by
  have h1 : 1 < sa := by have := si.1; omega
  have fin : ∀ (k q : Nat) (G : pGt) (g : Nat → Int32), cTk tb L q g → G.1.2.1 ≤ 40 → G.1.1 0 0 = nI k → (decide (tKd tb L q = 0) = true → ∃ g', xc (f_X3_needEnd T (xw (spB S sa G.1.1) 1 g) 1) (fun r2 S1 => if r2 = (0 : Int32) then some ((-1 : Int32), S1) else some ((S1.1 sa 0), S1)) = some (nI k, xw (spB S sa G.1.1) 1 g') ∧ g' 2 = g 2 ∧ G.1.2.1 ≤ 40 ∧ G.1.1 0 0 = nI k) ∧ (decide (tKd tb L q = 0) = false → ∃ g' X', xc (f_X3_needEnd T (xw (spB S sa G.1.1) 1 g) 1) (fun r2 S1 => if r2 = (0 : Int32) then some ((-1 : Int32), S1) else some ((S1.1 sa 0), S1)) = some (-1, xw (spB S sa X') 1 g') ∧ g' 2 = nI (tPl tb L q)) := fun k q G g hg hn h0 => by
    obtain ⟨g1, e1, k1⟩ := c_spEnd (sa := sa) si hg h0
    refine ⟨fun z => ?_, fun z => ?_⟩
    · rw [e1, if_pos (of_decide_eq_true z)]
      exact ⟨g1, rfl, (c_af z k1).2, hn, h0⟩
    · rw [e1, if_neg (of_decide_eq_false z)]
      exact ⟨g1, _, rfl, c_aff z k1⟩
  intro m
  induction m with
  | zero =>
    intro k n q G g hk hn hq hg h40 h2 hX h0
    obtain ⟨n, rfl⟩ : ∃ n', n = n' + 1 := ⟨n - 1, by omega⟩
    obtain rfl : k = 8 := by omega
    unfold f_X4_readSpecials_6 pSp
    rw [if_pos x8_t]
    exact fin 8 q G g hg h40 h0
  | succ m ih =>
    intro k n q G g hk hn hq hg h40 h2 hX h0
    obtain ⟨n, rfl⟩ : ∃ n', n = n' + 1 := ⟨n - 1, by omega⟩
    unfold f_X4_readSpecials_6 pSp
    rw [if_neg (x8_f (by omega)), c_isWord (i := 3) (spB_h (X := G.1.1) si h) hq (by decide) hg, xc_e, if01]
    by_cases a : tIw tb L q 3 = true
    · simp only [if_pos a]
      obtain ⟨g1, e1, k1, z1⟩ := c_next (spB_h (X := G.1.1) si h) hq hg
      have q1 := (tNx_r tb hq).2.1
      rw [e1, xcv_e]
      obtain ⟨c1, c2⟩ := c_give (sa := sa) (k := k) (G := G) h si (by omega) q1 k1 h40 hX
      have gk := fun ok => pGv_ok (tb := tb) (k := k) (G := G) q1 h2 ok
      generalize pGv tb L (tNx tb L q) k G = R at *
      by_cases b : R.1 = true
      · simp only [if_pos b]
        obtain ⟨g2, f1, f2, f3, f4, f5, f6⟩ := c1 b
        have gok := gk b
        rw [f1, xc_e, if_neg (show ¬ (1 : Int32) = 0 by decide), xpi_e, sp_r0 h1, gok.2.2.2.1, h0, nI_1, spI0 h1, xl_e]
        have e0 : xSe R.2.2.1.1 0 0 (nI (k + 1)) 0 0 = nI (k + 1) := by rw [xSe_e, xup_at]
        have e1' : xSe R.2.2.1.1 0 0 (nI (k + 1)) 0 1 = nI R.2.2.1.2.1 := by rw [xSe_e, up_ne (by decide)]; exact f6
        obtain ⟨i1, i2⟩ := ih (k + 1) n R.2.1 ((xSe R.2.2.1.1 0 0 (nI (k + 1)), R.2.2.1.2), R.2.2.2) g2 (by omega) (by omega) f4 f2 f5 gok.2.1 e1' e0
        refine ⟨fun z => ?_, fun z => i2 z⟩
        obtain ⟨g3, u1, u2, u3⟩ := i1 z
        exact ⟨g3, u1, u2.trans (f3.trans z1), u3⟩
      · simp only [if_neg b]
        refine ⟨fun z => (by cases z), fun _ => ?_⟩
        obtain ⟨g2, X2, f1, f2⟩ := c2 (bool_f b)
        rw [f1, xc_e, if_pos rfl]
        exact ⟨g2, X2, rfl, f2⟩
    · simp only [if_neg a]
      exact fin k q G g hg h40 h0
theorem c_readSpecials {T : xT} {S : xS} {tb : Nat → Int32} {L sa : Nat} {X : Nat → Nat → Int32} {C N g : Nat → Int32} (h : cTb T S tb L) (si : xSi T S.2.2 sa) (h1 : g 1 = nI L) (hX : X 0 1 = 0) (h0 : X 0 0 = 0) : ((pSp tb L 8 0 0 ((X, 0, 0, C), N)).1 = true → ∃ g', f_X4_readSpecials T (xw (spB S sa X) 1 g) sa 1 = some (nI (pSp tb L 8 0 0 ((X, 0, 0, C), N)).2.2.1, xw (spB S sa (pSp tb L 8 0 0 ((X, 0, 0, C), N)).2.2.2.1.1) 1 g') ∧ g' 2 = -1 ∧ (pSp tb L 8 0 0 ((X, 0, 0, C), N)).2.2.2.1.2.1 ≤ 40 ∧ (pSp tb L 8 0 0 ((X, 0, 0, C), N)).2.2.2.1.1 0 0 = nI (pSp tb L 8 0 0 ((X, 0, 0, C), N)).2.2.1) ∧ ((pSp tb L 8 0 0 ((X, 0, 0, C), N)).1 = false → ∃ g' X', f_X4_readSpecials T (xw (spB S sa X) 1 g) sa 1 = some (-1, xw (spB S sa X') 1 g') ∧ g' 2 = nI (tPl tb L (pSp tb L 8 0 0 ((X, 0, 0, C), N)).2.1)) := by
  unfold f_X4_readSpecials
  obtain ⟨g1, e1, k1, z1⟩ := c_start (spB_h (X := X) si h) h1
  rw [e1, xcv_e, xl_e]
  obtain ⟨i1, i2⟩ := L_cSp (sa := sa) h si 8 0 xfu 0 ((X, 0, 0, C), N) g1 rfl (by decide) (by omega) k1 (by show 0 ≤ 40; omega) (by show 0 ≤ 2 * 0; omega) hX h0
  refine ⟨fun z => ?_, fun z => i2 z⟩
  obtain ⟨g2, u1, u2, u3⟩ := i1 z
  exact ⟨g2, u1, u2.trans z1, u3⟩
/-! reference -/
def rB (S : xS) (N C : Nat → Int32) : xS := xw (xw S 209 N) 210 C
theorem rB_h {T : xT} {S : xS} {tb : Nat → Int32} {L : Nat} {N C : Nat → Int32} (h : rTb T S tb L) : rTb T (rB S N C) tb L := rTb_w (by decide) (rTb_w (by decide) h)
def sFr (g g' : Nat → Int32) : Prop := ∀ x, x < 5 ∨ (12 < x ∧ x ≠ 23 ∧ x ≠ 24) → g' x = g x
theorem sFr.tr {g g1 g2 : Nat → Int32} (h1 : sFr g g1) (h2 : sFr g1 g2) : sFr g g2 := fun x hx => (h2 x hx).trans (h1 x hx)
theorem r_does {T : xT} {S : xS} {N C g : Nat → Int32} {j : Nat → Int64} {nc : Nat} {v : Int32} (tp : xTp T S.2.2) (h23 : g 23 = nI nc) (hn : nc < 100) : f_X10_does T (rW (rB S N C) g j) 199 v = some (rW (rB S N (va_up C nc v)) (va_up g 23 (nI (nc + 1))) j) := by
  have hl : T.2.1 210 = 100 := xTp_n tp 100 (by decide) rfl
  unfold f_X10_does
  rw [rr_199_21 (S := rW (rB S N C) g j) tp, rW_1, h23, xst_n hl hn (by decide), rW_c (by decide), xpi_e, rW_1, h23, nI_1, rW_I]
  unfold rB
  rw [xI_xw]
def tNa (tb : Nat → Int32) (L q : Nat) : Int32 := if tIw tb L q 4 = true then 0 else if tIw tb L q 5 = true then 1 else if tIw tb L q 6 = true then 2 else if tIw tb L q 7 = true then 3 else if tIw tb L q 8 = true then 4 else if tIw tb L q 9 = true then 10 else if tIw tb L q 10 = true then 20 else -1
theorem tIw_k {tb : Nat → Int32} {L q i : Nat} (h : tKd tb L q ≠ 1) : tIw tb L q i = false := by unfold tIw; rw [if_neg h]
theorem tNa_r (tb : Nat → Int32) (L q : Nat) : (tKd tb L q = 2 ∧ tNa tb L q = -1 ∧ tTh tb L q = 0) ∨ (tKd tb L q ≠ 2 ∧ ((tNa tb L q = -1 ∧ tTh tb L q = -1) ∨ (tNa tb L q = 0 ∧ tTh tb L q = 1) ∨ (tNa tb L q = 1 ∧ tTh tb L q = 2) ∨ (tNa tb L q = 2 ∧ tTh tb L q = 3) ∨ (tNa tb L q = 3 ∧ tTh tb L q = 4) ∨ (tNa tb L q = 4 ∧ tTh tb L q = 5) ∨ (tNa tb L q = 10 ∧ tTh tb L q = 6) ∨ (tNa tb L q = 20 ∧ tTh tb L q = 7))) := by
  by_cases a : tKd tb L q = 2
  · left
    have n1 : tKd tb L q ≠ 1 := by rw [a]; decide
    unfold tNa tTh
    rw [tIw_k n1, tIw_k n1, tIw_k n1, tIw_k n1, tIw_k n1, tIw_k n1, tIw_k n1, if_pos a]
    exact ⟨a, rfl, rfl⟩
  · right
    refine ⟨a, ?_⟩
    unfold tNa tTh
    rw [if_neg a]
    generalize tIw tb L q 4 = b0
    generalize tIw tb L q 5 = b1
    generalize tIw tb L q 6 = b2
    generalize tIw tb L q 7 = b3
    generalize tIw tb L q 8 = b4
    generalize tIw tb L q 9 = b5
    generalize tIw tb L q 10 = b6
    revert b0 b1 b2 b3 b4 b5 b6
    decide
theorem wd_4 (T : xT) (S : xS) : f_X10_w6 T S 114 101 115 117 108 116 = some (tLt 4, S) := by
  unfold f_X10_w6 f_X10_w5 f_X10_w4 f_X10_w3
  simp only [r_lett, xc_e]
  exact congrArg (fun w => some (w, S)) (by decide +kernel)
theorem wd_5 (T : xT) (S : xS) : f_X10_w4 T S 99 97 115 104 = some (tLt 5, S) := by
  unfold f_X10_w4 f_X10_w3
  simp only [r_lett, xc_e]
  exact congrArg (fun w => some (w, S)) (by decide +kernel)
theorem wd_6 (T : xT) (S : xS) : f_X10_w4 T S 104 101 108 100 = some (tLt 6, S) := by
  unfold f_X10_w4 f_X10_w3
  simp only [r_lett, xc_e]
  exact congrArg (fun w => some (w, S)) (by decide +kernel)
theorem wd_7 (T : xT) (S : xS) : f_X10_w4 T S 121 101 97 114 = some (tLt 7, S) := by
  unfold f_X10_w4 f_X10_w3
  simp only [r_lett, xc_e]
  exact congrArg (fun w => some (w, S)) (by decide +kernel)
theorem wd_8 (T : xT) (S : xS) : f_X10_w3 T S 110 101 116 = some (tLt 8, S) := by
  unfold f_X10_w3
  simp only [r_lett, xc_e]
  exact congrArg (fun w => some (w, S)) (by decide +kernel)
theorem wd_9 (T : xT) (S : xS) {α : Type} (K : Int64 → xS → Option α) : xc (f_X10_w6 T S 99 97 112 105 116 97) (fun r S1 => xc (f_X10_letter T S1 r 108) K) = K (tLt 9) S := by
  unfold f_X10_w6 f_X10_w5 f_X10_w4 f_X10_w3
  simp only [r_lett, xc_e]
  exact congrArg (fun w => K w S) (by decide +kernel)
theorem wd_10 (T : xT) (S : xS) : f_X10_w5 T S 115 104 97 114 101 = some (tLt 10, S) := by
  unfold f_X10_w5 f_X10_w4 f_X10_w3
  simp only [r_lett, xc_e]
  exact congrArg (fun w => some (w, S)) (by decide +kernel)
theorem wd_3 (T : xT) (S : xS) : f_X10_w4 T S 103 105 118 101 = some (tLt 3, S) := by
  unfold f_X10_w4 f_X10_w3
  simp only [r_lett, xc_e]
  exact congrArg (fun w => some (w, S)) (by decide +kernel)
theorem wd_11 (T : xT) (S : xS) : f_X10_w4 T S 119 104 101 110 = some (tLt 11, S) := by
  unfold f_X10_w4 f_X10_w3
  simp only [r_lett, xc_e]
  exact congrArg (fun w => some (w, S)) (by decide +kernel)
theorem r_nameHere {T : xT} {S : xS} {tb : Nat → Int32} {L q : Nat} (hq : q ≤ L) {g : Nat → Int32} {j : Nat → Int64} (hg : rTk tb L q g j) : f_X10_nameHere T (rW S g j) 199 = some (tNa tb L q, rW S g j) := by
  unfold f_X10_nameHere tNa
  rw [wd_4, xc_e, r_isWord (i := 4) hq (by decide) hg rfl, xc_e, if01, wd_5, xc_e, r_isWord (i := 5) hq (by decide) hg rfl, xc_e, if01, wd_6, xc_e, r_isWord (i := 6) hq (by decide) hg rfl, xc_e, if01, wd_7, xc_e, r_isWord (i := 7) hq (by decide) hg rfl, xc_e, if01, wd_8, xc_e, r_isWord (i := 8) hq (by decide) hg rfl, xc_e, if01, wd_9, r_isWord (i := 9) hq (by decide) hg rfl, xc_e, if01, wd_10, xc_e, r_isWord (i := 10) hq (by decide) hg rfl, xc_e, if01]
  generalize tIw tb L q 4 = b0
  generalize tIw tb L q 5 = b1
  generalize tIw tb L q 6 = b2
  generalize tIw tb L q 7 = b3
  generalize tIw tb L q 8 = b4
  generalize tIw tb L q 9 = b5
  generalize tIw tb L q 10 = b6
  cases b0 <;> try rfl
  cases b1 <;> try rfl
  cases b2 <;> try rfl
  cases b3 <;> try rfl
  cases b4 <;> try rfl
  cases b5 <;> try rfl
  cases b6 <;> rfl
/-- where the reference stands in a sum -/
def rAt (tb : Nat → Int32) (L q nt nc : Nat) (g : Nat → Int32) (j : Nat → Int64) : Prop := rTk tb L q g j ∧ g 24 = nI nt ∧ g 23 = nI nc
theorem r_thing {T : xT} {S : xS} {tb : Nat → Int32} {L q nt nc : Nat} {N C g : Nat → Int32} {j : Nat → Int64} (h : rTb T S tb L) (hq : q ≤ L) (hn : nt ≤ 40) (hc : nc < 100) (ha : rAt tb L q nt nc g j) : ((pTk tb L q nt).1 = true → ∃ g' j', f_X10_readThing T (rW (rB S N C) g j) 199 = some (1, rW (rB S N (va_up C nc (encv (pTk tb L q nt).2.2.1 (pTk tb L q nt).2.2.2))) g' j') ∧ rAt tb L (pTk tb L q nt).2.1 (nt + 1) (nc + 1) g' j' ∧ g' 9 = g 9 ∧ sFr g g') ∧ ((pTk tb L q nt).1 = false → ∃ g' j', f_X10_readThing T (rW (rB S N C) g j) 199 = some (0, rW (rB S N C) g' j') ∧ g' 9 = nI (tPl tb L (pTk tb L q nt).2.1) ∧ sFr g g') := by
  obtain ⟨hg, h24, h23⟩ := ha
  have h' : rTb T (rB S N C) tb L := rB_h h
  have q1 := (tNx_r tb hq).2.1
  have fail : ∀ (P : Bool × Nat × Int32 × Int32), P.1 = false → P.2.1 = q → (P.1 = true → ∃ g' j', xc (f_X10_fails T (rW (rB S N C) g j) 199) (fun r5 S4 => xgd (xnz r5) (some (r5, S4))) = some (1, rW (rB S N (va_up C nc (encv P.2.2.1 P.2.2.2))) g' j') ∧ rAt tb L P.2.1 (nt + 1) (nc + 1) g' j' ∧ g' 9 = g 9 ∧ sFr g g') ∧ (P.1 = false → ∃ g' j', xc (f_X10_fails T (rW (rB S N C) g j) 199) (fun r5 S4 => xgd (xnz r5) (some (r5, S4))) = some (0, rW (rB S N C) g' j') ∧ g' 9 = nI (tPl tb L P.2.1) ∧ sFr g g') := fun P p1 p2 => by
    refine ⟨fun z => (by rw [p1] at z; cases z), fun _ => ?_⟩
    rw [r_fails hg, xc_e, xgd_h (by decide), p2]
    exact ⟨_, j, rfl, xup_at _ _ _, fun x hx => up_ne (by omega)⟩
  unfold f_X10_readThing
  rw [r_nameHere hq hg, xc_e, xl_e, rW_1, hg.2.2.2.1]
  have h27 : ∀ na, f_X10_readThing_27 T (rW (rB S N C) g j) 199 na = if 40 ≤ nt then xc (f_X10_fails T (rW (rB S N C) g j) 199) (fun r10 S9 => xgd (xnz r10) (some (r10, S9))) else (if na = (-1 : Int32) then xcv (f_X10_does T (rW (rB S N C) (va_up g 24 (nI (nt + 1))) j) 199 (g 11)) (fun S7 => xcv (f_X10_nextToken T S7 199) (fun S8 => some ((1 : Int32), S8))) else xcv (f_X10_nextToken T (rW (rB S N C) (va_up g 24 (nI (nt + 1))) j) 199) (fun S2 => if (10 : Int32) ≤ na then xc (f_X10_takesPartner T S2 199) (fun r4 S3 => if r4 = (0 : Int32) then some ((0 : Int32), S3) else xcv (f_X10_does T S3 199 ((((2000000 : Int32) + na) + (S3.1 199 12)))) (fun S5 => some ((1 : Int32), S5))) else xcv (f_X10_does T S2 199 (((2000000 : Int32) + na))) (fun S6 => some ((1 : Int32), S6)))) := fun na => by
    unfold f_X10_readThing_27
    rw [rW_1, h24]
    by_cases b : 40 ≤ nt
    · have : nt = 40 := by omega
      rw [if_pos b, if_pos (show nI nt = (40 : Int32) by rw [this]; rfl)]
    · rw [if_neg b, if_neg (show ¬ nI nt = (40 : Int32) from fun z => by have := (nI_eq (a := nt) (b := 40) (by omega) (by omega)).mp z; omega), xpi_e, rW_I, nI_1, rW_1, up_ne (by decide)]
  have hg2 : rTk tb L q (va_up g 24 (nI (nt + 1))) j := rTk_up (by omega) hg
  have x23 : va_up g 24 (nI (nt + 1)) 23 = nI nc := by rw [up_ne (by decide)]; exact h23
  rcases tNa_r tb L q with ⟨t0, t1, t2⟩ | ⟨t0, tt⟩
  · -- a number
    rw [t1, if_pos rfl, if_pos ((tTk_n (Or.inr (Or.inr rfl)) tb L q).mpr t0)]
    have e11 : g 11 = tWl tb L q := hg.2.2.2.2.2 t0
    have hn2 := tVl_r tb L q
    rw [e11]
    unfold pTk
    simp only [if_neg (show ¬ tTh tb L q = -1 by rw [t2]; decide), if_pos t2]
    have e9 : (999999 : Int32).toInt = 999999 := by decide
    by_cases d : tNm tb L q 0 999999 = -1
    · have big : (999999 : Int32) < tWl tb L q := by
        unfold tNm at d
        rw [if_pos t0] at d
        rw [xlt, e9]
        rcases hn2 with ⟨v1, v2, v3⟩ | ⟨v1, v2, v3⟩
        · by_cases c : tVl tb L q < 0
          · rw [xlt0] at c; omega
          · rw [if_neg c] at d
            by_cases c2 : tVl tb L q ≤ 999999
            · rw [if_pos c2] at d
              rw [d, show (-1 : Int32).toInt = -1 from by decide] at v2
              omega
            · rw [xle, e9] at c2
              rw [← v1]; omega
        · omega
      rw [if_pos big]
      simp only [if_pos d]
      by_cases b : 40 ≤ nt
      · simp only [if_pos b]; exact ⟨fun z => (by cases z), fun _ => (fail (false, q, 0, 0) rfl rfl).2 rfl⟩
      · simp only [if_neg b]; exact ⟨fun z => (by cases z), fun _ => (fail (false, q, 0, 0) rfl rfl).2 rfl⟩
    · obtain ⟨v1, v2, v3, v4⟩ := tNm_r d
      have v4 : (tNm tb L q 0 999999).toInt ≤ 999999 := v4
      have ev : tWl tb L q = tNm tb L q 0 999999 := by
        rw [v1] at v4 ⊢
        rcases hn2 with ⟨w1, w2, w3⟩ | ⟨w1, w2, w3⟩
        · exact w1.symm
        · omega
      rw [if_neg (show ¬ (999999 : Int32) < tWl tb L q by rw [xlt, ev, e9]; omega), h27, e11, ev]
      simp only [if_neg d]
      by_cases b : 40 ≤ nt
      · simp only [if_pos b]; exact ⟨fun z => (by cases z), fun _ => (fail (false, q, 0, 0) rfl rfl).2 rfl⟩
      · simp only [if_neg b]
        refine ⟨fun _ => ?_, fun z => (by cases z)⟩
        rw [if_pos trivial, r_does h.1 x23 hc, xcv_e]
        have hg3 : rTk tb L q (va_up (va_up g 24 (nI (nt + 1))) 23 (nI (nc + 1))) j := rTk_up (by omega) hg2
        obtain ⟨g2, j2, f2, k2, z2⟩ := r_next (rB_h (N := N) (C := va_up C nc (tNm tb L q 0 999999)) h) hq hg3
        rw [f2, xcv_e, encv_0]
        refine ⟨g2, j2, rfl, ⟨k2, ?_, ?_⟩, ?_, fun x hx => ?_⟩
        · rw [z2 24 (by decide) (by decide) (by decide) (by decide), up_ne (by decide), xup_at]
        · rw [z2 23 (by decide) (by decide) (by decide) (by decide), xup_at]
        · rw [z2 9 (by decide) (by decide) (by decide) (by decide), up_ne (by decide), up_ne (by decide)]
        · rw [z2 x (by omega) (by omega) (by omega) (by omega), up_ne (by omega), up_ne (by omega)]
  · have simple : ∀ (na kd : Int32), tNa tb L q = na → tTh tb L q = kd → na ≠ -1 → ¬ (10 : Int32) ≤ na → kd ≠ -1 → kd ≠ 0 → kd ≠ 6 → kd ≠ 7 → (2000000 : Int32) + na = encv kd 0 → ((pTk tb L q nt).1 = true → ∃ g' j', f_X10_readThing_27 T (rW (rB S N C) g j) 199 na = some (1, rW (rB S N (va_up C nc (encv (pTk tb L q nt).2.2.1 (pTk tb L q nt).2.2.2))) g' j') ∧ rAt tb L (pTk tb L q nt).2.1 (nt + 1) (nc + 1) g' j' ∧ g' 9 = g 9 ∧ sFr g g') ∧ ((pTk tb L q nt).1 = false → ∃ g' j', f_X10_readThing_27 T (rW (rB S N C) g j) 199 na = some (0, rW (rB S N C) g' j') ∧ g' 9 = nI (tPl tb L (pTk tb L q nt).2.1) ∧ sFr g g') := fun na kd e1 e2 n1 n2 n3 n4 n5 n6 n7 => by
      rw [h27]
      unfold pTk
      rw [e2]
      simp only [if_neg n3, if_neg n4, if_neg (show ¬ (kd = 6 ∨ kd = 7) from fun z => z.elim n5 n6)]
      by_cases b : 40 ≤ nt
      · simp only [if_pos b]; exact ⟨fun z => (by cases z), fun _ => (fail (false, q, 0, 0) rfl rfl).2 rfl⟩
      · simp only [if_neg b]
        refine ⟨fun _ => ?_, fun z => (by cases z)⟩
        rw [if_neg n1]
        obtain ⟨g2, j2, f2, k2, z2⟩ := r_next h' hq hg2
        rw [f2, xcv_e, if_neg n2, r_does h.1 (nc := nc) (by rw [z2 23 (by decide) (by decide) (by decide) (by decide)]; exact x23) hc, xcv_e, n7]
        refine ⟨_, j2, rfl, ⟨rTk_up (by omega) k2, ?_, xup_at _ _ _⟩, ?_, fun x hx => ?_⟩
        · rw [up_ne (by decide), z2 24 (by decide) (by decide) (by decide) (by decide), xup_at]
        · rw [up_ne (by decide), z2 9 (by decide) (by decide) (by decide) (by decide), up_ne (by decide)]
        · rw [up_ne (by omega), z2 x (by omega) (by omega) (by omega) (by omega), up_ne (by omega)]
    have withP : ∀ (na kd : Int32), tNa tb L q = na → tTh tb L q = kd → na ≠ -1 → (10 : Int32) ≤ na → kd ≠ -1 → kd ≠ 0 → (kd = 6 ∨ kd = 7) → (∀ v, ((2000000 : Int32) + na) + v = encv kd v) → ((pTk tb L q nt).1 = true → ∃ g' j', f_X10_readThing_27 T (rW (rB S N C) g j) 199 na = some (1, rW (rB S N (va_up C nc (encv (pTk tb L q nt).2.2.1 (pTk tb L q nt).2.2.2))) g' j') ∧ rAt tb L (pTk tb L q nt).2.1 (nt + 1) (nc + 1) g' j' ∧ g' 9 = g 9 ∧ sFr g g') ∧ ((pTk tb L q nt).1 = false → ∃ g' j', f_X10_readThing_27 T (rW (rB S N C) g j) 199 na = some (0, rW (rB S N C) g' j') ∧ g' 9 = nI (tPl tb L (pTk tb L q nt).2.1) ∧ sFr g g') := fun na kd e1 e2 n1 n2 n3 n4 n5 n7 => by
      rw [h27]
      unfold pTk
      rw [e2]
      simp only [if_neg n3, if_neg n4, if_pos n5]
      by_cases b : 40 ≤ nt
      · simp only [if_pos b]; exact ⟨fun z => (by cases z), fun _ => (fail (false, q, 0, 0) rfl rfl).2 rfl⟩
      · simp only [if_neg b]
        rw [if_neg n1]
        obtain ⟨g2, j2, f2, k2, z2⟩ := r_next h' hq hg2
        obtain ⟨g3, j3, f3, k3, t3⟩ := r_takesPartner h' q1 k2
        rw [f2, xcv_e, if_pos n2, f3, xc_e]
        have fr3 : sFr g g3 := fun x hx => by rw [k3.2 x (by omega), z2 x (by omega) (by omega) (by omega) (by omega), up_ne (by omega)]
        by_cases d : tPn tb L (tNx tb L q) = -1
        · rw [show (if tPn tb L (tNx tb L q) ≠ -1 then (1 : Int32) else 0) = 0 from if_neg (fun z => z d), if_pos rfl]
          simp only [if_pos d]
          refine ⟨fun z => (by cases z), fun _ => ?_⟩
          rw [decide_eq_false (fun z => z d), if_neg (fun z => z d)] at k3
          exact ⟨g3, j3, rfl, r_afF rfl k3, fr3⟩
        · rw [show (if tPn tb L (tNx tb L q) ≠ -1 then (1 : Int32) else 0) = 1 from if_pos d, if_neg (show ¬ (1 : Int32) = 0 by decide)]
          simp only [if_neg d]
          refine ⟨fun _ => ?_, fun z => (by cases z)⟩
          rw [show (decide (tPn tb L (tNx tb L q) ≠ -1)) = true from decide_eq_true d, if_pos d] at k3
          obtain ⟨k3', z3⟩ := r_afT rfl k3
          rw [rW_1, t3, n7, r_does h.1 (nc := nc) (by rw [k3.2 23 (by decide), z2 23 (by decide) (by decide) (by decide) (by decide)]; exact x23) hc, xcv_e]
          refine ⟨_, j3, rfl, ⟨rTk_up (by omega) k3', ?_, xup_at _ _ _⟩, ?_, fun x hx => ?_⟩
          · rw [up_ne (by decide), k3.2 24 (by decide), z2 24 (by decide) (by decide) (by decide) (by decide), xup_at]
          · rw [up_ne (by decide), z3, z2 9 (by decide) (by decide) (by decide) (by decide), up_ne (by decide)]
          · rw [up_ne (by omega)]; exact fr3 x hx
    rcases tt with ⟨t1, t2⟩ | ⟨t1, t2⟩ | ⟨t1, t2⟩ | ⟨t1, t2⟩ | ⟨t1, t2⟩ | ⟨t1, t2⟩ | ⟨t1, t2⟩ | ⟨t1, t2⟩
    · rw [t1, if_pos rfl, if_neg (fun z => t0 ((tTk_n (Or.inr (Or.inr rfl)) tb L q).mp z))]
      have P : pTk tb L q nt = (false, q, 0, 0) := by unfold pTk; rw [if_pos t2]
      rw [P]
      exact fail (false, q, 0, 0) rfl rfl
    · rw [t1, if_neg (by decide)]; exact simple 0 1 t1 t2 (by decide) (by decide) (by decide) (by decide) (by decide) (by decide) (by rw [encv_1]; rfl)
    · rw [t1, if_neg (by decide)]; exact simple 1 2 t1 t2 (by decide) (by decide) (by decide) (by decide) (by decide) (by decide) (by rw [encv_2]; rfl)
    · rw [t1, if_neg (by decide)]; exact simple 2 3 t1 t2 (by decide) (by decide) (by decide) (by decide) (by decide) (by decide) (by rw [encv_3]; rfl)
    · rw [t1, if_neg (by decide)]; exact simple 3 4 t1 t2 (by decide) (by decide) (by decide) (by decide) (by decide) (by decide) (by rw [encv_4]; rfl)
    · rw [t1, if_neg (by decide)]; exact simple 4 5 t1 t2 (by decide) (by decide) (by decide) (by decide) (by decide) (by decide) (by rw [encv_5]; rfl)
    · rw [t1, if_neg (by decide)]; exact withP 10 6 t1 t2 (by decide) (by decide) (by decide) (by decide) (Or.inl rfl) (fun v => by rw [encv_6]; rfl)
    · rw [t1, if_neg (by decide)]; exact withP 20 7 t1 t2 (by decide) (by decide) (by decide) (by decide) (Or.inr rfl) (fun v => by rw [encv_7]; rfl)
