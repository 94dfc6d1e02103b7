/-! the text of acts: reference -/
def pFi (tb : Nat → Int32) (L q : Nat) : Bool × Nat := if tKd tb L q = 3 ∧ tb (tPl tb L q) = 59 then (true, tNx tb L q) else (false, q)
/-- what stays of the reference's fields while acts are read -/
def aFr (g g' : Nat → Int32) : Prop := ∀ x, x < 5 ∨ (12 < x ∧ x ≠ 29) → g' x = g x
theorem aFr.tr {g g1 g2 : Nat → Int32} (h1 : aFr g g1) (h2 : aFr g1 g2) : aFr g g2 := fun x hx => (h2 x hx).trans (h1 x hx)
theorem rTk_up {tb : Nat → Int32} {L q k : Nat} {g : Nat → Int32} {j : Nat → Int64} {v : Int32} (hk : k = 12 ∨ 12 < k) (h : rTk tb L q g j) : rTk tb L q (va_up g k v) j := by
  obtain ⟨b5, b6, b7, b8, b10, b11⟩ := h
  exact ⟨by rw [up_ne (by omega)]; exact b5, by rw [up_ne (by omega)]; exact b6, by rw [up_ne (by omega)]; exact b7, by rw [up_ne (by omega)]; exact b8, b10, fun z => by rw [up_ne (by omega)]; exact b11 z⟩
theorem r_127 {T : xT} {S : xS} {tb : Nat → Int32} {L q k : Nat} {g : Nat → Int32} {j : Nat → Int64} (h : rTb T S tb L) (hq : q ≤ L) (hg : rTk tb L q g j) (h29 : g 29 = nI k) : ∃ g' j', f_X10_readAct_127 T (rW S g j) 199 = some (b2 (pFi tb L q).1, rW S g' j') ∧ aFr g g' ∧ ((pFi tb L q).1 = true → rTk tb L (pFi tb L q).2 g' j' ∧ g' 9 = g 9 ∧ g' 29 = nI (k + 1)) ∧ ((pFi tb L q).1 = false → g' 9 = nI (tPl tb L (pFi tb L q).2)) := by
  unfold f_X10_readAct_127 pFi
  rw [xpi_e, rW_I, rW_1, h29, nI_1]
  obtain ⟨g1, j1, f1, k1⟩ := r_takes h hq (rTk_up (k := 29) (v := nI (k + 1)) (by omega) hg) (c := 59) (Or.inl rfl)
  rw [f1, xc_e]
  have fr : aFr g g1 := fun x hx => by rw [k1.2 x (by omega), up_ne (by omega)]
  by_cases s : tKd tb L q = 3 ∧ tb (tPl tb L q) = 59
  · rw [if_pos s, xgd_h (by decide)]
    simp only [if_pos s]
    rw [decide_eq_true s, if_pos s] at k1
    obtain ⟨k1', z1⟩ := r_afT rfl k1
    exact ⟨g1, j1, rfl, fr, fun _ => ⟨k1', by rw [z1, up_ne (by decide)], by rw [k1.2 29 (by decide), xup_at]⟩, fun z => (by cases z)⟩
  · rw [if_neg s, xgd_h (by decide)]
    simp only [if_neg s]
    rw [decide_eq_false s, if_neg s] at k1
    exact ⟨g1, j1, rfl, fr, fun z => (by cases z), fun _ => r_afF rfl k1⟩
theorem r_106 {T : xT} {S : xS} {tb : Nat → Int32} {L q k : Nat} {B g : Nat → Int32} {j : Nat → Int64} {le : Int32} (h : rTb T S tb L) (hk : k < 30) (hq : q ≤ L) (hg : rTk tb L q g j) (h29 : g 29 = nI k) : ∃ g' j' B', f_X10_readAct_106 T (rW (xw S 212 B) g j) 199 (nI (3 * k)) le = some (b2 (pFi tb L q).1, rW (xw S 212 B') g' j') ∧ aFr g g' ∧ (∀ x, x ≠ 3 * k + 2 → B' x = B x) ∧ B' (3 * k + 2) = (if le = 0 then B (3 * k + 2) else -(B (3 * k + 2))) ∧ ((pFi tb L q).1 = true → rTk tb L (pFi tb L q).2 g' j' ∧ g' 9 = g 9 ∧ g' 29 = nI (k + 1)) ∧ ((pFi tb L q).1 = false → g' 9 = nI (tPl tb L (pFi tb L q).2)) := by
  have h' : ∀ w, rTb T (xw S 212 w) tb L := fun w => rTb_w (by decide) h
  have hl : T.2.1 212 = 90 := xTp_n h.1 90 (by decide) rfl
  have e2 : nI (3 * k) + (2 : Int32) = nI (3 * k + 2) := nI_add (3 * k) 2
  unfold f_X10_readAct_106
  by_cases a : le = 0
  · rw [if_pos a]
    obtain ⟨g1, j1, f1, f2, f3, f4⟩ := r_127 (h' B) hq hg h29
    exact ⟨g1, j1, B, f1, f2, fun _ _ => rfl, by rw [if_pos a], f3, f4⟩
  · rw [if_neg a, rr_199_27 (S := rW (xw S 212 B) g j) h.1, rr_199_27 (S := rW (xw S 212 B) g j) h.1, e2, xai_n hl (by omega) (by decide), xst_n hl (by omega) (by decide), rW_c (by decide), xI_xw, rW_ne _ _ _ (by decide), xw_1]
    obtain ⟨g1, j1, f1, f2, f3, f4⟩ := r_127 (h' (va_up B (3 * k + 2) (-(B (3 * k + 2))))) hq hg h29
    exact ⟨g1, j1, _, f1, f2, fun x hx => up_ne hx, by rw [if_neg a, xup_at], f3, f4⟩
/-- how much, as the reference reads it (a less ahead is read already) -/
def pMu (tb : Nat → Int32) (L q : Nat) (kd : Int32) : Bool × Nat × Int32 := if kd = 0 ∨ kd = 9 then (true, q, 0) else pNu tb L q
theorem r_86 {T : xT} {S : xS} {tb : Nat → Int32} {L q k : Nat} {B g : Nat → Int32} {j : Nat → Int64} {le kd : Int32} (h : rTb T S tb L) (hk : k < 30) (hq : q ≤ L) (hg : rTk tb L q g j) (h29 : g 29 = nI k) : ∃ g' j' B', f_X10_readAct_86 T (rW (xw S 212 B) g j) 199 kd (nI (3 * k)) le = some (b2 ((pMu tb L q kd).1 && (pFi tb L (pMu tb L q kd).2.1).1), rW (xw S 212 B') g' j') ∧ aFr g g' ∧ (∀ x, x ≠ 3 * k + 2 → B' x = B x) ∧ ((pMu tb L q kd).1 = true → (pFi tb L (pMu tb L q kd).2.1).1 = true → (kd ≠ 0 → kd ≠ 9 → B' (3 * k + 2) = (if le = 0 then (pMu tb L q kd).2.2 else -(pMu tb L q kd).2.2)) ∧ rTk tb L (pFi tb L (pMu tb L q kd).2.1).2 g' j' ∧ g' 9 = g 9 ∧ g' 29 = nI (k + 1)) ∧ ((pMu tb L q kd).1 = true → (pFi tb L (pMu tb L q kd).2.1).1 = false → g' 9 = nI (tPl tb L (pFi tb L (pMu tb L q kd).2.1).2)) ∧ ((pMu tb L q kd).1 = false → g' 9 = nI (tPl tb L (pMu tb L q kd).2.1)) := by
  have h' : ∀ w, rTb T (xw S 212 w) tb L := fun w => rTb_w (by decide) h
  have hl : T.2.1 212 = 90 := xTp_n h.1 90 (by decide) rfl
  have e2 : nI (3 * k) + (2 : Int32) = nI (3 * k + 2) := nI_add (3 * k) 2
  have simple : (kd = 0 ∨ kd = 9) → ∃ g' j' B', f_X10_readAct_106 T (rW (xw S 212 B) g j) 199 (nI (3 * k)) le = some (b2 ((pMu tb L q kd).1 && (pFi tb L (pMu tb L q kd).2.1).1), rW (xw S 212 B') g' j') ∧ aFr g g' ∧ (∀ x, x ≠ 3 * k + 2 → B' x = B x) ∧ ((pMu tb L q kd).1 = true → (pFi tb L (pMu tb L q kd).2.1).1 = true → (kd ≠ 0 → kd ≠ 9 → B' (3 * k + 2) = (if le = 0 then (pMu tb L q kd).2.2 else -(pMu tb L q kd).2.2)) ∧ rTk tb L (pFi tb L (pMu tb L q kd).2.1).2 g' j' ∧ g' 9 = g 9 ∧ g' 29 = nI (k + 1)) ∧ ((pMu tb L q kd).1 = true → (pFi tb L (pMu tb L q kd).2.1).1 = false → g' 9 = nI (tPl tb L (pFi tb L (pMu tb L q kd).2.1).2)) ∧ ((pMu tb L q kd).1 = false → g' 9 = nI (tPl tb L (pMu tb L q kd).2.1)) := fun a => by
    have E : pMu tb L q kd = (true, q, 0) := by unfold pMu; rw [if_pos a]
    rw [E]
    obtain ⟨g1, j1, B1, f1, f2, f3, f4, f5, f6⟩ := r_106 (B := B) (le := le) h hk hq hg h29
    exact ⟨g1, j1, B1, f1, f2, f3, fun _ z => ⟨fun z1 z2 => absurd a (fun z3 => z3.elim z1 z2), f5 z⟩, fun _ z => f6 z, fun z => (by cases z)⟩
  unfold f_X10_readAct_86
  by_cases a0 : kd = 0
  · rw [if_pos a0]; exact simple (Or.inl a0)
  rw [if_neg a0]
  by_cases a9 : kd = 9
  · rw [if_pos a9]; exact simple (Or.inr a9)
  rw [if_neg a9]
  have E : pMu tb L q kd = pNu tb L q := by unfold pMu; rw [if_neg (fun z => z.elim a0 a9)]
  rw [E]
  unfold f_X10_readMuch
  obtain ⟨g1, j1, f1, k1, t1⟩ := r_takesNumber (h' B) hq hg (lo := 0) (hi := 1000000) (by decide) (by decide)
  have nz : xnz (if tNm tb L q 0 1000000 ≠ -1 then (1 : Int32) else 0) = true := by
    by_cases a : tNm tb L q 0 1000000 ≠ -1
    · rw [if_pos a]; decide
    · rw [if_neg a]; decide
  rw [f1, xc_e, xl_e, rr_199_27 (S := rW (xw S 212 B) g1 j1) h.1, e2, xst_n hl (by omega) (by decide), rW_c (by decide), xI_xw, rW_1, xgd_h nz, xc_e]
  have fr1 : aFr g g1 := fun x hx => k1.2 x (by omega)
  by_cases a : tNm tb L q 0 1000000 = -1
  · have P : pNu tb L q = (false, q, -1) := by
      unfold pNu
      rw [decide_eq_false (fun z => z a), if_neg (fun z => z a), a]
    rw [show (if tNm tb L q 0 1000000 ≠ -1 then (1 : Int32) else 0) = 0 from if_neg (fun z => z a), if_pos rfl, P]
    rw [decide_eq_false (fun z => z a), if_neg (fun z => z a)] at k1
    exact ⟨g1, j1, _, rfl, fr1, fun x hx => up_ne hx, fun z => (by cases z), fun z => (by cases z), fun _ => r_afF rfl k1⟩
  · have P : pNu tb L q = (true, tNx tb L q, tNm tb L q 0 1000000) := by
      unfold pNu
      rw [decide_eq_true a, if_pos a]
    rw [show (if tNm tb L q 0 1000000 ≠ -1 then (1 : Int32) else 0) = 1 from if_pos a, if_neg (by decide), P, t1 a]
    rw [show (decide (tNm tb L q 0 1000000 ≠ -1)) = true from decide_eq_true a, if_pos a] at k1
    obtain ⟨k1', z1⟩ := r_afT rfl k1
    obtain ⟨g2, j2, B2, f2, b2', b3, b4, b5, b6⟩ := r_106 (B := va_up B (3 * k + 2) (tNm tb L q 0 1000000)) (le := le) h hk (tNx_r tb hq).2.1 k1' ((k1.2 29 (by decide)).trans h29)
    refine ⟨g2, j2, B2, ?_, fr1.tr b2', fun x hx => by rw [b3 x hx, up_ne hx], fun _ z => ⟨fun _ _ => by rw [b4, xup_at], (b5 z).1, by rw [(b5 z).2.1, z1], (b5 z).2.2⟩, fun _ z => b6 z, fun z => (by cases z)⟩
    rw [f2]
    rfl
theorem r_readWho {T : xT} {S : xS} {tb : Nat → Int32} {L q k c : Nat} {B g : Nat → Int32} {j : Nat → Int64} (h : rTb T S tb L) (hk : k < 30) (hq : q ≤ L) (hg : rTk tb L q g j) (hc : 1 < c) (hc2 : c < 10) : ∃ g' j' v, f_X10_readWho T (rW (xw S 212 B) g j) 199 (nI (3 * k)) (nI c) = some (b2 (pWh tb L q (nI c)).1, rW (xw S 212 (va_up B (3 * k + 1) v)) g' j') ∧ rAf tb L (pWh tb L q (nI c)).1 (pWh tb L q (nI c)).2.1 (g 9) g g' j' ∧ ((pWh tb L q (nI c)).1 = true → v = (pWh tb L q (nI c)).2.2) := by
  have h' : ∀ w, rTb T (xw S 212 w) tb L := fun w => rTb_w (by decide) h
  have hl : T.2.1 212 = 90 := xTp_n h.1 90 (by decide) rfl
  have e1 : nI (3 * k) + (1 : Int32) = nI (3 * k + 1) := nI_add (3 * k) 1
  have n1 : ¬ nI c ≤ (1 : Int32) := nI_ge (a := 1) (b := c) hc (by omega)
  unfold f_X10_readWho pWh
  rw [if_neg n1]
  by_cases a : (6 : Int32) ≤ nI c
  · have a6 : 6 ≤ c := (nI_leI (a := 6) (b := c) (by omega) (by omega)).mp a
    have n5 : ¬ nI c ≤ (5 : Int32) := nI_ge (a := 5) (b := c) (by omega) (by omega)
    rw [if_pos a, if_neg n5]
    obtain ⟨g1, j1, f1, k1, t1⟩ := r_takesPartner (h' B) hq hg
    have nz : xnz (if tPn tb L q ≠ -1 then (1 : Int32) else 0) = true := by
      by_cases a : tPn tb L q ≠ -1
      · rw [if_pos a]; decide
      · rw [if_neg a]; decide
    rw [f1, xc_e, xl_e, rr_199_27 (S := rW (xw S 212 B) g1 j1) h.1, e1, xst_n hl (by omega) (by decide), rW_c (by decide), xI_xw, rW_1, xgd_h nz]
    refine ⟨g1, j1, g1 12, ?_, k1, fun _ => t1⟩
    by_cases b : tPn tb L q ≠ -1
    · rw [if_pos b, decide_eq_true b]; rfl
    · rw [if_neg b, decide_eq_false b]; rfl
  · have a5 : c ≤ 5 := by
      have : ¬ 6 ≤ c := fun z => a (nI_le (a := 6) (b := c) z (by omega))
      omega
    have n5 : nI c ≤ (5 : Int32) := nI_le (a := c) (b := 5) a5 (by decide)
    rw [if_neg a, if_pos n5]
    obtain ⟨g1, j1, f1, k1, t1⟩ := r_takesNumber (h' B) hq hg (lo := 0) (hi := 7) (by decide) (by decide)
    have nz : xnz (if tNm tb L q 0 7 ≠ -1 then (1 : Int32) else 0) = true := by
      by_cases a : tNm tb L q 0 7 ≠ -1
      · rw [if_pos a]; decide
      · rw [if_neg a]; decide
    rw [f1, xc_e, xl_e, rr_199_27 (S := rW (xw S 212 B) g1 j1) h.1, e1, xst_n hl (by omega) (by decide), rW_c (by decide), xI_xw, rW_1, xgd_h nz]
    refine ⟨g1, j1, g1 12, ?_, k1, fun z => t1 (of_decide_eq_true z)⟩
    by_cases b : tNm tb L q 0 7 ≠ -1
    · rw [if_pos b, decide_eq_true b]; rfl
    · rw [if_neg b, decide_eq_false b]; rfl
/-- pAc, in the reference's order -/
theorem pAc_e {tb : Nat → Int32} {L q : Nat} (a : tAk tb L q ≠ -1) (b : (pWh tb L (tNx tb L q) (tAk tb L q)).1 = true) {M : Bool × Nat × Int32} (hM : pAm tb L (pWh tb L (tNx tb L q) (tAk tb L q)).2.1 (tAk tb L q) = M) : (pAc tb L q).1 = (M.1 && (pFi tb L M.2.1).1) ∧ (M.1 = true → (pFi tb L M.2.1).1 = true → pAc tb L q = (true, (pFi tb L M.2.1).2, tAk tb L q, (pWh tb L (tNx tb L q) (tAk tb L q)).2.2, M.2.2)) ∧ (M.1 = true → (pFi tb L M.2.1).1 = false → (pAc tb L q).2.1 = (pFi tb L M.2.1).2) ∧ (M.1 = false → (pAc tb L q).2.1 = M.2.1) := by
  unfold pAc
  rw [if_neg a, if_neg (by rw [b]; decide), hM]
  unfold pFi
  by_cases d : M.1 = false
  · rw [if_pos d, d]
    exact ⟨rfl, fun z => (by cases z), fun z => (by cases z), fun _ => rfl⟩
  have d' : M.1 = true := by cases hh : M.1 <;> simp_all
  rw [if_neg d, d']
  by_cases s : tKd tb L M.2.1 = 3 ∧ tb (tPl tb L M.2.1) = 59
  · rw [if_pos s, if_pos s]
    exact ⟨rfl, fun _ _ => rfl, fun _ z => (by cases z), fun z => (by cases z)⟩
  · rw [if_neg s, if_neg s]
    exact ⟨rfl, fun _ z => (by cases z), fun _ _ => rfl, fun z => (by cases z)⟩
def rAct (tb : Nat → Int32) (L q k : Nat) (B g B' g' : Nat → Int32) (j' : Nat → Int64) : Prop := aFr g g' ∧ (∀ x, x < 3 * k → B' x = B x) ∧ ((pAc tb L q).1 = true → rTk tb L (pAc tb L q).2.1 g' j' ∧ g' 9 = g 9 ∧ g' 29 = nI (k + 1) ∧ B' (3 * k) = (pAc tb L q).2.2.1 ∧ (¬ (pAc tb L q).2.2.1 ≤ 1 → B' (3 * k + 1) = (pAc tb L q).2.2.2.1) ∧ ((pAc tb L q).2.2.1 ≠ 0 → (pAc tb L q).2.2.1 ≠ 9 → B' (3 * k + 2) = (pAc tb L q).2.2.2.2)) ∧ ((pAc tb L q).1 = false → g' 9 = nI (tPl tb L (pAc tb L q).2.1))
/-- from who on -/
theorem r_70 {T : xT} {S : xS} {tb : Nat → Int32} {L q k : Nat} {B g g1 : Nat → Int32} {j1 : Nat → Int64} {qx : Nat} {le : Int32} (h : rTb T S tb L) (hk : k < 30) (hq : q ≤ L) (a : tAk tb L q ≠ -1) (hqx : qx ≤ L) (hg : rTk tb L qx g1 j1) (fr : aFr g g1) (z9 : g1 9 = g 9) (h29 : g1 29 = nI k) (hB : B (3 * k) = tAk tb L q) (hle : (le = 0 ∧ qx = tNx tb L q ∧ ¬ (tAk tb L q = 1 ∧ tKd tb L qx = 3 ∧ tb (tPl tb L qx) = 45)) ∨ (le = 1 ∧ tAk tb L q = 1 ∧ qx = tNx tb L (tNx tb L q) ∧ tKd tb L (tNx tb L q) = 3 ∧ tb (tPl tb L (tNx tb L q)) = 45)) : ∃ g' j' B', f_X10_readAct_70 T (rW (xw S 212 B) g1 j1) 199 (tAk tb L q) (nI (3 * k)) le = some (b2 (pAc tb L q).1, rW (xw S 212 B') g' j') ∧ rAct tb L q k B g B' g' j' := by
  have h' : ∀ w, rTb T (xw S 212 w) tb L := fun w => rTb_w (by decide) h
  have q1 := (tNx_r tb hq).2.1
  rcases tAk_r tb L q hq with z | ⟨⟨c, hc, ec⟩, _⟩
  · exact absurd z a
  unfold f_X10_readAct_70
  by_cases b : tAk tb L q ≤ 1
  · have hW : pWh tb L (tNx tb L q) (tAk tb L q) = (true, tNx tb L q, 0) := by unfold pWh; rw [if_pos b]
    rw [if_pos b]
    have key : ∀ M, pAm tb L (tNx tb L q) (tAk tb L q) = M → M.1 = (pMu tb L qx (tAk tb L q)).1 → M.2.1 = (pMu tb L qx (tAk tb L q)).2.1 → (tAk tb L q ≠ 0 → tAk tb L q ≠ 9 → M.2.2 = if le = 0 then (pMu tb L qx (tAk tb L q)).2.2 else -(pMu tb L qx (tAk tb L q)).2.2) → ∃ g' j' B', f_X10_readAct_86 T (rW (xw S 212 B) g1 j1) 199 (tAk tb L q) (nI (3 * k)) le = some (b2 (pAc tb L q).1, rW (xw S 212 B') g' j') ∧ rAct tb L q k B g B' g' j' := fun M hM e1 e2 e3 => by
      obtain ⟨p1, p2, p3, p4⟩ := pAc_e (M := M) a (by rw [hW]) (by rw [hW]; exact hM)
      obtain ⟨g2, j2, B2, f1, f2, f3, f4, f5, f6⟩ := r_86 (B := B) (le := le) (kd := tAk tb L q) h hk hqx hg h29
      rw [← e1, ← e2] at f1 f4 f5 f6
      refine ⟨g2, j2, B2, by rw [f1, p1], fr.tr f2, fun x hx => f3 x (by omega), fun z => ?_, fun z => ?_⟩
      · rw [p1, Bool.and_eq_true] at z
        obtain ⟨v1, v2, v3, v4⟩ := f4 z.1 z.2
        rw [p2 z.1 z.2]
        exact ⟨v2, v3.trans z9, v4, by rw [f3 _ (by omega)]; exact hB, fun y => absurd b y, fun y1 y2 => by rw [v1 y1 y2]; exact (e3 y1 y2).symm⟩
      · rw [p1] at z
        by_cases m1 : M.1 = true
        · have m2 : (pFi tb L M.2.1).1 = false := by rw [m1] at z; simpa using z
          rw [p3 m1 m2]; exact f5 m1 m2
        · have m1' := bool_f m1
          rw [p4 m1']; exact f6 m1'
    rcases hle with ⟨l0, lq, ls⟩ | ⟨l1, l2, lq, ls⟩
    · have hs : ¬ (tAk tb L q = 1 ∧ tKd tb L (tNx tb L q) = 3 ∧ tb (tPl tb L (tNx tb L q)) = 45) := by rw [lq] at ls; exact ls
      have hA : pAm tb L (tNx tb L q) (tAk tb L q) = pMu tb L qx (tAk tb L q) := by
        unfold pAm pMu
        rw [if_neg hs, lq]
      exact key _ hA rfl rfl (fun _ _ => by rw [if_pos l0])
    · have hA : pAm tb L (tNx tb L q) (tAk tb L q) = ((pNu tb L qx).1, (pNu tb L qx).2.1, -(pNu tb L qx).2.2) := by
        unfold pAm
        rw [if_neg (show ¬ (tAk tb L q = 0 ∨ tAk tb L q = 9) by rw [l2]; decide), if_pos ⟨l2, ls⟩, lq]
      have hM : pMu tb L qx (tAk tb L q) = pNu tb L qx := by
        unfold pMu
        rw [if_neg (show ¬ (tAk tb L q = 0 ∨ tAk tb L q = 9) by rw [l2]; decide)]
      exact key _ hA (by rw [hM]) (by rw [hM]) (fun _ _ => by rw [if_neg (by rw [l1]; decide), hM])
  · rw [if_neg b]
    rcases hle with ⟨l0, lq, ls⟩ | ⟨l1, l2, lq, ls⟩
    · rw [ec] at b
      have c1 : 1 < c := by
        have : ¬ c ≤ 1 := fun z => b (nI_le (a := c) (b := 1) z (by decide))
        omega
      rw [ec]
      obtain ⟨g2, j2, v, f1, k2, t2⟩ := r_readWho (B := B) h hk hqx hg c1 hc
      rw [f1, xc_e]
      rw [← ec, lq] at f1 k2 t2
      by_cases w : (pWh tb L (tNx tb L q) (tAk tb L q)).1 = true
      · rw [if_neg (show ¬ b2 (pWh tb L qx (nI c)).1 = 0 by rw [← ec, lq, w]; decide)]
        obtain ⟨k2', z2⟩ := r_afT w k2
        have hPq := (pWh_r (tb := tb) q1 (tAk tb L q)).1
        obtain ⟨p1, p2, p3, p4⟩ := pAc_e (M := pMu tb L (pWh tb L (tNx tb L q) (tAk tb L q)).2.1 (tAk tb L q)) a w (by
          unfold pAm pMu
          have : ¬ (tAk tb L q = 1 ∧ tKd tb L (pWh tb L (tNx tb L q) (tAk tb L q)).2.1 = 3 ∧ tb (tPl tb L (pWh tb L (tNx tb L q) (tAk tb L q)).2.1) = 45) := fun z => b (by rw [← ec, z.1]; decide)
          rw [if_neg this])
        obtain ⟨g3, j3, B3, f1', f2', f3, f4, f5, f6⟩ := r_86 (B := va_up B (3 * k + 1) v) (le := le) (kd := tAk tb L q) h hk hPq k2' ((k2.2 29 (by decide)).trans h29)
        rw [← ec]
        refine ⟨g3, j3, B3, by rw [f1', p1], ?_, fun x hx => by rw [f3 x (by omega), up_ne (by omega)], fun z => ?_, fun z => ?_⟩
        · exact fr.tr (aFr.tr (fun x hx => k2.2 x (by omega)) f2')
        · rw [p1, Bool.and_eq_true] at z
          obtain ⟨v1, v2, v3, v4⟩ := f4 z.1 z.2
          rw [p2 z.1 z.2]
          exact ⟨v2, by rw [v3, z2, z9], v4, by rw [f3 _ (by omega), up_ne (by omega)]; exact hB, fun _ => by rw [f3 _ (by omega), xup_at]; exact t2 w, fun y1 y2 => by rw [v1 y1 y2, if_pos l0]⟩
        · rw [p1] at z
          by_cases m1 : (pMu tb L (pWh tb L (tNx tb L q) (tAk tb L q)).2.1 (tAk tb L q)).1 = true
          · have m2 : (pFi tb L (pMu tb L (pWh tb L (tNx tb L q) (tAk tb L q)).2.1 (tAk tb L q)).2.1).1 = false := by rw [m1] at z; simpa using z
            rw [p3 m1 m2]; exact f5 m1 m2
          · have m1' := bool_f m1
            rw [p4 m1']; exact f6 m1'
      · have w' := bool_f w
        rw [if_pos (show b2 (pWh tb L qx (nI c)).1 = 0 by rw [← ec, lq, w']; rfl)]
        have P : (pAc tb L q).1 = false ∧ (pAc tb L q).2.1 = (pWh tb L (tNx tb L q) (tAk tb L q)).2.1 := by
          unfold pAc
          rw [if_neg a, if_pos w']
          exact ⟨rfl, rfl⟩
        refine ⟨g2, j2, _, by rw [P.1]; rfl, fr.tr (fun x hx => k2.2 x (by omega)), fun x hx => up_ne (by omega), fun z => ?_, fun _ => ?_⟩
        · rw [P.1] at z; cases z
        · rw [P.2]; exact r_afF w' k2
    · exact absurd (show tAk tb L q ≤ 1 by rw [l2]; decide) b
theorem r_readAct {T : xT} {S : xS} {tb : Nat → Int32} {L q k : Nat} {B g : Nat → Int32} {j : Nat → Int64} (h : rTb T S tb L) (hk : k < 30) (hq : q ≤ L) (hg : rTk tb L q g j) (h29 : g 29 = nI k) : ∃ g' j' B', f_X10_readAct T (rW (xw S 212 B) g j) 199 = some (b2 (pAc tb L q).1, rW (xw S 212 B') g' j') ∧ rAct tb L q k B g B' g' j' := by
  have h' : ∀ w, rTb T (xw S 212 w) tb L := fun w => rTb_w (by decide) h
  have hl : T.2.1 212 = 90 := xTp_n h.1 90 (by decide) rfl
  have q1 := (tNx_r tb hq).2.1
  have e3 : (3 : Int32) * nI k = nI (3 * k) := pk_mul 3 k
  unfold f_X10_readAct
  rw [r_actHere hq hg, xc_e, xl_e]
  by_cases a : tAk tb L q = -1
  · have P : pAc tb L q = (false, q, 0, 0, 0) := by unfold pAc; rw [if_pos a]
    rw [if_pos a, r_fails hg, xc_e, xgd_h (by decide), P]
    refine ⟨_, j, B, rfl, fun x hx => up_ne (by omega), fun _ _ => rfl, fun z => ?_, fun _ => ?_⟩
    · rw [P] at z; cases z
    · rw [P]; exact xup_at _ _ _
  · rw [if_neg a, rW_1, h29, if_neg (show ¬ nI k = (30 : Int32) from fun z => by have := (nI_eq (a := k) (b := 30) (by omega) (by omega)).mp z; omega)]
    obtain ⟨g1, j1, f1, k1, z1⟩ := r_next (h' B) hq hg
    have n29 : g1 29 = nI k := by rw [z1 29 (by decide) (by decide) (by decide) (by decide)]; exact h29
    have fr1 : aFr g g1 := fun x hx => z1 x (by omega) (by omega) (by omega) (by omega)
    have z9 : g1 9 = g 9 := z1 9 (by decide) (by decide) (by decide) (by decide)
    rw [f1, xcv_e, rW_1, n29, xl_e, e3, rr_199_27 (S := rW (xw S 212 B) g1 j1) h.1, xst_n hl (by omega) (by decide), rW_c (by decide), xI_xw]
    have fin : ∀ (le : Int32) (g2 : Nat → Int32) (j2 : Nat → Int64) (qx : Nat), qx ≤ L → rTk tb L qx g2 j2 → aFr g g2 → g2 9 = g 9 → g2 29 = nI k → ((le = 0 ∧ qx = tNx tb L q ∧ ¬ (tAk tb L q = 1 ∧ tKd tb L qx = 3 ∧ tb (tPl tb L qx) = 45)) ∨ (le = 1 ∧ tAk tb L q = 1 ∧ qx = tNx tb L (tNx tb L q) ∧ tKd tb L (tNx tb L q) = 3 ∧ tb (tPl tb L (tNx tb L q)) = 45)) → ∃ g' j' B', f_X10_readAct_70 T (rW (xw S 212 (va_up B (3 * k) (tAk tb L q))) g2 j2) 199 (tAk tb L q) (nI (3 * k)) le = some (b2 (pAc tb L q).1, rW (xw S 212 B') g' j') ∧ rAct tb L q k B g B' g' j' := fun le g2 j2 qx hqx hg2 fr2 zz9 zz29 hle => by
      obtain ⟨g', j', B', e, r1, r2, r3⟩ := r_70 (B := va_up B (3 * k) (tAk tb L q)) (g := g) h hk hq a hqx hg2 fr2 zz9 zz29 (xup_at _ _ _) hle
      exact ⟨g', j', B', e, r1, fun x hx => by rw [r2 x hx, up_ne (by omega)], r3⟩
    by_cases b : tAk tb L q = 1
    · rw [if_pos b, rW_1, k1.2.2.2.1]
      by_cases s : tKd tb L (tNx tb L q) = 3 ∧ tb (tPl tb L (tNx tb L q)) = 45
      · rw [if_pos ((tTk_s (c := 45) (by right; right; left; rfl) tb L _).mpr s), xl_e, if_neg (show ¬ (1 : Int32) = 0 by decide)]
        obtain ⟨g2, j2, f2, k2, z2⟩ := r_next (h' (va_up B (3 * k) (tAk tb L q))) q1 k1
        rw [f2, xcv_e]
        exact fin 1 g2 j2 _ (tNx_r tb q1).2.1 k2 (fr1.tr (fun x hx => z2 x (by omega) (by omega) (by omega) (by omega))) (by rw [z2 9 (by decide) (by decide) (by decide) (by decide), z9]) (by rw [z2 29 (by decide) (by decide) (by decide) (by decide), n29]) (Or.inr ⟨rfl, b, rfl, s⟩)
      · rw [if_neg (fun z => s ((tTk_s (c := 45) (by right; right; left; rfl) tb L _).mp z)), xl_e, if_pos rfl]
        exact fin 0 g1 j1 _ q1 k1 fr1 z9 n29 (Or.inl ⟨rfl, rfl, fun z => s z.2⟩)
    · rw [if_neg b, xl_e, if_pos rfl]
      exact fin 0 g1 j1 _ q1 k1 fr1 z9 n29 (Or.inl ⟨rfl, rfl, fun z => b z.1⟩)
/-- what the reference has read of acts -/
def rAs (B K W N : Nat → Int32) (n : Nat) : Prop := ∀ x, x < n → B (3 * x) = K x ∧ (¬ K x ≤ 1 → B (3 * x + 1) = W x) ∧ (K x ≠ 0 → K x ≠ 9 → B (3 * x + 2) = N x)
theorem L_rA {T : xT} {S : xS} {tb : Nat → Int32} {L : Nat} (h : rTb T S tb L) : ∀ (m k n q : Nat) (B g K0 W0 N0 : Nat → Int32) (j : Nat → Int64), k + m = 30 → m < n → q ≤ L → rTk tb L q g j → g 29 = nI k → rAs B K0 W0 N0 k → ∃ g' j' B', f_X10_readActs_9 T n (rW (xw S 212 B) g j) 199 = some (b2 (pAs tb L m k q K0 W0 N0).1, rW (xw S 212 B') g' j') ∧ aFr g g' ∧ ((pAs tb L m k q K0 W0 N0).1 = true → g' 9 = g 9 ∧ g' 29 = nI (pAs tb L m k q K0 W0 N0).2.2.1 ∧ rAs B' (pAs tb L m k q K0 W0 N0).2.2.2.1 (pAs tb L m k q K0 W0 N0).2.2.2.2.1 (pAs tb L m k q K0 W0 N0).2.2.2.2.2 (pAs tb L m k q K0 W0 N0).2.2.1) ∧ ((pAs tb L m k q K0 W0 N0).1 = false → g' 9 = nI (tPl tb L (pAs tb L m k q K0 W0 N0).2.1)) := by
  have h' : ∀ w, rTb T (xw S 212 w) tb L := fun w => rTb_w (by decide) h
  intro m
  induction m with
  | zero =>
    intro k n q B g K0 W0 N0 j hk hn hq hg h29 hA
    obtain ⟨n, rfl⟩ : ∃ n', n = n' + 1 := ⟨n - 1, by omega⟩
    obtain rfl : k = 30 := by omega
    unfold f_X10_readActs_9 pAs
    rw [rW_1, hg.2.2.2.1]
    by_cases a : tKd tb L q = 0
    · rw [if_pos ((tTk_n (Or.inl rfl) tb L q).mpr a), decide_eq_true a]
      exact ⟨g, j, B, rfl, fun _ _ => rfl, fun _ => ⟨rfl, h29, hA⟩, fun z => (by cases z)⟩
    · rw [if_neg (fun z => a ((tTk_n (Or.inl rfl) tb L q).mp z)), decide_eq_false a]
      unfold f_X10_readAct
      rw [r_actHere hq hg, xc_e, xl_e, rW_1, h29, if_pos (show nI 30 = (30 : Int32) from rfl), r_fails hg, xc_e, xgd_h (by decide)]
      simp only [ite_self]
      rw [xc_e, if_pos rfl]
      exact ⟨_, j, B, rfl, fun x hx => up_ne (by omega), fun z => (by cases z), fun _ => xup_at _ _ _⟩
  | succ m ih =>
    intro k n q B g K0 W0 N0 j hk hn hq hg h29 hA
    obtain ⟨n, rfl⟩ : ∃ n', n = n' + 1 := ⟨n - 1, by omega⟩
    unfold f_X10_readActs_9 pAs
    rw [rW_1, hg.2.2.2.1]
    by_cases a : tKd tb L q = 0
    · rw [if_pos ((tTk_n (Or.inl rfl) tb L q).mpr a)]
      simp only [if_pos a]
      exact ⟨g, j, B, rfl, fun _ _ => rfl, fun _ => ⟨rfl, h29, hA⟩, fun z => (by cases z)⟩
    · rw [if_neg (fun z => a ((tTk_n (Or.inl rfl) tb L q).mp z))]
      simp only [if_neg a]
      obtain ⟨g1, j1, B1, f1, r1, r2, r3, r4⟩ := r_readAct (B := B) h (show k < 30 by omega) hq hg h29
      rw [f1, xc_e]
      by_cases b : (pAc tb L q).1 = true
      · rw [if_neg (show ¬ b2 (pAc tb L q).1 = 0 by rw [b]; decide)]
        simp only [if_pos b]
        obtain ⟨v1, v2, v3, v4, v5, v6⟩ := r3 b
        obtain ⟨g2, j2, B2, f2, s1, s2, s3⟩ := ih (k + 1) n (pAc tb L q).2.1 B1 g1 (va_up K0 k (pAc tb L q).2.2.1) (va_up W0 k (pAc tb L q).2.2.2.1) (va_up N0 k (pAc tb L q).2.2.2.2) j1 (by omega) (by omega) (pAc_r hq).1 v1 v3 (fun x hx => by
          by_cases hxk : x = k
          · subst hxk; rw [xup_at, xup_at, xup_at]; exact ⟨v4, v5, v6⟩
          · rw [up_ne hxk, up_ne hxk, up_ne hxk, r2 _ (by omega), r2 _ (by omega), r2 _ (by omega)]; exact hA x (by omega))
        refine ⟨g2, j2, B2, f2, r1.tr s1, fun z => ?_, s3⟩
        obtain ⟨w1, w2, w3⟩ := s2 z
        exact ⟨w1.trans v2, w2, w3⟩
      · have b' := bool_f b
        rw [if_pos (show b2 (pAc tb L q).1 = 0 by rw [b']; rfl)]
        simp only [if_neg b]
        exact ⟨g1, j1, B1, rfl, r1, fun z => (by cases z), fun _ => r4 b'⟩
theorem r_readActs {T : xT} {S : xS} {tb : Nat → Int32} {L : Nat} {B g : Nat → Int32} {j : Nat → Int64} (h : rTb T S tb L) (h5 : g 5 = nI L) : ∃ g' j' B', f_X10_readActs T (rW (xw S 212 B) g j) 199 = some (b2 (pAs tb L 30 0 0 z8 z8 z8).1, rW (xw S 212 B') g' j') ∧ aFr g g' ∧ ((pAs tb L 30 0 0 z8 z8 z8).1 = true → g' 9 = -1 ∧ g' 29 = nI (pAs tb L 30 0 0 z8 z8 z8).2.2.1 ∧ rAs B' (pAs tb L 30 0 0 z8 z8 z8).2.2.2.1 (pAs tb L 30 0 0 z8 z8 z8).2.2.2.2.1 (pAs tb L 30 0 0 z8 z8 z8).2.2.2.2.2 (pAs tb L 30 0 0 z8 z8 z8).2.2.1) ∧ ((pAs tb L 30 0 0 z8 z8 z8).1 = false → g' 9 = nI (tPl tb L (pAs tb L 30 0 0 z8 z8 z8).2.1)) := by
  unfold f_X10_readActs
  obtain ⟨g1, j1, f1, k1, n1, z1⟩ := r_begin (rTb_w (a := 212) (f := B) (by decide) h) h5 (j := j)
  rw [f1, xcv_e, xpi_e, rW_I]
  obtain ⟨g2, j2, B2, f2, s1, s2, s3⟩ := L_rA h 30 0 xfu 0 B (va_up g1 29 0) z8 z8 z8 j1 rfl (by decide) (by omega) (rTk_up (k := 29) (v := 0) (by omega) k1) (xup_at _ _ _) (fun x hx => by omega)
  refine ⟨g2, j2, B2, f2, ?_, fun z => ?_, s3⟩
  · intro x hx
    rw [s1 x hx, up_ne (by omega)]
    exact z1 x (by omega)
  · obtain ⟨w1, w2, w3⟩ := s2 z
    exact ⟨by rw [w1, up_ne (by decide)]; exact n1, w2, w3⟩
