/-! products and sums: reference -/
theorem tTk_n2 {c : Int32} (hc : isSg c) (tb : Nat → Int32) (L q : Nat) : tTk tb L q = c ↔ tSn tb L q = c := by
  have hn : c ≠ 0 := by rcases hc with h | h | h | h | h | h | h <;> subst h <;> decide
  exact (tTk_s hc tb L q).trans (tSn_i hn tb L q)
theorem sg_42 : isSg 42 := by unfold isSg; decide
theorem sg_47 : isSg 47 := by unfold isSg; decide
theorem sg_43 : isSg 43 := by unfold isSg; decide
theorem sg_45 : isSg 45 := by unfold isSg; decide
theorem sg_59 : isSg 59 := by unfold isSg; decide
theorem sg_60 : isSg 60 := by unfold isSg; decide
theorem sg_62 : isSg 62 := by unfold isSg; decide
/-- how the reference stands behind a try -/
def rEn (T : xT) (S : xS) (tb : Nat → Int32) (L : Nat) (N : Nat → Int32) (P : Bool × Nat × pSt) (g : Nat → Int32) (r : Option (Int32 × xS)) : Prop := (P.1 = true → ∃ g' j', r = some (1, rW (rB S N P.2.2.2.2.2) g' j') ∧ rAt tb L P.2.1 P.2.2.2.1 P.2.2.2.2.1 g' j' ∧ g' 9 = g 9 ∧ sFr g g') ∧ (P.1 = false → ∃ g' j' C', r = some (0, rW (rB S N C') g' j') ∧ g' 9 = nI (tPl tb L P.2.1) ∧ sFr g g')
theorem rEn_m {T : xT} {S : xS} {tb : Nat → Int32} {L : Nat} {N g g1 : Nat → Int32} {P : Bool × Nat × pSt} {r : Option (Int32 × xS)} (h : rEn T S tb L N P g1 r) (h9 : g1 9 = g 9) (hf : sFr g g1) : rEn T S tb L N P g r := by
  refine ⟨fun z => ?_, fun z => ?_⟩
  · obtain ⟨g', j', e, a, b, c⟩ := h.1 z
    exact ⟨g', j', e, a, b.trans h9, hf.tr c⟩
  · obtain ⟨g', j', C', e, a, b⟩ := h.2 z
    exact ⟨g', j', C', e, a, hf.tr b⟩
theorem L_rPr {T : xT} {S : xS} {tb : Nat → Int32} {L : Nat} {N : Nat → Int32} (h : rTb T S tb L) : ∀ (m q n : Nat) (st : pSt) (g : Nat → Int32) (j : Nat → Int64), 40 < st.2.1 + m → st.2.1 ≤ 40 → st.2.2.1 + 1 ≤ 2 * st.2.1 → m < n → q ≤ L → rAt tb L q st.2.1 st.2.2.1 g j → rEn T S tb L N (pPr tb L m q st) g (f_X10_readProduct_9 T n (rW (rB S N st.2.2.2) g j) 199) := by
  intro m
  induction m with
  | zero => intro q n st g j h1 h2; omega
  | succ m ih =>
    intro q n st g j h1 h2 h3 hn hq ha
    obtain ⟨n, rfl⟩ : ∃ n', n = n' + 1 := ⟨n - 1, by omega⟩
    have step : tSn tb L q = 42 ∨ tSn tb L q = 47 → tTk tb L q = tSn tb L q → rEn T S tb L N (pPr tb L (m + 1) q st) g (f_X10_readProduct_27 T (f_X10_readProduct_9 T n) (rW (rB S N st.2.2.2) g j) 199) := fun s et => by
      unfold f_X10_readProduct_27 pPr
      simp only [if_pos s]
      rw [rW_1, ha.1.2.2.2.1, xl_e, et]
      obtain ⟨g1, j1, f1, k1, z1⟩ := r_next (rB_h (N := N) (C := st.2.2.2) h) hq ha.1
      have q1 := (tNx_r tb hq).2.1
      rw [f1, xcv_e]
      have a1 : rAt tb L (tNx tb L q) st.2.1 st.2.2.1 g1 j1 := ⟨k1, by rw [z1 24 (by decide) (by decide) (by decide) (by decide)]; exact ha.2.1, by rw [z1 23 (by decide) (by decide) (by decide) (by decide)]; exact ha.2.2⟩
      have fr1 : sFr g g1 := fun x hx => z1 x (by omega) (by omega) (by omega) (by omega)
      have z9 : g1 9 = g 9 := z1 9 (by decide) (by decide) (by decide) (by decide)
      obtain ⟨t1, t2⟩ := r_thing (N := N) (C := st.2.2.2) h q1 h2 (by omega) a1
      have r := pTk_r (tb := tb) (nt := st.2.1) q1
      by_cases t : (pTk tb L (tNx tb L q) st.2.1).1 = true
      · simp only [if_pos t]
        obtain ⟨g2, j2, f2, a2, n2, fr2⟩ := t1 t
        have lt := (r.2 t).1
        rw [f2, xc_e, if_neg (show ¬ (1 : Int32) = 0 by decide), r_does h.1 a2.2.2 (by omega), xcv_e]
        have a3 : rAt tb L (pTk tb L (tNx tb L q) st.2.1).2.1 (st.2.1 + 1) (st.2.2.1 + 1 + 1) (va_up g2 23 (nI (st.2.2.1 + 1 + 1))) j2 := ⟨rTk_up (by omega) a2.1, by rw [up_ne (by decide)]; exact a2.2.1, xup_at _ _ _⟩
        have i := ih (pTk tb L (tNx tb L q) st.2.1).2.1 n (sOp (sAd st (pTk tb L (tNx tb L q) st.2.1).2.2.1 (pTk tb L (tNx tb L q) st.2.1).2.2.2 (tSn tb L q)) (tSn tb L q)) (va_up g2 23 (nI (st.2.2.1 + 1 + 1))) j2 (by show 40 < st.2.1 + 1 + m; omega) (by show st.2.1 + 1 ≤ 40; omega) (by show st.2.2.1 + 1 + 1 + 1 ≤ 2 * (st.2.1 + 1); omega) (by omega) r.1 a3
        exact rEn_m i (by rw [up_ne (by decide), n2, z9]) (fr1.tr (fr2.tr (fun x hx => up_ne (by omega))))
      · simp only [if_neg t]
        obtain ⟨g2, j2, f2, n2, fr2⟩ := t2 (bool_f t)
        rw [f2, xc_e, if_pos rfl]
        exact ⟨fun z => (by cases z), fun _ => ⟨g2, j2, _, rfl, n2, fr1.tr fr2⟩⟩
    unfold f_X10_readProduct_9
    rw [rW_1, ha.1.2.2.2.1]
    by_cases s1 : tSn tb L q = 42
    · have e := (tTk_n2 sg_42 tb L q).mpr s1
      rw [if_pos e]
      exact step (Or.inl s1) (e.trans s1.symm)
    rw [if_neg (fun z => s1 ((tTk_n2 sg_42 tb L q).mp z))]
    by_cases s2 : tSn tb L q = 47
    · have e := (tTk_n2 sg_47 tb L q).mpr s2
      rw [if_pos e]
      exact step (Or.inr s2) (e.trans s2.symm)
    rw [if_neg (fun z => s2 ((tTk_n2 sg_47 tb L q).mp z))]
    unfold pPr
    rw [if_neg (fun z => z.elim s1 s2)]
    exact ⟨fun _ => ⟨g, j, rfl, ha, rfl, fun _ _ => rfl⟩, fun z => (by cases z)⟩
theorem r_product {T : xT} {S : xS} {tb : Nat → Int32} {L q : Nat} {N g : Nat → Int32} {j : Nat → Int64} {st : pSt} {op : Int32} (h : rTb T S tb L) (h2 : st.2.1 ≤ 40) (h3 : st.2.2.1 ≤ 2 * st.2.1) (hq : q ≤ L) (ha : rAt tb L q st.2.1 st.2.2.1 g j) : rEn T S tb L N (pPd tb L 41 q st op) g (f_X10_readProduct T (rW (rB S N st.2.2.2) g j) 199) := by
  unfold f_X10_readProduct pPd
  obtain ⟨t1, t2⟩ := r_thing (N := N) (C := st.2.2.2) h hq h2 (by omega) ha
  have r := pTk_r (tb := tb) (nt := st.2.1) hq
  by_cases t : (pTk tb L q st.2.1).1 = true
  · simp only [if_pos t]
    obtain ⟨g2, j2, f2, a2, n2, fr2⟩ := t1 t
    have lt := (r.2 t).1
    rw [f2, xc_e, if_neg (show ¬ (1 : Int32) = 0 by decide)]
    exact rEn_m (L_rPr h 41 (pTk tb L q st.2.1).2.1 xfu (sAd st (pTk tb L q st.2.1).2.2.1 (pTk tb L q st.2.1).2.2.2 op) g2 j2 (by show 40 < st.2.1 + 1 + 41; omega) (by show st.2.1 + 1 ≤ 40; omega) (by show st.2.2.1 + 1 + 1 ≤ 2 * (st.2.1 + 1); omega) (by decide) r.1 a2) n2 fr2
  · simp only [if_neg t]
    obtain ⟨g2, j2, f2, n2, fr2⟩ := t2 (bool_f t)
    rw [f2, xc_e, if_pos rfl]
    exact ⟨fun z => (by cases z), fun _ => ⟨g2, j2, _, rfl, n2, fr2⟩⟩
theorem pPr_40 {tb : Nat → Int32} {L : Nat} : ∀ (m q : Nat) (st : pSt), q ≤ L → st.2.1 ≤ 40 → (pPr tb L m q st).2.2.2.1 ≤ 40 ∧ (pPr tb L m q st).2.1 ≤ L
  | 0, q, st, hq, h => ⟨h, hq⟩
  | m + 1, q, st, hq, h => by
    have q1 := (tNx_r tb hq).2.1
    have r := pTk_r (tb := tb) (nt := st.2.1) q1
    unfold pPr
    by_cases s : tSn tb L q = 42 ∨ tSn tb L q = 47
    · simp only [if_pos s]
      by_cases t : (pTk tb L (tNx tb L q) st.2.1).1 = true
      · simp only [if_pos t]
        exact pPr_40 m _ (sOp (sAd st (pTk tb L (tNx tb L q) st.2.1).2.2.1 (pTk tb L (tNx tb L q) st.2.1).2.2.2 (tSn tb L q)) (tSn tb L q)) r.1 (r.2 t).1
      · simp only [if_neg t]
        exact ⟨h, r.1⟩
    · simp only [if_neg s]
      exact ⟨h, hq⟩
theorem pPd_40 {tb : Nat → Int32} {L q : Nat} {st : pSt} {op : Int32} (hq : q ≤ L) (h : st.2.1 ≤ 40) : (pPd tb L 41 q st op).2.2.2.1 ≤ 40 ∧ (pPd tb L 41 q st op).2.1 ≤ L ∧ ((pPd tb L 41 q st op).1 = true → st.2.1 + 1 ≤ (pPd tb L 41 q st op).2.2.2.1) := by
  have r := pTk_r (tb := tb) (nt := st.2.1) hq
  unfold pPd
  by_cases t : (pTk tb L q st.2.1).1 = true
  · simp only [if_pos t]
    have a := pPr_40 (tb := tb) (L := L) 41 (pTk tb L q st.2.1).2.1 (sAd st (pTk tb L q st.2.1).2.2.1 (pTk tb L q st.2.1).2.2.2 op) r.1 (r.2 t).1
    exact ⟨a.1, a.2, fun _ => (pPr_le (tb := tb) (L := L) 41 (pTk tb L q st.2.1).2.1 (sAd st (pTk tb L q st.2.1).2.2.1 (pTk tb L q st.2.1).2.2.2 op)).1.1.1⟩
  · simp only [if_neg t]
    exact ⟨h, r.1, fun z => (by cases z)⟩
theorem L_rSm {T : xT} {S : xS} {tb : Nat → Int32} {L : Nat} {N : Nat → Int32} (h : rTb T S tb L) : ∀ (m q n : Nat) (st : pSt) (g : Nat → Int32) (j : Nat → Int64), 40 < st.2.1 + m → st.2.1 ≤ 40 → st.2.2.1 ≤ 2 * st.2.1 → m < n → q ≤ L → rAt tb L q st.2.1 st.2.2.1 g j → rEn T S tb L N (pSm tb L m q st) g (f_X10_readSum_9 T n (rW (rB S N st.2.2.2) g j) 199) := by
  intro m
  induction m with
  | zero => intro q n st g j h1 h2; omega
  | succ m ih =>
    intro q n st g j h1 h2 h3 hn hq ha
    obtain ⟨n, rfl⟩ : ∃ n', n = n' + 1 := ⟨n - 1, by omega⟩
    have step : tSn tb L q = 43 ∨ tSn tb L q = 45 → tTk tb L q = tSn tb L q → rEn T S tb L N (pSm tb L (m + 1) q st) g (f_X10_readSum_27 T (f_X10_readSum_9 T n) (rW (rB S N st.2.2.2) g j) 199) := fun s et => by
      unfold f_X10_readSum_27 pSm
      simp only [if_pos s]
      rw [rW_1, ha.1.2.2.2.1, xl_e, et]
      obtain ⟨g1, j1, f1, k1, z1⟩ := r_next (rB_h (N := N) (C := st.2.2.2) h) hq ha.1
      have q1 := (tNx_r tb hq).2.1
      rw [f1, xcv_e]
      have a1 : rAt tb L (tNx tb L q) st.2.1 st.2.2.1 g1 j1 := ⟨k1, by rw [z1 24 (by decide) (by decide) (by decide) (by decide)]; exact ha.2.1, by rw [z1 23 (by decide) (by decide) (by decide) (by decide)]; exact ha.2.2⟩
      have fr1 : sFr g g1 := fun x hx => z1 x (by omega) (by omega) (by omega) (by omega)
      have z9 : g1 9 = g 9 := z1 9 (by decide) (by decide) (by decide) (by decide)
      obtain ⟨t1, t2⟩ := r_product (N := N) (op := tSn tb L q) h h2 h3 q1 a1
      have le := pPd_le (tb := tb) (L := L) (m := 41) (q := tNx tb L q) (st := st) (op := tSn tb L q)
      have p40 := pPd_40 (tb := tb) (op := tSn tb L q) q1 h2
      generalize pPd tb L 41 (tNx tb L q) st (tSn tb L q) = P at *
      by_cases t : P.1 = true
      · simp only [if_pos t]
        obtain ⟨g2, j2, f2, a2, n2, fr2⟩ := t1 t
        have nc := le.2 t h3
        have nt := p40.2.2 t
        rw [f2, xc_e, if_neg (show ¬ (1 : Int32) = 0 by decide), r_does h.1 a2.2.2 (by omega), xcv_e]
        have a3 : rAt tb L P.2.1 P.2.2.2.1 (P.2.2.2.2.1 + 1) (va_up g2 23 (nI (P.2.2.2.2.1 + 1))) j2 := ⟨rTk_up (by omega) a2.1, by rw [up_ne (by decide)]; exact a2.2.1, xup_at _ _ _⟩
        have i := ih P.2.1 n (sOp P.2.2 (tSn tb L q)) (va_up g2 23 (nI (P.2.2.2.2.1 + 1))) j2 (by show 40 < P.2.2.2.1 + m; omega) p40.1 (by show P.2.2.2.2.1 + 1 ≤ 2 * P.2.2.2.1; omega) (by omega) p40.2.1 a3
        exact rEn_m i (by rw [up_ne (by decide), n2, z9]) (fr1.tr (fr2.tr (fun x hx => up_ne (by omega))))
      · simp only [if_neg t]
        obtain ⟨g2, j2, C2, f2, n2, fr2⟩ := t2 (bool_f t)
        rw [f2, xc_e, if_pos rfl]
        exact ⟨fun z => (by cases z), fun _ => ⟨g2, j2, _, rfl, n2, fr1.tr fr2⟩⟩
    unfold f_X10_readSum_9
    rw [rW_1, ha.1.2.2.2.1]
    by_cases s1 : tSn tb L q = 43
    · have e := (tTk_n2 sg_43 tb L q).mpr s1
      rw [if_pos e]
      exact step (Or.inl s1) (e.trans s1.symm)
    rw [if_neg (fun z => s1 ((tTk_n2 sg_43 tb L q).mp z))]
    by_cases s2 : tSn tb L q = 45
    · have e := (tTk_n2 sg_45 tb L q).mpr s2
      rw [if_pos e]
      exact step (Or.inr s2) (e.trans s2.symm)
    rw [if_neg (fun z => s2 ((tTk_n2 sg_45 tb L q).mp z))]
    unfold pSm
    rw [if_neg (fun z => z.elim s1 s2)]
    exact ⟨fun _ => ⟨g, j, rfl, ha, rfl, fun _ _ => rfl⟩, fun z => (by cases z)⟩
theorem pSm_40 {tb : Nat → Int32} {L : Nat} : ∀ (m q : Nat) (st : pSt), q ≤ L → st.2.1 ≤ 40 → (pSm tb L m q st).2.2.2.1 ≤ 40
  | 0, q, st, hq, h => h
  | m + 1, q, st, hq, h => by
    have q1 := (tNx_r tb hq).2.1
    have p := pPd_40 (tb := tb) (st := st) (op := tSn tb L q) q1 h
    unfold pSm
    by_cases s : tSn tb L q = 43 ∨ tSn tb L q = 45
    · simp only [if_pos s]
      by_cases t : (pPd tb L 41 (tNx tb L q) st (tSn tb L q)).1 = true
      · simp only [if_pos t]
        exact pSm_40 m _ (sOp (pPd tb L 41 (tNx tb L q) st (tSn tb L q)).2.2 (tSn tb L q)) p.2.1 p.1
      · simp only [if_neg t]
        exact p.1
    · simp only [if_neg s]
      exact h
theorem pSu_40 {tb : Nat → Int32} {L q : Nat} {st : pSt} (hq : q ≤ L) (h : st.2.1 ≤ 40) : (pSu tb L q st).2.2.2.1 ≤ 40 := by
  have p := pPd_40 (tb := tb) (st := st) (op := 43) hq h
  unfold pSu
  by_cases t : (pPd tb L 41 q st 43).1 = true
  · simp only [if_pos t]
    exact pSm_40 41 _ _ p.2.1 p.1
  · simp only [if_neg t]
    exact p.1
theorem r_sum {T : xT} {S : xS} {tb : Nat → Int32} {L q : Nat} {N g : Nat → Int32} {j : Nat → Int64} {st : pSt} (h : rTb T S tb L) (h2 : st.2.1 ≤ 40) (h3 : st.2.2.1 ≤ 2 * st.2.1) (hq : q ≤ L) (ha : rAt tb L q st.2.1 st.2.2.1 g j) : rEn T S tb L N (pSu tb L q st) g (f_X10_readSum T (rW (rB S N st.2.2.2) g j) 199) := by
  unfold f_X10_readSum pSu
  obtain ⟨t1, t2⟩ := r_product (N := N) (op := 43) h h2 h3 hq ha
  have le := pPd_le (tb := tb) (L := L) (m := 41) (q := q) (st := st) (op := 43)
  have p40 := pPd_40 (tb := tb) (op := 43) hq h2
  generalize pPd tb L 41 q st 43 = P at *
  by_cases t : P.1 = true
  · simp only [if_pos t]
    obtain ⟨g2, j2, f2, a2, n2, fr2⟩ := t1 t
    have nc := le.2 t h3
    rw [f2, xc_e, if_neg (show ¬ (1 : Int32) = 0 by decide)]
    exact rEn_m (L_rSm h 41 P.2.1 xfu P.2.2 g2 j2 (by omega) p40.1 (by omega) (by decide) p40.2.1 a2) n2 fr2
  · simp only [if_neg t]
    obtain ⟨g2, j2, C2, f2, n2, fr2⟩ := t2 (bool_f t)
    rw [f2, xc_e, if_pos rfl]
    exact ⟨fun z => (by cases z), fun _ => ⟨g2, j2, _, rfl, n2, fr2⟩⟩
/-! specials: reference -/
theorem rB_I {S : xS} {N C g : Nat → Int32} {j : Nat → Int64} {k : Nat} {v : Int32} : xI (rW (rB S N C) g j) 209 k v = rW (rB S (va_up N k v) C) g j := by
  rw [rW_c (by decide)]
  unfold rB
  rw [xw_c (show (209 : Nat) ≠ 210 by decide), xI_xw, xw_c (show (210 : Nat) ≠ 209 by decide)]
def gFr (g g' : Nat → Int32) : Prop := ∀ x, x < 5 ∨ (12 < x ∧ x ≠ 22 ∧ x ≠ 23 ∧ x ≠ 24) → g' x = g x
theorem gFr.tr {g g1 g2 : Nat → Int32} (h1 : gFr g g1) (h2 : gFr g1 g2) : gFr g g2 := fun x hx => (h2 x hx).trans (h1 x hx)
theorem gFr.of {g g1 : Nat → Int32} (h : sFr g g1) : gFr g g1 := fun x hx => h x (by omega)
def rGv (T : xT) (S : xS) (tb : Nat → Int32) (L k : Nat) (R : Bool × Nat × pGt) (g : Nat → Int32) (r : Option (Int32 × xS)) : Prop := (R.1 = true → ∃ g' j', r = some (1, rW (rB S R.2.2.2 R.2.2.1.2.2.2) g' j') ∧ rAt tb L R.2.1 R.2.2.1.2.1 R.2.2.1.2.2.1 g' j' ∧ g' 9 = g 9 ∧ g' 22 = nI (k + 1) ∧ gFr g g') ∧ (R.1 = false → ∃ g' j' N' C', r = some (0, rW (rB S N' C') g' j') ∧ g' 9 = nI (tPl tb L R.2.1) ∧ gFr g g')
theorem rGv_f {T : xT} {S : xS} {tb : Nat → Int32} {L k q : Nat} {G : pGt} {g g1 N C : Nat → Int32} {j : Nat → Int64} (h : g1 9 = nI (tPl tb L q)) (hf : gFr g g1) : rGv T S tb L k (false, q, G) g (some (0, rW (rB S N C) g1 j)) := ⟨fun z => (by cases z), fun _ => ⟨g1, j, N, C, rfl, h, hf⟩⟩
theorem r_232 {T : xT} {S : xS} {tb : Nat → Int32} {L k q : Nat} {G : pGt} {g g1 : Nat → Int32} {j : Nat → Int64} (h : rTb T S tb L) (hq : q ≤ L) (ha : rAt tb L q G.1.2.1 G.1.2.2.1 g1 j) (h22 : g1 22 = nI k) (h9 : g1 9 = g 9) (hf : gFr g g1) : rGv T S tb L k (pEn tb L q G) g (f_X10_readSpecial_232 T (rW (rB S G.2 G.1.2.2.2) g1 j) 199) := by
  unfold f_X10_readSpecial_232
  rw [xpi_e, rW_I, rW_1, h22, nI_1]
  obtain ⟨g2, j2, f2, k2⟩ := r_takes (rB_h (N := G.2) (C := G.1.2.2.2) h) hq (rTk_up (k := 22) (v := nI (k + 1)) (by omega) ha.1) sg_59
  rw [f2, xc_e]
  have fr : gFr g g2 := fun x hx => by rw [k2.2 x (by omega), up_ne (by omega)]; exact hf x hx
  unfold pEn
  by_cases s : tKd tb L q = 3 ∧ tb (tPl tb L q) = 59
  · have s' := (tSn_i (c := 59) (by decide) tb L q).mp s
    rw [if_pos s, xgd_h (by decide), if_pos s']
    rw [decide_eq_true s, if_pos s] at k2
    obtain ⟨k2', z2⟩ := r_afT rfl k2
    refine ⟨fun _ => ⟨g2, j2, rfl, ⟨k2', ?_, ?_⟩, ?_, ?_, fr⟩, fun z => (by cases z)⟩
    · rw [k2.2 24 (by decide), up_ne (by decide)]; exact ha.2.1
    · rw [k2.2 23 (by decide), up_ne (by decide)]; exact ha.2.2
    · rw [z2, up_ne (by decide)]; exact h9
    · rw [k2.2 22 (by decide), xup_at]
  · have s' : ¬ tSn tb L q = 59 := fun z => s ((tSn_i (c := 59) (by decide) tb L q).mpr z)
    rw [if_neg s, xgd_h (by decide), if_neg s']
    rw [decide_eq_false s, if_neg s] at k2
    exact rGv_f (r_afF rfl k2) fr
theorem r_special {T : xT} {S : xS} {tb : Nat → Int32} {L k q : Nat} {G : pGt} {g : Nat → Int32} {j : Nat → Int64} (h : rTb T S tb L) (hk : k < 8) (hq : q ≤ L) (h2 : G.1.2.1 ≤ 40) (h3 : G.1.2.2.1 ≤ 2 * G.1.2.1) (ha : rAt tb L q G.1.2.1 G.1.2.2.1 g j) (h22 : g 22 = nI k) (hw : tIw tb L q 3 = true) : rGv T S tb L k (pGv tb L (tNx tb L q) k G) g (f_X10_readSpecial T (rW (rB S G.2 G.1.2.2.2) g j) 199) := by
  have hl : T.2.1 209 = 48 := xTp_n h.1 48 (by decide) rfl
  have q1 := (tNx_r tb hq).2.1
  have e6 : (6 : Int32) * nI k = nI (6 * k) := pk_mul 6 k
  have i1 : nI (6 * k) + (1 : Int32) = nI (6 * k + 1) := nI_add (6 * k) 1
  have i2 : nI (6 * k) + (2 : Int32) = nI (6 * k + 2) := nI_add (6 * k) 2
  have i3 : nI (6 * k) + (3 : Int32) = nI (6 * k + 3) := nI_add (6 * k) 3
  have i4 : nI (6 * k) + (4 : Int32) = nI (6 * k + 4) := nI_add (6 * k) 4
  have i5 : nI (6 * k) + (5 : Int32) = nI (6 * k + 5) := nI_add (6 * k) 5
  unfold f_X10_readSpecial
  rw [wd_3, xc_e, r_isWord (i := 3) hq (by decide) ha.1 rfl, xc_e, if01, if_pos hw, rW_1, h22, if_neg (show ¬ nI k = (8 : Int32) from fun z => by have := (nI_eq (a := k) (b := 8) (by omega) (by omega)).mp z; omega)]
  obtain ⟨g1, j1, f1, k1, z1⟩ := r_next (rB_h (N := G.2) (C := G.1.2.2.2) h) hq ha.1
  rw [f1, xcv_e]
  have fr1 : gFr g g1 := fun x hx => z1 x (by omega) (by omega) (by omega) (by omega)
  obtain ⟨g2, j2, f2, k2, t2⟩ := r_takesPartner (rB_h (N := G.2) (C := G.1.2.2.2) h) q1 k1
  rw [f2, xc_e]
  have fr2 : gFr g g2 := fun x hx => (k2.2 x (by omega)).trans (fr1 x hx)
  have y22 : g2 22 = nI k := by rw [k2.2 22 (by decide), z1 22 (by decide) (by decide) (by decide) (by decide)]; exact h22
  have y23 : g2 23 = nI G.1.2.2.1 := by rw [k2.2 23 (by decide), z1 23 (by decide) (by decide) (by decide) (by decide)]; exact ha.2.2
  have y24 : g2 24 = nI G.1.2.1 := by rw [k2.2 24 (by decide), z1 24 (by decide) (by decide) (by decide) (by decide)]; exact ha.2.1
  unfold pGv
  by_cases a : tPn tb L (tNx tb L q) = -1
  · rw [show (if tPn tb L (tNx tb L q) ≠ -1 then (1 : Int32) else 0) = 0 from if_neg (fun z => z a), if_pos rfl, if_pos a]
    rw [decide_eq_false (fun z => z a), if_neg (fun z => z a)] at k2
    exact rGv_f (r_afF rfl k2) fr2
  rw [show (if tPn tb L (tNx tb L q) ≠ -1 then (1 : Int32) else 0) = 1 from if_pos a, if_neg (show ¬ (1 : Int32) = 0 by decide), if_neg a]
  rw [show (decide (tPn tb L (tNx tb L q) ≠ -1)) = true from decide_eq_true a, if_pos a] at k2
  obtain ⟨k2', z2⟩ := r_afT rfl k2
  have q2 := (tNx_r tb q1).2.1
  have z9 : g2 9 = g 9 := by rw [z2, z1 9 (by decide) (by decide) (by decide) (by decide)]
  rw [rW_1, y22, e6, xl_e, rr_199_20 (S := rW (rB S G.2 G.1.2.2.2) g2 j2) h.1, t2, xst_n hl (by omega) (by decide), rB_I, rr_199_20 (S := rW (rB S _ G.1.2.2.2) g2 j2) h.1, i1, xst_n hl (by omega) (by decide), rB_I, rr_199_20 (S := rW (rB S _ G.1.2.2.2) g2 j2) h.1, i2, rW_1, y23, xst_n hl (by omega) (by decide), rB_I]
  have a2 : rAt tb L (tNx tb L (tNx tb L q)) G.1.2.1 G.1.2.2.1 g2 j2 := ⟨k2', y24, y23⟩
  have s1 := r_sum (N := va_up (va_up (va_up G.2 (6 * k) (tPn tb L (tNx tb L q))) (6 * k + 1) 0) (6 * k + 2) (nI G.1.2.2.1)) (st := (xSe (xSe G.1.1 1 k (tPn tb L (tNx tb L q))) 2 k (nI G.1.2.1), G.1.2.1, G.1.2.2.1, G.1.2.2.2)) h h2 h3 q2 a2
  have le1 := pSu_le (tb := tb) (L := L) (q := tNx tb L (tNx tb L q)) (st := (xSe (xSe G.1.1 1 k (tPn tb L (tNx tb L q))) 2 k (nI G.1.2.1), G.1.2.1, G.1.2.2.1, G.1.2.2.2))
  have p40 := pSu_40 (tb := tb) (st := (xSe (xSe G.1.1 1 k (tPn tb L (tNx tb L q))) 2 k (nI G.1.2.1), G.1.2.1, G.1.2.2.1, G.1.2.2.2)) q2 h2
  have pq1 := pSu_q (tb := tb) (st := (xSe (xSe G.1.1 1 k (tPn tb L (tNx tb L q))) 2 k (nI G.1.2.1), G.1.2.1, G.1.2.2.1, G.1.2.2.2)) q2
  have hP : pSu tb L (tNx tb L (tNx tb L q)) (xSe (xSe G.1.1 1 k (tPn tb L (tNx tb L q))) 2 k (nI G.1.2.1), G.1.2.1, G.1.2.2.1, G.1.2.2.2) = pG1 tb L (tNx tb L q) k G := rfl
  rw [hP] at s1 le1 p40 pq1
  have hN1 : ∀ nc, nG1 tb L (tNx tb L q) k G nc = va_up (va_up (va_up (va_up (va_up (va_up G.2 (6 * k) (tPn tb L (tNx tb L q))) (6 * k + 1) 0) (6 * k + 2) (nI G.1.2.2.1)) (6 * k + 3) (nI nc)) (6 * k + 4) (nI nc)) (6 * k + 5) (nI nc) := fun nc => rfl
  generalize pG1 tb L (tNx tb L q) k G = P at *
  generalize va_up (va_up (va_up G.2 (6 * k) (tPn tb L (tNx tb L q))) (6 * k + 1) 0) (6 * k + 2) (nI G.1.2.2.1) = N1 at *
  by_cases b : P.1 = false
  · rw [if_pos b]
    obtain ⟨g3, j3, C3, f3, n3, fr3⟩ := s1.2 b
    have f3' : f_X10_readSum T (rW (rB S N1 G.1.2.2.2) g2 j2) 199 = _ := f3
    rw [f3', xc_e, if_pos rfl]
    exact rGv_f n3 (fr2.tr (gFr.of fr3))
  rw [if_neg b]
  have b' : P.1 = true := by cases hh : P.1 <;> simp_all
  obtain ⟨g3, j3, f3, a3, n3, fr3⟩ := s1.1 b'
  have nP : P.2.2.2.2.1 ≤ 2 * P.2.2.2.1 := le1.2 b' h3
  have f3' : f_X10_readSum T (rW (rB S N1 G.1.2.2.2) g2 j2) 199 = _ := f3
  have x22 : g3 22 = nI k := (fr3 22 (by omega)).trans y22
  have x9 : g3 9 = g 9 := n3.trans z9
  have frg3 : gFr g g3 := fr2.tr (gFr.of fr3)
  rw [f3', xc_e, if_neg (show ¬ (1 : Int32) = 0 by decide), rr_199_20 (S := rW (rB S N1 P.2.2.2.2.2) g3 j3) h.1, i3, rW_1, a3.2.2, xst_n hl (by omega) (by decide), rB_I, rr_199_20 (S := rW (rB S _ P.2.2.2.2.2) g3 j3) h.1, i4, rW_1, a3.2.2, xst_n hl (by omega) (by decide), rB_I, rr_199_20 (S := rW (rB S _ P.2.2.2.2.2) g3 j3) h.1, i5, rW_1, a3.2.2, xst_n hl (by omega) (by decide), rB_I, wd_11, xc_e, r_isWord (i := 11) pq1 (by decide) a3.1 rfl, xc_e, if01, ← hN1]
  generalize nG1 tb L (tNx tb L q) k G P.2.2.2.2.1 = N2 at *
  by_cases w : tIw tb L P.2.1 11 = true
  · rw [if_pos w, if_pos w]
    obtain ⟨g4, j4, f4, k4, z4⟩ := r_next (rB_h (N := N2) (C := P.2.2.2.2.2) h) pq1 a3.1
    have q3 := (tNx_r tb pq1).2.1
    rw [f4, xcv_e]
    have a4 : rAt tb L (tNx tb L P.2.1) P.2.2.2.1 P.2.2.2.2.1 g4 j4 := ⟨k4, by rw [z4 24 (by decide) (by decide) (by decide) (by decide)]; exact a3.2.1, by rw [z4 23 (by decide) (by decide) (by decide) (by decide)]; exact a3.2.2⟩
    have s2 := r_sum (N := N2) (st := (xSe (xSe P.2.2.1 3 k (nI P.2.2.2.1)) 6 k 32, P.2.2.2)) h p40 nP q3 a4
    have le2 := pSu_le (tb := tb) (L := L) (q := tNx tb L P.2.1) (st := (xSe (xSe P.2.2.1 3 k (nI P.2.2.2.1)) 6 k 32, P.2.2.2))
    have p402 := pSu_40 (tb := tb) (st := (xSe (xSe P.2.2.1 3 k (nI P.2.2.2.1)) 6 k 32, P.2.2.2)) q3 p40
    have pq2 := pSu_q (tb := tb) (st := (xSe (xSe P.2.2.1 3 k (nI P.2.2.2.1)) 6 k 32, P.2.2.2)) q3
    have hP2 : pSu tb L (tNx tb L P.2.1) (xSe (xSe P.2.2.1 3 k (nI P.2.2.2.1)) 6 k 32, P.2.2.2) = pG2 tb L k P := rfl
    rw [hP2] at s2 le2 p402 pq2
    have frg4 : gFr g g4 := frg3.tr (fun x hx => z4 x (by omega) (by omega) (by omega) (by omega))
    generalize pG2 tb L k P = P2 at *
    by_cases b2' : P2.1 = false
    · rw [if_pos b2']
      obtain ⟨g5, j5, C5, f5, n5, fr5⟩ := s2.2 b2'
      have f5' : f_X10_readSum T (rW (rB S N2 P.2.2.2.2.2) g4 j4) 199 = _ := f5
      rw [f5', xc_e, if_pos rfl]
      exact rGv_f n5 (frg4.tr (gFr.of fr5))
    rw [if_neg b2']
    have b2t : P2.1 = true := by cases hh : P2.1 <;> simp_all
    obtain ⟨g5, j5, f5, a5, n5, fr5⟩ := s2.1 b2t
    have nP2 : P2.2.2.2.2.1 ≤ 2 * P2.2.2.2.1 := le2.2 b2t nP
    have f5' : f_X10_readSum T (rW (rB S N2 P.2.2.2.2.2) g4 j4) 199 = _ := f5
    have frg5 : gFr g g5 := frg4.tr (gFr.of fr5)
    have w22 : g5 22 = nI k := (fr5 22 (by omega)).trans ((z4 22 (by decide) (by decide) (by decide) (by decide)).trans x22)
    have w9 : g5 9 = g 9 := n5.trans ((z4 9 (by decide) (by decide) (by decide) (by decide)).trans x9)
    rw [f5', xc_e, if_neg (show ¬ (1 : Int32) = 0 by decide), rr_199_20 (S := rW (rB S N2 P2.2.2.2.2.2) g5 j5) h.1, rW_1, a5.2.2, xst_n hl (by omega) (by decide), rB_I, rr_199_20 (S := rW (rB S _ P2.2.2.2.2.2) g5 j5) h.1, rW_1, a5.1.2.2.2.1, xst_n hl (by omega) (by decide), rB_I, rW_1, a5.1.2.2.2.1]
    have third : tSn tb L P2.2.1 = 60 ∨ tSn tb L P2.2.1 = 62 → tTk tb L P2.2.1 = tSn tb L P2.2.1 → rGv T S tb L k (if (pG3 tb L k P2).1 = false then (false, (pG3 tb L k P2).2.1, G) else pEn tb L (pG3 tb L k P2).2.1 ((xSe (pG3 tb L k P2).2.2.1 5 k (nI (pG3 tb L k P2).2.2.2.1), (pG3 tb L k P2).2.2.2), va_up (va_up (va_up N2 (6 * k + 4) (nI P2.2.2.2.2.1)) (6 * k + 1) (tSn tb L P2.2.1)) (6 * k + 5) (nI (pG3 tb L k P2).2.2.2.2.1))) g (f_X10_readSpecial_207 T (rW (rB S (va_up (va_up N2 (6 * k + 4) (nI P2.2.2.2.2.1)) (6 * k + 1) (tTk tb L P2.2.1)) P2.2.2.2.2.2) g5 j5) 199 (nI (6 * k))) := fun hs et => by
      unfold f_X10_readSpecial_207
      rw [et]
      generalize va_up (va_up N2 (6 * k + 4) (nI P2.2.2.2.2.1)) (6 * k + 1) (tSn tb L P2.2.1) = N3 at *
      obtain ⟨g6, j6, f6, k6, z6⟩ := r_next (rB_h (N := N3) (C := P2.2.2.2.2.2) h) pq2 a5.1
      have q4 := (tNx_r tb pq2).2.1
      rw [f6, xcv_e]
      have a6 : rAt tb L (tNx tb L P2.2.1) P2.2.2.2.1 P2.2.2.2.2.1 g6 j6 := ⟨k6, by rw [z6 24 (by decide) (by decide) (by decide) (by decide)]; exact a5.2.1, by rw [z6 23 (by decide) (by decide) (by decide) (by decide)]; exact a5.2.2⟩
      have s3 := r_sum (N := N3) (st := (xSe (xSe P2.2.2.1 4 k (nI P2.2.2.2.1)) 6 k (tSn tb L P2.2.1), P2.2.2.2)) h p402 nP2 q4 a6
      have pq3 := pSu_q (tb := tb) (st := (xSe (xSe P2.2.2.1 4 k (nI P2.2.2.2.1)) 6 k (tSn tb L P2.2.1), P2.2.2.2)) q4
      have hP3 : pSu tb L (tNx tb L P2.2.1) (xSe (xSe P2.2.2.1 4 k (nI P2.2.2.2.1)) 6 k (tSn tb L P2.2.1), P2.2.2.2) = pG3 tb L k P2 := rfl
      rw [hP3] at s3 pq3
      have frg6 : gFr g g6 := frg5.tr (fun x hx => z6 x (by omega) (by omega) (by omega) (by omega))
      generalize pG3 tb L k P2 = P3 at *
      by_cases b3 : P3.1 = false
      · rw [if_pos b3]
        obtain ⟨g7, j7, C7, f7, n7, fr7⟩ := s3.2 b3
        have f7' : f_X10_readSum T (rW (rB S N3 P2.2.2.2.2.2) g6 j6) 199 = _ := f7
        rw [f7', xc_e, if_pos rfl]
        exact rGv_f n7 (frg6.tr (gFr.of fr7))
      rw [if_neg b3]
      obtain ⟨g7, j7, f7, a7, n7, fr7⟩ := s3.1 (by cases hh : P3.1 <;> simp_all)
      have f7' : f_X10_readSum T (rW (rB S N3 P2.2.2.2.2.2) g6 j6) 199 = _ := f7
      rw [f7', xc_e, if_neg (show ¬ (1 : Int32) = 0 by decide), rr_199_20 (S := rW (rB S N3 P3.2.2.2.2.2) g7 j7) h.1, i5, rW_1, a7.2.2, xst_n hl (by omega) (by decide), rB_I]
      exact r_232 (G := ((xSe P3.2.2.1 5 k (nI P3.2.2.2.1), P3.2.2.2), va_up N3 (6 * k + 5) (nI P3.2.2.2.2.1))) h pq3 a7 ((fr7 22 (by omega)).trans ((z6 22 (by decide) (by decide) (by decide) (by decide)).trans w22)) (n7.trans ((z6 9 (by decide) (by decide) (by decide) (by decide)).trans w9)) (frg6.tr (gFr.of fr7))
    by_cases s60 : tSn tb L P2.2.1 = 60
    · have e := (tTk_n2 sg_60 tb L P2.2.1).mpr s60
      rw [if_pos e, if_pos (Or.inl s60)]
      exact third (Or.inl s60) (e.trans s60.symm)
    rw [if_neg (fun z => s60 ((tTk_n2 sg_60 tb L P2.2.1).mp z))]
    by_cases s62 : tSn tb L P2.2.1 = 62
    · have e := (tTk_n2 sg_62 tb L P2.2.1).mpr s62
      rw [if_pos e, if_pos (Or.inr s62)]
      exact third (Or.inr s62) (e.trans s62.symm)
    rw [if_neg (fun z => s62 ((tTk_n2 sg_62 tb L P2.2.1).mp z)), if_neg (fun z => z.elim s60 s62), r_fails a5.1, xc_e, xgd_h (by decide)]
    exact rGv_f (xup_at _ _ _) (frg5.tr (fun x hx => up_ne (by omega)))
  · rw [if_neg w, if_neg w]
    exact r_232 (G := ((xSe (xSe P.2.2.1 3 k (nI P.2.2.2.1)) 6 k 32, P.2.2.2), N2)) h pq1 a3 x22 x9 frg3
theorem pGv_40 {tb : Nat → Int32} {L q k : Nat} {G : pGt} (hq : q ≤ L) (h2 : G.1.2.1 ≤ 40) (ok : (pGv tb L q k G).1 = true) : (pGv tb L q k G).2.2.1.2.1 ≤ 40 := by
  have q1 := (tNx_r tb hq).2.1
  have pq1 : (pG1 tb L q k G).2.1 ≤ L := pSu_q q1
  have p1 : (pG1 tb L q k G).2.2.2.1 ≤ 40 := pSu_40 q1 h2
  unfold pGv at ok ⊢
  by_cases a : tPn tb L q = -1
  · rw [if_pos a]; exact h2
  simp only [if_neg a] at ok ⊢
  generalize pG1 tb L q k G = P at *
  by_cases b : P.1 = false
  · simp only [if_pos b] at ok; cases ok
  simp only [if_neg b] at ok ⊢
  by_cases w : tIw tb L P.2.1 11 = true
  · simp only [if_pos w] at ok ⊢
    have q2 := (tNx_r tb pq1).2.1
    have pq2 : (pG2 tb L k P).2.1 ≤ L := pSu_q q2
    have p2 : (pG2 tb L k P).2.2.2.1 ≤ 40 := pSu_40 q2 p1
    generalize pG2 tb L k P = P2 at *
    by_cases b2' : P2.1 = false
    · simp only [if_pos b2'] at ok; cases ok
    simp only [if_neg b2'] at ok ⊢
    by_cases s : tSn tb L P2.2.1 = 60 ∨ tSn tb L P2.2.1 = 62
    · simp only [if_pos s] at ok ⊢
      have q3 := (tNx_r tb pq2).2.1
      have p3 : (pG3 tb L k P2).2.2.2.1 ≤ 40 := pSu_40 q3 p2
      generalize pG3 tb L k P2 = P3 at *
      by_cases b3 : P3.1 = false
      · simp only [if_pos b3] at ok; cases ok
      simp only [if_neg b3] at ok ⊢
      rw [pEn_t ok]
      exact p3
    · simp only [if_neg s] at ok; cases ok
  · simp only [if_neg w] at ok ⊢
    rw [pEn_t ok]
    exact p1
theorem L_rSp {T : xT} {S : xS} {tb : Nat → Int32} {L : Nat} (h : rTb T S tb L) : ∀ (m k n q : Nat) (G : pGt) (g : Nat → Int32) (j : Nat → Int64), k + m = 8 → m < n → q ≤ L → G.1.2.1 ≤ 40 → G.1.2.2.1 ≤ 2 * G.1.2.1 → rAt tb L q G.1.2.1 G.1.2.2.1 g j → g 22 = nI k → ((pSp tb L m k q G).1 = true → ∃ g' j', f_X10_readSpecials_19 T n (rW (rB S G.2 G.1.2.2.2) g j) 199 = some (1, rW (rB S (pSp tb L m k q G).2.2.2.2 (pSp tb L m k q G).2.2.2.1.2.2.2) g' j') ∧ g' 9 = g 9 ∧ g' 22 = nI (pSp tb L m k q G).2.2.1 ∧ g' 23 = nI (pSp tb L m k q G).2.2.2.1.2.2.1 ∧ gFr g g') ∧ ((pSp tb L m k q G).1 = false → ∃ g' j' N' C', f_X10_readSpecials_19 T n (rW (rB S G.2 G.1.2.2.2) g j) 199 = some (0, rW (rB S N' C') g' j') ∧ g' 9 = nI (tPl tb L (pSp tb L m k q G).2.1) ∧ gFr g g') := by
  have stop : ∀ (k n q : Nat) (G : pGt) (g : Nat → Int32) (j : Nat → Int64), q ≤ L → rAt tb L q G.1.2.1 G.1.2.2.1 g j → g 22 = nI k → (tIw tb L q 3 = true → k = 8) → (decide (tKd tb L q = 0) = true → ∃ g' j', f_X10_readSpecials_19 T (n + 1) (rW (rB S G.2 G.1.2.2.2) g j) 199 = some (1, rW (rB S G.2 G.1.2.2.2) g' j') ∧ g' 9 = g 9 ∧ g' 22 = nI k ∧ g' 23 = nI G.1.2.2.1 ∧ gFr g g') ∧ (decide (tKd tb L q = 0) = false → ∃ g' j' N' C', f_X10_readSpecials_19 T (n + 1) (rW (rB S G.2 G.1.2.2.2) g j) 199 = some (0, rW (rB S N' C') g' j') ∧ g' 9 = nI (tPl tb L q) ∧ gFr g g') := fun k n q G g j hq ha h22 hw => by
    unfold f_X10_readSpecials_19
    rw [rW_1, ha.1.2.2.2.1]
    by_cases a : tKd tb L q = 0
    · rw [if_pos ((tTk_n (Or.inl rfl) tb L q).mpr a), decide_eq_true a]
      exact ⟨fun _ => ⟨g, j, rfl, rfl, h22, ha.2.2, fun _ _ => rfl⟩, fun z => (by cases z)⟩
    · rw [if_neg (fun z => a ((tTk_n (Or.inl rfl) tb L q).mp z)), decide_eq_false a]
      refine ⟨fun z => (by cases z), fun _ => ?_⟩
      unfold f_X10_readSpecial
      rw [wd_3, xc_e, r_isWord (i := 3) hq (by decide) ha.1 rfl, xc_e, if01]
      by_cases w : tIw tb L q 3 = true
      · rw [if_pos w, rW_1, h22, hw w, if_pos (show nI 8 = (8 : Int32) from rfl), r_fails ha.1, xc_e, xgd_h (by decide), xc_e, if_pos rfl]
        exact ⟨_, j, _, _, rfl, xup_at _ _ _, fun x hx => up_ne (by omega)⟩
      · rw [if_neg w, r_fails ha.1, xc_e, xgd_h (by decide), xc_e, if_pos rfl]
        exact ⟨_, j, _, _, rfl, xup_at _ _ _, fun x hx => up_ne (by omega)⟩
  intro m
  induction m with
  | zero =>
    intro k n q G g j hk hn hq h2 h3 ha h22
    obtain ⟨n, rfl⟩ : ∃ n', n = n' + 1 := ⟨n - 1, by omega⟩
    obtain rfl : k = 8 := by omega
    unfold pSp
    exact stop 8 n q G g j hq ha h22 (fun _ => rfl)
  | succ m ih =>
    intro k n q G g j hk hn hq h2 h3 ha h22
    obtain ⟨n, rfl⟩ : ∃ n', n = n' + 1 := ⟨n - 1, by omega⟩
    unfold pSp
    by_cases a : tIw tb L q 3 = true
    · simp only [if_pos a]
      have q1 := (tNx_r tb hq).2.1
      have nz : tKd tb L q ≠ 0 := fun z => by
        unfold tIw at a
        rw [z, if_neg (by decide)] at a
        cases a
      have rs := r_special h (show k < 8 by omega) hq h2 h3 ha h22 a
      have gk := fun ok => pGv_ok (tb := tb) (k := k) (G := G) q1 h3 ok
      have gq := fun ok => pGv_q (tb := tb) (k := k) (G := G) q1 ok
      have g4 := fun ok => pGv_40 (tb := tb) (k := k) (G := G) q1 h2 ok
      unfold f_X10_readSpecials_19
      rw [rW_1, ha.1.2.2.2.1, if_neg (fun z => nz ((tTk_n (Or.inl rfl) tb L q).mp z))]
      generalize pGv tb L (tNx tb L q) k G = R at *
      by_cases b : R.1 = true
      · simp only [if_pos b]
        obtain ⟨g1, j1, f1, a1, n1, s1, fr1⟩ := rs.1 b
        rw [f1, xc_e, if_neg (show ¬ (1 : Int32) = 0 by decide)]
        obtain ⟨i1, i2⟩ := ih (k + 1) n R.2.1 ((xSe R.2.2.1.1 0 0 (nI (k + 1)), R.2.2.1.2), R.2.2.2) g1 j1 (by omega) (by omega) (gq b) (g4 b) (gk b).2.1 a1 s1
        refine ⟨fun z => ?_, fun z => ?_⟩
        · obtain ⟨g2, j2, u1, u2, u3, u4, u5⟩ := i1 z
          exact ⟨g2, j2, u1, u2.trans n1, u3, u4, fr1.tr u5⟩
        · obtain ⟨g2, j2, N2, C2, u1, u2, u3⟩ := i2 z
          exact ⟨g2, j2, N2, C2, u1, u2, fr1.tr u3⟩
      · simp only [if_neg b]
        obtain ⟨g1, j1, N1, C1, f1, n1, fr1⟩ := rs.2 (bool_f b)
        rw [f1, xc_e, if_pos rfl]
        exact ⟨fun z => (by cases z), fun _ => ⟨g1, j1, N1, C1, rfl, n1, fr1⟩⟩
    · simp only [if_neg a]
      exact stop k n q G g j hq ha h22 (fun z => absurd z a)
theorem r_readSpecials {T : xT} {S : xS} {tb : Nat → Int32} {L : Nat} {X : Nat → Nat → Int32} {N C g : Nat → Int32} {j : Nat → Int64} (h : rTb T S tb L) (h5 : g 5 = nI L) : ((pSp tb L 8 0 0 ((X, 0, 0, C), N)).1 = true → ∃ g' j', f_X10_readSpecials T (rW (rB S N C) g j) 199 = some (1, rW (rB S (pSp tb L 8 0 0 ((X, 0, 0, C), N)).2.2.2.2 (pSp tb L 8 0 0 ((X, 0, 0, C), N)).2.2.2.1.2.2.2) g' j') ∧ g' 9 = -1 ∧ g' 22 = nI (pSp tb L 8 0 0 ((X, 0, 0, C), N)).2.2.1 ∧ g' 23 = nI (pSp tb L 8 0 0 ((X, 0, 0, C), N)).2.2.2.1.2.2.1 ∧ gFr g g') ∧ ((pSp tb L 8 0 0 ((X, 0, 0, C), N)).1 = false → ∃ g' j' N' C', f_X10_readSpecials T (rW (rB S N C) g j) 199 = some (0, rW (rB S N' C') g' j') ∧ g' 9 = nI (tPl tb L (pSp tb L 8 0 0 ((X, 0, 0, C), N)).2.1) ∧ gFr g g') := by
  unfold f_X10_readSpecials
  obtain ⟨g1, j1, f1, k1, n1, z1⟩ := r_begin (rB_h (N := N) (C := C) h) h5 (j := j)
  rw [f1, xcv_e, xpi_e, rW_I, xpi_e, rW_I, xpi_e, rW_I]
  have k2 : rTk tb L 0 (va_up (va_up (va_up g1 22 0) 23 0) 24 0) j1 := rTk_up (by omega) (rTk_up (by omega) (rTk_up (by omega) k1))
  have fr : gFr g (va_up (va_up (va_up g1 22 0) 23 0) 24 0) := fun x hx => by
    rw [up_ne (by omega), up_ne (by omega), up_ne (by omega)]; exact z1 x (by omega)
  obtain ⟨i1, i2⟩ := L_rSp (S := S) h 8 0 xfu 0 ((X, 0, 0, C), N) (va_up (va_up (va_up g1 22 0) 23 0) 24 0) j1 rfl (by decide) (by omega) (by show 0 ≤ 40; omega) (by show 0 ≤ 2 * 0; omega) ⟨k2, xup_at _ _ _, by rw [up_ne (by decide), xup_at]; rfl⟩ (by rw [up_ne (by decide), up_ne (by decide), xup_at]; rfl)
  refine ⟨fun z => ?_, fun z => ?_⟩
  · obtain ⟨g2, j2, u1, u2, u3, u4, u5⟩ := i1 z
    refine ⟨g2, j2, u1, ?_, u3, u4, fr.tr u5⟩
    rw [u2, up_ne (by decide), up_ne (by decide), up_ne (by decide)]; exact n1
  · obtain ⟨g2, j2, N2, C2, u1, u2, u3⟩ := i2 z
    exact ⟨g2, j2, N2, C2, u1, u2, fr.tr u3⟩
