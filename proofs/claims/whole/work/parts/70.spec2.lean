/-! sums of specials: class -/
def cTl (T : xT) (n : Nat) (S : xS) (p0 : Nat) (p3 : Int32) : Option (Int32 × xS) := xc (f_X3_isSign T S 1 ((43 : Int32))) (fun r6 S5 => if r6 = (0 : Int32) then xc (f_X3_isSign T S5 1 ((45 : Int32))) (fun r11 S10 => if r11 = (0 : Int32) then xc (f_X3_isSign T S10 1 ((42 : Int32))) (fun r16 S15 => if r16 = (0 : Int32) then xc (f_X3_isSign T S15 1 ((47 : Int32))) (fun r21 S20 => if r21 = (0 : Int32) then some ((1 : Int32), S20) else xl ((S20.1 1 3)) (fun v22 => xcv (f_X3_advance T S20 1) (fun S23 => xl (p3 + (1 : Int32)) (fun v24 => f_X4_readSum_5 T n S23 p0 1 v22 v24)))) else xl ((S15.1 1 3)) (fun v17 => xcv (f_X3_advance T S15 1) (fun S18 => xl (p3 + (1 : Int32)) (fun v19 => f_X4_readSum_5 T n S18 p0 1 v17 v19)))) else xl ((S10.1 1 3)) (fun v12 => xcv (f_X3_advance T S10 1) (fun S13 => xl (p3 + (1 : Int32)) (fun v14 => f_X4_readSum_5 T n S13 p0 1 v12 v14)))) else xl ((S5.1 1 3)) (fun v7 => xcv (f_X3_advance T S5 1) (fun S8 => xl (p3 + (1 : Int32)) (fun v9 => f_X4_readSum_5 T n S8 p0 1 v7 v9))))
theorem c_flat {T : xT} {S : xS} {p0 n : Nat} {op cnt : Int32} : f_X4_readSum_5 T (n + 1) S p0 1 op cnt = if (40 : Int32) < cnt then xc (f_X3_refuse T S 1) (fun r2 S1 => xgd (xnz r2) (some (r2, S1))) else xc (f_X4_readThing T S p0 1 op) (fun r4 S3 => if r4 = (0 : Int32) then some ((0 : Int32), S3) else cTl T n S3 p0 cnt) := by
  rw [f_X4_readSum_5]
  rfl
theorem sn_if {α : Type} {tb : Nat → Int32} {L q : Nat} {c : Int32} (hc : c ≠ 0) (X Y : α) : (if (if tKd tb L q = 3 ∧ tb (tPl tb L q) = c then (1 : Int32) else 0) = 0 then X else Y) = if tSn tb L q = c then Y else X := by
  by_cases s : tKd tb L q = 3 ∧ tb (tPl tb L q) = c
  · rw [if_pos s, if_neg (by decide), if_pos ((tSn_i hc tb L q).mp s)]
  · rw [if_neg s, if_pos rfl, if_neg (fun z => s ((tSn_i hc tb L q).mpr z))]
theorem c_tailY {T : xT} {S : xS} {tb : Nat → Int32} {L q n sa c : Nat} {g : Nat → Int32} (h : cTb T S tb L) (hq : q ≤ L) (hg : cTk tb L q g) (hs : isOp (tSn tb L q)) : ∃ g', cTl T n (xw S 1 g) sa (nI c) = f_X4_readSum_5 T n (xw S 1 g') sa 1 (tSn tb L q) (nI (c + 1)) ∧ cTk tb L (tNx tb L q) g' ∧ g' 2 = g 2 := by
  obtain ⟨g1, e1, k1, z1⟩ := c_next h hq hg
  have hne : tSn tb L q ≠ 0 := by rcases hs with z | z | z | z <;> (rw [z]; decide)
  have h3 : g 3 = tSn tb L q := by
    rw [hg.2.2.2.2.2 (tSn_3 hne)]
    unfold tSn
    rw [if_pos (tSn_3 hne)]
  refine ⟨g1, ?_, k1, z1⟩
  unfold cTl
  rw [c_isSign hg, xc_e, sn_if (by decide)]
  by_cases s1 : tSn tb L q = 43
  · rw [if_pos s1, xl_e, e1, xcv_e, xl_e, xw_1, h3, nI_1]
  rw [if_neg s1, c_isSign hg, xc_e, sn_if (by decide)]
  by_cases s2 : tSn tb L q = 45
  · rw [if_pos s2, xl_e, e1, xcv_e, xl_e, xw_1, h3, nI_1]
  rw [if_neg s2, c_isSign hg, xc_e, sn_if (by decide)]
  by_cases s3 : tSn tb L q = 42
  · rw [if_pos s3, xl_e, e1, xcv_e, xl_e, xw_1, h3, nI_1]
  rw [if_neg s3, c_isSign hg, xc_e, sn_if (by decide)]
  by_cases s4 : tSn tb L q = 47
  · rw [if_pos s4, xl_e, e1, xcv_e, xl_e, xw_1, h3, nI_1]
  · rcases hs with z | z | z | z
    · exact absurd z s1
    · exact absurd z s2
    · exact absurd z s3
    · exact absurd z s4
theorem c_tailN {T : xT} {S : xS} {tb : Nat → Int32} {L q n sa : Nat} {c : Int32} {g : Nat → Int32} (hg : cTk tb L q g) (hs : ¬ isOp (tSn tb L q)) : cTl T n (xw S 1 g) sa c = some (1, xw S 1 g) := by
  unfold cTl
  rw [c_isSign hg, xc_e, sn_if (by decide), if_neg (fun z => hs (Or.inl z)), c_isSign hg, xc_e, sn_if (by decide), if_neg (fun z => hs (Or.inr (Or.inl z))), c_isSign hg, xc_e, sn_if (by decide), if_neg (fun z => hs (Or.inr (Or.inr (Or.inl z)))), c_isSign hg, xc_e, sn_if (by decide), if_neg (fun z => hs (Or.inr (Or.inr (Or.inr z))))]
theorem xTh_01 {X : Nat → Nat → Int32} {nt : Nat} {kd vl op : Int32} : xTh X nt kd vl op 0 1 = nI (nt + 1) := by
  unfold xTh
  rw [xup_at, xup_at]
/-- where the class stands behind a thing -/
def cAt (tb : Nat → Int32) (L q nt n c : Nat) (X : Nat → Nat → Int32) (g : Nat → Int32) : Prop := nt ≤ 40 ∧ 100 ≤ n + nt ∧ c + 1 ≤ nt ∧ q ≤ L ∧ cTk tb L q g ∧ X 0 1 = nI nt
/-- one thing more -/
theorem c_one {T : xT} {S : xS} {tb : Nat → Int32} {L q sa nt n c : Nat} {X : Nat → Nat → Int32} {g : Nat → Int32} (h : cTb T S tb L) (si : xSi T S.2.2 sa) (hs : isOp (tSn tb L q)) (ha : cAt tb L q nt n c X g) : ((pTk tb L (tNx tb L q) nt).1 = true → ∃ g' n', cTl T n (xw (spB S sa X) 1 g) sa (nI c) = cTl T n' (xw (spB S sa (xTh X nt (pTk tb L (tNx tb L q) nt).2.2.1 (pTk tb L (tNx tb L q) nt).2.2.2 (tSn tb L q))) 1 g') sa (nI (c + 1)) ∧ g' 2 = g 2 ∧ cAt tb L (pTk tb L (tNx tb L q) nt).2.1 (nt + 1) n' (c + 1) (xTh X nt (pTk tb L (tNx tb L q) nt).2.2.1 (pTk tb L (tNx tb L q) nt).2.2.2 (tSn tb L q)) g') ∧ ((pTk tb L (tNx tb L q) nt).1 = false → ∃ g', cTl T n (xw (spB S sa X) 1 g) sa (nI c) = some (0, xw (spB S sa X) 1 g') ∧ g' 2 = nI (tPl tb L (pTk tb L (tNx tb L q) nt).2.1)) := by
  obtain ⟨a1, a2, a3, a4, a5, a6⟩ := ha
  have hb := spB_h (X := X) si h
  obtain ⟨g1, e1, k1, z1⟩ := c_tailY (n := n) (sa := sa) (c := c) hb a4 a5 hs
  have q1 := (tNx_r tb a4).2.1
  obtain ⟨n, rfl⟩ : ∃ n', n = n' + 1 := ⟨n - 1, by omega⟩
  obtain ⟨g2, e2, k2⟩ := c_thing h si q1 k1 hs a1 a6
  rw [z1] at k2
  rw [e1, c_flat, if_neg (show ¬ (40 : Int32) < nI (c + 1) from nI_nlt (a := 40) (b := c + 1) (by omega) (by omega)), e2, xc_e]
  refine ⟨fun z => ?_, fun z => ?_⟩
  · obtain ⟨k2', z2⟩ := c_af z k2
    have r := pTk_r (tb := tb) (nt := nt) q1
    simp only [z, if_true]
    rw [if_neg (show ¬ b2 true = 0 by decide)]
    exact ⟨g2, n, rfl, z2, by have := (r.2 z).1; omega, by omega, by omega, r.1, k2', xTh_01⟩
  · simp only [z]
    rw [if_pos (show b2 false = 0 by decide)]
    rw [if_neg (show ¬ false = true by decide)]
    exact ⟨g2, rfl, c_aff z k2⟩
theorem isOp_pr {c : Int32} (h : c = 42 ∨ c = 47) : isOp c := h.elim (fun z => Or.inr (Or.inr (Or.inl z))) (fun z => Or.inr (Or.inr (Or.inr z)))
theorem isOp_sm {c : Int32} (h : c = 43 ∨ c = 45) : isOp c := h.elim (fun z => Or.inl z) (fun z => Or.inr (Or.inl z))
theorem L_cPr {T : xT} {S : xS} {tb : Nat → Int32} {L sa : Nat} (h : cTb T S tb L) (si : xSi T S.2.2 sa) : ∀ (m q n c : Nat) (st : pSt) (g : Nat → Int32), 40 < st.2.1 + m → cAt tb L q st.2.1 n c st.1 g → ((pPr tb L m q st).1 = true → ∃ g' n' c', cTl T n (xw (spB S sa st.1) 1 g) sa (nI c) = cTl T n' (xw (spB S sa (pPr tb L m q st).2.2.1) 1 g') sa (nI c') ∧ g' 2 = g 2 ∧ cAt tb L (pPr tb L m q st).2.1 (pPr tb L m q st).2.2.2.1 n' c' (pPr tb L m q st).2.2.1 g' ∧ ¬ (tSn tb L (pPr tb L m q st).2.1 = 42 ∨ tSn tb L (pPr tb L m q st).2.1 = 47)) ∧ ((pPr tb L m q st).1 = false → ∃ g' X', cTl T n (xw (spB S sa st.1) 1 g) sa (nI c) = some (0, xw (spB S sa X') 1 g') ∧ g' 2 = nI (tPl tb L (pPr tb L m q st).2.1)) := by
  intro m
  induction m with
  | zero =>
    intro q n c st g hm ha
    have := ha.1
    omega
  | succ m ih =>
    intro q n c st g hm ha
    unfold pPr
    by_cases s : tSn tb L q = 42 ∨ tSn tb L q = 47
    · simp only [if_pos s]
      obtain ⟨o1, o2⟩ := c_one h si (isOp_pr s) ha
      by_cases t : (pTk tb L (tNx tb L q) st.2.1).1 = true
      · simp only [if_pos t]
        obtain ⟨g1, n1, e1, z1, a1⟩ := o1 t
        obtain ⟨i1, i2⟩ := ih (pTk tb L (tNx tb L q) st.2.1).2.1 n1 (c + 1) (sOp (sAd st (pTk tb L (tNx tb L q) st.2.1).2.2.1 (pTk tb L (tNx tb L q) st.2.1).2.2.2 (tSn tb L q)) (tSn tb L q)) g1 (by show 40 < (st.2.1 + 1) + m; omega) a1
        rw [e1]
        refine ⟨fun z => ?_, fun z => ?_⟩
        · obtain ⟨g2, n2, c2, f1, f2, f3, f4⟩ := i1 z
          exact ⟨g2, n2, c2, f1, f2.trans z1, f3, f4⟩
        · exact i2 z
      · simp only [if_neg t]
        refine ⟨fun z => (by cases z), fun _ => ?_⟩
        obtain ⟨g1, e1, z1⟩ := o2 (bool_f t)
        exact ⟨g1, _, e1, z1⟩
    · simp only [if_neg s]
      exact ⟨fun _ => ⟨g, n, c, rfl, rfl, ha, s⟩, fun z => (by cases z)⟩
theorem L_cSm {T : xT} {S : xS} {tb : Nat → Int32} {L sa : Nat} (h : cTb T S tb L) (si : xSi T S.2.2 sa) : ∀ (m q n c : Nat) (st : pSt) (g : Nat → Int32), 40 < st.2.1 + m → cAt tb L q st.2.1 n c st.1 g → ¬ (tSn tb L q = 42 ∨ tSn tb L q = 47) → ((pSm tb L m q st).1 = true → ∃ g', cTl T n (xw (spB S sa st.1) 1 g) sa (nI c) = some (1, xw (spB S sa (pSm tb L m q st).2.2.1) 1 g') ∧ g' 2 = g 2 ∧ cTk tb L (pSm tb L m q st).2.1 g' ∧ (pSm tb L m q st).2.1 ≤ L ∧ (pSm tb L m q st).2.2.2.1 ≤ 40 ∧ (pSm tb L m q st).2.2.1 0 1 = nI (pSm tb L m q st).2.2.2.1) ∧ ((pSm tb L m q st).1 = false → ∃ g' X', cTl T n (xw (spB S sa st.1) 1 g) sa (nI c) = some (0, xw (spB S sa X') 1 g') ∧ g' 2 = nI (tPl tb L (pSm tb L m q st).2.1)) := by
  intro m
  induction m with
  | zero =>
    intro q n c st g hm ha hs
    have := ha.1
    omega
  | succ m ih =>
    intro q n c st g hm ha hs
    unfold pSm
    by_cases s : tSn tb L q = 43 ∨ tSn tb L q = 45
    · simp only [if_pos s]
      obtain ⟨o1, o2⟩ := c_one h si (isOp_sm s) ha
      by_cases t : (pTk tb L (tNx tb L q) st.2.1).1 = true
      · have E : pPd tb L 41 (tNx tb L q) st (tSn tb L q) = pPr tb L 41 (pTk tb L (tNx tb L q) st.2.1).2.1 (sAd st (pTk tb L (tNx tb L q) st.2.1).2.2.1 (pTk tb L (tNx tb L q) st.2.1).2.2.2 (tSn tb L q)) := by unfold pPd; rw [if_pos t]
        rw [E]
        obtain ⟨g1, n1, e1, z1, a1⟩ := o1 t
        obtain ⟨i1, i2⟩ := L_cPr h si 41 (pTk tb L (tNx tb L q) st.2.1).2.1 n1 (c + 1) (sAd st (pTk tb L (tNx tb L q) st.2.1).2.2.1 (pTk tb L (tNx tb L q) st.2.1).2.2.2 (tSn tb L q)) g1 (by show 40 < (st.2.1 + 1) + 41; omega) a1
        have nt1 : st.2.1 + 1 ≤ (pPr tb L 41 (pTk tb L (tNx tb L q) st.2.1).2.1 (sAd st (pTk tb L (tNx tb L q) st.2.1).2.2.1 (pTk tb L (tNx tb L q) st.2.1).2.2.2 (tSn tb L q))).2.2.2.1 := by
          have mono : ∀ (m q : Nat) (st : pSt), st.2.1 ≤ (pPr tb L m q st).2.2.2.1 := by
            intro m
            induction m with
            | zero => intro q st; exact Nat.le_refl _
            | succ m ih =>
              intro q st
              unfold pPr
              split
              · split
                · exact Nat.le_trans (Nat.le_succ _) (ih _ (sOp (sAd st (pTk tb L (tNx tb L q) st.2.1).2.2.1 (pTk tb L (tNx tb L q) st.2.1).2.2.2 (tSn tb L q)) (tSn tb L q)))
                · exact Nat.le_refl _
              · exact Nat.le_refl _
          exact mono 41 _ (sAd st (pTk tb L (tNx tb L q) st.2.1).2.2.1 (pTk tb L (tNx tb L q) st.2.1).2.2.2 (tSn tb L q))
        generalize pPr tb L 41 (pTk tb L (tNx tb L q) st.2.1).2.1 (sAd st (pTk tb L (tNx tb L q) st.2.1).2.2.1 (pTk tb L (tNx tb L q) st.2.1).2.2.2 (tSn tb L q)) = P at *
        have e1' : cTl T n (xw (spB S sa st.1) 1 g) sa (nI c) = cTl T n1 (xw (spB S sa (sAd st (pTk tb L (tNx tb L q) st.2.1).2.2.1 (pTk tb L (tNx tb L q) st.2.1).2.2.2 (tSn tb L q)).1) 1 g1) sa (nI (c + 1)) := e1
        rw [e1']
        by_cases p : P.1 = true
        · simp only [if_pos p]
          obtain ⟨g2, n2, c2, f1, f2, f3, f4⟩ := i1 p
          rw [f1]
          obtain ⟨j1, j2⟩ := ih P.2.1 n2 c2 (sOp P.2.2 (tSn tb L q)) g2 (by show 40 < P.2.2.2.1 + m; omega) f3 f4
          refine ⟨fun z => ?_, fun z => j2 z⟩
          obtain ⟨g3, u1, u2, u3⟩ := j1 z
          exact ⟨g3, u1, u2.trans (f2.trans z1), u3⟩
        · simp only [if_neg p]
          exact ⟨fun z => (by cases z), fun _ => i2 (bool_f p)⟩
      · have E : pPd tb L 41 (tNx tb L q) st (tSn tb L q) = (false, (pTk tb L (tNx tb L q) st.2.1).2.1, st) := by unfold pPd; rw [if_neg t]
        rw [E]
        refine ⟨fun z => (by cases z), fun _ => ?_⟩
        obtain ⟨g1, e1, z1⟩ := o2 (bool_f t)
        exact ⟨g1, _, e1, z1⟩
    · simp only [if_neg s]
      refine ⟨fun _ => ?_, fun z => (by cases z)⟩
      obtain ⟨a1, a2, a3, a4, a5, a6⟩ := ha
      refine ⟨g, c_tailN a5 (fun z => ?_), rfl, a5, a4, a1, a6⟩
      rcases z with z | z | z | z
      · exact s (Or.inl z)
      · exact s (Or.inr z)
      · exact hs (Or.inl z)
      · exact hs (Or.inr z)
theorem c_sum {T : xT} {S : xS} {tb : Nat → Int32} {L sa q : Nat} (h : cTb T S tb L) (si : xSi T S.2.2 sa) {st : pSt} {g : Nat → Int32} (hq : q ≤ L) (hg : cTk tb L q g) (hn : st.2.1 ≤ 40) (hX : st.1 0 1 = nI st.2.1) : ((pSu tb L q st).1 = true → ∃ g', f_X4_readSum T (xw (spB S sa st.1) 1 g) sa 1 = some (1, xw (spB S sa (pSu tb L q st).2.2.1) 1 g') ∧ g' 2 = g 2 ∧ cTk tb L (pSu tb L q st).2.1 g' ∧ (pSu tb L q st).2.1 ≤ L ∧ (pSu tb L q st).2.2.2.1 ≤ 40 ∧ (pSu tb L q st).2.2.1 0 1 = nI (pSu tb L q st).2.2.2.1) ∧ ((pSu tb L q st).1 = false → ∃ g' X', f_X4_readSum T (xw (spB S sa st.1) 1 g) sa 1 = some (0, xw (spB S sa X') 1 g') ∧ g' 2 = nI (tPl tb L (pSu tb L q st).2.1)) := by
  unfold f_X4_readSum
  rw [xl_e, xl_e, show f_X4_readSum_5 T xfu (xw (spB S sa st.1) 1 g) sa 1 43 0 = f_X4_readSum_5 T (999 + 1) (xw (spB S sa st.1) 1 g) sa 1 43 (nI 0) from rfl, c_flat, if_neg (show ¬ (40 : Int32) < nI 0 by decide)]
  obtain ⟨g1, e1, k1⟩ := c_thing h si hq hg (op := 43) (Or.inl rfl) hn hX
  rw [e1, xc_e]
  unfold pSu
  by_cases t : (pTk tb L q st.2.1).1 = true
  · have E : pPd tb L 41 q st 43 = pPr tb L 41 (pTk tb L q st.2.1).2.1 (sAd st (pTk tb L q st.2.1).2.2.1 (pTk tb L q st.2.1).2.2.2 43) := by unfold pPd; rw [if_pos t]
    rw [if_neg (show ¬ b2 (pTk tb L q st.2.1).1 = 0 by rw [t]; decide), if_pos t, E]
    obtain ⟨k1', z1⟩ := c_af t k1
    have r := pTk_r (tb := tb) (nt := st.2.1) hq
    obtain ⟨i1, i2⟩ := L_cPr h si 41 (pTk tb L q st.2.1).2.1 999 0 (sAd st (pTk tb L q st.2.1).2.2.1 (pTk tb L q st.2.1).2.2.2 43) g1 (by show 40 < (st.2.1 + 1) + 41; omega) ⟨by have := (r.2 t).1; show st.2.1 + 1 ≤ 40; omega, by omega, by show 0 + 1 ≤ st.2.1 + 1; omega, r.1, k1', xTh_01 (X := st.1) (nt := st.2.1) (kd := (pTk tb L q st.2.1).2.2.1) (vl := (pTk tb L q st.2.1).2.2.2) (op := 43)⟩
    generalize pPr tb L 41 (pTk tb L q st.2.1).2.1 (sAd st (pTk tb L q st.2.1).2.2.1 (pTk tb L q st.2.1).2.2.2 43) = P at *
    by_cases p : P.1 = true
    · simp only [if_pos p]
      obtain ⟨g2, n2, c2, f1, f2, f3, f4⟩ := i1 p
      have f1' : cTl T 999 (xw (spB S sa (xTh st.1 st.2.1 (pTk tb L q st.2.1).2.2.1 (pTk tb L q st.2.1).2.2.2 43)) 1 g1) sa (nI 0) = _ := f1
      rw [f1']
      obtain ⟨j1, j2⟩ := L_cSm h si 41 P.2.1 n2 c2 P.2.2 g2 (by omega) f3 f4
      refine ⟨fun z => ?_, fun z => j2 z⟩
      obtain ⟨g3, u1, u2, u3⟩ := j1 z
      exact ⟨g3, u1, u2.trans (f2.trans z1), u3⟩
    · simp only [if_neg p]
      exact ⟨fun z => (by cases z), fun _ => i2 (bool_f p)⟩
  · have E : pPd tb L 41 q st 43 = (false, (pTk tb L q st.2.1).2.1, st) := by unfold pPd; rw [if_neg t]
    rw [if_pos (show b2 (pTk tb L q st.2.1).1 = 0 by rw [bool_f t]; rfl), if_neg t, E]
    refine ⟨fun z => (by cases z), fun _ => ?_⟩
    exact ⟨g1, _, rfl, c_aff (bool_f t) k1⟩
