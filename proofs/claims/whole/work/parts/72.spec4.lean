/-! what is read stays; codes are those of things -/
def pLe (s s' : pSt) : Prop := s.2.1 ≤ s'.2.1 ∧ s.2.2.1 ≤ s'.2.2.1 ∧ (∀ t, t < s.2.1 → s'.1 7 t = s.1 7 t ∧ s'.1 8 t = s.1 8 t ∧ s'.1 9 t = s.1 9 t) ∧ ∀ c, c < s.2.2.1 → s'.2.2.2 c = s.2.2.2 c
def pSa (s s' : pSt) : Prop := (∀ i, 1 ≤ i → i ≤ 6 → s'.1 i = s.1 i) ∧ s'.1 0 0 = s.1 0 0
theorem pLe.rf (s : pSt) : pLe s s := ⟨Nat.le_refl _, Nat.le_refl _, fun _ _ => ⟨rfl, rfl, rfl⟩, fun _ _ => rfl⟩
theorem pLe.tr {s s1 s2 : pSt} (h : pLe s s1) (h1 : pLe s1 s2) : pLe s s2 := ⟨Nat.le_trans h.1 h1.1, Nat.le_trans h.2.1 h1.2.1, fun t ht => by
  have hb := h1.2.2.1 t (Nat.lt_of_lt_of_le ht h.1)
  have ha := h.2.2.1 t ht
  exact ⟨hb.1.trans ha.1, hb.2.1.trans ha.2.1, hb.2.2.trans ha.2.2⟩, fun c hc => (h1.2.2.2 c (Nat.lt_of_lt_of_le hc h.2.1)).trans (h.2.2.2 c hc)⟩
theorem pSa.rf (s : pSt) : pSa s s := ⟨fun _ _ _ => rfl, rfl⟩
theorem pSa.tr {s s1 s2 : pSt} (h : pSa s s1) (h1 : pSa s1 s2) : pSa s s2 := ⟨fun i a b => (h1.1 i a b).trans (h.1 i a b), h1.2.trans h.2⟩
theorem xTh_7 (X : Nat → Nat → Int32) (nt : Nat) (kd vl op : Int32) : xTh X nt kd vl op 7 = va_up (X 7) nt kd := by
  unfold xTh
  rw [va_up_ne _ _ (by decide), va_up_ne _ _ (by decide), va_up_ne _ _ (by decide), xup_at]
theorem xTh_8 (X : Nat → Nat → Int32) (nt : Nat) (kd vl op : Int32) : xTh X nt kd vl op 8 = va_up (X 8) nt vl := by
  unfold xTh
  rw [va_up_ne _ _ (by decide), va_up_ne _ _ (by decide), xup_at]
theorem xTh_9 (X : Nat → Nat → Int32) (nt : Nat) (kd vl op : Int32) : xTh X nt kd vl op 9 = va_up (X 9) nt op := by
  unfold xTh
  rw [va_up_ne _ _ (by decide), xup_at]
theorem xTh_i {X : Nat → Nat → Int32} {nt i : Nat} {kd vl op : Int32} (h1 : 1 ≤ i) (h2 : i ≤ 6) : xTh X nt kd vl op i = X i := by
  unfold xTh
  rw [va_up_ne _ _ (by omega), va_up_ne _ _ (by omega), va_up_ne _ _ (by omega), va_up_ne _ _ (by omega)]
theorem pLe_Ad (s : pSt) (kd vl op : Int32) : pLe s (sAd s kd vl op) ∧ pSa s (sAd s kd vl op) := by
  unfold sAd
  refine ⟨⟨Nat.le_succ _, Nat.le_succ _, fun t ht => ?_, fun c hc => ?_⟩, fun i h1 h2 => xTh_i h1 h2, ?_⟩
  · show xTh s.1 s.2.1 kd vl op 7 t = _ ∧ xTh s.1 s.2.1 kd vl op 8 t = _ ∧ xTh s.1 s.2.1 kd vl op 9 t = _
    rw [xTh_7, xTh_8, xTh_9]
    exact ⟨up_ne (by omega), up_ne (by omega), up_ne (by omega)⟩
  · exact up_ne (by omega)
  · show xTh s.1 s.2.1 kd vl op 0 0 = _
    unfold xTh
    rw [xup_at, up_ne (by decide)]
theorem pLe_Op (s : pSt) (op : Int32) : pLe s (sOp s op) ∧ pSa s (sOp s op) := ⟨⟨Nat.le_refl _, Nat.le_succ _, fun _ _ => ⟨rfl, rfl, rfl⟩, fun c hc => up_ne (by omega)⟩, fun _ _ _ => rfl, rfl⟩
theorem pPr_le {tb : Nat → Int32} {L : Nat} : ∀ (m q : Nat) (st : pSt), (pLe st (pPr tb L m q st).2.2 ∧ pSa st (pPr tb L m q st).2.2) ∧ (st.2.2.1 + 1 ≤ 2 * st.2.1 → (pPr tb L m q st).2.2.2.2.1 + 1 ≤ 2 * (pPr tb L m q st).2.2.2.1)
  | 0, q, st => ⟨⟨pLe.rf st, pSa.rf st⟩, fun h => h⟩
  | m + 1, q, st => by
    unfold pPr
    by_cases s : tSn tb L q = 42 ∨ tSn tb L q = 47
    · simp only [if_pos s]
      by_cases t : (pTk tb L (tNx tb L q) st.2.1).1 = true
      · simp only [if_pos t]
        have a := pLe_Ad st (pTk tb L (tNx tb L q) st.2.1).2.2.1 (pTk tb L (tNx tb L q) st.2.1).2.2.2 (tSn tb L q)
        have b := pLe_Op (sAd st (pTk tb L (tNx tb L q) st.2.1).2.2.1 (pTk tb L (tNx tb L q) st.2.1).2.2.2 (tSn tb L q)) (tSn tb L q)
        have c := pPr_le (tb := tb) (L := L) m (pTk tb L (tNx tb L q) st.2.1).2.1 (sOp (sAd st (pTk tb L (tNx tb L q) st.2.1).2.2.1 (pTk tb L (tNx tb L q) st.2.1).2.2.2 (tSn tb L q)) (tSn tb L q))
        exact ⟨⟨(a.1.tr b.1).tr c.1.1, (a.2.tr b.2).tr c.1.2⟩, fun h => c.2 (by show st.2.2.1 + 1 + 1 + 1 ≤ 2 * (st.2.1 + 1); omega)⟩
      · simp only [if_neg t]
        exact ⟨⟨pLe.rf st, pSa.rf st⟩, fun h => h⟩
    · simp only [if_neg s]
      exact ⟨⟨pLe.rf st, pSa.rf st⟩, fun h => h⟩
theorem pPd_le {tb : Nat → Int32} {L m q : Nat} {st : pSt} {op : Int32} : (pLe st (pPd tb L m q st op).2.2 ∧ pSa st (pPd tb L m q st op).2.2) ∧ ((pPd tb L m q st op).1 = true → st.2.2.1 ≤ 2 * st.2.1 → (pPd tb L m q st op).2.2.2.2.1 + 1 ≤ 2 * (pPd tb L m q st op).2.2.2.1) := by
  unfold pPd
  by_cases t : (pTk tb L q st.2.1).1 = true
  · simp only [if_pos t]
    have a := pLe_Ad st (pTk tb L q st.2.1).2.2.1 (pTk tb L q st.2.1).2.2.2 op
    have c := pPr_le (tb := tb) (L := L) m (pTk tb L q st.2.1).2.1 (sAd st (pTk tb L q st.2.1).2.2.1 (pTk tb L q st.2.1).2.2.2 op)
    exact ⟨⟨a.1.tr c.1.1, a.2.tr c.1.2⟩, fun _ h => c.2 (by show st.2.2.1 + 1 + 1 ≤ 2 * (st.2.1 + 1); omega)⟩
  · simp only [if_neg t]
    exact ⟨⟨pLe.rf st, pSa.rf st⟩, fun z => (by cases z)⟩
theorem pSm_le {tb : Nat → Int32} {L : Nat} : ∀ (m q : Nat) (st : pSt), (pLe st (pSm tb L m q st).2.2 ∧ pSa st (pSm tb L m q st).2.2) ∧ ((pSm tb L m q st).1 = true → st.2.2.1 ≤ 2 * st.2.1 → (pSm tb L m q st).2.2.2.2.1 ≤ 2 * (pSm tb L m q st).2.2.2.1)
  | 0, q, st => ⟨⟨pLe.rf st, pSa.rf st⟩, fun _ h => h⟩
  | m + 1, q, st => by
    unfold pSm
    by_cases s : tSn tb L q = 43 ∨ tSn tb L q = 45
    · simp only [if_pos s]
      have a := pPd_le (tb := tb) (L := L) (m := 41) (q := tNx tb L q) (st := st) (op := tSn tb L q)
      by_cases t : (pPd tb L 41 (tNx tb L q) st (tSn tb L q)).1 = true
      · simp only [if_pos t]
        have b := pLe_Op (pPd tb L 41 (tNx tb L q) st (tSn tb L q)).2.2 (tSn tb L q)
        have c := pSm_le (tb := tb) (L := L) m (pPd tb L 41 (tNx tb L q) st (tSn tb L q)).2.1 (sOp (pPd tb L 41 (tNx tb L q) st (tSn tb L q)).2.2 (tSn tb L q))
        exact ⟨⟨(a.1.1.tr b.1).tr c.1.1, (a.1.2.tr b.2).tr c.1.2⟩, fun z h => c.2 z (a.2 t h)⟩
      · simp only [if_neg t]
        exact ⟨a.1, fun z => (by cases z)⟩
    · simp only [if_neg s]
      exact ⟨⟨pLe.rf st, pSa.rf st⟩, fun _ h => h⟩
theorem pSu_le {tb : Nat → Int32} {L q : Nat} {st : pSt} : (pLe st (pSu tb L q st).2.2 ∧ pSa st (pSu tb L q st).2.2) ∧ ((pSu tb L q st).1 = true → st.2.2.1 ≤ 2 * st.2.1 → (pSu tb L q st).2.2.2.2.1 ≤ 2 * (pSu tb L q st).2.2.2.1) := by
  unfold pSu
  have a := pPd_le (tb := tb) (L := L) (m := 41) (q := q) (st := st) (op := 43)
  by_cases t : (pPd tb L 41 q st 43).1 = true
  · simp only [if_pos t]
    have c := pSm_le (tb := tb) (L := L) 41 (pPd tb L 41 q st 43).2.1 (pPd tb L 41 q st 43).2.2
    exact ⟨⟨a.1.1.tr c.1.1, a.1.2.tr c.1.2⟩, fun z h => c.2 z (by have := a.2 t h; omega)⟩
  · simp only [if_neg t]
    exact ⟨a.1, fun z => (by cases z)⟩
theorem Ad_at {st F : pSt} {kd vl op : Int32} (h : pLe (sAd st kd vl op) F) : F.1 7 st.2.1 = kd ∧ F.1 8 st.2.1 = vl ∧ F.1 9 st.2.1 = op ∧ F.2.2.2 st.2.2.1 = encv kd vl := by
  obtain ⟨_, _, h3, h4⟩ := h
  obtain ⟨a, b, c⟩ := h3 st.2.1 (Nat.lt_succ_self _)
  have d := h4 st.2.2.1 (Nat.lt_succ_self _)
  rw [a, b, c, d]
  show xTh st.1 st.2.1 kd vl op 7 st.2.1 = kd ∧ xTh st.1 st.2.1 kd vl op 8 st.2.1 = vl ∧ xTh st.1 st.2.1 kd vl op 9 st.2.1 = op ∧ va_up st.2.2.2 st.2.2.1 (encv kd vl) st.2.2.1 = encv kd vl
  rw [xTh_7, xTh_8, xTh_9, xup_at, xup_at, xup_at, xup_at]
  exact ⟨rfl, rfl, rfl, rfl⟩
theorem Op_at {st F : pSt} {op : Int32} (h : pLe (sOp st op) F) : F.2.2.2 st.2.2.1 = 3000000 + op := by
  rw [h.2.2.2 st.2.2.1 (Nat.lt_succ_self _)]
  exact xup_at _ _ _
theorem pPr_cw {tb : Nat → Int32} {L : Nat} : ∀ (m q : Nat) (st : pSt), q ≤ L → (pPr tb L m q st).1 = true → ∀ (F : pSt) (pe : Int32) (C m2 : Nat), pLe (pPr tb L m q st).2.2 F → cw (F.1 7) (F.1 8) (F.1 9) F.2.2.2 m2 (pPr tb L m q st).2.2.2.1 (pPr tb L m q st).2.2.2.2.1 pe C → cw (F.1 7) (F.1 8) (F.1 9) F.2.2.2 (m2 + ((pPr tb L m q st).2.2.2.1 - st.2.1)) st.2.1 st.2.2.1 pe C
  | 0, q, st, hq, ok, F, pe, C, m2, hF, hc => by cases ok
  | m + 1, q, st, hq, ok, F, pe, C, m2, hF, hc => by
    unfold pPr at ok hF hc ⊢
    by_cases s : tSn tb L q = 42 ∨ tSn tb L q = 47
    · simp only [if_pos s] at ok hF hc ⊢
      by_cases t : (pTk tb L (tNx tb L q) st.2.1).1 = true
      · simp only [if_pos t] at ok hF hc ⊢
        have q1 := (tNx_r tb hq).2.1
        have r := pTk_r (tb := tb) (nt := st.2.1) q1
        generalize pTk tb L (tNx tb L q) st.2.1 = K at *
        have le := (pPr_le (tb := tb) (L := L) m K.2.1 (sOp (sAd st K.2.2.1 K.2.2.2 (tSn tb L q)) (tSn tb L q))).1.1
        have ih := pPr_cw m K.2.1 (sOp (sAd st K.2.2.1 K.2.2.2 (tSn tb L q)) (tSn tb L q)) r.1 ok F pe C m2 hF hc
        have n1 : st.2.1 + 1 ≤ (pPr tb L m K.2.1 (sOp (sAd st K.2.2.1 K.2.2.2 (tSn tb L q)) (tSn tb L q))).2.2.2.1 := le.1
        have leF := le.tr hF
        have o := Op_at leF
        have ad := Ad_at ((pLe_Op (sAd st K.2.2.1 K.2.2.2 (tSn tb L q)) (tSn tb L q)).1.tr leF)
        have o' : F.2.2.2 (st.2.2.1 + 1) = 3000000 + tSn tb L q := o
        have e : m2 + ((pPr tb L m K.2.1 (sOp (sAd st K.2.2.1 K.2.2.2 (tSn tb L q)) (tSn tb L q))).2.2.2.1 - st.2.1) = (m2 + ((pPr tb L m K.2.1 (sOp (sAd st K.2.2.1 K.2.2.2 (tSn tb L q)) (tSn tb L q))).2.2.2.1 - (st.2.1 + 1))) + 1 := by omega
        rw [e]
        unfold cw
        rw [ad.1, ad.2.1, ad.2.2.1, ad.2.2.2, o']
        exact ⟨(r.2 t).2, Or.inl ⟨s, rfl, rfl, ih⟩⟩
      · simp only [if_neg t] at ok
        cases ok
    · simp only [if_neg s] at ok hF hc ⊢
      rw [Nat.sub_self]
      exact hc
theorem pSm_cw {tb : Nat → Int32} {L : Nat} : ∀ (m q : Nat) (st : pSt), q ≤ L → (pSm tb L m q st).1 = true → ∀ (F : pSt), pLe (pSm tb L m q st).2.2 F → cw (F.1 7) (F.1 8) (F.1 9) F.2.2.2 ((pSm tb L m q st).2.2.2.1 - st.2.1) st.2.1 st.2.2.1 0 (pSm tb L m q st).2.2.2.2.1 ∧ ∀ pe, (pe = 43 ∨ pe = 45) → 1 ≤ st.2.2.1 → F.2.2.2 (st.2.2.1 - 1) = 3000000 + pe → cw (F.1 7) (F.1 8) (F.1 9) F.2.2.2 ((pSm tb L m q st).2.2.2.1 - st.2.1) st.2.1 (st.2.2.1 - 1) pe (pSm tb L m q st).2.2.2.2.1
  | 0, q, st, hq, ok, F, hF => by cases ok
  | m + 1, q, st, hq, ok, F, hF => by
    unfold pSm at ok hF ⊢
    by_cases s : tSn tb L q = 43 ∨ tSn tb L q = 45
    · simp only [if_pos s] at ok hF ⊢
      by_cases t : (pTk tb L (tNx tb L q) st.2.1).1 = true
      · have E : pPd tb L 41 (tNx tb L q) st (tSn tb L q) = pPr tb L 41 (pTk tb L (tNx tb L q) st.2.1).2.1 (sAd st (pTk tb L (tNx tb L q) st.2.1).2.2.1 (pTk tb L (tNx tb L q) st.2.1).2.2.2 (tSn tb L q)) := by unfold pPd; rw [if_pos t]
        rw [E] at ok hF ⊢
        have q1 := (tNx_r tb hq).2.1
        have r := pTk_r (tb := tb) (nt := st.2.1) q1
        generalize pTk tb L (tNx tb L q) st.2.1 = K at *
        have le1 := (pPr_le (tb := tb) (L := L) 41 K.2.1 (sAd st K.2.2.1 K.2.2.2 (tSn tb L q))).1.1
        have pcw := pPr_cw (tb := tb) (L := L) 41 K.2.1 (sAd st K.2.2.1 K.2.2.2 (tSn tb L q)) r.1
        have pq : (pPr tb L 41 K.2.1 (sAd st K.2.2.1 K.2.2.2 (tSn tb L q))).2.1 ≤ L := by
          have hr : ∀ (m q : Nat) (st : pSt), q ≤ L → (pPr tb L m q st).2.1 ≤ L := by
            intro m
            induction m with
            | zero => intro q st h; exact h
            | succ m ih =>
              intro q st h
              unfold pPr
              split
              · split
                · exact ih _ _ (pTk_r (tNx_r tb h).2.1).1
                · exact (pTk_r (tNx_r tb h).2.1).1
              · exact h
          exact hr 41 _ _ r.1
        generalize pPr tb L 41 K.2.1 (sAd st K.2.2.1 K.2.2.2 (tSn tb L q)) = P at *
        by_cases p : P.1 = true
        · simp only [if_pos p] at ok hF ⊢
          have le2 := (pSm_le (tb := tb) (L := L) m P.2.1 (sOp P.2.2 (tSn tb L q))).1.1
          obtain ⟨_, ih⟩ := pSm_cw m P.2.1 (sOp P.2.2 (tSn tb L q)) pq ok F hF
          have leF2 := le2.tr hF
          have o : F.2.2.2 P.2.2.2.2.1 = 3000000 + tSn tb L q := Op_at leF2
          have leP := (pLe_Op P.2.2 (tSn tb L q)).1.tr leF2
          have ad := Ad_at (le1.tr leP)
          have i1 := ih (tSn tb L q) s (by show 1 ≤ P.2.2.2.2.1 + 1; omega) o
          have n2 : P.2.2.2.1 ≤ (pSm tb L m P.2.1 (sOp P.2.2 (tSn tb L q))).2.2.2.1 := le2.1
          have n1 : st.2.1 + 1 ≤ P.2.2.2.1 := le1.1
          generalize pSm tb L m P.2.1 (sOp P.2.2 (tSn tb L q)) = Q at *
          have i2 := pcw p F (tSn tb L q) Q.2.2.2.2.1 (Q.2.2.2.1 - P.2.2.2.1) leP i1
          have e : Q.2.2.2.1 - st.2.1 = (Q.2.2.2.1 - P.2.2.2.1 + (P.2.2.2.1 - (st.2.1 + 1))) + 1 := by omega
          have i2' : cw (F.1 7) (F.1 8) (F.1 9) F.2.2.2 (Q.2.2.2.1 - P.2.2.2.1 + (P.2.2.2.1 - (st.2.1 + 1))) (st.2.1 + 1) (st.2.2.1 + 1) (tSn tb L q) Q.2.2.2.2.1 := i2
          rw [e]
          refine ⟨?_, fun pe hpe h1 hc => ?_⟩
          · unfold cw
            rw [ad.1, ad.2.1, ad.2.2.1, ad.2.2.2]
            exact ⟨(r.2 t).2, Or.inr ⟨s, Or.inl ⟨rfl, rfl, i2'⟩⟩⟩
          · unfold cw
            have e1 : st.2.2.1 - 1 + 1 = st.2.2.1 := by omega
            have e2 : st.2.2.1 - 1 + 2 = st.2.2.1 + 1 := by omega
            rw [ad.1, ad.2.1, ad.2.2.1, e1, e2, ad.2.2.2]
            exact ⟨(r.2 t).2, Or.inr ⟨s, Or.inr ⟨hpe, hc, rfl, i2'⟩⟩⟩
        · simp only [if_neg p] at ok
          cases ok
      · have E : pPd tb L 41 (tNx tb L q) st (tSn tb L q) = (false, (pTk tb L (tNx tb L q) st.2.1).2.1, st) := by unfold pPd; rw [if_neg t]
        rw [E] at ok
        cases ok
    · simp only [if_neg s] at ok hF ⊢
      rw [Nat.sub_self]
      refine ⟨Or.inl ⟨rfl, rfl⟩, fun pe hpe h1 hc => Or.inr ⟨hpe, hc, by omega⟩⟩
theorem pSu_cs {tb : Nat → Int32} {L q : Nat} {st : pSt} (hq : q ≤ L) (ok : (pSu tb L q st).1 = true) {F : pSt} (hF : pLe (pSu tb L q st).2.2 F) : cs (F.1 7) (F.1 8) (F.1 9) F.2.2.2 st.2.1 (pSu tb L q st).2.2.2.1 st.2.2.1 (pSu tb L q st).2.2.2.2.1 := by
  unfold pSu at ok hF ⊢
  by_cases t : (pTk tb L q st.2.1).1 = true
  · have E : pPd tb L 41 q st 43 = pPr tb L 41 (pTk tb L q st.2.1).2.1 (sAd st (pTk tb L q st.2.1).2.2.1 (pTk tb L q st.2.1).2.2.2 43) := by unfold pPd; rw [if_pos t]
    rw [E] at ok hF ⊢
    have r := pTk_r (tb := tb) (nt := st.2.1) hq
    generalize pTk tb L q st.2.1 = K at *
    have le1 := (pPr_le (tb := tb) (L := L) 41 K.2.1 (sAd st K.2.2.1 K.2.2.2 43)).1.1
    have pcw := pPr_cw (tb := tb) (L := L) 41 K.2.1 (sAd st K.2.2.1 K.2.2.2 43) r.1
    have pq : (pPr tb L 41 K.2.1 (sAd st K.2.2.1 K.2.2.2 43)).2.1 ≤ L := by
      have hr : ∀ (m q : Nat) (st : pSt), q ≤ L → (pPr tb L m q st).2.1 ≤ L := by
        intro m
        induction m with
        | zero => intro q st h; exact h
        | succ m ih =>
          intro q st h
          unfold pPr
          split
          · split
            · exact ih _ _ (pTk_r (tNx_r tb h).2.1).1
            · exact (pTk_r (tNx_r tb h).2.1).1
          · exact h
      exact hr 41 _ _ r.1
    generalize pPr tb L 41 K.2.1 (sAd st K.2.2.1 K.2.2.2 43) = P at *
    by_cases p : P.1 = true
    · simp only [if_pos p] at ok hF ⊢
      have le2 := (pSm_le (tb := tb) (L := L) 41 P.2.1 P.2.2).1.1
      obtain ⟨i1, _⟩ := pSm_cw 41 P.2.1 P.2.2 pq ok F hF
      have leP := le2.tr hF
      have ad := Ad_at (le1.tr leP)
      have n2 := le2.1
      have n1 : st.2.1 + 1 ≤ P.2.2.2.1 := le1.1
      generalize pSm tb L 41 P.2.1 P.2.2 = Q at *
      have i2 := pcw p F 0 Q.2.2.2.2.1 (Q.2.2.2.1 - P.2.2.2.1) leP i1
      refine ⟨Q.2.2.2.1 - P.2.2.2.1 + (P.2.2.2.1 - (st.2.1 + 1)), by omega, ad.2.2.1, ?_, ?_, i2⟩
      · rw [ad.1, ad.2.1]; exact (r.2 t).2
      · rw [ad.2.2.2, ad.1, ad.2.1]
    · simp only [if_neg p] at ok
      cases ok
  · have E : pPd tb L 41 q st 43 = (false, (pTk tb L q st.2.1).2.1, st) := by unfold pPd; rw [if_neg t]
    rw [E] at ok
    cases ok
