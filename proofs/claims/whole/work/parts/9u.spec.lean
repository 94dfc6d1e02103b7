/-! specials that were read are well, whatever lies behind their codes -/
def tV (X : Nat → Nat → Int32) : Prop := ∀ t, (X 7 t = 6 ∨ X 7 t = 7) → ∃ j, j < 8 ∧ X 8 t = nI j
theorem vok_67 {kd v : Int32} (h : vok kd v) (h6 : kd = 6 ∨ kd = 7) : ∃ j, j < 8 ∧ v = nI j := by
  rcases h with h | h | h | h | h | h | h
  · rcases h6 with z | z <;> exact absurd (z.symm.trans h.1) (by decide)
  · rcases h6 with z | z <;> exact absurd (z.symm.trans h) (by decide)
  · rcases h6 with z | z <;> exact absurd (z.symm.trans h) (by decide)
  · rcases h6 with z | z <;> exact absurd (z.symm.trans h) (by decide)
  · rcases h6 with z | z <;> exact absurd (z.symm.trans h) (by decide)
  · rcases h6 with z | z <;> exact absurd (z.symm.trans h) (by decide)
  · exact h.2
theorem tV_Ad {s : pSt} {kd vl op : Int32} (h : tV s.1) (v : vok kd vl) : tV (sAd s kd vl op).1 := by
  intro t ht
  have e7 : (sAd s kd vl op).1 7 = va_up (s.1 7) s.2.1 kd := xTh_7 s.1 s.2.1 kd vl op
  have e8 : (sAd s kd vl op).1 8 = va_up (s.1 8) s.2.1 vl := xTh_8 s.1 s.2.1 kd vl op
  rw [e7] at ht
  rw [e8]
  by_cases z : t = s.2.1
  · rw [z, xup_at] at ht
    rw [z, xup_at]
    exact vok_67 v ht
  · rw [va_up_ne _ _ z] at ht
    rw [va_up_ne _ _ z]
    exact h t ht
theorem tV_Se {X : Nat → Nat → Int32} {i k : Nat} {v : Int32} (hi : i < 7) (h : tV X) : tV (xSe X i k v) := by
  intro t ht
  rw [xSe_n (by omega)] at ht
  rw [xSe_n (by omega)]
  exact h t ht
theorem tV_pPr {tb : Nat → Int32} {L : Nat} : ∀ (m q : Nat) (st : pSt), q ≤ L → tV st.1 → tV (pPr tb L m q st).2.2.1
  | 0, q, st, hq, h => h
  | m + 1, q, st, hq, h => by
    unfold pPr
    by_cases a : tSn tb L q = 42 ∨ tSn tb L q = 47
    · simp only [if_pos a]
      by_cases b : (pTk tb L (tNx tb L q) st.2.1).1 = true
      · simp only [if_pos b]
        obtain ⟨t1, t2⟩ := pTk_r (nt := st.2.1) (tNx_r tb hq).2.1
        exact tV_pPr m _ _ t1 (tV_Ad h (t2 b).2)
      · simp only [if_neg b]; exact h
    · simp only [if_neg a]; exact h
theorem tV_pPd {tb : Nat → Int32} {L m q : Nat} {st : pSt} {op : Int32} (hq : q ≤ L) (h : tV st.1) : tV (pPd tb L m q st op).2.2.1 := by
  unfold pPd
  by_cases b : (pTk tb L q st.2.1).1 = true
  · rw [if_pos b]
    obtain ⟨t1, t2⟩ := pTk_r (nt := st.2.1) hq
    exact tV_pPr m _ _ t1 (tV_Ad h (t2 b).2)
  · rw [if_neg b]; exact h
theorem pPd_q {tb : Nat → Int32} {L q : Nat} {st : pSt} {op : Int32} (hq : q ≤ L) : (pPd tb L 41 q st op).2.1 ≤ L := by
  have hr : ∀ (m q : Nat) (st : pSt), q ≤ L → (pPr tb L m q st).2.1 ≤ L := by
    intro m
    induction m with
    | zero => intro q st h; exact h
    | succ m ih =>
      intro q st h
      unfold pPr
      split
      · split
        · exact ih _ _ (pTk_r (tNx_r tb h).2.1).1
        · exact (pTk_r (tNx_r tb h).2.1).1
      · exact h
  unfold pPd
  split
  · exact hr _ _ _ (pTk_r hq).1
  · exact (pTk_r hq).1
theorem tV_pSm {tb : Nat → Int32} {L : Nat} : ∀ (m q : Nat) (st : pSt), q ≤ L → tV st.1 → tV (pSm tb L m q st).2.2.1
  | 0, q, st, hq, h => h
  | m + 1, q, st, hq, h => by
    unfold pSm
    by_cases a : tSn tb L q = 43 ∨ tSn tb L q = 45
    · simp only [if_pos a]
      have q1 := (tNx_r tb hq).2.1
      have hd := tV_pPd (tb := tb) (m := 41) (op := tSn tb L q) q1 h
      by_cases b : (pPd tb L 41 (tNx tb L q) st (tSn tb L q)).1 = true
      · simp only [if_pos b]
        exact tV_pSm m _ _ (pPd_q q1) hd
      · simp only [if_neg b]; exact hd
    · simp only [if_neg a]; exact h
theorem tV_pSu {tb : Nat → Int32} {L q : Nat} {st : pSt} (hq : q ≤ L) (h : tV st.1) : tV (pSu tb L q st).2.2.1 := by
  have hd := tV_pPd (tb := tb) (m := 41) (op := 43) hq h
  unfold pSu
  by_cases b : (pPd tb L 41 q st 43).1 = true
  · rw [if_pos b]; exact tV_pSm 41 _ _ (pPd_q hq) hd
  · rw [if_neg b]; exact hd
theorem tV_pGv {tb : Nat → Int32} {L q k : Nat} {G : pGt} (hq : q ≤ L) (h : tV G.1.1) (ok : (pGv tb L q k G).1 = true) : tV (pGv tb L q k G).2.2.1.1 := by
  have q1 := (tNx_r tb hq).2.1
  have pq1 : (pG1 tb L q k G).2.1 ≤ L := pSu_q q1
  have v1 : tV (pG1 tb L q k G).2.2.1 := tV_pSu q1 (tV_Se (by decide) (tV_Se (by decide) h))
  unfold pGv at ok ⊢
  by_cases a : tPn tb L q = -1
  · simp only [if_pos a] at ok; cases ok
  simp only [if_neg a] at ok ⊢
  generalize pG1 tb L q k G = P at *
  by_cases b : P.1 = false
  · simp only [if_pos b] at ok; cases ok
  simp only [if_neg b] at ok ⊢
  by_cases w : tIw tb L P.2.1 11 = true
  · simp only [if_pos w] at ok ⊢
    have pq2 : (pG2 tb L k P).2.1 ≤ L := pSu_q (tNx_r tb pq1).2.1
    have v2 : tV (pG2 tb L k P).2.2.1 := tV_pSu (tNx_r tb pq1).2.1 (tV_Se (by decide) (tV_Se (by decide) v1))
    generalize pG2 tb L k P = P2 at *
    by_cases b2' : P2.1 = false
    · simp only [if_pos b2'] at ok; cases ok
    simp only [if_neg b2'] at ok ⊢
    by_cases s : tSn tb L P2.2.1 = 60 ∨ tSn tb L P2.2.1 = 62
    · simp only [if_pos s] at ok ⊢
      have v3 : tV (pG3 tb L k P2).2.2.1 := tV_pSu (tNx_r tb pq2).2.1 (tV_Se (by decide) (tV_Se (by decide) v2))
      generalize pG3 tb L k P2 = P3 at *
      by_cases b3 : P3.1 = false
      · simp only [if_pos b3] at ok; cases ok
      simp only [if_neg b3] at ok ⊢
      rw [pEn_t ok]
      exact tV_Se (by decide) v3
    · simp only [if_neg s] at ok; cases ok
  · simp only [if_neg w] at ok ⊢
    rw [pEn_t ok]
    exact tV_Se (by decide) (tV_Se (by decide) v1)
theorem pSp_ok2 {tb : Nat → Int32} {L : Nat} : ∀ (m k q : Nat) (G : pGt), q ≤ L → k + m = 8 → G.1.2.2.1 ≤ 2 * G.1.2.1 → tV G.1.1 → (pSp tb L m k q G).1 = true → tV (pSp tb L m k q G).2.2.2.1.1 ∧ ∀ F : pSt, pLe (pSp tb L m k q G).2.2.2.1 F → (∀ i, 1 ≤ i → i ≤ 6 → ∀ x, x < (pSp tb L m k q G).2.2.1 → F.1 i x = (pSp tb L m k q G).2.2.2.1.1 i x) → F.2.1 ≤ 40 → F.2.2.1 ≤ 100 → ∀ x, k ≤ x → x < (pSp tb L m k q G).2.2.1 → spK F (pSp tb L m k q G).2.2.2.2 x
  | 0, k, q, G, hq, hk, h2, hv, ok => by
    unfold pSp at *
    exact ⟨hv, fun F _ _ _ _ x h1 h3 => by have : x < k := h3; omega⟩
  | m + 1, k, q, G, hq, hk, h2, hv, ok => by
    unfold pSp at ok ⊢
    by_cases a : tIw tb L q 3 = true
    · simp only [if_pos a] at ok ⊢
      by_cases b : (pGv tb L (tNx tb L q) k G).1 = true
      · simp only [if_pos b] at ok ⊢
        have q1 := (tNx_r tb hq).2.1
        have g := pGv_ok q1 h2 b
        have gq := pGv_q q1 b
        have gv := tV_pGv q1 hv b
        generalize pGv tb L (tNx tb L q) k G = R at *
        obtain ⟨r1, r2, r3, r4, r5, r6⟩ := g
        have l0 : pLe R.2.2.1 (xSe R.2.2.1.1 0 0 (nI (k + 1)), R.2.2.1.2) := pLe_Se (X := R.2.2.1.1) (r := R.2.2.1.2) (by decide)
        obtain ⟨i1, i2, i3, i4, i5, i6, _⟩ := pSp_ok m (k + 1) R.2.1 ((xSe R.2.2.1.1 0 0 (nI (k + 1)), R.2.2.1.2), R.2.2.2) gq (by omega) r2 (fun q k G hq ok => pGv_q hq ok) ok
        obtain ⟨i8, i9⟩ := pSp_ok2 m (k + 1) R.2.1 ((xSe R.2.2.1.1 0 0 (nI (k + 1)), R.2.2.1.2), R.2.2.2) gq (by omega) r2 (tV_Se (by decide) gv) ok
        generalize pSp tb L m (k + 1) R.2.1 ((xSe R.2.2.1.1 0 0 (nI (k + 1)), R.2.2.1.2), R.2.2.2) = E at *
        have i5' : ∀ i, 1 ≤ i → i ≤ 6 → ∀ x, x < k + 1 → E.2.2.2.1.1 i x = R.2.2.1.1 i x := fun i h1 h3 x hx => by
          rw [i5 i h1 h3 x hx]
          show xSe R.2.2.1.1 0 0 (nI (k + 1)) i x = _
          rw [xSe_n (by omega)]
        refine ⟨i8, fun F hF hA h40 h100 x hx1 hx2 => ?_⟩
        by_cases hxk : x = k
        · subst hxk
          exact r6 F _ ((l0.tr i3).tr hF) (fun i h1 h3 => (hA i h1 h3 x hx2).trans (i5' i h1 h3 x (by omega))) (fun y h1 h3 => i6 y (by omega)) h40 h100
        · exact i9 F hF hA h40 h100 x (by omega) hx2
      · simp only [if_neg b] at ok; cases ok
    · simp only [if_neg a] at ok ⊢
      exact ⟨hv, fun F _ _ _ _ x h1 h3 => by omega⟩
def uSp (u : Nat → Int32) (ns nc : Nat) (N C : Nat → Int32) : Nat → Int32 := fun j => if 208 + 0 ≤ j ∧ j < 208 + nc then C (j - 208) else if 160 + 0 ≤ j ∧ j < 160 + 6 * ns then N (j - 160) else va_up u 159 (nI ns) j
/-- what was read, laid here and there -/
theorem spR_new {S : xS} {sa ns : Nat} {P : pGt} {u : Nat → Int32} (hS : ∀ i, i ≤ 9 → S.1 (sa + i) = P.1.1 i) (hns : ns ≤ 8) (h0 : P.1.1 0 0 = nI ns) (h40 : P.1.2.1 ≤ 40) (h2 : P.1.2.2.1 ≤ 2 * P.1.2.1) (hv : tV P.1.1) (hk : ∀ F : pSt, pLe P.1 F → (∀ i, 1 ≤ i → i ≤ 6 → ∀ x, x < ns → F.1 i x = P.1.1 i x) → F.2.1 ≤ 40 → F.2.2.1 ≤ 100 → ∀ x, x < ns → spK F P.2 x) : xSo S sa ns ∧ spR S sa (uSp u ns P.1.2.2.1 P.2 P.1.2.2.2) ns := by
  have kk := hk (P.1.1, P.1.2.1, P.1.2.2.1, fun j => uSp u ns P.1.2.2.1 P.2 P.1.2.2.2 (208 + j)) ⟨Nat.le_refl _, Nat.le_refl _, fun _ _ => ⟨rfl, rfl, rfl⟩, fun c hc => by
    show uSp u ns P.1.2.2.1 P.2 P.1.2.2.2 (208 + c) = _
    unfold uSp
    rw [if_pos (by omega), show 208 + c - 208 = c by omega]⟩ (fun _ _ _ _ _ => rfl) h40 (by show P.1.2.2.1 ≤ 100; omega)
  have hu : ∀ k i, k < ns → i < 6 → uSp u ns P.1.2.2.1 P.2 P.1.2.2.2 (160 + 6 * k + i) = P.2 (6 * k + i) := fun k i h1 h3 => by
    unfold uSp
    rw [if_neg (by omega), if_pos (by omega), show 160 + 6 * k + i - 160 = 6 * k + i by omega]
  have e : ∀ i, i ≤ 9 → S.1 (sa + i) = P.1.1 i := hS
  have hu0 : ∀ k, k < ns → uSp u ns P.1.2.2.1 P.2 P.1.2.2.2 (160 + 6 * k) = P.2 (6 * k) := fun k h1 => hu k 0 h1 (by decide)
  refine ⟨⟨by rw [show S.1 sa = P.1.1 0 from e 0 (by omega)]; exact h0, hns, fun k hk' => ?_, fun k hk' => ?_, fun k hk' h6 => ?_, fun i hi h67 => ?_⟩, ?_, hns, fun k hk' => ?_⟩
  · obtain ⟨q, q1, q2, _⟩ := (kk k hk').1
    exact ⟨q, q1, by rw [e 1 (by omega)]; exact q2⟩
  · obtain ⟨_, a, c, A, C, ⟨q1, q2, _, _, q5, q6, _⟩, _⟩ := kk k hk'
    exact ⟨a, c, by rw [e 2 (by omega)]; exact q1, by rw [e 3 (by omega)]; exact q2, q5, q6⟩
  · obtain ⟨_, a, c, A, C, _, z | ⟨_, _, d, e', D, E, z1, z2, _, _, z5, z6, _⟩⟩ := kk k hk'
    · exact absurd (by rw [e 6 (by omega)]; exact z.1) h6
    · exact ⟨d, e', by rw [e 4 (by omega)]; exact z1, by rw [e 5 (by omega)]; exact z2, z5, z6⟩
  · rw [e 7 (by omega)] at h67
    rw [e 8 (by omega)]
    exact hv i h67
  · unfold uSp
    rw [if_neg (by omega), if_neg (by omega), xup_at]
  · have w := kk k hk'
    unfold spK at w
    rw [e 1 (by omega), e 2 (by omega), e 3 (by omega), e 4 (by omega), e 5 (by omega), e 6 (by omega), e 7 (by omega), e 8 (by omega), e 9 (by omega), hu0 k hk', hu k 1 hk' (by decide), hu k 2 hk' (by decide), hu k 3 hk' (by decide), hu k 4 hk' (by decide), hu k 5 hk' (by decide)]
    exact w
theorem gTS_s {T : xT} {S : xS} {ta sa sa' ns : Nat} {u u' : Nat → Int32} (g : gTS T S ta sa' u) (si : xSi T S.2.2 sa) (so : xSo S sa ns) (sp : spR S sa u' ns) (hu : ∀ j, j < 159 → u' j = u j) : gTS T S ta sa u' := by
  obtain ⟨fi, _, a, _, ⟨c1, c2, c3⟩, _⟩ := g
  have hf := c1.2.1
  have e1 : ∀ k, k ≤ fi → rsu u' k = rsu u k := fun k hk => hu _ (by omega)
  have e2 : ∀ k p, k ≤ fi → p < 8 → rtw u' k p = rtw u k p := fun k p hk hp => hu _ (by omega)
  refine ⟨fi, ns, a, ⟨si, so⟩, ⟨⟨by rw [hu 77 (by omega)]; exact c1.1, hf, fun k p hk hp => by rw [e2 k p hk hp]; exact c1.2.2.1 k p hk hp, fun k hk => by rw [e1 k (by omega)]; exact c1.2.2.2 k hk⟩, fun k hk => by rw [e1 k hk]; exact c2 k hk, fun k p hk hp => by rw [e2 k p hk hp]; exact c3 k p hk hp⟩, sp⟩
def kSp : Nat → Nat × Nat := fun j => if j ≤ 5 then (20, 8) else if j = 6 then (24, 8) else if j ≤ 8 then (20, 40) else (24, 40)
theorem i_specs {T : xT} {S : xS} {b : Nat} (hb : T.2.2 = b + 1) (hk : T.1 b = 4) (h215 : 215 ≤ b) (hz : S.1 b = fun _ => 0) : ∃ T' S', f_X4_init T S b = some (T', S') ∧ T'.2.2 = b + 10 ∧ (∀ a, a ≤ b → T'.1 a = T.1 a ∧ T'.2.1 a = T.2.1 a) ∧ (∀ a, a < b → S'.1 a = S.1 a ∧ S'.2.1 a = S.2.1 a ∧ S'.2.2 a = S.2.2 a) ∧ xSi T' S'.2.2 b ∧ ∀ j, j ≤ 9 → S'.1 (b + j) = fun _ => 0 := by
  have h0 : iA T S b 2 0 kSp T S := iA_0 hb
  have h1 := iA_s (kd := 20) (len := 8) (k := 2) h0 rfl rfl
  have h2 := iA_s (kd := 20) (len := 8) (k := 3) h1 rfl rfl
  have h3 := iA_s (kd := 20) (len := 8) (k := 4) h2 rfl rfl
  have h4 := iA_s (kd := 20) (len := 8) (k := 5) h3 rfl rfl
  have h5 := iA_s (kd := 20) (len := 8) (k := 6) h4 rfl rfl
  have h6 := iA_s (kd := 24) (len := 8) (k := 7) h5 rfl rfl
  have h7 := iA_s (kd := 20) (len := 40) (k := 8) h6 rfl rfl
  have h8 := iA_s (kd := 20) (len := 40) (k := 9) h7 rfl rfl
  have h9 := iA_s (kd := 24) (len := 40) (k := 10) h8 rfl rfl
  unfold f_X4_init
  rw [iA_e h0 hk, iA_e h1 hk, iA_e h2 hk, iA_e h3 hk, iA_e h4 hk, iA_e h5 hk, iA_e h6 hk, iA_e h7 hk, iA_e h8 hk]
  refine ⟨_, _, rfl, ?_⟩
  obtain ⟨n7, t7, r7, a7, f7⟩ := h9
  have e0 := (t7 b (Nat.le_refl _)).1
  refine ⟨by omega, fun a ha => ⟨(t7 a ha).1, (t7 a ha).2.1⟩, fun a ha => ⟨(t7 a (by omega)).2.2.1, (t7 a (by omega)).2.2.2, r7 a ha⟩, ⟨Or.inr h215, ⟨by omega, by rw [e0]; exact hk⟩, ⟨(a7 1 (by decide) (by decide)).1, (a7 2 (by decide) (by decide)).1, (a7 3 (by decide) (by decide)).1, (a7 4 (by decide) (by decide)).1, (a7 5 (by decide) (by decide)).1, (a7 6 (by decide) (by decide)).1, (a7 7 (by decide) (by decide)).1, (a7 8 (by decide) (by decide)).1, (a7 9 (by decide) (by decide)).1⟩, ⟨(a7 1 (by decide) (by decide)).2.1, (a7 2 (by decide) (by decide)).2.1, (a7 3 (by decide) (by decide)).2.1, (a7 4 (by decide) (by decide)).2.1, (a7 5 (by decide) (by decide)).2.1, (a7 6 (by decide) (by decide)).2.1, (a7 7 (by decide) (by decide)).2.1, (a7 8 (by decide) (by decide)).2.1, (a7 9 (by decide) (by decide)).2.1⟩, ⟨f7 0 (by decide), f7 1 (by decide), f7 2 (by decide), f7 3 (by decide), f7 4 (by decide), f7 5 (by decide), f7 6 (by decide), f7 7 (by decide), f7 8 (by decide)⟩⟩, fun j hj => ?_⟩
  by_cases z : j = 0
  · subst z
    exact ((t7 b (Nat.le_refl _)).2.2.1).trans hz
  · exact (a7 j (by omega) hj).2.2
