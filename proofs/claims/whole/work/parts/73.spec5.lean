/-! a special that was read is well -/
theorem xSe_e (X : Nat → Nat → Int32) (i k : Nat) (v : Int32) : xSe X i k v i = va_up (X i) k v := by unfold xSe; rw [xup_at]
theorem xSe_n {X : Nat → Nat → Int32} {i j k : Nat} {v : Int32} (h : j ≠ i) : xSe X i k v j = X j := by unfold xSe; rw [va_up_ne _ _ h]
theorem pLe_Se {X : Nat → Nat → Int32} {i k : Nat} {v : Int32} {r : Nat × Nat × (Nat → Int32)} (h : i < 7) : pLe (X, r) (xSe X i k v, r) := ⟨Nat.le_refl _, Nat.le_refl _, fun t _ => by
  show xSe X i k v 7 t = X 7 t ∧ xSe X i k v 8 t = X 8 t ∧ xSe X i k v 9 t = X 9 t
  rw [xSe_n (by omega), xSe_n (by omega), xSe_n (by omega)]
  exact ⟨rfl, rfl, rfl⟩, fun _ _ => rfl⟩
def spK (F : pSt) (N : Nat → Int32) (k : Nat) : Prop := (∃ p, p < 8 ∧ F.1 1 k = nI p ∧ N (6 * k) = nI p) ∧ ∃ a c A C, (F.1 2 k = nI a ∧ F.1 3 k = nI c ∧ N (6 * k + 2) = nI A ∧ N (6 * k + 3) = nI C ∧ a ≤ 40 ∧ c ≤ 40 ∧ C ≤ 100 ∧ cs (F.1 7) (F.1 8) (F.1 9) F.2.2.2 a c A C) ∧ ((F.1 6 k = 32 ∧ N (6 * k + 1) = 0) ∨ ((F.1 6 k = 60 ∨ F.1 6 k = 62) ∧ N (6 * k + 1) = F.1 6 k ∧ ∃ d e D E, F.1 4 k = nI d ∧ F.1 5 k = nI e ∧ N (6 * k + 4) = nI D ∧ N (6 * k + 5) = nI E ∧ d ≤ 40 ∧ e ≤ 40 ∧ D ≤ 100 ∧ E ≤ 100 ∧ cs (F.1 7) (F.1 8) (F.1 9) F.2.2.2 c d C D ∧ cs (F.1 7) (F.1 8) (F.1 9) F.2.2.2 d e D E))
/-- one special more: what stays, and that it is well in all that comes behind -/
def gOk (G R : pGt) (k : Nat) : Prop := pLe G.1 R.1 ∧ R.1.2.2.1 ≤ 2 * R.1.2.1 ∧ (∀ i, 1 ≤ i → i ≤ 6 → ∀ x, x ≠ k → R.1.1 i x = G.1.1 i x) ∧ R.1.1 0 0 = G.1.1 0 0 ∧ (∀ y, y < 6 * k → R.2 y = G.2 y) ∧ ∀ (F : pSt) (N : Nat → Int32), pLe R.1 F → (∀ i, 1 ≤ i → i ≤ 6 → F.1 i k = R.1.1 i k) → (∀ y, 6 * k ≤ y → y < 6 * k + 6 → N y = R.2 y) → F.2.1 ≤ 40 → F.2.2.1 ≤ 100 → spK F N k
theorem nG1_lt {tb : Nat → Int32} {L q k nc y : Nat} {G : pGt} (h : y < 6 * k) : nG1 tb L q k G nc y = G.2 y := by
  unfold nG1
  rw [up_ne (by omega), up_ne (by omega), up_ne (by omega), up_ne (by omega), up_ne (by omega), up_ne (by omega)]
theorem nG1_v {tb : Nat → Int32} {L q k nc : Nat} {G : pGt} : nG1 tb L q k G nc (6 * k) = tPn tb L q ∧ nG1 tb L q k G nc (6 * k + 1) = 0 ∧ nG1 tb L q k G nc (6 * k + 2) = nI G.1.2.2.1 ∧ nG1 tb L q k G nc (6 * k + 3) = nI nc := by
  unfold nG1
  refine ⟨?_, ?_, ?_, ?_⟩
  · rw [up_ne (by omega), up_ne (by omega), up_ne (by omega), up_ne (by omega), up_ne (by omega), xup_at]
  · rw [up_ne (by omega), up_ne (by omega), up_ne (by omega), up_ne (by omega), xup_at]
  · rw [up_ne (by omega), up_ne (by omega), up_ne (by omega), xup_at]
  · rw [up_ne (by omega), up_ne (by omega), xup_at]
theorem pEn_t {tb : Nat → Int32} {L q : Nat} {G : pGt} (h : (pEn tb L q G).1 = true) : pEn tb L q G = (true, tNx tb L q, G) := by
  unfold pEn at h ⊢
  by_cases s : tSn tb L q = 59
  · rw [if_pos s]
  · rw [if_neg s] at h; cases h
theorem pSu_q {tb : Nat → Int32} {L q : Nat} {st : pSt} (hq : q ≤ L) : (pSu tb L q st).2.1 ≤ L := by
  have hr : ∀ (m q : Nat) (st : pSt), q ≤ L → (pPr tb L m q st).2.1 ≤ L := by
    intro m
    induction m with
    | zero => intro q st h; exact h
    | succ m ih =>
      intro q st h
      unfold pPr
      split
      · split
        · exact ih _ _ (pTk_r (tNx_r tb h).2.1).1
        · exact (pTk_r (tNx_r tb h).2.1).1
      · exact h
  have hd : ∀ (q : Nat) (st : pSt) (op : Int32), q ≤ L → (pPd tb L 41 q st op).2.1 ≤ L := fun q st op h => by
    unfold pPd
    split
    · exact hr _ _ _ (pTk_r h).1
    · exact (pTk_r h).1
  have hs : ∀ (m q : Nat) (st : pSt), q ≤ L → (pSm tb L m q st).2.1 ≤ L := by
    intro m
    induction m with
    | zero => intro q st h; exact h
    | succ m ih =>
      intro q st h
      unfold pSm
      split
      · split
        · exact ih _ _ (hd _ _ _ (tNx_r tb h).2.1)
        · exact hd _ _ _ (tNx_r tb h).2.1
      · exact h
  unfold pSu
  split
  · exact hs _ _ _ (hd _ _ _ hq)
  · exact hd _ _ _ hq
theorem pGv_ok {tb : Nat → Int32} {L q k : Nat} {G : pGt} (hq : q ≤ L) (h2 : G.1.2.2.1 ≤ 2 * G.1.2.1) (ok : (pGv tb L q k G).1 = true) : gOk G (pGv tb L q k G).2.2 k := by
  unfold pGv at ok ⊢
  by_cases a : tPn tb L q = -1
  · simp only [if_pos a] at ok; cases ok
  simp only [if_neg a] at ok ⊢
  obtain ⟨p, hp, ep, _⟩ := tPn_r a
  have q1 := (tNx_r tb hq).2.1
  have l0 : pLe G.1 (xSe (xSe G.1.1 1 k (tPn tb L q)) 2 k (nI G.1.2.1), G.1.2.1, G.1.2.2.1, G.1.2.2.2) := (pLe_Se (X := G.1.1) (r := G.1.2) (by decide)).tr (pLe_Se (by decide))
  have le1 := pSu_le (tb := tb) (L := L) (q := tNx tb L q) (st := (xSe (xSe G.1.1 1 k (tPn tb L q)) 2 k (nI G.1.2.1), G.1.2.1, G.1.2.2.1, G.1.2.2.2))
  have cs1 := fun ok F hF => pSu_cs (tb := tb) (L := L) (q := tNx tb L q) (st := (xSe (xSe G.1.1 1 k (tPn tb L q)) 2 k (nI G.1.2.1), G.1.2.1, G.1.2.2.1, G.1.2.2.2)) (F := F) q1 ok hF
  have pq1 := pSu_q (tb := tb) (st := (xSe (xSe G.1.1 1 k (tPn tb L q)) 2 k (nI G.1.2.1), G.1.2.1, G.1.2.2.1, G.1.2.2.2)) q1
  have hP : pSu tb L (tNx tb L q) (xSe (xSe G.1.1 1 k (tPn tb L q)) 2 k (nI G.1.2.1), G.1.2.1, G.1.2.2.1, G.1.2.2.2) = pG1 tb L q k G := rfl
  rw [hP] at le1 cs1 pq1
  generalize pG1 tb L q k G = P at *
  by_cases b : P.1 = false
  · simp only [if_pos b] at ok; cases ok
  simp only [if_neg b] at ok ⊢
  have b' : P.1 = true := by cases hh : P.1 <;> simp_all
  have X1 : P.2.2.1 1 = va_up (G.1.1 1) k (tPn tb L q) := by rw [le1.1.2.1 1 (by omega) (by omega)]; show xSe (xSe G.1.1 1 k (tPn tb L q)) 2 k (nI G.1.2.1) 1 = _; rw [xSe_n (by decide), xSe_e]
  have X2 : P.2.2.1 2 = va_up (G.1.1 2) k (nI G.1.2.1) := by rw [le1.1.2.1 2 (by omega) (by omega)]; show xSe (xSe G.1.1 1 k (tPn tb L q)) 2 k (nI G.1.2.1) 2 = _; rw [xSe_e, xSe_n (by decide)]
  have Xi : ∀ i, 3 ≤ i → i ≤ 6 → P.2.2.1 i = G.1.1 i := fun i h1 h3 => by rw [le1.1.2.1 i (by omega) (by omega)]; show xSe (xSe G.1.1 1 k (tPn tb L q)) 2 k (nI G.1.2.1) i = _; rw [xSe_n (by omega), xSe_n (by omega)]
  have X0 : P.2.2.1 0 0 = G.1.1 0 0 := by rw [le1.1.2.2]; show xSe (xSe G.1.1 1 k (tPn tb L q)) 2 k (nI G.1.2.1) 0 0 = _; rw [xSe_n (by decide), xSe_n (by decide)]
  have lP : pLe G.1 P.2.2 := l0.tr le1.1.1
  have nP : P.2.2.2.2.1 ≤ 2 * P.2.2.2.1 := le1.2 b' h2
  have l2 : pLe P.2.2 (xSe (xSe P.2.2.1 3 k (nI P.2.2.2.1)) 6 k 32, P.2.2.2) := (pLe_Se (X := P.2.2.1) (r := P.2.2.2) (by decide)).tr (pLe_Se (by decide))
  by_cases w : tIw tb L P.2.1 11 = true
  · simp only [if_pos w] at ok ⊢
    have q2 := (tNx_r tb pq1).2.1
    have le2 := pSu_le (tb := tb) (L := L) (q := tNx tb L P.2.1) (st := (xSe (xSe P.2.2.1 3 k (nI P.2.2.2.1)) 6 k 32, P.2.2.2))
    have cs2 := fun ok F hF => pSu_cs (tb := tb) (L := L) (q := tNx tb L P.2.1) (st := (xSe (xSe P.2.2.1 3 k (nI P.2.2.2.1)) 6 k 32, P.2.2.2)) (F := F) q2 ok hF
    have pq2 := pSu_q (tb := tb) (st := (xSe (xSe P.2.2.1 3 k (nI P.2.2.2.1)) 6 k 32, P.2.2.2)) q2
    have hP2 : pSu tb L (tNx tb L P.2.1) (xSe (xSe P.2.2.1 3 k (nI P.2.2.2.1)) 6 k 32, P.2.2.2) = pG2 tb L k P := rfl
    rw [hP2] at le2 cs2 pq2
    generalize pG2 tb L k P = P2 at *
    by_cases b2' : P2.1 = false
    · simp only [if_pos b2'] at ok; cases ok
    simp only [if_neg b2'] at ok ⊢
    have b2t : P2.1 = true := by cases hh : P2.1 <;> simp_all
    have Y3 : P2.2.2.1 3 = va_up (G.1.1 3) k (nI P.2.2.2.1) := by rw [le2.1.2.1 3 (by omega) (by omega)]; show xSe (xSe P.2.2.1 3 k (nI P.2.2.2.1)) 6 k 32 3 = _; rw [xSe_n (by decide), xSe_e, Xi 3 (by omega) (by omega)]
    have Yi : ∀ i, 1 ≤ i → i ≤ 5 → i ≠ 3 → P2.2.2.1 i = P.2.2.1 i := fun i h1 h3 h4 => by rw [le2.1.2.1 i (by omega) (by omega)]; show xSe (xSe P.2.2.1 3 k (nI P.2.2.2.1)) 6 k 32 i = _; rw [xSe_n (by omega), xSe_n (by omega)]
    have Y6 : P2.2.2.1 6 = va_up (G.1.1 6) k 32 := by rw [le2.1.2.1 6 (by omega) (by omega)]; show xSe (xSe P.2.2.1 3 k (nI P.2.2.2.1)) 6 k 32 6 = _; rw [xSe_e, xSe_n (by decide), Xi 6 (by omega) (by omega)]
    have Y0 : P2.2.2.1 0 0 = G.1.1 0 0 := by rw [le2.1.2.2]; show xSe (xSe P.2.2.1 3 k (nI P.2.2.2.1)) 6 k 32 0 0 = _; rw [xSe_n (by decide), xSe_n (by decide), X0]
    have lP2 : pLe P.2.2 P2.2.2 := l2.tr le2.1.1
    have nP2 : P2.2.2.2.2.1 ≤ 2 * P2.2.2.2.1 := le2.2 b2t nP
    by_cases s : tSn tb L P2.2.1 = 60 ∨ tSn tb L P2.2.1 = 62
    · simp only [if_pos s] at ok ⊢
      have q3 := (tNx_r tb pq2).2.1
      have l3 : pLe P2.2.2 (xSe (xSe P2.2.2.1 4 k (nI P2.2.2.2.1)) 6 k (tSn tb L P2.2.1), P2.2.2.2) := (pLe_Se (X := P2.2.2.1) (r := P2.2.2.2) (by decide)).tr (pLe_Se (by decide))
      have le3 := pSu_le (tb := tb) (L := L) (q := tNx tb L P2.2.1) (st := (xSe (xSe P2.2.2.1 4 k (nI P2.2.2.2.1)) 6 k (tSn tb L P2.2.1), P2.2.2.2))
      have cs3 := fun ok F hF => pSu_cs (tb := tb) (L := L) (q := tNx tb L P2.2.1) (st := (xSe (xSe P2.2.2.1 4 k (nI P2.2.2.2.1)) 6 k (tSn tb L P2.2.1), P2.2.2.2)) (F := F) q3 ok hF
      have hP3 : pSu tb L (tNx tb L P2.2.1) (xSe (xSe P2.2.2.1 4 k (nI P2.2.2.2.1)) 6 k (tSn tb L P2.2.1), P2.2.2.2) = pG3 tb L k P2 := rfl
      rw [hP3] at le3 cs3
      generalize pG3 tb L k P2 = P3 at *
      by_cases b3 : P3.1 = false
      · simp only [if_pos b3] at ok; cases ok
      simp only [if_neg b3] at ok ⊢
      have b3t : P3.1 = true := by cases hh : P3.1 <;> simp_all
      rw [pEn_t ok]
      have Z4 : P3.2.2.1 4 = va_up (P2.2.2.1 4) k (nI P2.2.2.2.1) := by rw [le3.1.2.1 4 (by omega) (by omega)]; show xSe (xSe P2.2.2.1 4 k (nI P2.2.2.2.1)) 6 k (tSn tb L P2.2.1) 4 = _; rw [xSe_n (by decide), xSe_e]
      have Z6 : P3.2.2.1 6 = va_up (P2.2.2.1 6) k (tSn tb L P2.2.1) := by rw [le3.1.2.1 6 (by omega) (by omega)]; show xSe (xSe P2.2.2.1 4 k (nI P2.2.2.2.1)) 6 k (tSn tb L P2.2.1) 6 = _; rw [xSe_e, xSe_n (by decide)]
      have Zi : ∀ i, 1 ≤ i → i ≤ 5 → i ≠ 4 → P3.2.2.1 i = P2.2.2.1 i := fun i h1 h3 h4 => by rw [le3.1.2.1 i (by omega) (by omega)]; show xSe (xSe P2.2.2.1 4 k (nI P2.2.2.2.1)) 6 k (tSn tb L P2.2.1) i = _; rw [xSe_n (by omega), xSe_n (by omega)]
      have Z0 : P3.2.2.1 0 0 = G.1.1 0 0 := by rw [le3.1.2.2]; show xSe (xSe P2.2.2.1 4 k (nI P2.2.2.2.1)) 6 k (tSn tb L P2.2.1) 0 0 = _; rw [xSe_n (by decide), xSe_n (by decide), Y0]
      have lP3 : pLe P2.2.2 P3.2.2 := l3.tr le3.1.1
      have nP3 : P3.2.2.2.2.1 ≤ 2 * P3.2.2.2.1 := le3.2 b3t nP2
      have l5 : pLe P3.2.2 (xSe P3.2.2.1 5 k (nI P3.2.2.2.1), P3.2.2.2) := pLe_Se (X := P3.2.2.1) (r := P3.2.2.2) (by decide)
      refine ⟨((lP.tr lP2).tr lP3).tr l5, nP3, fun i h1 h3 x hx => ?_, ?_, fun y hy => ?_, fun F N hF hX hN h40 h100 => ?_⟩
      · show xSe P3.2.2.1 5 k (nI P3.2.2.2.1) i x = G.1.1 i x
        rcases (by omega : i = 1 ∨ i = 2 ∨ i = 3 ∨ i = 4 ∨ i = 5 ∨ i = 6) with e | e | e | e | e | e <;> subst e
        · rw [xSe_n (by decide), Zi 1 (by omega) (by omega) (by omega), Yi 1 (by omega) (by omega) (by omega), X1, up_ne hx]
        · rw [xSe_n (by decide), Zi 2 (by omega) (by omega) (by omega), Yi 2 (by omega) (by omega) (by omega), X2, up_ne hx]
        · rw [xSe_n (by decide), Zi 3 (by omega) (by omega) (by omega), Y3, up_ne hx]
        · rw [xSe_n (by decide), Z4, up_ne hx, Yi 4 (by omega) (by omega) (by omega), Xi 4 (by omega) (by omega)]
        · rw [xSe_e, up_ne hx, Zi 5 (by omega) (by omega) (by omega), Yi 5 (by omega) (by omega) (by omega), Xi 5 (by omega) (by omega)]
        · rw [xSe_n (by decide), Z6, up_ne hx, Y6, up_ne hx]
      · show xSe P3.2.2.1 5 k (nI P3.2.2.2.1) 0 0 = _
        rw [xSe_n (by decide), Z0]
      · show va_up (va_up (va_up (nG1 tb L q k G P.2.2.2.2.1) (6 * k + 4) (nI P2.2.2.2.2.1)) (6 * k + 1) (tSn tb L P2.2.1)) (6 * k + 5) (nI P3.2.2.2.2.1) y = G.2 y
        rw [up_ne (by omega), up_ne (by omega), up_ne (by omega), nG1_lt hy]
      · have lF3 : pLe P3.2.2 F := l5.tr hF
        have lF2 : pLe P2.2.2 F := lP3.tr lF3
        have lF1 : pLe P.2.2 F := lP2.tr lF2
        have f1 : F.1 1 k = tPn tb L q := by rw [hX 1 (by omega) (by omega)]; show xSe P3.2.2.1 5 k (nI P3.2.2.2.1) 1 k = _; rw [xSe_n (by decide), Zi 1 (by omega) (by omega) (by omega), Yi 1 (by omega) (by omega) (by omega), X1, xup_at]
        have f2 : F.1 2 k = nI G.1.2.1 := by rw [hX 2 (by omega) (by omega)]; show xSe P3.2.2.1 5 k (nI P3.2.2.2.1) 2 k = _; rw [xSe_n (by decide), Zi 2 (by omega) (by omega) (by omega), Yi 2 (by omega) (by omega) (by omega), X2, xup_at]
        have f3 : F.1 3 k = nI P.2.2.2.1 := by rw [hX 3 (by omega) (by omega)]; show xSe P3.2.2.1 5 k (nI P3.2.2.2.1) 3 k = _; rw [xSe_n (by decide), Zi 3 (by omega) (by omega) (by omega), Y3, xup_at]
        have f4 : F.1 4 k = nI P2.2.2.2.1 := by rw [hX 4 (by omega) (by omega)]; show xSe P3.2.2.1 5 k (nI P3.2.2.2.1) 4 k = _; rw [xSe_n (by decide), Z4, xup_at]
        have f5 : F.1 5 k = nI P3.2.2.2.1 := by rw [hX 5 (by omega) (by omega)]; show xSe P3.2.2.1 5 k (nI P3.2.2.2.1) 5 k = _; rw [xSe_e, xup_at]
        have f6 : F.1 6 k = tSn tb L P2.2.1 := by rw [hX 6 (by omega) (by omega)]; show xSe P3.2.2.1 5 k (nI P3.2.2.2.1) 6 k = _; rw [xSe_n (by decide), Z6, xup_at]
        have nv := nG1_v (tb := tb) (L := L) (q := q) (k := k) (nc := P.2.2.2.2.1) (G := G)
        have g0 : N (6 * k) = tPn tb L q := by rw [hN _ (by omega) (by omega)]; show va_up (va_up (va_up (nG1 tb L q k G P.2.2.2.2.1) (6 * k + 4) (nI P2.2.2.2.2.1)) (6 * k + 1) (tSn tb L P2.2.1)) (6 * k + 5) (nI P3.2.2.2.2.1) (6 * k) = _; rw [up_ne (by omega), up_ne (by omega), up_ne (by omega), nv.1]
        have g1 : N (6 * k + 1) = tSn tb L P2.2.1 := by rw [hN _ (by omega) (by omega)]; show va_up (va_up (va_up (nG1 tb L q k G P.2.2.2.2.1) (6 * k + 4) (nI P2.2.2.2.2.1)) (6 * k + 1) (tSn tb L P2.2.1)) (6 * k + 5) (nI P3.2.2.2.2.1) (6 * k + 1) = _; rw [up_ne (by omega), xup_at]
        have g2 : N (6 * k + 2) = nI G.1.2.2.1 := by rw [hN _ (by omega) (by omega)]; show va_up (va_up (va_up (nG1 tb L q k G P.2.2.2.2.1) (6 * k + 4) (nI P2.2.2.2.2.1)) (6 * k + 1) (tSn tb L P2.2.1)) (6 * k + 5) (nI P3.2.2.2.2.1) (6 * k + 2) = _; rw [up_ne (by omega), up_ne (by omega), up_ne (by omega), nv.2.2.1]
        have g3 : N (6 * k + 3) = nI P.2.2.2.2.1 := by rw [hN _ (by omega) (by omega)]; show va_up (va_up (va_up (nG1 tb L q k G P.2.2.2.2.1) (6 * k + 4) (nI P2.2.2.2.2.1)) (6 * k + 1) (tSn tb L P2.2.1)) (6 * k + 5) (nI P3.2.2.2.2.1) (6 * k + 3) = _; rw [up_ne (by omega), up_ne (by omega), up_ne (by omega), nv.2.2.2]
        have g4 : N (6 * k + 4) = nI P2.2.2.2.2.1 := by rw [hN _ (by omega) (by omega)]; show va_up (va_up (va_up (nG1 tb L q k G P.2.2.2.2.1) (6 * k + 4) (nI P2.2.2.2.2.1)) (6 * k + 1) (tSn tb L P2.2.1)) (6 * k + 5) (nI P3.2.2.2.2.1) (6 * k + 4) = _; rw [up_ne (by omega), up_ne (by omega), xup_at]
        have g5 : N (6 * k + 5) = nI P3.2.2.2.2.1 := by rw [hN _ (by omega) (by omega)]; exact xup_at _ _ _
        have c1 := cs1 b' F lF1
        have c2 := cs2 b2t F lF2
        have c3 := cs3 b3t F lF3
        have n1 := lP.1
        have n2 := lF1.1
        have n3 := lF2.1
        have n4 := lF3.1
        have m1 := lF1.2.1
        have m2 := lF2.2.1
        have m3 := lF3.2.1
        refine ⟨⟨p, hp, by rw [f1, ep], by rw [g0, ep]⟩, G.1.2.1, P.2.2.2.1, G.1.2.2.1, P.2.2.2.2.1, ⟨f2, f3, g2, g3, by omega, by omega, by omega, c1⟩, Or.inr ⟨by rw [f6]; exact s, by rw [g1, f6], P2.2.2.2.1, P3.2.2.2.1, P2.2.2.2.2.1, P3.2.2.2.2.1, f4, f5, g4, g5, by omega, by omega, by omega, by omega, c2, c3⟩⟩
    · simp only [if_neg s] at ok; cases ok
  · simp only [if_neg w] at ok ⊢
    rw [pEn_t ok]
    refine ⟨lP.tr l2, nP, fun i h1 h3 x hx => ?_, ?_, fun y hy => nG1_lt hy, fun F N hF hX hN h40 h100 => ?_⟩
    · show xSe (xSe P.2.2.1 3 k (nI P.2.2.2.1)) 6 k 32 i x = G.1.1 i x
      rcases (by omega : i = 1 ∨ i = 2 ∨ i = 3 ∨ i = 4 ∨ i = 5 ∨ i = 6) with e | e | e | e | e | e <;> subst e
      · rw [xSe_n (by decide), xSe_n (by decide), X1, up_ne hx]
      · rw [xSe_n (by decide), xSe_n (by decide), X2, up_ne hx]
      · rw [xSe_n (by decide), xSe_e, up_ne hx, Xi 3 (by omega) (by omega)]
      · rw [xSe_n (by decide), xSe_n (by decide), Xi 4 (by omega) (by omega)]
      · rw [xSe_n (by decide), xSe_n (by decide), Xi 5 (by omega) (by omega)]
      · rw [xSe_e, up_ne hx, xSe_n (by decide), Xi 6 (by omega) (by omega)]
    · show xSe (xSe P.2.2.1 3 k (nI P.2.2.2.1)) 6 k 32 0 0 = _
      rw [xSe_n (by decide), xSe_n (by decide), X0]
    · have lF1 : pLe P.2.2 F := l2.tr hF
      have f1 : F.1 1 k = tPn tb L q := by rw [hX 1 (by omega) (by omega)]; show xSe (xSe P.2.2.1 3 k (nI P.2.2.2.1)) 6 k 32 1 k = _; rw [xSe_n (by decide), xSe_n (by decide), X1, xup_at]
      have f2 : F.1 2 k = nI G.1.2.1 := by rw [hX 2 (by omega) (by omega)]; show xSe (xSe P.2.2.1 3 k (nI P.2.2.2.1)) 6 k 32 2 k = _; rw [xSe_n (by decide), xSe_n (by decide), X2, xup_at]
      have f3 : F.1 3 k = nI P.2.2.2.1 := by rw [hX 3 (by omega) (by omega)]; show xSe (xSe P.2.2.1 3 k (nI P.2.2.2.1)) 6 k 32 3 k = _; rw [xSe_n (by decide), xSe_e, xup_at]
      have f6 : F.1 6 k = 32 := by rw [hX 6 (by omega) (by omega)]; show xSe (xSe P.2.2.1 3 k (nI P.2.2.2.1)) 6 k 32 6 k = _; rw [xSe_e, xup_at]
      have nv := nG1_v (tb := tb) (L := L) (q := q) (k := k) (nc := P.2.2.2.2.1) (G := G)
      have g0 : N (6 * k) = tPn tb L q := by rw [hN _ (by omega) (by omega)]; exact nv.1
      have g1 : N (6 * k + 1) = 0 := by rw [hN _ (by omega) (by omega)]; exact nv.2.1
      have g2 : N (6 * k + 2) = nI G.1.2.2.1 := by rw [hN _ (by omega) (by omega)]; exact nv.2.2.1
      have g3 : N (6 * k + 3) = nI P.2.2.2.2.1 := by rw [hN _ (by omega) (by omega)]; exact nv.2.2.2
      have n1 := lP.1
      have n2 := lF1.1
      have m1 := lF1.2.1
      exact ⟨⟨p, hp, by rw [f1, ep], by rw [g0, ep]⟩, G.1.2.1, P.2.2.2.1, G.1.2.2.1, P.2.2.2.2.1, ⟨f2, f3, g2, g3, by omega, by omega, by omega, cs1 b' F lF1⟩, Or.inl ⟨f6, g1⟩⟩
/-- all of them -/
theorem pSp_ok {tb : Nat → Int32} {L : Nat} : ∀ (m k q : Nat) (G : pGt), q ≤ L → k + m = 8 → G.1.2.2.1 ≤ 2 * G.1.2.1 → (∀ q k G, q ≤ L → (pGv tb L q k G).1 = true → (pGv tb L q k G).2.1 ≤ L) → (pSp tb L m k q G).1 = true → k ≤ (pSp tb L m k q G).2.2.1 ∧ (pSp tb L m k q G).2.2.1 ≤ 8 ∧ pLe G.1 (pSp tb L m k q G).2.2.2.1 ∧ (pSp tb L m k q G).2.2.2.1.2.2.1 ≤ 2 * (pSp tb L m k q G).2.2.2.1.2.1 ∧ (∀ i, 1 ≤ i → i ≤ 6 → ∀ x, x < k → (pSp tb L m k q G).2.2.2.1.1 i x = G.1.1 i x) ∧ (∀ y, y < 6 * k → (pSp tb L m k q G).2.2.2.2 y = G.2 y) ∧ ((pSp tb L m k q G).2.2.2.1.2.1 ≤ 40 → ∀ x, k ≤ x → x < (pSp tb L m k q G).2.2.1 → spK (pSp tb L m k q G).2.2.2.1 (pSp tb L m k q G).2.2.2.2 x)
  | 0, k, q, G, hq, hk, h2, hg, ok => by
    unfold pSp at *
    exact ⟨Nat.le_refl _, by show k ≤ 8; omega, pLe.rf _, h2, fun _ _ _ _ _ => rfl, fun _ _ => rfl, fun _ x h1 h3 => by have : x < k := h3; omega⟩
  | m + 1, k, q, G, hq, hk, h2, hg, ok => by
    unfold pSp at ok ⊢
    by_cases a : tIw tb L q 3 = true
    · simp only [if_pos a] at ok ⊢
      by_cases b : (pGv tb L (tNx tb L q) k G).1 = true
      · simp only [if_pos b] at ok ⊢
        have q1 := (tNx_r tb hq).2.1
        have g := pGv_ok q1 h2 b
        have gq := hg _ _ _ q1 b
        generalize pGv tb L (tNx tb L q) k G = R at *
        obtain ⟨r1, r2, r3, r4, r5, r6⟩ := g
        have l0 : pLe R.2.2.1 (xSe R.2.2.1.1 0 0 (nI (k + 1)), R.2.2.1.2) := pLe_Se (X := R.2.2.1.1) (r := R.2.2.1.2) (by decide)
        obtain ⟨i1, i2, i3, i4, i5, i6, i7⟩ := pSp_ok m (k + 1) R.2.1 ((xSe R.2.2.1.1 0 0 (nI (k + 1)), R.2.2.1.2), R.2.2.2) gq (by omega) r2 hg ok
        generalize pSp tb L m (k + 1) R.2.1 ((xSe R.2.2.1.1 0 0 (nI (k + 1)), R.2.2.1.2), R.2.2.2) = E at *
        have i5' : ∀ i, 1 ≤ i → i ≤ 6 → ∀ x, x < k + 1 → E.2.2.2.1.1 i x = R.2.2.1.1 i x := fun i h1 h3 x hx => by
          rw [i5 i h1 h3 x hx]
          show xSe R.2.2.1.1 0 0 (nI (k + 1)) i x = _
          rw [xSe_n (by omega)]
        refine ⟨by omega, i2, (r1.tr l0).tr i3, i4, fun i h1 h3 x hx => ?_, fun y hy => ?_, fun h40 x hx1 hx2 => ?_⟩
        · rw [i5' i h1 h3 x (by omega), r3 i h1 h3 x (by omega)]
        · rw [i6 y (by omega)]; exact r5 y hy
        · by_cases hxk : x = k
          · subst hxk
            exact r6 _ _ (l0.tr i3) (fun i h1 h3 => i5' i h1 h3 x (by omega)) (fun y h1 h3 => i6 y (by omega)) h40 (by omega)
          · exact i7 h40 x (by omega) hx2
      · simp only [if_neg b] at ok; cases ok
    · simp only [if_neg a] at ok ⊢
      exact ⟨Nat.le_refl _, by omega, pLe.rf _, h2, fun _ _ _ _ _ => trivial, fun _ _ => trivial, fun _ x h1 h3 => by omega⟩
