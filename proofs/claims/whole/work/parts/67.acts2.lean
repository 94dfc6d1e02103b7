/-! the text of acts: class -/
def aB (S : xS) (K W N : Nat → Int32) : xS := xw (xw (xw S 12 K) 13 W) 14 N
theorem aB_12 (S : xS) (K W N : Nat → Int32) : (aB S K W N).1 12 = K := by unfold aB; rw [xw_ne _ _ (by decide), xw_ne _ _ (by decide), xw_1]
theorem aB_13 (S : xS) (K W N : Nat → Int32) : (aB S K W N).1 13 = W := by unfold aB; rw [xw_ne _ _ (by decide), xw_1]
theorem aB_14 (S : xS) (K W N : Nat → Int32) : (aB S K W N).1 14 = N := by unfold aB; rw [xw_1]
theorem aI_12 {S : xS} {K W N g : Nat → Int32} {k : Nat} {v : Int32} : xI (xw (aB S K W N) 1 g) 12 k v = xw (aB S (va_up K k v) W N) 1 g := by
  rw [xI_w1 (by decide)]
  unfold aB
  rw [xw_c (show (13 : Nat) ≠ 14 by decide), xw_c (show (12 : Nat) ≠ 14 by decide), xw_c (show (12 : Nat) ≠ 13 by decide), xI_xw, xw_c (show (13 : Nat) ≠ 12 by decide), xw_c (show (14 : Nat) ≠ 12 by decide), xw_c (show (14 : Nat) ≠ 13 by decide)]
theorem aI_13 {S : xS} {K W N g : Nat → Int32} {k : Nat} {v : Int32} : xI (xw (aB S K W N) 1 g) 13 k v = xw (aB S K (va_up W k v) N) 1 g := by
  rw [xI_w1 (by decide)]
  unfold aB
  rw [xw_c (show (13 : Nat) ≠ 14 by decide), xI_xw, xw_c (show (14 : Nat) ≠ 13 by decide)]
theorem aI_14 {S : xS} {K W N g : Nat → Int32} {k : Nat} {v : Int32} : xI (xw (aB S K W N) 1 g) 14 k v = xw (aB S K W (va_up N k v)) 1 g := by
  rw [xI_w1 (by decide)]
  unfold aB
  rw [xI_xw]
theorem aB_h {T : xT} {S : xS} {tb : Nat → Int32} {L : Nat} {K W N : Nat → Int32} (h : cTb T S tb L) : cTb T (aB S K W N) tb L := cTb_w (by decide) (cTb_w (by decide) (cTb_w (by decide) h))
theorem aL {T : xT} {r : Nat → Nat → Option Nat} (tp : xTp T r) : T.2.1 12 = 30 ∧ T.2.1 13 = 30 ∧ T.2.1 14 = 30 := ⟨xTp_n tp 30 (by decide) rfl, xTp_n tp 30 (by decide) rfl, xTp_n tp 30 (by decide) rfl⟩
theorem bool_f {b : Bool} (h : ¬ b = true) : b = false := by cases b <;> simp_all
theorem c_readWho {T : xT} {S : xS} {tb : Nat → Int32} {L q k c : Nat} {K W N g : Nat → Int32} (h : cTb T S tb L) (hq : q ≤ L) (hk : k < 30) (hc : c < 10) (hK : K k = nI c) (hg : cTk tb L q g) (hW : W k = 0) : ∃ g' W', f_X0_readWho T (xw (aB S K W N) 1 g) 10 1 (nI k) = some (b2 (pWh tb L q (nI c)).1, xw (aB S K W' N) 1 g') ∧ cAf tb L (pWh tb L q (nI c)).1 (pWh tb L q (nI c)).2.1 (g 2) g' ∧ (∀ x, x ≠ k → W' x = W x) ∧ ((pWh tb L q (nI c)).1 = true → W' k = (pWh tb L q (nI c)).2.2) := by
  have hl := aL h.1
  have num : ∀ (E : pWh tb L q (nI c) = (decide (tNm tb L q 0 7 ≠ -1), if tNm tb L q 0 7 ≠ -1 then tNx tb L q else q, tNm tb L q 0 7)), ∃ g' W', xgr T (xw (aB S K W N) 1 g) 10 4 20 (fun a6 => xc (f_X3_needNumber T (xw (aB S K W N) 1 g) 1 ((0 : Int32)) ((7 : Int32))) (fun r8 S7 => xst T S7 a6 (nI k) r8 (fun S9 => xgr T S9 10 4 20 (fun a10 => xai T S9 a10 (nI k) (fun v11 => if v11 = (-1 : Int32) then some ((0 : Int32), S9) else some ((1 : Int32), S9)))))) = some (b2 (pWh tb L q (nI c)).1, xw (aB S K W' N) 1 g') ∧ cAf tb L (pWh tb L q (nI c)).1 (pWh tb L q (nI c)).2.1 (g 2) g' ∧ (∀ x, x ≠ k → W' x = W x) ∧ ((pWh tb L q (nI c)).1 = true → W' k = (pWh tb L q (nI c)).2.2) := fun E => by
    obtain ⟨g1, e1, k1⟩ := c_needNumber (aB_h (K := K) (W := W) (N := N) h) hq hg (lo := 0) (hi := 7) (by decide)
    rw [rr_10_4 (S := xw (aB S K W N) 1 g) h.1, e1, xc_e, xst_n hl.2.1 hk (by decide), aI_13, rr_10_4 (S := xw (aB S K (va_up W k (tNm tb L q 0 7)) N) 1 g1) h.1, xai_n hl.2.1 hk (by decide), xw_ne _ _ (by decide), aB_13, xup_at, E]
    refine ⟨g1, _, ?_, k1, fun x hx => up_ne hx, fun _ => xup_at _ _ _⟩
    by_cases a : tNm tb L q 0 7 = -1
    · rw [if_pos a, show b2 (decide (tNm tb L q 0 7 ≠ -1)) = 0 from by rw [decide_eq_false (fun z => z a)]; rfl]
    · rw [if_neg a, show b2 (decide (tNm tb L q 0 7 ≠ -1)) = 1 from by rw [decide_eq_true a]; rfl]
  unfold f_X0_readWho
  rw [rr_10_3 (S := xw (aB S K W N) 1 g) h.1, xai_n hl.1 hk (by decide), xw_ne _ _ (by decide), aB_12, hK]
  rcases c with _ | _ | _ | _ | _ | _ | c
  · rw [if_pos (show nI 0 = (0 : Int32) from rfl)]
    exact ⟨g, W, rfl, c_afT hg rfl, fun _ _ => rfl, fun _ => hW⟩
  · rw [if_neg (by decide), if_pos (show nI (0 + 1) = (1 : Int32) from rfl)]
    exact ⟨g, W, rfl, c_afT hg rfl, fun _ _ => rfl, fun _ => hW⟩
  · rw [if_neg (by decide), if_neg (by decide), if_pos (show nI (0 + 1 + 1) = (2 : Int32) from rfl)]
    exact num rfl
  · rw [if_neg (by decide), if_neg (by decide), if_neg (by decide), if_pos (show nI (0 + 1 + 1 + 1) = (3 : Int32) from rfl)]
    exact num rfl
  · rw [if_neg (by decide), if_neg (by decide), if_neg (by decide), if_neg (by decide), if_pos (show nI (0 + 1 + 1 + 1 + 1) = (4 : Int32) from rfl)]
    exact num rfl
  · rw [if_neg (by decide), if_neg (by decide), if_neg (by decide), if_neg (by decide), if_neg (by decide), if_pos (show nI (0 + 1 + 1 + 1 + 1 + 1) = (5 : Int32) from rfl)]
    exact num rfl
  · have ne : ∀ d, d < 6 → ¬ nI (c + 1 + 1 + 1 + 1 + 1 + 1) = nI d := fun d hd z => by
      have := (nI_eq (a := c + 1 + 1 + 1 + 1 + 1 + 1) (b := d) (by omega) (by omega)).mp z
      omega
    have gt : ∀ d, d < 6 → ¬ nI (c + 1 + 1 + 1 + 1 + 1 + 1) ≤ nI d := fun d hd z => by
      have := (nI_leI (a := c + 1 + 1 + 1 + 1 + 1 + 1) (b := d) (by omega) (by omega)).mp z
      omega
    rw [if_neg (show ¬ nI (c + 1 + 1 + 1 + 1 + 1 + 1) = (0 : Int32) from ne 0 (by decide)), if_neg (show ¬ nI (c + 1 + 1 + 1 + 1 + 1 + 1) = (1 : Int32) from ne 1 (by decide)), if_neg (show ¬ nI (c + 1 + 1 + 1 + 1 + 1 + 1) = (2 : Int32) from ne 2 (by decide)), if_neg (show ¬ nI (c + 1 + 1 + 1 + 1 + 1 + 1) = (3 : Int32) from ne 3 (by decide)), if_neg (show ¬ nI (c + 1 + 1 + 1 + 1 + 1 + 1) = (4 : Int32) from ne 4 (by decide)), if_neg (show ¬ nI (c + 1 + 1 + 1 + 1 + 1 + 1) = (5 : Int32) from ne 5 (by decide))]
    have E : pWh tb L q (nI (c + 1 + 1 + 1 + 1 + 1 + 1)) = (decide (tPn tb L q ≠ -1), if tPn tb L q ≠ -1 then tNx tb L q else q, tPn tb L q) := by
      unfold pWh
      rw [if_neg (show ¬ nI (c + 1 + 1 + 1 + 1 + 1 + 1) ≤ (1 : Int32) from gt 1 (by decide)), if_neg (show ¬ nI (c + 1 + 1 + 1 + 1 + 1 + 1) ≤ (5 : Int32) from gt 5 (by decide))]
    obtain ⟨g1, e1, k1⟩ := c_needPartner (aB_h (K := K) (W := W) (N := N) h) hq hg
    rw [rr_10_4 (S := xw (aB S K W N) 1 g) h.1, e1, xc_e, xst_n hl.2.1 hk (by decide), aI_13, rr_10_4 (S := xw (aB S K (va_up W k (tPn tb L q)) N) 1 g1) h.1, xai_n hl.2.1 hk (by decide), xw_ne _ _ (by decide), aB_13, xup_at, E]
    refine ⟨g1, _, ?_, k1, fun x hx => up_ne hx, fun _ => xup_at _ _ _⟩
    by_cases a : tPn tb L q = -1
    · rw [if_pos a, show b2 (decide (tPn tb L q ≠ -1)) = 0 from by rw [decide_eq_false (fun z => z a)]; rfl]
    · rw [if_neg a, show b2 (decide (tPn tb L q ≠ -1)) = 1 from by rw [decide_eq_true a]; rfl]
theorem c_amount55 {T : xT} {S : xS} {tb : Nat → Int32} {L q k : Nat} {K W N g : Nat → Int32} {le : Int32} (h : cTb T S tb L) (hq : q ≤ L) (hk : k < 30) (hg : cTk tb L q g) : ∃ g' N', f_X0_readAmount_55 T (xw (aB S K W N) 1 g) 10 1 (nI k) le = some (b2 (pNu tb L q).1, xw (aB S K W N') 1 g') ∧ cAf tb L (pNu tb L q).1 (pNu tb L q).2.1 (g 2) g' ∧ (∀ x, x ≠ k → N' x = N x) ∧ N' k = if le = 0 then (pNu tb L q).2.2 else -(pNu tb L q).2.2 := by
  have hl := aL h.1
  obtain ⟨g1, e1, k1⟩ := c_needNumber (aB_h (K := K) (W := W) (N := N) h) hq hg (lo := 0) (hi := 1000000) (by decide)
  have fin : ∀ X : xS, (if tNm tb L q 0 1000000 = (-1 : Int32) then some ((0 : Int32), X) else some ((1 : Int32), X)) = some (b2 (pNu tb L q).1, X) := fun X => by
    unfold pNu
    by_cases a : tNm tb L q 0 1000000 = -1
    · rw [if_pos a, show b2 (decide (tNm tb L q 0 1000000 ≠ -1)) = 0 from by rw [decide_eq_false (fun z => z a)]; rfl]
    · rw [if_neg a, show b2 (decide (tNm tb L q 0 1000000 ≠ -1)) = 1 from by rw [decide_eq_true a]; rfl]
  unfold f_X0_readAmount_55
  rw [e1, xc_e, xl_e, rr_10_5 (S := xw (aB S K W N) 1 g1) h.1]
  by_cases a : le = 0
  · rw [if_pos a, xst_n hl.2.2 hk (by decide), aI_14, fin]
    exact ⟨g1, _, rfl, k1, fun x hx => up_ne hx, by rw [if_pos a]; exact xup_at _ _ _⟩
  · rw [if_neg a, xst_n hl.2.2 hk (by decide), aI_14, fin]
    exact ⟨g1, _, rfl, k1, fun x hx => up_ne hx, by rw [if_neg a]; exact xup_at _ _ _⟩
theorem c_amount {T : xT} {S : xS} {tb : Nat → Int32} {L q k c : Nat} {K W N g : Nat → Int32} (h : cTb T S tb L) (hq : q ≤ L) (hk : k < 30) (hc : c < 10) (hK : K k = nI c) (hg : cTk tb L q g) (hN : N k = 0) : ∃ g' N', f_X0_readAmount T (xw (aB S K W N) 1 g) 10 1 (nI k) = some (b2 (pAm tb L q (nI c)).1, xw (aB S K W N') 1 g') ∧ cAf tb L (pAm tb L q (nI c)).1 (pAm tb L q (nI c)).2.1 (g 2) g' ∧ (∀ x, x ≠ k → N' x = N x) ∧ ((pAm tb L q (nI c)).1 = true → N' k = (pAm tb L q (nI c)).2.2) := by
  have hl := aL h.1
  unfold f_X0_readAmount pAm
  rw [rr_10_3 (S := xw (aB S K W N) 1 g) h.1, xai_n hl.1 hk (by decide), xw_ne _ _ (by decide), aB_12, hK]
  by_cases a0 : nI c = 0
  · rw [if_pos a0]
    simp only [if_pos (show nI c = 0 ∨ nI c = 9 from Or.inl a0)]
    exact ⟨g, N, rfl, c_afT hg rfl, fun _ _ => rfl, fun _ => hN⟩
  · rw [if_neg a0, rr_10_3 (S := xw (aB S K W N) 1 g) h.1, xai_n hl.1 hk (by decide), xw_ne _ _ (by decide), aB_12, hK]
    by_cases a9 : nI c = 9
    · rw [if_pos a9]
      simp only [if_pos (show nI c = 0 ∨ nI c = 9 from Or.inr a9)]
      exact ⟨g, N, rfl, c_afT hg rfl, fun _ _ => rfl, fun _ => hN⟩
    · rw [if_neg a9, rr_10_3 (S := xw (aB S K W N) 1 g) h.1, xai_n hl.1 hk (by decide), xw_ne _ _ (by decide), aB_12, hK]
      simp only [if_neg (show ¬ (nI c = 0 ∨ nI c = 9) from fun z => z.elim a0 a9)]
      by_cases a1 : nI c = 1
      · rw [if_pos a1, c_isSign hg, xc_e]
        by_cases s : tKd tb L q = 3 ∧ tb (tPl tb L q) = 45
        · rw [if_pos s, if_neg (show ¬ (1 : Int32) = 0 by decide), xl_e, if_neg (show ¬ (1 : Int32) = 0 by decide)]
          simp only [if_pos (show nI c = 1 ∧ tKd tb L q = 3 ∧ tb (tPl tb L q) = 45 from ⟨a1, s⟩)]
          obtain ⟨g1, e1, k1, z1⟩ := c_next (aB_h (K := K) (W := W) (N := N) h) hq hg
          rw [e1, xcv_e]
          obtain ⟨g2, N2, e2, k2, x2, v2⟩ := c_amount55 (le := 1) (K := K) (W := W) (N := N) h (tNx_r tb hq).2.1 hk k1
          rw [z1] at k2
          exact ⟨g2, N2, e2, k2, x2, fun _ => by rw [v2, if_neg (by decide)]⟩
        · rw [if_neg s, if_pos rfl, xl_e, if_pos rfl]
          simp only [if_neg (show ¬ (nI c = 1 ∧ tKd tb L q = 3 ∧ tb (tPl tb L q) = 45) from fun z => s z.2)]
          obtain ⟨g2, N2, e2, k2, x2, v2⟩ := c_amount55 (le := 0) (K := K) (W := W) (N := N) h hq hk hg
          exact ⟨g2, N2, e2, k2, x2, fun _ => by rw [v2, if_pos rfl]⟩
      · rw [if_neg a1, xl_e, if_pos rfl]
        simp only [if_neg (show ¬ (nI c = 1 ∧ tKd tb L q = 3 ∧ tb (tPl tb L q) = 45) from fun z => a1 z.1)]
        obtain ⟨g2, N2, e2, k2, x2, v2⟩ := c_amount55 (le := 0) (K := K) (W := W) (N := N) h hq hk hg
        exact ⟨g2, N2, e2, k2, x2, fun _ => by rw [v2, if_pos rfl]⟩
theorem c_readAct {T : xT} {S : xS} {tb : Nat → Int32} {L q k : Nat} {K W N g : Nat → Int32} (h : cTb T S tb L) (hq : q ≤ L) (hk : k < 30) (hg : cTk tb L q g) : ∃ g' K' W' N', f_X0_readAct T (xw (aB S K W N) 1 g) 10 1 (nI k) = some (b2 (pAc tb L q).1, xw (aB S K' W' N') 1 g') ∧ cAf tb L (pAc tb L q).1 (pAc tb L q).2.1 (g 2) g' ∧ (∀ x, x ≠ k → K' x = K x ∧ W' x = W x ∧ N' x = N x) ∧ ((pAc tb L q).1 = true → K' k = (pAc tb L q).2.2.1 ∧ W' k = (pAc tb L q).2.2.2.1 ∧ N' k = (pAc tb L q).2.2.2.2) := by
  have hl := aL h.1
  unfold f_X0_readAct pAc
  rw [rr_10_3 (S := xw (aB S K W N) 1 g) h.1, c_actHere (aB_h h) hq hg, xc_e, xst_n hl.1 hk (by decide), aI_12, rr_10_4 (S := xw (aB S (va_up K k (tAk tb L q)) W N) 1 g) h.1, xst_n hl.2.1 hk (by decide), aI_13, rr_10_5 (S := xw (aB S (va_up K k (tAk tb L q)) (va_up W k 0) N) 1 g) h.1, xst_n hl.2.2 hk (by decide), aI_14, rr_10_3 (S := xw (aB S (va_up K k (tAk tb L q)) (va_up W k 0) (va_up N k 0)) 1 g) h.1, xai_n hl.1 hk (by decide), xw_ne _ _ (by decide), aB_12, xup_at]
  by_cases a : tAk tb L q = -1
  · rw [if_pos a, c_refuse hg, xc_e, xgd_h (by decide)]
    simp only [if_pos a]
    exact ⟨_, _, _, _, rfl, c_afF (xup_at _ _ _), fun x hx => ⟨up_ne hx, up_ne hx, up_ne hx⟩, fun z => (by cases z)⟩
  rw [if_neg a]
  simp only [if_neg a]
  rcases tAk_r tb L q hq with z | ⟨⟨c, hc, ec⟩, _⟩
  · exact absurd z a
  obtain ⟨g1, e1, k1, z1⟩ := c_next (aB_h (K := va_up K k (tAk tb L q)) (W := va_up W k 0) (N := va_up N k 0) h) hq hg
  have q1 := (tNx_r tb hq).2.1
  rw [e1, xcv_e]
  obtain ⟨g2, W2, e2, k2, x2, v2⟩ := c_readWho (K := va_up K k (tAk tb L q)) (W := va_up W k 0) (N := va_up N k 0) h q1 hk hc (by rw [xup_at, ec]) k1 (xup_at _ _ _)
  rw [e2, xc_e]
  rw [z1] at k2
  rw [ec]
  generalize hP : pWh tb L (tNx tb L q) (nI c) = P at *
  by_cases b : P.1 = false
  · rw [if_pos (show b2 P.1 = 0 by rw [b]; rfl)]
    simp only [if_pos b]
    exact ⟨g2, _, W2, _, rfl, c_afF (c_aff b k2), fun x hx => ⟨up_ne hx, by rw [x2 x hx, up_ne hx], up_ne hx⟩, fun z => (by cases z)⟩
  have b' : P.1 = true := by cases hh : P.1 <;> simp_all
  rw [if_neg (show ¬ b2 P.1 = 0 by rw [b']; decide)]
  simp only [if_neg b]
  obtain ⟨k2', z2⟩ := c_af b' k2
  have hPq : P.2.1 ≤ L := by rw [← hP]; exact (pWh_r q1 (nI c)).1
  obtain ⟨g3, N3, e3, k3, x3, v3⟩ := c_amount (K := va_up K k (nI c)) (W := W2) (N := va_up N k 0) h hPq hk hc (xup_at _ _ _) k2' (xup_at _ _ _)
  rw [e3, xc_e]
  rw [z2] at k3
  generalize hM : pAm tb L P.2.1 (nI c) = M at *
  by_cases d : M.1 = false
  · rw [if_pos (show b2 M.1 = 0 by rw [d]; rfl)]
    simp only [if_pos d]
    exact ⟨g3, _, W2, N3, rfl, c_afF (c_aff d k3), fun x hx => ⟨up_ne hx, by rw [x2 x hx, up_ne hx], by rw [x3 x hx, up_ne hx]⟩, fun z => (by cases z)⟩
  have d' : M.1 = true := by cases hh : M.1 <;> simp_all
  rw [if_neg (show ¬ b2 M.1 = 0 by rw [d']; decide)]
  simp only [if_neg d]
  obtain ⟨k3', z3⟩ := c_af d' k3
  have hMq : M.2.1 ≤ L := by rw [← hM]; exact (pAm_r hPq (nI c)).1
  obtain ⟨g4, e4, k4⟩ := c_needSign (aB_h (K := va_up K k (nI c)) (W := W2) (N := N3) h) hMq k3' 59
  rw [e4, xc_e]
  rw [z3] at k4
  by_cases s : tKd tb L M.2.1 = 3 ∧ tb (tPl tb L M.2.1) = 59
  · rw [if_pos s, if_neg (show ¬ (1 : Int32) = 0 by decide)]
    simp only [if_pos s]
    rw [decide_eq_true s, if_pos s] at k4
    exact ⟨g4, _, W2, N3, rfl, k4, fun x hx => ⟨up_ne hx, by rw [x2 x hx, up_ne hx], by rw [x3 x hx, up_ne hx]⟩, fun _ => ⟨xup_at _ _ _, v2 b', v3 d'⟩⟩
  · rw [if_neg s, if_pos rfl]
    simp only [if_neg s]
    rw [decide_eq_false s, if_neg s] at k4
    exact ⟨g4, _, W2, N3, rfl, k4, fun x hx => ⟨up_ne hx, by rw [x2 x hx, up_ne hx], by rw [x3 x hx, up_ne hx]⟩, fun z => (by cases z)⟩
theorem L_cA {T : xT} {S : xS} {tb : Nat → Int32} {L : Nat} (h : cTb T S tb L) : ∀ (m k n q : Nat) (K W N g K0 W0 N0 : Nat → Int32), k + m = 30 → m < n → q ≤ L → cTk tb L q g → (∀ x, x < k → K x = K0 x ∧ W x = W0 x ∧ N x = N0 x) → ∃ g' K' W' N', f_X0_readActs_8 T n (xw (aB S K W N) 1 g) 10 1 (nI k) (nI k) = some (if (pAs tb L m k q K0 W0 N0).1 = true then nI (pAs tb L m k q K0 W0 N0).2.2.1 else -1, xw (aB S K' W' N') 1 g') ∧ cAf tb L (pAs tb L m k q K0 W0 N0).1 (pAs tb L m k q K0 W0 N0).2.1 (g 2) g' ∧ ((pAs tb L m k q K0 W0 N0).1 = true → ∀ x, x < (pAs tb L m k q K0 W0 N0).2.2.1 → K' x = (pAs tb L m k q K0 W0 N0).2.2.2.1 x ∧ W' x = (pAs tb L m k q K0 W0 N0).2.2.2.2.1 x ∧ N' x = (pAs tb L m k q K0 W0 N0).2.2.2.2.2 x) := by
  intro m
  induction m with
  | zero =>
    intro k n q K W N g K0 W0 N0 hk hn hq hg hx
    obtain ⟨n, rfl⟩ : ∃ n', n = n' + 1 := ⟨n - 1, by omega⟩
    obtain rfl : k = 30 := by omega
    unfold f_X0_readActs_8 pAs
    rw [if_pos (by decide)]
    obtain ⟨g1, e1, k1⟩ := c_needEnd (T := T) (S := aB S K W N) hg
    rw [e1, xc_e]
    by_cases a : tKd tb L q = 0
    · rw [if_pos a, if_neg (show ¬ (1 : Int32) = 0 by decide), decide_eq_true a]
      rw [decide_eq_true a] at k1
      exact ⟨g1, K, W, N, by rw [if_pos rfl], k1, fun _ x hx2 => hx x hx2⟩
    · rw [if_neg a, if_pos rfl, decide_eq_false a]
      rw [decide_eq_false a] at k1
      exact ⟨g1, K, W, N, by rw [if_neg (show ¬ false = true by decide)], k1, fun z => (by cases z)⟩
  | succ m ih =>
    intro k n q K W N g K0 W0 N0 hk hn hq hg hx
    obtain ⟨n, rfl⟩ : ∃ n', n = n' + 1 := ⟨n - 1, by omega⟩
    unfold f_X0_readActs_8 pAs f_X3_isAtEnd
    rw [if_neg (show ¬ (30 : Int32) ≤ nI k from nI_ge (a := k) (b := 30) (by omega) (by decide)), xw_1, hg.2.2.2.1]
    by_cases a : tKd tb L q = 0
    · rw [if_pos a, xc_e, if_neg (show ¬ (1 : Int32) = 0 by decide)]
      obtain ⟨g1, e1, k1⟩ := c_needEnd (T := T) (S := aB S K W N) hg
      rw [e1, xc_e]
      simp only [if_pos a]
      rw [if_neg (show ¬ (1 : Int32) = 0 by decide)]
      rw [decide_eq_true a] at k1
      exact ⟨g1, K, W, N, by rw [if_pos trivial], k1, fun _ x hx2 => hx x hx2⟩
    · rw [if_neg a, xc_e, if_pos rfl]
      simp only [if_neg a]
      obtain ⟨g1, K1, W1, N1, e1, k1, x1, v1⟩ := c_readAct (K := K) (W := W) (N := N) h hq (show k < 30 by omega) hg
      rw [e1, xc_e]
      by_cases b : (pAc tb L q).1 = true
      · rw [if_neg (show ¬ b2 (pAc tb L q).1 = 0 by rw [b]; decide), xl_e, xl_e, nI_1]
        simp only [if_pos b]
        obtain ⟨k1', z1⟩ := c_af b k1
        obtain ⟨g2, K2, W2, N2, e2, k2, v2⟩ := ih (k + 1) n (pAc tb L q).2.1 K1 W1 N1 g1 (va_up K0 k (pAc tb L q).2.2.1) (va_up W0 k (pAc tb L q).2.2.2.1) (va_up N0 k (pAc tb L q).2.2.2.2) (by omega) (by omega) (pAc_r hq).1 k1' (fun x hx2 => by
          by_cases hxk : x = k
          · subst hxk; rw [xup_at, xup_at, xup_at]; exact v1 b
          · rw [up_ne hxk, up_ne hxk, up_ne hxk, (x1 x hxk).1, (x1 x hxk).2.1, (x1 x hxk).2.2]; exact hx x (by omega))
        rw [z1] at k2
        exact ⟨g2, K2, W2, N2, e2, k2, v2⟩
      · have b' := bool_f b
        rw [if_pos (show b2 (pAc tb L q).1 = 0 by rw [b']; rfl)]
        simp only [if_neg b]
        exact ⟨g1, K1, W1, N1, by rw [if_neg (by decide)], c_afF (c_aff b' k1), fun z => (by cases z)⟩
theorem c_readActs {T : xT} {S : xS} {tb : Nat → Int32} {L : Nat} {K W N g : Nat → Int32} (h : cTb T S tb L) (h1 : g 1 = nI L) : ∃ g' K' W' N', f_X0_readActs T (xw (aB S K W N) 1 g) 10 1 = some (if (pAs tb L 30 0 0 z8 z8 z8).1 = true then nI (pAs tb L 30 0 0 z8 z8 z8).2.2.1 else -1, xw (aB S K' W' N') 1 g') ∧ cAf tb L (pAs tb L 30 0 0 z8 z8 z8).1 (pAs tb L 30 0 0 z8 z8 z8).2.1 (-1) g' ∧ ((pAs tb L 30 0 0 z8 z8 z8).1 = true → ∀ x, x < (pAs tb L 30 0 0 z8 z8 z8).2.2.1 → K' x = (pAs tb L 30 0 0 z8 z8 z8).2.2.2.1 x ∧ W' x = (pAs tb L 30 0 0 z8 z8 z8).2.2.2.2.1 x ∧ N' x = (pAs tb L 30 0 0 z8 z8 z8).2.2.2.2.2 x) := by
  unfold f_X0_readActs
  obtain ⟨g1, e1, k1, z1⟩ := c_start (aB_h (K := K) (W := W) (N := N) h) h1
  rw [e1, xcv_e, xl_e, xl_e]
  obtain ⟨g2, K2, W2, N2, e2, k2, v2⟩ := L_cA h 30 0 xfu 0 K W N g1 z8 z8 z8 rfl (by decide) (by omega) k1 (fun x hx => by omega)
  rw [z1] at k2
  exact ⟨g2, K2, W2, N2, e2, k2, v2⟩
