/-! specials: class -/
abbrev pGt : Type := pSt × (Nat → Int32)
def xSe (X : Nat → Nat → Int32) (i k : Nat) (v : Int32) : Nat → Nat → Int32 := va_up X i (va_up (X i) k v)
/-- behind both sums: the sign of an end -/
def pEn (tb : Nat → Int32) (L q : Nat) (G : pGt) : Bool × Nat × pGt := if tSn tb L q = 59 then (true, tNx tb L q, G) else (false, q, G)
/-- the first sum of a special, with who has it -/
def pG1 (tb : Nat → Int32) (L q k : Nat) (G : pGt) : Bool × Nat × pSt := pSu tb L (tNx tb L q) (xSe (xSe G.1.1 1 k (tPn tb L q)) 2 k (nI G.1.2.1), G.1.2.1, G.1.2.2.1, G.1.2.2.2)
def nG1 (tb : Nat → Int32) (L q k : Nat) (G : pGt) (nc : Nat) : Nat → Int32 := va_up (va_up (va_up (va_up (va_up (va_up G.2 (6 * k) (tPn tb L q)) (6 * k + 1) 0) (6 * k + 2) (nI G.1.2.2.1)) (6 * k + 3) (nI nc)) (6 * k + 4) (nI nc)) (6 * k + 5) (nI nc)
def pG2 (tb : Nat → Int32) (L k : Nat) (P : Bool × Nat × pSt) : Bool × Nat × pSt := pSu tb L (tNx tb L P.2.1) (xSe (xSe P.2.2.1 3 k (nI P.2.2.2.1)) 6 k 32, P.2.2.2)
def pG3 (tb : Nat → Int32) (L k : Nat) (P : Bool × Nat × pSt) : Bool × Nat × pSt := pSu tb L (tNx tb L P.2.1) (xSe (xSe P.2.2.1 4 k (nI P.2.2.2.1)) 6 k (tSn tb L P.2.1), P.2.2.2)
def pGv (tb : Nat → Int32) (L q k : Nat) (G : pGt) : Bool × Nat × pGt :=
  if tPn tb L q = -1 then (false, q, G) else
  if (pG1 tb L q k G).1 = false then (false, (pG1 tb L q k G).2.1, G) else
  if tIw tb L (pG1 tb L q k G).2.1 11 = true then
    (if (pG2 tb L k (pG1 tb L q k G)).1 = false then (false, (pG2 tb L k (pG1 tb L q k G)).2.1, G) else
     if tSn tb L (pG2 tb L k (pG1 tb L q k G)).2.1 = 60 ∨ tSn tb L (pG2 tb L k (pG1 tb L q k G)).2.1 = 62 then
       (if (pG3 tb L k (pG2 tb L k (pG1 tb L q k G))).1 = false then (false, (pG3 tb L k (pG2 tb L k (pG1 tb L q k G))).2.1, G) else
        pEn tb L (pG3 tb L k (pG2 tb L k (pG1 tb L q k G))).2.1 ((xSe (pG3 tb L k (pG2 tb L k (pG1 tb L q k G))).2.2.1 5 k (nI (pG3 tb L k (pG2 tb L k (pG1 tb L q k G))).2.2.2.1), (pG3 tb L k (pG2 tb L k (pG1 tb L q k G))).2.2.2), va_up (va_up (va_up (nG1 tb L q k G (pG1 tb L q k G).2.2.2.2.1) (6 * k + 4) (nI (pG2 tb L k (pG1 tb L q k G)).2.2.2.2.1)) (6 * k + 1) (tSn tb L (pG2 tb L k (pG1 tb L q k G)).2.1)) (6 * k + 5) (nI (pG3 tb L k (pG2 tb L k (pG1 tb L q k G))).2.2.2.2.1)))
     else (false, (pG2 tb L k (pG1 tb L q k G)).2.1, G))
  else pEn tb L (pG1 tb L q k G).2.1 ((xSe (xSe (pG1 tb L q k G).2.2.1 3 k (nI (pG1 tb L q k G).2.2.2.1)) 6 k 32, (pG1 tb L q k G).2.2.2), nG1 tb L q k G (pG1 tb L q k G).2.2.2.2.1)
theorem xSe_01 {X : Nat → Nat → Int32} {i k : Nat} {v : Int32} (h : i ≠ 0) : xSe X i k v 0 1 = X 0 1 := by
  unfold xSe
  rw [va_up_ne _ _ (fun z => h z.symm)]
theorem c_end59 {T : xT} {S : xS} {tb : Nat → Int32} {L q : Nat} (h : cTb T S tb L) (hq : q ≤ L) {g : Nat → Int32} {G : pGt} (hg : cTk tb L q g) : ∃ g', xc (f_X3_needSign T (xw S 1 g) 1 ((59 : Int32))) (fun r9 S8 => xgd (xnz r9) (some (r9, S8))) = some (b2 (pEn tb L q G).1, xw S 1 g') ∧ cAf tb L (pEn tb L q G).1 (pEn tb L q G).2.1 (g 2) g' ∧ (pEn tb L q G).2.2 = G := by
  obtain ⟨g1, e1, k1⟩ := c_needSign h hq hg 59
  rw [e1, xc_e]
  unfold pEn
  by_cases s : tKd tb L q = 3 ∧ tb (tPl tb L q) = 59
  · have s' := (tSn_i (c := 59) (by decide) tb L q).mp s
    rw [if_pos s, xgd_h (by decide)]
    simp only [if_pos s']
    rw [decide_eq_true s, if_pos s] at k1
    exact ⟨g1, rfl, k1, trivial⟩
  · have s' : ¬ tSn tb L q = 59 := fun z => s ((tSn_i (c := 59) (by decide) tb L q).mpr z)
    rw [if_neg s, xgd_h (by decide)]
    simp only [if_neg s']
    rw [decide_eq_false s, if_neg s] at k1
    exact ⟨g1, rfl, k1, trivial⟩
/-- how a special being read leaves the class -/
def cGv (T : xT) (S : xS) (tb : Nat → Int32) (L sa : Nat) (P : Bool × Nat × pGt) (f0 : Int32) (r : Option (Int32 × xS)) : Prop := (P.1 = true → ∃ g', r = some (1, xw (spB S sa P.2.2.1.1) 1 g') ∧ cTk tb L P.2.1 g' ∧ g' 2 = f0 ∧ P.2.1 ≤ L ∧ P.2.2.1.2.1 ≤ 40 ∧ P.2.2.1.1 0 1 = nI P.2.2.1.2.1) ∧ (P.1 = false → ∃ g' X', r = some (0, xw (spB S sa X') 1 g') ∧ g' 2 = nI (tPl tb L P.2.1))
theorem cGv_f {T : xT} {S : xS} {tb : Nat → Int32} {L sa q : Nat} {G : pGt} {f0 : Int32} {g : Nat → Int32} {X : Nat → Nat → Int32} (h : g 2 = nI (tPl tb L q)) : cGv T S tb L sa (false, q, G) f0 (some (0, xw (spB S sa X) 1 g)) := ⟨fun z => (by cases z), fun _ => ⟨g, X, rfl, h⟩⟩
theorem cGv_e {T : xT} {S : xS} {tb : Nat → Int32} {L sa q : Nat} {G : pGt} {f0 : Int32} {g : Nat → Int32} (h : cTb T S tb L) (si : xSi T S.2.2 sa) (hq : q ≤ L) (hg : cTk tb L q g) (h2 : g 2 = f0) (hn : G.1.2.1 ≤ 40) (hX : G.1.1 0 1 = nI G.1.2.1) : cGv T S tb L sa (pEn tb L q G) f0 (xc (f_X3_needSign T (xw (spB S sa G.1.1) 1 g) 1 ((59 : Int32))) (fun r9 S8 => xgd (xnz r9) (some (r9, S8)))) := by
  obtain ⟨g1, e1, k1, eG⟩ := c_end59 (G := G) (spB_h (X := G.1.1) si h) hq hg
  rw [e1]
  refine ⟨fun z => ?_, fun z => ?_⟩
  · obtain ⟨k, z2⟩ := c_af z k1
    rw [eG, z]
    refine ⟨g1, rfl, k, z2.trans h2, ?_, hn, hX⟩
    unfold pEn
    split
    · exact (tNx_r tb hq).2.1
    · exact hq
  · rw [z]
    exact ⟨g1, G.1.1, rfl, c_aff z k1⟩
theorem rel_nar {c : Int32} (h : c = 60 ∨ c = 62) : vp_nar .char c = c := by
  rcases h with h | h <;> subst h <;> decide
theorem c_give {T : xT} {S : xS} {tb : Nat → Int32} {L sa q k : Nat} {G : pGt} {g : Nat → Int32} (h : cTb T S tb L) (si : xSi T S.2.2 sa) (hk : k < 8) (hq : q ≤ L) (hg : cTk tb L q g) (hn : G.1.2.1 ≤ 40) (hX : G.1.1 0 1 = nI G.1.2.1) : cGv T S tb L sa (pGv tb L q k G) (g 2) (f_X4_readGive T (xw (spB S sa G.1.1) 1 g) sa 1 (nI k)) := by
  have h1 : 1 < sa := by have := si.1; omega
  obtain ⟨l1, l2, l3, l4, l5, l6, l7, l8, l9⟩ := si.2.2.2.1
  have q1 := (tNx_r tb hq).2.1
  unfold f_X4_readGive
  obtain ⟨g1, e1, k1⟩ := c_needPartner (spB_h (X := G.1.1) si h) hq hg
  have E1 : xw (spB S sa (va_up (va_up G.1.1 1 (va_up (G.1.1 1) k (tPn tb L q))) 2 (va_up (va_up G.1.1 1 (va_up (G.1.1 1) k (tPn tb L q)) 2) k (nI G.1.2.1)))) 1 g1 = xw (spB S sa (xSe (xSe G.1.1 1 k (tPn tb L q)) 2 k (nI G.1.2.1))) 1 g1 := rfl
  rw [sg_2 (S := xw (spB S sa G.1.1) 1 g) si, e1, xc_e, xst_n l1 hk (by decide), spI h1 (by omega), sg_3 (S := xw (spB S sa _) 1 g1) si, sp_r0 h1, va_up_ne _ _ (show (0 : Nat) ≠ 1 by decide), hX, xst_n l2 hk (by decide), spI h1 (by omega), E1, sg_2 (S := xw (spB S sa _) 1 g1) si, xai_n l1 hk (by decide), sp_rd h1 (by omega)]
  have e2 : xSe (xSe G.1.1 1 k (tPn tb L q)) 2 k (nI G.1.2.1) 1 k = tPn tb L q := by
    unfold xSe
    rw [va_up_ne _ _ (show (1 : Nat) ≠ 2 by decide), xup_at, xup_at]
  rw [e2]
  unfold pGv
  by_cases a : tPn tb L q = -1
  · rw [if_pos a, if_pos a]
    rw [show (decide (tPn tb L q ≠ -1)) = false from decide_eq_false (fun z => z a), if_neg (fun z => z a)] at k1
    exact cGv_f (c_aff rfl k1)
  rw [if_neg a, if_neg a]
  rw [show (decide (tPn tb L q ≠ -1)) = true from decide_eq_true a, if_pos a] at k1
  obtain ⟨k1', z1⟩ := c_af rfl k1
  obtain ⟨s1, s2⟩ := c_sum (sa := sa) h si (st := (xSe (xSe G.1.1 1 k (tPn tb L q)) 2 k (nI G.1.2.1), G.1.2.1, G.1.2.2.1, G.1.2.2.2)) q1 k1' hn (by show xSe (xSe G.1.1 1 k (tPn tb L q)) 2 k (nI G.1.2.1) 0 1 = nI G.1.2.1; rw [xSe_01 (by decide), xSe_01 (by decide)]; exact hX)
  have hP : pSu tb L (tNx tb L q) (xSe (xSe G.1.1 1 k (tPn tb L q)) 2 k (nI G.1.2.1), G.1.2.1, G.1.2.2.1, G.1.2.2.2) = pG1 tb L q k G := rfl
  rw [hP] at s1 s2
  generalize pG1 tb L q k G = P at *
  by_cases b : P.1 = false
  · rw [if_pos b]
    obtain ⟨g2, X2, f1, f2⟩ := s2 b
    have f1' : f_X4_readSum T (xw (spB S sa (xSe (xSe G.1.1 1 k (tPn tb L q)) 2 k (nI G.1.2.1))) 1 g1) sa 1 = _ := f1
    rw [f1', xc_e, if_pos rfl]
    exact cGv_f f2
  rw [if_neg b]
  obtain ⟨g2, f1, f2, f3, f4, f5, f6⟩ := s1 (by cases hh : P.1 <;> simp_all)
  have f1' : f_X4_readSum T (xw (spB S sa (xSe (xSe G.1.1 1 k (tPn tb L q)) 2 k (nI G.1.2.1))) 1 g1) sa 1 = _ := f1
  have E2 : xw (spB S sa (va_up (va_up P.2.2.1 3 (va_up (P.2.2.1 3) k (nI P.2.2.2.1))) 6 (va_up (va_up P.2.2.1 3 (va_up (P.2.2.1 3) k (nI P.2.2.2.1)) 6) k 32))) 1 g2 = xw (spB S sa (xSe (xSe P.2.2.1 3 k (nI P.2.2.2.1)) 6 k 32)) 1 g2 := rfl
  have n32 : vp_nar .char (32 : Int32) = 32 := by decide
  rw [f1', xc_e, if_neg (show ¬ (1 : Int32) = 0 by decide), sg_4 (S := xw (spB S sa P.2.2.1) 1 g2) si, sp_r0 h1, f6, xst_n l3 hk (by decide), spI h1 (by omega), sg_7 (S := xw (spB S sa _) 1 g2) si, xst_n l6 hk (by decide), spI h1 (by omega), n32, E2]
  have X2 : xSe (xSe P.2.2.1 3 k (nI P.2.2.2.1)) 6 k 32 0 1 = nI P.2.2.2.1 := by rw [xSe_01 (by decide), xSe_01 (by decide)]; exact f6
  rw [c_isWord (i := 11) (spB_h (X := xSe (xSe P.2.2.1 3 k (nI P.2.2.2.1)) 6 k 32) si h) f4 (by decide) f3, xc_e, if01]
  by_cases w : tIw tb L P.2.1 11 = true
  · rw [if_pos w, if_pos w]
    obtain ⟨g3, e3, k3, z3⟩ := c_next (spB_h (X := xSe (xSe P.2.2.1 3 k (nI P.2.2.2.1)) 6 k 32) si h) f4 f3
    rw [e3, xcv_e]
    obtain ⟨s3, s4⟩ := c_sum (sa := sa) h si (st := (xSe (xSe P.2.2.1 3 k (nI P.2.2.2.1)) 6 k 32, P.2.2.2)) (tNx_r tb f4).2.1 k3 f5 X2
    have hP2 : pSu tb L (tNx tb L P.2.1) (xSe (xSe P.2.2.1 3 k (nI P.2.2.2.1)) 6 k 32, P.2.2.2) = pG2 tb L k P := rfl
    rw [hP2] at s3 s4
    generalize pG2 tb L k P = P2 at *
    by_cases b2' : P2.1 = false
    · rw [if_pos b2']
      obtain ⟨g4, X4, u1, u2⟩ := s4 b2'
      have u1' : f_X4_readSum T (xw (spB S sa (xSe (xSe P.2.2.1 3 k (nI P.2.2.2.1)) 6 k 32)) 1 g3) sa 1 = _ := u1
      rw [u1', xc_e, if_pos rfl]
      exact cGv_f u2
    rw [if_neg b2']
    obtain ⟨g4, u1, u2, u3, u4, u5, u6⟩ := s3 (by cases hh : P2.1 <;> simp_all)
    have u1' : f_X4_readSum T (xw (spB S sa (xSe (xSe P.2.2.1 3 k (nI P.2.2.2.1)) 6 k 32)) 1 g3) sa 1 = _ := u1
    have E3 : xw (spB S sa (va_up P2.2.2.1 4 (va_up (P2.2.2.1 4) k (nI P2.2.2.2.1)))) 1 g4 = xw (spB S sa (xSe P2.2.2.1 4 k (nI P2.2.2.2.1))) 1 g4 := rfl
    rw [u1', xc_e, if_neg (show ¬ (1 : Int32) = 0 by decide), sg_5 (S := xw (spB S sa P2.2.2.1) 1 g4) si, sp_r0 h1, u6, xst_n l4 hk (by decide), spI h1 (by omega), E3, c_isSign u3, xc_e, sn_if (by decide)]
    have third : tSn tb L P2.2.1 = 60 ∨ tSn tb L P2.2.1 = 62 → cGv T S tb L sa (if (pG3 tb L k P2).1 = false then (false, (pG3 tb L k P2).2.1, G) else pEn tb L (pG3 tb L k P2).2.1 ((xSe (pG3 tb L k P2).2.2.1 5 k (nI (pG3 tb L k P2).2.2.2.1), (pG3 tb L k P2).2.2.2), va_up (va_up (va_up (nG1 tb L q k G P.2.2.2.2.1) (6 * k + 4) (nI P2.2.2.2.2.1)) (6 * k + 1) (tSn tb L P2.2.1)) (6 * k + 5) (nI (pG3 tb L k P2).2.2.2.2.1))) (g 2) (f_X4_readGive_114 T (xw (spB S sa (xSe P2.2.2.1 4 k (nI P2.2.2.2.1))) 1 g4) sa 1 (nI k)) := fun hs => by
      have hne : tSn tb L P2.2.1 ≠ 0 := by rcases hs with z | z <;> (rw [z]; decide)
      have h3 : g4 3 = tSn tb L P2.2.1 := by
        rw [u3.2.2.2.2.2 (tSn_3 hne)]
        unfold tSn
        rw [if_pos (tSn_3 hne)]
      unfold f_X4_readGive_114
      have E4 : xw (spB S sa (va_up (xSe P2.2.2.1 4 k (nI P2.2.2.2.1)) 6 (va_up (xSe P2.2.2.1 4 k (nI P2.2.2.2.1) 6) k (tSn tb L P2.2.1)))) 1 g4 = xw (spB S sa (xSe (xSe P2.2.2.1 4 k (nI P2.2.2.2.1)) 6 k (tSn tb L P2.2.1))) 1 g4 := rfl
      rw [sg_7 (S := xw (spB S sa (xSe P2.2.2.1 4 k (nI P2.2.2.2.1))) 1 g4) si, xw_1, h3, rel_nar hs, xst_n l6 hk (by decide), spI h1 (by omega), E4]
      obtain ⟨g5, e5, k5, z5⟩ := c_next (spB_h (X := xSe (xSe P2.2.2.1 4 k (nI P2.2.2.2.1)) 6 k (tSn tb L P2.2.1)) si h) u4 u3
      rw [e5, xcv_e]
      obtain ⟨s5, s6⟩ := c_sum (sa := sa) h si (st := (xSe (xSe P2.2.2.1 4 k (nI P2.2.2.2.1)) 6 k (tSn tb L P2.2.1), P2.2.2.2)) (tNx_r tb u4).2.1 k5 u5 (by show xSe (xSe P2.2.2.1 4 k (nI P2.2.2.2.1)) 6 k (tSn tb L P2.2.1) 0 1 = nI P2.2.2.2.1; rw [xSe_01 (by decide), xSe_01 (by decide)]; exact u6)
      have hP3 : pSu tb L (tNx tb L P2.2.1) (xSe (xSe P2.2.2.1 4 k (nI P2.2.2.2.1)) 6 k (tSn tb L P2.2.1), P2.2.2.2) = pG3 tb L k P2 := rfl
      rw [hP3] at s5 s6
      generalize pG3 tb L k P2 = P3 at *
      by_cases b3 : P3.1 = false
      · rw [if_pos b3]
        obtain ⟨g6, X6, v1, v2⟩ := s6 b3
        have v1' : f_X4_readSum T (xw (spB S sa (xSe (xSe P2.2.2.1 4 k (nI P2.2.2.2.1)) 6 k (tSn tb L P2.2.1))) 1 g5) sa 1 = _ := v1
        rw [v1', xc_e, if_pos rfl]
        exact cGv_f v2
      rw [if_neg b3]
      obtain ⟨g6, v1, v2, v3, v4, v5, v6⟩ := s5 (by cases hh : P3.1 <;> simp_all)
      have v1' : f_X4_readSum T (xw (spB S sa (xSe (xSe P2.2.2.1 4 k (nI P2.2.2.2.1)) 6 k (tSn tb L P2.2.1))) 1 g5) sa 1 = _ := v1
      have E5 : xw (spB S sa (va_up P3.2.2.1 5 (va_up (P3.2.2.1 5) k (nI P3.2.2.2.1)))) 1 g6 = xw (spB S sa (xSe P3.2.2.1 5 k (nI P3.2.2.2.1))) 1 g6 := rfl
      rw [v1', xc_e, if_neg (show ¬ (1 : Int32) = 0 by decide), sg_6 (S := xw (spB S sa P3.2.2.1) 1 g6) si, sp_r0 h1, v6, xst_n l5 hk (by decide), spI h1 (by omega), E5]
      exact cGv_e (G := ((xSe P3.2.2.1 5 k (nI P3.2.2.2.1), P3.2.2.2), va_up (va_up (va_up (nG1 tb L q k G P.2.2.2.2.1) (6 * k + 4) (nI P2.2.2.2.2.1)) (6 * k + 1) (tSn tb L P2.2.1)) (6 * k + 5) (nI P3.2.2.2.2.1))) h si v4 v3 (by rw [v2, z5, u2, z3, f2, z1]) v5 (by show xSe P3.2.2.1 5 k (nI P3.2.2.2.1) 0 1 = nI P3.2.2.2.1; rw [xSe_01 (by decide)]; exact v6)
    by_cases s60 : tSn tb L P2.2.1 = 60
    · rw [if_pos s60, if_pos (Or.inl s60)]
      exact third (Or.inl s60)
    rw [if_neg s60, c_isSign u3, xc_e, sn_if (by decide)]
    by_cases s62 : tSn tb L P2.2.1 = 62
    · rw [if_pos s62, if_pos (Or.inr s62)]
      exact third (Or.inr s62)
    rw [if_neg s62, if_neg (fun z => z.elim s60 s62), c_refuse u3, xc_e, xgd_h (by decide)]
    exact cGv_f (xup_at _ _ _)
  · rw [if_neg w, if_neg w]
    exact cGv_e (G := ((xSe (xSe P.2.2.1 3 k (nI P.2.2.2.1)) 6 k 32, P.2.2.2), nG1 tb L q k G P.2.2.2.2.1)) h si f4 f3 (by rw [f2, z1]) f5 X2
/-- all specials: well, the next place, how many, what was read -/
def pSp (tb : Nat → Int32) (L : Nat) : Nat → Nat → Nat → pGt → Bool × Nat × Nat × pGt
  | 0, k, q, G => (decide (tKd tb L q = 0), q, k, G)
  | m + 1, k, q, G => if tIw tb L q 3 = true then (if (pGv tb L (tNx tb L q) k G).1 = true then pSp tb L m (k + 1) (pGv tb L (tNx tb L q) k G).2.1 ((xSe (pGv tb L (tNx tb L q) k G).2.2.1.1 0 0 (nI (k + 1)), (pGv tb L (tNx tb L q) k G).2.2.1.2), (pGv tb L (tNx tb L q) k G).2.2.2) else (false, (pGv tb L (tNx tb L q) k G).2.1, k, G)) else (decide (tKd tb L q = 0), q, k, G)
theorem pGv_c {tb : Nat → Int32} {L q k : Nat} {G : pGt} (h : (pGv tb L q k G).1 = true) : ∀ X0 : Int32, G.1.1 0 0 = X0 → True := fun _ _ => trivial
theorem c_spEnd {T : xT} {S : xS} {tb : Nat → Int32} {L sa q k : Nat} {G : pGt} {g : Nat → Int32} (si : xSi T S.2.2 sa) (hg : cTk tb L q g) (h0 : G.1.1 0 0 = nI k) : ∃ g', xc (f_X3_needEnd T (xw (spB S sa G.1.1) 1 g) 1) (fun r2 S1 => if r2 = (0 : Int32) then some ((-1 : Int32), S1) else some ((S1.1 sa 0), S1)) = some (if tKd tb L q = 0 then nI k else -1, xw (spB S sa G.1.1) 1 g') ∧ cAf tb L (decide (tKd tb L q = 0)) q (g 2) g' := by
  have h1 : 1 < sa := by have := si.1; omega
  obtain ⟨g1, e1, k1⟩ := c_needEnd (T := T) (S := spB S sa G.1.1) hg
  rw [e1, xc_e]
  by_cases a : tKd tb L q = 0
  · rw [if_pos a, if_neg (show ¬ (1 : Int32) = 0 by decide), sp_r0 h1, h0, if_pos a]
    exact ⟨g1, rfl, k1⟩
  · rw [if_neg a, if_pos rfl, if_neg a]
    exact ⟨g1, rfl, k1⟩
