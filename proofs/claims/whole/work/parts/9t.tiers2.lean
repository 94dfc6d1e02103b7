/-! tiers kept -/
theorem tOk_c {S S' : xS} {ta fi : Nat} {s : Nat → Int32} {W : Nat → Nat → Int32} (h : ∀ j, j ≤ 2 → S'.1 (ta + j) = S.1 (ta + j)) (o : tOk S ta fi s W) : tOk S' ta fi s W := by
  unfold tOk at *
  rw [show S'.1 ta = S.1 ta from h 0 (by omega), h 1 (by omega), h 2 (by omega)]
  exact o
/-- what the reference does behind its reading -/
theorem r_tiers {T : xT} {S : xS} {M : zM} {f : Int32} {fi : Nat} (c0 : M.d ≤ 12) (tp : xTp T S.2.2) (r : zR S M) (h14 : S.1 199 14 = nI fi) (hfi : fi ≤ 8) (n : Nat) : ∃ S', xcv (f_X10_deed T S 199) (fun S5 => if (S5.1 199 14) = (-1 : Int32) then xcv (f_X10_layPlainTiers T S5 199) (fun S8 => some ((0 : Int32), S8)) else xcv (f_X10_put T S5 199 ((77 : Int32)) ((S5.1 199 14))) (fun S6 => xl ((0 : Int32)) (fun v7 => f_X10_tiers_46 T xfu S6 199 v7))) = some (nI (fi + 1), S') ∧ zR S' (M.rm.sN (n, M.now.2.1, M.now.2.2.1, uTi M.now.2.2.2 fi (S.1 203))) ∧ S'.2.2 = S.2.2 ∧ ∀ a, a < 199 ∨ 214 < a → S'.1 a = S.1 a := by
  obtain ⟨Q1, wt, y0, r1, tr1, hs, y1, y2, y3⟩ := q_rem c0 r tp
  have k14 : Q1.1 199 14 = nI fi := by rw [y3 14 (by decide)]; exact h14
  have k203 : Q1.1 203 = S.1 203 := y2 203 (by decide) (by decide)
  have e4 : xcv (f_X10_put T (rF Q1 (366 * 0) wt M.now.2.2.1 M.now.2.2.2) 199 (77 : Int32) (nI fi)) (fun S6 => xl (0 : Int32) (fun v7 => f_X10_tiers_46 T xfu S6 199 v7)) = _ := h_tiers46 tr1 (q_hb r1) (by decide) k14 hfi
  rw [hs, k203] at e4
  refine ⟨_, ?_, r_setU (wt := wt) (pt := Q1.1 205) (gq := Q1.1 206) (ls := Q1.1 207) (sp := Q1.1 208) (M := M.rm) r1, ?_, fun a q => ?_⟩
  · rw [y0, xcv_e, k14, if_neg (fun w => by rw [xeq, nI_toInt (by omega), show (-1 : Int32).toInt = -1 from by decide] at w; omega)]
    exact e4
  · show Q1.2.2 = _
    rw [y1]
  · show (rS Q1 (366 * 0) wt (Q1.1 205) (Q1.1 206) (Q1.1 207) (Q1.1 208) _).1 a = _
    rw [ra_out (by omega), y2 a (by omega) (by omega)]
theorem r_plain {T : xT} {S : xS} {M : zM} (c0 : M.d ≤ 12) (tp : xTp T S.2.2) (r : zR S M) (h14 : S.1 199 14 = -1) (n : Nat) : ∃ S', xcv (f_X10_deed T S 199) (fun S5 => if (S5.1 199 14) = (-1 : Int32) then xcv (f_X10_layPlainTiers T S5 199) (fun S8 => some ((0 : Int32), S8)) else xcv (f_X10_put T S5 199 ((77 : Int32)) ((S5.1 199 14))) (fun S6 => xl ((0 : Int32)) (fun v7 => f_X10_tiers_46 T xfu S6 199 v7))) = some (0, S') ∧ zR S' (M.rm.sN (n, M.now.2.1, M.now.2.2.1, uPl M.now.2.2.2)) ∧ S'.2.2 = S.2.2 ∧ ∀ a, a < 199 ∨ 214 < a → S'.1 a = S.1 a := by
  obtain ⟨Q1, wt, y0, r1, tr1, hs, y1, y2, y3⟩ := q_rem c0 r tp
  have k14 : Q1.1 199 14 = -1 := by rw [y3 14 (by decide)]; exact h14
  have e4 : f_X10_layPlainTiers T (rF Q1 (366 * 0) wt M.now.2.2.1 M.now.2.2.2) 199 = _ := h_plain tr1 (q_hb r1) (by decide)
  rw [hs] at e4
  refine ⟨_, ?_, r_setU (wt := wt) (pt := Q1.1 205) (gq := Q1.1 206) (ls := Q1.1 207) (sp := Q1.1 208) (M := M.rm) r1, ?_, fun a q => ?_⟩
  · rw [y0, xcv_e, k14, if_pos rfl, e4, xcv_e]
    rfl
  · show Q1.2.2 = _
    rw [y1]
  · show (rS Q1 (366 * 0) wt (Q1.1 205) (Q1.1 206) (Q1.1 207) (Q1.1 208) _).1 a = _
    rw [ra_out (by omega), y2 a (by omega) (by omega)]
theorem o_tiers : zOp 2 := by
  intro i T S a hi h
  have h' := h
  obtain ⟨M, B, c, r, g, b0, b1⟩ := h'
  have tp := c.1
  have hN := tp.1.1
  show ∃ (T2 : xT) (S2 : xS), xcI (f_X9_tiers T S 0) (fun r1 T1 S1 => xgd (xlk T1 0 9) (xgd (xlk T1 199 10) (xc (f_X10_tiers T1 S1 199) (fun r2 S2 => some (decide (r1 = r2), T1, S2))))) = some (true, T2, S2) ∧ zI (i + 1) T2 S2
  have g8 : tLe T (xTn T 8 0) := ⟨by show T.2.2 ≤ T.2.2 + 1; omega, fun a ha => ⟨va_up_ne _ _ (by omega), va_up_ne _ _ (by omega)⟩⟩
  have s8 : sLe T S (xSn S T.2.2) := fun a ha => ⟨va_up_ne _ _ (by omega), va_up_ne _ _ (by omega), va_up_ne _ _ (by omega)⟩
  have tp8 : xTp (xTn T 8 0) (xSn S T.2.2).2.2 := xTp_g g8 s8 tp
  obtain ⟨T4, S5, e1, n1, t1, s1, ti, ok0⟩ := i_tiers (T := xTn T 8 0) (S := xSn S T.2.2) (b := T.2.2) rfl (xup_at _ _ _) hN
  have gT : tLe T T4 := ⟨by omega, fun a ha => by rw [(t1 a (by omega)).1, (t1 a (by omega)).2]; exact g8.2 a ha⟩
  have sT : sLe T S S5 := fun a ha => by
    rw [(s1 a ha).1, (s1 a ha).2.1, (s1 a ha).2.2]; exact s8 a ha
  have c5 := zC_g gT sT c
  have tp5 := c5.1
  have k8 : T4.1 T.2.2 = 8 := ti.2.1.2.1
  obtain ⟨R, g', c', s', A', e2, hE, hT, hF⟩ := c_readTiers (c := S5.1 T.2.2) (s := S5.1 (T.2.2 + 1)) (A := S5.1 (T.2.2 + 2)) (g := S5.1 1) (cTb_of c5) ti c5.2.2.2.2.1.2.1
  rw [tB_self, xw_self] at e2
  have hz1 : (S5.1 1) = S.1 1 := (sT 1 (by omega)).1
  have q7 : ∀ x, x ≠ 1 → x < T.2.2 → (xw (tB S5 T.2.2 c' s' A') 1 g').1 x = S.1 x := fun x h1 h2 => by
    unfold tB
    rw [xw_ne _ _ h1, xw_ne _ _ (by omega), xw_ne _ _ (by omega), xw_ne _ _ (by omega)]
    exact (sT x h2).1
  have q7t : ∀ j, j ≤ 2 → (xw (tB S5 T.2.2 c' s' A') 1 g').1 (T.2.2 + j) = (tB S5 T.2.2 c' s' A').1 (T.2.2 + j) := fun j hj => xw_ne _ _ (by omega)
  have q71 : (xw (tB S5 T.2.2 c' s' A') 1 g').1 1 = g' := xw_1 _ _ _
  have q7j : (xw (tB S5 T.2.2 c' s' A') 1 g').2 = S5.2 := rfl
  have okE : tKd M.tb M.L 0 = 0 → tOk (xw (tB S5 T.2.2 c' s' A') 1 g') T.2.2 0 (fun _ => -1) (fun _ _ => 1) := fun z => by
    obtain ⟨_, z1, z2, z3, _⟩ := hE z
    rw [z1, z2, z3, tB_self]
    exact tOk_c (fun j hj => xw_ne _ _ (by omega)) ok0
  have okT : tKd M.tb M.L 0 ≠ 0 → (pT M.tb M.L 8 0 0 z8 z88).1 = true → tOk (xw (tB S5 T.2.2 c' s' A') 1 g') T.2.2 (pT M.tb M.L 8 0 0 z8 z88).2.2.1 (pT M.tb M.L 8 0 0 z8 z88).2.2.2.1 (pT M.tb M.L 8 0 0 z8 z88).2.2.2.2 := fun z y => tOk_c q7t (hT z y).2.2
  generalize xw (tB S5 T.2.2 c' s' A') 1 g' = S7 at *
  have tp7 : xTp T4 S7.2.2 := by rw [q7j]; exact tp5
  have et := c_tape (T := T4) (S := S7) tp7
  have c0 : zC T (xI (xI (xw S 1 g') 0 11 (g' 2)) 1 1 0) (M.rd (g' 2)) := zC_rd c rfl (fun a q => by rw [xI_ne (by omega), xI_ne (by omega), xw_ne _ _ (by omega)]) (fun k hk => by rw [xI_ne (by decide), xI_at hk, xw_ne _ _ (by decide)]) (by rw [xI_ne (by decide), xI_1, xup_at]) (by rw [xI_1, xup_at])
  have g0 : zG T (xI (xI (xw S 1 g') 0 11 (g' 2)) 1 1 0) B (M.rd (g' 2)) := zG_f (S := S) (M := M) (fun a q => by rw [xI_ne (by unfold zTS at q; omega), xI_ne (by unfold zTS at q; omega), xw_ne _ _ (by unfold zTS at q; omega)]) (fun a _ => rfl) g
  have s9 : sLe T (xI (xI (xw S 1 g') 0 11 (g' 2)) 1 1 0) (xI (xI S7 0 11 (S7.1 1 2)) 1 1 0) := fun x hx => ⟨by
    by_cases x1 : x = 1
    · subst x1
      rw [xI_1, xI_1, xI_ne (by decide), xI_ne (by decide), q71, xw_1]
    · rw [xI_ne x1, xI_ne x1]
      by_cases x0 : x = 0
      · subst x0
        rw [xI_1, xI_1, q71, q7 0 (by decide) hx, xw_ne _ _ (by decide)]
      · rw [xI_ne x0, xI_ne x0, q7 x x1 hx, xw_ne _ _ x1], by
      show S7.2.1 x = S.2.1 x
      rw [q7j]; exact (sT x hx).2.1, by
      show S7.2.2 x = S.2.2 x
      rw [q7j]; exact (sT x hx).2.2⟩
  have c9 := zC_g gT s9 c0
  have g9 := zG_g gT s9 g0
  have f9 : ∀ x, x ≠ 0 → x ≠ 1 → (xI (xI S7 0 11 (S7.1 1 2)) 1 1 0).1 x = S7.1 x := fun x h0 h1 => by rw [xI_ne h1, xI_ne h0]
  have j9 : (xI (xI S7 0 11 (S7.1 1 2)) 1 1 0).2 = S5.2 := q7j
  generalize xI (xI S7 0 11 (S7.1 1 2)) 1 1 0 = S9 at *
  have tp9 := c9.1
  have rr9 : zR S9 M := zR_c (fun a q1 q2 => by rw [f9 a (by omega) (by omega), q7 a (by omega) (by omega)]) (by rw [j9]; exact (sT 204 (by omega)).2.1) r
  have rdr := fun Sr (r' : zR Sr M) (tr : xTp T4 Sr.2.2) => r_readTiers (T := T4) (A := Sr.1 203) (g := Sr.1 199) (j := Sr.2.1 199) (rTb_of c5 r' tr) r'.2.2.2.2.1.1
  have ev : ∀ (X : Option (Int32 × xT × xS)), (if R = (-1 : Int32) then some (R, T4, S9) else xcv (f_X9_remember T4 S9 0) (fun S10 => xgr T4 S10 0 4 5 (fun a11 => xpr S10 a11 2 T.2.2 (fun S12 => some (R, T4, S12))))) = X → f_X9_tiers T S 0 = X := fun X hX => by
    rw [← hX]
    unfold f_X9_tiers
    show xgd (xlk (xTn T 8 0) 0 9) (xcT (f_X8_init (xTn T 8 0) (xSn S T.2.2) T.2.2) _) = _
    rw [xgd_h (xTp_lk tp8 (by decide) (by decide)), e1, xcT_e, xgd_h (xTp_lk tp5 (by decide) (by decide)), xgd_h (xlk_m (by omega) k8), rr_0_0 tp5, e2, xc_e, et, xcv_e]
  -- behind the reading, on a heap of any kind
  have aft : ∀ Sr (r' : zR Sr M) (tr : xTp T4 Sr.2.2), ∃ R2 S2, f_X10_readTiers T4 Sr 199 = some (R2, S2) ∧ zR (xI S2 199 5 0) (M.rd (g' 2)) ∧ S2.2.2 = Sr.2.2 ∧ (∀ a, a < 199 ∨ 214 < a → S2.1 a = Sr.1 a) ∧ (tKd M.tb M.L 0 = 0 → R2 = 1 ∧ S2.1 199 14 = -1) ∧ (tKd M.tb M.L 0 ≠ 0 → (pT M.tb M.L 8 0 0 z8 z88).1 = true → R2 = 1 ∧ S2.1 199 14 = nI (pT M.tb M.L 8 0 0 z8 z88).2.2.1 ∧ rOk (S2.1 203) (pT M.tb M.L 8 0 0 z8 z88).2.2.1 (pT M.tb M.L 8 0 0 z8 z88).2.2.2.1 (pT M.tb M.L 8 0 0 z8 z88).2.2.2.2) ∧ (tKd M.tb M.L 0 ≠ 0 → (pT M.tb M.L 8 0 0 z8 z88).1 = false → R2 = 0) := fun Sr r' tr => by
    obtain ⟨R2, g2, j2, A2, k1, k2, kE, kT, kF⟩ := rdr Sr r' tr
    rw [xw_self, rW_self] at k1
    have q199 : (rW (xw Sr 203 A2) g2 j2).1 199 = g2 := rW_1 _ _ _
    have q203 : (rW (xw Sr 203 A2) g2 j2).1 203 = A2 := by rw [rW_ne _ _ _ (by decide), xw_1]
    have q200 : ∀ x, x ≠ 199 → x ≠ 203 → (rW (xw Sr 203 A2) g2 j2).1 x = Sr.1 x := fun x h1 h2 => by rw [rW_ne _ _ _ h1, xw_ne _ _ h2]
    have ef : g2 9 = g' 2 := by
      by_cases z : tKd M.tb M.L 0 = 0
      · rw [(kE z).2.1, (hE z).2.2.2.2]
      · by_cases y : (pT M.tb M.L 8 0 0 z8 z88).1 = true
        · rw [(kT z y).2.1, (hT z y).2.1]
        · rw [(kF z (bool_f y)).2, (hF z (bool_f y)).2]
    refine ⟨R2, rW (xw Sr 203 A2) g2 j2, k1, zR_rd r' (fun a q => by rw [xI_ne (by omega), q200 a (by omega) (by omega)]) (fun k q => by rw [xI_at (by omega), q199, k2 k (by omega)]) (by rw [xI_1, xup_at]) (by rw [xI_at (by decide), q199, ef]) (rW_jn (g := g2) (j := j2) (S := xw Sr 203 A2) (by decide)), rfl, fun a q => q200 a (by omega) (by omega), fun z => ⟨(kE z).1, by rw [q199]; exact (kE z).2.2⟩, fun z y => ⟨(kT z y).1, by rw [q199]; exact (kT z y).2.2.1, by rw [q203]; exact (kT z y).2.2.2⟩, fun z y => (kF z y).1⟩
  -- what is well ends alike
  have fin : ∀ (fi : Nat) (s : Nat → Int32) (W : Nat → Nat → Int32) (v : Int32), R = v → R ≠ -1 → tOk S7 T.2.2 fi s W → tGd fi s W → (∀ Sr, zR Sr M → xTp T4 Sr.2.2 → ∃ S' u', f_X10_tiers T4 Sr 199 = some (v, S') ∧ zR S' ((M.rd (g' 2)).rm.sN (T.2.2, M.now.2.1, M.now.2.2.1, u')) ∧ S'.2.2 = Sr.2.2 ∧ (∀ a, a < 199 ∨ 214 < a → S'.1 a = Sr.1 a) ∧ u' 77 = nI fi ∧ (∀ k, k ≤ fi → rsu u' k = s k) ∧ (∀ k p, k ≤ fi → p < 8 → rtw u' k p = W k p) ∧ ∀ j, 159 ≤ j → u' j = M.now.2.2.2 j) → ∃ (T2 : xT) (S2 : xS), xcI (f_X9_tiers T S 0) (fun r1 T1 S1 => xgd (xlk T1 0 9) (xgd (xlk T1 199 10) (xc (f_X10_tiers T1 S1 199) (fun r2 S2 => some (decide (r1 = r2), T1, S2))))) = some (true, T2, S2) ∧ zI (i + 1) T2 S2 := fun fi s W v hv hn1 hok hgd href => by
    obtain ⟨S10, w1, w2, w3, w4⟩ := c_rem2 c9 g9
    have hc : f_X9_tiers T S 0 = some (v, T4, xR S10 17 2 (some T.2.2)) := ev _ (by
      rw [if_neg hn1, w1, xcv_e, rr_0_4 w2.1, hv]
      rfl)
    have r12 : zR (xR S10 17 2 (some T.2.2)) M := zR_c (S := S9) (fun a q1 q2 => w4.2.1 a (by omega)) (by show S10.2.1 204 = _; rw [w4.1]) rr9
    have tp12 := (c_put2 (u' := M.now.2.2.2) (x := T.2.2) w2).1
    obtain ⟨S', u', k1, k2, k3, k4, u1, u2, u3, u4⟩ := href _ r12 tp12
    have c12 := c_put2 (u' := u') (x := T.2.2) w2
    have e7 : ∀ j, j ≤ 2 → (xR S10 17 2 (some T.2.2)).1 (T.2.2 + j) = S7.1 (T.2.2 + j) := fun j hj => by
      show S10.1 (T.2.2 + j) = _
      rw [w4.2.1 _ (by omega), f9 _ (by omega) (by omega)]
    have ti12 : xTi T4 (xR S10 17 2 (some T.2.2)).2.2 T.2.2 := xTi_c (tLe_r T4) (by
      rw [show (xR S10 17 2 (some T.2.2)).2.2 T.2.2 = S10.2.2 T.2.2 from xput_ne _ _ _ (by omega), w4.2.2.2 T.2.2 (by unfold zTS; omega), j9]) ti
    have g12 : zG T4 (xR S10 17 2 (some T.2.2)) B (M.rd (g' 2)).rm := zG_f (S := S10) (fun a q => rfl) (fun a q => xput_ne _ _ _ (by unfold zTS at q; omega)) w3
    have gn : gSt T4 (xR S10 17 2 (some T.2.2)) B (T.2.2, M.now.2.1, M.now.2.2.1, u') := ⟨gTS_t (g12.1.1 : gTS T4 (xR S10 17 2 (some T.2.2)) M.now.1 M.now.2.1 M.now.2.2.2) ti12 (tOk_c e7 hok) hgd u1 u2 u3 u4, g12.1.2.1, g12.1.2.2⟩
    refine ⟨T4, S', zXI (f10 := fun T1 S1 => f_X10_tiers T1 S1 199) hc tp12 k1, zFin c12 ⟨gn, g12.2.1, g12.2.2⟩ k3 (fun a q => k4 a (by omega)) k2 b0 (by show 5 * B + 1000000 * ((0 : Nat) : Int) ≤ 20000000 * ((i + 1 : Nat) : Int); omega)⟩
  by_cases z : tKd M.tb M.L 0 = 0
  · have hR := (hE z).1
    refine fin 0 (fun _ => -1) (fun _ _ => 1) 0 hR (by rw [hR]; decide) (okE z) ⟨by decide, fun x hx => by omega, fun x _ p _ => by show 0 ≤ (1 : Int32).toInt ∧ (1 : Int32).toInt ≤ 99; decide⟩ (fun Sr r' tr => ?_)
    obtain ⟨R2, S2, a1, a2, a3, a4, a5, _, _⟩ := aft Sr r' tr
    obtain ⟨b1', b2'⟩ := a5 z
    obtain ⟨S', p1, p2, p3, p4⟩ := r_plain (M := M.rd (g' 2)) (S := xI S2 199 5 0) c.2.2.1.1.1 (by show xTp T4 S2.2.2; rw [a3]; exact tr) a2 (by rw [xI_at (by decide)]; exact b2') T.2.2
    refine ⟨S', _, ?_, p2, p3.trans a3, fun a q => by rw [p4 a q, xI_ne (by omega), a4 a q], ?_, fun k hk => ?_, fun k p hk hp => ?_, fun j hj => ?_⟩
    · unfold f_X10_tiers
      rw [a1, xc_e, xl_e, xpi_e, b1', if_neg (by decide)]
      exact p1
    · show uPl M.now.2.2.2 77 = 0
      unfold uPl
      rw [if_neg (by omega), va_up_ne _ _ (by decide), xup_at]
    · obtain rfl : k = 0 := by omega
      show uPl M.now.2.2.2 (78 + 9 * 0) = -1
      unfold uPl
      rw [if_neg (by omega), xup_at]
    · obtain rfl : k = 0 := by omega
      show uPl M.now.2.2.2 (78 + 9 * 0 + 1 + p) = 1
      unfold uPl
      rw [if_pos (by omega)]
    · show uPl M.now.2.2.2 j = _
      unfold uPl
      rw [if_neg (by omega), va_up_ne _ _ (by omega), va_up_ne _ _ (by omega)]
  · by_cases y : (pT M.tb M.L 8 0 0 z8 z88).1 = true
    · have hgd := pT_ok 8 0 0 z8 z88 (by omega) (fun x hx => by omega) (fun x hx => by omega) y
      obtain ⟨hR, _, _⟩ := hT z y
      have hfi := hgd.1
      refine fin _ _ _ _ hR (by rw [hR]; exact fun w => by rw [xeq, nI_toInt (by omega), show (-1 : Int32).toInt = -1 from by decide] at w; omega) (okT z y) hgd (fun Sr r' tr => ?_)
      obtain ⟨R2, S2, a1, a2, a3, a4, _, a6, _⟩ := aft Sr r' tr
      obtain ⟨b1', b2', b3'⟩ := a6 z y
      obtain ⟨S', p1, p2, p3, p4⟩ := r_tiers (M := M.rd (g' 2)) (S := xI S2 199 5 0) (f := 0) c.2.2.1.1.1 (by show xTp T4 S2.2.2; rw [a3]; exact tr) a2 (by rw [xI_at (by decide)]; exact b2') hfi T.2.2
      rw [xI_ne (show (203 : Nat) ≠ 199 by decide)] at p2
      refine ⟨S', _, ?_, p2, p3.trans a3, fun a q => by rw [p4 a q, xI_ne (by omega), a4 a q], ?_, fun k hk => ?_, fun k p hk hp => ?_, fun j hj => ?_⟩
      · unfold f_X10_tiers
        rw [a1, xc_e, xl_e, xpi_e, b1', if_neg (by decide)]
        exact p1
      · show uTi M.now.2.2.2 _ (S2.1 203) 77 = _
        unfold uTi
        rw [if_neg (by omega), xup_at]
      · show uTi M.now.2.2.2 _ (S2.1 203) (78 + 9 * k) = _
        unfold uTi
        rw [if_pos (by omega), show 78 + 9 * k - 78 = 9 * k by omega]
        exact b3'.1 k hk
      · show uTi M.now.2.2.2 _ (S2.1 203) (78 + 9 * k + 1 + p) = _
        unfold uTi
        rw [if_pos (by omega), show 78 + 9 * k + 1 + p - 78 = 9 * k + 1 + p by omega]
        exact b3'.2 k hk p hp
      · show uTi M.now.2.2.2 _ (S2.1 203) j = _
        unfold uTi
        rw [if_neg (by omega), va_up_ne _ _ (by omega)]
    · have hR := (hF z (bool_f y)).1
      obtain ⟨R2, S2, a1, a2, a3, a4, _, _, a7⟩ := aft S9 rr9 tp9
      have b1' := a7 z (bool_f y)
      refine ⟨T4, xI S2 199 5 0, zXI (f10 := fun T1 S1 => f_X10_tiers T1 S1 199) (r := -1) (S1 := S9) (ev _ (by rw [if_pos hR, hR])) tp9 ?_, zFin c9 g9 (by show S2.2.2 = _; rw [a3]) (fun a q => by rw [xI_ne (by omega), a4 a (by omega)]) a2 b0 (by show 5 * B + 1000000 * ((0 : Nat) : Int) ≤ 20000000 * ((i + 1 : Nat) : Int); omega)⟩
      show f_X10_tiers T4 S9 199 = _
      unfold f_X10_tiers
      rw [a1, xc_e, xl_e, xpi_e, b1', if_pos rfl]
