/-! the statement written -/
noncomputable def eN (n : Int32) : Nat := (isE_ex (na_lt n)).choose
theorem eN_ok (n : Int32) : eN n ≤ 9 ∧ isE n.toInt.natAbs (eN n) := (isE_ex (na_lt n)).choose_spec
abbrev wX : Type := Nat × (Nat → Int32)
def sg (c : Nat) (x : wX) : wX := (x.1 + 1, va_up x.2 x.1 (nI c))
noncomputable def nm (n : Int32) (x : wX) : wX := (lnN n (eN n) x.1, apN n (eN n) x.1 x.2)
theorem sg_1 (c : Nat) (x : wX) : (sg c x).1 = x.1 + 1 := rfl
theorem nm_1 (n : Int32) (x : wX) : x.1 ≤ (nm n x).1 ∧ (nm n x).1 ≤ x.1 + 11 := lnN_le (eN_ok n).1
def wP (S : xS) (a0 : Nat → Int32) (x : wX) : xS := wC S a0 x.2 x.1
def rP (S : xS) (g : Nat → Int32) (j : Nat → Int64) (x : wX) : xS := rC S g x.2 j x.1
theorem c_sg {T : xT} {S : xS} {a0 : Nat → Int32} {x : wX} (c : Nat) (tp : xTp T S.2.2) (hl : x.1 < 400) : f_X6_addSign T (wP S a0 x) 15 (nI c) = some (wP S a0 (sg c x)) := c_sign tp hl
theorem c_nm {T : xT} {S : xS} {a0 : Nat → Int32} {x : wX} (n : Int32) (tp : xTp T S.2.2) (hl : x.1 + 11 ≤ 400) : f_X6_addNumber T (wP S a0 x) 15 n = some (wP S a0 (nm n x)) := c_num tp (eN_ok n).1 (eN_ok n).2 hl
theorem r_sg {T : xT} {S : xS} {g : Nat → Int32} {j : Nat → Int64} {x : wX} (c : Nat) (tp : xTp T S.2.2) (hl : x.1 < 400) (hc : c < 128) : f_X10_writes T (rP S g j x) 199 (nI c) = some (rP S g j (sg c x)) := r_writes tp hl hc
theorem r_nm {T : xT} {S : xS} {g : Nat → Int32} {j : Nat → Int64} {x : wX} (n : Int32) (tp : xTp T S.2.2) (hl : x.1 + 11 ≤ 400) : f_X10_writeNumber T (rP S g j x) 199 n = some (rP S g j (nm n x)) := r_num tp (eN_ok n).1 (eN_ok n).2 hl
noncomputable def pW (F : Nat → Nat → Int32) (k : Nat) (x : wX) : wX := sg 59 (nm (F 5 k) (sg 44 (nm (F 4 k) (sg 44 (nm (F 1 k) (sg 58 (sg (97 + k) x)))))))
theorem pW_1 (F : Nat → Nat → Int32) (k : Nat) (x : wX) : x.1 ≤ (pW F k x).1 ∧ (pW F k x).1 ≤ x.1 + 38 := by
  unfold pW
  have h1 := nm_1 (F 1 k) (sg 58 (sg (97 + k) x))
  have h2 := nm_1 (F 4 k) (sg 44 (nm (F 1 k) (sg 58 (sg (97 + k) x))))
  have h3 := nm_1 (F 5 k) (sg 44 (nm (F 4 k) (sg 44 (nm (F 1 k) (sg 58 (sg (97 + k) x))))))
  simp only [sg_1] at h1 h2 h3 ⊢
  omega
noncomputable def wA (F : Nat → Nat → Int32) (net : Int32) : Nat → Nat → wX → wX
  | 0, _, x => sg 46 (nm net (sg 61 x))
  | m + 1, i, x => wA F net m (i + 1) (if xb (F 0 0) i = 0 then x else pW F i x)
theorem wA_1 {F : Nat → Nat → Int32} {net : Int32} : ∀ (m i : Nat) (x : wX), i + m = 8 → x.1 ≤ 38 * i → (wA F net m i x).1 ≤ 400
  | 0, i, x, h, hx => by
    show (sg 46 (nm net (sg 61 x))).1 ≤ 400
    have h1 := nm_1 net (sg 61 x)
    simp only [sg_1] at h1 ⊢
    omega
  | m + 1, i, x, h, hx => by
    unfold wA
    refine wA_1 m (i + 1) _ (by omega) ?_
    have := pW_1 F i x
    split <;> omega
theorem wP_V {S : xS} {a0 : Nat → Int32} {x : wX} {F : Nat → Nat → Int32} (h : clV S 31 40 F) : clV (wP S a0 x) 31 40 F := clV_c h (fun a h1 h2 => wC_n (by omega) (by omega)) (wC_n (by decide) (by decide)) (wC_n (by decide) (by decide))
theorem ch8 : ∀ i, i < 8 → (((97 + nI i : Int32).toUInt32) % 65536).toInt32 = nI (97 + i) := by decide +kernel
theorem wP_at {α : Type} {T : xT} {S : xS} {a0 : Nat → Int32} {x : wX} {F : Nat → Nat → Int32} (tp : xTp T S.2.2) (h : clV S 31 40 F) {j i : Nat} (hj : 1 ≤ j ∧ j ≤ 8) (hi : i < 8) {K : Int32 → Option α} : xai T (wP S a0 x) (31 + j) (nI i) K = K (F j i) := by
  rw [xai_n (xTp_n tp 8 (by omega) ((show ∀ j, j < 9 → 1 ≤ j → xN.getD (31 + j) 0 = 8 by decide +kernel) j (by omega) hj.1)) hi (by decide), (wP_V h).2.1 j hj.1 hj.2 i hi]
theorem L_cw {T : xT} {S : xS} {a0 : Nat → Int32} {F : Nat → Nat → Int32} (tp : xTp T S.2.2) (h : clV S 31 40 F) : ∀ (m i n : Nat) (x : wX), i + m = 8 → m < n → x.1 ≤ 38 * i → f_X9_write_18 T n (wP S a0 x) 0 31 (nI i) = some (nI (wA F (xsm (fun k => F 6 k - F 8 k) 8 0 (F 0 2)) m i x).1, wP S a0 (wA F (xsm (fun k => F 6 k - F 8 k) 8 0 (F 0 2)) m i x)) := by
  have o : xbt 31 40 := Or.inl ⟨rfl, rfl⟩
  intro m
  induction m with
  | zero =>
    intro i n x hi hn hx
    obtain ⟨n, rfl⟩ : ∃ n', n = n' + 1 := ⟨n - 1, by omega⟩
    obtain rfl : i = 8 := by omega
    unfold f_X9_write_18
    have h1 := nm_1 (xsm (fun k => F 6 k - F 8 k) 8 0 (F 0 2)) (sg 61 x)
    rw [sg_1] at h1
    rw [if_pos (by decide), rr_0_3 (S := wP S a0 x) tp, show f_X6_addSign T (wP S a0 x) 15 (61 : Int32) = _ from c_sg 61 tp (by omega), xcv_e, rr_0_3 (S := wP S a0 (sg 61 x)) tp, v_net (S := wP S a0 (sg 61 x)) o tp (wP_V h), xc_e, c_nm _ tp (by rw [sg_1]; omega), xcv_e]
    rw [rr_0_3 (S := wP S a0 (nm _ (sg 61 x))) tp, show f_X6_addSign T (wP S a0 (nm _ (sg 61 x))) 15 (46 : Int32) = _ from c_sg 46 tp (by omega), xcv_e, rr_0_3 (S := wP S a0 (sg 46 (nm _ (sg 61 x)))) tp]
    unfold wA wP
    rw [wC_15, xup_at]
  | succ m ih =>
    intro i n x hi hn hx
    obtain ⟨n, rfl⟩ : ∃ n', n = n' + 1 := ⟨n - 1, by omega⟩
    have hi8 : i < 8 := by omega
    unfold f_X9_write_18
    rw [if_neg (of_eq_false (x8_ff hi8)), v_has (S := wP S a0 x) o (wP_V h) hi8, xc_e]
    unfold wA
    by_cases q : xb (F 0 0) i = 0
    · rw [if_pos q, if_pos q, if_pos rfl, xl_e, nI_1]
      exact ih (i + 1) n x (by omega) (by omega) (by omega)
    · rw [if_neg q, if_neg q, if_neg (by decide), ch8 i hi8]
      have p1 := nm_1 (F 1 i) (sg 58 (sg (97 + i) x))
      have p2 := nm_1 (F 4 i) (sg 44 (nm (F 1 i) (sg 58 (sg (97 + i) x))))
      have p3 := nm_1 (F 5 i) (sg 44 (nm (F 4 i) (sg 44 (nm (F 1 i) (sg 58 (sg (97 + i) x))))))
      simp only [sg_1] at p1 p2 p3
      rw [rr_0_3 (S := wP S a0 x) tp, c_sg (97 + i) tp (by omega), xcv_e]
      rw [rr_0_3 (S := wP S a0 (sg (97 + i) x)) tp, show f_X6_addSign T (wP S a0 (sg (97 + i) x)) 15 (58 : Int32) = _ from c_sg 58 tp (by rw [sg_1]; omega), xcv_e]
      rw [rr_0_3 (S := wP S a0 (sg 58 (sg (97 + i) x))) tp, rr_31_6 (S := wP S a0 (sg 58 (sg (97 + i) x))) tp, wP_at (j := 1) tp h (by decide) hi8, c_nm _ tp (by simp only [sg_1]; omega), xcv_e]
      generalize he1 : nm (F 1 i) (sg 58 (sg (97 + i) x)) = x1 at p1 p2 p3 ⊢
      rw [rr_0_3 (S := wP S a0 x1) tp, show f_X6_addSign T (wP S a0 x1) 15 (44 : Int32) = _ from c_sg 44 tp (by omega), xcv_e, rr_0_3 (S := wP S a0 (sg 44 x1)) tp, rr_31_9 (S := wP S a0 (sg 44 x1)) tp, wP_at (j := 4) tp h (by decide) hi8, c_nm _ tp (by simp only [sg_1]; omega), xcv_e]
      generalize he2 : nm (F 4 i) (sg 44 x1) = x2 at p2 p3 ⊢
      rw [rr_0_3 (S := wP S a0 x2) tp, show f_X6_addSign T (wP S a0 x2) 15 (44 : Int32) = _ from c_sg 44 tp (by omega), xcv_e, rr_0_3 (S := wP S a0 (sg 44 x2)) tp, rr_31_10 (S := wP S a0 (sg 44 x2)) tp, wP_at (j := 5) tp h (by decide) hi8, c_nm _ tp (by simp only [sg_1]; omega), xcv_e]
      generalize he3 : nm (F 5 i) (sg 44 x2) = x3 at p3 ⊢
      rw [rr_0_3 (S := wP S a0 x3) tp, show f_X6_addSign T (wP S a0 x3) 15 (59 : Int32) = _ from c_sg 59 tp (by omega), xcv_e, xl_e, nI_1]
      have e : pW F i x = sg 59 x3 := by unfold pW; rw [he1, he2, he3]
      rw [e]
      exact ih (i + 1) n (sg 59 x3) (by omega) (by omega) (by rw [sg_1]; omega)
theorem wP_0 {S : xS} : xI S 15 0 0 = wP S (S.1 15) (0, S.1 16) := by
  refine Prod.ext (funext fun a => ?_) rfl
  unfold wP wC
  by_cases h : a = 16
  · subst h; rw [xw_1, xI_ne (by decide)]
  · rw [xw_ne _ _ h]
    by_cases h2 : a = 15
    · subst h2; rw [xw_1, xI_1]; rfl
    · rw [xw_ne _ _ h2, xI_ne h2]
theorem c_write {T : xT} {S : xS} {F : Nat → Nat → Int32} (tp : xTp T S.2.2) (h : clV S 31 40 F) : f_X9_write T S 0 = some (nI (wA F (xsm (fun k => F 6 k - F 8 k) 8 0 (F 0 2)) 8 0 (0, S.1 16)).1, wP S (S.1 15) (wA F (xsm (fun k => F 6 k - F 8 k) 8 0 (F 0 2)) 8 0 (0, S.1 16))) := by
  unfold f_X9_write
  rw [rr_0_4 tp, rr_17_0 tp, rr_0_3 tp, xpi_e, xl_e, wP_0]
  exact L_cw tp h 8 0 xfu _ rfl (by decide) (Nat.le_refl _)
/-! the reference's -/
theorem rW_j {S : xS} {g : Nat → Int32} {j : Nat → Int64} {a : Nat} (h : a ≠ 199) : (rW S g j).2.1 a = S.2.1 a := va_up_ne S.2.1 j h
theorem rP_n {S : xS} {g : Nat → Int32} {j : Nat → Int64} {x : wX} {a : Nat} (h1 : a ≠ 199) (h2 : a ≠ 214) : (rP S g j x).1 a = S.1 a := by
  show (rW (xw S 214 x.2) (va_up g 33 (nI x.1)) j).1 a = _
  rw [rW_ne _ _ _ h1, xw_ne _ _ h2]
theorem rP_199 {S : xS} {g : Nat → Int32} {j : Nat → Int64} {x : wX} : (rP S g j x).1 199 = va_up g 33 (nI x.1) := rW_1 _ _ _
theorem rP_214 {S : xS} {g : Nat → Int32} {j : Nat → Int64} {x : wX} : (rP S g j x).1 214 = x.2 := by
  show (rW (xw S 214 x.2) (va_up g 33 (nI x.1)) j).1 214 = _
  rw [rW_ne _ _ _ (by decide), xw_1]
theorem rP_j {S : xS} {g : Nat → Int32} {j : Nat → Int64} {x : wX} : (rP S g j x).2.1 204 = S.2.1 204 := rW_j (by decide)
theorem L_rw {T : xT} {S : xS} {g : Nat → Int32} {j : Nat → Int64} {F : Nat → Nat → Int32} {u wt : Nat → Int32} (tp : xTp T S.2.2) (hg : g 1 = 0) (h : rV S 0 F u) (hw : rwV S wt) (ha : xAs (F 0 1) (F 6) (F 7) (F 8)) : ∀ (m i n : Nat) (x : wX), i + m = 8 → m < n → x.1 ≤ 38 * i → f_X10_write_7 T n (rP S g j x) 199 (nI i) = some (nI (wA F (xsm (fun k => F 6 k - F 8 k) 8 0 (F 0 2)) m i x).1, rP S g j (wA F (xsm (fun k => F 6 k - F 8 k) 8 0 (F 0 2)) m i x)) := by
  have rv : ∀ x, rV (rP S g j x) 0 F u := fun x => rV_c h (rP_n (by decide) (by decide))
  have rw' : ∀ x, rwV (rP S g j x) wt := fun x => rwV_c hw rP_j
  have b0 : ∀ x, (rP S g j x).1 199 1 = nI (366 * 0) := fun x => by rw [rP_199, up_ne (by decide), hg]; rfl
  intro m
  induction m with
  | zero =>
    intro i n x hi hn hx
    obtain ⟨n, rfl⟩ : ∃ n', n = n' + 1 := ⟨n - 1, by omega⟩
    obtain rfl : i = 8 := by omega
    unfold f_X10_write_7
    have h1 := nm_1 (xsm (fun k => F 6 k - F 8 k) 8 0 (F 0 2)) (sg 61 x)
    rw [sg_1] at h1
    rw [if_pos (by decide), show f_X10_writes T (rP S g j x) 199 (61 : Int32) = _ from r_sg 61 tp (by omega) (by decide), xcv_e, s_net (S := rP S g j (sg 61 x)) (i := 0) tp (b0 _) (by decide) (rv _) (rw' _) ha, xc_e, r_nm _ tp (by rw [sg_1]; omega), xcv_e]
    rw [show f_X10_writes T (rP S g j (nm _ (sg 61 x))) 199 (46 : Int32) = _ from r_sg 46 tp (by omega) (by decide), xcv_e, rP_199, xup_at]
    rfl
  | succ m ih =>
    intro i n x hi hn hx
    obtain ⟨n, rfl⟩ : ∃ n', n = n' + 1 := ⟨n - 1, by omega⟩
    have hi8 : i < 8 := by omega
    unfold f_X10_write_7
    rw [if_neg (of_eq_false (x8_ff hi8)), s_there (S := rP S g j x) (i := 0) tp (b0 _) (by decide) (rv _) (rw' _) hi8, xc_e]
    unfold wA
    by_cases q : xb (F 0 0) i = 0
    · rw [if_pos q, if_pos q, xl_e, nI_1]
      exact ih (i + 1) n x (by omega) (by omega) (by omega)
    · rw [if_neg q, if_neg q]
      have p1 := nm_1 (F 1 i) (sg 58 (sg (97 + i) x))
      have p2 := nm_1 (F 4 i) (sg 44 (nm (F 1 i) (sg 58 (sg (97 + i) x))))
      have p3 := nm_1 (F 5 i) (sg 44 (nm (F 4 i) (sg 44 (nm (F 1 i) (sg 58 (sg (97 + i) x))))))
      simp only [sg_1] at p1 p2 p3
      have e5 : encF F u (5 + i) = F 1 i := er_cap hi8
      have e29 : encF F u (29 + i) = F 4 i := er_sh hi8
      have e37 : encF F u (37 + i) = F 5 i := er_ow hi8
      rw [show (97 : Int32) + nI i = nI (97 + i) from nI_add 97 i, r_sg (97 + i) tp (by omega) (by omega), xcv_e]
      rw [show f_X10_writes T (rP S g j (sg (97 + i) x)) 199 (58 : Int32) = _ from r_sg 58 tp (by rw [sg_1]; omega) (by decide), xcv_e]
      rw [show (5 : Int32) + nI i = nI (5 + i) from nI_add 5 i, s_get (S := rP S g j _) (i := 0) tp (b0 _) (by decide) (rv _) (rw' _) (by omega), xc_e, e5, r_nm _ tp (by simp only [sg_1]; omega), xcv_e]
      generalize he1 : nm (F 1 i) (sg 58 (sg (97 + i) x)) = x1 at p1 p2 p3 ⊢
      rw [show f_X10_writes T (rP S g j x1) 199 (44 : Int32) = _ from r_sg 44 tp (by omega) (by decide), xcv_e, show (29 : Int32) + nI i = nI (29 + i) from nI_add 29 i, s_get (S := rP S g j _) (i := 0) tp (b0 _) (by decide) (rv _) (rw' _) (by omega), xc_e, e29, r_nm _ tp (by simp only [sg_1]; omega), xcv_e]
      generalize he2 : nm (F 4 i) (sg 44 x1) = x2 at p2 p3 ⊢
      rw [show f_X10_writes T (rP S g j x2) 199 (44 : Int32) = _ from r_sg 44 tp (by omega) (by decide), xcv_e, show (37 : Int32) + nI i = nI (37 + i) from nI_add 37 i, s_get (S := rP S g j _) (i := 0) tp (b0 _) (by decide) (rv _) (rw' _) (by omega), xc_e, e37, r_nm _ tp (by simp only [sg_1]; omega), xcv_e]
      generalize he3 : nm (F 5 i) (sg 44 x2) = x3 at p3 ⊢
      rw [show f_X10_writes T (rP S g j x3) 199 (59 : Int32) = _ from r_sg 59 tp (by omega) (by decide), xcv_e, xl_e, nI_1]
      have e : pW F i x = sg 59 x3 := by unfold pW; rw [he1, he2, he3]
      rw [e]
      exact ih (i + 1) n (sg 59 x3) (by omega) (by omega) (by rw [sg_1]; omega)
theorem rP_0 {S : xS} : xI S 199 33 0 = rP S (S.1 199) (S.2.1 199) (0, S.1 214) := by
  refine Prod.ext (funext fun a => ?_) (Prod.ext (funext fun a => ?_) rfl)
  · by_cases h : a = 199
    · subst h; rw [rP_199, xI_1]; rfl
    · rw [xI_ne h]
      by_cases h2 : a = 214
      · subst h2; rw [rP_214]
      · rw [rP_n h h2]
  · show S.2.1 a = (rW (xw S 214 (S.1 214)) (va_up (S.1 199) 33 (nI 0)) (S.2.1 199)).2.1 a
    by_cases h : a = 199
    · subst h; rw [rW_2]
    · rw [rW_j h]; rfl
theorem r_write {T : xT} {S : xS} {F : Nat → Nat → Int32} {u wt : Nat → Int32} (tp : xTp T S.2.2) (hg : S.1 199 1 = 0) (h : rV S 0 F u) (hw : rwV S wt) (ha : xAs (F 0 1) (F 6) (F 7) (F 8)) : f_X10_write T S 199 = some (nI (wA F (xsm (fun k => F 6 k - F 8 k) 8 0 (F 0 2)) 8 0 (0, S.1 214)).1, rP S (S.1 199) (S.2.1 199) (wA F (xsm (fun k => F 6 k - F 8 k) 8 0 (F 0 2)) 8 0 (0, S.1 214))) := by
  unfold f_X10_write
  rw [xpi_e, xl_e, rP_0]
  exact L_rw tp hg h hw ha 8 0 xfu _ rfl (by decide) (Nat.le_refl _)
/-! the two agree below the length -/
def wEq (x y : wX) : Prop := x.1 = y.1 ∧ ∀ k, k < x.1 → x.2 k = y.2 k
theorem sg_eq {x y : wX} (c : Nat) (h : wEq x y) : wEq (sg c x) (sg c y) := by
  refine ⟨by rw [sg_1, sg_1, h.1], fun k hk => ?_⟩
  show va_up x.2 x.1 (nI c) k = va_up y.2 y.1 (nI c) k
  rw [sg_1] at hk
  rw [← h.1]
  by_cases e : k = x.1
  · subst e; rw [xup_at, xup_at]
  · rw [up_ne e, up_ne e]; exact h.2 k (by omega)
theorem nm_eq {x y : wX} (n : Int32) (h : wEq x y) : wEq (nm n x) (nm n y) := by
  refine ⟨?_, fun k hk => ?_⟩
  · show lnN n (eN n) x.1 = lnN n (eN n) y.1
    rw [h.1]
  · show apN n (eN n) x.1 x.2 k = apN n (eN n) y.1 y.2 k
    rw [← h.1]
    exact apN_at h.2 k hk
theorem wA_eq {F : Nat → Nat → Int32} {net : Int32} : ∀ (m i : Nat) (x y : wX), wEq x y → wEq (wA F net m i x) (wA F net m i y)
  | 0, i, x, y, h => sg_eq 46 (nm_eq net (sg_eq 61 h))
  | m + 1, i, x, y, h => by
    unfold wA
    refine wA_eq m (i + 1) _ _ ?_
    by_cases q : xb (F 0 0) i = 0
    · rw [if_pos q, if_pos q]; exact h
    · rw [if_neg q, if_neg q]
      unfold pW
      exact sg_eq _ (nm_eq _ (sg_eq _ (nm_eq _ (sg_eq _ (nm_eq _ (sg_eq _ (sg_eq _ h)))))))
theorem wEq_0 (B C : Nat → Int32) : wEq (0, B) (0, C) := ⟨rfl, fun k hk => absurd hk (Nat.not_lt_zero k)⟩
/-! one octet of it -/
theorem c_octet {T : xT} {S : xS} {n : Nat} {p : Int32} (tp : xTp T S.2.2) (hn : n ≤ 400) (h : S.1 15 0 = nI n) : f_X9_octet T S 0 p = some (if p < 0 then -1 else if nI n ≤ p then -1 else S.1 16 p.toInt.toNat, S) := by
  unfold f_X9_octet
  by_cases q : p < 0
  · rw [if_pos q, if_pos q]
  · rw [if_neg q, if_neg q, rr_0_3 tp, h]
    by_cases q2 : nI n ≤ p
    · rw [if_pos q2, if_pos q2]
    · rw [if_neg q2, if_neg q2, rr_0_3 tp, rr_15_1 tp]
      rw [xlt, show (0 : Int32).toInt = 0 from by decide] at q
      rw [xle, nI_toInt (by omega)] at q2
      have e : p = nI p.toInt.toNat := by rw [xeq, nI_toInt (by omega)]; omega
      conv => lhs; rw [e]
      rw [xai_n (xTp_n tp 400 (by decide) rfl) (by omega) (by decide)]
theorem r_octet {T : xT} {S : xS} {n : Nat} {p : Int32} (tp : xTp T S.2.2) (hn : n ≤ 400) (h : S.1 199 33 = nI n) : f_X10_octet T S 199 p = some (if p < 0 then -1 else if nI n ≤ p then -1 else S.1 214 p.toInt.toNat, S) := by
  unfold f_X10_octet
  rw [h_isIn, xc_e, h]
  by_cases q : p < 0
  · rw [if_pos q, if_pos q, if_pos rfl]
  · rw [if_neg q, if_neg q]
    have q' := q
    rw [xlt, show (0 : Int32).toInt = 0 from by decide] at q'
    have s1 : (nI n - 1).toInt = (n : Int) - 1 := by
      have e1 : (1 : Int32).toInt = 1 := by decide
      rw [xsub (by rw [nI_toInt (by omega), e1]; omega) (by rw [nI_toInt (by omega), e1]; omega), nI_toInt (by omega), e1]
    by_cases q2 : nI n ≤ p
    · rw [if_pos q2]
      rw [xle, nI_toInt (by omega)] at q2
      rw [if_pos (show nI n - 1 < p by rw [xlt, s1]; omega), if_pos rfl]
    · rw [if_neg q2]
      rw [xle, nI_toInt (by omega)] at q2
      rw [if_neg (show ¬ nI n - 1 < p by rw [xlt, s1]; omega), if_neg (by decide), rr_199_32 tp]
      have e : p = nI p.toInt.toNat := by rw [xeq, nI_toInt (by omega)]; omega
      conv => lhs; rw [e]
      rw [xai_n (xTp_n tp 400 (by decide) rfl) (by omega) (by decide)]
