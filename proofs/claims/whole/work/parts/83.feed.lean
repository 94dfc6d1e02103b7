/-! what is fed, what is cut -/
theorem zR_k {S S' : xS} {M : zM} (h : ∀ a, a = 200 ∨ a = 201 ∨ a = 202 ∨ a = 213 ∨ a = 214 → S'.1 a = S.1 a) (hf : ∀ k, k = 1 ∨ k = 2 ∨ k = 5 ∨ k = 9 ∨ k = 30 ∨ k = 31 ∨ k = 33 → S'.1 199 k = S.1 199 k) (hw : ∃ wt, rwV S' wt) (r : zR S M) : zR S' M := by
  obtain ⟨⟨r1, _⟩, r⟩ := r
  refine ⟨⟨by rw [hf 1 (by decide)]; exact r1, hw⟩, ?_⟩
  unfold rKe rV at *
  rw [h 200 (by decide), h 201 (by decide), h 202 (by decide), h 213 (by decide), h 214 (by decide), hf 2 (by decide), hf 5 (by decide), hf 9 (by decide), hf 30 (by decide), hf 31 (by decide), hf 33 (by decide)]
  exact r
/-- of the class, all but now's own numbers -/
theorem zC_k {T : xT} {S S' : xS} {M : zM} {s : zSt} (hr : ∀ a, a ≠ 17 → S'.2.2 a = S.2.2 a) (tp : xTp T S'.2.2) (h0 : ∀ k, k = 6 ∨ k = 7 ∨ k = 11 → S'.1 0 k = S.1 0 k) (h1 : S'.1 1 1 = S.1 1 1) (h2 : ∀ a, a = 2 ∨ a = 10 ∨ a = 11 ∨ a = 15 ∨ a = 16 → S'.1 a = S.1 a) (h3 : ∀ a, 43 ≤ a → a ≤ 187 → S'.1 a = S.1 a) (h4 : ∀ a, 215 ≤ a → S'.1 a = S.1 a) (hn : cSt S' 17 31 40 s) (c : zC T S M) : zC T S' (M.sN s) := by
  obtain ⟨c1, c2, c3, c4, c5, c6, c7, c8⟩ := c
  exact ⟨tp, hn, cDe_c (M := M) c3 ⟨h0 6 (by decide), h0 7 (by decide)⟩ (fun a q1 q2 => hr a (by omega)) (fun a q1 q2 => h3 a q1 (by omega)), cKe_c (M := M) c4 (hr _ (by decide)) (fun a q => hr a (by omega)) h4, cTa_c (M := M) c5 h1 (h2 2 (by decide)), (h0 11 (by decide)).trans c6, cBa_c (M := M) c7 (h2 _ (by decide)) (h2 _ (by decide)), cWr_c (M := M) c8 (h2 _ (by decide)) (h2 _ (by decide))⟩
theorem o_end : zOp 1 := by
  intro i T S a hi h
  have h' := h
  obtain ⟨M, B, c, r, g, b0, b1⟩ := h'
  have tp := c.1
  have hL := c.2.2.2.2.1.1
  have h5 := c.2.2.2.2.1.2.1
  have r5 := r.2.2.2.2.1.1
  show ∃ (T2 : xT) (S2 : xS), xc (f_X9_end T S 0 (a 1)) (fun r1 S1 => xc (f_X10_end T S1 199 (a 1)) (fun r2 S2 => some (decide (r1 = r2), T, S2))) = some (true, T2, S2) ∧ zI (i + 1) T2 S2
  generalize a 1 = p
  by_cases q : p < 0
  · refine ⟨T, S, zX (r := -1) (S1 := S) ?_ ?_, zId h⟩
    · unfold f_X9_end; rw [if_pos q]
    · unfold f_X10_end; rw [h_isIn, xc_e, if_pos q, if_pos rfl]
  · by_cases q2 : p ≤ nI M.L
    · have q' := q
      rw [xlt, show (0 : Int32).toInt = 0 from by decide] at q'
      have q2' := q2
      rw [xle, nI_toInt (by omega)] at q2'
      have e : p = nI p.toInt.toNat := by rw [xeq, nI_toInt (by omega)]; omega
      have q3 : ¬ nI M.L < p := by rw [xlt, nI_toInt (by omega)]; omega
      refine ⟨T, xI (xI S 1 1 p) 199 5 p, zX (r := p) (S1 := xI S 1 1 p) ?_ ?_, ?_⟩
      · unfold f_X9_end
        rw [if_neg q, rr_0_0 tp, h5, if_pos q2, rr_0_0 tp, xpi_e]
      · unfold f_X10_end
        rw [h_isIn, xc_e, xI_ne (by decide), r5, if_neg q, if_neg q3, if_neg (by decide), xpi_e]
      · have f1 : ∀ a, a ≠ 1 → (xI S 1 1 p).1 a = S.1 a := fun a h => xI_ne h
        have c1 : zC T (xI S 1 1 p) (M.sT p.toInt.toNat M.tb) := by
          obtain ⟨c1, c2, c3, c4, c5, c6, c7, c8⟩ := c
          exact ⟨tp, cSt_c c2 rfl (fun a q1 q2 => f1 a (by omega)) (f1 _ (by decide)) (f1 _ (by decide)), cDe_c (M := M) c3 ⟨by rw [f1 0 (by decide)], by rw [f1 0 (by decide)]⟩ (fun a _ _ => rfl) (fun a q1 q2 => f1 a (by omega)), cKe_c (M := M) c4 rfl (fun a _ => rfl) (fun a q => f1 a (by omega)), ⟨by show p.toInt.toNat ≤ 400; omega, by rw [xI_1, xup_at]; exact e, fun k hk => by
            have hk' : k < p.toInt.toNat := hk
            rw [f1 2 (by decide)]; exact c5.2.2 k (by omega)⟩, by rw [f1 0 (by decide)]; exact c6, cBa_c (M := M) c7 (f1 _ (by decide)) (f1 _ (by decide)), cWr_c (M := M) c8 (f1 _ (by decide)) (f1 _ (by decide))⟩
        have g1 : zG T (xI S 1 1 p) B (M.sT p.toInt.toNat M.tb) := zG_f (M := M) (fun a q => f1 a (by unfold zTS at q; omega)) (fun a _ => rfl) g
        refine zFin c1 g1 rfl (fun a q => xI_ne (by omega)) ?_ b0 (by show 5 * B + 1000000 * (p.toInt.toNat : Int) ≤ 20000000 * ((i + 1 : Nat) : Int); omega)
        have f2 : ∀ a, a ≠ 1 → a ≠ 199 → (xI (xI S 1 1 p) 199 5 p).1 a = S.1 a := fun a h1 h2 => by rw [xI_ne h2, xI_ne h1]
        have f3 : ∀ k, k ≠ 5 → (xI (xI S 1 1 p) 199 5 p).1 199 k = S.1 199 k := fun k hk => by rw [xI_at hk, xI_ne (by decide)]
        obtain ⟨⟨r1, wt, r2⟩, r3, ⟨r4, r5⟩, r6, ⟨r7, r8⟩, r9, ⟨r10, r11, r12⟩, r13, r14⟩ := r
        refine ⟨⟨by rw [f3 1 (by decide)]; exact r1, wt, rwV_c r2 rfl⟩, rV_c r3 (f2 _ (by decide) (by decide)), ⟨by rw [f3 2 (by decide)]; exact r4, fun k hk => rV_c (r5 k hk) (f2 _ (by decide) (by decide))⟩, fun k hk => ⟨fun z => by rw [f2 201 (by decide) (by decide)]; exact (r6 k hk).1 z, fun K s z => ⟨by rw [f2 201 (by decide) (by decide)]; exact ((r6 k hk).2 K s z).1, rV_c ((r6 k hk).2 K s z).2 (f2 _ (by decide) (by decide))⟩⟩, ⟨by rw [xI_1, xup_at]; exact e, fun k hk => by
          have hk' : k < p.toInt.toNat := hk
          rw [f2 202 (by decide) (by decide)]; exact r8 k (by omega)⟩, by rw [f3 9 (by decide)]; exact r9, ⟨by rw [f3 30 (by decide)]; exact r10, by rw [f3 31 (by decide)]; exact r11, fun k hk => by rw [f2 213 (by decide) (by decide)]; exact r12 k hk⟩, by rw [f3 33 (by decide)]; exact r13, fun k hk => by rw [f2 214 (by decide) (by decide)]; exact r14 k hk⟩
    · have q2' := q2
      rw [xle, nI_toInt (by omega)] at q2'
      refine ⟨T, S, zX (r := -1) (S1 := S) ?_ ?_, zId h⟩
      · unfold f_X9_end
        rw [if_neg q, rr_0_0 tp, h5, if_neg q2]
      · unfold f_X10_end
        rw [h_isIn, xc_e, r5, if_neg q, if_pos (show nI M.L < p by rw [xlt, nI_toInt (by omega)]; omega), if_pos rfl]
/-! four octets more -/
def cF (S : xS) (a0 B : Nat → Int32) (len : Nat) : xS := xw (xw S 1 (va_up a0 1 (nI len))) 2 B
def rFd (S : xS) (g B : Nat → Int32) (len : Nat) : xS := xw (xw S 199 (va_up g 5 (nI len))) 202 B
def bY (p s : Int32) : Int32 := (p >>> (s &&& 31)) &&& 255
def bX (p s : Int32) : Int32 := vp_nar .byte ((p >>> (s &&& 31)).toInt8.toInt32)
theorem cF_1 (S : xS) (a0 B : Nat → Int32) (len : Nat) : (cF S a0 B len).1 1 = va_up a0 1 (nI len) := by unfold cF; rw [xw_ne _ _ (by decide), xw_1]
theorem rFd_1 (S : xS) (g B : Nat → Int32) (len : Nat) : (rFd S g B len).1 199 = va_up g 5 (nI len) := by unfold rFd; rw [xw_ne _ _ (by decide), xw_1]
theorem c_add1 {T : xT} {S : xS} {a0 B : Nat → Int32} {len n : Nat} {p s : Int32} (tp : xTp T S.2.2) (hs : ¬ s < 0) (hl : len < 400) : f_X3_addFour_3 T (n + 1) (cF S a0 B len) 1 p s = f_X3_addFour_3 T n (cF S a0 (va_up B len (bY p s)) (len + 1)) 1 p (s + -8) := by
  have h2 : T.2.1 2 = 400 := xTp_n tp 400 (by decide) rfl
  have e1 : xI (cF S a0 B len) 2 len (bY p s) = cF S a0 (va_up B len (bY p s)) len := by unfold cF; rw [xI_xw]
  conv => lhs; unfold f_X3_addFour_3
  rw [if_neg hs, cF_1, xup_at, if_neg (show ¬ (400 : Int32) ≤ nI len from nI_ge (a := len) (b := 400) hl (by decide)), rr_1_0 (S := cF S a0 B len) tp, xst_n h2 hl (by decide), xpi_e, xl_e]
  erw [e1]
  rw [cF_1, xup_at, nI_1]
  congr 1
  unfold cF
  rw [xw_c (show (1 : Nat) ≠ 2 by decide), xI_xw, xup2, xw_c (show (2 : Nat) ≠ 1 by decide)]
theorem r_add1 {T : xT} {S : xS} {g B : Nat → Int32} {len n : Nat} {p s : Int32} (tp : xTp T S.2.2) (hs : ¬ s < 0) (hl : len < 400) : f_X10_four_3 T (n + 1) (rFd S g B len) 199 p s = f_X10_four_3 T n (rFd S g (va_up B len (bX p s)) (len + 1)) 199 p (s + -8) := by
  have h2 : T.2.1 202 = 400 := xTp_n tp 400 (by decide) rfl
  have e1 : xI (rFd S g B len) 202 len (bX p s) = rFd S g (va_up B len (bX p s)) len := by unfold rFd; rw [xI_xw]
  conv => lhs; unfold f_X10_four_3
  rw [if_neg hs, rr_199_4 (S := rFd S g B len) tp, rFd_1, xup_at, xst_n h2 hl (by decide), xpi_e, xl_e]
  erw [e1]
  rw [rFd_1, xup_at, nI_1]
  congr 1
  unfold rFd
  rw [xw_c (show (199 : Nat) ≠ 202 by decide), xI_xw, xup2, xw_c (show (202 : Nat) ≠ 199 by decide)]
def b4 (f : Int32 → Int32 → Int32) (p : Int32) (len : Nat) (B : Nat → Int32) : Nat → Int32 := va_up (va_up (va_up (va_up B len (f p 24)) (len + 1) (f p 16)) (len + 2) (f p 8)) (len + 3) (f p 0)
theorem c_add4 {T : xT} {S : xS} {a0 B : Nat → Int32} {len : Nat} {p : Int32} (tp : xTp T S.2.2) (hl : len + 4 ≤ 400) : f_X3_addFour T (cF S a0 B len) 1 p = some (cF S a0 (b4 bY p len B) (len + 4)) := by
  unfold f_X3_addFour b4
  rw [xl_e, show xfu = 995 + 1 + 1 + 1 + 1 + 1 from rfl, c_add1 tp (by decide) (by omega), c_add1 tp (by decide) (by omega), c_add1 tp (by decide) (by omega), c_add1 tp (by decide) (by omega)]
  unfold f_X3_addFour_3
  rw [if_pos (by decide)]
  rfl
theorem r_add4 {T : xT} {S : xS} {g B : Nat → Int32} {len : Nat} {p : Int32} (tp : xTp T S.2.2) (hl : len + 4 ≤ 400) : f_X10_four T (rFd S g B len) 199 p = some (rFd S g (b4 bX p len B) (len + 4)) := by
  unfold f_X10_four b4
  rw [xl_e, show xfu = 995 + 1 + 1 + 1 + 1 + 1 from rfl, r_add1 tp (by decide) (by omega), r_add1 tp (by decide) (by omega), r_add1 tp (by decide) (by omega), r_add1 tp (by decide) (by omega)]
  unfold f_X10_four_3
  rw [if_pos (by decide)]
  rfl
theorem by_low (x : Int32) : vp_nar .byte (x.toInt8.toInt32) &&& 255 = x &&& 255 := by
  have e : vp_nar .byte (x.toInt8.toInt32) = x.toInt8.toInt32 := by
    show x.toInt8.toInt32.toInt8.toInt32 = _
    rw [Int8.toInt8_toInt32]
  rw [e]
  refine b_ext fun i hi => ?_
  rw [b_and, b_and, b_255]
  by_cases h : i < 8
  · rw [decide_eq_true h, Bool.and_true, Bool.and_true]
    unfold bt
    rw [Int8.toBitVec_toInt32, Int32.toBitVec_toInt8]
    rw [BitVec.getLsbD_signExtend, decide_eq_true hi, Bool.true_and, if_pos h, BitVec.getLsbD_signExtend, decide_eq_true h, Bool.true_and, if_pos hi]
  · rw [decide_eq_false h, Bool.and_false, Bool.and_false]
theorem by_rng (x : Int32) : 0 ≤ (x &&& 255).toInt ∧ (x &&& 255).toInt < 256 := by
  have e : (x &&& 255).toBitVec.toNat ≤ 255 := by
    rw [Int32.toBitVec_and, BitVec.toNat_and]
    exact Nat.and_le_right
  have e2 : (x &&& 255).toInt = ((x &&& 255).toBitVec.toNat : Int) := by
    show (x &&& 255).toBitVec.toInt = _
    rw [BitVec.toInt_eq_toNat_of_lt (by omega)]
  omega
def q3 (len : Nat) (B C t : Nat → Int32) : Prop := ∀ k, k < len → B k = t k ∧ (0 ≤ (t k).toInt ∧ (t k).toInt < 256) ∧ C k &&& 255 = t k
theorem q3_1 {len : Nat} {B C t : Nat → Int32} (p s : Int32) (h : q3 len B C t) : q3 (len + 1) (va_up B len (bY p s)) (va_up C len (bX p s)) (va_up t len (bY p s)) := by
  intro k hk
  by_cases e : k = len
  · subst e
    rw [xup_at, xup_at, xup_at]
    exact ⟨rfl, by_rng _, by_low _⟩
  · rw [up_ne e, up_ne e, up_ne e]
    exact h k (by omega)
theorem q3_4 {len : Nat} {B C t : Nat → Int32} (p : Int32) (h : q3 len B C t) : q3 (len + 4) (b4 bY p len B) (b4 bX p len C) (b4 bY p len t) := q3_1 p 0 (q3_1 p 8 (q3_1 p 16 (q3_1 p 24 h)))
def b20 (f : Int32 → Int32 → Int32) (a : Nat → Int32) (len : Nat) (B : Nat → Int32) : Nat → Int32 := b4 f (a 5) (len + 4 + 4 + 4 + 4) (b4 f (a 4) (len + 4 + 4 + 4) (b4 f (a 3) (len + 4 + 4) (b4 f (a 2) (len + 4) (b4 f (a 1) len B))))
theorem q3_20 {len : Nat} {B C t : Nat → Int32} (a : Nat → Int32) (h : q3 len B C t) : q3 (len + 20) (b20 bY a len B) (b20 bX a len C) (b20 bY a len t) := q3_4 (a 5) (q3_4 (a 4) (q3_4 (a 3) (q3_4 (a 2) (q3_4 (a 1) h))))
theorem cF_self {S : xS} {L : Nat} (h : S.1 1 1 = nI L) : cF S (S.1 1) (S.1 2) L = S := by
  refine Prod.ext (funext fun a => ?_) rfl
  unfold cF
  by_cases h2 : a = 2
  · subst h2; rw [xw_1]
  · rw [xw_ne _ _ h2]
    by_cases h1 : a = 1
    · subst h1; rw [xw_1, ← h, xup_self]
    · rw [xw_ne _ _ h1]
theorem rFd_self {S : xS} {L : Nat} (h : S.1 199 5 = nI L) : rFd S (S.1 199) (S.1 202) L = S := by
  refine Prod.ext (funext fun a => ?_) rfl
  unfold rFd
  by_cases h2 : a = 202
  · subst h2; rw [xw_1]
  · rw [xw_ne _ _ h2]
    by_cases h1 : a = 199
    · subst h1; rw [xw_1, ← h, xup_self]
    · rw [xw_ne _ _ h1]
theorem c_feed {T : xT} {S : xS} {L : Nat} {a : Nat → Int32} (tp : xTp T S.2.2) (h : S.1 1 1 = nI L) (hl : L + 20 ≤ 400) : f_X9_feed T S 0 (a 1) (a 2) (a 3) (a 4) (a 5) = some (nI (L + 20), cF S (S.1 1) (b20 bY a L (S.1 2)) (L + 20)) := by
  unfold f_X9_feed b20
  have e := cF_self h
  rw [rr_0_0 tp, h, if_pos (show nI L ≤ (380 : Int32) by rw [xle, nI_toInt (by omega)]; show (L : Int) ≤ 380; omega), rr_0_0 tp, show f_X3_addFour T S 1 (a 1) = f_X3_addFour T (cF S (S.1 1) (S.1 2) L) 1 (a 1) by rw [e], c_add4 tp (by omega), xcv_e, rr_0_0 (S := cF S _ _ _) tp, c_add4 tp (by omega), xcv_e, rr_0_0 (S := cF S _ _ _) tp, c_add4 tp (by omega), xcv_e, rr_0_0 (S := cF S _ _ _) tp, c_add4 tp (by omega), xcv_e, rr_0_0 (S := cF S _ _ _) tp, c_add4 tp (by omega), xcv_e, rr_0_0 (S := cF S _ _ _) tp, cF_1, xup_at]
theorem r_feed {T : xT} {S : xS} {L : Nat} {a : Nat → Int32} (tp : xTp T S.2.2) (h : S.1 199 5 = nI L) (hl : L + 20 ≤ 400) : f_X10_feed T S 199 (a 1) (a 2) (a 3) (a 4) (a 5) = some (nI (L + 20), rFd S (S.1 199) (b20 bX a L (S.1 202)) (L + 20)) := by
  unfold f_X10_feed b20
  have e := rFd_self h
  rw [h, show nI L + 20 = nI (L + 20) from nI_add L 20, if_pos (show nI (L + 20) ≤ (400 : Int32) by rw [xle, nI_toInt (by omega)]; show ((L + 20 : Nat) : Int) ≤ 400; omega), show f_X10_four T S 199 (a 1) = f_X10_four T (rFd S (S.1 199) (S.1 202) L) 199 (a 1) by rw [e], r_add4 tp (by omega), xcv_e, r_add4 tp (by omega), xcv_e, r_add4 tp (by omega), xcv_e, r_add4 tp (by omega), xcv_e, r_add4 tp (by omega), xcv_e, rFd_1, xup_at]
theorem o_feed : zOp 0 := by
  intro i T S a hi h
  have h' := h
  obtain ⟨M, B, c, r, g, b0, b1⟩ := h'
  have tp := c.1
  have hL := c.2.2.2.2.1.1
  have h5 := c.2.2.2.2.1.2.1
  have r5 := r.2.2.2.2.1.1
  show ∃ (T2 : xT) (S2 : xS), xc (f_X9_feed T S 0 (a 1) (a 2) (a 3) (a 4) (a 5)) (fun r1 S1 => xc (f_X10_feed T S1 199 (a 1) (a 2) (a 3) (a 4) (a 5)) (fun r2 S2 => some (decide (r1 = r2), T, S2))) = some (true, T2, S2) ∧ zI (i + 1) T2 S2
  by_cases q : M.L + 20 ≤ 400
  · have f1 : ∀ x, x ≠ 1 → x ≠ 2 → (cF S (S.1 1) (b20 bY a M.L (S.1 2)) (M.L + 20)).1 x = S.1 x := fun x h1 h2 => by unfold cF; rw [xw_ne _ _ h2, xw_ne _ _ h1]
    have hr := r_feed (S := cF S (S.1 1) (b20 bY a M.L (S.1 2)) (M.L + 20)) (a := a) tp (by rw [f1 199 (by decide) (by decide)]; exact r5) q
    rw [f1 199 (by decide) (by decide), f1 202 (by decide) (by decide)] at hr
    refine ⟨T, _, zX (c_feed tp h5 q) hr, ?_⟩
    have k3 : q3 (M.L + 20) (b20 bY a M.L (S.1 2)) (b20 bX a M.L (S.1 202)) (b20 bY a M.L M.tb) := q3_20 a (fun k hk => ⟨(c.2.2.2.2.1.2.2 k hk).1, (c.2.2.2.2.1.2.2 k hk).2, r.2.2.2.2.1.2 k hk⟩)
    have c1 : zC T (cF S (S.1 1) (b20 bY a M.L (S.1 2)) (M.L + 20)) (M.sT (M.L + 20) (b20 bY a M.L M.tb)) := by
      obtain ⟨c1, c2, c3, c4, c5, c6, c7, c8⟩ := c
      exact ⟨tp, cSt_c c2 rfl (fun a q1 q2 => f1 a (by omega) (by omega)) (f1 _ (by decide) (by decide)) (f1 _ (by decide) (by decide)), cDe_c (M := M) c3 ⟨by rw [f1 0 (by decide) (by decide)], by rw [f1 0 (by decide) (by decide)]⟩ (fun a _ _ => rfl) (fun a q1 q2 => f1 a (by omega) (by omega)), cKe_c (M := M) c4 rfl (fun a _ => rfl) (fun a q => f1 a (by omega) (by omega)), ⟨q, by rw [cF_1, xup_at]; rfl, fun k hk => ⟨by unfold cF; rw [xw_1]; exact (k3 k hk).1, (k3 k hk).2.1⟩⟩, by rw [f1 0 (by decide) (by decide)]; exact c6, cBa_c (M := M) c7 (f1 _ (by decide) (by decide)) (f1 _ (by decide) (by decide)), cWr_c (M := M) c8 (f1 _ (by decide) (by decide)) (f1 _ (by decide) (by decide))⟩
    have g1 : zG T (cF S (S.1 1) (b20 bY a M.L (S.1 2)) (M.L + 20)) B (M.sT (M.L + 20) (b20 bY a M.L M.tb)) := zG_f (M := M) (fun a q => f1 a (by unfold zTS at q; omega) (by unfold zTS at q; omega)) (fun a _ => rfl) g
    have j1 : (cF S (S.1 1) (b20 bY a M.L (S.1 2)) (M.L + 20)).2.1 = S.2.1 := rfl
    generalize cF S (S.1 1) (b20 bY a M.L (S.1 2)) (M.L + 20) = S1 at f1 c1 g1 j1 ⊢
    have f2 : ∀ x, x ≠ 199 → x ≠ 202 → (rFd S1 (S.1 199) (b20 bX a M.L (S.1 202)) (M.L + 20)).1 x = S1.1 x := fun x h1 h2 => by unfold rFd; rw [xw_ne _ _ h2, xw_ne _ _ h1]
    refine zFin c1 g1 rfl (fun x q => f2 x (by omega) (by omega)) ?_ b0 (by show 5 * B + 1000000 * ((M.L + 20 : Nat) : Int) ≤ 20000000 * ((i + 1 : Nat) : Int); omega)
    have f4 : ∀ x, x ≠ 1 → x ≠ 2 → x ≠ 199 → x ≠ 202 → (rFd S1 (S.1 199) (b20 bX a M.L (S.1 202)) (M.L + 20)).1 x = S.1 x := fun x h1 h2 h3 h4 => by rw [f2 x h3 h4, f1 x h1 h2]
    have f3 : ∀ k, k ≠ 5 → (rFd S1 (S.1 199) (b20 bX a M.L (S.1 202)) (M.L + 20)).1 199 k = S.1 199 k := fun k hk => by rw [rFd_1, up_ne hk]
    obtain ⟨⟨r1, wt, r2⟩, r3, ⟨r4, r5⟩, r6, ⟨r7, r8⟩, r9, ⟨r10, r11, r12⟩, r13, r14⟩ := r
    have q200 := f4 200 (by decide) (by decide) (by decide) (by decide)
    have q201 := f4 201 (by decide) (by decide) (by decide) (by decide)
    refine ⟨⟨by rw [f3 1 (by decide)]; exact r1, wt, rwV_c r2 (congrFun j1 204)⟩, rV_c r3 q200, ⟨by rw [f3 2 (by decide)]; exact r4, fun k hk => rV_c (r5 k hk) q200⟩, fun k hk => ⟨fun z => by rw [q201]; exact (r6 k hk).1 z, fun K s z => ⟨by rw [q201]; exact ((r6 k hk).2 K s z).1, rV_c ((r6 k hk).2 K s z).2 q200⟩⟩, ⟨by rw [rFd_1, xup_at]; rfl, fun k hk => by unfold rFd; rw [xw_1]; exact (k3 k hk).2.2⟩, by rw [f3 9 (by decide)]; exact r9, ⟨by rw [f3 30 (by decide)]; exact r10, by rw [f3 31 (by decide)]; exact r11, fun k hk => by rw [f4 213 (by decide) (by decide) (by decide) (by decide)]; exact r12 k hk⟩, by rw [f3 33 (by decide)]; exact r13, fun k hk => by rw [f4 214 (by decide) (by decide) (by decide) (by decide)]; exact r14 k hk⟩
  · refine ⟨T, S, zX (r := -1) (S1 := S) ?_ ?_, zId h⟩
    · unfold f_X9_feed
      rw [rr_0_0 tp, h5, if_neg (show ¬ nI M.L ≤ (380 : Int32) by rw [xle, nI_toInt (by omega)]; show ¬ (M.L : Int) ≤ 380; omega)]
    · unfold f_X10_feed
      rw [r5, show nI M.L + 20 = nI (M.L + 20) from nI_add M.L 20, if_neg (show ¬ nI (M.L + 20) ≤ (400 : Int32) by rw [xle, nI_toInt (by omega)]; show ¬ ((M.L + 20 : Nat) : Int) ≤ 400; omega)]
