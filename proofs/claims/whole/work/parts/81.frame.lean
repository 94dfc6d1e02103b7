/-! frames of the two views -/
def zM.sN (M : zM) (s : zSt) : zM := zmk s M.d M.x M.D M.kp M.L M.tb M.ft M.bn M.be M.bt M.wn M.wb
def zM.sW (M : zM) (n : Nat) (b : Nat → Int32) : zM := zmk M.now M.d M.x M.D M.kp M.L M.tb M.ft M.bn M.be M.bt n b
def zM.sT (M : zM) (L : Nat) (tb : Nat → Int32) : zM := zmk M.now M.d M.x M.D M.kp L tb M.ft M.bn M.be M.bt M.wn M.wb
def zM.sF (M : zM) (f : Int32) : zM := zmk M.now M.d M.x M.D M.kp M.L M.tb f M.bn M.be M.bt M.wn M.wb
def zM.sB (M : zM) (n : Nat) (e : Int32) (b : Nat → Int32) : zM := zmk M.now M.d M.x M.D M.kp M.L M.tb M.ft n e b M.wn M.wb
theorem cSt_c {S S' : xS} {q b t : Nat} {s : zSt} (h : cSt S q b t s) (hq : S'.2.2 q = S.2.2 q) (h1 : ∀ a, b ≤ a → a ≤ b + 8 → S'.1 a = S.1 a) (h2 : S'.1 t = S.1 t) (h3 : S'.1 (t + 1) = S.1 (t + 1)) : cSt S' q b t s := by
  obtain ⟨a1, a2, a3⟩ := h
  exact ⟨by rw [hq]; exact a1, by rw [hq]; exact a2, clV_c a3 h1 h2 h3⟩
theorem dY_lt (M : zM) (k : Nat) : dY M k < 12 := Nat.mod_lt _ (by decide)
theorem cDe_c {S S' : xS} {M : zM} (h : cDe S M) (h0 : S'.1 0 6 = S.1 0 6 ∧ S'.1 0 7 = S.1 0 7) (hr : ∀ a, 43 ≤ a → a ≤ 186 → S'.2.2 a = S.2.2 a) (h1 : ∀ a, 43 ≤ a → a ≤ 186 → S'.1 a = S.1 a) : cDe S' M := by
  obtain ⟨a1, ⟨a2, a3⟩, a4⟩ := h
  refine ⟨a1, ⟨by rw [h0.1]; exact a2, by rw [h0.2]; exact a3⟩, fun k hk => ?_⟩
  have := dY_lt M k
  exact cSt_c (a4 k hk) (hr _ (by omega) (by omega)) (fun a q1 q2 => h1 a (by omega) (by omega)) (h1 _ (by omega) (by omega)) (h1 _ (by omega) (by omega))
theorem cKe_c {T : xT} {S S' : xS} {M : zM} (h : cKe T S M) (h0 : S'.2.2 187 = S.2.2 187) (hr : ∀ a, 215 ≤ a → S'.2.2 a = S.2.2 a) (h1 : ∀ a, 215 ≤ a → S'.1 a = S.1 a) : cKe T S' M := by
  refine ⟨fun k hk => ⟨fun z => by rw [h0]; exact (h.1 k hk).1 z, fun K s z => ?_⟩, h.2⟩
  obtain ⟨a1, a2, a3, a4⟩ := (h.1 k hk).2 K s z
  exact ⟨a1, by rw [h0]; exact a2, xSt_c (tLe_r T) ⟨by rw [hr K a1], by rw [hr K a1]⟩ (hr _ (by omega)) (hr _ (by omega)) a3, cSt_c a4 (hr K a1) (fun a q1 q2 => h1 a (by omega)) (h1 _ (by omega)) (h1 _ (by omega))⟩
theorem cTa_c {S S' : xS} {M : zM} (h : cTa S M) (h1 : S'.1 1 1 = S.1 1 1) (h2 : S'.1 2 = S.1 2) : cTa S' M := ⟨h.1, by rw [h1]; exact h.2.1, fun k hk => by rw [h2]; exact h.2.2 k hk⟩
theorem cBa_c {S S' : xS} {M : zM} (h : cBa S M) (h1 : S'.1 10 = S.1 10) (h2 : S'.1 11 = S.1 11) : cBa S' M := by
  unfold cBa at *
  rw [h1, h2]; exact h
theorem cWr_c {S S' : xS} {M : zM} (h : cWr S M) (h1 : S'.1 15 = S.1 15) (h2 : S'.1 16 = S.1 16) : cWr S' M := by
  unfold cWr at *
  rw [h1, h2]; exact h
theorem zC_c {T : xT} {S S' : xS} {M : zM} (hr : S'.2.2 = S.2.2) (h : ∀ a, a < 199 ∨ 215 ≤ a → S'.1 a = S.1 a) (c : zC T S M) : zC T S' M := by
  obtain ⟨c1, c2, c3, c4, c5, c6, c7, c8⟩ := c
  refine ⟨by rw [hr]; exact c1, cSt_c c2 (by rw [hr]) (fun a q1 q2 => h a (by omega)) (h _ (by omega)) (h _ (by omega)), cDe_c c3 ⟨by rw [h 0 (by omega)], by rw [h 0 (by omega)]⟩ (fun a _ _ => by rw [hr]) (fun a q1 q2 => h a (by omega)), cKe_c c4 (by rw [hr]) (fun a _ => by rw [hr]) (fun a q => h a (by omega)), cTa_c c5 (by rw [h 1 (by omega)]) (h 2 (by omega)), by rw [h 0 (by omega)]; exact c6, cBa_c c7 (h _ (by omega)) (h _ (by omega)), cWr_c c8 (h _ (by omega)) (h _ (by omega))⟩
theorem zR_c {S S' : xS} {M : zM} (h : ∀ a, 199 ≤ a → a ≤ 214 → S'.1 a = S.1 a) (hj : S'.2.1 204 = S.2.1 204) (r : zR S M) : zR S' M := by
  unfold zR rKe rV rwV at *
  rw [h 199 (by omega) (by omega), h 200 (by omega) (by omega), h 201 (by omega) (by omega), h 202 (by omega) (by omega), h 213 (by omega) (by omega), h 214 (by omega) (by omega), hj]
  exact r
theorem gSt_f {T : xT} {S S' : xS} {B : Int} {s : zSt} (h : ∀ a, zTS a → S'.1 a = S.1 a) (hr : ∀ a, zTS a → S'.2.2 a = S.2.2 a) (g : gSt T S B s) : gSt T S' B s := ⟨gTS_f h hr g.1, g.2.1, g.2.2⟩
theorem zG_f {T : xT} {S S' : xS} {B : Int} {M : zM} (h : ∀ a, zTS a → S'.1 a = S.1 a) (hr : ∀ a, zTS a → S'.2.2 a = S.2.2 a) (g : zG T S B M) : zG T S' B M := ⟨gSt_f h hr g.1, fun k hk => gSt_f h hr (g.2.1 k hk), fun k hk K s z => gSt_f h hr (g.2.2 k hk K s z)⟩
theorem cOk_mono {P N P' N' : Int} {re : Int32} {cap : Nat → Int32} (h1 : P ≤ P') (h2 : N ≤ N') (h : cOk P N re cap) : cOk P' N' re cap := by
  unfold cOk at *
  omega
theorem bOkF_mono {B B' : Int} {F : Nat → Nat → Int32} (hb : B ≤ B') (h : bOkF B F) : bOkF B' F := by
  obtain ⟨h1, h2, h3, h4, h5, h6, h7⟩ := h
  exact ⟨h1, h2, h3, h4, h5, cOk_mono (by omega) (by omega) h6, by omega⟩
theorem gSt_mono {T : xT} {S : xS} {B B' : Int} {s : zSt} (hb : B ≤ B') (g : gSt T S B s) : gSt T S B' s := ⟨g.1, g.2.1, bOkF_mono hb g.2.2⟩
theorem zG_mono {T : xT} {S : xS} {B B' : Int} {M : zM} (hb : B ≤ B') (g : zG T S B M) : zG T S B' M := ⟨gSt_mono hb g.1, fun k hk => gSt_mono hb (g.2.1 k hk), fun k hk K s z => gSt_mono hb (g.2.2 k hk K s z)⟩
theorem zFin {i : Nat} {T : xT} {S1 S2 : xS} {M : zM} {B : Int} (c : zC T S1 M) (g : zG T S1 B M) (hr : S2.2.2 = S1.2.2) (h : ∀ a, a < 199 ∨ 215 ≤ a → S2.1 a = S1.1 a) (r : zR S2 M) (h0 : 0 ≤ B) (hB : 5 * B + 1000000 * (M.L : Int) ≤ 20000000 * (i : Int)) : zI i T S2 :=
  ⟨M, B, zC_c hr h c, r, zG_f (fun a q => h a (by unfold zTS at q; omega)) (fun a _ => by rw [hr]) g, h0, hB⟩
theorem zX {T : xT} {S1 S2 : xS} {r : Int32} {f9 : Option (Int32 × xS)} {f10 : xS → Option (Int32 × xS)} (h1 : f9 = some (r, S1)) (h2 : f10 S1 = some (r, S2)) : xc f9 (fun r1 S1 => xc (f10 S1) (fun r2 S2 => some (decide (r1 = r2), T, S2))) = some (true, T, S2) := by
  rw [h1, xc_e, h2, xc_e, decide_eq_true rfl]
/-- an op that changes nothing -/
theorem zId {i : Nat} {T : xT} {S : xS} (h : zI i T S) : zI (i + 1) T S := by
  obtain ⟨M, B, a, b, c, d, e⟩ := h
  exact ⟨M, B, a, b, c, d, by omega⟩
/-! the smallest ops -/
def zOp (op : Nat) : Prop := ∀ (i : Nat) (T : xT) (S : xS) (a : Nat → Int32), i < 512 → zI i T S → ∃ (T2 : xT) (S2 : xS), xO op T S a = some (true, T2, S2) ∧ zI (i + 1) T2 S2
theorem o_fault : zOp 3 := by
  intro i T S a hi h
  have h' := h
  obtain ⟨M, B, c, r, g, b0, b1⟩ := h'
  refine ⟨T, S, ?_, zId h⟩
  show xc (f_X9_fault T S 0) (fun r1 S1 => xc (f_X10_fault T S1 199) (fun r2 S2 => some (decide (r1 = r2), T, S2))) = _
  refine zX (S1 := S) (r := M.ft) ?_ ?_
  · show some (S.1 0 11, S) = _
    rw [c.2.2.2.2.2.1]
  · show some (S.1 199 9, S) = _
    rw [r.2.2.2.2.2.1]
theorem o_ended : zOp 27 := by
  intro i T S a hi h
  have h' := h
  obtain ⟨M, B, c, r, g, b0, b1⟩ := h'
  refine ⟨T, S, ?_, zId h⟩
  show xc (f_X9_ended T S 0) (fun r1 S1 => xc (f_X10_ended T S1 199) (fun r2 S2 => some (decide (r1 = r2), T, S2))) = _
  refine zX (S1 := S) (r := M.be) ?_ ?_
  · unfold f_X9_ended
    rw [rr_0_2 c.1, c.2.2.2.2.2.2.1.2.2.1]
  · show some (S.1 199 31, S) = _
    rw [r.2.2.2.2.2.2.1.2.1]
theorem c_row {T : xT} {S : xS} {n : Nat} {p : Int32} (tp : xTp T S.2.2) (hn : n ≤ 30) (h : S.1 10 0 = nI n) : f_X9_row T S 0 p = some (if p < 0 then -1000000000 else if nI n ≤ p then -1000000000 else S.1 11 p.toInt.toNat, S) := by
  unfold f_X9_row
  by_cases q : p < 0
  · rw [if_pos q, if_pos q]
  · rw [if_neg q, if_neg q, rr_0_2 tp, h]
    by_cases q2 : nI n ≤ p
    · rw [if_pos q2, if_pos q2]
    · rw [if_neg q2, if_neg q2, rr_0_2 tp, rr_10_2 tp]
      rw [xlt, show (0 : Int32).toInt = 0 from by decide] at q
      rw [xle, nI_toInt (by omega)] at q2
      have e : p = nI p.toInt.toNat := by rw [xeq, nI_toInt (by omega)]; omega
      conv => lhs; rw [e]
      rw [xai_n (xTp_n tp 30 (by decide) rfl) (by omega) (by decide)]
theorem r_row {T : xT} {S : xS} {n : Nat} {p : Int32} (tp : xTp T S.2.2) (hn : n ≤ 30) (h : S.1 199 30 = nI n) : f_X10_row T S 199 p = some (if p < 0 then -1000000000 else if nI n ≤ p then -1000000000 else S.1 213 p.toInt.toNat, S) := by
  unfold f_X10_row
  rw [h_isIn, xc_e, h]
  by_cases q : p < 0
  · rw [if_pos q, if_pos q, if_pos rfl]
  · rw [if_neg q, if_neg q]
    have q' := q
    rw [xlt, show (0 : Int32).toInt = 0 from by decide] at q'
    have s1 : (nI n - 1).toInt = (n : Int) - 1 := by
      have e1 : (1 : Int32).toInt = 1 := by decide
      rw [xsub (by rw [nI_toInt (by omega), e1]; omega) (by rw [nI_toInt (by omega), e1]; omega), nI_toInt (by omega), e1]
    by_cases q2 : nI n ≤ p
    · rw [if_pos q2]
      rw [xle, nI_toInt (by omega)] at q2
      rw [if_pos (show nI n - 1 < p by rw [xlt, s1]; omega), if_pos rfl]
    · rw [if_neg q2]
      rw [xle, nI_toInt (by omega)] at q2
      rw [if_neg (show ¬ nI n - 1 < p by rw [xlt, s1]; omega), if_neg (by decide), rr_199_28 tp]
      have e : p = nI p.toInt.toNat := by rw [xeq, nI_toInt (by omega)]; omega
      conv => lhs; rw [e]
      rw [xai_n (xTp_n tp 30 (by decide) rfl) (by omega) (by decide)]
theorem in_lt {p : Int32} {n : Nat} (hn : n ≤ 400) (q : ¬ p < 0) (q2 : ¬ nI n ≤ p) : p.toInt.toNat < n := by
  rw [xlt, show (0 : Int32).toInt = 0 from by decide] at q
  rw [xle, nI_toInt (by omega)] at q2
  omega
theorem o_row : zOp 28 := by
  intro i T S a hi h
  have h' := h
  obtain ⟨M, B, c, r, g, b0, b1⟩ := h'
  refine ⟨T, S, ?_, zId h⟩
  show xc (f_X9_row T S 0 (a 1)) (fun r1 S1 => xc (f_X10_row T S1 199 (a 1)) (fun r2 S2 => some (decide (r1 = r2), T, S2))) = _
  have cb := c.2.2.2.2.2.2.1
  have rb := r.2.2.2.2.2.2.1
  refine zX (c_row c.1 cb.1 cb.2.1) ?_
  rw [r_row c.1 cb.1 rb.1]
  by_cases q : a 1 < 0
  · rw [if_pos q, if_pos q]
  · rw [if_neg q, if_neg q]
    by_cases q2 : nI M.bn ≤ a 1
    · rw [if_pos q2, if_pos q2]
    · rw [if_neg q2, if_neg q2]
      have l := in_lt (by have := cb.1; omega) q q2
      rw [cb.2.2.2 _ l, rb.2.2 _ l]
theorem o_octet : zOp 43 := by
  intro i T S a hi h
  have h' := h
  obtain ⟨M, B, c, r, g, b0, b1⟩ := h'
  refine ⟨T, S, ?_, zId h⟩
  show xc (f_X9_octet T S 0 (a 1)) (fun r1 S1 => xc (f_X10_octet T S1 199 (a 1)) (fun r2 S2 => some (decide (r1 = r2), T, S2))) = _
  have cb := c.2.2.2.2.2.2.2
  have rb := r.2.2.2.2.2.2.2
  refine zX (c_octet c.1 cb.1 cb.2.1) ?_
  rw [r_octet c.1 cb.1 rb.1]
  by_cases q : a 1 < 0
  · rw [if_pos q, if_pos q]
  · rw [if_neg q, if_neg q]
    by_cases q2 : nI M.wn ≤ a 1
    · rw [if_pos q2, if_pos q2]
    · rw [if_neg q2, if_neg q2]
      have l := in_lt cb.1 q q2
      rw [cb.2.2 _ l, rb.2 _ l]
