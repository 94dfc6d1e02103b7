/-! the text of specials: one pure reader, and the class's things and sums -/
abbrev pSt : Type := (Nat → Nat → Int32) × Nat × Nat × (Nat → Int32)
/-- the sign here, or 0 -/
def tSn (tb : Nat → Int32) (L q : Nat) : Int32 := if tKd tb L q = 3 then tb (tPl tb L q) else 0
theorem tSn_i {c : Int32} (hc : c ≠ 0) (tb : Nat → Int32) (L q : Nat) : (tKd tb L q = 3 ∧ tb (tPl tb L q) = c) ↔ tSn tb L q = c := by
  unfold tSn
  by_cases k : tKd tb L q = 3
  · rw [if_pos k]; exact ⟨fun z => z.2, fun z => ⟨k, z⟩⟩
  · rw [if_neg k]; exact ⟨fun z => absurd z.1 k, fun z => absurd z.symm hc⟩
theorem tSn_3 {tb : Nat → Int32} {L q : Nat} (h : tSn tb L q ≠ 0) : tKd tb L q = 3 := by
  unfold tSn at h
  by_cases k : tKd tb L q = 3
  · exact k
  · rw [if_neg k] at h; exact absurd rfl h
/-- which thing is here, or -1 -/
def tTh (tb : Nat → Int32) (L q : Nat) : Int32 := if tKd tb L q = 2 then 0 else if tIw tb L q 4 = true then 1 else if tIw tb L q 5 = true then 2 else if tIw tb L q 6 = true then 3 else if tIw tb L q 7 = true then 4 else if tIw tb L q 8 = true then 5 else if tIw tb L q 9 = true then 6 else if tIw tb L q 10 = true then 7 else -1
/-- a thing: well, the next place, its kind and its value -/
def pTk (tb : Nat → Int32) (L q nt : Nat) : Bool × Nat × Int32 × Int32 := if tTh tb L q = -1 then (false, q, 0, 0) else if 40 ≤ nt then (false, q, 0, 0) else if tTh tb L q = 0 then (if tNm tb L q 0 999999 = -1 then (false, q, 0, 0) else (true, tNx tb L q, 0, tNm tb L q 0 999999)) else if tTh tb L q = 6 ∨ tTh tb L q = 7 then (if tPn tb L (tNx tb L q) = -1 then (false, tNx tb L q, 0, 0) else (true, tNx tb L (tNx tb L q), tTh tb L q, tPn tb L (tNx tb L q))) else (true, tNx tb L q, tTh tb L q, 0)
def xTh (X : Nat → Nat → Int32) (nt : Nat) (kd vl op : Int32) : Nat → Nat → Int32 := va_up (va_up (va_up (va_up X 7 (va_up (X 7) nt kd)) 8 (va_up (X 8) nt vl)) 9 (va_up (X 9) nt op)) 0 (va_up (X 0) 1 (nI (nt + 1)))
def sAd (st : pSt) (kd vl op : Int32) : pSt := (xTh st.1 st.2.1 kd vl op, st.2.1 + 1, st.2.2.1 + 1, va_up st.2.2.2 st.2.2.1 (encv kd vl))
def sOp (st : pSt) (op : Int32) : pSt := (st.1, st.2.1, st.2.2.1 + 1, va_up st.2.2.2 st.2.2.1 (3000000 + op))
def pPr (tb : Nat → Int32) (L : Nat) : Nat → Nat → pSt → Bool × Nat × pSt
  | 0, q, st => (false, q, st)
  | m + 1, q, st => if tSn tb L q = 42 ∨ tSn tb L q = 47 then (if (pTk tb L (tNx tb L q) st.2.1).1 = true then pPr tb L m (pTk tb L (tNx tb L q) st.2.1).2.1 (sOp (sAd st (pTk tb L (tNx tb L q) st.2.1).2.2.1 (pTk tb L (tNx tb L q) st.2.1).2.2.2 (tSn tb L q)) (tSn tb L q)) else (false, (pTk tb L (tNx tb L q) st.2.1).2.1, st)) else (true, q, st)
def pPd (tb : Nat → Int32) (L m q : Nat) (st : pSt) (op : Int32) : Bool × Nat × pSt := if (pTk tb L q st.2.1).1 = true then pPr tb L m (pTk tb L q st.2.1).2.1 (sAd st (pTk tb L q st.2.1).2.2.1 (pTk tb L q st.2.1).2.2.2 op) else (false, (pTk tb L q st.2.1).2.1, st)
def pSm (tb : Nat → Int32) (L : Nat) : Nat → Nat → pSt → Bool × Nat × pSt
  | 0, q, st => (false, q, st)
  | m + 1, q, st => if tSn tb L q = 43 ∨ tSn tb L q = 45 then (if (pPd tb L 41 (tNx tb L q) st (tSn tb L q)).1 = true then pSm tb L m (pPd tb L 41 (tNx tb L q) st (tSn tb L q)).2.1 (sOp (pPd tb L 41 (tNx tb L q) st (tSn tb L q)).2.2 (tSn tb L q)) else (false, (pPd tb L 41 (tNx tb L q) st (tSn tb L q)).2.1, (pPd tb L 41 (tNx tb L q) st (tSn tb L q)).2.2)) else (true, q, st)
def pSu (tb : Nat → Int32) (L q : Nat) (st : pSt) : Bool × Nat × pSt := if (pPd tb L 41 q st 43).1 = true then pSm tb L 41 (pPd tb L 41 q st 43).2.1 (pPd tb L 41 q st 43).2.2 else (false, (pPd tb L 41 q st 43).2.1, (pPd tb L 41 q st 43).2.2)
theorem pTk_r {tb : Nat → Int32} {L q nt : Nat} (hq : q ≤ L) : (pTk tb L q nt).2.1 ≤ L ∧ ((pTk tb L q nt).1 = true → nt < 40 ∧ vok (pTk tb L q nt).2.2.1 (pTk tb L q nt).2.2.2) := by
  have q1 := (tNx_r tb hq).2.1
  have q2 := (tNx_r tb q1).2.1
  unfold pTk
  by_cases a : tTh tb L q = -1
  · rw [if_pos a]; exact ⟨hq, fun z => (by cases z)⟩
  rw [if_neg a]
  by_cases b : 40 ≤ nt
  · rw [if_pos b]; exact ⟨hq, fun z => (by cases z)⟩
  rw [if_neg b]
  by_cases c : tTh tb L q = 0
  · rw [if_pos c]
    by_cases d : tNm tb L q 0 999999 = -1
    · rw [if_pos d]; exact ⟨hq, fun z => (by cases z)⟩
    · rw [if_neg d]
      obtain ⟨_, _, t3, t4⟩ := tNm_r d
      exact ⟨q1, fun _ => ⟨by omega, Or.inl ⟨rfl, t3, t4⟩⟩⟩
  rw [if_neg c]
  by_cases d : tTh tb L q = 6 ∨ tTh tb L q = 7
  · rw [if_pos d]
    by_cases e : tPn tb L (tNx tb L q) = -1
    · rw [if_pos e]; exact ⟨q1, fun z => (by cases z)⟩
    · rw [if_neg e]
      obtain ⟨p, hp, ep, _⟩ := tPn_r e
      exact ⟨q2, fun _ => ⟨by omega, Or.inr (Or.inr (Or.inr (Or.inr (Or.inr (Or.inr ⟨d, p, hp, ep⟩)))))⟩⟩
  · rw [if_neg d]
    refine ⟨q1, fun _ => ⟨by omega, ?_⟩⟩
    show vok (tTh tb L q) 0
    have : tTh tb L q = 1 ∨ tTh tb L q = 2 ∨ tTh tb L q = 3 ∨ tTh tb L q = 4 ∨ tTh tb L q = 5 := by
      revert a c d
      unfold tTh
      repeat' split
      all_goals intro a c d
      all_goals first | exact absurd rfl c | exact absurd rfl a | exact absurd (Or.inl rfl) d | exact absurd (Or.inr rfl) d | exact Or.inl rfl | exact Or.inr (Or.inl rfl) | exact Or.inr (Or.inr (Or.inl rfl)) | exact Or.inr (Or.inr (Or.inr (Or.inl rfl))) | exact Or.inr (Or.inr (Or.inr (Or.inr rfl)))
    rcases this with h | h | h | h | h
    · exact Or.inr (Or.inl h)
    · exact Or.inr (Or.inr (Or.inl h))
    · exact Or.inr (Or.inr (Or.inr (Or.inl h)))
    · exact Or.inr (Or.inr (Or.inr (Or.inr (Or.inl h))))
    · exact Or.inr (Or.inr (Or.inr (Or.inr (Or.inr (Or.inl h)))))
/-- the specials at sa, being read -/
def spB (S : xS) (sa : Nat) (X : Nat → Nat → Int32) : xS := (fun a => if sa ≤ a ∧ a ≤ sa + 9 then X (a - sa) else S.1 a, S.2.1, S.2.2)
theorem spB_at {S : xS} {sa i : Nat} {X : Nat → Nat → Int32} (hi : i ≤ 9) : (spB S sa X).1 (sa + i) = X i := by
  show (if sa ≤ sa + i ∧ sa + i ≤ sa + 9 then X (sa + i - sa) else S.1 (sa + i)) = X i
  rw [if_pos (by omega), Nat.add_sub_cancel_left]
theorem spB_0 {S : xS} {sa : Nat} {X : Nat → Nat → Int32} : (spB S sa X).1 sa = X 0 := spB_at (i := 0) (by omega)
theorem spB_out {S : xS} {sa a : Nat} {X : Nat → Nat → Int32} (h : a < sa ∨ sa + 9 < a) : (spB S sa X).1 a = S.1 a := by
  show (if sa ≤ a ∧ a ≤ sa + 9 then X (a - sa) else S.1 a) = S.1 a
  rw [if_neg (by omega)]
theorem spB_I {S : xS} {sa i k : Nat} {X : Nat → Nat → Int32} {v : Int32} (hi : i ≤ 9) : xI (spB S sa X) (sa + i) k v = spB S sa (va_up X i (va_up (X i) k v)) := by
  unfold xI spB xput
  refine Prod.ext (funext fun a => ?_) rfl
  show va_up (fun a => if sa ≤ a ∧ a ≤ sa + 9 then X (a - sa) else S.1 a) (sa + i) (va_up (if sa ≤ sa + i ∧ sa + i ≤ sa + 9 then X (sa + i - sa) else S.1 (sa + i)) k v) a = if sa ≤ a ∧ a ≤ sa + 9 then va_up X i (va_up (X i) k v) (a - sa) else S.1 a
  rw [if_pos (show sa ≤ sa + i ∧ sa + i ≤ sa + 9 by omega), Nat.add_sub_cancel_left]
  by_cases ha : a = sa + i
  · subst ha
    rw [xup_at, if_pos (by omega), Nat.add_sub_cancel_left, xup_at]
  · rw [va_up_ne _ _ ha]
    by_cases h2 : sa ≤ a ∧ a ≤ sa + 9
    · rw [if_pos h2, if_pos h2, va_up_ne _ _ (by omega)]
    · rw [if_neg h2, if_neg h2]
theorem spB_h {T : xT} {S : xS} {tb : Nat → Int32} {L sa : Nat} {X : Nat → Nat → Int32} (si : xSi T S.2.2 sa) (h : cTb T S tb L) : cTb T (spB S sa X) tb L := by
  have := si.1
  exact ⟨h.1, h.2.1, fun k hk => by rw [spB_out (by omega)]; exact h.2.2 k hk⟩
theorem spI {S : xS} {sa i k : Nat} {X : Nat → Nat → Int32} {g : Nat → Int32} {v : Int32} (h1 : 1 < sa) (hi : i ≤ 9) : xI (xw (spB S sa X) 1 g) (sa + i) k v = xw (spB S sa (va_up X i (va_up (X i) k v))) 1 g := by
  rw [xI_w1 (by omega), spB_I hi]
theorem spI0 {S : xS} {sa k : Nat} {X : Nat → Nat → Int32} {g : Nat → Int32} {v : Int32} (h1 : 1 < sa) : xI (xw (spB S sa X) 1 g) sa k v = xw (spB S sa (va_up X 0 (va_up (X 0) k v))) 1 g := spI (i := 0) h1 (by omega)
theorem sp_rd {S : xS} {sa i : Nat} {X : Nat → Nat → Int32} {g : Nat → Int32} (h1 : 1 < sa) (hi : i ≤ 9) : (xw (spB S sa X) 1 g).1 (sa + i) = X i := by rw [xw_ne _ _ (by omega), spB_at hi]
theorem sp_r0 {S : xS} {sa : Nat} {X : Nat → Nat → Int32} {g : Nat → Int32} (h1 : 1 < sa) : (xw (spB S sa X) 1 g).1 sa = X 0 := by rw [xw_ne _ _ (by omega), spB_0]
theorem c_thingHere {T : xT} {S : xS} {tb : Nat → Int32} {L q : Nat} (h : cTb T S tb L) (hq : q ≤ L) {g : Nat → Int32} (hg : cTk tb L q g) : f_X4_thingHere T (xw S 1 g) 1 = some (tTh tb L q, xw S 1 g) := by
  unfold f_X4_thingHere f_X3_isNumber tTh
  rw [xw_1, hg.2.2.2.1]
  by_cases a : tKd tb L q = 2
  · rw [if_pos a, if_pos a, xc_e, if_neg (show ¬ (1 : Int32) = 0 by decide)]
  rw [if_neg a, if_neg a, xc_e, if_pos rfl, c_isWord (i := 4) h hq (by decide) hg, xc_e, if01, c_isWord (i := 5) h hq (by decide) hg, xc_e, if01, c_isWord (i := 6) h hq (by decide) hg, xc_e, if01, c_isWord (i := 7) h hq (by decide) hg, xc_e, if01, c_isWord (i := 8) h hq (by decide) hg, xc_e, if01, c_isWord (i := 9) h hq (by decide) hg, xc_e, if01, c_isWord (i := 10) h hq (by decide) hg, xc_e, if01]
  generalize tIw tb L q 4 = b0
  generalize tIw tb L q 5 = b1
  generalize tIw tb L q 6 = b2
  generalize tIw tb L q 7 = b3
  generalize tIw tb L q 8 = b4
  generalize tIw tb L q 9 = b5
  generalize tIw tb L q 10 = b6
  cases b0 <;> try rfl
  cases b1 <;> try rfl
  cases b2 <;> try rfl
  cases b3 <;> try rfl
  cases b4 <;> try rfl
  cases b5 <;> try rfl
  cases b6 <;> rfl
def isOp (c : Int32) : Prop := c = 43 ∨ c = 45 ∨ c = 42 ∨ c = 47
theorem op_nar {c : Int32} (h : isOp c) : vp_nar .char c = c := by
  rcases h with h | h | h | h <;> subst h <;> decide
theorem c_thing65 {T : xT} {S : xS} {L sa nt : Nat} {X : Nat → Nat → Int32} {g : Nat → Int32} {op kd vl : Int32} (si : xSi T S.2.2 sa) (ho : isOp op) (hn : nt < 40) (hX : X 0 1 = nI nt) (hv : vl ≠ -1) : f_X4_readThing_65 T (xw (spB S sa X) 1 g) sa op kd vl = some (1, xw (spB S sa (xTh X nt kd vl op)) 1 g) := by
  have h1 : 1 < sa := by have := si.1; omega
  have l7 : T.2.1 (sa + 7) = 40 := si.2.2.2.1.2.2.2.2.2.2.1
  have l8 : T.2.1 (sa + 8) = 40 := si.2.2.2.1.2.2.2.2.2.2.2.1
  have l9 : T.2.1 (sa + 9) = 40 := si.2.2.2.1.2.2.2.2.2.2.2.2
  unfold f_X4_readThing_65
  rw [if_neg hv, sg_8 (S := xw (spB S sa X) 1 g) si, sp_r0 h1, hX, xst_n l7 hn (by decide), spI h1 (by omega), sg_9 (S := xw (spB S sa _) 1 g) si, sp_r0 h1, va_up_ne _ _ (show (0 : Nat) ≠ 7 by decide), hX, xst_n l8 hn (by decide), spI h1 (by omega), sg_10 (S := xw (spB S sa _) 1 g) si, sp_r0 h1, va_up_ne _ _ (show (0 : Nat) ≠ 8 by decide), va_up_ne _ _ (show (0 : Nat) ≠ 7 by decide), hX, xst_n l9 hn (by decide), spI h1 (by omega), xpi_e, sp_r0 h1, va_up_ne _ _ (show (0 : Nat) ≠ 9 by decide), va_up_ne _ _ (show (0 : Nat) ≠ 8 by decide), va_up_ne _ _ (show (0 : Nat) ≠ 7 by decide), hX, nI_1, spI0 h1, op_nar ho]
  rw [va_up_ne _ _ (show (8 : Nat) ≠ 7 by decide), va_up_ne _ _ (show (9 : Nat) ≠ 8 by decide), va_up_ne _ _ (show (9 : Nat) ≠ 7 by decide), va_up_ne _ _ (show (0 : Nat) ≠ 9 by decide), va_up_ne _ _ (show (0 : Nat) ≠ 8 by decide), va_up_ne _ _ (show (0 : Nat) ≠ 7 by decide)]
  rfl
theorem c_thing {T : xT} {S : xS} {tb : Nat → Int32} {L q sa nt : Nat} {X : Nat → Nat → Int32} {g : Nat → Int32} {op : Int32} (h : cTb T S tb L) (si : xSi T S.2.2 sa) (hq : q ≤ L) (hg : cTk tb L q g) (ho : isOp op) (hn : nt ≤ 40) (hX : X 0 1 = nI nt) : ∃ g', f_X4_readThing T (xw (spB S sa X) 1 g) sa 1 op = some (b2 (pTk tb L q nt).1, xw (spB S sa (if (pTk tb L q nt).1 = true then xTh X nt (pTk tb L q nt).2.2.1 (pTk tb L q nt).2.2.2 op else X)) 1 g') ∧ cAf tb L (pTk tb L q nt).1 (pTk tb L q nt).2.1 (g 2) g' := by
  have h1 : 1 < sa := by have := si.1; omega
  have hb := spB_h (X := X) si h
  have q1 := (tNx_r tb hq).2.1
  unfold f_X4_readThing pTk
  rw [c_thingHere hb hq hg, xc_e, xl_e]
  by_cases a : tTh tb L q = -1
  · rw [if_pos a, c_refuse hg, xc_e, xgd_h (by decide)]
    simp only [if_pos a]
    exact ⟨_, rfl, c_afF (xup_at _ _ _)⟩
  rw [if_neg a, sp_r0 h1, hX]
  simp only [if_neg a]
  by_cases b : 40 ≤ nt
  · rw [if_neg (show ¬ nI nt < (40 : Int32) from nI_nlt (a := nt) (b := 40) b (by omega)), c_refuse hg, xc_e, xgd_h (by decide)]
    simp only [if_pos b]
    exact ⟨_, rfl, c_afF (xup_at _ _ _)⟩
  rw [if_pos (show nI nt < (40 : Int32) from nI_lt (a := nt) (b := 40) (by omega) (by decide)), xl_e]
  simp only [if_neg b]
  by_cases c : tTh tb L q = 0
  · rw [if_pos c]
    simp only [if_pos c]
    obtain ⟨g1, e1, k1⟩ := c_needNumber hb hq hg (lo := 0) (hi := 999999) (by decide)
    rw [e1, xc_e, xl_e]
    by_cases d : tNm tb L q 0 999999 = -1
    · simp only [if_pos d]
      rw [show (decide (tNm tb L q 0 999999 ≠ -1)) = false from decide_eq_false (fun z => z d), if_neg (fun z => z d)] at k1
      unfold f_X4_readThing_65
      rw [if_pos d]
      exact ⟨g1, rfl, k1⟩
    · simp only [if_neg d]
      rw [show (decide (tNm tb L q 0 999999 ≠ -1)) = true from decide_eq_true d, if_pos d] at k1
      rw [c_thing65 (L := L) si ho (by omega) hX d, c]
      exact ⟨g1, rfl, k1⟩
  rw [if_neg c]
  simp only [if_neg c]
  obtain ⟨g1, e1, k1, z1⟩ := c_next hb hq hg
  rw [e1, xcv_e]
  have part : ∃ g', xc (f_X3_needPartner T (xw (spB S sa X) 1 g1) 1) (fun r9 S8 => xl r9 (fun v10 => f_X4_readThing_65 T S8 sa op (tTh tb L q) v10)) = some (b2 (if tPn tb L (tNx tb L q) = -1 then (false, tNx tb L q, 0, 0) else (true, tNx tb L (tNx tb L q), tTh tb L q, tPn tb L (tNx tb L q)) : Bool × Nat × Int32 × Int32).1, xw (spB S sa (if (if tPn tb L (tNx tb L q) = -1 then (false, tNx tb L q, 0, 0) else (true, tNx tb L (tNx tb L q), tTh tb L q, tPn tb L (tNx tb L q)) : Bool × Nat × Int32 × Int32).1 = true then xTh X nt (if tPn tb L (tNx tb L q) = -1 then (false, tNx tb L q, 0, 0) else (true, tNx tb L (tNx tb L q), tTh tb L q, tPn tb L (tNx tb L q)) : Bool × Nat × Int32 × Int32).2.2.1 (if tPn tb L (tNx tb L q) = -1 then (false, tNx tb L q, 0, 0) else (true, tNx tb L (tNx tb L q), tTh tb L q, tPn tb L (tNx tb L q)) : Bool × Nat × Int32 × Int32).2.2.2 op else X)) 1 g') ∧ cAf tb L (if tPn tb L (tNx tb L q) = -1 then (false, tNx tb L q, 0, 0) else (true, tNx tb L (tNx tb L q), tTh tb L q, tPn tb L (tNx tb L q)) : Bool × Nat × Int32 × Int32).1 (if tPn tb L (tNx tb L q) = -1 then (false, tNx tb L q, 0, 0) else (true, tNx tb L (tNx tb L q), tTh tb L q, tPn tb L (tNx tb L q)) : Bool × Nat × Int32 × Int32).2.1 (g 2) g' := by
    obtain ⟨g2, e2, k2⟩ := c_needPartner hb q1 k1
    rw [e2, xc_e, xl_e]
    rw [z1] at k2
    by_cases d : tPn tb L (tNx tb L q) = -1
    · simp only [if_pos d]
      rw [show (decide (tPn tb L (tNx tb L q) ≠ -1)) = false from decide_eq_false (fun z => z d), if_neg (fun z => z d)] at k2
      unfold f_X4_readThing_65
      rw [if_pos d]
      exact ⟨g2, rfl, k2⟩
    · simp only [if_neg d]
      rw [show (decide (tPn tb L (tNx tb L q) ≠ -1)) = true from decide_eq_true d, if_pos d] at k2
      rw [c_thing65 (L := L) si ho (by omega) hX d]
      exact ⟨g2, rfl, k2⟩
  by_cases d6 : tTh tb L q = 6
  · rw [if_pos d6]
    simp only [if_pos (show tTh tb L q = 6 ∨ tTh tb L q = 7 from Or.inl d6)]
    exact part
  rw [if_neg d6]
  by_cases d7 : tTh tb L q = 7
  · rw [if_pos d7]
    simp only [if_pos (show tTh tb L q = 6 ∨ tTh tb L q = 7 from Or.inr d7)]
    exact part
  rw [if_neg d7]
  simp only [if_neg (show ¬ (tTh tb L q = 6 ∨ tTh tb L q = 7) from fun z => z.elim d6 d7)]
  rw [c_thing65 (L := L) si ho (by omega) hX (by decide)]
  exact ⟨g1, rfl, c_afT k1 z1⟩
