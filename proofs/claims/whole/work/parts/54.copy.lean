/-! states are copied -/
theorem xI_xw {S : xS} {a k : Nat} {g : Nat → Int32} {v : Int32} : xI (xw S a g) a k v = xw S a (va_up g k v) := by rw [xI_w, xw_1, xw_w]
theorem up_ne {f : Nat → Int32} {k j : Nat} {v : Int32} (h : j ≠ k) : va_up f k v j = f j := va_up_ne _ _ h
theorem xpr_e {α : Type} (S : xS) (a k j : Nat) (K : xS → Option α) : xpr S a k j K = K (xR S a k (some j)) := rfl
def xBk (T : xT) (r : Nat → Nat → Option Nat) (b : Nat) : Prop := b + 8 < T.2.2 ∧ T.1 b = 1 ∧ (∀ j, 1 ≤ j → j ≤ 8 → T.1 (b + j) = 20 ∧ T.2.1 (b + j) = 8) ∧ ∀ j, j < 8 → r b (6 + j) = some (b + (j + 1))
def xSk (T : xT) (r : Nat → Nat → Option Nat) (t : Nat) : Prop := t + 1 < T.2.2 ∧ T.1 t = 7 ∧ (T.1 (t + 1) = 20 ∧ T.2.1 (t + 1) = 56) ∧ r t 2 = some (t + 1)
def xSt (T : xT) (r : Nat → Nat → Option Nat) (q b t : Nat) : Prop := (q < T.2.2 ∧ T.1 q = 5) ∧ xBk T r b ∧ xSk T r t ∧ r q 0 = some b ∧ r q 1 = some t
def cpA (m : Nat) (S : xS) (b b' : Nat) : xS := (fun a => if b < a ∧ a ≤ b + m then x8 (S.1 (b' + (a - b))) (S.1 a) else S.1 a, S.2.1, S.2.2)
theorem xBk_ne {T : xT} {r : Nat → Nat → Option Nat} {b b' : Nat} (h : xBk T r b) (h' : xBk T r b') (hn : b ≠ b') : b + 8 < b' ∨ b' + 8 < b := by
  rcases Nat.lt_or_ge b b' with q | q
  · left
    refine Classical.byContradiction fun z => ?_
    have := (h.2.2.1 (b' - b) (by omega) (by omega)).1
    rw [show b + (b' - b) = b' by omega, h'.2.1] at this
    exact absurd this (by decide)
  · right
    refine Classical.byContradiction fun z => ?_
    have := (h'.2.2.1 (b - b') (by omega) (by omega)).1
    rw [show b' + (b - b') = b by omega, h.2.1] at this
    exact absurd this (by decide)
theorem g_cp8A {T : xT} {S : xS} {b b' m : Nat} (h : xBk T S.2.2 b) (h' : xBk T S.2.2 b') (hn : b ≠ b') (hm : m < 8) : f_X9_copyEight T (cpA m S b b') (b' + (m + 1)) (b + (m + 1)) = some (cpA (m + 1) S b b') := by
  have hd := xBk_ne h h' hn
  unfold f_X9_copyEight xcp
  have l1 := (h.2.2.1 (m + 1) (by omega) (by omega)).2
  have l2 := (h'.2.2.1 (m + 1) (by omega) (by omega)).2
  have hk : xcok T (b' + (m + 1)) 0 (b + (m + 1)) 0 8 = true := by
    unfold xcok
    rw [l1, l2]; decide
  rw [if_pos hk]
  congr 1
  unfold xcpy cpA
  congr 1
  funext a
  by_cases ha : a = b + (m + 1)
  · subst ha
    rw [xup_at]
    show va_cpy (if b < b' + (m + 1) ∧ b' + (m + 1) ≤ b + m then _ else S.1 (b' + (m + 1))) (if b < b + (m + 1) ∧ b + (m + 1) ≤ b + m then _ else S.1 (b + (m + 1))) 0 0 8 = if b < b + (m + 1) ∧ b + (m + 1) ≤ b + (m + 1) then x8 (S.1 (b' + (b + (m + 1) - b))) (S.1 (b + (m + 1))) else S.1 (b + (m + 1))
    rw [if_neg (by omega), if_neg (by omega), if_pos (by omega), Nat.add_sub_cancel_left]
    funext k
    unfold va_cpy x8
    by_cases hk : k < 8
    · rw [if_pos (by omega), if_pos hk, Nat.zero_add, Nat.sub_zero]
    · rw [if_neg (by omega), if_neg hk]
  · rw [va_up_ne _ _ ha]
    show (if b < a ∧ a ≤ b + m then x8 (S.1 (b' + (a - b))) (S.1 a) else S.1 a) = if b < a ∧ a ≤ b + (m + 1) then x8 (S.1 (b' + (a - b))) (S.1 a) else S.1 a
    by_cases h1 : b < a ∧ a ≤ b + m
    · rw [if_pos h1, if_pos (by omega)]
    · rw [if_neg h1, if_neg (by omega)]
theorem xgr_bk {α : Type} {T : xT} {S : xS} {b j : Nat} {K : Nat → Option α} (h : xBk T S.2.2 b) (hj : j < 8) : xgr T S b (6 + j) 20 K = K (b + (j + 1)) := xgr_mk (h.2.2.2 j hj) (by have := h.1; omega) ((h.2.2.1 (j + 1) (by omega) (by omega)).1)
theorem xgr_b6 {α : Type} {T : xT} {S : xS} {b : Nat} {K : Nat → Option α} (h : xBk T S.2.2 b) : xgr T S b 6 20 K = K (b + 1) := xgr_bk (j := 0) h (by decide)
theorem xgr_b7 {α : Type} {T : xT} {S : xS} {b : Nat} {K : Nat → Option α} (h : xBk T S.2.2 b) : xgr T S b 7 20 K = K (b + 2) := xgr_bk (j := 1) h (by decide)
theorem xgr_b8 {α : Type} {T : xT} {S : xS} {b : Nat} {K : Nat → Option α} (h : xBk T S.2.2 b) : xgr T S b 8 20 K = K (b + 3) := xgr_bk (j := 2) h (by decide)
theorem xgr_b9 {α : Type} {T : xT} {S : xS} {b : Nat} {K : Nat → Option α} (h : xBk T S.2.2 b) : xgr T S b 9 20 K = K (b + 4) := xgr_bk (j := 3) h (by decide)
theorem xgr_b10 {α : Type} {T : xT} {S : xS} {b : Nat} {K : Nat → Option α} (h : xBk T S.2.2 b) : xgr T S b 10 20 K = K (b + 5) := xgr_bk (j := 4) h (by decide)
theorem xgr_b11 {α : Type} {T : xT} {S : xS} {b : Nat} {K : Nat → Option α} (h : xBk T S.2.2 b) : xgr T S b 11 20 K = K (b + 6) := xgr_bk (j := 5) h (by decide)
theorem xgr_b12 {α : Type} {T : xT} {S : xS} {b : Nat} {K : Nat → Option α} (h : xBk T S.2.2 b) : xgr T S b 12 20 K = K (b + 7) := xgr_bk (j := 6) h (by decide)
theorem xgr_b13 {α : Type} {T : xT} {S : xS} {b : Nat} {K : Nat → Option α} (h : xBk T S.2.2 b) : xgr T S b 13 20 K = K (b + 8) := xgr_bk (j := 7) h (by decide)
/-- six scalars of b' over those of b -/
def c06 (S : xS) (b b' : Nat) : xS := xw S b (x06 (S.1 b' 0) (S.1 b' 1) (S.1 b' 2) (S.1 b' 3) (S.1 b' 4) (S.1 b' 5) (S.1 b))
theorem g_cpBooks {T : xT} {S : xS} {b b' : Nat} (h : xBk T S.2.2 b) (h' : xBk T S.2.2 b') (hn : b ≠ b') : f_X1_copyBooks T S b b' = some (cpA 8 (c06 S b b') b b') := by
  unfold f_X1_copyBooks
  have e0 : xI (xI (xI (xI (xI (xI S b 0 (S.1 b' 0)) b 1 (S.1 b' 1)) b 2 (S.1 b' 2)) b 3 (S.1 b' 3)) b 4 (S.1 b' 4)) b 5 (S.1 b' 5) = c06 S b b' := by
    rw [xI_w S b 0, xI_xw, xI_xw, xI_xw, xI_xw, xI_xw]
    unfold c06
    congr 1
    funext k
    rcases k with _ | _ | _ | _ | _ | _ | k <;> simp [va_up, x06]
  have hb : ∀ (S' : xS) (k : Nat) (v : Int32), (xI S' b k v).1 b' = S'.1 b' := fun S' k v => xI_ne (fun z => hn z.symm)
  rw [xpi_e, xpi_e, xpi_e, xpi_e, xpi_e, xpi_e]
  simp only [hb]
  rw [e0]
  have ha : c06 S b b' = cpA 0 (c06 S b b') b b' := by
    unfold cpA
    refine Prod.ext (funext fun a => ?_) rfl
    show _ = if b < a ∧ a ≤ b + 0 then _ else _
    rw [if_neg (by omega)]
  have k : ∀ m, xBk T (cpA m (c06 S b b') b b').2.2 b := fun m => h
  have k' : ∀ m, xBk T (cpA m (c06 S b b') b b').2.2 b' := fun m => h'
  have p : ∀ m, m < 8 → f_X9_copyEight T (cpA m (c06 S b b') b b') (b' + (m + 1)) (b + (m + 1)) = some (cpA (m + 1) (c06 S b b') b b') := fun m hm => g_cp8A (S := c06 S b b') h h' hn hm
  generalize hR : some (cpA 8 (c06 S b b') b b') = R
  rw [ha]
  rw [xgr_b6 (k' 0), xgr_b6 (k 0), show f_X9_copyEight T (cpA 0 (c06 S b b') b b') (b' + 1) (b + 1) = some (cpA 1 (c06 S b b') b b') from p 0 (by decide), xcv_e]
  rw [xgr_b7 (k' 1), xgr_b7 (k 1), show f_X9_copyEight T (cpA 1 (c06 S b b') b b') (b' + 2) (b + 2) = some (cpA 2 (c06 S b b') b b') from p 1 (by decide), xcv_e]
  rw [xgr_b8 (k' 2), xgr_b8 (k 2), show f_X9_copyEight T (cpA 2 (c06 S b b') b b') (b' + 3) (b + 3) = some (cpA 3 (c06 S b b') b b') from p 2 (by decide), xcv_e]
  rw [xgr_b9 (k' 3), xgr_b9 (k 3), show f_X9_copyEight T (cpA 3 (c06 S b b') b b') (b' + 4) (b + 4) = some (cpA 4 (c06 S b b') b b') from p 3 (by decide), xcv_e]
  rw [xgr_b10 (k' 4), xgr_b10 (k 4), show f_X9_copyEight T (cpA 4 (c06 S b b') b b') (b' + 5) (b + 5) = some (cpA 5 (c06 S b b') b b') from p 4 (by decide), xcv_e]
  rw [xgr_b11 (k' 5), xgr_b11 (k 5), show f_X9_copyEight T (cpA 5 (c06 S b b') b b') (b' + 6) (b + 6) = some (cpA 6 (c06 S b b') b b') from p 5 (by decide), xcv_e]
  rw [xgr_b12 (k' 6), xgr_b12 (k 6), show f_X9_copyEight T (cpA 6 (c06 S b b') b b') (b' + 7) (b + 7) = some (cpA 7 (c06 S b b') b b') from p 6 (by decide), xcv_e]
  rw [xgr_b13 (k' 7), xgr_b13 (k 7), show f_X9_copyEight T (cpA 7 (c06 S b b') b b') (b' + 8) (b + 8) = some (cpA 8 (c06 S b b') b b') from p 7 (by decide), xcv_e]
  exact hR
theorem xSk_ne {T : xT} {r : Nat → Nat → Option Nat} {t t' : Nat} (h : xSk T r t) (h' : xSk T r t') (hn : t ≠ t') : t' ≠ t + 1 ∧ t ≠ t' + 1 := by
  refine ⟨fun z => ?_, fun z => ?_⟩
  · have := h.2.2.1.1
    rw [← z, h'.2.1] at this
    exact absurd this (by decide)
  · have := h'.2.2.1.1
    rw [← z, h.2.1] at this
    exact absurd this (by decide)
def cpS (S : xS) (t t' : Nat) : xS := xw (xw S t (x01 (S.1 t' 0) (S.1 t' 1) (S.1 t))) (t + 1) (x56 (S.1 (t' + 1)) (S.1 (t + 1)))
theorem g_cpSteps {T : xT} {S : xS} {t t' : Nat} (h : xSk T S.2.2 t) (h' : xSk T S.2.2 t') (hn : t ≠ t') (hz : xnz (S.1 t' 0) = true) : f_X7_copySteps T S t t' = some (cpS S t t') := by
  have hd := xSk_ne h h' hn
  unfold f_X7_copySteps
  have hb : ∀ (S' : xS) (k : Nat) (v : Int32), (xI S' t k v).1 t' = S'.1 t' := fun S' k v => xI_ne (fun z => hn z.symm)
  rw [xgd_h hz, xpi_e, xpi_e, hb]
  have e0 : xI (xI S t 0 (S.1 t' 0)) t 1 (S.1 t' 1) = xw S t (x01 (S.1 t' 0) (S.1 t' 1) (S.1 t)) := by
    rw [xI_w S t 0, xI_xw]
    congr 1
    funext k
    rcases k with _ | _ | k <;> simp [va_up, x01]
  rw [e0, xgr_mk (S := xw S t _) h'.2.2.2 h'.1 h'.2.2.1.1, xgr_mk (S := xw S t _) h.2.2.2 h.1 h.2.2.1.1, xgr_mk (S := xw S t _) h.2.2.2 h.1 h.2.2.1.1, h.2.2.1.2]
  unfold xcp
  have hk : xcok T (t' + 1) 0 (t + 1) 0 (Int32.ofNat 56) = true := by
    unfold xcok
    rw [h.2.2.1.2, h'.2.2.1.2]; decide
  rw [if_pos hk]
  congr 1
  unfold xcpy cpS xw
  congr 1
  funext a
  by_cases ha : a = t + 1
  · subst ha
    rw [xup_at, xup_at]
    show va_cpy (va_up S.1 t _ (t' + 1)) (va_up S.1 t _ (t + 1)) 0 0 56 = x56 (S.1 (t' + 1)) (S.1 (t + 1))
    rw [va_up_ne _ _ (by omega), va_up_ne _ _ (by omega)]
    funext k
    unfold va_cpy x56
    by_cases hk : k < 56
    · rw [if_pos (by omega), if_pos hk, Nat.zero_add, Nat.sub_zero]
    · rw [if_neg (by omega), if_neg hk]
  · rw [va_up_ne _ _ ha, va_up_ne _ _ ha]
/-- all of a state at (q, b, t) becomes that of (b', t', ta, sa) -/
def stC (S : xS) (q b t b' t' ta sa : Nat) : xS := ((cpS (cpA 8 (c06 S b b') b b') t t').1, S.2.1, va_up S.2.2 q (va_up (va_up (S.2.2 q) 2 (some ta)) 3 (some sa)))
theorem g_copy {T : xT} {S : xS} {q b t q' b' t' ta sa : Nat} (h : xSt T S.2.2 q b t) (h' : xSt T S.2.2 q' b' t') (hn : b ≠ b') (hn2 : t ≠ t') (hq : q' ≠ q) (h2 : S.2.2 q' 2 = some ta) (kta : xlk T ta 8 = true) (h3 : S.2.2 q' 3 = some sa) (ksa : xlk T sa 4 = true) (hz : xnz (S.1 t' 0) = true) (hbt : t' < b ∨ b + 8 < t') : f_X5_copyState T S q q' = some (stC S q b t b' t' ta sa) := by
  obtain ⟨⟨a1, a2⟩, a3, a4, a5, a6⟩ := h
  obtain ⟨⟨c1, c2⟩, c3, c4, c5, c6⟩ := h'
  unfold f_X5_copyState
  rw [xgr_mk a5 (by have := a3.1; omega) a3.2.1, xgr_mk c5 (by have := c3.1; omega) c3.2.1, g_cpBooks a3 c3 hn, xcv_e, xgr_mk (S := cpA 8 (c06 S b b') b b') a6 (by have := a4.1; omega) a4.2.1, xgr_mk (S := cpA 8 (c06 S b b') b b') c6 (by have := c4.1; omega) c4.2.1]
  have hz2 : xnz ((cpA 8 (c06 S b b') b b').1 t' 0) = true := by
    show xnz ((if b < t' ∧ t' ≤ b + 8 then x8 ((c06 S b b').1 (b' + (t' - b))) ((c06 S b b').1 t') else (c06 S b b').1 t') 0) = true
    rw [if_neg (by omega)]
    unfold c06
    rw [xw_ne _ _ (by omega)]
    exact hz
  rw [g_cpSteps (S := cpA 8 (c06 S b b') b b') a4 c4 hn2 hz2, xcv_e, xgr_mk (S := cpS (cpA 8 (c06 S b b') b b') t t') h2 (xlk_lt kta) (xlk_k kta)]
  rw [xpr_e]
  have h3' : (xR (cpS (cpA 8 (c06 S b b') b b') t t') q 2 (some ta)).2.2 q' 3 = some sa := by
    show xput S.2.2 q 2 (some ta) q' 3 = some sa
    rw [xput_ne _ _ _ hq]; exact h3
  rw [xgr_mk h3' (xlk_lt ksa) (xlk_k ksa), xpr_e]
  congr 1
  unfold xR stC xput
  refine Prod.ext rfl (Prod.ext rfl ?_)
  show va_up (va_up S.2.2 q (va_up (S.2.2 q) 2 (some ta))) q (va_up (va_up S.2.2 q (va_up (S.2.2 q) 2 (some ta)) q) 3 (some sa)) = _
  rw [xup_up, xup_at]
/-! views: all numbers of a state -/
def clV (S : xS) (b t : Nat) (F : Nat → Nat → Int32) : Prop := (∀ k, k < 6 → S.1 b k = F 0 k) ∧ (∀ j, 1 ≤ j → j ≤ 8 → ∀ k, k < 8 → S.1 (b + j) k = F j k) ∧ (∀ k, k < 2 → S.1 t k = F 9 k) ∧ ∀ k, k < 56 → S.1 (t + 1) k = F 10 k
theorem stC_out {S : xS} {q b t b' t' ta sa a : Nat} (h1 : a < b ∨ b + 8 < a) (h2 : a ≠ t) (h3 : a ≠ t + 1) : (stC S q b t b' t' ta sa).1 a = S.1 a := by
  show (cpS (cpA 8 (c06 S b b') b b') t t').1 a = _
  unfold cpS
  rw [xw_ne _ _ h3, xw_ne _ _ h2]
  show (if b < a ∧ a ≤ b + 8 then _ else (c06 S b b').1 a) = _
  rw [if_neg (by omega)]
  unfold c06
  rw [xw_ne _ _ (by omega)]
theorem stC_V {T : xT} {S : xS} {q b t b' t' ta sa : Nat} {F : Nat → Nat → Int32} (hb : xBk T S.2.2 b) (hb' : xBk T S.2.2 b') (ht : xSk T S.2.2 t) (ht' : xSk T S.2.2 t') (hn : b ≠ b') (hn2 : t ≠ t') (hbt : t' < b ∨ b + 8 < t') (htb : t + 1 < b ∨ b + 8 < t) (ht1 : t' + 1 < b ∨ b + 8 < t' + 1) (h : clV S b' t' F) : clV (stC S q b t b' t' ta sa) b t F := by
  have hd := xBk_ne hb hb' hn
  have hd2 := xSk_ne ht ht' hn2
  obtain ⟨v1, v2, v3, v4⟩ := h
  have e : ∀ a, (stC S q b t b' t' ta sa).1 a = (cpS (cpA 8 (c06 S b b') b b') t t').1 a := fun _ => rfl
  have c0 : ∀ a, a ≠ b → (c06 S b b').1 a = S.1 a := fun a ha => by unfold c06; rw [xw_ne _ _ ha]
  have ca : ∀ a, (cpA 8 (c06 S b b') b b').1 a = if b < a ∧ a ≤ b + 8 then x8 ((c06 S b b').1 (b' + (a - b))) ((c06 S b b').1 a) else (c06 S b b').1 a := fun _ => rfl
  refine ⟨fun k hk => ?_, fun j h1 h2 k hk => ?_, fun k hk => ?_, fun k hk => ?_⟩
  · rw [e]
    unfold cpS
    rw [xw_ne _ _ (by omega), xw_ne _ _ (by omega), ca, if_neg (by omega)]
    unfold c06
    rw [xw_1, ← v1 k hk]
    rcases k with _ | _ | _ | _ | _ | _ | k
    · rfl
    · rfl
    · rfl
    · rfl
    · rfl
    · rfl
    · omega
  · rw [e]
    unfold cpS
    rw [xw_ne _ _ (by omega), xw_ne _ _ (by omega), ca, if_pos (by omega), x8_at hk, Nat.add_sub_cancel_left, c0 _ (by omega)]
    exact v2 j h1 h2 k hk
  · rw [e]
    unfold cpS
    rw [xw_ne _ _ (by omega), xw_1, ca, if_neg (by omega), c0 _ (by omega), ← v3 k hk]
    rcases k with _ | _ | k
    · rfl
    · rfl
    · omega
  · rw [e]
    unfold cpS
    rw [xw_1, x56_at hk, ca, if_neg (by omega), c0 _ (by omega)]
    exact v4 k hk
/-! rows of the reference -/
def cpR (S : xS) (i j m : Nat) : xS := xw S 200 (fun k => if 366 * j ≤ k ∧ k < 366 * j + m then S.1 200 (366 * i + (k - 366 * j)) else S.1 200 k)
theorem ix366 (i k : Nat) : (366 : Int32) * nI i + nI k = nI (366 * i + k) := by
  rw [show (366 : Int32) * nI i = nI (366 * i) from pk_mul 366 i, nI_add]
theorem L_copyRow {T : xT} {S : xS} {i j : Nat} (tp : xTp T S.2.2) (hi : i < 16) (hj : j < 16) (hij : i ≠ j) : ∀ (m n k : Nat), k + m = 366 → m < n → f_X10_copyRow_2 T n (cpR S i j k) 199 (nI i) (nI j) (nI k) = some (cpR S i j 366) := by
  have hl : T.2.1 200 = 5856 := xTp_n tp 5856 (by decide) rfl
  intro m
  induction m with
  | zero =>
    intro n k hk hn
    obtain ⟨n, rfl⟩ : ∃ n', n = n' + 1 := ⟨n - 1, by omega⟩
    obtain rfl : k = 366 := by omega
    unfold f_X10_copyRow_2
    rw [if_pos (by decide)]
  | succ m ih =>
    intro n k hk hn
    obtain ⟨n, rfl⟩ : ∃ n', n = n' + 1 := ⟨n - 1, by omega⟩
    unfold f_X10_copyRow_2
    have hc : ¬ (366 : Int32) ≤ nI k := nI_ge (a := k) (b := 366) (by omega) (by decide)
    rw [if_neg hc, rr_199_0 (S := cpR S i j k) tp, rr_199_0 (S := cpR S i j k) tp, ix366, ix366, xai_n hl (by omega) (by decide), xst_n hl (by omega) (by decide), xl_e, nI_1]
    have e : xI (cpR S i j k) 200 (366 * j + k) ((cpR S i j k).1 200 (366 * i + k)) = cpR S i j (k + 1) := by
      unfold cpR
      rw [xI_xw, xw_1]
      congr 1
      funext x
      by_cases hx : x = 366 * j + k
      · subst hx
        rw [xup_at, if_neg (by omega), if_pos (by omega), Nat.add_sub_cancel_left]
      · rw [va_up_ne _ _ hx]
        by_cases h2 : 366 * j ≤ x ∧ x < 366 * j + k
        · rw [if_pos h2, if_pos (by omega)]
        · rw [if_neg h2, if_neg (by omega)]
    rw [e]
    exact ih n (k + 1) (by omega) (by omega)
theorem h_copyRow {T : xT} {S : xS} {i j : Nat} (tp : xTp T S.2.2) (hi : i < 16) (hj : j < 16) (hij : i ≠ j) : f_X10_copyRow T S 199 (nI i) (nI j) = some (cpR S i j 366) := by
  unfold f_X10_copyRow
  rw [xl_e]
  have h := L_copyRow (S := S) tp hi hj hij 366 xfu 0 (by omega) (by decide)
  have e : cpR S i j 0 = S := by
    unfold cpR
    have : (fun k => if 366 * j ≤ k ∧ k < 366 * j + 0 then S.1 200 (366 * i + (k - 366 * j)) else S.1 200 k) = S.1 200 := by
      funext k
      rw [if_neg (by omega)]
    rw [this, xw_self]
  rw [e] at h
  exact h
/-- rows of S' are rows of S -/
def rMp (S S' : xS) (f : Nat → Nat) : Prop := ∀ i, i < 16 → ∀ k, k < 366 → S'.1 200 (366 * i + k) = S.1 200 (366 * f i + k)
theorem cpR_mp {S : xS} {i j : Nat} : rMp S (cpR S i j 366) (fun x => if x = j then i else x) := by
  intro x hx k hk
  unfold cpR
  rw [xw_1]
  show (if 366 * j ≤ 366 * x + k ∧ 366 * x + k < 366 * j + 366 then S.1 200 (366 * i + (366 * x + k - 366 * j)) else S.1 200 (366 * x + k)) = S.1 200 (366 * (if x = j then i else x) + k)
  by_cases h : x = j
  · subst h
    rw [if_pos (by omega), if_pos rfl, Nat.add_sub_cancel_left]
  · rw [if_neg (by omega), if_neg h]
theorem cpR_out {S : xS} {i j m a : Nat} (h : a ≠ 200) : (cpR S i j m).1 a = S.1 a := by unfold cpR; exact xw_ne _ _ h
