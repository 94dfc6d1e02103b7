/-! numbers written -/
def isE (x e : Nat) : Prop := (e = 0 ∨ 10 ^ e ≤ x) ∧ x < 10 ^ (e + 1)
theorem isE_ex {x : Nat} (h : x < 10 ^ 10) : ∃ e, e ≤ 9 ∧ isE x e := by
  have key : ∀ m, x < 10 ^ (m + 1) → ∃ e, e ≤ m ∧ isE x e := by
    intro m
    induction m with
    | zero => intro h; exact ⟨0, Nat.le_refl _, Or.inl rfl, h⟩
    | succ m ih =>
      intro h
      rcases Nat.lt_or_ge x (10 ^ (m + 1)) with q | q
      · obtain ⟨e, h1, h2⟩ := ih q
        exact ⟨e, by omega, h2⟩
      · exact ⟨m + 1, Nat.le_refl _, Or.inr q, h⟩
  exact key 9 h
def apD (x : Nat) : Nat → Nat → (Nat → Int32) → Nat → Int32
  | 0, len, B => va_up B len (nI (48 + x / 10 ^ 0 % 10))
  | i + 1, len, B => apD x i (len + 1) (va_up B len (nI (48 + x / 10 ^ (i + 1) % 10)))
def apN (n : Int32) (e len : Nat) (B : Nat → Int32) : Nat → Int32 := if 0 ≤ n then apD n.toInt.natAbs e len B else apD n.toInt.natAbs e (len + 1) (va_up B len 45)
def lnN (n : Int32) (e len : Nat) : Nat := if 0 ≤ n then len + (e + 1) else len + 1 + (e + 1)
def lP : Nat → Int64
  | 0 => 1
  | k + 1 => lP k * 10
theorem lP_i : ∀ k, k < 11 → (lP k).toInt = ((10 ^ k : Nat) : Int) := by decide +kernel
theorem lP_d : ∀ k, k < 10 → lP (k + 1) / 10 = lP k := by decide +kernel
theorem lP_m : ∀ k, k < 11 → xm0 (lP k) = true := by decide +kernel
theorem p10 : ∀ k, k < 11 → 1 ≤ 10 ^ k ∧ 10 ^ k ≤ 10000000000 := by decide +kernel
def wC (S : xS) (a0 B : Nat → Int32) (len : Nat) : xS := xw (xw S 15 (va_up a0 0 (nI len))) 16 B
theorem wC_15 (S : xS) (a0 B : Nat → Int32) (len : Nat) : (wC S a0 B len).1 15 = va_up a0 0 (nI len) := by unfold wC; rw [xw_ne _ _ (by decide), xw_1]
theorem wC_16 (S : xS) (a0 B : Nat → Int32) (len : Nat) : (wC S a0 B len).1 16 = B := by unfold wC; rw [xw_1]
theorem wC_n {S : xS} {a0 B : Nat → Int32} {len a : Nat} (h1 : a ≠ 15) (h2 : a ≠ 16) : (wC S a0 B len).1 a = S.1 a := by unfold wC; rw [xw_ne _ _ h2, xw_ne _ _ h1]
theorem c_sign {T : xT} {S : xS} {a0 B : Nat → Int32} {len : Nat} {c : Int32} (tp : xTp T S.2.2) (hl : len < 400) : f_X6_addSign T (wC S a0 B len) 15 c = some (wC S a0 (va_up B len c) (len + 1)) := by
  have h16 : T.2.1 16 = 400 := xTp_n tp 400 (by decide) rfl
  unfold f_X6_addSign
  rw [wC_15, xup_at, if_neg (show ¬ (400 : Int32) ≤ nI len from nI_ge (a := len) (b := 400) hl (by decide)), rr_15_1 (S := wC S a0 B len) tp, xst_n h16 hl (by decide), xpi_e]
  have e1 : xI (wC S a0 B len) 16 len c = wC S a0 (va_up B len c) len := by unfold wC; rw [xI_xw]
  rw [e1, wC_15, xup_at, nI_1]
  unfold wC
  rw [xw_c (show (15 : Nat) ≠ 16 by decide), xI_xw, xup2, xw_c (show (16 : Nat) ≠ 15 by decide)]
theorem c_digit {r : Int64} {x i : Nat} (hi : i < 10) (hx : x < 10 ^ 10) (hr : r.toInt = (x : Int)) : ((((48 : Int64) + ((r / lP i) - (r / lP i) / (10 : Int64) * (10 : Int64))).toInt32).toUInt32 % 65536).toInt32 = nI (48 + x / 10 ^ i % 10) := by
  have l := lP_i i (by omega)
  have pp := p10 i (by omega)
  have hx' : x < 10000000000 := hx
  have q : (r / lP i).toInt = ((x / 10 ^ i : Nat) : Int) := by
    rw [Int64.toInt_div, hr, l, Int.tdiv_eq_ediv_of_nonneg (by omega), ← Int.natCast_ediv]
    have : x / 10 ^ i ≤ x := Nat.div_le_self _ _
    generalize x / 10 ^ i = y at this ⊢
    exact xb64 (by omega) (by omega)
  have hq : x / 10 ^ i < 10000000000 := by
    have : x / 10 ^ i ≤ x := Nat.div_le_self _ _
    omega
  generalize x / 10 ^ i = y at *
  generalize r / lP i = Q at *
  have e10 : (10 : Int64).toInt = 10 := by decide
  have q2 : (Q / 10).toInt = ((y / 10 : Nat) : Int) := by
    rw [Int64.toInt_div, q, e10, Int.tdiv_eq_ediv_of_nonneg (by omega)]
    exact xb64 (by omega) (by omega)
  have q3 : (Q / 10 * 10).toInt = ((y / 10 * 10 : Nat) : Int) := by
    rw [Int64.toInt_mul, q2, e10]
    rw [xb64 (by omega) (by omega)]
    omega
  have q4 : (Q - Q / 10 * 10).toInt = ((y % 10 : Nat) : Int) := by
    rw [Int64.toInt_sub, q, q3, xb64 (by omega) (by omega)]
    omega
  have q5 : ((48 : Int64) + (Q - Q / 10 * 10)).toInt = ((48 + y % 10 : Nat) : Int) := by
    rw [Int64.toInt_add, q4, show (48 : Int64).toInt = 48 from by decide, xb64 (by omega) (by omega)]
    omega
  have q6 : (((48 : Int64) + (Q - Q / 10 * 10)).toInt32) = nI (48 + y % 10) := by
    rw [xeq, Int64.toInt_toInt32, q5, nI_toInt (by omega), xb32 (by omega) (by omega)]
  rw [q6]
  exact (x256 (by rw [nI_toInt (by omega)]; omega) (by rw [nI_toInt (by omega)]; omega)).1
theorem L_c57 {T : xT} {S : xS} {a0 : Nat → Int32} {r : Int64} {x e : Nat} (tp : xTp T S.2.2) (he : e ≤ 9) (hx : x < 10 ^ 10) (hr : r.toInt = (x : Int)) : ∀ (i n len : Nat) (B : Nat → Int32), i ≤ e → i + 2 ≤ n → len + (i + 1) ≤ 400 → f_X6_addNumber_57 T n (wC S a0 B len) 15 r (lP i) (nI (e - i)) = some (wC S a0 (apD x i len B) (len + (i + 1))) := by
  intro i
  induction i with
  | zero =>
    intro n len B hi hn hl
    obtain ⟨n, rfl⟩ : ∃ n', n = n' + 2 := ⟨n - 2, by omega⟩
    unfold f_X6_addNumber_57
    rw [if_neg (show ¬ (10 : Int32) < nI (e - 0) from nI_nlt (a := 10) (b := e - 0) (by omega) (by omega)), if_neg (show ¬ lg_cmp (lP 0) 0 ≤ 0 by decide), xgd_h (lP_m 0 (by decide)), xgd_h (by decide), c_digit (by decide) hx hr, c_sign tp (by omega), xcv_e, xgd_h (by decide), xl_e, xl_e, nI_1]
    unfold f_X6_addNumber_57
    rw [if_neg (show ¬ (10 : Int32) < nI (e - 0 + 1) from nI_nlt (a := 10) (b := e - 0 + 1) (by omega) (by omega)), if_pos (show lg_cmp (lP 0 / 10) 0 ≤ 0 by decide)]
    rfl
  | succ i ih =>
    intro n len B hi hn hl
    obtain ⟨n, rfl⟩ : ∃ n', n = n' + 1 := ⟨n - 1, by omega⟩
    unfold f_X6_addNumber_57
    have pos : ∀ k, k < 11 → ¬ lg_cmp (lP k) 0 ≤ 0 := by decide +kernel
    rw [if_neg (show ¬ (10 : Int32) < nI (e - (i + 1)) from nI_nlt (a := 10) (b := e - (i + 1)) (by omega) (by omega)), if_neg (pos (i + 1) (by omega)), xgd_h (lP_m (i + 1) (by omega)), xgd_h (by decide), c_digit (by omega) hx hr, c_sign tp (by omega), xcv_e, xgd_h (by decide), xl_e, xl_e, nI_1, lP_d i (by omega), show e - (i + 1) + 1 = e - i by omega, ih n (len + 1) _ (by omega) (by omega) (by omega), show len + 1 + (i + 1) = len + (i + 1 + 1) by omega]
    rfl
theorem L_c22 {T : xT} {S : xS} {r : Int64} {x e : Nat} (he : e ≤ 9) (hr : r.toInt = (x : Int)) (hE : isE x e) : ∀ (m k n : Nat), k + m = e → m < n → f_X6_addNumber_22 T n S 15 r (lP k) (nI k) = f_X6_addNumber_57 T xfu S 15 r (lP e) 0 := by
  intro m
  induction m with
  | zero =>
    intro k n hk hn
    obtain ⟨n, rfl⟩ : ∃ n', n = n' + 1 := ⟨n - 1, by omega⟩
    obtain rfl : k = e := by omega
    unfold f_X6_addNumber_22
    have l : (lP k * 10).toInt = ((10 ^ (k + 1) : Nat) : Int) := lP_i (k + 1) (by omega)
    rw [if_neg (show ¬ (10 : Int32) ≤ nI k from nI_ge (a := k) (b := 10) (by omega) (by decide)), if_pos (show 0 < lg_cmp (lP k * 10) r by rw [lcmp_gt, l, hr]; have := hE.2; omega), xl_e]
  | succ m ih =>
    intro k n hk hn
    obtain ⟨n, rfl⟩ : ∃ n', n = n' + 1 := ⟨n - 1, by omega⟩
    unfold f_X6_addNumber_22
    have l : (lP k * 10).toInt = ((10 ^ (k + 1) : Nat) : Int) := lP_i (k + 1) (by omega)
    have le : 10 ^ (k + 1) ≤ x := by
      rcases hE.1 with z | z
      · omega
      · exact Nat.le_trans (Nat.pow_le_pow_right (by omega) (by omega)) z
    rw [if_neg (show ¬ (10 : Int32) ≤ nI k from nI_ge (a := k) (b := 10) (by omega) (by decide)), if_neg (show ¬ 0 < lg_cmp (lP k * 10) r by rw [lcmp_gt, l, hr]; omega), xl_e, xl_e, nI_1]
    exact ih (k + 1) n (by omega) (by omega)
theorem absl_i (n : Int32) : (xabsl n.toInt64).toInt = (n.toInt.natAbs : Int) := by
  have h1 := xlo n
  have h2 := xhi n
  unfold xabsl
  by_cases h : 0 < n.toInt64
  · rw [if_pos h, Int32.toInt_toInt64]
    rw [Int64.lt_iff_toInt_lt, Int32.toInt_toInt64, show (0 : Int64).toInt = 0 from by decide] at h
    omega
  · rw [if_neg h]
    rw [Int64.lt_iff_toInt_lt, Int32.toInt_toInt64, show (0 : Int64).toInt = 0 from by decide] at h
    rw [Int64.toInt_neg, Int32.toInt_toInt64, xb64 (by omega) (by omega)]
    omega
theorem na_lt (n : Int32) : n.toInt.natAbs < 10 ^ 10 := by
  have h1 := xlo n
  have h2 := xhi n
  show n.toInt.natAbs < 10000000000
  omega
theorem c_num {T : xT} {S : xS} {a0 B : Nat → Int32} {len e : Nat} {n : Int32} (tp : xTp T S.2.2) (he : e ≤ 9) (hE : isE n.toInt.natAbs e) (hl : len + 11 ≤ 400) : f_X6_addNumber T (wC S a0 B len) 15 n = some (wC S a0 (apN n e len B) (lnN n e len)) := by
  have hr := absl_i n
  unfold f_X6_addNumber apN lnN
  rw [xl_e]
  by_cases h : 0 ≤ n
  · rw [if_pos h, if_pos h, if_pos h, xl_e, xl_e, show f_X6_addNumber_22 T xfu (wC S a0 B len) 15 (xabsl n.toInt64) 1 0 = f_X6_addNumber_22 T xfu (wC S a0 B len) 15 (xabsl n.toInt64) (lP 0) (nI 0) from rfl, L_c22 he hr hE e 0 xfu (by omega) (by show e < 1000; omega)]
    have := L_c57 (a0 := a0) tp he (na_lt n) hr e xfu len B (Nat.le_refl _) (by show e + 2 ≤ 1000; omega) (by omega)
    rw [Nat.sub_self] at this
    exact this
  · rw [if_neg h, if_neg h, if_neg h, c_sign tp (by omega), xcv_e, xl_e, xl_e, show f_X6_addNumber_22 T xfu (wC S a0 (va_up B len 45) (len + 1)) 15 (xabsl n.toInt64) 1 0 = f_X6_addNumber_22 T xfu (wC S a0 (va_up B len 45) (len + 1)) 15 (xabsl n.toInt64) (lP 0) (nI 0) from rfl, L_c22 he hr hE e 0 xfu (by omega) (by show e < 1000; omega)]
    have := L_c57 (a0 := a0) tp he (na_lt n) hr e xfu (len + 1) (va_up B len 45) (Nat.le_refl _) (by show e + 2 ≤ 1000; omega) (by omega)
    rw [Nat.sub_self] at this
    exact this
/-! the reference -/
def rC (S : xS) (g B : Nat → Int32) (j : Nat → Int64) (len : Nat) : xS := rW (xw S 214 B) (va_up g 33 (nI len)) j
theorem byte_id : ∀ c, c < 128 → vp_nar .byte ((nI c).toInt8.toInt32) = nI c := by decide +kernel
theorem r_writes {T : xT} {S : xS} {g B : Nat → Int32} {j : Nat → Int64} {len c : Nat} (tp : xTp T S.2.2) (hl : len < 400) (hc : c < 128) : f_X10_writes T (rC S g B j len) 199 (nI c) = some (rC S g (va_up B len (nI c)) j (len + 1)) := by
  have h214 : T.2.1 214 = 400 := xTp_n tp 400 (by decide) rfl
  unfold f_X10_writes rC
  rw [rr_199_32 (S := rW (xw S 214 B) (va_up g 33 (nI len)) j) tp, rW_1, xup_at, xst_n h214 hl (by decide), rW_c (by decide), xI_xw, xpi_e, rW_1, xup_at, nI_1, rW_I, xup2, byte_id c hc]
def iP : Nat → Int32
  | 0 => 1
  | k + 1 => iP k * 10
theorem iP_i : ∀ k, k < 10 → (iP k).toInt = ((10 ^ k : Nat) : Int) := by decide +kernel
theorem iP_d : ∀ k, k < 9 → iP (k + 1) / 10 = iP k := by decide +kernel
theorem iP_m : ∀ k, k < 10 → xn0 (iP k) = true ∧ ¬ iP k ≤ 0 := by decide +kernel
theorem q_i {n : Int32} {k : Nat} (hk : k < 10) : (0 ≤ n.toInt → (n / iP k).toInt = ((n.toInt.natAbs / 10 ^ k : Nat) : Int)) ∧ (n.toInt < 0 → (n / iP k).toInt = -((n.toInt.natAbs / 10 ^ k : Nat) : Int)) := by
  have h1 := xlo n
  have h2 := xhi n
  have l := iP_i k hk
  have d : n.toInt.natAbs / 10 ^ k ≤ n.toInt.natAbs := Nat.div_le_self _ _
  refine ⟨fun h => ?_, fun h => ?_⟩
  · have e : n.toInt = (n.toInt.natAbs : Int) := by omega
    rw [Int32.toInt_div, l]
    have : n.toInt.tdiv ((10 ^ k : Nat) : Int) = ((n.toInt.natAbs / 10 ^ k : Nat) : Int) := by
      conv => lhs; rw [e]
      rw [Int.tdiv_eq_ediv_of_nonneg (by omega), Int.natCast_ediv]
    rw [this]
    clear this
    generalize n.toInt.natAbs / 10 ^ k = y at d ⊢
    exact xb32 (by omega) (by omega)
  · have e : n.toInt = -(n.toInt.natAbs : Int) := by omega
    rw [Int32.toInt_div, l]
    have : n.toInt.tdiv ((10 ^ k : Nat) : Int) = -((n.toInt.natAbs / 10 ^ k : Nat) : Int) := by
      conv => lhs; rw [e]
      rw [Int.neg_tdiv, Int.tdiv_eq_ediv_of_nonneg (by omega), Int.natCast_ediv]
    rw [this]
    clear this
    generalize n.toInt.natAbs / 10 ^ k = y at d ⊢
    exact xb32 (by omega) (by omega)
theorem d10 (q : Int32) : (0 ≤ q.toInt → (q / 10).toInt = ((q.toInt.natAbs / 10 : Nat) : Int)) ∧ (q.toInt < 0 → (q / 10).toInt = -((q.toInt.natAbs / 10 : Nat) : Int)) := q_i (n := q) (k := 1) (by decide)
theorem r_dig {n : Int32} {k : Nat} (hk : k < 10) {α : Type} (X : Int32 → α) : (if (0 : Int32) ≤ (n / iP k) - (n / iP k) / 10 * 10 then X (48 + ((n / iP k) - (n / iP k) / 10 * 10)) else X (48 + -((n / iP k) - (n / iP k) / 10 * 10))) = X (nI (48 + n.toInt.natAbs / 10 ^ k % 10)) := by
  have h1 := xlo n
  have h2 := xhi n
  have d : n.toInt.natAbs / 10 ^ k ≤ n.toInt.natAbs := Nat.div_le_self _ _
  have Q := q_i (n := n) hk
  generalize n.toInt.natAbs / 10 ^ k = y at *
  generalize n / iP k = q at *
  have D := d10 q
  have e10 : (10 : Int32).toInt = 10 := by decide
  have e48 : (48 : Int32).toInt = 48 := by decide
  have r1 : (nI (48 + y % 10)).toInt = ((48 + y % 10 : Nat) : Int) := nI_toInt (by omega)
  by_cases h : 0 ≤ n.toInt
  · have q1 := Q.1 h
    have q2 := D.1 (by omega)
    have q2' : (q / 10).toInt = ((y / 10 : Nat) : Int) := by rw [q2, q1]; omega
    have q3 : (q / 10 * 10).toInt = ((y / 10 * 10 : Nat) : Int) := by
      rw [Int32.toInt_mul, q2', e10, xb32 (by omega) (by omega)]; omega
    have q4 : (q - q / 10 * 10).toInt = ((y % 10 : Nat) : Int) := by
      rw [xsub (by omega) (by omega), q1, q3]; omega
    rw [if_pos (by rw [xge0]; omega)]
    congr 1
    rw [xeq, r1, xadd (by omega) (by omega), q4, e48]
    omega
  · have q1 := Q.2 (by omega)
    by_cases hy : y = 0
    · have q1' : q.toInt = 0 := by omega
      have q0 : q = 0 := by rw [xeq0]; exact q1'
      rw [q0, hy]
      rfl
    · have q2 := D.2 (by omega)
      have q2' : (q / 10).toInt = -((y / 10 : Nat) : Int) := by rw [q2, q1]; omega
      have q3 : (q / 10 * 10).toInt = -((y / 10 * 10 : Nat) : Int) := by
        rw [Int32.toInt_mul, q2', e10, xb32 (by omega) (by omega)]; omega
      have q4 : (q - q / 10 * 10).toInt = -((y % 10 : Nat) : Int) := by
        rw [xsub (by omega) (by omega), q1, q3]; omega
      by_cases hz : (0 : Int32) ≤ q - q / 10 * 10
      · rw [if_pos hz]
        rw [xge0] at hz
        congr 1
        rw [xeq, r1, xadd (by omega) (by omega), q4, e48]
        omega
      · rw [if_neg hz]
        congr 1
        have n1 : (-(q - q / 10 * 10)).toInt = ((y % 10 : Nat) : Int) := by rw [xneg (by omega), q4]; omega
        rw [xeq, r1, xadd (by omega) (by omega), n1, e48]
        omega
theorem L_r29 {T : xT} {S : xS} {g : Nat → Int32} {j : Nat → Int64} {n : Int32} (tp : xTp T S.2.2) : ∀ (i m len : Nat) (B : Nat → Int32), i ≤ 9 → i + 2 ≤ m → len + (i + 1) ≤ 400 → f_X10_writeNumber_29 T m (rC S g B j len) 199 n (iP i) = some (rC S g (apD n.toInt.natAbs i len B) j (len + (i + 1))) := by
  intro i
  induction i with
  | zero =>
    intro m len B hi hm hl
    obtain ⟨m, rfl⟩ : ∃ m', m = m' + 2 := ⟨m - 2, by omega⟩
    unfold f_X10_writeNumber_29
    rw [if_neg (iP_m 0 (by decide)).2, xgd_h (iP_m 0 (by decide)).1, xgd_h (by decide), xl_e]
    rw [r_dig (k := 0) (by decide) (fun c => xcv (f_X10_writes T (rC S g B j len) 199 c) (fun S2 => xgd (xn0 (10 : Int32)) (xl ((iP 0 / (10 : Int32))) (fun v3 => f_X10_writeNumber_29 T (m + 1) S2 199 n v3))))]
    rw [r_writes tp (by omega) (by omega), xcv_e, xgd_h (by decide), xl_e]
    unfold f_X10_writeNumber_29
    rw [if_pos (by decide)]
    rfl
  | succ i ih =>
    intro m len B hi hm hl
    obtain ⟨m, rfl⟩ : ∃ m', m = m' + 1 := ⟨m - 1, by omega⟩
    unfold f_X10_writeNumber_29
    rw [if_neg (iP_m (i + 1) (by omega)).2, xgd_h (iP_m (i + 1) (by omega)).1, xgd_h (by decide), xl_e]
    rw [r_dig (k := i + 1) (by omega) (fun c => xcv (f_X10_writes T (rC S g B j len) 199 c) (fun S2 => xgd (xn0 (10 : Int32)) (xl ((iP (i + 1) / (10 : Int32))) (fun v3 => f_X10_writeNumber_29 T m S2 199 n v3))))]
    rw [r_writes tp (by omega) (by omega), xcv_e, xgd_h (by decide), xl_e, iP_d i (by omega), ih m (len + 1) _ (by omega) (by omega) (by omega), show len + 1 + (i + 1) = len + (i + 1 + 1) by omega]
    rfl
theorem L_r12 {T : xT} {S : xS} {n : Int32} {e : Nat} (he : e ≤ 9) (hE : isE n.toInt.natAbs e) : ∀ (m k f : Nat), k + m = e → m < f → f_X10_writeNumber_12 T f S 199 n (iP k) = f_X10_writeNumber_29 T xfu S 199 n (iP e) := by
  have h1 := xlo n
  have h2 := xhi n
  have z : ∀ k, k < 10 → (n / 10 / iP k = 0 ↔ n.toInt.natAbs < 10 ^ (k + 1)) := fun k hk => by
    have D := d10 n
    have Q := q_i (n := n / 10) hk
    have pe : 10 ^ (k + 1) = 10 * 10 ^ k := by rw [Nat.pow_succ, Nat.mul_comm]
    have dd : n.toInt.natAbs / 10 / 10 ^ k = n.toInt.natAbs / 10 ^ (k + 1) := by rw [Nat.div_div_eq_div_mul, pe]
    have na : (n / 10).toInt.natAbs = n.toInt.natAbs / 10 := by
      by_cases h : 0 ≤ n.toInt
      · rw [D.1 h]; omega
      · rw [D.2 (by omega)]; omega
    rw [xeq0]
    have qz : (n / 10 / iP k).toInt = 0 ↔ (n / 10).toInt.natAbs / 10 ^ k = 0 := by
      by_cases h : 0 ≤ (n / 10).toInt
      · rw [Q.1 h]; omega
      · rw [Q.2 (by omega)]; omega
    rw [qz, na, dd, Nat.div_eq_zero_iff]
    have := (p10 (k + 1) (by omega)).1
    omega
  intro m
  induction m with
  | zero =>
    intro k f hk hf
    obtain ⟨f, rfl⟩ : ∃ f', f = f' + 1 := ⟨f - 1, by omega⟩
    obtain rfl : k = e := by omega
    unfold f_X10_writeNumber_12
    rw [xgd_h (by decide), xgd_h (iP_m k (by omega)).1, if_pos ((z k (by omega)).mpr hE.2)]
  | succ m ih =>
    intro k f hk hf
    obtain ⟨f, rfl⟩ : ∃ f', f = f' + 1 := ⟨f - 1, by omega⟩
    have le : 10 ^ (k + 1) ≤ n.toInt.natAbs := by
      rcases hE.1 with z | z
      · omega
      · exact Nat.le_trans (Nat.pow_le_pow_right (by omega) (by omega)) z
    unfold f_X10_writeNumber_12
    rw [xgd_h (by decide), xgd_h (iP_m k (by omega)).1, if_neg (fun q => by have := (z k (by omega)).mp q; omega), xl_e]
    exact ih (k + 1) f (by omega) (by omega)
theorem r_num {T : xT} {S : xS} {g B : Nat → Int32} {j : Nat → Int64} {len e : Nat} {n : Int32} (tp : xTp T S.2.2) (he : e ≤ 9) (hE : isE n.toInt.natAbs e) (hl : len + 11 ≤ 400) : f_X10_writeNumber T (rC S g B j len) 199 n = some (rC S g (apN n e len B) j (lnN n e len)) := by
  unfold f_X10_writeNumber apN lnN
  by_cases h : 0 ≤ n
  · rw [if_pos h, if_pos h, if_pos h, xl_e, show f_X10_writeNumber_12 T xfu (rC S g B j len) 199 n 1 = f_X10_writeNumber_12 T xfu (rC S g B j len) 199 n (iP 0) from rfl, L_r12 he hE e 0 xfu (by omega) (by show e < 1000; omega)]
    exact L_r29 tp e xfu len B he (by show e + 2 ≤ 1000; omega) (by omega)
  · rw [if_neg h, if_neg h, if_neg h, show f_X10_writes T (rC S g B j len) 199 45 = _ from r_writes (c := 45) tp (by omega) (by decide), xcv_e, xl_e, show f_X10_writeNumber_12 T xfu (rC S g (va_up B len (nI 45)) j (len + 1)) 199 n 1 = f_X10_writeNumber_12 T xfu (rC S g (va_up B len (nI 45)) j (len + 1)) 199 n (iP 0) from rfl, L_r12 he hE e 0 xfu (by omega) (by show e < 1000; omega)]
    exact L_r29 tp e xfu (len + 1) (va_up B len 45) he (by show e + 2 ≤ 1000; omega) (by omega)
theorem lnN_le {n : Int32} {e len : Nat} (he : e ≤ 9) : len ≤ lnN n e len ∧ lnN n e len ≤ len + 11 := by
  unfold lnN
  split <;> omega
theorem apD_at {x : Nat} : ∀ (i len : Nat) (B C : Nat → Int32), (∀ k, k < len → B k = C k) → ∀ k, k < len + (i + 1) → apD x i len B k = apD x i len C k
  | 0, len, B, C, h, k, hk => by
    unfold apD
    by_cases e : k = len
    · subst e; rw [xup_at, xup_at]
    · rw [up_ne e, up_ne e]; exact h k (by omega)
  | i + 1, len, B, C, h, k, hk => by
    unfold apD
    refine apD_at i (len + 1) _ _ (fun k hk => ?_) k (by omega)
    by_cases e : k = len
    · subst e; rw [xup_at, xup_at]
    · rw [up_ne e, up_ne e]; exact h k (by omega)
theorem apN_at {n : Int32} {e len : Nat} {B C : Nat → Int32} (h : ∀ k, k < len → B k = C k) : ∀ k, k < lnN n e len → apN n e len B k = apN n e len C k := by
  unfold apN lnN
  by_cases q : 0 ≤ n
  · simp only [if_pos q]
    exact apD_at e len B C h
  · simp only [if_neg q]
    refine apD_at e (len + 1) _ _ (fun k hk => ?_)
    by_cases e : k = len
    · subst e; rw [xup_at, xup_at]
    · rw [up_ne e, up_ne e]; exact h k (by omega)
