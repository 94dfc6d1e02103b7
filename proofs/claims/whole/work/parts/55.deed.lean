/-! a deed is remembered, by both -/
def dR (d i : Nat) : Nat := if d = 12 then (if 3 ≤ i ∧ i < 14 then i + 1 else if i = 14 then 0 else i) else if i = 3 + d then 0 else i
theorem h_deed45 {T : xT} {S : xS} {d : Nat} (tp : xTp T S.2.2) (hd : d < 12) (h2 : S.1 199 2 = nI d) : f_X10_deed_45 T S 199 = some (xI (cpR S 0 (3 + d) 366) 199 2 (nI (d + 1))) := by
  unfold f_X10_deed_45
  rw [h2, show (3 : Int32) + nI d = nI (3 + d) from nI_add 3 d, show (0 : Int32) = nI 0 from rfl, h_copyRow tp (by omega) (by omega) (by omega), xcv_e, xpi_e, cpR_out (by decide), h2, nI_1]
theorem L_deed11 {T : xT} {S0 : xS} (tp : xTp T S0.2.2) (h2 : S0.1 199 2 = nI 12) : ∀ (m n k : Nat) (S : xS), k + m = 12 → m < n → 1 ≤ k → S.2 = S0.2 → (∀ a, a ≠ 200 → S.1 a = S0.1 a) → rMp S0 S (fun i => if 3 ≤ i ∧ i < 2 + k then i + 1 else i) → ∃ S', f_X10_deed_11 T n S 199 (nI k) = f_X10_deed_45 T (xI S' 199 2 (nI 11)) 199 ∧ S'.2 = S0.2 ∧ (∀ a, a ≠ 200 → S'.1 a = S0.1 a) ∧ rMp S0 S' (fun i => if 3 ≤ i ∧ i < 14 then i + 1 else i) := by
  intro m
  induction m with
  | zero =>
    intro n k S hk hn h1 hS ha hm
    obtain ⟨n, rfl⟩ : ∃ n', n = n' + 1 := ⟨n - 1, by omega⟩
    obtain rfl : k = 12 := by omega
    unfold f_X10_deed_11
    have e : S.1 199 2 - 1 = nI 11 := by rw [ha 199 (by decide), h2]; decide
    rw [if_pos (by decide), xpi_e, e]
    exact ⟨S, rfl, hS, ha, hm⟩
  | succ m ih =>
    intro n k S hk hn h1 hS ha hm
    obtain ⟨n, rfl⟩ : ∃ n', n = n' + 1 := ⟨n - 1, by omega⟩
    have tpS : xTp T S.2.2 := by rw [hS]; exact tp
    have e3 : (3 : Int32) + nI k = nI (3 + k) := nI_add 3 k
    have e2 : nI (3 + k) - 1 = nI (2 + k) := by
      rw [show 3 + k = (2 + k) + 1 by omega]; exact nI_pred (2 + k)
    unfold f_X10_deed_11
    rw [if_neg (show ¬ (12 : Int32) ≤ nI k from nI_ge (a := k) (b := 12) (by omega) (by decide)), e3, e2, h_copyRow tpS (by omega) (by omega) (by omega), xcv_e, xl_e, nI_1]
    refine ih n (k + 1) (cpR S (3 + k) (2 + k) 366) (by omega) (by omega) (by omega) hS (fun a h => by rw [cpR_out h]; exact ha a h) (fun i hi j hj => ?_)
    rw [cpR_mp i hi j hj]
    show S.1 200 (366 * (if i = 2 + k then 3 + k else i) + j) = S0.1 200 (366 * (if 3 ≤ i ∧ i < 2 + (k + 1) then i + 1 else i) + j)
    by_cases hx : i = 2 + k
    · subst hx
      rw [if_pos rfl, if_pos (by omega), hm (3 + k) (by omega) j hj]
      show S0.1 200 (366 * (if 3 ≤ 3 + k ∧ 3 + k < 2 + k then 3 + k + 1 else 3 + k) + j) = _
      rw [if_neg (by omega), show 3 + k = 2 + k + 1 by omega]
    · rw [if_neg hx, hm i hi j hj]
      show S0.1 200 (366 * (if 3 ≤ i ∧ i < 2 + k then i + 1 else i) + j) = _
      by_cases hy : 3 ≤ i ∧ i < 2 + k
      · rw [if_pos hy, if_pos (by omega)]
      · rw [if_neg hy, if_neg (by omega)]
theorem h_deed {T : xT} {S : xS} {d : Nat} (tp : xTp T S.2.2) (hd : d ≤ 12) (h2 : S.1 199 2 = nI d) : ∃ S', f_X10_deed T S 199 = some S' ∧ S'.2 = S.2 ∧ (∀ a, a ≠ 199 → a ≠ 200 → S'.1 a = S.1 a) ∧ (∀ k, k ≠ 2 → S'.1 199 k = S.1 199 k) ∧ S'.1 199 2 = nI (min (d + 1) 12) ∧ rMp S S' (dR d) := by
  unfold f_X10_deed
  rcases Nat.lt_or_ge d 12 with hd2 | hd2
  · rw [h2, if_neg (show ¬ nI d = (12 : Int32) from fun q => by have := (nI_eq (a := d) (b := 12) (by omega) (by omega)).mp q; omega), h_deed45 tp hd2 h2]
    refine ⟨_, rfl, rfl, fun a h1 h3 => ?_, fun k hk => ?_, ?_, fun i hi k hk => ?_⟩
    · rw [xI_ne h1, cpR_out h3]
    · rw [xI_at hk, cpR_out (by decide)]
    · rw [xI_1, xup_at, Nat.min_eq_left (by omega)]
    · rw [xI_ne (by decide), cpR_mp i hi k hk]
      unfold dR
      rw [if_neg (by omega)]
  · obtain rfl : d = 12 := by omega
    rw [h2, if_pos (show nI 12 = (12 : Int32) from rfl), xl_e]
    obtain ⟨S', e, e1, e2, e3⟩ := L_deed11 tp h2 11 xfu 1 S (by omega) (by decide) (by omega) rfl (fun _ _ => rfl) (fun i hi k hk => by
      show _ = S.1 200 (366 * (if 3 ≤ i ∧ i < 2 + 1 then i + 1 else i) + k)
      rw [if_neg (by omega)])
    rw [show (1 : Int32) = nI 1 from rfl, e]
    have tp' : xTp T (xI S' 199 2 (nI 11)).2.2 := by
      show xTp T S'.2.2
      rw [e1]; exact tp
    rw [h_deed45 (d := 11) tp' (by decide) (by rw [xI_1, xup_at])]
    refine ⟨_, rfl, e1, fun a h1 h3 => ?_, fun k hk => ?_, ?_, fun i hi k hk => ?_⟩
    · rw [xI_ne h1, cpR_out h3, xI_ne h1, e2 a h3]
    · rw [xI_at hk, cpR_out (by decide), xI_at hk, e2 199 (by decide)]
    · rw [xI_1, xup_at]; rfl
    · rw [xI_ne (by decide), cpR_mp i hi k hk, xI_ne (by decide)]
      show S'.1 200 (366 * (if i = 3 + 11 then 0 else i) + k) = S.1 200 (366 * dR 12 i + k)
      unfold dR
      rw [if_pos rfl]
      by_cases h14 : i = 14
      · subst h14
        rw [if_pos (show 14 = 3 + 11 from rfl), if_neg (show ¬ (3 ≤ 14 ∧ 14 < 14) by omega), e3 0 (by omega) k hk]
        show S.1 200 (366 * (if 3 ≤ 0 ∧ 0 < 14 then 0 + 1 else 0) + k) = _
        rw [if_neg (by omega)]
      · rw [if_neg (show ¬ i = 3 + 11 by omega), e3 i hi k hk]
/-! the class's states in the layout -/
theorem tp_k {T : xT} {r : Nat → Nat → Option Nat} (tp : xTp T r) {a kd : Nat} (ha : a < 215) (h : xK.getD a 0 = kd) : T.1 a = kd := ((tp.1.2 a ha).1).trans h
theorem tp_r {T : xT} {r : Nat → Nat → Option Nat} (tp : xTp T r) {a k j : Nat} (h : (a, k, j) ∈ xRf) : r a k = some j := tp.2 _ h
theorem bk_ok {T : xT} {r : Nat → Nat → Option Nat} (tp : xTp T r) {b : Nat} (hb : b + 8 < 215) (h1 : xK.getD b 0 = 1) (h2 : ∀ j, j < 9 → 1 ≤ j → xK.getD (b + j) 0 = 20 ∧ xN.getD (b + j) 0 = 8) (h3 : ∀ j, j < 8 → (b, 6 + j, b + (j + 1)) ∈ xRf) : xBk T r b := by
  have := tp.1.1
  exact ⟨by omega, tp_k tp (by omega) h1, fun j q1 q2 => ⟨tp_k tp (by omega) (h2 j (by omega) q1).1, xTp_n tp 8 (by omega) (h2 j (by omega) q1).2⟩, fun j hj => tp_r tp (h3 j hj)⟩
theorem sk_ok {T : xT} {r : Nat → Nat → Option Nat} (tp : xTp T r) {t : Nat} (hb : t + 1 < 215) (h1 : xK.getD t 0 = 7) (h2 : xK.getD (t + 1) 0 = 20 ∧ xN.getD (t + 1) 0 = 56) (h3 : (t, 2, t + 1) ∈ xRf) : xSk T r t := by
  have := tp.1.1
  exact ⟨by omega, tp_k tp (by omega) h1, ⟨tp_k tp (by omega) h2.1, xTp_n tp 56 (by omega) h2.2⟩, tp_r tp h3⟩
theorem st_now {T : xT} {r : Nat → Nat → Option Nat} (tp : xTp T r) : xSt T r 17 31 40 := by
  have := tp.1.1
  exact ⟨⟨by omega, tp_k tp (by omega) (by decide)⟩, bk_ok tp (by omega) (by decide) (by decide) (by decide), sk_ok tp (by omega) (by decide) (by decide) (by decide), tp_r tp (by decide), tp_r tp (by decide)⟩
theorem bk_paper {T : xT} {r : Nat → Nat → Option Nat} (tp : xTp T r) : xBk T r 188 := bk_ok tp (by omega) (by decide) (by decide) (by decide)
theorem dk1 : ∀ x, x < 12 → xK.getD (43 + 12 * x) 0 = 5 ∧ xK.getD (44 + 12 * x) 0 = 1 ∧ xK.getD (53 + 12 * x) 0 = 7 ∧ (xK.getD (53 + 12 * x + 1) 0 = 20 ∧ xN.getD (53 + 12 * x + 1) 0 = 56) := by decide +kernel
theorem dk2 : ∀ x, x < 12 → ∀ j, j < 9 → 1 ≤ j → xK.getD (44 + 12 * x + j) 0 = 20 ∧ xN.getD (44 + 12 * x + j) 0 = 8 := by decide +kernel
theorem dk3 : ∀ x, x < 12 → ∀ j, j < 8 → (44 + 12 * x, 6 + j, 44 + 12 * x + (j + 1)) ∈ xRf := by decide +kernel
theorem dk4a : ∀ x, x < 12 → (53 + 12 * x, 2, 53 + 12 * x + 1) ∈ xRf := by decide +kernel
theorem dk4b : ∀ x, x < 12 → (43 + 12 * x, 0, 44 + 12 * x) ∈ xRf := by decide +kernel
theorem dk4c : ∀ x, x < 12 → (43 + 12 * x, 1, 53 + 12 * x) ∈ xRf := by decide +kernel
theorem dk4d : ∀ x, x < 12 → (42, x, 43 + 12 * x) ∈ xRf := by decide +kernel
theorem dk4 : ∀ x, x < 12 → (53 + 12 * x, 2, 53 + 12 * x + 1) ∈ xRf ∧ (43 + 12 * x, 0, 44 + 12 * x) ∈ xRf ∧ (43 + 12 * x, 1, 53 + 12 * x) ∈ xRf ∧ (42, x, 43 + 12 * x) ∈ xRf := fun x h => ⟨dk4a x h, dk4b x h, dk4c x h, dk4d x h⟩
theorem st_deed {T : xT} {r : Nat → Nat → Option Nat} (tp : xTp T r) {x : Nat} (hx : x < 12) : xSt T r (43 + 12 * x) (44 + 12 * x) (53 + 12 * x) := by
  have := tp.1.1
  obtain ⟨a1, a2, a3, a4⟩ := dk1 x hx
  obtain ⟨b1, b2, b3, b4⟩ := dk4 x hx
  exact ⟨⟨by omega, tp_k tp (by omega) a1⟩, bk_ok tp (by omega) a2 (dk2 x hx) (dk3 x hx), sk_ok tp (by omega) a3 a4 b1, tp_r tp b2, tp_r tp b3⟩
theorem xar_mk {α : Type} {T : xT} {S : xS} {a i j kd N : Nat} {K : Nat → Option α} (hN : T.2.1 a = N) (hi : i < N) (hN2 : N < 2 ^ 31) (h : S.2.2 a i = some j) (hl : j < T.2.2) (hk : T.1 j = kd) : xar T S a (nI i) kd K = K j := by
  unfold xar
  rw [hN, if_pos (xin_nI hi hN2), nI_clamp (by omega), xld_mk h hl hk]
  rfl
theorem xan_mk {α : Type} {T : xT} {S : xS} {a i N : Nat} {K : Bool → Option α} (hN : T.2.1 a = N) (hi : i < N) (hN2 : N < 2 ^ 31) : xan T S a (nI i) K = K (S.2.2 a i).isSome := by
  unfold xan
  rw [hN, if_pos (xin_nI hi hN2), nI_clamp (by omega)]
theorem rm12 : ∀ x, x < 12 → (nI x + 1) - (nI x + 1) / 12 * 12 = nI ((x + 1) % 12) := by decide +kernel
theorem mn12 : ∀ d, d < 13 → xmin (nI d + 1) 12 = nI (min (d + 1) 12) := by decide +kernel
theorem g_remember {T : xT} {S : xS} {x d ta sa : Nat} (tp : xTp T S.2.2) (hx : x < 12) (hd : d ≤ 12) (h7 : S.1 0 7 = nI x) (h6 : S.1 0 6 = nI d) (h2 : S.2.2 17 2 = some ta) (kta : xlk T ta 8 = true) (h3 : S.2.2 17 3 = some sa) (ksa : xlk T sa 4 = true) (hz : xnz (S.1 40 0) = true) : f_X9_remember T S 0 = some (xI (xI (stC S (43 + 12 * x) (44 + 12 * x) (53 + 12 * x) 31 40 ta sa) 0 7 (nI ((x + 1) % 12))) 0 6 (nI (min (d + 1) 12))) := by
  have hl := tp.1.1
  unfold f_X9_remember
  rw [rr_0_5 tp, h7, xar_mk (N := 12) (xTp_n tp 12 (by decide) rfl) hx (by decide) (tp_r tp (dk4 x hx).2.2.2) (by omega) (st_deed tp hx).1.2, rr_0_4 tp, g_copy (st_deed tp hx) (st_now tp) (by omega) (by omega) (by omega) h2 kta h3 ksa hz (by omega), xcv_e, xgd_h (by decide), xpi_e, xpi_e, stC_out (by omega) (by omega) (by omega), h7, rm12 x hx, xI_at (by decide), stC_out (by omega) (by omega) (by omega), h6, mn12 d (by omega)]
