/-! the acts done, one by one -/
theorem zDo_fr {T : xT} {S : xS} {M : zM} {k : Nat} {e : Int32} {b : Nat → Int32} {n : Nat} {B : Int} (g : zG T S B M) : zG T S B (M.sB n e b) := ⟨g.1, g.2.1, g.2.2⟩
theorem x3k (k : Nat) : (3 : Int32) * nI k = nI (3 * k) := pk_mul 3 k
theorem L_do {T : xT} {i cnt : Nat} {K W N : Nat → Int32} (hi : i < 512) (hc : cnt ≤ 30) (hK : ∀ x, x < cnt → ∃ c, c < 10 ∧ K x = nI c) : ∀ (x k n : Nat) (S : xS) (M : zM) (B : Int), k + x = cnt → x < n → zC T S M → zG T S B M → M.bn = k → M.be = -1 → (∀ y, y < cnt → S.1 12 y = K y ∧ S.1 13 y = W y ∧ S.1 14 y = N y) → 0 ≤ B → 5 * B + 1000000 * (cS K x k : Int) ≤ 20000000 * (i : Int) → ∃ v S' M' B', f_X9_acts_32 T n S 0 (nI cnt) (nI k) = some (v, S') ∧ zC T S' M' ∧ zG T S' B' M' ∧ M'.L = M.L ∧ 0 ≤ B' ∧ 5 * B' ≤ 20000000 * (i : Int) ∧ S'.2.1 = S.2.1 ∧ (∀ a, 199 ≤ a → S'.1 a = S.1 a) ∧ ∀ Sr n', x + 1 < n' → zR Sr M → xTp T Sr.2.2 → rAs (Sr.1 212) K W N cnt → Sr.1 199 29 = nI cnt → ∃ Sr', f_X10_acts_26 T n' Sr 199 = some (v, Sr') ∧ zR Sr' M' ∧ Sr'.2.2 = Sr.2.2 ∧ ∀ a, a < 199 ∨ 214 < a → Sr'.1 a = Sr.1 a := by
  intro x
  induction x with
  | zero =>
    intro k n S M B hk hn c g hbn hbe hS b0 b1
    obtain ⟨n, rfl⟩ : ∃ n', n = n' + 1 := ⟨n - 1, by omega⟩
    obtain rfl : k = cnt := by omega
    have tp := c.1
    have cb := c.2.2.2.2.2.2.1
    refine ⟨nI k, S, M, B, ?_, c, g, rfl, b0, by omega, rfl, fun _ _ => rfl, fun Sr n' hn' r tr hA h29 => ⟨Sr, ?_, r, rfl, fun _ _ => rfl⟩⟩
    · unfold f_X9_acts_32
      rw [if_pos (show nI k ≤ nI k from Int32.le_refl _), rr_0_2 tp, cb.2.1, hbn]
    · obtain ⟨n', rfl⟩ : ∃ n'', n' = n'' + 1 := ⟨n' - 1, by omega⟩
      have r30 : Sr.1 199 30 = nI k := by rw [r.2.2.2.2.2.2.1.1, hbn]
      unfold f_X10_acts_26
      rw [h29, r30, if_pos (Int32.le_refl _)]
  | succ x ih =>
    intro k n S M B hk hn c g hbn hbe hS b0 b1
    obtain ⟨n, rfl⟩ : ∃ n', n = n' + 1 := ⟨n - 1, by omega⟩
    have tp := c.1
    have cb := c.2.2.2.2.2.2.1
    have kc : k < cnt := by omega
    have q : ¬ nI cnt ≤ nI k := by rw [xle, nI_toInt (by omega), nI_toInt (by omega)]; omega
    obtain ⟨c0, hc0, hKk⟩ := hK k kc
    obtain ⟨s12, s13, s14⟩ := hS k kc
    have l12 : T.2.1 12 = 30 := xTp_n tp 30 (by decide) rfl
    have l13 : T.2.1 13 = 30 := xTp_n tp 30 (by decide) rfl
    have l14 : T.2.1 14 = 30 := xTp_n tp 30 (by decide) rfl
    have b1' : 5 * B + 1000000 * ((if K k = 9 then 0 else 5 : Nat) : Int) + 1000000 * (cS K x (k + 1) : Int) ≤ 20000000 * (i : Int) := by
      have e : cS K (x + 1) k = (if K k = 9 then 0 else 5) + cS K x (k + 1) := rfl
      rw [e] at b1
      have e2 : (((if K k = 9 then 0 else 5) + cS K x (k + 1) : Nat) : Int) = ((if K k = 9 then 0 else 5 : Nat) : Int) + (cS K x (k + 1) : Int) := Int.natCast_add _ _
      rw [e2] at b1
      omega
    have cost : (if K k = 9 then 0 else 5 : Nat) = if c0 = 9 then 0 else 5 := by
      rw [hKk]
      by_cases z : c0 = 9
      · rw [if_pos z, if_pos (by rw [z]; decide)]
      · rw [if_neg z, if_neg (show ¬ nI c0 = (9 : Int32) from fun w => z ((nI_eq (a := c0) (b := 9) (by omega) (by omega)).mp w))]
    rw [cost] at b1'
    have hB : B ≤ 2100000000 := by
      have : (0 : Int) ≤ ((if c0 = 9 then 0 else 5 : Nat) : Int) := Int.natCast_nonneg _
      omega
    obtain ⟨no, rf, d, hdo⟩ := d_act (w := W k) (n := N k) c g hB hc0
    have rd : ∀ Sr (r : zR Sr M) (tr : xTp T Sr.2.2) (hA : rAs (Sr.1 212) K W N cnt) (h29 : Sr.1 199 29 = nI cnt) (n' : Nat), f_X10_acts_26 T (n' + 1) Sr 199 = xc (rf T Sr) (fun r8 S7 => if (S7.1 199 26) = (0 : Int32) then xpi S7 199 31 ((S7.1 199 30)) (fun S10 => f_X10_acts_26 T n' S10 199) else xgr T S7 199 28 20 (fun a11 => xst T S7 a11 ((S7.1 199 30)) r8 (fun S12 => xpi S12 199 30 (((S12.1 199 30) + (1 : Int32))) (fun S13 => f_X10_acts_26 T n' S13 199)))) := fun Sr r tr hA h29 n' => by
      have r30 : Sr.1 199 30 = nI k := by rw [r.2.2.2.2.2.2.1.1, hbn]
      have r31 : Sr.1 199 31 = -1 := by rw [r.2.2.2.2.2.2.1.2.1, hbe]
      have l212 : T.2.1 212 = 90 := xTp_n tr 90 (by decide) rfl
      obtain ⟨a1, a2, a3⟩ := hA k kc
      conv => lhs; unfold f_X10_acts_26
      rw [h29, r30, if_neg q, r31, if_pos rfl, x3k, rr_199_27 tr, xai_n l212 (by omega) (by decide), rr_199_27 tr, show nI (3 * k) + 1 = nI (3 * k + 1) from nI_add _ 1, xai_n l212 (by omega) (by decide), rr_199_27 tr, show nI (3 * k) + 2 = nI (3 * k + 2) from nI_add _ 2, xai_n l212 (by omega) (by decide), a1, hKk, hdo Sr _ _ (fun h1 => a2 (by rw [hKk, xle, nI_toInt (by omega), i1]; omega)) (fun h1 h2 => a3 (fun w => h1 ((nI_eq (a := c0) (b := 0) (by omega) (by omega)).mp (hKk ▸ w))) (fun w => h2 ((nI_eq (a := c0) (b := 9) (by omega) (by omega)).mp (hKk ▸ w))))]
      rfl
    have cd : f_X9_acts_32 T (n + 1) S 0 (nI cnt) (nI k) = xc (f_X9_begins T S 0 (nI c0) (W k) (N k)) (fun r15 S14 => if r15 = (0 : Int32) then xgr T S14 0 2 0 (fun a21 => xpi S14 a21 1 (nI k) (fun S22 => xgr T S22 0 2 0 (fun a23 => some ((S22.1 a23 0), S22)))) else xgr T S14 0 2 0 (fun a16 => xc (f_X9_perform T S14 0 (nI c0) (W k) (N k)) (fun r18 S17 => xcv (f_X0_addRow T S17 a16 r18) (fun S19 => xl (nI k + (1 : Int32)) (fun v20 => f_X9_acts_32 T n S19 0 (nI cnt) v20))))) := by
      conv => lhs; unfold f_X9_acts_32
      rw [if_neg q, rr_0_2 tp, rr_10_3 tp, xai_n l12 (by omega) (by decide), xl_e, rr_0_2 tp, rr_10_4 tp, xai_n l13 (by omega) (by decide), xl_e, rr_0_2 tp, rr_10_5 tp, xai_n l14 (by omega) (by decide), xl_e, s12, s13, s14, hKk]
    rcases d with ⟨d1, d2⟩ | ⟨S1, S2, v, F', tp1, d1, d2, d3, d4, d5, d6⟩
    · refine ⟨nI k, xI S 10 1 (nI k), M.sB k (nI k) M.bt, B, ?_, zC_b c rfl (fun a h1 _ => xI_ne h1) ⟨by show k ≤ 30; omega, by rw [xI_at (by decide), cb.2.1, hbn]; rfl, by rw [xI_1, xup_at]; rfl, fun y hy => by rw [xI_ne (by decide)]; exact cb.2.2.2 y (by rw [hbn]; exact hy)⟩, zG_f (M := M) (fun a z => xI_ne (by unfold zTS at z; omega)) (fun a _ => rfl) g, rfl, b0, ?_, rfl, fun a ha => xI_ne (by omega), fun Sr n' hn' r tr hA h29 => ?_⟩
      · rw [cd, d1, xc_e, if_pos rfl, rr_0_2 tp, xpi_e, rr_0_2 (S := xI S 10 1 (nI k)) tp, xI_at (by decide), cb.2.1, hbn]
      · have : (0 : Int) ≤ ((if c0 = 9 then 0 else 5 : Nat) : Int) := Int.natCast_nonneg _
        omega
      · obtain ⟨n', rfl⟩ : ∃ n'', n' = n'' + 1 + 1 := ⟨n' - 2, by omega⟩
        have r30 : Sr.1 199 30 = nI k := by rw [r.2.2.2.2.2.2.1.1, hbn]
        have hd2 := d2 Sr r tr
        rw [if_pos rfl] at hd2
        refine ⟨xI (xI Sr 199 26 0) 199 31 (nI k), ?_, zR_b r (fun a z => by rw [xI_ne (by omega), xI_ne (by omega)]) (fun y z => by rw [xI_at (by omega), xI_at (by omega)]) rfl ⟨by rw [xI_at (by decide), xI_at (by decide)]; exact r30, by rw [xI_1, xup_at], fun y hy => by rw [xI_ne (by decide), xI_ne (by decide)]; exact r.2.2.2.2.2.2.1.2.2 y (by rw [hbn]; exact hy)⟩, rfl, fun a z => by rw [xI_ne (by omega), xI_ne (by omega)]⟩
        rw [rd Sr r tr hA h29, hd2, xc_e, if_pos (by rw [xI_1, xup_at]), xpi_e, xI_at (by decide), r30]
        unfold f_X10_acts_26
        rw [xI_at (by decide), xI_at (by decide), h29, xI_at (by decide), xI_at (by decide), r30, if_neg q, xI_1, xup_at, if_neg (fun w => by rw [xeq, nI_toInt (by omega), show (-1 : Int32).toInt = -1 from by decide] at w; omega)]
    · have hbn2 : (M.rm.sF' F').bn = k := hbn
      obtain ⟨a1, a2⟩ := c_addRow (v := v) d3 hbn2 (by omega)
      have bB : 0 ≤ (if c0 = 9 then B else B + 1000000) ∧ 5 * (if c0 = 9 then B else B + 1000000) + 1000000 * (cS K x (k + 1) : Int) ≤ 20000000 * (i : Int) := by
        by_cases z : c0 = 9
        · rw [if_pos z] at b1' ⊢
          exact ⟨b0, by omega⟩
        · rw [if_neg z] at b1' ⊢
          exact ⟨by omega, by omega⟩
      have f2 : ∀ a, a ≠ 10 → a ≠ 11 → (xI (xI S2 11 k v) 10 0 (nI (k + 1))).1 a = S2.1 a := fun a h1 h2 => by rw [xI_ne h1, xI_ne h2]
      obtain ⟨v', S', M', B', h1, h2, h3, h4, h5, h6, h7, h8, h9⟩ := ih (k + 1) n (xI (xI S2 11 k v) 10 0 (nI (k + 1))) ((M.rm.sF' F').sB (k + 1) (M.rm.sF' F').be (va_up (M.rm.sF' F').bt k v)) (if c0 = 9 then B else B + 1000000) (by omega) (by omega) a2 (zG_f (M := M.rm.sF' F') (fun a z => f2 a (by unfold zTS at z; omega) (by unfold zTS at z; omega)) (fun a _ => rfl) d4) rfl hbe (fun y hy => by
        rw [f2 12 (by decide) (by decide), f2 13 (by decide) (by decide), f2 14 (by decide) (by decide), d5.2.1 12 (by omega), d5.2.1 13 (by omega), d5.2.1 14 (by omega)]
        exact hS y hy) bB.1 bB.2
      refine ⟨v', S', M', B', ?_, h2, h3, h4, h5, h6, h7.trans d5.1, fun a ha => by rw [h8 a ha, f2 a (by omega) (by omega), d5.2.1 a (by omega)], fun Sr n' hn' r tr hA h29 => ?_⟩
      · rw [cd, d1, xc_e, if_neg (by decide), rr_0_2 tp1, d2, xc_e, a1, xcv_e, xl_e, nI_1]
        exact h1
      · obtain ⟨n', rfl⟩ : ∃ n'', n' = n'' + 1 := ⟨n' - 1, by omega⟩
        obtain ⟨Sq, q1, q2, ⟨q3, q4, q5⟩, q6⟩ := d6 Sr r tr
        have r30 : Sq.1 199 30 = nI k := by rw [q5 30 (by decide) (by decide), r.2.2.2.2.2.2.1.1, hbn]
        have tq : xTp T Sq.2.2 := by rw [q3]; exact tr
        have z2 : zR (xI (xI Sq 213 k v) 199 30 (nI (k + 1))) ((M.rm.sF' F').sB (k + 1) (M.rm.sF' F').be (va_up (M.rm.sF' F').bt k v)) := zR_b q2 (fun a z => by rw [xI_ne (by omega), xI_ne (by omega)]) (fun y z => by rw [xI_at (by omega), xI_ne (by decide)]) rfl ⟨by rw [xI_1, xup_at], by rw [xI_at (by decide), xI_ne (by decide)]; exact q2.2.2.2.2.2.2.1.2.1, fun y hy => by
          rw [xI_ne (by decide), xI_1]
          by_cases w : y = k
          · subst w; rw [xup_at, xup_at]
          · rw [va_up_ne _ _ w, va_up_ne _ _ w]; exact q2.2.2.2.2.2.2.1.2.2 y (by rw [hbn2]; omega)⟩
        obtain ⟨Sr', s1, s2, s3, s4⟩ := h9 (xI (xI Sq 213 k v) 199 30 (nI (k + 1))) n' (by omega) z2 tq (by rw [xI_ne (by decide), xI_ne (by decide), q4 212 (by omega)]; exact hA) (by rw [xI_at (by decide), xI_ne (by decide), q5 29 (by decide) (by decide)]; exact h29)
        refine ⟨Sr', ?_, s2, s3.trans q3, fun a z => by rw [s4 a z, xI_ne (by omega), xI_ne (by omega), q4 a (by omega)]⟩
        rw [rd Sr r tr hA h29, q1, xc_e, q6 rfl, if_neg (by decide), rr_199_28 tq, r30, xst_n (xTp_n tq 30 (by decide) rfl) (by omega) (by decide), xpi_e, xI_ne (by decide), r30, nI_1]
        exact s1
