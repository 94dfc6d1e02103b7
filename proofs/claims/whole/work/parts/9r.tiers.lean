/-! tiers that were read are well; tiers made anew -/
theorem pG_ok {tb : Nat → Int32} {L : Nat} : ∀ (m q : Nat) (w : Nat → Int32), (∀ p, p < 8 → 0 ≤ (w p).toInt ∧ (w p).toInt ≤ 99) → ∀ p, p < 8 → 0 ≤ ((pG tb L m q w).2.2 p).toInt ∧ ((pG tb L m q w).2.2 p).toInt ≤ 99
  | 0, q, w, h => h
  | m + 1, q, w, h => by
    unfold pG
    split
    · exact h
    · split
      · split
        · exact h
        · rename_i a b c
          obtain ⟨_, _, n1, n2⟩ := tNm_r c
          rw [i1] at n1
          rw [show (99 : Int32).toInt = 99 from by decide] at n2
          have hu : ∀ p, p < 8 → 0 ≤ (va_up w (tPn tb L q).toNatClampNeg (tNm tb L (tNx tb L q) 1 99) p).toInt ∧ (va_up w (tPn tb L q).toNatClampNeg (tNm tb L (tNx tb L q) 1 99) p).toInt ≤ 99 := fun p hp => by
            by_cases z : p = (tPn tb L q).toNatClampNeg
            · rw [z, xup_at]; omega
            · rw [va_up_ne _ _ z]; exact h p hp
          split
          · exact pG_ok m _ _ hu
          · split
            · exact hu
            · exact hu
      · exact h
theorem pH_ok {tb : Nat → Int32} {L q : Nat} : ∀ p, p < 8 → 0 ≤ ((pH tb L q).2.2 p).toInt ∧ ((pH tb L q).2.2 p).toInt ≤ 99 := by
  have z : ∀ p, p < 8 → 0 ≤ (z8 p).toInt ∧ (z8 p).toInt ≤ 99 := fun p _ => by unfold z8; decide
  unfold pH
  split
  · exact pG_ok 8 _ _ z
  · exact z
def tGd (fi : Nat) (s : Nat → Int32) (W : Nat → Nat → Int32) : Prop := fi ≤ 8 ∧ (∀ x, x < fi → 0 < (s x).toInt) ∧ ∀ x, x ≤ fi → ∀ p, p < 8 → 0 ≤ (W x p).toInt ∧ (W x p).toInt ≤ 99
theorem pT_rest {tb : Nat → Int32} {L k q' : Nat} {q : Nat} {s : Nat → Int32} {W : Nat → Nat → Int32} (hk : k ≤ 8) (hs : ∀ x, x < k → 0 < (s x).toInt) (hW : ∀ x, x < k → ∀ p, p < 8 → 0 ≤ (W x p).toInt ∧ (W x p).toInt ≤ 99) : tGd k (va_up s k (-1)) (va_up W k (pH tb L q).2.2) := by
  refine ⟨hk, fun x hx => by rw [va_up_ne _ _ (by omega)]; exact hs x hx, fun x hx p hp => ?_⟩
  by_cases z : x = k
  · subst z; rw [xup_at]; exact pH_ok p hp
  · rw [va_up_ne _ _ z]; exact hW x (by omega) p hp
theorem pT_ok {tb : Nat → Int32} {L : Nat} : ∀ (m k q : Nat) (s : Nat → Int32) (W : Nat → Nat → Int32), k + m ≤ 8 → (∀ x, x < k → 0 < (s x).toInt) → (∀ x, x < k → ∀ p, p < 8 → 0 ≤ (W x p).toInt ∧ (W x p).toInt ≤ 99) → (pT tb L m k q s W).1 = true → tGd (pT tb L m k q s W).2.2.1 (pT tb L m k q s W).2.2.2.1 (pT tb L m k q s W).2.2.2.2
  | 0, k, q, s, W, hm, hs, hW, h => by
    unfold pT at h ⊢
    by_cases a : tIw tb L q 2 = true
    · rw [if_pos a] at h ⊢
      by_cases b : (pH tb L (tNx tb L q)).1 = true ∧ tKd tb L (pH tb L (tNx tb L q)).2.1 = 0
      · rw [if_pos b]; exact pT_rest (k := k) (q' := 0) (by omega) hs hW
      · rw [if_neg b] at h; exact absurd h (by simp)
    · rw [if_neg a] at h; exact absurd h (by simp)
  | m + 1, k, q, s, W, hm, hs, hW, h => by
    unfold pT at h ⊢
    by_cases f : tIw tb L q 0 = true
    · rw [if_pos f] at h ⊢
      by_cases c : tNm tb L (tNx tb L q) 1 999999 = -1
      · rw [if_pos c] at h; exact absurd h (by simp)
      · rw [if_neg c] at h ⊢
        by_cases d : (pH tb L (tNx tb L (tNx tb L q))).1 = true
        · rw [if_pos d] at h ⊢
          obtain ⟨_, _, n1, _⟩ := tNm_r c
          rw [i1] at n1
          refine pT_ok m (k + 1) _ _ _ (by omega) (fun x hx => ?_) (fun x hx p hp => ?_) h
          · by_cases z : x = k
            · subst z; rw [xup_at]; omega
            · rw [va_up_ne _ _ z]; exact hs x (by omega)
          · by_cases z : x = k
            · subst z; rw [xup_at]; exact pH_ok p hp
            · rw [va_up_ne _ _ z]; exact hW x (by omega) p hp
        · rw [if_neg d] at h; exact absurd h (by simp)
    · rw [if_neg f] at h ⊢
      by_cases a : tIw tb L q 2 = true
      · rw [if_pos a] at h ⊢
        by_cases b : (pH tb L (tNx tb L q)).1 = true ∧ tKd tb L (pH tb L (tNx tb L q)).2.1 = 0
        · rw [if_pos b]; exact pT_rest (k := k) (q' := 0) (by omega) hs hW
        · rw [if_neg b] at h; exact absurd h (by simp)
      · rw [if_neg a] at h; exact absurd h (by simp)
theorem spR_u {S : xS} {sa ns : Nat} {u u' : Nat → Int32} (h : ∀ j, 159 ≤ j → u' j = u j) (s : spR S sa u ns) : spR S sa u' ns := by
  have e : (fun j => u' (208 + j)) = fun j => u (208 + j) := funext fun j => h _ (by omega)
  unfold spR at *
  rw [h 159 (by omega), e]
  refine ⟨s.1, s.2.1, fun k hk => ?_⟩
  rw [h (160 + 6 * k) (by omega), h (160 + 6 * k + 1) (by omega), h (160 + 6 * k + 2) (by omega), h (160 + 6 * k + 3) (by omega), h (160 + 6 * k + 4) (by omega), h (160 + 6 * k + 5) (by omega)]
  exact s.2.2 k hk
theorem gTS_t {T : xT} {S : xS} {ta ta' sa fi : Nat} {s u u' : Nat → Int32} {W : Nat → Nat → Int32} (g : gTS T S ta' sa u) (ti : xTi T S.2.2 ta) (ht : tOk S ta fi s W) (hg : tGd fi s W) (h77 : u' 77 = nI fi) (hs : ∀ k, k ≤ fi → rsu u' k = s k) (hw : ∀ k p, k ≤ fi → p < 8 → rtw u' k p = W k p) (hu : ∀ j, 159 ≤ j → u' j = u j) : gTS T S ta sa u' := by
  obtain ⟨_, ns, _, b, _, d⟩ := g
  have et : ∀ k p, k ≤ fi → p < 8 → tw S ta k p = W k p := fun k p hk hp => by
    show S.1 (ta + 2) (k * 8 + p) = _
    rw [Nat.mul_comm k 8]
    exact ht.2.2 k hk p hp
  refine ⟨fi, ns, ⟨ti, ht.1, by have := hg.1; omega, fun k p hk hp => ?_, fun k hk => ?_⟩, b, ⟨⟨h77, by have := hg.1; omega, fun k p hk hp => ?_, fun k hk => ?_⟩, fun k hk => ?_, fun k p hk hp => ?_⟩, spR_u hu d⟩
  · rw [et k p hk hp]; exact hg.2.2 k hk p hp
  · rw [ht.2.1 k (by omega)]; exact hg.2.1 k hk
  · rw [hw k p hk hp]; exact hg.2.2 k hk p hp
  · rw [hs k (by omega)]; exact hg.2.1 k hk
  · rw [ht.2.1 k hk, hs k hk]
  · rw [et k p hk hp, hw k p hk hp]
theorem i_tiers {T : xT} {S : xS} {b : Nat} (hb : T.2.2 = b + 1) (hk : T.1 b = 8) (h215 : 215 ≤ b) : ∃ T' S', f_X8_init T S b = some (T', S') ∧ T'.2.2 = b + 3 ∧ (∀ a, a ≤ b → T'.1 a = T.1 a ∧ T'.2.1 a = T.2.1 a) ∧ (∀ a, a < b → S'.1 a = S.1 a ∧ S'.2.1 a = S.2.1 a ∧ S'.2.2 a = S.2.2 a) ∧ xTi T' S'.2.2 b ∧ tOk S' b 0 (fun _ => -1) (fun _ _ => 1) := by
  have h0 : iA T (xI S b 0 1) b 1 0 (fun j => (20, if j = 1 then 9 else 72)) T (xI S b 0 1) := iA_0 hb
  have h1 := iA_s (kd := 20) (len := 9) (k := 1) h0 rfl rfl
  have h2 := iA_s (kd := 20) (len := 72) (k := 2) h1 rfl rfl
  have ev : f_X8_init T S b = xgr (xTn (xTn T 20 9) 20 72) (xR (xSn (xR (xSn (xI S b 0 1) T.2.2) b 1 (some T.2.2)) (xTn T 20 9).2.2) b 2 (some (xTn T 20 9).2.2)) b 1 20 (fun a10 => xst (xTn (xTn T 20 9) 20 72) (xR (xSn (xR (xSn (xI S b 0 1) T.2.2) b 1 (some T.2.2)) (xTn T 20 9).2.2) b 2 (some (xTn T 20 9).2.2)) a10 (0 : Int32) (-1 : Int32) (fun S11 => xgr (xTn (xTn T 20 9) 20 72) S11 b 2 20 (fun a12 => xcv (f_J7_fill_fda19 (xTn (xTn T 20 9) 20 72) S11 a12 ((0 : Int32)) ((8 : Int32)) ((1 : Int32))) (fun S13 => some ((xTn (xTn T 20 9) 20 72), S13))))) := by
    unfold f_X8_init
    rw [xpi_e, iA_e h0 hk, iA_e h1 hk]
  rw [ev]
  generalize xTn (xTn T 20 9) 20 72 = T7 at *
  generalize xR (xSn (xR (xSn (xI S b 0 1) T.2.2) b 1 (some T.2.2)) (xTn T 20 9).2.2) b 2 (some (xTn T 20 9).2.2) = S9 at *
  obtain ⟨n7, t7, r7, a7, f7⟩ := h2
  have k1 := a7 1 (by decide) (by decide)
  have k2 := a7 2 (by decide) (by decide)
  have f1 : S9.2.2 b 1 = some (b + 1) := f7 0 (by decide)
  have f2 : S9.2.2 b 2 = some (b + 2) := f7 1 (by decide)
  have w1 : S9.1 b 0 = 1 := by rw [(t7 b (Nat.le_refl _)).2.2.1, xI_1, xup_at]
  have e0 : T7.1 b = 8 := by rw [(t7 b (Nat.le_refl _)).1]; exact hk
  have ti : xTi T7 S9.2.2 b := ⟨Or.inr h215, ⟨by omega, e0, k1.1, k2.1, k1.2.1, k2.2.1⟩, f1, f2⟩
  rw [xgr_mk f1 (by omega) k1.1, show (0 : Int32) = nI 0 from rfl, xst_n (N := 9) k1.2.1 (by decide) (by decide), xgr_mk (S := xI S9 (b + 1) 0 (-1)) f2 (by omega) k2.1, show (8 : Int32) = nI 8 from rfl, g_fill2 (N := 72) k2.2.1 (by decide) (by decide) (by decide), xcv_e]
  refine ⟨_, _, rfl, by omega, fun a ha => ⟨(t7 a ha).1, (t7 a ha).2.1⟩, fun a ha => ⟨?_, ?_, ?_⟩, ti, ?_, fun k hk => ?_, fun k hk p hp => ?_⟩
  · rw [xw_ne _ _ (by omega), xI_ne (by omega), (t7 a (by omega)).2.2.1, xI_ne (by omega)]
  · show S9.2.1 a = _
    rw [(t7 a (by omega)).2.2.2]; rfl
  · show S9.2.2 a = _
    rw [r7 a ha]; rfl
  · rw [xw_ne _ _ (by omega), xI_ne (by omega), w1]; rfl
  · obtain rfl : k = 0 := by omega
    rw [xw_ne _ _ (by omega), xI_1, xup_at]
  · obtain rfl : k = 0 := by omega
    rw [xw_1]
    show (if 0 ≤ 8 * 0 + p ∧ 8 * 0 + p < 8 then (1 : Int32) else _) = 1
    rw [if_pos (by omega)]
