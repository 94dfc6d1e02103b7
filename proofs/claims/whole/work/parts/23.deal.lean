/-! DEALT: a sum by weights -/
def dAll (w : Nat → Int32) : Int64 := xsmj (fun k => (w k).toInt64) 8 0 0
def dQ (n : Int32) (w : Nat → Int32) (k : Nat) : Int32 := ((n.toInt64 * (w k).toInt64) / dAll w).toInt32
/-- what is left: c less g i, g (i+1) .. -/
def xsb (g : Nat → Int32) : Nat → Nat → Int32 → Int32
  | 0, _, c => c
  | m + 1, i, c => xsb g m (i + 1) (c - g i)
/-- one more for each that has a weight, while something is left -/
def dB (w : Nat → Int32) : Nat → Nat → Int32 → (Nat → Int32) → Nat → Int32
  | 0, _, _, f => f
  | m + 1, i, c, f => if c ≤ 0 then f else if w i ≤ 0 then dB w m (i + 1) c f else dB w m (i + 1) (c + (-1)) (va_up f i (f i + 1))
def dL (n : Int32) (w : Nat → Int32) : Int32 := xsb (dQ n w) 8 0 n
def dl (n : Int32) (w : Nat → Int32) : Nat → Int32 := if 0 < n ∧ 0 < dAll w then dB w 8 0 (dL n w) (dQ n w) else fun _ => 0
theorem dB_cong (w : Nat → Int32) : ∀ (m i : Nat) (c : Int32) (f g : Nat → Int32), (∀ k, k < 8 → f k = g k) → i + m ≤ 8 → ∀ k, k < 8 → dB w m i c f k = dB w m i c g k
  | 0, i, c, f, g, h, hi, k, hk => h k hk
  | m + 1, i, c, f, g, h, hi, k, hk => by
    unfold dB
    by_cases h1 : c ≤ 0
    · rw [if_pos h1, if_pos h1]; exact h k hk
    · rw [if_neg h1, if_neg h1]
      by_cases h2 : w i ≤ 0
      · rw [if_pos h2, if_pos h2]; exact dB_cong w m (i + 1) c f g h (by omega) k hk
      · rw [if_neg h2, if_neg h2]
        refine dB_cong w m (i + 1) _ _ _ (fun j hj => ?_) (by omega) k hk
        by_cases hji : j = i
        · subst hji; rw [xup_at, xup_at, h j hj]
        · rw [va_up_ne _ _ hji, va_up_ne _ _ hji, h j hj]
theorem dB_congw (w v : Nat → Int32) (hv : ∀ k, k < 8 → v k = w k) : ∀ (m i : Nat) (c : Int32) (f : Nat → Int32), i + m ≤ 8 → dB v m i c f = dB w m i c f
  | 0, i, c, f, hi => rfl
  | m + 1, i, c, f, hi => by
    unfold dB
    rw [hv i (by omega), dB_congw w v hv m (i + 1) c f (by omega), dB_congw w v hv m (i + 1) _ _ (by omega)]
theorem xsb_cong (g f : Nat → Int32) : ∀ (m i : Nat) (c : Int32), (∀ k, i ≤ k → k < i + m → g k = f k) → xsb g m i c = xsb f m i c
  | 0, i, c, h => rfl
  | m + 1, i, c, h => by
    show xsb g m (i + 1) (c - g i) = xsb f m (i + 1) (c - f i)
    rw [h i (Nat.le_refl i) (by omega), xsb_cong g f m (i + 1) _ (fun k h1 h2 => h k (by omega) (by omega))]
theorem xsmj_cong (g f : Nat → Int64) : ∀ (m i : Nat) (c : Int64), (∀ k, i ≤ k → k < i + m → g k = f k) → xsmj g m i c = xsmj f m i c
  | 0, i, c, h => rfl
  | m + 1, i, c, h => by
    show xsmj g m (i + 1) (c + g i) = xsmj f m (i + 1) (c + f i)
    rw [h i (Nat.le_refl i) (by omega), xsmj_cong g f m (i + 1) _ (fun k h1 h2 => h k (by omega) (by omega))]
/-- weights that are alike below 8 deal alike -/
theorem dl_cong {n : Int32} {v w : Nat → Int32} (h : ∀ k, k < 8 → v k = w k) : ∀ k, k < 8 → dl n v k = dl n w k := by
  have ha : dAll v = dAll w := xsmj_cong _ _ 8 0 0 (fun k _ h2 => by rw [h k (by omega)])
  have hq : ∀ k, k < 8 → dQ n v k = dQ n w k := fun k hk => by unfold dQ; rw [ha, h k hk]
  have hL : dL n v = dL n w := xsb_cong _ _ 8 0 n (fun k _ h2 => hq k (by omega))
  intro k hk
  unfold dl
  rw [ha]
  by_cases hc : 0 < n ∧ 0 < dAll w
  · rw [if_pos hc, if_pos hc, hL, dB_congw w v h 8 0 _ _ (by omega)]
    exact dB_cong w 8 0 _ _ _ hq (by omega) k hk
  · rw [if_neg hc, if_neg hc]
/-! numbers of it -/
theorem dAll_i {w : Nat → Int32} (hw : ∀ k, k < 8 → 0 ≤ (w k).toInt) : (dAll w).toInt = xS8 (fun k => (w k).toInt) 8 0 := by
  unfold dAll
  rw [xsmj_i w hw 8 0 0 (by omega) (by decide) (by decide)]
  simp
theorem dQ_i {n : Int32} {w : Nat → Int32} (hw : ∀ k, k < 8 → 0 ≤ (w k).toInt) (hn : 0 ≤ n.toInt) (ha : 0 < (dAll w).toInt) {k : Nat} (hk : k < 8) : (dQ n w k).toInt = (n.toInt * (w k).toInt) / (dAll w).toInt := by
  have h1 := hw k hk
  have h2 := xhi (w k)
  have h3 := xhi n
  have hle : (w k).toInt ≤ (dAll w).toInt := by
    rw [dAll_i hw]
    exact xS8_get (fun k => (w k).toInt) 8 0 k (by omega) (by omega) (fun j _ h => hw j (by omega))
  have hp0 : 0 ≤ n.toInt * (w k).toInt := Int.mul_nonneg hn h1
  have hp : n.toInt * (w k).toInt ≤ 2147483647 * 2147483647 := Int.mul_le_mul (by omega) (by omega) h1 (by decide)
  have hm : (n.toInt64 * (w k).toInt64).toInt = n.toInt * (w k).toInt := by
    rw [Int64.toInt_mul, Int32.toInt_toInt64, Int32.toInt_toInt64, xb64 (by omega) (by omega)]
  have hd0 : 0 ≤ (n.toInt * (w k).toInt) / (dAll w).toInt := Int.ediv_nonneg hp0 (by omega)
  have hd1 : (n.toInt * (w k).toInt) / (dAll w).toInt ≤ n.toInt := by
    apply Int.ediv_le_of_le_mul ha
    exact Int.mul_le_mul_of_nonneg_left hle hn
  have hdiv : (n.toInt64 * (w k).toInt64 / dAll w).toInt = (n.toInt * (w k).toInt) / (dAll w).toInt := by
    rw [Int64.toInt_div, hm, Int.tdiv_eq_ediv_of_nonneg hp0, xb64 (by omega) (by omega)]
  unfold dQ
  rw [Int64.toInt_toInt32, hdiv, xb32 (by omega) (by omega)]
