theorem xS8_up {f : Nat → Int32} {i : Nat} {v : Int32} : ∀ (m j : Nat), j ≤ i → i < j + m → xS8 (fun k => (va_up f i v k).toInt) m j = xS8 (fun k => (f k).toInt) m j + (v.toInt - (f i).toInt)
  | 0, j, h1, h2 => by omega
  | m + 1, j, h1, h2 => by
    show (va_up f i v j).toInt + xS8 (fun k => (va_up f i v k).toInt) m (j + 1) = (f j).toInt + xS8 (fun k => (f k).toInt) m (j + 1) + (v.toInt - (f i).toInt)
    by_cases hj : j = i
    · subst hj
      rw [xup_at, xS8_cong (fun k => (va_up f j v k).toInt) (fun k => (f k).toInt) m (j + 1) (fun k h3 h4 => by rw [va_up_ne _ _ (by omega)])]
      omega
    · rw [va_up_ne _ _ hj, xS8_up m (j + 1) (by omega) (by omega)]
      omega
/-- how many of the m from i on have a weight -/
def dC (w : Nat → Int32) : Nat → Nat → Int
  | 0, _ => 0
  | m + 1, i => (if w i ≤ 0 then 0 else 1) + dC w m (i + 1)
theorem dC_nn (w : Nat → Int32) : ∀ (m i : Nat), 0 ≤ dC w m i
  | 0, i => Int.le_refl 0
  | m + 1, i => by
    have := dC_nn w m (i + 1)
    show 0 ≤ (if w i ≤ 0 then 0 else 1) + dC w m (i + 1)
    by_cases h : w i ≤ 0
    · rw [if_pos h]; omega
    · rw [if_neg h]; omega
theorem dB_low (w : Nat → Int32) : ∀ (m i : Nat) (c : Int32) (f : Nat → Int32) (k : Nat), k < i → dB w m i c f k = f k
  | 0, i, c, f, k, h => rfl
  | m + 1, i, c, f, k, h => by
    unfold dB
    by_cases h1 : c ≤ 0
    · rw [if_pos h1]
    · rw [if_neg h1]
      by_cases h2 : w i ≤ 0
      · rw [if_pos h2]; exact dB_low w m (i + 1) c f k (by omega)
      · rw [if_neg h2, dB_low w m (i + 1) _ _ k (by omega), va_up_ne _ _ (by omega)]
theorem dB_spec (w : Nat → Int32) (N : Int) (hN : N < 2147483648) : ∀ (m i : Nat) (c : Int32) (f : Nat → Int32), i + m ≤ 8 → (∀ k, k < 8 → 0 ≤ (f k).toInt) → 0 ≤ c.toInt → xS8 (fun k => (f k).toInt) 8 0 + c.toInt = N →
    (∀ k, k < 8 → (f k).toInt ≤ (dB w m i c f k).toInt ∧ (dB w m i c f k).toInt ≤ (f k).toInt + 1 ∧ (w k ≤ 0 → dB w m i c f k = f k)) ∧ xS8 (fun k => (dB w m i c f k).toInt) 8 0 = xS8 (fun k => (f k).toInt) 8 0 + min c.toInt (dC w m i)
  | 0, i, c, f, hi, hf, hc, hs => by
    refine ⟨fun k hk => ⟨Int.le_refl _, by show (f k).toInt ≤ _; omega, fun _ => rfl⟩, ?_⟩
    show xS8 (fun k => (f k).toInt) 8 0 = xS8 (fun k => (f k).toInt) 8 0 + min c.toInt 0
    omega
  | m + 1, i, c, f, hi, hf, hc, hs => by
    have hcn := dC_nn w m (i + 1)
    unfold dB dC
    by_cases h1 : c ≤ 0
    · rw [if_pos h1]
      have h1' := (xle0 c).mp h1
      refine ⟨fun k hk => ⟨Int.le_refl _, by omega, fun _ => rfl⟩, ?_⟩
      by_cases h2 : w i ≤ 0
      · rw [if_pos h2]; omega
      · rw [if_neg h2]; omega
    · rw [if_neg h1]
      have h1' : 0 < c.toInt := by
        rw [xle0] at h1; omega
      by_cases h2 : w i ≤ 0
      · rw [if_pos h2, if_pos h2]
        have ih := dB_spec w N hN m (i + 1) c f (by omega) hf hc hs
        refine ⟨ih.1, ?_⟩
        rw [ih.2]; omega
      · rw [if_neg h2, if_neg h2]
        have hfi := hf i (by omega)
        have hle := xS8_get (fun k => (f k).toInt) 8 0 i (by omega) (by omega) (fun j _ h => hf j (by omega))
        have hle' : (f i).toInt ≤ xS8 (fun k => (f k).toInt) 8 0 := hle
        have e1 : (f i + 1).toInt = (f i).toInt + 1 := by
          have h11 : (1 : Int32).toInt = 1 := by decide
          rw [xadd (by rw [h11]; omega) (by rw [h11]; omega), h11]
        have e2 : (c + (-1)).toInt = c.toInt - 1 := by
          have h11 : (-1 : Int32).toInt = -1 := by decide
          have := xhi c
          rw [xadd (by rw [h11]; omega) (by rw [h11]; omega), h11]; omega
        have hs8 := xS8_up (f := f) (i := i) (v := f i + 1) 8 0 (by omega) (by omega)
        have ih := dB_spec w N hN m (i + 1) (c + (-1)) (va_up f i (f i + 1)) (by omega) (fun k hk => by
          by_cases hk2 : k = i
          · subst hk2; rw [xup_at, e1]; omega
          · rw [va_up_ne _ _ hk2]; exact hf k hk) (by omega) (by rw [hs8, e1, e2]; omega)
        refine ⟨fun k hk => ?_, ?_⟩
        · have h3 := ih.1 k hk
          by_cases hk2 : k = i
          · subst hk2
            rw [dB_low w m (k + 1) _ _ k (by omega), xup_at, e1]
            exact ⟨by omega, Int.le_refl _, fun q => absurd q h2⟩
          · rw [va_up_ne _ _ hk2] at h3
            exact h3
        · rw [ih.2, hs8, e1, e2]; omega
theorem xsb_i (g : Nat → Int32) (hg : ∀ k, k < 8 → 0 ≤ (g k).toInt) : ∀ (m i : Nat) (c : Int32), i + m ≤ 8 → xS8 (fun k => (g k).toInt) m i ≤ c.toInt → (xsb g m i c).toInt = c.toInt - xS8 (fun k => (g k).toInt) m i
  | 0, i, c, h, h1 => by show c.toInt = c.toInt - 0; omega
  | m + 1, i, c, h, h1 => by
    have hi := hg i (by omega)
    have hn := xS8_nn (fun k => (g k).toInt) m (i + 1) (fun k _ h3 => hg k (by omega))
    have h1' : (g i).toInt + xS8 (fun k => (g k).toInt) m (i + 1) ≤ c.toInt := h1
    have hc := xhi c
    have e1 : (c - g i).toInt = c.toInt - (g i).toInt := xsub (by omega) (by omega)
    show (xsb g m (i + 1) (c - g i)).toInt = c.toInt - ((g i).toInt + xS8 (fun k => (g k).toInt) m (i + 1))
    rw [xsb_i g hg m (i + 1) _ (by omega) (by rw [e1]; omega), e1]; omega
/-- n A = Σ n w; each n w lies between A q and A q + A -/
theorem dq_sum (n A : Int) (w q : Nat → Int) (hA : 0 < A) : ∀ (m i : Nat), (∀ k, i ≤ k → k < i + m → A * q k ≤ n * w k ∧ n * w k < A * q k + A ∧ (w k ≤ 0 → n * w k = A * q k)) → A * xS8 q m i ≤ n * xS8 w m i
  | 0, i, h => by show A * 0 ≤ n * 0; simp
  | m + 1, i, h => by
    have h1 := h i (Nat.le_refl i) (by omega)
    have ih := dq_sum n A w q hA m (i + 1) (fun k h3 h4 => h k (by omega) (by omega))
    show A * (q i + xS8 q m (i + 1)) ≤ n * (w i + xS8 w m (i + 1))
    rw [Int.mul_add, Int.mul_add]
    omega
theorem dq_sum2 (n A : Int) (w : Nat → Int32) (q : Nat → Int) (hA : 0 < A) : ∀ (m i : Nat), (∀ k, i ≤ k → k < i + m → A * q k ≤ n * (w k).toInt ∧ n * (w k).toInt < A * q k + A ∧ ((w k).toInt ≤ 0 → n * (w k).toInt = A * q k)) → n * xS8 (fun k => (w k).toInt) m i ≤ A * xS8 q m i + (A - 1) * dC w m i
  | 0, i, h => by show n * 0 ≤ A * 0 + (A - 1) * 0; simp
  | m + 1, i, h => by
    have h1 := h i (Nat.le_refl i) (by omega)
    have ih := dq_sum2 n A w q hA m (i + 1) (fun k h3 h4 => h k (by omega) (by omega))
    show n * ((w i).toInt + xS8 (fun k => (w k).toInt) m (i + 1)) ≤ A * (q i + xS8 q m (i + 1)) + (A - 1) * ((if w i ≤ 0 then 0 else 1) + dC w m (i + 1))
    rw [Int.mul_add, Int.mul_add, Int.mul_add]
    by_cases hw : w i ≤ 0
    · rw [if_pos hw]
      have := h1.2.2 ((xle0 _).mp hw)
      have hz : (A - 1) * 0 = 0 := by simp
      rw [hz]; omega
    · rw [if_neg hw]
      have hz : (A - 1) * 1 = A - 1 := by simp
      rw [hz]; omega
theorem dQ_two {n : Int32} {w : Nat → Int32} (hw : ∀ k, k < 8 → 0 ≤ (w k).toInt) (hn : 0 ≤ n.toInt) (ha : 0 < (dAll w).toInt) {k : Nat} (hk : k < 8) : (dAll w).toInt * (dQ n w k).toInt ≤ n.toInt * (w k).toInt ∧ n.toInt * (w k).toInt < (dAll w).toInt * (dQ n w k).toInt + (dAll w).toInt ∧ ((w k).toInt ≤ 0 → n.toInt * (w k).toInt = (dAll w).toInt * (dQ n w k).toInt) := by
  rw [dQ_i hw hn ha hk]
  have h0 := Int.mul_ediv_add_emod (n.toInt * (w k).toInt) (dAll w).toInt
  have h1 := Int.emod_nonneg (n.toInt * (w k).toInt) (show (dAll w).toInt ≠ 0 by omega)
  have h2 := Int.emod_lt_of_pos (n.toInt * (w k).toInt) ha
  refine ⟨by omega, by omega, fun h3 => ?_⟩
  have h4 := hw k hk
  have h5 : (w k).toInt = 0 := by omega
  rw [h5]; simp
/-- all of it: parts are not below 0, nothing without a weight, their sum is n; none is above its weight if n isn't above all weights -/
theorem dl_all {n : Int32} {w : Nat → Int32} (hw : ∀ k, k < 8 → 0 ≤ (w k).toInt) (hn : 0 < n.toInt) (ha : 0 < xS8 (fun k => (w k).toInt) 8 0) :
    (0 < n ∧ 0 < dAll w) ∧ 0 ≤ (dL n w).toInt ∧ (∀ k, k < 8 → 0 ≤ (dl n w k).toInt ∧ ((w k).toInt = 0 → (dl n w k).toInt = 0)) ∧ xS8 (fun k => (dl n w k).toInt) 8 0 = n.toInt ∧ (n.toInt ≤ xS8 (fun k => (w k).toInt) 8 0 → ∀ k, k < 8 → (dl n w k).toInt ≤ (w k).toInt) := by
  rw [← dAll_i hw] at ha ⊢
  have hc : 0 < n ∧ 0 < dAll w := ⟨(xgt0 n).mpr hn, Int64.lt_iff_toInt_lt.mpr (by simpa using ha)⟩
  have hn0 : 0 ≤ n.toInt := by omega
  have hqn : ∀ k, k < 8 → 0 ≤ (dQ n w k).toInt := fun k hk => by
    rw [dQ_i hw hn0 ha hk]; exact Int.ediv_nonneg (Int.mul_nonneg hn0 (hw k hk)) (by omega)
  have hs := dq_sum n.toInt (dAll w).toInt (fun k => (w k).toInt) (fun k => (dQ n w k).toInt) ha 8 0 (fun k _ h => dQ_two hw hn0 ha (by omega))
  have hs2 := dq_sum2 n.toInt (dAll w).toInt w (fun k => (dQ n w k).toInt) ha 8 0 (fun k _ h => dQ_two hw hn0 ha (by omega))
  rw [← dAll_i hw, Int.mul_comm n.toInt] at hs hs2
  have hle : xS8 (fun k => (dQ n w k).toInt) 8 0 ≤ n.toInt := Int.le_of_mul_le_mul_left hs ha
  have hL : (dL n w).toInt = n.toInt - xS8 (fun k => (dQ n w k).toInt) 8 0 := xsb_i _ hqn 8 0 n (by omega) hle
  have hcn := dC_nn w 8 0
  have hlt : n.toInt - xS8 (fun k => (dQ n w k).toInt) 8 0 ≤ dC w 8 0 := by
    have e1 : (dAll w).toInt * n.toInt - (dAll w).toInt * xS8 (fun k => (dQ n w k).toInt) 8 0 = (dAll w).toInt * (n.toInt - xS8 (fun k => (dQ n w k).toInt) 8 0) := (Int.mul_sub _ _ _).symm
    have e2 : ((dAll w).toInt - 1) * dC w 8 0 ≤ (dAll w).toInt * dC w 8 0 := by
      rw [Int.sub_mul]; omega
    exact Int.le_of_mul_le_mul_left (a := (dAll w).toInt) (by omega) ha
  have hN := xhi n
  have hsp := dB_spec w n.toInt hN 8 0 (dL n w) (dQ n w) (by omega) hqn (by omega) (by omega)
  have hdl : dl n w = dB w 8 0 (dL n w) (dQ n w) := by unfold dl; rw [if_pos hc]
  refine ⟨hc, by omega, fun k hk => ?_, ?_, fun hna k hk => ?_⟩
  · rw [hdl]
    have h1 := hsp.1 k hk
    have h2 := hqn k hk
    refine ⟨by omega, fun hz => ?_⟩
    rw [h1.2.2 ((xle0 _).mpr (by omega)), dQ_i hw hn0 ha hk, hz]
    simp
  · rw [hdl, hsp.2]; omega
  · rw [hdl]
    have h1 := hsp.1 k hk
    have h2 := dQ_two hw hn0 ha hk
    have h3 := hw k hk
    by_cases hz : (w k).toInt = 0
    · rw [h1.2.2 ((xle0 _).mpr (by omega)), dQ_i hw hn0 ha hk, hz]
      simp
    · by_cases he : n.toInt = (dAll w).toInt
      · -- all is given exactly
        have hq : ∀ j, j < 8 → (dQ n w j).toInt = (w j).toInt := fun j hj => by
          rw [dQ_i hw hn0 ha hj, he]
          exact Int.mul_ediv_cancel_left _ (by omega)
        have hq8 : xS8 (fun k => (dQ n w k).toInt) 8 0 = n.toInt := by
          rw [he, dAll_i hw]
          exact xS8_cong _ _ 8 0 (fun j _ hj => hq j (by omega))
        have h0 : (dL n w).toInt = 0 := by omega
        have hb : dB w 8 0 (dL n w) (dQ n w) = dQ n w := by
          unfold dB
          rw [if_pos ((xle0 _).mpr (by omega))]
        rw [hb, hq k hk]
        omega
      · have h4 : n.toInt * (w k).toInt < (dAll w).toInt * (w k).toInt := Int.mul_lt_mul_of_pos_right (by omega) (by omega)
        have h5 : (dQ n w k).toInt < (w k).toInt := Int.lt_of_mul_lt_mul_left (a := (dAll w).toInt) (by omega) (by omega)
        omega
theorem dl_0 {n : Int32} {w : Nat → Int32} (h : ¬ (0 < n ∧ 0 < dAll w)) (k : Nat) : dl n w k = 0 := by unfold dl; rw [if_neg h]
theorem dAll_pos {w : Nat → Int32} (hw : ∀ k, k < 8 → 0 ≤ (w k).toInt) : (0 < dAll w) ↔ 0 < xS8 (fun k => (w k).toInt) 8 0 := by
  rw [← dAll_i hw, Int64.lt_iff_toInt_lt]; simp
/-- without conditions: parts are not below 0, nothing without a weight, none is above its weight if n isn't above them all -/
theorem dl_nn {n : Int32} {w : Nat → Int32} (hw : ∀ k, k < 8 → 0 ≤ (w k).toInt) {k : Nat} (hk : k < 8) : 0 ≤ (dl n w k).toInt ∧ ((w k).toInt = 0 → (dl n w k).toInt = 0) := by
  by_cases hc : 0 < n ∧ 0 < dAll w
  · exact (dl_all hw ((xgt0 n).mp hc.1) ((dAll_pos hw).mp hc.2)).2.2.1 k hk
  · rw [dl_0 hc]; exact ⟨by decide, fun _ => by decide⟩
