/-! numbers -/
theorem xb32 {n : Int} (h1 : -2147483648 ≤ n) (h2 : n < 2147483648) : n.bmod (2 ^ 32) = n := Int.bmod_eq_of_le (by simpa using h1) (by simpa using h2)
theorem xb64 {n : Int} (h1 : -9223372036854775808 ≤ n) (h2 : n < 9223372036854775808) : n.bmod (2 ^ 64) = n := Int.bmod_eq_of_le (by simpa using h1) (by simpa using h2)
theorem xlo (x : Int32) : -2147483648 ≤ x.toInt := by have := Int32.le_toInt x; simpa using this
theorem xhi (x : Int32) : x.toInt < 2147483648 := by have := Int32.toInt_lt x; simpa using this
theorem xadd {a b : Int32} (h1 : -2147483648 ≤ a.toInt + b.toInt) (h2 : a.toInt + b.toInt < 2147483648) : (a + b).toInt = a.toInt + b.toInt := by rw [Int32.toInt_add, xb32 h1 h2]
theorem xsub {a b : Int32} (h1 : -2147483648 ≤ a.toInt - b.toInt) (h2 : a.toInt - b.toInt < 2147483648) : (a - b).toInt = a.toInt - b.toInt := by rw [Int32.toInt_sub, xb32 h1 h2]
theorem xneg {a : Int32} (h1 : -2147483648 < a.toInt) : (-a).toInt = -a.toInt := by
  have := xhi a
  rw [Int32.toInt_neg, xb32 (by omega) (by omega)]
theorem xle (a b : Int32) : a ≤ b ↔ a.toInt ≤ b.toInt := Int32.le_iff_toInt_le
theorem xlt (a b : Int32) : a < b ↔ a.toInt < b.toInt := Int32.lt_iff_toInt_lt
theorem xeq (a b : Int32) : a = b ↔ a.toInt = b.toInt := Int32.toInt_inj.symm
theorem xle0 (a : Int32) : a ≤ 0 ↔ a.toInt ≤ 0 := by rw [xle]; simp
theorem xge0 (a : Int32) : 0 ≤ a ↔ 0 ≤ a.toInt := by rw [xle]; simp
theorem xlt0 (a : Int32) : a < 0 ↔ a.toInt < 0 := by rw [xlt]; simp
theorem xgt0 (a : Int32) : 0 < a ↔ 0 < a.toInt := by rw [xlt]; simp
theorem xeq0 (a : Int32) : a = 0 ↔ a.toInt = 0 := by rw [xeq]; simp
theorem xmax_i (a b : Int32) : (xmax a b).toInt = max a.toInt b.toInt := by
  unfold xmax
  by_cases h : a < b
  · rw [if_pos h]; rw [xlt] at h; omega
  · rw [if_neg h]; rw [xlt] at h; omega
theorem xmin_i (a b : Int32) : (xmin a b).toInt = min a.toInt b.toInt := by
  unfold xmin
  by_cases h : b < a
  · rw [if_pos h]; rw [xlt] at h; omega
  · rw [if_neg h]; rw [xlt] at h; omega
theorem xcmp_pos (c : Int64) : (0 < lg_cmp c 0) ↔ 0 < c := by
  unfold lg_cmp
  by_cases h : c > 0
  · rw [if_pos h]; exact ⟨fun _ => h, fun _ => by decide⟩
  · rw [if_neg h]
    constructor
    · intro q
      by_cases h2 : c = 0
      · rw [if_pos h2] at q; exact absurd q (by decide)
      · rw [if_neg h2] at q; exact absurd q (by decide)
    · intro q; exact absurd q h
theorem xcmp_z (c : Int64) : (lg_cmp c 0 = 0) ↔ c = 0 := by
  unfold lg_cmp
  by_cases h : c > 0
  · rw [if_pos h]
    constructor
    · intro q; exact absurd q (by decide)
    · intro q; subst q; exact absurd h (by decide)
  · rw [if_neg h]
    by_cases h2 : c = 0
    · rw [if_pos h2]; exact ⟨fun _ => h2, fun _ => rfl⟩
    · rw [if_neg h2]; exact ⟨fun q => absurd q (by decide), fun q => absurd q h2⟩
theorem xcmp_npos (c : Int64) : (lg_cmp c 0 ≤ 0) ↔ ¬ 0 < c := by
  rw [← xcmp_pos]
  constructor
  · intro h q
    rw [xle] at h; rw [xlt] at q; omega
  · intro h
    rw [xle]; rw [xlt] at h; omega
/-- sums of integers -/
def xS8 (g : Nat → Int) : Nat → Nat → Int
  | 0, _ => 0
  | m + 1, i => g i + xS8 g m (i + 1)
theorem xS8_nn (g : Nat → Int) : ∀ (m i : Nat), (∀ k, i ≤ k → k < i + m → 0 ≤ g k) → 0 ≤ xS8 g m i
  | 0, i, h => Int.le_refl 0
  | m + 1, i, h => by
    have h1 := h i (Nat.le_refl i) (by omega)
    have h2 := xS8_nn g m (i + 1) (fun k h3 h4 => h k (by omega) (by omega))
    show 0 ≤ g i + xS8 g m (i + 1)
    omega
theorem xS8_le (g f : Nat → Int) : ∀ (m i : Nat), (∀ k, i ≤ k → k < i + m → g k ≤ f k) → xS8 g m i ≤ xS8 f m i
  | 0, i, h => Int.le_refl 0
  | m + 1, i, h => by
    have h1 := h i (Nat.le_refl i) (by omega)
    have h2 := xS8_le g f m (i + 1) (fun k h3 h4 => h k (by omega) (by omega))
    show g i + xS8 g m (i + 1) ≤ f i + xS8 f m (i + 1)
    omega
theorem xS8_cong (g f : Nat → Int) : ∀ (m i : Nat), (∀ k, i ≤ k → k < i + m → g k = f k) → xS8 g m i = xS8 f m i
  | 0, i, h => rfl
  | m + 1, i, h => by
    have h1 := h i (Nat.le_refl i) (by omega)
    have h2 := xS8_cong g f m (i + 1) (fun k h3 h4 => h k (by omega) (by omega))
    show g i + xS8 g m (i + 1) = f i + xS8 f m (i + 1)
    omega
theorem xS8_add (g f : Nat → Int) : ∀ (m i : Nat), xS8 (fun k => g k + f k) m i = xS8 g m i + xS8 f m i
  | 0, i => rfl
  | m + 1, i => by
    have := xS8_add g f m (i + 1)
    show g i + f i + xS8 (fun k => g k + f k) m (i + 1) = (g i + xS8 g m (i + 1)) + (f i + xS8 f m (i + 1))
    omega
theorem xS8_get (g : Nat → Int) : ∀ (m i k : Nat), i ≤ k → k < i + m → (∀ j, i ≤ j → j < i + m → 0 ≤ g j) → g k ≤ xS8 g m i
  | 0, i, k, h1, h2, h => by omega
  | m + 1, i, k, h1, h2, h => by
    show g k ≤ g i + xS8 g m (i + 1)
    by_cases hk : k = i
    · subst hk
      have := xS8_nn g m (k + 1) (fun j h3 h4 => h j (by omega) (by omega))
      omega
    · have := xS8_get g m (i + 1) k (by omega) (by omega) (fun j h3 h4 => h j (by omega) (by omega))
      have := h i (Nat.le_refl i) (by omega)
      omega
/-- the long sum of what is not below 0 -/
theorem xsmj_i (w : Nat → Int32) (hw : ∀ k, k < 8 → 0 ≤ (w k).toInt) : ∀ (m i : Nat) (c : Int64), i + m ≤ 8 → 0 ≤ c.toInt → c.toInt ≤ 2147483648 * i → (xsmj (fun k => (w k).toInt64) m i c).toInt = c.toInt + xS8 (fun k => (w k).toInt) m i
  | 0, i, c, h, h0, h1 => by show c.toInt = c.toInt + 0; omega
  | m + 1, i, c, h, h0, h1 => by
    have hi := hw i (by omega)
    have hh := xhi (w i)
    have hc : (c + (w i).toInt64).toInt = c.toInt + (w i).toInt := by
      rw [Int64.toInt_add, Int32.toInt_toInt64, xb64 (by omega) (by omega)]
    show (xsmj (fun k => (w k).toInt64) m (i + 1) (c + (w i).toInt64)).toInt = c.toInt + ((w i).toInt + xS8 (fun k => (w k).toInt) m (i + 1))
    rw [xsmj_i w hw m (i + 1) _ (by omega) (by omega) (by omega), hc]
    omega
