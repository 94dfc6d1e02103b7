/-! numbers of the limits -/
theorem dl_le {n : Int32} {w : Nat → Int32} (hw : ∀ k, k < 8 → 0 ≤ (w k).toInt) : xS8 (fun k => (dl n w k).toInt) 8 0 ≤ max 0 n.toInt := by
  by_cases hc : 0 < n ∧ 0 < dAll w
  · have h := dl_all hw ((xgt0 n).mp hc.1) ((dAll_pos hw).mp hc.2)
    rw [h.2.2.2.1]; omega
  · have e : xS8 (fun k => (dl n w k).toInt) 8 0 = xS8 (fun _ => 0) 8 0 := xS8_cong _ _ 8 0 (fun k _ _ => by rw [dl_0 hc]; rfl)
    rw [e, show xS8 (fun _ => 0) 8 0 = 0 from rfl]; omega
theorem dl_eq {n : Int32} {w : Nat → Int32} (hw : ∀ k, k < 8 → 0 ≤ (w k).toInt) (hn : 0 < n.toInt) {p : Nat} (hp : p < 8) (h0 : 0 < (w p).toInt) : xS8 (fun k => (dl n w k).toInt) 8 0 = n.toInt := by
  have h1 := xS8_get (fun k => (w k).toInt) 8 0 p (by omega) (by omega) (fun j _ hj => hw j (by omega))
  have h1' : (w p).toInt ≤ xS8 (fun k => (w k).toInt) 8 0 := h1
  exact (dl_all hw hn (by omega)).2.2.2.1
theorem xsm_i (g : Nat → Int32) : ∀ (m i : Nat) (c : Int32), (∀ k, i ≤ k → k < i + m → 0 ≤ (g k).toInt) → 0 ≤ c.toInt → c.toInt + xS8 (fun k => (g k).toInt) m i < 2147483648 → (xsm g m i c).toInt = c.toInt + xS8 (fun k => (g k).toInt) m i
  | 0, i, c, h, h0, h1 => by show c.toInt = c.toInt + 0; omega
  | m + 1, i, c, h, h0, h1 => by
    have hi := h i (Nat.le_refl _) (by omega)
    have hn := xS8_nn (fun k => (g k).toInt) m (i + 1) (fun k h2 h3 => h k (by omega) (by omega))
    have h1' : c.toInt + ((g i).toInt + xS8 (fun k => (g k).toInt) m (i + 1)) < 2147483648 := h1
    have hc : (c + g i).toInt = c.toInt + (g i).toInt := xadd (by omega) (by omega)
    show (xsm g m (i + 1) (c + g i)).toInt = c.toInt + ((g i).toInt + xS8 (fun k => (g k).toInt) m (i + 1))
    rw [xsm_i g m (i + 1) _ (fun k h2 h3 => h k (by omega) (by omega)) (by omega) (by rw [hc]; omega), hc]
    omega
theorem xtot_i {g : Nat → Int32} (h : ∀ k, k < 8 → 0 ≤ (g k).toInt) (h1 : xS8 (fun k => (g k).toInt) 8 0 < 2147483648) : (xtot g).toInt = xS8 (fun k => (g k).toInt) 8 0 := by
  have e := xsm_i g 8 0 0 (fun k _ hk => h k (by omega)) (by decide) (by rw [show (0 : Int32).toInt = 0 from by decide]; omega)
  rw [show (0 : Int32).toInt = 0 from by decide] at e
  rw [show xtot g = xsm g 8 0 0 from rfl, e]; omega
theorem xS8_lt (g f : Nat → Int) : ∀ (m i : Nat), (∀ k, i ≤ k → k < i + m → g k ≤ f k) → (∃ p, i ≤ p ∧ p < i + m ∧ g p < f p) → xS8 g m i < xS8 f m i
  | 0, i, h, ⟨p, h1, h2, _⟩ => by omega
  | m + 1, i, h, ⟨p, h1, h2, h3⟩ => by
    have ha := h i (Nat.le_refl i) (by omega)
    show g i + xS8 g m (i + 1) < f i + xS8 f m (i + 1)
    by_cases hp : p = i
    · subst hp
      have := xS8_le g f m (p + 1) (fun k h4 h5 => h k (by omega) (by omega))
      omega
    · have := xS8_lt g f m (i + 1) (fun k h4 h5 => h k (by omega) (by omega)) ⟨p, by omega, by omega, h3⟩
      omega
/-- losses and rooms are well -/
def lOk (l r : Nat → Int32) : Prop := (∀ p, p < 8 → 0 ≤ (l p).toInt) ∧ (∀ p, p < 8 → 0 ≤ (r p).toInt) ∧ xS8 (fun p => (l p).toInt) 8 0 < 2147483648
theorem xcu_i {l r : Nat → Int32} (h : lOk l r) {p : Nat} (hp : p < 8) : (xcu l r p).toInt = max 0 ((l p).toInt - (r p).toInt) := by
  have h1 := h.1 p hp
  have h2 := h.2.1 p hp
  have h3 := xhi (l p)
  have h4 := xhi (r p)
  unfold xcu
  by_cases hc : l p ≤ r p
  · rw [if_pos hc]; rw [xle] at hc; rw [show (0 : Int32).toInt = 0 from by decide]; omega
  · rw [if_neg hc, xsub (by omega) (by omega)]; rw [xle] at hc; omega
theorem xct_i (l r : Nat → Int32) (p : Nat) : (xct l r p).toInt = min (l p).toInt (r p).toInt := by
  unfold xct
  by_cases hc : l p ≤ r p
  · rw [if_pos hc]; rw [xle] at hc; omega
  · rw [if_neg hc]; rw [xle] at hc; omega
theorem lOk_a {l r : Nat → Int32} (h : lOk l r) : (xtot (xcu l r)).toInt = xS8 (fun p => (xcu l r p).toInt) 8 0 ∧ 0 ≤ (xtot (xcu l r)).toInt ∧ xS8 (fun p => (xct l r p).toInt) 8 0 + (xtot (xcu l r)).toInt = xS8 (fun p => (l p).toInt) 8 0 := by
  have hs : xS8 (fun p => (xct l r p).toInt + (xcu l r p).toInt) 8 0 = xS8 (fun p => (l p).toInt) 8 0 := xS8_cong _ _ 8 0 (fun p _ hp => by
    have h1 := xcu_i h (p := p) (by omega)
    have h2 := xct_i l r p
    show (xct l r p).toInt + (xcu l r p).toInt = (l p).toInt
    omega)
  rw [xS8_add] at hs
  have hc0 : ∀ p, p < 8 → 0 ≤ (xcu l r p).toInt := fun p hp => by rw [xcu_i h hp]; omega
  have ht0 := xS8_nn (fun p => (xct l r p).toInt) 8 0 (fun p _ hp => by
    have h2 := xct_i l r p
    have h3 := h.1 p (by omega)
    have h4 := h.2.1 p (by omega)
    show 0 ≤ (xct l r p).toInt
    omega)
  have ha0 := xS8_nn (fun p => (xcu l r p).toInt) 8 0 (fun p _ hp => hc0 p (by omega))
  have e := xtot_i hc0 (by have := h.2.2; omega)
  rw [e]
  exact ⟨rfl, ha0, hs⟩
/-- the mask: who is there and has room left -/
def lC (pa : Int32) (l r : Nat → Int32) (p : Nat) : Prop := ¬ xb pa p = 0 ∧ ¬ r p ≤ l p
theorem xb_zero (j : Nat) (h : j < 32) : xb 0 j = 0 := (xb_0 0 h).mpr (b_0 j)
theorem xmk_b (pa : Int32) (l r : Nat → Int32) : ∀ (m i : Nat) (c : Int32) (j : Nat), i + m ≤ 8 → j < 32 → (xb (xmk pa l r m i c) j = 0 ↔ xb c j = 0 ∧ ¬ (i ≤ j ∧ j < i + m ∧ lC pa l r j))
  | 0, i, c, j, hm, hj => by
    show xb c j = 0 ↔ _
    exact ⟨fun h => ⟨h, fun q => by omega⟩, fun h => h.1⟩
  | m + 1, i, c, j, hm, hj => by
    show xb (xmk pa l r m (i + 1) (if xb pa i = 0 then c else if r i ≤ l i then c else c ||| ((1 : Int32) <<< (nI i &&& 31)))) j = 0 ↔ _
    rw [xmk_b pa l r m (i + 1) _ j (by omega) hj]
    by_cases hx : xb pa i = 0
    · rw [if_pos hx]
      constructor
      · rintro ⟨h1, h2⟩
        refine ⟨h1, fun q => ?_⟩
        by_cases hji : j = i
        · subst hji; exact q.2.2.1 hx
        · exact h2 ⟨by omega, by omega, q.2.2⟩
      · rintro ⟨h1, h2⟩
        exact ⟨h1, fun q => h2 ⟨by omega, by omega, q.2.2⟩⟩
    · rw [if_neg hx]
      by_cases hr : r i ≤ l i
      · rw [if_pos hr]
        constructor
        · rintro ⟨h1, h2⟩
          refine ⟨h1, fun q => ?_⟩
          by_cases hji : j = i
          · subst hji; exact q.2.2.2 hr
          · exact h2 ⟨by omega, by omega, q.2.2⟩
        · rintro ⟨h1, h2⟩
          exact ⟨h1, fun q => h2 ⟨by omega, by omega, q.2.2⟩⟩
      · rw [if_neg hr, xb_or (by omega) hj]
        constructor
        · rintro ⟨h1, h2⟩
          by_cases hji : j = i
          · rw [if_pos hji] at h1; exact absurd h1 (by decide)
          · rw [if_neg hji] at h1
            exact ⟨h1, fun q => h2 ⟨by omega, by omega, q.2.2⟩⟩
        · rintro ⟨h1, h2⟩
          have hji : j ≠ i := fun q => h2 ⟨by omega, by omega, by rw [q]; exact ⟨hx, hr⟩⟩
          rw [if_neg hji]
          exact ⟨h1, fun q => h2 ⟨by omega, by omega, q.2.2⟩⟩
theorem xmk_8 (pa : Int32) (l r : Nat → Int32) {j : Nat} (hj : j < 8) : xb (xmk pa l r 8 0 0) j = 0 ↔ ¬ lC pa l r j := by
  rw [xmk_b pa l r 8 0 0 j (by omega) (by omega)]
  exact ⟨fun h q => h.2 ⟨by omega, by omega, q⟩, fun h => ⟨xb_zero j (by omega), fun q => h q.2.2⟩⟩
theorem xb_ext0 {m : Int32} (h : ∀ j, j < 32 → xb m j = 0) : m = 0 := b_ext (fun i hi => by rw [b_0]; exact (xb_0 m hi).mp (h i hi))
theorem xmk_ex {pa : Int32} {l r : Nat → Int32} (h : xmk pa l r 8 0 0 ≠ 0) : ∃ p, p < 8 ∧ lC pa l r p := by
  refine Classical.byContradiction (fun hn => h (xb_ext0 (fun j hj => ?_)))
  rw [xmk_b pa l r 8 0 0 j (by omega) hj]
  exact ⟨xb_zero j hj, fun q => hn ⟨j, by omega, q.2.2⟩⟩
/-- weights by ratio: some, and none outside -/
theorem wq_pos {am : Int32} {ra : Nat → Int32} (hra : ∀ k, k < 8 → 0 ≤ (ra k).toInt) {p : Nat} (hp : p < 8) (hx : ¬ xb am p = 0) : ∃ k, k < 8 ∧ 0 < (wq am ra k).toInt := by
  unfold wq
  by_cases h : xhw (wr am ra) 8 0 0 = 0
  · rw [if_pos h]
    refine ⟨p, hp, ?_⟩
    rcases xb_01 am p with q | q
    · exact absurd q hx
    · rw [q]; decide
  · rw [if_neg h]
    refine Classical.byContradiction (fun hn => h ((xhw_or _ 8 0 0 (Or.inl rfl)).mpr ⟨rfl, fun k _ hk => ?_⟩))
    rw [xle0]
    have : ¬ 0 < (wr am ra k).toInt := fun q => hn ⟨k, by omega, q⟩
    omega
theorem wq_out {am : Int32} {ra : Nat → Int32} {p : Nat} (hx : xb am p = 0) : wq am ra p = 0 := by
  unfold wq
  by_cases h : xhw (wr am ra) 8 0 0 = 0
  · rw [if_pos h]; exact hx
  · rw [if_neg h]; unfold wr; rw [if_pos hx]
theorem dl_out {n : Int32} {w : Nat → Int32} (hw : ∀ k, k < 8 → 0 ≤ (w k).toInt) {p : Nat} (hp : p < 8) (h : w p = 0) : dl n w p = 0 := by
  rw [xeq0]; exact (dl_nn hw hp).2 (by rw [h]; decide)
/-- one round more -/
def lNx (pa : Int32) (ra r l : Nat → Int32) : Nat → Int32 := fun k => xct l r k + dl (xtot (xcu l r)) (wq (xmk pa (xct l r) r 8 0 0) ra) k
def lmu (pa : Int32) (l r : Nat → Int32) : Int := xS8 (fun p => if ¬ xb pa p = 0 ∧ (xct l r p).toInt < (r p).toInt then 1 else 0) 8 0
theorem lC_i (pa : Int32) (l r : Nat → Int32) (p : Nat) : lC pa (xct l r) r p ↔ ¬ xb pa p = 0 ∧ (xct l r p).toInt < (r p).toInt := by
  unfold lC
  rw [xle]
  constructor
  · rintro ⟨h1, h2⟩; exact ⟨h1, by omega⟩
  · rintro ⟨h1, h2⟩; exact ⟨h1, by omega⟩
theorem lNx_i {pa : Int32} {ra r l : Nat → Int32} (h : lOk l r) (hra : ∀ k, k < 8 → 0 ≤ (ra k).toInt) {p : Nat} (hp : p < 8) : (lNx pa ra r l p).toInt = (xct l r p).toInt + (dl (xtot (xcu l r)) (wq (xmk pa (xct l r) r 8 0 0) ra) p).toInt := by
  have ha := lOk_a h
  have hd := dl_nn (n := xtot (xcu l r)) (wq_nn (am := xmk pa (xct l r) r 8 0 0) hra) hp
  have hs := dl_le (n := xtot (xcu l r)) (wq_nn (am := xmk pa (xct l r) r 8 0 0) hra)
  have hg := xS8_get (fun k => (dl (xtot (xcu l r)) (wq (xmk pa (xct l r) r 8 0 0) ra) k).toInt) 8 0 p (by omega) (by omega) (fun j _ hj => (dl_nn (wq_nn hra) (by omega)).1)
  have hct : ∀ q, q < 8 → 0 ≤ (xct l r q).toInt := fun q hq => by
    have h2 := xct_i l r q
    have h3 := h.1 q hq
    have h4 := h.2.1 q hq
    omega
  have hg2 := xS8_get (fun k => (xct l r k).toInt) 8 0 p (by omega) (by omega) (fun j _ hj => hct j (by omega))
  have h5 := hct p hp
  have h6 := h.2.2
  have hg' : (dl (xtot (xcu l r)) (wq (xmk pa (xct l r) r 8 0 0) ra) p).toInt ≤ xS8 (fun k => (dl (xtot (xcu l r)) (wq (xmk pa (xct l r) r 8 0 0) ra) k).toInt) 8 0 := hg
  have hg2' : (xct l r p).toInt ≤ xS8 (fun k => (xct l r k).toInt) 8 0 := hg2
  unfold lNx
  exact xadd (by omega) (by omega)
theorem lNx_ok {pa : Int32} {ra r l : Nat → Int32} (h : lOk l r) (hra : ∀ k, k < 8 → 0 ≤ (ra k).toInt) : lOk (lNx pa ra r l) r ∧ xS8 (fun p => (lNx pa ra r l p).toInt) 8 0 ≤ xS8 (fun p => (l p).toInt) 8 0 := by
  have ha := lOk_a h
  have hs := dl_le (n := xtot (xcu l r)) (wq_nn (am := xmk pa (xct l r) r 8 0 0) hra)
  have e : xS8 (fun p => (lNx pa ra r l p).toInt) 8 0 = xS8 (fun p => (xct l r p).toInt) 8 0 + xS8 (fun k => (dl (xtot (xcu l r)) (wq (xmk pa (xct l r) r 8 0 0) ra) k).toInt) 8 0 := by
    rw [← xS8_add]
    exact xS8_cong _ _ 8 0 (fun p _ hp => lNx_i h hra (by omega))
  have h6 := h.2.2
  refine ⟨⟨fun p hp => ?_, h.2.1, by omega⟩, by omega⟩
  rw [lNx_i h hra hp]
  have hd := dl_nn (n := xtot (xcu l r)) (wq_nn (am := xmk pa (xct l r) r 8 0 0) hra) hp
  have h2 := xct_i l r p
  have h3 := h.1 p hp
  have h4 := h.2.1 p hp
  omega
theorem lmu_dec {pa : Int32} {ra r l : Nat → Int32} (h : lOk l r) (hra : ∀ k, k < 8 → 0 ≤ (ra k).toInt) (h2 : xtot (xcu (lNx pa ra r l) r) ≠ 0) : lmu pa (lNx pa ra r l) r < lmu pa l r := by
  have hk := (lNx_ok (pa := pa) h hra).1
  have hN : ∀ p, p < 8 → (xct l r p).toInt ≤ (lNx pa ra r l p).toInt ∧ (xb (xmk pa (xct l r) r 8 0 0) p = 0 → (lNx pa ra r l p).toInt = (xct l r p).toInt) := fun p hp => by
    rw [lNx_i h hra hp]
    have hd := dl_nn (n := xtot (xcu l r)) (wq_nn (am := xmk pa (xct l r) r 8 0 0) hra) hp
    refine ⟨by omega, fun hx => ?_⟩
    rw [dl_out (wq_nn hra) hp (wq_out hx), show (0 : Int32).toInt = 0 from by decide]; omega
  -- someone is above
  have hex : ∃ p, p < 8 ∧ (r p).toInt < (lNx pa ra r l p).toInt := by
    refine Classical.byContradiction (fun hn => h2 ?_)
    rw [xeq0, (lOk_a hk).1]
    have : xS8 (fun p => (xcu (lNx pa ra r l) r p).toInt) 8 0 = xS8 (fun _ => 0) 8 0 := xS8_cong _ _ 8 0 (fun p _ hp => by
      show (xcu (lNx pa ra r l) r p).toInt = 0
      rw [xcu_i hk (by omega)]
      have : ¬ (r p).toInt < (lNx pa ra r l p).toInt := fun q => hn ⟨p, by omega, q⟩
      omega)
    rw [this]; rfl
  obtain ⟨p0, hp0, hgt⟩ := hex
  have hx0 : ¬ xb (xmk pa (xct l r) r 8 0 0) p0 = 0 := fun q => by
    have h3 := (hN p0 hp0).2 q
    have h4 := xct_i l r p0
    omega
  have hc0 : lC pa (xct l r) r p0 := Classical.byContradiction (fun q => hx0 ((xmk_8 pa (xct l r) r hp0).mpr q))
  have hc0' := (lC_i pa l r p0).mp hc0
  refine xS8_lt _ _ 8 0 (fun p _ hp => ?_) ⟨p0, by omega, by omega, ?_⟩
  · show (if ¬ xb pa p = 0 ∧ (xct (lNx pa ra r l) r p).toInt < (r p).toInt then (1 : Int) else 0) ≤ if ¬ xb pa p = 0 ∧ (xct l r p).toInt < (r p).toInt then 1 else 0
    by_cases hq : ¬ xb pa p = 0 ∧ (xct (lNx pa ra r l) r p).toInt < (r p).toInt
    · have h3 := xct_i (lNx pa ra r l) r p
      have h4 := (hN p (by omega)).1
      rw [if_pos hq, if_pos ⟨hq.1, by omega⟩]; exact Int.le_refl 1
    · rw [if_neg hq]
      by_cases hq2 : ¬ xb pa p = 0 ∧ (xct l r p).toInt < (r p).toInt
      · rw [if_pos hq2]; decide
      · rw [if_neg hq2]; exact Int.le_refl 0
  · show (if ¬ xb pa p0 = 0 ∧ (xct (lNx pa ra r l) r p0).toInt < (r p0).toInt then (1 : Int) else 0) < if ¬ xb pa p0 = 0 ∧ (xct l r p0).toInt < (r p0).toInt then 1 else 0
    have h3 := xct_i (lNx pa ra r l) r p0
    rw [if_neg (fun q => by omega), if_pos hc0']; decide
theorem lmu_le (pa : Int32) (l r : Nat → Int32) : lmu pa l r ≤ 8 := by
  have := xS8_le (fun p => if ¬ xb pa p = 0 ∧ (xct l r p).toInt < (r p).toInt then 1 else 0) (fun _ => 1) 8 0 (fun p _ _ => by
    show (if ¬ xb pa p = 0 ∧ (xct l r p).toInt < (r p).toInt then (1 : Int) else 0) ≤ 1
    by_cases hq : ¬ xb pa p = 0 ∧ (xct l r p).toInt < (r p).toInt
    · rw [if_pos hq]; exact Int.le_refl 1
    · rw [if_neg hq]; decide)
  have e : xS8 (fun _ => 1) 8 0 = 8 := rfl
  unfold lmu
  omega
theorem lmu_nn (pa : Int32) (l r : Nat → Int32) : 0 ≤ lmu pa l r := xS8_nn _ 8 0 (fun p _ _ => by
    show (0 : Int) ≤ if ¬ xb pa p = 0 ∧ (xct l r p).toInt < (r p).toInt then 1 else 0
    by_cases hq : ¬ xb pa p = 0 ∧ (xct l r p).toInt < (r p).toInt
    · rw [if_pos hq]; decide
    · rw [if_neg hq]; exact Int.le_refl 0)
theorem lmu_pos {pa : Int32} {l r : Nat → Int32} {p : Nat} (hp : p < 8) (h : lC pa (xct l r) r p) : 1 ≤ lmu pa l r := by
  have hc := (lC_i pa l r p).mp h
  have := xS8_get (fun p => if ¬ xb pa p = 0 ∧ (xct l r p).toInt < (r p).toInt then (1 : Int) else 0) 8 0 p (by omega) (by omega) (fun q _ _ => by
    show (0 : Int) ≤ if ¬ xb pa q = 0 ∧ (xct l r q).toInt < (r q).toInt then 1 else 0
    by_cases hq : ¬ xb pa q = 0 ∧ (xct l r q).toInt < (r q).toInt
    · rw [if_pos hq]; decide
    · rw [if_neg hq]; exact Int.le_refl 0)
  have this' : (if ¬ xb pa p = 0 ∧ (xct l r p).toInt < (r p).toInt then (1 : Int) else 0) ≤ lmu pa l r := this
  rw [if_pos hc] at this'
  exact this'
