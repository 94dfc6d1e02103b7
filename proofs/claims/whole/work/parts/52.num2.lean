/-! bounds: sums of what is above 0, of what is below 0 -/
def xP (f : Nat → Int32) : Int := xS8 (fun k => max 0 (f k).toInt) 8 0
def xNg (f : Nat → Int32) : Int := xS8 (fun k => max 0 (-(f k).toInt)) 8 0
def xSu (f : Nat → Int32) : Int := xS8 (fun k => (f k).toInt) 8 0
def xDp (f g : Nat → Int32) : Int := xS8 (fun k => max 0 ((f k).toInt - (g k).toInt)) 8 0
theorem xS8_all {f g : Nat → Int} (h : ∀ k, k < 8 → g k ≤ f k) : xS8 g 8 0 ≤ xS8 f 8 0 := xS8_le g f 8 0 (fun k _ h2 => h k (by omega))
theorem xS8_eq {f g : Nat → Int} (h : ∀ k, k < 8 → g k = f k) : xS8 g 8 0 = xS8 f 8 0 := xS8_cong g f 8 0 (fun k _ h2 => h k (by omega))
theorem xP_nn (f : Nat → Int32) : 0 ≤ xP f := xS8_nn _ 8 0 (fun k _ _ => by omega)
theorem xNg_nn (f : Nat → Int32) : 0 ≤ xNg f := xS8_nn _ 8 0 (fun k _ _ => by omega)
theorem xDp_nn (f g : Nat → Int32) : 0 ≤ xDp f g := xS8_nn _ 8 0 (fun k _ _ => by omega)
theorem xP_get (f : Nat → Int32) {k : Nat} (hk : k < 8) : (f k).toInt ≤ xP f := by
  have := xS8_get (fun k => max 0 (f k).toInt) 8 0 k (by omega) (by omega) (fun j _ _ => by omega)
  unfold xP; omega
theorem xNg_get (f : Nat → Int32) {k : Nat} (hk : k < 8) : -(f k).toInt ≤ xNg f := by
  have := xS8_get (fun k => max 0 (-(f k).toInt)) 8 0 k (by omega) (by omega) (fun j _ _ => by omega)
  unfold xNg; omega
theorem xSu_nn {f : Nat → Int32} (h : ∀ k, k < 8 → 0 ≤ (f k).toInt) : 0 ≤ xSu f := xS8_nn _ 8 0 (fun k _ h2 => h k (by omega))
theorem xSu_get {f : Nat → Int32} (h : ∀ k, k < 8 → 0 ≤ (f k).toInt) {k : Nat} (hk : k < 8) : (f k).toInt ≤ xSu f := xS8_get (fun k => (f k).toInt) 8 0 k (by omega) (by omega) (fun j _ h2 => h j (by omega))
theorem xSu_PN (f : Nat → Int32) : xSu f + xNg f = xP f := by
  unfold xSu xNg xP
  rw [← xS8_add]
  exact xS8_eq (fun k _ => by show (f k).toInt + max 0 (-(f k).toInt) = max 0 (f k).toInt; omega)
theorem xP_cong {f g : Nat → Int32} (h : ∀ k, k < 8 → f k = g k) : xP f = xP g := xS8_eq (fun k hk => by show max 0 (f k).toInt = max 0 (g k).toInt; rw [h k hk])
theorem xNg_cong {f g : Nat → Int32} (h : ∀ k, k < 8 → f k = g k) : xNg f = xNg g := xS8_eq (fun k hk => by show max 0 (-(f k).toInt) = max 0 (-(g k).toInt); rw [h k hk])
theorem xSu_cong {f g : Nat → Int32} (h : ∀ k, k < 8 → f k = g k) : xSu f = xSu g := xS8_eq (fun k hk => by show (f k).toInt = (g k).toInt; rw [h k hk])
theorem xsm_b (g : Nat → Int32) : ∀ (m i : Nat) (c : Int32), (xsm g m i c).toInt = (c.toInt + xS8 (fun k => (g k).toInt) m i).bmod (2 ^ 32)
  | 0, i, c => by
    show c.toInt = (c.toInt + 0).bmod (2 ^ 32)
    have h1 := xlo c
    have h2 := xhi c
    rw [Int.add_zero, xb32 h1 h2]
  | m + 1, i, c => by
    show (xsm g m (i + 1) (c + g i)).toInt = (c.toInt + ((g i).toInt + xS8 (fun k => (g k).toInt) m (i + 1))).bmod (2 ^ 32)
    rw [xsm_b g m (i + 1) (c + g i), Int32.toInt_add, Int.bmod_add_bmod, Int.add_assoc]
theorem xtot_b {g : Nat → Int32} (h1 : -2147483648 ≤ xSu g) (h2 : xSu g < 2147483648) : (xtot g).toInt = xSu g := by
  unfold xtot
  rw [xsm_b, show (0 : Int32).toInt = 0 from by decide, Int.zero_add]
  exact xb32 h1 h2
/-- parts come to accounts -/
theorem nu_add {cap p : Nat → Int32} {B n : Int} (hp : ∀ k, k < 8 → 0 ≤ (p k).toInt) (hs : xSu p ≤ n) (hB : xP cap + n ≤ B) (hB2 : B < 2147483648) : (∀ k, k < 8 → (cap k + p k).toInt = (cap k).toInt + (p k).toInt) ∧ xP (fun k => cap k + p k) ≤ xP cap + n ∧ xNg (fun k => cap k + p k) ≤ xNg cap := by
  have h1 : ∀ k, k < 8 → (cap k + p k).toInt = (cap k).toInt + (p k).toInt := fun k hk => by
    have q1 := xP_get cap hk
    have q2 := xSu_get hp hk
    have q3 := xlo (cap k)
    have q4 := hp k hk
    exact xadd (by omega) (by omega)
  refine ⟨h1, ?_, ?_⟩
  · have h2 : xP (fun k => cap k + p k) ≤ xP cap + xSu p := by
      unfold xP xSu
      rw [← xS8_add]
      refine xS8_all (fun k hk => ?_)
      show max 0 (cap k + p k).toInt ≤ max 0 (cap k).toInt + (p k).toInt
      rw [h1 k hk]
      have := hp k hk
      omega
    omega
  · refine xS8_all (fun k hk => ?_)
    show max 0 (-(cap k + p k).toInt) ≤ max 0 (-(cap k).toInt)
    rw [h1 k hk]
    have := hp k hk
    omega
theorem nu_sub {cap p : Nat → Int32} {B n : Int} (hp : ∀ k, k < 8 → 0 ≤ (p k).toInt) (hs : xSu p ≤ n) (hB : xNg cap + n ≤ B) (hB2 : B < 2147483648) : (∀ k, k < 8 → (cap k - p k).toInt = (cap k).toInt - (p k).toInt) ∧ xNg (fun k => cap k - p k) ≤ xNg cap + n ∧ xP (fun k => cap k - p k) ≤ xP cap := by
  have h1 : ∀ k, k < 8 → (cap k - p k).toInt = (cap k).toInt - (p k).toInt := fun k hk => by
    have q1 := xNg_get cap hk
    have q2 := xSu_get hp hk
    have q3 := xhi (cap k)
    have q4 := hp k hk
    exact xsub (by omega) (by omega)
  refine ⟨h1, ?_, ?_⟩
  · have h2 : xNg (fun k => cap k - p k) ≤ xNg cap + xSu p := by
      unfold xNg xSu
      rw [← xS8_add]
      refine xS8_all (fun k hk => ?_)
      show max 0 (-(cap k - p k).toInt) ≤ max 0 (-(cap k).toInt) + (p k).toInt
      rw [h1 k hk]
      have := hp k hk
      omega
    omega
  · refine xS8_all (fun k hk => ?_)
    show max 0 (cap k - p k).toInt ≤ max 0 (cap k).toInt
    rw [h1 k hk]
    have := hp k hk
    omega
/-- accounts and a result keep within bounds -/
def cOk (B1 B2 : Int) (re : Int32) (cap : Nat → Int32) : Prop := xP cap + max 0 re.toInt ≤ B1 ∧ xNg cap + max 0 (-re.toInt) ≤ B2
theorem cOk_up {B1 B2 : Int} {re n : Int32} {cap p : Nat → Int32} (h : cOk B1 B2 re cap) (hB : B1 < 2147483648) (hp : ∀ k, k < 8 → 0 ≤ (p k).toInt) (hs : xSu p ≤ max 0 n.toInt) (hn : n.toInt ≤ max 0 re.toInt) : cOk B1 B2 (re - cN n) (fun k => cap k + p k) ∧ (re - cN n).toInt = re.toInt - max 0 n.toInt ∧ ∀ k, k < 8 → (cap k + p k).toInt = (cap k).toInt + (p k).toInt := by
  obtain ⟨h1, h2⟩ := h
  have q0 := xlo re
  have q1 := xhi re
  have hc := cN_i n
  have hr : (re - cN n).toInt = re.toInt - max 0 n.toInt := by rw [xsub (by rw [hc]; omega) (by rw [hc]; omega), hc]
  obtain ⟨a1, a2, a3⟩ := nu_add (cap := cap) (B := B1) (n := max 0 n.toInt) hp hs (by omega) hB
  refine ⟨⟨?_, ?_⟩, hr, a1⟩
  · rw [hr]; omega
  · rw [hr]; omega
theorem cOk_dn {B1 B2 : Int} {re n : Int32} {cap p : Nat → Int32} (h : cOk B1 B2 re cap) (hB : B2 < 2147483648) (hp : ∀ k, k < 8 → 0 ≤ (p k).toInt) (hs : xSu p ≤ max 0 n.toInt) (hn : n.toInt ≤ max 0 (-re.toInt)) : cOk B1 B2 (re + cN n) (fun k => cap k - p k) ∧ (re + cN n).toInt = re.toInt + max 0 n.toInt ∧ ∀ k, k < 8 → (cap k - p k).toInt = (cap k).toInt - (p k).toInt := by
  obtain ⟨h1, h2⟩ := h
  have q0 := xlo re
  have q1 := xhi re
  have hc := cN_i n
  have q2 := xNg_nn cap
  have hr : (re + cN n).toInt = re.toInt + max 0 n.toInt := by rw [xadd (by rw [hc]; omega) (by rw [hc]; omega), hc]
  obtain ⟨a1, a2, a3⟩ := nu_sub (cap := cap) (B := B2) (n := max 0 n.toInt) hp hs (by omega) hB
  refine ⟨⟨?_, ?_⟩, hr, a1⟩
  · rw [hr]; omega
  · rw [hr]; omega
/-- one place more -/
theorem xSu_one {q : Nat} (hq : q < 8) (g : Int32) : xSu (va_up (fun _ => 0) q g) = g.toInt := by
  unfold xSu
  rw [xS8_up 8 0 (by omega) (by omega)]
  show xS8 (fun _ => (0 : Int32).toInt) 8 0 + (g.toInt - (0 : Int32).toInt) = g.toInt
  rw [show (0 : Int32).toInt = 0 from by decide]
  show (0 : Int) + (0 + (0 + (0 + (0 + (0 + (0 + (0 + 0))))))) + (g.toInt - 0) = g.toInt
  omega
theorem xup_one (f : Nat → Int32) (q : Nat) (g : Int32) : va_up f q (f q + g) = fun k => f k + va_up (fun _ => 0) q g k := by
  funext k
  by_cases hk : k = q
  · subst hk; rw [xup_at, xup_at]
  · rw [va_up_ne _ _ hk, va_up_ne _ _ hk, xadd0]
theorem one_nn {q : Nat} {g : Int32} (hg : 0 ≤ g.toInt) : ∀ k, k < 8 → 0 ≤ (va_up (fun _ => (0 : Int32)) q g k).toInt := fun k _ => by
  by_cases hk : k = q
  · subst hk; rw [xup_at]; exact hg
  · rw [va_up_ne _ _ hk]; decide
/-- gifts -/
theorem gS_ok {B1 B2 : Int} {pa : Int32} {G : Nat → Int32 → (Nat → Int32) → Int32} {Q : Nat → Nat} (hB : B1 < 2147483648) (hG : ∀ k re cap, 0 ≤ (G k re cap).toInt ∧ (G k re cap).toInt ≤ max 0 re.toInt) : ∀ (m k : Nat) (re : Int32) (cap p : Nat → Int32), (∀ j, k ≤ j → j < k + m → ∀ re cap, G j re cap ≠ 0 → Q j < 8 ∧ xb pa (Q j) ≠ 0) → cOk B1 B2 re cap → (∀ q, q < 8 → xb pa q = 0 → cap q = 0) → cOk B1 B2 (gS G Q m k re cap p).1 (gS G Q m k re cap p).2.1 ∧ ∀ q, q < 8 → xb pa q = 0 → (gS G Q m k re cap p).2.1 q = 0
  | 0, k, re, cap, p, hQ, h, ha => ⟨h, ha⟩
  | m + 1, k, re, cap, p, hQ, h, ha => by
    unfold gS
    by_cases hg : G k re cap ≤ 0
    · rw [if_pos hg]
      exact gS_ok hB hG m (k + 1) re cap p (fun j h1 h2 => hQ j (by omega) (by omega)) h ha
    · rw [if_neg hg]
      obtain ⟨g1, g2⟩ := hG k re cap
      have hn0 : G k re cap ≠ 0 := fun q => hg (by rw [q]; decide)
      obtain ⟨q1, q2⟩ := hQ k (by omega) (by omega) re cap hn0
      refine gS_ok hB hG m (k + 1) _ _ _ (fun j h1 h2 => hQ j (by omega) (by omega)) ?_ ?_
      · rw [xup_one]
        have hc : cN (G k re cap) = G k re cap := by unfold cN; rw [if_neg hg]
        have := (cOk_up (n := G k re cap) (p := va_up (fun _ => 0) (Q k) (G k re cap)) h hB (one_nn g1) (by rw [xSu_one q1]; omega) g2).1
        rw [hc] at this
        exact this
      · intro q hq hx
        have : q ≠ Q k := fun z => q2 (by rw [← z]; exact hx)
        rw [va_up_ne _ _ this]
        exact ha q hq hx
theorem gif_le (S0 : xS) (sa : Nat) (pa re ca ye he ne : Int32) (cap sh : Nat → Int32) (k : Nat) : (gif S0 sa pa re ca ye he ne cap sh k).toInt ≤ max 0 re.toInt :=
  gif_ind (P := fun v => v.toInt ≤ max 0 re.toInt) (by rw [show (0 : Int32).toInt = 0 from by decide]; omega) (fun x => by rw [xmax_i, xmin_i, show (0 : Int32).toInt = 0 from by decide]; omega)
theorem gif_on {S0 : xS} {sa : Nat} {pa re ca ye he ne : Int32} {cap sh : Nat → Int32} {k : Nat} (h : gif S0 sa pa re ca ye he ne cap sh k ≠ 0) : xb pa (xrcv S0 sa k) ≠ 0 := fun q => h (by unfold gif; rw [if_pos q])
theorem bGive {B1 B2 : Int} {S0 : xS} {sa ns : Nat} {pa ca ye : Int32} {sh bo de : Nat → Int32} (hq : ∀ k, k < ns → xrcv S0 sa k < 8) (hB : B1 < 2147483648) {re : Int32} {cap p : Nat → Int32} (h : cOk B1 B2 re cap) (ha : ∀ q, q < 8 → xb pa q = 0 → cap q = 0) : cOk B1 B2 (gS (gF S0 sa pa ca ye sh bo de) (xrcv S0 sa) ns 0 re cap p).1 (gS (gF S0 sa pa ca ye sh bo de) (xrcv S0 sa) ns 0 re cap p).2.1 ∧ ∀ q, q < 8 → xb pa q = 0 → (gS (gF S0 sa pa ca ye sh bo de) (xrcv S0 sa) ns 0 re cap p).2.1 q = 0 :=
  gS_ok hB (fun k re cap => ⟨gif_nn _ _ _ _ _ _ _ _ _ _ _, gif_le _ _ _ _ _ _ _ _ _ _ _⟩) ns 0 re cap p (fun j _ h2 re cap hg => ⟨hq j (by omega), gif_on hg⟩) h ha
/-! losses behind limits: their sum stays -/
theorem xfi_e {pa a : Int32} : ∀ (m i : Nat) (l : Nat → Int32), i + m = 8 → (∃ p, i ≤ p ∧ p < 8 ∧ ¬ xb pa p = 0) → ∃ p, p < 8 ∧ ¬ xb pa p = 0 ∧ xfi pa a m i l = va_up l p (l p + a)
  | 0, i, l, hi, ⟨p, h1, h2, h3⟩ => by omega
  | m + 1, i, l, hi, ⟨p, h1, h2, h3⟩ => by
    unfold xfi
    by_cases hx : xb pa i = 0
    · rw [if_pos hx]
      have : p ≠ i := fun q => h3 (by rw [q]; exact hx)
      exact xfi_e m (i + 1) l (by omega) ⟨p, by omega, h2, h3⟩
    · rw [if_neg hx]
      exact ⟨i, by omega, hx, rfl⟩
theorem lm_ok {pa : Int32} {ra r : Nat → Int32} (hra : ∀ k, k < 8 → 0 ≤ (ra k).toInt) (hex : ∃ p, 0 ≤ p ∧ p < 8 ∧ ¬ xb pa p = 0) : ∀ (m : Nat) (l : Nat → Int32), lOk l r → (∀ p, p < 8 → xb pa p = 0 → l p = 0) → (∀ p, p < 8 → 0 ≤ ((lm pa ra r m l).2 p).toInt) ∧ (∀ p, p < 8 → xb pa p = 0 → (lm pa ra r m l).2 p = 0) ∧ xSu (lm pa ra r m l).2 = xSu l
  | 0, l, h, ha => ⟨h.1, ha, rfl⟩
  | m + 1, l, h, ha => by
    obtain ⟨a1, a2, a3⟩ := lOk_a h
    have hct : ∀ p, p < 8 → 0 ≤ (xct l r p).toInt := fun p hp => by
      have := h.1 p hp
      have := h.2.1 p hp
      rw [xct_i]; omega
    have hca : ∀ p, p < 8 → xb pa p = 0 → xct l r p = 0 := fun p hp hx => by
      have q1 := ha p hp hx
      have q2 := h.2.1 p hp
      rw [xeq0, xct_i, q1, show (0 : Int32).toInt = 0 from by decide]; omega
    have hs : xSu (xct l r) + (xtot (xcu l r)).toInt = xSu l := a3
    have hl2 : xSu l < 2147483648 := h.2.2
    have hn : 0 ≤ xSu (xct l r) := xSu_nn hct
    unfold lm
    by_cases h0 : xtot (xcu l r) = 0
    · rw [if_pos h0]
      refine ⟨hct, hca, ?_⟩
      rw [h0, show (0 : Int32).toInt = 0 from by decide] at hs
      show xSu (xct l r) = xSu l
      omega
    · rw [if_neg h0]
      by_cases hm : xmk pa (xct l r) r 8 0 0 = 0
      · rw [if_pos hm]
        obtain ⟨p, hp, hx, e⟩ := xfi_e (pa := pa) (a := xtot (xcu l r)) 8 0 (xct l r) rfl hex
        show (∀ p, p < 8 → 0 ≤ ((xfi pa (xtot (xcu l r)) 8 0 (xct l r)) p).toInt) ∧ (∀ p, p < 8 → xb pa p = 0 → (xfi pa (xtot (xcu l r)) 8 0 (xct l r)) p = 0) ∧ xSu (xfi pa (xtot (xcu l r)) 8 0 (xct l r)) = xSu l
        rw [e]
        have q1 := xSu_get hct hp
        have hadd : (xct l r p + xtot (xcu l r)).toInt = (xct l r p).toInt + (xtot (xcu l r)).toInt := by
          have := hct p hp
          exact xadd (by omega) (by omega)
        refine ⟨fun k hk => ?_, fun k hk hx2 => ?_, ?_⟩
        · by_cases hkp : k = p
          · subst hkp; rw [xup_at, hadd]; have := hct k hk; omega
          · rw [va_up_ne _ _ hkp]; exact hct k hk
        · have : k ≠ p := fun q => hx (by rw [← q]; exact hx2)
          rw [va_up_ne _ _ this]; exact hca k hk hx2
        · unfold xSu at hs ⊢
          rw [xS8_up 8 0 (by omega) (by omega), hadd]
          omega
      · rw [if_neg hm]
        have hlN := lNx_ok (pa := pa) h hra
        have hi := fun p hp => lNx_i (pa := pa) h hra (p := p) hp
        obtain ⟨p, hp, hlc⟩ := xmk_ex hm
        have hxp : ¬ xb (xmk pa (xct l r) r 8 0 0) p = 0 := fun q => ((xmk_8 pa (xct l r) r hp).mp q) hlc
        obtain ⟨k, hk, hw⟩ := wq_pos hra hp hxp
        have hpos : 0 < (xtot (xcu l r)).toInt := by
          rw [xeq0] at h0; omega
        have hdl : xSu (dl (xtot (xcu l r)) (wq (xmk pa (xct l r) r 8 0 0) ra)) = (xtot (xcu l r)).toInt := dl_eq (wq_nn hra) hpos hk hw
        have hNa : ∀ p, p < 8 → xb pa p = 0 → lNx pa ra r l p = 0 := fun p hp hx => by
          have hz : xb (xmk pa (xct l r) r 8 0 0) p = 0 := (xmk_8 pa (xct l r) r hp).mpr (fun q => q.1 hx)
          unfold lNx
          rw [hca p hp hx, dl_out (wq_nn hra) hp (wq_out hz)]; rfl
        have hNs : xSu (lNx pa ra r l) = xSu l := by
          have : xSu (lNx pa ra r l) = xSu (xct l r) + xSu (dl (xtot (xcu l r)) (wq (xmk pa (xct l r) r 8 0 0) ra)) := by
            unfold xSu
            rw [← xS8_add]
            exact xS8_eq (fun k hk => hi k hk)
          omega
        have := lm_ok hra hex m (lNx pa ra r l) hlN.1 hNa
        rw [hNs] at this
        exact this
/-! shares -/
theorem shC_ok {B1 B2 : Int} {res pa : Int32} {ra cap du sh g : Nat → Int32} (h : cOk B1 B2 res cap) (hB1 : B1 < 2147483648) (hB2 : B2 < 2147483648) (ha : ∀ q, q < 8 → xb pa q = 0 → cap q = 0) (hra : ∀ k, k < 8 → 0 ≤ (ra k).toInt) (hex : ∃ p, 0 ≤ p ∧ p < 8 ∧ ¬ xb pa p = 0) (hg : ∀ q, q < 8 → xb pa q = 0 → g q = 0) : cOk B1 B2 0 (shC res pa ra cap du sh g) ∧ (∀ q, q < 8 → xb pa q = 0 → shC res pa ra cap du sh g q = 0) ∧ (0 < xSu (shW res g) → xSu (shC res pa ra cap du sh g) = xSu cap + res.toInt) := by
  have hz0 : (0 : Int32).toInt = 0 := by decide
  have hw0 : ∀ q, q < 8 → xb pa q = 0 → shW res g q = 0 := fun q hq hx => by
    unfold shW
    rw [hg q hq hx]
    by_cases hr : res ≤ 0
    · rw [if_pos hr]; decide
    · rw [if_neg hr]; decide
  have hd0 : ∀ n q, q < 8 → xb pa q = 0 → dl n (shW res g) q = 0 := fun n q hq hx => dl_out (shW_nn res g) hq (hw0 q hq hx)
  have hdn : ∀ n k, k < 8 → 0 ≤ (dl n (shW res g) k).toInt := fun n k hk => (dl_nn (shW_nn res g) hk).1
  have hds : ∀ n, xSu (dl n (shW res g)) ≤ max 0 n.toInt := fun n => dl_le (shW_nn res g)
  unfold shC
  by_cases h0 : res = 0
  · simp only [if_pos h0]
    rw [h0] at h ⊢
    exact ⟨h, ha, fun _ => by rw [hz0]; omega⟩
  · simp only [if_neg h0]
    rw [xeq0] at h0
    by_cases hr : res ≤ 0
    · simp only [if_pos hr]
      rw [xle0] at hr
      have hlo : -2147483648 < res.toInt := by
        have := xNg_nn cap
        have := h.2
        omega
      have habs := xabs_i hlo
      have hlk : lOk (dl (xabs res) (shW res g)) (xrm pa cap du sh) := lOk_dl (shW_nn res g) (xrm_nn pa cap du sh)
      obtain ⟨l1, l2, l3⟩ := lm_ok hra hex 9 _ hlk (hd0 (xabs res))
      have hs : xSu (shL pa ra cap du sh (dl (xabs res) (shW res g))).2 ≤ max 0 (-res.toInt) := by
        have := hds (xabs res)
        show xSu (lm pa ra (xrm pa cap du sh) 9 (dl (xabs res) (shW res g))).2 ≤ _
        omega
      obtain ⟨a1, a2, a3⟩ := nu_sub (cap := cap) (B := B2) (n := max 0 (-res.toInt)) l1 hs h.2 hB2
      refine ⟨⟨?_, ?_⟩, fun q hq hx => ?_, fun hW => ?_⟩
      · have := h.1
        show xP (fun k => cap k - (lm pa ra (xrm pa cap du sh) 9 (dl (xabs res) (shW res g))).2 k) + max 0 (0 : Int32).toInt ≤ B1
        rw [hz0]; omega
      · have := h.2
        show xNg (fun k => cap k - (lm pa ra (xrm pa cap du sh) 9 (dl (xabs res) (shW res g))).2 k) + max 0 (-(0 : Int32).toInt) ≤ B2
        rw [hz0]; omega
      · show cap q - (lm pa ra (xrm pa cap du sh) 9 (dl (xabs res) (shW res g))).2 q = 0
        rw [ha q hq hx, l2 q hq hx]; rfl
      · have q1 : xSu (dl (xabs res) (shW res g)) = (xabs res).toInt := (dl_all (shW_nn res g) (by omega) hW).2.2.2.1
        have q2 : xSu (fun k => cap k - (lm pa ra (xrm pa cap du sh) 9 (dl (xabs res) (shW res g))).2 k) + xSu (lm pa ra (xrm pa cap du sh) 9 (dl (xabs res) (shW res g))).2 = xSu cap := by
          unfold xSu
          rw [← xS8_add]
          refine xS8_eq (fun k hk => ?_)
          have := a1 k hk
          show (cap k - (lm pa ra (xrm pa cap du sh) 9 (dl (xabs res) (shW res g))).2 k).toInt + ((lm pa ra (xrm pa cap du sh) 9 (dl (xabs res) (shW res g))).2 k).toInt = (cap k).toInt
          omega
        show xSu (fun k => cap k - (lm pa ra (xrm pa cap du sh) 9 (dl (xabs res) (shW res g))).2 k) = _
        omega
    · simp only [if_neg hr]
      rw [xle0] at hr
      have habs := xabs_i (n := res) (by omega)
      have hs : xSu (dl (xabs res) (shW res g)) ≤ max 0 res.toInt := by
        have := hds (xabs res)
        omega
      obtain ⟨a1, a2, a3⟩ := nu_add (cap := cap) (B := B1) (n := max 0 res.toInt) (hdn (xabs res)) hs h.1 hB1
      refine ⟨⟨?_, ?_⟩, fun q hq hx => ?_, fun hW => ?_⟩
      · have := h.1
        rw [hz0]; omega
      · have := h.2
        rw [hz0]; omega
      · rw [ha q hq hx, hd0 (xabs res) q hq hx]; rfl
      · have q1 : xSu (dl (xabs res) (shW res g)) = (xabs res).toInt := (dl_all (shW_nn res g) (by omega) hW).2.2.2.1
        have q2 : xSu (fun k => cap k + dl (xabs res) (shW res g) k) = xSu cap + xSu (dl (xabs res) (shW res g)) := by
          unfold xSu
          rw [← xS8_add]
          exact xS8_eq (fun k hk => a1 k hk)
        omega
