/-! the books are well, within a bound -/
def bAb (pa : Int32) (cap du ra sh ow : Nat → Int32) : Prop := ∀ k, k < 8 → xb pa k = 0 → cap k = 0 ∧ du k = 0 ∧ ra k = 0 ∧ sh k = 0 ∧ ow k = 0
def bNn (du ra sh ow : Nat → Int32) : Prop := ∀ k, k < 8 → (0 ≤ (du k).toInt ∧ (du k).toInt ≤ 100000) ∧ (0 ≤ (ra k).toInt ∧ (ra k).toInt ≤ 99) ∧ 0 ≤ (sh k).toInt ∧ 0 ≤ (ow k).toInt
def bHi (m : Int32) : Prop := ∀ j, 8 ≤ j → j < 32 → xb m j = 0
def bOk (B : Int) (pa av re ch : Int32) (cap du ra sh ow bo ma de : Nat → Int32) : Prop :=
  (bHi pa ∧ bHi av) ∧ xAs av bo ma de ∧ bNn du ra sh ow ∧ bAb pa cap du ra sh ow ∧ (xSu sh ≤ ch.toInt ∧ 0 ≤ ch.toInt ∧ ch.toInt ≤ 8000000) ∧ cOk (B - xDp ma bo) (B - xDp bo ma) re cap ∧ xSu ow + xSu sh + max 0 (xDp de bo - ch.toInt) + xDp bo ma ≤ B
theorem bHi_ex {m : Int32} (h : bHi m) (h0 : ¬ m = 0) : ∃ p, 0 ≤ p ∧ p < 8 ∧ ¬ xb m p = 0 := Classical.byContradiction fun q => h0 (xb_ext0 (fun j hj => by
  rcases Nat.lt_or_ge j 8 with h8 | h8
  · exact Classical.byContradiction fun z => q ⟨j, by omega, h8, z⟩
  · exact h j h8 hj))
theorem xAs_he {av : Int32} {bo ma de : Nat → Int32} (ha : xAs av bo ma de) {k : Nat} (hk : k < 8) : (xhe bo de k).toInt = max 0 ((de k).toInt - (bo k).toInt) := by
  obtain ⟨⟨a1, a2⟩, _, ⟨a3, a4⟩, _⟩ := ha k hk
  unfold xhe
  by_cases h : de k ≤ bo k
  · rw [if_pos h]; rw [xle] at h; rw [show (0 : Int32).toInt = 0 from by decide]; omega
  · rw [if_neg h]; rw [xle] at h; rw [xsub (by omega) (by omega)]; omega
theorem xH_i {av : Int32} {bo ma de : Nat → Int32} (ha : xAs av bo ma de) : (xtot (xhe bo de)).toInt = xDp de bo ∧ 0 ≤ xDp de bo ∧ xDp de bo ≤ 8000000 := by
  have h1 : xSu (xhe bo de) = xDp de bo := xS8_eq (fun k hk => xAs_he ha hk)
  have h2 := xDp_nn de bo
  have h3 : xDp de bo ≤ xS8 (fun _ => 1000000) 8 0 := xS8_all (fun k hk => by
    obtain ⟨⟨a1, a2⟩, _, ⟨a3, a4⟩, _⟩ := ha k hk
    show max 0 ((de k).toInt - (bo k).toInt) ≤ 1000000
    omega)
  have h4 : xS8 (fun _ => 1000000) 8 0 = 8000000 := by decide
  exact ⟨by rw [xtot_b (by omega) (by omega), h1], h2, by omega⟩
theorem xAs_tot {av : Int32} {bo ma de : Nat → Int32} (ha : xAs av bo ma de) : (xtot ma - xtot bo).toInt = xDp ma bo - xDp bo ma ∧ xDp ma bo ≤ 8000000 ∧ xDp bo ma ≤ 8000000 := by
  have h4 : xS8 (fun _ => 1000000) 8 0 = 8000000 := by decide
  have b1 : xSu ma ≤ 8000000 := by
    rw [← h4]; exact xS8_all (fun k hk => (ha k hk).2.1.2)
  have b2 : xSu bo ≤ 8000000 := by
    rw [← h4]; exact xS8_all (fun k hk => (ha k hk).1.2)
  have b3 := xSu_nn (f := ma) (fun k hk => (ha k hk).2.1.1)
  have b4 := xSu_nn (f := bo) (fun k hk => (ha k hk).1.1)
  have c1 : xDp ma bo ≤ xSu ma := xS8_all (fun k hk => by
    obtain ⟨⟨a1, a2⟩, ⟨a3, a4⟩, _, _⟩ := ha k hk
    show max 0 ((ma k).toInt - (bo k).toInt) ≤ (ma k).toInt
    omega)
  have c2 : xDp bo ma ≤ xSu bo := xS8_all (fun k hk => by
    obtain ⟨⟨a1, a2⟩, ⟨a3, a4⟩, _, _⟩ := ha k hk
    show max 0 ((bo k).toInt - (ma k).toInt) ≤ (bo k).toInt
    omega)
  have c3 : xSu ma + xDp bo ma = xSu bo + xDp ma bo := by
    unfold xSu xDp
    rw [← xS8_add, ← xS8_add]
    exact xS8_eq (fun k _ => by show (ma k).toInt + max 0 ((bo k).toInt - (ma k).toInt) = (bo k).toInt + max 0 ((ma k).toInt - (bo k).toInt); omega)
  have d1 := xtot_b (g := ma) (by omega) (by omega)
  have d2 := xtot_b (g := bo) (by omega) (by omega)
  refine ⟨?_, by omega, by omega⟩
  rw [xsub (by omega) (by omega)]
  omega
/-- a sum that isn't above all weights takes no more from each than his weight -/
theorem dl_lew {n : Int32} {w : Nat → Int32} (hw : ∀ k, k < 8 → 0 ≤ (w k).toInt) (hn : n.toInt ≤ xSu w) {k : Nat} (hk : k < 8) : (dl n w k).toInt ≤ (w k).toInt := by
  by_cases hc : 0 < n ∧ 0 < dAll w
  · exact (dl_all hw ((xgt0 n).mp hc.1) ((dAll_pos hw).mp hc.2)).2.2.2.2 hn k hk
  · rw [dl_0 hc, show (0 : Int32).toInt = 0 from by decide]; exact hw k hk
/-- charge back -/
theorem bCharge {B B1 B2 fa : Int} {fa' re : Int32} {cap sh ow : Nat → Int32} (hS : ∀ k, k < 8 → 0 ≤ (sh k).toInt) (hO : ∀ k, k < 8 → 0 ≤ (ow k).toInt) (hB : xSu ow + xSu sh ≤ B) (hB2 : B < 2147483648) (hc : cOk B1 B2 re cap) (hB1 : B1 < 2147483648) (efa : fa'.toInt = fa) :
    (∀ k, k < 8 → (clB fa' sh ow k).toInt = (ow k).toInt + (clA fa' sh k).toInt) ∧ (∀ k, k < 8 → 0 ≤ (clB fa' sh ow k).toInt) ∧ (xtot sh).toInt = xSu sh ∧ (xtot (clB fa' sh ow)).toInt = xSu (clB fa' sh ow) ∧ xSu (clB fa' sh ow) = xSu ow + xSu (clA fa' sh) ∧ (∀ k, k < 8 → 0 ≤ (clA fa' sh k).toInt ∧ (clA fa' sh k).toInt ≤ (sh k).toInt) ∧ xSu (clA fa' sh) ≤ max 0 fa ∧ (0 < fa → xSu (clA fa' sh) = min fa (xSu sh)) ∧ cOk B1 B2 (clr1 fa' re sh ow) (fun k => cap k + clC fa' re sh ow k) ∧ (∀ k, k < 8 → 0 ≤ (clC fa' re sh ow k).toInt ∧ (clC fa' re sh ow k).toInt ≤ (clB fa' sh ow k).toInt) := by
  have s0 := xSu_nn hS
  have o0 := xSu_nn hO
  have t1 : (xtot sh).toInt = xSu sh := xtot_b (by omega) (by omega)
  have m1 : (xmin fa' (xtot sh)).toInt = min fa (xSu sh) := by rw [xmin_i, t1, efa]
  have hA : ∀ k, k < 8 → 0 ≤ (clA fa' sh k).toInt ∧ (clA fa' sh k).toInt ≤ (sh k).toInt := fun k hk => ⟨(dl_nn hS hk).1, dl_lew hS (by rw [m1]; omega) hk⟩
  have hAs : xSu (clA fa' sh) ≤ xSu sh := xS8_all (fun k hk => (hA k hk).2)
  have hA0 := xSu_nn (f := clA fa' sh) (fun k hk => (hA k hk).1)
  have hAle : xSu (clA fa' sh) ≤ max 0 (min fa (xSu sh)) := by rw [← m1]; exact dl_le hS
  have hBi : ∀ k, k < 8 → (clB fa' sh ow k).toInt = (ow k).toInt + (clA fa' sh k).toInt := fun k hk => by
    have q1 := xSu_get hO hk
    have q2 := xSu_get hS hk
    have q3 := hA k hk
    have q4 := hO k hk
    exact xadd (by omega) (by omega)
  have hB0 : ∀ k, k < 8 → 0 ≤ (clB fa' sh ow k).toInt := fun k hk => by
    have := hBi k hk
    have := hA k hk
    have := hO k hk
    omega
  have hBs : xSu (clB fa' sh ow) = xSu ow + xSu (clA fa' sh) := by
    unfold xSu
    rw [← xS8_add]
    exact xS8_eq (fun k hk => hBi k hk)
  have hBn := xSu_nn hB0
  have t2 : (xtot (clB fa' sh ow)).toInt = xSu (clB fa' sh ow) := xtot_b (by omega) (by omega)
  have m2 : (xmin re (xtot (clB fa' sh ow))).toInt = min re.toInt (xSu (clB fa' sh ow)) := by rw [xmin_i, t2]
  have hC : ∀ k, k < 8 → 0 ≤ (clC fa' re sh ow k).toInt ∧ (clC fa' re sh ow k).toInt ≤ (clB fa' sh ow k).toInt := fun k hk => ⟨(dl_nn hB0 hk).1, dl_lew hB0 (by rw [m2]; omega) hk⟩
  refine ⟨hBi, hB0, t1, t2, hBs, hA, by omega, fun hf => ?_, ?_, hC⟩
  · by_cases hs : 0 < xSu sh
    · have := (dl_all (n := xmin fa' (xtot sh)) hS (by rw [m1]; omega) hs).2.2.2.1
      rw [m1] at this
      exact this
    · omega
  · exact (cOk_up (n := xmin re (xtot (clB fa' sh ow))) hc hB1 (fun k hk => (hC k hk).1) (dl_le hB0) (by rw [m2]; omega)).1
theorem bClose {B : Int} {pa av re ch : Int32} {cap du ra sh ow bo ma de : Nat → Int32} (h : bOk B pa av re ch cap du ra sh ow bo ma de) (hB : B ≤ 2100000000) :
    (∀ k, k < 8 → 0 ≤ (clB (-(clri ch bo de)) sh ow k).toInt) ∧ 0 ≤ (xtot sh).toInt ∧ 0 ≤ (xtot (clB (-(clri ch bo de)) sh ow)).toInt ∧ 0 ≤ (xtot (cW pa (clcap2 pa ch re cap ra sh ow bo de) du (clsh2 pa ch re ra sh ow bo de))).toInt
    ∧ cOk (B - xDp ma bo) (B - xDp bo ma) (clre3 (clre2 ch re sh ow bo de) pa (clcap2 pa ch re cap ra sh ow bo de) du (clsh2 pa ch re ra sh ow bo de)) (clcap3 (clre2 ch re sh ow bo de) pa (clcap2 pa ch re cap ra sh ow bo de) du (clsh2 pa ch re ra sh ow bo de))
    ∧ (∀ q, q < 8 → xb pa q = 0 → clcap3 (clre2 ch re sh ow bo de) pa (clcap2 pa ch re cap ra sh ow bo de) du (clsh2 pa ch re ra sh ow bo de) q = 0 ∧ clsh2 pa ch re ra sh ow bo de q = 0 ∧ clow2 ch re sh ow bo de q = 0)
    ∧ (∀ k, k < 8 → 0 ≤ (clsh2 pa ch re ra sh ow bo de k).toInt ∧ 0 ≤ (clow2 ch re sh ow bo de k).toInt) ∧ xSu (clsh2 pa ch re ra sh ow bo de) ≤ xDp de bo ∧ xSu (clow2 ch re sh ow bo de) + xSu (clsh2 pa ch re ra sh ow bo de) + xDp bo ma ≤ B := by
  obtain ⟨⟨hpa, hav⟩, ha, hn, hab, ⟨hc1, hc2, hc3⟩, hc, how⟩ := h
  obtain ⟨e1, e2, e3⟩ := xH_i ha
  have d1 := xDp_nn ma bo
  have d2 := xDp_nn bo ma
  have hS : ∀ k, k < 8 → 0 ≤ (sh k).toInt := fun k hk => (hn k hk).2.2.1
  have hO : ∀ k, k < 8 → 0 ≤ (ow k).toInt := fun k hk => (hn k hk).2.2.2
  have hra : ∀ k, k < 8 → 0 ≤ (ra k).toInt := fun k hk => (hn k hk).2.1.1
  have s0 := xSu_nn hS
  have o0 := xSu_nn hO
  have eri : (clri ch bo de).toInt = xDp de bo - ch.toInt := by
    unfold clri
    rw [xsub (by omega) (by omega), e1]
  have efa : (-(clri ch bo de)).toInt = ch.toInt - xDp de bo := by
    rw [xneg (by omega), eri]; omega
  obtain ⟨b1, b2, b3, b4, b5, b6, b7, b8, b9, b10⟩ := bCharge (B := B) (fa' := -(clri ch bo de)) (re := re) hS hO (by omega) (by omega) hc (by omega) efa
  -- the loss by debts
  have hw := wq_nn (am := pa) hra
  have hD0 : ∀ k, k < 8 → 0 ≤ (clD (clri ch bo de) (clr1 (-(clri ch bo de)) re sh ow) pa ra k).toInt := fun k hk => (dl_nn hw hk).1
  have hDa : ∀ k, k < 8 → xb pa k = 0 → clD (clri ch bo de) (clr1 (-(clri ch bo de)) re sh ow) pa ra k = 0 := fun k hk hx => dl_out hw hk (wq_out hx)
  have hre1 : -2147483648 < (clr1 (-(clri ch bo de)) re sh ow).toInt := by
    have := b9.2
    have := xNg_nn (fun k => cap k + clC (-(clri ch bo de)) re sh ow k)
    omega
  have m3 : (xmin (clri ch bo de) (-(clr1 (-(clri ch bo de)) re sh ow))).toInt = min (xDp de bo - ch.toInt) (-(clr1 (-(clri ch bo de)) re sh ow).toInt) := by
    rw [xmin_i, eri, xneg hre1]
  have hDs : xSu (clD (clri ch bo de) (clr1 (-(clri ch bo de)) re sh ow) pa ra) ≤ max 0 (min (xDp de bo - ch.toInt) (-(clr1 (-(clri ch bo de)) re sh ow).toInt)) := by
    rw [← m3]; exact dl_le hw
  have hDn := xSu_nn hD0
  obtain ⟨c1, c2, c3⟩ := cOk_dn (n := xmin (clri ch bo de) (-(clr1 (-(clri ch bo de)) re sh ow))) (p := clD (clri ch bo de) (clr1 (-(clri ch bo de)) re sh ow) pa ra) b9 (by omega) hD0 (by rw [m3]; exact hDs) (by rw [m3]; omega)
  -- shares and owed
  have hs1 : ∀ k, k < 8 → (sh k - clA (-(clri ch bo de)) sh k).toInt = (sh k).toInt - (clA (-(clri ch bo de)) sh k).toInt := fun k hk => by
    have := hS k hk
    have := b6 k hk
    have := xhi (sh k)
    exact xsub (by omega) (by omega)
  have hsS : xSu (fun k => sh k - clA (-(clri ch bo de)) sh k) + xSu (clA (-(clri ch bo de)) sh) = xSu sh := by
    unfold xSu
    rw [← xS8_add]
    exact xS8_eq (fun k hk => by
      show (sh k - clA (-(clri ch bo de)) sh k).toInt + (clA (-(clri ch bo de)) sh k).toInt = (sh k).toInt
      have := hs1 k hk
      omega)
  have hs1n : ∀ k, k < 8 → 0 ≤ (sh k - clA (-(clri ch bo de)) sh k).toInt := fun k hk => by
    have := hs1 k hk
    have := b6 k hk
    omega
  have hs1le := fun k (hk : k < 8) => xSu_get hs1n hk
  have hA0 := xSu_nn (f := clA (-(clri ch bo de)) sh) (fun k hk => (b6 k hk).1)
  have hs2 : ∀ k, k < 8 → (clsh2 pa ch re ra sh ow bo de k).toInt = (sh k - clA (-(clri ch bo de)) sh k).toInt + (clD (clri ch bo de) (clr1 (-(clri ch bo de)) re sh ow) pa ra k).toInt := fun k hk => by
    have q1 := hs1le k hk
    have q2 := xSu_get hD0 hk
    have q3 := hs1n k hk
    have q4 := hD0 k hk
    exact xadd (by omega) (by omega)
  have hs2S : xSu (clsh2 pa ch re ra sh ow bo de) = xSu (fun k => sh k - clA (-(clri ch bo de)) sh k) + xSu (clD (clri ch bo de) (clr1 (-(clri ch bo de)) re sh ow) pa ra) := by
    unfold xSu
    rw [← xS8_add]
    exact xS8_eq (fun k hk => hs2 k hk)
  have hs2n : ∀ k, k < 8 → 0 ≤ (clsh2 pa ch re ra sh ow bo de k).toInt := fun k hk => by
    have := hs2 k hk
    have := hs1n k hk
    have := hD0 k hk
    omega
  have hsle : xSu (clsh2 pa ch re ra sh ow bo de) ≤ xDp de bo := by
    by_cases hf : 0 < ch.toInt - xDp de bo
    · have := b8 hf
      omega
    · omega
  have ho2 : ∀ k, k < 8 → (clow2 ch re sh ow bo de k).toInt = (clB (-(clri ch bo de)) sh ow k).toInt - (clC (-(clri ch bo de)) re sh ow k).toInt := fun k hk => by
    have := b2 k hk
    have := b10 k hk
    have := xhi (clB (-(clri ch bo de)) sh ow k)
    exact xsub (by omega) (by omega)
  have ho2n : ∀ k, k < 8 → 0 ≤ (clow2 ch re sh ow bo de k).toInt := fun k hk => by
    have := ho2 k hk
    have := b10 k hk
    omega
  have ho2S : xSu (clow2 ch re sh ow bo de) ≤ xSu (clB (-(clri ch bo de)) sh ow) := xS8_all (fun k hk => by
    show (clow2 ch re sh ow bo de k).toInt ≤ (clB (-(clri ch bo de)) sh ow k).toInt
    have := ho2 k hk
    have := b10 k hk
    omega)
  -- the cure
  have ecap2 : (fun k => (fun k => cap k + clC (-(clri ch bo de)) re sh ow k) k - clD (clri ch bo de) (clr1 (-(clri ch bo de)) re sh ow) pa ra k) = clcap2 pa ch re cap ra sh ow bo de := rfl
  rw [ecap2] at c1
  have ere2 : clr1 (-(clri ch bo de)) re sh ow + cN (xmin (clri ch bo de) (-(clr1 (-(clri ch bo de)) re sh ow))) = clre2 ch re sh ow bo de := rfl
  rw [ere2] at c1
  have hcW : ∀ k, k < 8 → (cW pa (clcap2 pa ch re cap ra sh ow bo de) du (clsh2 pa ch re ra sh ow bo de) k).toInt ≤ max 0 (-(clcap2 pa ch re cap ra sh ow bo de k).toInt) := fun k hk => by
    unfold cW
    by_cases hx : xb pa k = 0
    · rw [if_pos hx, show (0 : Int32).toInt = 0 from by decide]; omega
    · rw [if_neg hx, xmax_i, show (0 : Int32).toInt = 0 from by decide]
      have q1 := (hn k hk).1
      have q2 := hs2n k hk
      have q3 := xSu_get hs2n hk
      have q4 := xP_get (clcap2 pa ch re cap ra sh ow bo de) hk
      have q5 := xNg_get (clcap2 pa ch re cap ra sh ow bo de) hk
      have q6 := c1.1
      have q7 := c1.2
      have r1 : (-du k).toInt = -(du k).toInt := xneg (by omega)
      have r2 : (-du k - clsh2 pa ch re ra sh ow bo de k).toInt = -(du k).toInt - (clsh2 pa ch re ra sh ow bo de k).toInt := by rw [xsub (by omega) (by omega), r1]
      have r3 : (-du k - clsh2 pa ch re ra sh ow bo de k - clcap2 pa ch re cap ra sh ow bo de k).toInt = -(du k).toInt - (clsh2 pa ch re ra sh ow bo de k).toInt - (clcap2 pa ch re cap ra sh ow bo de k).toInt := by rw [xsub (by omega) (by omega), r2]
      rw [r3]
      omega
  have hcWn := cW_nn pa (clcap2 pa ch re cap ra sh ow bo de) du (clsh2 pa ch re ra sh ow bo de)
  have hcWs : xSu (cW pa (clcap2 pa ch re cap ra sh ow bo de) du (clsh2 pa ch re ra sh ow bo de)) ≤ xNg (clcap2 pa ch re cap ra sh ow bo de) := xS8_all (fun k hk => hcW k hk)
  have hcW0 := xSu_nn hcWn
  have t4 : (xtot (cW pa (clcap2 pa ch re cap ra sh ow bo de) du (clsh2 pa ch re ra sh ow bo de))).toInt = xSu (cW pa (clcap2 pa ch re cap ra sh ow bo de) du (clsh2 pa ch re ra sh ow bo de)) := by
    have := c1.2
    exact xtot_b (by omega) (by omega)
  have f1 := cOk_up (n := xmin (clre2 ch re sh ow bo de) (xtot (cW pa (clcap2 pa ch re cap ra sh ow bo de) du (clsh2 pa ch re ra sh ow bo de)))) (p := clE (clre2 ch re sh ow bo de) pa (clcap2 pa ch re cap ra sh ow bo de) du (clsh2 pa ch re ra sh ow bo de)) c1 (by omega) (fun k hk => (dl_nn hcWn hk).1) (dl_le hcWn) (by rw [xmin_i]; omega)
  refine ⟨b2, by omega, by omega, by omega, f1.1, fun q hq hx => ?_, fun k hk => ⟨hs2n k hk, ho2n k hk⟩, hsle, by omega⟩
  obtain ⟨z1, z2, z3, z4, z5⟩ := hab q hq hx
  have hA : clA (-(clri ch bo de)) sh q = 0 := dl_out hS hq z4
  have hBq : clB (-(clri ch bo de)) sh ow q = 0 := by
    show ow q + clA (-(clri ch bo de)) sh q = 0
    rw [hA, z5]; rfl
  have hCq : clC (-(clri ch bo de)) re sh ow q = 0 := dl_out b2 hq hBq
  have hEq : clE (clre2 ch re sh ow bo de) pa (clcap2 pa ch re cap ra sh ow bo de) du (clsh2 pa ch re ra sh ow bo de) q = 0 := dl_out hcWn hq (by unfold cW; rw [if_pos hx])
  refine ⟨?_, ?_, ?_⟩
  · show (cap q + clC (-(clri ch bo de)) re sh ow q) - clD (clri ch bo de) (clr1 (-(clri ch bo de)) re sh ow) pa ra q + clE (clre2 ch re sh ow bo de) pa (clcap2 pa ch re cap ra sh ow bo de) du (clsh2 pa ch re ra sh ow bo de) q = 0
    rw [hEq, hCq, hDa q hq hx, z1]; rfl
  · show (sh q - clA (-(clri ch bo de)) sh q) + clD (clri ch bo de) (clr1 (-(clri ch bo de)) re sh ow) pa ra q = 0
    rw [hA, hDa q hq hx, z4]; rfl
  · show clB (-(clri ch bo de)) sh ow q - clC (-(clri ch bo de)) re sh ow q = 0
    rw [hBq, hCq]; rfl
/-- a closed year keeps the books well -/
theorem bClosed {B : Int} {pa av re ch ca ye : Int32} {cap du ra sh ow bo ma de su : Nat → Int32} {tw : Nat → Nat → Int32} {fi sa ns : Nat} {S0 : xS} (h : bOk B pa av re ch cap du ra sh ow bo ma de) (hB : B ≤ 2100000000) (hp : ¬ pa = 0) (hq : ∀ k, k < ns → xrcv S0 sa k < 8) (hw : ∀ q j, q ≤ fi → j < 8 → 0 ≤ (tw q j).toInt) {g : Int32 × (Nat → Int32) × (Nat → Int32)} (eg : gS (gF S0 sa pa ca ye (clsh2 pa ch re ra sh ow bo de) bo de) (xrcv S0 sa) ns 0 (clre3 (clre2 ch re sh ow bo de) pa (clcap2 pa ch re cap ra sh ow bo de) du (clsh2 pa ch re ra sh ow bo de)) (clcap3 (clre2 ch re sh ow bo de) pa (clcap2 pa ch re cap ra sh ow bo de) du (clsh2 pa ch re ra sh ow bo de)) (fun _ => 0) = g) :
    -2147483648 < g.1.toInt ∧ -2147483648 < (xtot g.2.1 + g.1).toInt ∧ (∀ p, p < 8 → xb pa p = 0 → g.2.1 p = 0) ∧ bOk B pa av 0 (xtot (xhe bo de)) (shC g.1 pa ra g.2.1 du (clsh2 pa ch re ra sh ow bo de) (sgp pa su tw fi g.2.1 g.1)) du ra (clsh2 pa ch re ra sh ow bo de) (clow2 ch re sh ow bo de) bo ma de := by
  obtain ⟨c1, c2, c3, c4, c5, c6, c7, c8, c9⟩ := bClose h hB
  obtain ⟨⟨hpa, hav⟩, ha, hn, hab, ⟨hc1, hc2, hc3⟩, hc, how⟩ := h
  have hex := bHi_ex hpa hp
  obtain ⟨e1, e2, e3⟩ := xH_i ha
  have d1 := xDp_nn ma bo
  have d2 := xDp_nn bo ma
  have hra : ∀ k, k < 8 → 0 ≤ (ra k).toInt := fun k hk => (hn k hk).2.1.1
  obtain ⟨f1, f2⟩ := bGive (pa := pa) (ca := ca) (ye := ye) (sh := clsh2 pa ch re ra sh ow bo de) (bo := bo) (de := de) (S0 := S0) (sa := sa) (ns := ns) (p := fun _ => 0) hq (by omega) c5 (fun q hq hx => (c6 q hq hx).1)
  rw [eg] at f1 f2
  have n1 := xNg_nn g.2.1
  have n2 := xP_nn g.2.1
  have n3 := xSu_PN g.2.1
  have hg1 : -2147483648 < g.1.toInt := by
    have := f1.2
    omega
  have hgt : (xtot g.2.1).toInt = xSu g.2.1 := by
    have := f1.1
    have := f1.2
    exact xtot_b (by omega) (by omega)
  have hgs : (xtot g.2.1 + g.1).toInt = xSu g.2.1 + g.1.toInt := by
    have := f1.1
    have := f1.2
    rw [xadd (by omega) (by omega), hgt]
  have hgp : ∀ q, q < 8 → xb pa q = 0 → sgp pa su tw fi g.2.1 g.1 q = 0 := fun q hq hx => by
    unfold sgp
    rw [sV_out hq hx hw, f2 q hq hx]; rfl
  obtain ⟨k1, k2, _⟩ := shC_ok (du := du) (sh := clsh2 pa ch re ra sh ow bo de) f1 (by omega) (by omega) f2 hra hex hgp
  refine ⟨hg1, by have := f1.2; omega, f2, ⟨hpa, hav⟩, ha, fun k hk => ⟨(hn k hk).1, (hn k hk).2.1, c7 k hk⟩, fun k hk hx => ⟨k2 k hk hx, (hab k hk hx).2.1, (hab k hk hx).2.2.1, (c6 k hk hx).2.1, (c6 k hk hx).2.2⟩, ⟨by omega, by omega, by omega⟩, k1, by omega⟩
/-- all valued anew -/
theorem bAnew {B : Int} {pa av re ch : Int32} {cap du ra sh ow bo ma de su : Nat → Int32} {tw : Nat → Nat → Int32} {fi : Nat} (h : bOk B pa av re ch cap du ra sh ow bo ma de) (hB : B ≤ 2100000000) (hw : ∀ q j, q ≤ fi → j < 8 → 0 ≤ (tw q j).toInt) :
    -2147483648 < (xtot ma - xtot bo).toInt ∧ -2147483648 < (xtot cap + (xtot ma - xtot bo)).toInt ∧ (∀ p, p < 8 → xb pa p = 0 → cap p = 0) ∧ (¬ pa = 0 → bOk B pa av 0 ch (shC (xtot ma - xtot bo) pa ra cap du sh (sgp pa su tw fi cap (xtot ma - xtot bo))) du ra sh ow ma ma de ∧ (0 < xSu (shW (xtot ma - xtot bo) (sgp pa su tw fi cap (xtot ma - xtot bo))) → xSu (shC (xtot ma - xtot bo) pa ra cap du sh (sgp pa su tw fi cap (xtot ma - xtot bo))) = xSu cap + (xtot ma - xtot bo).toInt)) := by
  obtain ⟨⟨hpa, hav⟩, ha, hn, hab, ⟨hc1, hc2, hc3⟩, hc, how⟩ := h
  obtain ⟨t1, t2, t3⟩ := xAs_tot ha
  have d1 := xDp_nn ma bo
  have d2 := xDp_nn bo ma
  have hra : ∀ k, k < 8 → 0 ≤ (ra k).toInt := fun k hk => (hn k hk).2.1.1
  have n1 := xNg_nn cap
  have n2 := xP_nn cap
  have n3 := xSu_PN cap
  have p1 := hc.1
  have p2 := hc.2
  have hct : (xtot cap).toInt = xSu cap := xtot_b (by omega) (by omega)
  have hsum : (xtot cap + (xtot ma - xtot bo)).toInt = xSu cap + (xtot ma - xtot bo).toInt := by
    rw [xadd (by omega) (by omega), hct]
  have hcap : ∀ p, p < 8 → xb pa p = 0 → cap p = 0 := fun p hp hx => (hab p hp hx).1
  have hcm : cOk B B (xtot ma - xtot bo) cap := ⟨by rw [t1]; omega, by rw [t1]; omega⟩
  refine ⟨by omega, by omega, hcap, fun hp => ?_⟩
  have hex := bHi_ex hpa hp
  have hgp : ∀ q, q < 8 → xb pa q = 0 → sgp pa su tw fi cap (xtot ma - xtot bo) q = 0 := fun q hq hx => by
    unfold sgp
    rw [sV_out hq hx hw, hcap q hq hx]; rfl
  obtain ⟨k1, k2, k3⟩ := shC_ok (du := du) (sh := sh) hcm (by omega) (by omega) hcap hra hex hgp
  have hmm : xDp ma ma = 0 := by
    have : xDp ma ma = xS8 (fun _ => 0) 8 0 := xS8_eq (fun k _ => by show max 0 ((ma k).toInt - (ma k).toInt) = 0; omega)
    rw [this]; decide
  have hH : xDp de ma ≤ xDp de bo + xDp bo ma := by
    unfold xDp
    rw [← xS8_add]
    exact xS8_all (fun k _ => by show max 0 ((de k).toInt - (ma k).toInt) ≤ max 0 ((de k).toInt - (bo k).toInt) + max 0 ((bo k).toInt - (ma k).toInt); omega)
  refine ⟨⟨⟨hpa, hav⟩, fun k hk => ⟨(ha k hk).2.1, (ha k hk).2.1, (ha k hk).2.2.1, fun hx => ⟨((ha k hk).2.2.2 hx).2.1, ((ha k hk).2.2.2 hx).2.1, ((ha k hk).2.2.2 hx).2.2⟩⟩, hn, fun k hk hx => ⟨k2 k hk hx, (hab k hk hx).2⟩, ⟨hc1, hc2, hc3⟩, by rw [hmm, Int.sub_zero]; exact k1, by rw [hmm]; omega⟩, k3⟩
