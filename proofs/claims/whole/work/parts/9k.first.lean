/-! first: all that is shared sums to what there is -/
theorem sG_sum {pa : Int32} {su : Nat → Int32} {tw : Nat → Nat → Int32} : ∀ (m k : Nat) (c : Int32) (g : Nat → Int32) (f : Int32), 0 ≤ c.toInt → (∀ j, j < 8 → 0 ≤ (g j).toInt) → c.toInt + xSu g < 2147483648 → (∀ q j, q < k + m → j < 8 → 0 ≤ (tw q j).toInt) → (∀ q, q < k + m → 0 < (su q).toInt) → 0 ≤ (sG pa su tw m k c g f).1.toInt ∧ (∀ j, j < 8 → 0 ≤ ((sG pa su tw m k c g f).2.1 j).toInt) ∧ (sG pa su tw m k c g f).1.toInt + xSu (sG pa su tw m k c g f).2.1 = c.toInt + xSu g
  | 0, k, c, g, f, hc, hg, hs, ht, hu => ⟨hc, hg, rfl⟩
  | m + 1, k, c, g, f, hc, hg, hs, ht, hu => by
    unfold sG
    by_cases q : c ≤ 0
    · simp only [if_pos q]; exact ⟨hc, hg, trivial⟩
    · simp only [if_neg q]
      by_cases q2 : xhw (wr pa (tw k)) 8 0 0 = 0
      · simp only [if_pos q2]
        exact sG_sum m (k + 1) c g f hc hg hs (fun x j h1 h2 => ht x j (by omega) h2) (fun x h1 => hu x (by omega))
      · simp only [if_neg q2]
        have hw : ∀ j, j < 8 → 0 ≤ (wr pa (tw k) j).toInt := fun j hj => by
          unfold wr
          by_cases z : xb pa j = 0
          · rw [if_pos z]; decide
          · rw [if_neg z]; exact ht k j (by omega) hj
        have hpos : ∃ j, j < 8 ∧ 0 < (wr pa (tw k) j).toInt := Classical.byContradiction fun z => q2 ((xhw_or _ 8 0 0 (Or.inl rfl)).mpr ⟨rfl, fun j _ hj => (xle0 _).mpr (by
          have : ¬ 0 < (wr pa (tw k) j).toInt := fun w => z ⟨j, by omega, w⟩
          omega)⟩)
        obtain ⟨j0, hj0, hjp⟩ := hpos
        have hsum : 0 < xS8 (fun j => (wr pa (tw k) j).toInt) 8 0 := by
          have := xSu_get hw hj0
          have e : xSu (wr pa (tw k)) = xS8 (fun j => (wr pa (tw k) j).toInt) 8 0 := rfl
          omega
        have su0 := hu k (by omega)
        rw [xle0] at q
        have em : (xmin c (su k)).toInt = min c.toInt (su k).toInt := xmin_i c (su k)
        obtain ⟨_, _, d3, d4, _⟩ := dl_all (n := xmin c (su k)) hw (by omega) hsum
        have d5 : xSu (dl (xmin c (su k)) (wr pa (tw k))) = (xmin c (su k)).toInt := d4
        have hd : ∀ j, j < 8 → 0 ≤ (dl (xmin c (su k)) (wr pa (tw k)) j).toInt := fun j hj => (d3 j hj).1
        have g0 := xSu_nn hg
        have e : ∀ j, j < 8 → (g j + dl (xmin c (su k)) (wr pa (tw k)) j).toInt = (g j).toInt + (dl (xmin c (su k)) (wr pa (tw k)) j).toInt := fun j hj => by
          have q1 := xSu_get hg hj
          have q2 := xSu_get hd hj
          have q3 := hg j hj
          have q4 := hd j hj
          exact xadd (by omega) (by omega)
        have es : xSu (fun j => g j + dl (xmin c (su k)) (wr pa (tw k)) j) = xSu g + (xmin c (su k)).toInt := by
          rw [← d5]
          unfold xSu
          rw [← xS8_add]
          exact xS8_eq (fun j hj => e j hj)
        have ec : (c - xmin c (su k)).toInt = c.toInt - (xmin c (su k)).toInt := xsub (by omega) (by have := xhi c; omega)
        obtain ⟨r1, r2, r3⟩ := sG_sum (pa := pa) (su := su) (tw := tw) m (k + 1) (c - xmin c (su k)) (fun j => g j + dl (xmin c (su k)) (wr pa (tw k)) j) (f + 1) (by omega) (fun j hj => by
          show 0 ≤ (g j + dl (xmin c (su k)) (wr pa (tw k)) j).toInt
          rw [e j hj]
          have := hg j hj
          have := hd j hj
          omega) (by omega) (fun x j h1 h2 => ht x j (by omega) h2) (fun x h1 => hu x (by omega))
        exact ⟨r1, r2, by omega⟩
theorem sV_sum {pa : Int32} {su : Nat → Int32} {tw : Nat → Nat → Int32} {fi : Nat} {n : Int32} (hex : ∃ p, 0 ≤ p ∧ p < 8 ∧ ¬ xb pa p = 0) (hn : -2147483648 < n.toInt) (ht : ∀ q j, q ≤ fi → j < 8 → 0 ≤ (tw q j).toInt) (hu : ∀ q, q < fi → 0 < (su q).toInt) : xSu (sV pa su tw fi n) = n.toInt ∧ ∀ j, j < 8 → ((0 ≤ n.toInt → 0 ≤ (sV pa su tw fi n j).toInt) ∧ (n.toInt ≤ 0 → (sV pa su tw fi n j).toInt ≤ 0)) := by
  have z8 : xSu (fun _ => (0 : Int32)) = 0 := by decide
  have hq := wq_nn (am := pa) (ra := tw fi) (fun j hj => ht fi j (Nat.le_refl _) hj)
  obtain ⟨p, _, hp, hx⟩ := hex
  obtain ⟨k0, hk0, hkp⟩ := wq_pos (am := pa) (ra := tw fi) (fun j hj => ht fi j (Nat.le_refl _) hj) hp hx
  have hsum : 0 < xS8 (fun j => (wq pa (tw fi) j).toInt) 8 0 := by
    have := xSu_get hq hk0
    have e : xSu (wq pa (tw fi)) = xS8 (fun j => (wq pa (tw fi) j).toInt) 8 0 := rfl
    omega
  have hh := xhi n
  by_cases h0 : 0 ≤ n.toInt
  · obtain ⟨r1, r2, r3⟩ := sG_sum (pa := pa) (su := su) (tw := tw) fi 0 n (fun _ => 0) 0 h0 (fun _ _ => by decide) (by rw [z8]; omega) (fun q j h1 h2 => ht q j (by omega) h2) (fun q h1 => hu q (by omega))
    rw [z8] at r3
    have f1 : sG pa su tw fi 0 n (fun _ => 0) 0 = sF pa su tw fi n := rfl
    rw [f1] at r1 r2 r3
    have s0 := xSu_nn r2
    unfold sV
    by_cases c0 : (sF pa su tw fi n).1 = 0
    · rw [if_pos c0]
      rw [c0, i0] at r3
      refine ⟨by omega, fun j hj => ⟨fun _ => r2 j hj, fun z => ?_⟩⟩
      have := xSu_get r2 hj
      omega
    · rw [if_neg c0]
      have c1 : ¬ (sF pa su tw fi n).1 ≤ 0 := by
        rw [xeq0] at c0
        rw [xle0]; omega
      rw [if_neg c1]
      rw [xle0] at c1
      obtain ⟨_, _, d3, d4, _⟩ := dl_all (n := (sF pa su tw fi n).1) hq (by omega) hsum
      have d5 : xSu (dl (sF pa su tw fi n).1 (wq pa (tw fi))) = (sF pa su tw fi n).1.toInt := d4
      have hd : ∀ j, j < 8 → 0 ≤ (dl (sF pa su tw fi n).1 (wq pa (tw fi)) j).toInt := fun j hj => (d3 j hj).1
      have e : ∀ j, j < 8 → ((sF pa su tw fi n).2.1 j + dl (sF pa su tw fi n).1 (wq pa (tw fi)) j).toInt = ((sF pa su tw fi n).2.1 j).toInt + (dl (sF pa su tw fi n).1 (wq pa (tw fi)) j).toInt := fun j hj => by
        have q1 := xSu_get r2 hj
        have q2 := xSu_get hd hj
        have q3 := r2 j hj
        have q4 := hd j hj
        exact xadd (by omega) (by omega)
      have es : xSu (fun j => (sF pa su tw fi n).2.1 j + dl (sF pa su tw fi n).1 (wq pa (tw fi)) j) = xSu (sF pa su tw fi n).2.1 + xSu (dl (sF pa su tw fi n).1 (wq pa (tw fi))) := by
        unfold xSu
        rw [← xS8_add]
        exact xS8_eq (fun j hj => e j hj)
      refine ⟨by omega, fun j hj => ⟨fun _ => ?_, fun z => ?_⟩⟩
      · show 0 ≤ ((sF pa su tw fi n).2.1 j + dl (sF pa su tw fi n).1 (wq pa (tw fi)) j).toInt
        rw [e j hj]
        have := r2 j hj
        have := hd j hj
        omega
      · omega
  · have c0 : sF pa su tw fi n = (n, fun _ => 0, 0) := by
      unfold sF
      cases fi with
      | zero => rfl
      | succ m =>
        unfold sG
        rw [if_pos ((xle0 n).mpr (by omega))]
    have n1 : ¬ n = 0 := fun z => by rw [xeq0] at z; omega
    have n2 : n ≤ 0 := (xle0 n).mpr (by omega)
    unfold sV
    rw [c0]
    dsimp only
    rw [if_neg n1, if_pos n2]
    have en : (-n).toInt = -n.toInt := xneg hn
    obtain ⟨_, _, d3, d4, _⟩ := dl_all (n := -n) hq (by omega) hsum
    have d5 : xSu (dl (-n) (wq pa (tw fi))) = (-n).toInt := d4
    have hd : ∀ j, j < 8 → 0 ≤ (dl (-n) (wq pa (tw fi)) j).toInt := fun j hj => (d3 j hj).1
    have e : ∀ j, j < 8 → (0 - dl (-n) (wq pa (tw fi)) j).toInt = -(dl (-n) (wq pa (tw fi)) j).toInt := fun j hj => by
      have q4 := hd j hj
      have q5 := xhi (dl (-n) (wq pa (tw fi)) j)
      rw [xsub (by rw [i0]; omega) (by rw [i0]; omega), i0]; omega
    have es : xSu (fun j => 0 - dl (-n) (wq pa (tw fi)) j) + xSu (dl (-n) (wq pa (tw fi))) = 0 := by
      rw [← z8]
      unfold xSu
      rw [← xS8_add]
      exact xS8_eq (fun j hj => by
        show (0 - dl (-n) (wq pa (tw fi)) j).toInt + (dl (-n) (wq pa (tw fi)) j).toInt = (0 : Int32).toInt
        rw [e j hj, i0]; omega)
    refine ⟨by omega, fun j hj => ⟨fun z => by omega, fun _ => ?_⟩⟩
    show (0 - dl (-n) (wq pa (tw fi)) j).toInt ≤ 0
    rw [e j hj]
    have := hd j hj
    omega
/-- so the accounts valued anew sum to what the sale is of -/
theorem anew_tot {B : Int} {pa av re ch : Int32} {cap du ra sh ow bo ma de u : Nat → Int32} {fi : Nat} (ok : bOk B pa av re ch cap du ra sh ow bo ma de) (hB : B ≤ 2100000000) (to : rTo u fi) (hp : ¬ pa = 0) : xtot (shC (xtot ma - xtot bo) pa ra cap du sh (sgp pa (rsu u) (rtw u) fi cap (xtot ma - xtot bo))) = xtot cap + (xtot ma - xtot bo) ∧ -2147483648 < (xtot cap + (xtot ma - xtot bo)).toInt := by
  obtain ⟨c1, c2, c3, c4⟩ := bAnew (su := rsu u) (tw := rtw u) (fi := fi) ok hB (fun q j h1 h2 => (to.2.2.1 q j h1 h2).1)
  obtain ⟨ok2, hs⟩ := c4 hp
  refine ⟨?_, c2⟩
  by_cases m0 : xtot ma - xtot bo = 0
  · unfold shC
    rw [if_pos m0, m0]
    exact (Int32.add_zero _).symm
  · obtain ⟨⟨hpa, hav⟩, ha, hn, hab, _, ⟨p1, p2⟩, how⟩ := ok
    obtain ⟨t1, t2, t3⟩ := xAs_tot ha
    have d1 := xDp_nn ma bo
    have d2 := xDp_nn bo ma
    have n1 := xNg_nn cap
    have n2 := xP_nn cap
    have n3 := xSu_PN cap
    have et : (xtot cap).toInt = xSu cap := xtot_b (by omega) (by omega)
    have en : (xtot cap + (xtot ma - xtot bo)).toInt = xSu cap + (xtot ma - xtot bo).toInt := by rw [xadd (by omega) (by omega), et]
    obtain ⟨v1, v2⟩ := sV_sum (pa := pa) (su := rsu u) (tw := rtw u) (fi := fi) (n := xtot cap + (xtot ma - xtot bo)) (bHi_ex hpa hp) c2 (fun q j h1 h2 => (to.2.2.1 q j h1 h2).1) to.2.2.2
    have eg : ∀ k, k < 8 → (sgp pa (rsu u) (rtw u) fi cap (xtot ma - xtot bo) k).toInt = (sV pa (rsu u) (rtw u) fi (xtot cap + (xtot ma - xtot bo)) k).toInt - (cap k).toInt := fun k hk => by
      have q1 := xP_get cap hk
      have q2 := xNg_get cap hk
      unfold sgp
      by_cases z : 0 ≤ (xtot cap + (xtot ma - xtot bo)).toInt
      · have w1 := (v2 k hk).1 z
        have w2 := xSu_get (f := sV pa (rsu u) (rtw u) fi (xtot cap + (xtot ma - xtot bo))) (fun j hj => (v2 j hj).1 z) hk
        exact xsub (by omega) (by omega)
      · have w1 := (v2 k hk).2 (by omega)
        have w2 : xNg (sV pa (rsu u) (rtw u) fi (xtot cap + (xtot ma - xtot bo))) + xSu (sV pa (rsu u) (rtw u) fi (xtot cap + (xtot ma - xtot bo))) = 0 := by
          have z8 : xS8 (fun _ => 0) 8 0 = 0 := by decide
          unfold xNg xSu
          rw [← xS8_add, ← z8]
          exact xS8_eq (fun j hj => by
            have := (v2 j hj).2 (by omega)
            show max 0 (-(sV pa (rsu u) (rtw u) fi (xtot cap + (xtot ma - xtot bo)) j).toInt) + (sV pa (rsu u) (rtw u) fi (xtot cap + (xtot ma - xtot bo)) j).toInt = 0
            omega)
        have w3 := xNg_get (sV pa (rsu u) (rtw u) fi (xtot cap + (xtot ma - xtot bo))) hk
        exact xsub (by omega) (by omega)
    have sg : xSu (sgp pa (rsu u) (rtw u) fi cap (xtot ma - xtot bo)) + xSu cap = xSu (sV pa (rsu u) (rtw u) fi (xtot cap + (xtot ma - xtot bo))) := by
      unfold xSu
      rw [← xS8_add]
      exact xS8_eq (fun j hj => by
        show (sgp pa (rsu u) (rtw u) fi cap (xtot ma - xtot bo) j).toInt + (cap j).toInt = _
        rw [eg j hj]; omega)
    have pos : 0 < xSu (shW (xtot ma - xtot bo) (sgp pa (rsu u) (rtw u) fi cap (xtot ma - xtot bo))) := by
      rw [xeq0] at m0
      by_cases z : xtot ma - xtot bo ≤ 0
      · have : xSu (sgp pa (rsu u) (rtw u) fi cap (xtot ma - xtot bo)) + xSu (shW (xtot ma - xtot bo) (sgp pa (rsu u) (rtw u) fi cap (xtot ma - xtot bo))) ≥ 0 := by
          have z8 : xS8 (fun _ => 0) 8 0 = 0 := by decide
          unfold xSu
          rw [← xS8_add, ← z8]
          exact xS8_all (fun j hj => by
            show 0 ≤ (sgp pa (rsu u) (rtw u) fi cap (xtot ma - xtot bo) j).toInt + (shW (xtot ma - xtot bo) (sgp pa (rsu u) (rtw u) fi cap (xtot ma - xtot bo)) j).toInt
            have q1 := xlo (sgp pa (rsu u) (rtw u) fi cap (xtot ma - xtot bo) j)
            unfold shW
            rw [if_pos z, xmax_i, i0]
            by_cases w : (sgp pa (rsu u) (rtw u) fi cap (xtot ma - xtot bo) j).toInt = -2147483648
            · exfalso
              have q2 := eg j hj
              have q3 := xP_get cap hj
              have q4 := xNg_get cap hj
              have q5 := v2 j hj
              have q6 : (xtot cap + (xtot ma - xtot bo)).toInt ≤ 0 → xNg (sV pa (rsu u) (rtw u) fi (xtot cap + (xtot ma - xtot bo))) + xSu (sV pa (rsu u) (rtw u) fi (xtot cap + (xtot ma - xtot bo))) = 0 := fun hz => by
                unfold xNg xSu
                rw [← xS8_add, ← z8]
                exact xS8_eq (fun j hj => by
                  have := (v2 j hj).2 hz
                  show max 0 (-(sV pa (rsu u) (rtw u) fi (xtot cap + (xtot ma - xtot bo)) j).toInt) + (sV pa (rsu u) (rtw u) fi (xtot cap + (xtot ma - xtot bo)) j).toInt = 0
                  omega)
              have q7 := xNg_get (sV pa (rsu u) (rtw u) fi (xtot cap + (xtot ma - xtot bo))) hj
              by_cases y : 0 ≤ (xtot cap + (xtot ma - xtot bo)).toInt
              · have := q5.1 y
                omega
              · have := q6 (by omega)
                omega
            · rw [xneg (by omega)]; omega)
        rw [xle0] at z
        omega
      · have : xSu (sgp pa (rsu u) (rtw u) fi cap (xtot ma - xtot bo)) ≤ xSu (shW (xtot ma - xtot bo) (sgp pa (rsu u) (rtw u) fi cap (xtot ma - xtot bo))) := xS8_all (fun j hj => by
          show (sgp pa (rsu u) (rtw u) fi cap (xtot ma - xtot bo) j).toInt ≤ (shW (xtot ma - xtot bo) (sgp pa (rsu u) (rtw u) fi cap (xtot ma - xtot bo)) j).toInt
          unfold shW
          rw [if_neg z, xmax_i, i0]; omega)
        rw [xle0] at z
        omega
    have e2 := hs pos
    rw [xeq, en, xtot_b (by omega) (by omega), e2]
