/-! bounds: one comes, one goes, one hands over -/
theorem xDp_self (f : Nat → Int32) : xDp f f = 0 := by
  have : xDp f f = xS8 (fun _ => 0) 8 0 := xS8_eq (fun k _ => by show max 0 ((f k).toInt - (f k).toInt) = 0; omega)
  rw [this]; decide
theorem xDp_tri (f g h : Nat → Int32) : xDp f h ≤ xDp f g + xDp g h := by
  unfold xDp
  rw [← xS8_add]
  exact xS8_all (fun k _ => by show max 0 ((f k).toInt - (h k).toInt) ≤ max 0 ((f k).toInt - (g k).toInt) + max 0 ((g k).toInt - (h k).toInt); omega)
theorem bOk_in {B : Int} {pa av ch v : Int32} {cap du ra sh ow bo ma de : Nat → Int32} {i : Nat} (hpa : bHi pa) (hav : bHi av) (ha : xAs av bo ma de) (hn : bNn du ra sh ow) (hab : bAb pa cap du ra sh ow) (hch : xSu sh ≤ ch.toInt ∧ 0 ≤ ch.toInt ∧ ch.toInt ≤ 8000000) (hi : i < 8) (c1 : xP cap + (max 0 v.toInt - max 0 (cap i).toInt) ≤ B) (c2 : xNg cap + (max 0 (-v.toInt) - max 0 (-(cap i).toInt)) ≤ B) (how : xSu ow + xSu sh + max 0 (xDp de ma - ch.toInt) ≤ B) : bOk B (pa ||| ((1 : Int32) <<< (nI i &&& 31))) av 0 ch (va_up cap i v) du (va_up ra i 1) sh ow ma ma de := by
  refine ⟨⟨bHi_or hi hpa, hav⟩, fun k hk => ⟨(ha k hk).2.1, (ha k hk).2.1, (ha k hk).2.2.1, fun hx => ⟨((ha k hk).2.2.2 hx).2.1, ((ha k hk).2.2.2 hx).2.1, ((ha k hk).2.2.2 hx).2.2⟩⟩, fun k hk => ?_, fun k hk hx => ?_, hch, ⟨?_, ?_⟩, ?_⟩
  · by_cases q : k = i
    · subst q; rw [xup_at]; exact ⟨(hn k hk).1, ⟨by decide, by decide⟩, (hn k hk).2.2⟩
    · rw [va_up_ne _ _ q]; exact hn k hk
  · rw [xb_or (by omega) (by omega)] at hx
    by_cases q : k = i
    · rw [if_pos q] at hx; exact absurd hx (by decide)
    · rw [if_neg q] at hx
      rw [va_up_ne _ _ q, va_up_ne _ _ q]; exact hab k hk hx
  · rw [xP_up cap hi, xDp_self, i0]; omega
  · rw [xNg_up cap hi, xDp_self, i0]; omega
  · rw [xDp_self]; omega
theorem b_come {B : Int} {pa av ch n : Int32} {cap cap2 du ra sh ow bo ma de : Nat → Int32} {i : Nat} (h : bOk B pa av 0 ch cap du ra sh ow bo ma de) (hB : B ≤ 2100000000) (hi : i < 8) (hx : xb pa i = 0) (n1 : 0 ≤ n.toInt) (n2 : n.toInt ≤ 1000000) (hc0 : pa = 0 → cap2 = cap) (hc1 : ¬ pa = 0 → bOk B pa av 0 ch cap2 du ra sh ow ma ma de) : bOk (B + 1000000) (pa ||| ((1 : Int32) <<< (nI i &&& 31))) av 0 ch (va_up cap2 i ((if pa = 0 then xtot ma - xtot bo else 0) + n)) du (va_up ra i 1) sh ow ma ma de := by
  by_cases hp : pa = 0
  · rw [if_pos hp, hc0 hp]
    obtain ⟨⟨hpa, hav⟩, ha, hn, hab, hch, ⟨p1, p2⟩, how⟩ := h
    have z : (cap i).toInt = 0 := by rw [(hab i hi hx).1, i0]
    obtain ⟨t1, t2, t3⟩ := xAs_tot ha
    have d1 := xDp_nn ma bo
    have d2 := xDp_nn bo ma
    have c1 := xP_nn cap
    have c2 := xNg_nn cap
    have e : (xtot ma - xtot bo + n).toInt = xDp ma bo - xDp bo ma + n.toInt := by rw [xadd (by omega) (by omega), t1]
    have tri := xDp_tri de bo ma
    rw [i0] at p1 p2
    exact bOk_in hpa hav ha hn hab hch hi (by rw [e]; omega) (by rw [e]; omega) (by omega)
  · rw [if_neg hp]
    obtain ⟨⟨hpa, hav⟩, ha, hn, hab, hch, ⟨p1, p2⟩, how⟩ := hc1 hp
    have z : (cap2 i).toInt = 0 := by rw [(hab i hi hx).1, i0]
    rw [xDp_self, i0] at p1 p2
    rw [xDp_self] at how
    have e : ((0 : Int32) + n).toInt = n.toInt := by rw [Int32.zero_add]
    exact bOk_in hpa hav ha hn hab hch hi (by rw [e]; omega) (by rw [e]; omega) (by omega)
theorem nu_mv {f w : Nat → Int32} {i : Nat} (hf : ∀ k, k < 8 → 0 ≤ (f k).toInt) (hB : xSu f < 2147483648) (hi : i < 8) (hw : ∀ k, k < 8 → 0 ≤ (w k).toInt) : (∀ k, k < 8 → 0 ≤ (va_up f i 0 k + dl (f i) w k).toInt) ∧ xSu (fun k => va_up f i 0 k + dl (f i) w k) ≤ xSu f := by
  have h0 : ∀ k, k < 8 → 0 ≤ (va_up f i 0 k).toInt := fun k hk => by
    by_cases q : k = i
    · subst q; rw [xup_at]; decide
    · rw [va_up_ne _ _ q]; exact hf k hk
  have hd : ∀ k, k < 8 → 0 ≤ (dl (f i) w k).toInt := fun k hk => (dl_nn hw hk).1
  have s1 : xSu (va_up f i 0) = xSu f + (0 - (f i).toInt) := by rw [xSu_up f hi, i0]
  have s2 : xSu (dl (f i) w) ≤ max 0 (f i).toInt := dl_le hw
  have f0 := hf i hi
  have e : ∀ k, k < 8 → (va_up f i 0 k + dl (f i) w k).toInt = (va_up f i 0 k).toInt + (dl (f i) w k).toInt := fun k hk => by
    have q1 := xSu_get h0 hk
    have q2 := xSu_get hd hk
    have q3 := h0 k hk
    have q4 := hd k hk
    exact xadd (by omega) (by omega)
  refine ⟨fun k hk => by rw [e k hk]; have := h0 k hk; have := hd k hk; omega, ?_⟩
  have : xSu (fun k => va_up f i 0 k + dl (f i) w k) = xSu (va_up f i 0) + xSu (dl (f i) w) := by
    unfold xSu
    rw [← xS8_add]
    exact xS8_eq (fun k hk => e k hk)
  omega
theorem b_go {B : Int} {pa av ch : Int32} {cap du ra sh ow bo ma de : Nat → Int32} {i : Nat} (h : bOk B pa av 0 ch cap du ra sh ow bo ma de) (hB : B ≤ 2100000000) (hi : i < 8) : 0 ≤ (xmax (cap i) (-(du i)) - cap i).toInt ∧ bOk B (xwo pa i) av 0 ch (fun k => va_up cap i 0 k - dl (xmax (cap i) (-(du i)) - cap i) (wq (xwo pa i) (va_up ra i 0)) k) (va_up du i 0) (va_up ra i 0) (fun k => va_up sh i 0 k + dl (sh i) (wq (xwo pa i) (va_up ra i 0)) k) (fun k => va_up ow i 0 k + dl (ow i) (wq (xwo pa i) (va_up ra i 0)) k) bo ma de := by
  obtain ⟨⟨hpa, hav⟩, ha, hn, hab, ⟨hc1, hc2, hc3⟩, ⟨p1, p2⟩, how⟩ := h
  rw [i0] at p1 p2
  have d1 := xDp_nn ma bo
  have d2 := xDp_nn bo ma
  have d3 := xP_nn cap
  have d4 := xNg_nn cap
  have g1 := xP_get cap hi
  have g2 := xNg_get cap hi
  have hS : ∀ k, k < 8 → 0 ≤ (sh k).toInt := fun k hk => (hn k hk).2.2.1
  have hO : ∀ k, k < 8 → 0 ≤ (ow k).toInt := fun k hk => (hn k hk).2.2.2
  have s0 := xSu_nn hS
  have o0 := xSu_nn hO
  have du0 := (hn i hi).1
  have hra2 : ∀ k, k < 8 → 0 ≤ (va_up ra i 0 k).toInt ∧ (va_up ra i 0 k).toInt ≤ 99 := fun k hk => by
    by_cases q : k = i
    · subst q; rw [xup_at]; decide
    · rw [va_up_ne _ _ q]; exact (hn k hk).2.1
  have hw := wq_nn (am := xwo pa i) (fun k hk => (hra2 k hk).1)
  have en : (-(du i)).toInt = -(du i).toInt := xneg (by omega)
  have eh : (xmax (cap i) (-(du i))).toInt = max (cap i).toInt (-(du i).toInt) := by rw [xmax_i, en]
  have em : (xmax (cap i) (-(du i)) - cap i).toInt = max (cap i).toInt (-(du i).toInt) - (cap i).toInt := by rw [xsub (by omega) (by omega), eh]
  have hm0 : 0 ≤ (xmax (cap i) (-(du i)) - cap i).toInt := by omega
  refine ⟨hm0, ⟨bHi_wo hi hpa, hav⟩, ha, fun k hk => ?_, fun k hk hx => ?_, ?_, ?_, ?_⟩
  · refine ⟨?_, hra2 k hk, (nu_mv hS (by omega) hi hw).1 k hk, (nu_mv hO (by omega) hi hw).1 k hk⟩
    by_cases q : k = i
    · subst q; rw [xup_at]; decide
    · rw [va_up_ne _ _ q]; exact (hn k hk).1
  · have z : wq (xwo pa i) (va_up ra i 0) k = 0 := wq_out hx
    have zd : ∀ m, dl m (wq (xwo pa i) (va_up ra i 0)) k = 0 := fun m => dl_out hw hk z
    show va_up cap i 0 k - dl _ _ k = 0 ∧ va_up du i 0 k = 0 ∧ va_up ra i 0 k = 0 ∧ va_up sh i 0 k + dl _ _ k = 0 ∧ va_up ow i 0 k + dl _ _ k = 0
    rw [zd, zd, zd]
    by_cases q : k = i
    · subst q; rw [xup_at, xup_at, xup_at, xup_at, xup_at]; decide
    · rw [va_up_ne _ _ q, va_up_ne _ _ q, va_up_ne _ _ q, va_up_ne _ _ q, va_up_ne _ _ q]
      rw [xb_wo (by omega) (by omega), if_neg q] at hx
      obtain ⟨a1, a2, a3, a4, a5⟩ := hab k hk hx
      rw [a1, a2, a3, a4, a5]; decide
  · have := (nu_mv hS (by omega) hi hw).2
    exact ⟨by omega, hc2, hc3⟩
  · have n1 : xNg (va_up cap i 0) = xNg cap + (max 0 (-(0 : Int)) - max 0 (-(cap i).toInt)) := by rw [xNg_up cap hi, i0]
    have n2 : xP (va_up cap i 0) = xP cap + (max 0 (0 : Int) - max 0 (cap i).toInt) := by rw [xP_up cap hi, i0]
    have dle : xSu (dl (xmax (cap i) (-(du i)) - cap i) (wq (xwo pa i) (va_up ra i 0))) ≤ (xmax (cap i) (-(du i)) - cap i).toInt := by
      have : xSu (dl (xmax (cap i) (-(du i)) - cap i) (wq (xwo pa i) (va_up ra i 0))) ≤ max 0 (xmax (cap i) (-(du i)) - cap i).toInt := dl_le hw
      omega
    obtain ⟨_, m1, m2⟩ := nu_sub (cap := va_up cap i 0) (p := dl (xmax (cap i) (-(du i)) - cap i) (wq (xwo pa i) (va_up ra i 0))) (B := B) (n := (xmax (cap i) (-(du i)) - cap i).toInt) (fun k hk => (dl_nn hw hk).1) dle (by omega) (by omega)
    refine ⟨?_, ?_⟩
    · rw [i0]; omega
    · rw [i0]; omega
  · have q1 := (nu_mv hS (by omega) hi hw).2
    have q2 := (nu_mv hO (by omega) hi hw).2
    omega
theorem xho_i {v n : Int32} (n1 : 1 ≤ n.toInt) (n2 : n.toInt ≤ 100) : (0 ≤ v.toInt → 0 ≤ (xho v n).toInt ∧ (xho v n).toInt ≤ v.toInt) ∧ (v.toInt ≤ 0 → v.toInt ≤ (xho v n).toInt ∧ (xho v n).toInt ≤ 0) := by
  have l := xlo v
  have h := xhi v
  have hm : (v.toInt64 * n.toInt64).toInt = v.toInt * n.toInt := by
    have b1 : -2147483648 * 100 ≤ v.toInt * n.toInt := by
      by_cases q : 0 ≤ v.toInt
      · have := Int.mul_nonneg q (by omega : 0 ≤ n.toInt); omega
      · have := Int.mul_le_mul_of_nonpos_left (a := v.toInt) (b := 100) (c := n.toInt) (by omega) (by omega); omega
    have b2 : v.toInt * n.toInt ≤ 2147483648 * 100 := by
      by_cases q : 0 ≤ v.toInt
      · have := Int.mul_le_mul_of_nonneg_left n2 q; omega
      · have := Int.mul_nonneg (a := -v.toInt) (b := n.toInt) (by omega) (by omega)
        rw [Int.neg_mul] at this; omega
    rw [Int64.toInt_mul, Int32.toInt_toInt64, Int32.toInt_toInt64, xb64 (by omega) (by omega)]
  have hd : ((v.toInt64 * n.toInt64) / (100 : Int64)).toInt = (v.toInt * n.toInt).tdiv 100 := by
    rw [Int64.toInt_div, hm, show (100 : Int64).toInt = 100 from by decide]
    have t1 : (v.toInt * n.toInt).tdiv 100 ≤ 2147483648 ∧ -2147483648 ≤ (v.toInt * n.toInt).tdiv 100 := by
      by_cases q : 0 ≤ v.toInt
      · have q1 := Int.mul_nonneg q (by omega : 0 ≤ n.toInt)
        have q2 := Int.mul_le_mul_of_nonneg_left n2 q
        rw [Int.tdiv_eq_ediv_of_nonneg q1]
        omega
      · have q1 := Int.mul_nonneg (a := -v.toInt) (b := n.toInt) (by omega) (by omega)
        have q2 := Int.mul_le_mul_of_nonneg_left (c := -v.toInt) n2 (by omega)
        rw [Int.neg_mul] at q1
        rw [Int.neg_mul, Int.neg_mul] at q2
        rw [show v.toInt * n.toInt = -(-(v.toInt * n.toInt)) by omega, Int.neg_tdiv, Int.tdiv_eq_ediv_of_nonneg q1]
        omega
    rw [xb64 (by omega) (by omega)]
  have hx : (v.toInt * n.toInt).tdiv 100 = (xho v n).toInt ∨ True := Or.inr trivial
  refine ⟨fun q => ?_, fun q => ?_⟩
  · have q1 := Int.mul_nonneg q (by omega : 0 ≤ n.toInt)
    have q2 := Int.mul_le_mul_of_nonneg_left n2 q
    have e : (xho v n).toInt = (v.toInt * n.toInt) / 100 := by
      unfold xho
      rw [Int64.toInt_toInt32, hd, Int.tdiv_eq_ediv_of_nonneg q1, xb32 (by omega) (by omega)]
    rw [e]
    omega
  · have q1 := Int.mul_nonneg (a := -v.toInt) (b := n.toInt) (by omega) (by omega)
    have q2 := Int.mul_le_mul_of_nonneg_left (c := -v.toInt) n2 (by omega)
    rw [Int.neg_mul] at q1
    rw [Int.neg_mul, Int.neg_mul] at q2
    have e : (xho v n).toInt = -(-(v.toInt * n.toInt) / 100) := by
      unfold xho
      rw [Int64.toInt_toInt32, hd, show v.toInt * n.toInt = -(-(v.toInt * n.toInt)) by omega, Int.neg_tdiv, Int.tdiv_eq_ediv_of_nonneg q1, xb32 (by omega) (by omega)]
      omega
    rw [e]
    omega
theorem b_hand0 {cap : Nat → Int32} {i j : Nat} {n : Int32} {B1 B2 : Int} (hi : i < 8) (hj : j < 8) (hij : j ≠ i) (n1 : 1 ≤ n.toInt) (n2 : n.toInt ≤ 100) (p1 : xP cap ≤ B1) (p2 : xNg cap ≤ B2) (h1 : B1 < 2147483648) (h2 : B2 < 2147483648) : xP (va_up (va_up cap i (cap i - xho (cap i) n)) j (cap j + xho (cap i) n)) ≤ xP cap ∧ xNg (va_up (va_up cap i (cap i - xho (cap i) n)) j (cap j + xho (cap i) n)) ≤ xNg cap ∧ (0 ≤ (cap i).toInt → (cap i - xho (cap i) n).toInt = (cap i).toInt - (xho (cap i) n).toInt) ∧ (cap j + xho (cap i) n).toInt = (cap j).toInt + (xho (cap i) n).toInt := by
  obtain ⟨x1, x2⟩ := xho_i (v := cap i) n1 n2
  have a1 := xP_get cap hi
  have a2 := xNg_get cap hi
  have s1 := xP_up cap hi 0
  have s2 := xNg_up cap hi 0
  rw [i0] at s1 s2
  have b1 := xP_get (va_up cap i 0) hj
  have b2 := xNg_get (va_up cap i 0) hj
  rw [va_up_ne _ _ hij] at b1 b2
  have b3 := xP_nn (va_up cap i 0)
  have b4 := xNg_nn (va_up cap i 0)
  have hd : (cap i - xho (cap i) n).toInt = (cap i).toInt - (xho (cap i) n).toInt := by
    by_cases q : 0 ≤ (cap i).toInt
    · have := x1 q; exact xsub (by omega) (by omega)
    · have := x2 (by omega); exact xsub (by omega) (by omega)
  have he : (cap j + xho (cap i) n).toInt = (cap j).toInt + (xho (cap i) n).toInt := by
    by_cases q : 0 ≤ (cap i).toInt
    · have := x1 q; exact xadd (by omega) (by omega)
    · have := x2 (by omega); exact xadd (by omega) (by omega)
  rw [xP_up _ hj, xNg_up _ hj, xP_up _ hi, xNg_up _ hi, va_up_ne _ _ hij, hd, he]
  refine ⟨?_, ?_, fun _ => rfl, rfl⟩
  · by_cases q : 0 ≤ (cap i).toInt
    · have := x1 q; omega
    · have := x2 (by omega); omega
  · by_cases q : 0 ≤ (cap i).toInt
    · have := x1 q; omega
    · have := x2 (by omega); omega
theorem b_handS {f : Nat → Int32} {i j : Nat} {n : Int32} (hf : ∀ k, k < 8 → 0 ≤ (f k).toInt) (hB : xSu f < 2147483648) (hi : i < 8) (hj : j < 8) (hij : j ≠ i) (n1 : 1 ≤ n.toInt) (n2 : n.toInt ≤ 100) : (∀ k, k < 8 → 0 ≤ (va_up (va_up f i (f i - xho (f i) n)) j (f j + xho (f i) n) k).toInt) ∧ xSu (va_up (va_up f i (f i - xho (f i) n)) j (f j + xho (f i) n)) = xSu f := by
  obtain ⟨x1, x2⟩ := (xho_i (v := f i) n1 n2).1 (hf i hi)
  have h0 : ∀ k, k < 8 → 0 ≤ (va_up f i 0 k).toInt := fun k hk => by
    by_cases q : k = i
    · subst q; rw [xup_at]; decide
    · rw [va_up_ne _ _ q]; exact hf k hk
  have s1 := xSu_up f hi 0
  rw [i0] at s1
  have b1 := xSu_get h0 hj
  rw [va_up_ne _ _ hij] at b1
  have fj := hf j hj
  have hd : (f i - xho (f i) n).toInt = (f i).toInt - (xho (f i) n).toInt := xsub (by omega) (by have := xhi (f i); omega)
  have he : (f j + xho (f i) n).toInt = (f j).toInt + (xho (f i) n).toInt := xadd (by omega) (by omega)
  refine ⟨fun k hk => ?_, ?_⟩
  · by_cases q : k = j
    · subst q; rw [xup_at, he]; omega
    · rw [va_up_ne _ _ q]
      by_cases q2 : k = i
      · subst q2; rw [xup_at, hd]; omega
      · rw [va_up_ne _ _ q2]; exact hf k hk
  · rw [xSu_up _ hj, xSu_up _ hi, va_up_ne _ _ hij, hd, he]; omega
theorem b_hand {B : Int} {pa av re ch n : Int32} {cap du ra sh ow bo ma de : Nat → Int32} {i j : Nat} (h : bOk B pa av re ch cap du ra sh ow bo ma de) (hB : B ≤ 2100000000) (hi : i < 8) (hj : j < 8) (hij : j ≠ i) (hx : ¬ xb pa i = 0) (hy : ¬ xb pa j = 0) (n1 : 1 ≤ n.toInt) (n2 : n.toInt ≤ 100) : bOk B pa av re ch (va_up (va_up cap i (cap i - xho (cap i) n)) j (cap j + xho (cap i) n)) du ra (va_up (va_up sh i (sh i - xho (sh i) n)) j (sh j + xho (sh i) n)) (va_up (va_up ow i (ow i - xho (ow i) n)) j (ow j + xho (ow i) n)) bo ma de := by
  obtain ⟨hm, ha, hn, hab, ⟨hc1, hc2, hc3⟩, ⟨p1, p2⟩, how⟩ := h
  have d1 := xDp_nn ma bo
  have d2 := xDp_nn bo ma
  have hS : ∀ k, k < 8 → 0 ≤ (sh k).toInt := fun k hk => (hn k hk).2.2.1
  have hO : ∀ k, k < 8 → 0 ≤ (ow k).toInt := fun k hk => (hn k hk).2.2.2
  have s0 := xSu_nn hS
  have o0 := xSu_nn hO
  obtain ⟨c1, c2, _, _⟩ := b_hand0 (cap := cap) (B1 := B) (B2 := B) hi hj hij n1 n2 (by omega) (by omega) (by omega) (by omega)
  obtain ⟨s1, s2⟩ := b_handS hS (by omega) hi hj hij n1 n2
  obtain ⟨w1, w2⟩ := b_handS hO (by omega) hi hj hij n1 n2
  refine ⟨hm, ha, fun k hk => ⟨(hn k hk).1, (hn k hk).2.1, s1 k hk, w1 k hk⟩, fun k hk hk0 => ?_, ⟨by omega, hc2, hc3⟩, ⟨by omega, by omega⟩, by omega⟩
  have q1 : k ≠ i := fun q => hx (q ▸ hk0)
  have q2 : k ≠ j := fun q => hy (q ▸ hk0)
  rw [va_up_ne _ _ q2, va_up_ne _ _ q1, va_up_ne _ _ q2, va_up_ne _ _ q1, va_up_ne _ _ q2, va_up_ne _ _ q1]
  exact hab k hk hk0
theorem b_admit {B : Int} {pa av re ch : Int32} {cap du ra sh ow bo ma de : Nat → Int32} {i : Nat} (h : bOk B pa av re ch cap du ra sh ow bo ma de) (hi : i < 8) : bOk B (pa ||| ((1 : Int32) <<< (nI i &&& 31))) av re ch cap du (va_up ra i 1) sh ow bo ma de := by
  obtain ⟨⟨hpa, hav⟩, ha, hn, hab, hc, hp, how⟩ := h
  refine ⟨⟨bHi_or hi hpa, hav⟩, ha, fun k hk => ?_, fun k hk hx => ?_, hc, hp, how⟩
  · by_cases q : k = i
    · subst q; rw [xup_at]; exact ⟨(hn k hk).1, ⟨by decide, by decide⟩, (hn k hk).2.2⟩
    · rw [va_up_ne _ _ q]; exact hn k hk
  · rw [xb_or (by omega) (by omega)] at hx
    by_cases q : k = i
    · rw [if_pos q] at hx; exact absurd hx (by decide)
    · rw [if_neg q] at hx
      rw [va_up_ne _ _ q]; exact hab k hk hx
