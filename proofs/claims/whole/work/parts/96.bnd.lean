/-! sums with one place changed; what each act may add -/
theorem xS8_8 (q : Nat → Int) : xS8 q 8 0 = q 0 + (q 1 + (q 2 + (q 3 + (q 4 + (q 5 + (q 6 + (q 7 + 0))))))) := rfl
theorem xS8_one {f g : Nat → Int} {i : Nat} {x y : Int} (hi : i < 8) (h : ∀ k, k < 8 → k ≠ i → f k = g k) (hx : f i = x) (hy : g i = y) : xS8 f 8 0 = xS8 g 8 0 + (x - y) := by
  have hh : ∀ k, k < 8 → (k = i ∨ f k = g k) := fun k hk => by
    by_cases q : k = i
    · exact Or.inl q
    · exact Or.inr (h k hk q)
  have a0 := hh 0 (by decide)
  have a1 := hh 1 (by decide)
  have a2 := hh 2 (by decide)
  have a3 := hh 3 (by decide)
  have a4 := hh 4 (by decide)
  have a5 := hh 5 (by decide)
  have a6 := hh 6 (by decide)
  have a7 := hh 7 (by decide)
  rw [xS8_8 f, xS8_8 g]
  subst hx
  subst hy
  clear h hh
  rcases (show i = 0 ∨ i = 1 ∨ i = 2 ∨ i = 3 ∨ i = 4 ∨ i = 5 ∨ i = 6 ∨ i = 7 by omega) with rfl | rfl | rfl | rfl | rfl | rfl | rfl | rfl <;> omega
theorem xP_up (f : Nat → Int32) {i : Nat} (hi : i < 8) (v : Int32) : xP (va_up f i v) = xP f + (max 0 v.toInt - max 0 (f i).toInt) := xS8_one hi (fun k _ q => by show max 0 (va_up f i v k).toInt = _; rw [va_up_ne _ _ q]) (by show max 0 (va_up f i v i).toInt = _; rw [xup_at]) rfl
theorem xNg_up (f : Nat → Int32) {i : Nat} (hi : i < 8) (v : Int32) : xNg (va_up f i v) = xNg f + (max 0 (-v.toInt) - max 0 (-(f i).toInt)) := xS8_one hi (fun k _ q => by show max 0 (-(va_up f i v k).toInt) = _; rw [va_up_ne _ _ q]) (by show max 0 (-(va_up f i v i).toInt) = _; rw [xup_at]) rfl
theorem xSu_up (f : Nat → Int32) {i : Nat} (hi : i < 8) (v : Int32) : xSu (va_up f i v) = xSu f + (v.toInt - (f i).toInt) := xS8_one hi (fun k _ q => by show (va_up f i v k).toInt = _; rw [va_up_ne _ _ q]) (by show (va_up f i v i).toInt = _; rw [xup_at]) rfl
theorem xDp_upl (f g : Nat → Int32) {i : Nat} (hi : i < 8) (v : Int32) : xDp (va_up f i v) g = xDp f g + (max 0 (v.toInt - (g i).toInt) - max 0 ((f i).toInt - (g i).toInt)) := xS8_one hi (fun k _ q => by show max 0 ((va_up f i v k).toInt - (g k).toInt) = _; rw [va_up_ne _ _ q]) (by show max 0 ((va_up f i v i).toInt - (g i).toInt) = _; rw [xup_at]) rfl
theorem xDp_upr (f g : Nat → Int32) {i : Nat} (hi : i < 8) (v : Int32) : xDp f (va_up g i v) = xDp f g + (max 0 ((f i).toInt - v.toInt) - max 0 ((f i).toInt - (g i).toInt)) := xS8_one hi (fun k _ q => by show max 0 ((f k).toInt - (va_up g i v k).toInt) = _; rw [va_up_ne _ _ q]) (by show max 0 ((f i).toInt - (va_up g i v i).toInt) = _; rw [xup_at]) rfl
theorem xDp_up2 (f g : Nat → Int32) {i : Nat} (hi : i < 8) (v w : Int32) : xDp (va_up f i v) (va_up g i w) = xDp f g + (max 0 (v.toInt - w.toInt) - max 0 ((f i).toInt - (g i).toInt)) := xS8_one hi (fun k _ q => by show max 0 ((va_up f i v k).toInt - (va_up g i w k).toInt) = _; rw [va_up_ne _ _ q, va_up_ne _ _ q]) (by show max 0 ((va_up f i v i).toInt - (va_up g i w i).toInt) = _; rw [xup_at, xup_at]) rfl
theorem b_pay {B : Int} {pa av re ch n : Int32} {cap du ra sh ow bo ma de : Nat → Int32} {i : Nat} (h : bOk B pa av re ch cap du ra sh ow bo ma de) (hB : B ≤ 2100000000) (hi : i < 8) (hx : ¬ xb pa i = 0) (n1 : -1000000 ≤ n.toInt) (n2 : n.toInt ≤ 1000000) : bOk (B + 1000000) pa av re ch (va_up cap i (cap i + n)) du ra sh ow bo ma de := by
  obtain ⟨hm, ha, hn, hab, hc, ⟨p1, p2⟩, how⟩ := h
  have d1 := xDp_nn ma bo
  have d2 := xDp_nn bo ma
  have g1 := xP_get cap hi
  have g2 := xNg_get cap hi
  have e : (cap i + n).toInt = (cap i).toInt + n.toInt := xadd (by omega) (by omega)
  refine ⟨hm, ha, hn, fun k hk hk0 => ?_, hc, ⟨?_, ?_⟩, by omega⟩
  · have q : k ≠ i := fun q => hx (q ▸ hk0)
    rw [va_up_ne _ _ q]; exact hab k hk hk0
  · rw [xP_up cap hi, e]; omega
  · rw [xNg_up cap hi, e]; omega
theorem b_du {B : Int} {pa av re ch n : Int32} {cap du ra sh ow bo ma de : Nat → Int32} {i : Nat} (h : bOk B pa av re ch cap du ra sh ow bo ma de) (hi : i < 8) (hx : ¬ xb pa i = 0) (n1 : 0 ≤ n.toInt) (n2 : n.toInt ≤ 100000) : bOk B pa av re ch cap (va_up du i n) ra sh ow bo ma de := by
  obtain ⟨hm, ha, hn, hab, hc, hp, how⟩ := h
  refine ⟨hm, ha, fun k hk => ?_, fun k hk hk0 => ?_, hc, hp, how⟩
  · by_cases q : k = i
    · subst q; rw [xup_at]; exact ⟨⟨n1, n2⟩, (hn k hk).2⟩
    · rw [va_up_ne _ _ q]; exact hn k hk
  · have q : k ≠ i := fun q => hx (q ▸ hk0)
    rw [va_up_ne _ _ q]; exact hab k hk hk0
theorem b_ra {B : Int} {pa av re ch n : Int32} {cap du ra sh ow bo ma de : Nat → Int32} {i : Nat} (h : bOk B pa av re ch cap du ra sh ow bo ma de) (hi : i < 8) (hx : ¬ xb pa i = 0) (n1 : 0 ≤ n.toInt) (n2 : n.toInt ≤ 99) : bOk B pa av re ch cap du (va_up ra i n) sh ow bo ma de := by
  obtain ⟨hm, ha, hn, hab, hc, hp, how⟩ := h
  refine ⟨hm, ha, fun k hk => ?_, fun k hk hk0 => ?_, hc, hp, how⟩
  · by_cases q : k = i
    · subst q; rw [xup_at]; exact ⟨(hn k hk).1, ⟨n1, n2⟩, (hn k hk).2.2⟩
    · rw [va_up_ne _ _ q]; exact hn k hk
  · have q : k ≠ i := fun q => hx (q ▸ hk0)
    rw [va_up_ne _ _ q]; exact hab k hk hk0
theorem b_ma {B : Int} {pa av re ch n : Int32} {cap du ra sh ow bo ma de : Nat → Int32} {i : Nat} (h : bOk B pa av re ch cap du ra sh ow bo ma de) (hi : i < 8) (hx : ¬ xb av i = 0) (n1 : 0 ≤ n.toInt) (n2 : n.toInt ≤ 1000000) : bOk (B + 1000000) pa av re ch cap du ra sh ow bo (va_up ma i n) de := by
  obtain ⟨hm, ha, hn, hab, hc, ⟨p1, p2⟩, how⟩ := h
  obtain ⟨⟨a1, a2⟩, ⟨a3, a4⟩, ⟨a5, a6⟩, _⟩ := ha i hi
  refine ⟨hm, fun k hk => ?_, hn, hab, hc, ⟨?_, ?_⟩, ?_⟩
  · by_cases q : k = i
    · subst q; rw [xup_at]; exact ⟨(ha k hk).1, ⟨n1, n2⟩, (ha k hk).2.2.1, fun z => absurd z hx⟩
    · rw [va_up_ne _ _ q]; exact ha k hk
  · rw [xDp_upl ma bo hi]; omega
  · rw [xDp_upr bo ma hi]; omega
  · rw [xDp_upr bo ma hi]; omega
theorem b_lose {B : Int} {pa av re ch n : Int32} {cap du ra sh ow bo ma de : Nat → Int32} {i : Nat} (h : bOk B pa av re ch cap du ra sh ow bo ma de) (hB : B ≤ 2100000000) (hi : i < 8) (hx : ¬ xb av i = 0) (n1 : 1 ≤ n.toInt) (n2 : n.toInt ≤ (bo i).toInt) : bOk (B + 1000000) pa av (re - n) ch cap du ra sh ow (va_up bo i (bo i - n)) ma de := by
  obtain ⟨hm, ha, hn, hab, hc, ⟨p1, p2⟩, how⟩ := h
  obtain ⟨⟨a1, a2⟩, ⟨a3, a4⟩, ⟨a5, a6⟩, _⟩ := ha i hi
  have d1 := xDp_nn ma bo
  have d2 := xDp_nn bo ma
  have c1 := xP_nn cap
  have c2 := xNg_nn cap
  have e : (bo i - n).toInt = (bo i).toInt - n.toInt := xsub (by omega) (by omega)
  have e2 : (re - n).toInt = re.toInt - n.toInt := xsub (by omega) (by omega)
  refine ⟨hm, fun k hk => ?_, hn, hab, hc, ⟨?_, ?_⟩, ?_⟩
  · by_cases q : k = i
    · subst q; rw [xup_at, e]; exact ⟨by omega, (ha k hk).2.1, (ha k hk).2.2.1, fun z => absurd z hx⟩
    · rw [va_up_ne _ _ q]; exact ha k hk
  · rw [xDp_upr ma bo hi, e, e2]; omega
  · rw [xDp_upl bo ma hi, e, e2]; omega
  · rw [xDp_upl bo ma hi, xDp_upr de bo hi, e]; omega
theorem b_de {B : Int} {pa av re ch n : Int32} {cap du ra sh ow bo ma de : Nat → Int32} {i : Nat} (h : bOk B pa av re ch cap du ra sh ow bo ma de) (hi : i < 8) (hx : ¬ xb av i = 0) (n1 : 0 ≤ (de i).toInt + n.toInt) (n2 : (de i).toInt + n.toInt ≤ 1000000) : bOk (B + 1000000) pa av re ch cap du ra sh ow bo ma (va_up de i (de i + n)) := by
  obtain ⟨hm, ha, hn, hab, hc, ⟨p1, p2⟩, how⟩ := h
  obtain ⟨⟨a1, a2⟩, ⟨a3, a4⟩, ⟨a5, a6⟩, _⟩ := ha i hi
  have e : (de i + n).toInt = (de i).toInt + n.toInt := xadd (by omega) (by omega)
  refine ⟨hm, fun k hk => ?_, hn, hab, hc, ⟨by omega, by omega⟩, ?_⟩
  · by_cases q : k = i
    · subst q; rw [xup_at, e]; exact ⟨(ha k hk).1, (ha k hk).2.1, ⟨n1, n2⟩, fun z => absurd z hx⟩
    · rw [va_up_ne _ _ q]; exact ha k hk
  · rw [xDp_upl de bo hi, e]; omega
theorem b_earn {B : Int} {pa av re ch n : Int32} {cap du ra sh ow bo ma de : Nat → Int32} (h : bOk B pa av re ch cap du ra sh ow bo ma de) (hB : B ≤ 2100000000) (n1 : -1000000 ≤ n.toInt) (n2 : n.toInt ≤ 1000000) : bOk (B + 1000000) pa av (re + n) ch cap du ra sh ow bo ma de := by
  obtain ⟨hm, ha, hn, hab, hc, ⟨p1, p2⟩, how⟩ := h
  have d1 := xDp_nn ma bo
  have d2 := xDp_nn bo ma
  have c1 := xP_nn cap
  have c2 := xNg_nn cap
  have e2 : (re + n).toInt = re.toInt + n.toInt := xadd (by omega) (by omega)
  exact ⟨hm, ha, hn, hab, hc, ⟨by rw [e2]; omega, by rw [e2]; omega⟩, by omega⟩
theorem bHi_or {m : Int32} {i : Nat} (hi : i < 8) (h : bHi m) : bHi (m ||| ((1 : Int32) <<< (nI i &&& 31))) := fun j h8 h32 => by
  rw [xb_or (by omega) h32, if_neg (by omega)]; exact h j h8 h32
theorem bHi_wo {m : Int32} {i : Nat} (hi : i < 8) (h : bHi m) : bHi (xwo m i) := fun j h8 h32 => by
  rw [xb_wo (by omega) h32, if_neg (by omega)]; exact h j h8 h32
theorem b_buy {B : Int} {pa av re ch x y z : Int32} {cap du ra sh ow bo ma de : Nat → Int32} {i : Nat} (h : bOk B pa av re ch cap du ra sh ow bo ma de) (hi : i < 8) (hx : xb av i = 0) (x1 : 0 ≤ x.toInt ∧ x.toInt ≤ 1000000) (y1 : 0 ≤ y.toInt ∧ y.toInt ≤ 1000000) (z1 : 0 ≤ z.toInt ∧ z.toInt ≤ 1000000) : bOk (B + 1000000) pa (av ||| ((1 : Int32) <<< (nI i &&& 31))) re ch cap du ra sh ow (va_up bo i x) (va_up ma i y) (va_up de i z) := by
  obtain ⟨⟨hm, hm2⟩, ha, hn, hab, hc, ⟨p1, p2⟩, how⟩ := h
  obtain ⟨a1, a2, a3⟩ := (ha i hi).2.2.2 hx
  have z0 : (0 : Int32).toInt = 0 := by decide
  have q1 : (bo i).toInt = 0 := by rw [a1, z0]
  have q2 : (ma i).toInt = 0 := by rw [a2, z0]
  have q3 : (de i).toInt = 0 := by rw [a3, z0]
  refine ⟨⟨hm, bHi_or hi hm2⟩, fun k hk => ?_, hn, hab, hc, ⟨?_, ?_⟩, ?_⟩
  · by_cases q : k = i
    · subst q; rw [xup_at, xup_at, xup_at]; exact ⟨x1, y1, z1, fun w => by rw [xb_or (by omega) (by omega), if_pos rfl] at w; exact absurd w (by decide)⟩
    · rw [va_up_ne _ _ q, va_up_ne _ _ q, va_up_ne _ _ q]
      refine ⟨(ha k hk).1, (ha k hk).2.1, (ha k hk).2.2.1, fun w => (ha k hk).2.2.2 ?_⟩
      rw [xb_or (by omega) (by omega), if_neg q] at w
      exact w
  · rw [xDp_up2 ma bo hi]; omega
  · rw [xDp_up2 bo ma hi]; omega
  · rw [xDp_up2 bo ma hi, xDp_up2 de bo hi]; omega
theorem b_sell {B : Int} {pa av re ch : Int32} {cap du ra sh ow bo ma de : Nat → Int32} {i : Nat} (h : bOk B pa av re ch cap du ra sh ow bo ma de) (hB : B ≤ 2100000000) (hi : i < 8) : bOk B pa (xwo av i) (re + (ma i - bo i)) ch cap du ra sh ow (va_up bo i 0) (va_up ma i 0) (va_up de i 0) := by
  obtain ⟨⟨hm, hm2⟩, ha, hn, hab, hc, ⟨p1, p2⟩, how⟩ := h
  obtain ⟨⟨a1, a2⟩, ⟨a3, a4⟩, ⟨a5, a6⟩, _⟩ := ha i hi
  have z0 : (0 : Int32).toInt = 0 := by decide
  have d1 := xDp_nn ma bo
  have d2 := xDp_nn bo ma
  have c1 := xP_nn cap
  have c2 := xNg_nn cap
  have e1 : (ma i - bo i).toInt = (ma i).toInt - (bo i).toInt := xsub (by omega) (by omega)
  have e2 : (re + (ma i - bo i)).toInt = re.toInt + ((ma i).toInt - (bo i).toInt) := by rw [xadd (by omega) (by omega), e1]
  have f1 := xDp_nn (va_up ma i 0) (va_up bo i 0)
  have f2 := xDp_nn (va_up bo i 0) (va_up ma i 0)
  have f3 := xDp_nn (va_up de i 0) (va_up bo i 0)
  have g1 := xDp_up2 ma bo hi 0 0
  have g2 := xDp_up2 bo ma hi 0 0
  have g3 := xDp_up2 de bo hi 0 0
  rw [z0] at g1 g2 g3
  refine ⟨⟨hm, bHi_wo hi hm2⟩, fun k hk => ?_, hn, hab, hc, ⟨?_, ?_⟩, ?_⟩
  · by_cases q : k = i
    · subst q; rw [xup_at, xup_at, xup_at, z0]; exact ⟨by omega, by omega, by omega, fun _ => ⟨rfl, rfl, rfl⟩⟩
    · rw [va_up_ne _ _ q, va_up_ne _ _ q, va_up_ne _ _ q]
      refine ⟨(ha k hk).1, (ha k hk).2.1, (ha k hk).2.2.1, fun w => (ha k hk).2.2.2 ?_⟩
      rw [xb_wo (by omega) (by omega), if_neg q] at w
      exact w
  · rw [e2]; omega
  · rw [e2]; omega
  · omega
