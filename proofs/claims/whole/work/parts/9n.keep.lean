/-! keep -/
theorem kK {T : xT} {r : Nat → Nat → Option Nat} {K : Nat} (h : xSt T r K (K + 1) (K + 10)) : ∀ j, j ≤ 11 → (j = 0 ∧ T.1 (K + j) = 5) ∨ T.1 (K + j) = 1 ∨ T.1 (K + j) = 20 ∨ T.1 (K + j) = 7 := by
  obtain ⟨⟨_, h0⟩, ⟨_, h1, h2, _⟩, ⟨_, h3, h4, _⟩, _, _⟩ := h
  intro j hj
  by_cases q : j = 0
  · subst q; exact Or.inl ⟨rfl, h0⟩
  · by_cases q1 : j = 1
    · subst q1; exact Or.inr (Or.inl h1)
    · by_cases q2 : j ≤ 9
      · have := h2 (j - 1) (by omega) (by omega)
        rw [show K + 1 + (j - 1) = K + j by omega] at this
        exact Or.inr (Or.inr (Or.inl this.1))
      · by_cases q3 : j = 10
        · subst q3; exact Or.inr (Or.inr (Or.inr h3))
        · obtain rfl : j = 11 := by omega
          exact Or.inr (Or.inr (Or.inl h4.1))
theorem ap_t {T : xT} {r r' : Nat → Nat → Option Nat} {K ta : Nat} (h : xSt T r K (K + 1) (K + 10)) (t : xTi T r' ta) : ta + 2 < K ∨ K + 11 < ta := by
  refine Classical.byContradiction fun z => ?_
  obtain ⟨_, ⟨_, k1, k2, k3, _⟩, _⟩ := t
  have k0 := h.1.2
  by_cases q : K ≤ ta
  · have := kK h (ta - K) (by omega)
    rw [show K + (ta - K) = ta by omega] at this
    omega
  · rcases (show K = ta + 1 ∨ K = ta + 2 by omega) with e | e
    · rw [e] at k0; omega
    · rw [e] at k0; omega
theorem ap_s {T : xT} {r r' : Nat → Nat → Option Nat} {K sa : Nat} (h : xSt T r K (K + 1) (K + 10)) (t : xSi T r' sa) : sa + 9 < K ∨ K + 11 < sa := by
  refine Classical.byContradiction fun z => ?_
  obtain ⟨_, ⟨_, k0⟩, ⟨k1, k2, k3, k4, k5, k6, k7, k8, k9⟩, _⟩ := t
  have kk := h.1.2
  by_cases q : K ≤ sa
  · have := kK h (sa - K) (by omega)
    rw [show K + (sa - K) = sa by omega] at this
    omega
  · rcases (show K = sa + 1 ∨ K = sa + 2 ∨ K = sa + 3 ∨ K = sa + 4 ∨ K = sa + 5 ∨ K = sa + 6 ∨ K = sa + 7 ∨ K = sa + 8 ∨ K = sa + 9 by omega) with e | e | e | e | e | e | e | e | e <;> (rw [e] at kk; omega)
theorem ap_k {T : xT} {r r' : Nat → Nat → Option Nat} {K K' : Nat} (h : xSt T r K (K + 1) (K + 10)) (h' : xSt T r' K' (K' + 1) (K' + 10)) (hn : K' ≠ K) : K + 11 < K' ∨ K' + 11 < K := by
  refine Classical.byContradiction fun z => ?_
  have k0 := h.1.2
  have k1 := h'.1.2
  by_cases q : K ≤ K'
  · have := kK h (K' - K) (by omega)
    rw [show K + (K' - K) = K' by omega] at this
    omega
  · have := kK h' (K - K') (by omega)
    rw [show K' + (K - K') = K by omega] at this
    omega
theorem rf_187 : ∀ q ∈ xRf, q.1 ≠ 187 := by decide +kernel
def zM.kS (M : zM) (k K : Nat) : zM := zmk M.now M.d M.x M.D (fun j => if j = k then some (K, M.now) else M.kp j) M.L M.tb M.ft M.bn M.be M.bt M.wn M.wb
theorem gTS_k {T : xT} {S S' : xS} {K ta sa : Nat} {r : Nat → Nat → Option Nat} {u : Nat → Int32} (hs : xSt T r K (K + 1) (K + 10)) (h1 : ∀ a, a < K ∨ K + 11 < a → S'.1 a = S.1 a) (h2 : ∀ a, a ≠ 187 → a ≠ K → S'.2.2 a = S.2.2 a) (g : gTS T S ta sa u) : gTS T S' ta sa u := by
  have g' := g
  obtain ⟨fi, ns, ⟨a1, _⟩, ⟨b1, _⟩, _, _⟩ := g'
  have p := ap_t hs a1
  have q := ap_s hs b1
  have p1 := a1.1
  have q1 := b1.1
  exact gTS_c (tLe_r T) (fun j hj => h1 _ (by omega)) (fun j hj => h1 _ (by omega)) (h2 _ (by omega) (by omega)) (h2 _ (by omega) (by omega)) g
theorem c_keep {T : xT} {S : xS} {M : zM} {B : Int} {k K : Nat} (c : zC T S M) (g : zG T S B M) (hk : k < 2) (hK : 215 ≤ K) (hs : xSt T S.2.2 K (K + 1) (K + 10)) (hne : ∀ j K' s, j < 2 → j ≠ k → M.kp j = some (K', s) → K' ≠ K) : ∃ S', f_X5_copyState T (xR S 187 k (some K)) K 17 = some S' ∧ zC T S' (M.kS k K) ∧ zG T S' B (M.kS k K) ∧ (∀ a, a < 215 → S'.1 a = S.1 a) ∧ S'.2.1 = S.2.1 := by
  have tp := c.1
  have hr0 : ∀ a, a ≠ 187 → (xR S 187 k (some K)).2.2 a = S.2.2 a := fun a ha => xput_ne _ _ _ ha
  have tpx : xTp T (xR S 187 k (some K)).2.2 := ⟨tp.1, fun q hq => by rw [hr0 q.1 (rf_187 q hq)]; exact tp.2 q hq⟩
  have hsx : xSt T (xR S 187 k (some K)).2.2 K (K + 1) (K + 10) := xSt_c (tLe_r T) ⟨by rw [hr0 K (by omega)], by rw [hr0 K (by omega)]⟩ (hr0 _ (by omega)) (hr0 _ (by omega)) hs
  obtain ⟨k8, k4, kz⟩ := gSt_k g.1
  obtain ⟨n2, n3, nv⟩ := c.2.1
  have nvx : clV (xR S 187 k (some K)) 31 40 M.now.2.2.1 := nv
  have e := g_copy hsx (st_now tpx) (by omega) (by omega) (by omega) (by rw [hr0 17 (by decide)]; exact n2) k8 (by rw [hr0 17 (by decide)]; exact n3) k4 (by rw [nvx.2.2.1 0 (by decide)]; exact kz) (by omega)
  have v := stC_V (q := K) (ta := M.now.1) (sa := M.now.2.1) hsx.2.1 (st_now tpx).2.1 hsx.2.2.1 (st_now tpx).2.2.1 (by omega) (by omega) (by omega) (by omega) (by omega) nvx
  have h1 : ∀ a, a < K + 1 ∨ K + 11 < a → (stC (xR S 187 k (some K)) K (K + 1) (K + 10) 31 40 M.now.1 M.now.2.1).1 a = S.1 a := fun a ha => stC_out (by omega) (by omega) (by omega)
  have hr : ∀ a, a ≠ 187 → a ≠ K → (stC (xR S 187 k (some K)) K (K + 1) (K + 10) 31 40 M.now.1 M.now.2.1).2.2 a = S.2.2 a := fun a ha ha2 => (va_up_ne _ _ ha2).trans (hr0 a ha)
  have r187 : (stC (xR S 187 k (some K)) K (K + 1) (K + 10) 31 40 M.now.1 M.now.2.1).2.2 187 = va_up (S.2.2 187) k (some K) := (va_up_ne _ _ (by omega)).trans (xR_1 _ _ _ _)
  have rK : (stC (xR S 187 k (some K)) K (K + 1) (K + 10) 31 40 M.now.1 M.now.2.1).2.2 K = va_up (va_up (S.2.2 K) 2 (some M.now.1)) 3 (some M.now.2.1) := (va_up_self _ _ _).trans (by rw [hr0 K (by omega)])
  have j1 : (stC (xR S 187 k (some K)) K (K + 1) (K + 10) 31 40 M.now.1 M.now.2.1).2.1 = S.2.1 := rfl
  generalize stC (xR S 187 k (some K)) K (K + 1) (K + 10) 31 40 M.now.1 M.now.2.1 = S' at *
  have tp' : xTp T S'.2.2 := ⟨tp.1, fun q hq => by rw [hr q.1 (rf_187 q hq) (by have := rf_lt q hq; omega)]; exact tp.2 q hq⟩
  have hs' : xSt T S'.2.2 K (K + 1) (K + 10) := xSt_c (r := S.2.2) (tLe_r T) ⟨by rw [rK, va_up_ne _ _ (by decide), va_up_ne _ _ (by decide)], by rw [rK, va_up_ne _ _ (by decide), va_up_ne _ _ (by decide)]⟩ (hr _ (by omega) (by omega)) (hr _ (by omega) (by omega)) hs
  refine ⟨S', e, ?_, ⟨?_, fun x hx => ?_, fun x hx K' s z => ?_⟩, fun a ha => h1 a (by omega), j1⟩
  · obtain ⟨c1, c2, c3, c4, c5, c6, c7, c8⟩ := c
    refine ⟨tp', cSt_c c2 (hr _ (by omega) (by omega)) (fun a q1 q2 => h1 a (by omega)) (h1 _ (by omega)) (h1 _ (by omega)), cDe_c (M := M) c3 ⟨by rw [h1 0 (by omega)], by rw [h1 0 (by omega)]⟩ (fun a q1 q2 => hr a (by omega) (by omega)) (fun a q1 q2 => h1 a (by omega)), ⟨fun x hx => ⟨fun z => ?_, fun K' s z => ?_⟩, fun K0 s0 K1 s1 z0 z1 => ?_⟩, cTa_c (M := M) c5 (by rw [h1 1 (by omega)]) (h1 2 (by omega)), by rw [h1 0 (by omega)]; exact c6, cBa_c (M := M) c7 (h1 _ (by omega)) (h1 _ (by omega)), cWr_c (M := M) c8 (h1 _ (by omega)) (h1 _ (by omega))⟩
    · have z' : (if x = k then some (K, M.now) else M.kp x) = none := z
      by_cases q : x = k
      · rw [if_pos q] at z'; exact absurd z' (by simp)
      · rw [if_neg q] at z'
        rw [r187, va_up_ne _ _ q]; exact (c4.1 x hx).1 z'
    · have z' : (if x = k then some (K, M.now) else M.kp x) = some (K', s) := z
      by_cases q : x = k
      · rw [if_pos q] at z'
        have z2 := Option.some.inj z'
        obtain ⟨rfl, rfl⟩ := Prod.mk.inj z2
        exact ⟨hK, by rw [r187, q, xup_at], hs', by rw [rK, va_up_ne _ _ (by decide), xup_at], by rw [rK, xup_at], v⟩
      · rw [if_neg q] at z'
        obtain ⟨a1, a2, a3, a4⟩ := (c4.1 x hx).2 K' s z'
        have ne := hne x K' s hx q z'
        have ap := ap_k hs a3 ne
        exact ⟨a1, by rw [r187, va_up_ne _ _ q]; exact a2, xSt_c (tLe_r T) ⟨by rw [hr K' (by omega) ne], by rw [hr K' (by omega) ne]⟩ (hr _ (by omega) (by omega)) (hr _ (by omega) (by omega)) a3, cSt_c a4 (hr _ (by omega) ne) (fun a q1 q2 => h1 a (by omega)) (h1 _ (by omega)) (h1 _ (by omega))⟩
    · have z0' : (if 0 = k then some (K, M.now) else M.kp 0) = some (K0, s0) := z0
      have z1' : (if 1 = k then some (K, M.now) else M.kp 1) = some (K1, s1) := z1
      by_cases q : 0 = k
      · rw [if_pos q] at z0'
        rw [if_neg (by omega)] at z1'
        have ne := hne 1 K1 s1 (by decide) (by omega) z1'
        have z2 := Option.some.inj z0'
        obtain ⟨rfl, rfl⟩ := Prod.mk.inj z2
        exact fun w => ne w.symm
      · rw [if_neg q] at z0'
        rw [if_pos (by omega)] at z1'
        have ne := hne 0 K0 s0 (by decide) q z0'
        have z2 := Option.some.inj z1'
        obtain ⟨rfl, rfl⟩ := Prod.mk.inj z2
        exact ne
  · exact ⟨gTS_k hs (fun a q => h1 a (by omega)) hr g.1.1, g.1.2⟩
  · exact ⟨gTS_k hs (fun a q => h1 a (by omega)) hr (g.2.1 x hx).1, (g.2.1 x hx).2⟩
  · have z' : (if x = k then some (K, M.now) else M.kp x) = some (K', s) := z
    by_cases q : x = k
    · rw [if_pos q] at z'
      have z2 := Option.some.inj z'
      obtain ⟨rfl, rfl⟩ := Prod.mk.inj z2
      exact ⟨gTS_k hs (fun a q => h1 a (by omega)) hr g.1.1, g.1.2⟩
    · rw [if_neg q] at z'
      exact ⟨gTS_k hs (fun a q => h1 a (by omega)) hr (g.2.2 x hx K' s z').1, (g.2.2 x hx K' s z').2⟩
theorem r_keep {T : xT} {S : xS} {M : zM} {k K : Nat} (hk : k < 2) (hd : M.d ≤ 12) (r : zR S M) (tp : xTp T S.2.2) : ∃ S', f_X10_keep T S 199 (nI k) = some (1, S') ∧ zR S' (M.kS k K) ∧ S'.2.2 = S.2.2 ∧ ∀ a, a < 199 ∨ 215 ≤ a → S'.1 a = S.1 a := by
  refine ⟨xI (cpR S 0 (1 + k) 366) 201 k 1, ?_, ?_, rfl, fun a q => by rw [xI_ne (by omega), cpR_out (by omega)]⟩
  · unfold f_X10_keep
    rw [show f_X10_isIn T S (nI k) 0 1 = _ from h_in (n := 1) (by decide) (by omega), xc_e, if_neg (by decide), show (1 : Int32) + nI k = nI (1 + k) from nI_add 1 k, show (0 : Int32) = nI 0 from rfl, h_copyRow tp (by omega) (by omega) (by omega), xcv_e, rr_199_3 (S := cpR S 0 (1 + k) 366) tp, xst_n (xTp_n tp 2 (by decide) rfl) (by omega) (by decide)]
    rfl
  · obtain ⟨⟨r1, wt, r2⟩, r3, ⟨r4, r5⟩, r6, ⟨r7, r8⟩, r9, ⟨r10, r11, r12⟩, r13, r14⟩ := r
    have q : ∀ a, a ≠ 200 → a ≠ 201 → (xI (cpR S 0 (1 + k) 366) 201 k 1).1 a = S.1 a := fun a h h2 => by rw [xI_ne h2, cpR_out h]
    have row : ∀ x F u, x < 16 → rV S (if x = 1 + k then 0 else x) F u → rV (xI (cpR S 0 (1 + k) 366) 201 k 1) x F u := fun x F u hx hv j hj => by
      rw [xI_ne (by decide), cpR_mp x hx j hj]
      exact hv j hj
    refine ⟨⟨by rw [q 199 (by decide) (by decide)]; exact r1, wt, rwV_c r2 rfl⟩, row 0 _ _ (by decide) (by rw [if_neg (by omega)]; exact r3), ⟨by rw [q 199 (by decide) (by decide)]; exact r4, fun x hx => row (3 + x) _ _ (by have : x < M.d := hx; omega) (by rw [if_neg (by omega)]; exact r5 x hx)⟩, fun x hx => ⟨fun z => ?_, fun K' s z => ?_⟩, ⟨by rw [q 199 (by decide) (by decide)]; exact r7, fun x hx => by rw [q 202 (by decide) (by decide)]; exact r8 x hx⟩, by rw [q 199 (by decide) (by decide)]; exact r9, ⟨by rw [q 199 (by decide) (by decide)]; exact r10, by rw [q 199 (by decide) (by decide)]; exact r11, fun x hx => by rw [q 213 (by decide) (by decide)]; exact r12 x hx⟩, by rw [q 199 (by decide) (by decide)]; exact r13, fun x hx => by rw [q 214 (by decide) (by decide)]; exact r14 x hx⟩
    · have z' : (if x = k then some (K, M.now) else M.kp x) = none := z
      by_cases w : x = k
      · rw [if_pos w] at z'; exact absurd z' (by simp)
      · rw [if_neg w] at z'
        rw [xI_at w, cpR_out (by decide)]; exact (r6 x hx).1 z'
    · have z' : (if x = k then some (K, M.now) else M.kp x) = some (K', s) := z
      by_cases w : x = k
      · rw [if_pos w] at z'
        have z2 := Option.some.inj z'
        obtain ⟨rfl, rfl⟩ := Prod.mk.inj z2
        exact ⟨by rw [w, xI_1, xup_at], row (1 + x) _ _ (by omega) (by rw [if_pos (by omega)]; exact r3)⟩
      · rw [if_neg w] at z'
        exact ⟨by rw [xI_at w, cpR_out (by decide)]; exact ((r6 x hx).2 K' s z').1, row (1 + x) _ _ (by omega) (by rw [if_neg (by omega)]; exact ((r6 x hx).2 K' s z').2)⟩
theorem zXI {T1 : xT} {S1 S2 : xS} {r : Int32} {f9 : Option (Int32 × xT × xS)} {f10 : xT → xS → Option (Int32 × xS)} (h1 : f9 = some (r, T1, S1)) (tp : xTp T1 S1.2.2) (h2 : f10 T1 S1 = some (r, S2)) : xcI f9 (fun r1 T1 S1 => xgd (xlk T1 0 9) (xgd (xlk T1 199 10) (xc (f10 T1 S1) (fun r2 S2 => some (decide (r1 = r2), T1, S2))))) = some (true, T1, S2) := by
  rw [h1]
  show xgd (xlk T1 0 9) (xgd (xlk T1 199 10) (xc (f10 T1 S1) _)) = _
  rw [xgd_h (xTp_lk tp (by decide) (by decide)), xgd_h (xTp_lk tp (by decide) (by decide)), h2, xc_e, decide_eq_true rfl]
theorem xR_self {S : xS} {a k : Nat} {v : Option Nat} (h : S.2.2 a k = v) : xR S a k v = S := by
  unfold xR xput
  rw [← h, xup_self, xup_self]
theorem o_keep : zOp 40 := by
  intro i T S a hi h
  have h' := h
  obtain ⟨M, B, c, r, g, b0, b1⟩ := h'
  have tp := c.1
  show ∃ (T2 : xT) (S2 : xS), xcI (f_X9_keep T S 0 (a 1)) (fun r1 T1 S1 => xgd (xlk T1 0 9) (xgd (xlk T1 199 10) (xc (f_X10_keep T1 S1 199 (a 1)) (fun r2 S2 => some (decide (r1 = r2), T1, S2))))) = some (true, T2, S2) ∧ zI (i + 1) T2 S2
  generalize a 1 = p
  rcases iN 1 (by decide) p with ⟨k, hk, rfl⟩ | hp
  · have k0 : ¬ nI k < 0 := by rw [xlt, nI_toInt (by omega), i0]; omega
    have k2 : nI k < (2 : Int32) := by rw [xlt, nI_toInt (by omega), show (2 : Int32).toInt = 2 from by decide]; omega
    have ck := c.2.2.2.1.1 k (by omega)
    cases hkp : M.kp k with
    | some Ks =>
      obtain ⟨K, s⟩ := Ks
      obtain ⟨hK, hKr, hKs, _⟩ := ck.2 K s hkp
      obtain ⟨S', e1, c1, g1, f1, j1⟩ := c_keep (k := k) c g (by omega) hK hKs (fun j K' s' hj hjk z w => by
        subst w
        rcases (show (j = 0 ∧ k = 1) ∨ (j = 1 ∧ k = 0) by omega) with ⟨rfl, rfl⟩ | ⟨rfl, rfl⟩
        · exact c.2.2.2.1.2 _ _ _ _ z hkp rfl
        · exact c.2.2.2.1.2 _ _ _ _ hkp z rfl)
      rw [xR_self hKr] at e1
      obtain ⟨S2, e2, r2, y1, y2⟩ := r_keep (T := T) (k := k) (K := K) (by omega) c.2.2.1.1.1 (zR_c (fun a q1 q2 => f1 a (by omega)) (by rw [j1]) r) c1.1
      refine ⟨T, S2, zXI (f10 := fun T1 S1 => f_X10_keep T1 S1 199 (nI k)) (r := 1) (S1 := S') ?_ c1.1 e2, zFin c1 g1 y1 y2 r2 b0 (by show 5 * B + 1000000 * (M.L : Int) ≤ 20000000 * ((i + 1 : Nat) : Int); omega)⟩
      unfold f_X9_keep
      rw [if_neg k0, if_pos k2, rr_0_8 tp, xan_mk (N := 2) (xTp_n tp 2 (by decide) rfl) (by omega) (by decide), hKr]
      show xgr T S 0 8 25 _ = _
      rw [rr_0_8 tp, xar_mk (N := 2) (xTp_n tp 2 (by decide) rfl) (by omega) (by decide) hKr hKs.1.1 hKs.1.2, rr_0_4 tp, e1, xcv_e]
    | none =>
      have hKr := ck.1 hkp
      have hN := tp.1.1
      have g8 : tLe T (xTn T 5 0) := ⟨by show T.2.2 ≤ T.2.2 + 1; omega, fun a ha => ⟨va_up_ne _ _ (by omega), va_up_ne _ _ (by omega)⟩⟩
      have s8 : sLe T S (xSn S T.2.2) := fun a ha => ⟨va_up_ne _ _ (by omega), va_up_ne _ _ (by omega), va_up_ne _ _ (by omega)⟩
      have c8 := zC_g g8 s8 c
      have g8' := zG_g g8 s8 g
      have tp8 := c8.1
      obtain ⟨fi, ns, ⟨ti, _⟩, ⟨si, _⟩, _, _⟩ := g.1.1
      obtain ⟨fi', ns', ⟨ti8, _⟩, ⟨si8, _⟩, _, _⟩ := g8'.1.1
      have lt := ti.2.1.1
      have ls := si.2.1.1
      obtain ⟨T', S', e1, n1, t1, s1, x1⟩ := i_state (T := xTn T 5 0) (S := xSn S T.2.2) (q := T.2.2) (ta := M.now.1) (sa := M.now.2.1) rfl (xup_at _ _ _) ⟨by omega, by rw [(g8.2 _ (by omega)).1]; exact ti.2.1.2.1⟩ ⟨by omega, by rw [(g8.2 _ (by omega)).1]; exact si.2.1.2⟩
      have gT : tLe T T' := ⟨by omega, fun a ha => by rw [(t1 a (by omega)).1, (t1 a (by omega)).2]; exact g8.2 a ha⟩
      have sT : sLe T S S' := fun a ha => by
        rw [(s1 a ha).1, (s1 a ha).2.1, (s1 a ha).2.2]; exact s8 a ha
      have c1 := zC_g gT sT c
      have g1 := zG_g gT sT g
      have tp1 := c1.1
      obtain ⟨S2, e2, c2, g2, f2, j2⟩ := c_keep (k := k) (K := T.2.2) c1 g1 (by omega) hN x1 (fun j K' s' hj hjk z w => by
        have := xSt_lt ((c.2.2.2.1.1 j hj).2 K' s' z).2.2.1
        omega)
      have r1 : zR S2 M := zR_c (fun a q1 q2 => (f2 a (by omega)).trans (sT a (by omega)).1) (by rw [j2]; exact (sT 204 (by omega)).2.1) r
      obtain ⟨S3, e3, r3, y1, y2⟩ := r_keep (T := T') (k := k) (K := T.2.2) (by omega) c.2.2.1.1.1 r1 c2.1
      refine ⟨T', S3, zXI (f10 := fun T1 S1 => f_X10_keep T1 S1 199 (nI k)) (r := 1) (S1 := S2) ?_ c2.1 e3, zFin c2 g2 y1 y2 r3 b0 (by show 5 * B + 1000000 * (M.L : Int) ≤ 20000000 * ((i + 1 : Nat) : Int); omega)⟩
      unfold f_X9_keep
      rw [if_neg k0, if_pos k2, rr_0_8 tp, xan_mk (N := 2) (xTp_n tp 2 (by decide) rfl) (by omega) (by decide), hKr]
      show xgr T S 0 8 25 _ = _
      rw [rr_0_8 tp]
      show xgd (xlk (xTn T 5 0) 0 9) (xgd (xlk (xTn T 5 0) 187 25) (xgr (xTn T 5 0) (xSn S T.2.2) 0 4 5 _)) = _
      have tpx : xTp T' (xR S' 187 k (some T.2.2)).2.2 := ⟨tp1.1, fun q hq => by
        rw [show (xR S' 187 k (some T.2.2)).2.2 q.1 = S'.2.2 q.1 from xput_ne _ _ _ (rf_187 q hq)]; exact tp1.2 q hq⟩
      rw [xgd_h (xTp_lk tp8 (by decide) (by decide)), xgd_h (xTp_lk tp8 (by decide) (by decide)), rr_0_4 tp8, n_ta c8 ti8, rr_0_4 tp8, n_sa c8 si8, e1, xcT_e, xgd_h (xTp_lk tp1 (by decide) (by decide)), xgd_h (xTp_lk tp1 (by decide) (by decide)), xgd_h (xlk_m x1.1.1 x1.1.2)]
      have xs : ∀ {α : Type} (K : xS → Option α), xsr T' S' 187 (nI k) T.2.2 K = K (xR S' 187 k (some T.2.2)) := fun K => by
        unfold xsr
        rw [xTp_n tp1 2 (by decide) rfl, if_pos (xin_nI (by omega) (by decide)), nI_clamp (by omega)]
      rw [xs, rr_0_8 tpx, xar_mk (N := 2) (xTp_n tpx 2 (by decide) rfl) (by omega) (by decide) (by rw [xR_1, xup_at]) x1.1.1 x1.1.2, rr_0_4 tpx, e2, xcv_e]
  · have hp1 : p < 0 ∨ (1 : Int32) < p := hp
    refine ⟨T, S, zXI (f10 := fun T1 S1 => f_X10_keep T1 S1 199 p) (r := 0) (S1 := S) ?_ tp ?_, zId h⟩
    · unfold f_X9_keep
      by_cases w : p < 0
      · rw [if_pos w]
      · have w2 : ¬ p < (2 : Int32) := by
          rcases hp1 with v | v
          · exact absurd v w
          · rw [xlt, i1] at v
            rw [xlt, show (2 : Int32).toInt = 2 from by decide]; omega
        rw [if_neg w, if_neg w2]
    · show f_X10_keep T S 199 p = _
      unfold f_X10_keep
      rw [h_out hp1, xc_e, if_pos rfl]
