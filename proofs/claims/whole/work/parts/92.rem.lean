/-! a deed remembered: one step of the model -/
def zM.rm (M : zM) : zM := zmk M.now (min (M.d + 1) 12) ((M.x + 1) % 12) (fun k => if k + 1 = min (M.d + 1) 12 then M.now else if M.d = 12 then M.D (k + 1) else M.D k) M.kp M.L M.tb M.ft M.bn M.be M.bt M.wn M.wb
theorem rf23 : ∀ x, x < 12 → ∀ q ∈ xRf, q.1 = 43 + 12 * x → q.2.1 ≠ 2 ∧ q.2.1 ≠ 3 := by decide +kernel
theorem tp_s23 {T : xT} {r : Nat → Nat → Option Nat} {q ta sa : Nat} (hq : ∀ z ∈ xRf, z.1 = q → z.2.1 ≠ 2 ∧ z.2.1 ≠ 3) (tp : xTp T r) : xTp T (va_up r q (va_up (va_up (r q) 2 (some ta)) 3 (some sa))) := by
  refine ⟨tp.1, fun z hz => ?_⟩
  by_cases e : z.1 = q
  · obtain ⟨n2, n3⟩ := hq z hz e
    rw [e, xup_at, va_up_ne _ _ n3, va_up_ne _ _ n2, ← e]
    exact tp.2 z hz
  · rw [va_up_ne _ _ e]
    exact tp.2 z hz
theorem xlk_m {T : xT} {a kd : Nat} (h : a < T.2.2) (h2 : T.1 a = kd) : xlk T a kd = true := by
  unfold xlk
  rw [decide_eq_true h, decide_eq_true h2]
  rfl
theorem gSt_k {T : xT} {S : xS} {B : Int} {s : zSt} (g : gSt T S B s) : xlk T s.1 8 = true ∧ xlk T s.2.1 4 = true ∧ xnz (s.2.2.1 9 0) = true := by
  obtain ⟨⟨fi, ns, ⟨ti, _⟩, ⟨si, _⟩, _, _⟩, h0, _⟩ := g
  refine ⟨xlk_m (by have := ti.2.1.1; omega) ti.2.1.2.1, xlk_m (by have := si.2.1.1; omega) si.2.1.2, ?_⟩
  rcases h0 with h | h <;> (rw [h]; decide)
theorem c_rem {T : xT} {S : xS} {M : zM} {B : Int} (c : zC T S M) (g : gSt T S B M.now) : ∃ S', f_X9_remember T S 0 = some S' ∧ zC T S' M.rm ∧ S'.2.1 = S.2.1 ∧ (∀ a, a < 43 ∨ 186 < a → a ≠ 0 → S'.1 a = S.1 a) ∧ (∀ a, a < 43 ∨ 186 < a → S'.2.2 a = S.2.2 a) := by
  obtain ⟨k8, k4, kz⟩ := gSt_k g
  obtain ⟨tp, cn, ⟨⟨hd, hx⟩, ⟨h6, h7⟩, hD⟩, ck, ct, cf, cb, cw⟩ := c
  obtain ⟨n2, n3, nv⟩ := cn
  have e := g_remember tp hx hd h7 h6 n2 k8 n3 k4 (by rw [nv.2.2.1 0 (by decide)]; exact kz)
  have hr : ∀ a, a ≠ 43 + 12 * M.x → (xI (xI (stC S (43 + 12 * M.x) (44 + 12 * M.x) (53 + 12 * M.x) 31 40 M.now.1 M.now.2.1) 0 7 (nI ((M.x + 1) % 12))) 0 6 (nI (min (M.d + 1) 12))).2.2 a = S.2.2 a := fun a ha => va_up_ne _ _ ha
  have h1 : ∀ a, a ≠ 0 → (a < 44 + 12 * M.x ∨ 54 + 12 * M.x < a) → (xI (xI (stC S (43 + 12 * M.x) (44 + 12 * M.x) (53 + 12 * M.x) 31 40 M.now.1 M.now.2.1) 0 7 (nI ((M.x + 1) % 12))) 0 6 (nI (min (M.d + 1) 12))).1 a = S.1 a := fun a h0 ha => by
    rw [xI_ne h0, xI_ne h0, stC_out (by omega) (by omega) (by omega)]
  have hw : clV (xI (xI (stC S (43 + 12 * M.x) (44 + 12 * M.x) (53 + 12 * M.x) 31 40 M.now.1 M.now.2.1) 0 7 (nI ((M.x + 1) % 12))) 0 6 (nI (min (M.d + 1) 12))) (44 + 12 * M.x) (53 + 12 * M.x) M.now.2.2.1 := by
    have v := stC_V (q := 43 + 12 * M.x) (ta := M.now.1) (sa := M.now.2.1) (st_deed tp hx).2.1 (st_now tp).2.1 (st_deed tp hx).2.2.1 (st_now tp).2.2.1 (by omega) (by omega) (by omega) (by omega) (by omega) nv
    exact clV_c v (fun a q1 q2 => by rw [xI_ne (by omega), xI_ne (by omega)]) (by rw [xI_ne (by omega), xI_ne (by omega)]) (by rw [xI_ne (by omega), xI_ne (by omega)])
  have z0 : ∀ k, k ≠ 6 → k ≠ 7 → (xI (xI (stC S (43 + 12 * M.x) (44 + 12 * M.x) (53 + 12 * M.x) 31 40 M.now.1 M.now.2.1) 0 7 (nI ((M.x + 1) % 12))) 0 6 (nI (min (M.d + 1) 12))).1 0 k = S.1 0 k := fun k q6 q7 => by
    rw [xI_at q6, xI_at q7, stC_out (by omega) (by omega) (by omega)]
  have z6 : (xI (xI (stC S (43 + 12 * M.x) (44 + 12 * M.x) (53 + 12 * M.x) 31 40 M.now.1 M.now.2.1) 0 7 (nI ((M.x + 1) % 12))) 0 6 (nI (min (M.d + 1) 12))).1 0 6 = nI (min (M.d + 1) 12) := by rw [xI_1, xup_at]
  have z7 : (xI (xI (stC S (43 + 12 * M.x) (44 + 12 * M.x) (53 + 12 * M.x) 31 40 M.now.1 M.now.2.1) 0 7 (nI ((M.x + 1) % 12))) 0 6 (nI (min (M.d + 1) 12))).1 0 7 = nI ((M.x + 1) % 12) := by rw [xI_at (by decide), xI_1, xup_at]
  have rq : (xI (xI (stC S (43 + 12 * M.x) (44 + 12 * M.x) (53 + 12 * M.x) 31 40 M.now.1 M.now.2.1) 0 7 (nI ((M.x + 1) % 12))) 0 6 (nI (min (M.d + 1) 12))).2.2 (43 + 12 * M.x) = va_up (va_up (S.2.2 (43 + 12 * M.x)) 2 (some M.now.1)) 3 (some M.now.2.1) := by
    show va_up S.2.2 _ _ _ = _
    rw [xup_at]
  have tp' : xTp T (xI (xI (stC S (43 + 12 * M.x) (44 + 12 * M.x) (53 + 12 * M.x) 31 40 M.now.1 M.now.2.1) 0 7 (nI ((M.x + 1) % 12))) 0 6 (nI (min (M.d + 1) 12))).2.2 := tp_s23 (rf23 M.x hx) tp
  have j0 : (xI (xI (stC S (43 + 12 * M.x) (44 + 12 * M.x) (53 + 12 * M.x) 31 40 M.now.1 M.now.2.1) 0 7 (nI ((M.x + 1) % 12))) 0 6 (nI (min (M.d + 1) 12))).2.1 = S.2.1 := rfl
  generalize xI (xI (stC S (43 + 12 * M.x) (44 + 12 * M.x) (53 + 12 * M.x) 31 40 M.now.1 M.now.2.1) 0 7 (nI ((M.x + 1) % 12))) 0 6 (nI (min (M.d + 1) 12)) = S' at *
  refine ⟨S', e, ⟨tp', cSt_c ⟨n2, n3, nv⟩ (hr 17 (by omega)) (fun a q1 q2 => h1 a (by omega) (by omega)) (h1 40 (by omega) (by omega)) (h1 41 (by omega) (by omega)), ?_, cKe_c (M := M) ck (hr 187 (by omega)) (fun a q => hr a (by omega)) (fun a q => h1 a (by omega) (by omega)), cTa_c (M := M) ct (by rw [h1 1 (by omega) (by omega)]) (h1 2 (by omega) (by omega)), by rw [z0 11 (by decide) (by decide)]; exact cf, cBa_c (M := M) cb (h1 10 (by omega) (by omega)) (h1 11 (by omega) (by omega)), cWr_c (M := M) cw (h1 15 (by omega) (by omega)) (h1 16 (by omega) (by omega))⟩, j0, fun a q1 q2 => h1 a q2 (by omega), fun a q => hr a (by omega)⟩
  refine ⟨⟨by show min (M.d + 1) 12 ≤ 12; omega, Nat.mod_lt _ (by decide)⟩, ⟨z6, z7⟩, fun k hk => ?_⟩
  have hk' : k < min (M.d + 1) 12 := hk
  have ey : dY M.rm k = ((M.x + 1) % 12 + 12 - min (M.d + 1) 12 + k) % 12 := rfl
  have eD : M.rm.D k = if k + 1 = min (M.d + 1) 12 then M.now else if M.d = 12 then M.D (k + 1) else M.D k := rfl
  rw [ey, eD]
  by_cases q : k + 1 = min (M.d + 1) 12
  · rw [if_pos q, show ((M.x + 1) % 12 + 12 - min (M.d + 1) 12 + k) % 12 = M.x by omega]
    exact ⟨by rw [rq, va_up_ne _ _ (by decide), xup_at], by rw [rq, xup_at], hw⟩
  · rw [if_neg q]
    by_cases q2 : M.d = 12
    · rw [if_pos q2]
      have hh := hD (k + 1) (by omega)
      have e2 : ((M.x + 1) % 12 + 12 - min (M.d + 1) 12 + k) % 12 = dY M (k + 1) := by
        unfold dY; omega
      have ne : dY M (k + 1) ≠ M.x := by unfold dY; omega
      have lt := dY_lt M (k + 1)
      rw [e2]
      generalize dY M (k + 1) = y at *
      exact cSt_c hh (hr _ (by omega)) (fun a q1 q2 => h1 a (by omega) (by omega)) (h1 _ (by omega) (by omega)) (h1 _ (by omega) (by omega))
    · rw [if_neg q2]
      have hh := hD k (by omega)
      have e2 : ((M.x + 1) % 12 + 12 - min (M.d + 1) 12 + k) % 12 = dY M k := by
        unfold dY; omega
      have ne : dY M k ≠ M.x := by unfold dY; omega
      have lt := dY_lt M k
      rw [e2]
      generalize dY M k = y at *
      exact cSt_c hh (hr _ (by omega)) (fun a q1 q2 => h1 a (by omega) (by omega)) (h1 _ (by omega) (by omega)) (h1 _ (by omega) (by omega))
theorem r_rem {T : xT} {S : xS} {M : zM} (tp : xTp T S.2.2) (hd : M.d ≤ 12) (r : zR S M) : ∃ S', f_X10_deed T S 199 = some S' ∧ zR S' M.rm ∧ S'.2 = S.2 ∧ (∀ a, a ≠ 199 → a ≠ 200 → S'.1 a = S.1 a) ∧ (∀ k, k ≠ 2 → S'.1 199 k = S.1 199 k) := by
  obtain ⟨⟨r1, wt, r2⟩, r3, ⟨r4, r5⟩, r6, ⟨r7, r8⟩, r9, ⟨r10, r11, r12⟩, r13, r14⟩ := r
  obtain ⟨S', e, e1, e2, e3, e4, e5⟩ := h_deed tp hd r4
  have row : ∀ i j F u, i < 16 → dR M.d i = j → rV S j F u → rV S' i F u := fun i j F u hi hj hv k hk => by
    rw [e5 i hi k hk, hj]; exact hv k hk
  refine ⟨S', e, ⟨⟨by rw [e3 1 (by decide)]; exact r1, wt, rwV_c r2 (by rw [e1])⟩, row 0 0 _ _ (by decide) (by unfold dR; split <;> rw [if_neg (by omega)]; rw [if_neg (by omega)]) r3, ⟨e4, fun k hk => ?_⟩, fun k hk => ⟨fun z => by rw [e2 201 (by decide) (by decide)]; exact (r6 k hk).1 z, fun K s z => ⟨by rw [e2 201 (by decide) (by decide)]; exact ((r6 k hk).2 K s z).1, row (1 + k) (1 + k) _ _ (by omega) (by unfold dR; split <;> rw [if_neg (by omega)]; rw [if_neg (by omega)]) ((r6 k hk).2 K s z).2⟩⟩, ⟨by rw [e3 5 (by decide)]; exact r7, fun k hk => by rw [e2 202 (by decide) (by decide)]; exact r8 k hk⟩, by rw [e3 9 (by decide)]; exact r9, ⟨by rw [e3 30 (by decide)]; exact r10, by rw [e3 31 (by decide)]; exact r11, fun k hk => by rw [e2 213 (by decide) (by decide)]; exact r12 k hk⟩, by rw [e3 33 (by decide)]; exact r13, fun k hk => by rw [e2 214 (by decide) (by decide)]; exact r14 k hk⟩, e1, e2, e3⟩
  have hk' : k < min (M.d + 1) 12 := hk
  have eD : M.rm.D k = if k + 1 = min (M.d + 1) 12 then M.now else if M.d = 12 then M.D (k + 1) else M.D k := rfl
  rw [eD]
  by_cases q : k + 1 = min (M.d + 1) 12
  · rw [if_pos q]
    refine row (3 + k) 0 _ _ (by omega) ?_ r3
    unfold dR
    by_cases q2 : M.d = 12
    · rw [if_pos q2, if_neg (by omega), if_pos (by omega)]
    · rw [if_neg q2, if_pos (by omega)]
  · rw [if_neg q]
    by_cases q2 : M.d = 12
    · rw [if_pos q2]
      refine row (3 + k) (3 + (k + 1)) _ _ (by omega) ?_ (r5 (k + 1) (by omega))
      unfold dR
      rw [if_pos q2, if_pos (by omega)]
      omega
    · rw [if_neg q2]
      refine row (3 + k) (3 + k) _ _ (by omega) ?_ (r5 k (by omega))
      unfold dR
      rw [if_neg q2, if_neg (by omega)]
theorem zG_rm {T : xT} {S : xS} {B : Int} {M : zM} (g : zG T S B M) : zG T S B M.rm := by
  refine ⟨g.1, fun k hk => ?_, g.2.2⟩
  have hk' : k < min (M.d + 1) 12 := hk
  have eD : M.rm.D k = if k + 1 = min (M.d + 1) 12 then M.now else if M.d = 12 then M.D (k + 1) else M.D k := rfl
  rw [eD]
  by_cases q : k + 1 = min (M.d + 1) 12
  · rw [if_pos q]; exact g.1
  · rw [if_neg q]
    by_cases q2 : M.d = 12
    · rw [if_pos q2]; exact g.2.1 (k + 1) (by omega)
    · rw [if_neg q2]; exact g.2.1 k (by omega)
