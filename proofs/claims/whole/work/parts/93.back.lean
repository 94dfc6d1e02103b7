/-! one deed back -/
def zM.bk (M : zM) : zM := zmk (M.D (M.d - 1)) (M.d - 1) ((M.x + 11) % 12) M.D M.kp M.L M.tb M.ft M.bn M.be M.bt M.wn M.wb
theorem rf17 : ∀ q ∈ xRf, q.1 = 17 → q.2.1 ≠ 2 ∧ q.2.1 ≠ 3 := by decide +kernel
theorem bk12 : ∀ x, x < 12 → ((nI x + 12) - 1) - ((nI x + 12) - 1) / 12 * 12 = nI ((x + 11) % 12) := by decide +kernel
/-- now taken from another state: all else stays -/
theorem c_take {T : xT} {S : xS} {M : zM} {q b t : Nat} {s : zSt} {B : Int} (c : zC T S M) (hs : xSt T S.2.2 q b t) (hq : q ≠ 17) (hb : b + 8 < 31 ∨ 41 < b) (ht : t + 1 < 31 ∨ 41 < t) (cs : cSt S q b t s) (g : gSt T S B s) : f_X5_copyState T S 17 q = some (stC S 17 31 40 b t s.1 s.2.1) ∧ zC T (stC S 17 31 40 b t s.1 s.2.1) (M.sN s) ∧ (∀ a, a < 31 ∨ 41 < a → (stC S 17 31 40 b t s.1 s.2.1).1 a = S.1 a) ∧ ∀ a, a ≠ 17 → (stC S 17 31 40 b t s.1 s.2.1).2.2 a = S.2.2 a := by
  obtain ⟨k8, k4, kz⟩ := gSt_k g
  have tp := c.1
  obtain ⟨s2, s3, sv⟩ := cs
  have e := g_copy (st_now tp) hs (by omega) (by omega) hq s2 k8 s3 k4 (by rw [sv.2.2.1 0 (by decide)]; exact kz) (by omega)
  have h1 : ∀ a, a < 31 ∨ 41 < a → (stC S 17 31 40 b t s.1 s.2.1).1 a = S.1 a := fun a ha => stC_out (by omega) (by omega) (by omega)
  have hr : ∀ a, a ≠ 17 → (stC S 17 31 40 b t s.1 s.2.1).2.2 a = S.2.2 a := fun a ha => va_up_ne _ _ ha
  have r17 : (stC S 17 31 40 b t s.1 s.2.1).2.2 17 = va_up (va_up (S.2.2 17) 2 (some s.1)) 3 (some s.2.1) := va_up_self S.2.2 17 _
  have v := stC_V (q := 17) (ta := s.1) (sa := s.2.1) (st_now tp).2.1 hs.2.1 (st_now tp).2.2.1 hs.2.2.1 (by omega) (by omega) (by omega) (by omega) (by omega) sv
  refine ⟨e, zC_k (M := M) hr (tp_s23 rf17 tp) (fun k _ => by rw [h1 0 (by omega)]) (by rw [h1 1 (by omega)]) (fun a q => h1 a (by omega)) (fun a q1 q2 => h1 a (by omega)) (fun a q => h1 a (by omega)) ⟨by rw [r17, va_up_ne _ _ (by decide), xup_at], by rw [r17, xup_at], v⟩ c, h1, hr⟩
theorem o_back : zOp 35 := by
  intro i T S a hi h
  have h' := h
  obtain ⟨M, B, c, r, g, b0, b1⟩ := h'
  have tp := c.1
  obtain ⟨⟨hd, hx⟩, ⟨h6, h7⟩, hD⟩ := c.2.2.1
  have r2 := r.2.2.1.1
  show ∃ (T2 : xT) (S2 : xS), xc (f_X9_back T S 0) (fun r1 S1 => xc (f_X10_back T S1 199) (fun r2 S2 => some (decide (r1 = r2), T, S2))) = some (true, T2, S2) ∧ zI (i + 1) T2 S2
  by_cases d0 : M.d = 0
  · refine zQ (r := -1) h ?_ ?_
    · unfold f_X9_back
      rw [h6, d0, if_pos (by decide)]
    · unfold f_X10_back
      rw [r2, d0, if_pos (by decide)]
  · have n0 : ¬ nI M.d = 0 := fun w => d0 ((nI_eq (a := M.d) (b := 0) (by omega) (by omega)).mp w)
    have ed : nI M.d - 1 = nI (M.d - 1) := by
      rw [show M.d = (M.d - 1) + 1 by omega]; exact nI_pred _
    have hdd := hD (M.d - 1) (by omega)
    have ey : dY M (M.d - 1) = (M.x + 11) % 12 := by unfold dY; omega
    rw [ey] at hdd
    have hy : (M.x + 11) % 12 < 12 := Nat.mod_lt _ (by decide)
    -- the ring's place first
    have p1 : ∀ a, a ≠ 0 → (xI (xI S 0 7 (nI ((M.x + 11) % 12))) 0 6 (nI (M.d - 1))).1 a = S.1 a := fun a ha => by rw [xI_ne ha, xI_ne ha]
    have p0 : ∀ k, k ≠ 6 → k ≠ 7 → (xI (xI S 0 7 (nI ((M.x + 11) % 12))) 0 6 (nI (M.d - 1))).1 0 k = S.1 0 k := fun k k6 k7 => by rw [xI_at k6, xI_at k7]
    have p6 : (xI (xI S 0 7 (nI ((M.x + 11) % 12))) 0 6 (nI (M.d - 1))).1 0 6 = nI (M.d - 1) := by rw [xI_1, xup_at]
    have p7 : (xI (xI S 0 7 (nI ((M.x + 11) % 12))) 0 6 (nI (M.d - 1))).1 0 7 = nI ((M.x + 11) % 12) := by rw [xI_at (by decide), xI_1, xup_at]
    have pr : (xI (xI S 0 7 (nI ((M.x + 11) % 12))) 0 6 (nI (M.d - 1))).2 = S.2 := rfl
    have hc0 : ∀ S', f_X5_copyState T (xI (xI S 0 7 (nI ((M.x + 11) % 12))) 0 6 (nI (M.d - 1))) 17 (43 + 12 * ((M.x + 11) % 12)) = some S' → S'.1 0 6 = nI (M.d - 1) → f_X9_back T S 0 = some (nI (M.d - 1), S') := fun S' hS h06 => by
      unfold f_X9_back
      rw [h6, if_neg n0, xgd_h (by decide), h7, bk12 M.x hx, xpi_e, xpi_e, xI_at (by decide), h6, ed, rr_0_4 (S := xI (xI S 0 7 (nI ((M.x + 11) % 12))) 0 6 (nI (M.d - 1))) tp, rr_0_5 (S := xI (xI S 0 7 (nI ((M.x + 11) % 12))) 0 6 (nI (M.d - 1))) tp, p7, xar_mk (S := xI (xI S 0 7 (nI ((M.x + 11) % 12))) 0 6 (nI (M.d - 1))) (N := 12) (xTp_n tp 12 (by decide) rfl) hy (by decide) (tp_r tp (dk4 _ hy).2.2.2) (by have := tp.1.1; omega) (st_deed tp hy).1.2, hS, xcv_e, h06]
    generalize xI (xI S 0 7 (nI ((M.x + 11) % 12))) 0 6 (nI (M.d - 1)) = Sa at *
    have r2a : Sa.2.2 = S.2.2 := by rw [pr]
    have ca : zC T Sa (zmk M.now (M.d - 1) ((M.x + 11) % 12) M.D M.kp M.L M.tb M.ft M.bn M.be M.bt M.wn M.wb) := by
      obtain ⟨c1, c2, c3, c4, c5, c6, c7, c8⟩ := c
      refine ⟨by rw [r2a]; exact tp, cSt_c c2 (by rw [r2a]) (fun a q1 q2 => p1 a (by omega)) (p1 40 (by omega)) (p1 41 (by omega)), ⟨⟨by show M.d - 1 ≤ 12; omega, hy⟩, ⟨p6, p7⟩, fun k hk => ?_⟩, cKe_c (M := M) c4 (by rw [r2a]) (fun a _ => by rw [r2a]) (fun a q => p1 a (by omega)), cTa_c (M := M) c5 (by rw [p1 1 (by omega)]) (p1 2 (by omega)), by rw [p0 11 (by decide) (by decide)]; exact c6, cBa_c (M := M) c7 (p1 10 (by omega)) (p1 11 (by omega)), cWr_c (M := M) c8 (p1 15 (by omega)) (p1 16 (by omega))⟩
      have hk' : k < M.d - 1 := hk
      have e2 : dY (zmk M.now (M.d - 1) ((M.x + 11) % 12) M.D M.kp M.L M.tb M.ft M.bn M.be M.bt M.wn M.wb) k = dY M k := by
        show ((M.x + 11) % 12 + 12 - (M.d - 1) + k) % 12 = (M.x + 12 - M.d + k) % 12
        omega
      rw [e2]
      exact cSt_c (hD k (by omega)) (by rw [r2a]) (fun a q1 q2 => p1 a (by omega)) (p1 _ (by omega)) (p1 _ (by omega))
    have gd : gSt T Sa B (M.D (M.d - 1)) := gSt_f (fun a q => p1 a (by unfold zTS at q; omega)) (fun a _ => by rw [r2a]) (g.2.1 (M.d - 1) (by omega))
    have tpa : xTp T Sa.2.2 := ca.1
    obtain ⟨t1, t2, t3, t4⟩ := c_take ca (st_deed tpa hy) (by omega) (by omega) (by omega) (cSt_c hdd (by rw [r2a]) (fun a q1 q2 => p1 a (by omega)) (p1 _ (by omega)) (p1 _ (by omega))) gd
    have hc := hc0 _ t1 (by rw [t3 0 (by omega)]; exact p6)
    have gs : zG T Sa B M.bk := by
      have g1 : zG T Sa B M := zG_f (fun a q => p1 a (by unfold zTS at q; omega)) (fun a _ => by rw [r2a]) g
      exact ⟨g1.2.1 (M.d - 1) (by omega), fun k hk => g1.2.1 k (by have : k < M.d - 1 := hk; omega), g1.2.2⟩
    have j1 : (stC Sa 17 31 40 (44 + 12 * ((M.x + 11) % 12)) (53 + 12 * ((M.x + 11) % 12)) (M.D (M.d - 1)).1 (M.D (M.d - 1)).2.1).2.1 = S.2.1 := by
      show Sa.2.1 = S.2.1
      rw [pr]
    generalize stC Sa 17 31 40 (44 + 12 * ((M.x + 11) % 12)) (53 + 12 * ((M.x + 11) % 12)) (M.D (M.d - 1)).1 (M.D (M.d - 1)).2.1 = S1 at *
    have tp1 : xTp T S1.2.2 := t2.1
    have f1 : ∀ a, a ≠ 0 → a < 31 ∨ 41 < a → S1.1 a = S.1 a := fun a h0 ha => by rw [t3 a ha, p1 a h0]
    refine ⟨T, cpR (xI S1 199 2 (nI (M.d - 1))) (3 + (M.d - 1)) 0 366, zX hc ?_, ?_⟩
    · unfold f_X10_back
      rw [f1 199 (by omega) (by omega), r2, if_neg n0, xpi_e, ed, xI_1, xup_at, show (3 : Int32) + nI (M.d - 1) = nI (3 + (M.d - 1)) from nI_add 3 _, show (0 : Int32) = nI 0 from rfl, h_copyRow (S := xI S1 199 2 _) tp1 (by omega) (by omega) (by omega), xcv_e, cpR_out (by decide), xI_1, xup_at]
    · refine zFin (M := M.bk) (B := B) t2 (zG_f (fun a q => t3 a (by unfold zTS at q; omega)) (fun a q => t4 a (by unfold zTS at q; omega)) gs) rfl (fun a q => by rw [cpR_out (by omega), xI_ne (by omega)]) ?_ b0 (by show 5 * B + 1000000 * (M.L : Int) ≤ 20000000 * ((i + 1 : Nat) : Int); omega)
      obtain ⟨⟨r1, wt, r2'⟩, r3, ⟨r4, r5⟩, r6, ⟨r7, r8⟩, r9, ⟨r10, r11, r12⟩, r13, r14⟩ := r
      have q0 : ∀ a, a ≠ 0 → a < 31 ∨ 41 < a → a ≠ 199 → a ≠ 200 → (cpR (xI S1 199 2 (nI (M.d - 1))) (3 + (M.d - 1)) 0 366).1 a = S.1 a := fun a h0 h1 h2 h3 => by rw [cpR_out h3, xI_ne h2, f1 a h0 h1]
      have q9 : ∀ k, k ≠ 2 → (cpR (xI S1 199 2 (nI (M.d - 1))) (3 + (M.d - 1)) 0 366).1 199 k = S.1 199 k := fun k hk => by rw [cpR_out (by decide), xI_at hk, f1 199 (by omega) (by omega)]
      have row : ∀ x, x < 16 → ∀ F u, rV S (if x = 0 then 3 + (M.d - 1) else x) F u → rV (cpR (xI S1 199 2 (nI (M.d - 1))) (3 + (M.d - 1)) 0 366) x F u := fun x hx F u hv k hk => by
        rw [cpR_mp x hx k hk, xI_ne (by decide), f1 200 (by omega) (by omega)]
        exact hv k hk
      refine ⟨⟨by rw [q9 1 (by decide)]; exact r1, wt, rwV_c r2' (by show S1.2.1 204 = _; rw [j1])⟩, row 0 (by decide) _ _ (by rw [if_pos rfl]; exact r5 (M.d - 1) (by omega)), ⟨by rw [cpR_out (by decide), xI_1, xup_at]; rfl, fun k hk => row (3 + k) (by have : k < M.d - 1 := hk; omega) _ _ (by rw [if_neg (by omega)]; exact r5 k (by have : k < M.d - 1 := hk; omega))⟩, fun k hk => ⟨fun z => by rw [q0 201 (by decide) (by decide) (by decide) (by decide)]; exact (r6 k hk).1 z, fun K s z => ⟨by rw [q0 201 (by decide) (by decide) (by decide) (by decide)]; exact ((r6 k hk).2 K s z).1, row (1 + k) (by omega) _ _ (by rw [if_neg (by omega)]; exact ((r6 k hk).2 K s z).2)⟩⟩, ⟨by rw [q9 5 (by decide)]; exact r7, fun k hk => by rw [q0 202 (by decide) (by decide) (by decide) (by decide)]; exact r8 k hk⟩, by rw [q9 9 (by decide)]; exact r9, ⟨by rw [q9 30 (by decide)]; exact r10, by rw [q9 31 (by decide)]; exact r11, fun k hk => by rw [q0 213 (by decide) (by decide) (by decide) (by decide)]; exact r12 k hk⟩, by rw [q9 33 (by decide)]; exact r13, fun k hk => by rw [q0 214 (by decide) (by decide) (by decide) (by decide)]; exact r14 k hk⟩
