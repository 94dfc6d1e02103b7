/-! a kept state taken again -/
theorem r_take {S : xS} {M : zM} {s : zSt} {i : Nat} (r : zR S M) (hi : i < 16) (hv : rV S i s.2.2.1 s.2.2.2) : zR (cpR S i 0 366) (M.sN s) := by
  obtain ⟨⟨r1, wt, r2⟩, r3, ⟨r4, r5⟩, r6, ⟨r7, r8⟩, r9, ⟨r10, r11, r12⟩, r13, r14⟩ := r
  have hd : ∀ k, k < M.d → rV (cpR S i 0 366) (3 + k) (M.D k).2.2.1 (M.D k).2.2.2 := fun k hk j hj => by
    unfold cpR
    rw [xw_1]
    show (if 366 * 0 ≤ 366 * (3 + k) + j ∧ 366 * (3 + k) + j < 366 * 0 + 366 then _ else S.1 200 (366 * (3 + k) + j)) = _
    rw [if_neg (by omega)]
    exact r5 k hk j hj
  have q : ∀ a, a ≠ 200 → (cpR S i 0 366).1 a = S.1 a := fun a h => cpR_out h
  refine ⟨⟨by rw [q 199 (by decide)]; exact r1, wt, rwV_c r2 rfl⟩, fun j hj => ?_, ⟨by rw [q 199 (by decide)]; exact r4, hd⟩, fun k hk => ⟨fun z => by rw [q 201 (by decide)]; exact (r6 k hk).1 z, fun K s' z => ⟨by rw [q 201 (by decide)]; exact ((r6 k hk).2 K s' z).1, fun j hj => ?_⟩⟩, ⟨by rw [q 199 (by decide)]; exact r7, fun k hk => by rw [q 202 (by decide)]; exact r8 k hk⟩, by rw [q 199 (by decide)]; exact r9, ⟨by rw [q 199 (by decide)]; exact r10, by rw [q 199 (by decide)]; exact r11, fun k hk => by rw [q 213 (by decide)]; exact r12 k hk⟩, by rw [q 199 (by decide)]; exact r13, fun k hk => by rw [q 214 (by decide)]; exact r14 k hk⟩
  · rw [cpR_mp 0 (by decide) j hj]
    show S.1 200 (366 * (if 0 = 0 then i else 0) + j) = _
    rw [if_pos rfl]
    exact hv j hj
  · rw [cpR_mp (1 + k) (by omega) j hj]
    show S.1 200 (366 * (if 1 + k = 0 then i else 1 + k) + j) = _
    rw [if_neg (by omega)]
    exact ((r6 k hk).2 K s' z).2 j hj
theorem o_restore : zOp 41 := by
  intro i T S a hi h
  have h' := h
  obtain ⟨M, B, c, r, g, b0, b1⟩ := h'
  have tp := c.1
  show ∃ (T2 : xT) (S2 : xS), xc (f_X9_restore T S 0 (a 1)) (fun r1 S1 => xc (f_X10_restore T S1 199 (a 1)) (fun r2 S2 => some (decide (r1 = r2), T, S2))) = some (true, T2, S2) ∧ zI (i + 1) T2 S2
  generalize a 1 = p
  rcases iN 1 (by decide) p with ⟨k, hk, rfl⟩ | hp
  · have k0 : ¬ nI k < 0 := by rw [xlt, nI_toInt (by omega), show (0 : Int32).toInt = 0 from by decide]; omega
    have k2 : ¬ (2 : Int32) ≤ nI k := by rw [xle, nI_toInt (by omega), show (2 : Int32).toInt = 2 from by decide]; omega
    have ck := c.2.2.2.1.1 k (by omega)
    have rk := r.2.2.2.1 k (by omega)
    cases hkp : M.kp k with
    | none =>
      refine zQ (r := 0) h ?_ ?_
      · unfold f_X9_restore
        rw [if_neg k0, if_neg k2, rr_0_8 tp, xan_mk (N := 2) (xTp_n tp 2 (by decide) rfl) (by omega) (by decide), ck.1 hkp]
        rfl
      · unfold f_X10_restore
        rw [show f_X10_isIn T S (nI k) 0 1 = _ from h_in (n := 1) (by decide) hk, xc_e, if_neg (by decide), rr_199_3 tp, xai_n (xTp_n tp 2 (by decide) rfl) (by omega) (by decide), rk.1 hkp, if_pos rfl]
    | some Ks =>
      obtain ⟨K, s⟩ := Ks
      obtain ⟨hK, hKr, hKs, hKc⟩ := ck.2 K s hkp
      obtain ⟨hr1, hrv⟩ := rk.2 K s hkp
      obtain ⟨S1, e1, c1, j1, f1, fr⟩ := c_rem c g.1
      have ck1 := (c1.2.2.2.1.1 k (by omega)).2 K s hkp
      have tp1 := c1.1
      have gz : zG T S1 B M.rm := zG_rm (zG_f (fun a q => f1 a (by unfold zTS at q; omega) (by unfold zTS at q; omega)) (fun a q => fr a (by unfold zTS at q; omega)) g)
      have gs : gSt T S1 B s := gz.2.2 k (by omega) K s hkp
      obtain ⟨t1, t2, t3, t4⟩ := c_take c1 ck1.2.2.1 (by omega) (by omega) (by omega) ck1.2.2.2 gs
      have j2 : (stC S1 17 31 40 (K + 1) (K + 10) s.1 s.2.1).2.1 = S.2.1 := j1
      have hc : f_X9_restore T S 0 (nI k) = some (1, stC S1 17 31 40 (K + 1) (K + 10) s.1 s.2.1) := by
        unfold f_X9_restore
        rw [if_neg k0, if_neg k2, rr_0_8 tp, xan_mk (N := 2) (xTp_n tp 2 (by decide) rfl) (by omega) (by decide), hKr]
        show xcv (f_X9_remember T S 0) _ = _
        rw [e1, xcv_e, rr_0_4 tp1, rr_0_8 tp1, xar_mk (N := 2) (xTp_n tp1 2 (by decide) rfl) (by omega) (by decide) ck1.2.1 ck1.2.2.1.1.1 ck1.2.2.1.1.2, t1, xcv_e]
      generalize stC S1 17 31 40 (K + 1) (K + 10) s.1 s.2.1 = S2 at *
      have tp2 : xTp T S2.2.2 := t2.1
      have r2 : zR S2 M := zR_c (fun a q1 q2 => by rw [t3 a (by omega), f1 a (by omega) (by omega)]) (by rw [j2]) r
      obtain ⟨S3, e3, r3, y1, y2, y3⟩ := r_rem tp2 c.2.2.1.1.1 r2
      have tp3 : xTp T S3.2.2 := by rw [y1]; exact tp2
      have v3 := ((r3.2.2.2.1 k (by omega)).2 K s hkp).2
      refine ⟨T, cpR S3 (1 + k) 0 366, zX hc ?_, ?_⟩
      · unfold f_X10_restore
        rw [show f_X10_isIn T S2 (nI k) 0 1 = _ from h_in (n := 1) (by decide) hk, xc_e, if_neg (by decide), rr_199_3 tp2, xai_n (xTp_n tp2 2 (by decide) rfl) (by omega) (by decide), show S2.1 201 k = 1 by rw [t3 201 (by omega), f1 201 (by omega) (by omega)]; exact hr1, if_neg (by decide), e3, xcv_e, show (1 : Int32) + nI k = nI (1 + k) from nI_add 1 k, show (0 : Int32) = nI 0 from rfl, h_copyRow tp3 (by omega) (by omega) (by omega), xcv_e]
      · refine zFin (M := M.rm.sN s) (B := B) t2 ⟨gSt_f (fun a q => t3 a (by unfold zTS at q; omega)) (fun a q => t4 a (by unfold zTS at q; omega)) gs, fun k hk => gSt_f (fun a q => t3 a (by unfold zTS at q; omega)) (fun a q => t4 a (by unfold zTS at q; omega)) (gz.2.1 k hk), fun k hk K s z => gSt_f (fun a q => t3 a (by unfold zTS at q; omega)) (fun a q => t4 a (by unfold zTS at q; omega)) (gz.2.2 k hk K s z)⟩ ?_ (fun a q => by rw [cpR_out (by omega), y2 a (by omega) (by omega)]) (r_take r3 (by omega) v3) b0 (by show 5 * B + 1000000 * (M.L : Int) ≤ 20000000 * ((i + 1 : Nat) : Int); omega)
        show S3.2.2 = S2.2.2
        rw [y1]
  · have hp1 : p < 0 ∨ (1 : Int32) < p := hp
    refine zQ (r := 0) h ?_ ?_
    · unfold f_X9_restore
      by_cases w : p < 0
      · rw [if_pos w]
      · have w2 : (2 : Int32) ≤ p := by
          rcases hp1 with v | v
          · exact absurd v w
          · rw [xlt, show (1 : Int32).toInt = 1 from by decide] at v
            rw [xle, show (2 : Int32).toInt = 2 from by decide]; omega
        rw [if_neg w, if_pos w2]
    · unfold f_X10_restore
      rw [h_out hp1, xc_e, if_pos rfl]
