/-! a text was read; acts kept -/
def zM.rd (M : zM) (f : Int32) : zM := zmk M.now M.d M.x M.D M.kp 0 M.tb f M.bn M.be M.bt M.wn M.wb
theorem zC_rd {T : xT} {S S' : xS} {M : zM} {f : Int32} (c : zC T S M) (hr : S'.2.2 = S.2.2) (h : ∀ a, (a ≠ 0 ∧ a ≠ 1 ∧ a ≠ 12 ∧ a ≠ 13 ∧ a ≠ 14) → S'.1 a = S.1 a) (h0 : ∀ k, k ≠ 11 → S'.1 0 k = S.1 0 k) (hf : S'.1 0 11 = f) (h1 : S'.1 1 1 = 0) : zC T S' (M.rd f) := by
  obtain ⟨c1, c2, c3, c4, c5, c6, c7, c8⟩ := c
  exact ⟨by rw [hr]; exact c1, cSt_c c2 (by rw [hr]) (fun a q1 q2 => h a (by omega)) (h _ (by omega)) (h _ (by omega)), cDe_c (M := M) c3 ⟨h0 6 (by decide), h0 7 (by decide)⟩ (fun a _ _ => by rw [hr]) (fun a q1 q2 => h a (by omega)), cKe_c (M := M) c4 (by rw [hr]) (fun a _ => by rw [hr]) (fun a q => h a (by omega)), ⟨by show 0 ≤ 400; omega, by rw [h1]; rfl, fun k hk => absurd hk (by show ¬ k < 0; omega)⟩, hf, cBa_c (M := M) c7 (h _ (by omega)) (h _ (by omega)), cWr_c (M := M) c8 (h _ (by omega)) (h _ (by omega))⟩
theorem zR_rd {S S' : xS} {M : zM} {f : Int32} (r : zR S M) (h : ∀ a, a = 200 ∨ a = 201 ∨ a = 213 ∨ a = 214 → S'.1 a = S.1 a) (hf : ∀ k, k = 1 ∨ k = 2 ∨ k = 30 ∨ k = 31 ∨ k = 33 → S'.1 199 k = S.1 199 k) (h5 : S'.1 199 5 = 0) (h9 : S'.1 199 9 = f) (hj : S'.2.1 204 = S.2.1 204) : zR S' (M.rd f) := by
  obtain ⟨⟨r1, wt, r2⟩, r3, ⟨r4, r5⟩, r6, _, _, ⟨r10, r11, r12⟩, r13, r14⟩ := r
  exact ⟨⟨by rw [hf 1 (by decide)]; exact r1, wt, rwV_c r2 hj⟩, rV_c r3 (h _ (by decide)), ⟨by rw [hf 2 (by decide)]; exact r4, fun k hk => rV_c (r5 k hk) (h _ (by decide))⟩, fun k hk => ⟨fun z => by rw [h 201 (by decide)]; exact (r6 k hk).1 z, fun K s z => ⟨by rw [h 201 (by decide)]; exact ((r6 k hk).2 K s z).1, rV_c ((r6 k hk).2 K s z).2 (h _ (by decide))⟩⟩, ⟨by rw [h5]; rfl, fun k hk => absurd hk (by show ¬ k < 0; omega)⟩, h9, ⟨by rw [hf 30 (by decide)]; exact r10, by rw [hf 31 (by decide)]; exact r11, fun k hk => by rw [h 213 (by decide)]; exact r12 k hk⟩, by rw [hf 33 (by decide)]; exact r13, fun k hk => by rw [h 214 (by decide)]; exact r14 k hk⟩
theorem c_tape {T : xT} {S : xS} (tp : xTp T S.2.2) : f_X9_tapeWasRead T S 0 = some (xI (xI S 0 11 (S.1 1 2)) 1 1 0) := by
  unfold f_X9_tapeWasRead
  rw [rr_0_0 tp, xpi_e, rr_0_0 (S := xI S 0 11 (S.1 1 2)) tp, xpi_e]
theorem aB_self (S : xS) : aB S (S.1 12) (S.1 13) (S.1 14) = S := by
  unfold aB
  rw [xw_self]
  have e : (S.1 13) = (S.1 13) := rfl
  rw [show xw S 13 (S.1 13) = S from xw_self S 13, xw_self]
theorem rW_jn {S : xS} {g : Nat → Int32} {j : Nat → Int64} {a : Nat} (h : a ≠ 199) : (rW S g j).2.1 a = S.2.1 a := va_up_ne S.2.1 j h
theorem cTb_of {T : xT} {S : xS} {M : zM} (c : zC T S M) : cTb T S M.tb M.L := ⟨c.1, c.2.2.2.2.1.1, c.2.2.2.2.1.2.2⟩
theorem rTb_of {T : xT} {S Sr : xS} {M : zM} (c : zC T S M) (r : zR Sr M) (tr : xTp T Sr.2.2) : rTb T Sr M.tb M.L := ⟨tr, c.2.2.2.2.1.1, fun k hk => ⟨r.2.2.2.2.1.2 k hk, (c.2.2.2.2.1.2.2 k hk).2⟩⟩
theorem o_acts : zOp 26 := by
  intro i T S a hi h
  have h' := h
  obtain ⟨M, B, c, r, g, b0, b1⟩ := h'
  have tp := c.1
  show ∃ (T2 : xT) (S2 : xS), xc (f_X9_acts T S 0) (fun r1 S1 => xc (f_X10_acts T S1 199) (fun r2 S2 => some (decide (r1 = r2), T, S2))) = some (true, T2, S2) ∧ zI (i + 1) T2 S2
  obtain ⟨g', K', W', N', e1, af, hv⟩ := c_readActs (K := S.1 12) (W := S.1 13) (N := S.1 14) (g := S.1 1) (cTb_of c) c.2.2.2.2.1.2.1
  rw [aB_self, xw_self] at e1
  have rdr := fun Sr (r' : zR Sr M) (tr : xTp T Sr.2.2) => r_readActs (T := T) (B := Sr.1 212) (g := Sr.1 199) (j := Sr.2.1 199) (rTb_of c r' tr) r'.2.2.2.2.1.1
  have pc := pAs_c (tb := M.tb) (L := M.L) 30 0 0 z8 z8 z8 (Nat.zero_le _)
  generalize hP : pAs M.tb M.L 30 0 0 z8 z8 z8 = P at *
  have f3 : ∀ x, x ≠ 1 → x ≠ 12 → x ≠ 13 → x ≠ 14 → (xw (aB S K' W' N') 1 g').1 x = S.1 x := fun x h1 h2 h3 h4 => by
    unfold aB
    rw [xw_ne _ _ h1, xw_ne _ _ h4, xw_ne _ _ h3, xw_ne _ _ h2]
  have v12 : (xw (aB S K' W' N') 1 g').1 12 = K' ∧ (xw (aB S K' W' N') 1 g').1 13 = W' ∧ (xw (aB S K' W' N') 1 g').1 14 = N' := ⟨by rw [xw_ne _ _ (by decide), aB_12], by rw [xw_ne _ _ (by decide), aB_13], by rw [xw_ne _ _ (by decide), aB_14]⟩
  have v1 : (xw (aB S K' W' N') 1 g').1 1 2 = g' 2 := by rw [xw_1]
  have j3 : (xw (aB S K' W' N') 1 g').2 = S.2 := rfl
  generalize xw (aB S K' W' N') 1 g' = S3 at *
  have tp3 : xTp T S3.2.2 := by rw [j3]; exact tp
  have c6 : zC T (xI (xI S3 0 11 (S3.1 1 2)) 1 1 0) (M.rd (g' 2)) := zC_rd c (by show S3.2.2 = _; rw [j3]) (fun a q => by rw [xI_ne (by omega), xI_ne (by omega), f3 a (by omega) (by omega) (by omega) (by omega)]) (fun k hk => by rw [xI_ne (by decide), xI_at hk, f3 0 (by decide) (by decide) (by decide) (by decide)]) (by rw [xI_ne (by decide), xI_1, xup_at, v1]) (by rw [xI_1, xup_at])
  have f6 : ∀ x, x ≠ 0 → x ≠ 1 → (xI (xI S3 0 11 (S3.1 1 2)) 1 1 0).1 x = S3.1 x := fun x h0 h1 => by rw [xI_ne h1, xI_ne h0]
  have j6 : (xI (xI S3 0 11 (S3.1 1 2)) 1 1 0).2 = S.2 := j3
  have et := c_tape (T := T) (S := S3) tp3
  generalize xI (xI S3 0 11 (S3.1 1 2)) 1 1 0 = S6 at *
  have tp6 := c6.1
  have g6 : zG T S6 B (M.rd (g' 2)) := zG_f (M := M) (fun a q => by rw [f6 a (by unfold zTS at q; omega) (by unfold zTS at q; omega), f3 a (by unfold zTS at q; omega) (by unfold zTS at q; omega) (by unfold zTS at q; omega) (by unfold zTS at q; omega)]) (fun a _ => by rw [j6]) g
  by_cases hp : P.1 = true
  · rw [if_pos hp] at e1
    obtain ⟨p1, p2, _, p4, p5⟩ := pc hp
    rw [Nat.sub_zero] at p5
    have ft := (c_af hp af).2
    have c8 : zC T (xI (xI S6 10 0 0) 10 1 (-1)) ((M.rd (g' 2)).sB 0 (-1) M.bt) := zC_b c6 rfl (fun a h1 _ => by rw [xI_ne h1, xI_ne h1]) ⟨by show 0 ≤ 30; omega, by rw [xI_at (by decide), xI_1, xup_at]; rfl, by rw [xI_1, xup_at]; rfl, fun k hk => absurd hk (by show ¬ k < 0; omega)⟩
    have f8 : ∀ x, x ≠ 10 → (xI (xI S6 10 0 0) 10 1 (-1)).1 x = S6.1 x := fun x h1 => by rw [xI_ne h1, xI_ne h1]
    have g8 : zG T (xI (xI S6 10 0 0) 10 1 (-1)) B ((M.rd (g' 2)).sB 0 (-1) M.bt) := zG_f (M := M.rd (g' 2)) (fun a q => f8 a (by unfold zTS at q; omega)) (fun a _ => rfl) g6
    obtain ⟨v, S', M', B', h1, h2, h3, h4, h5, h6, h7, h8, h9⟩ := L_do (T := T) (i := i) (cnt := P.2.2.1) (K := P.2.2.2.1) (W := P.2.2.2.2.1) (N := P.2.2.2.2.2) hi (by omega) (fun x hx => p4 x (Nat.zero_le _) hx) P.2.2.1 0 xfu _ _ B (by omega) (by show P.2.2.1 < 1000; omega) c8 g8 rfl rfl (fun y hy => by
      rw [f8 12 (by decide), f8 13 (by decide), f8 14 (by decide), f6 12 (by decide) (by decide), f6 13 (by decide) (by decide), f6 14 (by decide) (by decide), v12.1, v12.2.1, v12.2.2]
      exact hv hp y hy) b0 (by
        have : ((cS P.2.2.2.1 P.2.2.1 0 : Nat) : Int) ≤ (M.L : Int) := by omega
        omega)
    have hs : ∀ a, 199 ≤ a → S'.1 a = S.1 a := fun a ha => by rw [h8 a ha, f8 a (by omega), f6 a (by omega) (by omega), f3 a (by omega) (by omega) (by omega) (by omega)]
    have hj : S'.2.1 = S.2.1 := h7.trans (by show S6.2.1 = _; rw [j6])
    have rS' : zR S' M := zR_c (fun a q1 _ => hs a q1) (by rw [hj]) r
    obtain ⟨g2, j2, B2, k1, k2, k3, _⟩ := rdr S' rS' h2.1
    obtain ⟨k5, k6, k7⟩ := k3 hp
    rw [xw_self, rW_self, hp] at k1
    have q200 : ∀ x, x ≠ 199 → x ≠ 212 → (rW (xw S' 212 B2) g2 j2).1 x = S'.1 x := fun x h1 h2 => by rw [rW_ne _ _ _ h1, xw_ne _ _ h2]
    have q199 : (rW (xw S' 212 B2) g2 j2).1 199 = g2 := rW_1 _ _ _
    have q212 : (rW (xw S' 212 B2) g2 j2).1 212 = B2 := by rw [rW_ne _ _ _ (by decide), xw_1]
    have qj : (rW (xw S' 212 B2) g2 j2).2.1 204 = S'.2.1 204 := rW_jn (by decide)
    have qr : (rW (xw S' 212 B2) g2 j2).2.2 = S'.2.2 := rfl
    generalize rW (xw S' 212 B2) g2 j2 = R1 at *
    have z0 : zR (xI R1 199 5 0) (M.rd (g' 2)) := zR_rd rS' (fun a q => by rw [xI_ne (by omega), q200 a (by omega) (by omega)]) (fun k q => by rw [xI_at (by omega), q199, k2 k (by omega)]) (by rw [xI_1, xup_at]) (by rw [xI_at (by decide), q199, k5, ft]) qj
    have z1 : zR (xI (xI (xI R1 199 5 0) 199 30 0) 199 31 (-1)) ((M.rd (g' 2)).sB 0 (-1) M.bt) := zR_b z0 (fun a q => by rw [xI_ne (by omega), xI_ne (by omega)]) (fun k q => by rw [xI_at (by omega), xI_at (by omega)]) rfl ⟨by rw [xI_at (by decide), xI_1, xup_at]; rfl, by rw [xI_1, xup_at], fun k hk => by omega⟩
    obtain ⟨Sr', s1, s2, s3, s4⟩ := h9 _ xfu (by show P.2.2.1 + 1 < 1000; omega) z1 (by show xTp T R1.2.2; rw [qr]; exact h2.1) (by rw [xI_ne (by decide), xI_ne (by decide), xI_ne (by decide), q212]; exact k7) (by rw [xI_at (by decide), xI_at (by decide), xI_at (by decide), q199]; exact k6)
    have s3' : Sr'.2.2 = S'.2.2 := by rw [s3]; exact qr
    refine ⟨T, Sr', zX (r := v) (S1 := S') ?_ ?_, zFin h2 h3 s3' (fun a q => by rw [s4 a (by omega), xI_ne (by omega), xI_ne (by omega), xI_ne (by omega), q200 a (by omega) (by omega)]) s2 h5 (by rw [h4]; show 5 * B' + 1000000 * ((0 : Nat) : Int) ≤ 20000000 * ((i + 1 : Nat) : Int); omega)⟩
    · unfold f_X9_acts f_X0_startRows
      rw [rr_0_2 tp, rr_0_0 tp, e1, xc_e, xl_e, et, xcv_e, if_neg (fun w => by rw [xeq, nI_toInt (by omega), show (-1 : Int32).toInt = -1 from by decide] at w; omega), rr_0_2 tp6, xpi_e, xpi_e, xcv_e, xl_e]
      exact h1
    · unfold f_X10_acts
      rw [k1, xc_e, xl_e, xpi_e, if_neg (by decide), xpi_e, xpi_e]
      exact s1
  · have hp' : P.1 = false := bool_f hp
    rw [if_neg hp] at e1
    have ft := c_aff hp' af
    have hs : ∀ a, 199 ≤ a → S6.1 a = S.1 a := fun a ha => by rw [f6 a (by omega) (by omega), f3 a (by omega) (by omega) (by omega) (by omega)]
    have rS' : zR S6 M := zR_c (fun a q1 _ => hs a q1) (by rw [j6]) r
    obtain ⟨g2, j2, B2, k1, k2, _, k4⟩ := rdr S6 rS' tp6
    have k5 := k4 hp'
    rw [xw_self, rW_self, hp'] at k1
    have q200 : ∀ x, x ≠ 199 → x ≠ 212 → (rW (xw S6 212 B2) g2 j2).1 x = S6.1 x := fun x h1 h2 => by rw [rW_ne _ _ _ h1, xw_ne _ _ h2]
    have q199 : (rW (xw S6 212 B2) g2 j2).1 199 = g2 := rW_1 _ _ _
    have qj : (rW (xw S6 212 B2) g2 j2).2.1 204 = S6.2.1 204 := rW_jn (by decide)
    have qr : (rW (xw S6 212 B2) g2 j2).2.2 = S6.2.2 := rfl
    generalize rW (xw S6 212 B2) g2 j2 = R1 at *
    have z0 : zR (xI R1 199 5 0) (M.rd (g' 2)) := zR_rd rS' (fun a q => by rw [xI_ne (by omega), q200 a (by omega) (by omega)]) (fun k q => by rw [xI_at (by omega), q199, k2 k (by omega)]) (by rw [xI_1, xup_at]) (by rw [xI_at (by decide), q199, k5, ft]) qj
    refine ⟨T, xI R1 199 5 0, zX (r := -1) (S1 := S6) ?_ ?_, zFin c6 g6 (by show R1.2.2 = _; rw [qr]) (fun a q => by rw [xI_ne (by omega), q200 a (by omega) (by omega)]) z0 b0 (by show 5 * B + 1000000 * ((0 : Nat) : Int) ≤ 20000000 * ((i + 1 : Nat) : Int); omega)⟩
    · unfold f_X9_acts
      rw [rr_0_2 tp, rr_0_0 tp, e1, xc_e, xl_e, et, xcv_e, if_pos rfl]
    · unfold f_X10_acts
      rw [k1, xc_e, xl_e, xpi_e, if_pos (by decide)]
