/-! first, asked -/
def fM (pa : Int32) (g : Nat → Int32) : Nat → Nat → Nat → Nat
  | 0, _, b => b
  | m + 1, p, b => fM pa g m (p + 1) (if xb pa p = 0 then b else if g p ≤ g b then b else p)
theorem fM_cong {pa : Int32} {g g' : Nat → Int32} (h : ∀ k, k < 8 → g k = g' k) : ∀ (m p b : Nat), p + m = 8 → b < 8 → fM pa g m p b = fM pa g' m p b
  | 0, _, _, _, _ => rfl
  | m + 1, p, b, hp, hb => by
    unfold fM
    rw [h p (by omega), h b hb]
    refine fM_cong h m (p + 1) _ (by omega) ?_
    by_cases q : xb pa p = 0
    · rw [if_pos q]; exact hb
    · rw [if_neg q]
      by_cases q2 : g' p ≤ g' b
      · rw [if_pos q2]; exact hb
      · rw [if_neg q2]; omega
theorem fM_self (pa : Int32) (g : Nat → Int32) (m p : Nat) : fM pa g (m + 1) p p = fM pa g m (p + 1) p := by
  show fM pa g m (p + 1) (if xb pa p = 0 then p else if g p ≤ g p then p else p) = _
  congr 1
  by_cases q : xb pa p = 0
  · rw [if_pos q]
  · rw [if_neg q, if_pos (Int32.le_refl _)]
theorem fst_ex {pa : Int32} : ∀ (m i : Nat), i + m = 8 → (∃ p, i ≤ p ∧ p < 8 ∧ ¬ xb pa p = 0) → ∃ p, i ≤ p ∧ p < 8 ∧ ¬ xb pa p = 0 ∧ ∀ q, i ≤ q → q < p → xb pa q = 0
  | 0, i, hi, ⟨p, h1, h2, _⟩ => by omega
  | m + 1, i, hi, h => by
    by_cases q : xb pa i = 0
    · obtain ⟨p, h1, h2, h3⟩ := h
      have hne : i ≠ p := fun z => h3 (z ▸ q)
      obtain ⟨p', k1, k2, k3, k4⟩ := fst_ex m (i + 1) (by omega) ⟨p, by omega, h2, h3⟩
      refine ⟨p', by omega, k2, k3, fun x hx1 hx2 => ?_⟩
      by_cases z : x = i
      · rw [z]; exact q
      · exact k4 x (by omega) hx2
    · exact ⟨i, Nat.le_refl _, by omega, q, fun x h1 h2 => by omega⟩
/-- none is there -/
theorem L_f0 {T : xT} {S : xS} {M : zM} (c : zC T S M) (h : ∀ k, k < 8 → xb (M.now.2.2.1 0 0) k = 0) : ∀ (m i n : Nat), i + m = 8 → m < n → f_X9_first_39 T n S 0 31 (-1) (nI i) = some (-1, S) := by
  intro m
  induction m with
  | zero =>
    intro i n hi hn
    obtain ⟨n, rfl⟩ : ∃ n', n = n' + 1 := ⟨n - 1, by omega⟩
    obtain rfl : i = 8 := by omega
    unfold f_X9_first_39
    rw [if_pos x8_t]
  | succ m ih =>
    intro i n hi hn
    obtain ⟨n, rfl⟩ : ∃ n', n = n' + 1 := ⟨n - 1, by omega⟩
    unfold f_X9_first_39
    rw [if_neg (x8_f (show i < 8 by omega)), n_has c (by omega), xc_e, if_pos (h i (by omega)), if_pos rfl, xl_e, nI_1]
    exact ih (i + 1) n (by omega) (by omega)
/-- up to the first who is there -/
theorem L_f1 {T : xT} {S : xS} {M : zM} {p : Nat} (c : zC T S M) (hp : p < 8) (hx : ¬ xb (M.now.2.2.1 0 0) p = 0) : ∀ (m i n : Nat), i + m = p → (∀ q, i ≤ q → q < p → xb (M.now.2.2.1 0 0) q = 0) → f_X9_first_39 T (n + m + 1) S 0 31 (-1) (nI i) = f_X9_first_39 T n S 0 31 (nI p) (nI (p + 1)) := by
  intro m
  induction m with
  | zero =>
    intro i n hi hq
    obtain rfl : i = p := by omega
    conv => lhs; unfold f_X9_first_39
    rw [if_neg (x8_f hp), n_has c hp, xc_e, if_neg hx, if_neg (by decide), if_pos rfl, xl_e, xl_e, nI_1]
  | succ m ih =>
    intro i n hi hq
    conv => lhs; unfold f_X9_first_39
    rw [if_neg (x8_f (show i < 8 by omega)), n_has c (by omega), xc_e, if_pos (hq i (by omega) (by omega)), if_pos rfl, xl_e, nI_1]
    exact ih (i + 1) n (by omega) (fun q h1 h2 => hq q (by omega) h2)
theorem L_f2 {T : xT} {S : xS} {M : zM} (c : zC T S M) : ∀ (m p n b : Nat), p + m = 8 → m < n → b < 8 → f_X9_first_39 T n S 0 31 (nI b) (nI p) = some (nI (fM (M.now.2.2.1 0 0) (S.1 4) m p b), S) := by
  have tp := c.1
  intro m
  induction m with
  | zero =>
    intro p n b hp hn hb
    obtain ⟨n, rfl⟩ : ∃ n', n = n' + 1 := ⟨n - 1, by omega⟩
    obtain rfl : p = 8 := by omega
    unfold f_X9_first_39
    rw [if_pos x8_t]
    rfl
  | succ m ih =>
    intro p n b hp hn hb
    obtain ⟨n, rfl⟩ : ∃ n', n = n' + 1 := ⟨n - 1, by omega⟩
    have b1 : ¬ nI b = (-1 : Int32) := fun w => by rw [xeq, nI_toInt (by omega), show (-1 : Int32).toInt = -1 from by decide] at w; omega
    unfold f_X9_first_39 fM
    rw [if_neg (x8_f (show p < 8 by omega)), n_has c (by omega), xc_e]
    by_cases q : xb (M.now.2.2.1 0 0) p = 0
    · rw [if_pos q, if_pos rfl, xl_e, nI_1, if_pos q]
      exact ih (p + 1) n b (by omega) (by omega) hb
    · rw [if_neg q, if_neg (by decide), if_neg b1, rr_0_1 tp, rr_3_0 tp, xai_n (xTp_n tp 8 (by decide) rfl) (show p < 8 by omega) (by decide), rr_0_1 tp, rr_3_0 tp, xai_n (xTp_n tp 8 (by decide) rfl) hb (by decide), if_neg q]
      by_cases q2 : S.1 4 p ≤ S.1 4 b
      · rw [if_pos q2, xl_e, nI_1, if_pos q2]
        exact ih (p + 1) n b (by omega) (by omega) hb
      · rw [if_neg q2, xl_e, xl_e, nI_1, if_neg q2]
        exact ih (p + 1) n p (by omega) (by omega) (by omega)
theorem L_f3 {T : xT} {Q : xS} {F : Nat → Nat → Int32} {u : Nat → Int32} (tq : xTp T Q.2.2) (hb : Q.1 199 1 = nI (366 * 15)) (hr : rV Q 15 F u) (hw : ∃ wt, rwV Q wt) : ∀ (m p n b : Nat), p + m = 8 → m < n → b < 8 → f_X10_first_45 T n Q 199 (nI b) (nI p) = some (nI (fM (F 0 0) (Q.1 206) m p b), xI Q 199 1 0) := by
  intro m
  induction m with
  | zero =>
    intro p n b hp hn hb
    obtain ⟨n, rfl⟩ : ∃ n', n = n' + 1 := ⟨n - 1, by omega⟩
    obtain rfl : p = 8 := by omega
    unfold f_X10_first_45
    rw [if_pos x8_t, xpi_e]
    rfl
  | succ m ih =>
    intro p n b hp hn hb8
    obtain ⟨n, rfl⟩ : ∃ n', n = n' + 1 := ⟨n - 1, by omega⟩
    unfold f_X10_first_45 fM
    rw [if_neg (x8_f (show p < 8 by omega)), s_there (i := 15) tq hb (by decide) hr hw.choose_spec (show p < 8 by omega), xc_e]
    by_cases q : xb (F 0 0) p = 0
    · rw [if_pos q, xl_e, xl_e, nI_1, if_pos q]
      exact ih (p + 1) n b (by omega) (by omega) hb8
    · rw [if_neg q, rr_199_17 tq, xai_n (xTp_n tq 8 (by decide) rfl) (show p < 8 by omega) (by decide), rr_199_17 tq, xai_n (xTp_n tq 8 (by decide) rfl) hb8 (by decide), if_neg q]
      by_cases q2 : Q.1 206 p ≤ Q.1 206 b
      · rw [if_pos q2, xl_e, xl_e, nI_1, if_pos q2]
        exact ih (p + 1) n b (by omega) (by omega) hb8
      · rw [if_neg q2, xl_e, xl_e, nI_1, if_neg q2]
        exact ih (p + 1) n p (by omega) (by omega) (by omega)
theorem o_first : zOp 39 := by
  intro i T S a hi h
  have h' := h
  obtain ⟨M, B, c, r, g, b0, b1⟩ := h'
  obtain ⟨wt0, z⟩ := zV_of c r g
  have tp := c.1
  have hB := zB_le hi b1
  have ok : bOkF B M.now.2.2.1 := g.1.2.2
  obtain ⟨fi, ti, to, ro, e17, cong⟩ := zTi c g
  show ∃ (T2 : xT) (S2 : xS), xc (f_X9_first T S 0) (fun r1 S1 => xc (f_X10_first T S1 199) (fun r2 S2 => some (decide (r1 = r2), T, S2))) = some (true, T2, S2) ∧ zI (i + 1) T2 S2
  obtain ⟨S1, s1, s2, s3, s4, s5, s6⟩ := w_sell (c := xtot (M.now.2.2.1 1) + (xtot (M.now.2.2.1 7) - xtot (M.now.2.2.1 6))) z ti to
  have f1 : pFr S S1 := ⟨s3, fun a q => s2 a (by omega)⟩
  have c1 := zC_p c f1
  have tp1 := c1.1
  have hc0 : f_X9_first T S 0 = f_X9_first_39 T xfu S1 0 31 (-1) (nI 0) := by
    unfold f_X9_first
    rw [rr_0_4 tp, rr_17_0 tp, rr_0_1 tp, rr_31_6 tp, w_cap z, xc_e, w_gain z, xc_e, rr_0_4 tp, e17 _ _ S rfl, s1, xcv_e, xl_e, xl_e]
    rfl
  by_cases hp : M.now.2.2.1 0 0 = 0
  · have r1 := zR_p (T := T) r f1
    refine ⟨T, S1, zX (r := -1) (S1 := S1) ?_ ?_, zPap c g b0 b1 f1 rfl (fun _ _ => rfl) r1⟩
    · rw [hc0]
      exact L_f0 c1 (fun k hk => by rw [hp]; exact xb_zero k (by omega)) 8 0 xfu rfl (by decide)
    · unfold f_X10_first
      rw [q_get0 r1 tp1, xc_e, if_pos hp]
  · obtain ⟨p0, _, p8, px, pq⟩ := fst_ex 8 0 rfl (bHi_ex ok.1.1 hp)
    have hc1 : f_X9_first T S 0 = some (nI (fM (M.now.2.2.1 0 0) (S1.1 4) (7 - p0) (p0 + 1) p0), S1) := by
      rw [hc0, show xfu = (999 - p0) + p0 + 1 by show 1000 = _; omega, L_f1 c1 p8 px p0 0 (999 - p0) (by omega) pq]
      exact L_f2 c1 (7 - p0) (p0 + 1) (999 - p0) p0 (by omega) (by omega) p8
    have r1 := zR_p (T := T) r f1
    obtain ⟨Q, q0, q1, q2, q3, q4, q5, q6, q7, q8⟩ := q_aside r1 tp1
    obtain ⟨wt, qw⟩ := q4
    generalize hQ : xI Q 199 1 5490 = Q1 at *
    have ⟨ha, hn⟩ : xAs (M.now.2.2.1 0 1) (M.now.2.2.1 6) (M.now.2.2.1 7) (M.now.2.2.1 8) ∧ _ := ⟨ok.2.1, ok.2.2.1⟩
    have hra : ∀ k, k < 8 → 0 ≤ (M.now.2.2.1 3 k).toInt := fun k hk => (hn k hk).2.1.1
    obtain ⟨k1, k2, k3, _⟩ := bAnew (su := rsu M.now.2.2.2) (tw := rtw M.now.2.2.2) (fi := fi) ok (by omega) (fun q j h1 h2 => (ro.2.2.1 q j h1 h2).1)
    obtain ⟨wt', pt', gq', ls', sp', e2⟩ := h_anewAll (T := T) (fi := fi) (S := Q1) (b := 366 * 15) (wt := wt) (pt := Q1.1 205) (gq := Q1.1 206) (ls := Q1.1 207) (sp := Q1.1 208) (kn := M.now.2.2.1 9 0) (lo := M.now.2.2.1 9 1) (ro := M.now.2.2.1 10) (pa := M.now.2.2.1 0 0) (av := M.now.2.2.1 0 1) (ca := M.now.2.2.1 0 2) (re := M.now.2.2.1 0 3) (ye := M.now.2.2.1 0 4) (ch := M.now.2.2.1 0 5) (cap := M.now.2.2.1 1) (du := M.now.2.2.1 2) (ra := M.now.2.2.1 3) (sh := M.now.2.2.1 4) (ow := M.now.2.2.1 5) (bo := M.now.2.2.1 6) (ma := M.now.2.2.1 7) (de := M.now.2.2.1 8) (u := M.now.2.2.2) q1 q2 (by decide) ro ha hra k1 k2 (bHi_ex ok.1.1) k3
    simp only [if_neg hp] at e2
    have e2' : f_X10_valueAnew T (rF Q1 (366 * 15) wt M.now.2.2.1 M.now.2.2.2) 199 = _ := e2
    rw [r_self q3 qw] at e2'
    obtain ⟨an1, an2⟩ := anew_tot ok (by omega) ro hp
    generalize hcap : shC (xtot (M.now.2.2.1 7) - xtot (M.now.2.2.1 6)) (M.now.2.2.1 0 0) (M.now.2.2.1 3) (M.now.2.2.1 1) (M.now.2.2.1 2) (M.now.2.2.1 4) (sgp (M.now.2.2.1 0 0) (rsu M.now.2.2.2) (rtw M.now.2.2.2) fi (M.now.2.2.1 1) (xtot (M.now.2.2.1 7) - xtot (M.now.2.2.1 6))) = cap2 at *
    generalize shO (xtot (M.now.2.2.1 7) - xtot (M.now.2.2.1 6)) (M.now.2.2.1 0 0) (M.now.2.2.1 3) (M.now.2.2.1 1) (M.now.2.2.1 2) (M.now.2.2.1 4) (sgp (M.now.2.2.1 0 0) (rsu M.now.2.2.2) (rtw M.now.2.2.2) fi (M.now.2.2.1 1) (xtot (M.now.2.2.1 7) - xtot (M.now.2.2.1 6))) 0 = lo2 at *
    generalize shR (xtot (M.now.2.2.1 7) - xtot (M.now.2.2.1 6)) (M.now.2.2.1 0 0) (M.now.2.2.1 3) (M.now.2.2.1 1) (M.now.2.2.1 2) (M.now.2.2.1 4) (sgp (M.now.2.2.1 0 0) (rsu M.now.2.2.2) (rtw M.now.2.2.2) fi (M.now.2.2.1 1) (xtot (M.now.2.2.1 7) - xtot (M.now.2.2.1 6))) (fun _ => 0) = ro2 at *
    obtain ⟨wt2, pt2, e3⟩ := h_lay (T := T) (fi := fi) (c := xtot cap2) (S := Q1) (b := 366 * 15) (wt := wt') (pt := pt') (gq := gq') (ls := ls') (sp := sp') (kn := 1) (lo := lo2) (ro := ro2) (pa := M.now.2.2.1 0 0) (av := M.now.2.2.1 0 1) (ca := M.now.2.2.1 0 2) (re := 0) (ye := M.now.2.2.1 0 4) (ch := M.now.2.2.1 0 5) (cap := cap2) (du := M.now.2.2.1 2) (ra := M.now.2.2.1 3) (sh := M.now.2.2.1 4) (ow := M.now.2.2.1 5) (bo := M.now.2.2.1 7) (ma := M.now.2.2.1 7) (de := M.now.2.2.1 8) (u := M.now.2.2.2) q1 q2 (by decide) ro (by rw [an1]; exact an2)
    obtain ⟨Y, eY, hY⟩ := some_ex e3
    have sY := qSt_rS0 (S := Q1) (wt := wt2) (pt := pt2) (gq := sV (M.now.2.2.1 0 0) (rsu M.now.2.2.2) (rtw M.now.2.2.2) fi (xtot cap2)) (ls := ls') (sp := sp') (ro := ro2) (cap := cap2) (du := M.now.2.2.1 2) (ra := M.now.2.2.1 3) (sh := M.now.2.2.1 4) (ow := M.now.2.2.1 5) (bo := M.now.2.2.1 7) (ma := M.now.2.2.1 7) (de := M.now.2.2.1 8) (u := M.now.2.2.2) (kn := 1) (lo := lo2) (pa := M.now.2.2.1 0 0) (av := M.now.2.2.1 0 1) (ca := M.now.2.2.1 0 2) (re := 0) (ye := M.now.2.2.1 0 4) (ch := M.now.2.2.1 0 5)
    rw [← hY] at sY
    have gY : ∀ k, k < 8 → Y.1 206 k = sV (M.now.2.2.1 0 0) (rsu M.now.2.2.2) (rtw M.now.2.2.2) fi (xtot cap2) k := fun k hk => by
      rw [hY]; exact rr_gq hk
    have fY : qFr S1 Y := qFr_t ⟨q5, q6, q7, q8, wt, qw⟩ sY
    have tY : xTp T Y.2.2 := by rw [sY.1]; exact q1
    have bY : Y.1 199 1 = nI (366 * 15) := by rw [sY.2.1 199 (by omega)]; exact q2
    obtain ⟨p1, h1, h2, h3, _, h5, _⟩ := L_rfirst (T := T) (S := Q1) (b := 366 * 15) (wt := wt2) (pt := pt2) (gq := sV (M.now.2.2.1 0 0) (rsu M.now.2.2.2) (rtw M.now.2.2.2) fi (xtot cap2)) (ls := ls') (sp := sp') (ro := ro2) (cap := cap2) (du := M.now.2.2.1 2) (ra := M.now.2.2.1 3) (sh := M.now.2.2.1 4) (ow := M.now.2.2.1 5) (bo := M.now.2.2.1 7) (ma := M.now.2.2.1 7) (de := M.now.2.2.1 8) (u := M.now.2.2.2) (kn := 1) (lo := lo2) (pa := M.now.2.2.1 0 0) (av := M.now.2.2.1 0 1) (ca := M.now.2.2.1 0 2) (re := 0) (ye := M.now.2.2.1 0 4) (ch := M.now.2.2.1 0 5) q1 q2 (by decide) 8 0 xfu rfl (by decide) (bHi_ex ok.1.1 hp)
    have ep : p1 = p0 := by
      rcases Nat.lt_trichotomy p1 p0 with w | w | w
      · exact absurd (pq p1 (by omega) w) h2
      · exact w
      · exact absurd (h3 p0 (by omega) w) px
    subst ep
    rw [← hY] at h5
    have ef := L_f3 tY bY sY.2.2.2.1 sY.2.2.2.2 (8 - p1) p1 xfu p1 (by omega) (by show 8 - p1 < 1000; omega) p8
    have em : fM (M.now.2.2.1 0 0) (Y.1 206) (8 - p1) p1 p1 = fM (M.now.2.2.1 0 0) (S1.1 4) (7 - p1) (p1 + 1) p1 := by
      rw [show 8 - p1 = (7 - p1) + 1 by omega, fM_self]
      refine fM_cong (fun k hk => ?_) _ _ _ (by omega) p8
      rw [gY k hk, s6 k hk, an1]
      exact ((cong _).2.1 k hk).symm
    refine ⟨T, xI Y 199 1 0, zX hc1 ?_, zPap c g b0 b1 f1 fY.1 (fun a w => by rw [xI_ne (by omega), fY.2.1 a (by omega)]) (q_end c.2.2.1.1.1 r1 fY)⟩
    unfold f_X10_first
    rw [q_get0 r1 tp1, xc_e, if_neg hp, q0, xcv_e, xpi_e, hQ, e2', xc_e, xl_e, h_sumOf_cap q1 q2 (by decide), xc_e, eY, xcv_e, show f_X10_firstThere T Y 199 = some (nI p1, Y) from h5, xc_e, xl_e, xl_e, ← em]
    exact ef
