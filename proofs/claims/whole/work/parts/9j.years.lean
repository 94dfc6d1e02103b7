/-! breaks, years, exit -/
theorem brk_of {T : xT} {Sr Q : xS} {M : zM} {F' : Nat → Nat → Int32} {n : Int32} (hd : M.d ≤ 12) (r : zR Sr M) (tq : xTp T Q.2.2) (hb : Q.1 199 1 = nI (366 * 15)) (hr : rV Q 15 F' M.now.2.2.2) (f : qFr Sr Q) : f_X10_get T Q 199 (309 : Int32) = some (F' 9 1, Q) ∧ zR (xI Q 199 1 0) M ∧ (xI Q 199 1 0).2.2 = Sr.2.2 ∧ ∀ a, a < 199 ∨ 211 < a → (xI Q 199 1 0).1 a = Sr.1 a :=
  ⟨p_get (k := 309) tq hb hr f.2.2.2.2 (by omega), q_end hd r f, f.1, fun a q => by rw [xI_ne (by omega), f.2.1 a (by omega)]⟩
theorem L_brk {T : xT} {S0 : xS} {M : zM} {B : Int} {m : Nat} (c : zC T S0 M) (g : zG T S0 B M) (hB : B ≤ 2099000000) (hp : ¬ M.now.2.2.1 0 0 = 0) (hm : m ≤ 200) : ∀ (x j n : Nat) (S : xS), j + x = m + 1 → x + 1 < n → pFr S0 S → ∃ v S', f_X9_breaks_29 T n S 0 (nI m) (nI j) = some (v, S') ∧ pFr S0 S' ∧ ∀ Sr, zR Sr M → xTp T Sr.2.2 → ∃ Sr', f_X10_breaks_25 T n Sr 199 (nI m) (-1) (nI j) = some (v, Sr') ∧ zR Sr' M ∧ Sr'.2.2 = Sr.2.2 ∧ ∀ a, a < 199 ∨ 211 < a → Sr'.1 a = Sr.1 a := by
  intro x
  induction x with
  | zero =>
    intro j n S hj hn f
    obtain ⟨n, rfl⟩ : ∃ n', n = n' + 1 := ⟨n - 1, by omega⟩
    have q : nI m < nI j := by rw [xlt, nI_toInt (by omega), nI_toInt (by omega)]; omega
    refine ⟨-1, S, ?_, f, fun Sr r tr => ⟨Sr, ?_, r, rfl, fun _ _ => rfl⟩⟩
    · unfold f_X9_breaks_29; rw [if_pos q]
    · unfold f_X10_breaks_25; rw [if_pos q]
  | succ x ih =>
    intro j n S hj hn f
    obtain ⟨n, rfl⟩ : ∃ n', n = n' + 1 := ⟨n - 1, by omega⟩
    have q : ¬ nI m < nI j := by rw [xlt, nI_toInt (by omega), nI_toInt (by omega)]; omega
    have tj : (nI j).toInt = (j : Int) := nI_toInt (by omega)
    have tn : (-(nI j)).toInt = -(j : Int) := by rw [xneg (by omega), tj]
    obtain ⟨S1, S2, F', e1, e2, f1, f2, v2, _, _, hr⟩ := p_try (n := -(nI j)) c g f hB hp (by omega) (by omega)
    have tp : xTp T S.2.2 := (zC_p c f).1
    have tp2 : xTp T S2.2.2 := (zC_p c f2).1
    have hc : f_X9_breaks_29 T (n + 1) S 0 (nI m) (nI j) = if F' 9 1 ≤ 0 then f_X9_breaks_29 T n S2 0 (nI m) (nI (j + 1)) else some (nI j, S2) := by
      conv => lhs; unfold f_X9_breaks_29
      rw [if_neg q, rr_0_9 tp, rr_0_4 tp, rr_17_0 tp, e1, xcv_e, e2, xcv_e, rr_0_10 tp2, v2.2.2.1 1 (by decide), xl_e, nI_1]
    by_cases w : F' 9 1 ≤ 0
    · obtain ⟨v, S', h1, h2, h3⟩ := ih (j + 1) n S2 (by omega) (by omega) f2
      refine ⟨v, S', by rw [hc, if_pos w]; exact h1, h2, fun Sr r tr => ?_⟩
      obtain ⟨Q, q1, q2, q3, q4, q5⟩ := hr Sr r tr
      obtain ⟨t1, t2, t3, t4⟩ := brk_of (n := 0) c.2.2.1.1.1 r q2 q3 q4 q5
      obtain ⟨Sr', s1, s2, s3, s4⟩ := h3 (xI Q 199 1 0) t2 (by rw [t3]; exact tr)
      refine ⟨Sr', ?_, s2, s3.trans t3, fun a z => (s4 a z).trans (t4 a z)⟩
      conv => lhs; unfold f_X10_breaks_25
      rw [if_neg q, if_pos rfl, q1, xcv_e, t1, xc_e, if_pos w, xpi_e, xl_e, nI_1]
      exact s1
    · refine ⟨nI j, S2, by rw [hc, if_neg w], f2, fun Sr r tr => ?_⟩
      obtain ⟨Q, q1, q2, q3, q4, q5⟩ := hr Sr r tr
      obtain ⟨t1, t2, t3, t4⟩ := brk_of (n := 0) c.2.2.1.1.1 r q2 q3 q4 q5
      refine ⟨_, ?_, t2, t3, t4⟩
      have hn1 : ¬ nI j = (-1 : Int32) := fun w => by rw [xeq, tj, show (-1 : Int32).toInt = -1 from by decide] at w; omega
      conv => lhs; unfold f_X10_breaks_25
      rw [if_neg q, if_pos rfl, q1, xcv_e, t1, xc_e, if_neg w, xl_e, xpi_e, xl_e, nI_1]
      obtain ⟨n, rfl⟩ : ∃ n', n = n' + 1 := ⟨n - 1, by omega⟩
      unfold f_X10_breaks_25
      by_cases z : nI m < nI (j + 1)
      · rw [if_pos z]
      · rw [if_neg z, if_neg hn1]
theorem o_breaks : zOp 30 := by
  intro i T S a hi h
  have h' := h
  obtain ⟨M, B, c, r, g, b0, b1⟩ := h'
  have tp := c.1
  have hB := zB_le hi b1
  show ∃ (T2 : xT) (S2 : xS), xc (f_X9_breaks T S 0 (a 1)) (fun r1 S1 => xc (f_X10_breaks T S1 199 (a 1)) (fun r2 S2 => some (decide (r1 = r2), T, S2))) = some (true, T2, S2) ∧ zI (i + 1) T2 S2
  generalize a 1 = n
  by_cases hp : M.now.2.2.1 0 0 = 0
  · refine zQ (r := -1) h ?_ ?_
    · unfold f_X9_breaks
      by_cases n1 : n < 1
      · rw [if_pos n1]
      · by_cases n2 : (200 : Int32) < n
        · rw [if_neg n1, if_pos n2]
        · rw [if_neg n1, if_neg n2, rr_0_4 tp, rr_17_0 tp, n_0 c (by decide), if_pos hp]
    · unfold f_X10_breaks
      rw [q_get0 r tp, xc_e, if_pos hp]
  · by_cases n1 : n < 1
    · refine zQ (r := -1) h ?_ ?_
      · unfold f_X9_breaks
        rw [if_pos n1]
      · unfold f_X10_breaks
        rw [q_get0 r tp, xc_e, if_neg hp, h_isIn, xc_e, if_pos n1, if_pos rfl]
    · by_cases n2 : (200 : Int32) < n
      · refine zQ (r := -1) h ?_ ?_
        · unfold f_X9_breaks
          rw [if_neg n1, if_pos n2]
        · unfold f_X10_breaks
          rw [q_get0 r tp, xc_e, if_neg hp, h_isIn, xc_e, if_neg n1, if_pos n2, if_pos rfl]
      · have k1 := n1
        have k2 := n2
        rw [xlt, i1] at k1
        rw [xlt, show (200 : Int32).toInt = 200 from by decide] at k2
        obtain ⟨m, hm, rfl⟩ : ∃ m, m ≤ 200 ∧ n = nI m := ⟨n.toInt.toNat, by omega, by rw [xeq, nI_toInt (by omega)]; omega⟩
        obtain ⟨v, S', e1, f1, hr⟩ := L_brk c g (by omega) hp hm m 1 xfu S (by omega) (by show m + 1 < 1000; omega) (pFr_r S)
        have c1 := zC_p c f1
        obtain ⟨Sr', s1, s2, s3, s4⟩ := hr S' (zR_p (T := T) r f1) c1.1
        refine ⟨T, Sr', zX (r := v) (S1 := S') ?_ ?_, zPap c g b0 b1 f1 s3 s4 s2⟩
        · unfold f_X9_breaks
          rw [if_neg n1, if_neg n2, rr_0_4 tp, rr_17_0 tp, n_0 c (by decide), if_neg hp, xl_e]
          exact e1
        · unfold f_X10_breaks
          rw [q_get0 (zR_p (T := T) r f1) c1.1, xc_e, if_neg hp, h_isIn, xc_e, if_neg n1, if_neg n2, if_neg (by decide), xl_e, xl_e]
          exact s1
theorem L_yrs {T : xT} {S0 : xS} {M : zM} {B0 : Int} {k : Nat} {y : Int32} {m : Nat} (c : zC T S0 M) (g : zG T S0 B0 M) (hk : k < 8) (hm : m ≤ 20) (y1 : -1000000 ≤ y.toInt) (y2 : y.toInt ≤ 1000000) : ∀ (x j n : Nat) (S : xS) (F : Nat → Nat → Int32) (B : Int), j + x = m → x < n → pFr S0 S → clV S 188 197 F → bOkF B F → B + 1000000 * (x : Int) ≤ 2099000000 → ¬ F 0 0 = 0 → ∃ v S', f_X9_years_59 T n S 0 (nI k) y (nI m) (nI j) = some (v, S') ∧ pFr S0 S' ∧ ∀ Sr Q G, zR Sr M → (∀ j, j ≠ 9 → j ≠ 10 → G j = F j) → xTp T Q.2.2 → Q.1 199 1 = nI (366 * 15) → rV Q 15 G M.now.2.2.2 → qFr Sr Q → ∃ Sr', f_X10_years_50 T n Q 199 (nI k) y (nI m) (nI j) = some (v, Sr') ∧ zR Sr' M ∧ Sr'.2.2 = Sr.2.2 ∧ ∀ a, a < 199 ∨ 211 < a → Sr'.1 a = Sr.1 a := by
  intro x
  induction x with
  | zero =>
    intro j n S F B hj hn f hv ok hB hp
    obtain ⟨n, rfl⟩ : ∃ n', n = n' + 1 := ⟨n - 1, by omega⟩
    have q : nI m ≤ nI j := by rw [xle, nI_toInt (by omega), nI_toInt (by omega)]; omega
    have tp : xTp T S.2.2 := (zC_p c f).1
    refine ⟨F 1 k, S, ?_, f, fun Sr Q G r hG tq hb hr hf => ⟨xI Q 199 1 0, ?_, q_end c.2.2.1.1.1 r hf, hf.1, fun a z => by rw [xI_ne (by omega), hf.2.1 a (by omega)]⟩⟩
    · unfold f_X9_years_59
      rw [if_pos q, rr_0_9 tp, rr_188_6 tp, p_at (j := 1) tp hv (by decide) hk]
    · have eg : encF G M.now.2.2.2 (5 + k) = F 1 k := (er_cap hk).trans (by rw [hG 1 (by decide) (by decide)])
      unfold f_X10_years_50
      rw [if_pos q, ix_5, p_get tq hb hr hf.2.2.2.2 (by omega), xc_e, xl_e, xpi_e, eg]
  | succ x ih =>
    intro j n S F B hj hn f hv ok hB hp
    obtain ⟨n, rfl⟩ : ∃ n', n = n' + 1 := ⟨n - 1, by omega⟩
    have q : ¬ nI m ≤ nI j := by rw [xle, nI_toInt (by omega), nI_toInt (by omega)]; omega
    obtain ⟨S2, F', e2, f2, v2, ok2, hp2, hr⟩ := p_close (n := y) c g f hv ok (by omega) hp y1 y2
    obtain ⟨v, S', h1, h2, h3⟩ := ih (j + 1) n S2 F' (B + 1000000) (by omega) (by omega) f2 v2 ok2 (by omega) (by rw [hp2]; exact hp)
    refine ⟨v, S', ?_, h2, fun Sr Q G r hG tq hb hrv hf => ?_⟩
    · conv => lhs; unfold f_X9_years_59
      rw [if_neg q, e2, xcv_e, xl_e, nI_1]
      exact h1
    · obtain ⟨Sx, Q2, k1, k2, k3⟩ := hr Q G hG tq hb hrv hf.2.2.2.2
      obtain ⟨Sr', s1, s2, s3, s4⟩ := h3 Sr Q2 F' r (fun _ _ _ => rfl) (by rw [k3.1]; exact tq) (by rw [k3.2.1 199 (by omega)]; exact hb) k3.2.2.2.1 (qFr_t hf k3)
      refine ⟨Sr', ?_, s2, s3, s4⟩
      conv => lhs; unfold f_X10_years_50
      rw [if_neg q, k1, xcv_e, k2, xcv_e, xl_e, nI_1]
      exact s1
theorem o_years : zOp 37 := by
  intro i T S a hi h
  have h' := h
  obtain ⟨M, B, c, r, g, b0, b1⟩ := h'
  have tp := c.1
  have hB := zB_le hi b1
  show ∃ (T2 : xT) (S2 : xS), xc (f_X9_years T S 0 (a 1) (a 2) (a 3)) (fun r1 S1 => xc (f_X10_years T S1 199 (a 1) (a 2) (a 3)) (fun r2 S2 => some (decide (r1 = r2), T, S2))) = some (true, T2, S2) ∧ zI (i + 1) T2 S2
  generalize a 1 = p
  generalize a 2 = y
  generalize a 3 = n
  by_cases hg : (¬ y < -1000000) ∧ (¬ (1000000 : Int32) < y) ∧ (¬ n < 1) ∧ ¬ (20 : Int32) < n
  · obtain ⟨y1, y2, n1, n2⟩ := hg
    rcases i8 p with ⟨k, hk, rfl⟩ | hp
    · by_cases hb : xb (M.now.2.2.1 0 0) k = 0
      · refine zQ (r := -1000000000) h ?_ ?_
        · unfold f_X9_years
          rw [if_neg y1, if_neg y2, if_neg n1, if_neg n2, rr_0_4 tp, rr_17_0 tp, n_has c hk, xc_e, if_pos hb, if_pos rfl]
        · unfold f_X10_years
          rw [q_there r tp hk, xc_e, if_pos hb]
      · have k1 := n1
        have k2 := n2
        have w1 := y1
        have w2 := y2
        rw [xlt, i1] at k1
        rw [xlt, show (20 : Int32).toInt = 20 from by decide] at k2
        rw [xlt, jM] at w1
        rw [xlt, iM] at w2
        obtain ⟨m, hm, rfl⟩ : ∃ m, m ≤ 20 ∧ n = nI m := ⟨n.toInt.toNat, by omega, by rw [xeq, nI_toInt (by omega)]; omega⟩
        obtain ⟨S1, e1, f1, v1⟩ := p_copy c (pFr_r S)
        have hF : ∀ j, j ≠ 9 → j ≠ 10 → M.now.2.2.1 j = FX M.now.2.2.1 S1 j := fun j h1 h2 => by unfold FX; rw [if_neg h1, if_neg h2]
        have ok : bOkF B (FX M.now.2.2.1 S1) := g.1.2.2
        obtain ⟨v, S', e2, f2, hr⟩ := L_yrs c g hk hm (by omega : -1000000 ≤ y.toInt) (by omega) m 0 xfu S1 _ B (by omega) (by show m < 1000; omega) f1 v1 ok (by omega) (hp_of hk hb)
        have c1 := zC_p c f2
        have r1 := zR_p (T := T) r f2
        obtain ⟨Q, q0, q1, q2, q3, q4, q5, q6, q7, q8⟩ := q_aside r1 c1.1
        obtain ⟨Sr', s1, s2, s3, s4⟩ := hr S' (xI Q 199 1 5490) M.now.2.2.1 r1 hF q1 q2 q3 ⟨q5, q6, q7, q8, q4⟩
        refine ⟨T, Sr', zX (r := v) (S1 := S') ?_ ?_, zPap c g b0 b1 f2 s3 s4 s2⟩
        · unfold f_X9_years
          rw [if_neg y1, if_neg y2, if_neg n1, if_neg n2, rr_0_4 tp, rr_17_0 tp, n_has c hk, xc_e, if_neg hb, if_neg (by decide), rr_0_9 tp, rr_0_4 tp, rr_17_0 tp, e1, xcv_e, xl_e]
          exact e2
        · unfold f_X10_years
          rw [q_there r1 c1.1 hk, xc_e, if_neg hb, h_isIn, xc_e, if_neg y1, if_neg y2, if_neg (by decide), h_isIn, xc_e, if_neg n1, if_neg n2, if_neg (by decide), q0, xcv_e, xpi_e, xl_e]
          exact s1
    · refine zQ (r := -1000000000) h ?_ ?_
      · unfold f_X9_years
        rw [if_neg y1, if_neg y2, if_neg n1, if_neg n2, rr_0_4 tp, rr_17_0 tp, (o8 hp T S 31).1, xc_e, if_pos rfl]
      · unfold f_X10_years
        rw [(o8 hp T S 31).2.2.1, xc_e, if_pos rfl]
  · have hx : ∀ S', f_X10_isIn T S' y (-1000000) 1000000 = some (0, S') ∨ (f_X10_isIn T S' y (-1000000) 1000000 = some (1, S') ∧ f_X10_isIn T S' n 1 20 = some (0, S')) := fun S' => by
      rw [h_isIn, h_isIn]
      by_cases y1 : y < -1000000
      · rw [if_pos y1]; exact Or.inl rfl
      · rw [if_neg y1]
        by_cases y2 : (1000000 : Int32) < y
        · rw [if_pos y2]; exact Or.inl rfl
        · rw [if_neg y2]
          refine Or.inr ⟨rfl, ?_⟩
          by_cases n1 : n < 1
          · rw [if_pos n1]
          · rw [if_neg n1]
            by_cases n2 : (20 : Int32) < n
            · rw [if_pos n2]
            · exact absurd ⟨y1, y2, n1, n2⟩ hg
    refine zQ (r := -1000000000) h ?_ ?_
    · unfold f_X9_years
      by_cases y1 : y < -1000000
      · rw [if_pos y1]
      · rw [if_neg y1]
        by_cases y2 : (1000000 : Int32) < y
        · rw [if_pos y2]
        · rw [if_neg y2]
          by_cases n1 : n < 1
          · rw [if_pos n1]
          · rw [if_neg n1]
            by_cases n2 : (20 : Int32) < n
            · rw [if_pos n2]
            · exact absurd ⟨y1, y2, n1, n2⟩ hg
    · unfold f_X10_years
      rcases i8 p with ⟨k, hk, rfl⟩ | hp
      · rw [q_there r tp hk, xc_e]
        by_cases hb : xb (M.now.2.2.1 0 0) k = 0
        · rw [if_pos hb]
        · rw [if_neg hb]
          rcases hx S with w | ⟨w1, w2⟩
          · rw [w, xc_e, if_pos rfl]
          · rw [w1, xc_e, if_neg (by decide), w2, xc_e, if_pos rfl]
      · rw [(o8 hp T S 31).2.2.1, xc_e, if_pos rfl]
theorem o_exit : zOp 38 := by
  intro i T S a hi h
  have h' := h
  obtain ⟨M, B, c, r, g, b0, b1⟩ := h'
  have tp := c.1
  have hB := zB_le hi b1
  show ∃ (T2 : xT) (S2 : xS), xc (f_X9_exit T S 0 (a 1)) (fun r1 S1 => xc (f_X10_exit T S1 199 (a 1)) (fun r2 S2 => some (decide (r1 = r2), T, S2))) = some (true, T2, S2) ∧ zI (i + 1) T2 S2
  generalize a 1 = p
  rcases i8 p with ⟨k, hk, rfl⟩ | hp
  · by_cases hb : xb (M.now.2.2.1 0 0) k = 0
    · refine zQ (r := -1000000000) h ?_ ?_
      · unfold f_X9_exit
        rw [rr_0_4 tp, rr_17_0 tp, n_has c hk, xc_e, if_pos hb, if_pos rfl]
      · unfold f_X10_exit
        rw [q_there r tp hk, xc_e, if_pos hb]
    · have o : xbt 188 197 := Or.inr ⟨rfl, rfl⟩
      obtain ⟨S1, S2, F', e1, e2, f1, f2, v2, ok2, hp2, hr⟩ := p_try (n := 0) c g (pFr_r S) (by omega) (hp_of hk hb) (by decide) (by decide)
      have c2 := zC_p c f2
      have g2 := zG_p g f2
      have tp2 := c2.1
      obtain ⟨fi, ns, ⟨ti, to⟩, _, ⟨rto, hsu, htw⟩, _⟩ := g2.1.1
      obtain ⟨lo2, ro2, cap2, ⟨gv', gp', tf', ll', w', p', l', r', e3⟩, _, _, hq⟩ := x_anew0 (T := T) (S := S2) (b := 188) (t := 197) (gv := (S2.1 4)) (gp := (S2.1 5)) (tf := (S2.1 3 2)) (ll := (S2.1 3 3)) (w := (S2.1 6)) (p := (S2.1 7)) (l := (S2.1 8)) (r := (S2.1 9)) (kn := (F' 9 0)) (lo := (F' 9 1)) (ro := (F' 10)) (pa := (F' 0 0)) (av := (F' 0 1)) (ca := (F' 0 2)) (re := (F' 0 3)) (ye := (F' 0 4)) (ch := (F' 0 5)) (cap := (F' 1)) (du := (F' 2)) (ra := (F' 3)) (sh := (F' 4)) (ow := (F' 5)) (bo := (F' 6)) (ma := (F' 7)) (de := (F' 8)) (u := M.now.2.2.2) o tp2 ti to rto hsu htw ok2 (by omega)
      have e3' : f_X2_valueAnew T (kF S2 188 197 F') 3 188 M.now.1 197 = _ := e3
      rw [c_self v2] at e3'
      obtain ⟨X, eX, hX⟩ := some_ex2 e3'
      have fX : pFr S X := ⟨by rw [hX]; exact f2.1, fun a q => by rw [hX, ka_p q]; exact f2.2 a q⟩
      have cX := zC_p c fX
      have tpX := cX.1
      have vX : X.1 189 k = cap2 k ∧ X.1 190 k = F' 2 k := by
        rw [hX]
        exact ⟨kr_cap (b := 188) o hk, kr_du (b := 188) o hk⟩
      have rX := zR_p (T := T) r fX
      obtain ⟨Q, q1, q2, q3, q4, q5⟩ := hr X rX tpX
      obtain ⟨wt, qw⟩ := q5.2.2.2.2
      obtain ⟨wt', pt', gq', ls', sp', e4⟩ := hq Q (366 * 15) wt (Q.1 205) (Q.1 206) (Q.1 207) (Q.1 208) q2 q3 (by decide)
      have e4' : f_X10_valueAnew T (rF Q (366 * 15) wt F' M.now.2.2.2) 199 = _ := e4
      rw [r_self q4 qw] at e4'
      obtain ⟨Y, eY, hY⟩ := some_ex2 e4'
      have sY := qSt_rS0 (S := Q) (wt := wt') (pt := pt') (gq := gq') (ls := ls') (sp := sp') (ro := ro2) (cap := cap2) (du := F' 2) (ra := F' 3) (sh := F' 4) (ow := F' 5) (bo := F' 7) (ma := F' 7) (de := F' 8) (u := M.now.2.2.2) (kn := 1) (lo := lo2) (pa := F' 0 0) (av := F' 0 1) (ca := F' 0 2) (re := if F' 0 0 = 0 then F' 0 3 else 0) (ye := F' 0 4) (ch := F' 0 5)
      rw [← hY] at sY
      have fY := qFr_t q5 sY
      have tY : xTp T Y.2.2 := by rw [sY.1]; exact q2
      have bY : Y.1 199 1 = nI (366 * 15) := by rw [sY.2.1 199 (by omega)]; exact q3
      refine ⟨T, xI Y 199 1 0, zX (r := xmax (cap2 k) (-(F' 2 k))) (S1 := X) ?_ ?_, zPap c g b0 b1 fX fY.1 (fun a z => by rw [xI_ne (by omega), fY.2.1 a (by omega)]) (q_end c.2.2.1.1.1 rX fY)⟩
      · unfold f_X9_exit
        rw [rr_0_4 tp, rr_17_0 tp, n_has c hk, xc_e, if_neg hb, if_neg (by decide), rr_0_9 tp, rr_0_4 tp, rr_17_0 tp, e1, xcv_e, e2, xcv_e, rr_0_1 tp2, rr_0_9 tp2, rr_0_4 tp2, show xgr T S2 17 2 8 _ = _ from n_ta (M := M) c2 ti, rr_0_10 tp2, eX, xc_e, rr_0_9 tpX, rr_188_6 tpX, xai_n (xTp_n tpX 8 (by decide) rfl) hk (by decide), rr_0_9 tpX, rr_188_7 tpX, xai_n (xTp_n tpX 8 (by decide) rfl) hk (by decide), vX.1, vX.2]
      · have g5 : encF (FF 1 lo2 ro2 (F' 0 0) (F' 0 1) (F' 0 2) (if F' 0 0 = 0 then F' 0 3 else 0) (F' 0 4) (F' 0 5) cap2 (F' 2) (F' 3) (F' 4) (F' 5) (F' 7) (F' 7) (F' 8)) M.now.2.2.2 (5 + k) = cap2 k := er_cap hk
        have g13 : encF (FF 1 lo2 ro2 (F' 0 0) (F' 0 1) (F' 0 2) (if F' 0 0 = 0 then F' 0 3 else 0) (F' 0 4) (F' 0 5) cap2 (F' 2) (F' 3) (F' 4) (F' 5) (F' 7) (F' 7) (F' 8)) M.now.2.2.2 (13 + k) = F' 2 k := er_du hk
        unfold f_X10_exit
        rw [q_there rX tpX hk, xc_e, if_neg hb, q1, xcv_e, eY, xc_e, xl_e, ix_5, ix_13, p_get tY bY sY.2.2.2.1 fY.2.2.2.2 (by omega), xc_e, p_get tY bY sY.2.2.2.1 fY.2.2.2.2 (by omega), xc_e, g5, g13, h_greater2, xc_e, xl_e, xpi_e]
  · refine zQ (r := -1000000000) h ?_ ?_
    · unfold f_X9_exit
      rw [rr_0_4 tp, rr_17_0 tp, (o8 hp T S 31).1, xc_e, if_pos rfl]
    · unfold f_X10_exit
      rw [(o8 hp T S 31).2.2.1, xc_e, if_pos rfl]
