/-! tried, even, breaks, years, exit -/
theorem pFr_r (S : xS) : pFr S S := ⟨rfl, fun _ _ => rfl⟩
theorem hp_of {F : Nat → Nat → Int32} {k : Nat} (hk : k < 8) (hb : ¬ xb (F 0 0) k = 0) : ¬ F 0 0 = 0 := fun z => hb (by rw [z]; exact xb_zero k (by omega))
theorem zR_p {T : xT} {S S1 : xS} {M : zM} (r : zR S M) (f : pFr S S1) : zR S1 M := zR_c (fun a q1 q2 => f.2 a (by omega)) (by rw [f.1]) r
theorem tried_of {T : xT} {Sr Q : xS} {M : zM} {F' : Nat → Nat → Int32} {n : Int32} {k : Nat} (hd : M.d ≤ 12) (hk : k < 8) (r : zR Sr M) (e : f_X10_closeAside T Sr 199 n = some Q) (tq : xTp T Q.2.2) (hb : Q.1 199 1 = nI (366 * 15)) (hr : rV Q 15 F' M.now.2.2.2) (f : qFr Sr Q) : f_X10_triedOf T Sr 199 (nI k) n = some (F' 1 k, xI Q 199 1 0) ∧ zR (xI Q 199 1 0) M ∧ (xI Q 199 1 0).2.2 = Sr.2.2 ∧ ∀ a, a < 199 ∨ 211 < a → (xI Q 199 1 0).1 a = Sr.1 a := by
  have eg : encF F' M.now.2.2.2 (5 + k) = F' 1 k := er_cap hk
  refine ⟨?_, q_end hd r f, f.1, fun a q => by rw [xI_ne (by omega), f.2.1 a (by omega)]⟩
  unfold f_X10_triedOf
  rw [e, xcv_e, ix_5, p_get tq hb hr f.2.2.2.2 (by omega), xc_e, xl_e, xpi_e, eg]
theorem o_tried : zOp 33 := by
  intro i T S a hi h
  have h' := h
  obtain ⟨M, B, c, r, g, b0, b1⟩ := h'
  have tp := c.1
  have hB := zB_le hi b1
  show ∃ (T2 : xT) (S2 : xS), xc (f_X9_tried T S 0 (a 1) (a 2)) (fun r1 S1 => xc (f_X10_tried T S1 199 (a 1) (a 2)) (fun r2 S2 => some (decide (r1 = r2), T, S2))) = some (true, T2, S2) ∧ zI (i + 1) T2 S2
  generalize a 1 = p
  generalize a 2 = n
  have cl : ∀ v, (n < -1000000 ∨ (1000000 : Int32) < n) → v = (-1000000000 : Int32) → f_X9_tried T S 0 p n = some (v, S) := fun v hn hv => by
    unfold f_X9_tried
    by_cases n1 : n < -1000000
    · rw [if_pos n1, hv]
    · rw [if_neg n1]
      rcases hn with hn | hn
      · exact absurd hn n1
      · rw [if_pos hn, hv]
  rcases i8 p with ⟨k, hk, rfl⟩ | hp
  · by_cases hb : xb (M.now.2.2.1 0 0) k = 0
    · refine zQ (r := -1000000000) h ?_ ?_
      · by_cases hn : n < -1000000 ∨ (1000000 : Int32) < n
        · exact cl _ hn rfl
        · unfold f_X9_tried
          rw [if_neg (fun q => hn (Or.inl q)), if_neg (fun q => hn (Or.inr q)), rr_0_4 tp, rr_17_0 tp, n_has c hk, xc_e, if_pos hb, if_pos rfl]
      · unfold f_X10_tried
        rw [q_there r tp hk, xc_e, if_pos hb]
    · by_cases n1 : n < -1000000
      · refine zQ (r := -1000000000) h (cl _ (Or.inl n1) rfl) ?_
        unfold f_X10_tried
        rw [q_there r tp hk, xc_e, if_neg hb, h_isIn, xc_e, if_pos n1, if_pos rfl]
      · by_cases n2 : (1000000 : Int32) < n
        · refine zQ (r := -1000000000) h (cl _ (Or.inr n2) rfl) ?_
          unfold f_X10_tried
          rw [q_there r tp hk, xc_e, if_neg hb, h_isIn, xc_e, if_neg n1, if_pos n2, if_pos rfl]
        · have m1 := n1
          have m2 := n2
          rw [xlt, jM] at m1
          rw [xlt, iM] at m2
          obtain ⟨S1, S2, F', e1, e2, f1, f2, v2, _, _, hr⟩ := p_try (n := n) c g (pFr_r S) (by omega) (hp_of hk hb) (by omega) (by omega)
          have tp1 : xTp T S1.2.2 := (zC_p c f1).1
          have tp2 : xTp T S2.2.2 := (zC_p c f2).1
          obtain ⟨Q, q1, q2, q3, q4, q5⟩ := hr S2 (zR_p (T := T) r f2) tp2
          obtain ⟨t1, t2, t3, t4⟩ := tried_of c.2.2.1.1.1 hk (zR_p (T := T) r f2) q1 q2 q3 q4 q5
          refine ⟨T, _, zX (r := F' 1 k) (S1 := S2) ?_ ?_, zPap c g b0 b1 f2 t3 t4 t2⟩
          · unfold f_X9_tried
            rw [if_neg n1, if_neg n2, rr_0_4 tp, rr_17_0 tp, n_has c hk, xc_e, if_neg hb, if_neg (by decide), rr_0_9 tp, rr_0_4 tp, rr_17_0 tp, e1, xcv_e, e2, xcv_e, rr_0_9 tp2, rr_188_6 tp2, p_at (j := 1) tp2 v2 (by decide) hk]
          · unfold f_X10_tried
            rw [q_there (zR_p (T := T) r f2) tp2 hk, xc_e, if_neg hb, h_isIn, xc_e, if_neg n1, if_neg n2, if_neg (by decide), t1, xc_e]
  · refine zQ (r := -1000000000) h ?_ ?_
    · by_cases hn : n < -1000000 ∨ (1000000 : Int32) < n
      · exact cl _ hn rfl
      · unfold f_X9_tried
        rw [if_neg (fun q => hn (Or.inl q)), if_neg (fun q => hn (Or.inr q)), rr_0_4 tp, rr_17_0 tp, (o8 hp T S 31).1, xc_e, if_pos rfl]
    · unfold f_X10_tried
      rw [(o8 hp T S 31).2.2.1, xc_e, if_pos rfl]
theorem L_evn {T : xT} {S0 : xS} {M : zM} {B : Int} {k : Nat} {cc : Int32} {m : Nat} (c : zC T S0 M) (g : zG T S0 B M) (hB : B ≤ 2099000000) (hk : k < 8) (hb : ¬ xb (M.now.2.2.1 0 0) k = 0) (hm : m ≤ 200) : ∀ (x j n : Nat) (S : xS), j + x = m + 1 → x < n → pFr S0 S → ∃ v S', f_X9_even_30 T n S 0 (nI k) cc (nI m) (nI j) = some (v, S') ∧ pFr S0 S' ∧ ∀ Sr, zR Sr M → xTp T Sr.2.2 → ∃ Sr', f_X10_even_24 T n Sr 199 (nI k) cc (nI m) (nI j) = some (v, Sr') ∧ zR Sr' M ∧ Sr'.2.2 = Sr.2.2 ∧ ∀ a, a < 199 ∨ 211 < a → Sr'.1 a = Sr.1 a := by
  intro x
  induction x with
  | zero =>
    intro j n S hj hn f
    obtain ⟨n, rfl⟩ : ∃ n', n = n' + 1 := ⟨n - 1, by omega⟩
    have q : nI m < nI j := by rw [xlt, nI_toInt (by omega), nI_toInt (by omega)]; omega
    refine ⟨-1, S, ?_, f, fun Sr r tr => ⟨Sr, ?_, r, rfl, fun _ _ => rfl⟩⟩
    · unfold f_X9_even_30; rw [if_pos q]
    · unfold f_X10_even_24; rw [if_pos q]
  | succ x ih =>
    intro j n S hj hn f
    obtain ⟨n, rfl⟩ : ∃ n', n = n' + 1 := ⟨n - 1, by omega⟩
    have q : ¬ nI m < nI j := by rw [xlt, nI_toInt (by omega), nI_toInt (by omega)]; omega
    have tj : (nI j).toInt = (j : Int) := nI_toInt (by omega)
    obtain ⟨S1, S2, F', e1, e2, f1, f2, v2, _, _, hr⟩ := p_try (n := nI j) c g f hB (hp_of hk hb) (by omega) (by omega)
    have tp : xTp T S.2.2 := (zC_p c f).1
    have tp2 : xTp T S2.2.2 := (zC_p c f2).1
    have hc : f_X9_even_30 T (n + 1) S 0 (nI k) cc (nI m) (nI j) = if F' 1 k < cc then f_X9_even_30 T n S2 0 (nI k) cc (nI m) (nI (j + 1)) else some (nI j, S2) := by
      conv => lhs; unfold f_X9_even_30
      rw [if_neg q, rr_0_9 tp, rr_0_4 tp, rr_17_0 tp, e1, xcv_e, e2, xcv_e, rr_0_9 tp2, rr_188_6 tp2, p_at (j := 1) tp2 v2 (by decide) hk, xl_e, nI_1]
    by_cases w : F' 1 k < cc
    · obtain ⟨v, S', h1, h2, h3⟩ := ih (j + 1) n S2 (by omega) (by omega) f2
      refine ⟨v, S', by rw [hc, if_pos w]; exact h1, h2, fun Sr r tr => ?_⟩
      obtain ⟨Q, q1, q2, q3, q4, q5⟩ := hr Sr r tr
      obtain ⟨t1, t2, t3, t4⟩ := tried_of c.2.2.1.1.1 hk r q1 q2 q3 q4 q5
      obtain ⟨Sr', s1, s2, s3, s4⟩ := h3 (xI Q 199 1 0) t2 (by rw [t3]; exact tr)
      refine ⟨Sr', ?_, s2, s3.trans t3, fun a z => (s4 a z).trans (t4 a z)⟩
      conv => lhs; unfold f_X10_even_24
      rw [if_neg q, t1, xc_e, if_pos w, xl_e, nI_1]
      exact s1
    · refine ⟨nI j, S2, by rw [hc, if_neg w], f2, fun Sr r tr => ?_⟩
      obtain ⟨Q, q1, q2, q3, q4, q5⟩ := hr Sr r tr
      obtain ⟨t1, t2, t3, t4⟩ := tried_of c.2.2.1.1.1 hk r q1 q2 q3 q4 q5
      refine ⟨_, ?_, t2, t3, t4⟩
      conv => lhs; unfold f_X10_even_24
      rw [if_neg q, t1, xc_e, if_neg w]
theorem o_even : zOp 34 := by
  intro i T S a hi h
  have h' := h
  obtain ⟨M, B, c, r, g, b0, b1⟩ := h'
  have tp := c.1
  have hB := zB_le hi b1
  show ∃ (T2 : xT) (S2 : xS), xc (f_X9_even T S 0 (a 1) (a 2) (a 3)) (fun r1 S1 => xc (f_X10_even T S1 199 (a 1) (a 2) (a 3)) (fun r2 S2 => some (decide (r1 = r2), T, S2))) = some (true, T2, S2) ∧ zI (i + 1) T2 S2
  generalize a 1 = p
  generalize a 2 = cc
  generalize a 3 = n
  rcases iN 200 (by decide) n with ⟨m, hm, rfl⟩ | hn
  · have m0 : ¬ nI m < 0 := by rw [xlt, nI_toInt (by omega), i0]; omega
    have m2 : ¬ (200 : Int32) < nI m := by rw [xlt, nI_toInt (by omega), show (200 : Int32).toInt = 200 from by decide]; omega
    rcases i8 p with ⟨k, hk, rfl⟩ | hp
    · by_cases hb : xb (M.now.2.2.1 0 0) k = 0
      · refine zQ (r := -1) h ?_ ?_
        · unfold f_X9_even
          rw [if_neg m0, if_neg m2, rr_0_4 tp, rr_17_0 tp, n_has c hk, xc_e, if_pos hb, if_pos rfl]
        · unfold f_X10_even
          rw [q_there r tp hk, xc_e, if_pos hb]
      · obtain ⟨v, S', e1, f1, hr⟩ := L_evn (cc := cc) c g (by omega) hk hb hm (m + 1) 0 xfu S (by omega) (by show m + 1 < 1000; omega) (pFr_r S)
        have c1 := zC_p c f1
        obtain ⟨Sr', s1, s2, s3, s4⟩ := hr S' (zR_p (T := T) r f1) c1.1
        refine ⟨T, Sr', zX (r := v) (S1 := S') ?_ ?_, zPap c g b0 b1 f1 s3 s4 s2⟩
        · unfold f_X9_even
          rw [if_neg m0, if_neg m2, rr_0_4 tp, rr_17_0 tp, n_has c hk, xc_e, if_neg hb, if_neg (by decide), xl_e]
          exact e1
        · unfold f_X10_even
          rw [q_there (zR_p (T := T) r f1) c1.1 hk, xc_e, if_neg hb, h_isIn, xc_e, if_neg m0, if_neg m2, if_neg (by decide), xl_e]
          exact s1
    · refine zQ (r := -1) h ?_ ?_
      · unfold f_X9_even
        rw [if_neg m0, if_neg m2, rr_0_4 tp, rr_17_0 tp, (o8 hp T S 31).1, xc_e, if_pos rfl]
      · unfold f_X10_even
        rw [(o8 hp T S 31).2.2.1, xc_e, if_pos rfl]
  · have hn' : n < 0 ∨ (200 : Int32) < n := hn
    refine zQ (r := -1) h ?_ ?_
    · unfold f_X9_even
      by_cases z : n < 0
      · rw [if_pos z]
      · rw [if_neg z]
        rcases hn' with w | w
        · exact absurd w z
        · rw [if_pos w]
    · unfold f_X10_even
      have hx : f_X10_isIn T S n 0 200 = some (0, S) := h_out hn'
      rcases i8 p with ⟨k, hk, rfl⟩ | hp
      · rw [q_there r tp hk, xc_e]
        by_cases hb : xb (M.now.2.2.1 0 0) k = 0
        · rw [if_pos hb]
        · rw [if_neg hb, hx, xc_e, if_pos rfl]
      · rw [(o8 hp T S 31).2.2.1, xc_e, if_pos rfl]
