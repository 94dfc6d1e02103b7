/-! acts, told as a text -/
theorem xc_id {α : Type} (o : Option (α × xS)) : xc o (fun r S => some (r, S)) = o := by
  cases o with
  | none => rfl
  | some q => rfl
def cS (K : Nat → Int32) : Nat → Nat → Nat
  | 0, _ => 0
  | m + 1, k => (if K k = 9 then 0 else 5) + cS K m (k + 1)
theorem cS_cong {K K' : Nat → Int32} : ∀ (m k : Nat), (∀ x, k ≤ x → x < k + m → K x = K' x) → cS K m k = cS K' m k
  | 0, _, _ => rfl
  | m + 1, k, h => by
    unfold cS
    rw [h k (Nat.le_refl k) (by omega), cS_cong m (k + 1) (fun x h1 h2 => h x (by omega) (by omega))]
theorem pAs_c {tb : Nat → Int32} {L : Nat} : ∀ (m k q : Nat) (K W N : Nat → Int32), q ≤ L → (pAs tb L m k q K W N).1 = true → k ≤ (pAs tb L m k q K W N).2.2.1 ∧ (pAs tb L m k q K W N).2.2.1 ≤ k + m ∧ (∀ x, x < k → (pAs tb L m k q K W N).2.2.2.1 x = K x) ∧ (∀ x, k ≤ x → x < (pAs tb L m k q K W N).2.2.1 → ∃ c, c < 10 ∧ (pAs tb L m k q K W N).2.2.2.1 x = nI c) ∧ cS (pAs tb L m k q K W N).2.2.2.1 ((pAs tb L m k q K W N).2.2.1 - k) k + q ≤ L
  | 0, k, q, K, W, N, hq, h => by
    unfold pAs
    refine ⟨Nat.le_refl _, Nat.le_refl _, fun _ _ => rfl, fun x h1 h2 => absurd h2 (by show ¬ x < k; omega), ?_⟩
    show cS K (k - k) k + q ≤ L
    rw [Nat.sub_self]
    show 0 + q ≤ L
    omega
  | m + 1, k, q, K, W, N, hq, h => by
    unfold pAs at h ⊢
    by_cases z : tKd tb L q = 0
    · rw [if_pos z] at h ⊢
      refine ⟨Nat.le_refl _, by show k ≤ _; omega, fun _ _ => rfl, fun x h1 h2 => absurd h2 (by show ¬ x < k; omega), ?_⟩
      show cS K (k - k) k + q ≤ L
      rw [Nat.sub_self]
      show 0 + q ≤ L
      omega
    · rw [if_neg z] at h ⊢
      by_cases y : (pAc tb L q).1 = true
      · rw [if_pos y] at h ⊢
        obtain ⟨r1, r2⟩ := pAc_r (tb := tb) hq
        obtain ⟨r3, r4, r5⟩ := r2 y
        obtain ⟨i1, i2, i3, i4, i5⟩ := pAs_c m (k + 1) (pAc tb L q).2.1 _ _ _ r1 h
        have hk : (pAs tb L m (k + 1) (pAc tb L q).2.1 (va_up K k (pAc tb L q).2.2.1) (va_up W k (pAc tb L q).2.2.2.1) (va_up N k (pAc tb L q).2.2.2.2)).2.2.2.1 k = tAk tb L q := by
          rw [i3 k (by omega), xup_at, r3]
        refine ⟨by omega, by omega, fun x hx => ?_, fun x h1 h2 => ?_, ?_⟩
        · rw [i3 x (by omega), va_up_ne _ _ (by omega)]
        · by_cases w : x = k
          · subst w
            rw [hk]
            rcases tAk_r tb L q hq with w | w
            · exact absurd w r4
            · exact w.1
          · exact i4 x (by omega) h2
        · rw [show ∀ n, k + 1 ≤ n → n - k = (n - (k + 1)) + 1 from fun n hn => by omega]
          · show (if _ = _ then 0 else 5) + cS _ _ (k + 1) + q ≤ L
            rw [hk]
            omega
          · exact i1
      · rw [if_neg y] at h; exact absurd h (by simp)
theorem d_act {T : xT} {S : xS} {M : zM} {B : Int} {c0 : Nat} {w n : Int32} (c : zC T S M) (g : zG T S B M) (hB : B ≤ 2100000000) (hc : c0 < 10) : ∃ no rf, zDo T S M (if c0 = 9 then B else B + 1000000) (nI c0) w n rf no true ∧ ∀ Sr v4 v6, (1 < c0 → v4 = w) → (c0 ≠ 0 → c0 ≠ 9 → v6 = n) → f_X10_doAct T Sr 199 (nI c0) v4 v6 = rf T Sr := by
  rcases (show c0 = 0 ∨ c0 = 1 ∨ c0 = 2 ∨ c0 = 3 ∨ c0 = 4 ∨ c0 = 5 ∨ c0 = 6 ∨ c0 = 7 ∨ c0 = 8 ∨ c0 = 9 by omega) with rfl | rfl | rfl | rfl | rfl | rfl | rfl | rfl | rfl | rfl
  · refine ⟨_, _, d_close c g hB, fun Sr v4 v6 h1 h2 => ?_⟩
    unfold f_X10_doAct
    rw [if_pos (by decide), xc_id]
  · refine ⟨_, _, d_earn c g hB, fun Sr v4 v6 h1 h2 => ?_⟩
    unfold f_X10_doAct
    rw [if_neg (by decide), if_pos (by decide), xc_id, h2 (by decide) (by decide)]
  · refine ⟨_, _, d_lose c g hB, fun Sr v4 v6 h1 h2 => ?_⟩
    unfold f_X10_doAct
    rw [if_neg (by decide), if_neg (by decide), if_pos (by decide), xc_id, h1 (by decide), h2 (by decide) (by decide)]
  · refine ⟨_, _, d_borrow c g hB, fun Sr v4 v6 h1 h2 => ?_⟩
    unfold f_X10_doAct
    rw [if_neg (by decide), if_neg (by decide), if_neg (by decide), if_pos (by decide), xc_id, h1 (by decide), h2 (by decide) (by decide)]
  · refine ⟨_, _, d_repay c g hB, fun Sr v4 v6 h1 h2 => ?_⟩
    unfold f_X10_doAct
    rw [if_neg (by decide), if_neg (by decide), if_neg (by decide), if_neg (by decide), if_pos (by decide), xc_id, h1 (by decide), h2 (by decide) (by decide)]
  · refine ⟨_, _, d_market c g hB, fun Sr v4 v6 h1 h2 => ?_⟩
    unfold f_X10_doAct
    rw [if_neg (by decide), if_neg (by decide), if_neg (by decide), if_neg (by decide), if_neg (by decide), if_pos (by decide), xc_id, h1 (by decide), h2 (by decide) (by decide)]
  · refine ⟨_, _, d_pay c g hB, fun Sr v4 v6 h1 h2 => ?_⟩
    unfold f_X10_doAct
    rw [if_neg (by decide), if_neg (by decide), if_neg (by decide), if_neg (by decide), if_neg (by decide), if_neg (by decide), if_pos (by decide), xc_id, h1 (by decide), h2 (by decide) (by decide)]
  · refine ⟨_, _, d_draw c g hB, fun Sr v4 v6 h1 h2 => ?_⟩
    unfold f_X10_doAct
    rw [if_neg (by decide), if_neg (by decide), if_neg (by decide), if_neg (by decide), if_neg (by decide), if_neg (by decide), if_neg (by decide), if_pos (by decide), xc_id, h1 (by decide), h2 (by decide) (by decide)]
  · refine ⟨_, _, d_come c g hB, fun Sr v4 v6 h1 h2 => ?_⟩
    unfold f_X10_doAct
    rw [if_neg (by decide), if_neg (by decide), if_neg (by decide), if_neg (by decide), if_neg (by decide), if_neg (by decide), if_neg (by decide), if_neg (by decide), if_pos (by decide), xc_id, h1 (by decide), h2 (by decide) (by decide)]
  · refine ⟨_, _, d_go c g hB, fun Sr v4 v6 h1 h2 => ?_⟩
    unfold f_X10_doAct
    rw [if_neg (by decide), if_neg (by decide), if_neg (by decide), if_neg (by decide), if_neg (by decide), if_neg (by decide), if_neg (by decide), if_neg (by decide), if_neg (by decide), xc_id, h1 (by decide)]
theorem zC_b {T : xT} {S S' : xS} {M : zM} {n : Nat} {e : Int32} {b : Nat → Int32} (c : zC T S M) (hr : S'.2.2 = S.2.2) (h : ∀ a, a ≠ 10 → a ≠ 11 → S'.1 a = S.1 a) (hb : cBa S' (M.sB n e b)) : zC T S' (M.sB n e b) := by
  obtain ⟨c1, c2, c3, c4, c5, c6, c7, c8⟩ := c
  exact ⟨by rw [hr]; exact c1, cSt_c c2 (by rw [hr]) (fun a q1 q2 => h a (by omega) (by omega)) (h _ (by omega) (by omega)) (h _ (by omega) (by omega)), cDe_c (M := M) c3 ⟨by rw [h 0 (by omega) (by omega)], by rw [h 0 (by omega) (by omega)]⟩ (fun a _ _ => by rw [hr]) (fun a q1 q2 => h a (by omega) (by omega)), cKe_c (M := M) c4 (by rw [hr]) (fun a _ => by rw [hr]) (fun a q => h a (by omega) (by omega)), cTa_c (M := M) c5 (by rw [h 1 (by omega) (by omega)]) (h 2 (by omega) (by omega)), by rw [h 0 (by omega) (by omega)]; exact c6, hb, cWr_c (M := M) c8 (h _ (by omega) (by omega)) (h _ (by omega) (by omega))⟩
theorem zR_b {S S' : xS} {M : zM} {n : Nat} {e : Int32} {b : Nat → Int32} (r : zR S M) (h : ∀ a, a = 200 ∨ a = 201 ∨ a = 202 ∨ a = 214 → S'.1 a = S.1 a) (hf : ∀ k, k = 1 ∨ k = 2 ∨ k = 5 ∨ k = 9 ∨ k = 33 → S'.1 199 k = S.1 199 k) (hj : S'.2.1 204 = S.2.1 204) (hb : S'.1 199 30 = nI n ∧ S'.1 199 31 = e ∧ ∀ k, k < n → S'.1 213 k = b k) : zR S' (M.sB n e b) := by
  obtain ⟨⟨r1, wt, r2⟩, r3, ⟨r4, r5⟩, r6, ⟨r7, r8⟩, r9, _, r13, r14⟩ := r
  exact ⟨⟨by rw [hf 1 (by decide)]; exact r1, wt, rwV_c r2 hj⟩, rV_c r3 (h _ (by decide)), ⟨by rw [hf 2 (by decide)]; exact r4, fun k hk => rV_c (r5 k hk) (h _ (by decide))⟩, fun k hk => ⟨fun z => by rw [h 201 (by decide)]; exact (r6 k hk).1 z, fun K s z => ⟨by rw [h 201 (by decide)]; exact ((r6 k hk).2 K s z).1, rV_c ((r6 k hk).2 K s z).2 (h _ (by decide))⟩⟩, ⟨by rw [hf 5 (by decide)]; exact r7, fun k hk => by rw [h 202 (by decide)]; exact r8 k hk⟩, by rw [hf 9 (by decide)]; exact r9, hb, by rw [hf 33 (by decide)]; exact r13, fun k hk => by rw [h 214 (by decide)]; exact r14 k hk⟩
theorem c_addRow {T : xT} {S : xS} {M : zM} {k : Nat} {v : Int32} (c : zC T S M) (hb : M.bn = k) (hk : k < 30) : f_X0_addRow T S 10 v = some (xI (xI S 11 k v) 10 0 (nI (k + 1))) ∧ zC T (xI (xI S 11 k v) 10 0 (nI (k + 1))) (M.sB (k + 1) M.be (va_up M.bt k v)) := by
  have tp := c.1
  have cb := c.2.2.2.2.2.2.1
  have h0 : S.1 10 0 = nI k := by rw [cb.2.1, hb]
  refine ⟨?_, zC_b c rfl (fun a h1 h2 => by rw [xI_ne h1, xI_ne h2]) ⟨by show k + 1 ≤ 30; omega, by rw [xI_1, xup_at]; rfl, ?_, fun x hx => ?_⟩⟩
  · unfold f_X0_addRow
    rw [h0, if_neg (show ¬ (30 : Int32) ≤ nI k by rw [xle, nI_toInt (by omega), show (30 : Int32).toInt = 30 from by decide]; omega), rr_10_2 tp, xst_n (xTp_n tp 30 (by decide) rfl) hk (by decide), xpi_e, xI_ne (by decide), h0, nI_1]
  · rw [xI_at (by decide), xI_ne (by decide)]; exact cb.2.2.1
  · rw [xI_ne (by decide), xI_1]
    have hx' : x < k + 1 := hx
    show va_up (S.1 11) k v x = va_up M.bt k v x
    by_cases q : x = k
    · subst q; rw [xup_at, xup_at]
    · rw [va_up_ne _ _ q, va_up_ne _ _ q]; exact cb.2.2.2 x (by omega)
