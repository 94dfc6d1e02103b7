/-! the heap grows: what stood stays -/
theorem rf_lt : ∀ q ∈ xRf, q.1 < 215 := by decide +kernel
def sLe (T : xT) (S S' : xS) : Prop := ∀ a, a < T.2.2 → S'.1 a = S.1 a ∧ S'.2.1 a = S.2.1 a ∧ S'.2.2 a = S.2.2 a
theorem xTp_g {T T' : xT} {S S' : xS} (g : tLe T T') (h : sLe T S S') (tp : xTp T S.2.2) : xTp T' S'.2.2 := by
  have h1 := tp.1.1
  refine ⟨⟨by have := g.1; omega, fun a ha => ?_⟩, fun q hq => ?_⟩
  · rw [(g.2 a (by omega)).1, (g.2 a (by omega)).2]; exact tp.1.2 a ha
  · rw [(h q.1 (by have := rf_lt q hq; omega)).2.2]; exact tp.2 q hq
theorem xSt_lt {T : xT} {r : Nat → Nat → Option Nat} {K : Nat} (h : xSt T r K (K + 1) (K + 10)) : K + 11 < T.2.2 := h.2.2.1.1
theorem zC_g {T T' : xT} {S S' : xS} {M : zM} (g : tLe T T') (h : sLe T S S') (c : zC T S M) : zC T' S' M := by
  have h1 := c.1.1.1
  have hi : ∀ a, a < 215 → S'.1 a = S.1 a := fun a q => (h a (by omega)).1
  have hr : ∀ a, a < 215 → S'.2.2 a = S.2.2 a := fun a q => (h a (by omega)).2.2
  obtain ⟨c1, c2, c3, c4, c5, c6, c7, c8⟩ := c
  refine ⟨xTp_g g h c1, cSt_c c2 (hr _ (by omega)) (fun a q1 q2 => hi a (by omega)) (hi _ (by omega)) (hi _ (by omega)), cDe_c c3 ⟨by rw [hi 0 (by omega)], by rw [hi 0 (by omega)]⟩ (fun a q1 q2 => hr a (by omega)) (fun a q1 q2 => hi a (by omega)), ⟨fun k hk => ⟨fun z => by rw [hr 187 (by omega)]; exact (c4.1 k hk).1 z, fun K s z => ?_⟩, c4.2⟩, cTa_c c5 (by rw [hi 1 (by omega)]) (hi 2 (by omega)), by rw [hi 0 (by omega)]; exact c6, cBa_c c7 (hi _ (by omega)) (hi _ (by omega)), cWr_c c8 (hi _ (by omega)) (hi _ (by omega))⟩
  obtain ⟨a1, a2, a3, a4⟩ := (c4.1 k hk).2 K s z
  have l := xSt_lt a3
  exact ⟨a1, by rw [hr 187 (by omega)]; exact a2, xSt_c g ⟨by rw [(h K (by omega)).2.2], by rw [(h K (by omega)).2.2]⟩ (h (K + 1) (by omega)).2.2 (h (K + 10) (by omega)).2.2 a3, cSt_c a4 (h K (by omega)).2.2 (fun a q1 q2 => (h a (by omega)).1) (h _ (by omega)).1 (h _ (by omega)).1⟩
theorem gTS_g {T T' : xT} {S S' : xS} {ta sa : Nat} {u : Nat → Int32} (g : tLe T T') (h : sLe T S S') (w : gTS T S ta sa u) : gTS T' S' ta sa u := by
  have w' := w
  obtain ⟨fi, ns, ⟨a1, _⟩, ⟨b1, _⟩, _, _⟩ := w'
  have ha := a1.2.1.1
  have hb := b1.2.1.1
  exact gTS_c g (fun j hj => (h _ (by omega)).1) (fun j hj => (h _ (by omega)).1) (h _ (by omega)).2.2 (h _ (by omega)).2.2 w
theorem gSt_g {T T' : xT} {S S' : xS} {B : Int} {s : zSt} (g : tLe T T') (h : sLe T S S') (w : gSt T S B s) : gSt T' S' B s := ⟨gTS_g g h w.1, w.2⟩
theorem zG_g {T T' : xT} {S S' : xS} {B : Int} {M : zM} (g : tLe T T') (h : sLe T S S') (w : zG T S B M) : zG T' S' B M := ⟨gSt_g g h w.1, fun k hk => gSt_g g h (w.2.1 k hk), fun k hk K s z => gSt_g g h (w.2.2 k hk K s z)⟩
theorem zR_g {T : xT} {S S' : xS} {M : zM} (hT : 215 ≤ T.2.2) (h : sLe T S S') (r : zR S M) : zR S' M := zR_c (fun a q1 q2 => (h a (by omega)).1) (h 204 (by omega)).2.1 r
/-! a thing made anew, with rows of its own behind it -/
def iA (T0 : xT) (S0 : xS) (b f0 m : Nat) (kl : Nat → Nat × Nat) (T : xT) (S : xS) : Prop := T.2.2 = b + 1 + m ∧ (∀ a, a ≤ b → T.1 a = T0.1 a ∧ T.2.1 a = T0.2.1 a ∧ S.1 a = S0.1 a ∧ S.2.1 a = S0.2.1 a) ∧ (∀ a, a < b → S.2.2 a = S0.2.2 a) ∧ (∀ j, 1 ≤ j → j ≤ m → T.1 (b + j) = (kl j).1 ∧ T.2.1 (b + j) = (kl j).2 ∧ S.1 (b + j) = fun _ => 0) ∧ ∀ j, j < m → S.2.2 b (f0 + j) = some (b + (j + 1))
theorem iA_0 {T : xT} {S : xS} {b f0 : Nat} {kl : Nat → Nat × Nat} (hb : T.2.2 = b + 1) : iA T S b f0 0 kl T S := ⟨hb, fun _ _ => ⟨rfl, rfl, rfl, rfl⟩, fun _ _ => rfl, fun j h1 h2 => by omega, fun j h => by omega⟩
theorem iA_s {T0 T : xT} {S0 S : xS} {b f0 m kd len k : Nat} {kl : Nat → Nat × Nat} (h : iA T0 S0 b f0 m kl T S) (hk : kl (m + 1) = (kd, len)) (hf : k = f0 + m) : iA T0 S0 b f0 (m + 1) kl (xTn T kd len) (xR (xSn S T.2.2) b k (some T.2.2)) := by
  subst hf
  obtain ⟨h1, h2, h3, h4, h5⟩ := h
  have n1 : ∀ a, a ≠ T.2.2 → (xTn T kd len).1 a = T.1 a := fun a ha => va_up_ne _ _ ha
  have n2 : ∀ a, a ≠ T.2.2 → (xTn T kd len).2.1 a = T.2.1 a := fun a ha => va_up_ne _ _ ha
  have n3 : ∀ a, a ≠ T.2.2 → (xR (xSn S T.2.2) b (f0 + m) (some T.2.2)).1 a = S.1 a := fun a ha => va_up_ne _ _ ha
  have n4 : ∀ a, a ≠ T.2.2 → (xR (xSn S T.2.2) b (f0 + m) (some T.2.2)).2.1 a = S.2.1 a := fun a ha => va_up_ne _ _ ha
  have n5 : ∀ a, a ≠ b → a ≠ T.2.2 → (xR (xSn S T.2.2) b (f0 + m) (some T.2.2)).2.2 a = S.2.2 a := fun a hb ha => (xput_ne _ _ _ hb).trans (va_up_ne _ _ ha)
  have n6 : (xR (xSn S T.2.2) b (f0 + m) (some T.2.2)).2.2 b = va_up (S.2.2 b) (f0 + m) (some T.2.2) := by
    rw [xR_1]
    congr 1
    exact va_up_ne _ _ (by omega)
  refine ⟨by show T.2.2 + 1 = _; omega, fun a ha => ?_, fun a ha => ?_, fun j j1 j2 => ?_, fun j hj => ?_⟩
  · rw [n1 a (by omega), n2 a (by omega), n3 a (by omega), n4 a (by omega)]; exact h2 a ha
  · rw [n5 a (by omega) (by omega)]; exact h3 a ha
  · by_cases q : j = m + 1
    · subst q
      rw [show b + (m + 1) = T.2.2 by omega, hk]
      exact ⟨xup_at _ _ _, xup_at _ _ _, xup_at _ _ _⟩
    · rw [n1 _ (by omega), n2 _ (by omega), n3 _ (by omega)]; exact h4 j j1 (by omega)
  · rw [n6]
    by_cases q : j = m
    · subst q; rw [xup_at]; congr 1; omega
    · rw [va_up_ne _ _ (by omega)]; exact h5 j (by omega)
theorem iA_e {α : Type} {T0 T : xT} {S0 S : xS} {b f0 m kd len k ci : Nat} {kl : Nat → Nat × Nat} {K : xT → xS → Option α} (h : iA T0 S0 b f0 m kl T S) (hc : T0.1 b = ci) : xnw T S kd len (fun a1 T2 S3 => xgd (xlk T2 b ci) (xpr S3 b k a1 (fun S4 => K T2 S4))) = K (xTn T kd len) (xR (xSn S T.2.2) b k (some T.2.2)) := by
  show xgd (xlk (xTn T kd len) b ci) (xpr (xSn S T.2.2) b k T.2.2 (fun S4 => K (xTn T kd len) S4)) = _
  rw [xgd_h (xlk_m (by show b < T.2.2 + 1; have := h.1; omega) (by show va_up T.1 T.2.2 kd b = ci; rw [va_up_ne _ _ (by have := h.1; omega), (h.2.1 b (Nat.le_refl b)).1, hc]))]
  rfl
theorem i_books {T : xT} {S : xS} {b : Nat} (hb : T.2.2 = b + 1) (hk : T.1 b = 1) : ∃ T' S', f_X1_init T S b = some (T', S') ∧ iA T S b 6 8 (fun _ => (20, 8)) T' S' := by
  have h0 : iA T S b 6 0 (fun _ => (20, 8)) T S := iA_0 hb
  unfold f_X1_init
  rw [iA_e h0 hk]
  have h1 := iA_s (k := 6) h0 rfl rfl
  rw [iA_e h1 hk]
  have h2 := iA_s (k := 7) h1 rfl rfl
  rw [iA_e h2 hk]
  have h3 := iA_s (k := 8) h2 rfl rfl
  rw [iA_e h3 hk]
  have h4 := iA_s (k := 9) h3 rfl rfl
  rw [iA_e h4 hk]
  have h5 := iA_s (k := 10) h4 rfl rfl
  rw [iA_e h5 hk]
  have h6 := iA_s (k := 11) h5 rfl rfl
  rw [iA_e h6 hk]
  have h7 := iA_s (k := 12) h6 rfl rfl
  rw [iA_e h7 hk]
  exact ⟨_, _, rfl, iA_s (k := 13) h7 rfl rfl⟩
theorem i_steps {T : xT} {S : xS} {b : Nat} (hb : T.2.2 = b + 1) (hk : T.1 b = 7) : ∃ T' S', f_X7_init T S b = some (T', S') ∧ iA T S b 2 1 (fun _ => (20, 56)) T' S' := by
  have h0 : iA T S b 2 0 (fun _ => (20, 56)) T S := iA_0 hb
  unfold f_X7_init
  rw [iA_e h0 hk]
  exact ⟨_, _, rfl, iA_s (k := 2) h0 rfl rfl⟩
theorem xcT_e {α : Type} {T : xT} {S : xS} {K : xT → xS → Option α} : xcT (some (T, S)) K = K T S := rfl
theorem i_state {T : xT} {S : xS} {q ta sa : Nat} (hq : T.2.2 = q + 1) (hk : T.1 q = 5) (h8 : ta < q ∧ T.1 ta = 8) (h4 : sa < q ∧ T.1 sa = 4) : ∃ T' S', f_X5_init T S q ta sa = some (T', S') ∧ T'.2.2 = q + 12 ∧ (∀ a, a ≤ q → T'.1 a = T.1 a ∧ T'.2.1 a = T.2.1 a) ∧ (∀ a, a < q → S'.1 a = S.1 a ∧ S'.2.1 a = S.2.1 a ∧ S'.2.2 a = S.2.2 a) ∧ xSt T' S'.2.2 q (q + 1) (q + 10) := by
  obtain ⟨h8, k8⟩ := h8
  obtain ⟨h4, k4⟩ := h4
  -- the books
  have a1 : ∀ a, a ≠ q + 1 → (xTn T 1 0).1 a = T.1 a ∧ (xTn T 1 0).2.1 a = T.2.1 a := fun a ha => ⟨va_up_ne _ _ (by omega), va_up_ne _ _ (by omega)⟩
  obtain ⟨T4, S5, e1, i1⟩ := i_books (T := xTn T 1 0) (S := xSn S T.2.2) (b := q + 1) (by show T.2.2 + 1 = _; omega) (by rw [← hq]; exact xup_at _ _ _)
  obtain ⟨b1, b2, b3, b4, b5⟩ := i1
  have lk : ∀ (T' : xT) a kd, (∀ x, x ≤ q → T'.1 x = T.1 x) → q < T'.2.2 → a ≤ q → T.1 a = kd → xlk T' a kd = true := fun T' a kd h1 h2 h3 h4 => xlk_m (by omega) (by rw [h1 a h3]; exact h4)
  have t2 : ∀ x, x ≤ q → (xTn T 1 0).1 x = T.1 x := fun x hx => (a1 x (by omega)).1
  have t4 : ∀ x, x ≤ q → T4.1 x = T.1 x := fun x hx => by rw [(b2 x (by omega)).1, t2 x hx]
  have t4l : ∀ x, x ≤ q → T4.2.1 x = T.2.1 x := fun x hx => by rw [(b2 x (by omega)).2.1, (a1 x (by omega)).2]
  have n4 : T4.2.2 = q + 10 := by omega
  -- the steps
  have a8 : ∀ a, a ≠ q + 10 → (xTn T4 7 0).1 a = T4.1 a ∧ (xTn T4 7 0).2.1 a = T4.2.1 a := fun a ha => ⟨va_up_ne _ _ (by omega), va_up_ne _ _ (by omega)⟩
  have t8 : ∀ x, x ≤ q → (xTn T4 7 0).1 x = T.1 x := fun x hx => by rw [(a8 x (by omega)).1, t4 x hx]
  obtain ⟨T10, S11, e2, i2⟩ := i_steps (T := xTn T4 7 0) (S := xSn (xR S5 q 0 (some T.2.2)) T4.2.2) (b := q + 10) (by show T4.2.2 + 1 = _; omega) (by rw [← n4]; exact xup_at _ _ _)
  obtain ⟨d1, d2, d3, d4, d5⟩ := i2
  have t10 : ∀ x, x ≤ q → T10.1 x = T.1 x := fun x hx => by rw [(d2 x (by omega)).1, t8 x hx]
  have t10b : ∀ x, x < q + 10 → T10.1 x = T4.1 x ∧ T10.2.1 x = T4.2.1 x := fun x hx => by
    rw [(d2 x (by omega)).1, (d2 x (by omega)).2.1]; exact a8 x (by omega)
  have n10 : T10.2.2 = q + 12 := by omega
  have s9 : ∀ x, x ≠ q → x ≠ q + 10 → (xSn (xR S5 q 0 (some T.2.2)) T4.2.2).2.2 x = S5.2.2 x := fun x h1 h2 => by
    show va_up (xR S5 q 0 (some T.2.2)).2.2 T4.2.2 _ x = _
    rw [va_up_ne _ _ (by omega)]
    exact xput_ne _ _ _ h1
  have s9q : (xSn (xR S5 q 0 (some T.2.2)) T4.2.2).2.2 q = va_up (S5.2.2 q) 0 (some T.2.2) := by
    show va_up (xR S5 q 0 (some T.2.2)).2.2 T4.2.2 _ q = _
    rw [va_up_ne _ _ (by omega), xR_1]
  refine ⟨T10, xR (xR (xR S11 q 1 (some T4.2.2)) q 2 (some ta)) q 3 (some sa), ?_, n10, fun a ha => ⟨t10 a ha, ?_⟩, fun a ha => ⟨?_, ?_, ?_⟩, ?_⟩
  · unfold f_X5_init
    show xgd (xlk (xTn T 1 0) q 5) (xgd (xlk (xTn T 1 0) ta 8) (xgd (xlk (xTn T 1 0) sa 4) (xcT (f_X1_init (xTn T 1 0) (xSn S T.2.2) T.2.2) _))) = _
    rw [xgd_h (lk _ q 5 t2 (by show q < T.2.2 + 1; omega) (Nat.le_refl _) hk), xgd_h (lk _ ta 8 t2 (by show q < T.2.2 + 1; omega) (by omega) k8), xgd_h (lk _ sa 4 t2 (by show q < T.2.2 + 1; omega) (by omega) k4), show f_X1_init (xTn T 1 0) (xSn S T.2.2) T.2.2 = some (T4, S5) by rw [hq]; rw [← hq]; rw [← hq] at e1; exact e1, xcT_e, xgd_h (lk _ q 5 t4 (by omega) (Nat.le_refl _) hk), xgd_h (lk _ ta 8 t4 (by omega) (by omega) k8), xgd_h (lk _ sa 4 t4 (by omega) (by omega) k4), xgd_h (xlk_m (by omega) (by rw [hq, (b2 (q + 1) (Nat.le_refl _)).1, ← hq]; exact xup_at _ _ _))]
    show xgd (xlk (xTn T4 7 0) q 5) (xgd (xlk (xTn T4 7 0) ta 8) (xgd (xlk (xTn T4 7 0) sa 4) (xcT (f_X7_init (xTn T4 7 0) (xSn (xR S5 q 0 (some T.2.2)) T4.2.2) T4.2.2) _))) = _
    rw [xgd_h (lk _ q 5 t8 (by show q < T4.2.2 + 1; omega) (Nat.le_refl _) hk), xgd_h (lk _ ta 8 t8 (by show q < T4.2.2 + 1; omega) (by omega) k8), xgd_h (lk _ sa 4 t8 (by show q < T4.2.2 + 1; omega) (by omega) k4), show f_X7_init (xTn T4 7 0) (xSn (xR S5 q 0 (some T.2.2)) T4.2.2) T4.2.2 = some (T10, S11) by rw [← n4] at e2; exact e2, xcT_e, xgd_h (lk _ q 5 t10 (by omega) (Nat.le_refl _) hk), xgd_h (lk _ ta 8 t10 (by omega) (by omega) k8), xgd_h (lk _ sa 4 t10 (by omega) (by omega) k4), xgd_h (xlk_m (by omega) (by rw [n4, (d2 (q + 10) (Nat.le_refl _)).1, ← n4]; exact xup_at _ _ _))]
    rfl
  · rw [(t10b a (by omega)).2, t4l a ha]
  · show S11.1 a = _
    rw [(d2 a (by omega)).2.2.1]
    show va_up S5.1 T4.2.2 _ a = _
    rw [va_up_ne _ _ (by omega), (b2 a (by omega)).2.2.1]
    exact va_up_ne _ _ (by omega)
  · show S11.2.1 a = _
    rw [(d2 a (by omega)).2.2.2]
    show va_up S5.2.1 T4.2.2 _ a = _
    rw [va_up_ne _ _ (by omega), (b2 a (by omega)).2.2.2]
    exact va_up_ne _ _ (by omega)
  · show xput (xput (xput S11.2.2 q 1 _) q 2 _) q 3 _ a = _
    rw [xput_ne _ _ _ (by omega), xput_ne _ _ _ (by omega), xput_ne _ _ _ (by omega), d3 a (by omega), s9 a (by omega) (by omega), b3 a (by omega)]
    exact va_up_ne _ _ (by omega)
  · have rr : ∀ x, x ≠ q → (xR (xR (xR S11 q 1 (some T4.2.2)) q 2 (some ta)) q 3 (some sa)).2.2 x = S11.2.2 x := fun x hx => by
      show xput (xput (xput S11.2.2 q 1 _) q 2 _) q 3 _ x = _
      rw [xput_ne _ _ _ hx, xput_ne _ _ _ hx, xput_ne _ _ _ hx]
    have rq : ∀ k, k ≠ 1 → k ≠ 2 → k ≠ 3 → (xR (xR (xR S11 q 1 (some T4.2.2)) q 2 (some ta)) q 3 (some sa)).2.2 q k = S11.2.2 q k := fun k k1 k2 k3 => by
      rw [xR_1, va_up_ne _ _ k3, xR_1, va_up_ne _ _ k2, xR_1, va_up_ne _ _ k1]
    refine ⟨⟨by omega, by rw [t10 q (Nat.le_refl _)]; exact hk⟩, ⟨by omega, ?_, fun j j1 j2 => ?_, fun j hj => ?_⟩, ⟨by omega, ?_, ?_, ?_⟩, ?_, ?_⟩
    · rw [(t10b (q + 1) (by omega)).1, (b2 (q + 1) (Nat.le_refl _)).1, ← hq]; exact xup_at _ _ _
    · rw [(t10b (q + 1 + j) (by omega)).1, (t10b (q + 1 + j) (by omega)).2]
      exact ⟨(b4 j j1 j2).1, (b4 j j1 j2).2.1⟩
    · rw [rr _ (by omega), d3 _ (by omega), s9 _ (by omega) (by omega)]; exact b5 j hj
    · rw [(d2 (q + 10) (Nat.le_refl _)).1, ← n4]; exact xup_at _ _ _
    · exact ⟨(d4 1 (by decide) (by decide)).1, (d4 1 (by decide) (by decide)).2.1⟩
    · rw [rr _ (by omega)]; exact d5 0 (by decide)
    · rw [rq 0 (by decide) (by decide) (by decide), d3 q (by omega), s9q, xup_at, hq]
    · rw [xR_1, va_up_ne _ _ (by decide), xR_1, va_up_ne _ _ (by decide), xR_1, xup_at, n4]
