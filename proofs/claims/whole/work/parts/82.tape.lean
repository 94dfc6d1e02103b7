/-! the statement, the tape -/
theorem bOkF_as {B : Int} {F : Nat → Nat → Int32} (h : bOkF B F) : xAs (F 0 1) (F 6) (F 7) (F 8) := h.2.1
theorem o_write : zOp 42 := by
  intro i T S a hi h
  obtain ⟨M, B, c, r, g, b0, b1⟩ := h
  have tp := c.1
  have v := c.2.1.2.2
  have cw := c_write (T := T) (S := S) tp v
  have sn := wEq_0 (S.1 16) (S.1 214)
  have we := wA_eq (F := M.now.2.2.1) (net := xsm (fun k => M.now.2.2.1 6 k - M.now.2.2.1 8 k) 8 0 (M.now.2.2.1 0 2)) 8 0 _ _ sn
  have wl := wA_1 (F := M.now.2.2.1) (net := xsm (fun k => M.now.2.2.1 6 k - M.now.2.2.1 8 k) 8 0 (M.now.2.2.1 0 2)) 8 0 (0, S.1 16) rfl (Nat.le_refl _)
  have f1 : ∀ x a, a ≠ 15 → a ≠ 16 → (wP S (S.1 15) x).1 a = S.1 a := fun x a h1 h2 => wC_n h1 h2
  have rw' : ∀ x, f_X10_write T (wP S (S.1 15) x) 199 = _ := fun x => r_write (T := T) (S := wP S (S.1 15) x) (wt := r.1.2.choose) tp (by rw [f1 x 199 (by decide) (by decide)]; exact r.1.1) (rV_c r.2.1 (f1 x 200 (by decide) (by decide))) (rwV_c r.1.2.choose_spec rfl) (bOkF_as g.1.2.2)
  have e214 : ∀ x, (wP S (S.1 15) x).1 214 = S.1 214 := fun x => f1 x 214 (by decide) (by decide)
  generalize hx : wA M.now.2.2.1 (xsm (fun k => M.now.2.2.1 6 k - M.now.2.2.1 8 k) 8 0 (M.now.2.2.1 0 2)) 8 0 (0, S.1 16) = x at cw we wl
  have rw2 := rw' x
  rw [e214] at rw2
  generalize hy : wA M.now.2.2.1 (xsm (fun k => M.now.2.2.1 6 k - M.now.2.2.1 8 k) 8 0 (M.now.2.2.1 0 2)) 8 0 (0, S.1 214) = y at rw2 we
  refine ⟨T, rP (wP S (S.1 15) x) ((wP S (S.1 15) x).1 199) ((wP S (S.1 15) x).2.1 199) y, ?_, ?_⟩
  · show xc (f_X9_write T S 0) (fun r1 S1 => xc (f_X10_write T S1 199) (fun r2 S2 => some (decide (r1 = r2), T, S2))) = _
    refine zX cw ?_
    rw [rw2, we.1]
  · have c1 : zC T (wP S (S.1 15) x) (M.sW x.1 x.2) := by
      obtain ⟨c1, c2, c3, c4, c5, c6, c7, c8⟩ := c
      refine ⟨tp, cSt_c c2 rfl (fun a q1 q2 => f1 x a (by omega) (by omega)) (f1 x _ (by decide) (by decide)) (f1 x _ (by decide) (by decide)), cDe_c c3 ⟨by rw [f1 x 0 (by decide) (by decide)], by rw [f1 x 0 (by decide) (by decide)]⟩ (fun a _ _ => rfl) (fun a q1 q2 => f1 x a (by omega) (by omega)), cKe_c c4 rfl (fun a _ => rfl) (fun a q => f1 x a (by omega) (by omega)), cTa_c c5 (by rw [f1 x 1 (by decide) (by decide)]) (f1 x 2 (by decide) (by decide)), by rw [f1 x 0 (by decide) (by decide)]; exact c6, cBa_c c7 (f1 x _ (by decide) (by decide)) (f1 x _ (by decide) (by decide)), wl, ?_, fun k hk => ?_⟩
      · show (wC S (S.1 15) x.2 x.1).1 15 0 = _
        rw [wC_15, xup_at]; rfl
      · show (wC S (S.1 15) x.2 x.1).1 16 k = _
        rw [wC_16]; rfl
    have g1 : zG T (wP S (S.1 15) x) B (M.sW x.1 x.2) := zG_f (M := M) (fun a q => f1 x a (by unfold zTS at q; omega) (by unfold zTS at q; omega)) (fun a _ => rfl) g
    refine zFin c1 g1 rfl (fun a q => rP_n (by omega) (by omega)) ?_ b0 (by show 5 * B + 1000000 * (M.L : Int) ≤ _; omega)
    have f2 : ∀ a, a ≠ 15 → a ≠ 16 → a ≠ 199 → a ≠ 214 → (rP (wP S (S.1 15) x) ((wP S (S.1 15) x).1 199) ((wP S (S.1 15) x).2.1 199) y).1 a = S.1 a := fun a h1 h2 h3 h4 => by rw [rP_n h3 h4, f1 x a h1 h2]
    have f3 : ∀ k, k ≠ 33 → (rP (wP S (S.1 15) x) ((wP S (S.1 15) x).1 199) ((wP S (S.1 15) x).2.1 199) y).1 199 k = S.1 199 k := fun k hk => by rw [rP_199, up_ne hk, f1 x 199 (by decide) (by decide)]
    obtain ⟨⟨r1, wt, r2⟩, r3, ⟨r4, r5⟩, r6, ⟨r7, r8⟩, r9, ⟨r10, r11, r12⟩, r13, r14⟩ := r
    have q200 := f2 200 (by decide) (by decide) (by decide) (by decide)
    refine ⟨⟨by rw [f3 1 (by decide)]; exact r1, wt, rwV_c r2 rP_j⟩, rV_c r3 q200, ⟨by rw [f3 2 (by decide)]; exact r4, fun k hk => rV_c (r5 k hk) q200⟩, fun k hk => ⟨fun z => by rw [f2 201 (by decide) (by decide) (by decide) (by decide)]; exact (r6 k hk).1 z, fun K s z => ⟨by rw [f2 201 (by decide) (by decide) (by decide) (by decide)]; exact ((r6 k hk).2 K s z).1, rV_c ((r6 k hk).2 K s z).2 q200⟩⟩, ⟨by rw [f3 5 (by decide)]; exact r7, fun k hk => by rw [f2 202 (by decide) (by decide) (by decide) (by decide)]; exact r8 k hk⟩, by rw [f3 9 (by decide)]; exact r9, ⟨by rw [f3 30 (by decide)]; exact r10, by rw [f3 31 (by decide)]; exact r11, fun k hk => by rw [f2 213 (by decide) (by decide) (by decide) (by decide)]; exact r12 k hk⟩, ?_, fun k hk => ?_⟩
    · rw [rP_199, xup_at, ← we.1]; rfl
    · rw [rP_214]
      exact (we.2 k hk).symm
