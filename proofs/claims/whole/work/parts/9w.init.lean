/-! the start: nothing there yet -/
def zF0 : Nat → Nat → Int32 := FF 0 0 (fun _ => 0) 0 0 0 0 0 0 (fun _ => 0) (fun _ => 0) (fun _ => 0) (fun _ => 0) (fun _ => 0) (fun _ => 0) (fun _ => 0) (fun _ => 0)
def zM0 : zM := zmk (18, 21, zF0, xQ0.2.1 200) 0 0 (fun _ => (18, 21, zF0, xQ0.2.1 200)) (fun _ => none) 0 (fun _ => 0) (-1) 0 (-1) (fun _ => 0) 0 (fun _ => 0)
theorem q_clV : clV xQ0.2 31 40 zF0 := by
  refine ⟨?_, ?_, ?_, ?_⟩
  · decide +kernel
  · have h : ∀ j, j < 9 → 1 ≤ j → ∀ k, k < 8 → xQ0.2.1 (31 + j) k = zF0 j k := by decide +kernel
    exact fun j h1 h2 k hk => h j (by omega) h1 k hk
  · decide +kernel
  · decide +kernel
theorem q_zC : zC xQ0.1 xQ0.2 zM0 := by
  refine ⟨xQ0_tp, ⟨by decide +kernel, by decide +kernel, q_clV⟩, ⟨⟨by decide, by decide⟩, ⟨by decide +kernel, by decide +kernel⟩, fun k hk => absurd hk (Nat.not_lt_zero k)⟩, ⟨fun k hk => ⟨fun _ => ?_, fun K s z => by cases z⟩, fun K s K' s' z => by cases z⟩, ⟨by decide, by decide +kernel, fun k hk => absurd hk (Nat.not_lt_zero k)⟩, by decide +kernel, ⟨by decide, by decide +kernel, by decide +kernel, fun k hk => absurd hk (Nat.not_lt_zero k)⟩, ⟨by decide, by decide +kernel, fun k hk => absurd hk (Nat.not_lt_zero k)⟩⟩
  exact (show ∀ k, k < 2 → xQ0.2.2.2 187 k = none by decide +kernel) k hk
theorem q_zR : zR xQ0.2 zM0 := by
  refine ⟨⟨by decide +kernel, fun _ => 0, ?_⟩, ?_, ⟨by decide +kernel, fun k hk => absurd hk (Nat.not_lt_zero k)⟩, fun k hk => ⟨fun _ => ?_, fun K s z => by cases z⟩, ⟨by decide +kernel, fun k hk => absurd hk (Nat.not_lt_zero k)⟩, by decide +kernel, ⟨by decide +kernel, by decide +kernel, fun k hk => absurd hk (Nat.not_lt_zero k)⟩, by decide +kernel, fun k hk => absurd hk (Nat.not_lt_zero k)⟩
  · show ∀ k, k < 8 → xQ0.2.2.1 204 k = (0 : Int32).toInt64
    decide +kernel
  · show ∀ k, k < 366 → xQ0.2.1 200 (366 * 0 + k) = encF zF0 (xQ0.2.1 200) k
    decide +kernel
  · exact (show ∀ k, k < 2 → xQ0.2.1 201 k = 0 by decide +kernel) k hk
theorem q_bOk : bOkF 0 zF0 := by
  have z1 : (0 : Int) ≤ (0 : Int32).toInt := by decide
  have z2 : (0 : Int32).toInt ≤ 1000000 := by decide
  have z3 : (0 : Int32).toInt ≤ 100000 := by decide
  have z4 : (0 : Int32).toInt ≤ 99 := by decide
  refine ⟨⟨fun j _ h => xb_zero j h, fun j _ h => xb_zero j h⟩, fun i hi => ⟨⟨z1, z2⟩, ⟨z1, z2⟩, ⟨z1, z2⟩, fun _ => ⟨rfl, rfl, rfl⟩⟩, fun k hk => ⟨⟨z1, z3⟩, ⟨z1, z4⟩, z1, z1⟩, fun k hk _ => ⟨rfl, rfl, rfl, rfl, rfl⟩, ⟨by decide, by decide, by decide⟩, ⟨by decide, by decide⟩, by decide⟩
theorem q_gTS : gTS xQ0.1 xQ0.2 18 21 (xQ0.2.1 200) := by
  refine ⟨0, 0, ⟨⟨Or.inl rfl, ⟨by decide +kernel, by decide +kernel, by decide +kernel, by decide +kernel, by decide +kernel, by decide +kernel⟩, by decide +kernel, by decide +kernel⟩, ⟨by decide +kernel, by decide, fun k p hk hp => ?_, fun k hk => absurd hk (Nat.not_lt_zero k)⟩⟩, ⟨⟨Or.inl rfl, ⟨by decide +kernel, by decide +kernel⟩, by decide +kernel, by decide +kernel, by decide +kernel⟩, ⟨by decide +kernel, by decide, fun k hk => absurd hk (Nat.not_lt_zero k), fun k hk => absurd hk (Nat.not_lt_zero k), fun k hk => absurd hk (Nat.not_lt_zero k), fun i hi h67 => ?_⟩⟩, ⟨⟨by decide +kernel, by decide, fun k p hk hp => ?_, fun k hk => absurd hk (Nat.not_lt_zero k)⟩, fun k hk => ?_, fun k p hk hp => ?_⟩, ⟨by decide +kernel, by decide, fun k hk => absurd hk (Nat.not_lt_zero k)⟩⟩
  · obtain rfl : k = 0 := by omega
    have e : tw xQ0.2 18 0 p = 1 := (show ∀ p, p < 8 → xQ0.2.1 (18 + 2) (0 * 8 + p) = 1 by decide +kernel) p hp
    rw [e]; decide
  · have e : xQ0.2.1 (21 + 7) i = 0 := (show ∀ i, i < 40 → xQ0.2.1 (21 + 7) i = 0 by decide +kernel) i hi
    rw [e] at h67
    rcases h67 with w | w
    · exact absurd w (by decide)
    · exact absurd w (by decide)
  · obtain rfl : k = 0 := by omega
    have e : rtw (xQ0.2.1 200) 0 p = 1 := (show ∀ p, p < 8 → xQ0.2.1 200 (78 + 9 * 0 + 1 + p) = 1 by decide +kernel) p hp
    rw [e]; decide
  · obtain rfl : k = 0 := by omega
    show xQ0.2.1 (18 + 1) 0 = xQ0.2.1 200 (78 + 9 * 0)
    decide +kernel
  · obtain rfl : k = 0 := by omega
    have e : tw xQ0.2 18 0 p = 1 := (show ∀ p, p < 8 → xQ0.2.1 (18 + 2) (0 * 8 + p) = 1 by decide +kernel) p hp
    have e2 : rtw (xQ0.2.1 200) 0 p = 1 := (show ∀ p, p < 8 → xQ0.2.1 200 (78 + 9 * 0 + 1 + p) = 1 by decide +kernel) p hp
    rw [e, e2]
theorem q_zI : zI 0 xQ0.1 xQ0.2 := ⟨zM0, 0, q_zC, q_zR, ⟨⟨q_gTS, Or.inl rfl, q_bOk⟩, fun k hk => absurd hk (Nat.not_lt_zero k), fun k hk K s z => by cases z⟩, Int.le_refl _, by decide⟩
theorem q_step : xStep zI := by
  refine ⟨fun i T S h => ?_, fun i T S hi h op a => ?_⟩
  · obtain ⟨M, B, c, _⟩ := h
    exact ⟨xTp_lk c.1 (by decide) (by decide), xTp_lk c.1 (by decide) (by decide)⟩
  · by_cases h44 : op < 44
    · have all : ∀ op, op < 44 → zOp op := fun op hop => by
        rcases (show op = 0 ∨ op = 1 ∨ op = 2 ∨ op = 3 ∨ op = 4 ∨ op = 5 ∨ op = 6 ∨ op = 7 ∨ op = 8 ∨ op = 9 ∨ op = 10 ∨ op = 11 ∨ op = 12 ∨ op = 13 ∨ op = 14 ∨ op = 15 ∨ op = 16 ∨ op = 17 ∨ op = 18 ∨ op = 19 ∨ op = 20 ∨ op = 21 ∨ op = 22 ∨ op = 23 ∨ op = 24 ∨ op = 25 ∨ op = 26 ∨ op = 27 ∨ op = 28 ∨ op = 29 ∨ op = 30 ∨ op = 31 ∨ op = 32 ∨ op = 33 ∨ op = 34 ∨ op = 35 ∨ op = 36 ∨ op = 37 ∨ op = 38 ∨ op = 39 ∨ op = 40 ∨ op = 41 ∨ op = 42 ∨ op = 43 by omega) with rfl | rfl | rfl | rfl | rfl | rfl | rfl | rfl | rfl | rfl | rfl | rfl | rfl | rfl | rfl | rfl | rfl | rfl | rfl | rfl | rfl | rfl | rfl | rfl | rfl | rfl | rfl | rfl | rfl | rfl | rfl | rfl | rfl | rfl | rfl | rfl | rfl | rfl | rfl | rfl | rfl | rfl | rfl | rfl
        · exact o_feed
        · exact o_end
        · exact o_tiers
        · exact o_fault
        · exact o_tier
        · exact o_sale
        · exact o_is
        · exact o_partner
        · exact o_asset
        · exact o_come
        · exact o_go
        · exact o_duty
        · exact o_ratio
        · exact o_pay
        · exact o_draw
        · exact o_buy
        · exact o_sell
        · exact o_market
        · exact o_lose
        · exact o_borrow
        · exact o_repay
        · exact o_earn
        · exact o_close
        · exact o_step
        · exact o_specials
        · exact o_special
        · exact o_acts
        · exact o_ended
        · exact o_row
        · exact o_hand
        · exact o_breaks
        · exact o_gain
        · exact o_below
        · exact o_tried
        · exact o_even
        · exact o_back
        · exact o_fills
        · exact o_years
        · exact o_exit
        · exact o_first
        · exact o_keep
        · exact o_restore
        · exact o_write
        · exact o_octet
      exact all op h44 i T S a hi h
    · refine ⟨T, S, ?_, zId h⟩
      unfold xO
      split <;> first | omega | rfl
