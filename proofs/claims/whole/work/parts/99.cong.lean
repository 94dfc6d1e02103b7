/-! losses within limits read eight numbers alone -/
theorem xmk_cong {pa : Int32} {l l' r : Nat → Int32} : ∀ (m i : Nat) (c : Int32), (∀ k, i ≤ k → k < i + m → l k = l' k) → xmk pa l r m i c = xmk pa l' r m i c
  | 0, _, _, _ => rfl
  | m + 1, i, c, h => by
    unfold xmk
    rw [h i (Nat.le_refl i) (by omega)]
    exact xmk_cong m (i + 1) _ (fun k h1 h2 => h k (by omega) (by omega))
theorem xfi_cong {pa a : Int32} : ∀ (m i : Nat) (l l' : Nat → Int32), i + m ≤ 8 → (∀ k, k < 8 → l k = l' k) → ∀ k, k < 8 → xfi pa a m i l k = xfi pa a m i l' k
  | 0, _, _, _, _, h => h
  | m + 1, i, l, l', hm, h => by
    intro k hk
    unfold xfi
    by_cases hb : xb pa i = 0
    · rw [if_pos hb, if_pos hb]
      exact xfi_cong m (i + 1) l l' (by omega) h k hk
    · rw [if_neg hb, if_neg hb]
      by_cases q : k = i
      · subst q; rw [xup_at, xup_at, h k hk]
      · rw [va_up_ne _ _ q, va_up_ne _ _ q, h k hk]
theorem lm_cong {pa : Int32} {ra r : Nat → Int32} : ∀ (m : Nat) (l l' : Nat → Int32), (∀ k, k < 8 → l k = l' k) → (lm pa ra r m l).1 = (lm pa ra r m l').1 ∧ ∀ k, k < 8 → (lm pa ra r m l).2 k = (lm pa ra r m l').2 k
  | 0, l, l', h => ⟨rfl, h⟩
  | m + 1, l, l', h => by
    have h1 : ∀ k, k < 8 → xcu l r k = xcu l' r k := fun k hk => by unfold xcu; rw [h k hk]
    have h2 : ∀ k, k < 8 → xct l r k = xct l' r k := fun k hk => by unfold xct; rw [h k hk]
    have e1 : xtot (xcu l r) = xtot (xcu l' r) := xtot_cong h1
    have e2 : xmk pa (xct l r) r 8 0 0 = xmk pa (xct l' r) r 8 0 0 := xmk_cong 8 0 0 (fun k _ hk => h2 k (by omega))
    unfold lm
    rw [e1, e2]
    by_cases q : xtot (xcu l' r) = 0
    · rw [if_pos q, if_pos q]; exact ⟨rfl, h2⟩
    · rw [if_neg q, if_neg q]
      by_cases q2 : xmk pa (xct l' r) r 8 0 0 = 0
      · rw [if_pos q2, if_pos q2]
        exact ⟨rfl, xfi_cong 8 0 _ _ (by omega) h2⟩
      · rw [if_neg q2, if_neg q2]
        exact lm_cong m _ _ (fun k hk => by show xct l r k + _ = xct l' r k + _; rw [h2 k hk])
theorem sh_cong {res pa lo : Int32} {ra cap du sh ro g g' : Nat → Int32} (h : ∀ k, k < 8 → g k = g' k) : (∀ k, k < 8 → shC res pa ra cap du sh g k = shC res pa ra cap du sh g' k) ∧ shO res pa ra cap du sh g lo = shO res pa ra cap du sh g' lo ∧ ∀ k, k < 56 → shR res pa ra cap du sh g ro k = shR res pa ra cap du sh g' ro k := by
  have hw : ∀ k, k < 8 → shW res g k = shW res g' k := fun k hk => by unfold shW; rw [h k hk]
  have hd := dl_cong (n := xabs res) hw
  have hl := lm_cong (pa := pa) (ra := ra) (r := xrm pa cap du sh) 9 _ _ hd
  unfold shC shO shR shL
  by_cases q : res = 0
  · rw [if_pos q, if_pos q, if_pos q, if_pos q, if_pos q, if_pos q]; exact ⟨fun _ _ => rfl, rfl, fun _ _ => rfl⟩
  · rw [if_neg q, if_neg q, if_neg q, if_neg q, if_neg q, if_neg q]
    have hr : ∀ (p p' r0 r1 : Nat → Int32) (x : Nat), (∀ k, k < 8 → p k = p' k) → (∀ k, k < 56 → r0 k = r1 k) → ∀ k, k < 56 → rop x p r0 k = rop x p' r1 k := fun p p' r0 r1 x hp h0 k hk => by
      unfold rop
      by_cases z : 8 * x ≤ k ∧ k < 8 * x + 8
      · rw [if_pos z, if_pos z]; exact hp _ (by omega)
      · rw [if_neg z, if_neg z]; exact h0 k hk
    by_cases q2 : res ≤ 0
    · rw [if_pos q2, if_pos q2, if_pos q2, if_pos q2, if_pos q2, if_pos q2]
      refine ⟨fun k hk => by show cap k - _ = cap k - _; rw [hl.2 k hk], hl.1, hr _ _ _ _ 6 (fun k hk => by show 0 - _ = 0 - _; rw [hl.2 k hk]) (hr _ _ _ _ 5 (fun k hk => by show 0 - _ = 0 - _; rw [hd k hk]) (fun _ _ => rfl))⟩
    · rw [if_neg q2, if_neg q2, if_neg q2, if_neg q2, if_neg q2, if_neg q2]
      exact ⟨fun k hk => by show cap k + _ = cap k + _; rw [hd k hk], rfl, hr _ _ _ _ 6 hd (hr _ _ _ _ 5 hd (fun _ _ => rfl))⟩
theorem sgp_cong {pa n : Int32} {su su' cap : Nat → Int32} {tw tw' : Nat → Nat → Int32} {fi : Nat} (h1 : ∀ x, x < fi → su x = su' x) (h2 : ∀ x p, x ≤ fi → p < 8 → tw x p = tw' x p) : ∀ k, k < 8 → sgp pa su tw fi cap n k = sgp pa su' tw' fi cap n k := fun k hk => by
  unfold sgp
  rw [(sV_cong (pa := pa) (n := xtot cap + n) h1 h2).2.1 k hk]
