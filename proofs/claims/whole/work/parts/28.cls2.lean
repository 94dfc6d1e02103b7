/-! rows added, taken, summed -/
theorem xsm_cong (g f : Nat → Int32) : ∀ (m i : Nat) (c : Int32), (∀ k, i ≤ k → k < i + m → g k = f k) → xsm g m i c = xsm f m i c
  | 0, i, c, h => rfl
  | m + 1, i, c, h => by
    show xsm g m (i + 1) (c + g i) = xsm f m (i + 1) (c + f i)
    rw [h i (Nat.le_refl i) (by omega), xsm_cong g f m (i + 1) _ (fun k h1 h2 => h k (by omega) (by omega))]
theorem xtot_cong {g f : Nat → Int32} (h : ∀ k, k < 8 → g k = f k) : xtot g = xtot f := xsm_cong g f 8 0 0 (fun k _ h2 => h k (by omega))
theorem g_add_gv_p {T : xT} {S : xS} {b t : Nat} {gv gp w p l r ro cap du ra sh ow bo ma de : Nat → Int32} {tf ll kn lo pa av ca re ye ch : Int32} (o : xbt b t) (tp : xTp T S.2.2) : f_X9_addAll T (kS S b t gv gp tf ll w p l r kn lo ro pa av ca re ye ch cap du ra sh ow bo ma de) 4 7 = some (kS S b t (fun k => gv k + p k) gp tf ll w p l r kn lo ro pa av ca re ye ch cap du ra sh ow bo ma de) := by
  rw [g_addAll (T := T) (S := (kS S b t gv gp tf ll w p l r kn lo ro pa av ca re ye ch cap du ra sh ow bo ma de)) (a := 4) (b := 7) (by decide) (xn8 tp (by decide)) (xn8 tp (by decide)), kx_gv (g2 := fun k => gv k + p k) (fun k hk => by rw [kr_gv hk, kr_p hk])]
theorem g_add_ow_p {T : xT} {S : xS} {b t : Nat} {gv gp w p l r ro cap du ra sh ow bo ma de : Nat → Int32} {tf ll kn lo pa av ca re ye ch : Int32} (o : xbt b t) (tp : xTp T S.2.2) : f_X9_addAll T (kS S b t gv gp tf ll w p l r kn lo ro pa av ca re ye ch cap du ra sh ow bo ma de) (b + 5) 7 = some (kS S b t gv gp tf ll w p l r kn lo ro pa av ca re ye ch cap du ra sh (fun k => ow k + p k) bo ma de) := by
  rw [g_addAll (T := T) (S := (kS S b t gv gp tf ll w p l r kn lo ro pa av ca re ye ch cap du ra sh ow bo ma de)) (a := (b + 5)) (b := 7) (by rcases o with ⟨rfl, rfl⟩ | ⟨rfl, rfl⟩ <;> decide) (xnb o tp (by omega)) (xn8 tp (by decide)), kx_ow o (g2 := fun k => ow k + p k) (fun k hk => by rw [kr_ow o hk, kr_p hk])]
theorem g_add_cap_p {T : xT} {S : xS} {b t : Nat} {gv gp w p l r ro cap du ra sh ow bo ma de : Nat → Int32} {tf ll kn lo pa av ca re ye ch : Int32} (o : xbt b t) (tp : xTp T S.2.2) : f_X9_addAll T (kS S b t gv gp tf ll w p l r kn lo ro pa av ca re ye ch cap du ra sh ow bo ma de) (b + 1) 7 = some (kS S b t gv gp tf ll w p l r kn lo ro pa av ca re ye ch (fun k => cap k + p k) du ra sh ow bo ma de) := by
  rw [g_addAll (T := T) (S := (kS S b t gv gp tf ll w p l r kn lo ro pa av ca re ye ch cap du ra sh ow bo ma de)) (a := (b + 1)) (b := 7) (by rcases o with ⟨rfl, rfl⟩ | ⟨rfl, rfl⟩ <;> decide) (xnb o tp (by omega)) (xn8 tp (by decide)), kx_cap o (g2 := fun k => cap k + p k) (fun k hk => by rw [kr_cap o hk, kr_p hk])]
theorem g_add_sh_p {T : xT} {S : xS} {b t : Nat} {gv gp w p l r ro cap du ra sh ow bo ma de : Nat → Int32} {tf ll kn lo pa av ca re ye ch : Int32} (o : xbt b t) (tp : xTp T S.2.2) : f_X9_addAll T (kS S b t gv gp tf ll w p l r kn lo ro pa av ca re ye ch cap du ra sh ow bo ma de) (b + 4) 7 = some (kS S b t gv gp tf ll w p l r kn lo ro pa av ca re ye ch cap du ra (fun k => sh k + p k) ow bo ma de) := by
  rw [g_addAll (T := T) (S := (kS S b t gv gp tf ll w p l r kn lo ro pa av ca re ye ch cap du ra sh ow bo ma de)) (a := (b + 4)) (b := 7) (by rcases o with ⟨rfl, rfl⟩ | ⟨rfl, rfl⟩ <;> decide) (xnb o tp (by omega)) (xn8 tp (by decide)), kx_sh o (g2 := fun k => sh k + p k) (fun k hk => by rw [kr_sh o hk, kr_p hk])]
theorem g_add_l_p {T : xT} {S : xS} {b t : Nat} {gv gp w p l r ro cap du ra sh ow bo ma de : Nat → Int32} {tf ll kn lo pa av ca re ye ch : Int32} (o : xbt b t) (tp : xTp T S.2.2) : f_X9_addAll T (kS S b t gv gp tf ll w p l r kn lo ro pa av ca re ye ch cap du ra sh ow bo ma de) 8 7 = some (kS S b t gv gp tf ll w p (fun k => l k + p k) r kn lo ro pa av ca re ye ch cap du ra sh ow bo ma de) := by
  rw [g_addAll (T := T) (S := (kS S b t gv gp tf ll w p l r kn lo ro pa av ca re ye ch cap du ra sh ow bo ma de)) (a := 8) (b := 7) (by decide) (xn8 tp (by decide)) (xn8 tp (by decide)), kx_l (g2 := fun k => l k + p k) (fun k hk => by rw [kr_l hk, kr_p hk])]
theorem g_take_gv_p {T : xT} {S : xS} {b t : Nat} {gv gp w p l r ro cap du ra sh ow bo ma de : Nat → Int32} {tf ll kn lo pa av ca re ye ch : Int32} (o : xbt b t) (tp : xTp T S.2.2) : f_X9_takeAll T (kS S b t gv gp tf ll w p l r kn lo ro pa av ca re ye ch cap du ra sh ow bo ma de) 4 7 = some (kS S b t (fun k => gv k - p k) gp tf ll w p l r kn lo ro pa av ca re ye ch cap du ra sh ow bo ma de) := by
  rw [g_takeAll (T := T) (S := (kS S b t gv gp tf ll w p l r kn lo ro pa av ca re ye ch cap du ra sh ow bo ma de)) (a := 4) (b := 7) (by decide) (xn8 tp (by decide)) (xn8 tp (by decide)), kx_gv (g2 := fun k => gv k - p k) (fun k hk => by rw [kr_gv hk, kr_p hk])]
theorem g_take_sh_p {T : xT} {S : xS} {b t : Nat} {gv gp w p l r ro cap du ra sh ow bo ma de : Nat → Int32} {tf ll kn lo pa av ca re ye ch : Int32} (o : xbt b t) (tp : xTp T S.2.2) : f_X9_takeAll T (kS S b t gv gp tf ll w p l r kn lo ro pa av ca re ye ch cap du ra sh ow bo ma de) (b + 4) 7 = some (kS S b t gv gp tf ll w p l r kn lo ro pa av ca re ye ch cap du ra (fun k => sh k - p k) ow bo ma de) := by
  rw [g_takeAll (T := T) (S := (kS S b t gv gp tf ll w p l r kn lo ro pa av ca re ye ch cap du ra sh ow bo ma de)) (a := (b + 4)) (b := 7) (by rcases o with ⟨rfl, rfl⟩ | ⟨rfl, rfl⟩ <;> decide) (xnb o tp (by omega)) (xn8 tp (by decide)), kx_sh o (g2 := fun k => sh k - p k) (fun k hk => by rw [kr_sh o hk, kr_p hk])]
theorem g_take_ow_p {T : xT} {S : xS} {b t : Nat} {gv gp w p l r ro cap du ra sh ow bo ma de : Nat → Int32} {tf ll kn lo pa av ca re ye ch : Int32} (o : xbt b t) (tp : xTp T S.2.2) : f_X9_takeAll T (kS S b t gv gp tf ll w p l r kn lo ro pa av ca re ye ch cap du ra sh ow bo ma de) (b + 5) 7 = some (kS S b t gv gp tf ll w p l r kn lo ro pa av ca re ye ch cap du ra sh (fun k => ow k - p k) bo ma de) := by
  rw [g_takeAll (T := T) (S := (kS S b t gv gp tf ll w p l r kn lo ro pa av ca re ye ch cap du ra sh ow bo ma de)) (a := (b + 5)) (b := 7) (by rcases o with ⟨rfl, rfl⟩ | ⟨rfl, rfl⟩ <;> decide) (xnb o tp (by omega)) (xn8 tp (by decide)), kx_ow o (g2 := fun k => ow k - p k) (fun k hk => by rw [kr_ow o hk, kr_p hk])]
theorem g_take_cap_p {T : xT} {S : xS} {b t : Nat} {gv gp w p l r ro cap du ra sh ow bo ma de : Nat → Int32} {tf ll kn lo pa av ca re ye ch : Int32} (o : xbt b t) (tp : xTp T S.2.2) : f_X9_takeAll T (kS S b t gv gp tf ll w p l r kn lo ro pa av ca re ye ch cap du ra sh ow bo ma de) (b + 1) 7 = some (kS S b t gv gp tf ll w p l r kn lo ro pa av ca re ye ch (fun k => cap k - p k) du ra sh ow bo ma de) := by
  rw [g_takeAll (T := T) (S := (kS S b t gv gp tf ll w p l r kn lo ro pa av ca re ye ch cap du ra sh ow bo ma de)) (a := (b + 1)) (b := 7) (by rcases o with ⟨rfl, rfl⟩ | ⟨rfl, rfl⟩ <;> decide) (xnb o tp (by omega)) (xn8 tp (by decide)), kx_cap o (g2 := fun k => cap k - p k) (fun k hk => by rw [kr_cap o hk, kr_p hk])]
theorem g_take_p_l {T : xT} {S : xS} {b t : Nat} {gv gp w p l r ro cap du ra sh ow bo ma de : Nat → Int32} {tf ll kn lo pa av ca re ye ch : Int32} (o : xbt b t) (tp : xTp T S.2.2) : f_X9_takeAll T (kS S b t gv gp tf ll w p l r kn lo ro pa av ca re ye ch cap du ra sh ow bo ma de) 7 8 = some (kS S b t gv gp tf ll w (fun k => p k - l k) l r kn lo ro pa av ca re ye ch cap du ra sh ow bo ma de) := by
  rw [g_takeAll (T := T) (S := (kS S b t gv gp tf ll w p l r kn lo ro pa av ca re ye ch cap du ra sh ow bo ma de)) (a := 7) (b := 8) (by decide) (xn8 tp (by decide)) (xn8 tp (by decide)), kx_p (g2 := fun k => p k - l k) (fun k hk => by rw [kr_p hk, kr_l hk])]
theorem g_take_cap_l {T : xT} {S : xS} {b t : Nat} {gv gp w p l r ro cap du ra sh ow bo ma de : Nat → Int32} {tf ll kn lo pa av ca re ye ch : Int32} (o : xbt b t) (tp : xTp T S.2.2) : f_X9_takeAll T (kS S b t gv gp tf ll w p l r kn lo ro pa av ca re ye ch cap du ra sh ow bo ma de) (b + 1) 8 = some (kS S b t gv gp tf ll w p l r kn lo ro pa av ca re ye ch (fun k => cap k - l k) du ra sh ow bo ma de) := by
  rw [g_takeAll (T := T) (S := (kS S b t gv gp tf ll w p l r kn lo ro pa av ca re ye ch cap du ra sh ow bo ma de)) (a := (b + 1)) (b := 8) (by rcases o with ⟨rfl, rfl⟩ | ⟨rfl, rfl⟩ <;> decide) (xnb o tp (by omega)) (xn8 tp (by decide)), kx_cap o (g2 := fun k => cap k - l k) (fun k hk => by rw [kr_cap o hk, kr_l hk])]
theorem g_tot_cap {T : xT} {S : xS} {b t : Nat} {gv gp w p l r ro cap du ra sh ow bo ma de : Nat → Int32} {tf ll kn lo pa av ca re ye ch : Int32} (o : xbt b t) (tp : xTp T S.2.2) : f_X9_total T (kS S b t gv gp tf ll w p l r kn lo ro pa av ca re ye ch cap du ra sh ow bo ma de) (b + 1) = some (xtot cap, (kS S b t gv gp tf ll w p l r kn lo ro pa av ca re ye ch cap du ra sh ow bo ma de)) := by
  rw [g_total (T := T) (S := (kS S b t gv gp tf ll w p l r kn lo ro pa av ca re ye ch cap du ra sh ow bo ma de)) (a := (b + 1)) (xnb o tp (by omega)), xtot_cong (fun k hk => kr_cap o hk)]
theorem g_tot_sh {T : xT} {S : xS} {b t : Nat} {gv gp w p l r ro cap du ra sh ow bo ma de : Nat → Int32} {tf ll kn lo pa av ca re ye ch : Int32} (o : xbt b t) (tp : xTp T S.2.2) : f_X9_total T (kS S b t gv gp tf ll w p l r kn lo ro pa av ca re ye ch cap du ra sh ow bo ma de) (b + 4) = some (xtot sh, (kS S b t gv gp tf ll w p l r kn lo ro pa av ca re ye ch cap du ra sh ow bo ma de)) := by
  rw [g_total (T := T) (S := (kS S b t gv gp tf ll w p l r kn lo ro pa av ca re ye ch cap du ra sh ow bo ma de)) (a := (b + 4)) (xnb o tp (by omega)), xtot_cong (fun k hk => kr_sh o hk)]
theorem g_tot_ow {T : xT} {S : xS} {b t : Nat} {gv gp w p l r ro cap du ra sh ow bo ma de : Nat → Int32} {tf ll kn lo pa av ca re ye ch : Int32} (o : xbt b t) (tp : xTp T S.2.2) : f_X9_total T (kS S b t gv gp tf ll w p l r kn lo ro pa av ca re ye ch cap du ra sh ow bo ma de) (b + 5) = some (xtot ow, (kS S b t gv gp tf ll w p l r kn lo ro pa av ca re ye ch cap du ra sh ow bo ma de)) := by
  rw [g_total (T := T) (S := (kS S b t gv gp tf ll w p l r kn lo ro pa av ca re ye ch cap du ra sh ow bo ma de)) (a := (b + 5)) (xnb o tp (by omega)), xtot_cong (fun k hk => kr_ow o hk)]
theorem g_tot_w {T : xT} {S : xS} {b t : Nat} {gv gp w p l r ro cap du ra sh ow bo ma de : Nat → Int32} {tf ll kn lo pa av ca re ye ch : Int32} (o : xbt b t) (tp : xTp T S.2.2) : f_X9_total T (kS S b t gv gp tf ll w p l r kn lo ro pa av ca re ye ch cap du ra sh ow bo ma de) 6 = some (xtot w, (kS S b t gv gp tf ll w p l r kn lo ro pa av ca re ye ch cap du ra sh ow bo ma de)) := by
  rw [g_total (T := T) (S := (kS S b t gv gp tf ll w p l r kn lo ro pa av ca re ye ch cap du ra sh ow bo ma de)) (a := 6) (xn8 tp (by decide)), xtot_cong (fun k hk => kr_w hk)]
theorem g_tot_bo {T : xT} {S : xS} {b t : Nat} {gv gp w p l r ro cap du ra sh ow bo ma de : Nat → Int32} {tf ll kn lo pa av ca re ye ch : Int32} (o : xbt b t) (tp : xTp T S.2.2) : f_X9_total T (kS S b t gv gp tf ll w p l r kn lo ro pa av ca re ye ch cap du ra sh ow bo ma de) (b + 6) = some (xtot bo, (kS S b t gv gp tf ll w p l r kn lo ro pa av ca re ye ch cap du ra sh ow bo ma de)) := by
  rw [g_total (T := T) (S := (kS S b t gv gp tf ll w p l r kn lo ro pa av ca re ye ch cap du ra sh ow bo ma de)) (a := (b + 6)) (xnb o tp (by omega)), xtot_cong (fun k hk => kr_bo o hk)]
theorem g_tot_ma {T : xT} {S : xS} {b t : Nat} {gv gp w p l r ro cap du ra sh ow bo ma de : Nat → Int32} {tf ll kn lo pa av ca re ye ch : Int32} (o : xbt b t) (tp : xTp T S.2.2) : f_X9_total T (kS S b t gv gp tf ll w p l r kn lo ro pa av ca re ye ch cap du ra sh ow bo ma de) (b + 7) = some (xtot ma, (kS S b t gv gp tf ll w p l r kn lo ro pa av ca re ye ch cap du ra sh ow bo ma de)) := by
  rw [g_total (T := T) (S := (kS S b t gv gp tf ll w p l r kn lo ro pa av ca re ye ch cap du ra sh ow bo ma de)) (a := (b + 7)) (xnb o tp (by omega)), xtot_cong (fun k hk => kr_ma o hk)]
theorem g_fill_gv {T : xT} {S : xS} {b t : Nat} {gv gp w p l r ro cap du ra sh ow bo ma de : Nat → Int32} {tf ll kn lo pa av ca re ye ch : Int32} (o : xbt b t) (tp : xTp T S.2.2) : f_J7_fill_53178 T (kS S b t gv gp tf ll w p l r kn lo ro pa av ca re ye ch cap du ra sh ow bo ma de) 4 0 = some (kS S b t (fun _ => 0) gp tf ll w p l r kn lo ro pa av ca re ye ch cap du ra sh ow bo ma de) := by
  rw [g_fill (T := T) (S := (kS S b t gv gp tf ll w p l r kn lo ro pa av ca re ye ch cap du ra sh ow bo ma de)) (a := 4) (N := 8) (v := 0) (xn8 tp (by decide)) (by decide)]
  exact congrArg some (kx_gv (g := fun _ => 0) (fun k hk => rfl))
theorem g_fill_p {T : xT} {S : xS} {b t : Nat} {gv gp w p l r ro cap du ra sh ow bo ma de : Nat → Int32} {tf ll kn lo pa av ca re ye ch : Int32} (o : xbt b t) (tp : xTp T S.2.2) : f_J7_fill_53178 T (kS S b t gv gp tf ll w p l r kn lo ro pa av ca re ye ch cap du ra sh ow bo ma de) 7 0 = some (kS S b t gv gp tf ll w (fun _ => 0) l r kn lo ro pa av ca re ye ch cap du ra sh ow bo ma de) := by
  rw [g_fill (T := T) (S := (kS S b t gv gp tf ll w p l r kn lo ro pa av ca re ye ch cap du ra sh ow bo ma de)) (a := 7) (N := 8) (v := 0) (xn8 tp (by decide)) (by decide)]
  exact congrArg some (kx_p (g := fun _ => 0) (fun k hk => rfl))
/-- eight places of the steps -/
def rop (q : Nat) (p ro : Nat → Int32) : Nat → Int32 := fun k => if 8 * q ≤ k ∧ k < 8 * q + 8 then p (k - 8 * q) else ro k
theorem xw_ro {S : xS} {b t : Nat} {gv gp w p l r ro cap du ra sh ow bo ma de : Nat → Int32} {tf ll kn lo pa av ca re ye ch : Int32} (o : xbt b t) {g g2 : Nat → Int32} (h : ∀ k, k < 56 → g k = g2 k) (h2 : ∀ k, 56 ≤ k → g k = S.1 (t + 1) k) : xw (kS S b t gv gp tf ll w p l r kn lo ro pa av ca re ye ch cap du ra sh ow bo ma de) (t + 1) g = (kS S b t gv gp tf ll w p l r kn lo g2 pa av ca re ye ch cap du ra sh ow bo ma de) := by
  refine Prod.ext (funext fun a => ?_) rfl
  by_cases ha : a = t + 1
  · rw [ha, xw_1, ka_t1 o]
    funext k
    unfold x56
    by_cases hk : k < 56
    · rw [if_pos hk]; exact h k hk
    · rw [if_neg hk]; exact h2 k (by omega)
  · rw [xw_ne _ _ ha]
    unfold kS
    simp only [ha, if_false]
theorem g_row {T : xT} {S : xS} {b t : Nat} {gv gp w p l r ro cap du ra sh ow bo ma de : Nat → Int32} {tf ll kn lo pa av ca re ye ch : Int32} (o : xbt b t) (tp : xTp T S.2.2) {q : Nat} (hq : q < 7) : f_X7_putRow T (kS S b t gv gp tf ll w p l r kn lo ro pa av ca re ye ch cap du ra sh ow bo ma de) t (nI q) 7 = some (kS S b t gv gp tf ll w p l r kn lo (rop q p ro) pa av ca re ye ch cap du ra sh ow bo ma de) := by
  unfold f_X7_putRow
  have e8 : nI q * 8 = nI (q * 8) := pk_mul q 8
  have hok : xcok T 7 0 (t + 1) (nI (q * 8)) 8 = true := by
    unfold xcok
    rw [xn8 tp (a := 7) (by decide), xnt o tp, nI_clamp (by omega)]
    have h1 := nI_pos (n := q * 8) (by omega)
    simp [h1]
    omega
  simp (disch := first | assumption | omega | ((repeat first | apply kS_tp | apply xI_tp | apply xw_tp); exact tp) | (apply xn8 tp; decide) | (apply xnb o tp; omega)) only [↓xl_e, ↓xc_e, ↓xcv_e, ↓xpi_e, ↓reduceIte, ↓rr_3_0, ↓rr_3_1, ↓rr_3_4, ↓rr_3_5, ↓rr_3_6, ↓rr_3_7, ↓kg_6, ↓kg_7, ↓kg_8, ↓kg_9, ↓kg_10, ↓kg_11, ↓kg_12, ↓kg_13, ↓kg_t, ↓xai_w, ↓xst_w, kr_gv, kr_gp, kr_w, kr_p, kr_l, kr_r, kr_cap, kr_du, kr_ra, kr_sh, kr_ow, kr_bo, kr_ma, kr_de, kr_ro, kr_tf, kr_ll, kr_kn, kr_lo, kr_pa, kr_av, kr_ca, kr_re, kr_ye, kr_ch, kw_gv, kw_gp, kw_w, kw_p, kw_l, kw_r, kw_cap, kw_du, kw_ra, kw_sh, kw_ow, kw_bo, kw_ma, kw_de, kw_ro, kw_tf, kw_ll, kw_kn, kw_lo, kw_pa, kw_av, kw_ca, kw_re, kw_ye, kw_ch, x8_ff, nI_1, xb_e, xup_at, xm_n, xm_at, x00]
  rw [e8]
  unfold xcp
  rw [if_pos hok, nI_clamp (by omega)]
  refine congrArg some ?_
  show xw (kS S b t gv gp tf ll w p l r kn lo ro pa av ca re ye ch cap du ra sh ow bo ma de) (t + 1) (va_cpy ((kS S b t gv gp tf ll w p l r kn lo ro pa av ca re ye ch cap du ra sh ow bo ma de).1 7) ((kS S b t gv gp tf ll w p l r kn lo ro pa av ca re ye ch cap du ra sh ow bo ma de).1 (t + 1)) 0 (q * 8) 8) = _
  refine xw_ro o (fun k hk => ?_) (fun k hk => ?_)
  · unfold rop
    by_cases h : 8 * q ≤ k ∧ k < 8 * q + 8
    · rw [if_pos h, pk_cpy_in (by omega) (by omega), kr_p (by omega)]
      congr 1; omega
    · rw [if_neg h, pk_cpy_out (by omega), kr_ro o hk]
  · rw [pk_cpy_out (by omega), ka_t1 o]
    unfold x56
    rw [if_neg (by omega)]
theorem g_row_0 {T : xT} {S : xS} {b t : Nat} {gv gp w p l r ro cap du ra sh ow bo ma de : Nat → Int32} {tf ll kn lo pa av ca re ye ch : Int32} (o : xbt b t) (tp : xTp T S.2.2) : f_X7_putRow T (kS S b t gv gp tf ll w p l r kn lo ro pa av ca re ye ch cap du ra sh ow bo ma de) t (0 : Int32) 7 = some (kS S b t gv gp tf ll w p l r kn lo (rop 0 p ro) pa av ca re ye ch cap du ra sh ow bo ma de) := g_row o tp (q := 0) (by decide)
theorem g_row_1 {T : xT} {S : xS} {b t : Nat} {gv gp w p l r ro cap du ra sh ow bo ma de : Nat → Int32} {tf ll kn lo pa av ca re ye ch : Int32} (o : xbt b t) (tp : xTp T S.2.2) : f_X7_putRow T (kS S b t gv gp tf ll w p l r kn lo ro pa av ca re ye ch cap du ra sh ow bo ma de) t (1 : Int32) 7 = some (kS S b t gv gp tf ll w p l r kn lo (rop 1 p ro) pa av ca re ye ch cap du ra sh ow bo ma de) := g_row o tp (q := 1) (by decide)
theorem g_row_2 {T : xT} {S : xS} {b t : Nat} {gv gp w p l r ro cap du ra sh ow bo ma de : Nat → Int32} {tf ll kn lo pa av ca re ye ch : Int32} (o : xbt b t) (tp : xTp T S.2.2) : f_X7_putRow T (kS S b t gv gp tf ll w p l r kn lo ro pa av ca re ye ch cap du ra sh ow bo ma de) t (2 : Int32) 7 = some (kS S b t gv gp tf ll w p l r kn lo (rop 2 p ro) pa av ca re ye ch cap du ra sh ow bo ma de) := g_row o tp (q := 2) (by decide)
theorem g_row_3 {T : xT} {S : xS} {b t : Nat} {gv gp w p l r ro cap du ra sh ow bo ma de : Nat → Int32} {tf ll kn lo pa av ca re ye ch : Int32} (o : xbt b t) (tp : xTp T S.2.2) : f_X7_putRow T (kS S b t gv gp tf ll w p l r kn lo ro pa av ca re ye ch cap du ra sh ow bo ma de) t (3 : Int32) 7 = some (kS S b t gv gp tf ll w p l r kn lo (rop 3 p ro) pa av ca re ye ch cap du ra sh ow bo ma de) := g_row o tp (q := 3) (by decide)
theorem g_row_4 {T : xT} {S : xS} {b t : Nat} {gv gp w p l r ro cap du ra sh ow bo ma de : Nat → Int32} {tf ll kn lo pa av ca re ye ch : Int32} (o : xbt b t) (tp : xTp T S.2.2) : f_X7_putRow T (kS S b t gv gp tf ll w p l r kn lo ro pa av ca re ye ch cap du ra sh ow bo ma de) t (4 : Int32) 7 = some (kS S b t gv gp tf ll w p l r kn lo (rop 4 p ro) pa av ca re ye ch cap du ra sh ow bo ma de) := g_row o tp (q := 4) (by decide)
theorem g_row_5 {T : xT} {S : xS} {b t : Nat} {gv gp w p l r ro cap du ra sh ow bo ma de : Nat → Int32} {tf ll kn lo pa av ca re ye ch : Int32} (o : xbt b t) (tp : xTp T S.2.2) : f_X7_putRow T (kS S b t gv gp tf ll w p l r kn lo ro pa av ca re ye ch cap du ra sh ow bo ma de) t (5 : Int32) 7 = some (kS S b t gv gp tf ll w p l r kn lo (rop 5 p ro) pa av ca re ye ch cap du ra sh ow bo ma de) := g_row o tp (q := 5) (by decide)
theorem g_row_6 {T : xT} {S : xS} {b t : Nat} {gv gp w p l r ro cap du ra sh ow bo ma de : Nat → Int32} {tf ll kn lo pa av ca re ye ch : Int32} (o : xbt b t) (tp : xTp T S.2.2) : f_X7_putRow T (kS S b t gv gp tf ll w p l r kn lo ro pa av ca re ye ch cap du ra sh ow bo ma de) t (6 : Int32) 7 = some (kS S b t gv gp tf ll w p l r kn lo (rop 6 p ro) pa av ca re ye ch cap du ra sh ow bo ma de) := g_row o tp (q := 6) (by decide)
theorem g_anew {T : xT} {S : xS} {b t : Nat} {gv gp w p l r ro cap du ra sh ow bo ma de : Nat → Int32} {tf ll kn lo pa av ca re ye ch : Int32} (o : xbt b t) (tp : xTp T S.2.2) : f_X7_startAnew T (kS S b t gv gp tf ll w p l r kn lo ro pa av ca re ye ch cap du ra sh ow bo ma de) t = some (kS S b t gv gp tf ll w p l r 1 0 (fun _ => 0) pa av ca re ye ch cap du ra sh ow bo ma de) := by
  unfold f_X7_startAnew
  rw [xgd_h (by decide)]
  simp (disch := first | assumption | omega | ((repeat first | apply kS_tp | apply xI_tp | apply xw_tp); exact tp) | (apply xn8 tp; decide) | (apply xnb o tp; omega)) only [↓xl_e, ↓xc_e, ↓xcv_e, ↓xpi_e, ↓reduceIte, ↓rr_3_0, ↓rr_3_1, ↓rr_3_4, ↓rr_3_5, ↓rr_3_6, ↓rr_3_7, ↓kg_6, ↓kg_7, ↓kg_8, ↓kg_9, ↓kg_10, ↓kg_11, ↓kg_12, ↓kg_13, ↓kg_t, ↓xai_w, ↓xst_w, kr_gv, kr_gp, kr_w, kr_p, kr_l, kr_r, kr_cap, kr_du, kr_ra, kr_sh, kr_ow, kr_bo, kr_ma, kr_de, kr_ro, kr_tf, kr_ll, kr_kn, kr_lo, kr_pa, kr_av, kr_ca, kr_re, kr_ye, kr_ch, kw_gv, kw_gp, kw_w, kw_p, kw_l, kw_r, kw_cap, kw_du, kw_ra, kw_sh, kw_ow, kw_bo, kw_ma, kw_de, kw_ro, kw_tf, kw_ll, kw_kn, kw_lo, kw_pa, kw_av, kw_ca, kw_re, kw_ye, kw_ch, x8_ff, nI_1, xb_e, xup_at, xm_n, xm_at, x00]
  rw [g_fill (T := T) (S := (kS S b t gv gp tf ll w p l r 1 0 ro pa av ca re ye ch cap du ra sh ow bo ma de)) (a := t + 1) (N := 56) (v := 0) (xnt o tp) (by decide), xcv_e]
  refine congrArg some (xw_ro o (fun k hk => ?_) (fun k hk => ?_))
  · unfold xmq; rw [if_pos ⟨Nat.zero_le _, hk⟩]
  · unfold xmq
    rw [if_neg (by omega), ka_t1 o]
    unfold x56
    rw [if_neg (by omega)]
/-! partners, floors, held, net, gains -/
theorem x0_f (i : Nat) (h : i < 8) : (nI i < (0 : Int32)) = False := eq_false (nI_pos (by omega))
theorem g_has {T : xT} {S : xS} {b t : Nat} {gv gp w p l r ro cap du ra sh ow bo ma de : Nat → Int32} {tf ll kn lo pa av ca re ye ch : Int32} (o : xbt b t) {i : Nat} (h : i < 8) : f_X1_hasPartner T (kS S b t gv gp tf ll w p l r kn lo ro pa av ca re ye ch cap du ra sh ow bo ma de) b (nI i) = some (if xb pa i = 0 then 0 else 1, (kS S b t gv gp tf ll w p l r kn lo ro pa av ca re ye ch cap du ra sh ow bo ma de)) := by
  unfold f_X1_hasPartner
  rw [if_neg (nI_pos (by omega)), if_neg (x8_f h), kr_pa o, xb_e]
  by_cases hb : xb pa i = 0
  · rw [if_pos hb, if_pos hb]
  · rw [if_neg hb, if_neg hb]
theorem g_hasA {T : xT} {S : xS} {b t : Nat} {gv gp w p l r ro cap du ra sh ow bo ma de : Nat → Int32} {tf ll kn lo pa av ca re ye ch : Int32} (o : xbt b t) {i : Nat} (h : i < 8) : f_X1_hasAsset T (kS S b t gv gp tf ll w p l r kn lo ro pa av ca re ye ch cap du ra sh ow bo ma de) b (nI i) = some (if xb av i = 0 then 0 else 1, (kS S b t gv gp tf ll w p l r kn lo ro pa av ca re ye ch cap du ra sh ow bo ma de)) := by
  unfold f_X1_hasAsset
  rw [if_neg (nI_pos (by omega)), if_neg (x8_f h), kr_av o, xb_e]
  by_cases hb : xb av i = 0
  · rw [if_pos hb, if_pos hb]
  · rw [if_neg hb, if_neg hb]
theorem g_floor {T : xT} {S : xS} {b t : Nat} {gv gp w p l r ro cap du ra sh ow bo ma de : Nat → Int32} {tf ll kn lo pa av ca re ye ch : Int32} (o : xbt b t) (tp : xTp T S.2.2) {i : Nat} (h : i < 8) : f_X1_floorOf T (kS S b t gv gp tf ll w p l r kn lo ro pa av ca re ye ch cap du ra sh ow bo ma de) b (nI i) = some (-du i - sh i, (kS S b t gv gp tf ll w p l r kn lo ro pa av ca re ye ch cap du ra sh ow bo ma de)) := by
  unfold f_X1_floorOf
  simp (disch := first | assumption | omega | ((repeat first | apply kS_tp | apply xI_tp | apply xw_tp); exact tp) | (apply xn8 tp; decide) | (apply xnb o tp; omega)) only [↓xl_e, ↓xc_e, ↓xcv_e, ↓xpi_e, ↓reduceIte, ↓rr_3_0, ↓rr_3_1, ↓rr_3_4, ↓rr_3_5, ↓rr_3_6, ↓rr_3_7, ↓kg_6, ↓kg_7, ↓kg_8, ↓kg_9, ↓kg_10, ↓kg_11, ↓kg_12, ↓kg_13, ↓kg_t, ↓xai_w, ↓xst_w, kr_gv, kr_gp, kr_w, kr_p, kr_l, kr_r, kr_cap, kr_du, kr_ra, kr_sh, kr_ow, kr_bo, kr_ma, kr_de, kr_ro, kr_tf, kr_ll, kr_kn, kr_lo, kr_pa, kr_av, kr_ca, kr_re, kr_ye, kr_ch, kw_gv, kw_gp, kw_w, kw_p, kw_l, kw_r, kw_cap, kw_du, kw_ra, kw_sh, kw_ow, kw_bo, kw_ma, kw_de, kw_ro, kw_tf, kw_ll, kw_kn, kw_lo, kw_pa, kw_av, kw_ca, kw_re, kw_ye, kw_ch, x8_ff, nI_1, xb_e, xup_at, xm_n, xm_at, x00]
def xhe (bo de : Nat → Int32) : Nat → Int32 := fun k => if de k ≤ bo k then 0 else de k - bo k
theorem xadd0 (a : Int32) : a + 0 = a := Int32.add_zero a
theorem L_held {T : xT} {S : xS} {b t : Nat} {gv gp w p l r ro cap du ra sh ow bo ma de : Nat → Int32} {tf ll kn lo pa av ca re ye ch : Int32} (o : xbt b t) (tp : xTp T S.2.2) : ∀ (m i n : Nat) (c : Int32), i + m = 8 → m < n → f_X1_held_4 T n (kS S b t gv gp tf ll w p l r kn lo ro pa av ca re ye ch cap du ra sh ow bo ma de) b c (nI i) = some (xsm (xhe bo de) m i c, (kS S b t gv gp tf ll w p l r kn lo ro pa av ca re ye ch cap du ra sh ow bo ma de)) := by
  intro m
  induction m with
  | zero =>
    intro i n c hi hn
    obtain ⟨n, rfl⟩ : ∃ n', n = n' + 1 := ⟨n - 1, by omega⟩
    obtain rfl : i = 8 := by omega
    unfold f_X1_held_4
    rw [if_pos x8_t]
    rfl
  | succ m ih =>
    intro i n c hi hn
    obtain ⟨n, rfl⟩ : ∃ n', n = n' + 1 := ⟨n - 1, by omega⟩
    have hi8 : i < 8 := by omega
    unfold f_X1_held_4
    have e2 : xsm (xhe bo de) (m + 1) i c = xsm (xhe bo de) m (i + 1) (c + xhe bo de i) := rfl
    rw [e2]
    unfold xhe
    by_cases hb : de i ≤ bo i
    · simp (disch := first | assumption | omega | ((repeat first | apply kS_tp | apply xI_tp | apply xw_tp); exact tp) | (apply xn8 tp; decide) | (apply xnb o tp; omega)) only [↓xl_e, ↓xc_e, ↓xcv_e, ↓xpi_e, ↓reduceIte, ↓rr_3_0, ↓rr_3_1, ↓rr_3_4, ↓rr_3_5, ↓rr_3_6, ↓rr_3_7, ↓kg_6, ↓kg_7, ↓kg_8, ↓kg_9, ↓kg_10, ↓kg_11, ↓kg_12, ↓kg_13, ↓kg_t, ↓xai_w, ↓xst_w, kr_gv, kr_gp, kr_w, kr_p, kr_l, kr_r, kr_cap, kr_du, kr_ra, kr_sh, kr_ow, kr_bo, kr_ma, kr_de, kr_ro, kr_tf, kr_ll, kr_kn, kr_lo, kr_pa, kr_av, kr_ca, kr_re, kr_ye, kr_ch, kw_gv, kw_gp, kw_w, kw_p, kw_l, kw_r, kw_cap, kw_du, kw_ra, kw_sh, kw_ow, kw_bo, kw_ma, kw_de, kw_ro, kw_tf, kw_ll, kw_kn, kw_lo, kw_pa, kw_av, kw_ca, kw_re, kw_ye, kw_ch, x8_ff, nI_1, xb_e, xup_at, xm_n, xm_at, x00, hb, ih, xadd0]
      rfl
    · simp (disch := first | assumption | omega | ((repeat first | apply kS_tp | apply xI_tp | apply xw_tp); exact tp) | (apply xn8 tp; decide) | (apply xnb o tp; omega)) only [↓xl_e, ↓xc_e, ↓xcv_e, ↓xpi_e, ↓reduceIte, ↓rr_3_0, ↓rr_3_1, ↓rr_3_4, ↓rr_3_5, ↓rr_3_6, ↓rr_3_7, ↓kg_6, ↓kg_7, ↓kg_8, ↓kg_9, ↓kg_10, ↓kg_11, ↓kg_12, ↓kg_13, ↓kg_t, ↓xai_w, ↓xst_w, kr_gv, kr_gp, kr_w, kr_p, kr_l, kr_r, kr_cap, kr_du, kr_ra, kr_sh, kr_ow, kr_bo, kr_ma, kr_de, kr_ro, kr_tf, kr_ll, kr_kn, kr_lo, kr_pa, kr_av, kr_ca, kr_re, kr_ye, kr_ch, kw_gv, kw_gp, kw_w, kw_p, kw_l, kw_r, kw_cap, kw_du, kw_ra, kw_sh, kw_ow, kw_bo, kw_ma, kw_de, kw_ro, kw_tf, kw_ll, kw_kn, kw_lo, kw_pa, kw_av, kw_ca, kw_re, kw_ye, kw_ch, x8_ff, nI_1, xb_e, xup_at, xm_n, xm_at, x00, hb, ih]
      rfl
theorem g_held {T : xT} {S : xS} {b t : Nat} {gv gp w p l r ro cap du ra sh ow bo ma de : Nat → Int32} {tf ll kn lo pa av ca re ye ch : Int32} (o : xbt b t) (tp : xTp T S.2.2) : f_X1_held T (kS S b t gv gp tf ll w p l r kn lo ro pa av ca re ye ch cap du ra sh ow bo ma de) b = some (xtot (xhe bo de), (kS S b t gv gp tf ll w p l r kn lo ro pa av ca re ye ch cap du ra sh ow bo ma de)) := L_held o tp 8 0 xfu 0 rfl (by decide)
theorem L_net {T : xT} {S : xS} {b t : Nat} {gv gp w p l r ro cap du ra sh ow bo ma de : Nat → Int32} {tf ll kn lo pa av ca re ye ch : Int32} (o : xbt b t) (tp : xTp T S.2.2) : ∀ (m i n : Nat) (c : Int32), i + m = 8 → m < n → f_X1_net_7 T n (kS S b t gv gp tf ll w p l r kn lo ro pa av ca re ye ch cap du ra sh ow bo ma de) b c (nI i) = some (xsm (fun k => bo k - de k) m i c, (kS S b t gv gp tf ll w p l r kn lo ro pa av ca re ye ch cap du ra sh ow bo ma de)) := by
  intro m
  induction m with
  | zero =>
    intro i n c hi hn
    obtain ⟨n, rfl⟩ : ∃ n', n = n' + 1 := ⟨n - 1, by omega⟩
    obtain rfl : i = 8 := by omega
    unfold f_X1_net_7
    rw [if_pos x8_t]
    rfl
  | succ m ih =>
    intro i n c hi hn
    obtain ⟨n, rfl⟩ : ∃ n', n = n' + 1 := ⟨n - 1, by omega⟩
    have hi8 : i < 8 := by omega
    unfold f_X1_net_7
    simp (disch := first | assumption | omega | ((repeat first | apply kS_tp | apply xI_tp | apply xw_tp); exact tp) | (apply xn8 tp; decide) | (apply xnb o tp; omega)) only [↓xl_e, ↓xc_e, ↓xcv_e, ↓xpi_e, ↓reduceIte, ↓rr_3_0, ↓rr_3_1, ↓rr_3_4, ↓rr_3_5, ↓rr_3_6, ↓rr_3_7, ↓kg_6, ↓kg_7, ↓kg_8, ↓kg_9, ↓kg_10, ↓kg_11, ↓kg_12, ↓kg_13, ↓kg_t, ↓xai_w, ↓xst_w, kr_gv, kr_gp, kr_w, kr_p, kr_l, kr_r, kr_cap, kr_du, kr_ra, kr_sh, kr_ow, kr_bo, kr_ma, kr_de, kr_ro, kr_tf, kr_ll, kr_kn, kr_lo, kr_pa, kr_av, kr_ca, kr_re, kr_ye, kr_ch, kw_gv, kw_gp, kw_w, kw_p, kw_l, kw_r, kw_cap, kw_du, kw_ra, kw_sh, kw_ow, kw_bo, kw_ma, kw_de, kw_ro, kw_tf, kw_ll, kw_kn, kw_lo, kw_pa, kw_av, kw_ca, kw_re, kw_ye, kw_ch, x8_ff, nI_1, xb_e, xup_at, xm_n, xm_at, x00, ih]
    rfl
theorem g_net {T : xT} {S : xS} {b t : Nat} {gv gp w p l r ro cap du ra sh ow bo ma de : Nat → Int32} {tf ll kn lo pa av ca re ye ch : Int32} (o : xbt b t) (tp : xTp T S.2.2) : f_X1_net T (kS S b t gv gp tf ll w p l r kn lo ro pa av ca re ye ch cap du ra sh ow bo ma de) b = some (xsm (fun k => bo k - de k) 8 0 ca, (kS S b t gv gp tf ll w p l r kn lo ro pa av ca re ye ch cap du ra sh ow bo ma de)) := by
  unfold f_X1_net
  rw [kr_ca o]
  exact L_net o tp 8 0 xfu ca rfl (by decide)
theorem g_gainAll {T : xT} {S : xS} {b t : Nat} {gv gp w p l r ro cap du ra sh ow bo ma de : Nat → Int32} {tf ll kn lo pa av ca re ye ch : Int32} (o : xbt b t) (tp : xTp T S.2.2) : f_X1_gainOfAll T (kS S b t gv gp tf ll w p l r kn lo ro pa av ca re ye ch cap du ra sh ow bo ma de) b = some (xtot ma - xtot bo, (kS S b t gv gp tf ll w p l r kn lo ro pa av ca re ye ch cap du ra sh ow bo ma de)) := by
  unfold f_X1_gainOfAll
  simp (disch := first | assumption | omega | ((repeat first | apply kS_tp | apply xI_tp | apply xw_tp); exact tp) | (apply xn8 tp; decide) | (apply xnb o tp; omega)) only [↓xl_e, ↓xc_e, ↓xcv_e, ↓xpi_e, ↓reduceIte, ↓rr_3_0, ↓rr_3_1, ↓rr_3_4, ↓rr_3_5, ↓rr_3_6, ↓rr_3_7, ↓kg_6, ↓kg_7, ↓kg_8, ↓kg_9, ↓kg_10, ↓kg_11, ↓kg_12, ↓kg_13, ↓kg_t, ↓xai_w, ↓xst_w, kr_gv, kr_gp, kr_w, kr_p, kr_l, kr_r, kr_cap, kr_du, kr_ra, kr_sh, kr_ow, kr_bo, kr_ma, kr_de, kr_ro, kr_tf, kr_ll, kr_kn, kr_lo, kr_pa, kr_av, kr_ca, kr_re, kr_ye, kr_ch, kw_gv, kw_gp, kw_w, kw_p, kw_l, kw_r, kw_cap, kw_du, kw_ra, kw_sh, kw_ow, kw_bo, kw_ma, kw_de, kw_ro, kw_tf, kw_ll, kw_kn, kw_lo, kw_pa, kw_av, kw_ca, kw_re, kw_ye, kw_ch, x8_ff, nI_1, xb_e, xup_at, xm_n, xm_at, x00, g_tot_ma o tp, g_tot_bo o tp]
