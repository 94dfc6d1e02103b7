/-! sums of specials in the reference: a code that is worked by a pile -/
def encv (kd v : Int32) : Int32 := if kd = 1 then 2000000 else if kd = 2 then 2000001 else if kd = 3 then 2000002 else if kd = 4 then 2000003 else if kd = 5 then 2000004 else if kd = 6 then 2000010 + v else if kd = 7 then 2000020 + v else v
theorem encv_1 (v : Int32) : encv 1 v = 2000000 := by
  unfold encv
  rw [if_pos rfl]
theorem xvo_1 (v re ca ye he ne : Int32) (cap sh : Nat → Int32) : xvo 1 v re ca ye he ne cap sh = re := by
  unfold xvo
  rw [if_pos rfl]
theorem encv_2 (v : Int32) : encv 2 v = 2000001 := by
  unfold encv
  rw [if_neg (by decide), if_pos rfl]
theorem xvo_2 (v re ca ye he ne : Int32) (cap sh : Nat → Int32) : xvo 2 v re ca ye he ne cap sh = ca := by
  unfold xvo
  rw [if_neg (by decide), if_pos rfl]
theorem encv_3 (v : Int32) : encv 3 v = 2000002 := by
  unfold encv
  rw [if_neg (by decide), if_neg (by decide), if_pos rfl]
theorem xvo_3 (v re ca ye he ne : Int32) (cap sh : Nat → Int32) : xvo 3 v re ca ye he ne cap sh = he := by
  unfold xvo
  rw [if_neg (by decide), if_neg (by decide), if_pos rfl]
theorem encv_4 (v : Int32) : encv 4 v = 2000003 := by
  unfold encv
  rw [if_neg (by decide), if_neg (by decide), if_neg (by decide), if_pos rfl]
theorem xvo_4 (v re ca ye he ne : Int32) (cap sh : Nat → Int32) : xvo 4 v re ca ye he ne cap sh = ye := by
  unfold xvo
  rw [if_neg (by decide), if_neg (by decide), if_neg (by decide), if_pos rfl]
theorem encv_5 (v : Int32) : encv 5 v = 2000004 := by
  unfold encv
  rw [if_neg (by decide), if_neg (by decide), if_neg (by decide), if_neg (by decide), if_pos rfl]
theorem xvo_5 (v re ca ye he ne : Int32) (cap sh : Nat → Int32) : xvo 5 v re ca ye he ne cap sh = ne := by
  unfold xvo
  rw [if_neg (by decide), if_neg (by decide), if_neg (by decide), if_neg (by decide), if_pos rfl]
theorem encv_6 (v : Int32) : encv 6 v = 2000010 + v := by
  unfold encv
  rw [if_neg (by decide), if_neg (by decide), if_neg (by decide), if_neg (by decide), if_neg (by decide), if_pos rfl]
theorem xvo_6 (v re ca ye he ne : Int32) (cap sh : Nat → Int32) : xvo 6 v re ca ye he ne cap sh = cap v.toNatClampNeg := by
  unfold xvo
  rw [if_neg (by decide), if_neg (by decide), if_neg (by decide), if_neg (by decide), if_neg (by decide), if_pos rfl]
theorem encv_7 (v : Int32) : encv 7 v = 2000020 + v := by
  unfold encv
  rw [if_neg (by decide), if_neg (by decide), if_neg (by decide), if_neg (by decide), if_neg (by decide), if_neg (by decide), if_pos rfl]
theorem xvo_7 (v re ca ye he ne : Int32) (cap sh : Nat → Int32) : xvo 7 v re ca ye he ne cap sh = sh v.toNatClampNeg := by
  unfold xvo
  rw [if_neg (by decide), if_neg (by decide), if_neg (by decide), if_neg (by decide), if_neg (by decide), if_neg (by decide), if_pos rfl]
theorem encv_0 (v : Int32) : encv 0 v = v := by
  unfold encv
  rw [if_neg (by decide), if_neg (by decide), if_neg (by decide), if_neg (by decide), if_neg (by decide), if_neg (by decide), if_neg (by decide)]
theorem xvo_0 (v re ca ye he ne : Int32) (cap sh : Nat → Int32) : xvo 0 v re ca ye he ne cap sh = v := by
  unfold xvo
  rw [if_neg (by decide), if_neg (by decide), if_neg (by decide), if_neg (by decide), if_neg (by decide), if_neg (by decide), if_neg (by decide)]
def vok (kd v : Int32) : Prop := (kd = 0 ∧ 0 ≤ v.toInt ∧ v.toInt ≤ 999999) ∨ kd = 1 ∨ kd = 2 ∨ kd = 3 ∨ kd = 4 ∨ kd = 5 ∨ ((kd = 6 ∨ kd = 7) ∧ ∃ j, j < 8 ∧ v = nI j)
theorem xw_hb {S : xS} {P : Nat → Int32} {b : Nat} (hb : S.1 199 1 = nI b) : (xw S 211 P).1 199 1 = nI b := by rw [xw_ne _ _ (by decide)]; exact hb
theorem h_name {T : xT} {S : xS} {b : Nat} {wt pt gq ls sp ro cap du ra sh ow bo ma de u : Nat → Int32} {kn lo pa av ca re ye ch : Int32} (tp : xTp T S.2.2) (hb : S.1 199 1 = nI b) (hb2 : b ≤ 5490) (ha : xAs av bo ma de) {kd v : Int32} (hv : vok kd v) (hk : ¬ kd = 0) : f_X10_nameNow T (rS S b wt pt gq ls sp (enc kn lo ro pa av ca re ye ch cap du ra sh ow bo ma de u)) 199 (encv kd v - 2000000) = some (xvo kd v re ca ye (xtot (xhe bo de)) (xsm (fun k => bo k - de k) 8 0 ca) cap sh, (rS S b wt pt gq ls sp (enc kn lo ro pa av ca re ye ch cap du ra sh ow bo ma de u))) := by
  unfold f_X10_nameNow
  rcases hv with h | h | h | h | h | h | ⟨h, j, hj, ej⟩
  · exact absurd h.1 hk
  · subst h
    rw [show encv 1 v - 2000000 = 0 from by rw [encv_1]; rfl, if_pos rfl, rget_2 tp hb hb2, xvo_1]; rfl
  · subst h
    rw [show encv 2 v - 2000000 = 1 from by rw [encv_2]; rfl, if_neg (by decide), if_pos rfl, rget_3 tp hb hb2, xvo_2]; rfl
  · subst h
    rw [show encv 3 v - 2000000 = 2 from by rw [encv_3]; rfl, if_neg (by decide), if_neg (by decide), if_pos rfl, h_held tp hb hb2 ha, xvo_3]; rfl
  · subst h
    rw [show encv 4 v - 2000000 = 3 from by rw [encv_4]; rfl, if_neg (by decide), if_neg (by decide), if_neg (by decide), if_pos rfl, rget_1 tp hb hb2, xvo_4]; rfl
  · subst h
    rw [show encv 5 v - 2000000 = 4 from by rw [encv_5]; rfl, if_neg (by decide), if_neg (by decide), if_neg (by decide), if_neg (by decide), if_pos rfl, h_net tp hb hb2 ha, xvo_5]; rfl
  · subst ej
    rcases h with h | h
    · subst h
      have e : encv 6 (nI j) - 2000000 = nI (10 + j) := by
        rw [encv_6, show ((2000010 : Int32) + nI j) = nI (2000010 + j) from nI_add 2000010 j]
        exact (pk_sub (a := 2000010 + j) (b := 2000000) (by omega)).trans (by rw [show 2000010 + j - 2000000 = 10 + j by omega])
      have hne : ∀ c, c < 10 → ¬ nI (10 + j) = nI c := fun c hc q => by
        have := (nI_eq (by omega) (by omega)).mp q; omega
      have n0 : ¬ nI (10 + j) = (0 : Int32) := hne 0 (by decide)
      have n1 : ¬ nI (10 + j) = (1 : Int32) := hne 1 (by decide)
      have n2 : ¬ nI (10 + j) = (2 : Int32) := hne 2 (by decide)
      have n3 : ¬ nI (10 + j) = (3 : Int32) := hne 3 (by decide)
      have n4 : ¬ nI (10 + j) = (4 : Int32) := hne 4 (by decide)
      have e2 : ((5 : Int32) + nI (10 + j)) - 10 = nI (5 + j) := by
        rw [ix_5]
        exact (pk_sub (a := 5 + (10 + j)) (b := 10) (by omega)).trans (by congr 1; omega)
      have h20 : ¬ (20 : Int32) ≤ nI (10 + j) := nI_ge (b := 20) (by omega) (by decide)
      rw [e, if_neg n0, if_neg n1, if_neg n2, if_neg n3, if_neg n4, if_neg h20, e2, rget tp hb hb2 (by omega), er_cap hj, xc_e, xvo_6, nI_clamp (by omega)]
    · subst h
      have e : encv 7 (nI j) - 2000000 = nI (20 + j) := by
        rw [encv_7, show ((2000020 : Int32) + nI j) = nI (2000020 + j) from nI_add 2000020 j]
        exact (pk_sub (a := 2000020 + j) (b := 2000000) (by omega)).trans (by rw [show 2000020 + j - 2000000 = 20 + j by omega])
      have hne : ∀ c, c < 10 → ¬ nI (20 + j) = nI c := fun c hc q => by
        have := (nI_eq (by omega) (by omega)).mp q; omega
      have n0 : ¬ nI (20 + j) = (0 : Int32) := hne 0 (by decide)
      have n1 : ¬ nI (20 + j) = (1 : Int32) := hne 1 (by decide)
      have n2 : ¬ nI (20 + j) = (2 : Int32) := hne 2 (by decide)
      have n3 : ¬ nI (20 + j) = (3 : Int32) := hne 3 (by decide)
      have n4 : ¬ nI (20 + j) = (4 : Int32) := hne 4 (by decide)
      have e2 : ((29 : Int32) + nI (20 + j)) - 20 = nI (29 + j) := by
        rw [ix_29]
        exact (pk_sub (a := 29 + (20 + j)) (b := 20) (by omega)).trans (by congr 1; omega)
      have h20 : (20 : Int32) ≤ nI (20 + j) := nI_le (a := 20) (by omega) (by omega)
      rw [e, if_neg n0, if_neg n1, if_neg n2, if_neg n3, if_neg n4, if_pos h20, e2, rget tp hb hb2 (by omega), er_sh hj, xc_e, xvo_7, nI_clamp (by omega)]
/-- what two become by a sign -/
def jn (op x y : Int32) : Int32 := if op = 42 then x * y else if op = 43 then x + y else if op = 45 then x - y else if y = 0 then 0 else x / y
theorem h_join {T : xT} {S : xS} {op x y : Int32} (h : op = 42 ∨ op = 43 ∨ op = 45 ∨ op = 47) : f_X10_joined T S op x y = some (jn op x y, S) := by
  unfold f_X10_joined jn
  have a1 : ¬ (43 : Int32) = 42 := by decide
  have a2 : ¬ (45 : Int32) = 42 := by decide
  have a3 : ¬ (45 : Int32) = 43 := by decide
  have a4 : ¬ (45 : Int32) = 44 := by decide
  have a5 : ¬ (47 : Int32) = 42 := by decide
  have a6 : ¬ (47 : Int32) = 43 := by decide
  have a7 : ¬ (47 : Int32) = 44 := by decide
  have a8 : ¬ (47 : Int32) = 45 := by decide
  rcases h with h | h | h | h
  · subst h; rw [if_pos rfl, if_pos rfl]
  · subst h; rw [if_neg a1, if_pos rfl, if_neg a1, if_pos rfl]
  · subst h; rw [if_neg a2, if_neg a3, if_neg a4, if_pos rfl, if_neg a2, if_neg a3, if_pos rfl]
  · subst h
    rw [if_neg a5, if_neg a6, if_neg a7, if_neg a8, if_neg a5, if_neg a6, if_neg a8]
    by_cases hy : y = 0
    · rw [if_pos hy, if_pos hy]
    · rw [if_neg hy, if_neg hy, xgd_h (by unfold xn0; simpa using hy)]
theorem x208 {T : xT} {S : xS} {b : Nat} {wt pt gq ls sp ro cap du ra sh ow bo ma de u : Nat → Int32} {kn lo pa av ca re ye ch : Int32} (tp : xTp T S.2.2) (hb : S.1 199 1 = nI b) (hb2 : b ≤ 5490) {A : Nat} (hA : A < 100) : f_X10_get T (rS S b wt pt gq ls sp (enc kn lo ro pa av ca re ye ch cap du ra sh ow bo ma de u)) 199 ((208 : Int32) + nI A) = some (u (208 + A), (rS S b wt pt gq ls sp (enc kn lo ro pa av ca re ye ch cap du ra sh ow bo ma de u))) := by
  rw [ix_208, rget tp hb hb2 (by omega), er_u (by omega)]
theorem rw_211 {S : xS} {b : Nat} {wt pt gq ls sp r P : Nat → Int32} {k : Nat} {v : Int32} : xI (rS (xw S 211 P) b wt pt gq ls sp r) 211 k v = rS (xw S 211 (va_up P k v)) b wt pt gq ls sp r := by
  rw [rw_out (by decide), xI_w, xw_w, xw_1]
theorem vok_lt {kd v : Int32} (hv : vok kd v) : ¬ (3000000 : Int32) ≤ encv kd v ∧ ((2000000 : Int32) ≤ encv kd v ↔ ¬ kd = 0) := by
  rcases hv with h | h | h | h | h | h | ⟨h, j, hj, ej⟩
  · obtain ⟨h0, h1, h2⟩ := h
    subst h0
    have e : encv 0 v = v := encv_0 v
    rw [e, xle, xle, show (3000000 : Int32).toInt = 3000000 from by decide, show (2000000 : Int32).toInt = 2000000 from by decide]
    exact ⟨by omega, ⟨fun q => by omega, fun q => absurd rfl q⟩⟩
  · subst h; rw [encv_1]; exact ⟨by decide, ⟨fun _ => by decide, fun _ => by decide⟩⟩
  · subst h; rw [encv_2]; exact ⟨by decide, ⟨fun _ => by decide, fun _ => by decide⟩⟩
  · subst h; rw [encv_3]; exact ⟨by decide, ⟨fun _ => by decide, fun _ => by decide⟩⟩
  · subst h; rw [encv_4]; exact ⟨by decide, ⟨fun _ => by decide, fun _ => by decide⟩⟩
  · subst h; rw [encv_5]; exact ⟨by decide, ⟨fun _ => by decide, fun _ => by decide⟩⟩
  · subst ej
    rcases h with h | h
    · subst h
      have e : encv 6 (nI j) = nI (2000010 + j) := (encv_6 _).trans (nI_add 2000010 j)
      rw [e]
      exact ⟨nI_ge (b := 3000000) (by omega) (by decide), ⟨fun _ => by decide, fun _ => nI_le (a := 2000000) (by omega) (by omega)⟩⟩
    · subst h
      have e : encv 7 (nI j) = nI (2000020 + j) := (encv_7 _).trans (nI_add 2000020 j)
      rw [e]
      exact ⟨nI_ge (b := 3000000) (by omega) (by decide), ⟨fun _ => by decide, fun _ => nI_le (a := 2000000) (by omega) (by omega)⟩⟩
/-- a thing comes onto the pile -/
theorem w_push {T : xT} {S : xS} {b : Nat} {wt pt gq ls sp ro cap du ra sh ow bo ma de u : Nat → Int32} {kn lo pa av ca re ye ch : Int32} (tp : xTp T S.2.2) (hb : S.1 199 1 = nI b) (hb2 : b ≤ 5490) (ha : xAs av bo ma de) {P : Nat → Int32} {A C d n : Nat} {kd v : Int32} (hA : A < C) (hC : C ≤ 100) (hd : d < 44) (hc : u (208 + A) = encv kd v) (hv : vok kd v) : f_X10_worked_5 T (n + 1) (rS (xw S 211 P) b wt pt gq ls sp (enc kn lo ro pa av ca re ye ch cap du ra sh ow bo ma de u)) 199 (nI C) (nI d) (nI A) = f_X10_worked_5 T n (rS (xw S 211 (va_up P d (xvo kd v re ca ye (xtot (xhe bo de)) (xsm (fun k => bo k - de k) 8 0 ca) cap sh))) b wt pt gq ls sp (enc kn lo ro pa av ca re ye ch cap du ra sh ow bo ma de u)) 199 (nI C) (nI (d + 1)) (nI (A + 1)) := by
  have hb' := xw_hb (P := P) hb
  have hl := vok_lt hv
  have h44 : T.2.1 211 = 44 := xTp_n tp 44 (by decide) rfl
  conv => lhs; unfold f_X10_worked_5
  rw [if_neg (nI_ge hA (by omega)), x208 (S := xw S 211 P) tp hb' hb2 (by omega), xc_e, xl_e, hc, if_neg hl.1, rr_199_25 (S := (rS (xw S 211 P) b wt pt gq ls sp (enc kn lo ro pa av ca re ye ch cap du ra sh ow bo ma de u))) tp]
  by_cases hk : kd = 0
  · have e : encv kd v = v := by rw [hk]; exact encv_0 v
    have e2 : xvo kd v re ca ye (xtot (xhe bo de)) (xsm (fun k => bo k - de k) 8 0 ca) cap sh = v := by rw [hk]; exact xvo_0 _ _ _ _ _ _ _ _
    rw [if_neg (fun q => hl.2.mp q hk), xst_n h44 hd (by decide), xl_e, xl_e, rw_211, nI_1, nI_1, e, e2]
  · rw [if_pos (hl.2.mpr hk), h_name (S := xw S 211 P) tp hb' hb2 ha hv hk, xc_e, xst_n h44 hd (by decide), xl_e, xl_e, rw_211, nI_1, nI_1]
/-- two become one -/
theorem w_op {T : xT} {S : xS} {b : Nat} {wt pt gq ls sp ro cap du ra sh ow bo ma de u : Nat → Int32} {kn lo pa av ca re ye ch : Int32} (tp : xTp T S.2.2) (hb : S.1 199 1 = nI b) (hb2 : b ≤ 5490) {P : Nat → Int32} {A C d n : Nat} {op : Int32} (hA : A < C) (hC : C ≤ 100) (hd : d + 1 < 44) (hc : u (208 + A) = 3000000 + op) (ho : op = 42 ∨ op = 43 ∨ op = 45 ∨ op = 47) : f_X10_worked_5 T (n + 1) (rS (xw S 211 P) b wt pt gq ls sp (enc kn lo ro pa av ca re ye ch cap du ra sh ow bo ma de u)) 199 (nI C) (nI (d + 2)) (nI A) = f_X10_worked_5 T n (rS (xw S 211 (va_up P d (jn op (P d) (P (d + 1))))) b wt pt gq ls sp (enc kn lo ro pa av ca re ye ch cap du ra sh ow bo ma de u)) 199 (nI C) (nI (d + 1)) (nI (A + 1)) := by
  have hb' := xw_hb (P := P) hb
  have h44 : T.2.1 211 = 44 := xTp_n tp 44 (by decide) rfl
  have hle : (3000000 : Int32) ≤ 3000000 + op := by rcases ho with h | h | h | h <;> (subst h; decide)
  have hs : ((3000000 : Int32) + op) - 3000000 = op := by rcases ho with h | h | h | h <;> (subst h; decide)
  have e1 : nI (d + 2) + (-1) = nI (d + 1) := pk_m1 (d + 1)
  have e2 : nI (d + 1) - 1 = nI d := nI_pred d
  have hr : ∀ k, (rS (xw S 211 P) b wt pt gq ls sp (enc kn lo ro pa av ca re ye ch cap du ra sh ow bo ma de u)).1 211 k = P k := fun k => by rw [ra_out (by decide), xw_1]
  conv => lhs; unfold f_X10_worked_5
  rw [if_neg (nI_ge hA (by omega)), x208 (S := xw S 211 P) tp hb' hb2 (by omega), xc_e, xl_e, hc, if_pos hle, xl_e, e1, rr_199_25 (S := (rS (xw S 211 P) b wt pt gq ls sp (enc kn lo ro pa av ca re ye ch cap du ra sh ow bo ma de u))) tp, rr_199_25 (S := (rS (xw S 211 P) b wt pt gq ls sp (enc kn lo ro pa av ca re ye ch cap du ra sh ow bo ma de u))) tp, e2, xai_n h44 (by omega) (by decide), rr_199_25 (S := (rS (xw S 211 P) b wt pt gq ls sp (enc kn lo ro pa av ca re ye ch cap du ra sh ow bo ma de u))) tp, xai_n h44 (by omega) (by decide), hs, h_join ho, xc_e, xst_n h44 (by omega) (by decide), xl_e, rw_211, nI_1, hr, hr]
/-- the code of things: so many from t on, codes from A on to C; a sign that waits, or 0 -/
def cw (kd vl op cd : Nat → Int32) : Nat → Nat → Nat → Int32 → Nat → Prop
  | 0, _, A, pe, C => (pe = 0 ∧ A = C) ∨ ((pe = 43 ∨ pe = 45) ∧ cd A = 3000000 + pe ∧ A + 1 = C)
  | m + 1, t, A, pe, C => vok (kd t) (vl t) ∧ (((op t = 42 ∨ op t = 47) ∧ cd A = encv (kd t) (vl t) ∧ cd (A + 1) = 3000000 + op t ∧ cw kd vl op cd m (t + 1) (A + 2) pe C) ∨ ((op t = 43 ∨ op t = 45) ∧ ((pe = 0 ∧ cd A = encv (kd t) (vl t) ∧ cw kd vl op cd m (t + 1) (A + 1) (op t) C) ∨ ((pe = 43 ∨ pe = 45) ∧ cd A = 3000000 + pe ∧ cd (A + 1) = encv (kd t) (vl t) ∧ cw kd vl op cd m (t + 1) (A + 2) (op t) C))))
theorem cw_le {kd vl op cd : Nat → Int32} : ∀ (m t A : Nat) (pe : Int32) (C : Nat), cw kd vl op cd m t A pe C → A ≤ C ∧ (pe ≠ 0 → A < C) ∧ C ≤ A + 2 * m + 1
  | 0, t, A, pe, C, h => by
    rcases h with ⟨h1, h2⟩ | ⟨h1, h2, h3⟩
    · exact ⟨by omega, fun q => absurd h1 q, by omega⟩
    · exact ⟨by omega, fun _ => by omega, by omega⟩
  | m + 1, t, A, pe, C, h => by
    rcases h.2 with ⟨_, _, _, h4⟩ | ⟨_, ⟨h2, _, h4⟩ | ⟨_, _, _, h4⟩⟩
    · have := cw_le m _ _ _ _ h4; exact ⟨by omega, fun _ => by omega, by omega⟩
    · have := cw_le m _ _ _ _ h4; exact ⟨by omega, fun q => absurd h2 q, by omega⟩
    · have := cw_le m _ _ _ _ h4; exact ⟨by omega, fun _ => by omega, by omega⟩
theorem L_work {T : xT} {S : xS} {b : Nat} {wt pt gq ls sp ro cap du ra sh ow bo ma de u : Nat → Int32} {kn lo pa av ca re ye ch : Int32} (tp : xTp T S.2.2) (hb : S.1 199 1 = nI b) (hb2 : b ≤ 5490) (ha : xAs av bo ma de) {kd vl op : Nat → Int32} {C : Nat} (hC : C ≤ 100) : ∀ (m t A n : Nat) (pe : Int32) (P : Nat → Int32) (s q le : Int32), cw kd vl op (fun j => u (208 + j)) m t A pe C → C - A < n → ((pe = 0 ∧ s = 0 ∧ le = 0 ∧ P 0 = q) ∨ ((pe = 43 ∨ pe = 45) ∧ le = (if pe = 45 then 1 else 0) ∧ P 0 = s ∧ P 1 = q)) → ∃ P', f_X10_worked_5 T n (rS (xw S 211 P) b wt pt gq ls sp (enc kn lo ro pa av ca re ye ch cap du ra sh ow bo ma de u)) 199 (nI C) (nI (if pe = 0 then 1 else 2)) (nI A) = some (ev (fun t => xvo (kd t) (vl t) re ca ye (xtot (xhe bo de)) (xsm (fun k => bo k - de k) 8 0 ca) cap sh) op m t s q le, (rS (xw S 211 P') b wt pt gq ls sp (enc kn lo ro pa av ca re ye ch cap du ra sh ow bo ma de u))) := by
  have h44 : T.2.1 211 = 44 := xTp_n tp 44 (by decide) rfl
  have hend : ∀ (n d : Nat) (P : Nat → Int32), 0 < n → f_X10_worked_5 T n (rS (xw S 211 P) b wt pt gq ls sp (enc kn lo ro pa av ca re ye ch cap du ra sh ow bo ma de u)) 199 (nI C) (nI d) (nI C) = some (P 0, (rS (xw S 211 P) b wt pt gq ls sp (enc kn lo ro pa av ca re ye ch cap du ra sh ow bo ma de u))) := fun n d P hn => by
    obtain ⟨n, rfl⟩ : ∃ n', n = n' + 1 := ⟨n - 1, by omega⟩
    unfold f_X10_worked_5
    rw [if_pos (nI_le (Nat.le_refl _) (by omega)), rr_199_25 (S := (rS (xw S 211 P) b wt pt gq ls sp (enc kn lo ro pa av ca re ye ch cap du ra sh ow bo ma de u))) tp]
    have e : xai T (rS (xw S 211 P) b wt pt gq ls sp (enc kn lo ro pa av ca re ye ch cap du ra sh ow bo ma de u)) 211 (nI 0) (fun v2 => some (v2, (rS (xw S 211 P) b wt pt gq ls sp (enc kn lo ro pa av ca re ye ch cap du ra sh ow bo ma de u)))) = some (P 0, (rS (xw S 211 P) b wt pt gq ls sp (enc kn lo ro pa av ca re ye ch cap du ra sh ow bo ma de u))) := by
      rw [xai_n h44 (by decide) (by decide), ra_out (by decide), xw_1]
    exact e
  have h2s : ∀ (P : Nat → Int32) (a c : Int32), va_up (va_up P 1 a) 0 c 1 = a := fun P a c => by rw [va_up_ne _ _ (by decide), xup_at]
  intro m
  induction m with
  | zero =>
    intro t A n pe P s q le hcw hn hst
    show ∃ P', _ = some (if le = 0 then s + q else s - q, _)
    rcases hcw with ⟨h1, h2⟩ | ⟨h1, h2, h3⟩
    · subst h2
      rcases hst with ⟨_, h4, h5, h6⟩ | ⟨h4, _⟩
      · refine ⟨P, ?_⟩
        rw [hend n _ P (by omega), h4, if_pos h5, h6, Int32.zero_add]
      · rw [h1] at h4; exact absurd h4 (by decide)
    · rcases hst with ⟨h4, _⟩ | ⟨h4, h5, h6, h7⟩
      · rw [h4] at h1; exact absurd h1 (by decide)
      · obtain ⟨n, rfl⟩ : ∃ n', n = n' + 1 := ⟨n - 1, by omega⟩
        have hne : ¬ pe = 0 := fun q => by rw [q] at h1; exact absurd h1 (by decide)
        have hop := w_op (T := T) (S := S) (b := b) (wt := wt) (pt := pt) (gq := gq) (ls := ls) (sp := sp) (kn := kn) (lo := lo) (ro := ro) (pa := pa) (av := av) (ca := ca) (re := re) (ye := ye) (ch := ch) (cap := cap) (du := du) (ra := ra) (sh := sh) (ow := ow) (bo := bo) (ma := ma) (de := de) (u := u) (P := P) (A := A) (C := C) (d := 0) (n := n) (op := pe) tp hb hb2 (by omega) hC (by decide) h2 (by rcases h1 with h | h <;> simp [h])
        rw [if_neg hne, hop, h3, hend n _ _ (by omega), xup_at, h6, h7]
        refine ⟨_, congrArg (fun z => some (z, _)) ?_⟩
        unfold jn
        rcases h1 with h | h
        · rw [h] at h5 ⊢
          rw [if_neg (by decide), if_pos rfl, if_pos (by rw [h5]; decide)]
        · rw [h] at h5 ⊢
          rw [if_neg (by decide), if_neg (by decide), if_pos rfl, if_neg (by rw [h5]; decide)]
  | succ m ih =>
    intro t A n pe P s q le hcw hn hst
    have hle := cw_le _ _ _ _ _ hcw
    obtain ⟨hvt, hcw2⟩ := hcw
    show ∃ P', _ = some (if op t = 42 then ev _ op m (t + 1) s (q * xvo (kd t) (vl t) re ca ye (xtot (xhe bo de)) (xsm (fun k => bo k - de k) 8 0 ca) cap sh) le else if op t = 47 then ev _ op m (t + 1) s (if xvo (kd t) (vl t) re ca ye (xtot (xhe bo de)) (xsm (fun k => bo k - de k) 8 0 ca) cap sh = 0 then 0 else q / xvo (kd t) (vl t) re ca ye (xtot (xhe bo de)) (xsm (fun k => bo k - de k) 8 0 ca) cap sh) le else ev _ op m (t + 1) (if le = 0 then s + q else s - q) (xvo (kd t) (vl t) re ca ye (xtot (xhe bo de)) (xsm (fun k => bo k - de k) 8 0 ca) cap sh) (if op t = 45 then 1 else 0), _)
    rcases hcw2 with ⟨h1, h2, h3, h4⟩ | ⟨h1, ⟨h2, h3, h4⟩ | ⟨h2, h3, h3', h4⟩⟩
    · -- times, or parted
      have hle2 := cw_le _ _ _ _ _ h4
      obtain ⟨n, rfl⟩ : ∃ n', n = n' + 2 := ⟨n - 2, by omega⟩
      have hops : op t = 42 ∨ op t = 43 ∨ op t = 45 ∨ op t = 47 := by rcases h1 with h | h <;> simp [h]
      rcases hst with ⟨g1, g2, g3, g4⟩ | ⟨g1, g2, g3, g4⟩
      · have e1 := w_push (T := T) (S := S) (b := b) (wt := wt) (pt := pt) (gq := gq) (ls := ls) (sp := sp) (kn := kn) (lo := lo) (ro := ro) (pa := pa) (av := av) (ca := ca) (re := re) (ye := ye) (ch := ch) (cap := cap) (du := du) (ra := ra) (sh := sh) (ow := ow) (bo := bo) (ma := ma) (de := de) (u := u) (P := P) (A := A) (C := C) (d := 1) (n := n + 1) tp hb hb2 ha (by omega) hC (by decide) h2 hvt
        have e2 := w_op (T := T) (S := S) (b := b) (wt := wt) (pt := pt) (gq := gq) (ls := ls) (sp := sp) (kn := kn) (lo := lo) (ro := ro) (pa := pa) (av := av) (ca := ca) (re := re) (ye := ye) (ch := ch) (cap := cap) (du := du) (ra := ra) (sh := sh) (ow := ow) (bo := bo) (ma := ma) (de := de) (u := u) (P := va_up P 1 (xvo (kd t) (vl t) re ca ye (xtot (xhe bo de)) (xsm (fun k => bo k - de k) 8 0 ca) cap sh)) (A := A + 1) (C := C) (d := 0) (n := n) (op := op t) tp hb hb2 (by omega) hC (by decide) h3 hops
        rw [if_pos g1, e1, e2, xup_at, va_up_ne P _ (show 0 ≠ 1 by decide), g4]
        obtain ⟨P', e3⟩ := ih (t + 1) (A + 2) n pe (va_up (va_up P 1 (xvo (kd t) (vl t) re ca ye (xtot (xhe bo de)) (xsm (fun k => bo k - de k) 8 0 ca) cap sh)) 0 (jn (op t) q (xvo (kd t) (vl t) re ca ye (xtot (xhe bo de)) (xsm (fun k => bo k - de k) 8 0 ca) cap sh))) s (jn (op t) q (xvo (kd t) (vl t) re ca ye (xtot (xhe bo de)) (xsm (fun k => bo k - de k) 8 0 ca) cap sh)) le h4 (by omega) (Or.inl ⟨g1, g2, g3, xup_at _ _ _⟩)
        rw [if_pos g1] at e3
        refine ⟨P', e3.trans (congrArg (fun z => some (z, _)) ?_)⟩
        rcases h1 with h | h
        · rw [if_pos h]; unfold jn; rw [if_pos h]
        · rw [if_neg (by rw [h]; decide), if_pos h]; unfold jn; rw [if_neg (by rw [h]; decide), if_neg (by rw [h]; decide), if_neg (by rw [h]; decide)]
      · have hne : ¬ pe = 0 := fun z => by rw [z] at g1; exact absurd g1 (by decide)
        have e1 := w_push (T := T) (S := S) (b := b) (wt := wt) (pt := pt) (gq := gq) (ls := ls) (sp := sp) (kn := kn) (lo := lo) (ro := ro) (pa := pa) (av := av) (ca := ca) (re := re) (ye := ye) (ch := ch) (cap := cap) (du := du) (ra := ra) (sh := sh) (ow := ow) (bo := bo) (ma := ma) (de := de) (u := u) (P := P) (A := A) (C := C) (d := 2) (n := n + 1) tp hb hb2 ha (by omega) hC (by decide) h2 hvt
        have e2 := w_op (T := T) (S := S) (b := b) (wt := wt) (pt := pt) (gq := gq) (ls := ls) (sp := sp) (kn := kn) (lo := lo) (ro := ro) (pa := pa) (av := av) (ca := ca) (re := re) (ye := ye) (ch := ch) (cap := cap) (du := du) (ra := ra) (sh := sh) (ow := ow) (bo := bo) (ma := ma) (de := de) (u := u) (P := va_up P 2 (xvo (kd t) (vl t) re ca ye (xtot (xhe bo de)) (xsm (fun k => bo k - de k) 8 0 ca) cap sh)) (A := A + 1) (C := C) (d := 1) (n := n) (op := op t) tp hb hb2 (by omega) hC (by decide) h3 hops
        rw [if_neg hne, e1, e2, xup_at, va_up_ne P _ (show 1 ≠ 2 by decide), g4]
        obtain ⟨P', e3⟩ := ih (t + 1) (A + 2) n pe (va_up (va_up P 2 (xvo (kd t) (vl t) re ca ye (xtot (xhe bo de)) (xsm (fun k => bo k - de k) 8 0 ca) cap sh)) 1 (jn (op t) q (xvo (kd t) (vl t) re ca ye (xtot (xhe bo de)) (xsm (fun k => bo k - de k) 8 0 ca) cap sh))) s (jn (op t) q (xvo (kd t) (vl t) re ca ye (xtot (xhe bo de)) (xsm (fun k => bo k - de k) 8 0 ca) cap sh)) le h4 (by omega) (Or.inr ⟨g1, g2, by rw [va_up_ne _ _ (show 0 ≠ 1 by decide), va_up_ne _ _ (show 0 ≠ 2 by decide)]; exact g3, xup_at _ _ _⟩)
        rw [if_neg hne] at e3
        refine ⟨P', e3.trans (congrArg (fun z => some (z, _)) ?_)⟩
        rcases h1 with h | h
        · rw [if_pos h]; unfold jn; rw [if_pos h]
        · rw [if_neg (by rw [h]; decide), if_pos h]; unfold jn; rw [if_neg (by rw [h]; decide), if_neg (by rw [h]; decide), if_neg (by rw [h]; decide)]
    · -- the second product
      have hle2 := cw_le _ _ _ _ _ h4
      obtain ⟨n, rfl⟩ : ∃ n', n = n' + 1 := ⟨n - 1, by omega⟩
      have hne2 : ¬ op t = 0 := fun z => by rw [z] at h1; exact absurd h1 (by decide)
      rcases hst with ⟨g1, g2, g3, g4⟩ | ⟨g1, _⟩
      · have e1 := w_push (T := T) (S := S) (b := b) (wt := wt) (pt := pt) (gq := gq) (ls := ls) (sp := sp) (kn := kn) (lo := lo) (ro := ro) (pa := pa) (av := av) (ca := ca) (re := re) (ye := ye) (ch := ch) (cap := cap) (du := du) (ra := ra) (sh := sh) (ow := ow) (bo := bo) (ma := ma) (de := de) (u := u) (P := P) (A := A) (C := C) (d := 1) (n := n) tp hb hb2 ha (by omega) hC (by decide) h3 hvt
        rw [if_pos g1, e1]
        obtain ⟨P', e3⟩ := ih (t + 1) (A + 1) n (op t) (va_up P 1 (xvo (kd t) (vl t) re ca ye (xtot (xhe bo de)) (xsm (fun k => bo k - de k) 8 0 ca) cap sh)) q (xvo (kd t) (vl t) re ca ye (xtot (xhe bo de)) (xsm (fun k => bo k - de k) 8 0 ca) cap sh) (if op t = 45 then 1 else 0) h4 (by omega) (Or.inr ⟨h1, rfl, by rw [va_up_ne _ _ (show 0 ≠ 1 by decide)]; exact g4, xup_at _ _ _⟩)
        rw [if_neg hne2] at e3
        refine ⟨P', e3.trans (congrArg (fun z => some (z, _)) ?_)⟩
        have n42 : ¬ op t = 42 := by rcases h1 with h | h <;> (rw [h]; decide)
        have n47 : ¬ op t = 47 := by rcases h1 with h | h <;> (rw [h]; decide)
        rw [if_neg n42, if_neg n47, if_pos g3, g2, Int32.zero_add]
      · rw [h2] at g1; exact absurd g1 (by decide)
    · -- a later product
      have hle2 := cw_le _ _ _ _ _ h4
      obtain ⟨n, rfl⟩ : ∃ n', n = n' + 2 := ⟨n - 2, by omega⟩
      have hne2 : ¬ op t = 0 := fun z => by rw [z] at h1; exact absurd h1 (by decide)
      have hne : ¬ pe = 0 := fun z => by rw [z] at h2; exact absurd h2 (by decide)
      rcases hst with ⟨g1, _⟩ | ⟨g1, g2, g3, g4⟩
      · exact absurd g1 hne
      · have e1 := w_op (T := T) (S := S) (b := b) (wt := wt) (pt := pt) (gq := gq) (ls := ls) (sp := sp) (kn := kn) (lo := lo) (ro := ro) (pa := pa) (av := av) (ca := ca) (re := re) (ye := ye) (ch := ch) (cap := cap) (du := du) (ra := ra) (sh := sh) (ow := ow) (bo := bo) (ma := ma) (de := de) (u := u) (P := P) (A := A) (C := C) (d := 0) (n := n + 1) (op := pe) tp hb hb2 (by omega) hC (by decide) h3 (by rcases h2 with h | h <;> simp [h])
        have e2 := w_push (T := T) (S := S) (b := b) (wt := wt) (pt := pt) (gq := gq) (ls := ls) (sp := sp) (kn := kn) (lo := lo) (ro := ro) (pa := pa) (av := av) (ca := ca) (re := re) (ye := ye) (ch := ch) (cap := cap) (du := du) (ra := ra) (sh := sh) (ow := ow) (bo := bo) (ma := ma) (de := de) (u := u) (P := va_up P 0 (jn pe (P 0) (P (0 + 1)))) (A := A + 1) (C := C) (d := 1) (n := n) tp hb hb2 ha (by omega) hC (by decide) h3' hvt
        rw [if_neg hne, e1, e2]
        have ej : jn pe (P 0) (P (0 + 1)) = if le = 0 then s + q else s - q := by
          rw [g3, show P (0 + 1) = q from g4]
          unfold jn
          rcases h2 with h | h
          · rw [h] at g2 ⊢
            rw [if_neg (by decide), if_pos rfl, if_pos (by rw [g2]; decide)]
          · rw [h] at g2 ⊢
            rw [if_neg (by decide), if_neg (by decide), if_pos rfl, if_neg (by rw [g2]; decide)]
        obtain ⟨P', e3⟩ := ih (t + 1) (A + 2) n (op t) (va_up (va_up P 0 (jn pe (P 0) (P (0 + 1)))) 1 (xvo (kd t) (vl t) re ca ye (xtot (xhe bo de)) (xsm (fun k => bo k - de k) 8 0 ca) cap sh)) (if le = 0 then s + q else s - q) (xvo (kd t) (vl t) re ca ye (xtot (xhe bo de)) (xsm (fun k => bo k - de k) 8 0 ca) cap sh) (if op t = 45 then 1 else 0) h4 (by omega) (Or.inr ⟨h1, rfl, by rw [va_up_ne _ _ (show 0 ≠ 1 by decide), xup_at]; exact ej, xup_at _ _ _⟩)
        rw [if_neg hne2] at e3
        refine ⟨P', e3.trans (congrArg (fun z => some (z, _)) ?_)⟩
        have n42 : ¬ op t = 42 := by rcases h1 with h | h <;> (rw [h]; decide)
        have n47 : ¬ op t = 47 := by rcases h1 with h | h <;> (rw [h]; decide)
        rw [if_neg n42, if_neg n47]
/-- a sum's things from a to c are the codes from A to C -/
def cs (kd vl op cd : Nat → Int32) (a c A C : Nat) : Prop := ∃ m, c = a + m + 1 ∧ op a = 43 ∧ vok (kd a) (vl a) ∧ cd A = encv (kd a) (vl a) ∧ cw kd vl op cd m (a + 1) (A + 1) 0 C
theorem h_work {T : xT} {S : xS} {b : Nat} {wt pt gq ls sp ro cap du ra sh ow bo ma de u : Nat → Int32} {kn lo pa av ca re ye ch : Int32} (tp : xTp T S.2.2) (hb : S.1 199 1 = nI b) (hb2 : b ≤ 5490) (ha : xAs av bo ma de) {kd vl op : Nat → Int32} {a c A C : Nat} (hC : C ≤ 100) (h : cs kd vl op (fun j => u (208 + j)) a c A C) : ∃ P', f_X10_worked T (rS S b wt pt gq ls sp (enc kn lo ro pa av ca re ye ch cap du ra sh ow bo ma de u)) 199 (nI A) (nI C) = some (ev (fun t => xvo (kd t) (vl t) re ca ye (xtot (xhe bo de)) (xsm (fun k => bo k - de k) 8 0 ca) cap sh) op (c - a) a 0 0 0, (rS (xw S 211 P') b wt pt gq ls sp (enc kn lo ro pa av ca re ye ch cap du ra sh ow bo ma de u))) := by
  obtain ⟨m, hm, ho, hv, hc, hcw⟩ := h
  have hle := cw_le _ _ _ _ _ hcw
  unfold f_X10_worked
  rw [xl_e, xl_e]
  have e0 : (rS S b wt pt gq ls sp (enc kn lo ro pa av ca re ye ch cap du ra sh ow bo ma de u)) = (rS (xw S 211 (S.1 211)) b wt pt gq ls sp (enc kn lo ro pa av ca re ye ch cap du ra sh ow bo ma de u)) := by rw [xw_self]
  have e1 := w_push (T := T) (S := S) (b := b) (wt := wt) (pt := pt) (gq := gq) (ls := ls) (sp := sp) (kn := kn) (lo := lo) (ro := ro) (pa := pa) (av := av) (ca := ca) (re := re) (ye := ye) (ch := ch) (cap := cap) (du := du) (ra := ra) (sh := sh) (ow := ow) (bo := bo) (ma := ma) (de := de) (u := u) (P := S.1 211) (A := A) (C := C) (d := 0) (n := 999) tp hb hb2 ha (by omega) hC (by decide) hc hv
  obtain ⟨P', e3⟩ := L_work (T := T) (S := S) (b := b) (wt := wt) (pt := pt) (gq := gq) (ls := ls) (sp := sp) (kn := kn) (lo := lo) (ro := ro) (pa := pa) (av := av) (ca := ca) (re := re) (ye := ye) (ch := ch) (cap := cap) (du := du) (ra := ra) (sh := sh) (ow := ow) (bo := bo) (ma := ma) (de := de) (u := u) tp hb hb2 ha hC m (a + 1) (A + 1) 999 0 (va_up (S.1 211) 0 (xvo (kd a) (vl a) re ca ye (xtot (xhe bo de)) (xsm (fun k => bo k - de k) 8 0 ca) cap sh)) 0 (xvo (kd a) (vl a) re ca ye (xtot (xhe bo de)) (xsm (fun k => bo k - de k) 8 0 ca) cap sh) 0 hcw (by omega) (Or.inl ⟨rfl, rfl, rfl, xup_at _ _ _⟩)
  refine ⟨P', ?_⟩
  have e4 : f_X10_worked_5 T xfu (rS S b wt pt gq ls sp (enc kn lo ro pa av ca re ye ch cap du ra sh ow bo ma de u)) 199 (nI C) 0 (nI A) = f_X10_worked_5 T (999 + 1) (rS (xw S 211 (S.1 211)) b wt pt gq ls sp (enc kn lo ro pa av ca re ye ch cap du ra sh ow bo ma de u)) 199 (nI C) (nI 0) (nI A) := by
    rw [xw_self]; rfl
  rw [e4, e1]
  refine e3.trans (congrArg (fun z => some (z, _)) ?_)
  rw [show c - a = m + 1 by omega]
  show _ = if op a = 42 then _ else if op a = 47 then _ else ev _ op m (a + 1) (if (0 : Int32) = 0 then 0 + 0 else 0 - 0) _ (if op a = 45 then 1 else 0)
  rw [ho]
  rfl
