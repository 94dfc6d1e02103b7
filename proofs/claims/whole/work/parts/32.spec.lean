/-! specials at an address: what they give -/
def xSi (T : xT) (r : Nat → Nat → Option Nat) (sa : Nat) : Prop := (sa = 21 ∨ 215 ≤ sa) ∧ (sa + 9 < T.2.2 ∧ T.1 sa = 4) ∧ (T.1 (sa + 1) = 20 ∧ T.1 (sa + 2) = 20 ∧ T.1 (sa + 3) = 20 ∧ T.1 (sa + 4) = 20 ∧ T.1 (sa + 5) = 20 ∧ T.1 (sa + 6) = 24 ∧ T.1 (sa + 7) = 20 ∧ T.1 (sa + 8) = 20 ∧ T.1 (sa + 9) = 24) ∧ (T.2.1 (sa + 1) = 8 ∧ T.2.1 (sa + 2) = 8 ∧ T.2.1 (sa + 3) = 8 ∧ T.2.1 (sa + 4) = 8 ∧ T.2.1 (sa + 5) = 8 ∧ T.2.1 (sa + 6) = 8 ∧ T.2.1 (sa + 7) = 40 ∧ T.2.1 (sa + 8) = 40 ∧ T.2.1 (sa + 9) = 40) ∧ (r sa 2 = some (sa + 1) ∧ r sa 3 = some (sa + 2) ∧ r sa 4 = some (sa + 3) ∧ r sa 5 = some (sa + 4) ∧ r sa 6 = some (sa + 5) ∧ r sa 7 = some (sa + 6) ∧ r sa 8 = some (sa + 7) ∧ r sa 9 = some (sa + 8) ∧ r sa 10 = some (sa + 9))
theorem xSi_out {T : xT} {r : Nat → Nat → Option Nat} {sa j : Nat} (si : xSi T r sa) (hj : j ≤ 9) : (sa + j < 3 ∨ 9 < sa + j) ∧ (sa + j < 31 ∨ 41 < sa + j) ∧ (sa + j < 188 ∨ 198 < sa + j) := by
  have := si.1
  omega
theorem sg_2 {α : Type} {T : xT} {S : xS} {sa : Nat} {K : Nat → Option α} (si : xSi T S.2.2 sa) : xgr T S sa 2 20 K = K (sa + 1) := xgr_mk si.2.2.2.2.1 (by have := si.2.1.1; omega) si.2.2.1.1
theorem sa_2 {α : Type} {T : xT} {sa : Nat} {S : xS} {b t : Nat} {gv gp w p l r ro cap du ra sh ow bo ma de : Nat → Int32} {tf ll kn lo pa av ca re ye ch : Int32} (o : xbt b t) {i : Nat} {K : Int32 → Option α} (si : xSi T S.2.2 sa) (h : i < 8) : xai T (kS S b t gv gp tf ll w p l r kn lo ro pa av ca re ye ch cap du ra sh ow bo ma de) (sa + 1) (nI i) K = K (S.1 (sa + 1) i) := by
  rw [xai_n si.2.2.2.1.1 h (by decide), ka_out o (xSi_out si (by omega))]
theorem sg_3 {α : Type} {T : xT} {S : xS} {sa : Nat} {K : Nat → Option α} (si : xSi T S.2.2 sa) : xgr T S sa 3 20 K = K (sa + 2) := xgr_mk si.2.2.2.2.2.1 (by have := si.2.1.1; omega) si.2.2.1.2.1
theorem sa_3 {α : Type} {T : xT} {sa : Nat} {S : xS} {b t : Nat} {gv gp w p l r ro cap du ra sh ow bo ma de : Nat → Int32} {tf ll kn lo pa av ca re ye ch : Int32} (o : xbt b t) {i : Nat} {K : Int32 → Option α} (si : xSi T S.2.2 sa) (h : i < 8) : xai T (kS S b t gv gp tf ll w p l r kn lo ro pa av ca re ye ch cap du ra sh ow bo ma de) (sa + 2) (nI i) K = K (S.1 (sa + 2) i) := by
  rw [xai_n si.2.2.2.1.2.1 h (by decide), ka_out o (xSi_out si (by omega))]
theorem sg_4 {α : Type} {T : xT} {S : xS} {sa : Nat} {K : Nat → Option α} (si : xSi T S.2.2 sa) : xgr T S sa 4 20 K = K (sa + 3) := xgr_mk si.2.2.2.2.2.2.1 (by have := si.2.1.1; omega) si.2.2.1.2.2.1
theorem sa_4 {α : Type} {T : xT} {sa : Nat} {S : xS} {b t : Nat} {gv gp w p l r ro cap du ra sh ow bo ma de : Nat → Int32} {tf ll kn lo pa av ca re ye ch : Int32} (o : xbt b t) {i : Nat} {K : Int32 → Option α} (si : xSi T S.2.2 sa) (h : i < 8) : xai T (kS S b t gv gp tf ll w p l r kn lo ro pa av ca re ye ch cap du ra sh ow bo ma de) (sa + 3) (nI i) K = K (S.1 (sa + 3) i) := by
  rw [xai_n si.2.2.2.1.2.2.1 h (by decide), ka_out o (xSi_out si (by omega))]
theorem sg_5 {α : Type} {T : xT} {S : xS} {sa : Nat} {K : Nat → Option α} (si : xSi T S.2.2 sa) : xgr T S sa 5 20 K = K (sa + 4) := xgr_mk si.2.2.2.2.2.2.2.1 (by have := si.2.1.1; omega) si.2.2.1.2.2.2.1
theorem sa_5 {α : Type} {T : xT} {sa : Nat} {S : xS} {b t : Nat} {gv gp w p l r ro cap du ra sh ow bo ma de : Nat → Int32} {tf ll kn lo pa av ca re ye ch : Int32} (o : xbt b t) {i : Nat} {K : Int32 → Option α} (si : xSi T S.2.2 sa) (h : i < 8) : xai T (kS S b t gv gp tf ll w p l r kn lo ro pa av ca re ye ch cap du ra sh ow bo ma de) (sa + 4) (nI i) K = K (S.1 (sa + 4) i) := by
  rw [xai_n si.2.2.2.1.2.2.2.1 h (by decide), ka_out o (xSi_out si (by omega))]
theorem sg_6 {α : Type} {T : xT} {S : xS} {sa : Nat} {K : Nat → Option α} (si : xSi T S.2.2 sa) : xgr T S sa 6 20 K = K (sa + 5) := xgr_mk si.2.2.2.2.2.2.2.2.1 (by have := si.2.1.1; omega) si.2.2.1.2.2.2.2.1
theorem sa_6 {α : Type} {T : xT} {sa : Nat} {S : xS} {b t : Nat} {gv gp w p l r ro cap du ra sh ow bo ma de : Nat → Int32} {tf ll kn lo pa av ca re ye ch : Int32} (o : xbt b t) {i : Nat} {K : Int32 → Option α} (si : xSi T S.2.2 sa) (h : i < 8) : xai T (kS S b t gv gp tf ll w p l r kn lo ro pa av ca re ye ch cap du ra sh ow bo ma de) (sa + 5) (nI i) K = K (S.1 (sa + 5) i) := by
  rw [xai_n si.2.2.2.1.2.2.2.2.1 h (by decide), ka_out o (xSi_out si (by omega))]
theorem sg_7 {α : Type} {T : xT} {S : xS} {sa : Nat} {K : Nat → Option α} (si : xSi T S.2.2 sa) : xgr T S sa 7 24 K = K (sa + 6) := xgr_mk si.2.2.2.2.2.2.2.2.2.1 (by have := si.2.1.1; omega) si.2.2.1.2.2.2.2.2.1
theorem sa_7 {α : Type} {T : xT} {sa : Nat} {S : xS} {b t : Nat} {gv gp w p l r ro cap du ra sh ow bo ma de : Nat → Int32} {tf ll kn lo pa av ca re ye ch : Int32} (o : xbt b t) {i : Nat} {K : Int32 → Option α} (si : xSi T S.2.2 sa) (h : i < 8) : xai T (kS S b t gv gp tf ll w p l r kn lo ro pa av ca re ye ch cap du ra sh ow bo ma de) (sa + 6) (nI i) K = K (S.1 (sa + 6) i) := by
  rw [xai_n si.2.2.2.1.2.2.2.2.2.1 h (by decide), ka_out o (xSi_out si (by omega))]
theorem sg_8 {α : Type} {T : xT} {S : xS} {sa : Nat} {K : Nat → Option α} (si : xSi T S.2.2 sa) : xgr T S sa 8 20 K = K (sa + 7) := xgr_mk si.2.2.2.2.2.2.2.2.2.2.1 (by have := si.2.1.1; omega) si.2.2.1.2.2.2.2.2.2.1
theorem sa_8 {α : Type} {T : xT} {sa : Nat} {S : xS} {b t : Nat} {gv gp w p l r ro cap du ra sh ow bo ma de : Nat → Int32} {tf ll kn lo pa av ca re ye ch : Int32} (o : xbt b t) {i : Nat} {K : Int32 → Option α} (si : xSi T S.2.2 sa) (h : i < 40) : xai T (kS S b t gv gp tf ll w p l r kn lo ro pa av ca re ye ch cap du ra sh ow bo ma de) (sa + 7) (nI i) K = K (S.1 (sa + 7) i) := by
  rw [xai_n si.2.2.2.1.2.2.2.2.2.2.1 h (by decide), ka_out o (xSi_out si (by omega))]
theorem sg_9 {α : Type} {T : xT} {S : xS} {sa : Nat} {K : Nat → Option α} (si : xSi T S.2.2 sa) : xgr T S sa 9 20 K = K (sa + 8) := xgr_mk si.2.2.2.2.2.2.2.2.2.2.2.1 (by have := si.2.1.1; omega) si.2.2.1.2.2.2.2.2.2.2.1
theorem sa_9 {α : Type} {T : xT} {sa : Nat} {S : xS} {b t : Nat} {gv gp w p l r ro cap du ra sh ow bo ma de : Nat → Int32} {tf ll kn lo pa av ca re ye ch : Int32} (o : xbt b t) {i : Nat} {K : Int32 → Option α} (si : xSi T S.2.2 sa) (h : i < 40) : xai T (kS S b t gv gp tf ll w p l r kn lo ro pa av ca re ye ch cap du ra sh ow bo ma de) (sa + 8) (nI i) K = K (S.1 (sa + 8) i) := by
  rw [xai_n si.2.2.2.1.2.2.2.2.2.2.2.1 h (by decide), ka_out o (xSi_out si (by omega))]
theorem sg_10 {α : Type} {T : xT} {S : xS} {sa : Nat} {K : Nat → Option α} (si : xSi T S.2.2 sa) : xgr T S sa 10 24 K = K (sa + 9) := xgr_mk si.2.2.2.2.2.2.2.2.2.2.2.2 (by have := si.2.1.1; omega) si.2.2.1.2.2.2.2.2.2.2.2
theorem sa_10 {α : Type} {T : xT} {sa : Nat} {S : xS} {b t : Nat} {gv gp w p l r ro cap du ra sh ow bo ma de : Nat → Int32} {tf ll kn lo pa av ca re ye ch : Int32} (o : xbt b t) {i : Nat} {K : Int32 → Option α} (si : xSi T S.2.2 sa) (h : i < 40) : xai T (kS S b t gv gp tf ll w p l r kn lo ro pa av ca re ye ch cap du ra sh ow bo ma de) (sa + 9) (nI i) K = K (S.1 (sa + 9) i) := by
  rw [xai_n si.2.2.2.1.2.2.2.2.2.2.2.2 h (by decide), ka_out o (xSi_out si (by omega))]
def xvo (kd v re ca ye he ne : Int32) (cap sh : Nat → Int32) : Int32 := if kd = 1 then re else if kd = 2 then ca else if kd = 3 then he else if kd = 4 then ye else if kd = 5 then ne else if kd = 6 then cap v.toNatClampNeg else if kd = 7 then sh v.toNatClampNeg else v
theorem kS_si {T : xT} {sa : Nat} {S : xS} {b t : Nat} {gv gp w p l r ro cap du ra sh ow bo ma de : Nat → Int32} {tf ll kn lo pa av ca re ye ch : Int32} (si : xSi T S.2.2 sa) : xSi T (kS S b t gv gp tf ll w p l r kn lo ro pa av ca re ye ch cap du ra sh ow bo ma de).2.2 sa := si
theorem g_value {T : xT} {sa : Nat} {S : xS} {b t : Nat} {gv gp w p l r ro cap du ra sh ow bo ma de : Nat → Int32} {tf ll kn lo pa av ca re ye ch : Int32} (o : xbt b t) (tp : xTp T S.2.2) (si : xSi T S.2.2 sa) {i : Nat} (h : i < 40) (hv : S.1 (sa + 7) i = 6 ∨ S.1 (sa + 7) i = 7 → ∃ j, j < 8 ∧ S.1 (sa + 8) i = nI j) : f_X4_valueOf T (kS S b t gv gp tf ll w p l r kn lo ro pa av ca re ye ch cap du ra sh ow bo ma de) sa (nI i) b = some (xvo (S.1 (sa + 7) i) (S.1 (sa + 8) i) re ca ye (xtot (xhe bo de)) (xsm (fun k => bo k - de k) 8 0 ca) cap sh, (kS S b t gv gp tf ll w p l r kn lo ro pa av ca re ye ch cap du ra sh ow bo ma de)) := by
  unfold f_X4_valueOf xvo
  rw [sg_8 (S := (kS S b t gv gp tf ll w p l r kn lo ro pa av ca re ye ch cap du ra sh ow bo ma de)) si, sa_8 o si h]
  generalize S.1 (sa + 7) i = kd at hv ⊢
  by_cases h1 : kd = 1
  · rw [if_pos h1, if_pos h1, kr_re o]
  · rw [if_neg h1, if_neg h1]
    by_cases h2 : kd = 2
    · rw [if_pos h2, if_pos h2, kr_ca o]
    · rw [if_neg h2, if_neg h2]
      by_cases h3 : kd = 3
      · rw [if_pos h3, if_pos h3, g_held o tp]; rfl
      · rw [if_neg h3, if_neg h3]
        by_cases h4 : kd = 4
        · rw [if_pos h4, if_pos h4, kr_ye o]
        · rw [if_neg h4, if_neg h4]
          by_cases h5 : kd = 5
          · rw [if_pos h5, if_pos h5, g_net o tp]; rfl
          · rw [if_neg h5, if_neg h5]
            by_cases h6 : kd = 6
            · obtain ⟨j, hj, e⟩ := hv (Or.inl h6)
              rw [if_pos h6, if_pos h6, kg_6 (S := (kS S b t gv gp tf ll w p l r kn lo ro pa av ca re ye ch cap du ra sh ow bo ma de)) o tp, sg_9 (S := (kS S b t gv gp tf ll w p l r kn lo ro pa av ca re ye ch cap du ra sh ow bo ma de)) si, sa_9 o si h, e, xai_w (xnb o tp (by omega)) hj, kr_cap o hj, nI_clamp (by omega)]
            · rw [if_neg h6, if_neg h6]
              by_cases h7 : kd = 7
              · obtain ⟨j, hj, e⟩ := hv (Or.inr h7)
                rw [if_pos h7, if_pos h7, kg_9 (S := (kS S b t gv gp tf ll w p l r kn lo ro pa av ca re ye ch cap du ra sh ow bo ma de)) o tp, sg_9 (S := (kS S b t gv gp tf ll w p l r kn lo ro pa av ca re ye ch cap du ra sh ow bo ma de)) si, sa_9 o si h, e, xai_w (xnb o tp (by omega)) hj, kr_sh o hj, nI_clamp (by omega)]
              · rw [if_neg h7, if_neg h7, sg_9 (S := (kS S b t gv gp tf ll w p l r kn lo ro pa av ca re ye ch cap du ra sh ow bo ma de)) si, sa_9 o si h]
/-- things from t on, m of them: sum, product, less -/
def ev (vl op : Nat → Int32) : Nat → Nat → Int32 → Int32 → Int32 → Int32
  | 0, _, s, p, le => if le = 0 then s + p else s - p
  | m + 1, t, s, p, le => if op t = 42 then ev vl op m (t + 1) s (p * vl t) le else if op t = 47 then ev vl op m (t + 1) s (if vl t = 0 then 0 else p / vl t) le else ev vl op m (t + 1) (if le = 0 then s + p else s - p) (vl t) (if op t = 45 then 1 else 0)
theorem L_eval {T : xT} {sa c : Nat} {vl : Nat → Int32} {S : xS} {b t : Nat} {gv gp w p l r ro cap du ra sh ow bo ma de : Nat → Int32} {tf ll kn lo pa av ca re ye ch : Int32} (o : xbt b t) (tp : xTp T S.2.2) (si : xSi T S.2.2 sa) (hc : c ≤ 40) (hv : ∀ i, i < 40 → f_X4_valueOf T (kS S b t gv gp tf ll w p l r kn lo ro pa av ca re ye ch cap du ra sh ow bo ma de) sa (nI i) b = some (vl i, (kS S b t gv gp tf ll w p l r kn lo ro pa av ca re ye ch cap du ra sh ow bo ma de))) : ∀ (m i n : Nat) (s q le : Int32), m = c - i → i ≤ 40 → m < n → f_X4_evaluate_12 T n (kS S b t gv gp tf ll w p l r kn lo ro pa av ca re ye ch cap du ra sh ow bo ma de) sa (nI c) b s q le (nI i) = some (ev vl (S.1 (sa + 9)) m i s q le, (kS S b t gv gp tf ll w p l r kn lo ro pa av ca re ye ch cap du ra sh ow bo ma de)) := by
  intro m
  induction m with
  | zero =>
    intro i n s q le hm hi hn
    obtain ⟨n, rfl⟩ : ∃ n', n = n' + 1 := ⟨n - 1, by omega⟩
    unfold f_X4_evaluate_12
    rw [if_pos (nI_le (by omega) (by omega))]
    show _ = some (if le = 0 then s + q else s - q, _)
    by_cases hl : le = 0
    · rw [if_pos hl, if_pos hl]
    · rw [if_neg hl, if_neg hl]
  | succ m ih =>
    intro i n s q le hm hi hn
    obtain ⟨n, rfl⟩ : ∃ n', n = n' + 1 := ⟨n - 1, by omega⟩
    have hi4 : i < 40 := by omega
    unfold f_X4_evaluate_12
    rw [if_neg (nI_ge (by omega) (by omega)), hv i hi4, xc_e, xl_e, sg_10 (S := (kS S b t gv gp tf ll w p l r kn lo ro pa av ca re ye ch cap du ra sh ow bo ma de)) si, sa_10 o si hi4]
    show _ = some (if S.1 (sa + 9) i = 42 then ev vl (S.1 (sa + 9)) m (i + 1) s (q * vl i) le else if S.1 (sa + 9) i = 47 then ev vl (S.1 (sa + 9)) m (i + 1) s (if vl i = 0 then 0 else q / vl i) le else ev vl (S.1 (sa + 9)) m (i + 1) (if le = 0 then s + q else s - q) (vl i) (if S.1 (sa + 9) i = 45 then 1 else 0), _)
    have hr := fun s q le => ih (i + 1) n s q le (by omega) (by omega) (by omega)
    by_cases h42 : S.1 (sa + 9) i = 42
    · rw [if_pos h42, if_pos h42, xl_e, xl_e, nI_1, hr]
    · rw [if_neg h42, if_neg h42, sg_10 (S := (kS S b t gv gp tf ll w p l r kn lo ro pa av ca re ye ch cap du ra sh ow bo ma de)) si, sa_10 o si hi4]
      by_cases h47 : S.1 (sa + 9) i = 47
      · rw [if_pos h47, if_pos h47]
        by_cases h0 : vl i = 0
        · rw [if_pos h0, if_pos h0, xl_e, xl_e, nI_1, hr]
        · have hx : xn0 (vl i) = true := by unfold xn0; simpa using h0
          rw [if_neg h0, if_neg h0, xgd_h hx, xl_e, xl_e, nI_1, hr]
      · rw [if_neg h47, if_neg h47]
        have h98 : ∀ q', f_X4_evaluate_98 T (f_X4_evaluate_12 T n) (kS S b t gv gp tf ll w p l r kn lo ro pa av ca re ye ch cap du ra sh ow bo ma de) sa (nI c) b (nI i) (vl i) q' = some (ev vl (S.1 (sa + 9)) m (i + 1) q' (vl i) (if S.1 (sa + 9) i = 45 then 1 else 0), (kS S b t gv gp tf ll w p l r kn lo ro pa av ca re ye ch cap du ra sh ow bo ma de)) := fun q' => by
          unfold f_X4_evaluate_98
          rw [xl_e, xl_e, sg_10 (S := (kS S b t gv gp tf ll w p l r kn lo ro pa av ca re ye ch cap du ra sh ow bo ma de)) si, sa_10 o si hi4]
          by_cases h45 : S.1 (sa + 9) i = 45
          · rw [if_pos h45, if_pos h45, xl_e, xl_e, nI_1, hr]
          · rw [if_neg h45, if_neg h45, xl_e, xl_e, nI_1, hr]
        by_cases hl : le = 0
        · rw [if_pos hl, if_pos hl, h98]
        · rw [if_neg hl, if_neg hl, h98]
/-- the text of specials is well -/
def xSo (S : xS) (sa ns : Nat) : Prop := S.1 sa 0 = nI ns ∧ ns ≤ 8 ∧ (∀ k, k < ns → ∃ q, q < 8 ∧ S.1 (sa + 1) k = nI q) ∧ (∀ k, k < ns → ∃ a c, S.1 (sa + 2) k = nI a ∧ S.1 (sa + 3) k = nI c ∧ a ≤ 40 ∧ c ≤ 40) ∧ (∀ k, k < ns → S.1 (sa + 6) k ≠ 32 → ∃ a c, S.1 (sa + 4) k = nI a ∧ S.1 (sa + 5) k = nI c ∧ a ≤ 40 ∧ c ≤ 40) ∧ ∀ i, i < 40 → S.1 (sa + 7) i = 6 ∨ S.1 (sa + 7) i = 7 → ∃ j, j < 8 ∧ S.1 (sa + 8) i = nI j
/-- things from a to c, as the books are -/
def eV (S : xS) (sa : Nat) (re ca ye he ne : Int32) (cap sh : Nat → Int32) (a c : Int32) : Int32 := ev (fun i => xvo (S.1 (sa + 7) i) (S.1 (sa + 8) i) re ca ye he ne cap sh) (S.1 (sa + 9)) (c.toNatClampNeg - a.toNatClampNeg) a.toNatClampNeg 0 0 0
theorem g_eval {T : xT} {sa ns : Nat} {S : xS} {b t : Nat} {gv gp w p l r ro cap du ra sh ow bo ma de : Nat → Int32} {tf ll kn lo pa av ca re ye ch : Int32} (o : xbt b t) (tp : xTp T S.2.2) (si : xSi T S.2.2 sa) (so : xSo S sa ns) {a c : Nat} (ha : a ≤ 40) (hc : c ≤ 40) : f_X4_evaluate T (kS S b t gv gp tf ll w p l r kn lo ro pa av ca re ye ch cap du ra sh ow bo ma de) sa (nI a) (nI c) b = some (eV S sa re ca ye (xtot (xhe bo de)) (xsm (fun k => bo k - de k) 8 0 ca) cap sh (nI a) (nI c), (kS S b t gv gp tf ll w p l r kn lo ro pa av ca re ye ch cap du ra sh ow bo ma de)) := by
  unfold f_X4_evaluate eV
  rw [xl_e, xl_e, xl_e, xl_e, nI_clamp (by omega), nI_clamp (by omega)]
  exact L_eval o tp si hc (fun i hi => g_value o tp si hi (so.2.2.2.2.2 i hi)) (c - a) a xfu 0 0 0 rfl ha (by show c - a < 1000; omega)
def xrcv (S : xS) (sa k : Nat) : Nat := (S.1 (sa + 1) k).toNatClampNeg
/-- what special k gives -/
def gif (S : xS) (sa : Nat) (pa re ca ye he ne : Int32) (cap sh : Nat → Int32) (k : Nat) : Int32 :=
  if xb pa (xrcv S sa k) = 0 then 0 else if 0 < re then (if S.1 (sa + 6) k = 32 then xmax 0 (xmin re (eV S sa re ca ye he ne cap sh (S.1 (sa + 2) k) (S.1 (sa + 3) k))) else if S.1 (sa + 6) k = 60 then (if eV S sa re ca ye he ne cap sh (S.1 (sa + 3) k) (S.1 (sa + 4) k) < eV S sa re ca ye he ne cap sh (S.1 (sa + 4) k) (S.1 (sa + 5) k) then xmax 0 (xmin re (eV S sa re ca ye he ne cap sh (S.1 (sa + 2) k) (S.1 (sa + 3) k))) else 0) else (if eV S sa re ca ye he ne cap sh (S.1 (sa + 4) k) (S.1 (sa + 5) k) < eV S sa re ca ye he ne cap sh (S.1 (sa + 3) k) (S.1 (sa + 4) k) then xmax 0 (xmin re (eV S sa re ca ye he ne cap sh (S.1 (sa + 2) k) (S.1 (sa + 3) k))) else 0)) else 0
theorem g_gift98 {T : xT} {sa ns : Nat} {S : xS} {b t : Nat} {gv gp w p l r ro cap du ra sh ow bo ma de : Nat → Int32} {tf ll kn lo pa av ca re ye ch : Int32} (o : xbt b t) (tp : xTp T S.2.2) (si : xSi T S.2.2 sa) (so : xSo S sa ns) {k : Nat} (hk : k < ns) : f_X4_gift_98 T (kS S b t gv gp tf ll w p l r kn lo ro pa av ca re ye ch cap du ra sh ow bo ma de) sa (nI k) b = some (xmax 0 (xmin re (eV S sa re ca ye (xtot (xhe bo de)) (xsm (fun k => bo k - de k) 8 0 ca) cap sh (S.1 (sa + 2) k) (S.1 (sa + 3) k))), (kS S b t gv gp tf ll w p l r kn lo ro pa av ca re ye ch cap du ra sh ow bo ma de)) := by
  have h8 := so.2.1
  obtain ⟨a, c, ea, ec, ha, hc⟩ := so.2.2.2.1 k hk
  unfold f_X4_gift_98
  rw [sg_3 (S := (kS S b t gv gp tf ll w p l r kn lo ro pa av ca re ye ch cap du ra sh ow bo ma de)) si, sa_3 o si (by omega), sg_4 (S := (kS S b t gv gp tf ll w p l r kn lo ro pa av ca re ye ch cap du ra sh ow bo ma de)) si, sa_4 o si (by omega), ea, ec, g_eval o tp si so ha hc, xc_e, kr_re o]
theorem g_sumOf {T : xT} {sa ns : Nat} {S : xS} {b t : Nat} {gv gp w p l r ro cap du ra sh ow bo ma de : Nat → Int32} {tf ll kn lo pa av ca re ye ch : Int32} (o : xbt b t) (tp : xTp T S.2.2) (si : xSi T S.2.2 sa) (so : xSo S sa ns) {k : Nat} (hk : k < ns) : f_X4_sumOf T (kS S b t gv gp tf ll w p l r kn lo ro pa av ca re ye ch cap du ra sh ow bo ma de) sa (nI k) b = some (eV S sa re ca ye (xtot (xhe bo de)) (xsm (fun k => bo k - de k) 8 0 ca) cap sh (S.1 (sa + 2) k) (S.1 (sa + 3) k), (kS S b t gv gp tf ll w p l r kn lo ro pa av ca re ye ch cap du ra sh ow bo ma de)) := by
  have h8 := so.2.1
  obtain ⟨a, c, ea, ec, ha, hc⟩ := so.2.2.2.1 k hk
  unfold f_X4_sumOf
  rw [sg_3 (S := (kS S b t gv gp tf ll w p l r kn lo ro pa av ca re ye ch cap du ra sh ow bo ma de)) si, sa_3 o si (by omega), sg_4 (S := (kS S b t gv gp tf ll w p l r kn lo ro pa av ca re ye ch cap du ra sh ow bo ma de)) si, sa_4 o si (by omega), ea, ec, g_eval o tp si so ha hc, xc_e]
theorem g_gift {T : xT} {sa ns : Nat} {S : xS} {b t : Nat} {gv gp w p l r ro cap du ra sh ow bo ma de : Nat → Int32} {tf ll kn lo pa av ca re ye ch : Int32} (o : xbt b t) (tp : xTp T S.2.2) (si : xSi T S.2.2 sa) (so : xSo S sa ns) {k : Nat} (hk : k < ns) : f_X4_gift T (kS S b t gv gp tf ll w p l r kn lo ro pa av ca re ye ch cap du ra sh ow bo ma de) sa (nI k) b = some (gif S sa pa re ca ye (xtot (xhe bo de)) (xsm (fun k => bo k - de k) 8 0 ca) cap sh k, (kS S b t gv gp tf ll w p l r kn lo ro pa av ca re ye ch cap du ra sh ow bo ma de)) := by
  have h8 := so.2.1
  obtain ⟨q, hq, eq⟩ := so.2.2.1 k hk
  have er : xrcv S sa k = q := by unfold xrcv; rw [eq, nI_clamp (by omega)]
  unfold f_X4_gift gif
  rw [sg_2 (S := (kS S b t gv gp tf ll w p l r kn lo ro pa av ca re ye ch cap du ra sh ow bo ma de)) si, sa_2 o si (by omega), eq, g_has o hq, xc_e, er]
  by_cases hb : xb pa q = 0
  · rw [if_pos hb, if_pos hb, if_pos rfl]
  · rw [if_neg hb, if_neg hb, if_neg (by decide), kr_re o]
    by_cases h0 : 0 < re
    · rw [if_pos h0, if_pos h0, sg_7 (S := (kS S b t gv gp tf ll w p l r kn lo ro pa av ca re ye ch cap du ra sh ow bo ma de)) si, sa_7 o si (by omega)]
      by_cases h32 : S.1 (sa + 6) k = 32
      · rw [if_pos h32, if_pos h32, g_gift98 o tp si so hk]
      · obtain ⟨a, c, ea, ec, ha, hc⟩ := so.2.2.2.1 k hk
        obtain ⟨d, e, ed, ee, hd, he⟩ := so.2.2.2.2.1 k hk h32
        rw [if_neg h32, if_neg h32, sg_4 (S := (kS S b t gv gp tf ll w p l r kn lo ro pa av ca re ye ch cap du ra sh ow bo ma de)) si, sa_4 o si (by omega), sg_5 (S := (kS S b t gv gp tf ll w p l r kn lo ro pa av ca re ye ch cap du ra sh ow bo ma de)) si, sa_5 o si (by omega), ec, ed, g_eval o tp si so hc hd, xc_e, xl_e, sg_5 (S := (kS S b t gv gp tf ll w p l r kn lo ro pa av ca re ye ch cap du ra sh ow bo ma de)) si, sa_5 o si (by omega), sg_6 (S := (kS S b t gv gp tf ll w p l r kn lo ro pa av ca re ye ch cap du ra sh ow bo ma de)) si, sa_6 o si (by omega), ed, ee, g_eval o tp si so hd he, xc_e, xl_e, sg_7 (S := (kS S b t gv gp tf ll w p l r kn lo ro pa av ca re ye ch cap du ra sh ow bo ma de)) si, sa_7 o si (by omega), g_gift98 o tp si so hk, ec]
        by_cases h60 : S.1 (sa + 6) k = 60
        · rw [if_pos h60, if_pos h60]
          by_cases hl : eV S sa re ca ye (xtot (xhe bo de)) (xsm (fun k => bo k - de k) 8 0 ca) cap sh (nI c) (nI d) < eV S sa re ca ye (xtot (xhe bo de)) (xsm (fun k => bo k - de k) 8 0 ca) cap sh (nI d) (nI e)
          · rw [if_pos hl, if_pos hl]
          · rw [if_neg hl, if_neg hl]
        · rw [if_neg h60, if_neg h60]
          by_cases hl : eV S sa re ca ye (xtot (xhe bo de)) (xsm (fun k => bo k - de k) 8 0 ca) cap sh (nI d) (nI e) < eV S sa re ca ye (xtot (xhe bo de)) (xsm (fun k => bo k - de k) 8 0 ca) cap sh (nI c) (nI d)
          · rw [if_pos hl, if_pos hl]
          · rw [if_neg hl, if_neg hl]
    · rw [if_neg h0, if_neg h0]
/-- all specials: result, accounts, what was given -/
def gS (G : Nat → Int32 → (Nat → Int32) → Int32) (Q : Nat → Nat) : Nat → Nat → Int32 → (Nat → Int32) → (Nat → Int32) → Int32 × (Nat → Int32) × (Nat → Int32)
  | 0, _, re, cap, p => (re, cap, p)
  | m + 1, k, re, cap, p => if G k re cap ≤ 0 then gS G Q m (k + 1) re cap p else gS G Q m (k + 1) (re - G k re cap) (va_up cap (Q k) (cap (Q k) + G k re cap)) (va_up p (Q k) (p (Q k) + G k re cap))
def gF (S : xS) (sa : Nat) (pa ca ye : Int32) (sh bo de : Nat → Int32) : Nat → Int32 → (Nat → Int32) → Int32 := fun k re cap => gif S sa pa re ca ye (xtot (xhe bo de)) (xsm (fun k => bo k - de k) 8 0 ca) cap sh k
theorem L_give {T : xT} {sa ns : Nat} {S : xS} {b t : Nat} {gv gp w l r ro du ra sh ow bo ma de : Nat → Int32} {tf ll kn lo pa av ca ye ch : Int32} (o : xbt b t) (tp : xTp T S.2.2) (si : xSi T S.2.2 sa) (so : xSo S sa ns) : ∀ (m k n : Nat) (re : Int32) (cap p : Nat → Int32), k + m = ns → m < n → f_X2_giveSpecials_11 T n (kS S b t gv gp tf ll w p l r kn lo ro pa av ca re ye ch cap du ra sh ow bo ma de) 3 b sa t (nI k) = some (kS S b t gv gp tf ll w ((gS (gF S sa pa ca ye sh bo de) (xrcv S sa) m k re cap p).2.2) l r kn lo (rop 4 (gS (gF S sa pa ca ye sh bo de) (xrcv S sa) m k re cap p).2.2 ro) pa av ca ((gS (gF S sa pa ca ye sh bo de) (xrcv S sa) m k re cap p).1) ye ch ((gS (gF S sa pa ca ye sh bo de) (xrcv S sa) m k re cap p).2.1) du ra sh ow bo ma de) := by
  have h8 := so.2.1
  have e0 : ∀ (re : Int32) (cap p : Nat → Int32), (kS S b t gv gp tf ll w p l r kn lo ro pa av ca re ye ch cap du ra sh ow bo ma de).1 sa 0 = nI ns := fun re cap p => by rw [ka_out o (a := sa) (xSi_out (j := 0) si (by omega)), so.1]
  intro m
  induction m with
  | zero =>
    intro k n re cap p hk hn
    obtain ⟨n, rfl⟩ : ∃ n', n = n' + 1 := ⟨n - 1, by omega⟩
    obtain rfl : k = ns := by omega
    unfold f_X2_giveSpecials_11
    rw [e0, if_pos (nI_le (Nat.le_refl _) (by omega)), rr_3_5 (S := (kS S b t gv gp tf ll w p l r kn lo ro pa av ca re ye ch cap du ra sh ow bo ma de)) tp, g_row_4 o tp]
    rfl
  | succ m ih =>
    intro k n re cap p hk hn
    obtain ⟨n, rfl⟩ : ∃ n', n = n' + 1 := ⟨n - 1, by omega⟩
    obtain ⟨q, hq, eq⟩ := so.2.2.1 k (by omega)
    have er : xrcv S sa k = q := by unfold xrcv; rw [eq, nI_clamp (by omega)]
    unfold f_X2_giveSpecials_11
    rw [e0, if_neg (nI_ge (by omega) (by omega)), g_gift o tp si so (by omega), xc_e, xl_e]
    have eG : gS (gF S sa pa ca ye sh bo de) (xrcv S sa) (m + 1) k re cap p = if gF S sa pa ca ye sh bo de k re cap ≤ 0 then gS (gF S sa pa ca ye sh bo de) (xrcv S sa) m (k + 1) re cap p else gS (gF S sa pa ca ye sh bo de) (xrcv S sa) m (k + 1) (re - gF S sa pa ca ye sh bo de k re cap) (va_up cap (xrcv S sa k) (cap (xrcv S sa k) + gF S sa pa ca ye sh bo de k re cap)) (va_up p (xrcv S sa k) (p (xrcv S sa k) + gF S sa pa ca ye sh bo de k re cap)) := rfl
    have eF : gif S sa pa re ca ye (xtot (xhe bo de)) (xsm (fun k => bo k - de k) 8 0 ca) cap sh k = gF S sa pa ca ye sh bo de k re cap := rfl
    rw [eG, eF, er]
    generalize gF S sa pa ca ye sh bo de k re cap = g
    by_cases hg : g ≤ 0
    · rw [if_pos hg, if_pos hg, xl_e, nI_1, ih (k + 1) n re cap p (by omega) (by omega)]
    · rw [if_neg hg, if_neg hg, sg_2 (S := (kS S b t gv gp tf ll w p l r kn lo ro pa av ca re ye ch cap du ra sh ow bo ma de)) si, sa_2 o si (by omega), eq]
      simp (disch := first | assumption | omega | ((repeat first | apply kS_tp | apply xI_tp | apply xw_tp); exact tp) | (apply xn8 tp; decide) | (apply xnb o tp; omega)) only [↓xl_e, ↓xc_e, ↓xcv_e, ↓xpi_e, ↓reduceIte, ↓rr_3_0, ↓rr_3_1, ↓rr_3_4, ↓rr_3_5, ↓rr_3_6, ↓rr_3_7, ↓kg_6, ↓kg_7, ↓kg_8, ↓kg_9, ↓kg_10, ↓kg_11, ↓kg_12, ↓kg_13, ↓kg_t, ↓xai_w, ↓xst_w, kr_gv, kr_gp, kr_w, kr_p, kr_l, kr_r, kr_cap, kr_du, kr_ra, kr_sh, kr_ow, kr_bo, kr_ma, kr_de, kr_ro, kr_tf, kr_ll, kr_kn, kr_lo, kr_pa, kr_av, kr_ca, kr_re, kr_ye, kr_ch, kw_gv, kw_gp, kw_w, kw_p, kw_l, kw_r, kw_cap, kw_du, kw_ra, kw_sh, kw_ow, kw_bo, kw_ma, kw_de, kw_ro, kw_tf, kw_ll, kw_kn, kw_lo, kw_pa, kw_av, kw_ca, kw_re, kw_ye, kw_ch, x8_ff, nI_1, xb_e, xup_at, xm_n, xm_at, x00]
      rw [ih (k + 1) n _ _ _ (by omega) (by omega)]
theorem g_give {T : xT} {sa ns : Nat} {S : xS} {b t : Nat} {gv gp w p l r ro cap du ra sh ow bo ma de : Nat → Int32} {tf ll kn lo pa av ca re ye ch : Int32} (o : xbt b t) (tp : xTp T S.2.2) (si : xSi T S.2.2 sa) (so : xSo S sa ns) : f_X2_giveSpecials T (kS S b t gv gp tf ll w p l r kn lo ro pa av ca re ye ch cap du ra sh ow bo ma de) 3 b sa t = some (kS S b t gv gp tf ll w ((gS (gF S sa pa ca ye sh bo de) (xrcv S sa) ns 0 re cap (fun _ => 0)).2.2) l r kn lo (rop 4 (gS (gF S sa pa ca ye sh bo de) (xrcv S sa) ns 0 re cap (fun _ => 0)).2.2 ro) pa av ca ((gS (gF S sa pa ca ye sh bo de) (xrcv S sa) ns 0 re cap (fun _ => 0)).1) ye ch ((gS (gF S sa pa ca ye sh bo de) (xrcv S sa) ns 0 re cap (fun _ => 0)).2.1) du ra sh ow bo ma de) := by
  have h8 := so.2.1
  unfold f_X2_giveSpecials
  rw [rr_3_5 (S := (kS S b t gv gp tf ll w p l r kn lo ro pa av ca re ye ch cap du ra sh ow bo ma de)) tp, g_fill_p o tp, xcv_e, xl_e]
  exact L_give o tp si so ns 0 xfu re cap (fun _ => 0) (by omega) (by show ns < 1000; omega)
