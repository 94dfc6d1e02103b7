/-! what specials give, in the reference -/
def spR (S0 : xS) (sa : Nat) (u : Nat → Int32) (ns : Nat) : Prop := u 159 = nI ns ∧ ns ≤ 8 ∧ ∀ k, k < ns → (∃ q, q < 8 ∧ S0.1 (sa + 1) k = nI q ∧ u (160 + 6 * k) = nI q) ∧ ∃ a c A C, (S0.1 (sa + 2) k = nI a ∧ S0.1 (sa + 3) k = nI c ∧ u (160 + 6 * k + 2) = nI A ∧ u (160 + 6 * k + 3) = nI C ∧ a ≤ 40 ∧ c ≤ 40 ∧ C ≤ 100 ∧ cs (S0.1 (sa + 7)) (S0.1 (sa + 8)) (S0.1 (sa + 9)) (fun j => u (208 + j)) a c A C) ∧ ((S0.1 (sa + 6) k = 32 ∧ u (160 + 6 * k + 1) = 0) ∨ ((S0.1 (sa + 6) k = 60 ∨ S0.1 (sa + 6) k = 62) ∧ u (160 + 6 * k + 1) = S0.1 (sa + 6) k ∧ ∃ d e D E, S0.1 (sa + 4) k = nI d ∧ S0.1 (sa + 5) k = nI e ∧ u (160 + 6 * k + 4) = nI D ∧ u (160 + 6 * k + 5) = nI E ∧ d ≤ 40 ∧ e ≤ 40 ∧ D ≤ 100 ∧ E ≤ 100 ∧ cs (S0.1 (sa + 7)) (S0.1 (sa + 8)) (S0.1 (sa + 9)) (fun j => u (208 + j)) c d C D ∧ cs (S0.1 (sa + 7)) (S0.1 (sa + 8)) (S0.1 (sa + 9)) (fun j => u (208 + j)) d e D E))
theorem rget_159 {T : xT} {S : xS} {b : Nat} {wt pt gq ls sp ro cap du ra sh ow bo ma de u : Nat → Int32} {kn lo pa av ca re ye ch : Int32} (tp : xTp T S.2.2) (hb : S.1 199 1 = nI b) (hb2 : b ≤ 5490) : f_X10_get T (rS S b wt pt gq ls sp (enc kn lo ro pa av ca re ye ch cap du ra sh ow bo ma de u)) 199 (159 : Int32) = some (u 159, (rS S b wt pt gq ls sp (enc kn lo ro pa av ca re ye ch cap du ra sh ow bo ma de u))) := by
  have h := rget (T := T) (S := S) (b := b) (wt := wt) (pt := pt) (gq := gq) (ls := ls) (sp := sp) (r := (enc kn lo ro pa av ca re ye ch cap du ra sh ow bo ma de u)) (k := 159) tp hb hb2 (by decide)
  rw [er_u (by decide)] at h
  exact h
theorem ix160 (k : Nat) : (160 : Int32) + (6 : Int32) * nI k = nI (160 + 6 * k) := by
  rw [show (6 : Int32) * nI k = nI (6 * k) from pk_mul 6 k, ix_160]
theorem h_specAt (T : xT) (S : xS) (k : Nat) : f_X10_specialAt T S (nI k) = some (nI (160 + 6 * k), S) := by
  unfold f_X10_specialAt
  rw [ix160]
theorem rget_sp {T : xT} {S : xS} {b : Nat} {wt pt gq ls sp ro cap du ra sh ow bo ma de u : Nat → Int32} {kn lo pa av ca re ye ch : Int32} (tp : xTp T S.2.2) (hb : S.1 199 1 = nI b) (hb2 : b ≤ 5490) {k : Nat} (hk : k < 8) : f_X10_get T (rS S b wt pt gq ls sp (enc kn lo ro pa av ca re ye ch cap du ra sh ow bo ma de u)) 199 (nI (160 + 6 * k)) = some (u (160 + 6 * k), (rS S b wt pt gq ls sp (enc kn lo ro pa av ca re ye ch cap du ra sh ow bo ma de u))) := by
  rw [rget tp hb hb2 (by omega), er_u (by omega)]
theorem rget_sp1 {T : xT} {S : xS} {b : Nat} {wt pt gq ls sp ro cap du ra sh ow bo ma de u : Nat → Int32} {kn lo pa av ca re ye ch : Int32} (tp : xTp T S.2.2) (hb : S.1 199 1 = nI b) (hb2 : b ≤ 5490) {k f : Nat} {f' : Int32} (hk : k < 8) (hf : f < 6) (e : f' = nI f) : f_X10_get T (rS S b wt pt gq ls sp (enc kn lo ro pa av ca re ye ch cap du ra sh ow bo ma de u)) 199 (nI (160 + 6 * k) + f') = some (u (160 + 6 * k + f), (rS S b wt pt gq ls sp (enc kn lo ro pa av ca re ye ch cap du ra sh ow bo ma de u))) := by
  rw [e, nI_add, rget tp hb hb2 (by omega), er_u (by omega)]
/-- for a result above 0: both ways to keep a gift in bounds are one -/
theorem xgift {r e : Int32} (h : 0 < r) : xmin r (xmax 0 e) = xmax 0 (xmin r e) := by
  rw [xgt0] at h
  rw [xeq, xmin_i, xmax_i, xmax_i, xmin_i, show (0 : Int32).toInt = 0 from by decide]
  omega
theorem eV_e (S0 : xS) (sa : Nat) (re ca ye he ne : Int32) (cap sh : Nat → Int32) {a c : Nat} (ha : a ≤ 40) (hc : c ≤ 40) : eV S0 sa re ca ye he ne cap sh (nI a) (nI c) = ev (fun t => xvo (S0.1 (sa + 7) t) (S0.1 (sa + 8) t) re ca ye he ne cap sh) (S0.1 (sa + 9)) (c - a) a 0 0 0 := by
  unfold eV
  rw [nI_clamp (by omega), nI_clamp (by omega)]
theorem h_gives104 {T : xT} {S0 : xS} {sa ns : Nat} {S : xS} {b : Nat} {wt pt gq ls sp ro cap du ra sh ow bo ma de u : Nat → Int32} {kn lo pa av ca re ye ch : Int32} (tp : xTp T S.2.2) (hb : S.1 199 1 = nI b) (hb2 : b ≤ 5490) (ha : xAs av bo ma de) (sr : spR S0 sa u ns) {k : Nat} (hk : k < ns) (h0 : 0 < re) : ∃ P', f_X10_givesNow_104 T (rS S b wt pt gq ls sp (enc kn lo ro pa av ca re ye ch cap du ra sh ow bo ma de u)) 199 (nI (160 + 6 * k)) = some (xmax 0 (xmin re (eV S0 sa re ca ye (xtot (xhe bo de)) (xsm (fun k => bo k - de k) 8 0 ca) cap sh (S0.1 (sa + 2) k) (S0.1 (sa + 3) k))), (rS (xw S 211 P') b wt pt gq ls sp (enc kn lo ro pa av ca re ye ch cap du ra sh ow bo ma de u))) := by
  have h8 := sr.2.1
  obtain ⟨_, a, c, A, C, ⟨e1, e2, e3, e4, h1, h2, h3, h4⟩, _⟩ := sr.2.2 k hk
  obtain ⟨P', ew⟩ := h_work (T := T) (S := S) (b := b) (wt := wt) (pt := pt) (gq := gq) (ls := ls) (sp := sp) (kn := kn) (lo := lo) (ro := ro) (pa := pa) (av := av) (ca := ca) (re := re) (ye := ye) (ch := ch) (cap := cap) (du := du) (ra := ra) (sh := sh) (ow := ow) (bo := bo) (ma := ma) (de := de) (u := u) tp hb hb2 ha h3 h4
  refine ⟨P', ?_⟩
  unfold f_X10_givesNow_104
  rw [rget_2 tp hb hb2, xc_e, rget_sp1 tp hb hb2 (f := 2) (f' := 2) (by omega) (by decide) rfl, xc_e, rget_sp1 tp hb hb2 (f := 3) (f' := 3) (by omega) (by decide) rfl, xc_e, e3, e4, ew, xc_e, h_greater, xc_e, h_lesser, xc_e, xgift h0, e1, e2, eV_e _ _ _ _ _ _ _ _ _ h1 h2]
theorem h_gives {T : xT} {S0 : xS} {sa ns : Nat} {S : xS} {b : Nat} {wt pt gq ls sp ro cap du ra sh ow bo ma de u : Nat → Int32} {kn lo pa av ca re ye ch : Int32} (tp : xTp T S.2.2) (hb : S.1 199 1 = nI b) (hb2 : b ≤ 5490) (ha : xAs av bo ma de) (sr : spR S0 sa u ns) {k : Nat} (hk : k < ns) : ∃ P', f_X10_givesNow T (rS S b wt pt gq ls sp (enc kn lo ro pa av ca re ye ch cap du ra sh ow bo ma de u)) 199 (nI k) = some (gif S0 sa pa re ca ye (xtot (xhe bo de)) (xsm (fun k => bo k - de k) 8 0 ca) cap sh k, (rS (xw S 211 P') b wt pt gq ls sp (enc kn lo ro pa av ca re ye ch cap du ra sh ow bo ma de u))) := by
  have h8 := sr.2.1
  obtain ⟨⟨q, hq, eq1, eq2⟩, a, c, A, C, ⟨e1, e2, e3, e4, h1, h2, h3, h4⟩, hrel⟩ := sr.2.2 k hk
  have er : xrcv S0 sa k = q := by unfold xrcv; rw [eq1, nI_clamp (by omega)]
  unfold f_X10_givesNow gif
  rw [h_specAt, xc_e, xl_e, rget_sp tp hb hb2 (by omega), xc_e, eq2, h_there tp hb hb2 hq, xc_e, er]
  by_cases hx : xb pa q = 0
  · rw [if_pos hx, if_pos hx]
    exact ⟨S.1 211, by rw [xw_self]⟩
  · rw [if_neg hx, if_neg hx, rget_2 tp hb hb2, xc_e]
    by_cases h0 : 0 < re
    · rw [if_pos h0, if_pos h0, rget_sp1 tp hb hb2 (f := 1) (f' := 1) (by omega) (by decide) rfl, xc_e, xl_e]
      rcases hrel with ⟨g1, g2⟩ | ⟨g1, g2, d, e, D, E, f1, f2, f3, f4, hd, he, hD, hE, c1, c2⟩
      · rw [g2, if_pos rfl, if_pos g1]
        exact h_gives104 tp hb hb2 ha sr hk h0
      · have n0 : ¬ S0.1 (sa + 6) k = 0 := by rcases g1 with h | h <;> (rw [h]; decide)
        have n32 : ¬ S0.1 (sa + 6) k = 32 := by rcases g1 with h | h <;> (rw [h]; decide)
        rw [g2, if_neg n0, if_neg n32, rget_sp1 tp hb hb2 (f := 3) (f' := 3) (by omega) (by decide) rfl, xc_e, rget_sp1 tp hb hb2 (f := 4) (f' := 4) (by omega) (by decide) rfl, xc_e, e4, f3]
        obtain ⟨P1, w1⟩ := h_work (T := T) (S := S) (b := b) (wt := wt) (pt := pt) (gq := gq) (ls := ls) (sp := sp) (kn := kn) (lo := lo) (ro := ro) (pa := pa) (av := av) (ca := ca) (re := re) (ye := ye) (ch := ch) (cap := cap) (du := du) (ra := ra) (sh := sh) (ow := ow) (bo := bo) (ma := ma) (de := de) (u := u) tp hb hb2 ha hD c1
        rw [w1, xc_e, xl_e]
        have hb1 := xw_hb (P := P1) hb
        rw [rget_sp1 (S := xw S 211 P1) tp hb1 hb2 (f := 4) (f' := 4) (by omega) (by decide) rfl, xc_e, rget_sp1 (S := xw S 211 P1) tp hb1 hb2 (f := 5) (f' := 5) (by omega) (by decide) rfl, xc_e, f3, f4]
        obtain ⟨P2, w2⟩ := h_work (T := T) (S := xw S 211 P1) (b := b) (wt := wt) (pt := pt) (gq := gq) (ls := ls) (sp := sp) (kn := kn) (lo := lo) (ro := ro) (pa := pa) (av := av) (ca := ca) (re := re) (ye := ye) (ch := ch) (cap := cap) (du := du) (ra := ra) (sh := sh) (ow := ow) (bo := bo) (ma := ma) (de := de) (u := u) tp hb1 hb2 ha hE c2
        rw [w2, xc_e, xl_e, xw_w]
        have hb3 := xw_hb (P := P2) hb
        obtain ⟨P3, w3⟩ := h_gives104 (T := T) (S0 := S0) (S := xw S 211 P2) (b := b) (wt := wt) (pt := pt) (gq := gq) (ls := ls) (sp := sp) (kn := kn) (lo := lo) (ro := ro) (pa := pa) (av := av) (ca := ca) (re := re) (ye := ye) (ch := ch) (cap := cap) (du := du) (ra := ra) (sh := sh) (ow := ow) (bo := bo) (ma := ma) (de := de) (u := u) tp hb3 hb2 ha sr hk h0
        rw [xw_w] at w3
        rw [w3, e2, f1, f2, eV_e _ _ _ _ _ _ _ _ _ h2 hd, eV_e _ _ _ _ _ _ _ _ _ hd he]
        by_cases h60 : S0.1 (sa + 6) k = 60
        · rw [if_pos h60, if_pos h60]
          by_cases hl : ev (fun t => xvo (S0.1 (sa + 7) t) (S0.1 (sa + 8) t) re ca ye (xtot (xhe bo de)) (xsm (fun k => bo k - de k) 8 0 ca) cap sh) (S0.1 (sa + 9)) (d - c) c 0 0 0 < ev (fun t => xvo (S0.1 (sa + 7) t) (S0.1 (sa + 8) t) re ca ye (xtot (xhe bo de)) (xsm (fun k => bo k - de k) 8 0 ca) cap sh) (S0.1 (sa + 9)) (e - d) d 0 0 0
          · rw [if_pos hl, if_pos hl]; exact ⟨P3, rfl⟩
          · rw [if_neg hl, if_neg hl]; exact ⟨P2, rfl⟩
        · rw [if_neg h60, if_neg h60]
          by_cases hl : ev (fun t => xvo (S0.1 (sa + 7) t) (S0.1 (sa + 8) t) re ca ye (xtot (xhe bo de)) (xsm (fun k => bo k - de k) 8 0 ca) cap sh) (S0.1 (sa + 9)) (e - d) d 0 0 0 < ev (fun t => xvo (S0.1 (sa + 7) t) (S0.1 (sa + 8) t) re ca ye (xtot (xhe bo de)) (xsm (fun k => bo k - de k) 8 0 ca) cap sh) (S0.1 (sa + 9)) (d - c) c 0 0 0
          · rw [if_pos hl, if_pos hl]; exact ⟨P3, rfl⟩
          · rw [if_neg hl, if_neg hl]; exact ⟨P2, rfl⟩
    · rw [if_neg h0, if_neg h0]
      exact ⟨S.1 211, by rw [xw_self]⟩
theorem gif_ind {S0 : xS} {sa : Nat} {pa re ca ye he ne : Int32} {cap sh : Nat → Int32} {k : Nat} {P : Int32 → Prop} (h0 : P 0) (hm : ∀ x, P (xmax 0 (xmin re x))) : P (gif S0 sa pa re ca ye he ne cap sh k) := by
  unfold gif
  by_cases a1 : xb pa (xrcv S0 sa k) = 0
  · rw [if_pos a1]; exact h0
  · rw [if_neg a1]
    by_cases a2 : 0 < re
    · rw [if_pos a2]
      by_cases a3 : S0.1 (sa + 6) k = 32
      · rw [if_pos a3]; exact hm _
      · rw [if_neg a3]
        by_cases a4 : S0.1 (sa + 6) k = 60
        · rw [if_pos a4]
          split
          · exact hm _
          · exact h0
        · rw [if_neg a4]
          split
          · exact hm _
          · exact h0
    · rw [if_neg a2]; exact h0
theorem gif_nn (S0 : xS) (sa : Nat) (pa re ca ye he ne : Int32) (cap sh : Nat → Int32) (k : Nat) : 0 ≤ (gif S0 sa pa re ca ye he ne cap sh k).toInt :=
  gif_ind (P := fun v => 0 ≤ v.toInt) (by decide) (fun x => by rw [xmax_i, show (0 : Int32).toInt = 0 from by decide]; omega)
theorem rop_up {q i : Nat} {p ro : Nat → Int32} {v : Int32} (h : i < 8) : va_up (rop q p ro) (8 * q + i) v = rop q (va_up p i v) ro := by
  funext k
  unfold rop
  by_cases hk : k = 8 * q + i
  · subst hk; rw [xup_at, if_pos (by omega), show 8 * q + i - 8 * q = i by omega, xup_at]
  · rw [va_up_ne _ _ hk]
    show (if 8 * q ≤ k ∧ k < 8 * q + 8 then p (k - 8 * q) else ro k) = _
    by_cases h2 : 8 * q ≤ k ∧ k < 8 * q + 8
    · rw [if_pos h2, if_pos h2, va_up_ne _ _ (by omega)]
    · rw [if_neg h2, if_neg h2]
theorem L_rgive {T : xT} {S0 : xS} {sa ns : Nat} {S : xS} {b : Nat} {wt pt gq ls sp ro du ra sh ow bo ma de u : Nat → Int32} {kn lo pa av ca ye ch : Int32} (tp : xTp T S.2.2) (hb : S.1 199 1 = nI b) (hb2 : b ≤ 5490) (ha : xAs av bo ma de) (sr : spR S0 sa u ns) : ∀ (m k n : Nat) (re : Int32) (cap p P : Nat → Int32), k + m = ns → m < n → ∃ P', f_X10_giveSpecials_2 T n (rS (xw S 211 P) b wt pt gq ls sp (enc kn lo (rop 4 p ro) pa av ca re ye ch cap du ra sh ow bo ma de u)) 199 (nI k) = some (rS (xw S 211 P') b wt pt gq ls sp (enc kn lo (rop 4 (gS (gF S0 sa pa ca ye sh bo de) (xrcv S0 sa) m k re cap p).2.2 ro) pa av ca ((gS (gF S0 sa pa ca ye sh bo de) (xrcv S0 sa) m k re cap p).1) ye ch ((gS (gF S0 sa pa ca ye sh bo de) (xrcv S0 sa) m k re cap p).2.1) du ra sh ow bo ma de u)) := by
  have h8 := sr.2.1
  intro m
  induction m with
  | zero =>
    intro k n re cap p P hk hn
    obtain ⟨n, rfl⟩ : ∃ n', n = n' + 1 := ⟨n - 1, by omega⟩
    obtain rfl : k = ns := by omega
    unfold f_X10_giveSpecials_2
    rw [rget_159 (S := xw S 211 P) tp (xw_hb hb) hb2, xc_e, sr.1, if_pos (nI_le (Nat.le_refl _) (by omega))]
    exact ⟨P, rfl⟩
  | succ m ih =>
    intro k n re cap p P hk hn
    obtain ⟨n, rfl⟩ : ∃ n', n = n' + 1 := ⟨n - 1, by omega⟩
    obtain ⟨⟨q, hq, eq1, eq2⟩, _⟩ := sr.2.2 k (by omega)
    have er : xrcv S0 sa k = q := by unfold xrcv; rw [eq1, nI_clamp (by omega)]
    unfold f_X10_giveSpecials_2
    rw [rget_159 (S := xw S 211 P) tp (xw_hb hb) hb2, xc_e, sr.1, if_neg (nI_ge (by omega) (by omega))]
    obtain ⟨P1, w1⟩ := h_gives (T := T) (S0 := S0) (S := xw S 211 P) (b := b) (wt := wt) (pt := pt) (gq := gq) (ls := ls) (sp := sp) (kn := kn) (lo := lo) (ro := rop 4 p ro) (pa := pa) (av := av) (ca := ca) (re := re) (ye := ye) (ch := ch) (cap := cap) (du := du) (ra := ra) (sh := sh) (ow := ow) (bo := bo) (ma := ma) (de := de) (u := u) tp (xw_hb hb) hb2 ha sr (show k < ns by omega)
    rw [xw_w] at w1
    have hb1 := xw_hb (P := P1) hb
    have eG : gS (gF S0 sa pa ca ye sh bo de) (xrcv S0 sa) (m + 1) k re cap p = if gF S0 sa pa ca ye sh bo de k re cap ≤ 0 then gS (gF S0 sa pa ca ye sh bo de) (xrcv S0 sa) m (k + 1) re cap p else gS (gF S0 sa pa ca ye sh bo de) (xrcv S0 sa) m (k + 1) (re - gF S0 sa pa ca ye sh bo de k re cap) (va_up cap (xrcv S0 sa k) (cap (xrcv S0 sa k) + gF S0 sa pa ca ye sh bo de k re cap)) (va_up p (xrcv S0 sa k) (p (xrcv S0 sa k) + gF S0 sa pa ca ye sh bo de k re cap)) := rfl
    have eF : gif S0 sa pa re ca ye (xtot (xhe bo de)) (xsm (fun k => bo k - de k) 8 0 ca) cap sh k = gF S0 sa pa ca ye sh bo de k re cap := rfl
    have hg0 : 0 ≤ (gF S0 sa pa ca ye sh bo de k re cap).toInt := gif_nn _ _ _ _ _ _ _ _ _ _ _
    have ix4 : ((310 : Int32) + (8 : Int32) * 4) + nI q = nI (310 + (8 * 4 + q)) := ix310 4 q
    have hrq : rop 4 p ro (8 * 4 + q) = p q := rop_in hq
    rw [w1, xc_e, xl_e, h_specAt, xc_e, rget_sp (S := xw S 211 P1) tp hb1 hb2 (by omega), xc_e, xl_e, eq2, ix_5, rmore (S := xw S 211 P1) tp hb1 hb2 (by omega), xcv_e, er_cap hq, ew_cap hq]
    unfold f_X10_stepAt
    rw [xc_e, ix4, rmore (S := xw S 211 P1) tp hb1 hb2 (by omega), xcv_e, er_ro (by omega), ew_ro (by omega), hrq, rop_up hq, rmore_2 (S := xw S 211 P1) tp hb1 hb2, xcv_e, xl_e, nI_1, xsn, eF, eG, er]
    generalize gF S0 sa pa ca ye sh bo de k re cap = g at hg0 ⊢
    by_cases hg : g ≤ 0
    · have hz : g = 0 := by rw [xeq0]; rw [xle0] at hg; omega
      rw [if_pos hg, hz, xadd0, xadd0, xsub0, xup_self, xup_self]
      exact ih (k + 1) n re cap p P1 (by omega) (by omega)
    · rw [if_neg hg]
      exact ih (k + 1) n _ _ _ P1 (by omega) (by omega)
theorem h_give {T : xT} {S0 : xS} {sa ns : Nat} {S : xS} {b : Nat} {wt pt gq ls sp ro cap du ra sh ow bo ma de u : Nat → Int32} {kn lo pa av ca re ye ch : Int32} (tp : xTp T S.2.2) (hb : S.1 199 1 = nI b) (hb2 : b ≤ 5490) (ha : xAs av bo ma de) (sr : spR S0 sa u ns) (hz : ∀ k, 32 ≤ k → k < 40 → ro k = 0) : ∃ P', f_X10_giveSpecials T (rS S b wt pt gq ls sp (enc kn lo ro pa av ca re ye ch cap du ra sh ow bo ma de u)) 199 = some (rS (xw S 211 P') b wt pt gq ls sp (enc kn lo (rop 4 (gS (gF S0 sa pa ca ye sh bo de) (xrcv S0 sa) ns 0 re cap (fun _ => 0)).2.2 ro) pa av ca ((gS (gF S0 sa pa ca ye sh bo de) (xrcv S0 sa) ns 0 re cap (fun _ => 0)).1) ye ch ((gS (gF S0 sa pa ca ye sh bo de) (xrcv S0 sa) ns 0 re cap (fun _ => 0)).2.1) du ra sh ow bo ma de u)) := by
  have h8 := sr.2.1
  obtain ⟨P', e⟩ := L_rgive (T := T) (S0 := S0) (S := S) (b := b) (wt := wt) (pt := pt) (gq := gq) (ls := ls) (sp := sp) (kn := kn) (lo := lo) (ro := ro) (pa := pa) (av := av) (ca := ca) (ye := ye) (ch := ch) (du := du) (ra := ra) (sh := sh) (ow := ow) (bo := bo) (ma := ma) (de := de) (u := u) tp hb hb2 ha sr ns 0 xfu re cap (fun _ => 0) (S.1 211) (by omega) (by show ns < 1000; omega)
  rw [xw_self, rop_0 (q := 4) (fun k h1 h2 => hz k (by omega) (by omega))] at e
  exact ⟨P', e⟩
