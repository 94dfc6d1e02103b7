/-! the plain acts: duty, ratio, pay, draw, market, lose, borrow, repay, earn -/
theorem zDo_mk {T : xT} {S S1 : xS} {M : zM} {B B' : Int} {kd wh n : Int32} {rf : xT → xS → Option (Int32 × xS)} {no v : Int32} {mk : Bool} {gv gp w p l r ro cap du ra sh ow bo ma de : Nat → Int32} {tf ll kn lo pa av ca re ye ch : Int32} (hb : B ≤ B') (e1 : f_X9_begins T S 0 kd wh n = some (1, S1)) (c1 : zC T S1 M.rm) (g1 : zG T S1 B M.rm) (f1 : zFr S S1) (e2 : f_X9_perform T S1 0 kd wh n = some (v, (kS S1 31 40 gv gp tf ll w p l r kn lo ro pa av ca re ye ch cap du ra sh ow bo ma de))) (hk : kn = 0 ∨ kn = 1) (ok : bOk B' pa av re ch cap du ra sh ow bo ma de) (hr : ∀ Sr, zR Sr M → xTp T Sr.2.2 → ∃ Sr', rf T Sr = some (v, Sr') ∧ zR Sr' (M.rm.sF' (FF kn lo ro pa av ca re ye ch cap du ra sh ow bo ma de)) ∧ zFq Sr Sr' ∧ (mk = true → Sr'.1 199 26 = 1)) : zDo T S M B' kd wh n rf no mk := by
  obtain ⟨d1, d2, d3⟩ := c_new (gv := gv) (gp := gp) (w := w) (p := p) (l := l) (r := r) (tf := tf) (ll := ll) (lo := lo) (ro := ro) (ca := ca) (ye := ye) c1 g1 f1 hb hk ok
  exact Or.inr ⟨S1, _, v, _, c1.1, e1, e2, d1, d2, d3, hr⟩
theorem q_mk {f : Option (Int32 × xS)} {Sr S1 Sx : xS} {M : zM} {v : Int32} {mk : Bool} {wt pt gq ls sp ro cap du ra sh ow bo ma de : Nat → Int32} {kn lo pa av ca re ye ch : Int32} (e : f = some (v, (rS Sx (366 * 0) wt pt gq ls sp (enc kn lo ro pa av ca re ye ch cap du ra sh ow bo ma de (M.now.2.2.2))))) (r1 : zR S1 M.rm) (y1 : S1.2 = Sr.2) (y2 : ∀ a, a ≠ 199 → a ≠ 200 → S1.1 a = Sr.1 a) (y3 : ∀ k, k ≠ 2 → S1.1 199 k = Sr.1 199 k) (x1 : Sx.2 = S1.2) (x2 : ∀ a, a ≠ 199 → a ≠ 211 → Sx.1 a = S1.1 a) (x3 : ∀ k, k ≠ 26 → Sx.1 199 k = S1.1 199 k) (hm : mk = true → Sx.1 199 26 = 1) : ∃ Sr', f = some (v, Sr') ∧ zR Sr' (M.rm.sF' (FF kn lo ro pa av ca re ye ch cap du ra sh ow bo ma de)) ∧ zFq Sr Sr' ∧ (mk = true → Sr'.1 199 26 = 1) := by
  obtain ⟨d1, d2⟩ := q_new (M := M.rm) (wt := wt) (pt := pt) (gq := gq) (ls := ls) (sp := sp) (ro := ro) (cap := cap) (du := du) (ra := ra) (sh := sh) (ow := ow) (bo := bo) (ma := ma) (de := de) (kn := kn) (lo := lo) (pa := pa) (av := av) (ca := ca) (re := re) (ye := ye) (ch := ch) r1 y1 y2 y3 x1 x2 x3
  exact ⟨_, e, d1, d2, fun z => by rw [ra_out (by omega)]; exact hm z⟩
theorem q_mk1 {f : Option (Int32 × xS)} {Sr S1 : xS} {M : zM} {v : Int32} {mk : Bool} {wt pt gq ls sp ro cap du ra sh ow bo ma de : Nat → Int32} {kn lo pa av ca re ye ch : Int32} (e : f = some (v, (rS (xI S1 199 26 1) (366 * 0) wt pt gq ls sp (enc kn lo ro pa av ca re ye ch cap du ra sh ow bo ma de (M.now.2.2.2))))) (r1 : zR S1 M.rm) (y1 : S1.2 = Sr.2) (y2 : ∀ a, a ≠ 199 → a ≠ 200 → S1.1 a = Sr.1 a) (y3 : ∀ k, k ≠ 2 → S1.1 199 k = Sr.1 199 k) : ∃ Sr', f = some (v, Sr') ∧ zR Sr' (M.rm.sF' (FF kn lo ro pa av ca re ye ch cap du ra sh ow bo ma de)) ∧ zFq Sr Sr' ∧ (mk = true → Sr'.1 199 26 = 1) := q_mk e r1 y1 y2 y3 rfl (fun a h _ => xI_ne h) (fun k h => xI_at h) (fun _ => by rw [xI_1, xup_at])
theorem q_mk0 {f : Option (Int32 × xS)} {Sr S1 : xS} {M : zM} {v : Int32} {wt pt gq ls sp ro cap du ra sh ow bo ma de : Nat → Int32} {kn lo pa av ca re ye ch : Int32} (e : f = some (v, (rS S1 (366 * 0) wt pt gq ls sp (enc kn lo ro pa av ca re ye ch cap du ra sh ow bo ma de (M.now.2.2.2))))) (r1 : zR S1 M.rm) (y1 : S1.2 = Sr.2) (y2 : ∀ a, a ≠ 199 → a ≠ 200 → S1.1 a = Sr.1 a) (y3 : ∀ k, k ≠ 2 → S1.1 199 k = Sr.1 199 k) : ∃ Sr', f = some (v, Sr') ∧ zR Sr' (M.rm.sF' (FF kn lo ro pa av ca re ye ch cap du ra sh ow bo ma de)) ∧ zFq Sr Sr' ∧ (false = true → Sr'.1 199 26 = 1) := q_mk e r1 y1 y2 y3 rfl (fun a _ _ => rfl) (fun k _ => rfl) (fun z => absurd z (by decide))
theorem bOk_mono {B B' : Int} {pa av re ch : Int32} {cap du ra sh ow bo ma de : Nat → Int32} (hb : B ≤ B') (h : bOk B pa av re ch cap du ra sh ow bo ma de) : bOk B' pa av re ch cap du ra sh ow bo ma de := bOkF_mono (F := FF 0 0 (fun _ => 0) pa av 0 re 0 ch cap du ra sh ow bo ma de) hb h
theorem some_ex {α : Type} {o : Option α} {x : α} (h : o = some x) : ∃ y, o = some y ∧ y = x := ⟨x, h, rfl⟩
theorem some_ex2 {α β : Type} {o : Option (α × β)} {v : α} {x : β} (h : o = some (v, x)) : ∃ y, o = some (v, y) ∧ y = x := ⟨x, h, rfl⟩
theorem oo : xbt 31 40 := Or.inl ⟨rfl, rfl⟩
theorem kn_ok {T : xT} {S : xS} {B : Int} {M : zM} (g : zG T S B M) : M.now.2.2.1 9 0 = 0 ∨ M.now.2.2.1 9 0 = 1 := g.1.2.1
/-! the reference's chains behind a deed -/
def t_bring (T : xT) (S : xS) (p n : Int32) : Option (Int32 × xS) := xcv (f_X10_more T S 199 ((3 : Int32)) n) (fun S2 => xcv (f_X10_more T S2 199 (((5 : Int32) + p)) n) (fun S3 => xc (f_X10_get T S3 199 (((5 : Int32) + p))) (fun r5 S4 => xc (f_X10_tells T S4 199 r5) (fun r7 S6 => some (r7, S6)))))
def t_owes (T : xT) (S : xS) (p n : Int32) : Option (Int32 × xS) := xc (f_X10_assetAt T S p) (fun r3 S2 => xcv (f_X10_more T S2 199 ((r3 + (3 : Int32))) n) (fun S4 => xcv (f_X10_more T S4 199 ((3 : Int32)) n) (fun S5 => xc (f_X10_assetAt T S5 p) (fun r7 S6 => xc (f_X10_get T S6 199 ((r7 + (3 : Int32)))) (fun r9 S8 => xc (f_X10_tells T S8 199 r9) (fun r11 S10 => some (r11, S10)))))))
def t_lose (T : xT) (S : xS) (p n : Int32) : Option (Int32 × xS) := xc (f_X10_assetAt T S p) (fun r13 S12 => xcv (f_X10_more T S12 199 ((r13 + (1 : Int32))) ((-n))) (fun S14 => xcv (f_X10_more T S14 199 ((2 : Int32)) ((-n))) (fun S15 => xc (f_X10_assetAt T S15 p) (fun r17 S16 => xc (f_X10_get T S16 199 ((r17 + (1 : Int32)))) (fun r19 S18 => xc (f_X10_tells T S18 199 r19) (fun r21 S20 => some (r21, S20)))))))
def t_earn (T : xT) (S : xS) (n : Int32) : Option (Int32 × xS) := xcv (f_X10_earned T S 199 n) (fun S4 => xc (f_X10_get T S4 199 ((2 : Int32))) (fun r6 S5 => xc (f_X10_tells T S5 199 r6) (fun r8 S7 => some (r8, S7))))
theorem h_bring {T : xT} {S : xS} {b : Nat} {wt pt gq ls sp ro cap du ra sh ow bo ma de u : Nat → Int32} {kn lo pa av ca re ye ch : Int32} {n : Int32} (tp : xTp T S.2.2) (hb : S.1 199 1 = nI b) (hb2 : b ≤ 5490) {i : Nat} (hi : i < 8) : t_bring T (rS S b wt pt gq ls sp (enc kn lo ro pa av ca re ye ch cap du ra sh ow bo ma de u)) (nI i) n = some (cap i + n, (rS (xI S 199 26 1) b wt pt gq ls sp (enc kn lo ro pa av (ca + n) re ye ch (va_up cap i (cap i + n)) du ra sh ow bo ma de u))) := by
  unfold t_bring
  rw [rmore_3 tp hb hb2, xcv_e, ix_5, rmore tp hb hb2 (by omega), xcv_e, er_cap hi, ew_cap hi, rget tp hb hb2 (by omega), xc_e, er_cap hi, xup_at, h_tells, xc_e]
theorem h_owes {T : xT} {S : xS} {b : Nat} {wt pt gq ls sp ro cap du ra sh ow bo ma de u : Nat → Int32} {kn lo pa av ca re ye ch : Int32} {n : Int32} (tp : xTp T S.2.2) (hb : S.1 199 1 = nI b) (hb2 : b ≤ 5490) {i : Nat} (hi : i < 8) : t_owes T (rS S b wt pt gq ls sp (enc kn lo ro pa av ca re ye ch cap du ra sh ow bo ma de u)) (nI i) n = some (de i + n, (rS (xI S 199 26 1) b wt pt gq ls sp (enc kn lo ro pa av (ca + n) re ye ch cap du ra sh ow bo ma (va_up de i (de i + n)) u))) := by
  unfold t_owes
  rw [h_assetAt, xc_e, ix453, rmore tp hb hb2 (by omega), xcv_e, er_de hi, ew_de hi, rmore_3 tp hb hb2, xcv_e, h_assetAt, xc_e, ix453, rget tp hb hb2 (by omega), xc_e, er_de hi, xup_at, h_tells, xc_e]
theorem h_lose {T : xT} {S : xS} {b : Nat} {wt pt gq ls sp ro cap du ra sh ow bo ma de u : Nat → Int32} {kn lo pa av ca re ye ch : Int32} {n : Int32} (tp : xTp T S.2.2) (hb : S.1 199 1 = nI b) (hb2 : b ≤ 5490) {i : Nat} (hi : i < 8) : t_lose T (rS S b wt pt gq ls sp (enc kn lo ro pa av ca re ye ch cap du ra sh ow bo ma de u)) (nI i) n = some (bo i - n, (rS (xI S 199 26 1) b wt pt gq ls sp (enc kn lo ro pa av ca (re - n) ye ch cap du ra sh ow (va_up bo i (bo i - n)) ma de u))) := by
  unfold t_lose
  rw [h_assetAt, xc_e, ix451, rmore tp hb hb2 (by omega), xcv_e, er_bo hi, ew_bo hi, rmore_2 tp hb hb2, xcv_e, h_assetAt, xc_e, ix451, rget tp hb hb2 (by omega), xc_e, er_bo hi, xup_at, h_tells, xc_e, xsn, xsn]
theorem h_earn {T : xT} {S : xS} {b : Nat} {wt pt gq ls sp ro cap du ra sh ow bo ma de u : Nat → Int32} {kn lo pa av ca re ye ch : Int32} {n : Int32} (tp : xTp T S.2.2) (hb : S.1 199 1 = nI b) (hb2 : b ≤ 5490) : t_earn T (rS S b wt pt gq ls sp (enc kn lo ro pa av ca re ye ch cap du ra sh ow bo ma de u)) n = some (re + n, (rS (xI S 199 26 1) b wt pt gq ls sp (enc kn lo ro pa av (ca + n) (re + n) ye ch cap du ra sh ow bo ma de u))) := by
  unfold t_earn
  rw [h_earned tp hb hb2, xcv_e, rget_2 tp hb hb2, xc_e, h_tells, xc_e]
theorem h_putdu {T : xT} {S : xS} {b : Nat} {wt pt gq ls sp ro cap du ra sh ow bo ma de u : Nat → Int32} {kn lo pa av ca re ye ch : Int32} {n : Int32} (tp : xTp T S.2.2) (hb : S.1 199 1 = nI b) (hb2 : b ≤ 5490) {i : Nat} (hi : i < 8) : f_X10_put T (rS S b wt pt gq ls sp (enc kn lo ro pa av ca re ye ch cap du ra sh ow bo ma de u)) 199 (nI (13 + i)) n = some (rS S b wt pt gq ls sp (enc kn lo ro pa av ca re ye ch cap (va_up du i n) ra sh ow bo ma de u)) := by
  rw [rput tp hb hb2 (by omega), ew_du hi]
theorem h_putra {T : xT} {S : xS} {b : Nat} {wt pt gq ls sp ro cap du ra sh ow bo ma de u : Nat → Int32} {kn lo pa av ca re ye ch : Int32} {n : Int32} (tp : xTp T S.2.2) (hb : S.1 199 1 = nI b) (hb2 : b ≤ 5490) {i : Nat} (hi : i < 8) : f_X10_put T (rS S b wt pt gq ls sp (enc kn lo ro pa av ca re ye ch cap du ra sh ow bo ma de u)) 199 (nI (21 + i)) n = some (rS S b wt pt gq ls sp (enc kn lo ro pa av ca re ye ch cap du (va_up ra i n) sh ow bo ma de u)) := by
  rw [rput tp hb hb2 (by omega), ew_ra hi]
theorem h_putma {T : xT} {S : xS} {b : Nat} {wt pt gq ls sp ro cap du ra sh ow bo ma de u : Nat → Int32} {kn lo pa av ca re ye ch : Int32} {n : Int32} (tp : xTp T S.2.2) (hb : S.1 199 1 = nI b) (hb2 : b ≤ 5490) {i : Nat} (hi : i < 8) : f_X10_put T (rS S b wt pt gq ls sp (enc kn lo ro pa av ca re ye ch cap du ra sh ow bo ma de u)) 199 (nI (45 + 4 * i + 2)) n = some (rS S b wt pt gq ls sp (enc kn lo ro pa av ca re ye ch cap du ra sh ow bo (va_up ma i n) de u)) := by
  rw [rput tp hb hb2 (by omega), ew_ma hi]
theorem q_rem {T : xT} {Sr : xS} {M : zM} (hd : M.d ≤ 12) (r : zR Sr M) (tr : xTp T Sr.2.2) : ∃ S1 wt, f_X10_deed T Sr 199 = some S1 ∧ zR S1 M.rm ∧ xTp T S1.2.2 ∧ rF S1 (366 * 0) wt M.now.2.2.1 M.now.2.2.2 = S1 ∧ S1.2 = Sr.2 ∧ (∀ a, a ≠ 199 → a ≠ 200 → S1.1 a = Sr.1 a) ∧ ∀ k, k ≠ 2 → S1.1 199 k = Sr.1 199 k := by
  obtain ⟨S1, y0, r1, y1, y2, y3⟩ := r_rem tr hd r
  obtain ⟨wt, hs⟩ := q_self r1
  exact ⟨S1, wt, y0, r1, by rw [y1]; exact tr, hs, y1, y2, y3⟩
theorem n_sum1 {T : xT} {S : xS} {n : Int32} : (if n = (0 : Int32) then some ((0 : Int32), S) else xc (f_X9_isSum T S n) (fun r29 S28 => if r29 = (0 : Int32) then some ((0 : Int32), S28) else some ((1 : Int32), S28))) = some (if n < 1 then 0 else if 1000000 < n then 0 else 1, S) := by
  rw [n_sum, xc_e]
  by_cases h0 : n = 0
  · rw [if_pos h0, if_pos (show n < 1 by rw [h0]; decide)]
  · rw [if_neg h0]
    by_cases h1 : n < 0
    · rw [if_pos h1, if_pos rfl, if_pos (show n < 1 by rw [xlt, i0] at h1; rw [xlt, i1]; omega)]
    · rw [if_neg h1]
      have h2 : ¬ n < 1 := by
        rw [xlt, i0] at h1
        rw [xeq, i0] at h0
        rw [xlt, i1]; omega
      rw [if_neg h2]
      by_cases h3 : 1000000 < n
      · rw [if_pos h3, if_pos rfl]
      · rw [if_neg h3, if_neg (by decide)]
