/-! rows laid into the reference's row -/
theorem r_setU {S : xS} {M : zM} {x y : Nat} {F : Nat → Nat → Int32} {wt pt gq ls sp u' : Nat → Int32} (r : zR S M) : zR (rS S (366 * 0) wt pt gq ls sp (encF F u')) (M.sN (x, y, F, u')) := by
  obtain ⟨⟨r1, _⟩, r3, ⟨r4, r5⟩, r6, ⟨r7, r8⟩, r9, ⟨r10, r11, r12⟩, r13, r14⟩ := r
  have f : ∀ a, a < 200 ∨ 208 < a → (rS S (366 * 0) wt pt gq ls sp (encF F u')).1 a = S.1 a := fun a h => ra_out h
  have f1 : (rS S (366 * 0) wt pt gq ls sp (encF F u')).1 201 = S.1 201 := rfl
  have f2 : (rS S (366 * 0) wt pt gq ls sp (encF F u')).1 202 = S.1 202 := rfl
  have row : ∀ j F' v', 0 ≠ j → rV S j F' v' → rV (rS S (366 * 0) wt pt gq ls sp (encF F u')) j F' v' := fun j F' v' hj hv k hk => by
    rw [rS_row hj k hk]; exact hv k hk
  refine ⟨⟨by rw [f 199 (by omega)]; exact r1, wt, rS_wV⟩, fun k hk => ?_, ⟨by rw [f 199 (by omega)]; exact r4, fun k hk => row (3 + k) _ _ (by omega) (r5 k hk)⟩, fun k hk => ⟨fun z => by rw [f1]; exact (r6 k hk).1 z, fun K s z => ⟨by rw [f1]; exact ((r6 k hk).2 K s z).1, row (1 + k) _ _ (by omega) ((r6 k hk).2 K s z).2⟩⟩, ⟨by rw [f 199 (by omega)]; exact r7, fun k hk => by rw [f2]; exact r8 k hk⟩, by rw [f 199 (by omega)]; exact r9, ⟨by rw [f 199 (by omega)]; exact r10, by rw [f 199 (by omega)]; exact r11, fun k hk => by rw [f 213 (by omega)]; exact r12 k hk⟩, by rw [f 199 (by omega)]; exact r13, fun k hk => by rw [f 214 (by omega)]; exact r14 k hk⟩
  rw [ra_200, x366_in hk]
  rfl
theorem h_putu {T : xT} {S : xS} {b : Nat} {wt pt gq ls sp ro cap du ra sh ow bo ma de u : Nat → Int32} {kn lo pa av ca re ye ch : Int32} (tp : xTp T S.2.2) (hb : S.1 199 1 = nI b) (hb2 : b ≤ 5490) {j : Nat} {v : Int32} (hj : 77 ≤ j ∧ j < 308) : f_X10_put T (rS S b wt pt gq ls sp (enc kn lo ro pa av ca re ye ch cap du ra sh ow bo ma de u)) 199 (nI j) v = some (rS S b wt pt gq ls sp (enc kn lo ro pa av ca re ye ch cap du ra sh ow bo ma de (va_up u j v))) := by
  rw [rput tp hb hb2 (by omega), ew_u hj]
theorem ra_203 {S : xS} {b : Nat} {wt pt gq ls sp r : Nat → Int32} : (rS S b wt pt gq ls sp r).1 203 = S.1 203 := rfl
theorem ra_199 {S : xS} {b : Nat} {wt pt gq ls sp r : Nat → Int32} : (rS S b wt pt gq ls sp r).1 199 = S.1 199 := rfl
theorem L_t46 {T : xT} {fi : Nat} {S : xS} {b : Nat} {wt pt gq ls sp ro cap du ra sh ow bo ma de : Nat → Int32} {kn lo pa av ca re ye ch : Int32} (tp : xTp T S.2.2) (hb : S.1 199 1 = nI b) (hb2 : b ≤ 5490) (h14 : S.1 199 14 = nI fi) (hfi : fi ≤ 8) : ∀ (m k n : Nat) (u : Nat → Int32), k + m = 9 * (fi + 1) → m < n → f_X10_tiers_46 T n (rS S b wt pt gq ls sp (enc kn lo ro pa av ca re ye ch cap du ra sh ow bo ma de u)) 199 (nI k) = some (nI (fi + 1), (rS S b wt pt gq ls sp (enc kn lo ro pa av ca re ye ch cap du ra sh ow bo ma de (fun j => if 78 + k ≤ j ∧ j < 78 + 9 * (fi + 1) then S.1 203 (j - 78) else u j)))) := by
  have e9 : (9 : Int32) * (nI fi + 1) = nI (9 * (fi + 1)) := by rw [nI_1]; exact pk_mul 9 _
  intro m
  induction m with
  | zero =>
    intro k n u hk hn
    obtain ⟨n, rfl⟩ : ∃ n', n = n' + 1 := ⟨n - 1, by omega⟩
    obtain rfl : k = 9 * (fi + 1) := by omega
    unfold f_X10_tiers_46
    rw [ra_199, h14, e9, if_pos (Int32.le_refl _), nI_1]
    have eu : (fun j => if 78 + 9 * (fi + 1) ≤ j ∧ j < 78 + 9 * (fi + 1) then S.1 203 (j - 78) else u j) = u := funext fun j => if_neg (by omega)
    rw [eu]
  | succ m ih =>
    intro k n u hk hn
    obtain ⟨n, rfl⟩ : ∃ n', n = n' + 1 := ⟨n - 1, by omega⟩
    unfold f_X10_tiers_46
    rw [ra_199, h14, e9, if_neg (show ¬ nI (9 * (fi + 1)) ≤ nI k by rw [xle, nI_toInt (by omega), nI_toInt (by omega)]; omega), rr_199_13 (S := (rS S b wt pt gq ls sp (enc kn lo ro pa av ca re ye ch cap du ra sh ow bo ma de u))) tp, xai_n (S := (rS S b wt pt gq ls sp (enc kn lo ro pa av ca re ye ch cap du ra sh ow bo ma de u))) (xTp_n tp 81 (by decide) rfl) (by omega) (by decide), ra_203, ix_78, h_putu tp hb hb2 (by omega), xcv_e, xl_e, nI_1, ih (k + 1) n _ (by omega) (by omega)]
    have eu : (fun j => if 78 + (k + 1) ≤ j ∧ j < 78 + 9 * (fi + 1) then S.1 203 (j - 78) else va_up u (78 + k) (S.1 203 k) j) = fun j => if 78 + k ≤ j ∧ j < 78 + 9 * (fi + 1) then S.1 203 (j - 78) else u j := funext fun j => by
      by_cases z : j = 78 + k
      · subst z
        show (if _ then _ else va_up u (78 + k) (S.1 203 k) (78 + k)) = _
        rw [if_neg (by omega), xup_at, if_pos (by omega), show 78 + k - 78 = k by omega]
      · show (if _ then _ else va_up u (78 + k) (S.1 203 k) j) = _
        rw [va_up_ne _ _ z]
        by_cases y : 78 + k ≤ j ∧ j < 78 + 9 * (fi + 1)
        · rw [if_pos (by omega), if_pos y]
        · rw [if_neg (by omega), if_neg y]
    rw [eu]
theorem L_pl {T : xT} {S : xS} {b : Nat} {wt pt gq ls sp ro cap du ra sh ow bo ma de : Nat → Int32} {kn lo pa av ca re ye ch : Int32} (tp : xTp T S.2.2) (hb : S.1 199 1 = nI b) (hb2 : b ≤ 5490) : ∀ (m k n : Nat) (u : Nat → Int32), k + m = 8 → m < n → f_X10_layPlainTiers_16 T n (rS S b wt pt gq ls sp (enc kn lo ro pa av ca re ye ch cap du ra sh ow bo ma de u)) 199 (nI k) = some (rS S b wt pt gq ls sp (enc kn lo ro pa av ca re ye ch cap du ra sh ow bo ma de (fun j => if 79 + k ≤ j ∧ j < 87 then 1 else u j))) := by
  intro m
  induction m with
  | zero =>
    intro k n u hk hn
    obtain ⟨n, rfl⟩ : ∃ n', n = n' + 1 := ⟨n - 1, by omega⟩
    obtain rfl : k = 8 := by omega
    unfold f_X10_layPlainTiers_16
    rw [if_pos x8_t]
    have eu : (fun j => if 79 + 8 ≤ j ∧ j < 87 then (1 : Int32) else u j) = u := funext fun j => if_neg (by omega)
    rw [eu]
  | succ m ih =>
    intro k n u hk hn
    obtain ⟨n, rfl⟩ : ∃ n', n = n' + 1 := ⟨n - 1, by omega⟩
    unfold f_X10_layPlainTiers_16
    rw [if_neg (x8_f (show k < 8 by omega)), show (79 : Int32) + nI k = nI (79 + k) from nI_add 79 k, h_putu tp hb hb2 (by omega), xcv_e, xl_e, nI_1, ih (k + 1) n _ (by omega) (by omega)]
    have eu : (fun j => if 79 + (k + 1) ≤ j ∧ j < 87 then (1 : Int32) else va_up u (79 + k) 1 j) = fun j => if 79 + k ≤ j ∧ j < 87 then 1 else u j := funext fun j => by
      by_cases z : j = 79 + k
      · subst z
        show (if _ then _ else va_up u (79 + k) 1 (79 + k)) = _
        rw [if_neg (by omega), xup_at, if_pos (by omega)]
      · show (if _ then _ else va_up u (79 + k) 1 j) = _
        rw [va_up_ne _ _ z]
        by_cases y : 79 + k ≤ j ∧ j < 87
        · rw [if_pos (by omega), if_pos y]
        · rw [if_neg (by omega), if_neg y]
    rw [eu]
def uPl (u : Nat → Int32) : Nat → Int32 := fun j => if 79 + 0 ≤ j ∧ j < 87 then 1 else va_up (va_up u 77 0) 78 (-1) j
def uTi (u : Nat → Int32) (fi : Nat) (A : Nat → Int32) : Nat → Int32 := fun j => if 78 + 0 ≤ j ∧ j < 78 + 9 * (fi + 1) then A (j - 78) else va_up u 77 (nI fi) j
theorem h_plain {T : xT} {S : xS} {b : Nat} {wt pt gq ls sp ro cap du ra sh ow bo ma de u : Nat → Int32} {kn lo pa av ca re ye ch : Int32} (tp : xTp T S.2.2) (hb : S.1 199 1 = nI b) (hb2 : b ≤ 5490) : f_X10_layPlainTiers T (rS S b wt pt gq ls sp (enc kn lo ro pa av ca re ye ch cap du ra sh ow bo ma de u)) 199 = some (rS S b wt pt gq ls sp (enc kn lo ro pa av ca re ye ch cap du ra sh ow bo ma de (uPl u))) := by
  unfold f_X10_layPlainTiers
  rw [show (77 : Int32) = nI 77 from rfl, h_putu tp hb hb2 (by omega), xcv_e, show (78 : Int32) = nI 78 from rfl, h_putu tp hb hb2 (by omega), xcv_e, xl_e]
  exact L_pl tp hb hb2 8 0 xfu _ rfl (by decide)
theorem h_tiers46 {T : xT} {fi : Nat} {S : xS} {b : Nat} {wt pt gq ls sp ro cap du ra sh ow bo ma de u : Nat → Int32} {kn lo pa av ca re ye ch : Int32} (tp : xTp T S.2.2) (hb : S.1 199 1 = nI b) (hb2 : b ≤ 5490) (h14 : S.1 199 14 = nI fi) (hfi : fi ≤ 8) : xcv (f_X10_put T (rS S b wt pt gq ls sp (enc kn lo ro pa av ca re ye ch cap du ra sh ow bo ma de u)) 199 (77 : Int32) (nI fi)) (fun S6 => xl (0 : Int32) (fun v7 => f_X10_tiers_46 T xfu S6 199 v7)) = some (nI (fi + 1), (rS S b wt pt gq ls sp (enc kn lo ro pa av ca re ye ch cap du ra sh ow bo ma de (uTi u fi (S.1 203))))) := by
  rw [show (77 : Int32) = nI 77 from rfl, h_putu tp hb hb2 (by omega), xcv_e, xl_e]
  exact L_t46 tp hb hb2 h14 hfi (9 * (fi + 1)) 0 xfu _ (by omega) (by show 9 * (fi + 1) < 1000; omega)
/-! now's tiers, now's specials put anew -/
theorem c_put2 {T : xT} {S : xS} {M : zM} {x : Nat} {u' : Nat → Int32} (c : zC T S M) : zC T (xR S 17 2 (some x)) (M.sN (x, M.now.2.1, M.now.2.2.1, u')) := by
  have hr : ∀ a, a ≠ 17 → (xR S 17 2 (some x)).2.2 a = S.2.2 a := fun a ha => xput_ne _ _ _ ha
  have tp' : xTp T (xR S 17 2 (some x)).2.2 := ⟨c.1.1, fun q hq => by
    by_cases e : q.1 = 17
    · have := (rf17 q hq e).1
      rw [e, xR_1, va_up_ne _ _ this, ← e]; exact c.1.2 q hq
    · rw [hr _ e]; exact c.1.2 q hq⟩
  exact zC_k (M := M) hr tp' (fun k _ => rfl) rfl (fun a _ => rfl) (fun a _ _ => rfl) (fun a _ => rfl) ⟨by rw [xR_1, xup_at], by rw [xR_1, va_up_ne _ _ (by decide)]; exact c.2.1.2.1, c.2.1.2.2⟩ c
theorem c_put3 {T : xT} {S : xS} {M : zM} {x : Nat} {u' : Nat → Int32} (c : zC T S M) : zC T (xR S 17 3 (some x)) (M.sN (M.now.1, x, M.now.2.2.1, u')) := by
  have hr : ∀ a, a ≠ 17 → (xR S 17 3 (some x)).2.2 a = S.2.2 a := fun a ha => xput_ne _ _ _ ha
  have tp' : xTp T (xR S 17 3 (some x)).2.2 := ⟨c.1.1, fun q hq => by
    by_cases e : q.1 = 17
    · have := (rf17 q hq e).2
      rw [e, xR_1, va_up_ne _ _ this, ← e]; exact c.1.2 q hq
    · rw [hr _ e]; exact c.1.2 q hq⟩
  exact zC_k (M := M) hr tp' (fun k _ => rfl) rfl (fun a _ => rfl) (fun a _ _ => rfl) (fun a _ => rfl) ⟨by rw [xR_1, va_up_ne _ _ (by decide)]; exact c.2.1.1, by rw [xR_1, xup_at], c.2.1.2.2⟩ c
theorem tB_self (S : xS) (ta : Nat) : tB S ta (S.1 ta) (S.1 (ta + 1)) (S.1 (ta + 2)) = S := by
  unfold tB
  rw [xw_self, xw_self, xw_self]
