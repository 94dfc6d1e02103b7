/-! the reference's overlay: a row of 366 that stands at b, and its desk -/
def enc (kn lo : Int32) (ro : Nat → Int32) (pa av ca re ye ch : Int32) (cap du ra sh ow bo ma de u : Nat → Int32) : Nat → Int32 := fun j =>
  if j < 13 then (if j = 0 then pa else if j = 1 then ye else if j = 2 then re else if j = 3 then ca else if j = 4 then ch else cap (j - 5))
  else if j < 45 then (if j < 21 then du (j - 13) else if j < 29 then ra (j - 21) else if j < 37 then sh (j - 29) else ow (j - 37))
  else if j < 77 then (if (j - 45) % 4 = 0 then xb av ((j - 45) / 4) else if (j - 45) % 4 = 1 then bo ((j - 45) / 4) else if (j - 45) % 4 = 2 then ma ((j - 45) / 4) else de ((j - 45) / 4))
  else if j < 308 then u j else if j = 308 then kn else if j = 309 then lo else ro (j - 310)
def x366 (b : Nat) (r old : Nat → Int32) : Nat → Int32 := fun j => if b ≤ j ∧ j < b + 366 then r (j - b) else old j
def x8j (f : Nat → Int32) (old : Nat → Int64) : Nat → Int64 := fun k => if k < 8 then (f k).toInt64 else old k
def rS (S : xS) (b : Nat) (wt pt gq ls sp : Nat → Int32) (r : Nat → Int32) : xS := (fun a => if a = 200 then x366 b r (S.1 200) else if a = 205 then x8 pt (S.1 205) else if a = 206 then x8 gq (S.1 206) else if a = 207 then x8 ls (S.1 207) else if a = 208 then x8 sp (S.1 208) else S.1 a, fun a => if a = 204 then x8j wt (S.2.1 204) else S.2.1 a, S.2.2)
theorem rS_tp {T : xT} {S : xS} {b : Nat} {wt pt gq ls sp r : Nat → Int32} (tp : xTp T S.2.2) : xTp T (rS S b wt pt gq ls sp r).2.2 := tp
theorem xJ_tp {T : xT} {S : xS} {a k : Nat} {v : Int64} (tp : xTp T S.2.2) : xTp T (xJ S a k v).2.2 := tp
theorem x8j_at {f : Nat → Int32} {old : Nat → Int64} {k : Nat} (h : k < 8) : x8j f old k = (f k).toInt64 := if_pos h
theorem x8j_cong {f g : Nat → Int32} {old : Nat → Int64} (h : ∀ k, k < 8 → f k = g k) : x8j f old = x8j g old := by
  funext k; unfold x8j
  by_cases hk : k < 8
  · rw [if_pos hk, if_pos hk, h k hk]
  · rw [if_neg hk, if_neg hk]
theorem x8j_up {f : Nat → Int32} {old : Nat → Int64} {i : Nat} {v : Int32} (h : i < 8) : va_up (x8j f old) i v.toInt64 = x8j (va_up f i v) old := by
  funext k; unfold x8j
  by_cases hk : k = i
  · subst hk; rw [xup_at, if_pos h, xup_at]
  · rw [va_up_ne _ _ hk, va_up_ne _ _ hk]
theorem x366_in {b k : Nat} {r old : Nat → Int32} (h : k < 366) : x366 b r old (b + k) = r k := by
  unfold x366
  rw [if_pos (by omega)]
  congr 1; omega
theorem x366_up {b k : Nat} {r old : Nat → Int32} {v : Int32} (h : k < 366) : va_up (x366 b r old) (b + k) v = x366 b (va_up r k v) old := by
  funext j; unfold x366
  by_cases hj : j = b + k
  · subst hj
    rw [xup_at, if_pos (by omega), show b + k - b = k by omega, xup_at]
  · rw [va_up_ne _ _ hj]
    show (if b ≤ j ∧ j < b + 366 then r (j - b) else old j) = _
    by_cases h2 : b ≤ j ∧ j < b + 366
    · rw [if_pos h2, if_pos h2, va_up_ne _ _ (by omega)]
    · rw [if_neg h2, if_neg h2]
theorem ra_205 {S : xS} {b : Nat} {wt pt gq ls sp r : Nat → Int32} : (rS S b wt pt gq ls sp r).1 205 = x8 pt (S.1 205) := rfl
theorem rr_pt {S : xS} {b : Nat} {wt pt gq ls sp r : Nat → Int32} {i : Nat} (h : i < 8) : (rS S b wt pt gq ls sp r).1 205 i = pt i := by rw [ra_205]; exact x8_at h
theorem rw_pt {S : xS} {b : Nat} {wt pt gq ls sp r : Nat → Int32} {i : Nat} (h : i < 8) {v : Int32} : xI (rS S b wt pt gq ls sp r) 205 i v = (rS S b wt (va_up pt i v) gq ls sp r) := by
  refine Prod.ext (funext fun a => ?_) rfl
  by_cases ha : a = 205
  · subst ha
    rw [xI_1, ra_205, ra_205, x8_up h]
  · rw [xI_ne ha]
    unfold rS
    simp only [ha, if_false]
theorem rc_pt {S : xS} {b : Nat} {wt pt gq ls sp r : Nat → Int32} {g : Nat → Int32} (h : ∀ k, k < 8 → pt k = g k) : (rS S b wt pt gq ls sp r) = (rS S b wt g gq ls sp r) := by
  unfold rS
  rw [x8_cong h]
theorem ra_206 {S : xS} {b : Nat} {wt pt gq ls sp r : Nat → Int32} : (rS S b wt pt gq ls sp r).1 206 = x8 gq (S.1 206) := rfl
theorem rr_gq {S : xS} {b : Nat} {wt pt gq ls sp r : Nat → Int32} {i : Nat} (h : i < 8) : (rS S b wt pt gq ls sp r).1 206 i = gq i := by rw [ra_206]; exact x8_at h
theorem rw_gq {S : xS} {b : Nat} {wt pt gq ls sp r : Nat → Int32} {i : Nat} (h : i < 8) {v : Int32} : xI (rS S b wt pt gq ls sp r) 206 i v = (rS S b wt pt (va_up gq i v) ls sp r) := by
  refine Prod.ext (funext fun a => ?_) rfl
  by_cases ha : a = 206
  · subst ha
    rw [xI_1, ra_206, ra_206, x8_up h]
  · rw [xI_ne ha]
    unfold rS
    simp only [ha, if_false]
theorem rc_gq {S : xS} {b : Nat} {wt pt gq ls sp r : Nat → Int32} {g : Nat → Int32} (h : ∀ k, k < 8 → gq k = g k) : (rS S b wt pt gq ls sp r) = (rS S b wt pt g ls sp r) := by
  unfold rS
  rw [x8_cong h]
theorem ra_207 {S : xS} {b : Nat} {wt pt gq ls sp r : Nat → Int32} : (rS S b wt pt gq ls sp r).1 207 = x8 ls (S.1 207) := rfl
theorem rr_ls {S : xS} {b : Nat} {wt pt gq ls sp r : Nat → Int32} {i : Nat} (h : i < 8) : (rS S b wt pt gq ls sp r).1 207 i = ls i := by rw [ra_207]; exact x8_at h
theorem rw_ls {S : xS} {b : Nat} {wt pt gq ls sp r : Nat → Int32} {i : Nat} (h : i < 8) {v : Int32} : xI (rS S b wt pt gq ls sp r) 207 i v = (rS S b wt pt gq (va_up ls i v) sp r) := by
  refine Prod.ext (funext fun a => ?_) rfl
  by_cases ha : a = 207
  · subst ha
    rw [xI_1, ra_207, ra_207, x8_up h]
  · rw [xI_ne ha]
    unfold rS
    simp only [ha, if_false]
theorem rc_ls {S : xS} {b : Nat} {wt pt gq ls sp r : Nat → Int32} {g : Nat → Int32} (h : ∀ k, k < 8 → ls k = g k) : (rS S b wt pt gq ls sp r) = (rS S b wt pt gq g sp r) := by
  unfold rS
  rw [x8_cong h]
theorem ra_208 {S : xS} {b : Nat} {wt pt gq ls sp r : Nat → Int32} : (rS S b wt pt gq ls sp r).1 208 = x8 sp (S.1 208) := rfl
theorem rr_sp {S : xS} {b : Nat} {wt pt gq ls sp r : Nat → Int32} {i : Nat} (h : i < 8) : (rS S b wt pt gq ls sp r).1 208 i = sp i := by rw [ra_208]; exact x8_at h
theorem rw_sp {S : xS} {b : Nat} {wt pt gq ls sp r : Nat → Int32} {i : Nat} (h : i < 8) {v : Int32} : xI (rS S b wt pt gq ls sp r) 208 i v = (rS S b wt pt gq ls (va_up sp i v) r) := by
  refine Prod.ext (funext fun a => ?_) rfl
  by_cases ha : a = 208
  · subst ha
    rw [xI_1, ra_208, ra_208, x8_up h]
  · rw [xI_ne ha]
    unfold rS
    simp only [ha, if_false]
theorem rc_sp {S : xS} {b : Nat} {wt pt gq ls sp r : Nat → Int32} {g : Nat → Int32} (h : ∀ k, k < 8 → sp k = g k) : (rS S b wt pt gq ls sp r) = (rS S b wt pt gq ls g r) := by
  unfold rS
  rw [x8_cong h]
theorem rc_wt {S : xS} {b : Nat} {wt pt gq ls sp r : Nat → Int32} {g : Nat → Int32} (h : ∀ k, k < 8 → wt k = g k) : (rS S b wt pt gq ls sp r) = (rS S b g pt gq ls sp r) := by
  unfold rS
  rw [x8j_cong h]
theorem rj_wt {S : xS} {b : Nat} {wt pt gq ls sp r : Nat → Int32} {i : Nat} (h : i < 8) : (rS S b wt pt gq ls sp r).2.1 204 i = (wt i).toInt64 := by
  show x8j wt (S.2.1 204) i = _
  exact x8j_at h
theorem rk_wt {S : xS} {b : Nat} {wt pt gq ls sp r : Nat → Int32} {i : Nat} (h : i < 8) {v : Int32} : xJ (rS S b wt pt gq ls sp r) 204 i v.toInt64 = (rS S b (va_up wt i v) pt gq ls sp r) := by
  refine Prod.ext rfl (Prod.ext (funext fun a => ?_) rfl)
  by_cases ha : a = 204
  · subst ha
    show xput (rS S b wt pt gq ls sp r).2.1 204 i v.toInt64 204 = _
    rw [xput_eq]
    exact x8j_up h
  · show xput (rS S b wt pt gq ls sp r).2.1 204 i v.toInt64 a = _
    rw [xput_ne _ _ _ ha]
    show (if a = 204 then _ else _) = if a = 204 then _ else _
    rw [if_neg ha, if_neg ha]
theorem ra_200 {S : xS} {b : Nat} {wt pt gq ls sp r : Nat → Int32} : (rS S b wt pt gq ls sp r).1 200 = x366 b r (S.1 200) := rfl
theorem ra_out {S : xS} {b : Nat} {wt pt gq ls sp r : Nat → Int32} {a : Nat} (h : a < 200 ∨ 208 < a) : (rS S b wt pt gq ls sp r).1 a = S.1 a := by
  unfold rS
  simp only [show a ≠ 200 by omega, show a ≠ 205 by omega, show a ≠ 206 by omega, show a ≠ 207 by omega, show a ≠ 208 by omega, if_false]
theorem rw_out {S : xS} {b : Nat} {wt pt gq ls sp r : Nat → Int32} {a k : Nat} {v : Int32} (h : a < 200 ∨ 208 < a) : xI (rS S b wt pt gq ls sp r) a k v = (rS (xI S a k v) b wt pt gq ls sp r) := by
  refine Prod.ext (funext fun c => ?_) rfl
  by_cases hc : c = a
  · subst hc
    rw [xI_1, ra_out h, ra_out h, xI_1]
  · rw [xI_ne hc]
    unfold rS
    rw [xI_ne (S := S) (a := a) (b := 200) (by omega), xI_ne (S := S) (a := a) (b := 205) (by omega), xI_ne (S := S) (a := a) (b := 206) (by omega), xI_ne (S := S) (a := a) (b := 207) (by omega), xI_ne (S := S) (a := a) (b := 208) (by omega)]
    show _ = (if c = 200 then _ else if c = 205 then _ else if c = 206 then _ else if c = 207 then _ else if c = 208 then _ else (xI S a k v).1 c)
    rw [xI_ne hc]
theorem rput {T : xT} {S : xS} {b : Nat} {wt pt gq ls sp r : Nat → Int32} {k : Nat} {v : Int32} (tp : xTp T S.2.2) (hb : S.1 199 1 = nI b) (hb2 : b ≤ 5490) (hk : k < 366) : f_X10_put T (rS S b wt pt gq ls sp r) 199 (nI k) v = some (rS S b wt pt gq ls sp (va_up r k v)) := by
  unfold f_X10_put
  have hn : T.2.1 200 = 5856 := xTp_n tp 5856 (by decide) rfl
  rw [rr_199_0 (S := (rS S b wt pt gq ls sp r)) tp, ra_out (a := 199) (by omega), hb, nI_add, xst_n hn (by omega) (by decide)]
  refine congrArg some (Prod.ext (funext fun a => ?_) rfl)
  by_cases ha : a = 200
  · subst ha
    rw [xI_1, ra_200, ra_200, x366_up hk]
  · rw [xI_ne ha]
    unfold rS
    simp only [ha, if_false]
theorem rget {T : xT} {S : xS} {b : Nat} {wt pt gq ls sp r : Nat → Int32} {k : Nat} (tp : xTp T S.2.2) (hb : S.1 199 1 = nI b) (hb2 : b ≤ 5490) (hk : k < 366) : f_X10_get T (rS S b wt pt gq ls sp r) 199 (nI k) = some (r k, (rS S b wt pt gq ls sp r)) := by
  unfold f_X10_get
  have hn : T.2.1 200 = 5856 := xTp_n tp 5856 (by decide) rfl
  rw [rr_199_0 (S := (rS S b wt pt gq ls sp r)) tp, ra_out (a := 199) (by omega), hb, nI_add, xai_n hn (by omega) (by decide), ra_200, x366_in hk]
theorem rmore {T : xT} {S : xS} {b : Nat} {wt pt gq ls sp r : Nat → Int32} {k : Nat} {v : Int32} (tp : xTp T S.2.2) (hb : S.1 199 1 = nI b) (hb2 : b ≤ 5490) (hk : k < 366) : f_X10_more T (rS S b wt pt gq ls sp r) 199 (nI k) v = some (rS S b wt pt gq ls sp (va_up r k (r k + v))) := by
  unfold f_X10_more
  have hn : T.2.1 200 = 5856 := xTp_n tp 5856 (by decide) rfl
  rw [rr_199_0 (S := (rS S b wt pt gq ls sp r)) tp, ra_out (a := 199) (by omega), hb, nI_add, xai_n hn (by omega) (by decide), xst_n hn (by omega) (by decide), ra_200, x366_in hk]
  refine congrArg some (Prod.ext (funext fun a => ?_) rfl)
  by_cases ha : a = 200
  · subst ha
    rw [xI_1, ra_200, ra_200, x366_up hk]
  · rw [xI_ne ha]
    unfold rS
    simp only [ha, if_false]
theorem er_pa {ro cap du ra sh ow bo ma de u : Nat → Int32} {kn lo pa av ca re ye ch : Int32} : (enc kn lo ro pa av ca re ye ch cap du ra sh ow bo ma de u) 0 = pa := rfl
theorem er_ye {ro cap du ra sh ow bo ma de u : Nat → Int32} {kn lo pa av ca re ye ch : Int32} : (enc kn lo ro pa av ca re ye ch cap du ra sh ow bo ma de u) 1 = ye := rfl
theorem er_re {ro cap du ra sh ow bo ma de u : Nat → Int32} {kn lo pa av ca re ye ch : Int32} : (enc kn lo ro pa av ca re ye ch cap du ra sh ow bo ma de u) 2 = re := rfl
theorem er_ca {ro cap du ra sh ow bo ma de u : Nat → Int32} {kn lo pa av ca re ye ch : Int32} : (enc kn lo ro pa av ca re ye ch cap du ra sh ow bo ma de u) 3 = ca := rfl
theorem er_ch {ro cap du ra sh ow bo ma de u : Nat → Int32} {kn lo pa av ca re ye ch : Int32} : (enc kn lo ro pa av ca re ye ch cap du ra sh ow bo ma de u) 4 = ch := rfl
theorem er_kn {ro cap du ra sh ow bo ma de u : Nat → Int32} {kn lo pa av ca re ye ch : Int32} : (enc kn lo ro pa av ca re ye ch cap du ra sh ow bo ma de u) 308 = kn := rfl
theorem er_lo {ro cap du ra sh ow bo ma de u : Nat → Int32} {kn lo pa av ca re ye ch : Int32} : (enc kn lo ro pa av ca re ye ch cap du ra sh ow bo ma de u) 309 = lo := rfl
theorem er_cap {ro cap du ra sh ow bo ma de u : Nat → Int32} {kn lo pa av ca re ye ch : Int32} {i : Nat} (h : i < 8) : (enc kn lo ro pa av ca re ye ch cap du ra sh ow bo ma de u) (5 + i) = cap i := by
  unfold enc
  rw [if_pos (by omega), if_neg (by omega), if_neg (by omega), if_neg (by omega), if_neg (by omega), if_neg (by omega)]
  rw [Nat.add_sub_cancel_left]
theorem er_du {ro cap du ra sh ow bo ma de u : Nat → Int32} {kn lo pa av ca re ye ch : Int32} {i : Nat} (h : i < 8) : (enc kn lo ro pa av ca re ye ch cap du ra sh ow bo ma de u) (13 + i) = du i := by
  unfold enc
  rw [if_neg (by omega), if_pos (by omega), if_pos (by omega)]
  rw [Nat.add_sub_cancel_left]
theorem er_ra {ro cap du ra sh ow bo ma de u : Nat → Int32} {kn lo pa av ca re ye ch : Int32} {i : Nat} (h : i < 8) : (enc kn lo ro pa av ca re ye ch cap du ra sh ow bo ma de u) (21 + i) = ra i := by
  unfold enc
  rw [if_neg (by omega), if_pos (by omega), if_neg (by omega), if_pos (by omega)]
  rw [Nat.add_sub_cancel_left]
theorem er_sh {ro cap du ra sh ow bo ma de u : Nat → Int32} {kn lo pa av ca re ye ch : Int32} {i : Nat} (h : i < 8) : (enc kn lo ro pa av ca re ye ch cap du ra sh ow bo ma de u) (29 + i) = sh i := by
  unfold enc
  rw [if_neg (by omega), if_pos (by omega), if_neg (by omega), if_neg (by omega), if_pos (by omega)]
  rw [Nat.add_sub_cancel_left]
theorem er_ow {ro cap du ra sh ow bo ma de u : Nat → Int32} {kn lo pa av ca re ye ch : Int32} {i : Nat} (h : i < 8) : (enc kn lo ro pa av ca re ye ch cap du ra sh ow bo ma de u) (37 + i) = ow i := by
  unfold enc
  rw [if_neg (by omega), if_pos (by omega), if_neg (by omega), if_neg (by omega), if_neg (by omega)]
  rw [Nat.add_sub_cancel_left]
theorem er_ro {ro cap du ra sh ow bo ma de u : Nat → Int32} {kn lo pa av ca re ye ch : Int32} {i : Nat} (h : i < 56) : (enc kn lo ro pa av ca re ye ch cap du ra sh ow bo ma de u) (310 + i) = ro i := by
  unfold enc
  rw [if_neg (by omega), if_neg (by omega), if_neg (by omega), if_neg (by omega), if_neg (by omega), if_neg (by omega)]
  rw [Nat.add_sub_cancel_left]
theorem er_av {ro cap du ra sh ow bo ma de u : Nat → Int32} {kn lo pa av ca re ye ch : Int32} {i : Nat} (h : i < 8) : (enc kn lo ro pa av ca re ye ch cap du ra sh ow bo ma de u) (45 + 4 * i + 0) = xb av i := by
  unfold enc
  rw [if_neg (by omega), if_neg (by omega), if_pos (by omega), if_pos (by omega), show (45 + 4 * i + 0 - 45) / 4 = i by omega]
theorem er_bo {ro cap du ra sh ow bo ma de u : Nat → Int32} {kn lo pa av ca re ye ch : Int32} {i : Nat} (h : i < 8) : (enc kn lo ro pa av ca re ye ch cap du ra sh ow bo ma de u) (45 + 4 * i + 1) = bo i := by
  unfold enc
  rw [if_neg (by omega), if_neg (by omega), if_pos (by omega), if_neg (by omega), if_pos (by omega), show (45 + 4 * i + 1 - 45) / 4 = i by omega]
theorem er_ma {ro cap du ra sh ow bo ma de u : Nat → Int32} {kn lo pa av ca re ye ch : Int32} {i : Nat} (h : i < 8) : (enc kn lo ro pa av ca re ye ch cap du ra sh ow bo ma de u) (45 + 4 * i + 2) = ma i := by
  unfold enc
  rw [if_neg (by omega), if_neg (by omega), if_pos (by omega), if_neg (by omega), if_neg (by omega), if_pos (by omega), show (45 + 4 * i + 2 - 45) / 4 = i by omega]
theorem er_de {ro cap du ra sh ow bo ma de u : Nat → Int32} {kn lo pa av ca re ye ch : Int32} {i : Nat} (h : i < 8) : (enc kn lo ro pa av ca re ye ch cap du ra sh ow bo ma de u) (45 + 4 * i + 3) = de i := by
  unfold enc
  rw [if_neg (by omega), if_neg (by omega), if_pos (by omega), if_neg (by omega), if_neg (by omega), if_neg (by omega), show (45 + 4 * i + 3 - 45) / 4 = i by omega]
theorem er_u {ro cap du ra sh ow bo ma de u : Nat → Int32} {kn lo pa av ca re ye ch : Int32} {j : Nat} (h : 77 ≤ j ∧ j < 308) : (enc kn lo ro pa av ca re ye ch cap du ra sh ow bo ma de u) j = u j := by
  unfold enc
  rw [if_neg (by omega), if_neg (by omega), if_neg (by omega), if_pos (by omega)]
theorem ew_pa {ro cap du ra sh ow bo ma de u : Nat → Int32} {kn lo pa av ca re ye ch : Int32} {v : Int32} : va_up (enc kn lo ro pa av ca re ye ch cap du ra sh ow bo ma de u) 0 v = (enc kn lo ro v av ca re ye ch cap du ra sh ow bo ma de u) := by
  funext j
  by_cases hj : j = 0
  · subst hj
    rw [xup_at]
    rfl
  · rw [va_up_ne _ _ hj]
    unfold enc
    simp only [hj, if_false]
theorem ew_ye {ro cap du ra sh ow bo ma de u : Nat → Int32} {kn lo pa av ca re ye ch : Int32} {v : Int32} : va_up (enc kn lo ro pa av ca re ye ch cap du ra sh ow bo ma de u) 1 v = (enc kn lo ro pa av ca re v ch cap du ra sh ow bo ma de u) := by
  funext j
  by_cases hj : j = 1
  · subst hj
    rw [xup_at]
    rfl
  · rw [va_up_ne _ _ hj]
    unfold enc
    simp only [hj, if_false]
theorem ew_re {ro cap du ra sh ow bo ma de u : Nat → Int32} {kn lo pa av ca re ye ch : Int32} {v : Int32} : va_up (enc kn lo ro pa av ca re ye ch cap du ra sh ow bo ma de u) 2 v = (enc kn lo ro pa av ca v ye ch cap du ra sh ow bo ma de u) := by
  funext j
  by_cases hj : j = 2
  · subst hj
    rw [xup_at]
    rfl
  · rw [va_up_ne _ _ hj]
    unfold enc
    simp only [hj, if_false]
theorem ew_ca {ro cap du ra sh ow bo ma de u : Nat → Int32} {kn lo pa av ca re ye ch : Int32} {v : Int32} : va_up (enc kn lo ro pa av ca re ye ch cap du ra sh ow bo ma de u) 3 v = (enc kn lo ro pa av v re ye ch cap du ra sh ow bo ma de u) := by
  funext j
  by_cases hj : j = 3
  · subst hj
    rw [xup_at]
    rfl
  · rw [va_up_ne _ _ hj]
    unfold enc
    simp only [hj, if_false]
theorem ew_ch {ro cap du ra sh ow bo ma de u : Nat → Int32} {kn lo pa av ca re ye ch : Int32} {v : Int32} : va_up (enc kn lo ro pa av ca re ye ch cap du ra sh ow bo ma de u) 4 v = (enc kn lo ro pa av ca re ye v cap du ra sh ow bo ma de u) := by
  funext j
  by_cases hj : j = 4
  · subst hj
    rw [xup_at]
    rfl
  · rw [va_up_ne _ _ hj]
    unfold enc
    simp only [hj, if_false]
theorem ew_kn {ro cap du ra sh ow bo ma de u : Nat → Int32} {kn lo pa av ca re ye ch : Int32} {v : Int32} : va_up (enc kn lo ro pa av ca re ye ch cap du ra sh ow bo ma de u) 308 v = (enc v lo ro pa av ca re ye ch cap du ra sh ow bo ma de u) := by
  funext j
  by_cases hj : j = 308
  · subst hj
    rw [xup_at]
    rfl
  · rw [va_up_ne _ _ hj]
    unfold enc
    simp only [hj, if_false]
theorem ew_lo {ro cap du ra sh ow bo ma de u : Nat → Int32} {kn lo pa av ca re ye ch : Int32} {v : Int32} : va_up (enc kn lo ro pa av ca re ye ch cap du ra sh ow bo ma de u) 309 v = (enc kn v ro pa av ca re ye ch cap du ra sh ow bo ma de u) := by
  funext j
  by_cases hj : j = 309
  · subst hj
    rw [xup_at]
    rfl
  · rw [va_up_ne _ _ hj]
    unfold enc
    simp only [hj, if_false]
theorem ew_cap {ro cap du ra sh ow bo ma de u : Nat → Int32} {kn lo pa av ca re ye ch : Int32} {i : Nat} (h : i < 8) {v : Int32} : va_up (enc kn lo ro pa av ca re ye ch cap du ra sh ow bo ma de u) (5 + i) v = (enc kn lo ro pa av ca re ye ch (va_up cap i v) du ra sh ow bo ma de u) := by
  funext j
  by_cases hj : j = 5 + i
  · rw [hj, xup_at, er_cap h, xup_at]
  · rw [va_up_ne _ _ hj]
    unfold enc
    repeat' split
    all_goals first | rw [va_up_ne _ _ (by omega)] | rfl
theorem ew_du {ro cap du ra sh ow bo ma de u : Nat → Int32} {kn lo pa av ca re ye ch : Int32} {i : Nat} (h : i < 8) {v : Int32} : va_up (enc kn lo ro pa av ca re ye ch cap du ra sh ow bo ma de u) (13 + i) v = (enc kn lo ro pa av ca re ye ch cap (va_up du i v) ra sh ow bo ma de u) := by
  funext j
  by_cases hj : j = 13 + i
  · rw [hj, xup_at, er_du h, xup_at]
  · rw [va_up_ne _ _ hj]
    unfold enc
    repeat' split
    all_goals first | rw [va_up_ne _ _ (by omega)] | rfl
theorem ew_ra {ro cap du ra sh ow bo ma de u : Nat → Int32} {kn lo pa av ca re ye ch : Int32} {i : Nat} (h : i < 8) {v : Int32} : va_up (enc kn lo ro pa av ca re ye ch cap du ra sh ow bo ma de u) (21 + i) v = (enc kn lo ro pa av ca re ye ch cap du (va_up ra i v) sh ow bo ma de u) := by
  funext j
  by_cases hj : j = 21 + i
  · rw [hj, xup_at, er_ra h, xup_at]
  · rw [va_up_ne _ _ hj]
    unfold enc
    repeat' split
    all_goals first | rw [va_up_ne _ _ (by omega)] | rfl
theorem ew_sh {ro cap du ra sh ow bo ma de u : Nat → Int32} {kn lo pa av ca re ye ch : Int32} {i : Nat} (h : i < 8) {v : Int32} : va_up (enc kn lo ro pa av ca re ye ch cap du ra sh ow bo ma de u) (29 + i) v = (enc kn lo ro pa av ca re ye ch cap du ra (va_up sh i v) ow bo ma de u) := by
  funext j
  by_cases hj : j = 29 + i
  · rw [hj, xup_at, er_sh h, xup_at]
  · rw [va_up_ne _ _ hj]
    unfold enc
    repeat' split
    all_goals first | rw [va_up_ne _ _ (by omega)] | rfl
theorem ew_ow {ro cap du ra sh ow bo ma de u : Nat → Int32} {kn lo pa av ca re ye ch : Int32} {i : Nat} (h : i < 8) {v : Int32} : va_up (enc kn lo ro pa av ca re ye ch cap du ra sh ow bo ma de u) (37 + i) v = (enc kn lo ro pa av ca re ye ch cap du ra sh (va_up ow i v) bo ma de u) := by
  funext j
  by_cases hj : j = 37 + i
  · rw [hj, xup_at, er_ow h, xup_at]
  · rw [va_up_ne _ _ hj]
    unfold enc
    repeat' split
    all_goals first | rw [va_up_ne _ _ (by omega)] | rfl
theorem ew_ro {ro cap du ra sh ow bo ma de u : Nat → Int32} {kn lo pa av ca re ye ch : Int32} {i : Nat} (h : i < 56) {v : Int32} : va_up (enc kn lo ro pa av ca re ye ch cap du ra sh ow bo ma de u) (310 + i) v = (enc kn lo (va_up ro i v) pa av ca re ye ch cap du ra sh ow bo ma de u) := by
  funext j
  by_cases hj : j = 310 + i
  · rw [hj, xup_at, er_ro h, xup_at]
  · rw [va_up_ne _ _ hj]
    unfold enc
    repeat' split
    all_goals first | rw [va_up_ne _ _ (by omega)] | rfl
theorem ew_bo {ro cap du ra sh ow bo ma de u : Nat → Int32} {kn lo pa av ca re ye ch : Int32} {i : Nat} (h : i < 8) {v : Int32} : va_up (enc kn lo ro pa av ca re ye ch cap du ra sh ow bo ma de u) (45 + 4 * i + 1) v = (enc kn lo ro pa av ca re ye ch cap du ra sh ow (va_up bo i v) ma de u) := by
  funext j
  by_cases hj : j = 45 + 4 * i + 1
  · rw [hj, xup_at, er_bo h, xup_at]
  · rw [va_up_ne _ _ hj]
    unfold enc
    repeat' split
    all_goals first | rw [va_up_ne _ _ (by omega)] | rfl
theorem ew_ma {ro cap du ra sh ow bo ma de u : Nat → Int32} {kn lo pa av ca re ye ch : Int32} {i : Nat} (h : i < 8) {v : Int32} : va_up (enc kn lo ro pa av ca re ye ch cap du ra sh ow bo ma de u) (45 + 4 * i + 2) v = (enc kn lo ro pa av ca re ye ch cap du ra sh ow bo (va_up ma i v) de u) := by
  funext j
  by_cases hj : j = 45 + 4 * i + 2
  · rw [hj, xup_at, er_ma h, xup_at]
  · rw [va_up_ne _ _ hj]
    unfold enc
    repeat' split
    all_goals first | rw [va_up_ne _ _ (by omega)] | rfl
theorem ew_de {ro cap du ra sh ow bo ma de u : Nat → Int32} {kn lo pa av ca re ye ch : Int32} {i : Nat} (h : i < 8) {v : Int32} : va_up (enc kn lo ro pa av ca re ye ch cap du ra sh ow bo ma de u) (45 + 4 * i + 3) v = (enc kn lo ro pa av ca re ye ch cap du ra sh ow bo ma (va_up de i v) u) := by
  funext j
  by_cases hj : j = 45 + 4 * i + 3
  · rw [hj, xup_at, er_de h, xup_at]
  · rw [va_up_ne _ _ hj]
    unfold enc
    repeat' split
    all_goals first | rw [va_up_ne _ _ (by omega)] | rfl
theorem xb_or {m : Int32} {i j : Nat} (hi : i < 32) (hj : j < 32) : xb (m ||| ((1 : Int32) <<< (nI i &&& 31))) j = if j = i then 1 else xb m j := by
  rw [xb_bt _ hj, xb_bt _ hj, b_or, b_shl i hi 1 hj]
  by_cases h : j = i
  · subst h
    rw [if_pos rfl, decide_eq_true (Nat.le_refl j), Nat.sub_self, b_1 0 (by omega)]
    simp
  · rw [if_neg h]
    by_cases h2 : i ≤ j
    · rw [decide_eq_true h2, b_1 (j - i) (by omega), decide_eq_false (by omega)]
      simp
    · rw [decide_eq_false h2]
      simp
theorem xb_wo {m : Int32} {i j : Nat} (hi : i < 32) (hj : j < 32) : xb (xwo m i) j = if j = i then 0 else xb m j := by
  unfold xwo
  rw [xb_bt _ hj, xb_bt _ hj, b_and, b_xor, b_shl i hi 1 hj, b_m1 j hj]
  by_cases h : j = i
  · subst h
    rw [if_pos rfl, decide_eq_true (Nat.le_refl j), Nat.sub_self, b_1 0 (by omega)]
    simp
  · rw [if_neg h]
    by_cases h2 : i ≤ j
    · rw [decide_eq_true h2, b_1 (j - i) (by omega), decide_eq_false (by omega)]
      simp
    · rw [decide_eq_false h2]
      simp
theorem ew_on {ro cap du ra sh ow bo ma de u : Nat → Int32} {kn lo pa av ca re ye ch : Int32} {i : Nat} (h : i < 8) : va_up (enc kn lo ro pa av ca re ye ch cap du ra sh ow bo ma de u) (45 + 4 * i + 0) 1 = (enc kn lo ro pa (av ||| ((1 : Int32) <<< (nI i &&& 31))) ca re ye ch cap du ra sh ow bo ma de u) := by
  funext j
  by_cases hj : j = 45 + 4 * i + 0
  · rw [hj, xup_at, er_av h, xb_or (by omega) (by omega), if_pos rfl]
  · rw [va_up_ne _ _ hj]
    unfold enc
    repeat' split
    all_goals first | rw [xb_or (by omega) (by omega), if_neg (by omega)] | rfl
theorem ew_off {ro cap du ra sh ow bo ma de u : Nat → Int32} {kn lo pa av ca re ye ch : Int32} {i : Nat} (h : i < 8) : va_up (enc kn lo ro pa av ca re ye ch cap du ra sh ow bo ma de u) (45 + 4 * i + 0) 0 = (enc kn lo ro pa (xwo av i) ca re ye ch cap du ra sh ow bo ma de u) := by
  funext j
  by_cases hj : j = 45 + 4 * i + 0
  · rw [hj, xup_at, er_av h, xb_wo (by omega) (by omega), if_pos rfl]
  · rw [va_up_ne _ _ hj]
    unfold enc
    repeat' split
    all_goals first | rw [xb_wo (by omega) (by omega), if_neg (by omega)] | rfl
theorem ew_u {ro cap du ra sh ow bo ma de u : Nat → Int32} {kn lo pa av ca re ye ch : Int32} {j : Nat} (h : 77 ≤ j ∧ j < 308) {v : Int32} : va_up (enc kn lo ro pa av ca re ye ch cap du ra sh ow bo ma de u) j v = (enc kn lo ro pa av ca re ye ch cap du ra sh ow bo ma de (va_up u j v)) := by
  funext k
  by_cases hj : k = j
  · rw [hj, xup_at, er_u h, xup_at]
  · rw [va_up_ne _ _ hj]
    unfold enc
    repeat' split
    all_goals first | rw [va_up_ne _ _ (by omega)] | rfl
theorem ix1 (n p : Nat) : (@OfNat.ofNat Int32 n Int32.instOfNat) + nI p = nI ((@OfNat.ofNat Nat n (instOfNatNat n)) + p) := nI_add n p
theorem ix9 (n p : Nat) : (@OfNat.ofNat Int32 n Int32.instOfNat) * nI p = nI ((@OfNat.ofNat Nat n (instOfNatNat n)) * p) := pk_mul n p
theorem ixa (p n : Nat) : nI p + (@OfNat.ofNat Int32 n Int32.instOfNat) = nI (p + (@OfNat.ofNat Nat n (instOfNatNat n))) := nI_add p n
