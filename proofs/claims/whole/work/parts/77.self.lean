/-! a state read through its numbers, on both sides -/
def FF (kn lo : Int32) (ro : Nat → Int32) (pa av ca re ye ch : Int32) (cap du ra sh ow bo ma de : Nat → Int32) : Nat → Nat → Int32
  | 0 => x06 pa av ca re ye ch (fun _ => 0)
  | 1 => cap
  | 2 => du
  | 3 => ra
  | 4 => sh
  | 5 => ow
  | 6 => bo
  | 7 => ma
  | 8 => de
  | 9 => x01 kn lo (fun _ => 0)
  | _ => ro
def kF (S : xS) (b t : Nat) (F : Nat → Nat → Int32) : xS := kS S b t (S.1 4) (S.1 5) (S.1 3 2) (S.1 3 3) (S.1 6) (S.1 7) (S.1 8) (S.1 9) (F 9 0) (F 9 1) (F 10) (F 0 0) (F 0 1) (F 0 2) (F 0 3) (F 0 4) (F 0 5) (F 1) (F 2) (F 3) (F 4) (F 5) (F 6) (F 7) (F 8)
def encF (F : Nat → Nat → Int32) (u : Nat → Int32) : Nat → Int32 := enc (F 9 0) (F 9 1) (F 10) (F 0 0) (F 0 1) (F 0 2) (F 0 3) (F 0 4) (F 0 5) (F 1) (F 2) (F 3) (F 4) (F 5) (F 6) (F 7) (F 8) u
def rF (S : xS) (b : Nat) (wt : Nat → Int32) (F : Nat → Nat → Int32) (u : Nat → Int32) : xS := rS S b wt (S.1 205) (S.1 206) (S.1 207) (S.1 208) (encF F u)
theorem c_self {S : xS} {b t : Nat} {F : Nat → Nat → Int32} (h : clV S b t F) : kF S b t F = S := by
  obtain ⟨h0, h1, h9, h10⟩ := h
  unfold kF
  rw [← h9 0 (by decide), ← h9 1 (by decide), ← h0 0 (by decide), ← h0 1 (by decide), ← h0 2 (by decide), ← h0 3 (by decide), ← h0 4 (by decide), ← h0 5 (by decide)]
  rw [kc_ro (g := S.1 (t + 1)) (fun k hk => (h10 k hk).symm)]
  rw [kc_cap (g := S.1 (b + 1)) (fun k hk => (h1 1 (by decide) (by decide) k hk).symm)]
  rw [kc_du (g := S.1 (b + 2)) (fun k hk => (h1 2 (by decide) (by decide) k hk).symm)]
  rw [kc_ra (g := S.1 (b + 3)) (fun k hk => (h1 3 (by decide) (by decide) k hk).symm)]
  rw [kc_sh (g := S.1 (b + 4)) (fun k hk => (h1 4 (by decide) (by decide) k hk).symm)]
  rw [kc_ow (g := S.1 (b + 5)) (fun k hk => (h1 5 (by decide) (by decide) k hk).symm)]
  rw [kc_bo (g := S.1 (b + 6)) (fun k hk => (h1 6 (by decide) (by decide) k hk).symm)]
  rw [kc_ma (g := S.1 (b + 7)) (fun k hk => (h1 7 (by decide) (by decide) k hk).symm)]
  rw [kc_de (g := S.1 (b + 8)) (fun k hk => (h1 8 (by decide) (by decide) k hk).symm)]
  exact kS_self S b t
def rwV (S : xS) (wt : Nat → Int32) : Prop := ∀ k, k < 8 → S.2.1 204 k = (wt k).toInt64
def rV (S : xS) (i : Nat) (F : Nat → Nat → Int32) (u : Nat → Int32) : Prop := ∀ k, k < 366 → S.1 200 (366 * i + k) = encF F u k
theorem x366_self {b : Nat} {r old : Nat → Int32} (h : ∀ k, k < 366 → old (b + k) = r k) : x366 b r old = old := by
  funext j; unfold x366
  by_cases q : b ≤ j ∧ j < b + 366
  · rw [if_pos q, ← h (j - b) (by omega), show b + (j - b) = j by omega]
  · rw [if_neg q]
theorem x8j_self {f : Nat → Int32} {old : Nat → Int64} (h : ∀ k, k < 8 → old k = (f k).toInt64) : x8j f old = old := by
  funext k; unfold x8j
  by_cases q : k < 8
  · rw [if_pos q, h k q]
  · rw [if_neg q]
theorem rS_eq {S : xS} {b : Nat} {wt r : Nat → Int32} (hr : ∀ k, k < 366 → S.1 200 (b + k) = r k) (hw : rwV S wt) : rS S b wt (S.1 205) (S.1 206) (S.1 207) (S.1 208) r = S := by
  refine Prod.ext (funext fun a => ?_) (Prod.ext (funext fun a => ?_) rfl)
  · show (if a = 200 then _ else _) = S.1 a
    rw [x366_self hr, x8_self, x8_self, x8_self, x8_self]
    repeat (refine xite (F := S.1) ?_)
    rfl
  · show (if a = 204 then x8j wt (S.2.1 204) else S.2.1 a) = S.2.1 a
    rw [x8j_self hw]
    exact xite (F := S.2.1) rfl
theorem r_self {S : xS} {i : Nat} {wt u : Nat → Int32} {F : Nat → Nat → Int32} (hr : rV S i F u) (hw : rwV S wt) : rF S (366 * i) wt F u = S := rS_eq hr hw
theorem rS_V {S : xS} {i : Nat} {wt pt gq ls sp ro cap du ra sh ow bo ma de u : Nat → Int32} {kn lo pa av ca re ye ch : Int32} : rV (rS S (366 * i) wt pt gq ls sp (enc kn lo ro pa av ca re ye ch cap du ra sh ow bo ma de u)) i (FF kn lo ro pa av ca re ye ch cap du ra sh ow bo ma de) u := by
  intro k hk
  rw [ra_200, x366_in hk]
  rfl
theorem rS_wV {S : xS} {b : Nat} {wt pt gq ls sp r : Nat → Int32} : rwV (rS S b wt pt gq ls sp r) wt := by
  intro k hk
  show (if (204 : Nat) = 204 then x8j wt (S.2.1 204) else S.2.1 204) k = _
  rw [if_pos rfl]
  exact x8j_at hk
theorem rS_row {S : xS} {i j : Nat} {wt pt gq ls sp r : Nat → Int32} (h : i ≠ j) : ∀ k, k < 366 → (rS S (366 * i) wt pt gq ls sp r).1 200 (366 * j + k) = S.1 200 (366 * j + k) := by
  intro k hk
  rw [ra_200]
  unfold x366
  rw [if_neg (by omega)]
theorem kS_V {S : xS} {b t : Nat} {gv gp w p l r ro cap du ra sh ow bo ma de : Nat → Int32} {tf ll kn lo pa av ca re ye ch : Int32} (o : xbt b t) : clV (kS S b t gv gp tf ll w p l r kn lo ro pa av ca re ye ch cap du ra sh ow bo ma de) b t (FF kn lo ro pa av ca re ye ch cap du ra sh ow bo ma de) := by
  refine ⟨fun k hk => ?_, fun j h1 h2 k hk => ?_, fun k hk => ?_, fun k hk => ?_⟩
  · rw [ka_b o]
    show x06 pa av ca re ye ch (S.1 b) k = x06 pa av ca re ye ch (fun _ => 0) k
    unfold x06
    rcases (show k = 0 ∨ k = 1 ∨ k = 2 ∨ k = 3 ∨ k = 4 ∨ k = 5 by omega) with rfl | rfl | rfl | rfl | rfl | rfl <;> rfl
  · rcases (show j = 1 ∨ j = 2 ∨ j = 3 ∨ j = 4 ∨ j = 5 ∨ j = 6 ∨ j = 7 ∨ j = 8 by omega) with rfl | rfl | rfl | rfl | rfl | rfl | rfl | rfl
    · rw [ka_b1 o]; exact x8_at hk
    · rw [ka_b2 o]; exact x8_at hk
    · rw [ka_b3 o]; exact x8_at hk
    · rw [ka_b4 o]; exact x8_at hk
    · rw [ka_b5 o]; exact x8_at hk
    · rw [ka_b6 o]; exact x8_at hk
    · rw [ka_b7 o]; exact x8_at hk
    · rw [ka_b8 o]; exact x8_at hk
  · rw [ka_t o]
    show x01 kn lo (S.1 t) k = x01 kn lo (fun _ => 0) k
    unfold x01
    rcases (show k = 0 ∨ k = 1 by omega) with rfl | rfl <;> rfl
  · rw [ka_t1 o]
    show x56 ro (S.1 (t + 1)) k = ro k
    unfold x56
    rw [if_pos hk]
theorem clV_c {S S' : xS} {b t : Nat} {F : Nat → Nat → Int32} (h : clV S b t F) (h1 : ∀ a, b ≤ a → a ≤ b + 8 → S'.1 a = S.1 a) (h2 : S'.1 t = S.1 t) (h3 : S'.1 (t + 1) = S.1 (t + 1)) : clV S' b t F := by
  obtain ⟨a0, a1, a9, a10⟩ := h
  refine ⟨fun k hk => ?_, fun j q1 q2 k hk => ?_, fun k hk => ?_, fun k hk => ?_⟩
  · rw [h1 b (by omega) (by omega)]; exact a0 k hk
  · rw [h1 (b + j) (by omega) (by omega)]; exact a1 j q1 q2 k hk
  · rw [h2]; exact a9 k hk
  · rw [h3]; exact a10 k hk
theorem rV_c {S S' : xS} {i : Nat} {F : Nat → Nat → Int32} {u : Nat → Int32} (h : rV S i F u) (h1 : S'.1 200 = S.1 200) : rV S' i F u := fun k hk => by rw [h1]; exact h k hk
theorem rwV_c {S S' : xS} {wt : Nat → Int32} (h : rwV S wt) (h1 : S'.2.1 204 = S.2.1 204) : rwV S' wt := fun k hk => by rw [h1]; exact h k hk
theorem v_has {T : xT} {S : xS} {b t : Nat} {F : Nat → Nat → Int32} (o : xbt b t) (h : clV S b t F) {i : Nat} (hi : i < 8) : f_X1_hasPartner T S b (nI i) = some (if xb (F 0 0) i = 0 then 0 else 1, S) := by
  have g : f_X1_hasPartner T (kF S b t F) b (nI i) = some (if xb (F 0 0) i = 0 then 0 else 1, kF S b t F) := g_has o hi
  rw [c_self h] at g
  exact g
theorem v_net {T : xT} {S : xS} {b t : Nat} {F : Nat → Nat → Int32} (o : xbt b t) (tp : xTp T S.2.2) (h : clV S b t F) : f_X1_net T S b = some (xsm (fun k => F 6 k - F 8 k) 8 0 (F 0 2), S) := by
  have g : f_X1_net T (kF S b t F) b = some (xsm (fun k => F 6 k - F 8 k) 8 0 (F 0 2), kF S b t F) := g_net o tp
  rw [c_self h] at g
  exact g
theorem s_there {T : xT} {S : xS} {i : Nat} {wt u : Nat → Int32} {F : Nat → Nat → Int32} (tp : xTp T S.2.2) (hb : S.1 199 1 = nI (366 * i)) (hi : i < 16) (hr : rV S i F u) (hw : rwV S wt) {k : Nat} (hk : k < 8) : f_X10_isThere T S 199 (nI k) = some (xb (F 0 0) k, S) := by
  have g : f_X10_isThere T (rF S (366 * i) wt F u) 199 (nI k) = some (xb (F 0 0) k, rF S (366 * i) wt F u) := h_there tp hb (by omega) hk
  rw [r_self hr hw] at g
  exact g
theorem s_net {T : xT} {S : xS} {i : Nat} {wt u : Nat → Int32} {F : Nat → Nat → Int32} (tp : xTp T S.2.2) (hb : S.1 199 1 = nI (366 * i)) (hi : i < 16) (hr : rV S i F u) (hw : rwV S wt) (ha : xAs (F 0 1) (F 6) (F 7) (F 8)) : f_X10_net T S 199 = some (xsm (fun k => F 6 k - F 8 k) 8 0 (F 0 2), S) := by
  have g : f_X10_net T (rF S (366 * i) wt F u) 199 = some (xsm (fun k => F 6 k - F 8 k) 8 0 (F 0 2), rF S (366 * i) wt F u) := h_net tp hb (by omega) ha
  rw [r_self hr hw] at g
  exact g
theorem s_get {T : xT} {S : xS} {i : Nat} {wt u : Nat → Int32} {F : Nat → Nat → Int32} (tp : xTp T S.2.2) (hb : S.1 199 1 = nI (366 * i)) (hi : i < 16) (hr : rV S i F u) (hw : rwV S wt) {k : Nat} (hk : k < 366) : f_X10_get T S 199 (nI k) = some (encF F u k, S) := by
  have g : f_X10_get T (rF S (366 * i) wt F u) 199 (nI k) = some (encF F u k, rF S (366 * i) wt F u) := rget tp hb (by omega) hk
  rw [r_self hr hw] at g
  exact g
