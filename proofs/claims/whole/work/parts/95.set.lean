/-! now's numbers changed, all else kept: for the acts -/
def zM.sF' (M : zM) (F : Nat → Nat → Int32) : zM := M.sN (M.now.1, M.now.2.1, F, M.now.2.2.2)
theorem c_set {T : xT} {S : xS} {M : zM} {gv gp w p l r ro cap du ra sh ow bo ma de : Nat → Int32} {tf ll kn lo pa av ca re ye ch : Int32} (c : zC T S M) : zC T (kS S 31 40 gv gp tf ll w p l r kn lo ro pa av ca re ye ch cap du ra sh ow bo ma de) (M.sF' (FF kn lo ro pa av ca re ye ch cap du ra sh ow bo ma de)) := by
  have o : xbt 31 40 := Or.inl ⟨rfl, rfl⟩
  have f : ∀ a, (a < 3 ∨ 9 < a) ∧ (a < 31 ∨ 41 < a) ∧ (a < 188 ∨ 198 < a) → (kS S 31 40 gv gp tf ll w p l r kn lo ro pa av ca re ye ch cap du ra sh ow bo ma de).1 a = S.1 a := fun a h => ka_out o h
  exact zC_k (S := S) (M := M) (fun a _ => rfl) c.1 (fun k _ => by rw [f 0 (by omega)]) (by rw [f 1 (by omega)]) (fun a q => f a (by omega)) (fun a q1 q2 => f a (by omega)) (fun a q => f a (by omega)) ⟨c.2.1.1, c.2.1.2.1, kS_V o⟩ c
theorem r_set {S : xS} {M : zM} {wt pt gq ls sp ro cap du ra sh ow bo ma de : Nat → Int32} {kn lo pa av ca re ye ch : Int32} (r : zR S M) : zR (rS S (366 * 0) wt pt gq ls sp (enc kn lo ro pa av ca re ye ch cap du ra sh ow bo ma de (M.now.2.2.2))) (M.sF' (FF kn lo ro pa av ca re ye ch cap du ra sh ow bo ma de)) := by
  obtain ⟨⟨r1, _⟩, r3, ⟨r4, r5⟩, r6, ⟨r7, r8⟩, r9, ⟨r10, r11, r12⟩, r13, r14⟩ := r
  have f : ∀ a, a < 200 ∨ 208 < a → (rS S (366 * 0) wt pt gq ls sp (enc kn lo ro pa av ca re ye ch cap du ra sh ow bo ma de (M.now.2.2.2))).1 a = S.1 a := fun a h => ra_out h
  have f1 : (rS S (366 * 0) wt pt gq ls sp (enc kn lo ro pa av ca re ye ch cap du ra sh ow bo ma de (M.now.2.2.2))).1 201 = S.1 201 := rfl
  have f2 : (rS S (366 * 0) wt pt gq ls sp (enc kn lo ro pa av ca re ye ch cap du ra sh ow bo ma de (M.now.2.2.2))).1 202 = S.1 202 := rfl
  have row : ∀ j F u', 0 ≠ j → rV S j F u' → rV (rS S (366 * 0) wt pt gq ls sp (enc kn lo ro pa av ca re ye ch cap du ra sh ow bo ma de (M.now.2.2.2))) j F u' := fun j F u' hj hv k hk => by
    rw [rS_row hj k hk]; exact hv k hk
  exact ⟨⟨by rw [f 199 (by omega)]; exact r1, wt, rS_wV⟩, rS_V, ⟨by rw [f 199 (by omega)]; exact r4, fun k hk => row (3 + k) _ _ (by omega) (r5 k hk)⟩, fun k hk => ⟨fun z => by rw [f1]; exact (r6 k hk).1 z, fun K s z => ⟨by rw [f1]; exact ((r6 k hk).2 K s z).1, row (1 + k) _ _ (by omega) ((r6 k hk).2 K s z).2⟩⟩, ⟨by rw [f 199 (by omega)]; exact r7, fun k hk => by rw [f2]; exact r8 k hk⟩, by rw [f 199 (by omega)]; exact r9, ⟨by rw [f 199 (by omega)]; exact r10, by rw [f 199 (by omega)]; exact r11, fun k hk => by rw [f 213 (by omega)]; exact r12 k hk⟩, by rw [f 199 (by omega)]; exact r13, fun k hk => by rw [f 214 (by omega)]; exact r14 k hk⟩
theorem zG_set {T : xT} {S : xS} {B B' : Int} {M : zM} {F : Nat → Nat → Int32} (g : zG T S B M) (hb : B ≤ B') (h0 : F 9 0 = 0 ∨ F 9 0 = 1) (ok : bOkF B' F) : zG T S B' (M.sF' F) := ⟨⟨g.1.1, h0, ok⟩, (zG_mono hb g).2.1, (zG_mono hb g).2.2⟩
/-- the told mark is nobody's -/
theorem r_26 {S : xS} {M : zM} {v : Int32} (r : zR S M) : zR (xI S 199 26 v) M := by
  obtain ⟨⟨_, wt, w⟩, _⟩ := id r
  exact zR_k (fun a q => xI_ne (by omega)) (fun k q => xI_at (by omega)) ⟨wt, rwV_c w rfl⟩ r
