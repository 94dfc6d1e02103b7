/-! one act: begun and performed here, done at once there -/
def zFr (S S2 : xS) : Prop := S2.2.1 = S.2.1 ∧ (∀ a, (a = 1 ∨ a = 2 ∨ (10 ≤ a ∧ a ≤ 16) ∨ (18 ≤ a ∧ a ≤ 30) ∨ a = 187 ∨ 199 ≤ a) → S2.1 a = S.1 a) ∧ (S2.1 0 11 = S.1 0 11) ∧ ∀ a, zTS a → S2.2.2 a = S.2.2 a
def zFq (S S2 : xS) : Prop := S2.2.2 = S.2.2 ∧ (∀ a, a < 199 ∨ 211 < a → S2.1 a = S.1 a) ∧ ∀ k, k ≠ 2 → k ≠ 26 → S2.1 199 k = S.1 199 k
def zDo (T : xT) (S : xS) (M : zM) (B : Int) (kd w n : Int32) (rf : xT → xS → Option (Int32 × xS)) (no : Int32) (mk : Bool) : Prop :=
  (f_X9_begins T S 0 kd w n = some (0, S) ∧ ∀ Sr, zR Sr M → xTp T Sr.2.2 → rf T Sr = some (no, if mk = true then xI Sr 199 26 0 else Sr))
  ∨ ∃ S1 S2 v F', xTp T S1.2.2 ∧ f_X9_begins T S 0 kd w n = some (1, S1) ∧ f_X9_perform T S1 0 kd w n = some (v, S2) ∧ zC T S2 (M.rm.sF' F') ∧ zG T S2 B (M.rm.sF' F') ∧ zFr S S2 ∧ ∀ Sr, zR Sr M → xTp T Sr.2.2 → ∃ Sr', rf T Sr = some (v, Sr') ∧ zR Sr' (M.rm.sF' F') ∧ zFq Sr Sr' ∧ (mk = true → Sr'.1 199 26 = 1)
theorem zR_of {T : xT} {S S2 : xS} {M : zM} (f : zFr S S2) (r : zR S M) : zR S2 M := zR_c (fun a q1 _ => f.2.1 a (by omega)) (by rw [f.1]) r
theorem zDo_op {i : Nat} {T : xT} {S : xS} {M : zM} {B B' : Int} {kd w n : Int32} {rf : xT → xS → Option (Int32 × xS)} {no : Int32} {mk : Bool} (c : zC T S M) (r : zR S M) (g : zG T S B M) (b0 : 0 ≤ B) (b1 : 5 * B + 1000000 * (M.L : Int) ≤ 20000000 * (i : Int)) (hb : B ≤ B') (hb2 : B' ≤ B + 1000000) (d : zDo T S M B' kd w n rf no mk) :
    ∃ (T2 : xT) (S2 : xS), xc (xc (f_X9_begins T S 0 kd w n) (fun r2 S1 => if r2 = (0 : Int32) then some (no, S1) else xc (f_X9_perform T S1 0 kd w n) (fun r4 S3 => some (r4, S3)))) (fun r1 S1 => xc (rf T S1) (fun r2 S2 => some (decide (r1 = r2), T, S2))) = some (true, T2, S2) ∧ zI (i + 1) T2 S2 := by
  rcases d with ⟨d1, d2⟩ | ⟨S1, S2, v, F', _, d1, d2, d3, d4, d5, d6⟩
  · refine ⟨T, _, zX (r := no) (S1 := S) ?_ (d2 S r c.1), ?_⟩
    · rw [d1, xc_e, if_pos rfl]
    · cases mk with
      | true =>
        rw [if_pos rfl]
        exact zFin (M := M) (B := B) c g rfl (fun a q => xI_ne (by omega)) (r_26 r) b0 (by omega)
      | false =>
        rw [if_neg (by decide)]
        exact ⟨M, B, c, r, g, b0, by omega⟩
  · obtain ⟨Sr', e1, e2, ⟨e3, e4, _⟩, _⟩ := d6 S2 (zR_of (T := T) d5 r) d3.1
    refine ⟨T, Sr', zX (r := v) (S1 := S2) ?_ e1, ?_⟩
    · rw [d1, xc_e, if_neg (by decide), d2, xc_e]
    · exact zFin d3 d4 e3 (fun a q => e4 a (by omega)) e2 (by omega) (by show 5 * B' + 1000000 * (M.L : Int) ≤ 20000000 * ((i + 1 : Nat) : Int); omega)
theorem c_beg0 {T : xT} {S : xS} {kd w n : Int32} (h : f_X9_isAllowed T S 0 kd w n = some (0, S)) : f_X9_begins T S 0 kd w n = some (0, S) := by
  unfold f_X9_begins
  rw [h, xc_e, if_pos rfl]
theorem c_beg {T : xT} {S : xS} {M : zM} {B : Int} {kd w n : Int32} (c : zC T S M) (g : zG T S B M) (h : f_X9_isAllowed T S 0 kd w n = some (1, S)) : ∃ S1, f_X9_begins T S 0 kd w n = some (1, S1) ∧ zC T S1 M.rm ∧ zG T S1 B M.rm ∧ zFr S S1 := by
  obtain ⟨S1, e1, c1, j1, f1, fr⟩ := c_rem c g.1
  refine ⟨S1, ?_, c1, zG_rm (zG_f (fun a q => f1 a (by unfold zTS at q; omega) (by unfold zTS at q; omega)) (fun a q => fr a (by unfold zTS at q; omega)) g), j1, fun a q => f1 a (by omega) (by omega), ?_, fun a q => fr a (by unfold zTS at q; omega)⟩
  · unfold f_X9_begins
    rw [h, xc_e, if_neg (by decide), e1, xcv_e]
  · rw [c1.2.2.2.2.2.1, c.2.2.2.2.2.1]; rfl
/-- now's numbers laid anew -/
theorem c_new {T : xT} {S S1 : xS} {M : zM} {B B' : Int} {gv gp w p l r ro cap du ra sh ow bo ma de : Nat → Int32} {tf ll kn lo pa av ca re ye ch : Int32} (c1 : zC T S1 M) (g1 : zG T S1 B M) (f1 : zFr S S1) (hb : B ≤ B') (hk : kn = 0 ∨ kn = 1) (ok : bOk B' pa av re ch cap du ra sh ow bo ma de) : zC T (kS S1 31 40 gv gp tf ll w p l r kn lo ro pa av ca re ye ch cap du ra sh ow bo ma de) (M.sF' (FF kn lo ro pa av ca re ye ch cap du ra sh ow bo ma de)) ∧ zG T (kS S1 31 40 gv gp tf ll w p l r kn lo ro pa av ca re ye ch cap du ra sh ow bo ma de) B' (M.sF' (FF kn lo ro pa av ca re ye ch cap du ra sh ow bo ma de)) ∧ zFr S (kS S1 31 40 gv gp tf ll w p l r kn lo ro pa av ca re ye ch cap du ra sh ow bo ma de) := by
  have o : xbt 31 40 := Or.inl ⟨rfl, rfl⟩
  have f : ∀ a, (a < 3 ∨ 9 < a) ∧ (a < 31 ∨ 41 < a) ∧ (a < 188 ∨ 198 < a) → (kS S1 31 40 gv gp tf ll w p l r kn lo ro pa av ca re ye ch cap du ra sh ow bo ma de).1 a = S1.1 a := fun a h => ka_out o h
  refine ⟨c_set c1, zG_f (fun a q => f a (by unfold zTS at q; omega)) (fun a _ => rfl) (zG_set g1 hb hk ok), f1.1, fun a q => by rw [f a (by omega)]; exact f1.2.1 a q, by rw [f 0 (by omega)]; exact f1.2.2.1, f1.2.2.2⟩
theorem q_new {Sr S1 Sx : xS} {M : zM} {wt pt gq ls sp ro cap du ra sh ow bo ma de : Nat → Int32} {kn lo pa av ca re ye ch : Int32} (r1 : zR S1 M) (y1 : S1.2 = Sr.2) (y2 : ∀ a, a ≠ 199 → a ≠ 200 → S1.1 a = Sr.1 a) (y3 : ∀ k, k ≠ 2 → S1.1 199 k = Sr.1 199 k) (x1 : Sx.2 = S1.2) (x2 : ∀ a, a ≠ 199 → a ≠ 211 → Sx.1 a = S1.1 a) (x3 : ∀ k, k ≠ 26 → Sx.1 199 k = S1.1 199 k) : zR (rS Sx (366 * 0) wt pt gq ls sp (enc kn lo ro pa av ca re ye ch cap du ra sh ow bo ma de (M.now.2.2.2))) (M.sF' (FF kn lo ro pa av ca re ye ch cap du ra sh ow bo ma de)) ∧ zFq Sr (rS Sx (366 * 0) wt pt gq ls sp (enc kn lo ro pa av ca re ye ch cap du ra sh ow bo ma de (M.now.2.2.2))) := by
  have r2 : zR Sx M := zR_k (fun a q => x2 a (by omega) (by omega)) (fun k q => x3 k (by omega)) ⟨r1.1.2.choose, rwV_c r1.1.2.choose_spec (by rw [x1])⟩ r1
  have f : ∀ a, a < 200 ∨ 208 < a → (rS Sx (366 * 0) wt pt gq ls sp (enc kn lo ro pa av ca re ye ch cap du ra sh ow bo ma de (M.now.2.2.2))).1 a = Sx.1 a := fun a h => ra_out h
  refine ⟨r_set r2, ?_, fun a q => ?_, fun k k1 k2 => ?_⟩
  · show Sx.2.2 = _
    rw [x1, y1]
  · rw [f a (by omega), x2 a (by omega) (by omega), y2 a (by omega) (by omega)]
  · rw [f 199 (by omega), x3 k k2, y3 k k1]
/-! what the reference asks, on its own heap -/
theorem q_self {S : xS} {M : zM} (r : zR S M) : ∃ wt, rF S (366 * 0) wt M.now.2.2.1 M.now.2.2.2 = S := ⟨_, r_self r.2.1 r.1.2.choose_spec⟩
theorem q_hb {S : xS} {M : zM} (r : zR S M) : S.1 199 1 = nI (366 * 0) := r.1.1
theorem q_there {T : xT} {S : xS} {M : zM} (r : zR S M) (tp : xTp T S.2.2) {k : Nat} (hk : k < 8) : f_X10_isThere T S 199 (nI k) = some (xb (M.now.2.2.1 0 0) k, S) := s_there (i := 0) tp r.1.1 (by decide) r.2.1 r.1.2.choose_spec hk
theorem q_get {T : xT} {S : xS} {M : zM} (r : zR S M) (tp : xTp T S.2.2) {k : Nat} (hk : k < 366) : f_X10_get T S 199 (nI k) = some (encF M.now.2.2.1 M.now.2.2.2 k, S) := s_get (i := 0) tp r.1.1 (by decide) r.2.1 r.1.2.choose_spec hk
theorem q_asset {T : xT} {S : xS} {M : zM} (r : zR S M) (tp : xTp T S.2.2) {k : Nat} (hk : k < 8) : f_X10_isAsset T S 199 (nI k) = some (xb (M.now.2.2.1 0 1) k, S) := by
  obtain ⟨wt, e⟩ := q_self r
  have g : f_X10_isAsset T (rF S (366 * 0) wt M.now.2.2.1 M.now.2.2.2) 199 (nI k) = some (xb (M.now.2.2.1 0 1) k, rF S (366 * 0) wt M.now.2.2.1 M.now.2.2.2) := h_asset tp (q_hb r) (by decide) hk
  rw [e] at g
  exact g
/-! what the look asks, here -/
theorem n_has {T : xT} {S : xS} {M : zM} (c : zC T S M) {k : Nat} (hk : k < 8) : f_X1_hasPartner T S 31 (nI k) = some (if xb (M.now.2.2.1 0 0) k = 0 then 0 else 1, S) := v_has (Or.inl ⟨rfl, rfl⟩) c.2.1.2.2 hk
theorem n_hasA {T : xT} {S : xS} {M : zM} (c : zC T S M) {k : Nat} (hk : k < 8) : f_X1_hasAsset T S 31 (nI k) = some (if xb (M.now.2.2.1 0 1) k = 0 then 0 else 1, S) := by
  have g : f_X1_hasAsset T (kF S 31 40 M.now.2.2.1) 31 (nI k) = some (if xb (M.now.2.2.1 0 1) k = 0 then 0 else 1, kF S 31 40 M.now.2.2.1) := g_hasA (Or.inl ⟨rfl, rfl⟩) hk
  rw [c_self c.2.1.2.2] at g
  exact g
theorem n_0 {T : xT} {S : xS} {M : zM} (c : zC T S M) {k : Nat} (hk : k < 6) : S.1 31 k = M.now.2.2.1 0 k := c.2.1.2.2.1 k hk
theorem n_at {α : Type} {T : xT} {S : xS} {M : zM} (c : zC T S M) {j k : Nat} (hj : 1 ≤ j ∧ j ≤ 8) (hk : k < 8) {K : Int32 → Option α} : xai T S (31 + j) (nI k) K = K (M.now.2.2.1 j k) := by
  rw [xai_n (xTp_n c.1 8 (by omega) ((show ∀ j, j < 9 → 1 ≤ j → xN.getD (31 + j) 0 = 8 by decide +kernel) j (by omega) hj.1)) hk (by decide), c.2.1.2.2.2.1 j hj.1 hj.2 k hk]
theorem n_sum {T : xT} {S : xS} {p : Int32} : f_X9_isSum T S p = some (if p < 0 then 0 else if 1000000 < p then 0 else 1, S) := by
  unfold f_X9_isSum
  by_cases h : p < 0
  · rw [if_pos h, if_pos h]
  · rw [if_neg h, if_neg h]
    by_cases h2 : 1000000 < p
    · rw [if_pos h2, if_pos h2]
    · rw [if_neg h2, if_neg h2]
theorem i0 : (0 : Int32).toInt = 0 := by decide
theorem i1 : (1 : Int32).toInt = 1 := by decide
theorem iM : (1000000 : Int32).toInt = 1000000 := by decide
theorem jM : (-1000000 : Int32).toInt = -1000000 := by decide
