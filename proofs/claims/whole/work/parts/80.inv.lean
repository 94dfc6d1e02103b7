/-! what stands between two calls: one model, two views -/
abbrev zSt : Type := Nat × Nat × (Nat → Nat → Int32) × (Nat → Int32)
def zM : Type := zSt × Nat × Nat × (Nat → zSt) × (Nat → Option (Nat × zSt)) × Nat × (Nat → Int32) × Int32 × Nat × Int32 × (Nat → Int32) × Nat × (Nat → Int32)
def zM.now (M : zM) : zSt := (show zSt × Nat × Nat × (Nat → zSt) × (Nat → Option (Nat × zSt)) × Nat × (Nat → Int32) × Int32 × Nat × Int32 × (Nat → Int32) × Nat × (Nat → Int32) from M).1
def zM.d (M : zM) : Nat := (show zSt × Nat × Nat × (Nat → zSt) × (Nat → Option (Nat × zSt)) × Nat × (Nat → Int32) × Int32 × Nat × Int32 × (Nat → Int32) × Nat × (Nat → Int32) from M).2.1
def zM.x (M : zM) : Nat := (show zSt × Nat × Nat × (Nat → zSt) × (Nat → Option (Nat × zSt)) × Nat × (Nat → Int32) × Int32 × Nat × Int32 × (Nat → Int32) × Nat × (Nat → Int32) from M).2.2.1
def zM.D (M : zM) : Nat → zSt := (show zSt × Nat × Nat × (Nat → zSt) × (Nat → Option (Nat × zSt)) × Nat × (Nat → Int32) × Int32 × Nat × Int32 × (Nat → Int32) × Nat × (Nat → Int32) from M).2.2.2.1
def zM.kp (M : zM) : Nat → Option (Nat × zSt) := (show zSt × Nat × Nat × (Nat → zSt) × (Nat → Option (Nat × zSt)) × Nat × (Nat → Int32) × Int32 × Nat × Int32 × (Nat → Int32) × Nat × (Nat → Int32) from M).2.2.2.2.1
def zM.L (M : zM) : Nat := (show zSt × Nat × Nat × (Nat → zSt) × (Nat → Option (Nat × zSt)) × Nat × (Nat → Int32) × Int32 × Nat × Int32 × (Nat → Int32) × Nat × (Nat → Int32) from M).2.2.2.2.2.1
def zM.tb (M : zM) : Nat → Int32 := (show zSt × Nat × Nat × (Nat → zSt) × (Nat → Option (Nat × zSt)) × Nat × (Nat → Int32) × Int32 × Nat × Int32 × (Nat → Int32) × Nat × (Nat → Int32) from M).2.2.2.2.2.2.1
def zM.ft (M : zM) : Int32 := (show zSt × Nat × Nat × (Nat → zSt) × (Nat → Option (Nat × zSt)) × Nat × (Nat → Int32) × Int32 × Nat × Int32 × (Nat → Int32) × Nat × (Nat → Int32) from M).2.2.2.2.2.2.2.1
def zM.bn (M : zM) : Nat := (show zSt × Nat × Nat × (Nat → zSt) × (Nat → Option (Nat × zSt)) × Nat × (Nat → Int32) × Int32 × Nat × Int32 × (Nat → Int32) × Nat × (Nat → Int32) from M).2.2.2.2.2.2.2.2.1
def zM.be (M : zM) : Int32 := (show zSt × Nat × Nat × (Nat → zSt) × (Nat → Option (Nat × zSt)) × Nat × (Nat → Int32) × Int32 × Nat × Int32 × (Nat → Int32) × Nat × (Nat → Int32) from M).2.2.2.2.2.2.2.2.2.1
def zM.bt (M : zM) : Nat → Int32 := (show zSt × Nat × Nat × (Nat → zSt) × (Nat → Option (Nat × zSt)) × Nat × (Nat → Int32) × Int32 × Nat × Int32 × (Nat → Int32) × Nat × (Nat → Int32) from M).2.2.2.2.2.2.2.2.2.2.1
def zM.wn (M : zM) : Nat := (show zSt × Nat × Nat × (Nat → zSt) × (Nat → Option (Nat × zSt)) × Nat × (Nat → Int32) × Int32 × Nat × Int32 × (Nat → Int32) × Nat × (Nat → Int32) from M).2.2.2.2.2.2.2.2.2.2.2.1
def zM.wb (M : zM) : Nat → Int32 := (show zSt × Nat × Nat × (Nat → zSt) × (Nat → Option (Nat × zSt)) × Nat × (Nat → Int32) × Int32 × Nat × Int32 × (Nat → Int32) × Nat × (Nat → Int32) from M).2.2.2.2.2.2.2.2.2.2.2.2
def zmk (now : zSt) (d : Nat) (x : Nat) (D : Nat → zSt) (kp : Nat → Option (Nat × zSt)) (L : Nat) (tb : Nat → Int32) (ft : Int32) (bn : Nat) (be : Int32) (bt : Nat → Int32) (wn : Nat) (wb : Nat → Int32) : zM := (now, d, x, D, kp, L, tb, ft, bn, be, bt, wn, wb)
def cSt (S : xS) (q b t : Nat) (s : zSt) : Prop := S.2.2 q 2 = some s.1 ∧ S.2.2 q 3 = some s.2.1 ∧ clV S b t s.2.2.1
def bOkF (B : Int) (F : Nat → Nat → Int32) : Prop := bOk B (F 0 0) (F 0 1) (F 0 3) (F 0 5) (F 1) (F 2) (F 3) (F 4) (F 5) (F 6) (F 7) (F 8)
/-- tiers and specials of the class, and the same in the reference's row -/
def gTS (T : xT) (S : xS) (ta sa : Nat) (u : Nat → Int32) : Prop := ∃ fi ns, (xTi T S.2.2 ta ∧ xTo S ta fi) ∧ (xSi T S.2.2 sa ∧ xSo S sa ns) ∧ (rTo u fi ∧ (∀ k, k ≤ fi → S.1 (ta + 1) k = rsu u k) ∧ ∀ k p, k ≤ fi → p < 8 → tw S ta k p = rtw u k p) ∧ spR S sa u ns
def gSt (T : xT) (S : xS) (B : Int) (s : zSt) : Prop := gTS T S s.1 s.2.1 s.2.2.2 ∧ (s.2.2.1 9 0 = 0 ∨ s.2.2.1 9 0 = 1) ∧ bOkF B s.2.2.1
def dY (M : zM) (k : Nat) : Nat := (M.x + 12 - M.d + k) % 12
def cDe (S : xS) (M : zM) : Prop := (M.d ≤ 12 ∧ M.x < 12) ∧ (S.1 0 6 = nI M.d ∧ S.1 0 7 = nI M.x) ∧ ∀ k, k < M.d → cSt S (43 + 12 * dY M k) (44 + 12 * dY M k) (53 + 12 * dY M k) (M.D k)
def cKe (T : xT) (S : xS) (M : zM) : Prop := (∀ k, k < 2 → (M.kp k = none → S.2.2 187 k = none) ∧ ∀ K s, M.kp k = some (K, s) → 215 ≤ K ∧ S.2.2 187 k = some K ∧ xSt T S.2.2 K (K + 1) (K + 10) ∧ cSt S K (K + 1) (K + 10) s) ∧ ∀ K s K' s', M.kp 0 = some (K, s) → M.kp 1 = some (K', s') → K ≠ K'
def cTa (S : xS) (M : zM) : Prop := M.L ≤ 400 ∧ S.1 1 1 = nI M.L ∧ ∀ k, k < M.L → S.1 2 k = M.tb k ∧ 0 ≤ (M.tb k).toInt ∧ (M.tb k).toInt < 256
def cBa (S : xS) (M : zM) : Prop := M.bn ≤ 30 ∧ S.1 10 0 = nI M.bn ∧ S.1 10 1 = M.be ∧ ∀ k, k < M.bn → S.1 11 k = M.bt k
def cWr (S : xS) (M : zM) : Prop := M.wn ≤ 400 ∧ S.1 15 0 = nI M.wn ∧ ∀ k, k < M.wn → S.1 16 k = M.wb k
def zC (T : xT) (S : xS) (M : zM) : Prop := xTp T S.2.2 ∧ cSt S 17 31 40 M.now ∧ cDe S M ∧ cKe T S M ∧ cTa S M ∧ S.1 0 11 = M.ft ∧ cBa S M ∧ cWr S M
def rKe (S : xS) (M : zM) : Prop := ∀ k, k < 2 → (M.kp k = none → S.1 201 k = 0) ∧ ∀ K s, M.kp k = some (K, s) → S.1 201 k = 1 ∧ rV S (1 + k) s.2.2.1 s.2.2.2
def zR (S : xS) (M : zM) : Prop := (S.1 199 1 = 0 ∧ ∃ wt, rwV S wt) ∧ rV S 0 M.now.2.2.1 M.now.2.2.2 ∧ (S.1 199 2 = nI M.d ∧ ∀ k, k < M.d → rV S (3 + k) (M.D k).2.2.1 (M.D k).2.2.2) ∧ rKe S M ∧ (S.1 199 5 = nI M.L ∧ ∀ k, k < M.L → S.1 202 k &&& 255 = M.tb k) ∧ S.1 199 9 = M.ft ∧ (S.1 199 30 = nI M.bn ∧ S.1 199 31 = M.be ∧ ∀ k, k < M.bn → S.1 213 k = M.bt k) ∧ S.1 199 33 = nI M.wn ∧ ∀ k, k < M.wn → S.1 214 k = M.wb k
def zG (T : xT) (S : xS) (B : Int) (M : zM) : Prop := gSt T S B M.now ∧ (∀ k, k < M.d → gSt T S B (M.D k)) ∧ ∀ k, k < 2 → ∀ K s, M.kp k = some (K, s) → gSt T S B s
def zI (i : Nat) (T : xT) (S : xS) : Prop := ∃ M B, zC T S M ∧ zR S M ∧ zG T S B M ∧ 0 ≤ B ∧ 5 * B + 1000000 * (M.L : Int) ≤ 20000000 * (i : Int)
/-! growth of the heap's layout -/
def tLe (T T' : xT) : Prop := T.2.2 ≤ T'.2.2 ∧ ∀ a, a < T.2.2 → T'.1 a = T.1 a ∧ T'.2.1 a = T.2.1 a
theorem tLe_r (T : xT) : tLe T T := ⟨Nat.le_refl _, fun _ _ => ⟨rfl, rfl⟩⟩
theorem xTi_c {T T' : xT} {r r' : Nat → Nat → Option Nat} {ta : Nat} (g : tLe T T') (hr : r' ta = r ta) (h : xTi T r ta) : xTi T' r' ta := by
  obtain ⟨h1, ⟨h2, h3, h4, h5, h6, h7⟩, h8, h9⟩ := h
  refine ⟨h1, ⟨by have := g.1; omega, ?_, ?_, ?_, ?_, ?_⟩, by rw [hr]; exact h8, by rw [hr]; exact h9⟩
  · rw [(g.2 ta (by omega)).1]; exact h3
  · rw [(g.2 (ta + 1) (by omega)).1]; exact h4
  · rw [(g.2 (ta + 2) (by omega)).1]; exact h5
  · rw [(g.2 (ta + 1) (by omega)).2]; exact h6
  · rw [(g.2 (ta + 2) (by omega)).2]; exact h7
theorem xSi_c {T T' : xT} {r r' : Nat → Nat → Option Nat} {sa : Nat} (g : tLe T T') (hr : r' sa = r sa) (h : xSi T r sa) : xSi T' r' sa := by
  obtain ⟨h1, ⟨h2, h3⟩, h4, h5, h6⟩ := h
  have k : ∀ j, j ≤ 9 → T'.1 (sa + j) = T.1 (sa + j) ∧ T'.2.1 (sa + j) = T.2.1 (sa + j) := fun j hj => g.2 (sa + j) (by omega)
  refine ⟨h1, ⟨by have := g.1; omega, by rw [(g.2 sa (by omega)).1]; exact h3⟩, ?_, ?_, by rw [hr]; exact h6⟩
  · rw [(k 1 (by omega)).1, (k 2 (by omega)).1, (k 3 (by omega)).1, (k 4 (by omega)).1, (k 5 (by omega)).1, (k 6 (by omega)).1, (k 7 (by omega)).1, (k 8 (by omega)).1, (k 9 (by omega)).1]; exact h4
  · rw [(k 1 (by omega)).2, (k 2 (by omega)).2, (k 3 (by omega)).2, (k 4 (by omega)).2, (k 5 (by omega)).2, (k 6 (by omega)).2, (k 7 (by omega)).2, (k 8 (by omega)).2, (k 9 (by omega)).2]; exact h5
theorem xBk_c {T T' : xT} {r r' : Nat → Nat → Option Nat} {b : Nat} (g : tLe T T') (hr : r' b = r b) (h : xBk T r b) : xBk T' r' b := by
  obtain ⟨h1, h2, h3, h4⟩ := h
  refine ⟨by have := g.1; omega, by rw [(g.2 b (by omega)).1]; exact h2, fun j q1 q2 => ?_, fun j hj => by rw [hr]; exact h4 j hj⟩
  rw [(g.2 (b + j) (by omega)).1, (g.2 (b + j) (by omega)).2]
  exact h3 j q1 q2
theorem xSk_c {T T' : xT} {r r' : Nat → Nat → Option Nat} {t : Nat} (g : tLe T T') (hr : r' t = r t) (h : xSk T r t) : xSk T' r' t := by
  obtain ⟨h1, h2, h3, h4⟩ := h
  refine ⟨by have := g.1; omega, by rw [(g.2 t (by omega)).1]; exact h2, ?_, by rw [hr]; exact h4⟩
  rw [(g.2 (t + 1) (by omega)).1, (g.2 (t + 1) (by omega)).2]
  exact h3
theorem xSt_c {T T' : xT} {r r' : Nat → Nat → Option Nat} {q b t : Nat} (g : tLe T T') (hq : r' q 0 = r q 0 ∧ r' q 1 = r q 1) (hb : r' b = r b) (ht : r' t = r t) (h : xSt T r q b t) : xSt T' r' q b t := by
  obtain ⟨⟨h1, h2⟩, h3, h4, h5, h6⟩ := h
  exact ⟨⟨by have := g.1; omega, by rw [(g.2 q h1).1]; exact h2⟩, xBk_c g hb h3, xSk_c g ht h4, by rw [hq.1]; exact h5, by rw [hq.2]; exact h6⟩
theorem xTo_c {S S' : xS} {ta fi : Nat} (h : ∀ j, j ≤ 2 → S'.1 (ta + j) = S.1 (ta + j)) (o : xTo S ta fi) : xTo S' ta fi := by
  unfold xTo tw at *
  rw [show S'.1 ta = S.1 ta from h 0 (by omega), h 1 (by omega), h 2 (by omega)]
  exact o
theorem xSo_c {S S' : xS} {sa ns : Nat} (h : ∀ j, j ≤ 9 → S'.1 (sa + j) = S.1 (sa + j)) (o : xSo S sa ns) : xSo S' sa ns := by
  unfold xSo at *
  rw [show S'.1 sa = S.1 sa from h 0 (by omega), h 1 (by omega), h 2 (by omega), h 3 (by omega), h 4 (by omega), h 5 (by omega), h 6 (by omega), h 7 (by omega), h 8 (by omega)]
  exact o
theorem spR_c {S S' : xS} {sa ns : Nat} {u : Nat → Int32} (h : ∀ j, j ≤ 9 → S'.1 (sa + j) = S.1 (sa + j)) (o : spR S sa u ns) : spR S' sa u ns := by
  unfold spR at *
  rw [h 1 (by omega), h 2 (by omega), h 3 (by omega), h 4 (by omega), h 5 (by omega), h 6 (by omega), h 7 (by omega), h 8 (by omega), h 9 (by omega)]
  exact o
theorem gTS_c {T T' : xT} {S S' : xS} {ta sa : Nat} {u : Nat → Int32} (g : tLe T T') (h1 : ∀ j, j ≤ 2 → S'.1 (ta + j) = S.1 (ta + j)) (h2 : ∀ j, j ≤ 9 → S'.1 (sa + j) = S.1 (sa + j)) (h3 : S'.2.2 ta = S.2.2 ta) (h4 : S'.2.2 sa = S.2.2 sa) (h : gTS T S ta sa u) : gTS T' S' ta sa u := by
  obtain ⟨fi, ns, ⟨a1, a2⟩, ⟨b1, b2⟩, ⟨c1, c2, c3⟩, d⟩ := h
  refine ⟨fi, ns, ⟨xTi_c g h3 a1, xTo_c h1 a2⟩, ⟨xSi_c g h4 b1, xSo_c h2 b2⟩, ⟨c1, fun k hk => ?_, fun k p hk hp => ?_⟩, spR_c h2 d⟩
  · rw [h1 1 (by omega)]; exact c2 k hk
  · unfold tw at *
    rw [h1 2 (by omega)]; exact c3 k p hk hp
/-- where tiers and specials may lie -/
def zTS (a : Nat) : Prop := (18 ≤ a ∧ a ≤ 30) ∨ 215 ≤ a
theorem gTS_f {T : xT} {S S' : xS} {ta sa : Nat} {u : Nat → Int32} (h : ∀ a, zTS a → S'.1 a = S.1 a) (hr : ∀ a, zTS a → S'.2.2 a = S.2.2 a) (g : gTS T S ta sa u) : gTS T S' ta sa u := by
  have g' := g
  obtain ⟨fi, ns, ⟨a1, a2⟩, ⟨b1, b2⟩, c, d⟩ := g'
  have ha := a1.1
  have hb := b1.1
  exact gTS_c (tLe_r T) (fun j hj => h _ (by unfold zTS; omega)) (fun j hj => h _ (by unfold zTS; omega)) (hr _ (by unfold zTS; omega)) (hr _ (by unfold zTS; omega)) g
