/-! the desk's rows are nobody's: ops that only lay a sale -/
theorem xhw_cong {w v : Nat → Int32} : ∀ (m i : Nat) (c : Int32), (∀ k, i ≤ k → k < i + m → w k = v k) → xhw w m i c = xhw v m i c
  | 0, _, _, _ => rfl
  | m + 1, i, c, h => by
    unfold xhw
    rw [h i (Nat.le_refl i) (by omega)]
    exact xhw_cong m (i + 1) _ (fun k h1 h2 => h k (by omega) (by omega))
theorem wr_cong {am : Int32} {r r' : Nat → Int32} (h : ∀ k, k < 8 → r k = r' k) : ∀ k, k < 8 → wr am r k = wr am r' k := fun k hk => by
  unfold wr
  rw [h k hk]
theorem sG_cong {pa : Int32} {su su' : Nat → Int32} {tw tw' : Nat → Nat → Int32} : ∀ (m k : Nat) (c : Int32) (g g' : Nat → Int32) (f : Int32), (∀ j, j < 8 → g j = g' j) → (∀ x, k ≤ x → x < k + m → su x = su' x ∧ ∀ p, p < 8 → tw x p = tw' x p) → (sG pa su tw m k c g f).1 = (sG pa su' tw' m k c g' f).1 ∧ (∀ j, j < 8 → (sG pa su tw m k c g f).2.1 j = (sG pa su' tw' m k c g' f).2.1 j) ∧ (sG pa su tw m k c g f).2.2 = (sG pa su' tw' m k c g' f).2.2
  | 0, k, c, g, g', f, hg, _ => ⟨rfl, hg, rfl⟩
  | m + 1, k, c, g, g', f, hg, h => by
    unfold sG
    have hx := h k (Nat.le_refl k) (by omega)
    have hw := wr_cong (am := pa) hx.2
    by_cases q : c ≤ 0
    · simp only [if_pos q]
      exact ⟨trivial, hg, trivial⟩
    · simp only [if_neg q]
      rw [xhw_cong 8 0 0 (fun k _ h2 => hw k (by omega))]
      by_cases q2 : xhw (wr pa (tw' k)) 8 0 0 = 0
      · simp only [if_pos q2]
        exact sG_cong m (k + 1) c g g' f hg (fun x h1 h2 => h x (by omega) (by omega))
      · simp only [if_neg q2]
        rw [hx.1]
        refine sG_cong m (k + 1) _ _ _ _ (fun j hj => ?_) (fun x h1 h2 => h x (by omega) (by omega))
        rw [hg j hj, dl_cong hw j hj]
theorem sV_cong {pa : Int32} {su su' : Nat → Int32} {tw tw' : Nat → Nat → Int32} {fi : Nat} {n : Int32} (h1 : ∀ x, x < fi → su x = su' x) (h2 : ∀ x p, x ≤ fi → p < 8 → tw x p = tw' x p) : (sF pa su tw fi n).1 = (sF pa su' tw' fi n).1 ∧ (∀ j, j < 8 → sV pa su tw fi n j = sV pa su' tw' fi n j) ∧ sN pa su tw fi n = sN pa su' tw' fi n := by
  have e := sG_cong (pa := pa) (su := su) (su' := su') (tw := tw) (tw' := tw') fi 0 n (fun _ => 0) (fun _ => 0) 0 (fun _ _ => rfl) (fun x _ hx => ⟨h1 x (by omega), fun p hp => h2 x p (by omega) hp⟩)
  obtain ⟨e1, e2, e3⟩ := e
  have f1 : (sF pa su tw fi n).1 = (sF pa su' tw' fi n).1 := e1
  have f2 : ∀ j, j < 8 → (sF pa su tw fi n).2.1 j = (sF pa su' tw' fi n).2.1 j := e2
  have f3 : (sF pa su tw fi n).2.2 = (sF pa su' tw' fi n).2.2 := e3
  have hq : ∀ k, k < 8 → wq pa (tw fi) k = wq pa (tw' fi) k := wq_cong (fun k hk _ => h2 fi k (Nat.le_refl _) hk)
  refine ⟨f1, fun j hj => ?_, ?_⟩
  · unfold sV
    rw [f1]
    by_cases q : (sF pa su' tw' fi n).1 = 0
    · rw [if_pos q, if_pos q]; exact f2 j hj
    · rw [if_neg q, if_neg q]
      by_cases q2 : (sF pa su' tw' fi n).1 ≤ 0
      · rw [if_pos q2, if_pos q2]
        show (sF pa su tw fi n).2.1 j - dl _ _ j = _
        rw [f2 j hj, dl_cong hq j hj]
      · rw [if_neg q2, if_neg q2]
        show (sF pa su tw fi n).2.1 j + dl _ _ j = _
        rw [f2 j hj, dl_cong hq j hj]
  · unfold sN
    rw [f1, f3]
theorem kS_scr {S : xS} {b t : Nat} {gv gp w p l r : Nat → Int32} {tf ll : Int32} {F : Nat → Nat → Int32} (h : clV S b t F) {a : Nat} (ha : a < 3 ∨ 9 < a) : (kS S b t gv gp tf ll w p l r (F 9 0) (F 9 1) (F 10) (F 0 0) (F 0 1) (F 0 2) (F 0 3) (F 0 4) (F 0 5) (F 1) (F 2) (F 3) (F 4) (F 5) (F 6) (F 7) (F 8)).1 a = S.1 a := by
  have e : (kF S b t F).1 a = S.1 a := by rw [c_self h]
  refine Eq.trans ?_ e
  unfold kF kS
  simp only [if_neg (show ¬ a = 3 by omega), if_neg (show ¬ a = 4 by omega), if_neg (show ¬ a = 5 by omega), if_neg (show ¬ a = 6 by omega), if_neg (show ¬ a = 7 by omega), if_neg (show ¬ a = 8 by omega), if_neg (show ¬ a = 9 by omega)]
theorem rS_scr {S : xS} {i : Nat} {wt pt gq ls sp u : Nat → Int32} {F : Nat → Nat → Int32} (h : rV S i F u) {a : Nat} (ha : a < 205 ∨ 208 < a) : (rS S (366 * i) wt pt gq ls sp (encF F u)).1 a = S.1 a := by
  by_cases e : a = 200
  · subst e
    rw [ra_200]
    exact x366_self h
  · show (if a = 200 then _ else if a = 205 then _ else if a = 206 then _ else if a = 207 then _ else if a = 208 then _ else S.1 a) = S.1 a
    rw [if_neg e, if_neg (by omega), if_neg (by omega), if_neg (by omega), if_neg (by omega)]
theorem zScr {i : Nat} {T : xT} {S S1 S2 : xS} {M : zM} {B : Int} (c : zC T S M) (r : zR S M) (g : zG T S B M) (b0 : 0 ≤ B) (b1 : 5 * B + 1000000 * (M.L : Int) ≤ 20000000 * (i : Int)) (h1 : ∀ a, a < 3 ∨ 9 < a → S1.1 a = S.1 a) (h2 : S1.2.2 = S.2.2) (h3 : ∀ a, a < 203 ∨ 212 < a → S2.1 a = S1.1 a) (h4 : S2.2.2 = S1.2.2) (h5 : ∃ wt, rwV S2 wt) : zI (i + 1) T S2 := by
  refine ⟨M, B, ?_, zR_k (fun a q => by rw [h3 a (by omega), h1 a (by omega)]) (fun k q => by rw [h3 199 (by omega), h1 199 (by omega)]) h5 r, zG_f (fun a q => by rw [h3 a (by unfold zTS at q; omega), h1 a (by unfold zTS at q; omega)]) (fun a _ => by rw [h4, h2]) g, b0, by omega⟩
  have tp' : xTp T S2.2.2 := by rw [h4, h2]; exact c.1
  have hn : cSt S2 17 31 40 M.now := cSt_c c.2.1 (by rw [h4, h2]) (fun a q1 q2 => by rw [h3 a (by omega), h1 a (by omega)]) (by rw [h3 40 (by omega), h1 40 (by omega)]) (by rw [h3 41 (by omega), h1 41 (by omega)])
  exact zC_k (M := M) (fun a _ => by rw [h4, h2]) tp' (fun k _ => by rw [h3 0 (by omega), h1 0 (by omega)]) (by rw [h3 1 (by omega), h1 1 (by omega)]) (fun a q => by rw [h3 a (by omega), h1 a (by omega)]) (fun a q1 q2 => by rw [h3 a (by omega), h1 a (by omega)]) (fun a q => by rw [h3 a (by omega), h1 a (by omega)]) hn c
