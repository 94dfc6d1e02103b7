/-- what a stretch leaves alone: references; ints but the rows L; longs but the rows J -/
def xfr (S S' : xS) (L J : List Nat) : Prop := S'.2.2 = S.2.2 ∧ (∀ a, a ∉ L → S'.1 a = S.1 a) ∧ ∀ a, a ∉ J → S'.2.1 a = S.2.1 a
theorem xfr.rf (S : xS) (L J : List Nat) : xfr S S L J := ⟨rfl, fun _ _ => rfl, fun _ _ => rfl⟩
theorem xfr.tr {S S1 S2 : xS} {L J : List Nat} (h1 : xfr S S1 L J) (h2 : xfr S1 S2 L J) : xfr S S2 L J := ⟨h2.1.trans h1.1, fun a h => (h2.2.1 a h).trans (h1.2.1 a h), fun a h => (h2.2.2 a h).trans (h1.2.2 a h)⟩
theorem xfr.up {S S1 : xS} {L J L' J' : List Nat} (h : xfr S S1 L J) (h1 : ∀ a, a ∈ L → a ∈ L') (h2 : ∀ a, a ∈ J → a ∈ J') : xfr S S1 L' J' := ⟨h.1, fun a q => h.2.1 a (fun z => q (h1 a z)), fun a q => h.2.2 a (fun z => q (h2 a z))⟩
theorem xfr.tp {T : xT} {S S1 : xS} {L J : List Nat} (h : xfr S S1 L J) (tp : xTp T S.2.2) : xTp T S1.2.2 := by rw [h.1]; exact tp
theorem xfr.w (S : xS) (a : Nat) (g : Nat → Int32) (L J : List Nat) (h : a ∈ L) : xfr S (xw S a g) L J := ⟨rfl, fun b hb => xw_ne _ _ (fun q => hb (q ▸ h)), fun _ _ => rfl⟩
theorem xfr.wj (S : xS) (a : Nat) (g : Nat → Int64) (L J : List Nat) (h : a ∈ J) : xfr S (xwj S a g) L J := ⟨rfl, fun _ _ => rfl, fun b hb => xwj_ne _ _ (fun q => hb (q ▸ h))⟩
/-- places from i on, below N -/
def xmq (i N : Nat) (g f : Nat → Int32) : Nat → Int32 := fun k => if i ≤ k ∧ k < N then g k else f k
theorem xmq_n (N : Nat) (g f : Nat → Int32) : xmq N N g f = f := by
  funext k
  unfold xmq
  rw [if_neg (by omega)]
theorem xmq_s {S : xS} {a i N : Nat} {v : Int32} {g g' : Nat → Int32} (hi : i < N) (hv : v = g i) (hg : ∀ k, i < k → k < N → g' k = g k) : xw (xI S a i v) a (xmq (i + 1) N g' ((xI S a i v).1 a)) = xw S a (xmq i N g (S.1 a)) := by
  rw [xI_1, xI_w, xw_w]
  congr 1
  funext k
  unfold xmq
  by_cases h1 : i + 1 ≤ k ∧ k < N
  · rw [if_pos h1, if_pos (by omega), hg k (by omega) h1.2]
  · rw [if_neg h1]
    by_cases h2 : k = i
    · subst h2
      rw [xup_at, if_pos ⟨Nat.le_refl _, hi⟩, hv]
    · rw [va_up_ne _ _ h2, if_neg (by omega)]
theorem L_fill {T : xT} {a N : Nat} {v : Int32} (ha : T.2.1 a = N) (hN : N < 2 ^ 31) : ∀ (m i n : Nat) (S : xS), i + m = N → m < n → f_J7_fill_53178_5 T n S a v (nI i) (nI N) = some (xw S a (xmq i N (fun _ => v) (S.1 a))) := by
  intro m
  induction m with
  | zero =>
    intro i n S hi hn
    obtain ⟨n, rfl⟩ : ∃ n', n = n' + 1 := ⟨n - 1, by omega⟩
    obtain rfl : i = N := by omega
    unfold f_J7_fill_53178_5
    rw [if_pos ((xge_n hN hN).mpr (Nat.le_refl _)), xmq_n, xw_self]
  | succ m ih =>
    intro i n S hi hn
    obtain ⟨n, rfl⟩ : ∃ n', n = n' + 1 := ⟨n - 1, by omega⟩
    unfold f_J7_fill_53178_5
    rw [if_neg (fun q => absurd ((xge_n (by omega) hN).mp q) (by omega)), xst_n ha (by omega) hN, xl_e, nI_1, ih (i + 1) n _ (by omega) (by omega)]
    congr 1
    exact xmq_s (by omega) rfl (fun k h1 h2 => rfl)
theorem g_fill {T : xT} {S : xS} {a N : Nat} {v : Int32} (ha : T.2.1 a = N) (hN : N < 1000) : f_J7_fill_53178 T S a v = some (xw S a (xmq 0 N (fun _ => v) (S.1 a))) := by
  unfold f_J7_fill_53178
  rw [ha]
  exact L_fill ha (by omega) N 0 xfu S (by omega) (by show N < 1000; omega)
theorem xmax0 {x : Int32} (h : 0 ≤ x.toInt) : xmax 0 x = x := by
  rw [xeq, xmax_i]
  have : (0 : Int32).toInt = 0 := by decide
  rw [this]; omega
/-! Desk.deal -/
theorem L_deal105 {T : xT} {b : Nat} (hb7 : b ≠ 7) (hb : T.2.1 b = 8) : ∀ (m i n : Nat) (S : xS) (c : Int32), xTp T S.2.2 → i + m = 8 → m < n → f_X2_deal_105 T n S 3 b c (nI i) = some (xw S 7 (dB (S.1 b) m i c (S.1 7))) := by
  intro m
  induction m with
  | zero =>
    intro i n S c tp hi hn
    obtain ⟨n, rfl⟩ : ∃ n', n = n' + 1 := ⟨n - 1, by omega⟩
    obtain rfl : i = 8 := by omega
    unfold f_X2_deal_105
    rw [if_pos x8_t]
    show some S = some (xw S 7 (S.1 7))
    rw [xw_self]
  | succ m ih =>
    intro i n S c tp hi hn
    obtain ⟨n, rfl⟩ : ∃ n', n = n' + 1 := ⟨n - 1, by omega⟩
    have h7 := xTp_n tp (a := 7) 8 (by decide) rfl
    unfold f_X2_deal_105 dB
    rw [if_neg (x8_f (by omega))]
    by_cases h1 : c ≤ 0
    · rw [if_pos h1, if_pos h1, xw_self]
    · rw [if_neg h1, if_neg h1, xai_n hb (by omega) (by decide)]
      by_cases h2 : S.1 b i ≤ 0
      · rw [if_pos h2, if_pos h2, xl_e, nI_1, ih (i + 1) n S c tp (by omega) (by omega)]
      · rw [if_neg h2, if_neg h2, rr_3_5 tp, xai_n h7 (by omega) (by decide), xst_n h7 (by omega) (by decide), xl_e, xl_e, nI_1, ih (i + 1) n (xI S 7 i _) _ tp (by omega) (by omega), xI_ne hb7, xI_1, xI_w, xw_w]
theorem L_deal55 {T : xT} {b : Nat} {p1 : Int32} {al : Int64} (hb7 : b ≠ 7) (hb : T.2.1 b = 8) (hal : al ≠ 0) (q : Nat → Int32) : ∀ (m i n : Nat) (S : xS) (c : Int32), xTp T S.2.2 → (∀ k, k < 8 → q k = ((p1.toInt64 * (xmax 0 (S.1 b k)).toInt64) / al).toInt32) → i + m = 8 → m < n → f_X2_deal_55 T n S 3 p1 b al c (nI i) = f_X2_deal_105 T xfu (xw S 7 (xmp i q (S.1 7))) 3 b (xsb q m i c) 0 := by
  intro m
  induction m with
  | zero =>
    intro i n S c tp hq hi hn
    obtain ⟨n, rfl⟩ : ∃ n', n = n' + 1 := ⟨n - 1, by omega⟩
    obtain rfl : i = 8 := by omega
    unfold f_X2_deal_55
    rw [if_pos x8_t, xl_e, xmp_8, xw_self]
    rfl
  | succ m ih =>
    intro i n S c tp hq hi hn
    obtain ⟨n, rfl⟩ : ∃ n', n = n' + 1 := ⟨n - 1, by omega⟩
    have h7 := xTp_n tp (a := 7) 8 (by decide) rfl
    have hm : xm0 al = true := by unfold xm0; simpa using hal
    unfold f_X2_deal_55
    rw [if_neg (x8_f (by omega)), rr_3_5 tp, xai_n hb (by omega) (by decide), xgd_h hm, xst_n h7 (by omega) (by decide), rr_3_5 (S := xI S 7 i _) tp, xai_n h7 (by omega) (by decide), xl_e, xl_e, nI_1,
      ih (i + 1) n (xI S 7 i _) _ tp (fun k hk => by rw [xI_ne hb7]; exact hq k hk) (by omega) (by omega), xmp_s (g := q) (by omega) (hq i (by omega)).symm (fun _ _ _ => rfl), xI_1, xup_at, ← hq i (by omega)]
    rfl
theorem L_deal13 {T : xT} {S : xS} {b : Nat} {p1 : Int32} (hb : T.2.1 b = 8) (hp : ¬ p1 ≤ 0) : ∀ (m i n : Nat) (c : Int64), i + m = 8 → m < n → f_X2_deal_13 T n S 3 p1 b c (nI i) = (if 0 < xsmj (fun k => (xmax 0 (S.1 b k)).toInt64) m i c then f_X2_deal_55 T xfu S 3 p1 b (xsmj (fun k => (xmax 0 (S.1 b k)).toInt64) m i c) p1 0 else some S) := by
  intro m
  induction m with
  | zero =>
    intro i n c hi hn
    obtain ⟨n, rfl⟩ : ∃ n', n = n' + 1 := ⟨n - 1, by omega⟩
    obtain rfl : i = 8 := by omega
    unfold f_X2_deal_13
    rw [if_pos x8_t]
    show (if 0 < lg_cmp c 0 then _ else _) = if 0 < c then _ else _
    by_cases h : 0 < c
    · rw [if_pos h, if_pos ((xcmp_pos c).mpr h), xl_e, xl_e]
      have e : xsmj (fun k => (xmax 0 (S.1 b k)).toInt64) 0 8 c = c := rfl
      rw [e]
    · rw [if_neg h, if_neg (fun q => h ((xcmp_pos c).mp q))]
  | succ m ih =>
    intro i n c hi hn
    obtain ⟨n, rfl⟩ : ∃ n', n = n' + 1 := ⟨n - 1, by omega⟩
    unfold f_X2_deal_13
    rw [if_neg (x8_f (by omega)), if_neg hp, xai_n hb (by omega) (by decide), xl_e, xl_e, nI_1, ih (i + 1) n _ (by omega) (by omega)]
    rfl
theorem dB_high (w : Nat → Int32) : ∀ (m i : Nat) (c : Int32) (f : Nat → Int32) (k : Nat), i + m ≤ 8 → 8 ≤ k → dB w m i c f k = f k
  | 0, i, c, f, k, _, h => rfl
  | m + 1, i, c, f, k, hm, h => by
    unfold dB
    by_cases h1 : c ≤ 0
    · rw [if_pos h1]
    · rw [if_neg h1]
      by_cases h2 : w i ≤ 0
      · rw [if_pos h2]; exact dB_high w m (i + 1) c f k (by omega) h
      · rw [if_neg h2, dB_high w m (i + 1) _ _ k (by omega) h, va_up_ne _ _ (by omega)]
theorem g_deal {T : xT} {S : xS} {b : Nat} {n : Int32} (tp : xTp T S.2.2) (hb7 : b ≠ 7) (hb : T.2.1 b = 8) (hw : ∀ k, k < 8 → 0 ≤ (S.1 b k).toInt) : ∃ S', f_X2_deal T S 3 n b = some S' ∧ xfr S S' [7] [] ∧ (∀ k, k < 8 → S'.1 7 k = dl n (S.1 b) k) ∧ ∀ k, 8 ≤ k → S'.1 7 k = S.1 7 k := by
  have h7 := xTp_n tp (a := 7) 8 (by decide) rfl
  unfold f_X2_deal
  rw [rr_3_5 tp, g_fill h7 (by decide), xcv_e, xl_e, xl_e]
  have hS1 : ∀ k, k < 8 → (xw S 7 (xmq 0 8 (fun _ => 0) (S.1 7))).1 7 k = 0 := fun k hk => by rw [xw_1]; unfold xmq; rw [if_pos (by omega)]
  have hS8 : ∀ k, 8 ≤ k → (xw S 7 (xmq 0 8 (fun _ => 0) (S.1 7))).1 7 k = S.1 7 k := fun k hk => by rw [xw_1]; unfold xmq; rw [if_neg (by omega)]
  have hfr : xfr S (xw S 7 (xmq 0 8 (fun _ => 0) (S.1 7))) [7] [] := xfr.w _ _ _ _ _ (by decide)
  have hb1 : (xw S 7 (xmq 0 8 (fun _ => 0) (S.1 7))).1 b = S.1 b := xw_ne _ _ hb7
  generalize xw S 7 (xmq 0 8 (fun _ => 0) (S.1 7)) = S1 at hS1 hS8 hfr hb1 ⊢
  by_cases hp : n ≤ 0
  · refine ⟨S1, ?_, hfr, fun k hk => ?_, hS8⟩
    · show f_X2_deal_13 T (999 + 1) S1 3 n b 0 (nI 0) = some S1
      unfold f_X2_deal_13
      rw [if_neg (x8_f (by decide)), if_pos hp]
      rfl
    · rw [hS1 k hk, dl_0 (fun q => by have h1 := (xle0 n).mp hp; have h2 := (xgt0 n).mp q.1; omega)]
  · have e0 : xsmj (fun k => (xmax 0 (S1.1 b k)).toInt64) 8 0 0 = dAll (S.1 b) := xsmj_cong _ _ 8 0 0 (fun k _ h => by rw [hb1, xmax0 (hw k (by omega))])
    have e1 := L_deal13 (S := S1) hb hp 8 0 xfu 0 rfl (by decide)
    rw [e0] at e1
    have e1' : f_X2_deal_13 T xfu S1 3 n b 0 0 = if 0 < dAll (S.1 b) then f_X2_deal_55 T xfu S1 3 n b (dAll (S.1 b)) n 0 else some S1 := e1
    rw [e1']
    by_cases ha : 0 < dAll (S.1 b)
    · rw [if_pos ha]
      have hne : dAll (S.1 b) ≠ 0 := fun q => by rw [q] at ha; exact absurd ha (by decide)
      have tp1 : xTp T S1.2.2 := hfr.tp tp
      have e2 := L_deal55 (p1 := n) (al := dAll (S.1 b)) hb7 hb hne (dQ n (S.1 b)) 8 0 xfu S1 n tp1 (fun k hk => by rw [hb1, xmax0 (hw k hk)]; rfl) rfl (by decide)
      have e2' : f_X2_deal_55 T xfu S1 3 n b (dAll (S.1 b)) n 0 = f_X2_deal_105 T xfu (xw S1 7 (xmp 0 (dQ n (S.1 b)) (S1.1 7))) 3 b (dL n (S.1 b)) 0 := e2
      rw [e2']
      have e3 := L_deal105 (T := T) hb7 hb 8 0 xfu (xw S1 7 (xmp 0 (dQ n (S.1 b)) (S1.1 7))) (dL n (S.1 b)) tp1 rfl (by decide)
      have e3' : f_X2_deal_105 T xfu (xw S1 7 (xmp 0 (dQ n (S.1 b)) (S1.1 7))) 3 b (dL n (S.1 b)) 0 = _ := e3
      rw [e3', xw_w, xw_1, xw_ne _ _ hb7, hb1]
      refine ⟨_, rfl, hfr.tr (xfr.w _ _ _ _ _ (by decide)), fun k hk => ?_, fun k hk => by rw [xw_1, dB_high _ 8 0 _ _ k (by omega) hk]; unfold xmp; rw [if_neg (by omega)]; exact hS8 k hk⟩
      rw [xw_1]
      unfold dl
      have hn0 : 0 < n := by
        rw [xgt0]; rw [xle0] at hp; omega
      rw [if_pos ⟨hn0, ha⟩]
      exact dB_cong _ 8 0 _ _ _ (fun j hj => by unfold xmp; rw [if_pos (by omega)]) (by omega) k hk
    · rw [if_neg ha]
      exact ⟨S1, rfl, hfr, fun k hk => by rw [hS1 k hk, dl_0 (fun q => ha q.2)], hS8⟩
