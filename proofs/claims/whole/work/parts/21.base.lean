/-! tools of the pure part -/
def xw (S : xS) (a : Nat) (g : Nat → Int32) : xS := (va_up S.1 a g, S.2.1, S.2.2)
def xwj (S : xS) (a : Nat) (g : Nat → Int64) : xS := (S.1, va_up S.2.1 a g, S.2.2)
theorem xw_1 (S : xS) (a : Nat) (g : Nat → Int32) : (xw S a g).1 a = g := va_up_self _ _ _
theorem xw_ne (S : xS) {a b : Nat} (g : Nat → Int32) (h : b ≠ a) : (xw S a g).1 b = S.1 b := va_up_ne _ _ h
theorem xw_j (S : xS) (a : Nat) (g : Nat → Int32) : (xw S a g).2.1 = S.2.1 := rfl
theorem xw_r (S : xS) (a : Nat) (g : Nat → Int32) : (xw S a g).2.2 = S.2.2 := rfl
theorem xwj_1 (S : xS) (a : Nat) (g : Nat → Int64) : (xwj S a g).2.1 a = g := va_up_self _ _ _
theorem xwj_ne (S : xS) {a b : Nat} (g : Nat → Int64) (h : b ≠ a) : (xwj S a g).2.1 b = S.2.1 b := va_up_ne _ _ h
theorem xwj_i (S : xS) (a : Nat) (g : Nat → Int64) : (xwj S a g).1 = S.1 := rfl
theorem xwj_r (S : xS) (a : Nat) (g : Nat → Int64) : (xwj S a g).2.2 = S.2.2 := rfl
theorem xI_w (S : xS) (a k : Nat) (v : Int32) : xI S a k v = xw S a (va_up (S.1 a) k v) := rfl
theorem xJ_w (S : xS) (a k : Nat) (v : Int64) : xJ S a k v = xwj S a (va_up (S.2.1 a) k v) := rfl
theorem xup_up {α : Type} (F : Nat → α) (a : Nat) (g h : α) : va_up (va_up F a g) a h = va_up F a h := by
  funext j
  by_cases hj : j = a
  · subst hj; simp [va_up]
  · simp [va_up, hj]
theorem xup_self {α : Type} (F : Nat → α) (a : Nat) : va_up F a (F a) = F := by
  funext j
  by_cases hj : j = a
  · subst hj; simp [va_up]
  · simp [va_up, hj]
theorem xw_w (S : xS) (a : Nat) (g h : Nat → Int32) : xw (xw S a g) a h = xw S a h := by unfold xw; simp only [xup_up]
theorem xw_self (S : xS) (a : Nat) : xw S a (S.1 a) = S := by unfold xw; rw [xup_self]
theorem xwj_w (S : xS) (a : Nat) (g h : Nat → Int64) : xwj (xwj S a g) a h = xwj S a h := by unfold xwj; simp only [xup_up]
theorem xwj_self (S : xS) (a : Nat) : xwj S a (S.2.1 a) = S := by unfold xwj; rw [xup_self]
theorem xup_at {α : Type} (f : Nat → α) (k : Nat) (v : α) : va_up f k v k = v := va_up_self _ _ _
theorem xin_nI {i n : Nat} (h : i < n) (hn : n < 2 ^ 31) : xin (nI i) n = true := by
  unfold xin
  have h1 := nI_pos (n := i) (by omega)
  rw [nI_clamp (by omega)]
  simp [h1, h]
theorem xai_n {α : Type} {T : xT} {S : xS} {a i : Nat} {K : Int32 → Option α} {N : Nat} (hN : T.2.1 a = N) (h : i < N) (hn : N < 2 ^ 31) : xai T S a (nI i) K = K (S.1 a i) := by
  unfold xai
  rw [hN, if_pos (xin_nI h hn), nI_clamp (by omega)]
theorem xaj_n {α : Type} {T : xT} {S : xS} {a i : Nat} {K : Int64 → Option α} {N : Nat} (hN : T.2.1 a = N) (h : i < N) (hn : N < 2 ^ 31) : xaj T S a (nI i) K = K (S.2.1 a i) := by
  unfold xaj
  rw [hN, if_pos (xin_nI h hn), nI_clamp (by omega)]
theorem xst_n {α : Type} {T : xT} {S : xS} {a i : Nat} {v : Int32} {K : xS → Option α} {N : Nat} (hN : T.2.1 a = N) (h : i < N) (hn : N < 2 ^ 31) : xst T S a (nI i) v K = K (xI S a i v) := by
  unfold xst
  rw [hN, if_pos (xin_nI h hn), nI_clamp (by omega)]
theorem xsj_n {α : Type} {T : xT} {S : xS} {a i : Nat} {v : Int64} {K : xS → Option α} {N : Nat} (hN : T.2.1 a = N) (h : i < N) (hn : N < 2 ^ 31) : xsj T S a (nI i) v K = K (xJ S a i v) := by
  unfold xsj
  rw [hN, if_pos (xin_nI h hn), nI_clamp (by omega)]
theorem xge_n {i N : Nat} (hi : i < 2 ^ 31) (hN : N < 2 ^ 31) : (nI N ≤ nI i) ↔ N ≤ i := nI_leI hN hi
theorem x8_t : (8 : Int32) ≤ nI 8 := by decide
theorem x8_f {i : Nat} (h : i < 8) : ¬ (8 : Int32) ≤ nI i := by
  have := nI_leI (a := 8) (b := i) (by decide) (by omega)
  show ¬ nI 8 ≤ nI i
  rw [this]; omega
theorem xl_e {α β : Type} (v : β) (K : β → Option α) : xl v K = K v := rfl
theorem xc_e {α β : Type} (r : β) (S : xS) (K : β → xS → Option α) : xc (some (r, S)) K = K r S := rfl
theorem xcv_e {α : Type} (S : xS) (K : xS → Option α) : xcv (some S) K = K S := rfl
theorem xgd_t {α : Type} (A : Option α) : xgd true A = A := rfl
theorem xgd_h {α : Type} {b : Bool} (h : b = true) (A : Option α) : xgd b A = A := by rw [h]; rfl
theorem xpi_e {α : Type} (S : xS) (a k : Nat) (v : Int32) (K : xS → Option α) : xpi S a k v K = K (xI S a k v) := rfl
/-- places from i on, below 8, hold g; the others f -/
def xmp (i : Nat) (g f : Nat → Int32) : Nat → Int32 := fun k => if i ≤ k ∧ k < 8 then g k else f k
def xmpj (i : Nat) (g f : Nat → Int64) : Nat → Int64 := fun k => if i ≤ k ∧ k < 8 then g k else f k
theorem xmp_8 (g f : Nat → Int32) : xmp 8 g f = f := by
  funext k
  unfold xmp
  rw [if_neg (by omega)]
theorem xmpj_8 (g f : Nat → Int64) : xmpj 8 g f = f := by
  funext k
  unfold xmpj
  rw [if_neg (by omega)]
theorem xmp_s {S : xS} {a i : Nat} {v : Int32} {g g' : Nat → Int32} (hi : i < 8) (hv : v = g i) (hg : ∀ k, i < k → k < 8 → g' k = g k) : xw (xI S a i v) a (xmp (i + 1) g' ((xI S a i v).1 a)) = xw S a (xmp i g (S.1 a)) := by
  rw [xI_1, xI_w, xw_w]
  congr 1
  funext k
  unfold xmp
  by_cases h1 : i + 1 ≤ k ∧ k < 8
  · rw [if_pos h1, if_pos (by omega), hg k (by omega) h1.2]
  · rw [if_neg h1]
    by_cases h2 : k = i
    · subst h2
      rw [xup_at, if_pos ⟨Nat.le_refl _, hi⟩, hv]
    · rw [va_up_ne _ _ h2, if_neg (by omega)]
theorem xmpj_s {S : xS} {a i : Nat} {v : Int64} {g g' : Nat → Int64} (hi : i < 8) (hv : v = g i) (hg : ∀ k, i < k → k < 8 → g' k = g k) : xwj (xJ S a i v) a (xmpj (i + 1) g' ((xJ S a i v).2.1 a)) = xwj S a (xmpj i g (S.2.1 a)) := by
  rw [xJ_1, xJ_w, xwj_w]
  congr 1
  funext k
  unfold xmpj
  by_cases h1 : i + 1 ≤ k ∧ k < 8
  · rw [if_pos h1, if_pos (by omega), hg k (by omega) h1.2]
  · rw [if_neg h1]
    by_cases h2 : k = i
    · subst h2
      rw [xup_at, if_pos ⟨Nat.le_refl _, hi⟩, hv]
    · rw [va_up_ne _ _ h2, if_neg (by omega)]
theorem xI_at {S : xS} {a i k : Nat} {v : Int32} (h : k ≠ i) : (xI S a i v).1 a k = S.1 a k := by rw [xI_1, va_up_ne _ _ h]
theorem xI_ne {S : xS} {a b i : Nat} {v : Int32} (h : b ≠ a) : (xI S a i v).1 b = S.1 b := xput_ne _ _ _ h
/-- sums from place i on, m of them, in order -/
def xsm (g : Nat → Int32) : Nat → Nat → Int32 → Int32
  | 0, _, c => c
  | m + 1, i, c => xsm g m (i + 1) (c + g i)
def xsmj (g : Nat → Int64) : Nat → Nat → Int64 → Int64
  | 0, _, c => c
  | m + 1, i, c => xsmj g m (i + 1) (c + g i)
abbrev xtot (g : Nat → Int32) : Int32 := xsm g 8 0 0
/-! the first loops -/
theorem L_addAll {T : xT} {a b : Nat} (hne : b ≠ a) (ha : T.2.1 a = 8) (hb : T.2.1 b = 8) : ∀ (m i n : Nat) (S : xS), i + m = 8 → m < n → f_X9_addAll_2 T n S a b (nI i) = some (xw S a (xmp i (fun k => S.1 a k + S.1 b k) (S.1 a))) := by
  intro m
  induction m with
  | zero =>
    intro i n S hi hn
    obtain ⟨n, rfl⟩ : ∃ n', n = n' + 1 := ⟨n - 1, by omega⟩
    obtain rfl : i = 8 := by omega
    unfold f_X9_addAll_2
    rw [if_pos x8_t, xmp_8, xw_self]
  | succ m ih =>
    intro i n S hi hn
    obtain ⟨n, rfl⟩ : ∃ n', n = n' + 1 := ⟨n - 1, by omega⟩
    unfold f_X9_addAll_2
    rw [if_neg (x8_f (by omega)), xai_n ha (by omega) (by decide), xai_n hb (by omega) (by decide), xst_n ha (by omega) (by decide), xl_e, nI_1, ih (i + 1) n _ (by omega) (by omega)]
    congr 1
    exact xmp_s (by omega) rfl (fun k h1 h2 => by rw [xI_at (by omega), xI_ne hne])
theorem g_addAll {T : xT} {S : xS} {a b : Nat} (hne : b ≠ a) (ha : T.2.1 a = 8) (hb : T.2.1 b = 8) : f_X9_addAll T S a b = some (xw S a (xmp 0 (fun k => S.1 a k + S.1 b k) (S.1 a))) := L_addAll hne ha hb 8 0 xfu S rfl (by decide)
theorem L_takeAll {T : xT} {a b : Nat} (hne : b ≠ a) (ha : T.2.1 a = 8) (hb : T.2.1 b = 8) : ∀ (m i n : Nat) (S : xS), i + m = 8 → m < n → f_X9_takeAll_2 T n S a b (nI i) = some (xw S a (xmp i (fun k => S.1 a k - S.1 b k) (S.1 a))) := by
  intro m
  induction m with
  | zero =>
    intro i n S hi hn
    obtain ⟨n, rfl⟩ : ∃ n', n = n' + 1 := ⟨n - 1, by omega⟩
    obtain rfl : i = 8 := by omega
    unfold f_X9_takeAll_2
    rw [if_pos x8_t, xmp_8, xw_self]
  | succ m ih =>
    intro i n S hi hn
    obtain ⟨n, rfl⟩ : ∃ n', n = n' + 1 := ⟨n - 1, by omega⟩
    unfold f_X9_takeAll_2
    rw [if_neg (x8_f (by omega)), xai_n ha (by omega) (by decide), xai_n hb (by omega) (by decide), xst_n ha (by omega) (by decide), xl_e, nI_1, ih (i + 1) n _ (by omega) (by omega)]
    congr 1
    exact xmp_s (by omega) rfl (fun k h1 h2 => by rw [xI_at (by omega), xI_ne hne])
theorem g_takeAll {T : xT} {S : xS} {a b : Nat} (hne : b ≠ a) (ha : T.2.1 a = 8) (hb : T.2.1 b = 8) : f_X9_takeAll T S a b = some (xw S a (xmp 0 (fun k => S.1 a k - S.1 b k) (S.1 a))) := L_takeAll hne ha hb 8 0 xfu S rfl (by decide)
theorem L_total {T : xT} {S : xS} {a : Nat} (ha : T.2.1 a = 8) : ∀ (m i n : Nat) (c : Int32), i + m = 8 → m < n → f_X9_total_4 T n S a c (nI i) = some (xsm (S.1 a) m i c, S) := by
  intro m
  induction m with
  | zero =>
    intro i n c hi hn
    obtain ⟨n, rfl⟩ : ∃ n', n = n' + 1 := ⟨n - 1, by omega⟩
    obtain rfl : i = 8 := by omega
    unfold f_X9_total_4
    rw [ha, if_pos (by decide)]
    rfl
  | succ m ih =>
    intro i n c hi hn
    obtain ⟨n, rfl⟩ : ∃ n', n = n' + 1 := ⟨n - 1, by omega⟩
    unfold f_X9_total_4
    rw [ha, show (Int32.ofNat 8) = (8 : Int32) from rfl, if_neg (x8_f (show i < 8 by omega)), xai_n ha (by omega) (by decide), xl_e, xl_e, nI_1, ih (i + 1) n _ (by omega) (by omega)]
    rfl
theorem g_total {T : xT} {S : xS} {a : Nat} (ha : T.2.1 a = 8) : f_X9_total T S a = some (xtot (S.1 a), S) := L_total ha 8 0 xfu 0 rfl (by decide)
