/-! words, partners, numbers, signs -/
def tBy (i k : Nat) : Int32 := (xbyt.getD i []).getD k 0
def tIb (tb : Nat → Int32) (p i : Nat) : Nat → Nat → Bool
  | 0, _ => true
  | m + 1, k => if tb (p + k) = tBy i k then tIb tb p i m (k + 1) else false
/-- is the token the word i -/
def tIw (tb : Nat → Int32) (L q i : Nat) : Bool := if tKd tb L q = 1 then (if tNx tb L q = tPl tb L q + xlen.getD i 0 then tIb tb (tPl tb L q) i (xlen.getD i 0) 0 else false) else false
theorem xw_len : ∀ i, i < 22 → xlen.getD i 0 ≤ 7 ∧ 2 ≤ xlen.getD i 0 ∧ Int32.ofNat (xlen.getD i 0) >>> ((0 : Int32) &&& 31) = nI (xlen.getD i 0) := by decide +kernel
theorem xw_ch : ∀ i, i < 22 → ∀ k, k < 7 → k < xlen.getD i 0 → xch i (nI k) = tBy i k ∧ xnc (xch i (nI k)) = true ∧ (¬ tBy i k < 97 ∧ ¬ 122 < tBy i k) := by decide +kernel
theorem nI_sub {a c : Nat} (h : c ≤ a) (ha : a < 2 ^ 31) : nI a - nI c = nI (a - c) := by
  rw [xeq, xsub (by rw [nI_toInt ha, nI_toInt (by omega)]; omega) (by rw [nI_toInt ha, nI_toInt (by omega)]; omega), nI_toInt ha, nI_toInt (by omega), nI_toInt (by omega)]
  omega
theorem L_isW28 {T : xT} {S : xS} {tb : Nat → Int32} {L p i : Nat} (h : cTb T S tb L) (hi : i < 22) {g : Nat → Int32} (h5 : g 5 = nI p) (hp : p + xlen.getD i 0 ≤ L) : ∀ (m k n : Nat), k + m = xlen.getD i 0 → m < n → f_X3_isWord_28 T n (xw S 1 g) 1 i (nI k) = some (if tIb tb p i m k = true then 1 else 0, xw S 1 g) := by
  have hL := h.2.1
  obtain ⟨w1, w2, w3⟩ := xw_len i hi
  intro m
  induction m with
  | zero =>
    intro k n hk hn
    obtain ⟨n, rfl⟩ : ∃ n', n = n' + 1 := ⟨n - 1, by omega⟩
    unfold f_X3_isWord_28 f_J0_length_8abf5
    rw [xc_e, w3, if_pos (nI_le (by omega) (by omega))]
    rfl
  | succ m ih =>
    intro k n hk hn
    obtain ⟨n, rfl⟩ : ∃ n', n = n' + 1 := ⟨n - 1, by omega⟩
    obtain ⟨c1, c2, _⟩ := xw_ch i hi k (by omega) (by omega)
    unfold f_X3_isWord_28 f_J0_length_8abf5 f_J0_charAt_5068e
    rw [xc_e, w3, if_neg (nI_ge (by omega) (by omega)), xw_1, h5, nI_add, c_byte h (by omega), if_pos (xin_nI (by omega) (by omega)), xgd_h c2, xc_e, c1]
    unfold tIb
    by_cases a : tb (p + k) = tBy i k
    · rw [if_pos a, if_pos a, xl_e, nI_1, ih (k + 1) n (by omega) (by omega)]
    · rw [if_neg a, if_neg a]
      rfl
theorem c_isWord {T : xT} {S : xS} {tb : Nat → Int32} {L q i : Nat} (h : cTb T S tb L) (hq : q ≤ L) (hi : i < 22) {g : Nat → Int32} (hg : cTk tb L q g) : f_X3_isWord T (xw S 1 g) 1 i = some (if tIw tb L q i = true then 1 else 0, xw S 1 g) := by
  have hL := h.2.1
  obtain ⟨w1, w2, w3⟩ := xw_len i hi
  obtain ⟨g1, g4, g5, g6, _, _⟩ := hg
  have r1 := tPl_r tb hq
  have r2 := tNp_r tb r1.2
  have r3 : tPl tb L q ≤ tNx tb L q ∧ tNx tb L q ≤ L := ⟨r2.1, r2.2.1⟩
  unfold f_X3_isWord f_J0_length_8abf5 tIw
  rw [xw_1, g6, g4, g5, nI_sub r3.1 (by omega)]
  by_cases k1 : tKd tb L q = 1
  · rw [if_pos k1, if_pos k1, xc_e, w3]
    by_cases k2 : tNx tb L q = tPl tb L q + xlen.getD i 0
    · rw [if_pos k2, if_pos (by rw [k2, Nat.add_sub_cancel_left]), xl_e]
      exact L_isW28 h hi g5 (by omega) (xlen.getD i 0) 0 xfu (by omega) (by show _ < 1000; omega)
    · rw [if_neg k2, if_neg (by rw [nI_eq (by omega) (by omega)]; omega)]
      rfl
  · rw [if_neg k1, if_neg k1]
    rfl
/-! the reference's words are packed -/
def pz (f : Nat → Int) : Nat → Int
  | 0 => 0
  | n + 1 => pz f n * 32 + f n
theorem pz_nn {f : Nat → Int} : ∀ (n : Nat), (∀ k, k < n → 1 ≤ f k ∧ f k ≤ 26) → 0 ≤ pz f n
  | 0, _ => Int.le_refl 0
  | n + 1, h => by
    have := pz_nn n (fun k hk => h k (by omega))
    have := h n (by omega)
    show 0 ≤ pz f n * 32 + f n
    omega
theorem pz_inj {f g : Nat → Int} : ∀ (a b : Nat), (∀ k, k < a → 1 ≤ f k ∧ f k ≤ 26) → (∀ k, k < b → 1 ≤ g k ∧ g k ≤ 26) → pz f a = pz g b → a = b ∧ ∀ k, k < a → f k = g k
  | 0, 0, _, _, _ => ⟨rfl, fun k hk => by omega⟩
  | 0, b + 1, hf, hg, e => by
    have := pz_nn b (fun k hk => hg k (by omega))
    have := hg b (by omega)
    have e : (0 : Int) = pz g b * 32 + g b := e
    omega
  | a + 1, 0, hf, hg, e => by
    have := pz_nn a (fun k hk => hf k (by omega))
    have := hf a (by omega)
    have e : pz f a * 32 + f a = (0 : Int) := e
    omega
  | a + 1, b + 1, hf, hg, e => by
    have n1 := pz_nn a (fun k hk => hf k (by omega))
    have n2 := pz_nn b (fun k hk => hg k (by omega))
    have d1 := hf a (by omega)
    have d2 := hg b (by omega)
    have e : pz f a * 32 + f a = pz g b * 32 + g b := e
    obtain ⟨r1, r2⟩ := pz_inj a b (fun k hk => hf k (by omega)) (fun k hk => hg k (by omega)) (by omega)
    subst r1
    refine ⟨rfl, fun k hk => ?_⟩
    rcases Nat.lt_or_ge k a with h | h
    · exact r2 k h
    · obtain rfl : k = a := by omega
      omega
theorem lcmp_lt (a b : Int64) : lg_cmp a b < 0 ↔ a.toInt < b.toInt := by
  unfold lg_cmp
  by_cases h : a > b
  · rw [if_pos h]
    have : b.toInt < a.toInt := Int64.lt_iff_toInt_lt.mp h
    exact ⟨fun q => absurd q (by decide), fun q => by omega⟩
  · rw [if_neg h]
    have h' : ¬ b.toInt < a.toInt := fun q => h (Int64.lt_iff_toInt_lt.mpr q)
    by_cases h2 : a = b
    · rw [if_pos h2, h2]; exact ⟨fun q => absurd q (by decide), fun q => by omega⟩
    · rw [if_neg h2]
      have : a.toInt ≠ b.toInt := fun q => h2 (Int64.toInt_inj.mp q)
      exact ⟨fun _ => by omega, fun _ => by decide⟩
theorem lcmp_gt (a b : Int64) : 0 < lg_cmp a b ↔ b.toInt < a.toInt := by
  unfold lg_cmp
  by_cases h : a > b
  · rw [if_pos h]
    exact ⟨fun _ => Int64.lt_iff_toInt_lt.mp h, fun _ => by decide⟩
  · rw [if_neg h]
    have h' : ¬ b.toInt < a.toInt := fun q => h (Int64.lt_iff_toInt_lt.mpr q)
    by_cases h2 : a = b
    · rw [if_pos h2]; exact ⟨fun q => absurd q (by decide), fun q => absurd q h'⟩
    · rw [if_neg h2]; exact ⟨fun q => absurd q (by decide), fun q => absurd q h'⟩
theorem lcmp_eq (a b : Int64) : lg_cmp a b = 0 ↔ a = b := by
  unfold lg_cmp
  by_cases h : a > b
  · rw [if_pos h]
    exact ⟨fun q => absurd q (by decide), fun q => by subst q; exact absurd h (Int64.lt_irrefl)⟩
  · rw [if_neg h]
    by_cases h2 : a = b
    · rw [if_pos h2]; exact ⟨fun _ => h2, fun _ => rfl⟩
    · rw [if_neg h2]; exact ⟨fun q => absurd q (by decide), fun q => absurd q h2⟩
/-- a letter's number -/
theorem tL_i {c : Int32} (h1 : ¬ c < 97) (h2 : ¬ 122 < c) : 97 ≤ c.toInt ∧ c.toInt ≤ 122 := by
  rw [xlt] at h1 h2
  rw [show (97 : Int32).toInt = 97 from by decide] at h1
  rw [show (122 : Int32).toInt = 122 from by decide] at h2
  omega
theorem lett_i {w : Int64} {c : Int32} (h1 : 97 ≤ c.toInt) (h2 : c.toInt ≤ 122) : (lett w c).toInt = if 0 ≤ w.toInt ∧ w.toInt < 1125899906842624 then w.toInt * 32 + (c.toInt - 96) else -1 := by
  unfold lett
  have z0 : (0 : Int64).toInt = 0 := by decide
  have z1 : (1125899906842624 : Int64).toInt = 1125899906842624 := by decide
  by_cases a1 : lg_cmp w 0 < 0
  · rw [if_pos a1]
    rw [lcmp_lt, z0] at a1
    rw [if_neg (by omega)]; decide
  · rw [if_neg a1]
    rw [lcmp_lt, z0] at a1
    by_cases a2 : lg_cmp w 1125899906842624 < 0
    · rw [if_pos a2]
      rw [lcmp_lt, z1] at a2
      rw [if_pos (by omega)]
      have m : (w * 32).toInt = w.toInt * 32 := by
        rw [Int64.toInt_mul, show (32 : Int64).toInt = 32 from by decide, xb64 (by omega) (by omega)]
      have s : (w * 32 + c.toInt64).toInt = w.toInt * 32 + c.toInt := by
        rw [Int64.toInt_add, m, Int32.toInt_toInt64, xb64 (by omega) (by omega)]
      rw [Int64.toInt_sub, s, show (96 : Int64).toInt = 96 from by decide, xb64 (by omega) (by omega)]
      omega
    · rw [if_neg a2]
      rw [lcmp_lt, z1] at a2
      rw [if_neg (by omega)]; decide
/-- a run of letters -/
theorem tRl_let (tb : Nat → Int32) : ∀ (m q k : Nat), q ≤ k → k < tRl tb m q → ¬ tb k < 97 ∧ ¬ 122 < tb k
  | 0, q, k, h1, h2 => by
    have h2 : k < q := h2
    omega
  | m + 1, q, k, h1, h2 => by
    unfold tRl at h2
    by_cases a1 : tb q < 97
    · rw [if_pos a1] at h2; omega
    · rw [if_neg a1] at h2
      by_cases a2 : 122 < tb q
      · rw [if_pos a2] at h2; omega
      · rw [if_neg a2] at h2
        by_cases hk : k = q
        · subst hk; exact ⟨a1, a2⟩
        · exact tRl_let tb m (q + 1) k (by omega) h2
def tWf (tb : Nat → Int32) (q : Nat) : Nat → Int64 → Int64
  | 0, w => w
  | c + 1, w => lett (tWf tb q c w) (tb (q + c))
theorem tWf_s (tb : Nat → Int32) (q : Nat) : ∀ (c : Nat) (w : Int64), tWf tb q (c + 1) w = tWf tb (q + 1) c (lett w (tb q))
  | 0, w => rfl
  | c + 1, w => by
    show lett (tWf tb q (c + 1) w) (tb (q + (c + 1))) = lett (tWf tb (q + 1) c (lett w (tb q))) (tb (q + 1 + c))
    rw [tWf_s tb q c w, show q + (c + 1) = q + 1 + c by omega]
theorem tWd_f (tb : Nat → Int32) : ∀ (m q : Nat) (w : Int64), tWd tb m q w = tWf tb q (tRl tb m q - q) w
  | 0, q, w => by
    show w = tWf tb q (q - q) w
    rw [Nat.sub_self]; rfl
  | m + 1, q, w => by
    unfold tWd tRl
    by_cases a1 : tb q < 97
    · rw [if_pos a1, if_pos a1, Nat.sub_self]; rfl
    · rw [if_neg a1, if_neg a1]
      by_cases a2 : 122 < tb q
      · rw [if_pos a2, if_pos a2, Nat.sub_self]; rfl
      · rw [if_neg a2, if_neg a2, tWd_f tb m (q + 1)]
        have r := (tRl_r tb m (q + 1)).1
        rw [show tRl tb m (q + 1) - q = (tRl tb m (q + 1) - (q + 1)) + 1 by omega, tWf_s]
def tDg (tb : Nat → Int32) (q : Nat) : Nat → Int := fun k => (tb (q + k)).toInt - 96
theorem pz_lt {f : Nat → Int} : ∀ (n : Nat), (∀ k, k < n → 1 ≤ f k ∧ f k ≤ 26) → pz f n < 32 ^ n ∧ (1 ≤ n → 32 ^ (n - 1) ≤ pz f n)
  | 0, _ => ⟨by show (0 : Int) < 1; decide, fun h => by omega⟩
  | n + 1, h => by
    obtain ⟨h1, h2⟩ := pz_lt n (fun k hk => h k (by omega))
    have d := h n (by omega)
    have e : pz f (n + 1) = pz f n * 32 + f n := rfl
    refine ⟨by rw [e, Int.pow_succ]; omega, fun _ => ?_⟩
    rw [e, Nat.add_sub_cancel]
    rcases Nat.eq_zero_or_pos n with hz | hz
    · subst hz
      show (1 : Int) ≤ 0 * 32 + f 0
      omega
    · have := h2 hz
      have e2 : (32 : Int) ^ n = 32 ^ (n - 1) * 32 := by
        have q := Int.pow_succ (32 : Int) (n - 1)
        rw [show Nat.succ (n - 1) = n by omega] at q
        exact q
      omega
theorem tWf_i {tb : Nat → Int32} {q : Nat} : ∀ (c : Nat), (∀ k, k < c → ¬ tb (q + k) < 97 ∧ ¬ 122 < tb (q + k)) → (tWf tb q c 0).toInt = if c ≤ 11 then pz (tDg tb q) c else -1
  | 0, _ => by
    show (0 : Int64).toInt = if 0 ≤ 11 then pz (tDg tb q) 0 else -1
    rw [if_pos (by omega)]
    show (0 : Int64).toInt = 0
    decide
  | c + 1, h => by
    have ih := tWf_i c (fun k hk => h k (by omega))
    obtain ⟨l1, l2⟩ := h c (by omega)
    obtain ⟨d1, d2⟩ := tL_i l1 l2
    have hd : ∀ k, k < c → 1 ≤ tDg tb q k ∧ tDg tb q k ≤ 26 := fun k hk => by
      obtain ⟨a, b⟩ := h k (by omega)
      have := tL_i a b
      unfold tDg; omega
    show (lett (tWf tb q c 0) (tb (q + c))).toInt = _
    rw [lett_i d1 d2, ih]
    obtain ⟨p1, p2⟩ := pz_lt c hd
    have p0 := pz_nn c hd
    have e : pz (tDg tb q) (c + 1) = pz (tDg tb q) c * 32 + ((tb (q + c)).toInt - 96) := rfl
    by_cases c1 : c ≤ 10
    · have : (32 : Int) ^ c ≤ 1125899906842624 := (by decide +kernel : ∀ c, c ≤ 10 → (32 : Int) ^ c ≤ 1125899906842624) c c1
      rw [if_pos (show c ≤ 11 by omega), if_pos (by omega), if_pos (by omega), e]
    · by_cases c2 : c = 11
      · subst c2
        have := p2 (by omega)
        have e2 : (32 : Int) ^ (11 - 1) = 1125899906842624 := by decide
        rw [if_pos (show 11 ≤ 11 by omega), if_neg (by omega), if_neg (by omega)]
      · rw [if_neg (show ¬ c ≤ 11 by omega), if_neg (by omega), if_neg (by omega)]
/-- the packed word i -/
def tLt (i : Nat) : Int64 := tWf (tBy i) 0 (xlen.getD i 0) 0
theorem tLt_e (i : Nat) : tLt i = tWf (tBy i) 0 (xlen.getD i 0) 0 := by unfold tLt; rfl
theorem tIb_iff {tb : Nat → Int32} {p i : Nat} : ∀ (m k : Nat), tIb tb p i m k = true ↔ ∀ j, k ≤ j → j < k + m → tb (p + j) = tBy i j
  | 0, k => ⟨fun _ j h1 h2 => by omega, fun _ => rfl⟩
  | m + 1, k => by
    unfold tIb
    by_cases a : tb (p + k) = tBy i k
    · rw [if_pos a, tIb_iff m (k + 1)]
      constructor
      · intro h j h1 h2
        by_cases hj : j = k
        · subst hj; exact a
        · exact h j (by omega) (by omega)
      · intro h j h1 h2
        exact h j (by omega) (by omega)
    · rw [if_neg a]
      exact ⟨fun q => (by cases q), fun h => absurd (h k (Nat.le_refl k) (by omega)) a⟩
theorem tKd_run {tb : Nat → Int32} {L q : Nat} (h : tKd tb L q = 1) : tNx tb L q = tRl tb (L - tPl tb L q) (tPl tb L q) := by
  have h' : tKp tb L (tPl tb L q) = 1 := h
  unfold tNx tNp
  rw [h', if_neg (by decide), if_pos rfl]
theorem tWd_run {tb : Nat → Int32} {L q : Nat} (h : tKd tb L q = 1) : tWd tb (L - tPl tb L q) (tPl tb L q) 0 = tWf tb (tPl tb L q) (tNx tb L q - tPl tb L q) 0 ∧ ∀ k, k < tNx tb L q - tPl tb L q → ¬ tb (tPl tb L q + k) < 97 ∧ ¬ 122 < tb (tPl tb L q + k) := by
  have e := tKd_run h
  refine ⟨by rw [tWd_f, e], fun k hk => ?_⟩
  exact tRl_let tb (L - tPl tb L q) (tPl tb L q) _ (by omega) (by omega)
theorem tDg_ok {tb : Nat → Int32} {q c : Nat} (h : ∀ k, k < c → ¬ tb (q + k) < 97 ∧ ¬ 122 < tb (q + k)) : ∀ k, k < c → 1 ≤ tDg tb q k ∧ tDg tb q k ≤ 26 := fun k hk => by
  obtain ⟨a, b⟩ := h k hk
  have := tL_i a b
  unfold tDg; omega
theorem tBy_l {i : Nat} (hi : i < 22) : ∀ k, k < xlen.getD i 0 → ¬ tBy i (0 + k) < 97 ∧ ¬ 122 < tBy i (0 + k) := fun k hk => by
  rw [Nat.zero_add]
  have := (xw_len i hi).1
  exact (xw_ch i hi k (by omega) hk).2.2
theorem tLt_i {i : Nat} (hi : i < 22) : (tLt i).toInt = pz (tDg (tBy i) 0) (xlen.getD i 0) ∧ 0 ≤ pz (tDg (tBy i) 0) (xlen.getD i 0) := by
  have w1 := (xw_len i hi).1
  have hb := tBy_l hi
  have f2 := tWf_i (tb := tBy i) (q := 0) (xlen.getD i 0) hb
  rw [← tLt_e, if_pos (show xlen.getD i 0 ≤ 11 by omega)] at f2
  exact ⟨f2, pz_nn _ (tDg_ok hb)⟩
theorem pz_cong {f g : Nat → Int} : ∀ (n : Nat), (∀ k, k < n → f k = g k) → pz f n = pz g n
  | 0, _ => rfl
  | n + 1, h => by
    have e := pz_cong n (fun k hk => h k (by omega))
    have e2 := h n (by omega)
    show pz f n * 32 + f n = pz g n * 32 + g n
    rw [e, e2]
theorem tWd_iff1 {tb : Nat → Int32} {p c i : Nat} (hi : i < 22) (h : ∀ k, k < c → ¬ tb (p + k) < 97 ∧ ¬ 122 < tb (p + k)) (e : tWf tb p c 0 = tLt i) : c = xlen.getD i 0 ∧ ∀ k, k < c → tb (p + k) = tBy i k := by
  obtain ⟨f2, p2⟩ := tLt_i hi
  have f1 := tWf_i c h
  rw [e, f2] at f1
  by_cases hc : c ≤ 11
  · rw [if_pos hc] at f1
    obtain ⟨s1, s2⟩ := pz_inj _ _ (tDg_ok h) (tDg_ok (tBy_l hi)) f1.symm
    refine ⟨s1, fun k hk => ?_⟩
    have := s2 k hk
    unfold tDg at this
    rw [Nat.zero_add] at this
    rw [xeq]
    omega
  · rw [if_neg hc] at f1
    omega
theorem tWd_iff2 {tb : Nat → Int32} {p c i : Nat} (hi : i < 22) (h : ∀ k, k < c → ¬ tb (p + k) < 97 ∧ ¬ 122 < tb (p + k)) (e : c = xlen.getD i 0) (h2 : ∀ k, k < c → tb (p + k) = tBy i k) : tWf tb p c 0 = tLt i := by
  obtain ⟨f2, p2⟩ := tLt_i hi
  have w1 := (xw_len i hi).1
  have f1 := tWf_i c h
  rw [if_pos (show c ≤ 11 by omega)] at f1
  apply Int64.toInt_inj.mp
  rw [f1, f2, ← e]
  refine pz_cong c (fun k hk => ?_)
  unfold tDg
  rw [h2 k hk, Nat.zero_add]
theorem tWd_iff {tb : Nat → Int32} {L q i : Nat} (hq : q ≤ L) (hi : i < 22) (h : tKd tb L q = 1) : tWd tb (L - tPl tb L q) (tPl tb L q) 0 = tLt i ↔ tIw tb L q i = true := by
  obtain ⟨e1, e2⟩ := tWd_run h
  have r3 : tPl tb L q ≤ tNx tb L q := (tNp_r tb (tPl_r tb hq).2).1
  unfold tIw
  rw [if_pos h, e1]
  constructor
  · intro q1
    obtain ⟨s1, s2⟩ := tWd_iff1 hi e2 q1
    rw [if_pos (show tNx tb L q = tPl tb L q + xlen.getD i 0 by omega), tIb_iff]
    intro j _ hj
    exact s2 j (by omega)
  · intro q1
    by_cases c : tNx tb L q = tPl tb L q + xlen.getD i 0
    · rw [if_pos c, tIb_iff] at q1
      exact tWd_iff2 hi e2 (by omega) (fun k hk => q1 k (by omega) (by omega))
    · rw [if_neg c] at q1; cases q1
theorem r_isWord {T : xT} {S : xS} {tb : Nat → Int32} {L q i : Nat} (hq : q ≤ L) (hi : i < 22) {g : Nat → Int32} {j : Nat → Int64} (hg : rTk tb L q g j) {w : Int64} (hw : w = tLt i) : f_X10_isWord T (rW S g j) 199 w = some (if tIw tb L q i = true then 1 else 0, rW S g j) := by
  obtain ⟨_, _, _, g8, g10, _⟩ := hg
  unfold f_X10_isWord
  rw [rW_1, rW_2, g8, hw]
  by_cases k1 : tKd tb L q = 1
  · have t1 : tTk tb L q = 1 := by unfold tTk; rw [k1, if_neg (by decide)]
    rw [if_pos t1, g10 k1]
    by_cases k2 : tIw tb L q i = true
    · rw [if_pos ((lcmp_eq _ _).mpr ((tWd_iff hq hi k1).mpr k2)), if_pos k2]
    · rw [if_neg (fun z => k2 ((tWd_iff hq hi k1).mp ((lcmp_eq _ _).mp z))), if_neg k2]
  · have t1 : ¬ tTk tb L q = 1 := by
      unfold tTk
      by_cases k3 : tKd tb L q = 3
      · rw [if_pos k3]
        unfold tSg
        intro z
        revert z
        repeat' split
        all_goals (intro z; first | (rename_i hc; rw [hc] at z; exact absurd z (by decide)) | exact absurd z (by decide))
      · rw [if_neg k3]; exact k1
    have i0 : tIw tb L q i = false := by unfold tIw; rw [if_neg k1]
    rw [if_neg t1, i0]
    rfl
/-- the partner here, or -1 -/
def tPn (tb : Nat → Int32) (L q : Nat) : Int32 := if tKd tb L q = 1 then (if tNx tb L q = tPl tb L q + 1 then (if 104 < tb (tPl tb L q) then -1 else tb (tPl tb L q) - 97) else -1) else -1
theorem tPn_r {tb : Nat → Int32} {L q : Nat} (h : tPn tb L q ≠ -1) : ∃ j, j < 8 ∧ tPn tb L q = nI j ∧ tKd tb L q ≠ 0 := by
  unfold tPn at h ⊢
  by_cases k1 : tKd tb L q = 1
  · rw [if_pos k1] at h ⊢
    by_cases k2 : tNx tb L q = tPl tb L q + 1
    · rw [if_pos k2] at h ⊢
      by_cases k3 : 104 < tb (tPl tb L q)
      · rw [if_pos k3] at h; exact absurd rfl h
      · rw [if_neg k3]
        obtain ⟨_, e2⟩ := tWd_run k1
        obtain ⟨a, b⟩ := e2 0 (by omega)
        rw [Nat.add_zero] at a b
        have := tL_i a b
        rw [xlt, show (104 : Int32).toInt = 104 from by decide] at k3
        refine ⟨((tb (tPl tb L q)).toInt - 97).toNat, by omega, ?_, by rw [k1]; decide⟩
        rw [xeq, nI_toInt (by omega), xsub (by rw [show (97 : Int32).toInt = 97 from by decide]; omega) (by rw [show (97 : Int32).toInt = 97 from by decide]; omega), show (97 : Int32).toInt = 97 from by decide]
        omega
    · rw [if_neg k2] at h; exact absurd rfl h
  · rw [if_neg k1] at h; exact absurd rfl h
theorem c_partner {T : xT} {S : xS} {tb : Nat → Int32} {L q : Nat} (h : cTb T S tb L) (hq : q ≤ L) {g : Nat → Int32} (hg : cTk tb L q g) : f_X3_partnerHere T (xw S 1 g) 1 = some (tPn tb L q, xw S 1 g) := by
  have hL := h.2.1
  obtain ⟨g1, g4, g5, g6, _, _⟩ := hg
  have r1 := tPl_r tb hq
  have r2 := tNp_r tb r1.2
  have r3 : tPl tb L q ≤ tNx tb L q ∧ tNx tb L q ≤ L := ⟨r2.1, r2.2.1⟩
  unfold f_X3_partnerHere tPn
  rw [xw_1, g6, g4, g5, nI_sub r3.1 (by omega)]
  by_cases k1 : tKd tb L q = 1
  · rw [if_pos k1, if_pos k1]
    by_cases k2 : tNx tb L q = tPl tb L q + 1
    · rw [if_pos k2, if_pos (by rw [k2, Nat.add_sub_cancel_left]; rfl), c_byte h (by omega)]
      by_cases k3 : 104 < tb (tPl tb L q)
      · rw [if_pos k3, if_pos k3]
        unfold f_X3_partnerHere_40
        rw [xl_e, if_pos rfl]
      · rw [if_neg k3, if_neg k3]
        unfold f_X3_partnerHere_40
        rw [xl_e, if_neg (by decide), xw_1, g5, c_byte h (by omega)]
    · rw [if_neg k2, if_neg (show ¬ nI (tNx tb L q - tPl tb L q) = (1 : Int32) from fun z => by have := (nI_eq (a := tNx tb L q - tPl tb L q) (b := 1) (by omega) (by omega)).mp z; omega)]
      unfold f_X3_partnerHere_40
      rw [xl_e, if_pos rfl]
  · rw [if_neg k1, if_neg k1]
    unfold f_X3_partnerHere_40
    rw [xl_e, if_pos rfl]
theorem tTk_1 (tb : Nat → Int32) (L q : Nat) : tTk tb L q = 1 ↔ tKd tb L q = 1 := by
  unfold tTk
  by_cases k3 : tKd tb L q = 3
  · rw [if_pos k3, k3]
    refine ⟨fun z => ?_, fun z => absurd z (by decide)⟩
    unfold tSg at z
    revert z
    repeat' split
    all_goals (intro z; first | (rename_i hc; rw [hc] at z; exact absurd z (by decide)) | exact absurd z (by decide))
  · rw [if_neg k3]
theorem tKp_4 (tb : Nat → Int32) (L p : Nat) : tKp tb L p = 0 ∨ tKp tb L p = 1 ∨ tKp tb L p = 2 ∨ tKp tb L p = 3 := by
  unfold tKp
  repeat' split
  all_goals decide
theorem tSg_4 (c : Int32) : tSg c ≠ 0 ∧ tSg c ≠ 1 ∧ tSg c ≠ 2 ∧ (tSg c = 3 ∨ tSg c = c) := by
  unfold tSg
  repeat' split
  all_goals first | (rename_i hc; rw [hc]; decide) | exact ⟨by decide, by decide, by decide, Or.inl rfl⟩
theorem tTk_n {n : Int32} (hn : n = 0 ∨ n = 1 ∨ n = 2) (tb : Nat → Int32) (L q : Nat) : tTk tb L q = n ↔ tKd tb L q = n := by
  unfold tTk
  by_cases k3 : tKd tb L q = 3
  · rw [if_pos k3, k3]
    obtain ⟨a, b, c, _⟩ := tSg_4 (tb (tPl tb L q))
    rcases hn with h | h | h <;> subst h
    · exact ⟨fun z => absurd z a, fun z => absurd z (by decide)⟩
    · exact ⟨fun z => absurd z b, fun z => absurd z (by decide)⟩
    · exact ⟨fun z => absurd z c, fun z => absurd z (by decide)⟩
  · rw [if_neg k3]
theorem r_partner {T : xT} {S : xS} {tb : Nat → Int32} {L q : Nat} (hq : q ≤ L) {g : Nat → Int32} {j : Nat → Int64} (hg : rTk tb L q g j) : f_X10_partnerHere T (rW S g j) 199 = some (tPn tb L q, rW S g j) := by
  obtain ⟨_, _, _, g8, g10, _⟩ := hg
  have z1 : (1 : Int64).toInt = 1 := by decide
  have z8 : (8 : Int64).toInt = 8 := by decide
  unfold f_X10_partnerHere tPn
  rw [rW_1, rW_2, g8]
  by_cases k1 : tKd tb L q = 1
  · rw [if_pos ((tTk_1 tb L q).mpr k1), if_pos k1, g10 k1]
    obtain ⟨e1, e2⟩ := tWd_run k1
    have hpos : tPl tb L q < tNx tb L q := (tNp_r tb (tPl_r tb hq).2).2.2 (by
      have k1' : tKp tb L (tPl tb L q) = 1 := k1
      rw [k1']; decide)
    have f1 := tWf_i (tNx tb L q - tPl tb L q) e2
    have hd := tDg_ok e2
    rw [e1]
    by_cases k2 : tNx tb L q = tPl tb L q + 1
    · rw [if_pos k2]
      have k2' : tNx tb L q - tPl tb L q = 1 := by omega
      rw [k2'] at f1 e2 hd ⊢
      rw [if_pos (by omega)] at f1
      have d0 := hd 0 (by omega)
      have e0 : pz (tDg tb (tPl tb L q)) 1 = (tb (tPl tb L q)).toInt - 96 := by
        show (0 : Int) * 32 + ((tb (tPl tb L q + 0)).toInt - 96) = _
        rw [Nat.add_zero]; omega
      have d0' : 1 ≤ (tb (tPl tb L q)).toInt - 96 ∧ (tb (tPl tb L q)).toInt - 96 ≤ 26 := by
        have : tDg tb (tPl tb L q) 0 = (tb (tPl tb L q)).toInt - 96 := by unfold tDg; rw [Nat.add_zero]
        omega
      rw [e0] at f1
      rw [if_neg (by rw [lcmp_lt, f1, z1]; omega)]
      by_cases k3 : 104 < tb (tPl tb L q)
      · rw [if_pos k3]
        rw [xlt, show (104 : Int32).toInt = 104 from by decide] at k3
        rw [if_pos (by rw [lcmp_gt, f1, z8]; omega)]
      · rw [if_neg k3]
        rw [xlt, show (104 : Int32).toInt = 104 from by decide] at k3
        rw [if_neg (by rw [lcmp_gt, f1, z8]; omega)]
        congr 2
        have t1 : ((tWf tb (tPl tb L q) 1 0).toInt32).toInt = (tb (tPl tb L q)).toInt - 96 := by
          rw [Int64.toInt_toInt32, f1, xb32 (by omega) (by omega)]
        rw [xeq, xsub (by rw [t1, show (1 : Int32).toInt = 1 from by decide]; omega) (by rw [t1, show (1 : Int32).toInt = 1 from by decide]; omega), xsub (by rw [show (97 : Int32).toInt = 97 from by decide]; omega) (by rw [show (97 : Int32).toInt = 97 from by decide]; omega), t1, show (97 : Int32).toInt = 97 from by decide, show (1 : Int32).toInt = 1 from by decide]
        omega
    · rw [if_neg k2]
      by_cases c : tNx tb L q - tPl tb L q ≤ 11
      · rw [if_pos c] at f1
        obtain ⟨c2, hc2⟩ : ∃ c2, tNx tb L q - tPl tb L q = c2 + 2 := ⟨tNx tb L q - tPl tb L q - 2, by omega⟩
        rw [hc2] at f1 hd ⊢
        have n0 := pz_nn c2 (fun k hk => hd k (by omega))
        have d1 := hd c2 (by omega)
        have d2 := hd (c2 + 1) (by omega)
        have e : pz (tDg tb (tPl tb L q)) (c2 + 2) = (pz (tDg tb (tPl tb L q)) c2 * 32 + tDg tb (tPl tb L q) c2) * 32 + tDg tb (tPl tb L q) (c2 + 1) := rfl
        rw [e] at f1
        rw [if_neg (by rw [lcmp_lt, f1, z1]; omega), if_pos (by rw [lcmp_gt, f1, z8]; omega)]
      · rw [if_neg c] at f1
        rw [if_pos (by rw [lcmp_lt, f1, z1]; omega)]
  · rw [if_neg (fun z => k1 ((tTk_1 tb L q).mp z)), if_neg k1]
/-! numbers -/
def nR (v w : Int32) : Prop := (v = w ∧ 0 ≤ v.toInt ∧ v.toInt ≤ 1000000) ∨ (1000000 < v.toInt ∧ v.toInt ≤ 999999999 ∧ 1000000 < w.toInt)
theorem tV_r (tb : Nat → Int32) : ∀ (m q : Nat) (v w : Int32), nR v w → nR (tVc tb m q v) (tVr tb m q w)
  | 0, q, v, w, h => h
  | m + 1, q, v, w, h => by
    unfold tVc tVr
    by_cases a1 : tb q < 48
    · rw [if_pos a1, if_pos a1]; exact h
    · rw [if_neg a1, if_neg a1]
      by_cases a2 : 57 < tb q
      · rw [if_pos a2, if_pos a2]; exact h
      · rw [if_neg a2, if_neg a2]
        apply tV_r tb m (q + 1)
        rw [xlt, show (48 : Int32).toInt = 48 from by decide] at a1
        rw [xlt, show (57 : Int32).toInt = 57 from by decide] at a2
        have e8 : (100000000 : Int32).toInt = 100000000 := by decide
        have e6 : (1000000 : Int32).toInt = 1000000 := by decide
        have e10 : (10 : Int32).toInt = 10 := by decide
        have e48 : (48 : Int32).toInt = 48 := by decide
        have mul : ∀ x : Int32, 0 ≤ x.toInt → x.toInt < 100000000 → (x * 10 + tb q - 48).toInt = x.toInt * 10 + ((tb q).toInt - 48) ∧ 10 * x + tb q - 48 = x * 10 + tb q - 48 := fun x h1 h2 => by
          have m1 : (x * 10).toInt = x.toInt * 10 := by rw [Int32.toInt_mul, e10, xb32 (by omega) (by omega)]
          have m2 : (x * 10 + tb q).toInt = x.toInt * 10 + (tb q).toInt := by rw [xadd (by omega) (by omega), m1]
          refine ⟨by rw [xsub (by omega) (by omega), m2, e48]; omega, by rw [Int32.mul_comm]⟩
        rcases h with ⟨rfl, h1, h2⟩ | ⟨h1, h2, h3⟩
        · obtain ⟨m1, m2⟩ := mul v h1 (by omega)
          rw [if_neg (by rw [xle, e8]; omega), if_pos (by rw [xle, e6]; omega), m2]
          unfold nR
          rw [m1]
          by_cases c : v.toInt * 10 + ((tb q).toInt - 48) ≤ 1000000
          · exact Or.inl ⟨rfl, by omega, by omega⟩
          · exact Or.inr ⟨by omega, by omega, by omega⟩
        · rw [if_neg (show ¬ w ≤ (1000000 : Int32) by rw [xle, e6]; omega)]
          right
          by_cases c : (100000000 : Int32) ≤ v
          · rw [if_pos c, e8]; omega
          · rw [if_neg c]
            rw [xle, e8] at c
            obtain ⟨m1, _⟩ := mul v (by omega) (by omega)
            rw [m1]; omega
def tVl (tb : Nat → Int32) (L q : Nat) : Int32 := tVc tb (L - tPl tb L q) (tPl tb L q) 0
def tWl (tb : Nat → Int32) (L q : Nat) : Int32 := tVr tb (L - tPl tb L q) (tPl tb L q) 0
theorem tVl_r (tb : Nat → Int32) (L q : Nat) : nR (tVl tb L q) (tWl tb L q) := tV_r tb _ _ 0 0 (Or.inl ⟨rfl, by decide, by decide⟩)
/-- a number in bounds, or -1 -/
def tNm (tb : Nat → Int32) (L q : Nat) (lo hi : Int32) : Int32 := if tKd tb L q = 2 then (if tVl tb L q < lo then -1 else if tVl tb L q ≤ hi then tVl tb L q else -1) else -1
theorem tNm_r {tb : Nat → Int32} {L q : Nat} {lo hi : Int32} (h : tNm tb L q lo hi ≠ -1) : tNm tb L q lo hi = tVl tb L q ∧ tKd tb L q = 2 ∧ lo.toInt ≤ (tNm tb L q lo hi).toInt ∧ (tNm tb L q lo hi).toInt ≤ hi.toInt := by
  unfold tNm at h ⊢
  by_cases k1 : tKd tb L q = 2
  · rw [if_pos k1] at h ⊢
    by_cases k2 : tVl tb L q < lo
    · rw [if_pos k2] at h; exact absurd rfl h
    · rw [if_neg k2] at h ⊢
      by_cases k3 : tVl tb L q ≤ hi
      · rw [if_pos k3]
        rw [xlt] at k2
        rw [xle] at k3
        exact ⟨rfl, k1, by omega, k3⟩
      · rw [if_neg k3] at h; exact absurd rfl h
  · rw [if_neg k1] at h; exact absurd rfl h
/-! what comes behind a try: well, with the next token at q, or not, with the fault at q -/
def cAf (tb : Nat → Int32) (L : Nat) (ok : Bool) (q : Nat) (f0 : Int32) (g : Nat → Int32) : Prop := if ok = true then cTk tb L q g ∧ g 2 = f0 else g 2 = nI (tPl tb L q)
def rAf (tb : Nat → Int32) (L : Nat) (ok : Bool) (q : Nat) (f0 : Int32) (g0 g : Nat → Int32) (j : Nat → Int64) : Prop := (if ok = true then rTk tb L q g j ∧ g 9 = f0 else g 9 = nI (tPl tb L q)) ∧ ∀ k, k < 5 ∨ 12 < k → g k = g0 k
theorem c_next {T : xT} {S : xS} {tb : Nat → Int32} {L q : Nat} (h : cTb T S tb L) (hq : q ≤ L) {g : Nat → Int32} (hg : cTk tb L q g) : ∃ g', f_X3_advance T (xw S 1 g) 1 = some (xw S 1 g') ∧ cTk tb L (tNx tb L q) g' ∧ g' 2 = g 2 := c_adv h (tNx_r tb hq).2.1 hg.1 hg.2.1
theorem c_refuse {T : xT} {S : xS} {tb : Nat → Int32} {L q : Nat} {g : Nat → Int32} (hg : cTk tb L q g) : f_X3_refuse T (xw S 1 g) 1 = some (0, xw S 1 (va_up g 2 (nI (tPl tb L q)))) := by
  unfold f_X3_refuse
  rw [xpi_e, xI_xw, xw_1, hg.2.2.1]
theorem c_isSign {T : xT} {S : xS} {tb : Nat → Int32} {L q : Nat} {g : Nat → Int32} (hg : cTk tb L q g) (c : Int32) : f_X3_isSign T (xw S 1 g) 1 c = some (if tKd tb L q = 3 ∧ tb (tPl tb L q) = c then 1 else 0, xw S 1 g) := by
  obtain ⟨g1, g4, g5, g6, _, g3⟩ := hg
  unfold f_X3_isSign
  rw [xw_1, g6]
  by_cases k : tKd tb L q = 3
  · rw [if_pos k, g3 k]
    by_cases k2 : tb (tPl tb L q) = c
    · rw [if_pos k2, if_pos ⟨k, k2⟩]
    · rw [if_neg k2, if_neg (fun z => k2 z.2)]
  · rw [if_neg k, if_neg (fun z => k z.1)]
theorem c_needNumber {T : xT} {S : xS} {tb : Nat → Int32} {L q : Nat} (h : cTb T S tb L) (hq : q ≤ L) {g : Nat → Int32} (hg : cTk tb L q g) {lo hi : Int32} (hlo : 0 ≤ lo.toInt) : ∃ g', f_X3_needNumber T (xw S 1 g) 1 lo hi = some (tNm tb L q lo hi, xw S 1 g') ∧ cAf tb L (decide (tNm tb L q lo hi ≠ -1)) (if tNm tb L q lo hi ≠ -1 then tNx tb L q else q) (g 2) g' := by
  have fail : tNm tb L q lo hi = -1 → ∃ g', xc (f_X3_refuse T (xw S 1 g) 1) (fun r4 S3 => some ((-1 : Int32), S3)) = some (tNm tb L q lo hi, xw S 1 g') ∧ cAf tb L (decide (tNm tb L q lo hi ≠ -1)) (if tNm tb L q lo hi ≠ -1 then tNx tb L q else q) (g 2) g' := fun e => by
    rw [c_refuse hg, xc_e, e]
    refine ⟨_, rfl, ?_⟩
    unfold cAf
    rw [if_neg (by decide), if_neg (by decide), xup_at]
  unfold f_X3_needNumber
  rw [xw_1, hg.2.2.2.1]
  by_cases k1 : tKd tb L q = 2
  · have e7 : g 7 = tVl tb L q := hg.2.2.2.2.1 k1
    rw [if_pos k1, e7]
    by_cases k2 : tVl tb L q < lo
    · rw [if_pos k2]
      exact fail (by unfold tNm; rw [if_pos k1, if_pos k2])
    · rw [if_neg k2]
      by_cases k3 : tVl tb L q ≤ hi
      · have e : tNm tb L q lo hi = tVl tb L q := by unfold tNm; rw [if_pos k1, if_neg k2, if_pos k3]
        have e' : tNm tb L q lo hi ≠ -1 := by
          rw [e]
          intro z
          rw [xlt, z, show (-1 : Int32).toInt = -1 from by decide] at k2
          omega
        obtain ⟨g', f1, f2, f3⟩ := c_next h hq hg
        rw [if_pos k3, xl_e, f1, xcv_e]
        refine ⟨g', by rw [e], ?_⟩
        unfold cAf
        rw [if_pos (decide_eq_true e'), if_pos e']
        exact ⟨f2, f3⟩
      · rw [if_neg k3]
        exact fail (by unfold tNm; rw [if_pos k1, if_neg k2, if_neg k3])
  · rw [if_neg k1]
    exact fail (by unfold tNm; rw [if_neg k1])
theorem c_needPartner {T : xT} {S : xS} {tb : Nat → Int32} {L q : Nat} (h : cTb T S tb L) (hq : q ≤ L) {g : Nat → Int32} (hg : cTk tb L q g) : ∃ g', f_X3_needPartner T (xw S 1 g) 1 = some (tPn tb L q, xw S 1 g') ∧ cAf tb L (decide (tPn tb L q ≠ -1)) (if tPn tb L q ≠ -1 then tNx tb L q else q) (g 2) g' := by
  unfold f_X3_needPartner
  rw [c_partner h hq hg, xc_e, xl_e]
  by_cases e : tPn tb L q = -1
  · rw [if_pos e, c_refuse hg, xc_e]
    refine ⟨_, rfl, ?_⟩
    unfold cAf
    rw [if_neg (by rw [e]; decide), if_neg (fun z => z e), xup_at]
  · obtain ⟨g', f1, f2, f3⟩ := c_next h hq hg
    rw [if_neg e, f1, xcv_e]
    refine ⟨g', rfl, ?_⟩
    unfold cAf
    rw [if_pos (decide_eq_true e), if_pos e]
    exact ⟨f2, f3⟩
theorem c_needWord {T : xT} {S : xS} {tb : Nat → Int32} {L q i : Nat} (h : cTb T S tb L) (hq : q ≤ L) (hi : i < 22) {g : Nat → Int32} (hg : cTk tb L q g) : ∃ g', f_X3_needWord T (xw S 1 g) 1 i = some (if tIw tb L q i = true then 1 else 0, xw S 1 g') ∧ cAf tb L (tIw tb L q i) (if tIw tb L q i = true then tNx tb L q else q) (g 2) g' := by
  unfold f_X3_needWord
  rw [c_isWord h hq hi hg, xc_e]
  by_cases e : tIw tb L q i = true
  · obtain ⟨g', f1, f2, f3⟩ := c_next h hq hg
    rw [if_pos e, if_neg (by decide), f1, xcv_e]
    refine ⟨g', rfl, ?_⟩
    unfold cAf
    rw [if_pos e, if_pos e]
    exact ⟨f2, f3⟩
  · rw [if_neg e, if_pos rfl, c_refuse hg, xc_e, xgd_h (by decide)]
    refine ⟨_, rfl, ?_⟩
    unfold cAf
    rw [if_neg e, if_neg e, xup_at]
theorem c_needSign {T : xT} {S : xS} {tb : Nat → Int32} {L q : Nat} (h : cTb T S tb L) (hq : q ≤ L) {g : Nat → Int32} (hg : cTk tb L q g) (c : Int32) : ∃ g', f_X3_needSign T (xw S 1 g) 1 c = some (if tKd tb L q = 3 ∧ tb (tPl tb L q) = c then 1 else 0, xw S 1 g') ∧ cAf tb L (decide (tKd tb L q = 3 ∧ tb (tPl tb L q) = c)) (if tKd tb L q = 3 ∧ tb (tPl tb L q) = c then tNx tb L q else q) (g 2) g' := by
  unfold f_X3_needSign
  rw [c_isSign hg, xc_e]
  by_cases e : tKd tb L q = 3 ∧ tb (tPl tb L q) = c
  · obtain ⟨g', f1, f2, f3⟩ := c_next h hq hg
    rw [if_pos e, if_neg (by decide), f1, xcv_e]
    refine ⟨g', rfl, ?_⟩
    unfold cAf
    rw [if_pos (decide_eq_true e), if_pos e]
    exact ⟨f2, f3⟩
  · rw [if_neg e, if_pos rfl, c_refuse hg, xc_e, xgd_h (by decide)]
    refine ⟨_, rfl, ?_⟩
    unfold cAf
    rw [if_neg (by rw [decide_eq_false e]; decide), if_neg e, xup_at]
theorem c_needEnd {T : xT} {S : xS} {tb : Nat → Int32} {L q : Nat} {g : Nat → Int32} (hg : cTk tb L q g) : ∃ g', f_X3_needEnd T (xw S 1 g) 1 = some (if tKd tb L q = 0 then 1 else 0, xw S 1 g') ∧ cAf tb L (decide (tKd tb L q = 0)) q (g 2) g' := by
  unfold f_X3_needEnd
  rw [xw_1, hg.2.2.2.1]
  by_cases e : tKd tb L q = 0
  · rw [if_pos e, if_pos e]
    refine ⟨g, rfl, ?_⟩
    unfold cAf
    rw [if_pos (decide_eq_true e)]
    exact ⟨hg, rfl⟩
  · rw [if_neg e, if_neg e, c_refuse hg, xc_e, if_pos rfl]
    refine ⟨_, rfl, ?_⟩
    unfold cAf
    rw [if_neg (by rw [decide_eq_false e]; decide), xup_at]
/-! the same of the reference -/
theorem r_next {T : xT} {S : xS} {tb : Nat → Int32} {L q : Nat} (h : rTb T S tb L) (hq : q ≤ L) {g : Nat → Int32} {j : Nat → Int64} (hg : rTk tb L q g j) : ∃ g' j', f_X10_nextToken T (rW S g j) 199 = some (rW S g' j') ∧ rTk tb L (tNx tb L q) g' j' ∧ (∀ k, k ≠ 6 → k ≠ 7 → k ≠ 8 → k ≠ 11 → g' k = g k) := by
  obtain ⟨g', j', a, b, c, _⟩ := r_adv h (tNx_r tb hq).2.1 hg.1 hg.2.1 (j := j)
  exact ⟨g', j', a, b, c⟩
theorem r_fails {T : xT} {S : xS} {tb : Nat → Int32} {L q : Nat} {g : Nat → Int32} {j : Nat → Int64} (hg : rTk tb L q g j) : f_X10_fails T (rW S g j) 199 = some (0, rW S (va_up g 9 (nI (tPl tb L q))) j) := by
  unfold f_X10_fails
  rw [xpi_e, rW_I, rW_1, hg.2.2.1]
theorem r_failA {tb : Nat → Int32} {L q : Nat} {f0 : Int32} {g g0 : Nat → Int32} {j : Nat → Int64} (h0 : ∀ k, k < 5 ∨ 12 < k → g k = g0 k) : rAf tb L false q f0 g0 (va_up g 9 (nI (tPl tb L q))) j := by
  refine ⟨?_, fun k hk => ?_⟩
  · rw [if_neg (by decide), xup_at]
  · rw [up_ne (by omega)]; exact h0 k hk
theorem r_takesNumber {T : xT} {S : xS} {tb : Nat → Int32} {L q : Nat} (h : rTb T S tb L) (hq : q ≤ L) {g : Nat → Int32} {j : Nat → Int64} (hg : rTk tb L q g j) {lo hi : Int32} (hlo : 0 ≤ lo.toInt) (hhi : hi.toInt ≤ 1000000) : ∃ g' j', f_X10_takesNumber T (rW S g j) 199 lo hi = some (if tNm tb L q lo hi ≠ -1 then 1 else 0, rW S g' j') ∧ rAf tb L (decide (tNm tb L q lo hi ≠ -1)) (if tNm tb L q lo hi ≠ -1 then tNx tb L q else q) (g 9) g g' j' ∧ (tNm tb L q lo hi ≠ -1 → g' 12 = tNm tb L q lo hi) := by
  have fail : tNm tb L q lo hi = -1 → ∃ g' j', xc (f_X10_fails T (rW S g j) 199) (fun r2 S1 => xgd (xnz r2) (some (r2, S1))) = some (if tNm tb L q lo hi ≠ -1 then 1 else 0, rW S g' j') ∧ rAf tb L (decide (tNm tb L q lo hi ≠ -1)) (if tNm tb L q lo hi ≠ -1 then tNx tb L q else q) (g 9) g g' j' ∧ (tNm tb L q lo hi ≠ -1 → g' 12 = tNm tb L q lo hi) := fun e => by
    rw [r_fails hg, xc_e, xgd_h (by decide), if_neg (fun z => z e), if_neg (fun z => z e), e]
    exact ⟨_, j, rfl, r_failA (fun _ _ => rfl), fun z => absurd rfl z⟩
  unfold f_X10_takesNumber
  rw [rW_1, hg.2.2.2.1]
  by_cases k1 : tKd tb L q = 2
  · have e11 : g 11 = tWl tb L q := hg.2.2.2.2.2 k1
    have hn := tVl_r tb L q
    rw [if_pos ((tTk_n (by decide) tb L q).mpr k1), h_isIn, xc_e, e11]
    by_cases ok : tNm tb L q lo hi = -1
    · have : (if tWl tb L q < lo then (0 : Int32) else if hi < tWl tb L q then 0 else 1) = 0 := by
        unfold tNm at ok
        rw [if_pos k1] at ok
        by_cases k2 : tWl tb L q < lo
        · rw [if_pos k2]
        · rw [if_neg k2]
          by_cases k3 : hi < tWl tb L q
          · rw [if_pos k3]
          · exfalso
            rw [xlt] at k2 k3
            rcases hn with ⟨n1, n2, n3⟩ | ⟨n1, n2, n3⟩
            · rw [n1, if_neg (by rw [xlt]; omega), if_pos (by rw [xle]; omega)] at ok
              rw [ok, show (-1 : Int32).toInt = -1 from by decide] at k2
              omega
            · omega
      rw [this, if_pos rfl]
      exact fail ok
    · obtain ⟨t1, t2, t3, t4⟩ := tNm_r ok
      have e2 : tWl tb L q = tNm tb L q lo hi := by
        rw [t1] at t4 ⊢
        rcases hn with ⟨n1, n2, n3⟩ | ⟨n1, n2, n3⟩
        · exact n1.symm
        · omega
      have hin : (if tNm tb L q lo hi < lo then (0 : Int32) else if hi < tNm tb L q lo hi then 0 else 1) = 1 := by
        rw [if_neg (show ¬ tNm tb L q lo hi < lo by rw [xlt]; omega), if_neg (show ¬ hi < tNm tb L q lo hi by rw [xlt]; omega)]
      rw [e2, hin, if_neg (by decide), rW_1, e11, e2, xpi_e, rW_I]
      have hg2 : rTk tb L q (va_up g 12 (tNm tb L q lo hi)) j := by
        obtain ⟨g5, g6, g7, g8, g10, g11⟩ := hg
        exact ⟨by rw [up_ne (by decide)]; exact g5, by rw [up_ne (by decide)]; exact g6, by rw [up_ne (by decide)]; exact g7, by rw [up_ne (by decide)]; exact g8, g10, fun z => by rw [up_ne (by decide)]; exact g11 z⟩
      obtain ⟨g', j', f1, f2, f3⟩ := r_next h hq hg2
      rw [f1, xcv_e, if_pos ok, if_pos ok]
      refine ⟨g', j', rfl, ⟨?_, fun k hk => ?_⟩, fun _ => ?_⟩
      · rw [if_pos (decide_eq_true ok)]
        exact ⟨f2, by rw [f3 9 (by decide) (by decide) (by decide) (by decide), up_ne (by decide)]⟩
      · rw [f3 k (by omega) (by omega) (by omega) (by omega), up_ne (by omega)]
      · rw [f3 12 (by decide) (by decide) (by decide) (by decide), xup_at]
  · rw [if_neg (fun z => k1 ((tTk_n (by decide) tb L q).mp z))]
    exact fail (by unfold tNm; rw [if_neg k1])
theorem r_takesPartner {T : xT} {S : xS} {tb : Nat → Int32} {L q : Nat} (h : rTb T S tb L) (hq : q ≤ L) {g : Nat → Int32} {j : Nat → Int64} (hg : rTk tb L q g j) : ∃ g' j', f_X10_takesPartner T (rW S g j) 199 = some (if tPn tb L q ≠ -1 then 1 else 0, rW S g' j') ∧ rAf tb L (decide (tPn tb L q ≠ -1)) (if tPn tb L q ≠ -1 then tNx tb L q else q) (g 9) g g' j' ∧ g' 12 = tPn tb L q := by
  unfold f_X10_takesPartner
  have hg2 : rTk tb L q (va_up g 12 (tPn tb L q)) j := by
    obtain ⟨g5, g6, g7, g8, g10, g11⟩ := hg
    exact ⟨by rw [up_ne (by decide)]; exact g5, by rw [up_ne (by decide)]; exact g6, by rw [up_ne (by decide)]; exact g7, by rw [up_ne (by decide)]; exact g8, g10, fun z => by rw [up_ne (by decide)]; exact g11 z⟩
  rw [r_partner hq hg, xc_e, xpi_e, rW_I, rW_1, xup_at]
  by_cases e : tPn tb L q = -1
  · rw [if_pos e, r_fails hg2, xc_e, xgd_h (by decide), if_neg (fun z => z e), if_neg (fun z => z e)]
    refine ⟨_, j, rfl, ?_, ?_⟩
    · rw [show (decide (tPn tb L q ≠ -1)) = false from decide_eq_false (fun z => z e)]
      exact r_failA (fun k hk => up_ne (by omega))
    · rw [up_ne (by decide), xup_at]
  · obtain ⟨g', j', f1, f2, f3⟩ := r_next h hq hg2
    rw [if_neg e, f1, xcv_e, if_pos e, if_pos e]
    refine ⟨g', j', rfl, ⟨?_, fun k hk => ?_⟩, ?_⟩
    · rw [if_pos (decide_eq_true e)]
      exact ⟨f2, by rw [f3 9 (by decide) (by decide) (by decide) (by decide), up_ne (by decide)]⟩
    · rw [f3 k (by omega) (by omega) (by omega) (by omega), up_ne (by omega)]
    · rw [f3 12 (by decide) (by decide) (by decide) (by decide), xup_at]
theorem r_takesWord {T : xT} {S : xS} {tb : Nat → Int32} {L q i : Nat} (h : rTb T S tb L) (hq : q ≤ L) (hi : i < 22) {g : Nat → Int32} {j : Nat → Int64} (hg : rTk tb L q g j) {w : Int64} (hw : w = tLt i) : ∃ g' j', f_X10_takesWord T (rW S g j) 199 w = some (if tIw tb L q i = true then 1 else 0, rW S g' j') ∧ rAf tb L (tIw tb L q i) (if tIw tb L q i = true then tNx tb L q else q) (g 9) g g' j' := by
  unfold f_X10_takesWord
  rw [r_isWord hq hi hg hw, xc_e]
  by_cases e : tIw tb L q i = true
  · obtain ⟨g', j', f1, f2, f3⟩ := r_next h hq hg
    rw [if_pos e, if_neg (by decide), f1, xcv_e]
    refine ⟨g', j', rfl, ⟨?_, fun k hk => f3 k (by omega) (by omega) (by omega) (by omega)⟩⟩
    rw [if_pos e, if_pos e]
    exact ⟨f2, f3 9 (by decide) (by decide) (by decide) (by decide)⟩
  · rw [if_neg e, if_pos rfl, r_fails hg, xc_e, xgd_h (by decide), if_neg e]
    refine ⟨_, j, rfl, ?_⟩
    rw [show tIw tb L q i = false from by cases hh : tIw tb L q i <;> simp_all]
    exact r_failA (fun _ _ => rfl)
/-- signs that are read -/
def isSg (c : Int32) : Prop := c = 59 ∨ c = 43 ∨ c = 45 ∨ c = 42 ∨ c = 47 ∨ c = 60 ∨ c = 62
theorem tTk_s {c : Int32} (hc : isSg c) (tb : Nat → Int32) (L q : Nat) : tTk tb L q = c ↔ (tKd tb L q = 3 ∧ tb (tPl tb L q) = c) := by
  have hn : c ≠ 0 ∧ c ≠ 1 ∧ c ≠ 2 ∧ c ≠ 3 := by
    rcases hc with h | h | h | h | h | h | h <;> subst h <;> decide
  unfold tTk
  by_cases k3 : tKd tb L q = 3
  · rw [if_pos k3]
    constructor
    · intro z
      refine ⟨k3, ?_⟩
      rcases (tSg_4 (tb (tPl tb L q))).2.2.2 with h | h
      · rw [h] at z; exact absurd z.symm hn.2.2.2
      · rw [← h]; exact z
    · intro z
      rw [z.2]
      rcases hc with h | h | h | h | h | h | h <;> subst h <;> decide
  · rw [if_neg k3]
    constructor
    · intro z
      exfalso
      rcases tKp_4 tb L (tPl tb L q) with h | h | h | h
      · exact hn.1 (by rw [← z]; exact h)
      · exact hn.2.1 (by rw [← z]; exact h)
      · exact hn.2.2.1 (by rw [← z]; exact h)
      · exact k3 h
    · intro z; exact absurd z.1 k3
theorem r_takes {T : xT} {S : xS} {tb : Nat → Int32} {L q : Nat} (h : rTb T S tb L) (hq : q ≤ L) {g : Nat → Int32} {j : Nat → Int64} (hg : rTk tb L q g j) {c : Int32} (hc : isSg c) : ∃ g' j', f_X10_takes T (rW S g j) 199 c = some (if tKd tb L q = 3 ∧ tb (tPl tb L q) = c then 1 else 0, rW S g' j') ∧ rAf tb L (decide (tKd tb L q = 3 ∧ tb (tPl tb L q) = c)) (if tKd tb L q = 3 ∧ tb (tPl tb L q) = c then tNx tb L q else q) (g 9) g g' j' := by
  unfold f_X10_takes
  rw [rW_1, hg.2.2.2.1]
  by_cases e : tKd tb L q = 3 ∧ tb (tPl tb L q) = c
  · obtain ⟨g', j', f1, f2, f3⟩ := r_next h hq hg
    rw [if_pos ((tTk_s hc tb L q).mpr e), if_pos e, if_pos e, f1, xcv_e]
    refine ⟨g', j', rfl, ⟨?_, fun k hk => f3 k (by omega) (by omega) (by omega) (by omega)⟩⟩
    rw [if_pos (decide_eq_true e)]
    exact ⟨f2, f3 9 (by decide) (by decide) (by decide) (by decide)⟩
  · rw [if_neg (fun z => e ((tTk_s hc tb L q).mp z)), if_neg e, if_neg e, r_fails hg, xc_e, xgd_h (by decide)]
    refine ⟨_, j, rfl, ?_⟩
    rw [decide_eq_false e]
    exact r_failA (fun _ _ => rfl)
