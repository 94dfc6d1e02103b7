/-! the class's overlay: desk, steps and books laid over S -/
def x8 (f old : Nat → Int32) : Nat → Int32 := fun k => if k < 8 then f k else old k
def x56 (f old : Nat → Int32) : Nat → Int32 := fun k => if k < 56 then f k else old k
def x2 (v2 v3 : Int32) (old : Nat → Int32) : Nat → Int32 := fun k => if k = 2 then v2 else if k = 3 then v3 else old k
def x01 (v0 v1 : Int32) (old : Nat → Int32) : Nat → Int32 := fun k => if k = 0 then v0 else if k = 1 then v1 else old k
def x06 (pa av ca re ye ch : Int32) (old : Nat → Int32) : Nat → Int32 := fun k => if k = 0 then pa else if k = 1 then av else if k = 2 then ca else if k = 3 then re else if k = 4 then ye else if k = 5 then ch else old k
theorem x8_at {f old : Nat → Int32} {k : Nat} (h : k < 8) : x8 f old k = f k := if_pos h
theorem x56_at {f old : Nat → Int32} {k : Nat} (h : k < 56) : x56 f old k = f k := if_pos h
theorem x8_self (f : Nat → Int32) : x8 f f = f := by funext k; unfold x8; split <;> rfl
theorem x56_self (f : Nat → Int32) : x56 f f = f := by funext k; unfold x56; split <;> rfl
theorem x8_cong {f g old : Nat → Int32} (h : ∀ k, k < 8 → f k = g k) : x8 f old = x8 g old := by
  funext k; unfold x8
  by_cases hk : k < 8
  · rw [if_pos hk, if_pos hk, h k hk]
  · rw [if_neg hk, if_neg hk]
theorem x56_cong {f g old : Nat → Int32} (h : ∀ k, k < 56 → f k = g k) : x56 f old = x56 g old := by
  funext k; unfold x56
  by_cases hk : k < 56
  · rw [if_pos hk, if_pos hk, h k hk]
  · rw [if_neg hk, if_neg hk]
theorem x8_up {f old : Nat → Int32} {i : Nat} {v : Int32} (h : i < 8) : va_up (x8 f old) i v = x8 (va_up f i v) old := by
  funext k; unfold x8
  by_cases hk : k = i
  · subst hk; rw [xup_at, if_pos h, xup_at]
  · rw [va_up_ne _ _ hk, va_up_ne _ _ hk]
theorem x56_up {f old : Nat → Int32} {i : Nat} {v : Int32} (h : i < 56) : va_up (x56 f old) i v = x56 (va_up f i v) old := by
  funext k; unfold x56
  by_cases hk : k = i
  · subst hk; rw [xup_at, if_pos h, xup_at]
  · rw [va_up_ne _ _ hk, va_up_ne _ _ hk]
theorem x8_mp {g f old : Nat → Int32} : xmp 0 g (x8 f old) = x8 g old := by
  funext k; unfold xmp x8
  by_cases hk : k < 8
  · rw [if_pos ⟨Nat.zero_le _, hk⟩, if_pos hk]
  · rw [if_neg (fun q => hk q.2), if_neg hk, if_neg hk]
def xbt (b t : Nat) : Prop := (b = 31 ∧ t = 40) ∨ (b = 188 ∧ t = 197)
def kS (S : xS) (b t : Nat) (gv gp : Nat → Int32) (tf ll : Int32) (w p l r : Nat → Int32) (kn lo : Int32) (ro : Nat → Int32) (pa av ca re ye ch : Int32) (cap du ra sh ow bo ma de : Nat → Int32) : xS := (fun a => if a = 3 then x2 tf ll (S.1 3) else if a = 4 then x8 gv (S.1 4) else if a = 5 then x8 gp (S.1 5) else if a = 6 then x8 w (S.1 6) else if a = 7 then x8 p (S.1 7) else if a = 8 then x8 l (S.1 8) else if a = 9 then x8 r (S.1 9) else if a = t then x01 kn lo (S.1 t) else if a = t + 1 then x56 ro (S.1 (t + 1)) else if a = b then x06 pa av ca re ye ch (S.1 b) else if a = b + 1 then x8 cap (S.1 (b + 1)) else if a = b + 2 then x8 du (S.1 (b + 2)) else if a = b + 3 then x8 ra (S.1 (b + 3)) else if a = b + 4 then x8 sh (S.1 (b + 4)) else if a = b + 5 then x8 ow (S.1 (b + 5)) else if a = b + 6 then x8 bo (S.1 (b + 6)) else if a = b + 7 then x8 ma (S.1 (b + 7)) else if a = b + 8 then x8 de (S.1 (b + 8)) else S.1 a, S.2.1, S.2.2)
theorem kS_r {S : xS} {b t : Nat} {gv gp w p l r ro cap du ra sh ow bo ma de : Nat → Int32} {tf ll kn lo pa av ca re ye ch : Int32} : (kS S b t gv gp tf ll w p l r kn lo ro pa av ca re ye ch cap du ra sh ow bo ma de).2.2 = S.2.2 := rfl
theorem kS_j {S : xS} {b t : Nat} {gv gp w p l r ro cap du ra sh ow bo ma de : Nat → Int32} {tf ll kn lo pa av ca re ye ch : Int32} : (kS S b t gv gp tf ll w p l r kn lo ro pa av ca re ye ch cap du ra sh ow bo ma de).2.1 = S.2.1 := rfl
theorem ka_3 {S : xS} {b t : Nat} {gv gp w p l r ro cap du ra sh ow bo ma de : Nat → Int32} {tf ll kn lo pa av ca re ye ch : Int32} : (kS S b t gv gp tf ll w p l r kn lo ro pa av ca re ye ch cap du ra sh ow bo ma de).1 3 = x2 tf ll (S.1 3) := rfl
theorem ka_4 {S : xS} {b t : Nat} {gv gp w p l r ro cap du ra sh ow bo ma de : Nat → Int32} {tf ll kn lo pa av ca re ye ch : Int32} : (kS S b t gv gp tf ll w p l r kn lo ro pa av ca re ye ch cap du ra sh ow bo ma de).1 4 = x8 gv (S.1 4) := rfl
theorem ka_5 {S : xS} {b t : Nat} {gv gp w p l r ro cap du ra sh ow bo ma de : Nat → Int32} {tf ll kn lo pa av ca re ye ch : Int32} : (kS S b t gv gp tf ll w p l r kn lo ro pa av ca re ye ch cap du ra sh ow bo ma de).1 5 = x8 gp (S.1 5) := rfl
theorem ka_6 {S : xS} {b t : Nat} {gv gp w p l r ro cap du ra sh ow bo ma de : Nat → Int32} {tf ll kn lo pa av ca re ye ch : Int32} : (kS S b t gv gp tf ll w p l r kn lo ro pa av ca re ye ch cap du ra sh ow bo ma de).1 6 = x8 w (S.1 6) := rfl
theorem ka_7 {S : xS} {b t : Nat} {gv gp w p l r ro cap du ra sh ow bo ma de : Nat → Int32} {tf ll kn lo pa av ca re ye ch : Int32} : (kS S b t gv gp tf ll w p l r kn lo ro pa av ca re ye ch cap du ra sh ow bo ma de).1 7 = x8 p (S.1 7) := rfl
theorem ka_8 {S : xS} {b t : Nat} {gv gp w p l r ro cap du ra sh ow bo ma de : Nat → Int32} {tf ll kn lo pa av ca re ye ch : Int32} : (kS S b t gv gp tf ll w p l r kn lo ro pa av ca re ye ch cap du ra sh ow bo ma de).1 8 = x8 l (S.1 8) := rfl
theorem ka_9 {S : xS} {b t : Nat} {gv gp w p l r ro cap du ra sh ow bo ma de : Nat → Int32} {tf ll kn lo pa av ca re ye ch : Int32} : (kS S b t gv gp tf ll w p l r kn lo ro pa av ca re ye ch cap du ra sh ow bo ma de).1 9 = x8 r (S.1 9) := rfl
theorem ka_t {S : xS} {b t : Nat} {gv gp w p l r ro cap du ra sh ow bo ma de : Nat → Int32} {tf ll kn lo pa av ca re ye ch : Int32} (o : xbt b t) : (kS S b t gv gp tf ll w p l r kn lo ro pa av ca re ye ch cap du ra sh ow bo ma de).1 (t) = x01 kn lo (S.1 t) := by
  rcases o with ⟨rfl, rfl⟩ | ⟨rfl, rfl⟩ <;> rfl
theorem ka_t1 {S : xS} {b t : Nat} {gv gp w p l r ro cap du ra sh ow bo ma de : Nat → Int32} {tf ll kn lo pa av ca re ye ch : Int32} (o : xbt b t) : (kS S b t gv gp tf ll w p l r kn lo ro pa av ca re ye ch cap du ra sh ow bo ma de).1 (t + 1) = x56 ro (S.1 (t + 1)) := by
  rcases o with ⟨rfl, rfl⟩ | ⟨rfl, rfl⟩ <;> rfl
theorem ka_b {S : xS} {b t : Nat} {gv gp w p l r ro cap du ra sh ow bo ma de : Nat → Int32} {tf ll kn lo pa av ca re ye ch : Int32} (o : xbt b t) : (kS S b t gv gp tf ll w p l r kn lo ro pa av ca re ye ch cap du ra sh ow bo ma de).1 (b) = x06 pa av ca re ye ch (S.1 b) := by
  rcases o with ⟨rfl, rfl⟩ | ⟨rfl, rfl⟩ <;> rfl
theorem ka_b1 {S : xS} {b t : Nat} {gv gp w p l r ro cap du ra sh ow bo ma de : Nat → Int32} {tf ll kn lo pa av ca re ye ch : Int32} (o : xbt b t) : (kS S b t gv gp tf ll w p l r kn lo ro pa av ca re ye ch cap du ra sh ow bo ma de).1 (b + 1) = x8 cap (S.1 (b + 1)) := by
  rcases o with ⟨rfl, rfl⟩ | ⟨rfl, rfl⟩ <;> rfl
theorem ka_b2 {S : xS} {b t : Nat} {gv gp w p l r ro cap du ra sh ow bo ma de : Nat → Int32} {tf ll kn lo pa av ca re ye ch : Int32} (o : xbt b t) : (kS S b t gv gp tf ll w p l r kn lo ro pa av ca re ye ch cap du ra sh ow bo ma de).1 (b + 2) = x8 du (S.1 (b + 2)) := by
  rcases o with ⟨rfl, rfl⟩ | ⟨rfl, rfl⟩ <;> rfl
theorem ka_b3 {S : xS} {b t : Nat} {gv gp w p l r ro cap du ra sh ow bo ma de : Nat → Int32} {tf ll kn lo pa av ca re ye ch : Int32} (o : xbt b t) : (kS S b t gv gp tf ll w p l r kn lo ro pa av ca re ye ch cap du ra sh ow bo ma de).1 (b + 3) = x8 ra (S.1 (b + 3)) := by
  rcases o with ⟨rfl, rfl⟩ | ⟨rfl, rfl⟩ <;> rfl
theorem ka_b4 {S : xS} {b t : Nat} {gv gp w p l r ro cap du ra sh ow bo ma de : Nat → Int32} {tf ll kn lo pa av ca re ye ch : Int32} (o : xbt b t) : (kS S b t gv gp tf ll w p l r kn lo ro pa av ca re ye ch cap du ra sh ow bo ma de).1 (b + 4) = x8 sh (S.1 (b + 4)) := by
  rcases o with ⟨rfl, rfl⟩ | ⟨rfl, rfl⟩ <;> rfl
theorem ka_b5 {S : xS} {b t : Nat} {gv gp w p l r ro cap du ra sh ow bo ma de : Nat → Int32} {tf ll kn lo pa av ca re ye ch : Int32} (o : xbt b t) : (kS S b t gv gp tf ll w p l r kn lo ro pa av ca re ye ch cap du ra sh ow bo ma de).1 (b + 5) = x8 ow (S.1 (b + 5)) := by
  rcases o with ⟨rfl, rfl⟩ | ⟨rfl, rfl⟩ <;> rfl
theorem ka_b6 {S : xS} {b t : Nat} {gv gp w p l r ro cap du ra sh ow bo ma de : Nat → Int32} {tf ll kn lo pa av ca re ye ch : Int32} (o : xbt b t) : (kS S b t gv gp tf ll w p l r kn lo ro pa av ca re ye ch cap du ra sh ow bo ma de).1 (b + 6) = x8 bo (S.1 (b + 6)) := by
  rcases o with ⟨rfl, rfl⟩ | ⟨rfl, rfl⟩ <;> rfl
theorem ka_b7 {S : xS} {b t : Nat} {gv gp w p l r ro cap du ra sh ow bo ma de : Nat → Int32} {tf ll kn lo pa av ca re ye ch : Int32} (o : xbt b t) : (kS S b t gv gp tf ll w p l r kn lo ro pa av ca re ye ch cap du ra sh ow bo ma de).1 (b + 7) = x8 ma (S.1 (b + 7)) := by
  rcases o with ⟨rfl, rfl⟩ | ⟨rfl, rfl⟩ <;> rfl
theorem ka_b8 {S : xS} {b t : Nat} {gv gp w p l r ro cap du ra sh ow bo ma de : Nat → Int32} {tf ll kn lo pa av ca re ye ch : Int32} (o : xbt b t) : (kS S b t gv gp tf ll w p l r kn lo ro pa av ca re ye ch cap du ra sh ow bo ma de).1 (b + 8) = x8 de (S.1 (b + 8)) := by
  rcases o with ⟨rfl, rfl⟩ | ⟨rfl, rfl⟩ <;> rfl
theorem ka_out {S : xS} {b t : Nat} {gv gp w p l r ro cap du ra sh ow bo ma de : Nat → Int32} {tf ll kn lo pa av ca re ye ch : Int32} (o : xbt b t) {a : Nat} (h : (a < 3 ∨ 9 < a) ∧ (a < 31 ∨ 41 < a) ∧ (a < 188 ∨ 198 < a)) : (kS S b t gv gp tf ll w p l r kn lo ro pa av ca re ye ch cap du ra sh ow bo ma de).1 a = S.1 a := by
  have h2 : ∀ q, (3 ≤ q ∧ q ≤ 9) ∨ (31 ≤ q ∧ q ≤ 41) ∨ (188 ≤ q ∧ q ≤ 198) → a ≠ q := fun q hq e => by omega
  unfold kS
  rcases o with ⟨rfl, rfl⟩ | ⟨rfl, rfl⟩ <;> simp only [if_neg (h2 3 (by omega)), if_neg (h2 4 (by omega)), if_neg (h2 5 (by omega)), if_neg (h2 6 (by omega)), if_neg (h2 7 (by omega)), if_neg (h2 8 (by omega)), if_neg (h2 9 (by omega)), if_neg (h2 (31 + 1) (by omega)), if_neg (h2 (31 + 2) (by omega)), if_neg (h2 (31 + 3) (by omega)), if_neg (h2 (31 + 4) (by omega)), if_neg (h2 (31 + 5) (by omega)), if_neg (h2 (31 + 6) (by omega)), if_neg (h2 (31 + 7) (by omega)), if_neg (h2 (31 + 8) (by omega)), if_neg (h2 (188 + 1) (by omega)), if_neg (h2 (188 + 2) (by omega)), if_neg (h2 (188 + 3) (by omega)), if_neg (h2 (188 + 4) (by omega)), if_neg (h2 (188 + 5) (by omega)), if_neg (h2 (188 + 6) (by omega)), if_neg (h2 (188 + 7) (by omega)), if_neg (h2 (188 + 8) (by omega)), if_neg (h2 31 (by omega)), if_neg (h2 188 (by omega)), if_neg (h2 40 (by omega)), if_neg (h2 197 (by omega)), if_neg (h2 (40 + 1) (by omega)), if_neg (h2 (197 + 1) (by omega))]
theorem kr_gv {S : xS} {b t : Nat} {gv gp w p l r ro cap du ra sh ow bo ma de : Nat → Int32} {tf ll kn lo pa av ca re ye ch : Int32} {i : Nat} (h : i < 8) : (kS S b t gv gp tf ll w p l r kn lo ro pa av ca re ye ch cap du ra sh ow bo ma de).1 4 i = gv i := by rw [ka_4]; exact x8_at h
theorem kr_gp {S : xS} {b t : Nat} {gv gp w p l r ro cap du ra sh ow bo ma de : Nat → Int32} {tf ll kn lo pa av ca re ye ch : Int32} {i : Nat} (h : i < 8) : (kS S b t gv gp tf ll w p l r kn lo ro pa av ca re ye ch cap du ra sh ow bo ma de).1 5 i = gp i := by rw [ka_5]; exact x8_at h
theorem kr_w {S : xS} {b t : Nat} {gv gp w p l r ro cap du ra sh ow bo ma de : Nat → Int32} {tf ll kn lo pa av ca re ye ch : Int32} {i : Nat} (h : i < 8) : (kS S b t gv gp tf ll w p l r kn lo ro pa av ca re ye ch cap du ra sh ow bo ma de).1 6 i = w i := by rw [ka_6]; exact x8_at h
theorem kr_p {S : xS} {b t : Nat} {gv gp w p l r ro cap du ra sh ow bo ma de : Nat → Int32} {tf ll kn lo pa av ca re ye ch : Int32} {i : Nat} (h : i < 8) : (kS S b t gv gp tf ll w p l r kn lo ro pa av ca re ye ch cap du ra sh ow bo ma de).1 7 i = p i := by rw [ka_7]; exact x8_at h
theorem kr_l {S : xS} {b t : Nat} {gv gp w p l r ro cap du ra sh ow bo ma de : Nat → Int32} {tf ll kn lo pa av ca re ye ch : Int32} {i : Nat} (h : i < 8) : (kS S b t gv gp tf ll w p l r kn lo ro pa av ca re ye ch cap du ra sh ow bo ma de).1 8 i = l i := by rw [ka_8]; exact x8_at h
theorem kr_r {S : xS} {b t : Nat} {gv gp w p l r ro cap du ra sh ow bo ma de : Nat → Int32} {tf ll kn lo pa av ca re ye ch : Int32} {i : Nat} (h : i < 8) : (kS S b t gv gp tf ll w p l r kn lo ro pa av ca re ye ch cap du ra sh ow bo ma de).1 9 i = r i := by rw [ka_9]; exact x8_at h
theorem kr_cap {S : xS} {b t : Nat} {gv gp w p l r ro cap du ra sh ow bo ma de : Nat → Int32} {tf ll kn lo pa av ca re ye ch : Int32} (o : xbt b t) {i : Nat} (h : i < 8) : (kS S b t gv gp tf ll w p l r kn lo ro pa av ca re ye ch cap du ra sh ow bo ma de).1 (b + 1) i = cap i := by rw [ka_b1 o]; exact x8_at h
theorem kr_du {S : xS} {b t : Nat} {gv gp w p l r ro cap du ra sh ow bo ma de : Nat → Int32} {tf ll kn lo pa av ca re ye ch : Int32} (o : xbt b t) {i : Nat} (h : i < 8) : (kS S b t gv gp tf ll w p l r kn lo ro pa av ca re ye ch cap du ra sh ow bo ma de).1 (b + 2) i = du i := by rw [ka_b2 o]; exact x8_at h
theorem kr_ra {S : xS} {b t : Nat} {gv gp w p l r ro cap du ra sh ow bo ma de : Nat → Int32} {tf ll kn lo pa av ca re ye ch : Int32} (o : xbt b t) {i : Nat} (h : i < 8) : (kS S b t gv gp tf ll w p l r kn lo ro pa av ca re ye ch cap du ra sh ow bo ma de).1 (b + 3) i = ra i := by rw [ka_b3 o]; exact x8_at h
theorem kr_sh {S : xS} {b t : Nat} {gv gp w p l r ro cap du ra sh ow bo ma de : Nat → Int32} {tf ll kn lo pa av ca re ye ch : Int32} (o : xbt b t) {i : Nat} (h : i < 8) : (kS S b t gv gp tf ll w p l r kn lo ro pa av ca re ye ch cap du ra sh ow bo ma de).1 (b + 4) i = sh i := by rw [ka_b4 o]; exact x8_at h
theorem kr_ow {S : xS} {b t : Nat} {gv gp w p l r ro cap du ra sh ow bo ma de : Nat → Int32} {tf ll kn lo pa av ca re ye ch : Int32} (o : xbt b t) {i : Nat} (h : i < 8) : (kS S b t gv gp tf ll w p l r kn lo ro pa av ca re ye ch cap du ra sh ow bo ma de).1 (b + 5) i = ow i := by rw [ka_b5 o]; exact x8_at h
theorem kr_bo {S : xS} {b t : Nat} {gv gp w p l r ro cap du ra sh ow bo ma de : Nat → Int32} {tf ll kn lo pa av ca re ye ch : Int32} (o : xbt b t) {i : Nat} (h : i < 8) : (kS S b t gv gp tf ll w p l r kn lo ro pa av ca re ye ch cap du ra sh ow bo ma de).1 (b + 6) i = bo i := by rw [ka_b6 o]; exact x8_at h
theorem kr_ma {S : xS} {b t : Nat} {gv gp w p l r ro cap du ra sh ow bo ma de : Nat → Int32} {tf ll kn lo pa av ca re ye ch : Int32} (o : xbt b t) {i : Nat} (h : i < 8) : (kS S b t gv gp tf ll w p l r kn lo ro pa av ca re ye ch cap du ra sh ow bo ma de).1 (b + 7) i = ma i := by rw [ka_b7 o]; exact x8_at h
theorem kr_de {S : xS} {b t : Nat} {gv gp w p l r ro cap du ra sh ow bo ma de : Nat → Int32} {tf ll kn lo pa av ca re ye ch : Int32} (o : xbt b t) {i : Nat} (h : i < 8) : (kS S b t gv gp tf ll w p l r kn lo ro pa av ca re ye ch cap du ra sh ow bo ma de).1 (b + 8) i = de i := by rw [ka_b8 o]; exact x8_at h
theorem kr_ro {S : xS} {b t : Nat} {gv gp w p l r ro cap du ra sh ow bo ma de : Nat → Int32} {tf ll kn lo pa av ca re ye ch : Int32} (o : xbt b t) {i : Nat} (h : i < 56) : (kS S b t gv gp tf ll w p l r kn lo ro pa av ca re ye ch cap du ra sh ow bo ma de).1 (t + 1) i = ro i := by rw [ka_t1 o]; exact x56_at h
theorem kr_tf {S : xS} {b t : Nat} {gv gp w p l r ro cap du ra sh ow bo ma de : Nat → Int32} {tf ll kn lo pa av ca re ye ch : Int32} : (kS S b t gv gp tf ll w p l r kn lo ro pa av ca re ye ch cap du ra sh ow bo ma de).1 3 2 = tf := rfl
theorem kr_ll {S : xS} {b t : Nat} {gv gp w p l r ro cap du ra sh ow bo ma de : Nat → Int32} {tf ll kn lo pa av ca re ye ch : Int32} : (kS S b t gv gp tf ll w p l r kn lo ro pa av ca re ye ch cap du ra sh ow bo ma de).1 3 3 = ll := rfl
theorem kr_kn {S : xS} {b t : Nat} {gv gp w p l r ro cap du ra sh ow bo ma de : Nat → Int32} {tf ll kn lo pa av ca re ye ch : Int32} (o : xbt b t) : (kS S b t gv gp tf ll w p l r kn lo ro pa av ca re ye ch cap du ra sh ow bo ma de).1 t 0 = kn := by rw [show (kS S b t gv gp tf ll w p l r kn lo ro pa av ca re ye ch cap du ra sh ow bo ma de).1 t = _ from ka_t o]; rfl
theorem kr_lo {S : xS} {b t : Nat} {gv gp w p l r ro cap du ra sh ow bo ma de : Nat → Int32} {tf ll kn lo pa av ca re ye ch : Int32} (o : xbt b t) : (kS S b t gv gp tf ll w p l r kn lo ro pa av ca re ye ch cap du ra sh ow bo ma de).1 t 1 = lo := by rw [show (kS S b t gv gp tf ll w p l r kn lo ro pa av ca re ye ch cap du ra sh ow bo ma de).1 t = _ from ka_t o]; rfl
theorem kr_pa {S : xS} {b t : Nat} {gv gp w p l r ro cap du ra sh ow bo ma de : Nat → Int32} {tf ll kn lo pa av ca re ye ch : Int32} (o : xbt b t) : (kS S b t gv gp tf ll w p l r kn lo ro pa av ca re ye ch cap du ra sh ow bo ma de).1 b 0 = pa := by rw [show (kS S b t gv gp tf ll w p l r kn lo ro pa av ca re ye ch cap du ra sh ow bo ma de).1 b = _ from ka_b o]; rfl
theorem kr_av {S : xS} {b t : Nat} {gv gp w p l r ro cap du ra sh ow bo ma de : Nat → Int32} {tf ll kn lo pa av ca re ye ch : Int32} (o : xbt b t) : (kS S b t gv gp tf ll w p l r kn lo ro pa av ca re ye ch cap du ra sh ow bo ma de).1 b 1 = av := by rw [show (kS S b t gv gp tf ll w p l r kn lo ro pa av ca re ye ch cap du ra sh ow bo ma de).1 b = _ from ka_b o]; rfl
theorem kr_ca {S : xS} {b t : Nat} {gv gp w p l r ro cap du ra sh ow bo ma de : Nat → Int32} {tf ll kn lo pa av ca re ye ch : Int32} (o : xbt b t) : (kS S b t gv gp tf ll w p l r kn lo ro pa av ca re ye ch cap du ra sh ow bo ma de).1 b 2 = ca := by rw [show (kS S b t gv gp tf ll w p l r kn lo ro pa av ca re ye ch cap du ra sh ow bo ma de).1 b = _ from ka_b o]; rfl
theorem kr_re {S : xS} {b t : Nat} {gv gp w p l r ro cap du ra sh ow bo ma de : Nat → Int32} {tf ll kn lo pa av ca re ye ch : Int32} (o : xbt b t) : (kS S b t gv gp tf ll w p l r kn lo ro pa av ca re ye ch cap du ra sh ow bo ma de).1 b 3 = re := by rw [show (kS S b t gv gp tf ll w p l r kn lo ro pa av ca re ye ch cap du ra sh ow bo ma de).1 b = _ from ka_b o]; rfl
theorem kr_ye {S : xS} {b t : Nat} {gv gp w p l r ro cap du ra sh ow bo ma de : Nat → Int32} {tf ll kn lo pa av ca re ye ch : Int32} (o : xbt b t) : (kS S b t gv gp tf ll w p l r kn lo ro pa av ca re ye ch cap du ra sh ow bo ma de).1 b 4 = ye := by rw [show (kS S b t gv gp tf ll w p l r kn lo ro pa av ca re ye ch cap du ra sh ow bo ma de).1 b = _ from ka_b o]; rfl
theorem kr_ch {S : xS} {b t : Nat} {gv gp w p l r ro cap du ra sh ow bo ma de : Nat → Int32} {tf ll kn lo pa av ca re ye ch : Int32} (o : xbt b t) : (kS S b t gv gp tf ll w p l r kn lo ro pa av ca re ye ch cap du ra sh ow bo ma de).1 b 5 = ch := by rw [show (kS S b t gv gp tf ll w p l r kn lo ro pa av ca re ye ch cap du ra sh ow bo ma de).1 b = _ from ka_b o]; rfl
theorem kw_gv {S : xS} {b t : Nat} {gv gp w p l r ro cap du ra sh ow bo ma de : Nat → Int32} {tf ll kn lo pa av ca re ye ch : Int32} {i : Nat} (h : i < 8) {v : Int32} : xI (kS S b t gv gp tf ll w p l r kn lo ro pa av ca re ye ch cap du ra sh ow bo ma de) 4 i v = (kS S b t (va_up gv i v) gp tf ll w p l r kn lo ro pa av ca re ye ch cap du ra sh ow bo ma de) := by
  refine Prod.ext (funext fun a => ?_) rfl
  by_cases ha : a = 4
  · subst ha
    rw [xI_1]
    rw [ka_4, ka_4, x8_up h]
  · rw [xI_ne ha]
    unfold kS
    simp only [ha, if_false]
theorem kw_gp {S : xS} {b t : Nat} {gv gp w p l r ro cap du ra sh ow bo ma de : Nat → Int32} {tf ll kn lo pa av ca re ye ch : Int32} {i : Nat} (h : i < 8) {v : Int32} : xI (kS S b t gv gp tf ll w p l r kn lo ro pa av ca re ye ch cap du ra sh ow bo ma de) 5 i v = (kS S b t gv (va_up gp i v) tf ll w p l r kn lo ro pa av ca re ye ch cap du ra sh ow bo ma de) := by
  refine Prod.ext (funext fun a => ?_) rfl
  by_cases ha : a = 5
  · subst ha
    rw [xI_1]
    rw [ka_5, ka_5, x8_up h]
  · rw [xI_ne ha]
    unfold kS
    simp only [ha, if_false]
theorem kw_w {S : xS} {b t : Nat} {gv gp w p l r ro cap du ra sh ow bo ma de : Nat → Int32} {tf ll kn lo pa av ca re ye ch : Int32} {i : Nat} (h : i < 8) {v : Int32} : xI (kS S b t gv gp tf ll w p l r kn lo ro pa av ca re ye ch cap du ra sh ow bo ma de) 6 i v = (kS S b t gv gp tf ll (va_up w i v) p l r kn lo ro pa av ca re ye ch cap du ra sh ow bo ma de) := by
  refine Prod.ext (funext fun a => ?_) rfl
  by_cases ha : a = 6
  · subst ha
    rw [xI_1]
    rw [ka_6, ka_6, x8_up h]
  · rw [xI_ne ha]
    unfold kS
    simp only [ha, if_false]
theorem kw_p {S : xS} {b t : Nat} {gv gp w p l r ro cap du ra sh ow bo ma de : Nat → Int32} {tf ll kn lo pa av ca re ye ch : Int32} {i : Nat} (h : i < 8) {v : Int32} : xI (kS S b t gv gp tf ll w p l r kn lo ro pa av ca re ye ch cap du ra sh ow bo ma de) 7 i v = (kS S b t gv gp tf ll w (va_up p i v) l r kn lo ro pa av ca re ye ch cap du ra sh ow bo ma de) := by
  refine Prod.ext (funext fun a => ?_) rfl
  by_cases ha : a = 7
  · subst ha
    rw [xI_1]
    rw [ka_7, ka_7, x8_up h]
  · rw [xI_ne ha]
    unfold kS
    simp only [ha, if_false]
theorem kw_l {S : xS} {b t : Nat} {gv gp w p l r ro cap du ra sh ow bo ma de : Nat → Int32} {tf ll kn lo pa av ca re ye ch : Int32} {i : Nat} (h : i < 8) {v : Int32} : xI (kS S b t gv gp tf ll w p l r kn lo ro pa av ca re ye ch cap du ra sh ow bo ma de) 8 i v = (kS S b t gv gp tf ll w p (va_up l i v) r kn lo ro pa av ca re ye ch cap du ra sh ow bo ma de) := by
  refine Prod.ext (funext fun a => ?_) rfl
  by_cases ha : a = 8
  · subst ha
    rw [xI_1]
    rw [ka_8, ka_8, x8_up h]
  · rw [xI_ne ha]
    unfold kS
    simp only [ha, if_false]
theorem kw_r {S : xS} {b t : Nat} {gv gp w p l r ro cap du ra sh ow bo ma de : Nat → Int32} {tf ll kn lo pa av ca re ye ch : Int32} {i : Nat} (h : i < 8) {v : Int32} : xI (kS S b t gv gp tf ll w p l r kn lo ro pa av ca re ye ch cap du ra sh ow bo ma de) 9 i v = (kS S b t gv gp tf ll w p l (va_up r i v) kn lo ro pa av ca re ye ch cap du ra sh ow bo ma de) := by
  refine Prod.ext (funext fun a => ?_) rfl
  by_cases ha : a = 9
  · subst ha
    rw [xI_1]
    rw [ka_9, ka_9, x8_up h]
  · rw [xI_ne ha]
    unfold kS
    simp only [ha, if_false]
theorem kw_cap {S : xS} {b t : Nat} {gv gp w p l r ro cap du ra sh ow bo ma de : Nat → Int32} {tf ll kn lo pa av ca re ye ch : Int32} (o : xbt b t) {i : Nat} (h : i < 8) {v : Int32} : xI (kS S b t gv gp tf ll w p l r kn lo ro pa av ca re ye ch cap du ra sh ow bo ma de) (b + 1) i v = (kS S b t gv gp tf ll w p l r kn lo ro pa av ca re ye ch (va_up cap i v) du ra sh ow bo ma de) := by
  refine Prod.ext (funext fun a => ?_) rfl
  by_cases ha : a = (b + 1)
  · subst ha
    rw [xI_1]
    rw [ka_b1 o, ka_b1 o, x8_up h]
  · rw [xI_ne ha]
    unfold kS
    simp only [ha, if_false]
theorem kw_du {S : xS} {b t : Nat} {gv gp w p l r ro cap du ra sh ow bo ma de : Nat → Int32} {tf ll kn lo pa av ca re ye ch : Int32} (o : xbt b t) {i : Nat} (h : i < 8) {v : Int32} : xI (kS S b t gv gp tf ll w p l r kn lo ro pa av ca re ye ch cap du ra sh ow bo ma de) (b + 2) i v = (kS S b t gv gp tf ll w p l r kn lo ro pa av ca re ye ch cap (va_up du i v) ra sh ow bo ma de) := by
  refine Prod.ext (funext fun a => ?_) rfl
  by_cases ha : a = (b + 2)
  · subst ha
    rw [xI_1]
    rw [ka_b2 o, ka_b2 o, x8_up h]
  · rw [xI_ne ha]
    unfold kS
    simp only [ha, if_false]
theorem kw_ra {S : xS} {b t : Nat} {gv gp w p l r ro cap du ra sh ow bo ma de : Nat → Int32} {tf ll kn lo pa av ca re ye ch : Int32} (o : xbt b t) {i : Nat} (h : i < 8) {v : Int32} : xI (kS S b t gv gp tf ll w p l r kn lo ro pa av ca re ye ch cap du ra sh ow bo ma de) (b + 3) i v = (kS S b t gv gp tf ll w p l r kn lo ro pa av ca re ye ch cap du (va_up ra i v) sh ow bo ma de) := by
  refine Prod.ext (funext fun a => ?_) rfl
  by_cases ha : a = (b + 3)
  · subst ha
    rw [xI_1]
    rw [ka_b3 o, ka_b3 o, x8_up h]
  · rw [xI_ne ha]
    unfold kS
    simp only [ha, if_false]
theorem kw_sh {S : xS} {b t : Nat} {gv gp w p l r ro cap du ra sh ow bo ma de : Nat → Int32} {tf ll kn lo pa av ca re ye ch : Int32} (o : xbt b t) {i : Nat} (h : i < 8) {v : Int32} : xI (kS S b t gv gp tf ll w p l r kn lo ro pa av ca re ye ch cap du ra sh ow bo ma de) (b + 4) i v = (kS S b t gv gp tf ll w p l r kn lo ro pa av ca re ye ch cap du ra (va_up sh i v) ow bo ma de) := by
  refine Prod.ext (funext fun a => ?_) rfl
  by_cases ha : a = (b + 4)
  · subst ha
    rw [xI_1]
    rw [ka_b4 o, ka_b4 o, x8_up h]
  · rw [xI_ne ha]
    unfold kS
    simp only [ha, if_false]
theorem kw_ow {S : xS} {b t : Nat} {gv gp w p l r ro cap du ra sh ow bo ma de : Nat → Int32} {tf ll kn lo pa av ca re ye ch : Int32} (o : xbt b t) {i : Nat} (h : i < 8) {v : Int32} : xI (kS S b t gv gp tf ll w p l r kn lo ro pa av ca re ye ch cap du ra sh ow bo ma de) (b + 5) i v = (kS S b t gv gp tf ll w p l r kn lo ro pa av ca re ye ch cap du ra sh (va_up ow i v) bo ma de) := by
  refine Prod.ext (funext fun a => ?_) rfl
  by_cases ha : a = (b + 5)
  · subst ha
    rw [xI_1]
    rw [ka_b5 o, ka_b5 o, x8_up h]
  · rw [xI_ne ha]
    unfold kS
    simp only [ha, if_false]
theorem kw_bo {S : xS} {b t : Nat} {gv gp w p l r ro cap du ra sh ow bo ma de : Nat → Int32} {tf ll kn lo pa av ca re ye ch : Int32} (o : xbt b t) {i : Nat} (h : i < 8) {v : Int32} : xI (kS S b t gv gp tf ll w p l r kn lo ro pa av ca re ye ch cap du ra sh ow bo ma de) (b + 6) i v = (kS S b t gv gp tf ll w p l r kn lo ro pa av ca re ye ch cap du ra sh ow (va_up bo i v) ma de) := by
  refine Prod.ext (funext fun a => ?_) rfl
  by_cases ha : a = (b + 6)
  · subst ha
    rw [xI_1]
    rw [ka_b6 o, ka_b6 o, x8_up h]
  · rw [xI_ne ha]
    unfold kS
    simp only [ha, if_false]
theorem kw_ma {S : xS} {b t : Nat} {gv gp w p l r ro cap du ra sh ow bo ma de : Nat → Int32} {tf ll kn lo pa av ca re ye ch : Int32} (o : xbt b t) {i : Nat} (h : i < 8) {v : Int32} : xI (kS S b t gv gp tf ll w p l r kn lo ro pa av ca re ye ch cap du ra sh ow bo ma de) (b + 7) i v = (kS S b t gv gp tf ll w p l r kn lo ro pa av ca re ye ch cap du ra sh ow bo (va_up ma i v) de) := by
  refine Prod.ext (funext fun a => ?_) rfl
  by_cases ha : a = (b + 7)
  · subst ha
    rw [xI_1]
    rw [ka_b7 o, ka_b7 o, x8_up h]
  · rw [xI_ne ha]
    unfold kS
    simp only [ha, if_false]
theorem kw_de {S : xS} {b t : Nat} {gv gp w p l r ro cap du ra sh ow bo ma de : Nat → Int32} {tf ll kn lo pa av ca re ye ch : Int32} (o : xbt b t) {i : Nat} (h : i < 8) {v : Int32} : xI (kS S b t gv gp tf ll w p l r kn lo ro pa av ca re ye ch cap du ra sh ow bo ma de) (b + 8) i v = (kS S b t gv gp tf ll w p l r kn lo ro pa av ca re ye ch cap du ra sh ow bo ma (va_up de i v)) := by
  refine Prod.ext (funext fun a => ?_) rfl
  by_cases ha : a = (b + 8)
  · subst ha
    rw [xI_1]
    rw [ka_b8 o, ka_b8 o, x8_up h]
  · rw [xI_ne ha]
    unfold kS
    simp only [ha, if_false]
theorem kw_ro {S : xS} {b t : Nat} {gv gp w p l r ro cap du ra sh ow bo ma de : Nat → Int32} {tf ll kn lo pa av ca re ye ch : Int32} (o : xbt b t) {i : Nat} (h : i < 56) {v : Int32} : xI (kS S b t gv gp tf ll w p l r kn lo ro pa av ca re ye ch cap du ra sh ow bo ma de) (t + 1) i v = (kS S b t gv gp tf ll w p l r kn lo (va_up ro i v) pa av ca re ye ch cap du ra sh ow bo ma de) := by
  refine Prod.ext (funext fun a => ?_) rfl
  by_cases ha : a = (t + 1)
  · subst ha
    rw [xI_1]
    rw [ka_t1 o, ka_t1 o, x56_up h]
  · rw [xI_ne ha]
    unfold kS
    simp only [ha, if_false]
theorem kw_tf {S : xS} {b t : Nat} {gv gp w p l r ro cap du ra sh ow bo ma de : Nat → Int32} {tf ll kn lo pa av ca re ye ch : Int32} {v : Int32} : xI (kS S b t gv gp tf ll w p l r kn lo ro pa av ca re ye ch cap du ra sh ow bo ma de) 3 2 v = (kS S b t gv gp v ll w p l r kn lo ro pa av ca re ye ch cap du ra sh ow bo ma de) := by
  refine Prod.ext (funext fun a => ?_) rfl
  by_cases ha : a = 3
  · rw [ha, xI_1]
    rw [ka_3, ka_3]
    funext q
    unfold x2
    by_cases hq : q = 2
    · subst hq; rw [xup_at]; rfl
    · rw [va_up_ne _ _ hq]; simp only [hq, if_false]
  · rw [xI_ne ha]
    unfold kS
    simp only [ha, if_false]
theorem kw_ll {S : xS} {b t : Nat} {gv gp w p l r ro cap du ra sh ow bo ma de : Nat → Int32} {tf ll kn lo pa av ca re ye ch : Int32} {v : Int32} : xI (kS S b t gv gp tf ll w p l r kn lo ro pa av ca re ye ch cap du ra sh ow bo ma de) 3 3 v = (kS S b t gv gp tf v w p l r kn lo ro pa av ca re ye ch cap du ra sh ow bo ma de) := by
  refine Prod.ext (funext fun a => ?_) rfl
  by_cases ha : a = 3
  · rw [ha, xI_1]
    rw [ka_3, ka_3]
    funext q
    unfold x2
    by_cases hq : q = 3
    · subst hq; rw [xup_at]; rfl
    · rw [va_up_ne _ _ hq]; simp only [hq, if_false]
  · rw [xI_ne ha]
    unfold kS
    simp only [ha, if_false]
theorem kw_kn {S : xS} {b t : Nat} {gv gp w p l r ro cap du ra sh ow bo ma de : Nat → Int32} {tf ll kn lo pa av ca re ye ch : Int32} (o : xbt b t) {v : Int32} : xI (kS S b t gv gp tf ll w p l r kn lo ro pa av ca re ye ch cap du ra sh ow bo ma de) t 0 v = (kS S b t gv gp tf ll w p l r v lo ro pa av ca re ye ch cap du ra sh ow bo ma de) := by
  refine Prod.ext (funext fun a => ?_) rfl
  by_cases ha : a = t
  · rw [ha, xI_1]
    rw [show (kS S b t gv gp tf ll w p l r kn lo ro pa av ca re ye ch cap du ra sh ow bo ma de).1 t = _ from ka_t o, show (kS S b t gv gp tf ll w p l r v lo ro pa av ca re ye ch cap du ra sh ow bo ma de).1 t = _ from ka_t o]
    funext q
    unfold x01
    by_cases hq : q = 0
    · subst hq; rw [xup_at]; rfl
    · rw [va_up_ne _ _ hq]; simp only [hq, if_false]
  · rw [xI_ne ha]
    unfold kS
    simp only [ha, if_false]
theorem kw_lo {S : xS} {b t : Nat} {gv gp w p l r ro cap du ra sh ow bo ma de : Nat → Int32} {tf ll kn lo pa av ca re ye ch : Int32} (o : xbt b t) {v : Int32} : xI (kS S b t gv gp tf ll w p l r kn lo ro pa av ca re ye ch cap du ra sh ow bo ma de) t 1 v = (kS S b t gv gp tf ll w p l r kn v ro pa av ca re ye ch cap du ra sh ow bo ma de) := by
  refine Prod.ext (funext fun a => ?_) rfl
  by_cases ha : a = t
  · rw [ha, xI_1]
    rw [show (kS S b t gv gp tf ll w p l r kn lo ro pa av ca re ye ch cap du ra sh ow bo ma de).1 t = _ from ka_t o, show (kS S b t gv gp tf ll w p l r kn v ro pa av ca re ye ch cap du ra sh ow bo ma de).1 t = _ from ka_t o]
    funext q
    unfold x01
    by_cases hq : q = 1
    · subst hq; rw [xup_at]; rfl
    · rw [va_up_ne _ _ hq]; simp only [hq, if_false]
  · rw [xI_ne ha]
    unfold kS
    simp only [ha, if_false]
theorem kw_pa {S : xS} {b t : Nat} {gv gp w p l r ro cap du ra sh ow bo ma de : Nat → Int32} {tf ll kn lo pa av ca re ye ch : Int32} (o : xbt b t) {v : Int32} : xI (kS S b t gv gp tf ll w p l r kn lo ro pa av ca re ye ch cap du ra sh ow bo ma de) b 0 v = (kS S b t gv gp tf ll w p l r kn lo ro v av ca re ye ch cap du ra sh ow bo ma de) := by
  refine Prod.ext (funext fun a => ?_) rfl
  by_cases ha : a = b
  · rw [ha, xI_1]
    rw [show (kS S b t gv gp tf ll w p l r kn lo ro pa av ca re ye ch cap du ra sh ow bo ma de).1 b = _ from ka_b o, show (kS S b t gv gp tf ll w p l r kn lo ro v av ca re ye ch cap du ra sh ow bo ma de).1 b = _ from ka_b o]
    funext q
    unfold x06
    by_cases hq : q = 0
    · subst hq; rw [xup_at]; rfl
    · rw [va_up_ne _ _ hq]; simp only [hq, if_false]
  · rw [xI_ne ha]
    unfold kS
    simp only [ha, if_false]
theorem kw_av {S : xS} {b t : Nat} {gv gp w p l r ro cap du ra sh ow bo ma de : Nat → Int32} {tf ll kn lo pa av ca re ye ch : Int32} (o : xbt b t) {v : Int32} : xI (kS S b t gv gp tf ll w p l r kn lo ro pa av ca re ye ch cap du ra sh ow bo ma de) b 1 v = (kS S b t gv gp tf ll w p l r kn lo ro pa v ca re ye ch cap du ra sh ow bo ma de) := by
  refine Prod.ext (funext fun a => ?_) rfl
  by_cases ha : a = b
  · rw [ha, xI_1]
    rw [show (kS S b t gv gp tf ll w p l r kn lo ro pa av ca re ye ch cap du ra sh ow bo ma de).1 b = _ from ka_b o, show (kS S b t gv gp tf ll w p l r kn lo ro pa v ca re ye ch cap du ra sh ow bo ma de).1 b = _ from ka_b o]
    funext q
    unfold x06
    by_cases hq : q = 1
    · subst hq; rw [xup_at]; rfl
    · rw [va_up_ne _ _ hq]; simp only [hq, if_false]
  · rw [xI_ne ha]
    unfold kS
    simp only [ha, if_false]
theorem kw_ca {S : xS} {b t : Nat} {gv gp w p l r ro cap du ra sh ow bo ma de : Nat → Int32} {tf ll kn lo pa av ca re ye ch : Int32} (o : xbt b t) {v : Int32} : xI (kS S b t gv gp tf ll w p l r kn lo ro pa av ca re ye ch cap du ra sh ow bo ma de) b 2 v = (kS S b t gv gp tf ll w p l r kn lo ro pa av v re ye ch cap du ra sh ow bo ma de) := by
  refine Prod.ext (funext fun a => ?_) rfl
  by_cases ha : a = b
  · rw [ha, xI_1]
    rw [show (kS S b t gv gp tf ll w p l r kn lo ro pa av ca re ye ch cap du ra sh ow bo ma de).1 b = _ from ka_b o, show (kS S b t gv gp tf ll w p l r kn lo ro pa av v re ye ch cap du ra sh ow bo ma de).1 b = _ from ka_b o]
    funext q
    unfold x06
    by_cases hq : q = 2
    · subst hq; rw [xup_at]; rfl
    · rw [va_up_ne _ _ hq]; simp only [hq, if_false]
  · rw [xI_ne ha]
    unfold kS
    simp only [ha, if_false]
theorem kw_re {S : xS} {b t : Nat} {gv gp w p l r ro cap du ra sh ow bo ma de : Nat → Int32} {tf ll kn lo pa av ca re ye ch : Int32} (o : xbt b t) {v : Int32} : xI (kS S b t gv gp tf ll w p l r kn lo ro pa av ca re ye ch cap du ra sh ow bo ma de) b 3 v = (kS S b t gv gp tf ll w p l r kn lo ro pa av ca v ye ch cap du ra sh ow bo ma de) := by
  refine Prod.ext (funext fun a => ?_) rfl
  by_cases ha : a = b
  · rw [ha, xI_1]
    rw [show (kS S b t gv gp tf ll w p l r kn lo ro pa av ca re ye ch cap du ra sh ow bo ma de).1 b = _ from ka_b o, show (kS S b t gv gp tf ll w p l r kn lo ro pa av ca v ye ch cap du ra sh ow bo ma de).1 b = _ from ka_b o]
    funext q
    unfold x06
    by_cases hq : q = 3
    · subst hq; rw [xup_at]; rfl
    · rw [va_up_ne _ _ hq]; simp only [hq, if_false]
  · rw [xI_ne ha]
    unfold kS
    simp only [ha, if_false]
theorem kw_ye {S : xS} {b t : Nat} {gv gp w p l r ro cap du ra sh ow bo ma de : Nat → Int32} {tf ll kn lo pa av ca re ye ch : Int32} (o : xbt b t) {v : Int32} : xI (kS S b t gv gp tf ll w p l r kn lo ro pa av ca re ye ch cap du ra sh ow bo ma de) b 4 v = (kS S b t gv gp tf ll w p l r kn lo ro pa av ca re v ch cap du ra sh ow bo ma de) := by
  refine Prod.ext (funext fun a => ?_) rfl
  by_cases ha : a = b
  · rw [ha, xI_1]
    rw [show (kS S b t gv gp tf ll w p l r kn lo ro pa av ca re ye ch cap du ra sh ow bo ma de).1 b = _ from ka_b o, show (kS S b t gv gp tf ll w p l r kn lo ro pa av ca re v ch cap du ra sh ow bo ma de).1 b = _ from ka_b o]
    funext q
    unfold x06
    by_cases hq : q = 4
    · subst hq; rw [xup_at]; rfl
    · rw [va_up_ne _ _ hq]; simp only [hq, if_false]
  · rw [xI_ne ha]
    unfold kS
    simp only [ha, if_false]
theorem kw_ch {S : xS} {b t : Nat} {gv gp w p l r ro cap du ra sh ow bo ma de : Nat → Int32} {tf ll kn lo pa av ca re ye ch : Int32} (o : xbt b t) {v : Int32} : xI (kS S b t gv gp tf ll w p l r kn lo ro pa av ca re ye ch cap du ra sh ow bo ma de) b 5 v = (kS S b t gv gp tf ll w p l r kn lo ro pa av ca re ye v cap du ra sh ow bo ma de) := by
  refine Prod.ext (funext fun a => ?_) rfl
  by_cases ha : a = b
  · rw [ha, xI_1]
    rw [show (kS S b t gv gp tf ll w p l r kn lo ro pa av ca re ye ch cap du ra sh ow bo ma de).1 b = _ from ka_b o, show (kS S b t gv gp tf ll w p l r kn lo ro pa av ca re ye v cap du ra sh ow bo ma de).1 b = _ from ka_b o]
    funext q
    unfold x06
    by_cases hq : q = 5
    · subst hq; rw [xup_at]; rfl
    · rw [va_up_ne _ _ hq]; simp only [hq, if_false]
  · rw [xI_ne ha]
    unfold kS
    simp only [ha, if_false]
theorem kx_gv {S : xS} {b t : Nat} {gv gp w p l r ro cap du ra sh ow bo ma de : Nat → Int32} {tf ll kn lo pa av ca re ye ch : Int32} {g g2 : Nat → Int32} (h : ∀ k, k < 8 → g k = g2 k) : xw (kS S b t gv gp tf ll w p l r kn lo ro pa av ca re ye ch cap du ra sh ow bo ma de) 4 (xmp 0 g ((kS S b t gv gp tf ll w p l r kn lo ro pa av ca re ye ch cap du ra sh ow bo ma de).1 4)) = (kS S b t g2 gp tf ll w p l r kn lo ro pa av ca re ye ch cap du ra sh ow bo ma de) := by
  refine Prod.ext (funext fun a => ?_) rfl
  by_cases ha : a = 4
  · rw [ha, xw_1, ka_4, ka_4, x8_mp, x8_cong h]
  · rw [xw_ne _ _ ha]
    unfold kS
    simp only [ha, if_false]
theorem kx_gp {S : xS} {b t : Nat} {gv gp w p l r ro cap du ra sh ow bo ma de : Nat → Int32} {tf ll kn lo pa av ca re ye ch : Int32} {g g2 : Nat → Int32} (h : ∀ k, k < 8 → g k = g2 k) : xw (kS S b t gv gp tf ll w p l r kn lo ro pa av ca re ye ch cap du ra sh ow bo ma de) 5 (xmp 0 g ((kS S b t gv gp tf ll w p l r kn lo ro pa av ca re ye ch cap du ra sh ow bo ma de).1 5)) = (kS S b t gv g2 tf ll w p l r kn lo ro pa av ca re ye ch cap du ra sh ow bo ma de) := by
  refine Prod.ext (funext fun a => ?_) rfl
  by_cases ha : a = 5
  · rw [ha, xw_1, ka_5, ka_5, x8_mp, x8_cong h]
  · rw [xw_ne _ _ ha]
    unfold kS
    simp only [ha, if_false]
theorem kx_w {S : xS} {b t : Nat} {gv gp w p l r ro cap du ra sh ow bo ma de : Nat → Int32} {tf ll kn lo pa av ca re ye ch : Int32} {g g2 : Nat → Int32} (h : ∀ k, k < 8 → g k = g2 k) : xw (kS S b t gv gp tf ll w p l r kn lo ro pa av ca re ye ch cap du ra sh ow bo ma de) 6 (xmp 0 g ((kS S b t gv gp tf ll w p l r kn lo ro pa av ca re ye ch cap du ra sh ow bo ma de).1 6)) = (kS S b t gv gp tf ll g2 p l r kn lo ro pa av ca re ye ch cap du ra sh ow bo ma de) := by
  refine Prod.ext (funext fun a => ?_) rfl
  by_cases ha : a = 6
  · rw [ha, xw_1, ka_6, ka_6, x8_mp, x8_cong h]
  · rw [xw_ne _ _ ha]
    unfold kS
    simp only [ha, if_false]
theorem kx_p {S : xS} {b t : Nat} {gv gp w p l r ro cap du ra sh ow bo ma de : Nat → Int32} {tf ll kn lo pa av ca re ye ch : Int32} {g g2 : Nat → Int32} (h : ∀ k, k < 8 → g k = g2 k) : xw (kS S b t gv gp tf ll w p l r kn lo ro pa av ca re ye ch cap du ra sh ow bo ma de) 7 (xmp 0 g ((kS S b t gv gp tf ll w p l r kn lo ro pa av ca re ye ch cap du ra sh ow bo ma de).1 7)) = (kS S b t gv gp tf ll w g2 l r kn lo ro pa av ca re ye ch cap du ra sh ow bo ma de) := by
  refine Prod.ext (funext fun a => ?_) rfl
  by_cases ha : a = 7
  · rw [ha, xw_1, ka_7, ka_7, x8_mp, x8_cong h]
  · rw [xw_ne _ _ ha]
    unfold kS
    simp only [ha, if_false]
theorem kx_l {S : xS} {b t : Nat} {gv gp w p l r ro cap du ra sh ow bo ma de : Nat → Int32} {tf ll kn lo pa av ca re ye ch : Int32} {g g2 : Nat → Int32} (h : ∀ k, k < 8 → g k = g2 k) : xw (kS S b t gv gp tf ll w p l r kn lo ro pa av ca re ye ch cap du ra sh ow bo ma de) 8 (xmp 0 g ((kS S b t gv gp tf ll w p l r kn lo ro pa av ca re ye ch cap du ra sh ow bo ma de).1 8)) = (kS S b t gv gp tf ll w p g2 r kn lo ro pa av ca re ye ch cap du ra sh ow bo ma de) := by
  refine Prod.ext (funext fun a => ?_) rfl
  by_cases ha : a = 8
  · rw [ha, xw_1, ka_8, ka_8, x8_mp, x8_cong h]
  · rw [xw_ne _ _ ha]
    unfold kS
    simp only [ha, if_false]
theorem kx_r {S : xS} {b t : Nat} {gv gp w p l r ro cap du ra sh ow bo ma de : Nat → Int32} {tf ll kn lo pa av ca re ye ch : Int32} {g g2 : Nat → Int32} (h : ∀ k, k < 8 → g k = g2 k) : xw (kS S b t gv gp tf ll w p l r kn lo ro pa av ca re ye ch cap du ra sh ow bo ma de) 9 (xmp 0 g ((kS S b t gv gp tf ll w p l r kn lo ro pa av ca re ye ch cap du ra sh ow bo ma de).1 9)) = (kS S b t gv gp tf ll w p l g2 kn lo ro pa av ca re ye ch cap du ra sh ow bo ma de) := by
  refine Prod.ext (funext fun a => ?_) rfl
  by_cases ha : a = 9
  · rw [ha, xw_1, ka_9, ka_9, x8_mp, x8_cong h]
  · rw [xw_ne _ _ ha]
    unfold kS
    simp only [ha, if_false]
theorem kx_cap {S : xS} {b t : Nat} {gv gp w p l r ro cap du ra sh ow bo ma de : Nat → Int32} {tf ll kn lo pa av ca re ye ch : Int32} (o : xbt b t) {g g2 : Nat → Int32} (h : ∀ k, k < 8 → g k = g2 k) : xw (kS S b t gv gp tf ll w p l r kn lo ro pa av ca re ye ch cap du ra sh ow bo ma de) (b + 1) (xmp 0 g ((kS S b t gv gp tf ll w p l r kn lo ro pa av ca re ye ch cap du ra sh ow bo ma de).1 (b + 1))) = (kS S b t gv gp tf ll w p l r kn lo ro pa av ca re ye ch g2 du ra sh ow bo ma de) := by
  refine Prod.ext (funext fun a => ?_) rfl
  by_cases ha : a = (b + 1)
  · rw [ha, xw_1, ka_b1 o, ka_b1 o, x8_mp, x8_cong h]
  · rw [xw_ne _ _ ha]
    unfold kS
    simp only [ha, if_false]
theorem kx_du {S : xS} {b t : Nat} {gv gp w p l r ro cap du ra sh ow bo ma de : Nat → Int32} {tf ll kn lo pa av ca re ye ch : Int32} (o : xbt b t) {g g2 : Nat → Int32} (h : ∀ k, k < 8 → g k = g2 k) : xw (kS S b t gv gp tf ll w p l r kn lo ro pa av ca re ye ch cap du ra sh ow bo ma de) (b + 2) (xmp 0 g ((kS S b t gv gp tf ll w p l r kn lo ro pa av ca re ye ch cap du ra sh ow bo ma de).1 (b + 2))) = (kS S b t gv gp tf ll w p l r kn lo ro pa av ca re ye ch cap g2 ra sh ow bo ma de) := by
  refine Prod.ext (funext fun a => ?_) rfl
  by_cases ha : a = (b + 2)
  · rw [ha, xw_1, ka_b2 o, ka_b2 o, x8_mp, x8_cong h]
  · rw [xw_ne _ _ ha]
    unfold kS
    simp only [ha, if_false]
theorem kx_ra {S : xS} {b t : Nat} {gv gp w p l r ro cap du ra sh ow bo ma de : Nat → Int32} {tf ll kn lo pa av ca re ye ch : Int32} (o : xbt b t) {g g2 : Nat → Int32} (h : ∀ k, k < 8 → g k = g2 k) : xw (kS S b t gv gp tf ll w p l r kn lo ro pa av ca re ye ch cap du ra sh ow bo ma de) (b + 3) (xmp 0 g ((kS S b t gv gp tf ll w p l r kn lo ro pa av ca re ye ch cap du ra sh ow bo ma de).1 (b + 3))) = (kS S b t gv gp tf ll w p l r kn lo ro pa av ca re ye ch cap du g2 sh ow bo ma de) := by
  refine Prod.ext (funext fun a => ?_) rfl
  by_cases ha : a = (b + 3)
  · rw [ha, xw_1, ka_b3 o, ka_b3 o, x8_mp, x8_cong h]
  · rw [xw_ne _ _ ha]
    unfold kS
    simp only [ha, if_false]
theorem kx_sh {S : xS} {b t : Nat} {gv gp w p l r ro cap du ra sh ow bo ma de : Nat → Int32} {tf ll kn lo pa av ca re ye ch : Int32} (o : xbt b t) {g g2 : Nat → Int32} (h : ∀ k, k < 8 → g k = g2 k) : xw (kS S b t gv gp tf ll w p l r kn lo ro pa av ca re ye ch cap du ra sh ow bo ma de) (b + 4) (xmp 0 g ((kS S b t gv gp tf ll w p l r kn lo ro pa av ca re ye ch cap du ra sh ow bo ma de).1 (b + 4))) = (kS S b t gv gp tf ll w p l r kn lo ro pa av ca re ye ch cap du ra g2 ow bo ma de) := by
  refine Prod.ext (funext fun a => ?_) rfl
  by_cases ha : a = (b + 4)
  · rw [ha, xw_1, ka_b4 o, ka_b4 o, x8_mp, x8_cong h]
  · rw [xw_ne _ _ ha]
    unfold kS
    simp only [ha, if_false]
theorem kx_ow {S : xS} {b t : Nat} {gv gp w p l r ro cap du ra sh ow bo ma de : Nat → Int32} {tf ll kn lo pa av ca re ye ch : Int32} (o : xbt b t) {g g2 : Nat → Int32} (h : ∀ k, k < 8 → g k = g2 k) : xw (kS S b t gv gp tf ll w p l r kn lo ro pa av ca re ye ch cap du ra sh ow bo ma de) (b + 5) (xmp 0 g ((kS S b t gv gp tf ll w p l r kn lo ro pa av ca re ye ch cap du ra sh ow bo ma de).1 (b + 5))) = (kS S b t gv gp tf ll w p l r kn lo ro pa av ca re ye ch cap du ra sh g2 bo ma de) := by
  refine Prod.ext (funext fun a => ?_) rfl
  by_cases ha : a = (b + 5)
  · rw [ha, xw_1, ka_b5 o, ka_b5 o, x8_mp, x8_cong h]
  · rw [xw_ne _ _ ha]
    unfold kS
    simp only [ha, if_false]
theorem kx_bo {S : xS} {b t : Nat} {gv gp w p l r ro cap du ra sh ow bo ma de : Nat → Int32} {tf ll kn lo pa av ca re ye ch : Int32} (o : xbt b t) {g g2 : Nat → Int32} (h : ∀ k, k < 8 → g k = g2 k) : xw (kS S b t gv gp tf ll w p l r kn lo ro pa av ca re ye ch cap du ra sh ow bo ma de) (b + 6) (xmp 0 g ((kS S b t gv gp tf ll w p l r kn lo ro pa av ca re ye ch cap du ra sh ow bo ma de).1 (b + 6))) = (kS S b t gv gp tf ll w p l r kn lo ro pa av ca re ye ch cap du ra sh ow g2 ma de) := by
  refine Prod.ext (funext fun a => ?_) rfl
  by_cases ha : a = (b + 6)
  · rw [ha, xw_1, ka_b6 o, ka_b6 o, x8_mp, x8_cong h]
  · rw [xw_ne _ _ ha]
    unfold kS
    simp only [ha, if_false]
theorem kx_ma {S : xS} {b t : Nat} {gv gp w p l r ro cap du ra sh ow bo ma de : Nat → Int32} {tf ll kn lo pa av ca re ye ch : Int32} (o : xbt b t) {g g2 : Nat → Int32} (h : ∀ k, k < 8 → g k = g2 k) : xw (kS S b t gv gp tf ll w p l r kn lo ro pa av ca re ye ch cap du ra sh ow bo ma de) (b + 7) (xmp 0 g ((kS S b t gv gp tf ll w p l r kn lo ro pa av ca re ye ch cap du ra sh ow bo ma de).1 (b + 7))) = (kS S b t gv gp tf ll w p l r kn lo ro pa av ca re ye ch cap du ra sh ow bo g2 de) := by
  refine Prod.ext (funext fun a => ?_) rfl
  by_cases ha : a = (b + 7)
  · rw [ha, xw_1, ka_b7 o, ka_b7 o, x8_mp, x8_cong h]
  · rw [xw_ne _ _ ha]
    unfold kS
    simp only [ha, if_false]
theorem kx_de {S : xS} {b t : Nat} {gv gp w p l r ro cap du ra sh ow bo ma de : Nat → Int32} {tf ll kn lo pa av ca re ye ch : Int32} (o : xbt b t) {g g2 : Nat → Int32} (h : ∀ k, k < 8 → g k = g2 k) : xw (kS S b t gv gp tf ll w p l r kn lo ro pa av ca re ye ch cap du ra sh ow bo ma de) (b + 8) (xmp 0 g ((kS S b t gv gp tf ll w p l r kn lo ro pa av ca re ye ch cap du ra sh ow bo ma de).1 (b + 8))) = (kS S b t gv gp tf ll w p l r kn lo ro pa av ca re ye ch cap du ra sh ow bo ma g2) := by
  refine Prod.ext (funext fun a => ?_) rfl
  by_cases ha : a = (b + 8)
  · rw [ha, xw_1, ka_b8 o, ka_b8 o, x8_mp, x8_cong h]
  · rw [xw_ne _ _ ha]
    unfold kS
    simp only [ha, if_false]
theorem kc_gv {S : xS} {b t : Nat} {gv gp w p l r ro cap du ra sh ow bo ma de : Nat → Int32} {tf ll kn lo pa av ca re ye ch : Int32} {g : Nat → Int32} (h : ∀ k, k < 8 → gv k = g k) : (kS S b t gv gp tf ll w p l r kn lo ro pa av ca re ye ch cap du ra sh ow bo ma de) = (kS S b t g gp tf ll w p l r kn lo ro pa av ca re ye ch cap du ra sh ow bo ma de) := by
  unfold kS
  rw [x8_cong h]
theorem kc_gp {S : xS} {b t : Nat} {gv gp w p l r ro cap du ra sh ow bo ma de : Nat → Int32} {tf ll kn lo pa av ca re ye ch : Int32} {g : Nat → Int32} (h : ∀ k, k < 8 → gp k = g k) : (kS S b t gv gp tf ll w p l r kn lo ro pa av ca re ye ch cap du ra sh ow bo ma de) = (kS S b t gv g tf ll w p l r kn lo ro pa av ca re ye ch cap du ra sh ow bo ma de) := by
  unfold kS
  rw [x8_cong h]
theorem kc_w {S : xS} {b t : Nat} {gv gp w p l r ro cap du ra sh ow bo ma de : Nat → Int32} {tf ll kn lo pa av ca re ye ch : Int32} {g : Nat → Int32} (h : ∀ k, k < 8 → w k = g k) : (kS S b t gv gp tf ll w p l r kn lo ro pa av ca re ye ch cap du ra sh ow bo ma de) = (kS S b t gv gp tf ll g p l r kn lo ro pa av ca re ye ch cap du ra sh ow bo ma de) := by
  unfold kS
  rw [x8_cong h]
theorem kc_p {S : xS} {b t : Nat} {gv gp w p l r ro cap du ra sh ow bo ma de : Nat → Int32} {tf ll kn lo pa av ca re ye ch : Int32} {g : Nat → Int32} (h : ∀ k, k < 8 → p k = g k) : (kS S b t gv gp tf ll w p l r kn lo ro pa av ca re ye ch cap du ra sh ow bo ma de) = (kS S b t gv gp tf ll w g l r kn lo ro pa av ca re ye ch cap du ra sh ow bo ma de) := by
  unfold kS
  rw [x8_cong h]
theorem kc_l {S : xS} {b t : Nat} {gv gp w p l r ro cap du ra sh ow bo ma de : Nat → Int32} {tf ll kn lo pa av ca re ye ch : Int32} {g : Nat → Int32} (h : ∀ k, k < 8 → l k = g k) : (kS S b t gv gp tf ll w p l r kn lo ro pa av ca re ye ch cap du ra sh ow bo ma de) = (kS S b t gv gp tf ll w p g r kn lo ro pa av ca re ye ch cap du ra sh ow bo ma de) := by
  unfold kS
  rw [x8_cong h]
theorem kc_r {S : xS} {b t : Nat} {gv gp w p l r ro cap du ra sh ow bo ma de : Nat → Int32} {tf ll kn lo pa av ca re ye ch : Int32} {g : Nat → Int32} (h : ∀ k, k < 8 → r k = g k) : (kS S b t gv gp tf ll w p l r kn lo ro pa av ca re ye ch cap du ra sh ow bo ma de) = (kS S b t gv gp tf ll w p l g kn lo ro pa av ca re ye ch cap du ra sh ow bo ma de) := by
  unfold kS
  rw [x8_cong h]
theorem kc_cap {S : xS} {b t : Nat} {gv gp w p l r ro cap du ra sh ow bo ma de : Nat → Int32} {tf ll kn lo pa av ca re ye ch : Int32} {g : Nat → Int32} (h : ∀ k, k < 8 → cap k = g k) : (kS S b t gv gp tf ll w p l r kn lo ro pa av ca re ye ch cap du ra sh ow bo ma de) = (kS S b t gv gp tf ll w p l r kn lo ro pa av ca re ye ch g du ra sh ow bo ma de) := by
  unfold kS
  rw [x8_cong h]
theorem kc_du {S : xS} {b t : Nat} {gv gp w p l r ro cap du ra sh ow bo ma de : Nat → Int32} {tf ll kn lo pa av ca re ye ch : Int32} {g : Nat → Int32} (h : ∀ k, k < 8 → du k = g k) : (kS S b t gv gp tf ll w p l r kn lo ro pa av ca re ye ch cap du ra sh ow bo ma de) = (kS S b t gv gp tf ll w p l r kn lo ro pa av ca re ye ch cap g ra sh ow bo ma de) := by
  unfold kS
  rw [x8_cong h]
theorem kc_ra {S : xS} {b t : Nat} {gv gp w p l r ro cap du ra sh ow bo ma de : Nat → Int32} {tf ll kn lo pa av ca re ye ch : Int32} {g : Nat → Int32} (h : ∀ k, k < 8 → ra k = g k) : (kS S b t gv gp tf ll w p l r kn lo ro pa av ca re ye ch cap du ra sh ow bo ma de) = (kS S b t gv gp tf ll w p l r kn lo ro pa av ca re ye ch cap du g sh ow bo ma de) := by
  unfold kS
  rw [x8_cong h]
theorem kc_sh {S : xS} {b t : Nat} {gv gp w p l r ro cap du ra sh ow bo ma de : Nat → Int32} {tf ll kn lo pa av ca re ye ch : Int32} {g : Nat → Int32} (h : ∀ k, k < 8 → sh k = g k) : (kS S b t gv gp tf ll w p l r kn lo ro pa av ca re ye ch cap du ra sh ow bo ma de) = (kS S b t gv gp tf ll w p l r kn lo ro pa av ca re ye ch cap du ra g ow bo ma de) := by
  unfold kS
  rw [x8_cong h]
theorem kc_ow {S : xS} {b t : Nat} {gv gp w p l r ro cap du ra sh ow bo ma de : Nat → Int32} {tf ll kn lo pa av ca re ye ch : Int32} {g : Nat → Int32} (h : ∀ k, k < 8 → ow k = g k) : (kS S b t gv gp tf ll w p l r kn lo ro pa av ca re ye ch cap du ra sh ow bo ma de) = (kS S b t gv gp tf ll w p l r kn lo ro pa av ca re ye ch cap du ra sh g bo ma de) := by
  unfold kS
  rw [x8_cong h]
theorem kc_bo {S : xS} {b t : Nat} {gv gp w p l r ro cap du ra sh ow bo ma de : Nat → Int32} {tf ll kn lo pa av ca re ye ch : Int32} {g : Nat → Int32} (h : ∀ k, k < 8 → bo k = g k) : (kS S b t gv gp tf ll w p l r kn lo ro pa av ca re ye ch cap du ra sh ow bo ma de) = (kS S b t gv gp tf ll w p l r kn lo ro pa av ca re ye ch cap du ra sh ow g ma de) := by
  unfold kS
  rw [x8_cong h]
theorem kc_ma {S : xS} {b t : Nat} {gv gp w p l r ro cap du ra sh ow bo ma de : Nat → Int32} {tf ll kn lo pa av ca re ye ch : Int32} {g : Nat → Int32} (h : ∀ k, k < 8 → ma k = g k) : (kS S b t gv gp tf ll w p l r kn lo ro pa av ca re ye ch cap du ra sh ow bo ma de) = (kS S b t gv gp tf ll w p l r kn lo ro pa av ca re ye ch cap du ra sh ow bo g de) := by
  unfold kS
  rw [x8_cong h]
theorem kc_de {S : xS} {b t : Nat} {gv gp w p l r ro cap du ra sh ow bo ma de : Nat → Int32} {tf ll kn lo pa av ca re ye ch : Int32} {g : Nat → Int32} (h : ∀ k, k < 8 → de k = g k) : (kS S b t gv gp tf ll w p l r kn lo ro pa av ca re ye ch cap du ra sh ow bo ma de) = (kS S b t gv gp tf ll w p l r kn lo ro pa av ca re ye ch cap du ra sh ow bo ma g) := by
  unfold kS
  rw [x8_cong h]
theorem kc_ro {S : xS} {b t : Nat} {gv gp w p l r ro cap du ra sh ow bo ma de : Nat → Int32} {tf ll kn lo pa av ca re ye ch : Int32} {g : Nat → Int32} (h : ∀ k, k < 56 → ro k = g k) : (kS S b t gv gp tf ll w p l r kn lo ro pa av ca re ye ch cap du ra sh ow bo ma de) = (kS S b t gv gp tf ll w p l r kn lo g pa av ca re ye ch cap du ra sh ow bo ma de) := by
  unfold kS
  rw [x56_cong h]
theorem x2_self (f : Nat → Int32) : x2 (f 2) (f 3) f = f := by
  funext k; unfold x2
  by_cases h2 : k = 2
  · subst h2; rfl
  · by_cases h3 : k = 3
    · subst h3; rfl
    · rw [if_neg h2, if_neg h3]
theorem x01_self (f : Nat → Int32) : x01 (f 0) (f 1) f = f := by
  funext k; unfold x01
  by_cases h2 : k = 0
  · subst h2; rfl
  · by_cases h3 : k = 1
    · subst h3; rfl
    · rw [if_neg h2, if_neg h3]
theorem x06_self (f : Nat → Int32) : x06 (f 0) (f 1) (f 2) (f 3) (f 4) (f 5) f = f := by
  funext k; unfold x06
  repeat (split; (next h => subst h; rfl))
  rfl
theorem xite {α : Type} {F : Nat → α} {a c : Nat} {X : α} (h : X = F a) : (if a = c then F c else X) = F a := by
  by_cases q : a = c
  · rw [if_pos q, q]
  · rw [if_neg q, h]
theorem kS_self (S : xS) (b t : Nat) : kS S b t (S.1 4) (S.1 5) (S.1 3 2) (S.1 3 3) (S.1 6) (S.1 7) (S.1 8) (S.1 9) (S.1 t 0) (S.1 t 1) (S.1 (t + 1)) (S.1 b 0) (S.1 b 1) (S.1 b 2) (S.1 b 3) (S.1 b 4) (S.1 b 5) (S.1 (b + 1)) (S.1 (b + 2)) (S.1 (b + 3)) (S.1 (b + 4)) (S.1 (b + 5)) (S.1 (b + 6)) (S.1 (b + 7)) (S.1 (b + 8)) = S := by
  refine Prod.ext (funext fun a => ?_) rfl
  show (if a = 3 then _ else _) = S.1 a
  rw [x2_self, x01_self, x06_self]
  simp only [x8_self, x56_self]
  repeat (refine xite (F := S.1) ?_)
  rfl
