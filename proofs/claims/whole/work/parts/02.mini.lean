/-! The mini heap. Ints, longs and references by (address, place); kinds, lengths, next address. A mini address a is the machine's address z + a. -/
def xW : List Cond := lw_tbl.filter goodWord
theorem xW_good {w : Cond} (h : w ∈ xW) : goodWord w = true := (List.mem_filter.mp h).2
theorem xW_of {w : Cond} (h : w ∈ lw_tbl) (g : goodWord w = true) : w ∈ xW := List.mem_filter.mpr ⟨h, g⟩
abbrev xS : Type := (Nat → Nat → Int32) × (Nat → Nat → Int64) × (Nat → Nat → Option Nat)
abbrev xT : Type := (Nat → Nat) × (Nat → Nat) × Nat
def xput {α : Type} (F : Nat → Nat → α) (a k : Nat) (v : α) : Nat → Nat → α := va_up F a (va_up (F a) k v)
def xI (S : xS) (a k : Nat) (v : Int32) : xS := (xput S.1 a k v, S.2.1, S.2.2)
def xJ (S : xS) (a k : Nat) (v : Int64) : xS := (S.1, xput S.2.1 a k v, S.2.2)
def xR (S : xS) (a k : Nat) (v : Option Nat) : xS := (S.1, S.2.1, xput S.2.2 a k v)
theorem xput_ne {α : Type} (F : Nat → Nat → α) {a b : Nat} (k : Nat) (v : α) (h : b ≠ a) : xput F a k v b = F b := va_up_ne _ _ h
theorem xput_eq {α : Type} (F : Nat → Nat → α) (a k : Nat) (v : α) : xput F a k v a = va_up (F a) k v := va_up_self _ _ _
def xv (z : Nat) (i : Nat → Int32) (j : Nat → Int64) (r : Nat → Option Nat) (k kd : Nat) : Value := match kd with
  | 0 => .int (i k)
  | 1 => .long (j k)
  | _ => va_rf ((r k).map (fun q => z + q))
def xfs (z : Nat) (i : Nat → Int32) (j : Nat → Int64) (r : Nat → Option Nat) : List Nat → Nat → List Value
  | [], _ => []
  | kd :: t, k => xv z i j r k kd :: xfs z i j r t (k + 1)
theorem xfs_get (z : Nat) (i : Nat → Int32) (j : Nat → Int64) (r : Nat → Option Nat) : ∀ (ks : List Nat) (k0 k : Nat), (xfs z i j r ks k0)[k]? = (ks[k]?).map (fun kd => xv z i j r (k0 + k) kd)
  | [], k0, k => by simp [xfs]
  | kd :: t, k0, 0 => by simp [xfs]
  | kd :: t, k0, k + 1 => by
    simp only [xfs, List.getElem?_cons_succ]
    rw [xfs_get z i j r t (k0 + 1) k, show k0 + 1 + k = k0 + (k + 1) by omega]
theorem xfs_len (z : Nat) (i : Nat → Int32) (j : Nat → Int64) (r : Nat → Option Nat) : ∀ (ks : List Nat) (k0 : Nat), (xfs z i j r ks k0).length = ks.length
  | [], k0 => rfl
  | kd :: t, k0 => by simp only [xfs, List.length_cons]; rw [xfs_len z i j r t (k0 + 1)]
theorem xfs_setI (z : Nat) (i : Nat → Int32) (j : Nat → Int64) (r : Nat → Option Nat) (ks : List Nat) (k : Nat) (v : Int32) (h : ks[k]? = some 0) : (xfs z i j r ks 0).set k (.int v) = xfs z (va_up i k v) j r ks 0 := by
  apply List.ext_getElem?
  intro m
  rw [List.getElem?_set, xfs_get, xfs_get, xfs_len]
  have hl : k < ks.length := (List.getElem?_eq_some_iff.mp h).1
  by_cases hm : k = m
  · subst hm
    rw [if_pos rfl, if_pos hl, h]
    simp [xv, va_up]
  · rw [if_neg hm]
    cases hk : ks[m]? with
    | none => rfl
    | some kd =>
      have hm' : ¬ m = k := fun q => hm q.symm
      rcases kd with _ | _ | kd <;> simp [xv, va_up, hm']
theorem xfs_setJ (z : Nat) (i : Nat → Int32) (j : Nat → Int64) (r : Nat → Option Nat) (ks : List Nat) (k : Nat) (v : Int64) (h : ks[k]? = some 1) : (xfs z i j r ks 0).set k (.long v) = xfs z i (va_up j k v) r ks 0 := by
  apply List.ext_getElem?
  intro m
  rw [List.getElem?_set, xfs_get, xfs_get, xfs_len]
  have hl : k < ks.length := (List.getElem?_eq_some_iff.mp h).1
  by_cases hm : k = m
  · subst hm
    rw [if_pos rfl, if_pos hl, h]
    simp [xv, va_up]
  · rw [if_neg hm]
    cases hk : ks[m]? with
    | none => rfl
    | some kd =>
      have hm' : ¬ m = k := fun q => hm q.symm
      rcases kd with _ | _ | kd <;> simp [xv, va_up, hm']
theorem xfs_setR (z : Nat) (i : Nat → Int32) (j : Nat → Int64) (r : Nat → Option Nat) (ks : List Nat) (k : Nat) (v : Option Nat) (h : ks[k]? = some 2) : (xfs z i j r ks 0).set k (va_rf (v.map (fun q => z + q))) = xfs z i j (va_up r k v) ks 0 := by
  apply List.ext_getElem?
  intro m
  rw [List.getElem?_set, xfs_get, xfs_get, xfs_len]
  have hl : k < ks.length := (List.getElem?_eq_some_iff.mp h).1
  by_cases hm : k = m
  · subst hm
    rw [if_pos rfl, if_pos hl, h]
    simp [xv, va_up]
  · rw [if_neg hm]
    cases hk : ks[m]? with
    | none => rfl
    | some kd =>
      have hm' : ¬ m = k := fun q => hm q.symm
      rcases kd with _ | _ | kd <;> simp [xv, va_up, hm']
/-- the places of a class's fields: 0 an int, 1 a long, 2 a reference -/
def xlay (c : Nat) : List Nat := match c with
  | 0 => [0, 0, 2, 2, 2, 2]
  | 1 => [0, 0, 0, 0, 0, 0, 2, 2, 2, 2, 2, 2, 2, 2]
  | 2 => [2, 2, 0, 0, 2, 2, 2, 2]
  | 3 => [2, 0, 0, 0, 0, 0, 0, 0]
  | 4 => [0, 0, 2, 2, 2, 2, 2, 2, 2, 2, 2]
  | 5 => [2, 2, 2, 2]
  | 6 => [0, 2]
  | 7 => [0, 0, 2]
  | 8 => [0, 2, 2]
  | 9 => [2, 2, 2, 2, 2, 2, 0, 0, 2, 2, 2, 0]
  | 10 => [2, 0, 0, 2, 2, 0, 0, 0, 0, 0, 1, 0, 0, 2, 0, 2, 2, 2, 2, 2, 2, 2, 0, 0, 0, 2, 0, 2, 2, 0, 0, 0, 2, 0]
  | _ => []
def xC (z : Nat) (dA : Nat → ClassId) (K N : Nat) (i : Nat → Int32) (j : Nat → Int64) (r : Nat → Option Nat) : va_E :=
  if K < 20 then .inr (K, xfs z i j r (xlay K) 0) else if K = 21 then .inl (dA 1, N, .inr (.inl j)) else if K = 25 then .inl (dA 5, N, .inr (.inr (.inr (.inr (fun q => (r q).map (fun y => z + y)))))) else .inl (dA (K - 20), N, .inl i)
def xtys (dA : Nat → ClassId) : List (ClassId × FieldType) := [(dA 0, .int), (dA 1, .long), (dA 2, .byte), (dA 3, .boolean), (dA 4, .char), (dA 5, .object "PartnerBooks$State")]
def xRel (z : Nat) (D : va_G) (dA : Nat → ClassId) (T : xT) (S : xS) (H : Heap) : Prop := (H.size = z + T.2.2 ∧ z = dA 99) ∧ ∀ a, a < T.2.2 → va_at D vwCl (z + a, xC z dA (T.1 a) (T.2.1 a) (S.1 a) (S.2.1 a) (S.2.2 a)) H
def xlk (T : xT) (a kd : Nat) : Bool := decide (a < T.2.2) && decide (T.1 a = kd)
theorem xlk_lt {T : xT} {a kd : Nat} (h : xlk T a kd = true) : a < T.2.2 := of_decide_eq_true (Bool.and_eq_true_iff.mp h).1
theorem xlk_k {T : xT} {a kd : Nat} (h : xlk T a kd = true) : T.1 a = kd := of_decide_eq_true (Bool.and_eq_true_iff.mp h).2
def xld (T : xT) (S : xS) (a k kd : Nat) : Option Nat := (S.2.2 a k).bind (fun j => if xlk T j kd then some j else none)
theorem xld_of {T : xT} {S : xS} {a k kd j : Nat} (h : xld T S a k kd = some j) : S.2.2 a k = some j ∧ xlk T j kd = true := by
  unfold xld at h
  cases hr : S.2.2 a k with
  | none => rw [hr] at h; cases h
  | some q =>
    rw [hr] at h
    simp only [Option.bind_some] at h
    by_cases hq : xlk T q kd = true
    · rw [if_pos hq] at h
      cases h
      exact ⟨rfl, hq⟩
    · rw [if_neg hq] at h
      cases h
def xin (i : Int32) (n : Nat) : Bool := !(decide (i < 0)) && decide (i.toNatClampNeg < n)
theorem xin_vp {i : Int32} {n : Nat} (h : xin i n = true) : vp_in i n := by
  unfold xin at h
  simp only [Bool.and_eq_true, Bool.not_eq_true', decide_eq_false_iff_not, decide_eq_true_eq] at h
  intro q
  rcases q with q | q
  · exact h.1 q
  · omega
theorem xRel.put {z : Nat} {D : va_G} {dA : Nat → ClassId} {T : xT} {S S' : xS} {H H' : Heap} {a : Nat} (h : xRel z D dA T S H) (hs : H'.size = H.size) (ho : ∀ q : Nat, q ≠ z + a → H'[q]? = H[q]?)
    (h1 : ∀ b, b ≠ a → S'.1 b = S.1 b) (h2 : ∀ b, b ≠ a → S'.2.1 b = S.2.1 b) (h3 : ∀ b, b ≠ a → S'.2.2 b = S.2.2 b) (hc : va_at D vwCl (z + a, xC z dA (T.1 a) (T.2.1 a) (S'.1 a) (S'.2.1 a) (S'.2.2 a)) H') : xRel z D dA T S' H' := by
  refine ⟨⟨hs.trans h.1.1, h.1.2⟩, fun b hb => ?_⟩
  by_cases hba : b = a
  · subst hba
    exact hc
  · rw [h1 b hba, h2 b hba, h3 b hba]
    exact (h.2 b hb).kept (ho _ (fun q => hba (by omega)))
theorem xRel.obj {z : Nat} {D : va_G} {dA : Nat → ClassId} {T : xT} {S : xS} {H : Heap} {a ci : Nat} (h : xRel z D dA T S H) (hk : xlk T a ci = true) (hci : ci < 20) : va_at D vwCl (z + a, .inr (ci, xfs z (S.1 a) (S.2.1 a) (S.2.2 a) (xlay ci) 0)) H := by
  have h1 := h.2 a (xlk_lt hk)
  rw [xlk_k hk] at h1
  unfold xC at h1
  rw [if_pos hci] at h1
  exact h1
theorem xRel.arrI {z : Nat} {D : va_G} {dA : Nat → ClassId} {T : xT} {S : xS} {H : Heap} {a kd : Nat} (h : xRel z D dA T S H) (hk : xlk T a kd = true) (h0 : ¬ kd < 20) (h1 : ¬ kd = 21) (h2 : ¬ kd = 25) : va_at D vwCl (z + a, .inl (dA (kd - 20), T.2.1 a, .inl (S.1 a))) H := by
  have q1 := h.2 a (xlk_lt hk)
  rw [xlk_k hk] at q1
  unfold xC at q1
  rw [if_neg h0, if_neg h1, if_neg h2] at q1
  exact q1
theorem xRel.arrJ {z : Nat} {D : va_G} {dA : Nat → ClassId} {T : xT} {S : xS} {H : Heap} {a : Nat} (h : xRel z D dA T S H) (hk : xlk T a 21 = true) : va_at D vwCl (z + a, .inl (dA 1, T.2.1 a, .inr (.inl (S.2.1 a)))) H := by
  have q1 := h.2 a (xlk_lt hk)
  rw [xlk_k hk] at q1
  exact q1
theorem xRel.arrR {z : Nat} {D : va_G} {dA : Nat → ClassId} {T : xT} {S : xS} {H : Heap} {a : Nat} (h : xRel z D dA T S H) (hk : xlk T a 25 = true) : va_at D vwCl (z + a, .inl (dA 5, T.2.1 a, .inr (.inr (.inr (.inr (fun q => (S.2.2 a q).map (fun y => z + y))))))) H := by
  have q1 := h.2 a (xlk_lt hk)
  rw [xlk_k hk] at q1
  exact q1
theorem xOne {D : va_G} {cl : List vw_C} {q : Nat × va_E} {H : Heap} (h : va_at D cl q H) : va_P D cl [q] H := by
  intro k x hk
  have hz : k < 1 := (List.getElem?_eq_some_iff.mp hk).1
  rw [show k = 0 by omega] at hk
  cases hk
  exact h
/-- private members of nest mates: links that are carried along -/
def xnl : List (String × Nat × MethodName × String) := [
  ("PartnerBooks", 9, ⟨"PartnerBooks$Reader", "<init>", "()V"⟩, "PartnerBooks"),
  ("PartnerBooks", 18, ⟨"PartnerBooks$Desk", "<init>", "()V"⟩, "PartnerBooks"),
  ("PartnerBooks", 25, ⟨"PartnerBooks$Batch", "<init>", "()V"⟩, "PartnerBooks"),
  ("PartnerBooks", 32, ⟨"PartnerBooks$Statement", "<init>", "()V"⟩, "PartnerBooks"),
  ("PartnerBooks", 44, ⟨"PartnerBooks$Specials", "<init>", "()V"⟩, "PartnerBooks"),
  ("PartnerBooks$State", 9, ⟨"PartnerBooks$Books", "<init>", "()V"⟩, "PartnerBooks"),
  ("PartnerBooks$State", 18, ⟨"PartnerBooks$Steps", "<init>", "()V"⟩, "PartnerBooks"),
  ("PartnerBooks", 69, ⟨"PartnerBooks$Books", "<init>", "()V"⟩, "PartnerBooks"),
  ("PartnerBooks", 76, ⟨"PartnerBooks$Steps", "<init>", "()V"⟩, "PartnerBooks"),
  ("PartnerBooks$Books", 55, ⟨"PartnerBooks", "copyEight", "([I[I)V"⟩, "PartnerBooks"),
  ("PartnerBooks$Desk", 75, ⟨"PartnerBooks", "addAll", "([I[I)V"⟩, "PartnerBooks"),
  ("PartnerBooks$Desk", 82, ⟨"PartnerBooks", "takeAll", "([I[I)V"⟩, "PartnerBooks"),
  ("PartnerBooks$Desk", 88, ⟨"PartnerBooks", "total", "([I)I"⟩, "PartnerBooks"),
  ("PartnerBooks$Desk", 174, ⟨"PartnerBooks", "copyEight", "([I[I)V"⟩, "PartnerBooks"),
  ("PartnerBooks$Books", 59, ⟨"PartnerBooks", "total", "([I)I"⟩, "PartnerBooks")]
/-- the String constants: owner, place in its pool, text, number; their addresses are dA (100 + number), their bytes' dA (200 + number) -/
def xsl : List (String × Nat × String × Nat) := [
  ("PartnerBooks$Tiers", 37, "first", 0),
  ("PartnerBooks$Tiers", 63, "to", 1),
  ("PartnerBooks$Tiers", 55, "rest", 2),
  ("PartnerBooks$Specials", 91, "give", 3),
  ("PartnerBooks$Specials", 152, "result", 4),
  ("PartnerBooks$Specials", 153, "cash", 5),
  ("PartnerBooks$Specials", 154, "held", 6),
  ("PartnerBooks$Specials", 155, "year", 7),
  ("PartnerBooks$Specials", 156, "net", 8),
  ("PartnerBooks$Specials", 157, "capital", 9),
  ("PartnerBooks$Specials", 158, "share", 10),
  ("PartnerBooks$Specials", 121, "when", 11),
  ("PartnerBooks$Batch", 79, "close", 12),
  ("PartnerBooks$Batch", 85, "earn", 13),
  ("PartnerBooks$Batch", 87, "lose", 14),
  ("PartnerBooks$Batch", 89, "borrow", 15),
  ("PartnerBooks$Batch", 91, "repay", 16),
  ("PartnerBooks$Batch", 93, "market", 17),
  ("PartnerBooks$Batch", 95, "pay", 18),
  ("PartnerBooks$Batch", 97, "draw", 19),
  ("PartnerBooks$Batch", 99, "come", 20),
  ("PartnerBooks$Batch", 101, "go", 21)]
def xlen : List Nat := [5, 2, 4, 4, 6, 4, 4, 4, 3, 7, 5, 4, 5, 4, 4, 6, 5, 6, 3, 4, 4, 2]
def xbyt : List (List Int32) := [[102, 105, 114, 115, 116], [116, 111], [114, 101, 115, 116], [103, 105, 118, 101], [114, 101, 115, 117, 108, 116], [99, 97, 115, 104], [104, 101, 108, 100], [121, 101, 97, 114], [110, 101, 116], [99, 97, 112, 105, 116, 97, 108], [115, 104, 97, 114, 101], [119, 104, 101, 110], [99, 108, 111, 115, 101], [101, 97, 114, 110], [108, 111, 115, 101], [98, 111, 114, 114, 111, 119], [114, 101, 112, 97, 121], [109, 97, 114, 107, 101, 116], [112, 97, 121], [100, 114, 97, 119], [99, 111, 109, 101], [103, 111]]
abbrev xA9 (dA : Nat → ClassId) : Nat → Prop := fun q => dA 99 ≤ q
def xNest (dA : Nat → ClassId) (U : State) : Prop := (∀ q ∈ xnl, va_Nw (.methodLinkNest q.1 q.2.1 q.2.2.1 q.2.2.2) U) ∧ (∀ q ∈ xsl, vk_R q.1 q.2.1 q.2.2.1 (dA (100 + q.2.2.2)) U) ∧ vk_S 22 xlen xbyt (fun i => dA (100 + i)) (fun i => dA (200 + i)) (xA9 dA) U U.heap ∧ va_Z "java/lang/String" "COMPACT_STRINGS" "Z" (.int 1) (xA9 dA) U U.heap ∧ va_Zq "jdk/internal/util/Preconditions" "SIOOBE_FORMATTER" "Ljava/util/function/BiFunction;" (xA9 dA) U U.heap ∧ va_AO "PartnerBooks$State" U
theorem xNest.warm {dA : Nat → ClassId} {s U : State} {locs : List Loc} (hW : s.WarmedH U.vm) (hS : va_S (xA9 dA) s.heap U.heap locs) (h : xNest dA s) : xNest dA U := by
  obtain ⟨h1, h2, h3, h4, h5, h6⟩ := h
  exact ⟨fun q hq => va_Nw.warmM hW (h1 q hq), fun q hq => vk_R.warm hW (h2 q hq), vk_S.moved hW.alike (h3.kept hS.2.1), va_Z.moved hW.alike (h4.kept hS.2.1), va_Zq.moved hW.alike (h5.kept hS.2.1), va_AO.moved hW.alike h6⟩
theorem xNest.same {dA : Nat → ClassId} {s U : State} (hv : s.vm = U.vm) (hh : s.heap = U.heap) (h : xNest dA s) : xNest dA U := by
  obtain ⟨h1, h2, h3, h4, h5, h6⟩ := h
  have ha : s.vm.Alike U.vm := hv ▸ Vm.Alike.refl s.vm
  exact ⟨fun q hq => va_Nw.same rfl hv (h1 q hq), fun q hq => vk_R.same hv.symm (h2 q hq), hh ▸ vk_S.moved ha h3, hh ▸ va_Z.moved ha h4, hh ▸ va_Zq.moved ha h5, va_AO.moved ha h6⟩
/-- what every walk stands on -/
def xX (p : Program) (s : State) (m : MethodId) (args : Array Value) (c : Code) (cc : ByteArray) (own : String) (D : va_G) (dA : Nat → ClassId) : Prop :=
  p.tables.exec = Jvm.exec ∧ c.code = cc ∧ s.vm.findClass own = some m.cls ∧ (∀ w ∈ xW, w.before args s = true) ∧ va_K D vwCl (xtys dA) s ∧ xNest dA s
/-- a class, by its tables -/
def xCl (ci : Nat) (C : String) (T : u_T) (N : Nat) (ty : Nat → FieldType) : Prop := vwCl[ci]? = some (C, T, N) ∧ (∀ w ∈ u_ws C T N, w ∈ xW) ∧ (∀ k, k < N → parseFieldDescriptor (T k).2.2.1 = some (ty k)) ∧ (∀ a, a < N → ∀ b, b < N → a ≠ b → (T a).2.1 ≠ (T b).2.1) ∧ ci < 20
/-- a field's link: class ci, place k, of the sort kd -/
def xFl (own : String) (index ci k kd : Nat) : Prop := ∃ (C : String) (T : u_T) (N : Nat) (ty : Nat → FieldType), xCl ci C T N ty ∧ k < N ∧ Cond.fieldLink own index (T k).1 (T k).2.1 (T k).2.2.1 ∈ xW ∧ (xlay ci)[k]? = some kd
/-- the same, for a field that may be written anywhere, of the type t -/
def xFp (own : String) (index ci k kd : Nat) (t : FieldType) : Prop := ∃ (C : String) (T : u_T) (N : Nat) (ty : Nat → FieldType), xCl ci C T N ty ∧ k < N ∧ Cond.fieldLink own index (T k).1 (T k).2.1 (T k).2.2.1 ∈ xW ∧ (xlay ci)[k]? = some kd ∧ (T k).2.2.2 = false ∧ parseFieldDescriptor (T k).2.2.1 = some t
/-- the same, for a final field, in a constructor -/
def xFf (own : String) (index ci k kd : Nat) (t : FieldType) : Prop := ∃ (C : String) (T : u_T) (N : Nat) (ty : Nat → FieldType), xCl ci C T N ty ∧ k < N ∧ Cond.fieldLink own index (T k).1 (T k).2.1 (T k).2.2.1 ∈ xW ∧ (xlay ci)[k]? = some kd ∧ (T k).2.2.2 = true ∧ (T k).1 = own ∧ parseFieldDescriptor (T k).2.2.1 = some t
