/-! making objects and arrays -/
def xTn (T : xT) (kd len : Nat) : xT := (va_up T.1 T.2.2 kd, va_up T.2.1 T.2.2 len, T.2.2 + 1)
def xSn (S : xS) (a : Nat) : xS := (va_up S.1 a (fun _ => 0), va_up S.2.1 a (fun _ => 0), va_up S.2.2 a (fun _ => none))
def xnw {α : Type} (T : xT) (S : xS) (kd len : Nat) (K : Nat → xT → xS → Option α) : Option α := K T.2.2 (xTn T kd len) (xSn S T.2.2)
def xsr {α : Type} (T : xT) (S : xS) (a : Nat) (i : Int32) (j : Nat) (K : xS → Option α) : Option α := if xin i (T.2.1 a) = true then K (xR S a i.toNatClampNeg (some j)) else none
def xcT {α : Type} (fc : Option (xT × xS)) (K : xT → xS → Option α) : Option α := fc.bind (fun q => K q.1 q.2)
def xdv (kd : Nat) : Value := match kd with
  | 0 => .int 0
  | 1 => .long 0
  | _ => .null
theorem xTn_lk {T : xT} (kd len : Nat) : xlk (xTn T kd len) T.2.2 kd = true := by
  unfold xlk xTn
  simp [va_up]
theorem xRel.new {z : Nat} {D : va_G} {dA : Nat → ClassId} {T : xT} {S : xS} {H H' : Heap} {kd len : Nat} (hR : xRel z D dA T S H) (hsz : H'.size = z + T.2.2 + 1) (ho : ∀ q : Nat, q < z + T.2.2 → H'[q]? = H[q]?) (hc : va_at D vwCl (z + T.2.2, xC z dA kd len (fun _ => 0) (fun _ => 0) (fun _ => none)) H') : xRel z D dA (xTn T kd len) (xSn S T.2.2) H' := by
  refine ⟨⟨by rw [hsz]; show _ = z + (T.2.2 + 1); omega, hR.1.2⟩, fun b hb => ?_⟩
  have hb' : b < T.2.2 + 1 := hb
  by_cases h : b = T.2.2
  · subst h
    show va_at D vwCl (z + T.2.2, xC z dA (va_up T.1 T.2.2 kd T.2.2) (va_up T.2.1 T.2.2 len T.2.2) (va_up S.1 T.2.2 _ T.2.2) (va_up S.2.1 T.2.2 _ T.2.2) (va_up S.2.2 T.2.2 _ T.2.2)) H'
    rw [va_up_self, va_up_self, va_up_self, va_up_self, va_up_self]
    exact hc
  · show va_at D vwCl (z + b, xC z dA (va_up T.1 T.2.2 kd b) (va_up T.2.1 T.2.2 len b) (va_up S.1 T.2.2 _ b) (va_up S.2.1 T.2.2 _ b) (va_up S.2.2 T.2.2 _ b)) H'
    rw [va_up_ne _ _ h, va_up_ne _ _ h, va_up_ne _ _ h, va_up_ne _ _ h, va_up_ne _ _ h]
    exact (hR.2 b (by omega)).kept (ho _ (by show z + b < _; omega))
/-- what the tables say of a new -/
def xNw (own : String) (index ci N : Nat) : Prop := ∃ (C : String) (T : u_T) (ty : Nat → FieldType), xCl ci C T N ty ∧ Cond.classLink own index C ∈ xW ∧ Cond.instantiable C N ∈ xW ∧ Cond.initialized C ∈ xW ∧ ∀ k, k < N → ((xlay ci)[k]?).map xdv = some (defaultValue (ty k))
def xCI (own : String) (index : Nat) (y : MethodName) (bytes : ByteArray) (maxL n : Nat) : Prop :=
  (Cond.methodLink own index y ∈ xW ∧ Cond.instanceMethod y ∈ xW ∧ Cond.initialized y.cls ∈ xW ∧ Cond.code y bytes maxL none ∈ xW) ∧ y.name = "<init>" ∧ y.cls ≠ "java/lang/invoke/MethodHandle" ∧ y.cls ≠ "java/lang/invoke/VarHandle" ∧ (parseMethodDescriptor y.desc).map (fun d => d.parameters.length) = some n
def xCJ (own : String) (index : Nat) (host : String) (y : MethodName) (bytes : ByteArray) (maxL n : Nat) : Prop :=
  ((own, index, y, host) ∈ xnl ∧ Cond.instanceMethod y ∈ xW ∧ Cond.initialized y.cls ∈ xW ∧ Cond.code y bytes maxL none ∈ xW) ∧ y.name = "<init>" ∧ y.cls ≠ "java/lang/invoke/MethodHandle" ∧ y.cls ≠ "java/lang/invoke/VarHandle" ∧ (parseMethodDescriptor y.desc).map (fun d => d.parameters.length) = some n
def xOb (own : String) (index : Nat) : Prop := Cond.methodLink own index Lib.objectInit ∈ xW ∧ Cond.instanceMethod Lib.objectInit ∈ xW ∧ Cond.code Lib.objectInit ⟨#[0xb1]⟩ 1 none ∈ xW
def xQvT (z : Nat) (D : va_G) (dA : Nat → ClassId) (q : xT × xS) : Array Value → State → Outcome → State → Prop := va_Qv (fun (u : xT × xS) => u = q) (fun u t => xRel z D dA u.1 u.2 t.heap) (xA z)
def xQiT (z : Nat) (D : va_G) (dA : Nat → ClassId) (q : Int32 × xT × xS) : Array Value → State → Outcome → State → Prop := va_Qi (fun (r : Int32) (u : xT × xS) => (r, u) = q) (fun u t => xRel z D dA u.1 u.2 t.heap) (xA z)
section XALL
variable {p : Program} {l : Launch} {e : Env} {R : Room} {s : State} {m : MethodId} {args : Array Value} {below : List Frame} {meth : Method} {c : Code} {H : Heap} {locs : List Loc} {cells slots : Nat} {Q : State → Prop}
variable {cc : ByteArray} {pc : Nat} {ls : Array Slot} {rest : List Value} {own : String} {z : Nat} {D : va_G} {dA : Nat → ClassId} {T : xT} {S : xS} {H0 : Heap} {α : Type} {o : α} {nL : Nat} {vs : List (Option Value)} {maxL : Nat} {ret : Option FieldType}
variable {y : MethodName} {bytes : ByteArray} {n index mc ms ci b mL : Nat} {rt : Option FieldType} {rm : Room} {C host : String} {As st0 : List Value}
theorem xS_new {H' : Heap} (hR : xRel z D dA T S H) (hS : va_S (xA z) H0 H locs) (hsz : H'.size = z + T.2.2 + 1) (ho : ∀ q : Nat, q < z + T.2.2 → H'[q]? = H[q]?) : va_S (xA z) H0 H' locs := by
  have hz : H.size = z + T.2.2 := hR.1.1
  have h0 := hS.1
  exact ⟨by omega, fun x h1 h2 => (ho x (by omega)).trans (hS.2.1 x h1 h2), hS.2.2⟩
theorem y_new (B : xB p s m args meth c cc own maxL ret D dA) (hR : xRel z D dA T S H) (hS : va_S (xA z) H0 H locs) {N : Nat} {K : Nat → xT → xS → Option α} (hf : xnw T S ci 0 K = some o) (hC : xNw own index ci N) (hcs : cells + 1 ≤ R.cells ∧ slots + N ≤ R.slots) (hdg : decode cc pc = .ok (.new index, 3))
    (kk : ∀ (a : Nat) (T1 : xT) (S1 : xS) (H1 : Heap), xlk T1 a ci = true → K a T1 S1 = some o → xRel z D dA T1 S1 H1 → va_S (xA z) H0 H1 locs → W p l e R s m args below meth c H1 locs (cells + 1) (slots + N) Q (F0 m (pc + 3) ls (.ref (z + a) :: rest))) : W p l e R s m args below meth c H locs cells slots Q (F0 m pc ls rest) := by
  obtain ⟨⟨hx, hb, hown, hts, hK, -⟩, -, -, hml⟩ := B
  obtain ⟨C, T', ty, ⟨hc, hin, hty, hnm, hci⟩, h1, h2, h3, hdv⟩ := hC
  have hKn := hK.1 ci _ hc
  refine W.newcK hx hb hown (hts _ h1) (hts _ h2) (hts _ h3) rfl hdg hcs.1 hcs.2 hKn.2.1 hR.1.1 fun H1 kC hkC e1 z1 o1 => ?_
  refine kk T.2.2 (xTn T ci 0) (xSn S T.2.2) H1 (xTn_lk ci 0) hf (hR.new z1 o1 ?_) (xS_new hR hS z1 o1)
  unfold xC
  rw [if_pos hci]
  refine ⟨_, hc, (u_born ty hts hin hKn hkC e1 hty).to (fun k hk => ?_)⟩
  have hd := hdv k hk
  show defaultValue (ty k) = vp_V (xfs z _ _ _ (xlay ci) 0) k
  unfold vp_V
  rw [List.getD_eq_getElem?_getD, xfs_get]
  cases hq : (xlay ci)[k]? with
  | none => rw [hq] at hd; cases hd
  | some kd =>
    rw [hq] at hd
    have hd2 : xdv kd = defaultValue (ty k) := Option.some.inj hd
    rw [← hd2]
    rcases kd with _ | _ | kd <;> rfl
theorem y_newaI (B : xB p s m args meth c cc own maxL ret D dA) (hR : xRel z D dA T S H) (hS : va_S (xA z) H0 H locs) {n : Int32} {N : Nat} {K : Nat → xT → xS → Option α} (hf : xnw T S 20 N K = some o) (hC : Cond.arrayClass .int ∈ xW) (hn : ¬ n < 0) (hN : n.toNatClampNeg = N) (hbytes : N * componentBytes .int ≤ 536870912) (hcs : cells + 1 ≤ R.cells ∧ slots + N ≤ R.slots) (hdg : decode cc pc = .ok (.newarray .int, 2))
    (kk : ∀ (a : Nat) (T1 : xT) (S1 : xS) (H1 : Heap), xlk T1 a 20 = true → K a T1 S1 = some o → xRel z D dA T1 S1 H1 → va_S (xA z) H0 H1 locs → W p l e R s m args below meth c H1 locs (cells + 1) (slots + N) Q (F0 m (pc + 2) ls (.ref (z + a) :: rest))) : W p l e R s m args below meth c H locs cells slots Q (F0 m pc ls (.int n :: rest)) := by
  obtain ⟨⟨hx, hb, hown, hts, hK, -⟩, -, -, hml⟩ := B
  refine va_newaK (atype := .int) hx hb (hts _ hC) rfl hdg rfl hn hN hbytes hcs.1 hcs.2 hR.1.1 fun H1 cA e1 z1 o1 hAr hNm => ?_
  have hA : cA = dA 0 := Option.some.inj (hNm.symm.trans (hK.2 0 _ rfl).2)
  subst hA
  refine kk T.2.2 (xTn T 20 N) (xSn S T.2.2) H1 (xTn_lk 20 N) hf (hR.new z1 o1 ?_) (xS_new hR hS z1 o1)
  exact e1
theorem y_newaJ (B : xB p s m args meth c cc own maxL ret D dA) (hR : xRel z D dA T S H) (hS : va_S (xA z) H0 H locs) {n : Int32} {N : Nat} {K : Nat → xT → xS → Option α} (hf : xnw T S 21 N K = some o) (hC : Cond.arrayClass .long ∈ xW) (hn : ¬ n < 0) (hN : n.toNatClampNeg = N) (hbytes : N * componentBytes .long ≤ 536870912) (hcs : cells + 1 ≤ R.cells ∧ slots + N ≤ R.slots) (hdg : decode cc pc = .ok (.newarray .long, 2))
    (kk : ∀ (a : Nat) (T1 : xT) (S1 : xS) (H1 : Heap), xlk T1 a 21 = true → K a T1 S1 = some o → xRel z D dA T1 S1 H1 → va_S (xA z) H0 H1 locs → W p l e R s m args below meth c H1 locs (cells + 1) (slots + N) Q (F0 m (pc + 2) ls (.ref (z + a) :: rest))) : W p l e R s m args below meth c H locs cells slots Q (F0 m pc ls (.int n :: rest)) := by
  obtain ⟨⟨hx, hb, hown, hts, hK, -⟩, -, -, hml⟩ := B
  refine va_newaK (atype := .long) hx hb (hts _ hC) rfl hdg rfl hn hN hbytes hcs.1 hcs.2 hR.1.1 fun H1 cA e1 z1 o1 hAr hNm => ?_
  have hA : cA = dA 1 := Option.some.inj (hNm.symm.trans (hK.2 1 _ rfl).2)
  subst hA
  refine kk T.2.2 (xTn T 21 N) (xSn S T.2.2) H1 (xTn_lk 21 N) hf (hR.new z1 o1 ?_) (xS_new hR hS z1 o1)
  exact e1
theorem y_newaB (B : xB p s m args meth c cc own maxL ret D dA) (hR : xRel z D dA T S H) (hS : va_S (xA z) H0 H locs) {n : Int32} {N : Nat} {K : Nat → xT → xS → Option α} (hf : xnw T S 22 N K = some o) (hC : Cond.arrayClass .byte ∈ xW) (hn : ¬ n < 0) (hN : n.toNatClampNeg = N) (hbytes : N * componentBytes .byte ≤ 536870912) (hcs : cells + 1 ≤ R.cells ∧ slots + N ≤ R.slots) (hdg : decode cc pc = .ok (.newarray .byte, 2))
    (kk : ∀ (a : Nat) (T1 : xT) (S1 : xS) (H1 : Heap), xlk T1 a 22 = true → K a T1 S1 = some o → xRel z D dA T1 S1 H1 → va_S (xA z) H0 H1 locs → W p l e R s m args below meth c H1 locs (cells + 1) (slots + N) Q (F0 m (pc + 2) ls (.ref (z + a) :: rest))) : W p l e R s m args below meth c H locs cells slots Q (F0 m pc ls (.int n :: rest)) := by
  obtain ⟨⟨hx, hb, hown, hts, hK, -⟩, -, -, hml⟩ := B
  refine va_newaK (atype := .byte) hx hb (hts _ hC) rfl hdg rfl hn hN hbytes hcs.1 hcs.2 hR.1.1 fun H1 cA e1 z1 o1 hAr hNm => ?_
  have hA : cA = dA 2 := Option.some.inj (hNm.symm.trans (hK.2 2 _ rfl).2)
  subst hA
  refine kk T.2.2 (xTn T 22 N) (xSn S T.2.2) H1 (xTn_lk 22 N) hf (hR.new z1 o1 ?_) (xS_new hR hS z1 o1)
  exact e1
theorem y_newaZ (B : xB p s m args meth c cc own maxL ret D dA) (hR : xRel z D dA T S H) (hS : va_S (xA z) H0 H locs) {n : Int32} {N : Nat} {K : Nat → xT → xS → Option α} (hf : xnw T S 23 N K = some o) (hC : Cond.arrayClass .boolean ∈ xW) (hn : ¬ n < 0) (hN : n.toNatClampNeg = N) (hbytes : N * componentBytes .boolean ≤ 536870912) (hcs : cells + 1 ≤ R.cells ∧ slots + N ≤ R.slots) (hdg : decode cc pc = .ok (.newarray .boolean, 2))
    (kk : ∀ (a : Nat) (T1 : xT) (S1 : xS) (H1 : Heap), xlk T1 a 23 = true → K a T1 S1 = some o → xRel z D dA T1 S1 H1 → va_S (xA z) H0 H1 locs → W p l e R s m args below meth c H1 locs (cells + 1) (slots + N) Q (F0 m (pc + 2) ls (.ref (z + a) :: rest))) : W p l e R s m args below meth c H locs cells slots Q (F0 m pc ls (.int n :: rest)) := by
  obtain ⟨⟨hx, hb, hown, hts, hK, -⟩, -, -, hml⟩ := B
  refine va_newaK (atype := .boolean) hx hb (hts _ hC) rfl hdg rfl hn hN hbytes hcs.1 hcs.2 hR.1.1 fun H1 cA e1 z1 o1 hAr hNm => ?_
  have hA : cA = dA 3 := Option.some.inj (hNm.symm.trans (hK.2 3 _ rfl).2)
  subst hA
  refine kk T.2.2 (xTn T 23 N) (xSn S T.2.2) H1 (xTn_lk 23 N) hf (hR.new z1 o1 ?_) (xS_new hR hS z1 o1)
  exact e1
theorem y_newaC (B : xB p s m args meth c cc own maxL ret D dA) (hR : xRel z D dA T S H) (hS : va_S (xA z) H0 H locs) {n : Int32} {N : Nat} {K : Nat → xT → xS → Option α} (hf : xnw T S 24 N K = some o) (hC : Cond.arrayClass .char ∈ xW) (hn : ¬ n < 0) (hN : n.toNatClampNeg = N) (hbytes : N * componentBytes .char ≤ 536870912) (hcs : cells + 1 ≤ R.cells ∧ slots + N ≤ R.slots) (hdg : decode cc pc = .ok (.newarray .char, 2))
    (kk : ∀ (a : Nat) (T1 : xT) (S1 : xS) (H1 : Heap), xlk T1 a 24 = true → K a T1 S1 = some o → xRel z D dA T1 S1 H1 → va_S (xA z) H0 H1 locs → W p l e R s m args below meth c H1 locs (cells + 1) (slots + N) Q (F0 m (pc + 2) ls (.ref (z + a) :: rest))) : W p l e R s m args below meth c H locs cells slots Q (F0 m pc ls (.int n :: rest)) := by
  obtain ⟨⟨hx, hb, hown, hts, hK, -⟩, -, -, hml⟩ := B
  refine va_newaK (atype := .char) hx hb (hts _ hC) rfl hdg rfl hn hN hbytes hcs.1 hcs.2 hR.1.1 fun H1 cA e1 z1 o1 hAr hNm => ?_
  have hA : cA = dA 4 := Option.some.inj (hNm.symm.trans (hK.2 4 _ rfl).2)
  subst hA
  refine kk T.2.2 (xTn T 24 N) (xSn S T.2.2) H1 (xTn_lk 24 N) hf (hR.new z1 o1 ?_) (xS_new hR hS z1 o1)
  exact e1
theorem y_newq (B : xB p s m args meth c cc own maxL ret D dA) (hR : xRel z D dA T S H) (hS : va_S (xA z) H0 H locs) {n : Int32} {N : Nat} {K : Nat → xT → xS → Option α} (hf : xnw T S 25 N K = some o) (hC : Cond.classLink own index "PartnerBooks$State" ∈ xW) (hn : ¬ n < 0) (hN : n.toNatClampNeg = N) (hbytes : N * 4 ≤ 536870912) (hcs : cells + 1 ≤ R.cells ∧ slots + N ≤ R.slots) (hdg : decode cc pc = .ok (.anewarray index, 3))
    (kk : ∀ (a : Nat) (T1 : xT) (S1 : xS) (H1 : Heap), xlk T1 a 25 = true → K a T1 S1 = some o → xRel z D dA T1 S1 H1 → va_S (xA z) H0 H1 locs → W p l e R s m args below meth c H1 locs (cells + 1) (slots + N) Q (F0 m (pc + 3) ls (.ref (z + a) :: rest))) : W p l e R s m args below meth c H locs cells slots Q (F0 m pc ls (.int n :: rest)) := by
  obtain ⟨⟨hx, hb, hown, hts, hK, hN0⟩, -, -, hml⟩ := B
  subst hN
  refine W.anew hx hb hown (hts _ hC) (va_AO.use hN0.2.2.2.2.2) rfl hdg rfl hn hbytes hcs.1 hcs.2 fun cA kA comp f1 f2 f3 f4 => ?_
  generalize hH1 : H.push ({ cls := cA, slots := Array.replicate n.toNatClampNeg .null, vm := .none } : Cell) = H1
  have hz : H.size = z + T.2.2 := hR.1.1
  have z1 : H1.size = z + T.2.2 + 1 := by rw [← hH1, Array.size_push, hz]
  have e1 : H1[z + T.2.2]? = some (arrV cA n.toNatClampNeg (fun _ => .null)) := by rw [← hH1, ← hz, Array.getElem?_push_size, ← arrV_new]
  have o1 : ∀ q : Nat, q < z + T.2.2 → H1[q]? = H[q]? := fun q hq => by rw [← hH1, Array.getElem?_push, if_neg (by omega)]
  obtain ⟨kA', comp', g1, g2, g3, g4⟩ := (hK.2 5 _ rfl).2
  have hA : cA = dA 5 := Option.some.inj (f1.symm.trans g4)
  subst hA
  rw [hz]
  refine kk T.2.2 (xTn T 25 n.toNatClampNeg) (xSn S T.2.2) H1 (xTn_lk 25 _) hf (hR.new z1 o1 ?_) (xS_new hR hS z1 o1)
  exact e1
theorem y_aast (B : xB p s m args meth c cc own maxL ret D dA) (hR : xRel z D dA T S H) (hS : va_S (xA z) H0 H locs) {a j : Nat} {i : Int32} {K : xS → Option α} (hf : xsr T S a i j K = some o) (ka : xlk T a 25 = true) (kj : xlk T j 5 = true) (hdg : decode cc pc = .ok (.aastore, 1))
    (kk : ∀ (S1 : xS) (H1 : Heap) (locs1 : List Loc), K S1 = some o → xRel z D dA T S1 H1 → va_S (xA z) H0 H1 locs1 → W p l e R s m args below meth c H1 locs1 cells slots Q (F0 m (pc + 1) ls rest)) : W p l e R s m args below meth c H locs cells slots Q (F0 m pc ls (.ref (z + j) :: .int i :: .ref (z + a) :: rest)) := by
  obtain ⟨h1, h2⟩ := x_ok hf
  obtain ⟨⟨hx, hb, hown, hts, hK, -⟩, -, -, hml⟩ := B
  have hin := xin_vp h1
  have hlt : i.toNatClampNeg < T.2.1 a := Nat.not_le.mp fun q => hin (Or.inr q)
  have h0 : ¬ i < 0 := fun q => hin (Or.inl q)
  obtain ⟨r', hr', cellV, g1, g2, g3, -⟩ := hR.obj kj (by decide)
  have hcls := (hK.1 5 (RX5, TX5, 4) rfl).2
  obtain ⟨kA, comp, k1, k2, k3, -⟩ := (hK.2 5 _ rfl).2
  have hcomp : comp = D.1 5 := Option.some.inj (k3.symm.trans hcls.1)
  subst hcomp
  obtain ⟨kC, hkC, -⟩ := hcls.2
  refine W.aast hx hb (hR.arrR ka) (fun q h => by cases h) (fun h => by cases h) k1 k2 rfl hkC ⟨h0, by show _ < (arrV _ _ _).slots.size; rw [arrV_size]; exact hlt⟩ g1 (fun q h => by rw [g3] at h; cases h) (by rw [g2]; exact hkC) (by rw [g2]; exact va_assign hcls) rfl rfl hdg fun H1 f1 f2 f3 => ?_
  refine kk _ H1 _ h2 (hR.put f2 f3 (fun _ _ => rfl) (fun _ _ => rfl) (fun b hb => xput_ne _ _ _ hb) ?_) (hS.put f2 f3 (Nat.le_add_right _ _))
  rw [xlk_k ka, xR_1]
  refine f1.trans (congrArg some ?_)
  show (arrV _ _ _).setSlot _ _ = vp_cell _ (T.2.1 a, .inr (.inr (.inr (.inr _))))
  rw [vp_cell_q, arrV_store]
  congr 1
  funext q
  by_cases hq : q = i.toNatClampNeg
  · subst hq
    simp [updV, va_up, va_rf]
  · simp [updV, va_up, hq]
theorem y_obj (B : xB p s m args meth c cc own nL ret D dA) (hl : xL ls nL vs) (h : xOb own index) {a : Nat} (hroom : 1 ≤ R.frames ∧ (rest.map fun v => v.category).sum + 12 ≤ R.locals) (hdg : decode cc pc = .ok (.invokespecial index, 3))
    (kk : W p l e R s m args below meth c H locs cells slots Q (F0 m (pc + 3) ls rest)) : W p l e R s m args below meth c H locs cells slots Q (F0 m pc ls (.ref a :: rest)) :=
  W.objInit B.1.1 B.1.2.1 B.1.2.2.1 (B.1.2.2.2.1 _ h.1) (B.1.2.2.2.1 _ h.2.1) (B.1.2.2.2.1 _ h.2.2) rfl (hl.1.trans B.2.2.2.symm) rfl hdg hroom.1 (by have := hroom.2; show 2 * 0 + _ + 12 ≤ _; omega) kk
theorem x_runI (X : xX p s m args c cc own D dA) (hml : c.maxLocals = nL) (hl : xL ls nL vs) (hR : xRel z D dA T S H) (hS : va_S (xA z) s.heap H locs) (hC : xCI own index y bytes mL n) (hrm : xRm R rm mL mc ms) {Qc : Array Value → State → Outcome → State → Prop}
    (hM : Met l y (xws y bytes mL none) rm (xPc z D dA T S (.ref b :: As)) Qc mc ms (xA z)) (hst : st0 = As.reverse ++ .ref b :: rest) (hn : As.length = n) (hw : (rest.map fun v => v.category).sum ≤ 8) (hdg : decode cc pc = .ok (.invokespecial index, 3)) (hf : cells + mc ≤ R.cells ∧ slots + ms ≤ R.slots) :
    va_Run p l e R s m args below meth c H locs cells slots mc ms (F0 m pc ls st0) rest (Qc (Value.ref b :: As).toArray) (xA z) := by
  obtain ⟨⟨h1, h2, h4, h5⟩, hnm, hd⟩ := hC
  exact va_runI ⟨X.1, X.2.1, hml, X.2.2.1, X.2.2.2.1⟩ hM (cwI n X.2.2.2.1 (xgood h5) rfl hrm.1 hrm.2.1 (X.2.2.2.1 _ h4) (X.2.2.2.1 _ h1) (X.2.2.2.1 _ h2) hnm hd hrm.2.2) ⟨xPc_blind z D dA T S _, fun U hU hW => xPc_pre X hR hS _ U hU hW⟩ rfl hn hl.1 hst (lv_room hw) hdg hf
theorem x_runJ (X : xX p s m args c cc own D dA) (hml : c.maxLocals = nL) (hl : xL ls nL vs) (hR : xRel z D dA T S H) (hS : va_S (xA z) s.heap H locs) (hC : xCJ own index host y bytes mL n) (hrm : xRm R rm mL mc ms) {Qc : Array Value → State → Outcome → State → Prop}
    (hM : Met l y (xws y bytes mL none) rm (xPc z D dA T S (.ref b :: As)) Qc mc ms (xA z)) (hst : st0 = As.reverse ++ .ref b :: rest) (hn : As.length = n) (hw : (rest.map fun v => v.category).sum ≤ 8) (hdg : decode cc pc = .ok (.invokespecial index, 3)) (hf : cells + mc ≤ R.cells ∧ slots + ms ≤ R.slots) :
    va_Run p l e R s m args below meth c H locs cells slots mc ms (F0 m pc ls st0) rest (Qc (Value.ref b :: As).toArray) (xA z) := by
  obtain ⟨⟨h1, h2, h4, h5⟩, hnm, hd⟩ := hC
  exact va_runIN (host := host) ⟨X.1, X.2.1, hml, X.2.2.1, X.2.2.2.1⟩ hM ⟨va_cnB n X.2.2.2.1 (xgood h5) rfl hrm.1 hrm.2.1 (X.2.2.2.2.2.1 _ h1) (X.2.2.2.1 _ h4) hd hrm.2.2, hnm, X.2.2.2.1 _ h2⟩ ⟨xPc_blind z D dA T S _, fun U hU hW => xPc_pre X hR hS _ U hU hW⟩ rfl hn hl.1 hst (lv_room hw) hdg hf
variable {a : Array Value}
theorem y_cT {fc : Option (xT × xS)} {K : xT → xS → Option α} (hf : xcT fc K = some o) (hr : ∀ q, fc = some q → va_Run p l e R s m args below meth c H locs cells slots mc ms (F0 m pc ls st0) rest (xQvT z D dA q a) (xA z)) (hS : va_S (xA z) H0 H locs)
    (kk : ∀ (T1 : xT) (S1 : xS) (H1 : Heap) (locs1 : List Loc), K T1 S1 = some o → xRel z D dA T1 S1 H1 → va_S (xA z) H0 H1 locs1 → W p l e R s m args below meth c H1 locs1 (cells + mc) (slots + ms) Q (F0 m (pc + 3) ls rest)) : W p l e R s m args below meth c H locs cells slots Q (F0 m pc ls st0) := by
  obtain ⟨q, h1, h2⟩ := Option.bind_eq_some_iff.mp hf
  refine va_callv (hr q h1) hS (fun _ _ h => h) (fun _ h => h) (fun u t H1 locs1 ht hvm hw hB hz1 hk1 hS1 => ?_)
  subst hw
  exact kk u.1 u.2 H1 locs1 h2 (by rw [← ht]; exact hB) hS1
theorem y_vretT (B : xB p s m args meth c cc own maxL none D dA) (hR : xRel z D dA T S H) (hS : va_S (xA z) s.heap H locs) {q : xT × xS} (hf : some (T, S) = some q) (hdg : decode cc pc = .ok (.return_, 1)) : W p l e R s m args below meth c H locs cells slots (MQ below (xQvT z D dA q) args s cells slots (xA z)) (F0 m pc ls []) := by
  cases hf
  have hlocks := B.2.2.1
  exact W.vret B.1.1 B.1.2.1 B.2.1 (fun t ht hW => ⟨⟨(T, S), rfl, rfl, (show xRel z D dA T S t.heap by rw [ht]; exact hR)⟩, hS.F ht⟩) hS.2.2 hdg
theorem y_iretT (B : xB p s m args meth c cc own maxL (some .int) D dA) (hR : xRel z D dA T S H) (hS : va_S (xA z) s.heap H locs) {v : Int32} {q : Int32 × xT × xS} (hf : some (v, T, S) = some q) (hdg : decode cc pc = .ok (.ireturn, 1)) : W p l e R s m args below meth c H locs cells slots (MQ below (xQiT z D dA q) args s cells slots (xA z)) (F0 m pc ls [.int v]) := by
  cases hf
  have hlocks := B.2.2.1
  exact W.iret B.1.1 B.1.2.1 B.2.1 (fun t ht hW => ⟨⟨v, (T, S), rfl, rfl, (show xRel z D dA T S t.heap by rw [ht]; exact hR)⟩, hS.F ht⟩) hS.2.2 hdg
theorem y_zretT (B : xB p s m args meth c cc own maxL (some .boolean) D dA) (hR : xRel z D dA T S H) (hS : va_S (xA z) s.heap H locs) {v : Int32} {q : Int32 × xT × xS} (hf : some (v, T, S) = some q) (hn : narrow .boolean (.int v) = .int v) (hdg : decode cc pc = .ok (.ireturn, 1)) : W p l e R s m args below meth c H locs cells slots (MQ below (xQiT z D dA q) args s cells slots (xA z)) (F0 m pc ls [.int v]) := by
  cases hf
  have hlocks := B.2.2.1
  exact W.zret B.1.1 B.1.2.1 B.2.1 hn (fun t ht hW => ⟨⟨v, (T, S), rfl, rfl, (show xRel z D dA T S t.heap by rw [ht]; exact hR)⟩, hS.F ht⟩) hS.2.2 hdg
end XALL
