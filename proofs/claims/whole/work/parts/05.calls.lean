/-! locals as a list, by place; none: nothing is known there -/
def xL (ls : Array Slot) (n : Nat) (vs : List (Option Value)) : Prop := ls.size = n ∧ lv_wf ls ∧ ∀ (k : Nat) (v : Value), vs[k]? = some (some v) → ls[k]? = some (.val v)
theorem xL.at {ls : Array Slot} {n : Nat} {vs : List (Option Value)} (h : xL ls n vs) (k : Nat) {v : Value} (hk : vs[k]? = some (some v)) : ls[k]? = some (.val v) := h.2.2 k v hk
theorem xL.sub {ls : Array Slot} {n : Nat} {vs ws : List (Option Value)} (h : xL ls n vs) (hs : ∀ (k : Nat) (v : Value), ws[k]? = some (some v) → vs[k]? = some (some v)) : xL ls n ws := ⟨h.1, h.2.1, fun k v hk => h.2.2 k v (hs k v hk)⟩
def xforget : List (Option Value) → List Bool → List (Option Value)
  | v :: t, b :: r => (if b then v else none) :: xforget t r
  | _, _ => []
theorem xforget_get : ∀ (vs : List (Option Value)) (bs : List Bool) (k : Nat) (v : Value), (xforget vs bs)[k]? = some (some v) → vs[k]? = some (some v)
  | [], bs, k, v, h => by simp [xforget] at h
  | a :: t, [], k, v, h => by simp [xforget] at h
  | a :: t, b :: r, 0, v, h => by
    cases b
    · simp [xforget] at h
    · simpa [xforget] using h
  | a :: t, b :: r, k + 1, v, h => by
    simp only [xforget, List.getElem?_cons_succ] at h ⊢
    exact xforget_get t r k v h
/-- forget what stands at some places -/
theorem xL.drop {ls : Array Slot} {n : Nat} {vs ws : List (Option Value)} (h : xL ls n vs) (bs : List Bool) (hw : xforget vs bs = ws) : xL ls n ws := h.sub (fun k v hk => xforget_get vs bs k v (hw ▸ hk))
def xlist (vs : List (Option Value)) : List (Nat × Value) := (List.range vs.length).filterMap (fun k => (vs[k]?.join).map (fun v => (k, v)))
theorem xlist_mem {vs : List (Option Value)} {k : Nat} {v : Value} : (k, v) ∈ xlist vs ↔ vs[k]? = some (some v) := by
  unfold xlist
  rw [List.mem_filterMap]
  constructor
  · rintro ⟨j, -, hj⟩
    cases hv : vs[j]? with
    | none => rw [hv] at hj; cases hj
    | some x =>
      rw [hv] at hj
      cases x with
      | none => cases hj
      | some y =>
        simp at hj
        obtain ⟨rfl, rfl⟩ := hj
        exact hv
  · intro h
    exact ⟨k, List.mem_range.mpr (List.getElem?_eq_some_iff.mp h).1, by rw [h]; rfl⟩
theorem xL.has {ls : Array Slot} {n : Nat} {vs : List (Option Value)} (h : xL ls n vs) : lv_has ls n (xlist vs) := ⟨h.1, h.2.1, fun q hq => h.2.2 q.1 q.2 (xlist_mem.mp hq)⟩
/-- no long stands just ahead of the place -/
def xok (vs : List (Option Value)) (i : Nat) : Bool := match i with
  | 0 => true
  | j + 1 => match vs[j]? with
    | some (some v) => v.category == 1
    | _ => true
theorem xok_use {vs : List (Option Value)} {i : Nat} (h : xok vs i = true) {k : Nat} {v : Value} (hk : vs[k]? = some (some v)) : (!(k + 1 == i && v.category == 2)) = true := by
  by_cases hi : k + 1 = i
  · subst hi
    simp only [xok, hk] at h
    have h1 : v.category = 1 := by simpa using h
    simp [h1]
  · simp [hi]
theorem xL_of1 {ls : Array Slot} {n i : Nat} {v : Value} {vs : List (Option Value)} (h : lv_has ls n ((i, v) :: (xlist vs).filter (fun q => !(q.1 == i) && !(q.1 + 1 == i && q.2.category == 2)))) (hok : xok vs i = true) : xL ls n (vs.set i (some v)) := by
  refine ⟨h.1, h.2.1, fun k w hk => ?_⟩
  rw [List.getElem?_set] at hk
  by_cases hik : i = k
  · subst hik
    rw [if_pos rfl] at hk
    split at hk
    · cases hk
      exact h.2.2 (i, v) List.mem_cons_self
    · cases hk
  · rw [if_neg hik] at hk
    refine h.2.2 (k, w) (List.mem_cons_of_mem _ (List.mem_filter.mpr ⟨xlist_mem.mpr hk, ?_⟩))
    rw [Bool.and_eq_true]
    exact ⟨by simp; exact fun q => hik q.symm, xok_use hok hk⟩
theorem xL_of2 {ls : Array Slot} {n i : Nat} {v : Value} {vs : List (Option Value)} (h : lv_has ls n ((i, v) :: (xlist vs).filter (fun q => !(q.1 == i) && (!(q.1 == i + 1) && !(q.1 + 1 == i && q.2.category == 2))))) (hok : xok vs i = true) : xL ls n ((vs.set i (some v)).set (i + 1) none) := by
  refine ⟨h.1, h.2.1, fun k w hk => ?_⟩
  rw [List.getElem?_set] at hk
  by_cases hik : i + 1 = k
  · rw [if_pos hik] at hk
    split at hk <;> cases hk
  · rw [if_neg hik, List.getElem?_set] at hk
    by_cases hi : i = k
    · subst hi
      rw [if_pos rfl] at hk
      split at hk
      · cases hk
        exact h.2.2 (i, v) List.mem_cons_self
      · cases hk
    · rw [if_neg hi] at hk
      refine h.2.2 (k, w) (List.mem_cons_of_mem _ (List.mem_filter.mpr ⟨xlist_mem.mpr hk, ?_⟩))
      rw [Bool.and_eq_true, Bool.and_eq_true]
      exact ⟨by simp; exact fun q => hi q.symm, by simp; exact fun q => hik q.symm, xok_use hok hk⟩
def xargs : List Value → List (Option Value)
  | [] => []
  | v :: r => if v.category = 2 then some v :: none :: xargs r else some v :: xargs r
theorem xargs_mem : ∀ (vs : List Value) (o k : Nat) (v : Value), (xargs vs)[k]? = some (some v) → (o + k, v) ∈ lv_args o vs
  | [], o, k, v, h => by simp [xargs] at h
  | a :: r, o, k, v, h => by
    unfold xargs at h
    unfold lv_args
    by_cases ha : a.category = 2
    · rw [if_pos ha] at h
      rw [if_pos ha]
      match k with
      | 0 => simp at h; subst h; simp
      | 1 => simp at h
      | k + 2 =>
        simp only [List.getElem?_cons_succ] at h
        have := xargs_mem r (o + 2) k v h
        rw [show o + (k + 2) = o + 2 + k by omega]
        exact List.mem_cons_of_mem _ this
    · rw [if_neg ha] at h
      rw [if_neg ha]
      match k with
      | 0 => simp at h; subst h; simp
      | k + 1 =>
        simp only [List.getElem?_cons_succ] at h
        have := xargs_mem r (o + 1) k v h
        rw [show o + (k + 1) = o + 1 + k by omega]
        exact List.mem_cons_of_mem _ this
theorem xL_entry (vals : List Value) {n : Nat} {ls : Array Slot} (h : lv_has ls n (lv_args 0 vals)) {r : Nat} {vs : List (Option Value)} (hv : xargs vals ++ List.replicate r none = vs) : xL ls n vs := by
  refine ⟨h.1, h.2.1, fun k v hk => ?_⟩
  subst hv
  by_cases hl : k < (xargs vals).length
  · rw [List.getElem?_append_left hl] at hk
    have := xargs_mem vals 0 k v hk
    rw [Nat.zero_add] at this
    exact h.2.2 (k, v) this
  · rw [List.getElem?_append_right (by omega), List.getElem?_replicate] at hk
    split at hk <;> cases hk
section XCALL
variable {p : Program} {l : Launch} {e : Env} {R : Room} {s : State} {m : MethodId} {args : Array Value} {below : List Frame} {meth : Method} {c : Code} {H : Heap} {locs : List Loc} {cells slots : Nat} {Q : State → Prop}
variable {cc : ByteArray} {pc : Nat} {ls : Array Slot} {rest : List Value} {own : String} {z : Nat} {D : va_G} {dA : Nat → ClassId} {T : xT} {S : xS} {H0 : Heap} {α : Type} {o : α} {nL : Nat} {vs vs' : List (Option Value)}
theorem x_istore_n (X : xX p s m args c cc own D dA) (hl : xL ls nL vs) {k : Fin 4} {i : Nat} {x : Int32} (hdg : decode cc pc = .ok (.istore_n k, 1)) (hi : (k : Nat) = i) (hn : i < nL) (hok : xok vs i = true) (hv : vs.set i (some (.int x)) = vs')
    (kk : ∀ ls' : Array Slot, xL ls' nL vs' → W p l e R s m args below meth c H locs cells slots Q (F0 m (pc + 1) ls' rest)) : W p l e R s m args below meth c H locs cells slots Q (F0 m pc ls (.int x :: rest)) :=
  lv_istore_n X.1 X.2.1 hdg hi hl.has hn rfl (fun ls' h => kk ls' (hv ▸ xL_of1 h hok))
theorem x_istore (X : xX p s m args c cc own D dA) (hl : xL ls nL vs) {i : Nat} {x : Int32} (hdg : decode cc pc = .ok (.istore i, 2)) (hn : i < nL) (hok : xok vs i = true) (hv : vs.set i (some (.int x)) = vs')
    (kk : ∀ ls' : Array Slot, xL ls' nL vs' → W p l e R s m args below meth c H locs cells slots Q (F0 m (pc + 2) ls' rest)) : W p l e R s m args below meth c H locs cells slots Q (F0 m pc ls (.int x :: rest)) :=
  lv_istore X.1 X.2.1 hdg hl.has hn rfl (fun ls' h => kk ls' (hv ▸ xL_of1 h hok))
theorem x_astore_n (X : xX p s m args c cc own D dA) (hl : xL ls nL vs) {k : Fin 4} {i : Nat} {x : Nat} (hdg : decode cc pc = .ok (.astore_n k, 1)) (hi : (k : Nat) = i) (hn : i < nL) (hok : xok vs i = true) (hv : vs.set i (some (.ref x)) = vs')
    (kk : ∀ ls' : Array Slot, xL ls' nL vs' → W p l e R s m args below meth c H locs cells slots Q (F0 m (pc + 1) ls' rest)) : W p l e R s m args below meth c H locs cells slots Q (F0 m pc ls (.ref x :: rest)) :=
  lv_astore_n X.1 X.2.1 hdg hi hl.has hn rfl (fun ls' h => kk ls' (hv ▸ xL_of1 h hok))
theorem x_astore (X : xX p s m args c cc own D dA) (hl : xL ls nL vs) {i : Nat} {x : Nat} (hdg : decode cc pc = .ok (.astore i, 2)) (hn : i < nL) (hok : xok vs i = true) (hv : vs.set i (some (.ref x)) = vs')
    (kk : ∀ ls' : Array Slot, xL ls' nL vs' → W p l e R s m args below meth c H locs cells slots Q (F0 m (pc + 2) ls' rest)) : W p l e R s m args below meth c H locs cells slots Q (F0 m pc ls (.ref x :: rest)) :=
  lv_astore X.1 X.2.1 hdg hl.has hn rfl (fun ls' h => kk ls' (hv ▸ xL_of1 h hok))
theorem x_lstore_n (X : xX p s m args c cc own D dA) (hl : xL ls nL vs) {k : Fin 4} {i : Nat} {x : Int64} (hdg : decode cc pc = .ok (.lstore_n k, 1)) (hi : (k : Nat) = i) (hn : i + 1 < nL) (hok : xok vs i = true) (hv : (vs.set i (some (.long x))).set (i + 1) none = vs')
    (kk : ∀ ls' : Array Slot, xL ls' nL vs' → W p l e R s m args below meth c H locs cells slots Q (F0 m (pc + 1) ls' rest)) : W p l e R s m args below meth c H locs cells slots Q (F0 m pc ls (.long x :: rest)) :=
  lv_lstore_n X.1 X.2.1 hdg hi hl.has hn rfl (fun ls' h => kk ls' (hv ▸ xL_of2 h hok))
theorem x_lstore (X : xX p s m args c cc own D dA) (hl : xL ls nL vs) {i : Nat} {x : Int64} (hdg : decode cc pc = .ok (.lstore i, 2)) (hn : i + 1 < nL) (hok : xok vs i = true) (hv : (vs.set i (some (.long x))).set (i + 1) none = vs')
    (kk : ∀ ls' : Array Slot, xL ls' nL vs' → W p l e R s m args below meth c H locs cells slots Q (F0 m (pc + 2) ls' rest)) : W p l e R s m args below meth c H locs cells slots Q (F0 m pc ls (.long x :: rest)) :=
  lv_lstore X.1 X.2.1 hdg hl.has hn rfl (fun ls' h => kk ls' (hv ▸ xL_of2 h hok))
theorem x_iinc (X : xX p s m args c cc own D dA) (hl : xL ls nL vs) {i : Nat} {n : Int} {x v : Int32} (hdg : decode cc pc = .ok (.iinc i n, 3)) (hx : vs[i]? = some (some (.int x))) (hv0 : x + Int32.ofInt n = v) (hn : i < nL) (hok : xok vs i = true) (hv : vs.set i (some (.int v)) = vs')
    (kk : ∀ ls' : Array Slot, xL ls' nL vs' → W p l e R s m args below meth c H locs cells slots Q (F0 m (pc + 3) ls' rest)) : W p l e R s m args below meth c H locs cells slots Q (F0 m pc ls rest) := by
  obtain ⟨k, hk⟩ := List.getElem?_of_mem (xlist_mem.mpr hx)
  exact lv_iinc X.1 X.2.1 hdg hl.has hk hv0 hn rfl (fun ls' h => kk ls' (hv ▸ xL_of1 h hok))
/-! contracts -/
abbrev xA (z : Nat) : Nat → Prop := fun q => z ≤ q
def xws (y : MethodName) (bytes : ByteArray) (maxL : Nat) (ret : Option FieldType) : List Cond := .code y bytes maxL ret :: xW
def xPc (z : Nat) (D : va_G) (dA : Nat → ClassId) (T : xT) (S : xS) (av : List Value) : Array Value → State → Prop := va_Pc av (fun U => xRel z D dA T S U.heap ∧ va_K D vwCl (xtys dA) U ∧ xNest dA U)
def xQi (z : Nat) (D : va_G) (dA : Nat → ClassId) (T : xT) (q : Int32 × xS) : Array Value → State → Outcome → State → Prop := va_Qi (fun (r : Int32) (u : xS) => (r, u) = q) (fun u t => xRel z D dA T u t.heap) (xA z)
def xQl (z : Nat) (D : va_G) (dA : Nat → ClassId) (T : xT) (q : Int64 × xS) : Array Value → State → Outcome → State → Prop := va_Ql (fun (r : Int64) (u : xS) => (r, u) = q) (fun u t => xRel z D dA T u t.heap) (xA z)
def xQv (z : Nat) (D : va_G) (dA : Nat → ClassId) (T : xT) (q : xS) : Array Value → State → Outcome → State → Prop := va_Qv (fun (u : xS) => u = q) (fun u t => xRel z D dA T u t.heap) (xA z)
theorem xPc_blind (z : Nat) (D : va_G) (dA : Nat → ClassId) (T : xT) (S : xS) (av : List Value) : FrameBlind (xPc z D dA T S av) := fun a U g mk q => ⟨q.1, q.2.1, va_K.moved (u := U) (U := U.calling g mk a) (Vm.Alike.refl U.vm) q.2.2.1, xNest.same (U := U.calling g mk a) rfl rfl q.2.2.2⟩
theorem xPc_pre (X : xX p s m args c cc own D dA) (hR : xRel z D dA T S H) (hS : va_S (xA z) s.heap H locs) (av : List Value) (U : State) (hU : U.heap = H) (hW : s.WarmedH U.vm) : xPc z D dA T S av av.toArray U := ⟨rfl, by rw [hU]; exact hR, va_K.moved hW.alike X.2.2.2.2.1, xNest.warm hW (locs := locs) (by rw [hU]; have hz := hR.1.2; subst hz; exact hS) X.2.2.2.2.2⟩
theorem xgood {y : MethodName} {bytes : ByteArray} {maxL : Nat} {ret : Option FieldType} (h : Cond.code y bytes maxL ret ∈ xW) : GoodIn xW (xws y bytes maxL ret) := fun w hw => by
  have hm : w ∈ xW := by
    rcases List.mem_cons.mp hw with rfl | q
    · exact h
    · exact q
  exact ⟨hm, good_of_word (xW_good hm)⟩
/-- what the tables say of a call: an instance method of the class C -/
def xCV (own : String) (index : Nat) (C : String) (y : MethodName) (bytes : ByteArray) (maxL n : Nat) (ret : Option FieldType) : Prop :=
  (Cond.methodLink own index y ∈ xW ∧ Cond.instanceMethod y ∈ xW ∧ Cond.selects C y y ∈ xW ∧ Cond.initialized C ∈ xW ∧ Cond.code y bytes maxL ret ∈ xW) ∧ y.cls = C ∧ y.cls ≠ "java/lang/invoke/MethodHandle" ∧ y.cls ≠ "java/lang/invoke/VarHandle" ∧ (parseMethodDescriptor y.desc).map (fun d => d.parameters.length) = some n
def xCS (own : String) (index : Nat) (y : MethodName) (bytes : ByteArray) (maxL n : Nat) (ret : Option FieldType) : Prop :=
  (Cond.methodLink own index y ∈ xW ∧ Cond.static y ∈ xW ∧ Cond.initialized own ∈ xW ∧ Cond.code y bytes maxL ret ∈ xW) ∧ y.cls = own ∧ y.cls ≠ "java/lang/invoke/MethodHandle" ∧ y.cls ≠ "java/lang/invoke/VarHandle" ∧ (parseMethodDescriptor y.desc).map (fun d => d.parameters.length) = some n
/-- a private static method of a nest mate -/
def xCN (own : String) (index : Nat) (host : String) (y : MethodName) (bytes : ByteArray) (maxL n : Nat) (ret : Option FieldType) : Prop :=
  ((own, index, y, host) ∈ xnl ∧ Cond.static y ∈ xW ∧ Cond.initialized y.cls ∈ xW ∧ Cond.code y bytes maxL ret ∈ xW) ∧ y.cls ≠ "java/lang/invoke/MethodHandle" ∧ y.cls ≠ "java/lang/invoke/VarHandle" ∧ (parseMethodDescriptor y.desc).map (fun d => d.parameters.length) = some n
def xRm (R rm : Room) (maxL mc ms : Nat) : Prop := rm.cells = mc ∧ rm.slots = ms ∧ rm.frames + 1 ≤ R.frames ∧ 8 + (maxL + 11) + rm.locals ≤ R.locals
variable {y : MethodName} {bytes : ByteArray} {maxL n index mc ms ci b : Nat} {ret : Option FieldType} {rm : Room} {Qc : Array Value → State → Outcome → State → Prop} {C host : String} {As st0 : List Value}
theorem x_runV (X : xX p s m args c cc own D dA) (hml : c.maxLocals = nL) (hl : xL ls nL vs) (hR : xRel z D dA T S H) (hS : va_S (xA z) s.heap H locs) (hC : xCV own index C y bytes maxL n ret) (hrm : xRm R rm maxL mc ms) (hci : ci < 20) (hcl : vwCl[ci]?.map (fun q => q.1) = some C) (hk : xlk T b ci = true)
    (hM : Met l y (xws y bytes maxL ret) rm (xPc z D dA T S (.ref (z + b) :: As)) Qc mc ms (xA z)) (hst : st0 = As.reverse ++ .ref (z + b) :: rest) (hn : As.length = n) (hw : (rest.map fun v => v.category).sum ≤ 8) (hdg : decode cc pc = .ok (.invokevirtual index, 3)) (hf : cells + mc ≤ R.cells ∧ slots + ms ≤ R.slots) :
    va_Run p l e R s m args below meth c H locs cells slots mc ms (F0 m pc ls st0) rest (Qc (Value.ref (z + b) :: As).toArray) (xA z) := by
  obtain ⟨⟨h1, h2, h3, h4, h5⟩, hd⟩ := hC
  have hG : GoodIn xW (wsV own index C y (xws y bytes maxL ret)) := fun w hw => by
    have hm : w ∈ xW := by
      simp only [wsV, List.mem_append, List.mem_cons, List.not_mem_nil, or_false] at hw
      rcases hw with (rfl | rfl | rfl | rfl) | q
      · exact h1
      · exact h2
      · exact h3
      · exact h4
      · exact (xgood h5 w q).1
    exact ⟨hm, good_of_word (xW_good hm)⟩
  have hrec : ∃ cellB : Cell, H[z + b]? = some cellB ∧ cellB.vm.isStatics = false ∧ s.vm.findClass C = some cellB.cls := by
    cases hq : vwCl[ci]? with
    | none => rw [hq] at hcl; cases hcl
    | some q =>
      rw [hq] at hcl
      have hq1 : q.1 = C := Option.some.inj hcl
      rw [← hq1]
      exact va_recv (q0 := 0) X.2.2.2.2.1 (xOne (hR.obj hk hci)) hq rfl
  exact va_runV ⟨X.1, X.2.1, hml, X.2.2.1, X.2.2.2.1⟩ hM (cwV n X.2.2.2.1 hG rfl hrm.1 hrm.2.1 hd hrm.2.2) ⟨xPc_blind z D dA T S _, hrec, fun U hU hW => xPc_pre X hR hS _ U hU hW⟩ rfl hn hl.1 hst (lv_room hw) hdg hf
theorem x_runS (X : xX p s m args c cc own D dA) (hml : c.maxLocals = nL) (hl : xL ls nL vs) (hR : xRel z D dA T S H) (hS : va_S (xA z) s.heap H locs) (hC : xCS own index y bytes maxL n ret) (hrm : xRm R rm maxL mc ms)
    (hM : Met l y (xws y bytes maxL ret) rm (xPc z D dA T S As) Qc mc ms (xA z)) (hst : st0 = As.reverse ++ rest) (hn : As.length = n) (hw : (rest.map fun v => v.category).sum ≤ 8) (hdg : decode cc pc = .ok (.invokestatic index, 3)) (hf : cells + mc ≤ R.cells ∧ slots + ms ≤ R.slots) :
    va_Run p l e R s m args below meth c H locs cells slots mc ms (F0 m pc ls st0) rest (Qc As.toArray) (xA z) := by
  obtain ⟨⟨h1, h2, h4, h5⟩, hd⟩ := hC
  have hG : GoodIn xW (wsS own index y (xws y bytes maxL ret)) := fun w hw => by
    have hm : w ∈ xW := by
      simp only [wsS, List.mem_append, List.mem_cons, List.not_mem_nil, or_false] at hw
      rcases hw with (rfl | rfl | rfl) | q
      · exact h1
      · exact h2
      · exact h4
      · exact (xgood h5 w q).1
    exact ⟨hm, good_of_word (xW_good hm)⟩
  exact va_runS ⟨X.1, X.2.1, hml, X.2.2.1, X.2.2.2.1⟩ hM (cwS n X.2.2.2.1 hG rfl hrm.1 hrm.2.1 hd hrm.2.2) ⟨xPc_blind z D dA T S _, fun U hU hW => xPc_pre X hR hS _ U hU hW⟩ rfl hn hl.1 hst (lv_room hw) hdg hf
theorem x_runN (X : xX p s m args c cc own D dA) (hml : c.maxLocals = nL) (hl : xL ls nL vs) (hR : xRel z D dA T S H) (hS : va_S (xA z) s.heap H locs) (hC : xCN own index host y bytes maxL n ret) (hrm : xRm R rm maxL mc ms)
    (hM : Met l y (xws y bytes maxL ret) rm (xPc z D dA T S As) Qc mc ms (xA z)) (hst : st0 = As.reverse ++ rest) (hn : As.length = n) (hw : (rest.map fun v => v.category).sum ≤ 8) (hdg : decode cc pc = .ok (.invokestatic index, 3)) (hf : cells + mc ≤ R.cells ∧ slots + ms ≤ R.slots) :
    va_Run p l e R s m args below meth c H locs cells slots mc ms (F0 m pc ls st0) rest (Qc As.toArray) (xA z) := by
  obtain ⟨⟨h1, h2, h4, h5⟩, hd⟩ := hC
  exact va_runSN (host := host) ⟨X.1, X.2.1, hml, X.2.2.1, X.2.2.2.1⟩ hM ⟨va_cnB n X.2.2.2.1 (xgood h5) rfl hrm.1 hrm.2.1 (X.2.2.2.2.2.1 _ h1) (X.2.2.2.1 _ h4) hd hrm.2.2, X.2.2.2.1 _ h2, trivial⟩ ⟨xPc_blind z D dA T S _, fun U hU hW => xPc_pre X hR hS _ U hU hW⟩ rfl hn hl.1 hst (lv_room hw) hdg hf
variable {a : Array Value}
theorem x_ci {fc : Option (Int32 × xS)} {K : Int32 × xS → Option α} (hf : fc.bind K = some o) (hr : ∀ q, fc = some q → va_Run p l e R s m args below meth c H locs cells slots 0 0 (F0 m pc ls st0) rest (xQi z D dA T q a) (xA z)) (hS : va_S (xA z) H0 H locs)
    (kk : ∀ (r : Int32) (S1 : xS) (H1 : Heap) (locs1 : List Loc), K (r, S1) = some o → xRel z D dA T S1 H1 → va_S (xA z) H0 H1 locs1 → W p l e R s m args below meth c H1 locs1 cells slots Q (F0 m (pc + 3) ls (.int r :: rest))) : W p l e R s m args below meth c H locs cells slots Q (F0 m pc ls st0) := by
  obtain ⟨q, h1, h2⟩ := Option.bind_eq_some_iff.mp hf
  refine va_calli (hr q h1) hS (fun _ _ h => h) (fun _ h => h) (fun r u t H1 locs1 ht hvm hw hB hz1 hk1 hS1 => ?_)
  subst hw
  exact kk r u H1 locs1 h2 (by rw [← ht]; exact hB) hS1
theorem x_cl {fc : Option (Int64 × xS)} {K : Int64 × xS → Option α} (hf : fc.bind K = some o) (hr : ∀ q, fc = some q → va_Run p l e R s m args below meth c H locs cells slots 0 0 (F0 m pc ls st0) rest (xQl z D dA T q a) (xA z)) (hS : va_S (xA z) H0 H locs)
    (kk : ∀ (r : Int64) (S1 : xS) (H1 : Heap) (locs1 : List Loc), K (r, S1) = some o → xRel z D dA T S1 H1 → va_S (xA z) H0 H1 locs1 → W p l e R s m args below meth c H1 locs1 cells slots Q (F0 m (pc + 3) ls (.long r :: rest))) : W p l e R s m args below meth c H locs cells slots Q (F0 m pc ls st0) := by
  obtain ⟨q, h1, h2⟩ := Option.bind_eq_some_iff.mp hf
  refine va_calll (hr q h1) hS (fun _ _ h => h) (fun _ h => h) (fun r u t H1 locs1 ht hvm hw hB hz1 hk1 hS1 => ?_)
  subst hw
  exact kk r u H1 locs1 h2 (by rw [← ht]; exact hB) hS1
theorem x_cv {fc : Option xS} {K : xS → Option α} (hf : fc.bind K = some o) (hr : ∀ q, fc = some q → va_Run p l e R s m args below meth c H locs cells slots 0 0 (F0 m pc ls st0) rest (xQv z D dA T q a) (xA z)) (hS : va_S (xA z) H0 H locs)
    (kk : ∀ (S1 : xS) (H1 : Heap) (locs1 : List Loc), K S1 = some o → xRel z D dA T S1 H1 → va_S (xA z) H0 H1 locs1 → W p l e R s m args below meth c H1 locs1 cells slots Q (F0 m (pc + 3) ls rest)) : W p l e R s m args below meth c H locs cells slots Q (F0 m pc ls st0) := by
  obtain ⟨q, h1, h2⟩ := Option.bind_eq_some_iff.mp hf
  refine va_callv (hr q h1) hS (fun _ _ h => h) (fun _ h => h) (fun u t H1 locs1 ht hvm hw hB hz1 hk1 hS1 => ?_)
  subst hw
  exact kk u H1 locs1 h2 (by rw [← ht]; exact hB) hS1
/-! ends -/
theorem x_iret (X : xX p s m args c cc own D dA) (hr : meth.sig.returnType = some .int) (hlocks : meth.locks = false) (hR : xRel z D dA T S H) (hS : va_S (xA z) s.heap H locs) {v : Int32} {q : Int32 × xS} (hf : some (v, S) = some q) (hdg : decode cc pc = .ok (.ireturn, 1)) :
    W p l e R s m args below meth c H locs cells slots (MQ below (xQi z D dA T q) args s cells slots (xA z)) (F0 m pc ls [.int v]) := by
  cases hf
  exact W.iret X.1 X.2.1 hr (fun t ht hW => ⟨⟨v, S, rfl, rfl, (show xRel z D dA T S t.heap by rw [ht]; exact hR)⟩, hS.F ht⟩) hS.2.2 hdg
theorem x_zret (X : xX p s m args c cc own D dA) {ty : FieldType} (hr : meth.sig.returnType = some ty) (hlocks : meth.locks = false) (hR : xRel z D dA T S H) (hS : va_S (xA z) s.heap H locs) {v : Int32} {q : Int32 × xS} (hn : narrow ty (.int v) = .int v) (hf : some (v, S) = some q) (hdg : decode cc pc = .ok (.ireturn, 1)) :
    W p l e R s m args below meth c H locs cells slots (MQ below (xQi z D dA T q) args s cells slots (xA z)) (F0 m pc ls [.int v]) := by
  cases hf
  exact W.zret X.1 X.2.1 hr hn (fun t ht hW => ⟨⟨v, S, rfl, rfl, (show xRel z D dA T S t.heap by rw [ht]; exact hR)⟩, hS.F ht⟩) hS.2.2 hdg
theorem x_lret (X : xX p s m args c cc own D dA) (hr : meth.sig.returnType = some .long) (hlocks : meth.locks = false) (hR : xRel z D dA T S H) (hS : va_S (xA z) s.heap H locs) {v : Int64} {q : Int64 × xS} (hf : some (v, S) = some q) (hdg : decode cc pc = .ok (.lreturn, 1)) :
    W p l e R s m args below meth c H locs cells slots (MQ below (xQl z D dA T q) args s cells slots (xA z)) (F0 m pc ls [.long v]) := by
  cases hf
  exact W.lret X.1 X.2.1 hr (fun t ht hW => ⟨⟨v, S, rfl, rfl, (show xRel z D dA T S t.heap by rw [ht]; exact hR)⟩, hS.F ht⟩) hS.2.2 hdg
theorem x_vret (X : xX p s m args c cc own D dA) (hr : meth.sig.returnType = none) (hlocks : meth.locks = false) (hR : xRel z D dA T S H) (hS : va_S (xA z) s.heap H locs) {q : xS} (hf : some S = some q) (hdg : decode cc pc = .ok (.return_, 1)) :
    W p l e R s m args below meth c H locs cells slots (MQ below (xQv z D dA T q) args s cells slots (xA z)) (F0 m pc ls []) := by
  cases hf
  exact W.vret X.1 X.2.1 hr (fun t ht hW => ⟨⟨S, rfl, rfl, (show xRel z D dA T S t.heap by rw [ht]; exact hR)⟩, hS.F ht⟩) hS.2.2 hdg
end XCALL
/-- a contract out of a walk from the entry -/
theorem x_met {l : Launch} {y : MethodName} {bytes : ByteArray} {maxL : Nat} {ret : Option FieldType} {rm : Room} {z : Nat} {D : va_G} {dA : Nat → ClassId} {T : xT} {S : xS} {av : List Value} {Qc : Array Value → State → Outcome → State → Prop} {mc ms : Nat} (own : String) (hy : plainName y.cls = true) (hown : y.cls = own) (hav : (lg_sl av).length ≤ maxL)
    (body : ∀ (p : Program) (e : Env) (s : State) (m : MethodId) (below : List Frame) (meth : Method) (c : Code) (ls : Array Slot) (r : Nat), xX p s m av.toArray c bytes own D dA → meth.sig.returnType = ret → meth.locks = false → c.maxLocals = maxL → meth.name = y.name → xRel z D dA T S s.heap → va_S (xA z) s.heap s.heap [] → xL ls maxL (xargs av ++ List.replicate (maxL - (lg_sl av).length) none) →
      W p l e rm s m av.toArray below meth c s.heap [] 0 0 (MQ below Qc av.toArray s mc ms (xA z)) (F0 m 0 ls [])) : Met l y (xws y bytes maxL ret) rm (xPc z D dA T S av) Qc mc ms (xA z) := by
  refine Met.ofW (cc := bytes) (maxL := maxL) (ret := ret) hy rfl ?_
  intro p e s m args below meth c s₁ B hml hv
  obtain ⟨rfl, hR, hK, hN⟩ := hv
  have hts := atoms_spec (ws := xws y bytes maxL ret) B.pre
  have hown' : s.vm.findClass own = some m.cls := hown ▸ findClass_of_methodNamed B.named
  have hl := lv_entry av (n := maxL) hav
  rw [lg_entry_eq]
  exact body p e s m below meth c _ 0 ⟨B.exec, B.bytes, hown', fun w hw => hts w (List.mem_cons_of_mem _ hw), hK, hN⟩ B.returns B.notSynchronized hml (name_of_methodNamed B.named B.method).1 hR va_S.rf (xL_entry av hl rfl)
