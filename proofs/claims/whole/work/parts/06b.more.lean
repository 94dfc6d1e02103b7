section XMORE
variable {p : Program} {l : Launch} {e : Env} {R : Room} {s : State} {m : MethodId} {args : Array Value} {below : List Frame} {meth : Method} {c : Code} {H : Heap} {locs : List Loc} {cells slots : Nat} {Q : State → Prop}
variable {cc : ByteArray} {pc : Nat} {ls : Array Slot} {rest : List Value} {own : String} {z : Nat} {D : va_G} {dA : Nat → ClassId} {T : xT} {S : xS} {H0 : Heap} {α : Type} {o : α} {nL : Nat} {vs : List (Option Value)} {maxL : Nat} {ret : Option FieldType}
variable {y : MethodName} {bytes : ByteArray} {n index mc ms ci b mL : Nat} {rt : Option FieldType} {rm : Room} {C host : String} {As st0 : List Value}
/-- a call of an instance method, its receiver's class shown otherwise -/
theorem x_runW (X : xX p s m args c cc own D dA) (hml : c.maxLocals = nL) (hl : xL ls nL vs) (hR : xRel z D dA T S H) (hS : va_S (xA z) s.heap H locs) (hC : xCV own index C y bytes mL n rt) (hrm : xRm R rm mL mc ms) (hrec : ∃ cellB : Cell, H[b]? = some cellB ∧ cellB.vm.isStatics = false ∧ s.vm.findClass C = some cellB.cls) {Qc : Array Value → State → Outcome → State → Prop}
    (hM : Met l y (xws y bytes mL rt) rm (xPc z D dA T S (.ref b :: As)) Qc mc ms (xA z)) (hst : st0 = As.reverse ++ .ref b :: rest) (hn : As.length = n) (hw : (rest.map fun v => v.category).sum ≤ 8) (hdg : decode cc pc = .ok (.invokevirtual index, 3)) (hf : cells + mc ≤ R.cells ∧ slots + ms ≤ R.slots) :
    va_Run p l e R s m args below meth c H locs cells slots mc ms (F0 m pc ls st0) rest (Qc (Value.ref b :: As).toArray) (xA z) := by
  obtain ⟨⟨h1, h2, h3, h4, h5⟩, hd⟩ := hC
  have hG : GoodIn xW (wsV own index C y (xws y bytes mL rt)) := fun w hw => by
    have hm : w ∈ xW := by
      simp only [wsV, List.mem_append, List.mem_cons, List.not_mem_nil, or_false] at hw
      rcases hw with (rfl | rfl | rfl | rfl) | q
      · exact h1
      · exact h2
      · exact h3
      · exact h4
      · exact (xgood h5 w q).1
    exact ⟨hm, good_of_word (xW_good hm)⟩
  exact va_runV ⟨X.1, X.2.1, hml, X.2.2.1, X.2.2.2.1⟩ hM (cwV n X.2.2.2.1 hG rfl hrm.1 hrm.2.1 hd hrm.2.2) ⟨xPc_blind z D dA T S _, hrec, fun U hU hW => xPc_pre X hR hS _ U hU hW⟩ rfl hn hl.1 hst (lv_room hw) hdg hf
theorem y_ldcS (B : xB p s m args meth c cc own maxL ret D dA) {tx : String} {i : Nat} (hm : (own, index, tx, i) ∈ xsl) (hdg : decode cc pc = .ok (.ldc index, 2))
    (kk : W p l e R s m args below meth c H locs cells slots Q (F0 m (pc + 2) ls (.ref (dA (100 + i)) :: rest))) : W p l e R s m args below meth c H locs cells slots Q (F0 m pc ls rest) := va_ldcS B.1.1 B.1.2.1 B.1.2.2.1 (B.1.2.2.2.2.2.2.1 _ hm) hdg kk
theorem xStr (X : xX p s m args c cc own D dA) : vk_S 22 xlen xbyt (fun i => dA (100 + i)) (fun i => dA (200 + i)) (xA9 dA) s s.heap := X.2.2.2.2.2.2.2.1
theorem xsz (hR : xRel z D dA T S H) (hS : va_S (xA z) H0 H locs) : va_S (xA9 dA) H0 H locs := by
  have hz := hR.1.2
  subst hz
  exact hS
theorem x_rec30 (X : xX p s m args c cc own D dA) (hR : xRel z D dA T S H) (hS : va_S (xA z) s.heap H locs) {i : Nat} (hi : i < 22) : ∃ cellB : Cell, H[dA (100 + i)]? = some cellB ∧ cellB.vm.isStatics = false ∧ s.vm.findClass "java/lang/String" = some cellB.cls := vk_recv (adK := fun i => dA (100 + i)) (i := i) (xStr X) hi (xsz hR hS)
/-! System.arraycopy, of ints -/
def xcpy (S : xS) (a i b j n : Nat) : xS := (va_up S.1 b (va_cpy (S.1 a) (S.1 b) i j n), S.2.1, S.2.2)
def xcok (T : xT) (a : Nat) (i : Int32) (b : Nat) (j n : Int32) : Bool := !(decide (i < 0)) && !(decide (j < 0)) && !(decide (n < 0)) && decide (i.toNatClampNeg + n.toNatClampNeg ≤ T.2.1 a) && decide (j.toNatClampNeg + n.toNatClampNeg ≤ T.2.1 b)
def xcp {α : Type} (T : xT) (S : xS) (a : Nat) (i : Int32) (b : Nat) (j n : Int32) (K : xS → Option α) : Option α := if xcok T a i b j n = true then K (xcpy S a i.toNatClampNeg b j.toNatClampNeg n.toNatClampNeg) else none
def xAc (own : String) (index : Nat) : Prop := Cond.methodLink own index arraycopyName ∈ xW ∧ Cond.native arraycopyName ∈ xW ∧ Cond.static arraycopyName ∈ xW ∧ Cond.initialized "java/lang/System" ∈ xW
theorem y_copy (B : xB p s m args meth c cc own nL ret D dA) (hl : xL ls nL vs) (hR : xRel z D dA T S H) (hS : va_S (xA z) H0 H locs) (hA : xAc own index) {a b : Nat} {i j n : Int32} {K : xS → Option α} (hf : xcp T S a i b j n K = some o) (ka : xlk T a 20 = true) (kb : xlk T b 20 = true)
    (hroom : 1 ≤ R.frames ∧ (rest.map fun v => v.category).sum + (nativeFrameWords "java/lang/System" "arraycopy" 5 + 11) ≤ R.locals) (hdg : decode cc pc = .ok (.invokestatic index, 3))
    (kk : ∀ (S1 : xS) (H1 : Heap) (locs1 : List Loc), K S1 = some o → xRel z D dA T S1 H1 → va_S (xA z) H0 H1 locs1 → W p l e R s m args below meth c H1 locs1 cells slots Q (F0 m (pc + 3) ls rest)) : W p l e R s m args below meth c H locs cells slots Q (F0 m pc ls (.int n :: .int j :: .ref (z + b) :: .int i :: .ref (z + a) :: rest)) := by
  obtain ⟨hok, hf⟩ := x_ok hf
  unfold xcok at hok
  simp only [Bool.and_eq_true, Bool.not_eq_true', decide_eq_false_iff_not, decide_eq_true_eq] at hok
  obtain ⟨⟨⟨⟨h1, h2⟩, h3⟩, h4⟩, h5⟩ := hok
  obtain ⟨⟨hx, hb, hown, hts, hK, -⟩, -, -, hml⟩ := B
  have nn : ∀ w : Int32, ¬ w < 0 → w.toInt = (w.toNatClampNeg : Int) := by
    intro w hw
    have hw0 : (0 : Int) ≤ w.toInt := by
      have := Int32.not_lt.mp hw
      simpa using Int32.le_iff_toInt_le.mp this
    show w.toInt = ((w.toInt.toNat : Nat) : Int)
    omega
  intro T1 hT X
  have hc0 : H[z + a]? = some (vp_cell (dA 0) (T.2.1 a, .inl (S.1 a))) := hR.arrI ka (by decide) (by decide) (by decide)
  have hc1 : H[z + b]? = some (vp_cell (dA 0) (T.2.1 b, .inl (S.1 b))) := hR.arrI kb (by decide) (by decide) (by decide)
  obtain ⟨-, k0, hk0, cm0, hkk0⟩ := (hK.2 0 _ rfl).1 (T.2.1 a) (fun j => .int (S.1 a j))
  obtain ⟨-, k1, hk1, cm1, hkk1⟩ := (hK.2 0 _ rfl).1 (T.2.1 b) (fun j => .int (S.1 b j))
  obtain ⟨vm', X', step⟩ := X.arraycopy hx hown (hts _ hA.1) (hts _ hA.2.1) (hts _ hA.2.2.1) (hts _ hA.2.2.2) (src := z + a) (dst := z + b) (cs := vp_cell (dA 0) (T.2.1 a, .inl (S.1 a))) (cd := vp_cell (dA 0) (T.2.1 b, .inl (S.1 b))) (srcPos := i) (destPos := j) (n := n) (by rw [hT]; exact hc0) (by rw [hT]; exact hc1)
    (fun _ h => by cases h) (fun _ h => by cases h) (fun h => by cases h) (fun h => by cases h) hk0 hk1 hkk0 hkk1 (by simp [refKind]) h1 h2 h3
    (by rw [nn i h1, nn n h3]; show ¬ _ > ((arrV (dA 0) (T.2.1 a) (fun j => .int (S.1 a j))).slots.size : Int); rw [arrV_size]; omega)
    (by rw [nn j h2, nn n h3]; show ¬ _ > ((arrV (dA 0) (T.2.1 b) (fun j => .int (S.1 b j))).slots.size : Int); rw [arrV_size]; omega)
    (fun vm₁ _ q hq => by
      have e : (vp_cell (dA 0) (T.2.1 a, .inl (S.1 a))).slots.getD (i.toNatClampNeg + q) .null = .int (S.1 a (i.toNatClampNeg + q)) := by
        show (arrV (dA 0) (T.2.1 a) (fun j => .int (S.1 a j))).slots.getD _ _ = _
        rw [Array.getD_eq_getD_getElem?, arrV_read _ _ (by omega)]
        rfl
      refine ⟨?_, ?_⟩
      · rw [e]
        rfl
      · rw [e]
        exact trivial)
    (g := F0 m pc ls (.int n :: .int j :: .ref (z + b) :: .int i :: .ref (z + a) :: rest)) rfl (by rw [hml, hl.1]) (rest := rest) rfl (by rw [hb]; exact hdg) hroom.1 (by have := hroom.2; show 2 * 0 + _ + _ ≤ _; omega)
  have e1 : copied (vp_cell (dA 0) (T.2.1 a, .inl (S.1 a))) (vp_cell (dA 0) (T.2.1 b, .inl (S.1 b))) i j n = vp_cell (dA 0) (T.2.1 b, .inl (va_cpy (S.1 a) (S.1 b) i.toNatClampNeg j.toNatClampNeg n.toNatClampNeg)) := va_copied (fun w => .int w) (dA 0) (dA 0) (S.1 a) (S.1 b) h4
  rw [e1] at X' step
  have hlt : z + b < H.size := (Array.getElem?_eq_some_iff.mp hc1).1
  have hheap : ((T1.setVm vm').setCell (z + b) (vp_cell (dA 0) (T.2.1 b, .inl (va_cpy (S.1 a) (S.1 b) i.toNatClampNeg j.toNatClampNeg n.toNatClampNeg)))).heap = H.setIfInBounds (z + b) (vp_cell (dA 0) (T.2.1 b, .inl (va_cpy (S.1 a) (S.1 b) i.toNatClampNeg j.toNatClampNeg n.toNatClampNeg))) := by rw [← hT]; rfl
  have oq : ∀ q : Nat, q ≠ z + b → (H.setIfInBounds (z + b) (vp_cell (dA 0) (T.2.1 b, .inl (va_cpy (S.1 a) (S.1 b) i.toNatClampNeg j.toNatClampNeg n.toNatClampNeg))))[q]? = H[q]? := fun q hq => by simp [Array.getElem?_setIfInBounds, Ne.symm hq]
  have hup : (xcpy S a i.toNatClampNeg b j.toNatClampNeg n.toNatClampNeg).1 b = va_cpy (S.1 a) (S.1 b) i.toNatClampNeg j.toNatClampNeg n.toNatClampNeg := va_up_self _ _ _
  have hrel : xRel z D dA T (xcpy S a i.toNatClampNeg b j.toNatClampNeg n.toNatClampNeg) (H.setIfInBounds (z + b) (vp_cell (dA 0) (T.2.1 b, .inl (va_cpy (S.1 a) (S.1 b) i.toNatClampNeg j.toNatClampNeg n.toNatClampNeg)))) := by
    refine hR.put (by simp) oq (fun q hq => va_up_ne _ _ hq) (fun _ _ => rfl) (fun _ _ => rfl) ?_
    rw [xlk_k kb, xC_arrI (by decide) (by decide) (by decide), hup]
    show (H.setIfInBounds (z + b) _)[z + b]? = some _
    simp [Array.getElem?_setIfInBounds, hlt]
  obtain ⟨t, a1, b1⟩ := kk _ _ _ hf hrel ⟨by simp; exact hS.1, fun q g1 g2 => by
      rw [oq q (fun e => g2 (by rw [e]; exact Nat.le_add_right _ _))]
      exact hS.2.1 q g1 g2, fun q hq => by
      rcases List.mem_append.mp hq with h | h
      · exact hS.2.2 q h
      · obtain ⟨w, -, hw⟩ := List.mem_map.mp h
        rw [← hw]
        exact Nat.le_add_right _ _⟩ _ hheap X'
  exact ⟨t, step t a1, b1⟩
def xabsl (x : Int64) : Int64 := if 0 < x then x else -x
def xMb (own : String) (index : Nat) : Prop := Cond.methodLink own index Lib.MathLoose.abs_long.x ∈ xW ∧ Cond.static Lib.MathLoose.abs_long.x ∈ xW ∧ Cond.initialized "java/lang/Math" ∈ xW ∧ Cond.code Lib.MathLoose.abs_long.x Lib.MathLoose.abs_long.code 2 (some .long) ∈ xW
theorem y_mabsL (B : xB p s m args meth c cc own nL ret D dA) (hl : xL ls nL vs) (h : xMb own index) {x : Int64} (hroom : 1 ≤ R.frames ∧ (rest.map fun v => v.category).sum + 13 ≤ R.locals) (hcs : cells ≤ R.cells ∧ slots ≤ R.slots) (hdg : decode cc pc = .ok (.invokestatic index, 3))
    (kk : W p l e R s m args below meth c H locs cells slots Q (F0 m (pc + 3) ls (.long (xabsl x) :: rest))) : W p l e R s m args below meth c H locs cells slots Q (F0 m pc ls (.long x :: rest)) :=
  va_mabs_long B.1.1 B.1.2.1 (B.2.2.2.trans hl.1.symm) B.1.2.2.1 (B.1.2.2.2.1 _ h.1) (B.1.2.2.2.1 _ h.2.1) (B.1.2.2.2.1 _ h.2.2.1) (B.1.2.2.2.1 _ h.2.2.2) hroom.1 hroom.2 hcs.1 hcs.2 hdg kk
end XMORE
