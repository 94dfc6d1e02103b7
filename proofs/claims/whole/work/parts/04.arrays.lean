section XARR
variable {p : Program} {l : Launch} {e : Env} {R : Room} {s : State} {m : MethodId} {args : Array Value} {below : List Frame} {meth : Method} {c : Code} {H : Heap} {locs : List Loc} {cells slots : Nat} {Q : State → Prop}
variable {cc : ByteArray} {pc : Nat} {ls : Array Slot} {rest : List Value} {own : String} {z : Nat} {D : va_G} {dA : Nat → ClassId} {T : xT} {S : xS} {H0 : Heap} {α : Type} {o : α}
theorem x_iald (X : xX p s m args c cc own D dA) (hR : xRel z D dA T S H) {a : Nat} {i : Int32} {A : Option α} (hf : (if xin i (T.2.1 a) = true then A else none) = some o) (hk : xlk T a 20 = true) (hdg : decode cc pc = .ok (.iaload, 1))
    (kk : A = some o → W p l e R s m args below meth c H locs cells slots Q (F0 m (pc + 1) ls (.int (S.1 a i.toNatClampNeg) :: rest))) : W p l e R s m args below meth c H locs cells slots Q (F0 m pc ls (.int i :: .ref (z + a) :: rest)) := by
  obtain ⟨h1, h2⟩ := x_ok hf
  obtain ⟨hx, hb, hown, hts, hK, hN⟩ := X
  have hP := xOne (hR.arrI hk (by decide) (by decide) (by decide))
  exact va_iald (D := D) hx hb hK hP 0 0 rfl rfl (xin_vp h1) hdg (kk h2)
theorem x_bald (X : xX p s m args c cc own D dA) (hR : xRel z D dA T S H) {a : Nat} {i : Int32} {A : Option α} (hf : (if xin i (T.2.1 a) = true then A else none) = some o) (hk : xlk T a 22 = true) (hdg : decode cc pc = .ok (.baload, 1))
    (kk : A = some o → W p l e R s m args below meth c H locs cells slots Q (F0 m (pc + 1) ls (.int (S.1 a i.toNatClampNeg) :: rest))) : W p l e R s m args below meth c H locs cells slots Q (F0 m pc ls (.int i :: .ref (z + a) :: rest)) := by
  obtain ⟨h1, h2⟩ := x_ok hf
  obtain ⟨hx, hb, hown, hts, hK, hN⟩ := X
  have hP := xOne (hR.arrI hk (by decide) (by decide) (by decide))
  exact va_bald (D := D) hx hb hK hP 0 2 rfl rfl (xin_vp h1) hdg (kk h2)
theorem x_zald (X : xX p s m args c cc own D dA) (hR : xRel z D dA T S H) {a : Nat} {i : Int32} {A : Option α} (hf : (if xin i (T.2.1 a) = true then A else none) = some o) (hk : xlk T a 23 = true) (hdg : decode cc pc = .ok (.baload, 1))
    (kk : A = some o → W p l e R s m args below meth c H locs cells slots Q (F0 m (pc + 1) ls (.int (S.1 a i.toNatClampNeg) :: rest))) : W p l e R s m args below meth c H locs cells slots Q (F0 m pc ls (.int i :: .ref (z + a) :: rest)) := by
  obtain ⟨h1, h2⟩ := x_ok hf
  obtain ⟨hx, hb, hown, hts, hK, hN⟩ := X
  have hP := xOne (hR.arrI hk (by decide) (by decide) (by decide))
  exact va_zald (D := D) hx hb hK hP 0 3 rfl rfl (xin_vp h1) hdg (kk h2)
theorem x_cald (X : xX p s m args c cc own D dA) (hR : xRel z D dA T S H) {a : Nat} {i : Int32} {A : Option α} (hf : (if xin i (T.2.1 a) = true then A else none) = some o) (hk : xlk T a 24 = true) (hdg : decode cc pc = .ok (.caload, 1))
    (kk : A = some o → W p l e R s m args below meth c H locs cells slots Q (F0 m (pc + 1) ls (.int (S.1 a i.toNatClampNeg) :: rest))) : W p l e R s m args below meth c H locs cells slots Q (F0 m pc ls (.int i :: .ref (z + a) :: rest)) := by
  obtain ⟨h1, h2⟩ := x_ok hf
  obtain ⟨hx, hb, hown, hts, hK, hN⟩ := X
  have hP := xOne (hR.arrI hk (by decide) (by decide) (by decide))
  exact va_cald (D := D) hx hb hK hP 0 4 rfl rfl (xin_vp h1) hdg (kk h2)
theorem x_lald (X : xX p s m args c cc own D dA) (hR : xRel z D dA T S H) {a : Nat} {i : Int32} {A : Option α} (hf : (if xin i (T.2.1 a) = true then A else none) = some o) (hk : xlk T a 21 = true) (hdg : decode cc pc = .ok (.laload, 1))
    (kk : A = some o → W p l e R s m args below meth c H locs cells slots Q (F0 m (pc + 1) ls (.long (S.2.1 a i.toNatClampNeg) :: rest))) : W p l e R s m args below meth c H locs cells slots Q (F0 m pc ls (.int i :: .ref (z + a) :: rest)) := by
  obtain ⟨h1, h2⟩ := x_ok hf
  obtain ⟨hx, hb, hown, hts, hK, hN⟩ := X
  have hP := xOne (hR.arrJ hk)
  exact va_lald (D := D) hx hb hK hP 0 1 rfl rfl (xin_vp h1) hdg (kk h2)
theorem x_aald (X : xX p s m args c cc own D dA) (hR : xRel z D dA T S H) {a : Nat} {i : Int32} {A : Option α} (hf : (if xin i (T.2.1 a) = true then A else none) = some o) (hk : xlk T a 25 = true) (hdg : decode cc pc = .ok (.aaload, 1))
    (kk : A = some o → W p l e R s m args below meth c H locs cells slots Q (F0 m (pc + 1) ls (va_rf ((S.2.2 a i.toNatClampNeg).map (fun q => z + q)) :: rest))) : W p l e R s m args below meth c H locs cells slots Q (F0 m pc ls (.int i :: .ref (z + a) :: rest)) := by
  obtain ⟨h1, h2⟩ := x_ok hf
  obtain ⟨hx, hb, hown, hts, hK, hN⟩ := X
  have hP := xOne (hR.arrR hk)
  exact va_aldq (D := D) hx hb hK hP 0 5 rfl rfl (xin_vp h1) hdg (kk h2)
theorem x_alen (X : xX p s m args c cc own D dA) (hR : xRel z D dA T S H) {a : Nat} (hk : xlk T a 20 = true) (hdg : decode cc pc = .ok (.arraylength, 1))
    (kk : W p l e R s m args below meth c H locs cells slots Q (F0 m (pc + 1) ls (.int (Int32.ofNat (T.2.1 a)) :: rest))) : W p l e R s m args below meth c H locs cells slots Q (F0 m pc ls (.ref (z + a) :: rest)) := by
  obtain ⟨hx, hb, hown, hts, hK, hN⟩ := X
  have hP := xOne (hR.arrI hk (by decide) (by decide) (by decide))
  exact va_alen (D := D) hx hb hK hP 0 0 rfl rfl rfl hdg kk
theorem xup_i (cA : ClassId) (n k : Nat) (f : Nat → Int32) (x : Int32) : (arrV cA n (fun j => .int (f j))).setSlot k (.int x) = vp_cell cA (n, .inl (va_up f k x)) := by
  rw [vp_cell_i, arrV_store]
  congr 1
  funext q
  by_cases hq : q = k
  · subst hq; simp [updV, va_up]
  · simp [updV, va_up, hq]
theorem xup_j (cA : ClassId) (n k : Nat) (f : Nat → Int64) (x : Int64) : (arrV cA n (fun j => .long (f j))).setSlot k (.long x) = vp_cell cA (n, .inr (.inl (va_up f k x))) := by
  rw [vp_cell_l, arrV_store]
  congr 1
  funext q
  by_cases hq : q = k
  · subst hq; simp [updV, va_up]
  · simp [updV, va_up, hq]
theorem xC_arrI {z : Nat} {dA : Nat → ClassId} {K N : Nat} {i : Nat → Int32} {j : Nat → Int64} {r : Nat → Option Nat} (h0 : ¬ K < 20) (h1 : ¬ K = 21) (h2 : ¬ K = 25) : xC z dA K N i j r = .inl (dA (K - 20), N, .inl i) := by
  unfold xC
  rw [if_neg h0, if_neg h1, if_neg h2]
theorem x_iast (X : xX p s m args c cc own D dA) (hR : xRel z D dA T S H) (hS : va_S (fun q => z ≤ q) H0 H locs) {a : Nat} {i v : Int32} {A : Option α} (hf : (if xin i (T.2.1 a) = true then A else none) = some o) (hk : xlk T a 20 = true) (hdg : decode cc pc = .ok (.iastore, 1))
    (kk : ∀ (H1 : Heap) (locs1 : List Loc), A = some o → xRel z D dA T (xI S a i.toNatClampNeg v) H1 → va_S (fun q => z ≤ q) H0 H1 locs1 → W p l e R s m args below meth c H1 locs1 cells slots Q (F0 m (pc + 1) ls rest)) : W p l e R s m args below meth c H locs cells slots Q (F0 m pc ls (.int v :: .int i :: .ref (z + a) :: rest)) := by
  obtain ⟨h1, h2⟩ := x_ok hf
  obtain ⟨hx, hb, hown, hts, hK, hN⟩ := X
  have hP := hR.arrI hk (by decide) (by decide) (by decide)
  refine W.iast hx hb hP ((hK.2 0 _ rfl).1 (T.2.1 a) (fun j => .int (S.1 a j))) (fun q => by cases q) (by show ¬ (i < 0 ∨ (arrV _ _ _).slots.size ≤ _); rw [arrV_size]; exact xin_vp h1) rfl rfl hdg fun H' f1 f2 f3 => ?_
  refine kk H' _ h2 (hR.put f2 f3 (fun b hb => xput_ne _ _ _ hb) (fun _ _ => rfl) (fun _ _ => rfl) ?_) (hS.put f2 f3 (Nat.le_add_right _ _))
  rw [xlk_k hk, xC_arrI (by decide) (by decide) (by decide), xI_1]
  exact f1.trans (congrArg some (xup_i _ _ _ _ _))
theorem x_bast (X : xX p s m args c cc own D dA) (hR : xRel z D dA T S H) (hS : va_S (fun q => z ≤ q) H0 H locs) {a : Nat} {i v : Int32} {A : Option α} (hf : (if xin i (T.2.1 a) = true then A else none) = some o) (hk : xlk T a 22 = true) (hdg : decode cc pc = .ok (.bastore, 1))
    (kk : ∀ (H1 : Heap) (locs1 : List Loc), A = some o → xRel z D dA T (xI S a i.toNatClampNeg (vp_nar .byte v)) H1 → va_S (fun q => z ≤ q) H0 H1 locs1 → W p l e R s m args below meth c H1 locs1 cells slots Q (F0 m (pc + 1) ls rest)) : W p l e R s m args below meth c H locs cells slots Q (F0 m pc ls (.int v :: .int i :: .ref (z + a) :: rest)) := by
  obtain ⟨h1, h2⟩ := x_ok hf
  obtain ⟨hx, hb, hown, hts, hK, hN⟩ := X
  have hP := hR.arrI hk (by decide) (by decide) (by decide)
  refine W.bast hx hb hP ((hK.2 2 _ rfl).1 (T.2.1 a) (fun j => .int (S.1 a j))) (fun q => by cases q) (by show ¬ (i < 0 ∨ (arrV _ _ _).slots.size ≤ _); rw [arrV_size]; exact xin_vp h1) rfl rfl hdg fun H' f1 f2 f3 => ?_
  have hnar : narrow .byte (.int v) = .int (vp_nar .byte v) := by rfl
  rw [hnar] at f1
  refine kk H' _ h2 (hR.put f2 f3 (fun b hb => xput_ne _ _ _ hb) (fun _ _ => rfl) (fun _ _ => rfl) ?_) (hS.put f2 f3 (Nat.le_add_right _ _))
  rw [xlk_k hk, xC_arrI (by decide) (by decide) (by decide), xI_1]
  exact f1.trans (congrArg some (xup_i _ _ _ _ _))
theorem x_zast (X : xX p s m args c cc own D dA) (hR : xRel z D dA T S H) (hS : va_S (fun q => z ≤ q) H0 H locs) {a : Nat} {i v : Int32} {A : Option α} (hf : (if xin i (T.2.1 a) = true then A else none) = some o) (hk : xlk T a 23 = true) (hdg : decode cc pc = .ok (.bastore, 1))
    (kk : ∀ (H1 : Heap) (locs1 : List Loc), A = some o → xRel z D dA T (xI S a i.toNatClampNeg (vp_nar .boolean v)) H1 → va_S (fun q => z ≤ q) H0 H1 locs1 → W p l e R s m args below meth c H1 locs1 cells slots Q (F0 m (pc + 1) ls rest)) : W p l e R s m args below meth c H locs cells slots Q (F0 m pc ls (.int v :: .int i :: .ref (z + a) :: rest)) := by
  obtain ⟨h1, h2⟩ := x_ok hf
  obtain ⟨hx, hb, hown, hts, hK, hN⟩ := X
  have hP := hR.arrI hk (by decide) (by decide) (by decide)
  refine W.zast hx hb hP ((hK.2 3 _ rfl).1 (T.2.1 a) (fun j => .int (S.1 a j))) (fun q => by cases q) (by show ¬ (i < 0 ∨ (arrV _ _ _).slots.size ≤ _); rw [arrV_size]; exact xin_vp h1) rfl rfl hdg fun H' f1 f2 f3 => ?_
  have hnar : narrow .boolean (.int v) = .int (vp_nar .boolean v) := by rfl
  rw [hnar] at f1
  refine kk H' _ h2 (hR.put f2 f3 (fun b hb => xput_ne _ _ _ hb) (fun _ _ => rfl) (fun _ _ => rfl) ?_) (hS.put f2 f3 (Nat.le_add_right _ _))
  rw [xlk_k hk, xC_arrI (by decide) (by decide) (by decide), xI_1]
  exact f1.trans (congrArg some (xup_i _ _ _ _ _))
theorem x_cast (X : xX p s m args c cc own D dA) (hR : xRel z D dA T S H) (hS : va_S (fun q => z ≤ q) H0 H locs) {a : Nat} {i v : Int32} {A : Option α} (hf : (if xin i (T.2.1 a) = true then A else none) = some o) (hk : xlk T a 24 = true) (hdg : decode cc pc = .ok (.castore, 1))
    (kk : ∀ (H1 : Heap) (locs1 : List Loc), A = some o → xRel z D dA T (xI S a i.toNatClampNeg (vp_nar .char v)) H1 → va_S (fun q => z ≤ q) H0 H1 locs1 → W p l e R s m args below meth c H1 locs1 cells slots Q (F0 m (pc + 1) ls rest)) : W p l e R s m args below meth c H locs cells slots Q (F0 m pc ls (.int v :: .int i :: .ref (z + a) :: rest)) := by
  obtain ⟨h1, h2⟩ := x_ok hf
  obtain ⟨hx, hb, hown, hts, hK, hN⟩ := X
  have hP := hR.arrI hk (by decide) (by decide) (by decide)
  refine W.cast hx hb hP ((hK.2 4 _ rfl).1 (T.2.1 a) (fun j => .int (S.1 a j))) (fun q => by cases q) (by show ¬ (i < 0 ∨ (arrV _ _ _).slots.size ≤ _); rw [arrV_size]; exact xin_vp h1) rfl rfl hdg fun H' f1 f2 f3 => ?_
  have hnar : narrow .char (.int v) = .int (vp_nar .char v) := by rfl
  rw [hnar] at f1
  refine kk H' _ h2 (hR.put f2 f3 (fun b hb => xput_ne _ _ _ hb) (fun _ _ => rfl) (fun _ _ => rfl) ?_) (hS.put f2 f3 (Nat.le_add_right _ _))
  rw [xlk_k hk, xC_arrI (by decide) (by decide) (by decide), xI_1]
  exact f1.trans (congrArg some (xup_i _ _ _ _ _))
theorem x_last (X : xX p s m args c cc own D dA) (hR : xRel z D dA T S H) (hS : va_S (fun q => z ≤ q) H0 H locs) {a : Nat} {i : Int32} {v : Int64} {A : Option α} (hf : (if xin i (T.2.1 a) = true then A else none) = some o) (hk : xlk T a 21 = true) (hdg : decode cc pc = .ok (.lastore, 1))
    (kk : ∀ (H1 : Heap) (locs1 : List Loc), A = some o → xRel z D dA T (xJ S a i.toNatClampNeg v) H1 → va_S (fun q => z ≤ q) H0 H1 locs1 → W p l e R s m args below meth c H1 locs1 cells slots Q (F0 m (pc + 1) ls rest)) : W p l e R s m args below meth c H locs cells slots Q (F0 m pc ls (.long v :: .int i :: .ref (z + a) :: rest)) := by
  obtain ⟨h1, h2⟩ := x_ok hf
  obtain ⟨hx, hb, hown, hts, hK, hN⟩ := X
  have hP := hR.arrJ hk
  refine W.last hx hb hP ((hK.2 1 _ rfl).1 (T.2.1 a) (fun j => .long (S.2.1 a j))) (fun q => by cases q) (by show ¬ (i < 0 ∨ (arrV _ _ _).slots.size ≤ _); rw [arrV_size]; exact xin_vp h1) rfl rfl hdg fun H' f1 f2 f3 => ?_
  refine kk H' _ h2 (hR.put f2 f3 (fun _ _ => rfl) (fun b hb => xput_ne _ _ _ hb) (fun _ _ => rfl) ?_) (hS.put f2 f3 (Nat.le_add_right _ _))
  rw [xlk_k hk, xJ_1]
  exact f1.trans (congrArg some (xup_j _ _ _ _ _))
end XARR
