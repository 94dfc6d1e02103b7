theorem xI_1 (S : xS) (a k : Nat) (v : Int32) : (xI S a k v).1 a = va_up (S.1 a) k v := xput_eq _ _ _ _
theorem xJ_1 (S : xS) (a k : Nat) (v : Int64) : (xJ S a k v).2.1 a = va_up (S.2.1 a) k v := xput_eq _ _ _ _
theorem xR_1 (S : xS) (a k : Nat) (v : Option Nat) : (xR S a k v).2.2 a = va_up (S.2.2 a) k v := xput_eq _ _ _ _
section XROW
variable {p : Program} {l : Launch} {e : Env} {R : Room} {s : State} {m : MethodId} {args : Array Value} {below : List Frame} {meth : Method} {c : Code} {H : Heap} {locs : List Loc} {cells slots : Nat} {Q : State → Prop}
variable {cc : ByteArray} {pc : Nat} {ls : Array Slot} {rest : List Value} {own : String} {z : Nat} {D : va_G} {dA : Nat → ClassId} {T : xT} {S : xS} {H0 : Heap} {α : Type} {o : α}
theorem x_getv (X : xX p s m args c cc own D dA) (hR : xRel z D dA T S H) {a ci k index kd : Nat} (hk : xlk T a ci = true) (hl : xFl own index ci k kd) (hdg : decode cc pc = .ok (.getfield index, 3))
    (kk : W p l e R s m args below meth c H locs cells slots Q (F0 m (pc + 3) ls (xv z (S.1 a) (S.2.1 a) (S.2.2 a) k kd :: rest))) : W p l e R s m args below meth c H locs cells slots Q (F0 m pc ls (.ref (z + a) :: rest)) := by
  obtain ⟨C, T', N, ty, ⟨hc, hin, hty, hnm, hci⟩, hkN, hlink, hkd⟩ := hl
  obtain ⟨hx, hb, hown, hts, hK, hN⟩ := X
  have hP := xOne (hR.obj hk hci)
  refine va_get (D := D) (ci := ci) (C := C) (T := T') (N := N) hx hb hts hin hown hK hP 0 rfl hc k hkN (hts _ hlink) (fun _ h => h) ?_ hdg kk
  rw [xfs_get, hkd]
  simp
theorem x_getI (X : xX p s m args c cc own D dA) (hR : xRel z D dA T S H) {a ci k index : Nat} (hk : xlk T a ci = true) (hl : xFl own index ci k 0) (hdg : decode cc pc = .ok (.getfield index, 3))
    (kk : W p l e R s m args below meth c H locs cells slots Q (F0 m (pc + 3) ls (.int (S.1 a k) :: rest))) : W p l e R s m args below meth c H locs cells slots Q (F0 m pc ls (.ref (z + a) :: rest)) := x_getv X hR hk hl hdg kk
theorem x_getJ (X : xX p s m args c cc own D dA) (hR : xRel z D dA T S H) {a ci k index : Nat} (hk : xlk T a ci = true) (hl : xFl own index ci k 1) (hdg : decode cc pc = .ok (.getfield index, 3))
    (kk : W p l e R s m args below meth c H locs cells slots Q (F0 m (pc + 3) ls (.long (S.2.1 a k) :: rest))) : W p l e R s m args below meth c H locs cells slots Q (F0 m pc ls (.ref (z + a) :: rest)) := x_getv X hR hk hl hdg kk
theorem x_getR (X : xX p s m args c cc own D dA) (hR : xRel z D dA T S H) {a ci k index kd : Nat} {K : Nat → Option α} (hf : (xld T S a k kd).bind K = some o) (hk : xlk T a ci = true) (hl : xFl own index ci k 2) (hdg : decode cc pc = .ok (.getfield index, 3))
    (kk : ∀ j, xlk T j kd = true → K j = some o → W p l e R s m args below meth c H locs cells slots Q (F0 m (pc + 3) ls (.ref (z + j) :: rest))) : W p l e R s m args below meth c H locs cells slots Q (F0 m pc ls (.ref (z + a) :: rest)) := by
  obtain ⟨j, h1, h2⟩ := Option.bind_eq_some_iff.mp hf
  obtain ⟨h3, h4⟩ := xld_of h1
  refine x_getv X hR hk hl hdg ?_
  have hv : xv z (S.1 a) (S.2.1 a) (S.2.2 a) k 2 = .ref (z + j) := by simp [xv, h3, va_rf]
  rw [hv]
  exact kk j h4 h2
theorem x_putv (X : xX p s m args c cc own D dA) (hR : xRel z D dA T S H) (hS : va_S (fun q => z ≤ q) H0 H locs) {a ci k index kd : Nat} {t : FieldType} {v : Value} {S' : xS} (hk : xlk T a ci = true) (hl : xFp own index ci k kd t) (hn : narrow t v = v) (hfit : fits t v = true)
    (h1 : ∀ b, b ≠ a → S'.1 b = S.1 b) (h2 : ∀ b, b ≠ a → S'.2.1 b = S.2.1 b) (h3 : ∀ b, b ≠ a → S'.2.2 b = S.2.2 b) (hset : (xlay ci)[k]? = some kd → (xfs z (S.1 a) (S.2.1 a) (S.2.2 a) (xlay ci) 0).set k v = xfs z (S'.1 a) (S'.2.1 a) (S'.2.2 a) (xlay ci) 0) (hdg : decode cc pc = .ok (.putfield index, 3))
    (kk : ∀ (H1 : Heap) (locs1 : List Loc), xRel z D dA T S' H1 → va_S (fun q => z ≤ q) H0 H1 locs1 → W p l e R s m args below meth c H1 locs1 cells slots Q (F0 m (pc + 3) ls rest)) : W p l e R s m args below meth c H locs cells slots Q (F0 m pc ls (v :: .ref (z + a) :: rest)) := by
  obtain ⟨C, T', N, ty, ⟨hc, hin, hty, hnm, hci⟩, hkN, hlink, hkd, hfin, hd⟩ := hl
  obtain ⟨hx, hb, hown, hts, hK, hN⟩ := X
  have hap := va_apart (own := own) hts hin ty hty hnm hK hc
  have hobj := hR.obj hk hci
  obtain ⟨r, e1, cell, q1, q2, q3, q4⟩ := hobj
  have hr : r = (C, T', N) := Option.some.inj (e1.symm.trans hc)
  subst hr
  obtain ⟨hSl, hfc, kC, hkC, hkind⟩ := hK.1 ci _ hc
  obtain ⟨cf, kf, fi, f, hi, hsl⟩ := hSl k hkN
  have hlay := hts _ (hin _ (u_in_lay hkN))
  unfold u_lay at hlay
  rw [if_neg (by rw [hfin]; decide)] at hlay
  have hst := (u_facts hfc hkC (u_lays hts hin hkN) hi).1
  have h6 := u_store hfc hkC hkind hlay hi hd hn hfit
  refine W.putK hx hb (f := f) ⟨hown, hts _ hlink, ⟨_, _, _, hi⟩, hst⟩ (by rw [q2]; exact h6) q1 q3 (by rw [hsl]; exact k2_hasslot (q4 k hkN)) rfl rfl hdg fun H' f1 f2 f3 => ?_
  rw [hsl] at f1 ⊢
  have hlen : k < (xfs z (S.1 a) (S.2.1 a) (S.2.2 a) (xlay ci) 0).length := by rw [xfs_len]; exact (List.getElem?_eq_some_iff.mp hkd).1
  refine kk H' _ (hR.put f2 f3 h1 h2 h3 ?_) (hS.put f2 f3 (Nat.le_add_right _ _))
  rw [xlk_k hk]
  unfold xC
  rw [if_pos hci, ← hset hkd]
  exact ⟨_, hc, t_OB.to (V := updV (vp_V (xfs z (S.1 a) (S.2.1 a) (S.2.2 a) (xlay ci) 0)) k v) ⟨_, f1, q2, q3, t_set q4 hap hkN v⟩ (fun j _ => vp_updV_set hlen v j)⟩
theorem x_putI (X : xX p s m args c cc own D dA) (hR : xRel z D dA T S H) (hS : va_S (fun q => z ≤ q) H0 H locs) {a ci k index : Nat} {v : Int32} (hk : xlk T a ci = true) (hl : xFp own index ci k 0 .int) (hdg : decode cc pc = .ok (.putfield index, 3))
    (kk : ∀ (H1 : Heap) (locs1 : List Loc), xRel z D dA T (xI S a k v) H1 → va_S (fun q => z ≤ q) H0 H1 locs1 → W p l e R s m args below meth c H1 locs1 cells slots Q (F0 m (pc + 3) ls rest)) : W p l e R s m args below meth c H locs cells slots Q (F0 m pc ls (.int v :: .ref (z + a) :: rest)) :=
  x_putv X hR hS (S' := xI S a k v) hk hl rfl rfl (fun b hb => xput_ne _ _ _ hb) (fun _ _ => rfl) (fun _ _ => rfl) (fun h => by rw [xI_1]; exact xfs_setI _ _ _ _ _ _ _ h) hdg kk
theorem x_putN (X : xX p s m args c cc own D dA) (hR : xRel z D dA T S H) (hS : va_S (fun q => z ≤ q) H0 H locs) {a ci k index : Nat} {v : Int32} {t : FieldType} (hn : narrow t (.int v) = .int v) (hfit : fits t (.int v) = true) (hk : xlk T a ci = true) (hl : xFp own index ci k 0 t) (hdg : decode cc pc = .ok (.putfield index, 3))
    (kk : ∀ (H1 : Heap) (locs1 : List Loc), xRel z D dA T (xI S a k v) H1 → va_S (fun q => z ≤ q) H0 H1 locs1 → W p l e R s m args below meth c H1 locs1 cells slots Q (F0 m (pc + 3) ls rest)) : W p l e R s m args below meth c H locs cells slots Q (F0 m pc ls (.int v :: .ref (z + a) :: rest)) :=
  x_putv X hR hS (S' := xI S a k v) hk hl hn hfit (fun b hb => xput_ne _ _ _ hb) (fun _ _ => rfl) (fun _ _ => rfl) (fun h => by rw [xI_1]; exact xfs_setI _ _ _ _ _ _ _ h) hdg kk
theorem x_putJ (X : xX p s m args c cc own D dA) (hR : xRel z D dA T S H) (hS : va_S (fun q => z ≤ q) H0 H locs) {a ci k index : Nat} {v : Int64} (hk : xlk T a ci = true) (hl : xFp own index ci k 1 .long) (hdg : decode cc pc = .ok (.putfield index, 3))
    (kk : ∀ (H1 : Heap) (locs1 : List Loc), xRel z D dA T (xJ S a k v) H1 → va_S (fun q => z ≤ q) H0 H1 locs1 → W p l e R s m args below meth c H1 locs1 cells slots Q (F0 m (pc + 3) ls rest)) : W p l e R s m args below meth c H locs cells slots Q (F0 m pc ls (.long v :: .ref (z + a) :: rest)) :=
  x_putv X hR hS (S' := xJ S a k v) hk hl rfl rfl (fun _ _ => rfl) (fun b hb => xput_ne _ _ _ hb) (fun _ _ => rfl) (fun h => by rw [xJ_1]; exact xfs_setJ _ _ _ _ _ _ _ h) hdg kk
theorem x_putR (X : xX p s m args c cc own D dA) (hR : xRel z D dA T S H) (hS : va_S (fun q => z ≤ q) H0 H locs) {a ci k index j : Nat} {t : FieldType} (hn : ∀ q, narrow t (.ref q) = .ref q) (hfit : ∀ q, fits t (.ref q) = true) (hk : xlk T a ci = true) (hl : xFp own index ci k 2 t) (hdg : decode cc pc = .ok (.putfield index, 3))
    (kk : ∀ (H1 : Heap) (locs1 : List Loc), xRel z D dA T (xR S a k (some j)) H1 → va_S (fun q => z ≤ q) H0 H1 locs1 → W p l e R s m args below meth c H1 locs1 cells slots Q (F0 m (pc + 3) ls rest)) : W p l e R s m args below meth c H locs cells slots Q (F0 m pc ls (.ref (z + j) :: .ref (z + a) :: rest)) :=
  x_putv X hR hS (S' := xR S a k (some j)) hk hl (hn _) (hfit _) (fun _ _ => rfl) (fun _ _ => rfl) (fun b hb => xput_ne _ _ _ hb) (fun h => by rw [xR_1]; exact xfs_setR _ _ _ _ _ _ (some j) h) hdg kk
theorem x_putFv (X : xX p s m args c cc own D dA) (hR : xRel z D dA T S H) (hS : va_S (fun q => z ≤ q) H0 H locs) (hini : meth.name = "<init>") {a ci k index kd : Nat} {t : FieldType} {v : Value} {S' : xS} (hk : xlk T a ci = true) (hl : xFf own index ci k kd t) (hn : narrow t v = v) (hfit : fits t v = true)
    (h1 : ∀ b, b ≠ a → S'.1 b = S.1 b) (h2 : ∀ b, b ≠ a → S'.2.1 b = S.2.1 b) (h3 : ∀ b, b ≠ a → S'.2.2 b = S.2.2 b) (hset : (xlay ci)[k]? = some kd → (xfs z (S.1 a) (S.2.1 a) (S.2.2 a) (xlay ci) 0).set k v = xfs z (S'.1 a) (S'.2.1 a) (S'.2.2 a) (xlay ci) 0) (hdg : decode cc pc = .ok (.putfield index, 3))
    (kk : ∀ (H1 : Heap) (locs1 : List Loc), xRel z D dA T S' H1 → va_S (fun q => z ≤ q) H0 H1 locs1 → W p l e R s m args below meth c H1 locs1 cells slots Q (F0 m (pc + 3) ls rest)) : W p l e R s m args below meth c H locs cells slots Q (F0 m pc ls (v :: .ref (z + a) :: rest)) := by
  obtain ⟨C, T', N, ty, ⟨hc, hin, hty, hnm, hci⟩, hkN, hlink, hkd, hfin, hdecl, hd⟩ := hl
  obtain ⟨hx, hb, hown, hts, hK, hN⟩ := X
  have hap := va_apart (own := own) hts hin ty hty hnm hK hc
  have hobj := hR.obj hk hci
  obtain ⟨r, e1, cell, q1, q2, q3, q4⟩ := hobj
  have hr : r = (C, T', N) := Option.some.inj (e1.symm.trans hc)
  subst hr
  obtain ⟨hSl, hfc, kC, hkC, hkind⟩ := hK.1 ci _ hc
  obtain ⟨cf, kf, fi, f, hi, hsl⟩ := hSl k hkN
  have hlay := hts _ (hin _ (u_in_lay hkN))
  unfold u_lay at hlay
  rw [if_pos hfin] at hlay
  have hst := (u_facts hfc hkC (u_lays hts hin hkN) hi).1
  have hcf : m.cls = cf := by
    obtain ⟨_, _, c', _, _, _, -, -, hf', -, -, -, hown2, -⟩ := Cond.laysFinal_spec hlay
    have e1 : c' = cf := by have := hi.symm.trans hf'; simp at this; exact this.1.symm
    rw [hdecl] at hown2
    rw [← e1]; exact Option.some.inj (hown.symm.trans hown2)
  have h6 := u_fits hfc hkC hkind (Or.inr hlay) hi hd hn hfit
  refine W.putFinK hx hb hown (hts _ hlink) hi hst hcf hini (by rw [q2]; exact h6) q1 q3 (by rw [hsl]; exact k2_hasslot (q4 k hkN)) rfl rfl hdg fun H' f1 f2 f3 => ?_
  rw [hsl] at f1 ⊢
  have hlen : k < (xfs z (S.1 a) (S.2.1 a) (S.2.2 a) (xlay ci) 0).length := by rw [xfs_len]; exact (List.getElem?_eq_some_iff.mp hkd).1
  refine kk H' _ (hR.put f2 f3 h1 h2 h3 ?_) (hS.put f2 f3 (Nat.le_add_right _ _))
  rw [xlk_k hk]
  unfold xC
  rw [if_pos hci, ← hset hkd]
  exact ⟨_, hc, t_OB.to (V := updV (vp_V (xfs z (S.1 a) (S.2.1 a) (S.2.2 a) (xlay ci) 0)) k v) ⟨_, f1, q2, q3, t_set q4 hap hkN v⟩ (fun j _ => vp_updV_set hlen v j)⟩
theorem x_putF (X : xX p s m args c cc own D dA) (hR : xRel z D dA T S H) (hS : va_S (fun q => z ≤ q) H0 H locs) (hini : meth.name = "<init>") {a ci k index j : Nat} {t : FieldType} (hn : ∀ q, narrow t (.ref q) = .ref q) (hfit : ∀ q, fits t (.ref q) = true) (hk : xlk T a ci = true) (hl : xFf own index ci k 2 t) (hdg : decode cc pc = .ok (.putfield index, 3))
    (kk : ∀ (H1 : Heap) (locs1 : List Loc), xRel z D dA T (xR S a k (some j)) H1 → va_S (fun q => z ≤ q) H0 H1 locs1 → W p l e R s m args below meth c H1 locs1 cells slots Q (F0 m (pc + 3) ls rest)) : W p l e R s m args below meth c H locs cells slots Q (F0 m pc ls (.ref (z + j) :: .ref (z + a) :: rest)) :=
  x_putFv X hR hS hini (S' := xR S a k (some j)) hk hl (hn _) (hfit _) (fun _ _ => rfl) (fun _ _ => rfl) (fun b hb => xput_ne _ _ _ hb) (fun h => by rw [xR_1]; exact xfs_setR _ _ _ _ _ _ (some j) h) hdg kk
theorem x_if {A B : Option α} {P : Prop} {d : Decidable P} (hf : (@ite _ P d A B) = some o) {G : Prop} (kt : P → A = some o → G) (kf : ¬ P → B = some o → G) : G := by
  by_cases h : P
  · exact kt h (by rw [if_pos h] at hf; exact hf)
  · exact kf h (by rw [if_neg h] at hf; exact hf)
theorem x_ok {A : Option α} {b : Bool} (hf : (if b = true then A else none) = some o) : b = true ∧ A = some o := by
  cases b
  · simp at hf
  · exact ⟨rfl, by simpa using hf⟩
end XROW
