/-! the text of acts: one pure reader -/
theorem if01 {α : Type} (b : Bool) (X Y : α) : (if (if b = true then (1 : Int32) else 0) = 0 then X else Y) = if b = true then Y else X := by
  cases b
  · rw [if_pos (show (if false = true then (1 : Int32) else 0) = 0 by decide), if_neg (show ¬ false = true by decide)]
  · rw [if_neg (show ¬ (if true = true then (1 : Int32) else 0) = 0 by decide), if_pos (show true = true from rfl)]
def tAk (tb : Nat → Int32) (L q : Nat) : Int32 := if tIw tb L q 12 = true then 0 else if tIw tb L q 13 = true then 1 else if tIw tb L q 14 = true then 2 else if tIw tb L q 15 = true then 3 else if tIw tb L q 16 = true then 4 else if tIw tb L q 17 = true then 5 else if tIw tb L q 18 = true then 6 else if tIw tb L q 19 = true then 7 else if tIw tb L q 20 = true then 8 else if tIw tb L q 21 = true then 9 else -1
theorem c_actHere {T : xT} {S : xS} {tb : Nat → Int32} {L q : Nat} (h : cTb T S tb L) (hq : q ≤ L) {g : Nat → Int32} (hg : cTk tb L q g) : f_X0_actHere T (xw S 1 g) 1 = some (tAk tb L q, xw S 1 g) := by
  unfold f_X0_actHere tAk
  rw [c_isWord (i := 12) h hq (by decide) hg, xc_e, if01, c_isWord (i := 13) h hq (by decide) hg, xc_e, if01, c_isWord (i := 14) h hq (by decide) hg, xc_e, if01, c_isWord (i := 15) h hq (by decide) hg, xc_e, if01, c_isWord (i := 16) h hq (by decide) hg, xc_e, if01, c_isWord (i := 17) h hq (by decide) hg, xc_e, if01, c_isWord (i := 18) h hq (by decide) hg, xc_e, if01, c_isWord (i := 19) h hq (by decide) hg, xc_e, if01, c_isWord (i := 20) h hq (by decide) hg, xc_e, if01, c_isWord (i := 21) h hq (by decide) hg, xc_e, if01]
  generalize tIw tb L q 12 = b0
  generalize tIw tb L q 13 = b1
  generalize tIw tb L q 14 = b2
  generalize tIw tb L q 15 = b3
  generalize tIw tb L q 16 = b4
  generalize tIw tb L q 17 = b5
  generalize tIw tb L q 18 = b6
  generalize tIw tb L q 19 = b7
  generalize tIw tb L q 20 = b8
  generalize tIw tb L q 21 = b9
  cases b0 <;> try rfl
  cases b1 <;> try rfl
  cases b2 <;> try rfl
  cases b3 <;> try rfl
  cases b4 <;> try rfl
  cases b5 <;> try rfl
  cases b6 <;> try rfl
  cases b7 <;> try rfl
  cases b8 <;> try rfl
  cases b9 <;> rfl
theorem wd_12 (T : xT) (S : xS) : f_X10_w5 T S 99 108 111 115 101 = some (tLt 12, S) := by
  unfold f_X10_w5 f_X10_w4 f_X10_w3
  simp only [r_lett, xc_e]
  exact congrArg (fun w => some (w, S)) (by decide +kernel)
theorem wd_13 (T : xT) (S : xS) : f_X10_w4 T S 101 97 114 110 = some (tLt 13, S) := by
  unfold f_X10_w4 f_X10_w3
  simp only [r_lett, xc_e]
  exact congrArg (fun w => some (w, S)) (by decide +kernel)
theorem wd_14 (T : xT) (S : xS) : f_X10_w4 T S 108 111 115 101 = some (tLt 14, S) := by
  unfold f_X10_w4 f_X10_w3
  simp only [r_lett, xc_e]
  exact congrArg (fun w => some (w, S)) (by decide +kernel)
theorem wd_15 (T : xT) (S : xS) : f_X10_w6 T S 98 111 114 114 111 119 = some (tLt 15, S) := by
  unfold f_X10_w6 f_X10_w5 f_X10_w4 f_X10_w3
  simp only [r_lett, xc_e]
  exact congrArg (fun w => some (w, S)) (by decide +kernel)
theorem wd_16 (T : xT) (S : xS) : f_X10_w5 T S 114 101 112 97 121 = some (tLt 16, S) := by
  unfold f_X10_w5 f_X10_w4 f_X10_w3
  simp only [r_lett, xc_e]
  exact congrArg (fun w => some (w, S)) (by decide +kernel)
theorem wd_17 (T : xT) (S : xS) : f_X10_w6 T S 109 97 114 107 101 116 = some (tLt 17, S) := by
  unfold f_X10_w6 f_X10_w5 f_X10_w4 f_X10_w3
  simp only [r_lett, xc_e]
  exact congrArg (fun w => some (w, S)) (by decide +kernel)
theorem wd_18 (T : xT) (S : xS) : f_X10_w3 T S 112 97 121 = some (tLt 18, S) := by
  unfold f_X10_w3
  simp only [r_lett, xc_e]
  exact congrArg (fun w => some (w, S)) (by decide +kernel)
theorem wd_19 (T : xT) (S : xS) : f_X10_w4 T S 100 114 97 119 = some (tLt 19, S) := by
  unfold f_X10_w4 f_X10_w3
  simp only [r_lett, xc_e]
  exact congrArg (fun w => some (w, S)) (by decide +kernel)
theorem wd_20 (T : xT) (S : xS) : f_X10_w4 T S 99 111 109 101 = some (tLt 20, S) := by
  unfold f_X10_w4 f_X10_w3
  simp only [r_lett, xc_e]
  exact congrArg (fun w => some (w, S)) (by decide +kernel)
theorem wd_21 : lett (lett 0 103) 111 = tLt 21 := by decide +kernel
theorem r_actHere {T : xT} {S : xS} {tb : Nat → Int32} {L q : Nat} (hq : q ≤ L) {g : Nat → Int32} {j : Nat → Int64} (hg : rTk tb L q g j) : f_X10_actHere T (rW S g j) 199 = some (tAk tb L q, rW S g j) := by
  unfold f_X10_actHere tAk
  rw [wd_12, xc_e, r_isWord (i := 12) hq (by decide) hg rfl, xc_e, if01, wd_13, xc_e, r_isWord (i := 13) hq (by decide) hg rfl, xc_e, if01, wd_14, xc_e, r_isWord (i := 14) hq (by decide) hg rfl, xc_e, if01, wd_15, xc_e, r_isWord (i := 15) hq (by decide) hg rfl, xc_e, if01, wd_16, xc_e, r_isWord (i := 16) hq (by decide) hg rfl, xc_e, if01, wd_17, xc_e, r_isWord (i := 17) hq (by decide) hg rfl, xc_e, if01, wd_18, xc_e, r_isWord (i := 18) hq (by decide) hg rfl, xc_e, if01, wd_19, xc_e, r_isWord (i := 19) hq (by decide) hg rfl, xc_e, if01, wd_20, xc_e, r_isWord (i := 20) hq (by decide) hg rfl, xc_e, if01, r_lett, xc_e, r_lett, xc_e, wd_21, r_isWord (i := 21) hq (by decide) hg rfl, xc_e, if01]
  generalize tIw tb L q 12 = b0
  generalize tIw tb L q 13 = b1
  generalize tIw tb L q 14 = b2
  generalize tIw tb L q 15 = b3
  generalize tIw tb L q 16 = b4
  generalize tIw tb L q 17 = b5
  generalize tIw tb L q 18 = b6
  generalize tIw tb L q 19 = b7
  generalize tIw tb L q 20 = b8
  generalize tIw tb L q 21 = b9
  cases b0 <;> try rfl
  cases b1 <;> try rfl
  cases b2 <;> try rfl
  cases b3 <;> try rfl
  cases b4 <;> try rfl
  cases b5 <;> try rfl
  cases b6 <;> try rfl
  cases b7 <;> try rfl
  cases b8 <;> try rfl
  cases b9 <;> rfl
theorem tAk_r (tb : Nat → Int32) (L q : Nat) (hq : q ≤ L) : tAk tb L q = -1 ∨ (∃ k, k < 10 ∧ tAk tb L q = nI k) ∧ tKd tb L q ≠ 0 ∧ q + 2 ≤ tNx tb L q ∧ (tAk tb L q ≠ 9 → q + 3 ≤ tNx tb L q) ∧ (tAk tb L q = 0 → q + 5 ≤ tNx tb L q) ∧ (tAk tb L q = 1 → q + 4 ≤ tNx tb L q) := by
  have hp := (tPl_r tb hq).1
  have key : ∀ i, tIw tb L q i = true → tKd tb L q ≠ 0 ∧ q + xlen.getD i 0 ≤ tNx tb L q := fun i h => by
    refine ⟨fun z => ?_, by rw [tIw_len h]; omega⟩
    unfold tIw at h
    rw [z, if_neg (by decide)] at h
    cases h
  unfold tAk
  by_cases h0 : tIw tb L q 12 = true
  · obtain ⟨a, b⟩ := key 12 h0
    have b : q + 5 ≤ tNx tb L q := b
    rw [if_pos h0]
    exact Or.inr ⟨⟨0, by omega, rfl⟩, a, by omega, fun _ => by omega, fun _ => b, fun z => absurd z (by decide)⟩
  rw [if_neg h0]
  by_cases h1 : tIw tb L q 13 = true
  · obtain ⟨a, b⟩ := key 13 h1
    have b : q + 4 ≤ tNx tb L q := b
    rw [if_pos h1]
    exact Or.inr ⟨⟨1, by omega, rfl⟩, a, by omega, fun _ => by omega, fun z => absurd z (by decide), fun _ => b⟩
  rw [if_neg h1]
  by_cases h2 : tIw tb L q 14 = true
  · obtain ⟨a, b⟩ := key 14 h2
    have b : q + 4 ≤ tNx tb L q := b
    rw [if_pos h2]
    exact Or.inr ⟨⟨2, by omega, rfl⟩, a, by omega, fun _ => by omega, fun z => absurd z (by decide), fun z => absurd z (by decide)⟩
  rw [if_neg h2]
  by_cases h3 : tIw tb L q 15 = true
  · obtain ⟨a, b⟩ := key 15 h3
    have b : q + 6 ≤ tNx tb L q := b
    rw [if_pos h3]
    exact Or.inr ⟨⟨3, by omega, rfl⟩, a, by omega, fun _ => by omega, fun z => absurd z (by decide), fun z => absurd z (by decide)⟩
  rw [if_neg h3]
  by_cases h4 : tIw tb L q 16 = true
  · obtain ⟨a, b⟩ := key 16 h4
    have b : q + 5 ≤ tNx tb L q := b
    rw [if_pos h4]
    exact Or.inr ⟨⟨4, by omega, rfl⟩, a, by omega, fun _ => by omega, fun z => absurd z (by decide), fun z => absurd z (by decide)⟩
  rw [if_neg h4]
  by_cases h5 : tIw tb L q 17 = true
  · obtain ⟨a, b⟩ := key 17 h5
    have b : q + 6 ≤ tNx tb L q := b
    rw [if_pos h5]
    exact Or.inr ⟨⟨5, by omega, rfl⟩, a, by omega, fun _ => by omega, fun z => absurd z (by decide), fun z => absurd z (by decide)⟩
  rw [if_neg h5]
  by_cases h6 : tIw tb L q 18 = true
  · obtain ⟨a, b⟩ := key 18 h6
    have b : q + 3 ≤ tNx tb L q := b
    rw [if_pos h6]
    exact Or.inr ⟨⟨6, by omega, rfl⟩, a, by omega, fun _ => by omega, fun z => absurd z (by decide), fun z => absurd z (by decide)⟩
  rw [if_neg h6]
  by_cases h7 : tIw tb L q 19 = true
  · obtain ⟨a, b⟩ := key 19 h7
    have b : q + 4 ≤ tNx tb L q := b
    rw [if_pos h7]
    exact Or.inr ⟨⟨7, by omega, rfl⟩, a, by omega, fun _ => by omega, fun z => absurd z (by decide), fun z => absurd z (by decide)⟩
  rw [if_neg h7]
  by_cases h8 : tIw tb L q 20 = true
  · obtain ⟨a, b⟩ := key 20 h8
    have b : q + 4 ≤ tNx tb L q := b
    rw [if_pos h8]
    exact Or.inr ⟨⟨8, by omega, rfl⟩, a, by omega, fun _ => by omega, fun z => absurd z (by decide), fun z => absurd z (by decide)⟩
  rw [if_neg h8]
  by_cases h9 : tIw tb L q 21 = true
  · obtain ⟨a, b⟩ := key 21 h9
    have b : q + 2 ≤ tNx tb L q := b
    rw [if_pos h9]
    exact Or.inr ⟨⟨9, by omega, rfl⟩, a, by omega, fun z => absurd rfl z, fun z => absurd z (by decide), fun z => absurd z (by decide)⟩
  rw [if_neg h9]
  exact Or.inl rfl
/-- who: well, the next place, and he or it -/
def pWh (tb : Nat → Int32) (L q : Nat) (kd : Int32) : Bool × Nat × Int32 := if kd ≤ 1 then (true, q, 0) else if kd ≤ 5 then (decide (tNm tb L q 0 7 ≠ -1), if tNm tb L q 0 7 ≠ -1 then tNx tb L q else q, tNm tb L q 0 7) else (decide (tPn tb L q ≠ -1), if tPn tb L q ≠ -1 then tNx tb L q else q, tPn tb L q)
def pNu (tb : Nat → Int32) (L q : Nat) : Bool × Nat × Int32 := (decide (tNm tb L q 0 1000000 ≠ -1), if tNm tb L q 0 1000000 ≠ -1 then tNx tb L q else q, tNm tb L q 0 1000000)
def pAm (tb : Nat → Int32) (L q : Nat) (kd : Int32) : Bool × Nat × Int32 := if kd = 0 ∨ kd = 9 then (true, q, 0) else if kd = 1 ∧ tKd tb L q = 3 ∧ tb (tPl tb L q) = 45 then ((pNu tb L (tNx tb L q)).1, (pNu tb L (tNx tb L q)).2.1, -(pNu tb L (tNx tb L q)).2.2) else pNu tb L q
/-- an act: well, the next place, its kind, who, how much -/
def pAc (tb : Nat → Int32) (L q : Nat) : Bool × Nat × Int32 × Int32 × Int32 := if tAk tb L q = -1 then (false, q, 0, 0, 0) else if (pWh tb L (tNx tb L q) (tAk tb L q)).1 = false then (false, (pWh tb L (tNx tb L q) (tAk tb L q)).2.1, 0, 0, 0) else if (pAm tb L (pWh tb L (tNx tb L q) (tAk tb L q)).2.1 (tAk tb L q)).1 = false then (false, (pAm tb L (pWh tb L (tNx tb L q) (tAk tb L q)).2.1 (tAk tb L q)).2.1, 0, 0, 0) else if tKd tb L (pAm tb L (pWh tb L (tNx tb L q) (tAk tb L q)).2.1 (tAk tb L q)).2.1 = 3 ∧ tb (tPl tb L (pAm tb L (pWh tb L (tNx tb L q) (tAk tb L q)).2.1 (tAk tb L q)).2.1) = 59 then (true, tNx tb L (pAm tb L (pWh tb L (tNx tb L q) (tAk tb L q)).2.1 (tAk tb L q)).2.1, tAk tb L q, (pWh tb L (tNx tb L q) (tAk tb L q)).2.2, (pAm tb L (pWh tb L (tNx tb L q) (tAk tb L q)).2.1 (tAk tb L q)).2.2) else (false, (pAm tb L (pWh tb L (tNx tb L q) (tAk tb L q)).2.1 (tAk tb L q)).2.1, 0, 0, 0)
theorem tNm_0 {tb : Nat → Int32} {L q : Nat} {lo hi : Int32} (h : tNm tb L q lo hi ≠ -1) : tKd tb L q ≠ 0 := by
  rw [(tNm_r h).2.1]; decide
theorem pWh_r {tb : Nat → Int32} {L q : Nat} (hq : q ≤ L) (kd : Int32) : (pWh tb L q kd).2.1 ≤ L ∧ q ≤ (pWh tb L q kd).2.1 ∧ (¬ kd ≤ 1 → (pWh tb L q kd).1 = true → q + 1 ≤ (pWh tb L q kd).2.1) := by
  have r := tNx_r tb hq
  unfold pWh
  by_cases a : kd ≤ 1
  · rw [if_pos a]
    exact ⟨hq, Nat.le_refl _, fun z => absurd a z⟩
  · rw [if_neg a]
    by_cases c : kd ≤ 5
    · rw [if_pos c]
      by_cases d : tNm tb L q 0 7 ≠ -1
      · simp only [if_pos d]
        have := r.2.2 (tNm_0 d)
        exact ⟨r.2.1, by omega, fun _ _ => by omega⟩
      · simp only [if_neg d]
        exact ⟨hq, Nat.le_refl _, fun _ z => absurd (of_decide_eq_true z) d⟩
    · rw [if_neg c]
      by_cases d : tPn tb L q ≠ -1
      · simp only [if_pos d]
        obtain ⟨_, _, _, d0⟩ := tPn_r d
        have := r.2.2 d0
        exact ⟨r.2.1, by omega, fun _ _ => by omega⟩
      · simp only [if_neg d]
        exact ⟨hq, Nat.le_refl _, fun _ z => absurd (of_decide_eq_true z) d⟩
theorem pNu_r {tb : Nat → Int32} {L q : Nat} (hq : q ≤ L) : (pNu tb L q).2.1 ≤ L ∧ q ≤ (pNu tb L q).2.1 ∧ ((pNu tb L q).1 = true → q + 1 ≤ (pNu tb L q).2.1) := by
  have r := tNx_r tb hq
  unfold pNu
  by_cases d : tNm tb L q 0 1000000 ≠ -1
  · simp only [if_pos d]
    have := r.2.2 (tNm_0 d)
    exact ⟨r.2.1, by omega, fun _ => by omega⟩
  · simp only [if_neg d]
    exact ⟨hq, Nat.le_refl _, fun z => absurd (of_decide_eq_true z) d⟩
theorem pAm_r {tb : Nat → Int32} {L q : Nat} (hq : q ≤ L) (kd : Int32) : (pAm tb L q kd).2.1 ≤ L ∧ q ≤ (pAm tb L q kd).2.1 ∧ (¬ kd = 0 → ¬ kd = 9 → (pAm tb L q kd).1 = true → q + 1 ≤ (pAm tb L q kd).2.1) := by
  have r := tNx_r tb hq
  unfold pAm
  by_cases a : kd = 0 ∨ kd = 9
  · rw [if_pos a]
    exact ⟨hq, Nat.le_refl _, fun z1 z2 => absurd a (fun z => z.elim z1 z2)⟩
  · rw [if_neg a]
    by_cases c : kd = 1 ∧ tKd tb L q = 3 ∧ tb (tPl tb L q) = 45
    · rw [if_pos c]
      have p := pNu_r (tb := tb) r.2.1
      exact ⟨p.1, by have := p.2.1; have := r.1; show q ≤ (pNu tb L (tNx tb L q)).2.1; omega, fun _ _ z => by have := p.2.2 z; have := r.1; show q + 1 ≤ (pNu tb L (tNx tb L q)).2.1; omega⟩
    · rw [if_neg c]
      have p := pNu_r (tb := tb) hq
      exact ⟨p.1, p.2.1, fun _ _ z => p.2.2 z⟩
/-- an act that is well is as long as this -/
theorem pAc_r {tb : Nat → Int32} {L q : Nat} (hq : q ≤ L) : (pAc tb L q).2.1 ≤ L ∧ ((pAc tb L q).1 = true → (pAc tb L q).2.2.1 = tAk tb L q ∧ tAk tb L q ≠ -1 ∧ (if tAk tb L q = 9 then 0 else 5) + q ≤ (pAc tb L q).2.1) := by
  unfold pAc
  by_cases a : tAk tb L q = -1
  · rw [if_pos a]; exact ⟨hq, fun z => by cases z⟩
  rw [if_neg a]
  rcases tAk_r tb L q hq with z | ⟨⟨k, hk, ek⟩, t0, t1, t2, t3, t4⟩
  · exact absurd z a
  have r := tNx_r tb hq
  have w := pWh_r (tb := tb) r.2.1 (tAk tb L q)
  by_cases b : (pWh tb L (tNx tb L q) (tAk tb L q)).1 = false
  · rw [if_pos b]; exact ⟨w.1, fun z => by cases z⟩
  rw [if_neg b]
  have m := pAm_r (tb := tb) w.1 (tAk tb L q)
  by_cases c : (pAm tb L (pWh tb L (tNx tb L q) (tAk tb L q)).2.1 (tAk tb L q)).1 = false
  · rw [if_pos c]; exact ⟨m.1, fun z => by cases z⟩
  rw [if_neg c]
  have r2 := tNx_r tb m.1
  by_cases d : tKd tb L (pAm tb L (pWh tb L (tNx tb L q) (tAk tb L q)).2.1 (tAk tb L q)).2.1 = 3 ∧ tb (tPl tb L (pAm tb L (pWh tb L (tNx tb L q) (tAk tb L q)).2.1 (tAk tb L q)).2.1) = 59
  · rw [if_pos d]
    refine ⟨r2.2.1, fun _ => ⟨rfl, a, ?_⟩⟩
    have d2 := r2.2.2 (by rw [d.1]; decide)
    have b' : (pWh tb L (tNx tb L q) (tAk tb L q)).1 = true := by cases hh : (pWh tb L (tNx tb L q) (tAk tb L q)).1 <;> simp_all
    have c' : (pAm tb L (pWh tb L (tNx tb L q) (tAk tb L q)).2.1 (tAk tb L q)).1 = true := by cases hh : (pAm tb L (pWh tb L (tNx tb L q) (tAk tb L q)).2.1 (tAk tb L q)).1 <;> simp_all
    show (if tAk tb L q = 9 then 0 else 5) + q ≤ tNx tb L (pAm tb L (pWh tb L (tNx tb L q) (tAk tb L q)).2.1 (tAk tb L q)).2.1
    have w1 := w.2.1
    have m1 := m.2.1
    by_cases e9 : tAk tb L q = 9
    · rw [if_pos e9]; omega
    · rw [if_neg e9]
      have t2 := t2 e9
      by_cases e0 : tAk tb L q = 0
      · have := t3 e0; omega
      · have m2 := m.2.2 e0 e9 c'
        by_cases e1 : tAk tb L q = 1
        · have := t4 e1; omega
        · have w2 := w.2.2 (by
            rw [ek] at e0 e1 ⊢
            intro z
            have e0' : k ≠ 0 := fun q => e0 (by rw [q]; rfl)
            have e1' : k ≠ 1 := fun q => e1 (by rw [q]; rfl)
            have := (nI_leI (a := k) (b := 1) (by omega) (by omega)).mp z
            omega) b'
          omega
  · rw [if_neg d]; exact ⟨m.1, fun z => by cases z⟩
/-- all acts: well, the next place, how many, their kinds, who, how much -/
def pAs (tb : Nat → Int32) (L : Nat) : Nat → Nat → Nat → (Nat → Int32) → (Nat → Int32) → (Nat → Int32) → Bool × Nat × Nat × (Nat → Int32) × (Nat → Int32) × (Nat → Int32)
  | 0, k, q, K, W, N => (decide (tKd tb L q = 0), q, k, K, W, N)
  | m + 1, k, q, K, W, N => if tKd tb L q = 0 then (true, q, k, K, W, N) else if (pAc tb L q).1 = true then pAs tb L m (k + 1) (pAc tb L q).2.1 (va_up K k (pAc tb L q).2.2.1) (va_up W k (pAc tb L q).2.2.2.1) (va_up N k (pAc tb L q).2.2.2.2) else (false, (pAc tb L q).2.1, k, K, W, N)
