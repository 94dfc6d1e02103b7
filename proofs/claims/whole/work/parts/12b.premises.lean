def xd0 : String × Nat × String × Nat := ("", 0, "", 0)
def xtm (i : Nat) : Term := .string (xsl.getD i xd0).1 (xsl.getD i xd0).2.1
theorem xsl_i : ∀ i, i < 22 → (xsl.getD i xd0).2.2.2 = i := by decide +kernel
theorem xs_ex : ∀ i, i < 22 → Cond.exactly (xtm i) "java/lang/String" ∈ flatC (Jvm.Cond.and given_1 narrow_1) := by decide +kernel
theorem xs_co : ∀ i, i < 22 → Cond.eq (.field (xtm i) "java/lang/String" "coder" "B") (.int 0) ∈ flatC (Jvm.Cond.and given_1 narrow_1) := by decide +kernel
theorem xs_ar : ∀ i, i < 22 → Cond.arrayOf (.field (xtm i) "java/lang/String" "value" "[B") .byte ∈ flatC (Jvm.Cond.and given_1 narrow_1) := by decide +kernel
theorem xs_le : ∀ i, i < 22 → Cond.eq (.length (.field (xtm i) "java/lang/String" "value" "[B")) (.int (Int32.ofNat (xlen.getD i 0))) ∈ flatC (Jvm.Cond.and given_1 narrow_1) := by decide +kernel
theorem xs_el : ∀ i, i < 22 → ∀ j, j < xlen.getD i 0 → Cond.eq (.elem (.field (xtm i) "java/lang/String" "value" "[B") (.int (Int32.ofNat j))) (.int ((xbyt.getD i []).getD j 0)) ∈ flatC (Jvm.Cond.and given_1 narrow_1) := by decide +kernel
def xisnot (c : Cond) : Bool := match c with
  | .not _ => true
  | _ => false
def xpairs : List (Nat × Nat) := (List.range 22).flatMap (fun j => (List.range j).map (fun i => (i, j)))
theorem xs_nl : (flatC (Jvm.Cond.and given_1 narrow_1)).filter xisnot = xpairs.map (fun q => Cond.not (Cond.eq (xtm q.1) (xtm q.2))) := by decide +kernel
theorem xs_ne : ∀ i, i < 22 → ∀ j, j < 22 → i < j → Cond.not (Cond.eq (xtm i) (xtm j)) ∈ flatC (Jvm.Cond.and given_1 narrow_1) := by
  intro i hi j hj hij
  have h1 : (i, j) ∈ xpairs := List.mem_flatMap.mpr ⟨j, List.mem_range.mpr hj, List.mem_map.mpr ⟨i, List.mem_range.mpr hij, rfl⟩⟩
  have h2 : Cond.not (Cond.eq (xtm i) (xtm j)) ∈ (flatC (Jvm.Cond.and given_1 narrow_1)).filter xisnot := by
    rw [xs_nl]
    exact List.mem_map.mpr ⟨(i, j), h1, rfl⟩
  exact (List.mem_filter.mp h2).1
theorem xs_cs : Cond.eq (.static "java/lang/String" "COMPACT_STRINGS" "Z") (.int 1) ∈ flatC (Jvm.Cond.and given_1 narrow_1) := by decide +kernel
theorem xs_si : Cond.isRef (.static "jdk/internal/util/Preconditions" "SIOOBE_FORMATTER" "Ljava/util/function/BiFunction;") ∈ flatC (Jvm.Cond.and given_1 narrow_1) := by decide +kernel
theorem xt_list {ws : List Cond} (ps : List Nat) (h : ws = ps.filterMap (fun i => tables_1[i]?)) : ∀ w ∈ ws, w ∈ lw_tbl := by
  intro w hw
  rw [h] at hw
  obtain ⟨i, -, hi⟩ := List.mem_filterMap.mp hw
  exact List.mem_append_right _ (List.mem_of_getElem? hi)
theorem xt_nest : ∀ w ∈ xnl.map (fun q => Cond.methodLinkNest q.1 q.2.1 q.2.2.1 q.2.2.2), w ∈ lw_tbl := xt_list [29, 64, 99, 130, 175, 224, 304, 341, 343, 522, 575, 582, 612, 705, 753] (by decide +kernel)
theorem xt_str : ∀ w ∈ xsl.map (fun q => Cond.stringRef q.1 q.2.1 q.2.2.1), w ∈ lw_tbl := xt_list [414, 481, 501, 853, 880, 881, 882, 883, 884, 885, 886, 891, 920, 922, 923, 924, 925, 926, 927, 928, 929, 930] (by decide +kernel)
theorem xt_one {w : Cond} (i : Nat) (h : tables_1[i]? = some w) : w ∈ lw_tbl := List.mem_append_right _ (List.mem_of_getElem? h)
