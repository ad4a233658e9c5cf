/-! THE TABLES ARE RIGHT: decided by the kernel -/
def ab_wd : List Cond := lw_tbl.filter goodWord
theorem ab_wd_good {w : Cond} (h : w ∈ ab_wd) : (w.onTables && w.keeps) = true ∨ ∃ ty, w = .arrayClass ty := good_of_word (List.mem_filter.mp h).2
/-- the word w stands at the place p, and is one that lasts -/
def ab_at (p : Nat) (w : Cond) : Bool := decide (lw_tbl[p]? = some w) && goodWord w
theorem ab_at_in {p : Nat} {w : Cond} (h : ab_at p w = true) : w ∈ ab_wd := by
  simp only [ab_at, Bool.and_eq_true, decide_eq_true_eq] at h
  exact List.mem_filter.mpr ⟨List.mem_of_getElem? h.1, h.2⟩
def ab_ts (i : Instr) : Bool := match i with
  | .tableswitch _ _ _ _ => true
  | _ => false
def ab_dk (b : ByteArray) (q : Nat × Instr) : Bool := match decode b q.1 with
  | .ok (i, n) => decide (i = q.2) && (n == ab_sz i || ab_ts i)
  | _ => false
/-- a method's row: its words, its descriptor, its code -/
def ab_mk (y : Nat) : Bool :=
  let q := ab_row y
  let p := ab_pl.getD y (9999, 9999, 9999, 9999)
  plainName q.1.cls && decide (q.1.cls ≠ "java/lang/invoke/MethodHandle") && decide (q.1.cls ≠ "java/lang/invoke/VarHandle") && ab_at p.1 (.code q.1 q.2.1 q.2.2.1 q.2.2.2.1) && ab_at p.2.1 (.initialized q.1.cls) &&
  (if q.2.2.2.2.2.1 = true then ab_at p.2.2.1 (.static q.1) else (ab_at p.2.2.1 (.instanceMethod q.1) && (q.1.name == "<init>" || ab_at p.2.2.2 (.selects q.1.cls q.1 q.1)))) &&
  decide ((parseMethodDescriptor q.1.desc).map (fun d => d.parameters.length) = some q.2.2.2.2.1) && decide (ab_cn.getD (ab_own y) "" = q.1.cls) && decide (q.2.2.1 ≤ 20) && (match q.2.2.2.1 with
    | none => true
    | some .int => true
    | some .long => true
    | some .boolean => true
    | _ => false) && decide (0 < q.2.2.2.2.2.2.1) && decide (ab_own y < 11) && (q.1.name != "<init>" || decide (q.2.2.2.1 = none)) && (q.2.2.2.2.2.1 == true || decide (((vwCl[ab_own y]?).map (fun r => r.1)) = some q.1.cls))
def ab_dc (y : Nat) : Bool := (ab_ct.getD y []).all (ab_dk (ab_row y).2.1)
theorem ab_mk0 : (List.range 15).all (fun k => ab_mk (0 + k)) = true := by decide +kernel
theorem ab_mk15 : (List.range 15).all (fun k => ab_mk (15 + k)) = true := by decide +kernel
theorem ab_mk30 : (List.range 15).all (fun k => ab_mk (30 + k)) = true := by decide +kernel
theorem ab_mk45 : (List.range 15).all (fun k => ab_mk (45 + k)) = true := by decide +kernel
theorem ab_mk60 : (List.range 15).all (fun k => ab_mk (60 + k)) = true := by decide +kernel
theorem ab_mk75 : (List.range 15).all (fun k => ab_mk (75 + k)) = true := by decide +kernel
theorem ab_mk90 : (List.range 15).all (fun k => ab_mk (90 + k)) = true := by decide +kernel
theorem ab_mk105 : (List.range 15).all (fun k => ab_mk (105 + k)) = true := by decide +kernel
theorem ab_mk120 : (List.range 15).all (fun k => ab_mk (120 + k)) = true := by decide +kernel
theorem ab_mk135 : (List.range 15).all (fun k => ab_mk (135 + k)) = true := by decide +kernel
theorem ab_mk150 : (List.range 15).all (fun k => ab_mk (150 + k)) = true := by decide +kernel
theorem ab_mk165 : (List.range 15).all (fun k => ab_mk (165 + k)) = true := by decide +kernel
theorem ab_mk180 : (List.range 15).all (fun k => ab_mk (180 + k)) = true := by decide +kernel
theorem ab_mk195 : (List.range 8).all (fun k => ab_mk (195 + k)) = true := by decide +kernel
theorem ab_mks {y : Nat} (h : y < 203) : ab_mk y = true := by
  by_cases h0 : y < 15
  · have q := List.all_eq_true.mp ab_mk0 (y - 0) (List.mem_range.mpr (by omega))
    rwa [show 0 + (y - 0) = y by omega] at q
  by_cases h15 : y < 30
  · have q := List.all_eq_true.mp ab_mk15 (y - 15) (List.mem_range.mpr (by omega))
    rwa [show 15 + (y - 15) = y by omega] at q
  by_cases h30 : y < 45
  · have q := List.all_eq_true.mp ab_mk30 (y - 30) (List.mem_range.mpr (by omega))
    rwa [show 30 + (y - 30) = y by omega] at q
  by_cases h45 : y < 60
  · have q := List.all_eq_true.mp ab_mk45 (y - 45) (List.mem_range.mpr (by omega))
    rwa [show 45 + (y - 45) = y by omega] at q
  by_cases h60 : y < 75
  · have q := List.all_eq_true.mp ab_mk60 (y - 60) (List.mem_range.mpr (by omega))
    rwa [show 60 + (y - 60) = y by omega] at q
  by_cases h75 : y < 90
  · have q := List.all_eq_true.mp ab_mk75 (y - 75) (List.mem_range.mpr (by omega))
    rwa [show 75 + (y - 75) = y by omega] at q
  by_cases h90 : y < 105
  · have q := List.all_eq_true.mp ab_mk90 (y - 90) (List.mem_range.mpr (by omega))
    rwa [show 90 + (y - 90) = y by omega] at q
  by_cases h105 : y < 120
  · have q := List.all_eq_true.mp ab_mk105 (y - 105) (List.mem_range.mpr (by omega))
    rwa [show 105 + (y - 105) = y by omega] at q
  by_cases h120 : y < 135
  · have q := List.all_eq_true.mp ab_mk120 (y - 120) (List.mem_range.mpr (by omega))
    rwa [show 120 + (y - 120) = y by omega] at q
  by_cases h135 : y < 150
  · have q := List.all_eq_true.mp ab_mk135 (y - 135) (List.mem_range.mpr (by omega))
    rwa [show 135 + (y - 135) = y by omega] at q
  by_cases h150 : y < 165
  · have q := List.all_eq_true.mp ab_mk150 (y - 150) (List.mem_range.mpr (by omega))
    rwa [show 150 + (y - 150) = y by omega] at q
  by_cases h165 : y < 180
  · have q := List.all_eq_true.mp ab_mk165 (y - 165) (List.mem_range.mpr (by omega))
    rwa [show 165 + (y - 165) = y by omega] at q
  by_cases h180 : y < 195
  · have q := List.all_eq_true.mp ab_mk180 (y - 180) (List.mem_range.mpr (by omega))
    rwa [show 180 + (y - 180) = y by omega] at q
  by_cases h195 : y < 203
  · have q := List.all_eq_true.mp ab_mk195 (y - 195) (List.mem_range.mpr (by omega))
    rwa [show 195 + (y - 195) = y by omega] at q
  omega
/-- the links of a class' pool -/
def ab_lk (o : Nat) : Bool :=
  let n := ab_cn.getD o ""
  (ab_fl.getD o []).all (fun q => match vwCl[q.2.1]? with
    | some r => decide (q.2.2.1 < r.2.2) && ab_at q.2.2.2 (.fieldLink n q.1 r.1 (r.2.1 q.2.2.1).2.1 (r.2.1 q.2.2.1).2.2.1) && decide ((r.2.1 q.2.2.1).1 = r.1)
    | none => false) &&
  (ab_ml.getD o []).all (fun q => if q.2.1 = 1000 then ab_at q.2.2.2 (.methodLink n q.1 objectInit) else if q.2.1 = 1001 then ab_at q.2.2.2 (.methodLink n q.1 arraycopyName) else if q.2.1 = 1002 then ab_at q.2.2.2 (.methodLink n q.1 Lib.MathLoose.abs_long.x) else if q.2.1 = 1003 then ab_at q.2.2.2 (.methodLink n q.1 Lib.Math.min.name) else (decide (q.2.1 < 203) && (if q.2.2.1 = 0 then ab_at q.2.2.2 (.methodLink n q.1 (ab_row q.2.1).1) else decide (q.2.2.1 = 1 ∧ lw_tbl[q.2.2.2]? = some (.methodLinkNest n q.1 (ab_row q.2.1).1 "MarkedHands"))))) &&
  (ab_nl.getD o []).all (fun q => match vwCl[q.2.1]? with
    | some r => ab_at q.2.2 (.classLink n q.1 r.1)
    | none => false) &&
  (ab_ki.getD o []).all (fun q => ab_at q.2.2 (.constant n q.1 q.2.1)) && (ab_kl.getD o []).all (fun q => ab_at q.2.2 (.constantLong n q.1 q.2.1))
theorem ab_lks : (List.range 12).all ab_lk = true := by decide +kernel
/-- the copies of deals are deals -/
theorem ab_dl : ∀ k, k < 8 → (ab_row (4 + k)).1 = (ab_row 4).1 := by decide +kernel
def ab_in (w : Cond) : Bool := decide (w ∈ lw_tbl) && goodWord w
theorem ab_in_in {w : Cond} (h : ab_in w = true) : w ∈ ab_wd := by
  simp only [ab_in, Bool.and_eq_true, decide_eq_true_eq] at h
  exact List.mem_filter.mpr h
theorem ab_others : ([.instanceMethod objectInit, .code objectInit ⟨#[0xb1]⟩ 1 none, .native arraycopyName, .static arraycopyName, .initialized "java/lang/System", .static Lib.MathLoose.abs_long.x, .initialized "java/lang/Math", .code Lib.MathLoose.abs_long.x Lib.MathLoose.abs_long.code 2 (some .long), .static Lib.Math.min.name, .code Lib.Math.min.name Lib.Math.min.code 2 (some .int), .arrayClass .int, .arrayClass .long, .arrayClass .boolean] : List Cond).all ab_in = true := by decide +kernel
/-- a class: its fields' words, its making -/
def ab_ck (r : vw_C) : Bool := (u_ws r.1 r.2.1 r.2.2).all ab_in && ab_in (.instantiable r.1 r.2.2) && ab_in (.initialized r.1)
theorem ab_cks : vwCl.all ab_ck = true := by decide +kernel
