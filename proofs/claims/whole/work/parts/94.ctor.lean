/-! THE CONSTRUCTORS: closed runs -/
def zz1 : ab_S := ((ab_nw 11 (.new 7) [some (.ref 999), none, none, none] [] ab_s0).map (fun q => q.2)).getD ab_s0
def zz2 : ab_S := ((ab_run 3000 75 0 (ab_en (ab_row 75).2.2.1 [.ref 0]) [] zz1).map (fun q => q.2)).getD ab_s0
def zz3 : ab_S := ((ab_nw 11 (.new 10) [some (.ref 999), some (.ref 0), none, none] [] zz2).map (fun q => q.2)).getD ab_s0
def zz4 : ab_S := ((ab_run 3000 125 0 (ab_en (ab_row 125).2.2.1 [.ref 49]) [] zz3).map (fun q => q.2)).getD ab_s0
def zck1 : Bool := match ab_run 3000 75 0 (ab_en (ab_row 75).2.2.1 [.ref 0]) [] zz1 with
  | some (none, z) => decide (z.2.2.2 = 49)
  | _ => false
theorem zck1_t : zck1 = true := by decide +kernel
def zckn (o j : Nat) (ls : ab_L) (k : Nat) (z : ab_S) : Bool := match ab_nw o (.new j) ls [] z with
  | some ([.ref q], z) => decide (q = k) && decide (z.2.2.2 = k + 1)
  | _ => false
theorem zckn_1 : zckn 11 7 [some (.ref 999), none, none, none] 0 ab_s0 = true := by decide +kernel
theorem zckn_3 : zckn 11 10 [some (.ref 999), some (.ref 0), none, none] 49 zz2 = true := by decide +kernel
def zck2 : Bool := match ab_run 3000 125 0 (ab_en (ab_row 125).2.2.1 [.ref 49]) [] zz3 with
  | some (none, z) => decide (z.2.2 = (ab_RF, 75))
  | _ => false
theorem zck2_t : zck2 = true := by decide +kernel
