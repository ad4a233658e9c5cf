/-! what the tables say of a method -/
def ab_row (y : Nat) : ab_MR := ab_ms.getD y (⟨"", "", ""⟩, ⟨#[]⟩, 0, none, 0, false, 0, "")
def ab_own (y : Nat) : Nat := ab_ow.getD y 99
/-- the lengths of the instructions -/
def ab_sz (i : Instr) : Nat := match i with
  | .bipush _ | .iload _ | .istore _ | .lload _ | .lstore _ | .aload _ | .astore _ | .newarray _ => 2
  | .sipush _ | .iinc _ _ | .goto _ | .ifCond _ _ | .if_icmp _ _ | .ldc_w _ | .ldc2_w _ | .getfield _ | .putfield _ | .new _ | .invokevirtual _ | .invokestatic _ | .invokespecial _ => 3
  | _ => 1
