def mLen : Instr → Nat
  | .bipush _ => 2
  | .ldc _ => 2
  | .iload _ => 2
  | .lload _ => 2
  | .aload _ => 2
  | .istore _ => 2
  | .lstore _ => 2
  | .astore _ => 2
  | .newarray _ => 2
  | .sipush _ => 3
  | .ldc_w _ => 3
  | .ldc2_w _ => 3
  | .iinc _ _ => 3
  | .getfield _ => 3
  | .putfield _ => 3
  | .anewarray _ => 3
  | .new _ => 3
  | .invokespecial _ => 3
  | .invokestatic _ => 3
  | .invokevirtual _ => 3
  | .goto _ => 3
  | .ifCond _ _ => 3
  | .if_icmp _ _ => 3
  | .ifnonnull _ => 3
  | .tableswitch _ _ _ _ => 0
  | _ => 1
def mFwd (pc : Nat) : Instr → Bool
  | .goto o => decide (0 ≤ (pc : Int) + o)
  | .ifCond _ o => decide (0 ≤ (pc : Int) + o)
  | .if_icmp _ o => decide (0 ≤ (pc : Int) + o)
  | .ifnonnull o => decide (0 ≤ (pc : Int) + o)
  | .tableswitch d _ _ os => decide (0 ≤ (pc : Int) + d) && os.toList.all (fun o => decide (0 ≤ (pc : Int) + o))
  | _ => true
def gDck (cc : ByteArray) (e : Nat × Instr × Nat) : Bool := decide (decode cc e.1 = .ok (e.2.1, e.2.2)) && mFwd e.1 e.2.1 && (decide (mLen e.2.1 = e.2.2) || decide (mLen e.2.1 = 0))
