/-! the code tables against the bytes and the tables' words: by program, method by method -/
def zlen (i : Instr) (w : List Nat) : Nat := match i with
  | .tableswitch _ _ _ _ => w.headD 0
  | .lookupswitch _ _ => w.headD 0
  | .bipush _ => 2
  | .iload _ => 2
  | .lload _ => 2
  | .aload _ => 2
  | .istore _ => 2
  | .lstore _ => 2
  | .astore _ => 2
  | .newarray _ => 2
  | .sipush _ => 3
  | .ldc2_w _ => 3
  | .iinc _ _ => 3
  | .ifCond _ _ => 3
  | .if_icmp _ _ => 3
  | .goto _ => 3
  | .getfield _ => 3
  | .putfield _ => 3
  | .getstatic _ => 3
  | .new _ => 3
  | .invokestatic _ => 3
  | .invokevirtual _ => 3
  | .invokespecial _ => 3
  | _ => 1
def zterm (i : Instr) : Bool := match i with
  | .tableswitch _ _ _ _ => true
  | .lookupswitch _ _ => true
  | .goto _ => true
  | .ireturn => true
  | .lreturn => true
  | .return_ => true
  | _ => false
def ztb (pc : Nat) : Int → List Int → List (Int × Nat)
  | _, [] => []
  | lo, o :: os => (lo, ((pc : Int) + o).toNat) :: ztb pc (lo + 1) os
def znf (ci : Nat) : Nat := (zfs.getD ci []).length
def zpar (d : String) : Nat := match parseMethodDescriptor d with
  | some q => q.parameters.length
  | none => 1000
/-- what an instruction links to is what the tables say -/
def zlnk (y pc : Nat) (q : MethodName × ByteArray × Nat × Option FieldType × Nat) (i : Instr) (w : List Nat) (ps : List (Int × Nat)) : Bool := match i with
  | .iconst k => decide (ps = [((Int32.ofInt k).toInt, 0)])
  | .bipush k => decide (ps = [((Int8.ofInt k).toInt32.toInt, 0)])
  | .sipush k => decide (ps = [((Int16.ofInt k).toInt32.toInt, 0)])
  | .ldc2_w k => match ps with
    | [v] => zKT.any (fun r => Nat.beq r.1 q.2.2.2.2 && Nat.beq r.2.1 k && decide (r.2.2.1 = v.1))
    | _ => false
  | .iinc _ k => decide (-128 ≤ k ∧ k ≤ 127)
  | .ifCond _ o => match w with
    | [t] => decide ((pc : Int) + o = t)
    | _ => false
  | .if_icmp _ o => match w with
    | [t] => decide ((pc : Int) + o = t)
    | _ => false
  | .goto o => match w with
    | [t] => decide ((pc : Int) + o = t)
    | _ => false
  | .tableswitch d lo hi os => match w with
    | [_, t] => decide ((pc : Int) + d = t) && decide (ps = ztb pc lo os.toList) && decide ((os.size : Int) = hi - lo + 1) && os.toList.all (fun o => decide (0 ≤ (pc : Int) + o))
    | _ => false
  | .lookupswitch d os => match w with
    | [_, t] => decide ((pc : Int) + d = t) && decide (ps = os.toList.map (fun o => (o.1, ((pc : Int) + o.2).toNat))) && os.toList.all (fun o => decide (0 ≤ (pc : Int) + o.2)) && (os.toList.zip (os.toList.drop 1)).all (fun (a, next) => a.1 < next.1)
    | _ => false
  | .getfield k => match w with
    | [ci, j, t] => zFT.any (fun r => Nat.beq r.1 q.2.2.2.2 && Nat.beq r.2.1 k && Nat.beq r.2.2.1 ci && Nat.beq r.2.2.2.1 j) && Nat.beq t (ztag ci j) && Nat.blt j (znf ci) && Nat.blt ci 11
    | _ => false
  | .putfield k => match w with
    | [ci, j, t] => zFT.any (fun r => Nat.beq r.1 q.2.2.2.2 && Nat.beq r.2.1 k && Nat.beq r.2.2.1 ci && Nat.beq r.2.2.2.1 j) && Nat.beq t (ztag ci j) && Nat.blt j (znf ci) && Nat.blt ci 11
      && (!(zTf ci j).2.2.2 || (decide (q.1.name = "<init>") && Nat.beq ci q.2.2.2.2))
    | _ => false
  | .getstatic k => match w with
    | [z] => zGT.any (fun r => Nat.beq r.1 q.2.2.2.2 && Nat.beq r.2.1 k && Nat.beq r.2.2.1 z)
    | _ => false
  | .newarray a => match a with
    | .int => decide (w = [0])
    | .boolean => decide (w = [1])
    | .long => decide (w = [2])
    | _ => false
  | .new k => match w with
    | [ci, l] => zNT.any (fun r => Nat.beq r.1 q.2.2.2.2 && Nat.beq r.2.1 k && Nat.beq r.2.2.1 ci) && Nat.beq l (znf ci)
    | _ => false
  | .invokestatic k => match w with
    | [z, c, n, _] => Nat.beq z 0 && zMT.any (fun r => Nat.beq r.1 q.2.2.2.2 && Nat.beq r.2.1 k && Nat.beq r.2.2.1 c && Nat.beq r.2.2.2.1 z) && Nat.beq n (zpar ((zmt.getD c q).1.desc))
    | [5] => zAT.any (fun r => Nat.beq r.1 q.2.2.2.2 && Nat.beq r.2.1 k)
    | _ => false
  | .invokevirtual k => match w with
    | [z, c, n, ci] => Nat.beq z 1 && zMT.any (fun r => Nat.beq r.1 q.2.2.2.2 && Nat.beq r.2.1 k && Nat.beq r.2.2.1 c && Nat.beq r.2.2.2.1 z) && Nat.beq n (zpar ((zmt.getD c q).1.desc) + 1) && Nat.beq ci (zmt.getD c q).2.2.2.2 && Nat.blt ci 11
    | _ => false
  | .invokespecial k => match w with
    | [z, c, n, ci] => (Nat.beq z 2 || Nat.beq z 3) && zMT.any (fun r => Nat.beq r.1 q.2.2.2.2 && Nat.beq r.2.1 k && Nat.beq r.2.2.1 c && Nat.beq r.2.2.2.1 z) && Nat.beq n (zpar ((zmt.getD c q).1.desc) + 1) && decide ((zmt.getD c q).1.name = "<init>") && decide ((zmt.getD c q).2.2.2.1 = none)
    | [4] => zOT.any (fun r => Nat.beq r.1 q.2.2.2.2 && Nat.beq r.2.1 k)
    | _ => false
  | .ireturn => match w with
    | [t] => (Nat.beq t 0 && decide (q.2.2.2.1 = some .int)) || (Nat.beq t 1 && decide (q.2.2.2.1 = some .boolean))
    | _ => false
  | .lreturn => decide (q.2.2.2.1 = some .long)
  | .return_ => decide (q.2.2.2.1 = none)
  | _ => true
def zchk (y : Nat) (q : MethodName × ByteArray × Nat × Option FieldType × Nat) (r : Nat × zE) : Bool :=
  decide (decode q.2.1 r.1 = .ok (r.2.1, zlen r.2.1 r.2.2.1)) && (zterm r.2.1 || Nat.beq r.2.2.2.2 (r.1 + zlen r.2.1 r.2.2.1)) && zlnk y r.1 q r.2.1 r.2.2.1 r.2.2.2.1
