/-! THE ABSTRACT MACHINE: ints are Int (in range), longs BitVec 64, references numbers (0 null, 1 the script, 2 .. 4 the three static arrays, from 5 on the cells in the order in which they were made). A heap: what ints and longs the cells hold, and of each cell its kind (0 int, 1 boolean, 2 long array, 3 + n an object of class n), its length, its references. -/
abbrev zV : Type := Int ⊕ (BitVec 64 ⊕ Nat)
abbrev zI (x : Int) : zV := .inl x
abbrev zL (x : BitVec 64) : zV := .inr (.inl x)
abbrev zR (k : Nat) : zV := .inr (.inr k)
abbrev zM : Type := Nat → Nat → Int
abbrev zG : Type := Nat → Nat → BitVec 64
abbrev zS : Type := List (Nat × Nat × List Nat)
abbrev zH : Type := zM × zG × zS
abbrev zQ : Type := Option zV × zH
abbrev zC : Type := Nat × Nat × List zV × List zV × zH
abbrev zE : Type := Instr × List Nat × List (Int × Nat)
abbrev zT : Type := Option (zC ⊕ zQ)
def zup (F : zM) (k j : Nat) (v : Int) : zM := fun a b => if a = k ∧ b = j then v else F a b
def zug (F : zG) (k j : Nat) (v : BitVec 64) : zG := fun a b => if a = k ∧ b = j then v else F a b
def zcpy (F : zM) (a0 sp a1 dp n : Nat) : zM := fun a b => if a = a1 ∧ dp ≤ b ∧ b < dp + n then F a0 (sp + (b - dp)) else F a b
def zclr (F : zM) (k : Nat) : zM := fun a b => if a = k then 0 else F a b
def zclg (F : zG) (k : Nat) : zG := fun a b => if a = k then 0 else F a b
def zadd (x y : Int) : Int := (Int32.ofInt x + Int32.ofInt y).toInt
def zsub (x y : Int) : Int := (Int32.ofInt x - Int32.ofInt y).toInt
def zmul (x y : Int) : Int := (Int32.ofInt x * Int32.ofInt y).toInt
def zdiv (x y : Int) : Int := (Int32.ofInt x / Int32.ofInt y).toInt
def zrem (x y : Int) : Int := (Int32.ofInt x % Int32.ofInt y).toInt
def zand (x y : Int) : Int := (Int32.ofInt x &&& Int32.ofInt y).toInt
def zor (x y : Int) : Int := (Int32.ofInt x ||| Int32.ofInt y).toInt
def zshl (x y : Int) : Int := (Int32.ofInt x <<< (Int32.ofInt y &&& 31)).toInt
def zshr (x y : Int) : Int := (Int32.ofInt x >>> (Int32.ofInt y &&& 31)).toInt
def zneg (x : Int) : Int := (-(Int32.ofInt x)).toInt
def zi2b (x : Int) : Int := ((Int32.ofInt x).toInt8.toInt32).toInt
def zi2s (x : Int) : Int := ((Int32.ofInt x).toInt16.toInt32).toInt
def zl2i (b : BitVec 64) : Int := ((Int64.ofBitVec b).toInt32).toInt
def zi2l (x : Int) : BitVec 64 := ((Int32.ofInt x).toInt64).toBitVec
def zlshl (b : BitVec 64) (x : Int) : BitVec 64 := (Int64.ofBitVec b <<< ((Int32.ofInt x).toInt64 &&& 63)).toBitVec
def zlshr (b : BitVec 64) (x : Int) : BitVec 64 := (Int64.ofBitVec b >>> ((Int32.ofInt x).toInt64 &&& 63)).toBitVec
def zlushr (b : BitVec 64) (x : Int) : BitVec 64 := (((Int64.ofBitVec b).toUInt64 >>> ((Int32.ofInt x).toInt64.toUInt64 &&& Int64.toUInt64 63)).toInt64).toBitVec
def zladd (a b : BitVec 64) : BitVec 64 := (Int64.ofBitVec a + Int64.ofBitVec b).toBitVec
def zlsub (a b : BitVec 64) : BitVec 64 := (Int64.ofBitVec a - Int64.ofBitVec b).toBitVec
def zland (a b : BitVec 64) : BitVec 64 := (Int64.ofBitVec a &&& Int64.ofBitVec b).toBitVec
def zlor (a b : BitVec 64) : BitVec 64 := (Int64.ofBitVec a ||| Int64.ofBitVec b).toBitVec
def zlxor (a b : BitVec 64) : BitVec 64 := (Int64.ofBitVec a ^^^ Int64.ofBitVec b).toBitVec
def zlcmp (a b : BitVec 64) : Int := (lg_cmp (Int64.ofBitVec a) (Int64.ofBitVec b)).toInt
def zcmp (c : ClassFile.Cond) (x y : Int) : Bool := match c with
  | .eq => decide (x = y)
  | .ne => decide (¬ x = y)
  | .lt => decide (x < y)
  | .ge => decide (y ≤ x)
  | .gt => decide (y < x)
  | .le => decide (x ≤ y)
def zsw (x : Int) : List (Int × Nat) → Nat → Nat
  | [], d => d
  | p :: ps, d => if x = p.1 then p.2 else zsw x ps d
def zcat : List zV → Nat
  | [] => 0
  | .inr (.inl _) :: l => 2 + zcat l
  | _ :: l => 1 + zcat l
def zone : zV → Bool
  | .inr (.inl _) => false
  | _ => true
/-- a store to a local: a long ahead of it is gone -/
def zinv : Nat → List zV → List zV
  | 0, l => l
  | i + 1, l => match l[i]? with
    | some (.inr (.inl _)) => l.set i (zR 0)
    | _ => l
def zarr (h : zH) (a t : Nat) : Option Nat := if a < 5 then none else match h.2.2[a - 5]? with
  | some q => if q.1 = t then some q.2.1 else none
  | none => none
def zobj (h : zH) (a ci : Nat) : Option (Nat × List Nat) := if a < 5 then none else match h.2.2[a - 5]? with
  | some q => if q.1 = 3 + ci then some q.2 else none
  | none => none
abbrev zcal : Type := Nat → List zV → zH → Option zQ
section
variable (X : Nat → Nat × (Nat → Int)) (cal : zcal) (y pc : Nat) (ls st : List zV) (h : zH)
def znx (pc : Nat) (st : List zV) : zT := some (.inl (y, pc, ls, st, h))
def zbin (f : Int → Int → Int) : zT := match st with
  | .inl b :: .inl a :: r => znx y ls h (pc + 1) (.inl (f a b) :: r)
  | _ => none
def zbinD (f : Int → Int → Int) : zT := match st with
  | .inl b :: .inl a :: r => if b = 0 then none else znx y ls h (pc + 1) (.inl (f a b) :: r)
  | _ => none
def zuni (f : Int → Int) : zT := match st with
  | .inl a :: r => znx y ls h (pc + 1) (.inl (f a) :: r)
  | _ => none
def zlbin (f : BitVec 64 → BitVec 64 → BitVec 64) : zT := match st with
  | .inr (.inl b) :: .inr (.inl a) :: r => znx y ls h (pc + 1) (.inr (.inl (f a b)) :: r)
  | _ => none
def zlsh (f : BitVec 64 → Int → BitVec 64) : zT := match st with
  | .inl b :: .inr (.inl a) :: r => znx y ls h (pc + 1) (.inr (.inl (f a b)) :: r)
  | _ => none
def zcst (len : Nat) (w : List (Int × Nat)) : zT := match w with
  | [v] => znx y ls h (pc + len) (.inl v.1 :: st)
  | _ => none
def zldi (len i : Nat) : zT := match ls[i]? with
  | some (.inl x) => znx y ls h (pc + len) (.inl x :: st)
  | _ => none
def zldl (len i : Nat) : zT := match ls[i]? with
  | some (.inr (.inl x)) => znx y ls h (pc + len) (.inr (.inl x) :: st)
  | _ => none
def zlda (len i : Nat) : zT := match ls[i]? with
  | some (.inr (.inr (k + 1))) => znx y ls h (pc + len) (.inr (.inr (k + 1)) :: st)
  | _ => none
def zsti (len i : Nat) : zT := match st with
  | .inl x :: r => if i < ls.length then znx y ((zinv i ls).set i (.inl x)) h (pc + len) r else none
  | _ => none
def zsta (len i : Nat) : zT := match st with
  | .inr (.inr (k + 1)) :: r => if i < ls.length then znx y ((zinv i ls).set i (.inr (.inr (k + 1)))) h (pc + len) r else none
  | _ => none
def zstl (len i : Nat) : zT := match st with
  | .inr (.inl x) :: r => if i + 1 < ls.length then znx y (((zinv i ls).set i (.inr (.inl x))).set (i + 1) (zR 0)) h (pc + len) r else none
  | _ => none
def zinc (i : Nat) (n : Int) : zT := match ls[i]? with
  | some (.inl x) => znx y ((zinv i ls).set i (.inl (zadd x n))) h (pc + 3) st
  | _ => none
def zifc (c : ClassFile.Cond) (w : List Nat) : zT := match w, st with
  | [t], .inl x :: r => znx y ls h (bif zcmp c x 0 then t else pc + 3) r
  | _, _ => none
def zicm (c : ClassFile.Cond) (w : List Nat) : zT := match w, st with
  | [t], .inl b :: .inl a :: r => znx y ls h (bif zcmp c a b then t else pc + 3) r
  | _, _ => none
def zgot (w : List Nat) : zT := match w with
  | [t] => znx y ls h t st
  | _ => none
def zswi (w : List Nat) (ps : List (Int × Nat)) : zT := match w, st with
  | [_, d], .inl x :: r => znx y ls h (zsw x ps d) r
  | _, _ => none
def zald (t : Nat) : zT := match st with
  | .inl i :: .inr (.inr a) :: r => if a < 5 then (if t = 0 ∧ 0 ≤ i ∧ i < (X a).1 then znx y ls h (pc + 1) (.inl ((X a).2 i.toNat) :: r) else none)
    else match zarr h a t with
      | some n => if 0 ≤ i ∧ i < n then znx y ls h (pc + 1) (.inl (h.1 a i.toNat) :: r) else none
      | none => none
  | _ => none
def zlld : zT := match st with
  | .inl i :: .inr (.inr a) :: r => match zarr h a 2 with
      | some n => if 0 ≤ i ∧ i < n then znx y ls h (pc + 1) (.inr (.inl (h.2.1 a i.toNat)) :: r) else none
      | none => none
  | _ => none
def zast (t : Nat) : zT := match st with
  | .inl x :: .inl i :: .inr (.inr a) :: r => match zarr h a t with
      | some n => if 0 ≤ i ∧ i < n ∧ (t = 1 → x = 0 ∨ x = 1) then znx y ls (zup h.1 a i.toNat x, h.2) (pc + 1) r else none
      | none => none
  | _ => none
def zlst : zT := match st with
  | .inr (.inl x) :: .inl i :: .inr (.inr a) :: r => match zarr h a 2 with
      | some n => if 0 ≤ i ∧ i < n then znx y ls (h.1, zug h.2.1 a i.toNat x, h.2.2) (pc + 1) r else none
      | none => none
  | _ => none
def zlen : zT := match st with
  | .inr (.inr a) :: r => if a = 1 then znx y ls h (pc + 1) (.inl ((X a).1 : Nat) :: r) else none
  | _ => none
def zgf (w : List Nat) : zT := match w, st with
  | [ci, k, t], .inr (.inr a) :: r => match zobj h a ci with
      | some q => if k < q.1 then (if t = 3 then (match q.2[k]? with
          | some z => znx y ls h (pc + 3) (.inr (.inr z) :: r)
          | none => none) else if t = 2 then znx y ls h (pc + 3) (.inr (.inl (h.2.1 a k)) :: r) else znx y ls h (pc + 3) (.inl (h.1 a k) :: r)) else none
      | none => none
  | _, _ => none
def zpf (w : List Nat) : zT := match w, st with
  | [ci, k, t], v :: .inr (.inr a) :: r => match zobj h a ci with
      | some q => if k < q.1 then (match v with
          | .inl x => if t = 0 ∨ (t = 1 ∧ (x = 0 ∨ x = 1)) then znx y ls (zup h.1 a k x, h.2) (pc + 3) r else none
          | .inr (.inl x) => if t = 2 then znx y ls (h.1, zug h.2.1 a k x, h.2.2) (pc + 3) r else none
          | .inr (.inr z) => if t = 3 ∧ 5 ≤ z ∧ z < 5 + h.2.2.length then znx y ls (h.1, h.2.1, h.2.2.set (a - 5) (3 + ci, q.1, q.2.set k z)) (pc + 3) r else none) else none
      | none => none
  | _, _ => none
def zmka (w : List Nat) : zT := match w, st with
  | [t], .inl n :: r => if 0 ≤ n ∧ n ≤ 1000 then znx y ls (zclr h.1 (h.2.2.length + 5), zclg h.2.1 (h.2.2.length + 5), h.2.2 ++ [(t, n.toNat, [])]) (pc + 2) (.inr (.inr (h.2.2.length + 5)) :: r) else none
  | _, _ => none
def zmko (w : List Nat) : zT := match w with
  | [ci, n] => znx y ls (zclr h.1 (h.2.2.length + 5), zclg h.2.1 (h.2.2.length + 5), h.2.2 ++ [(3 + ci, n, List.replicate n 0)]) (pc + 3) (.inr (.inr (h.2.2.length + 5)) :: st)
  | _ => none
def zback (r : List zV) (q : Option zQ) : zT := match q with
  | some (some v, h') => znx y ls h' (pc + 3) (v :: r)
  | some (none, h') => znx y ls h' (pc + 3) r
  | none => none
/-- a call's first argument is an object of its class (static: nothing is asked) -/
def zrcv (k ci : Nat) (as : List zV) : Bool := match k with
  | 0 => true
  | _ => match as with
    | .inr (.inr a) :: _ => (zobj h a ci).isSome
    | _ => false
def zcall (w : List Nat) : zT := match w with
  | [k, c, n, ci] => if n ≤ st.length ∧ zcat (st.drop n) ≤ 8 ∧ zrcv h k ci (st.take n).reverse = true then zback y pc ls (st.drop n) (cal c (st.take n).reverse h) else none
  | [4] => match st with
    | .inr (.inr a) :: r => if 5 ≤ a ∧ zcat r ≤ 8 then znx y ls h (pc + 3) r else none
    | _ => none
  | [5] => match st with
    | .inl n :: .inl dp :: .inr (.inr a1) :: .inl sp :: .inr (.inr a0) :: r => match zarr h a0 0, zarr h a1 0 with
      | some n0, some n1 => if 0 ≤ sp ∧ 0 ≤ dp ∧ 0 ≤ n ∧ sp.toNat + n.toNat ≤ n0 ∧ dp.toNat + n.toNat ≤ n1 ∧ zcat r ≤ 8 then znx y ls (zcpy h.1 a0 sp.toNat a1 dp.toNat n.toNat, h.2) (pc + 3) r else none
      | _, _ => none
    | _ => none
  | _ => none
def zret (w : List Nat) : zT := match w, st with
  | [t], [.inl x] => if t = 0 ∨ x = 0 ∨ x = 1 then some (.inr (some (.inl x), h)) else none
  | _, _ => none
def zdo (i : Instr) (w : List Nat) (ps : List (Int × Nat)) : zT := match i with
  | .iconst _ => zcst y pc ls st h 1 ps
  | .bipush _ => zcst y pc ls st h 2 ps
  | .sipush _ => zcst y pc ls st h 3 ps
  | .lconst n => znx y ls h (pc + 1) (.inr (.inl (BitVec.ofNat 64 n.val)) :: st)
  | .ldc2_w _ => match ps with
    | [v] => znx y ls h (pc + 3) (.inr (.inl (BitVec.ofInt 64 v.1)) :: st)
    | _ => none
  | .iload_n k => zldi y pc ls st h 1 k.val
  | .iload k => zldi y pc ls st h 2 k
  | .lload_n k => zldl y pc ls st h 1 k.val
  | .lload k => zldl y pc ls st h 2 k
  | .aload_n k => zlda y pc ls st h 1 k.val
  | .aload k => zlda y pc ls st h 2 k
  | .istore_n k => zsti y pc ls st h 1 k.val
  | .istore k => zsti y pc ls st h 2 k
  | .lstore_n k => zstl y pc ls st h 1 k.val
  | .lstore k => zstl y pc ls st h 2 k
  | .astore_n k => zsta y pc ls st h 1 k.val
  | .astore k => zsta y pc ls st h 2 k
  | .iinc k n => zinc y pc ls st h k n
  | .iadd => zbin y pc ls st h zadd
  | .isub => zbin y pc ls st h zsub
  | .imul => zbin y pc ls st h zmul
  | .iand => zbin y pc ls st h zand
  | .ior => zbin y pc ls st h zor
  | .ishl => zbin y pc ls st h zshl
  | .ishr => zbin y pc ls st h zshr
  | .idiv => zbinD y pc ls st h zdiv
  | .irem => zbinD y pc ls st h zrem
  | .ineg => zuni y pc ls st h zneg
  | .i2b => zuni y pc ls st h zi2b
  | .i2s => zuni y pc ls st h zi2s
  | .i2l => match st with
    | .inl a :: r => znx y ls h (pc + 1) (.inr (.inl (zi2l a)) :: r)
    | _ => none
  | .l2i => match st with
    | .inr (.inl a) :: r => znx y ls h (pc + 1) (.inl (zl2i a) :: r)
    | _ => none
  | .ladd => zlbin y pc ls st h zladd
  | .lsub => zlbin y pc ls st h zlsub
  | .land => zlbin y pc ls st h zland
  | .lor => zlbin y pc ls st h zlor
  | .lxor => zlbin y pc ls st h zlxor
  | .lshl => zlsh y pc ls st h zlshl
  | .lshr => zlsh y pc ls st h zlshr
  | .lushr => zlsh y pc ls st h zlushr
  | .lcmp => match st with
    | .inr (.inl b) :: .inr (.inl a) :: r => znx y ls h (pc + 1) (.inl (zlcmp a b) :: r)
    | _ => none
  | .dup => match st with
    | v :: r => if zone v then znx y ls h (pc + 1) (v :: v :: r) else none
    | _ => none
  | .dup_x1 => match st with
    | v :: u :: r => if zone v ∧ zone u then znx y ls h (pc + 1) (v :: u :: v :: r) else none
    | _ => none
  | .dup2 => match st with
    | v :: u :: r => if zone v ∧ zone u then znx y ls h (pc + 1) (v :: u :: v :: u :: r) else none
    | _ => none
  | .ifCond c _ => zifc y pc ls st h c w
  | .if_icmp c _ => zicm y pc ls st h c w
  | .goto _ => zgot y ls st h w
  | .tableswitch _ _ _ _ => zswi y ls st h w ps
  | .lookupswitch _ _ => zswi y ls st h w ps
  | .iaload => zald X y pc ls st h 0
  | .baload => zald X y pc ls st h 1
  | .laload => zlld y pc ls st h
  | .iastore => zast y pc ls st h 0
  | .bastore => zast y pc ls st h 1
  | .lastore => zlst y pc ls st h
  | .arraylength => zlen X y pc ls st h
  | .getfield _ => zgf y pc ls st h w
  | .putfield _ => zpf y pc ls st h w
  | .getstatic _ => match w with
    | [k] => if 2 ≤ k ∧ k < 5 then znx y ls h (pc + 3) (.inr (.inr k) :: st) else none
    | _ => none
  | .newarray _ => zmka y pc ls st h w
  | .new _ => zmko y pc ls st h w
  | .invokestatic _ => zcall cal y pc ls st h w
  | .invokevirtual _ => zcall cal y pc ls st h w
  | .invokespecial _ => zcall cal y pc ls st h w
  | .ireturn => zret st h w
  | .lreturn => match st with
    | [.inr (.inl x)] => some (.inr (some (.inr (.inl x)), h))
    | _ => none
  | .return_ => match st with
    | [] => some (.inr (none, h))
    | _ => none
  | _ => none
end
def zlook (pc : Nat) : List (Nat × zE) → Option zE
  | [] => none
  | q :: l => bif Nat.beq q.1 pc then some q.2 else zlook pc l
