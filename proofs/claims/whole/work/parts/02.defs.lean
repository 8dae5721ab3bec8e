/-! THE ABSTRACT MACHINE: ints are Int (in range), longs BitVec 64, references numbers (0 null, 1 the script, 2 .. 4 the three static arrays, from 5 on the cells in the order in which they were made). A heap: what ints and longs the cells hold, and of each cell its kind (0 int, 1 boolean, 2 long array, 3 + n an object of class n), its length, its references. -/
abbrev zV : Type := Int ⊕ (BitVec 64 ⊕ Nat)
abbrev zI (x : Int) : zV := .inl x
abbrev zL (x : BitVec 64) : zV := .inr (.inl x)
abbrev zR (k : Nat) : zV := .inr (.inr k)
abbrev zM : Type := Nat → Nat → Int
abbrev zG : Type := Nat → Nat → BitVec 64
abbrev zS : Type := List (Nat × Nat × List Nat)
abbrev zH : Type := zM × zG × zS
abbrev zQ : Type := Option zV × zH
abbrev zC : Type := Nat × Nat × List zV × List zV × zH
/-- an instruction: itself, what it links to, numbers and targets, where the next one is -/
abbrev zE : Type := Instr × List Nat × List (Int × Nat) × Nat
abbrev zT : Type := Option (zC ⊕ zQ)
def zup (F : zM) (k j : Nat) (v : Int) : zM := fun a b => if a = k ∧ b = j then v else F a b
def zug (F : zG) (k j : Nat) (v : BitVec 64) : zG := fun a b => if a = k ∧ b = j then v else F a b
def zcpy (F : zM) (a0 sp a1 dp n : Nat) : zM := fun a b => if a = a1 ∧ dp ≤ b ∧ b < dp + n then F a0 (sp + (b - dp)) else F a b
def zclr (F : zM) (k : Nat) : zM := fun a b => if a = k then 0 else F a b
def zclg (F : zG) (k : Nat) : zG := fun a b => if a = k then 0 else F a b
def zadd (x y : Int) : Int := (Int32.ofInt x + Int32.ofInt y).toInt
def zsub (x y : Int) : Int := (Int32.ofInt x - Int32.ofInt y).toInt
def zmul (x y : Int) : Int := (Int32.ofInt x * Int32.ofInt y).toInt
def zdiv (x y : Int) : Int := (Int32.ofInt x / Int32.ofInt y).toInt
def zrem (x y : Int) : Int := (Int32.ofInt x - Int32.ofInt x / Int32.ofInt y * Int32.ofInt y).toInt
def zand (x y : Int) : Int := (Int32.ofInt x &&& Int32.ofInt y).toInt
def zor (x y : Int) : Int := (Int32.ofInt x ||| Int32.ofInt y).toInt
def zshl (x y : Int) : Int := (Int32.ofInt x <<< (Int32.ofInt y &&& 31)).toInt
def zshr (x y : Int) : Int := (Int32.ofInt x >>> (Int32.ofInt y &&& 31)).toInt
def zneg (x : Int) : Int := (-(Int32.ofInt x)).toInt
def zi2b (x : Int) : Int := ((Int32.ofInt x).toInt8.toInt32).toInt
def zi2s (x : Int) : Int := ((Int32.ofInt x).toInt16.toInt32).toInt
def zl2i (b : BitVec 64) : Int := ((Int64.ofBitVec b).toInt32).toInt
def zi2l (x : Int) : BitVec 64 := ((Int32.ofInt x).toInt64).toBitVec
def zlshl (b : BitVec 64) (x : Int) : BitVec 64 := (Int64.ofBitVec b <<< ((Int32.ofInt x).toInt64 &&& 63)).toBitVec
def zlshr (b : BitVec 64) (x : Int) : BitVec 64 := (Int64.ofBitVec b >>> ((Int32.ofInt x).toInt64 &&& 63)).toBitVec
def zlushr (b : BitVec 64) (x : Int) : BitVec 64 := (((Int64.ofBitVec b).toUInt64 >>> ((Int32.ofInt x).toInt64.toUInt64 &&& Int64.toUInt64 63)).toInt64).toBitVec
def zladd (a b : BitVec 64) : BitVec 64 := (Int64.ofBitVec a + Int64.ofBitVec b).toBitVec
def zlsub (a b : BitVec 64) : BitVec 64 := (Int64.ofBitVec a - Int64.ofBitVec b).toBitVec
def zland (a b : BitVec 64) : BitVec 64 := (Int64.ofBitVec a &&& Int64.ofBitVec b).toBitVec
def zlor (a b : BitVec 64) : BitVec 64 := (Int64.ofBitVec a ||| Int64.ofBitVec b).toBitVec
def zlxor (a b : BitVec 64) : BitVec 64 := (Int64.ofBitVec a ^^^ Int64.ofBitVec b).toBitVec
def zlcmp (a b : BitVec 64) : Int := (lg_cmp (Int64.ofBitVec a) (Int64.ofBitVec b)).toInt
def zcmp (c : ClassFile.Cond) (x y : Int) : Bool := match c with
  | .eq => decide (x = y)
  | .ne => decide (¬ x = y)
  | .lt => decide (x < y)
  | .ge => decide (y ≤ x)
  | .gt => decide (y < x)
  | .le => decide (x ≤ y)
def zsw (x : Int) : List (Int × Nat) → Nat → Nat
  | [], d => d
  | p :: ps, d => if x = p.1 then p.2 else zsw x ps d
def zcat : List zV → Nat
  | [] => 0
  | .inr (.inl _) :: l => 2 + zcat l
  | _ :: l => 1 + zcat l
def zone : zV → Bool
  | .inr (.inl _) => false
  | _ => true
/-- a store to a local: a long ahead of it is gone -/
def zinv : Nat → List zV → List zV
  | 0, l => l
  | i + 1, l => match l[i]? with
    | some (.inr (.inl _)) => l.set i (zR 0)
    | _ => l
def zarr (h : zH) (a t : Nat) : Option Nat := if a < 5 then none else match h.2.2[a - 5]? with
  | some q => if q.1 = t then some q.2.1 else none
  | none => none
def zobj (h : zH) (a ci : Nat) : Option (Nat × List Nat) := if a < 5 then none else match h.2.2[a - 5]? with
  | some q => if q.1 = 3 + ci then some q.2 else none
  | none => none
abbrev zcal : Type := Nat → List zV → zH → Option zQ
/-- what an instruction does: over what is read from outside, the calls, what it links to, its numbers and targets, the method, where the next one is, locals, stack, heap -/
abbrev zF : Type := (Nat → Nat × (Nat → Int)) → zcal → List Nat → List (Int × Nat) → Nat → Nat → List zV → List zV → zH → zT
def zo_bin (f : Int → Int → Int) : zF := fun _ _ _ _ y n ls st h => match st with
  | .inl b :: .inl a :: r => some (.inl (y, n, ls, .inl (f a b) :: r, h))
  | _ => none
def zo_binD (f : Int → Int → Int) : zF := fun _ _ _ _ y n ls st h => match st with
  | .inl b :: .inl a :: r => if b = 0 then none else some (.inl (y, n, ls, .inl (f a b) :: r, h))
  | _ => none
def zo_uni (f : Int → Int) : zF := fun _ _ _ _ y n ls st h => match st with
  | .inl a :: r => some (.inl (y, n, ls, .inl (f a) :: r, h))
  | _ => none
def zo_lbin (f : BitVec 64 → BitVec 64 → BitVec 64) : zF := fun _ _ _ _ y n ls st h => match st with
  | .inr (.inl b) :: .inr (.inl a) :: r => some (.inl (y, n, ls, .inr (.inl (f a b)) :: r, h))
  | _ => none
def zo_lsh (f : BitVec 64 → Int → BitVec 64) : zF := fun _ _ _ _ y n ls st h => match st with
  | .inl b :: .inr (.inl a) :: r => some (.inl (y, n, ls, .inr (.inl (f a b)) :: r, h))
  | _ => none
def zo_i2l : zF := fun _ _ _ _ y n ls st h => match st with
  | .inl a :: r => some (.inl (y, n, ls, .inr (.inl (zi2l a)) :: r, h))
  | _ => none
def zo_l2i : zF := fun _ _ _ _ y n ls st h => match st with
  | .inr (.inl a) :: r => some (.inl (y, n, ls, .inl (zl2i a) :: r, h))
  | _ => none
def zo_lcmp : zF := fun _ _ _ _ y n ls st h => match st with
  | .inr (.inl b) :: .inr (.inl a) :: r => some (.inl (y, n, ls, .inl (zlcmp a b) :: r, h))
  | _ => none
def zo_cst : zF := fun _ _ _ ps y n ls st h => match ps with
  | [v] => some (.inl (y, n, ls, .inl v.1 :: st, h))
  | _ => none
def zo_lcst (k : Nat) : zF := fun _ _ _ _ y n ls st h => some (.inl (y, n, ls, .inr (.inl (BitVec.ofNat 64 k)) :: st, h))
def zo_ldc : zF := fun _ _ _ ps y n ls st h => match ps with
  | [v] => some (.inl (y, n, ls, .inr (.inl (BitVec.ofInt 64 v.1)) :: st, h))
  | _ => none
def zo_ldi (i : Nat) : zF := fun _ _ _ _ y n ls st h => match ls[i]? with
  | some (.inl x) => some (.inl (y, n, ls, .inl x :: st, h))
  | _ => none
def zo_ldl (i : Nat) : zF := fun _ _ _ _ y n ls st h => match ls[i]? with
  | some (.inr (.inl x)) => some (.inl (y, n, ls, .inr (.inl x) :: st, h))
  | _ => none
def zo_lda (i : Nat) : zF := fun _ _ _ _ y n ls st h => match ls[i]? with
  | some (.inr (.inr (k + 1))) => some (.inl (y, n, ls, .inr (.inr (k + 1)) :: st, h))
  | _ => none
def zo_sti (i : Nat) : zF := fun _ _ _ _ y n ls st h => match st with
  | .inl x :: r => if i < ls.length then some (.inl (y, n, (zinv i ls).set i (.inl x), r, h)) else none
  | _ => none
def zo_sta (i : Nat) : zF := fun _ _ _ _ y n ls st h => match st with
  | .inr (.inr (k + 1)) :: r => if i < ls.length then some (.inl (y, n, (zinv i ls).set i (.inr (.inr (k + 1))), r, h)) else none
  | _ => none
def zo_stl (i : Nat) : zF := fun _ _ _ _ y n ls st h => match st with
  | .inr (.inl x) :: r => if i + 1 < ls.length then some (.inl (y, n, ((zinv i ls).set i (.inr (.inl x))).set (i + 1) (zR 0), r, h)) else none
  | _ => none
def zo_inc (i : Nat) (k : Int) : zF := fun _ _ _ _ y n ls st h => match ls[i]? with
  | some (.inl x) => some (.inl (y, n, (zinv i ls).set i (.inl (zadd x k)), st, h))
  | _ => none
def zo_ifc (c : ClassFile.Cond) : zF := fun _ _ w _ y n ls st h => match w, st with
  | [t], .inl x :: r => some (.inl (y, (bif zcmp c x 0 then t else n), ls, r, h))
  | _, _ => none
def zo_icm (c : ClassFile.Cond) : zF := fun _ _ w _ y n ls st h => match w, st with
  | [t], .inl b :: .inl a :: r => some (.inl (y, (bif zcmp c a b then t else n), ls, r, h))
  | _, _ => none
def zo_got : zF := fun _ _ w _ y _ ls st h => match w with
  | [t] => some (.inl (y, t, ls, st, h))
  | _ => none
def zo_swi : zF := fun _ _ w ps y _ ls st h => match w, st with
  | [_, d], .inl x :: r => some (.inl (y, zsw x ps d, ls, r, h))
  | _, _ => none
def zo_ald (t : Nat) : zF := fun X _ _ _ y n ls st h => match st with
  | .inl i :: .inr (.inr a) :: r => if a < 5 then (if t = 0 ∧ 1 ≤ a ∧ 0 ≤ i ∧ i < (X a).1 then some (.inl (y, n, ls, .inl ((X a).2 i.toNat) :: r, h)) else none)
    else match zarr h a t with
      | some l => if 0 ≤ i ∧ i < l then some (.inl (y, n, ls, .inl (h.1 a i.toNat) :: r, h)) else none
      | none => none
  | _ => none
def zo_lld : zF := fun _ _ _ _ y n ls st h => match st with
  | .inl i :: .inr (.inr a) :: r => match zarr h a 2 with
      | some l => if 0 ≤ i ∧ i < l then some (.inl (y, n, ls, .inr (.inl (h.2.1 a i.toNat)) :: r, h)) else none
      | none => none
  | _ => none
def zo_ast (t : Nat) : zF := fun _ _ _ _ y n ls st h => match st with
  | .inl x :: .inl i :: .inr (.inr a) :: r => match zarr h a t with
      | some l => if 0 ≤ i ∧ i < l ∧ (t = 1 → x = 0 ∨ x = 1) then some (.inl (y, n, ls, r, (zup h.1 a i.toNat x, h.2))) else none
      | none => none
  | _ => none
def zo_lst : zF := fun _ _ _ _ y n ls st h => match st with
  | .inr (.inl x) :: .inl i :: .inr (.inr a) :: r => match zarr h a 2 with
      | some l => if 0 ≤ i ∧ i < l then some (.inl (y, n, ls, r, (h.1, zug h.2.1 a i.toNat x, h.2.2))) else none
      | none => none
  | _ => none
def zo_len : zF := fun X _ _ _ y n ls st h => match st with
  | .inr (.inr a) :: r => if a = 1 ∧ (X 0).1 = 1 then some (.inl (y, n, ls, .inl ((X a).1 : Nat) :: r, h)) else none
  | _ => none
def zo_gf : zF := fun _ _ w _ y n ls st h => match w, st with
  | [ci, k, t], .inr (.inr a) :: r => match zobj h a ci with
      | some q => if k < q.1 then (if t = 3 then (match q.2[k]? with
          | some z => some (.inl (y, n, ls, .inr (.inr z) :: r, h))
          | none => none) else if t = 2 then some (.inl (y, n, ls, .inr (.inl (h.2.1 a k)) :: r, h)) else some (.inl (y, n, ls, .inl (h.1 a k) :: r, h))) else none
      | none => none
  | _, _ => none
def zo_pf : zF := fun _ _ w _ y n ls st h => match w, st with
  | [ci, k, t], v :: .inr (.inr a) :: r => match zobj h a ci with
      | some q => if k < q.1 then (match v with
          | .inl x => if t = 0 ∨ (t = 1 ∧ (x = 0 ∨ x = 1)) then some (.inl (y, n, ls, r, (zup h.1 a k x, h.2))) else none
          | .inr (.inl x) => if t = 2 then some (.inl (y, n, ls, r, (h.1, zug h.2.1 a k x, h.2.2))) else none
          | .inr (.inr z) => if t = 3 ∧ 5 ≤ z ∧ z < 5 + h.2.2.length ∧ k < q.2.length then some (.inl (y, n, ls, r, (h.1, h.2.1, h.2.2.set (a - 5) (3 + ci, q.1, q.2.set k z)))) else none) else none
      | none => none
  | _, _ => none
def zo_gs : zF := fun _ _ w _ y n ls st h => match w with
  | [k] => if 2 ≤ k ∧ k < 5 then some (.inl (y, n, ls, .inr (.inr k) :: st, h)) else none
  | _ => none
def zo_mka : zF := fun _ _ w _ y n ls st h => match w, st with
  | [t], .inl l :: r => if 0 ≤ l ∧ l ≤ 1000 ∧ h.2.2.length < 96 ∧ t < 3 then some (.inl (y, n, ls, .inr (.inr (h.2.2.length + 5)) :: r, (zclr h.1 (h.2.2.length + 5), zclg h.2.1 (h.2.2.length + 5), h.2.2 ++ [(t, l.toNat, [])]))) else none
  | _, _ => none
def zo_mko : zF := fun _ _ w _ y n ls st h => match w with
  | [ci, l] => if h.2.2.length < 96 then some (.inl (y, n, ls, .inr (.inr (h.2.2.length + 5)) :: st, (zclr h.1 (h.2.2.length + 5), zclg h.2.1 (h.2.2.length + 5), h.2.2 ++ [(3 + ci, l, List.replicate l 0)]))) else none
  | _ => none
def zo_dup : zF := fun _ _ _ _ y n ls st h => match st with
  | v :: r => if zone v then some (.inl (y, n, ls, v :: v :: r, h)) else none
  | _ => none
def zo_dup_x1 : zF := fun _ _ _ _ y n ls st h => match st with
  | v :: u :: r => if zone v ∧ zone u then some (.inl (y, n, ls, v :: u :: v :: r, h)) else none
  | _ => none
def zo_dup2 : zF := fun _ _ _ _ y n ls st h => match st with
  | v :: u :: r => if zone v ∧ zone u then some (.inl (y, n, ls, v :: u :: v :: u :: r, h)) else none
  | _ => none
def zback (y n : Nat) (ls r : List zV) (q : Option zQ) : zT := match q with
  | some (some v, h') => some (.inl (y, n, ls, v :: r, h'))
  | some (none, h') => some (.inl (y, n, ls, r, h'))
  | none => none
/-- a call's first argument is an object of its class (static: nothing is asked) -/
def zrcv (h : zH) (k ci : Nat) (as : List zV) : Bool := match k with
  | 0 => true
  | _ => match as with
    | .inr (.inr a) :: _ => (zobj h a ci).isSome
    | _ => false
def zo_call : zF := fun _ cal w _ y nx ls st h => match w with
  | [k, c, n, ci] => if n ≤ st.length ∧ zcat (st.drop n) ≤ 8 ∧ zrcv h k ci (st.take n).reverse = true then zback y nx ls (st.drop n) (cal c (st.take n).reverse h) else none
  | [4] => match st with
    | .inr (.inr a) :: r => if 5 ≤ a ∧ zcat r ≤ 8 then some (.inl (y, nx, ls, r, h)) else none
    | _ => none
  | [5] => match st with
    | .inl n :: .inl dp :: .inr (.inr a1) :: .inl sp :: .inr (.inr a0) :: r => match zarr h a0 0, zarr h a1 0 with
      | some n0, some n1 => if 0 ≤ sp ∧ 0 ≤ dp ∧ 0 ≤ n ∧ sp.toNat + n.toNat ≤ n0 ∧ dp.toNat + n.toNat ≤ n1 ∧ zcat r ≤ 8 ∧ h.2.2.length = 96 then some (.inl (y, nx, ls, r, (zcpy h.1 a0 sp.toNat a1 dp.toNat n.toNat, h.2))) else none
      | _, _ => none
    | _ => none
  | _ => none
def zo_iret : zF := fun _ _ w _ _ _ _ st h => match w, st with
  | [t], [.inl x] => if t = 0 ∨ x = 0 ∨ x = 1 then some (.inr (some (.inl x), h)) else none
  | _, _ => none
def zo_lret : zF := fun _ _ _ _ _ _ _ st h => match st with
  | [.inr (.inl x)] => some (.inr (some (.inr (.inl x)), h))
  | _ => none
def zo_vret : zF := fun _ _ _ _ _ _ _ st h => match st with
  | [] => some (.inr (none, h))
  | _ => none
def zo_no : zF := fun _ _ _ _ _ _ _ _ _ => none
def zop (i : Instr) : zF := match i with
  | .iconst _ => zo_cst
  | .bipush _ => zo_cst
  | .sipush _ => zo_cst
  | .lconst n => zo_lcst n.val
  | .ldc2_w _ => zo_ldc
  | .iload_n k => zo_ldi k.val
  | .iload k => zo_ldi k
  | .lload_n k => zo_ldl k.val
  | .lload k => zo_ldl k
  | .aload_n k => zo_lda k.val
  | .aload k => zo_lda k
  | .istore_n k => zo_sti k.val
  | .istore k => zo_sti k
  | .lstore_n k => zo_stl k.val
  | .lstore k => zo_stl k
  | .astore_n k => zo_sta k.val
  | .astore k => zo_sta k
  | .iinc k n => zo_inc k n
  | .iadd => zo_bin zadd
  | .isub => zo_bin zsub
  | .imul => zo_bin zmul
  | .iand => zo_bin zand
  | .ior => zo_bin zor
  | .ishl => zo_bin zshl
  | .ishr => zo_bin zshr
  | .idiv => zo_binD zdiv
  | .irem => zo_binD zrem
  | .ineg => zo_uni zneg
  | .i2b => zo_uni zi2b
  | .i2s => zo_uni zi2s
  | .i2l => zo_i2l
  | .l2i => zo_l2i
  | .ladd => zo_lbin zladd
  | .lsub => zo_lbin zlsub
  | .land => zo_lbin zland
  | .lor => zo_lbin zlor
  | .lxor => zo_lbin zlxor
  | .lshl => zo_lsh zlshl
  | .lshr => zo_lsh zlshr
  | .lushr => zo_lsh zlushr
  | .lcmp => zo_lcmp
  | .dup => zo_dup
  | .dup_x1 => zo_dup_x1
  | .dup2 => zo_dup2
  | .ifCond c _ => zo_ifc c
  | .if_icmp c _ => zo_icm c
  | .goto _ => zo_got
  | .tableswitch _ _ _ _ => zo_swi
  | .lookupswitch _ _ => zo_swi
  | .iaload => zo_ald 0
  | .baload => zo_ald 1
  | .laload => zo_lld
  | .iastore => zo_ast 0
  | .bastore => zo_ast 1
  | .lastore => zo_lst
  | .arraylength => zo_len
  | .getfield _ => zo_gf
  | .putfield _ => zo_pf
  | .getstatic _ => zo_gs
  | .newarray _ => zo_mka
  | .new _ => zo_mko
  | .invokestatic _ => zo_call
  | .invokevirtual _ => zo_call
  | .invokespecial _ => zo_call
  | .ireturn => zo_iret
  | .lreturn => zo_lret
  | .return_ => zo_vret
  | _ => zo_no
def zlook (pc : Nat) : List (Nat × zE) → Option zE
  | [] => none
  | q :: l => bif Nat.beq q.1 pc then some q.2 else zlook pc l
