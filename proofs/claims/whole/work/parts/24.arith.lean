/-! the machine's arithmetic on numbers that stay in range -/
theorem zadd_eq {x y : Int} (h1 : -2147483648 ≤ x + y) (h2 : x + y ≤ 2147483647) : zadd x y = x + y := by
  unfold zadd
  rw [← Int32.ofInt_add]
  exact zin_eq ⟨h1, h2⟩
theorem zsub_eq {x y : Int} (h1 : -2147483648 ≤ x - y) (h2 : x - y ≤ 2147483647) : zsub x y = x - y := by
  unfold zsub
  rw [← Int32.ofInt_sub]
  exact zin_eq ⟨h1, h2⟩
theorem zmul_eq {x y : Int} (h1 : -2147483648 ≤ x * y) (h2 : x * y ≤ 2147483647) : zmul x y = x * y := by
  unfold zmul
  rw [← Int32.ofInt_mul]
  exact zin_eq ⟨h1, h2⟩
theorem zneg_eq {x : Int} (h1 : -2147483648 ≤ -x) (h2 : -x ≤ 2147483647) : zneg x = -x := by
  unfold zneg
  rw [← Int32.ofInt_neg]
  exact zin_eq ⟨h1, h2⟩
theorem z_div32 {x y : Int} (h1 : 0 ≤ x) (h2 : x ≤ 2147483647) (h3 : 0 < y) (h4 : y ≤ 2147483647) : Int32.ofInt x / Int32.ofInt y = Int32.ofInt (x / y) := by
  have hd0 : 0 ≤ x / y := Int.ediv_nonneg h1 (by omega)
  have hd1 : x / y ≤ x := Int.ediv_le_self y h1
  apply Int32.toInt_inj.mp
  rw [Int32.toInt_div, zin_eq ⟨by omega, h2⟩, zin_eq ⟨by omega, h4⟩, zin_eq ⟨by omega, by omega⟩, Int.tdiv_eq_ediv_of_nonneg h1]
  exact Int.bmod_eq_of_le (by omega) (by omega)
theorem zdiv_eq {x y : Int} (h1 : 0 ≤ x) (h2 : x ≤ 2147483647) (h3 : 0 < y) (h4 : y ≤ 2147483647) : zdiv x y = x / y := by
  have hd0 : 0 ≤ x / y := Int.ediv_nonneg h1 (by omega)
  have hd1 : x / y ≤ x := Int.ediv_le_self y h1
  unfold zdiv
  rw [z_div32 h1 h2 h3 h4]
  exact zin_eq ⟨by omega, by omega⟩
theorem zrem_eq {x y : Int} (h1 : 0 ≤ x) (h2 : x ≤ 2147483647) (h3 : 0 < y) (h4 : y ≤ 2147483647) : zrem x y = x % y := by
  unfold zrem
  rw [z_div32 h1 h2 h3 h4, ← Int32.ofInt_mul, ← Int32.ofInt_sub]
  have h5 : x - x / y * y = x % y := by
    rw [Int.emod_def, Int.mul_comm]
  have h6 := Int.emod_nonneg x (b := y) (by omega)
  have h7 := Int.emod_lt_of_pos x h3
  rw [h5]
  exact zin_eq ⟨by omega, by omega⟩
theorem z_bvn {n : Nat} (h : n ≤ 2147483647) : (BitVec.ofNat 32 n).toInt = (n : Int) := by
  rw [BitVec.toInt_eq_toNat_of_lt]
  · rw [BitVec.toNat_ofNat, Nat.mod_eq_of_lt (by omega)]
  · rw [BitVec.toNat_ofNat, Nat.mod_eq_of_lt (by omega)]
    omega
theorem z_ofn {n : Nat} : (Int32.ofInt (n : Int)).toBitVec = BitVec.ofNat 32 n := by
  show BitVec.ofInt 32 (n : Int) = _
  rw [BitVec.ofInt_natCast]
theorem zand_nat {n m : Nat} (h1 : n ≤ 2147483647) : zand (n : Int) (m : Int) = ((n &&& m : Nat) : Int) := by
  unfold zand
  show ((Int32.ofInt (n : Int)).toBitVec &&& (Int32.ofInt (m : Int)).toBitVec).toInt = _
  rw [z_ofn, z_ofn, ← BitVec.ofNat_and]
  exact z_bvn (Nat.le_trans Nat.and_le_left h1)
theorem zor_nat {n m : Nat} (h1 : n ≤ 2147483647) (h2 : m ≤ 2147483647) : zor (n : Int) (m : Int) = ((n ||| m : Nat) : Int) := by
  unfold zor
  show ((Int32.ofInt (n : Int)).toBitVec ||| (Int32.ofInt (m : Int)).toBitVec).toInt = _
  rw [z_ofn, z_ofn, ← BitVec.ofNat_or]
  have : n ||| m < 2 ^ 31 := Nat.or_lt_two_pow (by omega) (by omega)
  exact z_bvn (by omega)
theorem zand_eq {x y : Int} (h1 : 0 ≤ x) (h2 : x ≤ 2147483647) (h3 : 0 ≤ y) : zand x y = ((x.toNat &&& y.toNat : Nat) : Int) := by
  obtain ⟨n, rfl⟩ := Int.eq_ofNat_of_zero_le h1
  obtain ⟨m, rfl⟩ := Int.eq_ofNat_of_zero_le h3
  exact zand_nat (by omega)
theorem zor_eq {x y : Int} (h1 : 0 ≤ x) (h2 : x ≤ 2147483647) (h3 : 0 ≤ y) (h4 : y ≤ 2147483647) : zor x y = ((x.toNat ||| y.toNat : Nat) : Int) := by
  obtain ⟨n, rfl⟩ := Int.eq_ofNat_of_zero_le h1
  obtain ⟨m, rfl⟩ := Int.eq_ofNat_of_zero_le h3
  exact zor_nat (by omega) (by omega)
theorem z_sh32 : ∀ n : Fin 32, (Int32.ofNat n.val &&& 31).toBitVec.smod 32 = BitVec.ofNat 32 n.val := by decide
theorem z_sh {y : Int} (h1 : 0 ≤ y) (h2 : y < 32) : (Int32.ofInt y &&& 31).toBitVec.smod 32 = BitVec.ofNat 32 y.toNat := by
  obtain ⟨n, rfl⟩ := Int.eq_ofNat_of_zero_le h1
  exact z_sh32 ⟨n, by omega⟩
theorem zshl_eq {x y : Int} (h1 : 0 ≤ x) (h2 : 0 ≤ y) (h3 : y < 32) (h4 : x * 2 ^ y.toNat ≤ 2147483647) : zshl x y = x * 2 ^ y.toNat := by
  obtain ⟨n, rfl⟩ := Int.eq_ofNat_of_zero_le h1
  have h5 : n * 2 ^ y.toNat ≤ 2147483647 := by
    have : ((n * 2 ^ y.toNat : Nat) : Int) ≤ 2147483647 := by
      rw [Int.natCast_mul, Int.natCast_pow]; exact h4
    omega
  unfold zshl
  show ((Int32.ofInt (n : Int)).toBitVec <<< ((Int32.ofInt y &&& 31).toBitVec.smod 32)).toInt = _
  rw [z_sh h2 h3, z_ofn, BitVec.shiftLeft_eq', BitVec.toNat_ofNat, Nat.mod_eq_of_lt (show y.toNat < 2 ^ 32 by omega)]
  rw [show BitVec.ofNat 32 n <<< y.toNat = BitVec.ofNat 32 (n * 2 ^ y.toNat) by
    apply BitVec.eq_of_toNat_eq
    rw [BitVec.toNat_shiftLeft, BitVec.toNat_ofNat, BitVec.toNat_ofNat, Nat.shiftLeft_eq, Nat.mod_mul_mod]]
  rw [z_bvn h5, Int.natCast_mul, Int.natCast_pow]
  rfl
theorem zshr_eq {x y : Int} (h1 : 0 ≤ x) (h2 : x ≤ 2147483647) (h3 : 0 ≤ y) (h4 : y < 32) : zshr x y = ((x.toNat / 2 ^ y.toNat : Nat) : Int) := by
  obtain ⟨n, rfl⟩ := Int.eq_ofNat_of_zero_le h1
  unfold zshr
  show ((Int32.ofInt (n : Int)).toBitVec.sshiftRight' ((Int32.ofInt y &&& 31).toBitVec.smod 32)).toInt = _
  rw [z_sh h3 h4, z_ofn, BitVec.sshiftRight_eq', BitVec.toNat_ofNat, Nat.mod_eq_of_lt (show y.toNat < 2 ^ 32 by omega)]
  rw [BitVec.toInt_sshiftRight, z_bvn (by omega)]
  show ((n : Int) >>> y.toNat) = _
  rw [Int.shiftRight_eq_div_pow]
  rfl
/-- bit t of a number -/
theorem z_bit {x t : Int} (h1 : 0 ≤ x) (h2 : x ≤ 2147483647) (h3 : 0 ≤ t) (h4 : t < 32) : zand (zshr x t) 1 = if x.toNat.testBit t.toNat then 1 else 0 := by
  have h5 : x.toNat / 2 ^ t.toNat ≤ x.toNat := Nat.div_le_self _ _
  have h6 : ((x.toNat / 2 ^ t.toNat : Nat) : Int) ≤ 2147483647 := by omega
  rw [zshr_eq h1 h2 h3 h4, zand_eq (Int.natCast_nonneg _) h6 (by decide)]
  rw [Int.toNat_natCast, show (1 : Int).toNat = 1 from rfl, Nat.and_one_is_mod]
  rw [Nat.testBit_eq_decide_div_mod_eq]
  have := Nat.mod_lt (x.toNat / 2 ^ t.toNat) (show 0 < 2 by decide)
  by_cases h : x.toNat / 2 ^ t.toNat % 2 = 1
  · simp [h]
  · have h0 : x.toNat / 2 ^ t.toNat % 2 = 0 := by omega
    simp [h0]
theorem z_one {t : Int} (h3 : 0 ≤ t) (h4 : t < 31) : zshl 1 t = 2 ^ t.toNat := by
  have h5 : (2 : Int) ^ t.toNat ≤ 2 ^ 30 := by
    have : (2 : Nat) ^ t.toNat ≤ 2 ^ 30 := Nat.pow_le_pow_right (by decide) (by omega)
    have h6 : ((2 ^ t.toNat : Nat) : Int) ≤ ((2 ^ 30 : Nat) : Int) := Int.ofNat_le.mpr this
    rwa [Int.natCast_pow, Int.natCast_pow] at h6
  rw [zshl_eq (by decide) h3 (by omega) (by rw [Int.one_mul]; omega), Int.one_mul]
/-! longs -/
theorem zland_eq (a b : BitVec 64) : zland a b = a &&& b := rfl
theorem zlor_eq (a b : BitVec 64) : zlor a b = a ||| b := rfl
theorem zlnot_eq (a : BitVec 64) : zlxor a (BitVec.ofInt 64 (-1)) = ~~~ a := by
  show a ^^^ (BitVec.ofInt 64 (-1)) = _
  rw [show BitVec.ofInt 64 (-1) = BitVec.allOnes 64 by decide, BitVec.xor_allOnes]
theorem z_sh64 : ∀ n : Fin 64, ((Int32.ofNat n.val).toInt64 &&& 63).toBitVec.smod 64 = BitVec.ofNat 64 n.val := by decide
theorem z_shl64 {y : Int} (h1 : 0 ≤ y) (h2 : y < 64) : ((Int32.ofInt y).toInt64 &&& 63).toBitVec.smod 64 = BitVec.ofNat 64 y.toNat := by
  obtain ⟨n, rfl⟩ := Int.eq_ofNat_of_zero_le h1
  exact z_sh64 ⟨n, by omega⟩
theorem zlshl_eq {b : BitVec 64} {y : Int} (h1 : 0 ≤ y) (h2 : y < 64) : zlshl b y = b <<< y.toNat := by
  unfold zlshl
  show (Int64.ofBitVec b).toBitVec <<< (((Int32.ofInt y).toInt64 &&& 63).toBitVec.smod 64) = _
  rw [z_shl64 h1 h2, BitVec.shiftLeft_eq', BitVec.toNat_ofNat, Nat.mod_eq_of_lt (show y.toNat < 2 ^ 64 by omega)]
  rfl
theorem zlshr_eq {b : BitVec 64} {y : Int} (h1 : 0 ≤ y) (h2 : y < 64) : zlshr b y = b.sshiftRight y.toNat := by
  unfold zlshr
  show (Int64.ofBitVec b).toBitVec.sshiftRight' (((Int32.ofInt y).toInt64 &&& 63).toBitVec.smod 64) = _
  rw [z_shl64 h1 h2, BitVec.sshiftRight_eq', BitVec.toNat_ofNat, Nat.mod_eq_of_lt (show y.toNat < 2 ^ 64 by omega)]
  rfl
theorem z_shu64 : ∀ n : Fin 64, ((Int32.ofNat n.val).toInt64.toUInt64 &&& Int64.toUInt64 63).toNat % 64 = n.val := by decide
theorem zlushr_eq {b : BitVec 64} {y : Int} (h1 : 0 ≤ y) (h2 : y < 64) : zlushr b y = b >>> y.toNat := by
  obtain ⟨n, rfl⟩ := Int.eq_ofNat_of_zero_le h1
  unfold zlushr
  show ((UInt64.ofBitVec b) >>> ((Int32.ofInt (n : Int)).toInt64.toUInt64 &&& Int64.toUInt64 63)).toBitVec = _
  rw [UInt64.toBitVec_shiftRight]
  show b >>> (_ % 64 : BitVec 64) = _
  rw [BitVec.ushiftRight_eq']
  congr 1
  rw [BitVec.toNat_umod]
  exact z_shu64 ⟨n, by omega⟩
theorem zlcmp_eq {a b : BitVec 64} : zlcmp a b = 0 ↔ a = b := by
  unfold zlcmp lg_cmp
  by_cases h : a = b
  · subst h
    rw [if_neg (by rw [gt_iff_lt, Int64.lt_iff_toInt_lt]; omega), if_pos rfl]
    exact ⟨fun _ => rfl, fun _ => rfl⟩
  · have h2 : ¬ Int64.ofBitVec a = Int64.ofBitVec b := fun e => h (congrArg Int64.toBitVec e)
    constructor
    · intro e
      exfalso
      split at e
      · exact absurd e (by decide)
      · exact absurd e (by decide)
    · intro e; exact absurd e h
