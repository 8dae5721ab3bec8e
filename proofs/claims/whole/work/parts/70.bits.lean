/-! how many bits a long has: the machine's bitCount -/
theorem zy_and {a b c d : Nat} (ha : a < 256) (hc : c < 256) : (a + 256 * b) &&& (c + 256 * d) = (a &&& c) + 256 * (b &&& d) := by
  have e : ∀ x y : Nat, x + 256 * y = 2 ^ 8 * y + x := fun x y => by omega
  have hac : a &&& c < 2 ^ 8 := Nat.lt_of_le_of_lt Nat.and_le_left ha
  rw [e a b, e c d, e (a &&& c) (b &&& d)]
  apply Nat.eq_of_testBit_eq
  intro j
  rw [Nat.testBit_and, Nat.testBit_two_pow_mul_add _ (show a < 2 ^ 8 from ha), Nat.testBit_two_pow_mul_add _ (show c < 2 ^ 8 from hc), Nat.testBit_two_pow_mul_add _ hac]
  split
  · rw [Nat.testBit_and]
  · rw [Nat.testBit_and]
def zy_v (f : Nat → Nat) : List Nat → Nat
  | [] => 0
  | b :: l => f b + 256 * zy_v f l
theorem zy_a1 : ∀ a : Fin 128, ∀ r : Fin 2, (a.val + 128 * r.val) &&& 85 = a.val &&& 85 := by decide +kernel
theorem zy_a2 : ∀ a : Fin 64, ∀ r : Fin 4, (a.val + 64 * r.val) &&& 51 = a.val &&& 51 := by decide +kernel
theorem zy_s1 {f : Nat → Nat} : ∀ {l : List Nat}, (∀ b ∈ l, f b < 256) → (zy_v f l / 2) &&& zy_v (fun _ => 85) l = zy_v (fun b => (f b / 2) &&& 85) l
  | [], _ => by simp only [zy_v]; decide
  | b :: l, h => by
    have ih := zy_s1 (l := l) (fun x hx => h x (List.mem_cons_of_mem _ hx))
    have hb := h b List.mem_cons_self
    simp only [zy_v]
    rw [show (f b + 256 * zy_v f l) / 2 = (f b / 2 + 128 * (zy_v f l % 2)) + 256 * (zy_v f l / 2) by omega, zy_and (by omega) (by decide), ih]
    have := zy_a1 ⟨f b / 2, by omega⟩ ⟨zy_v f l % 2, by omega⟩
    rw [show (f b / 2 + 128 * (zy_v f l % 2)) &&& 85 = (f b / 2) &&& 85 from this]
theorem zy_s2 {f : Nat → Nat} : ∀ {l : List Nat}, (∀ b ∈ l, f b < 256) → (zy_v f l / 4) &&& zy_v (fun _ => 51) l = zy_v (fun b => (f b / 4) &&& 51) l
  | [], _ => by simp only [zy_v]; decide
  | b :: l, h => by
    have ih := zy_s2 (l := l) (fun x hx => h x (List.mem_cons_of_mem _ hx))
    have hb := h b List.mem_cons_self
    simp only [zy_v]
    rw [show (f b + 256 * zy_v f l) / 4 = (f b / 4 + 64 * (zy_v f l % 4)) + 256 * (zy_v f l / 4) by omega, zy_and (by omega) (by decide), ih]
    have := zy_a2 ⟨f b / 4, by omega⟩ ⟨zy_v f l % 4, by omega⟩
    rw [show (f b / 4 + 64 * (zy_v f l % 4)) &&& 51 = (f b / 4) &&& 51 from this]
theorem zy_s3 {f : Nat → Nat} : ∀ {l : List Nat}, (∀ b ∈ l, f b < 256) → zy_v f l &&& zy_v (fun _ => 51) l = zy_v (fun b => f b &&& 51) l
  | [], _ => by simp only [zy_v]; decide
  | b :: l, h => by
    have ih := zy_s3 (l := l) (fun x hx => h x (List.mem_cons_of_mem _ hx))
    simp only [zy_v]
    rw [zy_and (h b List.mem_cons_self) (by decide), ih]
theorem zy_add {f g : Nat → Nat} : ∀ {l : List Nat}, zy_v f l + zy_v g l = zy_v (fun b => f b + g b) l
  | [] => by simp only [zy_v]
  | b :: l => by
    have ih := zy_add (f := f) (g := g) (l := l)
    simp only [zy_v]
    omega
theorem zy_sub {f g : Nat → Nat} : ∀ {l : List Nat}, (∀ b ∈ l, g b ≤ f b) → zy_v g l ≤ zy_v f l ∧ zy_v f l - zy_v g l = zy_v (fun b => f b - g b) l
  | [], _ => ⟨Nat.le_refl _, rfl⟩
  | b :: l, h => by
    have ih := zy_sub (f := f) (g := g) (l := l) (fun x hx => h x (List.mem_cons_of_mem _ hx))
    have hb := h b List.mem_cons_self
    simp only [zy_v]
    omega
theorem zy_congr {f g : Nat → Nat} : ∀ {l : List Nat}, (∀ b ∈ l, f b = g b) → zy_v f l = zy_v g l
  | [], _ => by simp only [zy_v]
  | b :: l, h => by
    have ih := zy_congr (f := f) (g := g) (l := l) (fun x hx => h x (List.mem_cons_of_mem _ hx))
    simp only [zy_v]
    rw [ih, h b List.mem_cons_self]
theorem zy_low {f : Nat → Nat} : ∀ {l : List Nat}, (∀ b ∈ l, f b % 16 ≤ 4) → zy_v f l % 16 ≤ 4
  | [], _ => by simp only [zy_v]; decide
  | b :: l, h => by
    have hb := h b List.mem_cons_self
    simp only [zy_v]
    omega
theorem zy_s4 {f : Nat → Nat} : ∀ {l : List Nat}, (∀ b ∈ l, f b % 16 ≤ 4 ∧ f b / 16 ≤ 4) → (zy_v f l + zy_v f l / 16) &&& zy_v (fun _ => 15) l = zy_v (fun b => (f b + f b / 16) % 16) l
  | [], _ => by simp only [zy_v]; decide
  | b :: l, h => by
    have ih := zy_s4 (l := l) (fun x hx => h x (List.mem_cons_of_mem _ hx))
    have hl := zy_low (f := f) (l := l) (fun x hx => (h x (List.mem_cons_of_mem _ hx)).1)
    have hb := h b List.mem_cons_self
    simp only [zy_v]
    rw [show f b + 256 * zy_v f l + (f b + 256 * zy_v f l) / 16 = (f b + f b / 16 + 16 * (zy_v f l % 16)) + 256 * (zy_v f l + zy_v f l / 16) by omega, zy_and (by omega) (by decide), ih]
    have := Nat.and_two_pow_sub_one_eq_mod (f b + f b / 16 + 16 * (zy_v f l % 16)) 4
    rw [show (f b + f b / 16 + 16 * (zy_v f l % 16)) &&& 15 = (f b + f b / 16 + 16 * (zy_v f l % 16)) % 16 from this]
    omega
/-- a byte's bits, step by step -/
def zy_1 (b : Nat) : Nat := b - ((b / 2) &&& 85)
def zy_2 (b : Nat) : Nat := (zy_1 b &&& 51) + ((zy_1 b / 4) &&& 51)
def zy_3 (b : Nat) : Nat := (zy_2 b + zy_2 b / 16) % 16
def zcb (f : Nat → Bool) : Nat → Nat
  | 0 => 0
  | n + 1 => zcb f n + (bif f n then 1 else 0)
theorem zy_f1 : ∀ b : Fin 256, (b.val / 2) &&& 85 ≤ b.val ∧ zy_1 b.val < 256 ∧ (zy_2 b.val % 16 ≤ 4 ∧ zy_2 b.val / 16 ≤ 4) ∧ zy_3 b.val = zcb (fun j => b.val.testBit j) 8 ∧ zy_3 b.val ≤ 8 := by decide +kernel
theorem zct_zcb {P : Nat → Prop} {f : Nat → Bool} : ∀ {n : Nat}, (∀ c, c < n → (P c ↔ f c = true)) → zct P n = zcb f n
  | 0, _ => rfl
  | n + 1, h => by
    have ih := zct_zcb (n := n) (fun c hc => h c (by omega))
    simp only [zcb]
    cases hf : f n with
    | true => rw [zct_t ((h n (by omega)).mpr hf), ih]; rfl
    | false => rw [zct_f (fun q => by rw [(h n (by omega)).mp q] at hf; cases hf), ih]; rfl
theorem zcb_add (f : Nat → Bool) (m : Nat) : ∀ k, zcb f (m + k) = zcb f m + zcb (fun j => f (m + j)) k
  | 0 => rfl
  | k + 1 => by
    have ih := zcb_add f m k
    show zcb f (m + k) + (bif f (m + k) then 1 else 0) = _
    rw [ih]
    simp only [zcb]
    omega
theorem zcb_congr {f g : Nat → Bool} : ∀ {n : Nat}, (∀ c, c < n → f c = g c) → zcb f n = zcb g n
  | 0, _ => rfl
  | n + 1, h => by
    have ih := zcb_congr (n := n) (fun c hc => h c (by omega))
    simp only [zcb]
    rw [ih, h n (by omega)]
/-- all steps at once, over eight bytes -/
theorem zy_all {l : List Nat} {n m1 m2 m3 : Nat} (h : ∀ b ∈ l, b < 256) (hn : zy_v (fun b => b) l = n) (h1 : zy_v (fun _ => 85) l = m1) (h2 : zy_v (fun _ => 51) l = m2) (h3 : zy_v (fun _ => 15) l = m3) :
    ((n / 2) &&& m1 ≤ n) ∧ ((n - ((n / 2) &&& m1)) &&& m2) + (((n - ((n / 2) &&& m1)) / 4) &&& m2) = zy_v zy_2 l ∧ ((zy_v zy_2 l + zy_v zy_2 l / 16) &&& m3) = zy_v zy_3 l := by
  subst hn h1 h2 h3
  have e1 : (zy_v (fun b => b) l / 2) &&& zy_v (fun _ => 85) l = zy_v (fun b => (b / 2) &&& 85) l := zy_s1 (f := fun b => b) h
  have e2 := zy_sub (f := fun b => b) (g := fun b => (b / 2) &&& 85) (l := l) (fun b hb => (zy_f1 ⟨b, h b hb⟩).1)
  have e3 : zy_v (fun b => b) l - zy_v (fun b => (b / 2) &&& 85) l = zy_v zy_1 l := e2.2
  have g1 : ∀ b ∈ l, zy_1 b < 256 := fun b hb => (zy_f1 ⟨b, h b hb⟩).2.1
  have e4 : zy_v (fun b => zy_1 b &&& 51) l + zy_v (fun b => (zy_1 b / 4) &&& 51) l = zy_v zy_2 l := zy_add
  refine ⟨by rw [e1]; exact e2.1, ?_, ?_⟩
  · rw [e1, e3, zy_s3 g1, zy_s2 g1, e4]
  · rw [zy_s4 (fun b hb => (zy_f1 ⟨b, h b hb⟩).2.2.1)]
    rfl
/-- a number's bytes -/
def zy_l : Nat → Nat → List Nat
  | 0, _ => []
  | k + 1, n => n % 256 :: zy_l k (n / 256)
theorem zy_lv : ∀ {k n : Nat}, n < 256 ^ k → zy_v (fun b => b) (zy_l k n) = n
  | 0, n, h => by
    have : n = 0 := by
      rw [Nat.pow_zero] at h
      omega
    subst this
    rfl
  | k + 1, n, h => by
    have ih := zy_lv (k := k) (n := n / 256) (by
      rw [Nat.pow_succ] at h
      exact Nat.div_lt_of_lt_mul (by rw [Nat.mul_comm]; exact h))
    simp only [zy_l, zy_v]
    rw [ih]
    omega
theorem zy_lb : ∀ {k n b : Nat}, b ∈ zy_l k n → b < 256
  | 0, _, _, h => by cases h
  | k + 1, n, b, h => by
    simp only [zy_l, List.mem_cons] at h
    rcases h with h | h
    · rw [h]; exact Nat.mod_lt _ (by decide)
    · exact zy_lb h
theorem zy_lc (c : Nat) : ∀ k n, zy_v (fun _ => c) (zy_l k n) = zy_v (fun _ => c) (zy_l k 0)
  | 0, _ => rfl
  | k + 1, n => by
    simp only [zy_l, zy_v]
    rw [zy_lc c k (n / 256), zy_lc c k (0 / 256)]
theorem zy_bits : ∀ k m : Nat, zcb (fun j => m.testBit j) (8 * (k + 1)) = zy_3 (m % 256) + zcb (fun j => (m / 256).testBit j) (8 * k) := by
  intro k m
  have hb : m % 256 < 256 := Nat.mod_lt _ (by decide)
  rw [show 8 * (k + 1) = 8 + 8 * k by omega, zcb_add, (zy_f1 ⟨m % 256, hb⟩).2.2.2.1]
  congr 1
  · refine zcb_congr fun j hj => ?_
    show _ = (m % 2 ^ 8).testBit j
    rw [Nat.testBit_mod_two_pow]
    simp only [hj, decide_true, Bool.true_and]
  · refine zcb_congr fun j hj => ?_
    show _ = (m / 2 ^ 8).testBit j
    rw [Nat.testBit_div_two_pow, Nat.add_comm]
def zb1 (x : BitVec 64) : BitVec 64 := zlsub x (zland (zlushr x 1) (BitVec.ofInt 64 (6148914691236517205)))
def zb2 (y : BitVec 64) : BitVec 64 := zladd (zland y (BitVec.ofInt 64 (3689348814741910323))) (zland (zlushr y 2) (BitVec.ofInt 64 (3689348814741910323)))
def zb3 (y : BitVec 64) : BitVec 64 := zland (zladd y (zlushr y 4)) (BitVec.ofInt 64 (1085102592571150095))
def zb4 (y : BitVec 64) : BitVec 64 := zladd y (zlushr y 8)
def zb5 (y : BitVec 64) : BitVec 64 := zladd y (zlushr y 16)
def zb6 (y : BitVec 64) : BitVec 64 := zladd y (zlushr y 32)
theorem z_l2i127 (b : BitVec 64) : zand (zl2i b) 127 = ((b.toNat % 128 : Nat) : Int) := by
  unfold zand zl2i
  rw [Int32.ofInt_toInt]
  show (b.signExtend 32 &&& 127#32).toInt = _
  rw [BitVec.signExtend_eq_setWidth_of_le _ (by decide)]
  have h : (b.setWidth 32 &&& 127#32).toNat = b.toNat % 128 := by
    rw [BitVec.toNat_and, BitVec.toNat_setWidth]
    have := Nat.and_two_pow_sub_one_eq_mod (b.toNat % 2 ^ 32) 7
    rw [show (b.toNat % 2 ^ 32) &&& (127#32).toNat = b.toNat % 2 ^ 32 % 2 ^ 7 from this]
    omega
  rw [BitVec.toInt_eq_toNat_of_lt (by rw [h]; omega), h]
theorem z_shn (y : BitVec 64) (k : Nat) (hk : k < 64) : (zlushr y (k : Int)).toNat = y.toNat / 2 ^ k := by
  rw [zlushr_eq (by omega) (by omega), BitVec.toNat_ushiftRight, Nat.shiftRight_eq_div_pow, Int.toNat_natCast]
theorem zy_d8 {a w : Nat} (h : a < 256) : (a + 256 * w) / 2 ^ 8 = w := by omega
theorem zy_d16 {a w : Nat} (h : a < 65536) : (a + 65536 * w) / 2 ^ 16 = w := by omega
theorem zy_d32 {a w : Nat} (h : a < 4294967296) : (a + 4294967296 * w) / 2 ^ 32 = w := by omega
section
variable {e0 e1 e2 e3 e4 e5 e6 e7 : Nat} 
theorem zy_p4 (h0 : e0 ≤ 8) (h1 : e1 ≤ 8) (h2 : e2 ≤ 8) (h3 : e3 ≤ 8) (h4 : e4 ≤ 8) (h5 : e5 ≤ 8) (h6 : e6 ≤ 8) (h7 : e7 ≤ 8) : (e0 + 256 * (e1 + 256 * (e2 + 256 * (e3 + 256 * (e4 + 256 * (e5 + 256 * (e6 + 256 * e7)))))) + (e0 + 256 * (e1 + 256 * (e2 + 256 * (e3 + 256 * (e4 + 256 * (e5 + 256 * (e6 + 256 * e7))))))) / 2 ^ 8) % 2 ^ 64 = ((e0 + e1) + 256 * (e1 + e2)) + 65536 * ((e2 + e3) + 256 * (e3 + e4) + 65536 * ((e4 + e5) + 256 * (e5 + e6) + 65536 * ((e6 + e7) + 256 * e7))) := by
  rw [zy_d8 (by omega), Nat.mod_eq_of_lt (by omega)]
  omega
theorem zy_p5 (h0 : e0 ≤ 8) (h1 : e1 ≤ 8) (h2 : e2 ≤ 8) (h3 : e3 ≤ 8) (h4 : e4 ≤ 8) (h5 : e5 ≤ 8) (h6 : e6 ≤ 8) (h7 : e7 ≤ 8) : (((e0 + e1) + 256 * (e1 + e2)) + 65536 * ((e2 + e3) + 256 * (e3 + e4) + 65536 * ((e4 + e5) + 256 * (e5 + e6) + 65536 * ((e6 + e7) + 256 * e7))) + (((e0 + e1) + 256 * (e1 + e2)) + 65536 * ((e2 + e3) + 256 * (e3 + e4) + 65536 * ((e4 + e5) + 256 * (e5 + e6) + 65536 * ((e6 + e7) + 256 * e7)))) / 2 ^ 16) % 2 ^ 64 = ((e0 + e1 + e2 + e3) + 256 * (e1 + e2 + e3 + e4) + 65536 * (e2 + e3 + e4 + e5) + 16777216 * (e3 + e4 + e5 + e6)) + 4294967296 * ((e4 + e5 + e6 + e7) + 256 * (e5 + e6 + e7) + 65536 * (e6 + e7) + 16777216 * e7) := by
  rw [zy_d16 (by omega), Nat.mod_eq_of_lt (by omega)]
  omega
theorem zy_p6 (h0 : e0 ≤ 8) (h1 : e1 ≤ 8) (h2 : e2 ≤ 8) (h3 : e3 ≤ 8) (h4 : e4 ≤ 8) (h5 : e5 ≤ 8) (h6 : e6 ≤ 8) (h7 : e7 ≤ 8) : (((e0 + e1 + e2 + e3) + 256 * (e1 + e2 + e3 + e4) + 65536 * (e2 + e3 + e4 + e5) + 16777216 * (e3 + e4 + e5 + e6)) + 4294967296 * ((e4 + e5 + e6 + e7) + 256 * (e5 + e6 + e7) + 65536 * (e6 + e7) + 16777216 * e7) + (((e0 + e1 + e2 + e3) + 256 * (e1 + e2 + e3 + e4) + 65536 * (e2 + e3 + e4 + e5) + 16777216 * (e3 + e4 + e5 + e6)) + 4294967296 * ((e4 + e5 + e6 + e7) + 256 * (e5 + e6 + e7) + 65536 * (e6 + e7) + 16777216 * e7)) / 2 ^ 32) % 2 ^ 64 = (e0 + e1 + e2 + e3 + e4 + e5 + e6 + e7) + 128 * (2 * (e1 + e2 + e3 + e4 + e5 + e6 + e7) + 512 * (e2 + e3 + e4 + e5 + e6 + e7) + 131072 * (e3 + e4 + e5 + e6 + e7) + 33554432 * (e4 + e5 + e6 + e7) + 8589934592 * (e5 + e6 + e7) + 2199023255552 * (e6 + e7) + 562949953421312 * e7) := by
  rw [zy_d32 (by omega), Nat.mod_eq_of_lt (by omega)]
  omega
theorem zy_fin {z i4 i5 i6 : Nat} (h0 : e0 ≤ 8) (h1 : e1 ≤ 8) (h2 : e2 ≤ 8) (h3 : e3 ≤ 8) (h4 : e4 ≤ 8) (h5 : e5 ≤ 8) (h6 : e6 ≤ 8) (h7 : e7 ≤ 8)
    (hz : z = e0 + 256 * (e1 + 256 * (e2 + 256 * (e3 + 256 * (e4 + 256 * (e5 + 256 * (e6 + 256 * e7)))))))
    (k4 : i4 = (z + z / 2 ^ 8) % 2 ^ 64) (k5 : i5 = (i4 + i4 / 2 ^ 16) % 2 ^ 64) (k6 : i6 = (i5 + i5 / 2 ^ 32) % 2 ^ 64) : i6 % 128 = e0 + e1 + e2 + e3 + e4 + e5 + e6 + e7 := by
  rw [hz, zy_p4 h0 h1 h2 h3 h4 h5 h6 h7] at k4
  rw [k4, zy_p5 h0 h1 h2 h3 h4 h5 h6 h7] at k5
  rw [k5, zy_p6 h0 h1 h2 h3 h4 h5 h6 h7] at k6
  rw [k6, Nat.add_mul_mod_self_left]
  clear k4 k5 k6 hz
  exact Nat.mod_eq_of_lt (by omega)
end
theorem zy_68 {k n b : Nat} (hb : b ∈ zy_l k n) : zy_2 b ≤ 68 ∧ zy_3 b ≤ 8 := by
  have := zy_f1 ⟨b, zy_lb hb⟩
  have h2 := this.2.2.1
  have h3 := this.2.2.2.2
  simp only at h2 h3
  exact ⟨by omega, h3⟩
theorem zy_vle {f : Nat → Nat} {c : Nat} : ∀ {l : List Nat}, (∀ b ∈ l, f b ≤ c) → zy_v f l ≤ zy_v (fun _ => c) l
  | [], _ => Nat.le_refl _
  | b :: l, h => by
    have ih := zy_vle (f := f) (c := c) (l := l) (fun x hx => h x (List.mem_cons_of_mem _ hx))
    have hb := h b List.mem_cons_self
    simp only [zy_v]
    omega
theorem z_bitc (x : BitVec 64) : zand (zl2i (zb6 (zb5 (zb4 (zb3 (zb2 (zb1 x))))))) 127 = ((zcb (fun j => x.toNat.testBit j) 64 : Nat) : Int) := by
  have hx : x.toNat < 18446744073709551616 := x.isLt
  generalize hn : x.toNat = n at hx
  have m1 : zy_v (fun _ => 85) (zy_l 8 n) = 6148914691236517205 := by
    rw [zy_lc]
    decide
  have m2 : zy_v (fun _ => 51) (zy_l 8 n) = 3689348814741910323 := by
    rw [zy_lc]
    decide
  have m3 : zy_v (fun _ => 15) (zy_l 8 n) = 1085102592571150095 := by
    rw [zy_lc]
    decide
  have m4 : zy_v (fun _ => 68) (zy_l 8 n) < 5000000000000000000 := by
    rw [zy_lc]
    decide
  obtain ⟨a1, a2, a3⟩ := zy_all (fun b hb => zy_lb hb) (zy_lv (k := 8) (n := n) hx) m1 m2 m3
  have v2 := zy_vle (f := zy_2) (c := 68) (l := zy_l 8 n) (fun b hb => (zy_68 hb).1)
  have c1 : (zb1 x).toNat = n - ((n / 2) &&& 6148914691236517205) := by
    show (x - (zlushr x 1 &&& BitVec.ofInt 64 6148914691236517205)).toNat = _
    have e : (zlushr x 1 &&& BitVec.ofInt 64 6148914691236517205).toNat = (n / 2) &&& 6148914691236517205 := by
      rw [BitVec.toNat_and, show zlushr x 1 = zlushr x ((1 : Nat) : Int) from rfl, z_shn x 1 (by decide), hn]
      rfl
    rw [BitVec.toNat_sub, e, hn]
    clear a2 a3 m1 m2 m3 m4 v2 e
    generalize (n / 2) &&& 6148914691236517205 = y at a1 ⊢
    omega
  have c2 : (zb2 (zb1 x)).toNat = zy_v zy_2 (zy_l 8 n) := by
    rw [← a2]
    show ((zb1 x &&& BitVec.ofInt 64 3689348814741910323) + (zlushr (zb1 x) 2 &&& BitVec.ofInt 64 3689348814741910323)).toNat = _
    rw [BitVec.toNat_add, BitVec.toNat_and, BitVec.toNat_and, show zlushr (zb1 x) 2 = zlushr (zb1 x) ((2 : Nat) : Int) from rfl, z_shn _ 2 (by decide), c1]
    show (((n - ((n / 2) &&& 6148914691236517205)) &&& 3689348814741910323) + (((n - ((n / 2) &&& 6148914691236517205)) / 4) &&& 3689348814741910323)) % 18446744073709551616 = _
    rw [a2]
    exact Nat.mod_eq_of_lt (by omega)
  have c3 : (zb3 (zb2 (zb1 x))).toNat = zy_v zy_3 (zy_l 8 n) := by
    rw [← a3]
    show ((zb2 (zb1 x) + zlushr (zb2 (zb1 x)) 4) &&& BitVec.ofInt 64 1085102592571150095).toNat = _
    rw [BitVec.toNat_and, BitVec.toNat_add, show zlushr (zb2 (zb1 x)) 4 = zlushr (zb2 (zb1 x)) ((4 : Nat) : Int) from rfl, z_shn _ 4 (by decide), c2]
    have : zy_v zy_2 (zy_l 8 n) + zy_v zy_2 (zy_l 8 n) / 2 ^ 4 < 2 ^ 64 := by omega
    rw [Nat.mod_eq_of_lt this]
    rfl
  clear a1 a2 a3 m1 m2 m3 m4 v2 c1 c2
  have g3 : ∀ b ∈ zy_l 8 n, zy_3 b ≤ 8 := fun b hb => (zy_68 hb).2
  have z0 : ∀ f, zcb f (8 * 0) = 0 := fun _ => by simp only [zcb, Nat.mul_zero]
  have hz : zcb (fun j => n.testBit j) 64 = zy_3 (n % 256) + (zy_3 (n / 256 % 256) + (zy_3 (n / 256 / 256 % 256) + (zy_3 (n / 256 / 256 / 256 % 256) + (zy_3 (n / 256 / 256 / 256 / 256 % 256) + (zy_3 (n / 256 / 256 / 256 / 256 / 256 % 256) + (zy_3 (n / 256 / 256 / 256 / 256 / 256 / 256 % 256) + (zy_3 (n / 256 / 256 / 256 / 256 / 256 / 256 / 256 % 256) + 0))))))) := by
    rw [show (64 : Nat) = 8 * (7 + 1) from rfl, zy_bits, show 8 * 7 = 8 * (6 + 1) from rfl, zy_bits, show 8 * 6 = 8 * (5 + 1) from rfl, zy_bits, show 8 * 5 = 8 * (4 + 1) from rfl, zy_bits, show 8 * 4 = 8 * (3 + 1) from rfl, zy_bits, show 8 * 3 = 8 * (2 + 1) from rfl, zy_bits, show 8 * 2 = 8 * (1 + 1) from rfl, zy_bits, show 8 * 1 = 8 * (0 + 1) from rfl, zy_bits, z0]
  simp only [zy_l, zy_v, List.mem_cons, List.not_mem_nil, or_false, forall_eq_or_imp, forall_eq, Nat.mul_zero, Nat.add_zero] at c3 g3 hz
  obtain ⟨g0, g1, g2, g3, g4, g5, g6, g7⟩ := g3
  rw [z_l2i127, hz]
  clear hz hx
  have c4 : (zb4 (zb3 (zb2 (zb1 x)))).toNat = ((zb3 (zb2 (zb1 x))).toNat + (zb3 (zb2 (zb1 x))).toNat / 2 ^ 8) % 2 ^ 64 := by
    show (zb3 (zb2 (zb1 x)) + zlushr (zb3 (zb2 (zb1 x))) ((8 : Nat) : Int)).toNat = _
    rw [BitVec.toNat_add, z_shn _ 8 (by decide)]
  have c5 : (zb5 (zb4 (zb3 (zb2 (zb1 x))))).toNat = ((zb4 (zb3 (zb2 (zb1 x)))).toNat + (zb4 (zb3 (zb2 (zb1 x)))).toNat / 2 ^ 16) % 2 ^ 64 := by
    show (zb4 (zb3 (zb2 (zb1 x))) + zlushr (zb4 (zb3 (zb2 (zb1 x)))) ((16 : Nat) : Int)).toNat = _
    rw [BitVec.toNat_add, z_shn _ 16 (by decide)]
  have c6 : (zb6 (zb5 (zb4 (zb3 (zb2 (zb1 x)))))).toNat = ((zb5 (zb4 (zb3 (zb2 (zb1 x))))).toNat + (zb5 (zb4 (zb3 (zb2 (zb1 x))))).toNat / 2 ^ 32) % 2 ^ 64 := by
    show (zb5 (zb4 (zb3 (zb2 (zb1 x)))) + zlushr (zb5 (zb4 (zb3 (zb2 (zb1 x))))) ((32 : Nat) : Int)).toNat = _
    rw [BitVec.toNat_add, z_shn _ 32 (by decide)]
  have := zy_fin g0 g1 g2 g3 g4 g5 g6 g7 c3 c4 c5 c6
  rw [this]
  simp only [Nat.add_assoc]
theorem s_bitCount {d : Nat} {F : zM} {G : zG} (hd : 1 ≤ d) {P : Int → Prop} : zex d 243 [zL (zset P)] (F, G, zsg) = some (some (zI (zct (fun c => P c) 64 : Nat)), F, G, zsg) := by
  obtain ⟨d, rfl⟩ := zds hd
  have h : zle (some (some (zI (zand (zl2i (zb6 (zb5 (zb4 (zb3 (zb2 (zb1 (zset P)))))))) 127)), F, G, zsg)) (zex (d + 1) 243 [zL (zset P)] (F, G, zsg)) := g_Long_bitCount (zset P)
  refine h _ ?_
  rw [z_bitc, zct_zcb (f := fun j => (zset P).toNat.testBit j) (fun c hc => (zset_get hc).symm)]
