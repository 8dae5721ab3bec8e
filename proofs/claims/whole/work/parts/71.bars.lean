/-! what bars a hand: bits of what stands in some cells, on both sides -/
/-- what bit j tells of a cell -/
def q_b1 (ρ : zM) (p : Nat → Int) (h b c : Int) (j : Nat) : Prop :=
  (j < 8 ∧ (j : Int) ≠ b ∧ (j : Int) < ρ 71 8 ∧ q_lies ρ p j c) ∨ (8 ≤ j ∧ j < 12 ∧ ((j - 8 : Nat) : Int) < ρ 71 5 ∧ ρ 76 (j - 8) = c ∧ p (24 + (j - 8)) = 0) ∨ (j = 12 ∧ p (29 - h).toNat = c)
def zib (ρ : zM) (p : Nat → Int) (h b : Int) (C : Int → Prop) (x : Int) : Prop := (0 ≤ x ∧ x < 8192) ∧ ∀ j : Nat, x.toNat.testBit j = true ↔ ∃ c : Int, (0 ≤ c ∧ c < 64) ∧ C c ∧ q_b1 ρ p h b c j
theorem z_tor {x y : Int} (h1 : 0 ≤ x) (h2 : x ≤ 2147483647) (h3 : 0 ≤ y) (h4 : y ≤ 2147483647) (j : Nat) : (zor x y).toNat.testBit j = true ↔ (x.toNat.testBit j = true ∨ y.toNat.testBit j = true) := by
  rw [zor_eq h1 h2 h3 h4, Int.toNat_natCast, Nat.testBit_or, Bool.or_eq_true]
theorem z_orr {x y : Int} (h1 : 0 ≤ x) (h2 : x < 8192) (h3 : 0 ≤ y) (h4 : y < 8192) : 0 ≤ zor x y ∧ zor x y < 8192 := by
  rw [zor_eq h1 (by omega) h3 (by omega)]
  have : x.toNat ||| y.toNat < 2 ^ 13 := Nat.or_lt_two_pow (by omega) (by omega)
  omega
theorem z_b0 (j : Nat) : ¬ (0 : Int).toNat.testBit j = true := by
  show ¬ Nat.testBit 0 j = true
  rw [Nat.zero_testBit]
  decide
theorem z_bp (k j : Nat) : (((2 ^ k : Nat) : Int)).toNat.testBit j = true ↔ j = k := by
  rw [Int.toNat_natCast, Nat.testBit_two_pow, decide_eq_true_eq]
  exact eq_comm
section
variable {d : Nat} {F ρ : zM} {G : zG} {p : Nat → Int} {h b : Int} {C C' : Int → Prop} {x y : Int}
theorem zib.or (h1 : zib ρ p h b C x) (h2 : zib ρ p h b C' y) : zib ρ p h b (fun c => C c ∨ C' c) (zor x y) := by
  obtain ⟨⟨a1, a2⟩, a3⟩ := h1
  obtain ⟨⟨b1, b2⟩, b3⟩ := h2
  refine ⟨z_orr a1 a2 b1 b2, fun j => ?_⟩
  rw [z_tor a1 (by omega) b1 (by omega), a3, b3]
  constructor
  · rintro (⟨c, q1, q2, q3⟩ | ⟨c, q1, q2, q3⟩)
    · exact ⟨c, q1, Or.inl q2, q3⟩
    · exact ⟨c, q1, Or.inr q2, q3⟩
  · rintro ⟨c, q1, q2 | q2, q3⟩
    · exact Or.inl ⟨c, q1, q2, q3⟩
    · exact Or.inr ⟨c, q1, q2, q3⟩
theorem zib.none : zib ρ p h b (fun _ => False) 0 := ⟨⟨by decide, by decide⟩, fun j => ⟨fun q => absurd q (z_b0 j), fun ⟨_, _, q, _⟩ => q.elim⟩⟩
theorem zib.congr (h1 : zib ρ p h b C x) (h2 : ∀ c, 0 ≤ c → c < 64 → (C c ↔ C' c)) : zib ρ p h b C' x := by
  refine ⟨h1.1, fun j => ?_⟩
  rw [h1.2]
  constructor
  · rintro ⟨c, q1, q2, q3⟩
    exact ⟨c, q1, (h2 c q1.1 q1.2).mp q2, q3⟩
  · rintro ⟨c, q1, q2, q3⟩
    exact ⟨c, q1, (h2 c q1.1 q1.2).mpr q2, q3⟩
theorem zib.uniq (h1 : zib ρ p h b C x) (h2 : zib ρ p h b C y) : x = y := by
  have : x.toNat = y.toNat := by
    apply Nat.eq_of_testBit_eq
    intro j
    rw [Bool.eq_iff_iff, h1.2, h2.2]
  have a1 := h1.1
  have a2 := h2.1
  omega
/-- two things are never in one cell -/
theorem q_lies1 (hN : zNO ρ p) {t u : Nat} {c : Int} (ht : t < 8) (hu : u < 8) (h1 : q_lies ρ p t c) (h2 : q_lies ρ p u c) : t = u := by
  rcases Classical.em (t = u) with q | q
  · exact q
  · have := hN t u ht hu q h1.1 h2.1
    have a1 := h1.2
    have a2 := h2.2
    omega
theorem z_256 {k : Nat} (hk : k < 4) : zshl 256 (k : Int) = ((2 ^ (8 + k) : Nat) : Int) := by
  have : k = 0 ∨ k = 1 ∨ k = 2 ∨ k = 3 := by omega
  rcases this with rfl | rfl | rfl | rfl <;> decide
theorem z_1k {k : Nat} (hk : k < 8) : zshl 1 (k : Int) = ((2 ^ k : Nat) : Int) := by
  rw [z_one (by omega) (by omega), Int.toNat_natCast, Int.natCast_pow]
  rfl
theorem z_2k {k n : Nat} (hk : k < n) : ((2 ^ k : Nat) : Int) < ((2 ^ n : Nat) : Int) := Int.ofNat_lt.mpr (Nat.pow_lt_pow_right (by decide) hk)
theorem m_barIn (hd : 2 ≤ d) (hR : zMR ρ F) (hp : F 72 = p) (hV : zRv ρ) (hA : zPa ρ p) (hN : zNO ρ p) {c : Int} (hh : h = 0 ∨ h = 1) (h1 : 0 ≤ c) (h2 : c < 64) : ∃ x, zex d 72 [zR 71, zI h, zI c, zI b] (F, G, zsg) = some (some (zI x), F, G, zsg) ∧ zib ρ p h b (fun u => u = c) x := by
  obtain ⟨d, rfl⟩ := zds (show 1 ≤ d by omega)
  have hR0 := hR
  obtain ⟨r1, r2, r3, r4, r5, r6, r7, r8⟩ := hR
  have hD := hV.2.1
  have hT := hV.1
  have loop : ∀ (m k : Nat) (acc : Int), (k : Int) + m = ρ 71 5 → 0 ≤ acc → acc < 8192 → (∀ j : Nat, acc.toNat.testBit j = true ↔ (8 ≤ j ∧ j < 8 + k ∧ ρ 76 (j - 8) = c ∧ p (24 + (j - 8)) = 0)) →
      ∃ x, zev zX0 d (72, 6, [zR 71, zI h, zI c, zI b, zI acc, zI k], [], F, G, zsg) = some (some (zI x), F, G, zsg) ∧ zib ρ p h b (fun u => u = c) x := by
    intro m
    induction m with
    | zero =>
      intro k acc hk a1 a2 a3
      have fin : ∀ A B : Int, (0 ≤ A ∧ A < 8192) → (0 ≤ B ∧ B < 8192) → (∀ j : Nat, A.toNat.testBit j = true ↔ zfd (fun t => (t : Int) ≠ b ∧ q_lies ρ p t c) 0 (ρ 71 8).toNat = j) → (∀ j : Nat, B.toNat.testBit j = true ↔ (j = 12 ∧ p (29 - h).toNat = c)) → zib ρ p h b (fun u => u = c) (zor (zor acc A) B) := by
        intro A B hA0 hB0 hA1 hB1
        have hz := z_orr a1 a2 hA0.1 hA0.2
        refine ⟨z_orr hz.1 hz.2 hB0.1 hB0.2, fun j => ?_⟩
        rw [z_tor hz.1 (by omega) hB0.1 (by omega), z_tor a1 (by omega) hA0.1 (by omega), a3, hA1, hB1]
        constructor
        · rintro ((⟨q1, q2, q3, q4⟩ | q) | q)
          · exact ⟨c, ⟨h1, h2⟩, rfl, Or.inr (Or.inl ⟨q1, by omega, by omega, q3, q4⟩)⟩
          · obtain ⟨-, q2, ⟨q3, q4⟩, -⟩ := zfd_some q
            exact ⟨c, ⟨h1, h2⟩, rfl, Or.inl ⟨by omega, q3, by omega, q4⟩⟩
          · exact ⟨c, ⟨h1, h2⟩, rfl, Or.inr (Or.inr q)⟩
        · rintro ⟨u, -, rfl, q | q | q⟩
          · left; right
            obtain ⟨q1, q2, q3, q4⟩ := q
            have h0 : 0 ≤ zfd (fun t => (t : Int) ≠ b ∧ q_lies ρ p t u) 0 (ρ 71 8).toNat := zfd_pos.mpr ⟨j, Nat.zero_le _, by omega, q2, q4⟩
            obtain ⟨i, hi⟩ := Int.eq_ofNat_of_zero_le h0
            obtain ⟨-, e2, ⟨e3, e4⟩, -⟩ := zfd_some hi
            rw [hi, q_lies1 hN (show i < 8 by omega) q1 e4 q4]
          · left; left
            exact ⟨q.1, by omega, q.2.2.2.1, q.2.2.2.2⟩
          · right
            exact q
      have hz := zfd_r (P := fun t => (t : Int) ≠ b ∧ q_lies ρ p t c) (m := (ρ 71 8).toNat) (k := 0)
      have h29 : zsub 29 h = 29 - h := zsub_eq (by omega) (by omega)
      have B0 : ∀ j : Nat, ¬ p (29 - h).toNat = c → ((0 : Int).toNat.testBit j = true ↔ (j = 12 ∧ p (29 - h).toNat = c)) := fun j q => ⟨fun e => absurd e (z_b0 j), fun e => absurd e.2 q⟩
      have B1 : ∀ j : Nat, p (29 - h).toNat = c → ((4096 : Int).toNat.testBit j = true ↔ (j = 12 ∧ p (29 - h).toNat = c)) := fun j q => by
        rw [show (4096 : Int) = ((2 ^ 12 : Nat) : Int) from rfl, z_bp]
        exact ⟨fun e => ⟨e, q⟩, fun e => e.1⟩
      by_cases c1 : zfd (fun t => (t : Int) ≠ b ∧ q_lies ρ p t c) 0 (ρ 71 8).toNat = -1
      · have A0 : ∀ j : Nat, (0 : Int).toNat.testBit j = true ↔ zfd (fun t => (t : Int) ≠ b ∧ q_lies ρ p t c) 0 (ρ 71 8).toNat = j := fun j => ⟨fun e => absurd e (z_b0 j), fun e => by omega⟩
        by_cases c2 : p (29 - h).toNat = c
        · refine ⟨_, g_M_barIn_6 h c b acc k _ ?_, fin 0 4096 (by decide) (by decide) A0 (fun j => B1 j c2)⟩
          rw [r1, if_neg (by omega), m_thingIn (by omega) hR0 hp hV hA, zbI_some, if_pos c1, h29, if_pos (by omega), hp, if_pos c2]
        · refine ⟨_, g_M_barIn_6 h c b acc k _ ?_, fin 0 0 (by decide) (by decide) A0 (fun j => B0 j c2)⟩
          rw [r1, if_neg (by omega), m_thingIn (by omega) hR0 hp hV hA, zbI_some, if_pos c1, h29, if_pos (by omega), hp, if_neg c2]
      · obtain ⟨i, hi⟩ := Int.eq_ofNat_of_zero_le (show 0 ≤ zfd (fun t => (t : Int) ≠ b ∧ q_lies ρ p t c) 0 (ρ 71 8).toNat by omega)
        have hi8 : i < 8 := by
          have := (zfd_some hi).2.1
          omega
        have hp8 := z_2k (k := i) (n := 8) hi8
        have A0 : (0 ≤ zshl 1 (zfd (fun t => (t : Int) ≠ b ∧ q_lies ρ p t c) 0 (ρ 71 8).toNat) ∧ zshl 1 (zfd (fun t => (t : Int) ≠ b ∧ q_lies ρ p t c) 0 (ρ 71 8).toNat) < 8192) ∧ ∀ j : Nat, (zshl 1 (zfd (fun t => (t : Int) ≠ b ∧ q_lies ρ p t c) 0 (ρ 71 8).toNat)).toNat.testBit j = true ↔ zfd (fun t => (t : Int) ≠ b ∧ q_lies ρ p t c) 0 (ρ 71 8).toNat = j := by
          rw [hi, z_1k hi8]
          refine ⟨⟨Int.natCast_nonneg _, by omega⟩, fun j => ?_⟩
          rw [z_bp]
          omega
        by_cases c2 : p (29 - h).toNat = c
        · refine ⟨_, g_M_barIn_6 h c b acc k _ ?_, fin _ 4096 A0.1 (by decide) A0.2 (fun j => B1 j c2)⟩
          rw [r1, if_neg (by omega), m_thingIn (by omega) hR0 hp hV hA, zbI_some, if_neg c1, h29, if_pos (by omega), hp, if_pos c2]
        · refine ⟨_, g_M_barIn_6 h c b acc k _ ?_, fin _ 0 A0.1 (by decide) A0.2 (fun j => B0 j c2)⟩
          rw [r1, if_neg (by omega), m_thingIn (by omega) hR0 hp hV hA, zbI_some, if_neg c1, h29, if_pos (by omega), hp, if_neg c2]
    | succ m ih =>
      intro k acc hk a1 a2 a3
      have hk4 : k < 4 := by omega
      have h24 : zadd 24 (k : Int) = 24 + k := zadd_eq (by omega) (by omega)
      have t24 : (24 + (k : Int)).toNat = 24 + k := by omega
      have hk1 : zadd (k : Int) 1 = k + 1 := zadd_eq (by omega) (by omega)
      have h0 : zor acc 0 = acc := zor_0 a1 (by omega)
      by_cases c1 : ρ 76 k = c ∧ p (24 + k) = 0
      · have hp12 := z_2k (k := 8 + k) (n := 12) (by omega)
        have hn := z_orr a1 a2 (show 0 ≤ zshl 256 (k : Int) by rw [z_256 hk4]; exact Int.natCast_nonneg _) (show zshl 256 (k : Int) < 8192 by rw [z_256 hk4]; omega)
        obtain ⟨x, e1, e2⟩ := ih (k + 1) (zor acc (zshl 256 k)) (by omega) hn.1 hn.2 (fun j => by
          rw [z_256 hk4, z_tor a1 (by omega) (Int.natCast_nonneg _) (by omega), a3, z_bp]
          constructor
          · rintro (q | q)
            · exact ⟨q.1, by omega, q.2.2⟩
            · subst q
              rw [show 8 + k - 8 = k by omega]
              exact ⟨by omega, by omega, c1⟩
          · rintro ⟨q1, q2, q3⟩
            by_cases hj : j = 8 + k
            · exact Or.inr hj
            · exact Or.inl ⟨q1, by omega, q3⟩)
        rw [zcast1] at e1
        refine ⟨x, g_M_barIn_6 h c b acc k _ ?_, e2⟩
        rw [r1, if_pos (by omega), if_pos (by omega), r5, Int.toNat_natCast, if_pos c1.1, h24, if_pos (by omega), hp, t24, if_pos c1.2, hk1]
        exact e1
      · obtain ⟨x, e1, e2⟩ := ih (k + 1) acc (by omega) a1 a2 (fun j => by
          rw [a3]
          constructor
          · rintro ⟨q1, q2, q3⟩
            exact ⟨q1, by omega, q3⟩
          · rintro ⟨q1, q2, q3⟩
            by_cases hj : j = 8 + k
            · subst hj
              rw [show 8 + k - 8 = k by omega] at q3
              exact absurd q3 c1
            · exact ⟨q1, by omega, q3⟩)
        rw [zcast1] at e1
        refine ⟨x, g_M_barIn_6 h c b acc k _ ?_, e2⟩
        rw [r1, if_pos (by omega), if_pos (by omega), r5, Int.toNat_natCast, h24, if_pos (show 0 ≤ 24 + (k : Int) ∧ 24 + (k : Int) < 43 by omega), hp, t24, hk1, h0]
        split
        · rename_i q1
          rw [if_neg (fun q => c1 ⟨q1, q⟩)]
          exact e1
        · exact e1
  obtain ⟨x, e1, e2⟩ := loop (ρ 71 5).toNat 0 0 (by omega) (by decide) (by decide) (fun j => ⟨fun e => absurd e (z_b0 j), fun q => by omega⟩)
  rw [show ((0 : Nat) : Int) = 0 from rfl] at e1
  exact ⟨x, g_M_barIn h c b _ e1, e2⟩
theorem m_firstX (hd : 1 ≤ d) {c s w : Int} (h1 : 0 ≤ c) (h2 : c < 64) (h3 : 0 ≤ w) (h4 : w ≤ 2) : zex d 61 [zI c, zI s, zI w] (F, G, zsg) = some (some (zI (c % 8 + q_ex s w)), F, G, zsg) := by
  obtain ⟨d, rfl⟩ := zds (show 1 ≤ d by omega)
  refine g_M_firstX c s w _ ?_
  rw [zrem_eq h1 (by omega) (by omega) (by omega), zsub_eq (by omega) (by omega), zadd_eq (by omega) (by omega)]
  unfold q_ex
  repeat' split
  all_goals (congr 4 <;> omega)
theorem m_rowY (hd : 1 ≤ d) {c s : Int} (h1 : 0 ≤ c) (h2 : c < 64) : zex d 62 [zI c, zI s] (F, G, zsg) = some (some (zI (c / 8 + q_sy s)), F, G, zsg) := by
  obtain ⟨d, rfl⟩ := zds (show 1 ≤ d by omega)
  refine g_M_rowY c s _ ?_
  rw [zdiv_eq h1 (by omega) (by omega) (by omega), zsub_eq (by omega) (by omega), zadd_eq (by omega) (by omega)]
  unfold q_sy
  repeat' split
  all_goals (congr 4 <;> omega)
/-- a cell of what a hand in a cell holds -/
def q_hc (ρ : zM) (p : Nat → Int) (b c : Int) (k : Nat) (u : Int) : Prop := (0 ≤ c % 8 + q_ex (p (16 + b.toNat)) (ρ 79 b.toNat) + k ∧ c % 8 + q_ex (p (16 + b.toNat)) (ρ 79 b.toNat) + k ≤ 7) ∧ (0 ≤ c / 8 + q_sy (p (16 + b.toNat)) ∧ c / 8 + q_sy (p (16 + b.toNat)) ≤ 7) ∧ u = 8 * (c / 8 + q_sy (p (16 + b.toNat))) + (c % 8 + q_ex (p (16 + b.toNat)) (ρ 79 b.toNat)) + k
/-- what bars at a cell -/
def q_ba (ρ : zM) (p : Nat → Int) (h b c u : Int) : Prop := ¬ q_stand ρ p h b (p (16 + b.toNat)) c ∧ (u = c ∨ (b ≠ -1 ∧ ∃ k : Nat, (k : Int) < ρ 79 b.toNat ∧ q_hc ρ p b c k u))
theorem m_barsAt (hd : 4 ≤ d) (hR : zMR ρ F) (hp : F 72 = p) (hV : zRv ρ) (hA : zPa ρ p) (hN : zNO ρ p) {c : Int} (hh : h = 0 ∨ h = 1) (h1 : 0 ≤ c) (h2 : c < 64) (hb : -1 ≤ b ∧ b < ρ 71 8) : ∃ x, zex d 73 [zR 71, zI h, zI c, zI b] (F, G, zsg) = some (some (zI x), F, G, zsg) ∧ zib ρ p h b (q_ba ρ p h b c) x := by
  obtain ⟨d, rfl⟩ := zds (show 1 ≤ d by omega)
  have hn8 := hV.1.2
  obtain ⟨x, e1, e2⟩ := m_barIn (d := d) (G := G) (b := b) (by omega) hR hp hV hA hN hh h1 h2
  by_cases c0 : b = -1
  · have hs : q_stand ρ p h b (-1) c ↔ q_stand ρ p h b (p (16 + b.toNat)) c := by
      unfold q_stand
      constructor
      · intro q; exact ⟨q.1, fun r => absurd c0 r⟩
      · intro q; exact ⟨q.1, fun r => absurd c0 r⟩
    by_cases c1 : q_stand ρ p h b (p (16 + b.toNat)) c
    · refine ⟨0, g_M_barsAt h c b _ ?_, zib.none.congr (fun u _ _ => ⟨fun q => q.elim, fun q => q.1 c1⟩)⟩
      rw [if_pos c0, m_stands (by omega) hR hp hV hA hh h1 h2 hb, zbI_some, zp_t (hs.mpr c1), if_neg (by decide)]
    · refine ⟨x, g_M_barsAt h c b _ ?_, e2.congr (fun u _ _ => ⟨fun q => ⟨c1, Or.inl q⟩, fun q => q.2.elim id (fun r => absurd c0 r.1)⟩)⟩
      rw [if_pos c0, m_stands (by omega) hR hp hV hA hh h1 h2 hb, zbI_some, zp_f (fun q => c1 (hs.mp q)), if_pos rfl, e1, zbI_some, if_pos c0]
  · have h16 : zadd 16 b = 16 + b := zadd_eq (by omega) (by omega)
    have t16 : (16 + b).toNat = 16 + b.toNat := by omega
    have g16 : 0 ≤ 16 + b ∧ 16 + b < 43 := by omega
    have g8 : 0 ≤ b ∧ b < 8 := by omega
    have hw := hV.2.2.2.2.1 b.toNat (by omega)
    have hex := q_ex_r (p (16 + b.toNat)) hw.1 hw.2
    have hsy := q_sy_r (p (16 + b.toNat))
    by_cases c1 : q_stand ρ p h b (p (16 + b.toNat)) c
    · refine ⟨0, g_M_barsAt h c b _ ?_, zib.none.congr (fun u _ _ => ⟨fun q => q.elim, fun q => q.1 c1⟩)⟩
      rw [if_neg c0, h16, if_pos g16, hp, t16, m_stands (by omega) hR hp hV hA hh h1 h2 hb, zbI_some, zp_t c1, if_neg (by decide)]
    · have loop : ∀ (m k : Nat) (acc : Int) (C : Int → Prop), (k : Int) + m = ρ 79 b.toNat → zib ρ p h b C acc → ∃ x, zev zX0 d (73, 83, [zR 71, zI h, zI c, zI b, zI acc, zI (c % 8 + q_ex (p (16 + b.toNat)) (ρ 79 b.toNat)), zI (c / 8 + q_sy (p (16 + b.toNat))), zI k], [], F, G, zsg) = some (some (zI x), F, G, zsg) ∧ zib ρ p h b (fun u => C u ∨ ∃ e : Nat, k ≤ e ∧ (e : Int) < ρ 79 b.toNat ∧ q_hc ρ p b c e u) x := by
        intro m
        induction m with
        | zero =>
          intro k acc C hk hC
          refine ⟨acc, g_M_barsAt_83 h c b acc _ _ k _ ?_, hC.congr (fun u _ _ => ⟨Or.inl, fun q => q.elim id (fun ⟨e, q1, q2, _⟩ => by omega)⟩)⟩
          rw [if_pos g8, hR.2.2.2.2.2.2.2, if_neg (by omega)]
        | succ m ih =>
          intro k acc C hk hC
          have hk1 : zadd (k : Int) 1 = k + 1 := zadd_eq (by omega) (by omega)
          have ha : zadd (c % 8 + q_ex (p (16 + b.toNat)) (ρ 79 b.toNat)) k = c % 8 + q_ex (p (16 + b.toNat)) (ρ 79 b.toNat) + k := zadd_eq (by omega) (by omega)
          by_cases c2 : (0 ≤ c % 8 + q_ex (p (16 + b.toNat)) (ρ 79 b.toNat) + k ∧ c % 8 + q_ex (p (16 + b.toNat)) (ρ 79 b.toNat) + k ≤ 7) ∧ (0 ≤ c / 8 + q_sy (p (16 + b.toNat)) ∧ c / 8 + q_sy (p (16 + b.toNat)) ≤ 7)
          · obtain ⟨y, f1, f2⟩ := m_barIn (d := d) (G := G) (b := b) (c := 8 * (c / 8 + q_sy (p (16 + b.toNat))) + (c % 8 + q_ex (p (16 + b.toNat)) (ρ 79 b.toNat)) + k) (by omega) hR hp hV hA hN hh (by omega) (by omega)
            obtain ⟨z, g1, g2⟩ := ih (k + 1) (zor acc y) _ (by omega) (hC.or f2)
            rw [zcast1] at g1
            refine ⟨z, g_M_barsAt_83 h c b acc _ _ k _ ?_, g2.congr (fun u _ _ => ?_)⟩
            · rw [if_pos g8, hR.2.2.2.2.2.2.2, if_pos (by omega), ha, m_in (by omega), zbI_some, zp_t c2.1, if_neg (by decide), m_in (by omega), zbI_some, zp_t c2.2, if_neg (by decide), zmul_eq (by omega) (by omega), zadd_eq (x := 8 * (c / 8 + q_sy (p (16 + b.toNat)))) (by omega) (by omega), zadd_eq (x := 8 * (c / 8 + q_sy (p (16 + b.toNat))) + (c % 8 + q_ex (p (16 + b.toNat)) (ρ 79 b.toNat))) (by omega) (by omega), f1, zbI_some, hk1]
              exact g1
            · constructor
              · rintro ((q | q) | ⟨e, q1, q2⟩)
                · exact Or.inl q
                · exact Or.inr ⟨k, Nat.le_refl _, by omega, c2.1, c2.2, q⟩
                · exact Or.inr ⟨e, by omega, q2⟩
              · rintro (q | ⟨e, q1, q2, q3⟩)
                · exact Or.inl (Or.inl q)
                · by_cases he : e = k
                  · subst he; exact Or.inl (Or.inr q3.2.2)
                  · exact Or.inr ⟨e, by omega, q2, q3⟩
          · obtain ⟨z, g1, g2⟩ := ih (k + 1) acc C (by omega) hC
            rw [zcast1] at g1
            refine ⟨z, g_M_barsAt_83 h c b acc _ _ k _ ?_, g2.congr (fun u _ _ => or_congr Iff.rfl (zE_step (Q := fun e => (e : Int) < ρ 79 b.toNat ∧ q_hc ρ p b c e u) (fun q => c2 ⟨q.2.1, q.2.2.1⟩)))⟩
            have h0 : zor acc 0 = acc := zor_0 hC.1.1 (by have := hC.1.2; omega)
            rw [if_pos g8, hR.2.2.2.2.2.2.2, if_pos (by omega), ha, m_in (by omega), zbI_some, m_in (by omega), zbI_some, hk1, h0]
            split
            · exact g1
            · rename_i q1
              rw [zp_0, Classical.not_not] at q1
              rw [if_pos (zp_f (fun q => c2 ⟨q1, q⟩))]
              exact g1
      obtain ⟨z, f1, f2⟩ := loop (ρ 79 b.toNat).toNat 0 x _ (by omega) e2
      rw [show ((0 : Nat) : Int) = 0 from rfl] at f1
      refine ⟨z, g_M_barsAt h c b _ ?_, f2.congr (fun u _ _ => ?_)⟩
      · rw [if_neg c0, h16, if_pos g16, hp, t16, m_stands (by omega) hR hp hV hA hh h1 h2 hb, zbI_some, zp_f c1, if_pos rfl, e1, zbI_some, if_neg c0, if_pos g16, if_pos g8, hR.2.2.2.2.2.2.2, hp, m_firstX (by omega) h1 h2 hw.1 hw.2, zbI_some, if_pos g16, hp, m_rowY (by omega) h1 h2, zbI_some]
        exact f1
      · constructor
        · rintro (q | ⟨e, -, q⟩)
          · exact ⟨c1, Or.inl q⟩
          · exact ⟨c1, Or.inr ⟨c0, e, q⟩⟩
        · rintro ⟨-, q | ⟨-, e, q⟩⟩
          · exact Or.inl q
          · exact Or.inr ⟨e, Nat.zero_le _, q⟩
end
