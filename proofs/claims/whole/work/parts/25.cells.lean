/-! what the small methods come to: cells, kinds -/
noncomputable def zp (P : Prop) : Int := @ite _ P (Classical.propDecidable P) 1 0
theorem zp_t {P : Prop} (h : P) : zp P = 1 := by unfold zp; rw [if_pos h]
theorem zp_f {P : Prop} (h : ¬ P) : zp P = 0 := by unfold zp; rw [if_neg h]
theorem zp_01 (P : Prop) : zp P = 0 ∨ zp P = 1 := by
  rcases Classical.em P with h | h
  · exact Or.inr (zp_t h)
  · exact Or.inl (zp_f h)
theorem zp_0 {P : Prop} : zp P = 0 ↔ ¬ P := by
  constructor
  · intro h hp
    rw [zp_t hp] at h
    exact absurd h (by decide)
  · exact zp_f
theorem zp_1 {P : Prop} : zp P = 1 ↔ P := by
  constructor
  · intro h
    rcases Classical.em P with h1 | h1
    · exact h1
    · rw [zp_f h1] at h
      exact absurd h (by decide)
  · exact zp_t
theorem zp_iff {P Q : Prop} (h : P ↔ Q) : zp P = zp Q := by rw [propext h]
theorem zp_if {α : Type} {P : Prop} {a b : α} : (if zp P = 0 then a else b) = @ite _ P (Classical.propDecidable P) b a := by
  rcases Classical.em P with h | h
  · rw [if_neg (fun e => zp_0.mp e h), if_pos h]
  · rw [if_pos (zp_0.mpr h), if_neg h]
theorem zds {d : Nat} (h : 1 ≤ d) : ∃ e, d = e + 1 := ⟨d - 1, by omega⟩
def q_at (x y : Int) : Int := if 0 ≤ x ∧ x < 8 ∧ 0 ≤ y ∧ y < 8 then 8 * y + x else -1
def q_bes (c s : Int) : Int := if s = 0 then q_at (c % 8) (c / 8 - 1) else if s = 1 then q_at (c % 8 + 1) (c / 8) else if s = 2 then q_at (c % 8) (c / 8 + 1) else q_at (c % 8 - 1) (c / 8)
def q_wt (k w : Int) : Int := if k = 1 then 2 * w + 3 else if k = 3 then w else if k = 4 then 2 * (2 * w + 3) else if k = 5 then 2 * w - 1 else 2 * w
def q_sides (k : Int) : Int := if k = 1 ∨ k = 4 then 10 else if k = 2 then 13 else if k = 5 then 5 else 15
def q_hf (k s : Int) : Bool := (q_sides k).toNat.testBit s.toNat
def q_tup (k : Int) : Prop := k ≠ 2 ∧ k ≠ 5
def q_ex (s w : Int) : Int := if s = 1 then -w else if s = 3 then 1 else 0
def q_sy (s : Int) : Int := if s = 0 then 1 else if s = 2 then -1 else 0
/-- where a thing's first cell is, held from a side -/
def q_heldAt (c s w : Int) : Int := if 0 ≤ c % 8 + q_ex s w ∧ c % 8 + q_ex s w + w ≤ 8 ∧ 0 ≤ c / 8 + q_sy s ∧ c / 8 + q_sy s < 8 then 8 * (c / 8 + q_sy s) + (c % 8 + q_ex s w) else -1
/-- where a hand is that holds a thing so -/
def q_handFor (f s w : Int) : Int := q_at (f % 8 - q_ex s w) (f / 8 - q_sy s)
theorem q_at_r (x y : Int) : -1 ≤ q_at x y ∧ q_at x y < 64 := by
  unfold q_at; split <;> omega
theorem q_bes_r (c s : Int) : -1 ≤ q_bes c s ∧ q_bes c s < 64 := by
  unfold q_bes
  split
  · exact q_at_r _ _
  · split
    · exact q_at_r _ _
    · split
      · exact q_at_r _ _
      · exact q_at_r _ _
theorem q_handFor_r (f s w : Int) : -1 ≤ q_handFor f s w ∧ q_handFor f s w < 64 := q_at_r _ _
theorem q_heldAt_r (c s w : Int) (hw : 1 ≤ w) : -1 ≤ q_heldAt c s w ∧ q_heldAt c s w < 64 := by
  unfold q_heldAt; split <;> omega
theorem q_sides_r (k : Int) : 0 ≤ q_sides k ∧ q_sides k ≤ 15 := by
  unfold q_sides; repeat' split
  all_goals omega
theorem q_ex_r (s : Int) {w : Int} (h1 : 0 ≤ w) (h2 : w ≤ 2) : -2 ≤ q_ex s w ∧ q_ex s w ≤ 1 := by
  unfold q_ex; repeat' split
  all_goals omega
theorem q_sy_r (s : Int) : -1 ≤ q_sy s ∧ q_sy s ≤ 1 := by
  unfold q_sy; repeat' split
  all_goals omega
/-- a hand holds it so just where it lies so -/
theorem q_held_hand {c f s w : Int} (hc : 0 ≤ c ∧ c < 64) (hw : w = 1 ∨ w = 2) (hf : 0 ≤ f ∧ f < 64 ∧ f % 8 + w ≤ 8) : q_handFor f s w = c ↔ q_heldAt c s w = f := by
  unfold q_handFor q_heldAt q_at q_ex q_sy
  repeat' split
  all_goals (constructor <;> intro h <;> omega)
theorem q_hand_held {c s w : Int} (hc : 0 ≤ c ∧ c < 64) (hw : w = 1 ∨ w = 2) (h : q_heldAt c s w ≠ -1) : q_handFor (q_heldAt c s w) s w = c := by
  unfold q_handFor q_heldAt q_at q_ex q_sy at *
  repeat' split
  all_goals (try split at h)
  all_goals omega
section
variable {d : Nat} {F : zM} {G : zG}
theorem s_isCell (hd : 1 ≤ d) {c : Int} : zex d 149 [zI c] (F, G, zsg) = some (some (zI (zp (0 ≤ c ∧ c < 64))), F, G, zsg) := by
  obtain ⟨d, rfl⟩ := zds hd
  refine g_Cells_isCell c _ ?_
  repeat' split
  all_goals first | rw [zp_t (by omega)] | rw [zp_f (by omega)]
theorem s_isSide (hd : 1 ≤ d) {c : Int} : zex d 150 [zI c] (F, G, zsg) = some (some (zI (zp (0 ≤ c ∧ c ≤ 3))), F, G, zsg) := by
  obtain ⟨d, rfl⟩ := zds hd
  refine g_Cells_isSide c _ ?_
  repeat' split
  all_goals first | rw [zp_t (by omega)] | rw [zp_f (by omega)]
theorem z_bit1 {c : Int} (h1 : 0 ≤ c) (h2 : c < 64) (n : Nat) : (zlshl (BitVec.ofNat 64 1) c).getLsbD n = decide (n = c.toNat) := by
  rw [zlshl_eq h1 h2, BitVec.getLsbD_shiftLeft]
  by_cases h : n = c.toNat
  · subst h
    have h3 : c.toNat < 64 := by omega
    simp [h3]
  · by_cases h4 : n < c.toNat
    · simp [h, h4]
    · have h5 : n - c.toNat ≠ 0 := by omega
      have : (BitVec.ofNat 64 1).getLsbD (n - c.toNat) = false := by
        rw [BitVec.getLsbD_ofNat]
        have h6 : Nat.testBit 1 (n - c.toNat) = false := by
          obtain ⟨k, hk⟩ : ∃ k, n - c.toNat = k + 1 := ⟨n - c.toNat - 1, by omega⟩
          rw [hk, Nat.testBit_succ]
          simp
        rw [h6]; simp
      rw [this]; simp [h]
theorem s_bit (hd : 1 ≤ d) {c : Int} : zex d 151 [zI c] (F, G, zsg) = some (some (zL (zlshl (BitVec.ofNat 64 1) c)), F, G, zsg) := by
  obtain ⟨d, rfl⟩ := zds hd
  exact g_Cells_bit c _ rfl
theorem z_has {b : BitVec 64} {c : Int} (h1 : 0 ≤ c) (h2 : c < 64) : zlcmp (zland (zlushr b c) (BitVec.ofNat 64 1)) (BitVec.ofNat 64 0) = 0 ↔ b.getLsbD c.toNat = false := by
  rw [zlcmp_eq, zland_eq, zlushr_eq h1 h2]
  constructor
  · intro h
    have := congrArg (fun v => BitVec.getLsbD v 0) h
    simpa [BitVec.getLsbD_and, BitVec.getLsbD_ushiftRight] using this
  · intro h
    apply BitVec.eq_of_getLsbD_eq
    intro i hi
    rw [BitVec.getLsbD_and, BitVec.getLsbD_ushiftRight]
    by_cases h0 : i = 0
    · subst h0
      simp [h]
    · have h6 : (BitVec.ofNat 64 1).getLsbD i = false := by
        rw [BitVec.getLsbD_ofNat]
        have h6 : Nat.testBit 1 i = false := by
          obtain ⟨k, hk⟩ : ∃ k, i = k + 1 := ⟨i - 1, by omega⟩
          rw [hk, Nat.testBit_succ]
          simp
        rw [h6]; simp
      rw [h6]; simp
theorem s_has (hd : 1 ≤ d) {b : BitVec 64} {c : Int} (h1 : 0 ≤ c) (h2 : c < 64) : zex d 152 [zL b, zI c] (F, G, zsg) = some (some (zI (zp (b.getLsbD c.toNat = true))), F, G, zsg) := by
  obtain ⟨d, rfl⟩ := zds hd
  refine g_Cells_has b c _ ?_
  split
  · rename_i h
    rw [zp_f (by rw [(z_has h1 h2).mp h]; decide)]
  · rename_i h
    cases hb : b.getLsbD c.toNat with
    | false => exact absurd ((z_has h1 h2).mpr hb) h
    | true => rw [zp_t rfl]
theorem s_at (hd : 1 ≤ d) {x y : Int} : zex d 153 [zI x, zI y] (F, G, zsg) = some (some (zI (q_at x y)), F, G, zsg) := by
  obtain ⟨d, rfl⟩ := zds hd
  refine g_Cells_at x y _ ?_
  unfold q_at
  split
  · rw [if_neg (by omega)]
  · split
    · split
      · rw [if_neg (by omega)]
      · split
        · rw [if_pos (by omega), zmul_eq (by omega) (by omega), zadd_eq (by omega) (by omega), Int.mul_comm]
        · rw [if_neg (by omega)]
    · rw [if_neg (by omega)]
theorem s_beside (hd : 2 ≤ d) {c s : Int} (h1 : 0 ≤ c) (h2 : c < 64) : zex d 154 [zI c, zI s] (F, G, zsg) = some (some (zI (q_bes c s)), F, G, zsg) := by
  obtain ⟨d, rfl⟩ := zds (Nat.le_of_lt hd)
  refine g_Cells_beside c s _ ?_
  unfold q_bes
  rw [zrem_eq h1 (by omega) (by omega) (by omega), zdiv_eq h1 (by omega) (by omega) (by omega)]
  rw [zadd_eq (by omega) (by omega), zadd_eq (by omega) (by omega), zsub_eq (by omega) (by omega), zsub_eq (by omega) (by omega)]
  repeat' split
  all_goals rw [s_at (by omega), zbI_some]
theorem s_areBeside (hd : 3 ≤ d) {c a : Int} (h1 : 0 ≤ c) (h2 : c < 64) : zex d 155 [zI c, zI a] (F, G, zsg) = some (some (zI (zp (q_bes c 0 = a ∨ q_bes c 1 = a ∨ q_bes c 2 = a ∨ q_bes c 3 = a))), F, G, zsg) := by
  obtain ⟨d, rfl⟩ := zds (show 1 ≤ d by omega)
  refine g_Cells_areBeside c a _ ?_
  refine g_Cells_areBeside_2 c a 0 _ ?_
  rw [if_neg (by decide), s_beside (by omega) h1 h2, zbI_some]
  split
  · rw [zp_t (by omega)]
  · refine g_Cells_areBeside_2 c a 1 _ ?_
    rw [if_neg (by decide), s_beside (by omega) h1 h2, zbI_some]
    split
    · rw [zp_t (by omega)]
    · refine g_Cells_areBeside_2 c a 2 _ ?_
      rw [if_neg (by decide), s_beside (by omega) h1 h2, zbI_some]
      split
      · rw [zp_t (by omega)]
      · refine g_Cells_areBeside_2 c a 3 _ ?_
        rw [if_neg (by decide), s_beside (by omega) h1 h2, zbI_some]
        split
        · rw [zp_t (by omega)]
        · refine g_Cells_areBeside_2 c a 4 _ ?_
          rw [if_pos (by decide), zp_f (by omega)]
theorem s_isInRow (hd : 1 ≤ d) {c w : Int} (h1 : 0 ≤ c) (h2 : c < 64) (h3 : w = 1 ∨ w = 2) : zex d 158 [zI c, zI w] (F, G, zsg) = some (some (zI (zp (c % 8 + w ≤ 8))), F, G, zsg) := by
  obtain ⟨d, rfl⟩ := zds hd
  refine g_Cells_isInRow c w _ ?_
  rw [zrem_eq h1 (by omega) (by omega) (by omega), zadd_eq (by omega) (by omega)]
  split
  · rw [zp_f (by omega)]
  · rw [zp_t (by omega)]
theorem s_eastOfHand (hd : 1 ≤ d) {s w : Int} (h1 : 0 ≤ w) (h2 : w ≤ 2) : zex d 160 [zI s, zI w] (F, G, zsg) = some (some (zI (q_ex s w)), F, G, zsg) := by
  obtain ⟨d, rfl⟩ := zds hd
  refine g_Cells_eastOfHand s w _ ?_
  rw [zneg_eq (by omega) (by omega)]
  unfold q_ex
  repeat' split
  all_goals rfl
theorem s_southOfHand (hd : 1 ≤ d) {s : Int} : zex d 161 [zI s] (F, G, zsg) = some (some (zI (q_sy s)), F, G, zsg) := by
  obtain ⟨d, rfl⟩ := zds hd
  refine g_Cells_southOfHand s _ ?_
  unfold q_sy
  repeat' split
  all_goals rfl
theorem s_handCell (hd : 2 ≤ d) {f w s : Int} (h1 : 0 ≤ f) (h2 : f < 64) (h3 : 0 ≤ w) (h4 : w ≤ 2) : zex d 162 [zI f, zI w, zI s] (F, G, zsg) = some (some (zI (q_handFor f s w)), F, G, zsg) := by
  obtain ⟨d, rfl⟩ := zds (show 1 ≤ d by omega)
  refine g_Cells_handCell f w s _ ?_
  have h5 := q_ex_r s h3 h4
  have h6 := q_sy_r s
  rw [s_eastOfHand (by omega) h3 h4, zbI_some, s_southOfHand (by omega), zbI_some]
  rw [zrem_eq h1 (by omega) (by omega) (by omega), zdiv_eq h1 (by omega) (by omega) (by omega), zsub_eq (by omega) (by omega), zsub_eq (by omega) (by omega), s_at (by omega), zbI_some]
  rfl
/-! kinds -/
theorem s_isKind (hd : 1 ≤ d) {k : Int} : zex d 170 [zI k] (F, G, zsg) = some (some (zI (zp (0 ≤ k ∧ k ≤ 5))), F, G, zsg) := by
  obtain ⟨d, rfl⟩ := zds hd
  refine g_Kinds_isKind k _ ?_
  repeat' split
  all_goals first | rw [zp_t (by omega)] | rw [zp_f (by omega)]
theorem s_isWide (hd : 1 ≤ d) {k : Int} : zex d 171 [zI k] (F, G, zsg) = some (some (zI (zp (1 ≤ k ∧ k ≤ 2))), F, G, zsg) := by
  obtain ⟨d, rfl⟩ := zds hd
  refine g_Kinds_isWide k _ ?_
  repeat' split
  all_goals first | rw [zp_t (by omega)] | rw [zp_f (by omega)]
theorem z6 {k : Int} (h1 : 0 ≤ k) (h2 : k ≤ 5) : k = 0 ∨ k = 1 ∨ k = 2 ∨ k = 3 ∨ k = 4 ∨ k = 5 := by omega
theorem z_sides {k : Int} (h1 : 0 ≤ k) (h2 : k ≤ 5) : (zX0 2).2 (Int.toNat k) = q_sides k := by
  rcases z6 h1 h2 with rfl | rfl | rfl | rfl | rfl | rfl <;> rfl
theorem z_tup {k : Int} (h1 : 0 ≤ k) (h2 : k ≤ 5) : (zX0 4).2 (Int.toNat k) = zp (q_tup k) := by
  unfold q_tup
  rcases z6 h1 h2 with rfl | rfl | rfl | rfl | rfl | rfl
  · rw [zp_t (by decide)]; rfl
  · rw [zp_t (by decide)]; rfl
  · rw [zp_f (by decide)]; rfl
  · rw [zp_t (by decide)]; rfl
  · rw [zp_t (by decide)]; rfl
  · rw [zp_f (by decide)]; rfl
theorem s_sidesOf (hd : 1 ≤ d) {k : Int} (h1 : 0 ≤ k) (h2 : k ≤ 5) : zex d 172 [zI k] (F, G, zsg) = some (some (zI (q_sides k)), F, G, zsg) := by
  obtain ⟨d, rfl⟩ := zds hd
  refine g_Kinds_sidesOf k _ ?_
  rw [if_pos (by omega), z_sides h1 h2]
theorem s_isHeldFrom (hd : 1 ≤ d) {k s : Int} (h1 : 0 ≤ k) (h2 : k ≤ 5) (h3 : 0 ≤ s) (h4 : s < 32) : zex d 173 [zI k, zI s] (F, G, zsg) = some (some (zI (zp (q_hf k s = true))), F, G, zsg) := by
  obtain ⟨d, rfl⟩ := zds hd
  refine g_Kinds_isHeldFrom k s _ ?_
  have h5 := q_sides_r k
  rw [if_pos (by omega), z_sides h1 h2, z_bit (by omega) (by omega) h3 h4]
  unfold q_hf
  cases (q_sides k).toNat.testBit s.toNat
  · rw [zp_f (by decide)]; simp
  · rw [zp_t rfl]; simp
theorem s_weightOf (hd : 1 ≤ d) {k w : Int} (h1 : 0 ≤ w) (h2 : w ≤ 2) : zex d 174 [zI k, zI w] (F, G, zsg) = some (some (zI (q_wt k w)), F, G, zsg) := by
  obtain ⟨d, rfl⟩ := zds hd
  refine g_Kinds_weightOf k w _ ?_
  have e1 : zmul 2 w = 2 * w := zmul_eq (by omega) (by omega)
  rw [e1, zadd_eq (by omega) (by omega), zmul_eq (by omega) (by omega), zsub_eq (by omega) (by omega), zdiv_eq (by omega) (by omega) (by omega) (by omega)]
  unfold q_wt
  repeat' split
  all_goals first | rfl | omega | (congr 4; omega)
theorem s_isKey (hd : 1 ≤ d) {k : Int} : zex d 175 [zI k] (F, G, zsg) = some (some (zI (zp (k = 3))), F, G, zsg) := by
  obtain ⟨d, rfl⟩ := zds hd
  refine g_Kinds_isKey k _ ?_
  repeat' split
  all_goals first | rw [zp_t (by omega)] | rw [zp_f (by omega)]
theorem s_turnsUp (hd : 1 ≤ d) {k : Int} (h1 : 0 ≤ k) (h2 : k ≤ 5) : zex d 176 [zI k] (F, G, zsg) = some (some (zI (zp (q_tup k))), F, G, zsg) := by
  obtain ⟨d, rfl⟩ := zds hd
  refine g_Kinds_turnsUp k _ ?_
  rw [if_pos (by omega), z_tup h1 h2]
  rcases zp_01 (q_tup k) with h | h <;> rw [h] <;> rfl
/-- whether a kind is one of another, or under it -/
def q_under (k o : Int) : Prop := o = 0 ∨ k = o ∨ o = 1 ∧ k = 4 ∨ o = 2 ∧ k = 5
set_option maxRecDepth 4000 in
theorem s_isOf (hd : 1 ≤ d) {k o : Int} (h1 : 0 ≤ k) (h2 : k ≤ 5) (h3 : 0 ≤ o) (h4 : o ≤ 5) : zex d 177 [zI k, zI o] (F, G, zsg) = some (some (zI (zp (q_under k o))), F, G, zsg) := by
  obtain ⟨d, rfl⟩ := zds hd
  refine g_Kinds_isOf k o _ ?_
  have fin : ∀ (n a : Int), 0 ≤ n → n < 6 → zle (if a < 0 then some (some (zI 0), F, G, zsg) else if a = o then some (some (zI 1), F, G, zsg) else if 0 ≤ a ∧ a < 6 then zev zX0 d (177, 4, [zI k, zI o, zI ((zX0 3).2 (Int.toNat a)), zI (n + 1)], [], F, G, zsg) else none) (zev zX0 d (177, 4, [zI k, zI o, zI a, zI n], [], F, G, zsg)) := by
    intro n a hn1 hn2 r hr
    refine g_Kinds_isOf_4 k o a n r ?_
    rw [if_pos hn2, zadd_eq (by omega) (by omega)]
    exact hr
  have a0 : (zX0 3).2 (Int.toNat 0) = -1 := rfl
  have a1 : (zX0 3).2 (Int.toNat 1) = 0 := rfl
  have a2 : (zX0 3).2 (Int.toNat 2) = 0 := rfl
  have a3 : (zX0 3).2 (Int.toNat 3) = 0 := rfl
  have a4 : (zX0 3).2 (Int.toNat 4) = 1 := rfl
  have a5 : (zX0 3).2 (Int.toNat 5) = 2 := rfl
  have top : ∀ (n : Int), 0 ≤ n → n < 6 → zle (some (some (zI 0), F, G, zsg)) (zev zX0 d (177, 4, [zI k, zI o, zI (-1), zI n], [], F, G, zsg)) := fun n h1 h2 r hr => fin n (-1) h1 h2 r (by rw [if_pos (by decide)]; exact hr)
  have base : ∀ (n : Int), 0 ≤ n → n < 5 → zle (some (some (zI (zp (o = 0))), F, G, zsg)) (zev zX0 d (177, 4, [zI k, zI o, zI 0, zI n], [], F, G, zsg)) := by
    intro n h1 h2 r hr
    refine fin n 0 h1 (by omega) r ?_
    rw [if_neg (by decide)]
    split
    · rw [zp_t (by omega)] at hr; exact hr
    · rw [if_pos (by decide), a0]
      refine top (n + 1) (by omega) (by omega) r ?_
      rw [zp_f (by omega)] at hr; exact hr
  unfold q_under
  rcases z6 h1 h2 with rfl | rfl | rfl | rfl | rfl | rfl
  · refine base 0 (by omega) (by omega) _ ?_
    congr 4
    by_cases h : o = 0
    · rw [zp_t h, zp_t (by omega)]
    · rw [zp_f h, zp_f (by omega)]
  · refine fin 0 1 (by omega) (by omega) _ ?_
    rw [if_neg (by decide)]
    split
    · rw [zp_t (by omega)]
    · rw [if_pos (by decide), a1]
      refine base 1 (by omega) (by omega) _ ?_
      congr 4
      by_cases h : o = 0
      · rw [zp_t h, zp_t (by omega)]
      · rw [zp_f h, zp_f (by omega)]
  · refine fin 0 2 (by omega) (by omega) _ ?_
    rw [if_neg (by decide)]
    split
    · rw [zp_t (by omega)]
    · rw [if_pos (by decide), a2]
      refine base 1 (by omega) (by omega) _ ?_
      congr 4
      by_cases h : o = 0
      · rw [zp_t h, zp_t (by omega)]
      · rw [zp_f h, zp_f (by omega)]
  · refine fin 0 3 (by omega) (by omega) _ ?_
    rw [if_neg (by decide)]
    split
    · rw [zp_t (by omega)]
    · rw [if_pos (by decide), a3]
      refine base 1 (by omega) (by omega) _ ?_
      congr 4
      by_cases h : o = 0
      · rw [zp_t h, zp_t (by omega)]
      · rw [zp_f h, zp_f (by omega)]
  · refine fin 0 4 (by omega) (by omega) _ ?_
    rw [if_neg (by decide)]
    split
    · rw [zp_t (by omega)]
    · rw [if_pos (by decide), a4]
      refine fin 1 1 (by omega) (by omega) _ ?_
      rw [if_neg (by decide)]
      split
      · rw [zp_t (by omega)]
      · rw [if_pos (by decide), a1]
        refine base 2 (by omega) (by omega) _ ?_
        congr 4
        by_cases h : o = 0
        · rw [zp_t h, zp_t (by omega)]
        · rw [zp_f h, zp_f (by omega)]
  · refine fin 0 5 (by omega) (by omega) _ ?_
    rw [if_neg (by decide)]
    split
    · rw [zp_t (by omega)]
    · rw [if_pos (by decide), a5]
      refine fin 1 2 (by omega) (by omega) _ ?_
      rw [if_neg (by decide)]
      split
      · rw [zp_t (by omega)]
      · rw [if_pos (by decide), a2]
        refine base 2 (by omega) (by omega) _ ?_
        congr 4
        by_cases h : o = 0
        · rw [zp_t h, zp_t (by omega)]
        · rw [zp_f h, zp_f (by omega)]
end
