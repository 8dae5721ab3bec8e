/-! the class's flood (printed by wip/tpl/mk.py out of wip/tpl/29.txt) -/
theorem zup_eq {F : zM} {k j : Nat} {v : Int} : zup F k j v k j = v := by simp [zup]
theorem zup_row {F : zM} {k j a : Nat} {v : Int} (h : a ≠ k) : zup F k j v a = F a := by funext b; simp [zup, h]
theorem zup_col {F : zM} {k j i : Nat} {v : Int} (h : i ≠ j) : zup F k j v k i = F k i := by simp [zup, h]
theorem zug_eq {F : zG} {k j : Nat} {v : BitVec 64} : zug F k j v k j = v := by simp [zug]
theorem zug_row {F : zG} {k j a : Nat} {v : BitVec 64} (h : a ≠ k) : zug F k j v a = F a := by funext b; simp [zug, h]
theorem zug_col {F : zG} {k j i : Nat} {v : BitVec 64} (h : i ≠ j) : zug F k j v k i = F k i := by simp [zug, h]
theorem z_mE : BitVec.ofInt 64 9187201950435737471 = zset (fun c => c % 8 ≠ 7) := by
  refine zset_of fun c hc => ?_
  have key : ∀ c : Fin 64, (BitVec.ofInt 64 9187201950435737471).getLsbD c.val = decide (c.val % 8 ≠ 7) := by decide
  rw [key ⟨c, hc⟩, decide_eq_true_eq]
  show c % 8 ≠ 7 ↔ _
  omega
theorem z_mW : BitVec.ofInt 64 (-72340172838076674) = zset (fun c => c % 8 ≠ 0) := by
  refine zset_of fun c hc => ?_
  have key : ∀ c : Fin 64, (BitVec.ofInt 64 (-72340172838076674)).getLsbD c.val = decide (c.val % 8 ≠ 0) := by decide
  rw [key ⟨c, hc⟩, decide_eq_true_eq]
  show c % 8 ≠ 0 ↔ _
  omega
theorem zset_shl {P : Int → Prop} {k : Int} (h1 : 0 ≤ k) (h2 : k < 64) : zlshl (zset P) k = zset (fun c => k ≤ c ∧ P (c - k)) := by
  refine zset_of fun c hc => ?_
  rw [zlshl_eq h1 h2, BitVec.getLsbD_shiftLeft]
  simp only [hc, decide_true, Bool.true_and, Bool.and_eq_true, Bool.not_eq_true', decide_eq_false_iff_not]
  constructor
  · rintro ⟨g1, g2⟩
    rw [zset_get (by omega)] at g2
    rw [show (((c - k.toNat : Nat) : Nat) : Int) = (c : Int) - k by omega] at g2
    exact ⟨by omega, g2⟩
  · rintro ⟨g1, g2⟩
    refine ⟨by omega, ?_⟩
    rw [zset_get (by omega), show (((c - k.toNat : Nat) : Nat) : Int) = (c : Int) - k by omega]
    exact g2
theorem zset_shr {P : Int → Prop} {k : Int} (h1 : 0 ≤ k) (h2 : k < 64) : zlushr (zset P) k = zset (fun c => c + k < 64 ∧ P (c + k)) := by
  refine zset_of fun c hc => ?_
  rw [zlushr_eq h1 h2, BitVec.getLsbD_ushiftRight]
  constructor
  · intro g
    have h3 : k.toNat + c < 64 := by
      rcases Nat.lt_or_ge (k.toNat + c) 64 with h | h
      · exact h
      · rw [BitVec.getLsbD_of_ge _ _ h] at g; cases g
    rw [zset_get h3, show ((k.toNat + c : Nat) : Int) = (c : Int) + k by omega] at g
    exact ⟨by omega, g⟩
  · rintro ⟨g1, g2⟩
    rw [zset_get (by omega), show ((k.toNat + c : Nat) : Int) = (c : Int) + k by omega]
    exact g2
theorem z_east {P : Int → Prop} : zlshl (zland (zset P) (BitVec.ofInt 64 9187201950435737471)) 1 = zset (fun c => c % 8 ≠ 0 ∧ P (c - 1)) := by
  rw [z_mE, zland_eq, zset_and, zset_shl (by decide) (by decide)]
  refine zset_congr fun c h0 h1 => ?_
  constructor
  · rintro ⟨g1, g2, g3⟩
    exact ⟨by omega, g2⟩
  · rintro ⟨g1, g2⟩
    exact ⟨by omega, g2, by omega⟩
theorem z_west {P : Int → Prop} : zlushr (zland (zset P) (BitVec.ofInt 64 (-72340172838076674))) 1 = zset (fun c => c % 8 ≠ 7 ∧ P (c + 1)) := by
  rw [z_mW, zland_eq, zset_and, zset_shr (by decide) (by decide)]
  refine zset_congr fun c h0 h1 => ?_
  constructor
  · rintro ⟨g1, g2, g3⟩
    exact ⟨by omega, g2⟩
  · rintro ⟨g1, g2⟩
    exact ⟨by omega, g2, by omega⟩
section
variable {d : Nat} {F ρ : zM} {G : zG} {p : Nat → Int}
theorem s_allBeside (hd : 1 ≤ d) {P : Int → Prop} {T : Prop} : zex d 156 [zL (zset P), zI (zp T)] (F, G, zsg) = some (some (zL (zset (q_adj T P))), F, G, zsg) := by
  obtain ⟨d, rfl⟩ := zds hd
  refine g_Cells_allBeside (zset P) (zp T) _ ?_
  rw [z_east, z_west, zset_shl (by decide) (by decide), zset_shr (by decide) (by decide), zlor_eq, zlor_eq, zlor_eq, zset_or, zset_or, zset_or]
  split
  · rename_i e
    rw [zp_0] at e
    congr 4
    refine zset_congr fun c h0 h1 => ?_
    constructor
    · rintro (⟨g1, g2⟩ | ⟨g1, g2⟩)
      · refine ⟨3, by omega, Or.inr (by decide), ?_⟩
        rw [q_bes3 h0 h1, if_pos (by omega)]
        exact ⟨by omega, g2⟩
      · refine ⟨1, by omega, Or.inr (by decide), ?_⟩
        rw [q_bes1 h0 h1, if_pos (by omega)]
        exact ⟨by omega, g2⟩
    · rintro ⟨s, g1, g2, g3, g4⟩
      rcases z4 g1 with rfl | rfl | rfl | rfl
      · rcases g2 with g2 | g2
        · exact absurd g2 e
        · exact absurd g2 (by decide)
      · rw [q_bes1 h0 h1] at g3 g4
        split at g3
        · rename_i g5
          rw [if_pos g5] at g4
          exact Or.inr ⟨by omega, g4⟩
        · exact absurd rfl g3
      · rcases g2 with g2 | g2
        · exact absurd g2 e
        · exact absurd g2 (by decide)
      · rw [q_bes3 h0 h1] at g3 g4
        split at g3
        · rename_i g5
          rw [if_pos g5] at g4
          exact Or.inl ⟨by omega, g4⟩
        · exact absurd rfl g3
  · rename_i e
    rw [zp_0, Classical.not_not] at e
    congr 4
    refine zset_congr fun c h0 h1 => ?_
    constructor
    · rintro (((⟨g1, g2⟩ | ⟨g1, g2⟩) | ⟨g1, g2⟩) | ⟨g1, g2⟩)
      · refine ⟨3, by omega, Or.inl e, ?_⟩
        rw [q_bes3 h0 h1, if_pos (by omega)]
        exact ⟨by omega, g2⟩
      · refine ⟨1, by omega, Or.inl e, ?_⟩
        rw [q_bes1 h0 h1, if_pos (by omega)]
        exact ⟨by omega, g2⟩
      · refine ⟨0, by omega, Or.inl e, ?_⟩
        rw [q_bes0 h0 h1, if_pos (by omega)]
        exact ⟨by omega, g2⟩
      · refine ⟨2, by omega, Or.inl e, ?_⟩
        rw [q_bes2 h0 h1, if_pos (by omega)]
        exact ⟨by omega, g2⟩
    · rintro ⟨s, g1, g2, g3, g4⟩
      rcases z4 g1 with rfl | rfl | rfl | rfl
      · rw [q_bes0 h0 h1] at g3 g4
        split at g3
        · rename_i g5
          rw [if_pos g5] at g4
          exact Or.inl (Or.inr ⟨by omega, g4⟩)
        · exact absurd rfl g3
      · rw [q_bes1 h0 h1] at g3 g4
        split at g3
        · rename_i g5
          rw [if_pos g5] at g4
          exact Or.inl (Or.inl (Or.inr ⟨by omega, g4⟩))
        · exact absurd rfl g3
      · rw [q_bes2 h0 h1] at g3 g4
        split at g3
        · rename_i g5
          rw [if_pos g5] at g4
          exact Or.inr ⟨by omega, g4⟩
        · exact absurd rfl g3
      · rw [q_bes3 h0 h1] at g3 g4
        split at g3
        · rename_i g5
          rw [if_pos g5] at g4
          exact Or.inl (Or.inl (Or.inl ⟨by omega, g4⟩))
        · exact absurd rfl g3
/-- a set, so far off -/
def q_sh (P : Int → Prop) (x y c : Int) : Prop := (0 ≤ c % 8 - x ∧ c % 8 - x < 8) ∧ (0 ≤ c / 8 - y ∧ c / 8 - y < 8) ∧ P (c - x - 8 * y)
theorem s_shifted (hd : 1 ≤ d) {P : Int → Prop} {x y : Int} (hx : -2 ≤ x ∧ x ≤ 2) (hy : -1 ≤ y ∧ y ≤ 1) : zex d 157 [zL (zset P), zI x, zI y] (F, G, zsg) = some (some (zL (zset (q_sh P x y))), F, G, zsg) := by
  obtain ⟨d, rfl⟩ := zds hd
  have loop53 : ∀ (m : Nat) (Q : Int → Prop) (i : Int), -2 ≤ i → i ≤ 2 → (i - x = m ∨ (m = 0 ∧ i ≤ x)) → zev zX0 d (157, 53, [zL (zset P), zR 0, zI x, zI y, zL (zset Q), zR 0, zI i], [], F, G, zsg) = some (some (zL (zset (fun c => c % 8 + m < 8 ∧ Q (c + m)))), F, G, zsg) := by
    intro m
    induction m with
    | zero =>
      intro Q i i1 i2 hi
      refine g_Cells_shifted_53 (zset P) x y (zset Q) i _ ?_
      rw [if_neg (by omega)]
      congr 4
      refine zset_congr fun c h0 h1 => ⟨fun q => ⟨by omega, by simpa using q⟩, fun q => by simpa using q.2⟩
    | succ m ih =>
      intro Q i i1 i2 hi
      refine g_Cells_shifted_53 (zset P) x y (zset Q) i _ ?_
      rw [if_pos (by omega), z_west, zadd_eq (by omega) (by omega), ih _ _ (by omega) (by omega) (by omega)]
      congr 4
      refine zset_congr fun c h0 h1 => ?_
      constructor
      · rintro ⟨g1, g2, g3⟩
        rw [show c + (m : Int) + 1 = c + ((m + 1 : Nat) : Int) by omega] at g3
        exact ⟨by omega, g3⟩
      · rintro ⟨g1, g2⟩
        rw [show c + ((m + 1 : Nat) : Int) = c + (m : Int) + 1 by omega] at g2
        exact ⟨by omega, by omega, g2⟩
  have loop28 : ∀ (m : Nat) (Q : Int → Prop) (i : Int), 0 ≤ i → i ≤ 2 → (x - i = m ∨ (m = 0 ∧ x ≤ i ∧ i = 0)) → zev zX0 d (157, 28, [zL (zset P), zR 0, zI x, zI y, zL (zset Q), zR 0, zI i], [], F, G, zsg) = some (some (zL (zset (fun c => (0 ≤ c % 8 - m - (if x < 0 then x else 0) ∧ c % 8 - m - (if x < 0 then x else 0) < 8) ∧ Q (c - m - (if x < 0 then x else 0))))), F, G, zsg) := by
    intro m
    induction m with
    | zero =>
      intro Q i i1 i2 hi
      refine g_Cells_shifted_28 (zset P) x y (zset Q) i _ ?_
      rw [if_neg (by omega)]
      by_cases hx0 : x < 0
      · rw [loop53 (-x).toNat Q 0 (by omega) (by omega) (by omega), if_pos hx0]
        congr 4
        refine zset_congr fun c h0 h1 => ?_
        rw [show c + ((-x).toNat : Int) = c - (0 : Nat) - x by omega]
        constructor
        · rintro ⟨g1, g2⟩; exact ⟨by omega, g2⟩
        · rintro ⟨g1, g2⟩; exact ⟨by omega, g2⟩
      · rw [loop53 0 Q 0 (by omega) (by omega) (by omega), if_neg hx0]
        congr 4
        refine zset_congr fun c h0 h1 => ?_
        constructor
        · rintro ⟨g1, g2⟩; exact ⟨by omega, by simpa using g2⟩
        · rintro ⟨g1, g2⟩; exact ⟨by omega, by simpa using g2⟩
    | succ m ih =>
      intro Q i i1 i2 hi
      refine g_Cells_shifted_28 (zset P) x y (zset Q) i _ ?_
      rw [if_pos (by omega), z_east, zadd_eq (by omega) (by omega), ih _ _ (by omega) (by omega) (by omega)]
      rw [if_neg (by omega)]
      congr 4
      refine zset_congr fun c h0 h1 => ?_
      constructor
      · rintro ⟨g1, g2, g3⟩
        rw [show c - (m : Int) - 0 - 1 = c - ((m + 1 : Nat) : Int) - 0 by omega] at g3
        exact ⟨by omega, g3⟩
      · rintro ⟨g1, g2⟩
        rw [show c - ((m + 1 : Nat) : Int) - 0 = c - (m : Int) - 0 - 1 by omega] at g2
        exact ⟨by omega, by omega, g2⟩
  refine g_Cells_shifted (zset P) x y _ ?_
  have fin : ∀ Q : Int → Prop, (∀ c, 0 ≤ c → c < 64 → (Q c ↔ (0 ≤ c / 8 - y ∧ c / 8 - y < 8) ∧ P (c - 8 * y))) → zev zX0 d (157, 28, [zL (zset P), zR 0, zI x, zI y, zL (zset Q), zR 0, zI 0], [], F, G, zsg) = some (some (zL (zset (q_sh P x y))), F, G, zsg) := by
    intro Q hQ
    by_cases hx0 : x < 0
    · rw [loop28 0 Q 0 (by omega) (by omega) (by omega), if_pos hx0]
      congr 4
      refine zset_congr fun c h0 h1 => ?_
      unfold q_sh
      constructor
      · rintro ⟨g1, g2⟩
        rw [hQ _ (by omega) (by omega)] at g2
        refine ⟨by omega, by omega, ?_⟩
        rw [show c - x - 8 * y = c - (0 : Nat) - x - 8 * y by omega]
        exact g2.2
      · rintro ⟨g1, g2, g3⟩
        refine ⟨by omega, ?_⟩
        rw [hQ _ (by omega) (by omega)]
        refine ⟨by omega, ?_⟩
        rw [show c - x - 8 * y = c - (0 : Nat) - x - 8 * y by omega] at g3
        exact g3
    · rw [loop28 x.toNat Q 0 (by omega) (by omega) (by omega), if_neg hx0]
      congr 4
      refine zset_congr fun c h0 h1 => ?_
      unfold q_sh
      constructor
      · rintro ⟨g1, g2⟩
        rw [hQ _ (by omega) (by omega)] at g2
        refine ⟨by omega, by omega, ?_⟩
        rw [show c - x - 8 * y = c - (x.toNat : Int) - 0 - 8 * y by omega]
        exact g2.2
      · rintro ⟨g1, g2, g3⟩
        refine ⟨by omega, ?_⟩
        rw [hQ _ (by omega) (by omega)]
        refine ⟨by omega, ?_⟩
        rw [show c - x - 8 * y = c - (x.toNat : Int) - 0 - 8 * y by omega] at g3
        exact g3
  split
  · rename_i e1
    rw [if_neg (by omega), zset_shl (by decide) (by decide)]
    refine fin _ fun c h0 h1 => ?_
    have hy1 : y = 1 := by omega
    subst hy1
    constructor
    · rintro ⟨g1, g2⟩; exact ⟨by omega, g2⟩
    · rintro ⟨g1, g2⟩; exact ⟨by omega, g2⟩
  · rename_i e1
    split
    · rename_i e2
      rw [zset_shr (by decide) (by decide)]
      refine fin _ fun c h0 h1 => ?_
      have hy1 : y = -1 := by omega
      subst hy1
      rw [show c - 8 * (-1) = c + 8 by omega]
      constructor
      · rintro ⟨g1, g2⟩; exact ⟨by omega, g2⟩
      · rintro ⟨g1, g2⟩; exact ⟨by omega, g2⟩
    · rename_i e2
      refine fin _ fun c h0 h1 => ?_
      have hy1 : y = 0 := by omega
      subst hy1
      rw [show c - 8 * 0 = c by omega]
      exact ⟨fun q => ⟨by omega, q⟩, fun q => q.2⟩
/-- what a flood leaves: its layers, what it came to -/
def q_fl (T : Prop) (S : Int → Prop) (a : Int) (F : zM) (G : zG) : Prop := ∃ D : Nat, F 44 2 = D ∧ D ≤ 64 ∧ F 44 4 = zp T ∧ G 44 3 = zset S ∧ G 44 5 = zset (fun c => ∃ k, q_B T S a k c) ∧ (∀ k, k < D → G 45 k = zset (q_L T S a k)) ∧ (∀ k, D ≤ k → ∀ c, ¬ q_L T S a k c)
theorem q_fl_end {T : Prop} {S : Int → Prop} {a : Int} (ha : 0 ≤ a ∧ a < 64) (hS : ∀ c, S c → 0 ≤ c ∧ c < 64) {F : zM} {G : zG} {k : Nat} (hk : k ≤ 64) (h1 : F 44 2 = k) (h2 : F 44 4 = zp T) (h3 : G 44 3 = zset S) (h4 : G 44 5 = zset (q_B T S a k)) (h5 : ∀ j, j < k → G 45 j = zset (q_L T S a j)) (h6 : k = 64 ∨ ∀ c, ¬ q_L T S a k c) : q_fl T S a F G := by
  have h7 : ∀ j, k ≤ j → ∀ c, ¬ q_L T S a j c := by
    intro j hj c hc
    rcases h6 with h6 | h6
    · have := q_L_64 ha hS hc
      omega
    · obtain ⟨u, -, hu⟩ := q_L_down ha hS hc k hj
      exact h6 u hu
  refine ⟨k, h1, hk, h2, h3, ?_, h5, h7⟩
  rw [h4]
  refine zset_congr fun c _ _ => ⟨fun q => ⟨k, q⟩, fun ⟨j, q⟩ => ?_⟩
  obtain ⟨i, hi, q2⟩ := q_B_L q
  rcases Nat.lt_or_ge i k with h | h
  · exact q_B_mono (Nat.le_of_lt h) (q_L_B q2)
  · exact absurd q2 (h7 i h c)
theorem s_flood_131 (hd : 1 ≤ d) {T : Prop} {S : Int → Prop} {a : Int} (ha : 0 ≤ a ∧ a < 64) (hS : ∀ c, S c → 0 ≤ c ∧ c < 64) (l1 l4 l5 : Int) (l2 : BitVec 64) : ∀ (m k : Nat) (F : zM) (G : zG), k + m = 64 → F 44 2 = k → F 44 4 = zp T → G 44 3 = zset S → G 44 5 = zset (q_B T S a k) → (∀ j, j < k → G 45 j = zset (q_L T S a j)) →
    ∃ F' G', zev zX0 d (234, 131, [zR 44, zI l1, zL l2, zR 0, zI l4, zI l5, zL (zset (q_L T S a k)), zR 0, zR 0, zR 0], [], F, G, zsg) = some (none, F', G', zsg) ∧ (∀ r, r ≠ 44 → F' r = F r) ∧ (∀ r, r ≠ 44 → r ≠ 45 → G' r = G r) ∧ q_fl T S a F' G' := by
  intro m
  induction m with
  | zero =>
    intro k F G hk h1 h2 h3 h4 h5
    have hk64 : k = 64 := by omega
    refine ⟨F, G, ?_, fun _ _ => rfl, fun _ _ _ => rfl, q_fl_end ha hS (by omega) h1 h2 h3 h4 h5 (Or.inl hk64)⟩
    refine g_Ways_flood_131 l1 l2 l4 l5 _ _ ?_
    split
    · rfl
    · rw [h1, if_neg (by omega)]
  | succ m ih =>
    intro k F G hk h1 h2 h3 h4 h5
    by_cases hz : zset (q_L T S a k) = BitVec.ofNat 64 0
    · refine ⟨F, G, ?_, fun _ _ => rfl, fun _ _ _ => rfl, q_fl_end ha hS (by omega) h1 h2 h3 h4 h5 (Or.inr fun c hc => ?_)⟩
      · refine g_Ways_flood_131 l1 l2 l4 l5 _ _ ?_
        rw [if_pos (zlcmp_eq.mpr hz)]
      · have hcc := q_B_cell ha hS (q_L_B hc)
        exact zset_zero.mp hz c hcc.1 hcc.2 hc
    · have hedge : zset (q_adj T (q_L T S a k)) &&& zset S &&& ~~~ zset (q_B T S a k) = zset (q_L T S a (k + 1)) := by
        rw [zset_not, zset_and, zset_and]
        refine zset_congr fun c h0 h9 => ?_
        constructor
        · rintro ⟨⟨g1, g2⟩, g3⟩
          exact ⟨Or.inr ⟨g2, q_adj_mono (fun u => q_L_B) g1⟩, g3⟩
        · intro g
          obtain ⟨g1, g2⟩ := q_L_pred g
          exact ⟨⟨g2, g1⟩, g.2⟩
      have hcome : zset (q_B T S a k) ||| zset (q_L T S a (k + 1)) = zset (q_B T S a (k + 1)) := by
        rw [zset_or]
        refine zset_congr fun c _ _ => ⟨fun q => q.elim q_B_succ (fun q => q.1), fun q => ?_⟩
        rcases Classical.em (q_B T S a k c) with g | g
        · exact Or.inl g
        · exact Or.inr ⟨q, g⟩
      obtain ⟨F', G', e1, e2, e3, e4⟩ := ih (k + 1) (zup F 44 2 ((k : Int) + 1)) (zug (zug G 45 k (zset (q_L T S a k))) 44 5 (zset (q_B T S a (k + 1)))) (by omega) (by rw [zup_eq]; omega) (by rw [zup_col (by decide)]; exact h2)
        (by rw [zug_col (by decide), zug_row (by decide)]; exact h3) zug_eq (fun j hj => by
          rw [zug_row (by decide)]
          by_cases hjk : j = k
          · subst hjk; exact zug_eq
          · rw [zug_col hjk]; exact h5 j (by omega))
      refine ⟨F', G', ?_, fun r hr => by rw [e2 r hr, zup_row hr], fun r hr1 hr2 => by rw [e3 r hr1 hr2, zug_row hr1, zug_row hr2], e4⟩
      refine g_Ways_flood_131 l1 l2 l4 l5 _ _ ?_
      rw [if_neg (fun q => hz (zlcmp_eq.mp q)), h1, if_pos (by omega), if_pos (by omega), h2, s_allBeside (by omega), zbL_some, Int.toNat_natCast, zug_row (show (44 : Nat) ≠ 45 by decide), h3, h4, zlnot_eq, zland_eq, zland_eq, hedge, zlor_eq, hcome, zadd_eq (by omega) (by omega)]
      exact e1
theorem s_farTo (hd : 2 ≤ d) {T : Prop} {S : Int → Prop} {a c : Int} (ha : 0 ≤ a ∧ a < 64) (hS : ∀ c, S c → 0 ≤ c ∧ c < 64) (h1 : 0 ≤ c) (h2 : c < 64) (hf : q_fl T S a F G) : zex d 235 [zR 44, zI c] (F, G, zsg) = some (some (zI (q_far T S a c)), F, G, zsg) := by
  obtain ⟨d, rfl⟩ := zds (Nat.le_of_lt hd)
  obtain ⟨D, f1, f2, f3, f4, f5, f6, f7⟩ := hf
  have loop : ∀ m k : Nat, k + m = D → zev zX0 d (235, 2, [zR 44, zI c, zI k], [], F, G, zsg) = some (some (zI (zfd (fun k => q_L T S a k c) k m)), F, G, zsg) := by
    intro m
    induction m with
    | zero =>
      intro k hk
      refine g_Ways_farTo_2 c k _ ?_
      rw [f1, if_neg (by omega)]
      rfl
    | succ m ih =>
      intro k hk
      refine g_Ways_farTo_2 c k _ ?_
      have hn := ih (k + 1) (by omega)
      rw [zcast1] at hn
      rw [f1, if_pos (by omega), if_pos (by omega), Int.toNat_natCast, f6 k (by omega), s_has (by omega) h1 h2, zbI_some, zp_iff (zset_geti h1 h2), zadd_eq (by omega) (by omega)]
      split
      · rename_i e1
        rw [zp_0] at e1
        rw [hn, zfd_f e1]
      · rename_i e1
        rw [zp_0, Classical.not_not] at e1
        rw [zfd_t e1]
  refine g_Ways_farTo c _ ?_
  have := loop D 0 (by omega)
  rw [show ((0 : Nat) : Int) = 0 from rfl] at this
  rw [this]
  congr 4
  by_cases hq : q_far T S a c = -1
  · rw [hq, zfd_none]
    intro t _ ht q
    have := q_far_some (show t < 64 by omega) q
    omega
  · have hL := q_far_L hq
    have hr := q_far_r (T := T) (S := S) (a := a) (c := c)
    have hD : (q_far T S a c).toNat < D := by
      rcases Nat.lt_or_ge (q_far T S a c).toNat D with h | h
      · exact h
      · exact absurd hL (f7 _ h c)
    have h3 : 0 ≤ zfd (fun k => q_L T S a k c) 0 D := zfd_pos.mpr ⟨_, Nat.zero_le _, by omega, hL⟩
    obtain ⟨j, hj⟩ := Int.eq_ofNat_of_zero_le h3
    obtain ⟨-, -, h4, -⟩ := zfd_some hj
    have := q_L_uniq h4 hL
    rw [hj]
    omega
/-- where a hand can stand with what it holds -/
def q_S (ρ : zM) (p : Nat → Int) (h : Int) (X : Nat → Prop) (held side c : Int) : Prop := (0 ≤ c ∧ c < 64) ∧ ¬ q_tk ρ p h X c ∧ (held ≠ -1 → q_heldAt c side (ρ 79 held.toNat) ≠ -1 ∧ ∀ k : Nat, (k : Int) < ρ 79 held.toNat → ¬ q_tk ρ p h X (q_heldAt c side (ρ 79 held.toNat) + k))
theorem q_S_cell {h held side : Int} {X : Nat → Prop} : ∀ c, q_S ρ p h X held side c → 0 ≤ c ∧ c < 64 := fun _ q => q.1
theorem q_stand_S {h held side c : Int} (h1 : 0 ≤ c) (h2 : c < 64) : q_stand ρ p h held side c ↔ q_S ρ p h (q_but held) held side c := ⟨fun q => ⟨⟨h1, h2⟩, q⟩, fun q => q.2⟩
def q_T (ρ : zM) (held : Int) : Prop := held = -1 ∨ q_tup (ρ 78 held.toNat)
/-- a flood over what a set of cells leaves -/
def q_SK (ρ : zM) (K : Int → Prop) (held side c : Int) : Prop := (0 ≤ c ∧ c < 64) ∧ ¬ K c ∧ (held ≠ -1 → q_heldAt c side (ρ 79 held.toNat) ≠ -1 ∧ ∀ k : Nat, (k : Int) < ρ 79 held.toNat → ¬ K (q_heldAt c side (ρ 79 held.toNat) + k))
theorem s_flood (hd : 2 ≤ d) (hC : zCR ρ F G) (hV : zRv ρ) {a t side : Int} {K : Int → Prop} (ha : 0 ≤ a ∧ a < 64) (ht : -1 ≤ t ∧ t < ρ 71 8) : ∃ F' G', zex d 234 [zR 44, zI a, zL (zset K), zI t, zI side] (F, G, zsg) = some (none, F', G', zsg) ∧ (∀ r, r ≠ 44 → F' r = F r) ∧ (∀ r, r ≠ 44 → r ≠ 45 → G' r = G r) ∧ q_fl (q_T ρ t) (q_SK ρ K t side) a F' G' := by
  obtain ⟨d, rfl⟩ := zds (Nat.le_of_lt hd)
  have hn8 := hV.1.2
  have hScell : ∀ c, q_SK ρ K t side c → 0 ≤ c ∧ c < 64 := fun _ q => q.1
  by_cases ht0 : t < 0
  · have ht1 : t = -1 := by omega
    have hT : zp (q_T ρ t) = 1 := zp_t (Or.inl ht1)
    obtain ⟨F', G', e1, e2, e3, e4⟩ := s_flood_131 (d := d) (by omega) (T := q_T ρ t) (S := q_SK ρ K t side) ha hScell a t side (zset K) 64 0 (zup (zup F 44 4 1) 44 2 0) (zug (zug G 44 3 (zset (q_SK ρ K t side))) 44 5 (zset (fun x => x = a))) (by omega) zup_eq (by rw [zup_col (by decide), zup_eq, hT]) (by rw [zug_col (by decide), zug_eq]) (by rw [zug_eq]; rfl) (fun j hj => by omega)
    refine ⟨F', G', ?_, fun r hr => by rw [e2 r hr, zup_row hr, zup_row hr], fun r h1 h2 => by rw [e3 r h1 h2, zug_row h1, zug_row h1], e4⟩
    refine g_Ways_flood a (zset K) t side _ ?_
    have hn : zset (fun c => ¬ K c) = zset (q_SK ρ K t side) := zset_congr fun c h0 h1 => ⟨fun q => ⟨⟨h0, h1⟩, q, fun q2 => absurd ht1 q2⟩, fun q => q.2.1⟩
    rw [if_pos ht0, if_pos ht0, s_bit (by omega), zbL_some, zset_bit ha.1 ha.2, zlnot_eq, zset_not, hn]
    exact e1
  · have htn : t.toNat < 8 := by omega
    have hk := hV.2.2.2.1 t.toNat htn
    have hw := hV.2.2.2.2.1 t.toNat htn
    have hw1 := hV.2.2.2.2.2.1 t.toNat (by omega)
    have hex := q_ex_r side hw.1 hw.2
    have hsy := q_sy_r side
    have hTT : q_T ρ t ↔ q_tup (ρ 78 t.toNat) := ⟨fun q => q.elim (fun q => by omega) id, Or.inr⟩
    -- the loop over the thing's cells
    have loop : ∀ (m k : Nat) (F : zM) (G : zG) (Q : Int → Prop), (k : Int) + m = ρ 79 t.toNat → F 44 4 = zp (q_T ρ t) → G 44 3 = zset Q → (∀ c, 0 ≤ c → c < 64 → ((Q c ∧ ∀ e : Nat, k ≤ e → (e : Int) < ρ 79 t.toNat → q_sh (fun c => ¬ K c) (-q_ex side (ρ 79 t.toNat) - e) (-q_sy side) c) ↔ q_SK ρ K t side c)) →
        ∃ F' G', zev zX0 d (234, 75, [zR 44, zI a, zL (zset K), zR 0, zI t, zI side, zI (ρ 79 t.toNat), zI (q_ex side (ρ 79 t.toNat)), zI (q_sy side), zI k], [], F, G, zsg) = some (none, F', G', zsg) ∧ (∀ r, r ≠ 44 → F' r = F r) ∧ (∀ r, r ≠ 44 → r ≠ 45 → G' r = G r) ∧ q_fl (q_T ρ t) (q_SK ρ K t side) a F' G' := by
      intro m
      induction m with
      | zero =>
        intro k F G Q hk h4 h3 hQ
        have hn : zset Q = zset (q_SK ρ K t side) := zset_congr fun c h0 h1 => ⟨fun q => (hQ c h0 h1).mp ⟨q, fun e q1 q2 => by omega⟩, fun q => ((hQ c h0 h1).mpr q).1⟩
        obtain ⟨F', G', e1, e2, e3, e4⟩ := s_flood_131 (d := d) (by omega) (T := q_T ρ t) (S := q_SK ρ K t side) ha hScell a t side (zset K) 64 0 (zup F 44 2 0) (zug G 44 5 (zset (fun x => x = a))) (by omega) zup_eq (by rw [zup_col (by decide), h4]) (by rw [zug_col (by decide), h3, hn]) (by rw [zug_eq]; rfl) (fun j hj => by omega)
        refine ⟨F', G', ?_, fun r hr => by rw [e2 r hr, zup_row hr], fun r h1 h2 => by rw [e3 r h1 h2, zug_row h1], e4⟩
        refine g_Ways_flood_75 a (zset K) t side _ _ _ k _ ?_
        rw [if_neg (by omega), s_bit (by omega), zbL_some, zset_bit ha.1 ha.2]
        exact e1
      | succ m ih =>
        intro k F G Q hk h4 h3 hQ
        obtain ⟨F', G', e1, e2, e3, e4⟩ := ih (k + 1) F (zug G 44 3 (zset (fun c => Q c ∧ q_sh (fun c => ¬ K c) (-q_ex side (ρ 79 t.toNat) - k) (-q_sy side) c))) (fun c => Q c ∧ q_sh (fun c => ¬ K c) (-q_ex side (ρ 79 t.toNat) - k) (-q_sy side) c) (by omega) h4 zug_eq (fun c h0 h1 => by
          rw [← hQ c h0 h1]
          constructor
          · rintro ⟨⟨q1, q2⟩, q3⟩
            refine ⟨q1, fun e g1 g2 => ?_⟩
            by_cases he : e = k
            · subst he; exact q2
            · exact q3 e (by omega) g2
          · rintro ⟨q1, q2⟩
            exact ⟨⟨q1, q2 k (Nat.le_refl _) (by omega)⟩, fun e g1 g2 => q2 e (by omega) g2⟩)
        refine ⟨F', G', ?_, e2, fun r h1 h2 => by rw [e3 r h1 h2, zug_row h1], e4⟩
        refine g_Ways_flood_75 a (zset K) t side _ _ _ k _ ?_
        rw [zcast1] at e1
        rw [if_pos (by omega), zneg_eq (by omega) (by omega), zneg_eq (by omega) (by omega), zsub_eq (by omega) (by omega), zlnot_eq, zset_not, s_shifted (by omega) (by omega) (by omega), zbL_some, h3, zland_eq, zset_and, zadd_eq (by omega) (by omega)]
        exact e1
    have hstart : ∀ c, 0 ≤ c → c < 64 → (((¬ K c) ∧ ∀ e : Nat, 0 ≤ e → (e : Int) < ρ 79 t.toNat → q_sh (fun c => ¬ K c) (-q_ex side (ρ 79 t.toNat) - e) (-q_sy side) c) ↔ q_SK ρ K t side c) := by
      intro c h0 h1
      unfold q_SK q_sh
      generalize ρ 79 t.toNat = w at hw hw1 hex ⊢
      have hcell : ∀ e : Int, c - (-q_ex side w - e) - 8 * (-q_sy side) = 8 * (c / 8 + q_sy side) + (c % 8 + q_ex side w) + e := by intro e; omega
      constructor
      · rintro ⟨q1, q2⟩
        refine ⟨⟨h0, h1⟩, q1, fun _ => ?_⟩
        have e0 := q2 0 (Nat.le_refl _) (by omega)
        have e1 := q2 (w - 1).toNat (Nat.zero_le _) (by omega)
        have hh : q_heldAt c side w = 8 * (c / 8 + q_sy side) + (c % 8 + q_ex side w) := by
          unfold q_heldAt
          rw [if_pos (by omega)]
        rw [hh]
        refine ⟨by omega, fun k hk => ?_⟩
        have := (q2 k (Nat.zero_le _) hk).2.2
        rw [hcell] at this
        exact this
      · rintro ⟨-, q1, q2⟩
        obtain ⟨q3, q4⟩ := q2 (by omega)
        have hc3 : 0 ≤ c % 8 + q_ex side w ∧ c % 8 + q_ex side w + w ≤ 8 ∧ 0 ≤ c / 8 + q_sy side ∧ c / 8 + q_sy side < 8 := by
          rcases Classical.em (0 ≤ c % 8 + q_ex side w ∧ c % 8 + q_ex side w + w ≤ 8 ∧ 0 ≤ c / 8 + q_sy side ∧ c / 8 + q_sy side < 8) with h | h
          · exact h
          · unfold q_heldAt at q3
            rw [if_neg h] at q3
            exact absurd rfl q3
        have hh : q_heldAt c side w = 8 * (c / 8 + q_sy side) + (c % 8 + q_ex side w) := by
          unfold q_heldAt
          rw [if_pos hc3]
        rw [hh] at q4
        refine ⟨q1, fun e _ he => ⟨by omega, by omega, ?_⟩⟩
        rw [hcell]
        exact q4 e he
    obtain ⟨F', G', e1, e2, e3, e4⟩ := loop (ρ 79 t.toNat).toNat 0 (zup F 44 4 (zp (q_T ρ t))) (zug G 44 3 (zset (fun c => ¬ K c))) (fun c => ¬ K c) (by omega) zup_eq zug_eq hstart
    rw [show ((0 : Nat) : Int) = 0 from rfl] at e1
    refine ⟨F', G', ?_, fun r hr => by rw [e2 r hr, zup_row hr], fun r h1 h2 => by rw [e3 r h1 h2, zug_row h1], e4⟩
    refine g_Ways_flood a (zset K) t side _ ?_
    rw [if_neg ht0, if_pos (by omega), hC.2.2.2.1, s_turnsUp (by omega) hk.1 hk.2, zbI_some, hC.2.2.2.2.1, zlnot_eq, zset_not]
    split
    · rename_i f1
      rw [zp_0] at f1
      rw [zp_f (fun q => f1 (hTT.mp q))] at e1
      rw [if_pos (by omega), s_eastOfHand (by omega) hw.1 hw.2, zbI_some, s_southOfHand (by omega), zbI_some]
      exact e1
    · rename_i f1
      rw [zp_0, Classical.not_not] at f1
      rw [zp_t (hTT.mpr f1)] at e1
      rw [if_pos (by omega), s_eastOfHand (by omega) hw.1 hw.2, zbI_some, s_southOfHand (by omega), zbI_some]
      exact e1
/-- the things told by bits, and one more -/
def q_bw (W : Int) (b : Int) : Nat → Prop := fun t => W.toNat.testBit t = true ∨ (t : Int) = b
theorem z_orbits {W b : Int} (hW : 0 ≤ W ∧ W ≤ 255) (hb : -1 ≤ b ∧ b < 8) : (0 ≤ zor W (if b < 0 then 0 else 2 ^ b.toNat) ∧ zor W (if b < 0 then 0 else 2 ^ b.toNat) ≤ 255) ∧ (fun t : Nat => (zor W (if b < 0 then 0 else 2 ^ b.toNat)).toNat.testBit t = true) = q_bw W b := by
  have hr := z_bits_r hb.2
  have h1 := z_bits hb.1
  rw [zor_eq hW.1 (by omega) hr.1 (by omega)]
  have h3 : W.toNat ||| (if b < 0 then 0 else 2 ^ b.toNat : Int).toNat < 2 ^ 8 := Nat.or_lt_two_pow (by omega) (by omega)
  refine ⟨by omega, ?_⟩
  funext t
  have h2 := congrFun h1 t
  unfold q_bw
  rw [Int.toNat_natCast, Nat.testBit_or, Bool.or_eq_true]
  show (_ ∨ _) = _
  rw [show ((if b < 0 then 0 else 2 ^ b.toNat : Int).toNat.testBit t = true) = ((t : Int) = b) from h2]
theorem q_bw0 (b : Int) : q_bw 0 b = q_but b := by
  funext t
  unfold q_bw
  simp
theorem q_SK_S {h held side : Int} {X : Nat → Prop} : q_SK ρ (q_tk ρ p h X) held side = q_S ρ p h X held side := rfl
def zHr (p : Nat → Int) : Prop := ∀ h : Nat, h < 2 → -1 ≤ p (28 + h) ∧ p (28 + h) < 64
theorem s_floodFromHand_11 (hd : 3 ≤ d) (hS : zSC 11 p F) (hC : zCR ρ F G) (hV : zRv ρ) (hA : zPa ρ p) (hr : zHr p) {h W : Int} (hh : h = 0 ∨ h = 1) (hc : p (28 + h.toNat) ≠ -1) (ht : -1 ≤ p (30 + h.toNat) ∧ p (30 + h.toNat) < ρ 71 8) (hW : 0 ≤ W ∧ W ≤ 255) :
    ∃ F' G', zex d 233 [zR 44, zR 11, zI h, zI W] (F, G, zsg) = some (none, F', G', zsg) ∧ (∀ r, r ≠ 44 → F' r = F r) ∧ (∀ r, r ≠ 44 → r ≠ 45 → G' r = G r) ∧ q_fl (q_T ρ (p (30 + h.toNat))) (q_S ρ p h (q_bw W (p (30 + h.toNat))) (p (30 + h.toNat)) (p (16 + (p (30 + h.toNat)).toNat))) (p (28 + h.toNat)) F' G' := by
  obtain ⟨d, rfl⟩ := zds (show 1 ≤ d by omega)
  have hn8 := hV.1.2
  have e4 : F 15 h.toNat = p (28 + h.toNat) := (hS.hn hh).1
  have e5 : F 16 h.toNat = p (30 + h.toNat) := (hS.hn hh).2.1
  have hrr := hr h.toNat (by omega)
  have hob := z_orbits hW (show -1 ≤ p (30 + h.toNat) ∧ p (30 + h.toNat) < 8 by omega)
  have hside : q_SK ρ (q_tk ρ p h (q_bw W (p (30 + h.toNat)))) (p (30 + h.toNat)) (if p (30 + h.toNat) < 0 then 0 else p (16 + (p (30 + h.toNat)).toNat)) = q_S ρ p h (q_bw W (p (30 + h.toNat))) (p (30 + h.toNat)) (p (16 + (p (30 + h.toNat)).toNat)) := by
    by_cases ht0 : p (30 + h.toNat) < 0
    · have : p (30 + h.toNat) = -1 := by omega
      funext c
      unfold q_SK q_S
      rw [this]
      simp
    · rw [if_neg ht0]; rfl
  obtain ⟨F', G', g1, g2, g3, g4⟩ := s_flood (d := d) (side := if p (30 + h.toNat) < 0 then 0 else p (16 + (p (30 + h.toNat)).toNat)) (K := q_tk ρ p h (q_bw W (p (30 + h.toNat)))) (by omega) hC hV (a := p (28 + h.toNat)) (by omega) ht
  rw [hside] at g4
  refine ⟨F', G', ?_, g2, g3, g4⟩
  refine g_Ways_floodFromHand_44_11 h W _ ?_
  rw [if_pos (by omega), e5]
  split
  · rename_i f1
    rw [if_pos f1] at g1
    rw [if_pos (by omega), s_bitOf (by omega) (by omega), zbI_some, s_takenFor_11 (by omega) hS hC hV hA hr ⟨hob.1.1, by omega⟩, zbL_some, hob.2, e4, g1, zbV_some]
  · rename_i f1
    rw [if_neg f1] at g1
    have e3 : F 14 (p (30 + h.toNat)).toNat = p (16 + (p (30 + h.toNat)).toNat) := (hS.1 _ (by omega)).2.2
    rw [if_pos (by omega), if_pos (by omega), s_bitOf (by omega) (by omega), zbI_some, s_takenFor_11 (by omega) hS hC hV hA hr ⟨hob.1.1, by omega⟩, zbL_some, hob.2, e4, e3, g1, zbV_some]
theorem s_floodFromHand_22 (hd : 3 ≤ d) (hS : zSC 22 p F) (hC : zCR ρ F G) (hV : zRv ρ) (hA : zPa ρ p) (hr : zHr p) {h W : Int} (hh : h = 0 ∨ h = 1) (hc : p (28 + h.toNat) ≠ -1) (ht : -1 ≤ p (30 + h.toNat) ∧ p (30 + h.toNat) < ρ 71 8) (hW : 0 ≤ W ∧ W ≤ 255) :
    ∃ F' G', zex d 233 [zR 44, zR 22, zI h, zI W] (F, G, zsg) = some (none, F', G', zsg) ∧ (∀ r, r ≠ 44 → F' r = F r) ∧ (∀ r, r ≠ 44 → r ≠ 45 → G' r = G r) ∧ q_fl (q_T ρ (p (30 + h.toNat))) (q_S ρ p h (q_bw W (p (30 + h.toNat))) (p (30 + h.toNat)) (p (16 + (p (30 + h.toNat)).toNat))) (p (28 + h.toNat)) F' G' := by
  obtain ⟨d, rfl⟩ := zds (show 1 ≤ d by omega)
  have hn8 := hV.1.2
  have e4 : F 26 h.toNat = p (28 + h.toNat) := (hS.hn hh).1
  have e5 : F 27 h.toNat = p (30 + h.toNat) := (hS.hn hh).2.1
  have hrr := hr h.toNat (by omega)
  have hob := z_orbits hW (show -1 ≤ p (30 + h.toNat) ∧ p (30 + h.toNat) < 8 by omega)
  have hside : q_SK ρ (q_tk ρ p h (q_bw W (p (30 + h.toNat)))) (p (30 + h.toNat)) (if p (30 + h.toNat) < 0 then 0 else p (16 + (p (30 + h.toNat)).toNat)) = q_S ρ p h (q_bw W (p (30 + h.toNat))) (p (30 + h.toNat)) (p (16 + (p (30 + h.toNat)).toNat)) := by
    by_cases ht0 : p (30 + h.toNat) < 0
    · have : p (30 + h.toNat) = -1 := by omega
      funext c
      unfold q_SK q_S
      rw [this]
      simp
    · rw [if_neg ht0]; rfl
  obtain ⟨F', G', g1, g2, g3, g4⟩ := s_flood (d := d) (side := if p (30 + h.toNat) < 0 then 0 else p (16 + (p (30 + h.toNat)).toNat)) (K := q_tk ρ p h (q_bw W (p (30 + h.toNat)))) (by omega) hC hV (a := p (28 + h.toNat)) (by omega) ht
  rw [hside] at g4
  refine ⟨F', G', ?_, g2, g3, g4⟩
  refine g_Ways_floodFromHand_44_22 h W _ ?_
  rw [if_pos (by omega), e5]
  split
  · rename_i f1
    rw [if_pos f1] at g1
    rw [if_pos (by omega), s_bitOf (by omega) (by omega), zbI_some, s_takenFor_22 (by omega) hS hC hV hA hr ⟨hob.1.1, by omega⟩, zbL_some, hob.2, e4, g1, zbV_some]
  · rename_i f1
    rw [if_neg f1] at g1
    have e3 : F 25 (p (30 + h.toNat)).toNat = p (16 + (p (30 + h.toNat)).toNat) := (hS.1 _ (by omega)).2.2
    rw [if_pos (by omega), if_pos (by omega), s_bitOf (by omega) (by omega), zbI_some, s_takenFor_22 (by omega) hS hC hV hA hr ⟨hob.1.1, by omega⟩, zbL_some, hob.2, e4, e3, g1, zbV_some]
end
