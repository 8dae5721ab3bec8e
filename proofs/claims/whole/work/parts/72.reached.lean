/-! what bars a hand, the class; what is reached, on both sides -/
section
variable {d : Nat} {F ρ : zM} {G : zG} {p : Nat → Int} {h b : Int} {C : Int → Prop}
theorem s_thingsIn (hd : 3 ≤ d) (hS : zSC 11 p F) (hC : zCR ρ F G) (hV : zRv ρ) (hA : zPa ρ p) : ∃ x, zex d 239 [zR 44, zR 11, zL (zset C), zI b] (F, G, zsg) = some (some (zI x), F, G, zsg) ∧ (0 ≤ x ∧ x < 256) ∧ ∀ j : Nat, x.toNat.testBit j = true ↔ (j < 8 ∧ (j : Int) ≠ b ∧ (j : Int) < ρ 71 8 ∧ ∃ c : Int, (0 ≤ c ∧ c < 64) ∧ C c ∧ q_lies ρ p j c) := by
  obtain ⟨d, rfl⟩ := zds (show 1 ≤ d by omega)
  have hT := hV.1
  have loop : ∀ (m k : Nat) (acc : Int), (k : Int) + m = ρ 71 8 → (0 ≤ acc ∧ acc < 256) → (∀ j : Nat, acc.toNat.testBit j = true ↔ (j < k ∧ (j : Int) ≠ b ∧ ∃ c : Int, (0 ≤ c ∧ c < 64) ∧ C c ∧ q_lies ρ p j c)) →
      ∃ x, zev zX0 d (239, 6, [zR 44, zR 11, zL (zset C), zR 0, zI b, zI acc, zI k], [], F, G, zsg) = some (some (zI x), F, G, zsg) ∧ (0 ≤ x ∧ x < 256) ∧ ∀ j : Nat, x.toNat.testBit j = true ↔ (j < 8 ∧ (j : Int) ≠ b ∧ (j : Int) < ρ 71 8 ∧ ∃ c : Int, (0 ≤ c ∧ c < 64) ∧ C c ∧ q_lies ρ p j c) := by
    intro m
    induction m with
    | zero =>
      intro k acc hk ha hb
      refine ⟨acc, g_Ways_thingsIn_6 _ b acc k _ ?_, ha, fun j => ?_⟩
      · rw [hC.1, if_neg (by omega)]
      · rw [hb]
        constructor
        · rintro ⟨q1, q2, q3⟩; exact ⟨by omega, q2, by omega, q3⟩
        · rintro ⟨q1, q2, q3, q4⟩; exact ⟨by omega, q2, q4⟩
    | succ m ih =>
      intro k acc hk ha hb
      have hk8 : k < 8 := by omega
      have hk1 : zadd (k : Int) 1 = k + 1 := zadd_eq (by omega) (by omega)
      have hcz : zlcmp (zland (zset (q_rw (p k) (ρ 79 k))) (zset C)) (BitVec.ofNat 64 0) = 0 ↔ ¬ ∃ c : Int, (0 ≤ c ∧ c < 64) ∧ C c ∧ q_lies ρ p k c := by
        rw [zlcmp_eq, zland_eq, zset_and, zset_zero]
        constructor
        · rintro q ⟨c, q1, q2, q3⟩
          exact q c q1.1 q1.2 ⟨q3, q2⟩
        · rintro q c q1 q2 ⟨q3, q4⟩
          exact q ⟨c, ⟨q1, q2⟩, q4, q3⟩
      have hskip : ((k : Int) = b ∨ ¬ ∃ c : Int, (0 ≤ c ∧ c < 64) ∧ C c ∧ q_lies ρ p k c) → ∀ j : Nat, acc.toNat.testBit j = true ↔ (j < k + 1 ∧ (j : Int) ≠ b ∧ ∃ c : Int, (0 ≤ c ∧ c < 64) ∧ C c ∧ q_lies ρ p j c) := by
        intro hs j
        rw [hb]
        constructor
        · rintro ⟨q1, q2, q3⟩; exact ⟨by omega, q2, q3⟩
        · rintro ⟨q1, q2, q3⟩
          by_cases hj : j = k
          · subst hj
            exact hs.elim (fun r => absurd r q2) (fun r => absurd q3 r)
          · exact ⟨by omega, q2, q3⟩
      by_cases c1 : (k : Int) = b
      · obtain ⟨x, e1, e2⟩ := ih (k + 1) acc (by omega) ha (hskip (Or.inl c1))
        rw [zcast1] at e1
        refine ⟨x, g_Ways_thingsIn_6 _ b acc k _ ?_, e2⟩
        rw [hC.1, if_pos (by omega), if_pos c1, hk1]
        exact e1
      · by_cases c2 : ∃ c : Int, (0 ≤ c ∧ c < 64) ∧ C c ∧ q_lies ρ p k c
        · have hp8 := z_2k (k := k) (n := 8) hk8
          have hr : 0 ≤ zor acc (zshl 1 k) ∧ zor acc (zshl 1 k) < 256 := by
            have := z_bitor (k := (k : Int)) ha.1 (by omega) (by omega) (by omega)
            omega
          obtain ⟨x, e1, e2⟩ := ih (k + 1) (zor acc (zshl 1 k)) (by omega) hr (fun j => by
            rw [z_1k hk8, z_tor ha.1 (by omega) (Int.natCast_nonneg _) (by omega), hb, z_bp]
            constructor
            · rintro (⟨q1, q2, q3⟩ | q)
              · exact ⟨by omega, q2, q3⟩
              · subst q; exact ⟨by omega, c1, c2⟩
            · rintro ⟨q1, q2, q3⟩
              by_cases hj : j = k
              · exact Or.inr hj
              · exact Or.inl ⟨by omega, q2, q3⟩)
          rw [zcast1] at e1
          refine ⟨x, g_Ways_thingsIn_6 _ b acc k _ ?_, e2⟩
          rw [hC.1, if_pos (by omega), if_neg c1, s_cellsOf (by omega) hS hC hV hA (by omega) (by omega), zbL_some, Int.toNat_natCast, if_neg (fun q => hcz.mp q c2), hk1]
          exact e1
        · obtain ⟨x, e1, e2⟩ := ih (k + 1) acc (by omega) ha (hskip (Or.inr c2))
          rw [zcast1] at e1
          refine ⟨x, g_Ways_thingsIn_6 _ b acc k _ ?_, e2⟩
          rw [hC.1, if_pos (by omega), if_neg c1, s_cellsOf (by omega) hS hC hV hA (by omega) (by omega), zbL_some, Int.toNat_natCast, if_pos (hcz.mpr c2), hk1]
          exact e1
  obtain ⟨x, e1, e2⟩ := loop (ρ 71 8).toNat 0 0 (by omega) (by decide) (fun j => ⟨fun q => absurd q (z_b0 j), fun q => by omega⟩)
  rw [show ((0 : Nat) : Int) = 0 from rfl] at e1
  exact ⟨x, g_Ways_thingsIn _ b _ e1, e2⟩
theorem s_shutDoorsIn (hd : 2 ≤ d) (hS : zSC 11 p F) (hC : zCR ρ F G) (hV : zRv ρ) : ∃ x, zex d 240 [zR 44, zR 11, zL (zset C)] (F, G, zsg) = some (some (zI x), F, G, zsg) ∧ (0 ≤ x ∧ x < 16) ∧ ∀ j : Nat, x.toNat.testBit j = true ↔ ((j : Int) < ρ 71 5 ∧ C (ρ 76 j) ∧ p (24 + j) = 0) := by
  obtain ⟨d, rfl⟩ := zds (show 1 ≤ d by omega)
  have hD := hV.2.1
  obtain ⟨⟨o1, o2⟩, o3⟩ := hS.2.1
  have loop : ∀ (m k : Nat) (acc : Int), (k : Int) + m = ρ 71 5 → (0 ≤ acc ∧ acc < 16) → (∀ j : Nat, acc.toNat.testBit j = true ↔ (j < k ∧ C (ρ 76 j) ∧ p (24 + j) = 0)) →
      ∃ x, zev zX0 d (240, 6, [zR 44, zR 11, zL (zset C), zR 0, zI acc, zI k], [], F, G, zsg) = some (some (zI x), F, G, zsg) ∧ (0 ≤ x ∧ x < 16) ∧ ∀ j : Nat, x.toNat.testBit j = true ↔ ((j : Int) < ρ 71 5 ∧ C (ρ 76 j) ∧ p (24 + j) = 0) := by
    intro m
    induction m with
    | zero =>
      intro k acc hk ha hb
      refine ⟨acc, g_Ways_shutDoorsIn_6 _ acc k _ ?_, ha, fun j => ?_⟩
      · rw [hC.2.2.1, if_neg (by omega)]
      · rw [hb]
        constructor
        · rintro ⟨q1, q2⟩; exact ⟨by omega, q2⟩
        · rintro ⟨q1, q2⟩; exact ⟨by omega, q2⟩
    | succ m ih =>
      intro k acc hk ha hb
      have hk4 : k < 4 := by omega
      have hk1 : zadd (k : Int) 1 = k + 1 := zadd_eq (by omega) (by omega)
      have hcell := hV.2.2.2.2.2.2.1 k hk4
      have ho := o3 k hk4
      have hiso : zex d 199 [zR 11, zI k] (F, G, zsg) = some (some (zI (p (24 + k))), F, G, zsg) := by
        obtain ⟨d, rfl⟩ := zds (show 1 ≤ d by omega)
        refine g_Scene_isOpened_11 k _ ?_
        rw [ho]
        split
        · rename_i q1
          rw [z_bit0 o1 (by omega) (by omega) (by omega), Int.toNat_natCast] at q1
          rw [if_neg q1]
        · rename_i q1
          rw [z_bit0 o1 (by omega) (by omega) (by omega), Int.toNat_natCast, Classical.not_not] at q1
          rw [if_pos q1]
      have hskip : ¬ (C (ρ 76 k) ∧ p (24 + k) = 0) → ∀ j : Nat, acc.toNat.testBit j = true ↔ (j < k + 1 ∧ C (ρ 76 j) ∧ p (24 + j) = 0) := by
        intro hs j
        rw [hb]
        constructor
        · rintro ⟨q1, q2⟩; exact ⟨by omega, q2⟩
        · rintro ⟨q1, q2⟩
          by_cases hj : j = k
          · subst hj
            exact absurd q2 hs
          · exact ⟨by omega, q2⟩
      by_cases c1 : p (24 + k) = 0
      · by_cases c2 : C (ρ 76 k)
        · have hp8 := z_2k (k := k) (n := 4) hk4
          have hr : 0 ≤ zor acc (zshl 1 k) ∧ zor acc (zshl 1 k) < 16 := by
            rw [z_1k (by omega), zor_eq ha.1 (by omega) (Int.natCast_nonneg _) (by omega)]
            have : acc.toNat ||| ((2 ^ k : Nat) : Int).toNat < 2 ^ 4 := Nat.or_lt_two_pow (by omega) (by omega)
            omega
          obtain ⟨x, e1, e2⟩ := ih (k + 1) (zor acc (zshl 1 k)) (by omega) hr (fun j => by
            rw [z_1k (by omega), z_tor ha.1 (by omega) (Int.natCast_nonneg _) (by omega), hb, z_bp]
            constructor
            · rintro (⟨q1, q2⟩ | q)
              · exact ⟨by omega, q2⟩
              · subst q; exact ⟨by omega, c2, c1⟩
            · rintro ⟨q1, q2⟩
              by_cases hj : j = k
              · exact Or.inr hj
              · exact Or.inl ⟨by omega, q2⟩)
          rw [zcast1] at e1
          refine ⟨x, g_Ways_shutDoorsIn_6 _ acc k _ ?_, e2⟩
          rw [hC.2.2.1, if_pos (by omega), hiso, zbI_some, if_pos c1, if_pos (by omega), Int.toNat_natCast, hC.2.2.2.2.2.1, s_has (by omega) hcell.1 hcell.2, zbI_some, zp_iff (zset_geti hcell.1 hcell.2), zp_t c2, if_neg (by decide), hk1]
          exact e1
        · obtain ⟨x, e1, e2⟩ := ih (k + 1) acc (by omega) ha (hskip (fun q => c2 q.1))
          rw [zcast1] at e1
          refine ⟨x, g_Ways_shutDoorsIn_6 _ acc k _ ?_, e2⟩
          rw [hC.2.2.1, if_pos (by omega), hiso, zbI_some, if_pos c1, if_pos (by omega), Int.toNat_natCast, hC.2.2.2.2.2.1, s_has (by omega) hcell.1 hcell.2, zbI_some, zp_iff (zset_geti hcell.1 hcell.2), zp_f c2, if_pos rfl, hk1]
          exact e1
      · obtain ⟨x, e1, e2⟩ := ih (k + 1) acc (by omega) ha (hskip (fun q => c1 q.2))
        rw [zcast1] at e1
        refine ⟨x, g_Ways_shutDoorsIn_6 _ acc k _ ?_, e2⟩
        rw [hC.2.2.1, if_pos (by omega), hiso, zbI_some, if_neg c1, hk1]
        exact e1
  obtain ⟨x, e1, e2⟩ := loop (ρ 71 5).toNat 0 0 (by omega) (by decide) (fun j => ⟨fun q => absurd q (z_b0 j), fun q => by omega⟩)
  rw [show ((0 : Nat) : Int) = 0 from rfl] at e1
  exact ⟨x, g_Ways_shutDoorsIn _ _ e1, e2⟩
theorem s_otherHandIn (hd : 2 ≤ d) (hS : zSC 11 p F) (hr : zHr p) (hh : h = 0 ∨ h = 1) : zex d 241 [zR 11, zL (zset C), zI h] (F, G, zsg) = some (some (zI (zp (0 ≤ p (29 - h).toNat ∧ C (p (29 - h).toNat)))), F, G, zsg) := by
  obtain ⟨d, rfl⟩ := zds (show 1 ≤ d by omega)
  have e0 : zsub 1 h = 1 - h := zsub_eq (by omega) (by omega)
  have e1 : F 15 (1 - h).toNat = p (29 - h).toNat := by
    rw [(hS.2.2.1 (1 - h).toNat (by omega)).1]
    congr 1
    omega
  have e2 := hr (1 - h).toNat (by omega)
  rw [show 28 + (1 - h).toNat = (29 - h).toNat by omega] at e2
  refine g_Ways_otherHandIn _ h _ ?_
  rw [e0, if_pos (by omega), e1]
  split
  · rw [zp_f (fun q => by omega)]
  · rename_i q1
    rw [s_has (by omega) (by omega) e2.2, zbI_some, zp_iff (zset_geti (by omega) e2.2)]
    split
    · rename_i q2
      rw [zp_0] at q2
      rw [zp_f (fun q => q2 q.2)]
    · rename_i q2
      rw [zp_0, Classical.not_not] at q2
      rw [zp_t ⟨by omega, q2⟩]
/-- what the class's three questions make together -/
theorem zib.three (hh : h = 0 ∨ h = 1) (hV : zRv ρ) {x y : Int} (hx : (0 ≤ x ∧ x < 256) ∧ ∀ j : Nat, x.toNat.testBit j = true ↔ (j < 8 ∧ (j : Int) ≠ b ∧ (j : Int) < ρ 71 8 ∧ ∃ c : Int, (0 ≤ c ∧ c < 64) ∧ C c ∧ q_lies ρ p j c)) (hy : (0 ≤ y ∧ y < 16) ∧ ∀ j : Nat, y.toNat.testBit j = true ↔ ((j : Int) < ρ 71 5 ∧ C (ρ 76 j) ∧ p (24 + j) = 0)) (hr : zHr p) :
    zib ρ p h b C (zor (zor x (zshl y 8)) (zshl (zp (0 ≤ p (29 - h).toNat ∧ C (p (29 - h).toNat))) 12)) := by
  obtain ⟨⟨x1, x2⟩, x3⟩ := hx
  obtain ⟨⟨y1, y2⟩, y3⟩ := hy
  have hD := hV.2.1
  have e1 : zshl y 8 = y * 256 := zshl_eq y1 (by decide) (by decide) (show y * 256 ≤ 2147483647 by omega)
  have hz := zp_01 (0 ≤ p (29 - h).toNat ∧ C (p (29 - h).toNat))
  have e2 : zshl (zp (0 ≤ p (29 - h).toNat ∧ C (p (29 - h).toNat))) 12 = zp (0 ≤ p (29 - h).toNat ∧ C (p (29 - h).toNat)) * 4096 := zshl_eq (by omega) (by decide) (by decide) (show zp (0 ≤ p (29 - h).toNat ∧ C (p (29 - h).toNat)) * 4096 ≤ 2147483647 by omega)
  have e3 : ∀ j : Nat, (y * 256).toNat.testBit j = true ↔ (8 ≤ j ∧ y.toNat.testBit (j - 8) = true) := by
    intro j
    rw [show (y * 256).toNat = y.toNat * 2 ^ 8 by omega, Nat.testBit_mul_two_pow, Bool.and_eq_true, decide_eq_true_eq]
  have e4 : ∀ j : Nat, (zp (0 ≤ p (29 - h).toNat ∧ C (p (29 - h).toNat)) * 4096).toNat.testBit j = true ↔ (j = 12 ∧ 0 ≤ p (29 - h).toNat ∧ C (p (29 - h).toNat)) := by
    intro j
    by_cases q : 0 ≤ p (29 - h).toNat ∧ C (p (29 - h).toNat)
    · rw [zp_t q, show (1 : Int) * 4096 = ((2 ^ 12 : Nat) : Int) from rfl, z_bp]
      exact ⟨fun e => ⟨e, q⟩, fun e => e.1⟩
    · rw [zp_f q, show (0 : Int) * 4096 = 0 from rfl]
      exact ⟨fun e => absurd e (z_b0 j), fun e => absurd e.2 q⟩
  rw [e1, e2]
  have r1 := z_orr x1 (show x < 8192 by omega) (show 0 ≤ y * 256 by omega) (show y * 256 < 8192 by omega)
  have r2 := z_orr r1.1 r1.2 (show 0 ≤ zp (0 ≤ p (29 - h).toNat ∧ C (p (29 - h).toNat)) * 4096 by omega) (by omega)
  refine ⟨r2, fun j => ?_⟩
  rw [z_tor r1.1 (by omega) (by omega) (by omega), z_tor x1 (by omega) (by omega) (by omega), x3, e3, y3, e4]
  have hhr := hr (1 - h).toNat (by omega)
  rw [show 28 + (1 - h).toNat = (29 - h).toNat by omega] at hhr
  constructor
  · rintro ((⟨q1, q2, q3, c, q4, q5, q6⟩ | ⟨q1, q2, q3, q4⟩) | ⟨q1, q2, q3⟩)
    · exact ⟨c, q4, q5, Or.inl ⟨q1, q2, q3, q6⟩⟩
    · exact ⟨ρ 76 (j - 8), hV.2.2.2.2.2.2.1 (j - 8) (by omega), q3, Or.inr (Or.inl ⟨q1, by omega, q2, rfl, q4⟩)⟩
    · exact ⟨p (29 - h).toNat, ⟨q2, hhr.2⟩, q3, Or.inr (Or.inr ⟨q1, rfl⟩)⟩
  · rintro ⟨c, q1, q2, q3 | q3 | q3⟩
    · exact Or.inl (Or.inl ⟨q3.1, q3.2.1, q3.2.2.1, c, q1, q2, q3.2.2.2⟩)
    · obtain ⟨a1, a2, a3, a4, a5⟩ := q3
      subst a4
      exact Or.inl (Or.inr ⟨a1, a3, q2, a5⟩)
    · obtain ⟨a1, a2⟩ := q3
      subst a2
      exact Or.inr ⟨a1, q1.1, q2⟩
/-- cells beside what is come to that can't be stood on -/
def q_ms (T : Prop) (S : Int → Prop) (a c : Int) : Prop := q_adj T (fun c => ∃ k, q_B T S a k c) c ∧ ¬ S c
theorem s_bars (hd : 4 ≤ d) (hS : zSC 11 p F) (hC : zCR ρ F G) (hV : zRv ρ) (hA : zPa ρ p) (hr : zHr p) (hh : h = 0 ∨ h = 1) {T : Prop} {S : Int → Prop} {a : Int} (hf : q_fl T S a F G) (hb : -1 ≤ p (30 + h.toNat) ∧ p (30 + h.toNat) < ρ 71 8) :
    ∃ x, zex d 238 [zR 44, zR 11, zI h] (F, G, zsg) = some (some (zI x), F, G, zsg) ∧ zib ρ p h (p (30 + h.toNat)) (fun u => q_ms T S a u ∨ (p (30 + h.toNat) ≠ -1 ∧ ∃ k : Nat, (k : Int) < ρ 79 (p (30 + h.toNat)).toNat ∧ q_sh (q_ms T S a) (q_ex (p (16 + (p (30 + h.toNat)).toNat)) (ρ 79 (p (30 + h.toNat)).toNat) + k) (q_sy (p (16 + (p (30 + h.toNat)).toNat))) u)) x := by
  obtain ⟨d, rfl⟩ := zds (show 1 ≤ d by omega)
  have hn8 := hV.1.2
  obtain ⟨D, f1, f2, f3, f4, f5, f6, f7⟩ := hf
  have hm : zland (zset (q_adj T (fun c => ∃ k, q_B T S a k c))) (zlxor (G 44 3) (BitVec.ofInt 64 (-1))) = zset (q_ms T S a) := by
    rw [f4, zlnot_eq, zset_not, zland_eq, zset_and]
    rfl
  have e5 : F 16 h.toNat = p (30 + h.toNat) := (hS.hn hh).2.1
  have all : ∀ C : Int → Prop, ∃ x y, zex d 239 [zR 44, zR 11, zL (zset C), zI (p (30 + h.toNat))] (F, G, zsg) = some (some (zI x), F, G, zsg) ∧ zex d 240 [zR 44, zR 11, zL (zset C)] (F, G, zsg) = some (some (zI y), F, G, zsg) ∧ zib ρ p h (p (30 + h.toNat)) C (zor (zor x (zshl y 8)) (zshl (zp (0 ≤ p (29 - h).toNat ∧ C (p (29 - h).toNat))) 12)) := by
    intro C
    obtain ⟨x, x1, x2⟩ := s_thingsIn (d := d) (G := G) (C := C) (b := p (30 + h.toNat)) (by omega) hS hC hV hA
    obtain ⟨y, y1, y2⟩ := s_shutDoorsIn (d := d) (G := G) (C := C) (by omega) hS hC hV
    exact ⟨x, y, x1, y1, zib.three hh hV x2 y2 hr⟩
  by_cases c0 : p (30 + h.toNat) < 0
  · obtain ⟨x, y, x1, y1, z1⟩ := all (q_ms T S a)
    refine ⟨_, g_Ways_bars h _ ?_, z1.congr (fun u _ _ => ⟨Or.inl, fun q => q.elim id (fun r => by omega)⟩)⟩
    rw [f5, f3, s_allBeside (by omega), zbL_some, if_pos (by omega), e5, if_pos c0, hm, x1, zbI_some, y1, zbI_some, s_otherHandIn (by omega) hS hr hh, zbI_some]
  · have hw := hV.2.2.2.2.1 (p (30 + h.toNat)).toNat (by omega)
    have hw1 := hV.2.2.2.2.2.1 (p (30 + h.toNat)).toNat (by omega)
    have e3 : F 14 (p (30 + h.toNat)).toNat = p (16 + (p (30 + h.toNat)).toNat) := (hS.1 _ (by omega)).2.2
    have hex := q_ex_r (p (16 + (p (30 + h.toNat)).toNat)) hw.1 hw.2
    have hex2 : q_ex (p (16 + (p (30 + h.toNat)).toNat)) (ρ 79 (p (30 + h.toNat)).toNat) + ρ 79 (p (30 + h.toNat)).toNat ≤ 3 := by
      unfold q_ex
      repeat' split
      all_goals omega
    have hsy := q_sy_r (p (16 + (p (30 + h.toNat)).toNat))
    have loop : ∀ (m k : Nat) (Q : Int → Prop), (k : Int) + m = ρ 79 (p (30 + h.toNat)).toNat → ∃ x, zev zX0 d (238, 77, [zR 44, zR 11, zI h, zL (zset (q_ms T S a)), zR 0, zL (zset Q), zR 0, zI (p (30 + h.toNat)), zI (ρ 79 (p (30 + h.toNat)).toNat), zI (p (16 + (p (30 + h.toNat)).toNat)), zI (q_ex (p (16 + (p (30 + h.toNat)).toNat)) (ρ 79 (p (30 + h.toNat)).toNat)), zI (q_sy (p (16 + (p (30 + h.toNat)).toNat))), zI k], [], F, G, zsg) = some (some (zI x), F, G, zsg) ∧
        zib ρ p h (p (30 + h.toNat)) (fun u => Q u ∨ ∃ e : Nat, k ≤ e ∧ (e : Int) < ρ 79 (p (30 + h.toNat)).toNat ∧ q_sh (q_ms T S a) (q_ex (p (16 + (p (30 + h.toNat)).toNat)) (ρ 79 (p (30 + h.toNat)).toNat) + e) (q_sy (p (16 + (p (30 + h.toNat)).toNat))) u) x := by
      intro m
      induction m with
      | zero =>
        intro k Q hk
        obtain ⟨x, y, x1, y1, z1⟩ := all Q
        refine ⟨_, g_Ways_bars_77 h _ _ _ _ _ _ _ k _ ?_, z1.congr (fun u _ _ => ⟨Or.inl, fun q => q.elim id (fun ⟨e, r1, r2, _⟩ => by omega)⟩)⟩
        rw [if_neg (by omega), x1, zbI_some, y1, zbI_some, s_otherHandIn (by omega) hS hr hh, zbI_some]
      | succ m ih =>
        intro k Q hk
        obtain ⟨x, x1, x2⟩ := ih (k + 1) (fun u => Q u ∨ q_sh (q_ms T S a) (q_ex (p (16 + (p (30 + h.toNat)).toNat)) (ρ 79 (p (30 + h.toNat)).toNat) + k) (q_sy (p (16 + (p (30 + h.toNat)).toNat))) u) (by omega)
        rw [zcast1] at x1
        refine ⟨x, g_Ways_bars_77 h _ _ _ _ _ _ _ k _ ?_, x2.congr (fun u _ _ => ?_)⟩
        · rw [if_pos (by omega), zadd_eq (x := q_ex (p (16 + (p (30 + h.toNat)).toNat)) (ρ 79 (p (30 + h.toNat)).toNat)) (by omega) (by omega), s_shifted (by omega) (by omega) hsy, zbL_some, zlor_eq, zset_or, zadd_eq (by omega) (by omega)]
          exact x1
        · constructor
          · rintro ((q | q) | ⟨e, q1, q2⟩)
            · exact Or.inl q
            · exact Or.inr ⟨k, Nat.le_refl _, by omega, q⟩
            · exact Or.inr ⟨e, by omega, q2⟩
          · rintro (q | ⟨e, q1, q2, q3⟩)
            · exact Or.inl (Or.inl q)
            · by_cases he : e = k
              · subst he; exact Or.inl (Or.inr q3)
              · exact Or.inr ⟨e, by omega, q2, q3⟩
    obtain ⟨x, x1, x2⟩ := loop (ρ 79 (p (30 + h.toNat)).toNat).toNat 0 (q_ms T S a) (by omega)
    rw [show ((0 : Nat) : Int) = 0 from rfl] at x1
    refine ⟨x, g_Ways_bars h _ ?_, x2.congr (fun u _ _ => ?_)⟩
    · rw [f5, f3, s_allBeside (by omega), zbL_some, if_pos (by omega), e5, if_neg c0, if_pos (by omega), if_pos (by omega), hm, hC.2.2.2.2.1, e3, s_eastOfHand (by omega) hw.1 hw.2, zbI_some, s_southOfHand (by omega), zbI_some]
      exact x1
    · constructor
      · rintro (q | ⟨e, -, q⟩)
        · exact Or.inl q
        · exact Or.inr ⟨by omega, e, q⟩
      · rintro (q | ⟨-, e, q⟩)
        · exact Or.inl q
        · exact Or.inr ⟨e, Nat.zero_le _, q⟩
/-- the cells that bar, told from the cells that are come to -/
def q_nb (ρ : zM) (p : Nat → Int) (h b : Int) (T : Prop) (R : Int → Prop) (c s : Int) (u : Int) : Prop := (T ∨ s % 2 = 1) ∧ q_bes c s ≠ -1 ∧ q_ba ρ p h b (q_bes c s) u
theorem m_reached1 (hd : 5 ≤ d) (hR : zMR ρ F) (hp : F 72 = p) (hV : zRv ρ) (hA : zPa ρ p) (hN : zNO ρ p) (hh : h = 0 ∨ h = 1) (hb : -1 ≤ b ∧ b < ρ 71 8) {R : Int → Prop} (hF : ∀ c : Nat, c < 64 → (F 99 c < 1000 ↔ R c)) :
    ∀ (m k : Nat) (acc n : Int) (C : Int → Prop), k + m = 64 → zib ρ p h b C acc → ∃ x, zev zX0 d (74, 47, [zR 71, zI h, zI 1, zI n, zI acc, zI b, zI k, zR 0, zR 0], [], F, G, zsg) = some (some (zI x), F, G, zsg) ∧ zib ρ p h b (fun u => C u ∨ ∃ e : Nat, k ≤ e ∧ e < 64 ∧ R e ∧ ∃ s : Int, (0 ≤ s ∧ s < 4) ∧ q_nb ρ p h b (q_T ρ b) R e s u) x := by
  have hn8 := hV.1.2
  have hmay : ∀ s : Int, q_may ρ b s ↔ (q_T ρ b ∨ s % 2 = 1) := by
    intro s
    unfold q_may q_T
    constructor
    · rintro (q | q | q)
      · exact Or.inl (Or.inl q)
      · exact Or.inr q
      · exact Or.inl (Or.inr q)
    · rintro ((q | q) | q)
      · exact Or.inl q
      · exact Or.inr (Or.inr q)
      · exact Or.inr (Or.inl q)
  intro m
  induction m with
  | zero =>
    intro k acc n C hk hC
    refine ⟨acc, g_M_reached_47 h 1 n acc b k _ ?_, hC.congr (fun u _ _ => ⟨Or.inl, fun q => q.elim id (fun ⟨e, r1, r2, _⟩ => by omega)⟩)⟩
    rw [if_neg (by omega), if_neg (by decide)]
  | succ m ih =>
    intro k acc n C hk hC
    have hk1 : zadd (k : Int) 1 = k + 1 := zadd_eq (by omega) (by omega)
    by_cases c1 : R k
    · have c1' := (hF k (by omega)).mpr c1
      have inner : ∀ (m s : Nat) (acc n : Int) (C : Int → Prop), s + m = 4 → zib ρ p h b C acc → ∃ x, zev zX0 d (74, 78, [zR 71, zI h, zI 1, zI n, zI acc, zI b, zI k, zI s, zR 0], [], F, G, zsg) = some (some (zI x), F, G, zsg) ∧ zib ρ p h b (fun u => (C u ∨ ∃ r : Int, ((s : Int) ≤ r ∧ r < 4) ∧ q_nb ρ p h b (q_T ρ b) R k r u) ∨ ∃ e : Nat, k + 1 ≤ e ∧ e < 64 ∧ R e ∧ ∃ s : Int, (0 ≤ s ∧ s < 4) ∧ q_nb ρ p h b (q_T ρ b) R e s u) x := by
        intro m
        induction m with
        | zero =>
          intro s acc n C hs hC
          obtain ⟨x, e1, e2⟩ := ih (k + 1) acc n C (by omega) hC
          rw [zcast1] at e1
          refine ⟨x, g_M_reached_78 h 1 n acc b k s _ ?_, e2.congr (fun u _ _ => or_congr ⟨Or.inl, fun q => q.elim id (fun ⟨r, q1, _⟩ => by omega)⟩ Iff.rfl)⟩
          rw [if_neg (by omega), hk1]
          exact e1
        | succ m ihs =>
          intro s acc n C hs hC
          have hs1 : zadd (s : Int) 1 = s + 1 := zadd_eq (by omega) (by omega)
          have h0 : zor acc 0 = acc := zor_0 hC.1.1 (by have := hC.1.2; omega)
          have hskip : (∀ u, ¬ q_nb ρ p h b (q_T ρ b) R k s u) → ∃ x, zev zX0 d (74, 78, [zR 71, zI h, zI 1, zI n, zI acc, zI b, zI k, zI ((s : Int) + 1), zR 0], [], F, G, zsg) = some (some (zI x), F, G, zsg) ∧ zib ρ p h b (fun u => (C u ∨ ∃ r : Int, ((s : Int) ≤ r ∧ r < 4) ∧ q_nb ρ p h b (q_T ρ b) R k r u) ∨ ∃ e : Nat, k + 1 ≤ e ∧ e < 64 ∧ R e ∧ ∃ s : Int, (0 ≤ s ∧ s < 4) ∧ q_nb ρ p h b (q_T ρ b) R e s u) x := by
            intro hno
            obtain ⟨x, e1, e2⟩ := ihs (s + 1) acc n C (by omega) hC
            rw [zcast1] at e1
            refine ⟨x, e1, e2.congr (fun u _ _ => or_congr (or_congr Iff.rfl ?_) Iff.rfl)⟩
            constructor
            · rintro ⟨r, q1, q2⟩; exact ⟨r, ⟨by omega, q1.2⟩, q2⟩
            · rintro ⟨r, q1, q2⟩
              by_cases hr : r = s
              · subst hr; exact absurd q2 (hno u)
              · exact ⟨r, ⟨by omega, q1.2⟩, q2⟩
          by_cases c2 : q_may ρ b s
          · by_cases c3 : q_bes k s = -1
            · obtain ⟨x, e1, e2⟩ := hskip (fun u q => q.2.1 c3)
              refine ⟨x, g_M_reached_78 h 1 n acc b k s _ ?_, e2⟩
              rw [if_pos (by omega), if_pos (by omega), Int.toNat_natCast, if_pos c1', if_pos rfl, m_maySide (by omega) hR (by omega) (by omega), zbI_some, zp_t c2, if_neg (by decide), m_beside (by omega) (by omega) (by omega), zbI_some, if_pos c3, h0, hs1]
              exact e1
            · have hbr := q_bes_r (k : Int) s
              obtain ⟨y, y1, y2⟩ := m_barsAt (d := d) (G := G) (b := b) (c := q_bes k s) (by omega) hR hp hV hA hN hh (by omega) (by omega) hb
              obtain ⟨x, e1, e2⟩ := ihs (s + 1) (zor acc y) n _ (by omega) (hC.or y2)
              rw [zcast1] at e1
              refine ⟨x, g_M_reached_78 h 1 n acc b k s _ ?_, e2.congr (fun u _ _ => or_congr ?_ Iff.rfl)⟩
              · rw [if_pos (by omega), if_pos (by omega), Int.toNat_natCast, if_pos c1', if_pos rfl, m_maySide (by omega) hR (by omega) (by omega), zbI_some, zp_t c2, if_neg (by decide), m_beside (by omega) (by omega) (by omega), zbI_some, if_neg c3, y1, zbI_some, hs1]
                exact e1
              · constructor
                · rintro ((q | q) | ⟨r, q1, q2⟩)
                  · exact Or.inl q
                  · exact Or.inr ⟨s, ⟨by omega, by omega⟩, (hmay s).mp c2, c3, q⟩
                  · exact Or.inr ⟨r, ⟨by omega, q1.2⟩, q2⟩
                · rintro (q | ⟨r, q1, q2⟩)
                  · exact Or.inl (Or.inl q)
                  · by_cases hr : r = s
                    · subst hr; exact Or.inl (Or.inr q2.2.2)
                    · exact Or.inr ⟨r, ⟨by omega, q1.2⟩, q2⟩
          · obtain ⟨x, e1, e2⟩ := hskip (fun u q => c2 ((hmay s).mpr q.1))
            refine ⟨x, g_M_reached_78 h 1 n acc b k s _ ?_, e2⟩
            rw [if_pos (by omega), if_pos (by omega), Int.toNat_natCast, if_pos c1', if_pos rfl, m_maySide (by omega) hR (by omega) (by omega), zbI_some, zp_f c2, if_pos rfl, h0, hs1]
            exact e1
      obtain ⟨x, e1, e2⟩ := inner 4 0 acc (zadd n 1) C (by omega) hC
      rw [show ((0 : Nat) : Int) = 0 from rfl] at e1
      refine ⟨x, g_M_reached_47 h 1 n acc b k _ ?_, e2.congr (fun u _ _ => ?_)⟩
      · rw [if_pos (by omega), if_pos (by omega), Int.toNat_natCast, if_pos c1']
        exact e1
      · constructor
        · rintro ((q | ⟨r, q1, q2⟩) | ⟨e, q1, q2⟩)
          · exact Or.inl q
          · exact Or.inr ⟨k, Nat.le_refl _, by omega, c1, r, ⟨by omega, q1.2⟩, q2⟩
          · exact Or.inr ⟨e, by omega, q2⟩
        · rintro (q | ⟨e, q1, q2, q3, r, q4, q5⟩)
          · exact Or.inl (Or.inl q)
          · by_cases he : e = k
            · subst he; exact Or.inl (Or.inr ⟨r, ⟨by omega, q4.2⟩, q5⟩)
            · exact Or.inr ⟨e, by omega, q2, q3, r, q4, q5⟩
    · have c1' : ¬ F 99 k < 1000 := fun q => c1 ((hF k (by omega)).mp q)
      obtain ⟨x, e1, e2⟩ := ih (k + 1) acc (zadd n 0) C (by omega) hC
      rw [zcast1] at e1
      refine ⟨x, g_M_reached_47 h 1 n acc b k _ ?_, e2.congr (fun u _ _ => or_congr Iff.rfl (zE_step (Q := fun e => e < 64 ∧ R e ∧ ∃ s : Int, (0 ≤ s ∧ s < 4) ∧ q_nb ρ p h b (q_T ρ b) R e s u) (fun q => c1 q.2.1)))⟩
      rw [if_pos (by omega), if_pos (by omega), Int.toNat_natCast, if_neg c1']
      refine g_M_reached_78 h 1 _ acc b k 0 _ ?_
      rw [if_pos (by decide), if_pos (by omega), Int.toNat_natCast, if_neg c1', hk1]
      exact e1
theorem m_reached0 {R : Int → Prop} (hF : ∀ c : Nat, c < 64 → (F 99 c < 1000 ↔ R c)) (acc : Int) : ∀ (m k n : Nat), k + m = 64 → n = zct (fun c => R c) k → zev zX0 d (74, 47, [zR 71, zI h, zI 0, zI n, zI acc, zI b, zI k, zR 0, zR 0], [], F, G, zsg) = some (some (zI (zct (fun c => R c) 64 : Nat)), F, G, zsg) := by
  intro m
  induction m with
  | zero =>
    intro k n hk hn
    refine g_M_reached_47 h 0 n acc b k _ ?_
    have : k = 64 := by omega
    subst this
    rw [if_neg (by decide), if_pos rfl, hn]
  | succ m ih =>
    intro k n hk hn
    have hk1 : zadd (k : Int) 1 = k + 1 := zadd_eq (by omega) (by omega)
    have hle := zct_le (fun c => R c) k
    refine g_M_reached_47 h 0 n acc b k _ ?_
    rw [if_pos (by omega), if_pos (by omega), Int.toNat_natCast]
    by_cases c1 : R k
    · have c1' := (hF k (by omega)).mpr c1
      have := ih (k + 1) (n + 1) (by omega) (by rw [zct_t (P := fun c => R c) c1, hn])
      rw [zcast1, zcast1] at this
      rw [if_pos c1', zadd_eq (by omega) (by omega)]
      refine g_M_reached_78 h 0 _ acc b k 0 _ ?_
      rw [if_pos (by decide), if_pos (by omega), Int.toNat_natCast, if_pos c1', if_neg (by decide), hk1]
      exact this
    · have c1' : ¬ F 99 k < 1000 := fun q => c1 ((hF k (by omega)).mp q)
      have := ih (k + 1) n (by omega) (by rw [zct_f (P := fun c => R c) c1, hn])
      rw [zcast1] at this
      rw [if_neg c1', zadd_eq (by omega) (by omega), Int.add_zero]
      refine g_M_reached_78 h 0 _ acc b k 0 _ ?_
      rw [if_pos (by decide), if_pos (by omega), Int.toNat_natCast, if_neg c1', hk1]
      exact this
/-- the class's cells that bar are the reference's -/
theorem q_bars_eq (hV : zRv ρ) {T : Prop} {S R : Int → Prop} {a : Int} (hb : -1 ≤ b ∧ b < ρ 71 8) (hS : ∀ c : Int, 0 ≤ c → c < 64 → (q_stand ρ p h b (p (16 + b.toNat)) c ↔ S c)) (hR : ∀ c : Int, 0 ≤ c → c < 64 → ((∃ k, q_B T S a k c) ↔ R c)) (u : Int) (u0 : 0 ≤ u) (u1 : u < 64) :
    (False ∨ ∃ e : Nat, 0 ≤ e ∧ e < 64 ∧ R e ∧ ∃ s : Int, (0 ≤ s ∧ s < 4) ∧ q_nb ρ p h b T R e s u) ↔ (q_ms T S a u ∨ (b ≠ -1 ∧ ∃ k : Nat, (k : Int) < ρ 79 b.toNat ∧ q_sh (q_ms T S a) (q_ex (p (16 + b.toNat)) (ρ 79 b.toNat) + k) (q_sy (p (16 + b.toNat))) u)) := by
  have hn8 := hV.1.2
  have key : ∀ v : Int, 0 ≤ v → v < 64 → (q_ms T S a v ↔ ∃ e : Nat, e < 64 ∧ R e ∧ ∃ s : Int, (0 ≤ s ∧ s < 4) ∧ (T ∨ s % 2 = 1) ∧ q_bes e s = v ∧ ¬ q_stand ρ p h b (p (16 + b.toNat)) v) := by
    intro v v0 v1
    unfold q_ms
    constructor
    · rintro ⟨⟨s, q1, q2, q3, q4⟩, q5⟩
      obtain ⟨g1, g2⟩ := q_bes_rev v0 v1 q1 q3
      refine ⟨(q_bes v s).toNat, by omega, ?_, (s + 2) % 4, by omega, q2.imp id (fun r => by omega), ?_, fun r => q5 ((hS v v0 v1).mp r)⟩
      · rw [Int.toNat_of_nonneg g1.1]; exact (hR _ g1.1 g1.2).mp q4
      · rw [Int.toNat_of_nonneg g1.1]; exact g2
    · rintro ⟨e, q1, q2, s, q3, q4, q5, q6⟩
      obtain ⟨g1, g2⟩ := q_bes_rev (c := (e : Int)) (by omega) (by omega) q3 (by omega)
      rw [q5] at g2
      refine ⟨⟨(s + 2) % 4, by omega, q4.imp id (fun r => by omega), by rw [g2]; omega, ?_⟩, fun r => q6 ((hS v v0 v1).mpr r)⟩
      rw [g2]
      exact (hR _ (by omega) (by omega)).mpr q2
  constructor
  · rintro (q | ⟨e, -, q1, q2, s, q3, q4, q5, q6, q7⟩)
    · exact q.elim
    · have hbr := q_bes_r (e : Int) s
      have hm := (key (q_bes e s) (by omega) (by omega)).mpr ⟨e, q1, q2, s, q3, q4, rfl, q6⟩
      rcases q7 with q7 | ⟨q7, k, q8, q9, q10, q11⟩
      · subst q7; exact Or.inl hm
      · have hw := hV.2.2.2.2.1 b.toNat (by omega)
        refine Or.inr ⟨q7, k, q8, ?_, ?_, ?_⟩
        · omega
        · omega
        · rw [show u - (q_ex (p (16 + b.toNat)) (ρ 79 b.toNat) + k) - 8 * q_sy (p (16 + b.toNat)) = q_bes e s by omega]
          exact hm
  · rintro (q | ⟨q1, k, q2, q3, q4, q5⟩)
    · obtain ⟨e, g1, g2, s, g3, g4, g5, g6⟩ := (key u u0 u1).mp q
      exact Or.inr ⟨e, Nat.zero_le _, g1, g2, s, g3, g4, by omega, by rw [g5]; exact ⟨g6, Or.inl rfl⟩⟩
    · obtain ⟨e, g1, g2, s, g3, g4, g5, g6⟩ := (key (u - (q_ex (p (16 + b.toNat)) (ρ 79 b.toNat) + k) - 8 * q_sy (p (16 + b.toNat))) (by omega) (by omega)).mp q5
      refine Or.inr ⟨e, Nat.zero_le _, g1, g2, s, g3, g4, by omega, ?_⟩
      rw [g5]
      refine ⟨g6, Or.inr ⟨q1, k, q2, ?_, ?_, ?_⟩⟩
      · omega
      · omega
      · omega
def q_rch (T : Prop) (S : Int → Prop) (a c : Int) : Prop := ∃ k, q_B T S a k c
theorem a_reached (hd : 8 ≤ d) (N : zNow ρ p F G) (hNO : zNO ρ p) (h w : Int) : zAsk d 12 74 [zI h, zI w] F G := by
  obtain ⟨d, rfl⟩ := zds (show 1 ≤ d by omega)
  by_cases c1 : (0 ≤ h ∧ h ≤ 1) ∧ p (28 + h).toNat ≠ -1
  · by_cases c2 : 0 ≤ w ∧ w ≤ 1
    · have hh : h = 0 ∨ h = 1 := by omega
      have hc1 : p (28 + h.toNat) ≠ -1 := by rw [← show (28 + h).toNat = 28 + h.toNat by omega]; exact c1.2
      have ha := n_acell N.2.2.2.2.2 hh hc1
      have hn8 := N.2.2.2.2.1.1
      have hPv := N.2.2.2.2.2
      have hV := N.2.2.2.2.1
      have hb := hPv.2.2.1 h.toNat (by omega)
      have z30 : zadd 30 h = 30 + h := zadd_eq (by omega) (by omega)
      have t30 : (30 + h).toNat = 30 + h.toNat := by omega
      obtain ⟨F1, G1, e1, e2, -, e3⟩ := N.flood (d := d) (by omega) hh hc1
      have N1 := N.q e2
      obtain ⟨F2, e4, e5, -, e6⟩ := N1.spread (d := d) (by omega) hh hc1
      have N2 := N1.q e5
      have hFR : ∀ c : Nat, c < 64 → (F2 99 c < 1000 ↔ q_rch (n_T ρ p h) (n_S ρ p h) (n_a p h) c) := by
        intro c hc
        have hr := q_far_r (T := n_T ρ p h) (S := n_S ρ p h) (a := n_a p h) (c := (c : Int))
        rw [e6 c hc, show q_rch (n_T ρ p h) (n_S ρ p h) (n_a p h) (c : Int) ↔ q_far (n_T ρ p h) (n_S ρ p h) (n_a p h) c ≠ -1 from (q_far_iff ha n_S_cell).symm]
        unfold zfo
        split
        · rename_i q
          exact ⟨fun r => by omega, fun r => absurd q r⟩
        · rename_i q
          exact ⟨fun _ => q, fun _ => by omega⟩
      by_cases w0 : w = 0
      · subst w0
        obtain ⟨D, f1, f2, f3, f4, f5, f6, f7⟩ := e3
        have f5' : G1 44 5 = zset (q_rch (n_T ρ p h) (n_S ρ p h) (n_a p h)) := f5
        have m0 := m_reached0 (d := d) (G := G1) (h := h) (b := p (30 + h.toNat)) hFR 0 64 0 0 (by omega) rfl
        rw [show ((0 : Nat) : Int) = 0 from rfl] at m0
        refine ⟨(zct (fun c : Nat => q_rch (n_T ρ p h) (n_S ρ p h) (n_a p h) c) 64 : Nat), F1, G1, F2, g_C_reached h 0 _ ?_, g_M_reached h 0 _ ?_, e2.tr e5⟩
        · rw [N.pres (by omega), zbI_some, zp_t c1, if_neg (by decide), if_pos rfl, e1, zbV_some, if_pos rfl, f5', s_bitCount (by omega), zbI_some]
        · rw [m_isThere (by omega) N1.2.2.2.1, zbI_some, zp_t c1, if_neg (by decide), m_in (by omega), zbI_some, zp_t c2, if_neg (by decide), e4, zbV_some, z30, if_pos (by omega), N2.2.2.2.1, t30]
          exact m0
      · have w1 : w = 1 := by omega
        subst w1
        obtain ⟨x, x1, x2⟩ := s_bars (d := d) (by omega) N1.1 N1.2.1 hV hPv.1 hPv.2.1 hh e3 hb
        obtain ⟨y, y1, y2⟩ := m_reached1 (d := d) (G := G1) (by omega) N2.2.2.1 N2.2.2.2.1 hV hPv.1 hNO hh hb hFR 64 0 0 0 (fun _ => False) (by omega) zib.none
        have hxy : y = x := (y2.congr (q_bars_eq hV hb (fun c h0 h1 => q_stand_S h0 h1) (fun c h0 h1 => Iff.rfl))).uniq x2
        subst hxy
        refine ⟨y, F1, G1, F2, g_C_reached h 1 _ ?_, g_M_reached h 1 _ ?_, e2.tr e5⟩
        · rw [N.pres (by omega), zbI_some, zp_t c1, if_neg (by decide), if_neg (by decide), if_pos rfl, e1, zbV_some, if_neg (by decide), x1, zbI_some]
        · rw [m_isThere (by omega) N1.2.2.2.1, zbI_some, zp_t c1, if_neg (by decide), m_in (by omega), zbI_some, zp_t c2, if_neg (by decide), e4, zbV_some, z30, if_pos (by omega), N2.2.2.2.1, t30]
          exact y1
    · refine ⟨-2, F, G, F, g_C_reached h w _ ?_, g_M_reached h w _ ?_, zqc.rfl⟩
      · rw [N.pres (by omega), zbI_some, zp_t c1, if_neg (by decide), if_neg (by omega), if_neg (by omega)]
      · rw [m_isThere (by omega) N.2.2.2.1, zbI_some, zp_t c1, if_neg (by decide), m_in (by omega), zbI_some, zp_f c2, if_pos rfl]
  · refine ⟨-5, F, G, F, g_C_reached h w _ ?_, g_M_reached h w _ ?_, zqc.rfl⟩
    · rw [N.pres (by omega), zbI_some, zp_f c1, if_pos rfl]
    · rw [m_isThere (by omega) N.2.2.2.1, zbI_some, zp_f c1, if_pos rfl]
end
