/-! calls that add things and hands -/
section
variable {d : Nat} {F ρ ρ' : zM} {G : zG} {p p' : Nat → Int}
/-- a thing more, on both sides -/
theorem zAll.thing (A : zAll ρ p F G) {k w a : Int} (ha : 0 ≤ a ∧ a < 64) (hk : 0 ≤ k ∧ k ≤ 5) (hw : 1 ≤ w ∧ w ≤ 2) (hc : q_can ρ p (-1) w a) (hn : ρ 71 8 < 8) : zAll (zup (zup (zup (zup (zup (zup (zup (zup F 6 2 (ρ 71 8 + 1)) 7 (ρ 71 8).toNat k) 8 (ρ 71 8).toNat w) 12 (ρ 71 8).toNat a) 78 (ρ 71 8).toNat k) 79 (ρ 71 8).toNat w) 72 (ρ 71 8).toNat a) 71 8 (ρ 71 8 + 1)) (zu p (ρ 71 8).toNat a) (zup (zup (zup (zup (zup (zup (zup (zup F 6 2 (ρ 71 8 + 1)) 7 (ρ 71 8).toNat k) 8 (ρ 71 8).toNat w) 12 (ρ 71 8).toNat a) 78 (ρ 71 8).toNat k) 79 (ρ 71 8).toNat w) 72 (ρ 71 8).toNat a) 71 8 (ρ 71 8 + 1)) G := by
  have A0 := A
  obtain ⟨⟨n1, n2, n3, n4, n5, n6⟩, a2, a3, a4, a5, a6, a7, a8, a9⟩ := A
  obtain ⟨m1, m2, m3, m4, m5, m6, m7, m8⟩ := n3
  obtain ⟨k1, k2, k3, k4, k5, k6, k7, k8⟩ := n2
  have hn0 := n5.1.1
  generalize hFM : zup (zup (zup (zup (zup (zup (zup (zup F 6 2 (ρ 71 8 + 1)) 7 (ρ 71 8).toNat k) 8 (ρ 71 8).toNat w) 12 (ρ 71 8).toNat a) 78 (ρ 71 8).toNat k) 79 (ρ 71 8).toNat w) 72 (ρ 71 8).toNat a) 71 8 (ρ 71 8 + 1) = FM
  have hF2 : ∀ r, r ≠ 6 → r ≠ 7 → r ≠ 8 → r ≠ 12 → r ≠ 71 → r ≠ 72 → r ≠ 78 → r ≠ 79 → FM r = F r := fun r r1 r2 r3 r4 r5 r6 r7 r8 => by rw [← hFM, zup_row r5, zup_row r6, zup_row r8, zup_row r7, zup_row r4, zup_row r3, zup_row r2, zup_row r1]
  have e6 : FM 6 = zu (F 6) 2 (ρ 71 8 + 1) := by rw [← hFM, zup_row (by decide), zup_row (by decide), zup_row (by decide), zup_row (by decide), zup_row (by decide), zup_row (by decide), zup_row (by decide), zup_fn]
  have e7 : FM 7 = zu (ρ 78) (ρ 71 8).toNat k := by rw [← hFM, zup_row (by decide), zup_row (by decide), zup_row (by decide), zup_row (by decide), zup_row (by decide), zup_row (by decide), zup_fn, zup_row (by decide), k4]
  have e8 : FM 8 = zu (ρ 79) (ρ 71 8).toNat w := by rw [← hFM, zup_row (by decide), zup_row (by decide), zup_row (by decide), zup_row (by decide), zup_row (by decide), zup_fn, zup_row (by decide), zup_row (by decide), k5]
  have e12 : FM 12 = zu (F 12) (ρ 71 8).toNat a := by rw [← hFM, zup_row (by decide), zup_row (by decide), zup_row (by decide), zup_row (by decide), zup_fn, zup_row (by decide), zup_row (by decide), zup_row (by decide)]
  have e71 : FM 71 = zu (F 71) 8 (ρ 71 8 + 1) := by rw [← hFM, zup_fn, zup_row (by decide), zup_row (by decide), zup_row (by decide), zup_row (by decide), zup_row (by decide), zup_row (by decide), zup_row (by decide)]
  have e72 : FM 72 = zu p (ρ 71 8).toNat a := by rw [← hFM, zup_row (by decide), zup_fn, zup_row (by decide), zup_row (by decide), zup_row (by decide), zup_row (by decide), zup_row (by decide), zup_row (by decide), n4]
  have e78 : FM 78 = zu (ρ 78) (ρ 71 8).toNat k := by rw [← hFM, zup_row (by decide), zup_row (by decide), zup_row (by decide), zup_fn, zup_row (by decide), zup_row (by decide), zup_row (by decide), zup_row (by decide), m7]
  have e79 : FM 79 = zu (ρ 79) (ρ 71 8).toNat w := by rw [← hFM, zup_row (by decide), zup_row (by decide), zup_fn, zup_row (by decide), zup_row (by decide), zup_row (by decide), zup_row (by decide), zup_row (by decide), m8]
  have r71 : ∀ j, j ≠ 8 → FM 71 j = F 71 j := fun j hj => by rw [e71, zu_ne hj]
  have r718 : FM 71 8 = ρ 71 8 + 1 := by rw [e71, zu_eq]
  have r6 : ∀ j, j ≠ 2 → FM 6 j = F 6 j := fun j hj => by rw [e6, zu_ne hj]
  have r62 : FM 6 2 = ρ 71 8 + 1 := by rw [e6, zu_eq]
  have hr : ∀ r, r = 9 ∨ r = 10 ∨ r = 75 ∨ r = 76 ∨ r = 77 → FM r = F r := fun r h => hF2 r (by omega) (by omega) (by omega) (by omega) (by omega) (by omega) (by omega) (by omega)
  have r79 : ∀ t : Nat, (t : Int) < ρ 71 8 → FM 79 t = ρ 79 t := fun t ht => by rw [e79, zu_ne (by omega)]
  have r79n : FM 79 (ρ 71 8).toNat = w := by rw [e79, zu_eq]
  have g8 : ρ 71 8 ≤ FM 71 8 := by rw [r718]; omega
  have g5 : ρ 71 5 ≤ FM 71 5 := by rw [r71 5 (by decide), m1]; exact Int.le_refl _
  have P0 := n6.room g8 g5 r79
  have N0 := a2.room n6 r79
  have q8 : ∀ j, j ≠ (ρ 71 8).toNat → zu p (ρ 71 8).toNat a j = p j := fun j hj => zu_ne hj
  have qn : zu p (ρ 71 8).toNat a (ρ 71 8).toNat = a := zu_eq
  refine A0.room ?_ ?_ ⟨rfl, rfl, rfl, rfl, rfl, rfl, rfl, rfl⟩ e72 ?_ ?_ ?_ (fun j hj => q8 j (by omega)) g8 g5 r79 ?_ ⟨rfl, rfl⟩
  · refine (n1.up (i := 1) (x := (ρ 71 8).toNat) (v := a) (by decide) (Or.inl ⟨by decide, by omega, by omega⟩)).fr (fun i hi => ?_)
    by_cases h1 : i = 1
    · subst h1
      rw [e12, zup_fn]
    · rw [hF2 _ (by omega) (by omega) (by omega) (by omega) (by omega) (by omega) (by omega) (by omega), zup_row (by omega)]
  · unfold zCR
    rw [r62, r6 1 (by decide), r6 5 (by decide), r718, r71 11 (by decide), r71 5 (by decide), hr 9 (by decide), hr 10 (by decide), hr 75 (by decide), hr 76 (by decide), hr 77 (by decide), e7, e8, e78, e79, m1, m3, m4, m5, m6]
    exact ⟨rfl, k2, k3, rfl, rfl, k6, k7, k8⟩
  · unfold zRv
    rw [r718, r71 11 (by decide), r71 5 (by decide), hr 75 (by decide), hr 76 (by decide), hr 77 (by decide), e78, e79, m1, m3, m4, m5, m6]
    refine ⟨by omega, n5.2.1, n5.2.2.1, fun t ht => ?_, fun t ht => ?_, fun t ht => ?_, n5.2.2.2.2.2.2⟩
    · by_cases h : t = (ρ 71 8).toNat
      · rw [h, zu_eq]; exact hk
      · rw [zu_ne h]; exact n5.2.2.2.1 t ht
    · by_cases h : t = (ρ 71 8).toNat
      · rw [h, zu_eq]; omega
      · rw [zu_ne h]; exact n5.2.2.2.2.1 t ht
    · by_cases h : t = (ρ 71 8).toNat
      · rw [h, zu_eq]; exact hw.1
      · rw [zu_ne h]; exact n5.2.2.2.2.2.1 t (by omega)
  · obtain ⟨p1, p2, p3, p4, p5, p6, p7, p8, p9⟩ := P0
    refine ⟨fun u h8 => ?_, fun g hg => by rw [q8 _ (by omega)]; exact p2 g hg, fun g hg => by rw [q8 _ (by omega)]; exact p3 g hg, fun u h8 => by rw [q8 _ (by omega)]; exact p4 u h8, fun u h8 h9 => ?_, fun x hx => by rw [q8 _ (by omega)]; exact p6 x hx, fun x hx h9 => by rw [q8 _ (by omega)]; exact p7 x hx h9, fun g hg hne => ?_, fun u g h8 hg h9 => by rw [q8 _ (by omega)] at h9 ⊢; exact p9 u g h8 hg h9⟩
    · by_cases h : u = (ρ 71 8).toNat
      · rw [h, qn, r79n]
        exact Or.inr ⟨ha.1, ha.2, hc.1⟩
      · rw [q8 u h]; exact p1 u h8
    · rw [r718] at h9
      rw [q8 u (by omega), q8 _ (by omega)]
      exact n6.2.2.2.2.1 u h8 (by omega)
    · rw [q8 (30 + g) (by omega)] at hne ⊢
      have hb2 := p3 g hg
      have hb3 := n6.2.2.1 g hg
      have hdg := p8 g hg hne
      rw [q8 _ (by omega), q8 _ (by omega), q8 _ (by omega), q8 _ (by omega)]
      exact hdg
  · have apart : ∀ u : Nat, u < 8 → u ≠ (ρ 71 8).toNat → p u ≠ -1 → a + w ≤ p u ∨ p u + FM 79 u ≤ a := by
      intro u hu hne hpu
      have hun : (u : Int) < ρ 71 8 := by
        rcases Int.lt_or_le (u : Int) (ρ 71 8) with q | q
        · exact q
        · exact absurd (n6.2.2.2.2.1 u hu q).1 hpu
      have hwu1 := n5.2.2.2.2.2.1 u hun
      rw [r79 u hun]
      have no : ∀ k : Nat, (k : Int) < w → ¬ (p u ≤ a + k ∧ a + k < p u + ρ 79 u) := fun k hk q => hc.2 k hk (Or.inr (Or.inr (Or.inl ⟨u, hun, fun q2 => by have : (u : Int) = -1 := q2; omega, hpu, q.1, q.2⟩)))
      have h0 := no 0 (by omega)
      rcases Int.lt_or_le a (p u) with q | q
      · rcases Int.lt_or_le (p u) (a + w) with q2 | q2
        · have := no (p u - a).toNat (by omega)
          omega
        · exact Or.inl q2
      · omega
    intro t u h8 h9 hne
    by_cases e1 : t = (ρ 71 8).toNat
    · have e2 : u ≠ (ρ 71 8).toNat := fun q => hne (e1.trans q.symm)
      rw [e1, qn, q8 u e2, r79n]
      exact fun _ q => apart u h9 e2 q
    · by_cases e2 : u = (ρ 71 8).toNat
      · rw [e2, qn, q8 t e1, r79n]
        exact fun q _ => (apart t h8 e1 q).symm
      · rw [q8 t e1, q8 u e2]
        exact N0 t u h8 h9 hne
  · refine ⟨fun r hr _ => ?_, fun j hj => r71 j ?_⟩
    · simp only [List.mem_cons, List.not_mem_nil, or_false, not_or] at hr
      exact hF2 r (by omega) (by omega) (by omega) (by omega) (by omega) (by omega) (by omega) (by omega)
    · simp only [List.mem_cons, List.not_mem_nil, or_false, not_or] at hj
      exact hj.2.1
theorem a_thing (hd : 6 ≤ d) (A : zAll ρ p F G) (k w a : Int) : zStep d 3 80 [zI k, zI w, zI a] F G := by
  obtain ⟨d, rfl⟩ := zds (show 1 ≤ d by omega)
  have A0 := A
  obtain ⟨⟨n1, n2, n3, n4, n5, n6⟩, a2, a3, a4, a5, a6, a7, a8, a9⟩ := A
  have hn := n5.1
  by_cases c1 : 0 ≤ a ∧ a < 64
  · by_cases c2 : 0 ≤ k ∧ k ≤ 5
    · by_cases c3 : 1 ≤ w ∧ w ≤ 2
      · by_cases c4 : q_can ρ p (-1) w a
        · by_cases c5 : ρ 71 8 < 8
          · have g8 : 0 ≤ ρ 71 8 ∧ ρ 71 8 < 8 := ⟨hn.1, c5⟩
            have g43 : 0 ≤ ρ 71 8 ∧ ρ 71 8 < 43 := by omega
            generalize hFC : zup (zup (zup (zup F 6 2 (ρ 71 8 + 1)) 7 (ρ 71 8).toNat k) 8 (ρ 71 8).toNat w) 12 (ρ 71 8).toNat a = FC
            have hF : ∀ r, r ≠ 6 → r ≠ 7 → r ≠ 8 → r ≠ 12 → FC r = F r := fun r r1 r2 r3 r4 => by rw [← hFC, zup_row r4, zup_row r3, zup_row r2, zup_row r1]
            have n3' : zMR ρ FC := n3.fr (hF 71 (by decide) (by decide) (by decide) (by decide)) (hF 75 (by decide) (by decide) (by decide) (by decide)) (hF 76 (by decide) (by decide) (by decide) (by decide)) (hF 77 (by decide) (by decide) (by decide) (by decide)) (hF 78 (by decide) (by decide) (by decide) (by decide)) (hF 79 (by decide) (by decide) (by decide) (by decide))
            have n4' := (hF 72 (by decide) (by decide) (by decide) (by decide)).trans n4
            refine ⟨ρ 71 8, FC, G, zup (zup (zup (zup FC 78 (ρ 71 8).toNat k) 79 (ρ 71 8).toNat w) 72 (ρ 71 8).toNat a) 71 8 (ρ 71 8 + 1), G, g_C_thing k w a _ ?_, g_M_thing k w a _ ?_, ?_⟩
            · rw [s_isCell (by omega), zbI_some, zp_t c1, if_neg (by decide), s_isKind (by omega), zbI_some, zp_t c2, if_neg (by decide), s_isWide (by omega), zbI_some, zp_t c3, if_neg (by decide), s_canLie (by omega) n1 n2 n5 n6.1 n6.2.1 (by decide) c1.1 c1.2 c3.1 c3.2, zbI_some, zp_t c4, if_neg (by decide), n2.1, if_pos c5, if_pos g8, if_pos g8, if_pos g8, zadd_eq (by omega) (by omega), hFC]
            · rw [m_isCell (by omega), zbI_some, zp_t c1, if_neg (by decide), m_in (by omega), zbI_some, zp_t c2, if_neg (by decide), m_in (by omega), zbI_some, zp_t c3, if_neg (by decide), m_canLie (by omega) n3' n4' n5 n6.1 c1.1 c1.2 c3.1 c3.2, zbI_some, zp_t c4, if_neg (by decide), n3'.2.1, if_neg (by omega), if_pos g8, if_pos g8, zadd_eq (x := 0) (by omega) (by omega), zadd_eq (by omega) (by omega), Int.zero_add, if_pos g43, zsub_eq (by omega) (by omega), show ρ 71 8 + 1 - 1 = ρ 71 8 by omega]
            · rw [← hFC]
              exact ⟨_, _, A0.thing c1 c2 c3 c4 c5⟩
          · refine A0.same (v := -4) (g_C_thing k w a _ ?_) (g_M_thing k w a _ ?_)
            · rw [s_isCell (by omega), zbI_some, zp_t c1, if_neg (by decide), s_isKind (by omega), zbI_some, zp_t c2, if_neg (by decide), s_isWide (by omega), zbI_some, zp_t c3, if_neg (by decide), s_canLie (by omega) n1 n2 n5 n6.1 n6.2.1 (by decide) c1.1 c1.2 c3.1 c3.2, zbI_some, zp_t c4, if_neg (by decide), n2.1, if_neg c5]
            · rw [m_isCell (by omega), zbI_some, zp_t c1, if_neg (by decide), m_in (by omega), zbI_some, zp_t c2, if_neg (by decide), m_in (by omega), zbI_some, zp_t c3, if_neg (by decide), m_canLie (by omega) n3 n4 n5 n6.1 c1.1 c1.2 c3.1 c3.2, zbI_some, zp_t c4, if_neg (by decide), n3.2.1, if_pos (by omega)]
        · refine A0.same (v := -3) (g_C_thing k w a _ ?_) (g_M_thing k w a _ ?_)
          · rw [s_isCell (by omega), zbI_some, zp_t c1, if_neg (by decide), s_isKind (by omega), zbI_some, zp_t c2, if_neg (by decide), s_isWide (by omega), zbI_some, zp_t c3, if_neg (by decide), s_canLie (by omega) n1 n2 n5 n6.1 n6.2.1 (by decide) c1.1 c1.2 c3.1 c3.2, zbI_some, zp_f c4, if_pos (Eq.refl _)]
          · rw [m_isCell (by omega), zbI_some, zp_t c1, if_neg (by decide), m_in (by omega), zbI_some, zp_t c2, if_neg (by decide), m_in (by omega), zbI_some, zp_t c3, if_neg (by decide), m_canLie (by omega) n3 n4 n5 n6.1 c1.1 c1.2 c3.1 c3.2, zbI_some, zp_f c4, if_pos (Eq.refl _)]
      · refine A0.same (v := -2) (g_C_thing k w a _ ?_) (g_M_thing k w a _ ?_)
        · rw [s_isCell (by omega), zbI_some, zp_t c1, if_neg (by decide), s_isKind (by omega), zbI_some, zp_t c2, if_neg (by decide), s_isWide (by omega), zbI_some, zp_f c3, if_pos (Eq.refl _)]
        · rw [m_isCell (by omega), zbI_some, zp_t c1, if_neg (by decide), m_in (by omega), zbI_some, zp_t c2, if_neg (by decide), m_in (by omega), zbI_some, zp_f c3, if_pos (Eq.refl _)]
    · refine A0.same (v := -2) (g_C_thing k w a _ ?_) (g_M_thing k w a _ ?_)
      · rw [s_isCell (by omega), zbI_some, zp_t c1, if_neg (by decide), s_isKind (by omega), zbI_some, zp_f c2, if_pos (Eq.refl _)]
      · rw [m_isCell (by omega), zbI_some, zp_t c1, if_neg (by decide), m_in (by omega), zbI_some, zp_f c2, if_pos (Eq.refl _)]
  · refine A0.same (v := -1) (g_C_thing k w a _ ?_) (g_M_thing k w a _ ?_)
    · rw [s_isCell (by omega), zbI_some, zp_f c1, if_pos rfl]
    · rw [m_isCell (by omega), zbI_some, zp_f c1, if_pos rfl]
theorem a_hand (hd : 6 ≤ d) (A : zAll ρ p F G) (h a : Int) : zStep d 4 81 [zI h, zI a] F G := by
  obtain ⟨d, rfl⟩ := zds (show 1 ≤ d by omega)
  have A0 := A
  obtain ⟨⟨n1, n2, n3, n4, n5, n6⟩, a2, a3, a4, a5, a6, a7, a8, a9⟩ := A
  by_cases c1 : 0 ≤ h ∧ h ≤ 1
  · have hh : h = 0 ∨ h = 1 := by omega
    have g2 : 0 ≤ h ∧ h < 2 := by omega
    have t30 : (30 + h).toNat = 30 + h.toNat := by omega
    have t28 : (28 + h).toNat = 28 + h.toNat := by omega
    have g30 : 0 ≤ 30 + h ∧ 30 + h < 43 := by omega
    have g28 : 0 ≤ 28 + h ∧ 28 + h < 43 := by omega
    have z30 : zadd 30 h = 30 + h := zadd_eq (by omega) (by omega)
    have z28 : zadd 28 h = 28 + h := zadd_eq (by omega) (by omega)
    have f16 : F 16 h.toNat = p (30 + h.toNat) := (n1.hn hh).2.1
    have f15 : F 15 h.toNat = p (28 + h.toNat) := (n1.hn hh).1
    have hb := n6.2.2.1 h.toNat (by omega)
    by_cases c2 : 0 ≤ a ∧ a < 64
    · by_cases c3 : p (30 + h.toNat) = -1
      · have tk : ∀ c : Int, q_tk ρ p h (fun t => (0 : Int).toNat.testBit t = true) c ↔ q_tk ρ p h (q_but (-1)) c := by
          intro c
          unfold q_tk
          have : ∀ t : Nat, (¬ (0 : Int).toNat.testBit t = true) ↔ ¬ q_but (-1) t := fun t => ⟨fun _ q => by have : (t : Int) = -1 := q; omega, fun _ q => by simp at q⟩
          simp only [this]
        by_cases c4 : q_tk ρ p h (q_but (-1)) a
        · refine A0.same (v := -3) (g_C_hand h a _ ?_) (g_M_hand h a _ ?_)
          · rw [s_isHand (by omega), zbI_some, zp_t c1, if_neg (by decide), s_isCell (by omega), zbI_some, zp_t c2, if_neg (by decide), if_pos g2, f16, if_pos (by omega), s_takenFor_11 (by omega) n1 n2 n5 n6.1 n6.2.1 (by decide), zbL_some, s_has (by omega) c2.1 c2.2, zbI_some, zp_iff (zset_geti c2.1 c2.2), zp_t ((tk a).mpr c4), if_neg (by decide)]
          · rw [m_isHand (by omega), zbI_some, zp_t c1, if_neg (by decide), m_isCell (by omega), zbI_some, zp_t c2, if_neg (by decide), z30, if_pos g30, n4, t30, if_pos c3, m_isFree (by omega) n3 n4 n5 n6.1 hh c2.1 c2.2, zbI_some, zp_f (fun q => q c4), if_pos (Eq.refl _)]
        · refine ⟨p (28 + h.toNat), zup F 15 h.toNat a, G, zup (zup F 15 h.toNat a) 72 (28 + h.toNat) a, G, g_C_hand h a _ ?_, g_M_hand h a _ ?_, ρ, zu p (28 + h.toNat) a, ?_⟩
          · rw [s_isHand (by omega), zbI_some, zp_t c1, if_neg (by decide), s_isCell (by omega), zbI_some, zp_t c2, if_neg (by decide), if_pos g2, f16, if_pos (by omega), s_takenFor_11 (by omega) n1 n2 n5 n6.1 n6.2.1 (by decide), zbL_some, s_has (by omega) c2.1 c2.2, zbI_some, zp_iff (zset_geti c2.1 c2.2), zp_f (fun q => c4 ((tk a).mp q)), if_pos (Eq.refl _), if_pos g2, if_pos g2, f15]
          · have hF : ∀ r, r ≠ 15 → zup F 15 h.toNat a r = F r := fun r r1 => zup_row r1
            have n3' : zMR ρ (zup F 15 h.toNat a) := n3.fr (hF 71 (by decide)) (hF 75 (by decide)) (hF 76 (by decide)) (hF 77 (by decide)) (hF 78 (by decide)) (hF 79 (by decide))
            have n4' := (hF 72 (by decide)).trans n4
            rw [m_isHand (by omega), zbI_some, zp_t c1, if_neg (by decide), m_isCell (by omega), zbI_some, zp_t c2, if_neg (by decide), z30, if_pos g30, n4', t30, if_pos c3, m_isFree (by omega) n3' n4' n5 n6.1 hh c2.1 c2.2, zbI_some, zp_t c4, if_neg (by decide), z28, if_pos g28, if_pos g28, n4', t28]
          · have q8 : ∀ j, j ≠ 28 + h.toNat → zu p (28 + h.toNat) a j = p j := fun j hj => zu_ne hj
            refine A0.act ?_ (by rw [zup_fn, zup_row (by decide), n4]) ?_ (fun t u ht hu => by rw [q8 t (by omega), q8 u (by omega)]; exact a2 t u ht hu) (a3.keep (fun j hj => q8 j (by omega))) (fun r _ r2 r3 _ _ => by rw [zup_row r3, zup_row (by omega)]) (fun r _ _ => rfl)
            · refine (n1.up (i := 4) (x := h.toNat) (z := 28 + h.toNat) (v := a) (by decide) (Or.inr ⟨by decide, by omega, by omega⟩)).fr (fun i hi => ?_)
              rw [zup_row (by omega)]
            · obtain ⟨p1, p2, p3, p4, p5, p6, p7, p8, p9⟩ := n6
              refine ⟨fun u h8 => by rw [q8 u (by omega)]; exact p1 u h8, fun g hg => ?_, fun g hg => by rw [q8 _ (by omega)]; exact p3 g hg, fun u h8 => by rw [q8 _ (by omega)]; exact p4 u h8, fun u h8 h9 => by rw [q8 _ (by omega), q8 _ (by omega)]; exact p5 u h8 h9, fun x hx => by rw [q8 _ (by omega)]; exact p6 x hx, fun x hx h9 => by rw [q8 _ (by omega)]; exact p7 x hx h9, fun g hg hne => ?_, fun u g h8 hg h9 => by rw [q8 _ (by omega)] at h9 ⊢; exact p9 u g h8 hg h9⟩
              · by_cases hgh : g = h.toNat
                · rw [hgh, zu_eq]; omega
                · rw [q8 _ (by omega)]; exact p2 g hg
              · rw [q8 (30 + g) (by omega)] at hne ⊢
                have hgh : g ≠ h.toNat := fun q => hne (by rw [q]; exact c3)
                have hb2 := p3 g hg
                have hn8 := n5.1
                have hdg := p8 g hg hne
                rw [q8 _ (by omega), q8 _ (by omega), q8 _ (by omega), q8 _ (by omega)]
                exact hdg
      · refine A0.same (v := -3) (g_C_hand h a _ ?_) (g_M_hand h a _ ?_)
        · rw [s_isHand (by omega), zbI_some, zp_t c1, if_neg (by decide), s_isCell (by omega), zbI_some, zp_t c2, if_neg (by decide), if_pos g2, f16, if_neg (by omega)]
        · rw [m_isHand (by omega), zbI_some, zp_t c1, if_neg (by decide), m_isCell (by omega), zbI_some, zp_t c2, if_neg (by decide), z30, if_pos g30, n4, t30, if_neg c3]
    · refine A0.same (v := -5) (g_C_hand h a _ ?_) (g_M_hand h a _ ?_)
      · rw [s_isHand (by omega), zbI_some, zp_t c1, if_neg (by decide), s_isCell (by omega), zbI_some, zp_f c2, if_pos (Eq.refl _)]
      · rw [m_isHand (by omega), zbI_some, zp_t c1, if_neg (by decide), m_isCell (by omega), zbI_some, zp_f c2, if_pos (Eq.refl _)]
  · refine A0.same (v := -5) (g_C_hand h a _ ?_) (g_M_hand h a _ ?_)
    · rw [s_isHand (by omega), zbI_some, zp_f c1, if_pos (Eq.refl _)]
    · rw [m_isHand (by omega), zbI_some, zp_f c1, if_pos (Eq.refl _)]
end
