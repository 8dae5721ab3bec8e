/-! plans told, what was learnt, and what may be -/
section
variable {d : Nat} {F ρ ρ' : zM} {G : zG} {p p' : Nat → Int}
theorem a_learnt (hd : 1 ≤ d) (A : zAll ρ p F G) (w : Int) : zStep d 30 125 [zI w] F G := by
  obtain ⟨d, rfl⟩ := zds (show 1 ≤ d by omega)
  have A0 := A
  obtain ⟨nn, a2, a3, a4, a5, a6, a7, a8, a9⟩ := A
  refine A0.same (v := if w = 0 then F 71 24 else if w = 1 then F 71 31 else if w = 2 then F 71 32 else -2) (g_C_learnt w _ ?_) (g_M_learnt w _ ?_)
  · rw [a7.1, a7.2.2.1, a6.2.2.1]
    repeat' split
    all_goals rfl
  · repeat' split
    all_goals rfl
theorem a_planned (hd : 2 ≤ d) (A : zAll ρ p F G) (i w : Int) : zStep d 29 124 [zI i, zI w] F G := by
  obtain ⟨d, rfl⟩ := zds (show 1 ≤ d by omega)
  have A0 := A
  obtain ⟨nn, a2, a3, a4, a5, ⟨b1, b2, b3, b4, b5, b6, b7⟩, a7, a8, a9⟩ := A
  by_cases c1 : w = 3
  · by_cases c2 : F 71 23 = -1
    · refine A0.same (v := -3) (g_C_planned i w _ ?_) (g_M_planned i w _ ?_)
      · rw [if_pos c1, b1, if_pos c2, if_pos (by decide)]
      · rw [if_pos c1, if_pos c2]
    · refine A0.same (v := F 71 23) (g_C_planned i w _ ?_) (g_M_planned i w _ ?_)
      · rw [if_pos c1, b1, if_neg c2, if_neg (by omega), b2 c2]
      · rw [if_pos c1, if_neg c2]
  · have h11 : F 60 11 ≤ F 71 19 ∧ (F 60 11 ≠ F 71 19 → F 71 19 = 0) := by
      rw [b1]
      split
      · rename_i q
        have := b5 q
        omega
      · omega
    by_cases c2 : 0 ≤ i ∧ i < F 71 19
    · obtain ⟨j, rfl⟩ := Int.eq_ofNat_of_zero_le c2.1
      have u := b7 j c2.2
      have g2 : 0 ≤ (j : Int) ∧ (j : Int) < 2 := by omega
      have e11 : F 60 11 = F 71 19 := Classical.byContradiction fun q => by
        have := h11.2 q
        omega
      by_cases c3 : 0 ≤ w ∧ w ≤ 2
      · obtain ⟨k, rfl⟩ := Int.eq_ofNat_of_zero_le c3.1
        have z : zadd (zmul (j : Int) 3) k = ((3 * j + k : Nat) : Int) := by rw [zmul_eq (by omega) (by omega), zadd_eq (by omega) (by omega)]; omega
        have g6 : 0 ≤ ((3 * j + k : Nat) : Int) ∧ ((3 * j + k : Nat) : Int) < 6 := by omega
        have B : zex d 183 [zR 60, zI j, zI k] (F, G, zsg) = some (some (zI (F 62 (3 * j + k))), F, G, zsg) → zStep (d + 1) 29 124 [zI j, zI k] F G := by
          intro B
          refine A0.same (v := F 62 (3 * j + k)) (g_C_planned j k _ ?_) (g_M_planned j k _ ?_)
          · rw [if_neg c1, if_neg (by omega), if_neg (by omega), if_neg (by omega), e11, if_pos c2.2, B, zbI_some]
          · rw [if_neg c1, zsub_eq (by omega) (by omega), m_in (by omega), zbI_some, zp_t (by omega), if_neg (by decide), if_pos g2, if_pos g2, if_pos g2, Int.toNat_natCast]
            have : k = 0 ∨ k = 1 ∨ k = 2 := by omega
            rcases this with rfl | rfl | rfl
            · rw [if_pos (by decide), Nat.add_zero, u.1]
            · rw [if_neg (by decide), if_pos (by decide), u.2.1]
            · rw [if_neg (by decide), if_neg (by decide), if_pos (by decide), u.2.2]
        apply B
        obtain ⟨d, rfl⟩ := zds (show 1 ≤ d by omega)
        refine g_Planner_bestTold _ _ _ ?_
        rw [z, if_pos g6, Int.toNat_natCast]
      · refine A0.same (v := -7) (g_C_planned j w _ ?_) (g_M_planned j w _ ?_)
        · rw [if_neg c1]
          by_cases q : w < 0
          · rw [if_pos q]
          · rw [if_neg q, if_pos (by omega)]
        · rw [if_neg c1, zsub_eq (by omega) (by omega), m_in (by omega), zbI_some, zp_t (by omega), if_neg (by decide), if_neg (by omega), if_neg (by omega), if_neg (by omega)]
    · refine A0.same (v := -7) (g_C_planned i w _ ?_) (g_M_planned i w _ ?_)
      · rw [if_neg c1]
        by_cases q : w < 0
        · rw [if_pos q]
        · rw [if_neg q]
          by_cases q2 : 3 < w
          · rw [if_pos q2]
          · rw [if_neg q2]
            by_cases q3 : i < 0
            · rw [if_pos q3]
            · rw [if_neg q3, if_neg (by omega)]
      · rw [if_neg c1, zsub_eq (by omega) (by omega), m_in (by omega), zbI_some, zp_f (by omega), if_pos rfl]
/-- one case more -/
theorem zAll.case (A : zAll ρ p F G) {t c s : Int} (ht : 0 ≤ t ∧ t < ρ 71 8) (hc : 0 ≤ c ∧ c < 64) (hs : 1 ≤ s ∧ s ≤ 99) (hn : F 71 33 < 6) (h5 : 0 < F 71 33 → F 71 34 = t) : zAll ρ p (zup (zup (zup (zup (zup (zup (zup (zup F 64 5 t) 65 (F 71 33).toNat c) 66 (F 71 33).toNat s) 64 4 (F 71 33 + 1)) 71 34 t) 94 (F 71 33).toNat c) 95 (F 71 33).toNat s) 71 33 (F 71 33 + 1)) G := by
  obtain ⟨nn, a2, a3, a4, a5, a6, a7, ⟨c1, c2, c3, c4, c5, c6⟩, a9⟩ := A
  generalize hFM : zup (zup (zup (zup (zup (zup (zup (zup F 64 5 t) 65 (F 71 33).toNat c) 66 (F 71 33).toNat s) 64 4 (F 71 33 + 1)) 71 34 t) 94 (F 71 33).toNat c) 95 (F 71 33).toNat s) 71 33 (F 71 33 + 1) = FM
  have e644 : FM 64 4 = F 71 33 + 1 := by rw [← hFM, zup_row (by decide), zup_row (by decide), zup_row (by decide), zup_row (by decide), zup_eq]
  have e645 : FM 64 5 = t := by rw [← hFM, zup_row (by decide), zup_row (by decide), zup_row (by decide), zup_row (by decide), zup_col (by decide), zup_row (by decide), zup_row (by decide), zup_eq]
  have e65 : FM 65 = zu (F 65) (F 71 33).toNat c := by rw [← hFM, zup_row (by decide), zup_row (by decide), zup_row (by decide), zup_row (by decide), zup_row (by decide), zup_row (by decide), zup_fn, zup_row (by decide)]
  have e66 : FM 66 = zu (F 66) (F 71 33).toNat s := by rw [← hFM, zup_row (by decide), zup_row (by decide), zup_row (by decide), zup_row (by decide), zup_row (by decide), zup_fn, zup_row (by decide), zup_row (by decide)]
  have e94 : FM 94 = zu (F 94) (F 71 33).toNat c := by rw [← hFM, zup_row (by decide), zup_row (by decide), zup_fn, zup_row (by decide), zup_row (by decide), zup_row (by decide), zup_row (by decide), zup_row (by decide)]
  have e95 : FM 95 = zu (F 95) (F 71 33).toNat s := by rw [← hFM, zup_row (by decide), zup_fn, zup_row (by decide), zup_row (by decide), zup_row (by decide), zup_row (by decide), zup_row (by decide), zup_row (by decide)]
  have e33 : FM 71 33 = F 71 33 + 1 := by rw [← hFM, zup_eq]
  have e34 : FM 71 34 = t := by rw [← hFM, zup_col (by decide), zup_row (by decide), zup_row (by decide), zup_eq]
  have h : zch [64, 65, 66, 94, 95] [33, 34] F FM := by
    refine ⟨fun r hr h71 => ?_, fun j hj => ?_⟩
    · simp only [List.mem_cons, List.not_mem_nil, or_false, not_or] at hr
      rw [← hFM, zup_row (by omega), zup_row (by omega), zup_row (by omega), zup_row (by omega), zup_row (by omega), zup_row (by omega), zup_row (by omega), zup_row (by omega)]
    · simp only [List.mem_cons, List.not_mem_nil, or_false, not_or] at hj
      rw [← hFM, zup_col hj.1, zup_row (by decide), zup_row (by decide), zup_col hj.2, zup_row (by decide), zup_row (by decide), zup_row (by decide), zup_row (by decide)]
  refine ⟨nn.ch h ⟨rfl, trivial⟩, a2, a3.ch h, a4.ch h, a5.ch h, a6.ch h, a7.ch h ⟨rfl, rfl⟩, ⟨by rw [e644, e33], by rw [e33]; omega, fun _ => by rw [e645, e34]; exact ⟨rfl, ht.1, ht.2⟩, by rw [e65, e94, c4], by rw [e66, e95, c5], fun i hi => ?_⟩, a9.ch h⟩
  rw [e33] at hi
  rw [e94, e95]
  by_cases q : i = (F 71 33).toNat
  · rw [q, zu_eq, zu_eq]
    exact ⟨hc, hs⟩
  · rw [zu_ne q, zu_ne q]
    exact c6 i (by omega)
theorem a_maybe (hd : 3 ≤ d) (A : zAll ρ p F G) (t c s : Int) : zStep d 31 126 [zI t, zI c, zI s] F G := by
  obtain ⟨d, rfl⟩ := zds (show 1 ≤ d by omega)
  have A0 := A
  obtain ⟨⟨n1, n2, n3, n4, n5, n6⟩, a2, a3, a4, a5, a6, a7, ⟨k1, k2, k3, k4, k5, k6⟩, a9⟩ := A
  by_cases c1 : 0 ≤ t ∧ t < ρ 71 8
  · by_cases c2 : 0 ≤ c ∧ c < 64
    · by_cases c3 : 1 ≤ s ∧ s ≤ 99
      · have C : ∀ r : zQ, ((if 0 < F 71 33 ∧ F 64 5 ≠ t then some (some (zI (-3)), F, G, zsg) else if F 71 33 < 6 then zbI (zex d 164 [zR 64, zI t, zI c, zI s] (F, G, zsg)) (fun v4 F4 G4 => some (some (zI v4), F4, G4, zsg)) else some (some (zI (-4)), F, G, zsg)) = some r) → zex (d + 1) 31 [zR 5, zI t, zI c, zI s] (F, G, zsg) = some r := by
          intro r hr
          refine g_C_maybe t c s _ ?_
          rw [s_isThing (by omega) n2, zbI_some, zp_t c1, if_neg (by decide), s_isCell (by omega), zbI_some, zp_t c2, if_neg (by decide), if_neg (by omega), if_neg (by omega), k1]
          by_cases q1 : 0 < F 71 33
          · rw [if_pos q1]
            by_cases q2 : F 64 5 = t
            · rw [if_pos q2]
              rw [if_neg (fun q => q.2 q2)] at hr
              exact hr
            · rw [if_neg q2]
              rw [if_pos ⟨q1, q2⟩] at hr
              exact hr
          · rw [if_neg q1]
            rw [if_neg (fun q => q1 q.1)] at hr
            exact hr
        by_cases q1 : 0 < F 71 33 ∧ F 64 5 ≠ t
        · have q2 : ¬ F 71 34 = t := fun q => q1.2 ((k3 q1.1).1.trans q)
          refine A0.same (v := -3) (C _ (by rw [if_pos q1])) (g_M_maybe t c s _ ?_)
          rw [m_isThing (by omega) n3 n5, zbI_some, zp_t c1, if_neg (by decide), m_isCell (by omega), zbI_some, zp_t c2, if_neg (by decide), m_in (by omega), zbI_some, zp_t c3, if_neg (by decide), if_pos q1.1, if_neg q2]
        · have q3 : 0 < F 71 33 → F 71 34 = t := fun h => Classical.byContradiction fun q => q1 ⟨h, fun e => q ((k3 h).1.symm.trans e)⟩
          by_cases q2 : F 71 33 < 6
          · have g6 : 0 ≤ F 71 33 ∧ F 71 33 < 6 := ⟨k2.1, q2⟩
            have W : zex d 164 [zR 64, zI t, zI c, zI s] (F, G, zsg) = some (some (zI (F 71 33)), zup (zup (zup (zup F 64 5 t) 65 (F 71 33).toNat c) 66 (F 71 33).toNat s) 64 4 (F 71 33 + 1), G, zsg) := by
              obtain ⟨d, rfl⟩ := zds (show 1 ≤ d by omega)
              refine g_Chances_add _ _ _ _ ?_
              rw [k1, if_pos g6, if_pos g6, zadd_eq (by omega) (by omega)]
            have A1 := A0.case c1 c2 c3 q2 q3
            generalize hFC : zup (zup (zup (zup F 64 5 t) 65 (F 71 33).toNat c) 66 (F 71 33).toNat s) 64 4 (F 71 33 + 1) = FC at W A1
            have hF : ∀ r, r ≠ 64 → r ≠ 65 → r ≠ 66 → FC r = F r := fun r r1 r2 r3 => by rw [← hFC, zup_row r1, zup_row r3, zup_row r2, zup_row r1]
            have n3' : zMR ρ FC := n3.fr (hF 71 (by decide) (by decide) (by decide)) (hF 75 (by decide) (by decide) (by decide)) (hF 76 (by decide) (by decide) (by decide)) (hF 77 (by decide) (by decide) (by decide)) (hF 78 (by decide) (by decide) (by decide)) (hF 79 (by decide) (by decide) (by decide))
            have r71 := hF 71 (by decide) (by decide) (by decide)
            refine ⟨F 71 33, FC, G, _, G, C _ (by rw [if_neg q1, if_pos q2, W, zbI_some]), g_M_maybe t c s _ ?_, ρ, p, A1⟩
            rw [m_isThing (by omega) n3' n5, zbI_some, zp_t c1, if_neg (by decide), m_isCell (by omega), zbI_some, zp_t c2, if_neg (by decide), m_in (by omega), zbI_some, zp_t c3, if_neg (by decide), r71, zadd_eq (by omega) (by omega), zsub_eq (by omega) (by omega), show F 71 33 + 1 - 1 = F 71 33 by omega]
            by_cases q4 : 0 < F 71 33
            · rw [if_pos q4, if_pos (q3 q4), if_neg (by omega), if_pos g6, if_pos g6]
            · rw [if_neg q4, if_neg (by omega), if_pos g6, if_pos g6]
          · refine A0.same (v := -4) (C _ (by rw [if_neg q1, if_neg q2])) (g_M_maybe t c s _ ?_)
            rw [m_isThing (by omega) n3 n5, zbI_some, zp_t c1, if_neg (by decide), m_isCell (by omega), zbI_some, zp_t c2, if_neg (by decide), m_in (by omega), zbI_some, zp_t c3, if_neg (by decide), if_pos (by omega), if_pos (q3 (by omega)), if_pos (by omega)]
      · refine A0.same (v := -2) (g_C_maybe t c s _ ?_) (g_M_maybe t c s _ ?_)
        · rw [s_isThing (by omega) n2, zbI_some, zp_t c1, if_neg (by decide), s_isCell (by omega), zbI_some, zp_t c2, if_neg (by decide)]
          by_cases q : s < 1
          · rw [if_pos q]
          · rw [if_neg q, if_pos (by omega)]
        · rw [m_isThing (by omega) n3 n5, zbI_some, zp_t c1, if_neg (by decide), m_isCell (by omega), zbI_some, zp_t c2, if_neg (by decide), m_in (by omega), zbI_some, zp_f c3, if_pos rfl]
    · refine A0.same (v := -1) (g_C_maybe t c s _ ?_) (g_M_maybe t c s _ ?_)
      · rw [s_isThing (by omega) n2, zbI_some, zp_t c1, if_neg (by decide), s_isCell (by omega), zbI_some, zp_f c2, if_pos rfl]
      · rw [m_isThing (by omega) n3 n5, zbI_some, zp_t c1, if_neg (by decide), m_isCell (by omega), zbI_some, zp_f c2, if_pos rfl]
  · refine A0.same (v := -1) (g_C_maybe t c s _ ?_) (g_M_maybe t c s _ ?_)
    · rw [s_isThing (by omega) n2, zbI_some, zp_f c1, if_pos rfl]
    · rw [m_isThing (by omega) n3 n5, zbI_some, zp_f c1, if_pos rfl]
end
