/-! what the cases come to -/
section
variable {d : Nat} {F ρ : zM} {G : zG} {p : Nat → Int}
theorem s_above (hd : 3 ≤ d) {a b : Nat} (ha : a ≤ b) (hb : b ≤ 600) (h10 : F 64 10 = a) (h11 : F 64 11 = b) : zex d 167 [zR 64] (F, G, zsg) = some (some (zI (if a = 0 then 0 else ((a / Nat.gcd b a : Nat) : Int))), F, G, zsg) ∧ zex d 168 [zR 64] (F, G, zsg) = some (some (zI (if a = 0 then 1 else ((b / Nat.gcd b a : Nat) : Int))), F, G, zsg) := by
  obtain ⟨d, rfl⟩ := zds (show 1 ≤ d by omega)
  obtain ⟨e, rfl⟩ := zds (show 1 ≤ d by omega)
  by_cases c : a = 0
  · rw [if_pos c, if_pos c]
    constructor
    · refine g_Chances_above _ ?_
      rw [h10, if_pos (by omega)]
    · refine g_Chances_below _ ?_
      rw [h10, if_pos (by omega)]
  · have hg : 0 < Nat.gcd b a := Nat.gcd_pos_of_pos_right _ (by omega)
    have hg2 : Nat.gcd b a ≤ a := Nat.gcd_le_right _ (by omega)
    have C : zex (e + 1) 169 [zR 64] (F, G, zsg) = some (some (zI (Nat.gcd b a : Nat)), F, G, zsg) := by
      refine g_Chances_commonPart _ ?_
      rw [h10, h11]
      have := s_common (d := e) (F := F) (G := G) (by omega) 10 0 b a (by omega) (by omega) (by omega) (by omega)
      rw [if_neg (by omega)] at this
      exact this
    rw [if_neg c, if_neg c]
    constructor
    · refine g_Chances_above _ ?_
      rw [h10, if_neg (by omega), C, zbI_some, if_neg (by omega), zdiv_eq (by omega) (by omega) (by omega) (by omega), Int.natCast_ediv]
    · refine g_Chances_below _ ?_
      rw [h10, if_neg (by omega), C, zbI_some, if_neg (by omega), h11, zdiv_eq (by omega) (by omega) (by omega) (by omega), Int.natCast_ediv]
theorem a_cases (hd : 12 ≤ d) (A : zAll ρ p F G) (h q w : Int) : zStep d 33 128 [zI h, zI q, zI w] F G := by
  obtain ⟨d, rfl⟩ := zds (show 1 ≤ d by omega)
  have A0 := A
  obtain ⟨⟨n1, n2, n3, n4, n5, n6⟩, a2, a3, a4, a5, a6, a7, a8, a9⟩ := A
  have t4 := a5.2.2.2.1
  by_cases c1 : 0 ≤ h ∧ h ≤ 1
  · have hh : h = 0 ∨ h = 1 := by omega
    by_cases c2 : 0 ≤ q ∧ q < F 71 12
    · obtain ⟨k, rfl⟩ := Int.eq_ofNat_of_zero_le c2.1
      by_cases c3 : 0 ≤ w ∧ w ≤ 3
      · obtain ⟨m4, m7, a, b, F1, G1, b0, b1, b2, b3, b4, b5, b6, F2, F3, b7, b8, b9⟩ := A0.weighed (d := d) (w := w) (by omega) hh c2.2
        obtain ⟨s1, s2⟩ := s_above (d := d) (F := F1) (G := G1) (by omega) b0.1 b0.2 b4 b5
        refine ⟨if w = 0 then m4 else if w = 1 then (if a = 0 then 0 else ((a / Nat.gcd b a : Nat) : Int)) else if w = 2 then (if a = 0 then 1 else ((b / Nat.gcd b a : Nat) : Int)) else m7, F1, G1, F3, G1, g_C_cases h k w _ ?_, g_M_cases h k w _ ?_, ρ, p, b8⟩
        · rw [s_isHand (by omega), zbI_some, zp_t c1, if_neg (by decide), s_isProgram (by omega) a5, zbI_some, zp_t c2, if_neg (by decide), if_neg (by omega), if_neg (by omega), b1, zbV_some, s1, zbI_some, s2, zbI_some, b3, b6]
          repeat' split
          all_goals first
            | rfl
            | (exfalso; omega)
        · rw [m_isHand (by omega), zbI_some, zp_t c1, if_neg (by decide), m_isProgram (by omega) (by rw [b2]; exact t4), zbI_some, b2, zp_t c2, if_neg (by decide), m_in (by omega), zbI_some, zp_t c3, if_neg (by decide), b7, zbV_some]
          refine b9 _ (m_gcd b a (by omega) (by omega) (g_M_cases_219 h k w m4 a b m7 _ _ _ ?_))
          rw [if_pos rfl]
          by_cases w1 : w = 1
          · subst w1
            rw [if_pos rfl, if_neg (show ¬ (1 : Int) = 0 by decide)]
            by_cases hb : b = 0
            · rw [if_pos (show (b : Int) = 0 by omega), if_pos rfl, if_pos (show a = 0 by omega), show zsub 1 1 = 0 by decide]
            · have hg : 0 < Nat.gcd b a := Nat.gcd_pos_of_pos_left _ (by omega)
              have hg2 : Nat.gcd b a ≤ b := Nat.gcd_le_left _ (by omega)
              rw [if_neg (show ¬ (b : Int) = 0 by omega), if_pos rfl, if_neg (show ¬ ((Nat.gcd b a : Nat) : Int) = 0 by omega), zdiv_eq (by omega) (by omega) (by omega) (by omega), if_pos rfl]
              by_cases ha : a = 0
              · rw [if_pos ha, ha]
                simp
              · rw [if_neg ha, Int.natCast_ediv]
          · rw [if_neg w1]
            by_cases w2 : w = 2
            · subst w2
              rw [if_pos rfl, if_neg (show ¬ (2 : Int) = 0 by decide)]
              by_cases hb : b = 0
              · rw [if_pos (show (b : Int) = 0 by omega), if_neg (show ¬ (2 : Int) = 1 by decide), if_pos rfl, if_pos (show a = 0 by omega), show zsub 2 1 = 1 by decide]
              · have hg : 0 < Nat.gcd b a := Nat.gcd_pos_of_pos_left _ (by omega)
                have hg2 : Nat.gcd b a ≤ b := Nat.gcd_le_left _ (by omega)
                rw [if_neg (show ¬ (b : Int) = 0 by omega), if_neg (show ¬ (2 : Int) = 1 by decide), if_neg (show ¬ ((Nat.gcd b a : Nat) : Int) = 0 by omega), zdiv_eq (by omega) (by omega) (by omega) (by omega), if_neg (show ¬ (2 : Int) = 1 by decide), if_pos rfl]
                by_cases ha : a = 0
                · rw [if_pos ha, ha, Nat.gcd_zero_right, Int.ediv_self (by omega)]
                · rw [if_neg ha, Int.natCast_ediv]
            · rw [if_neg w2, if_neg w1, if_neg w2]
              by_cases w0 : w = 0
              · rw [if_pos w0, if_pos w0]
              · rw [if_neg w0, if_neg w0]
      · refine A0.same (v := -2) (g_C_cases h k w _ ?_) (g_M_cases h k w _ ?_)
        · rw [s_isHand (by omega), zbI_some, zp_t c1, if_neg (by decide), s_isProgram (by omega) a5, zbI_some, zp_t c2, if_neg (by decide)]
          by_cases c4 : w < 0
          · rw [if_pos c4]
          · rw [if_neg c4, if_pos (by omega)]
        · rw [m_isHand (by omega), zbI_some, zp_t c1, if_neg (by decide), m_isProgram (by omega) t4, zbI_some, zp_t c2, if_neg (by decide), m_in (by omega), zbI_some, zp_f c3, if_pos rfl]
    · refine A0.same (v := -5) (g_C_cases h q w _ ?_) (g_M_cases h q w _ ?_)
      · rw [s_isHand (by omega), zbI_some, zp_t c1, if_neg (by decide), s_isProgram (by omega) a5, zbI_some, zp_f c2, if_pos rfl]
      · rw [m_isHand (by omega), zbI_some, zp_t c1, if_neg (by decide), m_isProgram (by omega) t4, zbI_some, zp_f c2, if_pos rfl]
  · refine A0.same (v := -5) (g_C_cases h q w _ ?_) (g_M_cases h q w _ ?_)
    · rw [s_isHand (by omega), zbI_some, zp_f c1, if_pos rfl]
    · rw [m_isHand (by omega), zbI_some, zp_f c1, if_pos rfl]
end
