/-! what a program says -/
section
variable {d : Nat} {F ρ ρ' : zM} {G : zG} {p p' : Nat → Int}
theorem s_isProgram (hd : 1 ≤ d) (hT : zTp F) {q : Int} : zex d 45 [zR 5, zI q] (F, G, zsg) = some (some (zI (zp (0 ≤ q ∧ q < F 71 12))), F, G, zsg) := by
  obtain ⟨d, rfl⟩ := zds hd
  refine g_C_isProgram q _ ?_
  rw [hT.2.2.1]
  by_cases c : q < 0
  · rw [if_pos c, zp_f (by omega)]
  · rw [if_neg c]
    by_cases c2 : q < F 71 12
    · rw [if_pos c2, zp_t (by omega)]
    · rw [if_neg c2, zp_f (by omega)]
theorem m_isProgram (hd : 2 ≤ d) (h : 0 ≤ F 71 12 ∧ F 71 12 ≤ 6) {q : Int} : zex d 103 [zR 71, zI q] (F, G, zsg) = some (some (zI (zp (0 ≤ q ∧ q < F 71 12))), F, G, zsg) := by
  obtain ⟨d, rfl⟩ := zds (show 1 ≤ d by omega)
  refine g_M_isProgram q _ ?_
  rw [zsub_eq (by omega) (by omega), m_in (by omega), zbI_some, if_pos (zp_01 _), zp_iff (show (0 ≤ q ∧ q ≤ F 71 12 - 1) ↔ (0 ≤ q ∧ q < F 71 12) by omega)]
theorem a_actTold (hd : 3 ≤ d) (A : zAll ρ p F G) (q i w : Int) : zStep d 22 104 [zI q, zI i, zI w] F G := by
  obtain ⟨d, rfl⟩ := zds (show 1 ≤ d by omega)
  have A0 := A
  obtain ⟨n, a2, a3, a4, a5, a6, a7, a8, a9⟩ := A
  have T := a5
  obtain ⟨t1, t2, t3, t4, t5, t6, t7, t8⟩ := a5
  by_cases c1 : 0 ≤ q ∧ q < F 71 12
  · have g6 : 0 ≤ q ∧ q < 6 := by omega
    obtain ⟨k, rfl⟩ := Int.eq_ofNat_of_zero_le c1.1
    have u1 := t8 k c1.2
    by_cases c3 : w = 3
    · refine A0.same (v := F 80 k) (g_C_actTold k i w _ ?_) (g_M_actTold k i w _ ?_)
      · rw [s_isProgram (by omega) T, zbI_some, zp_t c1, if_neg (by decide), if_pos c3, if_pos g6, t7, Int.toNat_natCast]
      · rw [m_isProgram (by omega) t4, zbI_some, zp_t c1, if_neg (by decide), if_pos c3, if_pos g6, Int.toNat_natCast]
    · by_cases c4 : 0 ≤ i ∧ i < F 80 k
      · obtain ⟨l, rfl⟩ := Int.eq_ofNat_of_zero_le c4.1
        have u2 := u1.2 l c4.2
        have g72 : 0 ≤ ((12 * k + l : Nat) : Int) ∧ ((12 * k + l : Nat) : Int) < 72 := by omega
        have hx : zadd (zmul 12 (k : Int)) l = ((12 * k + l : Nat) : Int) := by rw [zmul_eq (by omega) (by omega), zadd_eq (by omega) (by omega)]; omega
        refine A0.same (v := if w = 0 then F 81 (12 * k + l) else if w = 1 then F 82 (12 * k + l) else if w = 2 then F 83 (12 * k + l) else -7) (g_C_actTold k l w _ ?_) (g_M_actTold k l w _ ?_)
        · rw [s_isProgram (by omega) T, zbI_some, zp_t c1, if_neg (by decide), if_neg c3, if_neg (by omega), if_pos g6, t7, Int.toNat_natCast, if_pos c4.2, s_placeOf (by omega) (by omega) (by omega)]
          repeat' split
          all_goals first
            | rfl
            | (rw [zbI_some, if_pos g72, Int.toNat_natCast]
               first
                 | rw [u2.1]
                 | rw [u2.2.1]
                 | rw [u2.2.2.1])
        · rw [m_isProgram (by omega) t4, zbI_some, zp_t c1, if_neg (by decide), if_neg c3, if_pos g6, Int.toNat_natCast, zsub_eq (by omega) (by omega), m_in (by omega), zbI_some, zp_t (by omega), if_neg (by decide), hx, if_pos g72, Int.toNat_natCast]
          repeat' split
          all_goals rfl
      · refine A0.same (v := -7) (g_C_actTold k i w _ ?_) (g_M_actTold k i w _ ?_)
        · rw [s_isProgram (by omega) T, zbI_some, zp_t c1, if_neg (by decide), if_neg c3]
          by_cases c5 : i < 0
          · rw [if_pos c5]
          · rw [if_neg c5, if_pos g6, t7, Int.toNat_natCast, if_neg (by omega)]
        · rw [m_isProgram (by omega) t4, zbI_some, zp_t c1, if_neg (by decide), if_neg c3, if_pos g6, Int.toNat_natCast, zsub_eq (by omega) (by omega), m_in (by omega), zbI_some, zp_f (by omega), if_pos rfl]
  · refine A0.same (v := -5) (g_C_actTold q i w _ ?_) (g_M_actTold q i w _ ?_)
    · rw [s_isProgram (by omega) T, zbI_some, zp_f c1, if_pos rfl]
    · rw [m_isProgram (by omega) t4, zbI_some, zp_f c1, if_pos rfl]
end
