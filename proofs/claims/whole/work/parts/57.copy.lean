/-! cells of sheets, copies of parts -/
section
variable {d : Nat} {F ρ ρ' : zM} {G : zG} {p p' : Nat → Int}
theorem z_cellat {s i : Nat} (hs : s < 4) (hi : i < 41) : zadd (zmul (s : Int) 40) i = ((40 * s + i : Nat) : Int) ∧ zadd (zmul 40 (s : Int)) i = ((40 * s + i : Nat) : Int) := by
  constructor
  · rw [zmul_eq (by omega) (by omega), zadd_eq (by omega) (by omega)]; omega
  · rw [zmul_eq (by omega) (by omega), zadd_eq (by omega) (by omega)]; omega
theorem a_cell (hd : 2 ≤ d) (A : zAll ρ p F G) (s i w : Int) : zStep d 37 132 [zI s, zI i, zI w] F G := by
  obtain ⟨d, rfl⟩ := zds (show 1 ≤ d by omega)
  have A0 := A
  obtain ⟨nn, a2, a3, a4, a5, a6, a7, a8, s1, s2, s3, s4⟩ := A
  by_cases c1 : 0 ≤ s ∧ s ≤ 3
  · obtain ⟨t, rfl⟩ := Int.eq_ofNat_of_zero_le c1.1
    have g4 : 0 ≤ (t : Int) ∧ (t : Int) < 4 := by omega
    have u := s3 t (by omega)
    by_cases c2 : F 96 t = -1
    · refine A0.same (v := -11) (g_C_cell t i w _ ?_) (g_M_cell t i w _ ?_)
      · rw [s_isSheet (by omega), zbI_some, zp_t c1, if_neg (by decide), s_isThereSheet (by omega) c1, zbI_some, s1, Int.toNat_natCast, zp_f (fun q => q c2), if_pos rfl]
      · rw [m_in (by omega), zbI_some, zp_t c1, if_neg (by decide), if_pos g4, Int.toNat_natCast, if_pos c2]
    · by_cases c3 : 0 ≤ i ∧ i < F 97 t
      · obtain ⟨j, rfl⟩ := Int.eq_ofNat_of_zero_le c3.1
        obtain ⟨z1, z2⟩ := z_cellat (s := t) (i := j) (by omega) (by omega)
        have g160 : 0 ≤ ((40 * t + j : Nat) : Int) ∧ ((40 * t + j : Nat) : Int) < 160 := by omega
        have W : zex d 212 [zR 67, zI t, zI j, zI w] (F, G, zsg) = some (none, zup F 70 (40 * t + j) (if F 96 t = 0 then zi2b w else if F 96 t = 1 then zi2s w else w), G, zsg) := by
          obtain ⟨d, rfl⟩ := zds (show 1 ≤ d by omega)
          refine g_Sheets_write t j w _ ?_
          rw [z1, s1, if_pos g4, if_pos g160, if_pos g160, if_pos g160, if_pos g4, Int.toNat_natCast, Int.toNat_natCast]
          split
          · rfl
          · split <;> rfl
        generalize hv : (if F 96 t = 0 then zi2b w else if F 96 t = 1 then zi2s w else w) = v at W
        have r96 : zup F 70 (40 * t + j) v 96 = F 96 := zup_row (by decide)
        have r97 : zup F 70 (40 * t + j) v 97 = F 97 := zup_row (by decide)
        refine ⟨1, zup F 70 (40 * t + j) v, G, zup (zup F 70 (40 * t + j) v) 98 (40 * t + j) v, G, g_C_cell t j w _ ?_, g_M_cell t j w _ ?_, ρ, p, A0.sh ⟨fun r hr _ => ?_, fun y _ => ?_⟩ ⟨by rw [zup_row (by decide), zup_row (by decide), zup_row (by decide), zup_row (by decide)]; exact s1, by rw [zup_row (by decide), zup_row (by decide), zup_row (by decide), zup_row (by decide)]; exact s2, by rw [zup_row (by decide), zup_row (by decide), zup_row (by decide), zup_row (by decide)]; exact s3, fun y x hy hx => ?_⟩⟩
        · rw [s_isSheet (by omega), zbI_some, zp_t c1, if_neg (by decide), s_isThereSheet (by omega) c1, zbI_some, s1, Int.toNat_natCast, zp_t c2, if_neg (by decide), if_neg (by omega), if_pos g4, s2, if_pos c3.2, W, zbV_some]
        · rw [m_in (by omega), zbI_some, zp_t c1, if_neg (by decide), if_pos g4, Int.toNat_natCast, r96, r97, if_neg c2, if_pos g4, zsub_eq (by omega) (by omega), m_in (by omega), zbI_some, zp_t (by omega), if_neg (by decide), r96, if_pos g4, z2, if_pos g160, if_pos g160, if_pos g160, if_pos g4, Int.toNat_natCast, ← hv]
          split
          · rfl
          · split <;> rfl
        · simp only [List.mem_cons, List.not_mem_nil, or_false, not_or] at hr
          rw [zup_row (by omega), zup_row (by omega)]
        · rw [zup_row (by decide), zup_row (by decide)]
        · rw [zup_row (by decide), r97] at hx
          rw [zup_row (by decide)]
          by_cases h : 40 * y + x = 40 * t + j
          · rw [h, zup_eq, zup_eq]
          · rw [zup_col h, zup_col h, zup_row (by decide)]
            exact s4 y x hy hx
      · refine A0.same (v := -12) (g_C_cell t i w _ ?_) (g_M_cell t i w _ ?_)
        · rw [s_isSheet (by omega), zbI_some, zp_t c1, if_neg (by decide), s_isThereSheet (by omega) c1, zbI_some, s1, Int.toNat_natCast, zp_t c2, if_neg (by decide)]
          by_cases c5 : i < 0
          · rw [if_pos c5]
          · rw [if_neg c5, if_pos g4, s2, if_neg (by omega)]
        · rw [m_in (by omega), zbI_some, zp_t c1, if_neg (by decide), if_pos g4, Int.toNat_natCast, if_neg c2, if_pos g4, zsub_eq (by omega) (by omega), m_in (by omega), zbI_some, zp_f (by omega), if_pos rfl]
  · refine A0.same (v := -2) (g_C_cell s i w _ ?_) (g_M_cell s i w _ ?_)
    · rw [s_isSheet (by omega), zbI_some, zp_f c1, if_pos rfl]
    · rw [m_in (by omega), zbI_some, zp_f c1, if_pos rfl]
end
