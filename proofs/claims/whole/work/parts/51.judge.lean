/-! the calls that judge and play -/
section
variable {d : Nat} {F ρ ρ' : zM} {G : zG} {p p' : Nat → Int}
theorem a_play (hd : 10 ≤ d) (A : zAll ρ p F G) (h q : Int) : zStep d 24 109 [zI h, zI q] F G := by
  obtain ⟨d, rfl⟩ := zds (show 1 ≤ d by omega)
  have A0 := A
  obtain ⟨⟨n1, n2, n3, n4, n5, n6⟩, a2, a3, a4, a5, a6, a7, a8, a9⟩ := A
  have t4 := a5.2.2.2.1
  by_cases c1 : 0 ≤ h ∧ h ≤ 1
  · have hh : h = 0 ∨ h = 1 := by omega
    have g2 : 0 ≤ h ∧ h < 2 := by omega
    have t32 : (32 + h).toNat = 32 + h.toNat := by omega
    have z32 : zadd 32 h = 32 + h := zadd_eq (by omega) (by omega)
    have g32 : 0 ≤ 32 + h ∧ 32 + h < 43 := by omega
    by_cases c2 : 0 ≤ q ∧ q < F 71 12
    · obtain ⟨k, rfl⟩ := Int.eq_ofNat_of_zero_le c2.1
      obtain ⟨i, v, p', F1, F2, G2, b1, b2, b3, b4, b5, b6, b7, b8, b9, b10, b11⟩ := A0.aside (d := d) (by omega) hh c2.2
      by_cases cv : v = 0
      · have hi : i = -1 := by omega
        obtain ⟨F3, e1, e2, e3⟩ := s_become_11_22 (d := d) (G := G2) (by omega) b7
        have e3 : ∀ r, (r < 11 ∨ 21 < r) → F3 r = F2 r := e3
        obtain ⟨F4, F5, F6, i1, i2, i3, i4, i5, i6, i7, i8, i9, i10⟩ := b11 F3 (fun r _ hr => e3 r hr)
        have hF3 : ∀ r, r ≠ 44 → r ≠ 52 → (r < 11 ∨ 32 < r) → F3 r = F r := fun r r1 r2 r3 => by rw [e3 r (by omega), b9 r r1 r2 (by omega)]
        refine ⟨p' (32 + h.toNat), F3, G2, F5, G2, g_C_play h k _ ?_, g_M_play h k _ ?_, ρ, p', A0.act2 (e2.fr (fun j hj => i6 _ (by omega) (by omega) (by omega) (by omega) (by omega))) i3 b2 b3 (a3.keep b4) ⟨fun r hr r71 => ?_, fun j hj => ?_⟩ b10⟩
        · rw [s_isHand (by omega), zbI_some, zp_t c1, if_neg (by decide), s_isProgram (by omega) a5, zbI_some, zp_t c2, if_neg (by decide), b5, zbV_some, b6, zbI_some, if_pos cv, e1, zbV_some, if_pos g2, (e2.hn hh).2.2.1]
        · have r71 := hF3 71 (by decide) (by decide) (by decide)
          rw [m_isHand (by omega), zbI_some, zp_t c1, if_neg (by decide), m_isProgram (by omega) (by rw [r71]; exact t4), zbI_some, r71, zp_t c2, if_neg (by decide), i1, zbV_some, i2, zbI_some, if_pos hi, z32, t32, if_pos g32, i3]
        · simp only [List.mem_cons, List.not_mem_nil, or_false, not_or] at hr
          rw [i6 r r71 (by omega) (by omega) (by omega) (by omega), hF3 r (by omega) (by omega) (by omega)]
        · simp only [List.mem_cons, List.not_mem_nil, or_false] at hj
          exact i7 j hj
      · have hi : i ≠ -1 := by omega
        obtain ⟨F4, F5, F6, i1, i2, i3, i4, i5, i6, i7, i8, i9, i10⟩ := b11 F2 (fun r _ hr => rfl)
        refine ⟨zsub (-10) v, F2, G2, F6, G2, g_C_play h k _ ?_, g_M_play h k _ ?_, ρ, p, A0.act2 (n1.fr (fun j hj => ?_)) i10 n6 a2 a3 ⟨fun r hr r71 => ?_, fun j hj => ?_⟩ b10⟩
        · rw [s_isHand (by omega), zbI_some, zp_t c1, if_neg (by decide), s_isProgram (by omega) a5, zbI_some, zp_t c2, if_neg (by decide), b5, zbV_some, b6, zbI_some, if_neg cv]
        · have r71 := b9 71 (by decide) (by decide) (by decide)
          rw [m_isHand (by omega), zbI_some, zp_t c1, if_neg (by decide), m_isProgram (by omega) (by rw [r71]; exact t4), zbI_some, r71, zp_t c2, if_neg (by decide), i1, zbV_some, i2, zbI_some, if_neg hi, i8, zbV_some, i9 71 (by decide), i5 hi]
        · rw [i9 _ (by omega), i6 _ (by omega) (by omega) (by omega) (by omega) (by omega), b9 _ (by omega) (by omega) (by omega)]
        · simp only [List.mem_cons, List.not_mem_nil, or_false, not_or] at hr
          rw [i9 r (by omega), i6 r r71 (by omega) (by omega) (by omega) (by omega), b9 r (by omega) (by omega) (by omega)]
        · simp only [List.mem_cons, List.not_mem_nil, or_false] at hj
          rw [i9 71 (by decide)]
          exact i7 j hj
    · refine A0.same (v := -5) (g_C_play h q _ ?_) (g_M_play h q _ ?_)
      · rw [s_isHand (by omega), zbI_some, zp_t c1, if_neg (by decide), s_isProgram (by omega) a5, zbI_some, zp_f c2, if_pos rfl]
      · rw [m_isHand (by omega), zbI_some, zp_t c1, if_neg (by decide), m_isProgram (by omega) t4, zbI_some, zp_f c2, if_pos rfl]
  · refine A0.same (v := -5) (g_C_play h q _ ?_) (g_M_play h q _ ?_)
    · rw [s_isHand (by omega), zbI_some, zp_f c1, if_pos rfl]
    · rw [m_isHand (by omega), zbI_some, zp_f c1, if_pos rfl]
theorem a_judge (hd : 10 ≤ d) (A : zAll ρ p F G) (h q w : Int) : zStep d 23 108 [zI h, zI q, zI w] F G := by
  obtain ⟨d, rfl⟩ := zds (show 1 ≤ d by omega)
  have A0 := A
  obtain ⟨⟨n1, n2, n3, n4, n5, n6⟩, a2, a3, a4, a5, a6, a7, a8, a9⟩ := A
  have t4 := a5.2.2.2.1
  by_cases c1 : 0 ≤ h ∧ h ≤ 1
  · have hh : h = 0 ∨ h = 1 := by omega
    have g2 : 0 ≤ h ∧ h < 2 := by omega
    have t32 : (32 + h).toNat = 32 + h.toNat := by omega
    have z32 : zadd 32 h = 32 + h := zadd_eq (by omega) (by omega)
    have g32 : 0 ≤ 32 + h ∧ 32 + h < 43 := by omega
    have t28 : (28 + h).toNat = 28 + h.toNat := by omega
    have z28 : zadd 28 h = 28 + h := zadd_eq (by omega) (by omega)
    have g28 : 0 ≤ 28 + h ∧ 28 + h < 43 := by omega
    by_cases c2 : 0 ≤ q ∧ q < F 71 12
    · obtain ⟨k, rfl⟩ := Int.eq_ofNat_of_zero_le c2.1
      by_cases c3 : -1 ≤ w ∧ w ≤ 2
      · obtain ⟨i, v, p', F1, F2, G2, b1, b2, b3, b4, b5, b6, b7, b8, b9, b10, b11⟩ := A0.aside (d := d) (by omega) hh c2.2
        obtain ⟨F4, F5, F6, i1, i2, i3, i4, i5, i6, i7, i8, i9, i10⟩ := b11 F2 (fun r _ hr => rfl)
        have f28 : F2 28 h.toNat = p' (32 + h.toNat) := (b7.hn hh).2.2.1
        have f26 : F2 26 h.toNat = p' (28 + h.toNat) := (b7.hn hh).1
        have f17 : F2 17 h.toNat = p (32 + h.toNat) := by rw [b9 17 (by decide) (by decide) (by decide)]; exact (n1.hn hh).2.2.1
        refine ⟨if w = -1 then i else if w = 0 then v else if w = 1 then zsub (p' (32 + h.toNat)) (p (32 + h.toNat)) else p' (28 + h.toNat), F2, G2, F6, G2, g_C_judge h k w _ ?_, g_M_judge h k w _ ?_, ρ, p, A0.act2 (n1.fr (fun j hj => ?_)) i10 n6 a2 a3 ⟨fun r hr r71 => ?_, fun j hj => ?_⟩ b10⟩
        · rw [s_isHand (by omega), zbI_some, zp_t c1, if_neg (by decide), s_isProgram (by omega) a5, zbI_some, zp_t c2, if_neg (by decide), if_neg (by omega), if_neg (by omega), b5, zbV_some, b6, zbI_some, if_pos g2, if_pos g2, f28, f17, f26, b8]
          by_cases w1 : w = -1
          · rw [if_pos w1, if_pos w1]
          · rw [if_neg w1, if_neg w1]
            by_cases w2 : w = 0
            · rw [if_pos w2, if_pos w2]
            · rw [if_neg w2, if_neg w2]
              by_cases w3 : w = 1
              · rw [if_pos w3, if_pos w3]
              · rw [if_neg w3, if_neg w3, if_pos g2]
        · have r71 := b9 71 (by decide) (by decide) (by decide)
          rw [m_isHand (by omega), zbI_some, zp_t c1, if_neg (by decide), m_isProgram (by omega) (by rw [r71]; exact t4), zbI_some, r71, zp_t c2, if_neg (by decide), m_in (by omega), zbI_some, zp_t c3, if_neg (by decide), i1, zbV_some, i2, zbI_some, z32, z28, t32, t28, if_pos g32, if_pos g32, if_pos g28, i8, zbV_some, i9 71 (by decide), i3, i4 _ (by omega)]
          by_cases w1 : w = -1
          · rw [if_pos w1, if_pos w1]
          · rw [if_neg w1, if_neg w1]
            by_cases w2 : w = 0
            · rw [if_pos w2, if_pos w2]
              by_cases hi : i = -1
              · rw [if_pos hi, show v = 0 by omega]
              · rw [if_neg hi, i5 hi]
            · rw [if_neg w2, if_neg w2]
              by_cases w3 : w = 1
              · rw [if_pos w3, if_pos w3]
              · rw [if_neg w3, if_neg w3]
        · rw [i9 _ (by omega), i6 _ (by omega) (by omega) (by omega) (by omega) (by omega), b9 _ (by omega) (by omega) (by omega)]
        · simp only [List.mem_cons, List.not_mem_nil, or_false, not_or] at hr
          rw [i9 r (by omega), i6 r r71 (by omega) (by omega) (by omega) (by omega), b9 r (by omega) (by omega) (by omega)]
        · simp only [List.mem_cons, List.not_mem_nil, or_false] at hj
          rw [i9 71 (by decide)]
          exact i7 j hj
      · refine A0.same (v := -7) (g_C_judge h k w _ ?_) (g_M_judge h k w _ ?_)
        · rw [s_isHand (by omega), zbI_some, zp_t c1, if_neg (by decide), s_isProgram (by omega) a5, zbI_some, zp_t c2, if_neg (by decide)]
          by_cases c4 : w < -1
          · rw [if_pos c4]
          · rw [if_neg c4, if_pos (by omega)]
        · rw [m_isHand (by omega), zbI_some, zp_t c1, if_neg (by decide), m_isProgram (by omega) t4, zbI_some, zp_t c2, if_neg (by decide), m_in (by omega), zbI_some, zp_f c3, if_pos rfl]
    · refine A0.same (v := -5) (g_C_judge h q w _ ?_) (g_M_judge h q w _ ?_)
      · rw [s_isHand (by omega), zbI_some, zp_t c1, if_neg (by decide), s_isProgram (by omega) a5, zbI_some, zp_f c2, if_pos rfl]
      · rw [m_isHand (by omega), zbI_some, zp_t c1, if_neg (by decide), m_isProgram (by omega) t4, zbI_some, zp_f c2, if_pos rfl]
  · refine A0.same (v := -5) (g_C_judge h q w _ ?_) (g_M_judge h q w _ ?_)
    · rw [s_isHand (by omega), zbI_some, zp_f c1, if_pos rfl]
    · rw [m_isHand (by omega), zbI_some, zp_f c1, if_pos rfl]
end
