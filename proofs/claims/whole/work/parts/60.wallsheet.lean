/-! the call that sets walls out of a sheet -/
section
variable {d : Nat} {F ρ ρ' : zM} {G : zG} {p p' : Nat → Int}
theorem a_walls (hd : 7 ≤ d) (A : zAll ρ p F G) (s k st n : Int) (hst : -2147483648 ≤ st ∧ st ≤ 2147483647) : zStep d 39 134 [zI s, zI k, zI st, zI n] F G := by
  obtain ⟨d, rfl⟩ := zds (show 1 ≤ d by omega)
  have A0 := A
  obtain ⟨⟨n1, n2, n3, n4, n5, n6⟩, a2, a3, a4, a5, a6, a7, a8, s1, s2, s3, s4⟩ := A
  by_cases c1 : 0 ≤ s ∧ s ≤ 3
  · obtain ⟨S, rfl⟩ := Int.eq_ofNat_of_zero_le c1.1
    have gs : 0 ≤ (S : Int) ∧ (S : Int) < 4 := by omega
    have us := s3 S (by omega)
    by_cases c2 : 0 ≤ k ∧ k ≤ 2
    · by_cases c3 : 0 ≤ n ∧ n ≤ 40
      · by_cases c4 : F 96 S = -1
        · refine A0.same (v := -11) (g_C_walls S k st n _ ?_) (g_M_walls S k st n _ ?_)
          · rw [s_isSheet (by omega), zbI_some, zp_t c1, if_neg (by decide), if_neg (by omega), if_neg (by omega), if_neg (by omega), if_neg (by omega), s_isThereSheet (by omega) c1, zbI_some, s1, Int.toNat_natCast, zp_f (fun q => q c4), if_pos rfl]
          · rw [m_in (by omega), zbI_some, zp_t c1, if_neg (by decide), m_in (by omega), zbI_some, zp_t c2, if_neg (by decide), m_in (by omega), zbI_some, zp_t c3, if_neg (by decide), if_pos gs, Int.toNat_natCast, if_pos c4]
        · by_cases c5 : F 96 S = k
          · obtain ⟨N, rfl⟩ := Int.eq_ofNat_of_zero_le c3.1
            obtain ⟨v, ρ', u1, u2, u3, u4, u5⟩ := a_walls_loop (d := d) (p := p) (by omega) (s := S) (by omega) (k := k) hst (n := N) (by omega) us.2 (B := fun x => F 98 (40 * S + x)) N 0 0 ρ (by omega) (by omega) (fun _ => rfl) n5 n6
            obtain ⟨G1, e1, e2, e3⟩ := u4 F G n1 n2 (by rw [s2]) (fun x hx => s4 S x (by omega) hx)
            obtain ⟨F2, f1, f2, f3⟩ := u5 F G1 n4 n3 rfl (fun x _ => rfl)
            have r71 : ρ' 71 = ρ 71 := u3 71 (by decide)
            have r79 : ρ' 79 = ρ 79 := u3 79 (by decide)
            refine ⟨v, F, G1, F2, G1, g_C_walls S k st N _ ?_, g_M_walls S k st N _ ?_, ρ', p, A0.room (n1.fr (fun j hj => f3 _ (by omega))) (e2.fr (f3 6 (by decide)) (f3 7 (by decide)) (f3 8 (by decide)) (f3 9 (by decide)) (f3 10 (by decide)) rfl) f2 (by rw [f3 72 (by decide)]; exact n4) u1 u2 (a2.room n6 (fun t _ => by rw [r79])) (fun _ _ => rfl) (Int.le_of_eq (by rw [r71])) (Int.le_of_eq (by rw [r71])) (fun t _ => by rw [r79]) ⟨fun r hr _ => f3 r ?_, fun j _ => by rw [f3 71 (by decide)]⟩ ⟨e3 59 (by decide), e3 93 (by decide)⟩⟩
            · rw [s_isSheet (by omega), zbI_some, zp_t c1, if_neg (by decide), if_neg (by omega), if_neg (by omega), if_neg (by omega), if_neg (by omega), s_isThereSheet (by omega) c1, zbI_some, s1, Int.toNat_natCast, zp_t c4, if_neg (by decide), if_pos gs, if_pos c5]
              exact e1
            · rw [m_in (by omega), zbI_some, zp_t c1, if_neg (by decide), m_in (by omega), zbI_some, zp_t c2, if_neg (by decide), m_in (by omega), zbI_some, zp_t c3, if_neg (by decide), if_pos gs, Int.toNat_natCast, if_neg c4, if_pos gs, if_pos c5]
              exact f1
            · simp only [List.mem_cons, List.not_mem_nil, or_false, not_or] at hr
              omega
          · refine A0.same (v := -13) (g_C_walls S k st n _ ?_) (g_M_walls S k st n _ ?_)
            · rw [s_isSheet (by omega), zbI_some, zp_t c1, if_neg (by decide), if_neg (by omega), if_neg (by omega), if_neg (by omega), if_neg (by omega), s_isThereSheet (by omega) c1, zbI_some, s1, Int.toNat_natCast, zp_t c4, if_neg (by decide), if_pos gs, if_neg c5]
            · rw [m_in (by omega), zbI_some, zp_t c1, if_neg (by decide), m_in (by omega), zbI_some, zp_t c2, if_neg (by decide), m_in (by omega), zbI_some, zp_t c3, if_neg (by decide), if_pos gs, Int.toNat_natCast, if_neg c4, if_pos gs, if_neg c5]
      · refine A0.same (v := -2) (g_C_walls S k st n _ ?_) (g_M_walls S k st n _ ?_)
        · rw [s_isSheet (by omega), zbI_some, zp_t c1, if_neg (by decide), if_neg (by omega), if_neg (by omega)]
          by_cases q : n < 0
          · rw [if_pos q]
          · rw [if_neg q, if_pos (by omega)]
        · rw [m_in (by omega), zbI_some, zp_t c1, if_neg (by decide), m_in (by omega), zbI_some, zp_t c2, if_neg (by decide), m_in (by omega), zbI_some, zp_f c3, if_pos rfl]
    · refine A0.same (v := -2) (g_C_walls S k st n _ ?_) (g_M_walls S k st n _ ?_)
      · rw [s_isSheet (by omega), zbI_some, zp_t c1, if_neg (by decide)]
        by_cases q : k < 0
        · rw [if_pos q]
        · rw [if_neg q, if_pos (by omega)]
      · rw [m_in (by omega), zbI_some, zp_t c1, if_neg (by decide), m_in (by omega), zbI_some, zp_f c2, if_pos rfl]
  · refine A0.same (v := -2) (g_C_walls s k st n _ ?_) (g_M_walls s k st n _ ?_)
    · rw [s_isSheet (by omega), zbI_some, zp_f c1, if_pos rfl]
    · rw [m_in (by omega), zbI_some, zp_f c1, if_pos rfl]
end
