/-! sheets: both sides alike -/
section
variable {d : Nat} {F ρ ρ' : zM} {G : zG} {p p' : Nat → Int}
theorem zAll.sh {F2 : zM} (A : zAll ρ p F G) (hc : zch [68, 69, 70, 96, 97, 98] [] F F2) (h : zSh F2) : zAll ρ p F2 G := by
  obtain ⟨n, a2, a3, a4, a5, a6, a7, a8, a9⟩ := A
  have e64 : F2 64 = F 64 := hc.1 64 (by decide) (by decide)
  exact ⟨n.ch hc ⟨rfl, trivial⟩, a2, a3.ch hc, a4.ch hc, a5.ch hc, a6.ch hc, a7.ch hc ⟨rfl, rfl⟩, a8.ch hc (by decide) (by decide) (by rw [e64]) (by rw [e64]), h⟩
theorem s_isSheet (hd : 1 ≤ d) {s : Int} : zex d 208 [zI s] (F, G, zsg) = some (some (zI (zp (0 ≤ s ∧ s ≤ 3))), F, G, zsg) := by
  obtain ⟨d, rfl⟩ := zds hd
  refine g_Sheets_isSheet s _ ?_
  by_cases c : s < 0
  · rw [if_pos c, zp_f (by omega)]
  · rw [if_neg c]
    by_cases c2 : s < 4
    · rw [if_pos c2, zp_t (by omega)]
    · rw [if_neg c2, zp_f (by omega)]
theorem s_isThereSheet (hd : 1 ≤ d) {s : Int} (hs : 0 ≤ s ∧ s ≤ 3) : zex d 209 [zR 67, zI s] (F, G, zsg) = some (some (zI (zp (F 68 s.toNat ≠ -1))), F, G, zsg) := by
  obtain ⟨d, rfl⟩ := zds hd
  refine g_Sheets_isThere s _ ?_
  have g4 : 0 ≤ s ∧ s < 4 := by omega
  rw [if_pos g4]
  by_cases c : F 68 s.toNat = -1
  · rw [if_pos c, zp_f (fun q => q c)]
  · rw [if_neg c, zp_t c]
theorem s_make (hd : 1 ≤ d) {s : Nat} (hs : s < 4) {k : Int} {n : Nat} (hn : n ≤ 40) : ∃ F', zex d 210 [zR 67, zI s, zI k, zI n] (F, G, zsg) = some (some (zI 1), F', G, zsg) ∧ F' 68 = zu (F 68) s k ∧ F' 69 = zu (F 69) s n ∧ (∀ r, r ≠ 68 → r ≠ 69 → r ≠ 70 → F' r = F r) ∧ ∀ j, F' 70 j = if 40 * s ≤ j ∧ j < 40 * s + n then 0 else F 70 j := by
  obtain ⟨d, rfl⟩ := zds hd
  have loop : ∀ (m i : Nat) (F1 : zM), i + m = n → ∃ F', zev zX0 d (210, 17, [zR 67, zI s, zI k, zI n, zI i], [], F1, G, zsg) = some (some (zI 1), F', G, zsg) ∧ (∀ r, r ≠ 70 → F' r = F1 r) ∧ ∀ j, F' 70 j = if 40 * s + i ≤ j ∧ j < 40 * s + n then 0 else F1 70 j := by
    intro m
    induction m with
    | zero =>
      intro i F1 hi
      refine ⟨F1, g_Sheets_make_17 s k n i _ ?_, fun _ _ => rfl, fun j => by rw [if_neg (by omega)]⟩
      rw [if_neg (by omega)]
    | succ m ih =>
      intro i F1 hi
      obtain ⟨F', e1, e2, e3⟩ := ih (i + 1) (zup F1 70 (40 * s + i) 0) (by omega)
      refine ⟨F', g_Sheets_make_17 s k n i _ ?_, fun r r1 => by rw [e2 r r1, zup_row r1], fun j => ?_⟩
      · have z : zadd (zmul (s : Int) 40) i = ((40 * s + i : Nat) : Int) := by rw [zmul_eq (by omega) (by omega), zadd_eq (by omega) (by omega)]; omega
        have g160 : 0 ≤ ((40 * s + i : Nat) : Int) ∧ ((40 * s + i : Nat) : Int) < 160 := by omega
        rw [if_pos (by omega), z, if_pos g160, Int.toNat_natCast, zadd_eq (by omega) (by omega), ← zcast1]
        exact e1
      · rw [e3 j]
        by_cases hj : j = 40 * s + i
        · rw [hj, zup_eq, if_neg (by omega), if_pos (by omega)]
        · rw [zup_col hj]
          by_cases h2 : 40 * s + (i + 1) ≤ j ∧ j < 40 * s + n
          · rw [if_pos h2, if_pos (by omega)]
          · rw [if_neg h2, if_neg (by omega)]
  obtain ⟨F', e1, e2, e3⟩ := loop n 0 (zup (zup F 68 s k) 69 s n) (by omega)
  refine ⟨F', g_Sheets_make s k n _ ?_, by rw [e2 68 (by decide), zup_row (by decide), zup_fn], by rw [e2 69 (by decide), zup_fn, zup_row (by decide)], fun r r1 r2 r3 => by rw [e2 r r3, zup_row r2, zup_row r1], fun j => ?_⟩
  · have g4 : 0 ≤ (s : Int) ∧ (s : Int) < 4 := by omega
    rw [if_pos g4, if_pos g4, Int.toNat_natCast]
    exact e1
  · rw [e3 j, zup_row (by decide), zup_row (by decide)]
    simp
theorem m_clear {s : Nat} (hs : s < 4) {k n : Int} : ∀ (m i : Nat) (F1 : zM), i + m = 40 → ∃ F', zev zX0 d (131, 70, [zR 71, zI s, zI k, zI n, zI i], [], F1, G, zsg) = some (some (zI 1), F', G, zsg) ∧ (∀ r, r ≠ 98 → F' r = F1 r) ∧ ∀ j, F' 98 j = if 40 * s + i ≤ j ∧ j < 40 * s + 40 then 0 else F1 98 j := by
  intro m
  induction m with
  | zero =>
    intro i F1 hi
    refine ⟨F1, g_M_sheet_70 s k n i _ ?_, fun _ _ => rfl, fun j => by rw [if_neg (by omega)]⟩
    rw [if_neg (by omega)]
  | succ m ih =>
    intro i F1 hi
    obtain ⟨F', e1, e2, e3⟩ := ih (i + 1) (zup F1 98 (40 * s + i) 0) (by omega)
    refine ⟨F', g_M_sheet_70 s k n i _ ?_, fun r r1 => by rw [e2 r r1, zup_row r1], fun j => ?_⟩
    · have z : zadd (zmul 40 (s : Int)) i = ((40 * s + i : Nat) : Int) := by rw [zmul_eq (by omega) (by omega), zadd_eq (by omega) (by omega)]; omega
      have g160 : 0 ≤ ((40 * s + i : Nat) : Int) ∧ ((40 * s + i : Nat) : Int) < 160 := by omega
      rw [if_pos (by omega), z, if_pos g160, Int.toNat_natCast, zadd_eq (by omega) (by omega), ← zcast1]
      exact e1
    · rw [e3 j]
      by_cases hj : j = 40 * s + i
      · rw [hj, zup_eq, if_neg (by omega), if_pos (by omega)]
      · rw [zup_col hj]
        by_cases h2 : 40 * s + (i + 1) ≤ j ∧ j < 40 * s + 40
        · rw [if_pos h2, if_pos (by omega)]
        · rw [if_neg h2, if_neg (by omega)]
/-- a sheet made anew on both sides -/
theorem zAll.made (hd : 1 ≤ d) (A : zAll ρ p F G) {s : Nat} (hs : s < 4) {k : Int} (hk : -1 ≤ k ∧ k ≤ 2) {n : Nat} (hn : n ≤ 40) {w : Int} : ∃ F1 F2, zex d 210 [zR 67, zI s, zI k, zI n] (F, G, zsg) = some (some (zI 1), F1, G, zsg) ∧ zev zX0 d (131, 70, [zR 71, zI s, zI k, zI w, zI 0], [], zup (zup F1 96 s k) 97 s n, G, zsg) = some (some (zI 1), F2, G, zsg) ∧ zAll ρ p F2 G := by
  have A0 := A
  obtain ⟨nn, a2, a3, a4, a5, a6, a7, a8, s1, s2, s3, s4⟩ := A
  obtain ⟨F1, e1, e2, e3, e4, e5⟩ := s_make (F := F) (G := G) hd hs (k := k) hn
  obtain ⟨F2, f1, f2, f3⟩ := m_clear (d := d) (G := G) hs (k := k) (n := w) 40 0 (zup (zup F1 96 s k) 97 s n) (by omega)
  have k96 : F2 96 = zu (F 96) s k := by rw [f2 96 (by decide), zup_row (by decide), zup_fn, e4 96 (by decide) (by decide) (by decide)]
  have k97 : F2 97 = zu (F 97) s n := by rw [f2 97 (by decide), zup_fn, zup_row (by decide), e4 97 (by decide) (by decide) (by decide)]
  have hF : ∀ r, r ≠ 96 → r ≠ 97 → r ≠ 98 → F2 r = F1 r := fun r r1 r2 r3 => by rw [f2 r r3, zup_row r2, zup_row r1]
  refine ⟨F1, F2, e1, f1, A0.sh ⟨fun r hr _ => ?_, fun j _ => ?_⟩ ⟨by rw [hF 68 (by decide) (by decide) (by decide), e2, k96, s1], by rw [hF 69 (by decide) (by decide) (by decide), e3, k97, s2], fun t ht => ?_, fun t i ht hi => ?_⟩⟩
  · simp only [List.mem_cons, List.not_mem_nil, or_false, not_or] at hr
    rw [hF r (by omega) (by omega) (by omega), e4 r (by omega) (by omega) (by omega)]
  · rw [hF 71 (by decide) (by decide) (by decide), e4 71 (by decide) (by decide) (by decide)]
  · rw [k96, k97]
    by_cases h : t = s
    · rw [h, zu_eq, zu_eq]; omega
    · rw [zu_ne h, zu_ne h]; exact s3 t ht
  · rw [k97] at hi
    rw [hF 70 (by decide) (by decide) (by decide), e5, f3, zup_row (by decide), zup_row (by decide), e4 98 (by decide) (by decide) (by decide)]
    by_cases h : t = s
    · subst h
      rw [zu_eq] at hi
      rw [if_pos (by omega), if_pos (by omega)]
    · rw [zu_ne h] at hi
      have := s3 t ht
      rw [if_neg (by omega), if_neg (by omega)]
      exact s4 t i ht hi
theorem a_sheet (hd : 2 ≤ d) (A : zAll ρ p F G) (s k n : Int) : zStep d 36 131 [zI s, zI k, zI n] F G := by
  obtain ⟨d, rfl⟩ := zds (show 1 ≤ d by omega)
  by_cases c1 : 0 ≤ s ∧ s ≤ 3
  · obtain ⟨t, rfl⟩ := Int.eq_ofNat_of_zero_le c1.1
    have g4 : 0 ≤ (t : Int) ∧ (t : Int) < 4 := by omega
    by_cases c2 : -1 ≤ k ∧ k ≤ 2
    · by_cases c3 : k = -1
      · subst c3
        obtain ⟨F1, F2, e1, e2, e3⟩ := A.made (d := d) (by omega) (s := t) (by omega) (k := -1) (by decide) (n := 0) (by decide) (w := n)
        refine ⟨1, F1, G, F2, G, g_C_sheet t (-1) n _ ?_, g_M_sheet t (-1) n _ ?_, ρ, p, e3⟩
        · rw [s_isSheet (by omega), zbI_some, zp_t c1, if_neg (by decide), if_neg (by decide), if_neg (by decide), if_pos rfl]
          have e1 : zex d 210 [zR 67, zI (t : Int), zI (-1), zI 0] (F, G, zsg) = some (some (zI 1), F1, G, zsg) := e1
          rw [e1, zbI_some]
        · rw [m_in (by omega), zbI_some, zp_t c1, if_neg (by decide), m_in (by omega), zbI_some, zp_t (by decide), if_neg (by decide), if_pos rfl, if_pos rfl, if_pos g4, if_pos rfl, if_pos g4, Int.toNat_natCast]
          exact e2
      · by_cases c4 : 40 < n
        · refine A.same (v := -2) (g_C_sheet t k n _ ?_) (g_M_sheet t k n _ ?_)
          · rw [s_isSheet (by omega), zbI_some, zp_t c1, if_neg (by decide), if_neg (by omega), if_neg (by omega), if_neg c3, if_pos c4]
          · rw [m_in (by omega), zbI_some, zp_t c1, if_neg (by decide), m_in (by omega), zbI_some, zp_t c2, if_neg (by decide), if_neg c3, if_pos c4]
        · by_cases c5 : n < 0
          · refine A.same (v := -14) (g_C_sheet t k n _ ?_) (g_M_sheet t k n _ ?_)
            · rw [s_isSheet (by omega), zbI_some, zp_t c1, if_neg (by decide), if_neg (by omega), if_neg (by omega), if_neg c3, if_neg c4, if_pos c5]
            · rw [m_in (by omega), zbI_some, zp_t c1, if_neg (by decide), m_in (by omega), zbI_some, zp_t c2, if_neg (by decide), if_neg c3, if_neg c4, if_neg c3, if_pos c5]
          · obtain ⟨m, rfl⟩ := Int.eq_ofNat_of_zero_le (show 0 ≤ n by omega)
            obtain ⟨F1, F2, e1, e2, e3⟩ := A.made (d := d) (by omega) (s := t) (by omega) (k := k) c2 (n := m) (by omega) (w := m)
            refine ⟨1, F1, G, F2, G, g_C_sheet t k m _ ?_, g_M_sheet t k m _ ?_, ρ, p, e3⟩
            · rw [s_isSheet (by omega), zbI_some, zp_t c1, if_neg (by decide), if_neg (by omega), if_neg (by omega), if_neg c3, if_neg c4, if_neg c5, e1, zbI_some]
            · rw [m_in (by omega), zbI_some, zp_t c1, if_neg (by decide), m_in (by omega), zbI_some, zp_t c2, if_neg (by decide), if_neg c3, if_neg c4, if_neg c3, if_neg c5, if_pos g4, if_neg c3, if_pos g4, Int.toNat_natCast]
              exact e2
    · refine A.same (v := -2) (g_C_sheet t k n _ ?_) (g_M_sheet t k n _ ?_)
      · rw [s_isSheet (by omega), zbI_some, zp_t c1, if_neg (by decide)]
        by_cases c3 : k < -1
        · rw [if_pos c3]
        · rw [if_neg c3, if_pos (by omega)]
      · rw [m_in (by omega), zbI_some, zp_t c1, if_neg (by decide), m_in (by omega), zbI_some, zp_f c2, if_pos rfl]
  · refine A.same (v := -2) (g_C_sheet s k n _ ?_) (g_M_sheet s k n _ ?_)
    · rw [s_isSheet (by omega), zbI_some, zp_f c1, if_pos rfl]
    · rw [m_in (by omega), zbI_some, zp_f c1, if_pos rfl]
end
