/-! copies of parts of sheets -/
section
variable {d : Nat} {F ρ ρ' : zM} {G : zG} {p p' : Nat → Int}
theorem s_isPart (hd : 1 ≤ d) {s : Nat} (hs : s < 4) {i n : Int} (hu : 0 ≤ F 69 s ∧ F 69 s ≤ 40) : zex d 213 [zR 67, zI s, zI i, zI n] (F, G, zsg) = some (some (zI (zp (0 ≤ i ∧ 0 ≤ n ∧ i + n ≤ F 69 s))), F, G, zsg) := by
  obtain ⟨d, rfl⟩ := zds hd
  have g4 : 0 ≤ (s : Int) ∧ (s : Int) < 4 := by omega
  refine g_Sheets_isPart s i n _ ?_
  rw [if_pos g4, if_pos g4, Int.toNat_natCast]
  by_cases c1 : i < 0
  · rw [if_pos c1, zp_f (by omega)]
  · rw [if_neg c1]
    by_cases c2 : n < 0
    · rw [if_pos c2, zp_f (by omega)]
    · rw [if_neg c2]
      by_cases c3 : F 69 s < i
      · rw [if_pos c3, zp_f (by omega)]
      · rw [if_neg c3, zsub_eq (by omega) (by omega)]
        by_cases c4 : F 69 s - i < n
        · rw [if_pos c4, zp_f (by omega)]
        · rw [if_neg c4, zp_t (by omega)]
/-- the reference's loop moves a part -/
theorem m_moved {l1 l2 l3 l4 : Int} {n x y : Nat} (hx : x + n ≤ 160) (hy : y + n ≤ 160) (hn : n ≤ 40) : ∀ (m i : Nat) (F1 : zM), i + m = n → (∀ r, r ≠ 98 → F1 r = F r) → (∀ j, F1 98 j = if (x < y ∧ y + (n - i) ≤ j ∧ j < y + n) ∨ (y ≤ x ∧ y ≤ j ∧ j < y + i) then F 98 (x + (j - y)) else F 98 j) → ∃ F', zev zX0 d (133, 147, [zR 71, zI l1, zI l2, zI l3, zI l4, zI n, zI x, zI y, zI i, zR 0], [], F1, G, zsg) = some (some (zI n), F', G, zsg) ∧ (∀ r, r ≠ 98 → F' r = F r) ∧ ∀ j, F' 98 j = if y ≤ j ∧ j < y + n then F 98 (x + (j - y)) else F 98 j := by
  intro m
  induction m with
  | zero =>
    intro i F1 hi h1 h2
    refine ⟨F1, g_M_copy_147 l1 l2 l3 l4 n x y i _ ?_, h1, fun j => ?_⟩
    · rw [if_neg (by omega)]
    · rw [h2 j]
      by_cases c : y ≤ j ∧ j < y + n
      · rw [if_pos c, if_pos (by omega)]
      · rw [if_neg c, if_neg (by omega)]
  | succ m ih =>
    intro i F1 hi h1 h2
    by_cases c : x < y
    · obtain ⟨F', e1, e2, e3⟩ := ih (i + 1) (zup F1 98 (y + (n - 1 - i)) (F1 98 (x + (n - 1 - i)))) (by omega) (fun r hr => by rw [zup_row hr, h1 r hr]) (fun j => by
        have hsrc : F1 98 (x + (n - 1 - i)) = F 98 (x + (n - 1 - i)) := by
          rw [h2, if_neg (by omega)]
        by_cases hj : j = y + (n - 1 - i)
        · rw [hj, zup_eq, if_pos (by omega), hsrc, show y + (n - 1 - i) - y = n - 1 - i by omega]
        · rw [zup_col hj, h2 j]
          by_cases q : y + (n - i) ≤ j ∧ j < y + n
          · rw [if_pos (by omega), if_pos (by omega)]
          · rw [if_neg (by omega), if_neg (by omega)])
      refine ⟨F', g_M_copy_147 l1 l2 l3 l4 n x y i _ ?_, e2, e3⟩
      have k1 : zsub (zsub (n : Int) 1) i = ((n - 1 - i : Nat) : Int) := by rw [zsub_eq (x := (n : Int)) (by omega) (by omega), zsub_eq (by omega) (by omega)]; omega
      have k2 : zadd (x : Int) ((n - 1 - i : Nat) : Int) = ((x + (n - 1 - i) : Nat) : Int) := by rw [zadd_eq (by omega) (by omega)]; omega
      have k3 : zadd (y : Int) ((n - 1 - i : Nat) : Int) = ((y + (n - 1 - i) : Nat) : Int) := by rw [zadd_eq (by omega) (by omega)]; omega
      have g1 : 0 ≤ ((x + (n - 1 - i) : Nat) : Int) ∧ ((x + (n - 1 - i) : Nat) : Int) < 160 := by omega
      have g2 : 0 ≤ ((y + (n - 1 - i) : Nat) : Int) ∧ ((y + (n - 1 - i) : Nat) : Int) < 160 := by omega
      rw [if_pos (by omega), if_pos (by omega), k1, k2, k3, if_pos g1, if_pos g2, Int.toNat_natCast, Int.toNat_natCast, zadd_eq (by omega) (by omega), ← zcast1]
      exact e1
    · obtain ⟨F', e1, e2, e3⟩ := ih (i + 1) (zup F1 98 (y + i) (F1 98 (x + i))) (by omega) (fun r hr => by rw [zup_row hr, h1 r hr]) (fun j => by
        have hsrc : F1 98 (x + i) = F 98 (x + i) := by
          rw [h2, if_neg (by omega)]
        by_cases hj : j = y + i
        · rw [hj, zup_eq, if_pos (by omega), hsrc, show y + i - y = i by omega]
        · rw [zup_col hj, h2 j]
          by_cases q : y ≤ j ∧ j < y + i
          · rw [if_pos (by omega), if_pos (by omega)]
          · rw [if_neg (by omega), if_neg (by omega)])
      refine ⟨F', g_M_copy_147 l1 l2 l3 l4 n x y i _ ?_, e2, e3⟩
      have k2 : zadd (x : Int) (i : Int) = ((x + i : Nat) : Int) := by rw [zadd_eq (by omega) (by omega)]; omega
      have k3 : zadd (y : Int) (i : Int) = ((y + i : Nat) : Int) := by rw [zadd_eq (by omega) (by omega)]; omega
      have g1 : 0 ≤ ((x + i : Nat) : Int) ∧ ((x + i : Nat) : Int) < 160 := by omega
      have g2 : 0 ≤ ((y + i : Nat) : Int) ∧ ((y + i : Nat) : Int) < 160 := by omega
      rw [if_pos (by omega), if_neg (by omega), k2, k3, if_pos g1, if_pos g2, Int.toNat_natCast, Int.toNat_natCast, zadd_eq (by omega) (by omega), ← zcast1]
      exact e1
theorem a_copy (hd : 2 ≤ d) (A : zAll ρ p F G) (s i t j n : Int) : zStep d 38 133 [zI s, zI i, zI t, zI j, zI n] F G := by
  obtain ⟨d, rfl⟩ := zds (show 1 ≤ d by omega)
  have A0 := A
  obtain ⟨nn, a2, a3, a4, a5, a6, a7, a8, s1, s2, s3, s4⟩ := A
  by_cases c1 : 0 ≤ s ∧ s ≤ 3
  · obtain ⟨S, rfl⟩ := Int.eq_ofNat_of_zero_le c1.1
    have gs : 0 ≤ (S : Int) ∧ (S : Int) < 4 := by omega
    have us := s3 S (by omega)
    by_cases c2 : 0 ≤ t ∧ t ≤ 3
    · obtain ⟨T, rfl⟩ := Int.eq_ofNat_of_zero_le c2.1
      have gt : 0 ≤ (T : Int) ∧ (T : Int) < 4 := by omega
      have ut := s3 T (by omega)
      by_cases c3 : F 96 S = -1
      · refine A0.same (v := -11) (g_C_copy S i T j n _ ?_) (g_M_copy S i T j n _ ?_)
        · rw [s_isSheet (by omega), zbI_some, zp_t c1, if_neg (by decide), s_isSheet (by omega), zbI_some, zp_t c2, if_neg (by decide), s_isThereSheet (by omega) c1, zbI_some, s1, Int.toNat_natCast, zp_f (fun q => q c3), if_pos rfl]
        · rw [m_in (by omega), zbI_some, zp_t c1, if_neg (by decide), m_in (by omega), zbI_some, zp_t c2, if_neg (by decide), if_pos gs, Int.toNat_natCast, if_pos c3]
      · by_cases c4 : F 96 T = -1
        · refine A0.same (v := -11) (g_C_copy S i T j n _ ?_) (g_M_copy S i T j n _ ?_)
          · rw [s_isSheet (by omega), zbI_some, zp_t c1, if_neg (by decide), s_isSheet (by omega), zbI_some, zp_t c2, if_neg (by decide), s_isThereSheet (by omega) c1, zbI_some, s1, Int.toNat_natCast, zp_t c3, if_neg (by decide), s_isThereSheet (by omega) c2, zbI_some, s1, Int.toNat_natCast, zp_f (fun q => q c4), if_pos rfl]
          · rw [m_in (by omega), zbI_some, zp_t c1, if_neg (by decide), m_in (by omega), zbI_some, zp_t c2, if_neg (by decide), if_pos gs, Int.toNat_natCast, if_neg c3, if_pos gt, Int.toNat_natCast, if_pos c4]
        · by_cases c5 : F 96 S = F 96 T
          · by_cases c6 : (0 ≤ i ∧ 0 ≤ n ∧ i + n ≤ F 97 S) ∧ (0 ≤ j ∧ 0 ≤ n ∧ j + n ≤ F 97 T)
            · obtain ⟨I, rfl⟩ := Int.eq_ofNat_of_zero_le c6.1.1
              obtain ⟨J, rfl⟩ := Int.eq_ofNat_of_zero_le c6.2.1
              obtain ⟨N, rfl⟩ := Int.eq_ofNat_of_zero_le c6.1.2.1
              obtain ⟨y1, y2⟩ := z_cellat (s := S) (i := I) (by omega) (by omega)
              obtain ⟨x1, x2⟩ := z_cellat (s := T) (i := J) (by omega) (by omega)
              have W : zex d 214 [zR 67, zI S, zI I, zI T, zI J, zI N] (F, G, zsg) = some (none, zcpy F 70 (40 * S + I) 70 (40 * T + J) N, G, zsg) := by
                obtain ⟨d, rfl⟩ := zds (show 1 ≤ d by omega)
                refine g_Sheets_copyPart _ _ _ _ _ _ ?_
                rw [y1, x1, Int.toNat_natCast, Int.toNat_natCast, Int.toNat_natCast, if_pos (by omega)]
              obtain ⟨F', e1, e2, e3⟩ := m_moved (d := d) (F := zcpy F 70 (40 * S + I) 70 (40 * T + J) N) (G := G) (l1 := S) (l2 := I) (l3 := T) (l4 := J) (n := N) (x := 40 * S + I) (y := 40 * T + J) (by omega) (by omega) (by omega) N 0 (zcpy F 70 (40 * S + I) 70 (40 * T + J) N) (by omega) (fun _ _ => rfl) (fun y => by
                rw [if_neg (by omega)])
              have hF : ∀ r, r ≠ 98 → r ≠ 70 → F' r = F r := fun r r1 r2 => by rw [e2 r r1, zcpy_row r2]
              have c96 : zcpy F 70 (40 * S + I) 70 (40 * T + J) N 96 = F 96 := zcpy_row (by decide)
              have c97 : zcpy F 70 (40 * S + I) 70 (40 * T + J) N 97 = F 97 := zcpy_row (by decide)
              refine ⟨N, zcpy F 70 (40 * S + I) 70 (40 * T + J) N, G, F', G, g_C_copy S I T J N _ ?_, g_M_copy S I T J N _ ?_, ρ, p, A0.sh ⟨fun r hr _ => ?_, fun y _ => ?_⟩ ⟨by rw [hF 68 (by decide) (by decide), hF 96 (by decide) (by decide)]; exact s1, by rw [hF 69 (by decide) (by decide), hF 97 (by decide) (by decide)]; exact s2, by rw [hF 96 (by decide) (by decide), hF 97 (by decide) (by decide)]; exact s3, fun y x hy hx => ?_⟩⟩
              · rw [s_isSheet (by omega), zbI_some, zp_t c1, if_neg (by decide), s_isSheet (by omega), zbI_some, zp_t c2, if_neg (by decide), s_isThereSheet (by omega) c1, zbI_some, s1, Int.toNat_natCast, zp_t c3, if_neg (by decide), s_isThereSheet (by omega) c2, zbI_some, s1, Int.toNat_natCast, zp_t c4, if_neg (by decide), if_pos gs, if_pos gt, if_pos c5, s_isPart (by omega) (by omega) (by rw [s2]; exact us.2), zbI_some, s2, zp_t c6.1, if_neg (by decide), s_isPart (by omega) (by omega) (by rw [s2]; exact ut.2), zbI_some, s2, zp_t c6.2, if_neg (by decide), W, zbV_some]
              · rw [m_in (by omega), zbI_some, zp_t c1, if_neg (by decide), m_in (by omega), zbI_some, zp_t c2, if_neg (by decide), if_pos gs, Int.toNat_natCast, c96, c97, if_neg c3, if_pos gt, Int.toNat_natCast, if_neg c4, if_pos gs, if_pos gt, if_pos c5, if_neg (by omega), if_neg (by omega), if_neg (by omega), if_pos gs, if_neg (by omega), if_pos gt, if_neg (by omega), if_pos gs, zsub_eq (by omega) (by omega), if_neg (by omega), if_pos gt, zsub_eq (by omega) (by omega), if_neg (by omega), y2, x2]
                exact e1
              · simp only [List.mem_cons, List.not_mem_nil, or_false, not_or] at hr
                exact hF r (by omega) (by omega)
              · rw [hF 71 (by decide) (by decide)]
              · rw [hF 97 (by decide) (by decide)] at hx
                rw [e2 70 (by decide), e3, zcpy_row (a := 98) (by decide)]
                have uy := s3 y hy
                have ev : zcpy F 70 (40 * S + I) 70 (40 * T + J) N 70 (40 * y + x) = if 40 * T + J ≤ 40 * y + x ∧ 40 * y + x < 40 * T + J + N then F 70 (40 * S + I + (40 * y + x - (40 * T + J))) else F 70 (40 * y + x) := by simp [zcpy]
                rw [ev]
                by_cases q : 40 * T + J ≤ 40 * y + x ∧ 40 * y + x < 40 * T + J + N
                · rw [if_pos q, if_pos q, Nat.add_assoc]
                  exact s4 S _ (by omega) (by omega)
                · rw [if_neg q, if_neg q]
                  exact s4 y x hy hx
            · refine A0.same (v := -12) (g_C_copy S i T j n _ ?_) (g_M_copy S i T j n _ ?_)
              · rw [s_isSheet (by omega), zbI_some, zp_t c1, if_neg (by decide), s_isSheet (by omega), zbI_some, zp_t c2, if_neg (by decide), s_isThereSheet (by omega) c1, zbI_some, s1, Int.toNat_natCast, zp_t c3, if_neg (by decide), s_isThereSheet (by omega) c2, zbI_some, s1, Int.toNat_natCast, zp_t c4, if_neg (by decide), if_pos gs, if_pos gt, if_pos c5, s_isPart (by omega) (by omega) (by rw [s2]; exact us.2), zbI_some, s2]
                by_cases c7 : 0 ≤ i ∧ 0 ≤ n ∧ i + n ≤ F 97 S
                · rw [zp_t c7, if_neg (by decide), s_isPart (by omega) (by omega) (by rw [s2]; exact ut.2), zbI_some, s2, zp_f (fun q => c6 ⟨c7, q⟩), if_pos rfl]
                · rw [zp_f c7, if_pos rfl]
              · rw [m_in (by omega), zbI_some, zp_t c1, if_neg (by decide), m_in (by omega), zbI_some, zp_t c2, if_neg (by decide), if_pos gs, Int.toNat_natCast, if_neg c3, if_pos gt, Int.toNat_natCast, if_neg c4, if_pos gs, if_pos gt, if_pos c5]
                by_cases q1 : n < 0
                · rw [if_pos q1]
                · rw [if_neg q1]
                  by_cases q2 : i < 0
                  · rw [if_pos q2]
                  · rw [if_neg q2]
                    by_cases q3 : j < 0
                    · rw [if_pos q3]
                    · rw [if_neg q3, if_pos gs]
                      by_cases q4 : F 97 S < i
                      · rw [if_pos q4]
                      · rw [if_neg q4, if_pos gt]
                        by_cases q5 : F 97 T < j
                        · rw [if_pos q5]
                        · rw [if_neg q5, if_pos gs, zsub_eq (by omega) (by omega)]
                          by_cases q6 : F 97 S - i < n
                          · rw [if_pos q6]
                          · rw [if_neg q6, if_pos gt, zsub_eq (by omega) (by omega), if_pos (by omega)]
          · refine A0.same (v := -13) (g_C_copy S i T j n _ ?_) (g_M_copy S i T j n _ ?_)
            · rw [s_isSheet (by omega), zbI_some, zp_t c1, if_neg (by decide), s_isSheet (by omega), zbI_some, zp_t c2, if_neg (by decide), s_isThereSheet (by omega) c1, zbI_some, s1, Int.toNat_natCast, zp_t c3, if_neg (by decide), s_isThereSheet (by omega) c2, zbI_some, s1, Int.toNat_natCast, zp_t c4, if_neg (by decide), if_pos gs, if_pos gt, if_neg c5]
            · rw [m_in (by omega), zbI_some, zp_t c1, if_neg (by decide), m_in (by omega), zbI_some, zp_t c2, if_neg (by decide), if_pos gs, Int.toNat_natCast, if_neg c3, if_pos gt, Int.toNat_natCast, if_neg c4, if_pos gs, if_pos gt, if_neg c5]
    · refine A0.same (v := -2) (g_C_copy S i t j n _ ?_) (g_M_copy S i t j n _ ?_)
      · rw [s_isSheet (by omega), zbI_some, zp_t c1, if_neg (by decide), s_isSheet (by omega), zbI_some, zp_f c2, if_pos rfl]
      · rw [m_in (by omega), zbI_some, zp_t c1, if_neg (by decide), m_in (by omega), zbI_some, zp_f c2, if_pos rfl]
  · refine A0.same (v := -2) (g_C_copy s i t j n _ ?_) (g_M_copy s i t j n _ ?_)
    · rw [s_isSheet (by omega), zbI_some, zp_f c1, if_pos rfl]
    · rw [m_in (by omega), zbI_some, zp_f c1, if_pos rfl]
end
