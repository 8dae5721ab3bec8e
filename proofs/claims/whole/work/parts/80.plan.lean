/-! plans: both sides alike -/
section
variable {d e : Nat} {F F' ρ Φ : zM} {G G' Γ : zG} {p : Nat → Int} {h a c n v w : Int} {pl : Nat → Int}
theorem zQ_plru (hC : zQC Φ Γ F G) (hM : zQM Φ Γ F G) (hQ : zQV Φ) : zPl F ∧ zRu F G := by
  obtain ⟨⟨k0, k1, k2, k3, k4, k5, k6, k7⟩, k8, k9, k10, k11⟩ := hC
  obtain ⟨m1, m2, m3⟩ := hM
  have m19 := m1 19 (by decide)
  have m23 := m1 23 (by decide)
  have m24 := m1 24 (by decide)
  have m31 := m1 31 (by decide)
  have m32 := m1 32 (by decide)
  refine ⟨⟨?_, ?_, ?_, ?_, ?_, ?_, ?_⟩, ?_, ?_, ?_, ?_, ?_, ?_, ?_, ?_, ?_⟩
  · rw [m23, m19]; exact k9
  · rw [m23]; exact k10
  · rw [m32]; exact k8
  · rw [m19]; rcases hQ.2 with ⟨q1, q2⟩ | ⟨q1, q2, q3⟩ <;> omega
  · rw [m23, m19]; intro q; rcases hQ.2 with ⟨q1, q2⟩ | ⟨q1, q2, q3⟩ <;> omega
  · rw [m23]; rcases hQ.2 with ⟨q1, q2⟩ | ⟨q1, q2, q3⟩ <;> omega
  · rw [m19, m2 85 (by decide), m2 86 (by decide), m2 87 (by decide)]; exact k11
  · rw [m24]; exact k0
  · rw [m24]; exact hQ.1
  · rw [m31]; exact k1
  · rw [m2 88 (by decide)]; exact k2
  · rw [m2 89 (by decide)]; exact k3
  · rw [m2 90 (by decide)]; exact k4
  · rw [m2 91 (by decide)]; exact k5
  · rw [m2 92 (by decide)]; exact k6
  · rw [m3]; exact k7
theorem zAll.plan {F2 : zM} {G2 : zG} (A : zAll ρ p F G) (hc : zch [44, 22, 23, 24, 25, 26, 27, 28, 29, 30, 31, 32, 53, 54, 55, 56, 57, 58, 60, 61, 62, 63, 85, 86, 87, 88, 89, 90, 91, 92, 99, 100] [19, 23, 24, 31, 32, 44, 45, 46, 47] F F2) (hG : G2 6 = G 6) (hp : zPl F2 ∧ zRu F2 G2) : zAll ρ p F2 G2 := by
  obtain ⟨nn, a2, a3, a4, a5, a6, a7, a8, a9⟩ := A
  have e64 : F2 64 = F 64 := hc.1 64 (by decide) (by decide)
  exact ⟨nn.ch hc ⟨hG, trivial⟩, a2, a3.ch hc, a4.ch hc, a5.ch hc, hp.1, hp.2, a8.ch hc (by decide) (by decide) (by rw [e64]) (by rw [e64]), a9.ch hc⟩
theorem s_numAt (hd : 1 ≤ d) {k : Nat} (hw : 0 ≤ w ∧ w < 4) (hk : k < 40) : zex d 211 [zR 67, zI w, zI k] (F, G, zsg) = some (some (zI (F 70 (40 * w.toNat + k))), F, G, zsg) := by
  obtain ⟨d, rfl⟩ := zds hd
  have z : zadd (zmul w 40) k = w * 40 + k := by rw [zmul_eq (by omega) (by omega), zadd_eq (by omega) (by omega)]
  refine g_Sheets_numberAt _ _ _ ?_
  rw [z, if_pos (by omega), show (w * 40 + (k : Int)).toNat = 40 * w.toNat + k by omega]
/-- both sides look through the sheet -/
theorem c_cells (hd : 1 ≤ d) (hw : 0 ≤ w ∧ w < 4) (h69 : F 69 w.toNat = n) (hn : 0 ≤ n ∧ n ≤ 40) (h70 : ∀ k : Nat, (k : Int) < n → F 70 (40 * w.toNat + k) = pl k) : ∀ (m k : Nat), (k : Int) + m = n →
    ((∀ j : Nat, k ≤ j → (j : Int) < n → 0 ≤ pl j ∧ pl j < 64) → ∀ r, zev zX0 d (28, 82, [zR 5, zI h, zI a, zI c, zI v, zI w, zI n], [], F, G, zsg) = some r → zev zX0 d (28, 82, [zR 5, zI h, zI a, zI c, zI v, zI w, zI k], [], F, G, zsg) = some r) ∧
    ((∃ j : Nat, k ≤ j ∧ (j : Int) < n ∧ ¬ (0 ≤ pl j ∧ pl j < 64)) → zev zX0 d (28, 82, [zR 5, zI h, zI a, zI c, zI v, zI w, zI k], [], F, G, zsg) = some (some (zI (-2)), F, G, zsg)) := by
  intro m
  induction m with
  | zero =>
    intro k hk
    have : (k : Int) = n := by omega
    rw [this]
    exact ⟨fun _ r hr => hr, fun ⟨j, q1, q2, _⟩ => by omega⟩
  | succ m ih =>
    intro k hk
    obtain ⟨i1, i2⟩ := ih (k + 1) (by omega)
    have hk1 : zadd (k : Int) 1 = k + 1 := zadd_eq (by omega) (by omega)
    refine ⟨fun hg r hr => ?_, fun ⟨j, q1, q2, q3⟩ => ?_⟩
    · have := i1 (fun j hj => hg j (by omega)) r hr
      rw [zcast1] at this
      refine g_C_plan_82 _ _ _ _ _ _ _ ?_
      rw [if_pos hw, h69, if_pos (by omega), s_numAt hd hw (by omega), zbI_some, h70 k (by omega), s_isCell hd, zbI_some, zp_t (hg k (Nat.le_refl _) (by omega)), if_neg (by decide), hk1]
      exact this
    · refine g_C_plan_82 _ _ _ _ _ _ _ ?_
      rw [if_pos hw, h69, if_pos (by omega), s_numAt hd hw (by omega), zbI_some, h70 k (by omega), s_isCell hd, zbI_some, hk1]
      by_cases c1 : 0 ≤ pl k ∧ pl k < 64
      · rw [zp_t c1, if_neg (by decide)]
        have := i2 ⟨j, by
          by_cases hj : j = k
          · subst hj; exact absurd c1 q3
          · omega, q2, q3⟩
        rw [zcast1] at this
        exact this
      · rw [zp_f c1, if_pos rfl]
theorem m_bad (hw : 0 ≤ w ∧ w < 4) (k : Int) : zev zX0 d (123, 83, [zR 71, zI h, zI a, zI c, zI v, zI w, zI 0, zI k], [], F, G, zsg) = some (some (zI (-2)), F, G, zsg) := by
  refine g_M_plan_83 _ _ _ _ _ _ _ _ ?_
  rw [if_pos hw]
  by_cases q : k < F 97 w.toNat
  · rw [if_pos q, if_pos rfl, if_pos rfl]
  · rw [if_neg q, if_pos rfl]
theorem m_cells (hd : 2 ≤ d) (hw : 0 ≤ w ∧ w < 4) (hY : zPY w n pl F) (hn : 0 ≤ n ∧ n ≤ 40) : ∀ (m k : Nat), (k : Int) + m = n →
    ((∀ j : Nat, k ≤ j → (j : Int) < n → 0 ≤ pl j ∧ pl j < 64) → ∀ r, zev zX0 d (123, 83, [zR 71, zI h, zI a, zI c, zI v, zI w, zI 1, zI n], [], F, G, zsg) = some r → zev zX0 d (123, 83, [zR 71, zI h, zI a, zI c, zI v, zI w, zI 1, zI k], [], F, G, zsg) = some r) ∧
    ((∃ j : Nat, k ≤ j ∧ (j : Int) < n ∧ ¬ (0 ≤ pl j ∧ pl j < 64)) → zev zX0 d (123, 83, [zR 71, zI h, zI a, zI c, zI v, zI w, zI 1, zI k], [], F, G, zsg) = some (some (zI (-2)), F, G, zsg)) := by
  intro m
  induction m with
  | zero =>
    intro k hk
    have : (k : Int) = n := by omega
    rw [this]
    exact ⟨fun _ r hr => hr, fun ⟨j, q1, q2, _⟩ => by omega⟩
  | succ m ih =>
    intro k hk
    obtain ⟨i1, i2⟩ := ih (k + 1) (by omega)
    have hk1 : zadd (k : Int) 1 = k + 1 := zadd_eq (by omega) (by omega)
    have z40 : zadd (zmul 40 w) k = 40 * w + k := by rw [zmul_eq (by omega) (by omega), zadd_eq (by omega) (by omega)]
    have t40 : (40 * w + (k : Int)).toNat = 40 * w.toNat + k := by omega
    have g160 : 0 ≤ 40 * w + (k : Int) ∧ 40 * w + (k : Int) < 160 := by omega
    refine ⟨fun hg r hr => ?_, fun ⟨j, q1, q2, q3⟩ => ?_⟩
    · have := i1 (fun j hj => hg j (by omega)) r hr
      rw [zcast1] at this
      refine g_M_plan_83 _ _ _ _ _ _ _ _ ?_
      rw [if_pos hw, hY.1, if_pos (by omega), if_neg (by decide), z40, if_pos g160, t40, hY.2 k (by omega), m_isCell (by omega), zbI_some, zp_t (hg k (Nat.le_refl _) (by omega)), hk1]
      exact this
    · refine g_M_plan_83 _ _ _ _ _ _ _ _ ?_
      rw [if_pos hw, hY.1, if_pos (by omega), if_neg (by decide), z40, if_pos g160, t40, hY.2 k (by omega), m_isCell (by omega), zbI_some, hk1]
      by_cases c1 : 0 ≤ pl k ∧ pl k < 64
      · rw [zp_t c1]
        have := i2 ⟨j, by
          by_cases hj : j = k
          · subst hj; exact absurd c1 q3
          · omega, q2, q3⟩
        rw [zcast1] at this
        exact this
      · rw [zp_f c1]
        exact m_bad hw _
/-- the class takes the places over -/
theorem c_places (hd : 1 ≤ d) (hw : 0 ≤ w ∧ w < 4) (hn : 0 ≤ n ∧ n ≤ 5) : ∀ (m k : Nat) (F : zM), (k : Int) + m = n → F 69 w.toNat = n → (∀ k : Nat, (k : Int) < n → F 70 (40 * w.toNat + k) = pl k) → F 60 5 = k → (∀ j : Nat, j < k → F 61 j = pl j) →
    ∃ F', (∀ r, zev zX0 d (28, 188, [zR 5, zI h, zI a, zI c, zI v, zI w, zI n], [], F', G, zsg) = some r → zev zX0 d (28, 188, [zR 5, zI h, zI a, zI c, zI v, zI w, zI k], [], F, G, zsg) = some r) ∧ F' 60 5 = n ∧ (∀ j : Nat, (j : Int) < n → F' 61 j = pl j) ∧ (∀ r, r ≠ 60 → r ≠ 61 → F' r = F r) ∧ (∀ j, j ≠ 5 → F' 60 j = F 60 j) := by
  intro m
  induction m with
  | zero =>
    intro k F hk h69 h70 h5 h61
    have hkn : (k : Int) = n := by omega
    refine ⟨F, fun r hr => ?_, by rw [h5]; exact hkn, fun j hj => h61 j (by omega), fun _ _ _ => rfl, fun _ _ => rfl⟩
    rw [hkn]
    exact hr
  | succ m ih =>
    intro k F hk h69 h70 h5 h61
    have hk1 : zadd (k : Int) 1 = k + 1 := zadd_eq (by omega) (by omega)
    have r69 : zup (zup F 60 5 ((k : Int) + 1)) 61 k (pl k) 69 = F 69 := by rw [zup_row (by decide), zup_row (by decide)]
    have r70 : zup (zup F 60 5 ((k : Int) + 1)) 61 k (pl k) 70 = F 70 := by rw [zup_row (by decide), zup_row (by decide)]
    obtain ⟨F', i1, i2, i3, i4, i5⟩ := ih (k + 1) (zup (zup F 60 5 ((k : Int) + 1)) 61 k (pl k)) (by omega) (by rw [r69]; exact h69) (by rw [r70]; exact h70) (by rw [zup_row (by decide), zup_eq]; omega) (fun j hj => by
      by_cases q : j = k
      · subst q; exact zup_eq
      · rw [zup_col q, zup_row (by decide)]; exact h61 j (by omega))
    refine ⟨F', fun r hr => ?_, i2, i3, fun r q1 q2 => by rw [i4 r q1 q2, zup_row q2, zup_row q1], fun j hj => by rw [i5 j hj, zup_row (by decide), zup_col hj]⟩
    have := i1 r hr
    rw [zcast1] at this
    refine g_C_plan_188 _ _ _ _ _ _ _ ?_
    have hadd : zex d 182 [zR 60, zI (pl k)] (F, G, zsg) = some (none, zup (zup F 60 5 ((k : Int) + 1)) 61 k (pl k), G, zsg) := by
      obtain ⟨d, rfl⟩ := zds hd
      refine g_Planner_addPlace _ _ ?_
      rw [h5, if_pos (by omega), if_pos (by omega), hk1, Int.toNat_natCast]
    rw [if_pos hw, h69, if_pos (by omega), s_numAt hd hw (by omega), zbI_some, h70 k (by omega), hadd, zbV_some, hk1]
    exact this
theorem a_plan (hd : 14 ≤ d) (A0 : zAll ρ p F G) (h a c v w : Int) : zStep d 28 123 [zI h, zI a, zI c, zI v, zI w] F G := by
  obtain ⟨d, rfl⟩ := zds (show 1 ≤ d by omega)
  have N := A0.1
  obtain ⟨⟨n1, n2, n3, n4, n5, n6⟩, a2, a3, a4, a5, a6, a7, a8, a9⟩ := A0
  have A0 : zAll ρ p F G := ⟨⟨n1, n2, n3, n4, n5, n6⟩, a2, a3, a4, a5, a6, a7, a8, a9⟩
  have hn8 := n5.1.2
  by_cases c1 : (0 ≤ h ∧ h ≤ 1) ∧ p (28 + h).toNat ≠ -1
  · by_cases c2 : 0 ≤ a ∧ a < ρ 71 8
    · by_cases c3 : 0 ≤ c ∧ c < 64
      · by_cases c4 : 0 ≤ w ∧ w ≤ 3
        · have hh : h = 0 ∨ h = 1 := by omega
          have hc1 : p (28 + h.toNat) ≠ -1 := by rw [← show (28 + h).toNat = 28 + h.toNat by omega]; exact c1.2
          have g4 : 0 ≤ w ∧ w < 4 := by omega
          have e68 : F 68 w.toNat = F 96 w.toNat := by rw [a9.1]
          have e69 : F 69 w.toNat = F 97 w.toNat := by rw [a9.2.1]
          have hsz := (a9.2.2.1 w.toNat (by omega)).2
          by_cases c5 : F 96 w.toNat = -1
          · refine A0.same (v := -11) (g_C_plan _ _ _ _ _ _ ?_) (g_M_plan _ _ _ _ _ _ ?_)
            · rw [N.pres (by omega), zbI_some, zp_t c1, if_neg (by decide), s_isThing (by omega) n2, zbI_some, zp_t c2, if_neg (by decide), s_isCell (by omega), zbI_some, zp_t c3, if_neg (by decide), s_isSheet (by omega), zbI_some, zp_t c4, if_neg (by decide), s_isThereSheet (by omega) c4, zbI_some, zp_f (by rw [e68]; exact fun q => q c5), if_pos rfl]
            · rw [m_isThere (by omega) n4, zbI_some, zp_t c1, if_neg (by decide), m_isThing (by omega) n3 n5, zbI_some, zp_t c2, if_neg (by decide), m_isCell (by omega), zbI_some, zp_t c3, if_neg (by decide), m_in (by omega), zbI_some, zp_t c4, if_neg (by decide), if_pos g4, if_pos c5]
          · -- what both sides do up to the look through the sheet
            have preC : ∀ r, (if 5 < F 97 w.toNat then some (some (zI (-2)), F, G, zsg) else if v < 0 then some (some (zI (-2)), F, G, zsg) else if 255 < v then some (some (zI (-2)), F, G, zsg) else zev zX0 d (28, 82, [zR 5, zI h, zI a, zI c, zI v, zI w, zI 0], [], F, G, zsg)) = some r → zex (d + 1) 28 [zR 5, zI h, zI a, zI c, zI v, zI w] (F, G, zsg) = some r := by
              intro r hr
              refine g_C_plan _ _ _ _ _ _ ?_
              rw [N.pres (by omega), zbI_some, zp_t c1, if_neg (by decide), s_isThing (by omega) n2, zbI_some, zp_t c2, if_neg (by decide), s_isCell (by omega), zbI_some, zp_t c3, if_neg (by decide), s_isSheet (by omega), zbI_some, zp_t c4, if_neg (by decide), s_isThereSheet (by omega) c4, zbI_some, zp_t (by rw [e68]; exact c5), if_neg (by decide), if_pos g4, e69]
              exact hr
            have preM : ∀ (F1 : zM) (G1 : zG), zMR ρ F1 → F1 72 = p → F1 96 = F 96 → F1 97 = F 97 → ∀ r, (if 5 < F 97 w.toNat then zev zX0 d (123, 83, [zR 71, zI h, zI a, zI c, zI v, zI w, zI 0, zI 0], [], F1, G1, zsg) else if zp (0 ≤ v ∧ v ≤ 255) = 0 then zev zX0 d (123, 83, [zR 71, zI h, zI a, zI c, zI v, zI w, zI 0, zI 0], [], F1, G1, zsg) else zev zX0 d (123, 83, [zR 71, zI h, zI a, zI c, zI v, zI w, zI 1, zI 0], [], F1, G1, zsg)) = some r → zex (d + 1) 123 [zR 71, zI h, zI a, zI c, zI v, zI w] (F1, G1, zsg) = some r := by
              intro F1 G1 hR1 hp1 h96 h97 r hr
              refine g_M_plan _ _ _ _ _ _ ?_
              rw [m_isThere (by omega) hp1, zbI_some, zp_t c1, if_neg (by decide), m_isThing (by omega) hR1 n5, zbI_some, zp_t c2, if_neg (by decide), m_isCell (by omega), zbI_some, zp_t c3, if_neg (by decide), m_in (by omega), zbI_some, zp_t c4, if_neg (by decide), if_pos g4, h96, if_neg c5, if_pos g4, h97, m_in (by omega), zbI_some]
              exact hr
            by_cases c6 : F 97 w.toNat ≤ 5 ∧ 0 ≤ v ∧ v ≤ 255
            · obtain ⟨c6, c7⟩ := c6
              have preC' : ∀ r, zev zX0 d (28, 82, [zR 5, zI h, zI a, zI c, zI v, zI w, zI 0], [], F, G, zsg) = some r → zex (d + 1) 28 [zR 5, zI h, zI a, zI c, zI v, zI w] (F, G, zsg) = some r := fun r hr => preC r (by rw [if_neg (by omega), if_neg (by omega), if_neg (by omega)]; exact hr)
              have preM' : ∀ (F1 : zM) (G1 : zG), zMR ρ F1 → F1 72 = p → F1 96 = F 96 → F1 97 = F 97 → ∀ r, zev zX0 d (123, 83, [zR 71, zI h, zI a, zI c, zI v, zI w, zI 1, zI 0], [], F1, G1, zsg) = some r → zex (d + 1) 123 [zR 71, zI h, zI a, zI c, zI v, zI w] (F1, G1, zsg) = some r := fun F1 G1 q1 q2 q3 q4 r hr => preM F1 G1 q1 q2 q3 q4 r (by rw [if_neg (by omega), zp_t c7, if_neg (by decide)]; exact hr)
              clear preC preM
              generalize hnn : F 97 w.toNat = n at *
              have hY0 : zPY w n (fun k => F 98 (40 * w.toNat + k)) F := ⟨hnn, fun _ _ => rfl⟩
              have h70 : ∀ k : Nat, (k : Int) < n → F 70 (40 * w.toNat + k) = F 98 (40 * w.toNat + k) := fun k hk => a9.2.2.2 w.toNat k (by omega) (by rw [hnn]; exact hk)
              generalize hpl : (fun k => F 98 (40 * w.toNat + k)) = pl at hY0
              have h70 : ∀ k : Nat, (k : Int) < n → F 70 (40 * w.toNat + k) = pl k := fun k hk => by rw [h70 k hk, ← hpl]
              by_cases hg : ∀ j : Nat, 0 ≤ j → (j : Int) < n → 0 ≤ pl j ∧ pl j < 64
              · have gC := (c_cells (d := d) (G := G) (h := h) (a := a) (c := c) (v := v) (by omega) g4 e69 hsz h70 n.toNat 0 (by omega)).1 hg
                rw [show ((0 : Nat) : Int) = 0 from rfl] at gC
                have g8 : 0 ≤ a ∧ a < 8 := by omega
                have e12 : F 12 a.toNat = p a.toNat := (n1.at g8.1 g8.2).1
                have e13 : F 13 a.toNat = p (8 + a.toNat) := (n1.at g8.1 g8.2).2.1
                have e16 : F 16 h.toNat = p (30 + h.toNat) := (n1.hn hh).2.1
                have r30 := n6.2.2.1 h.toNat (by omega)
                have r8 := n6.2.2.2.1 a.toNat (by omega)
                have z0 : zadd 0 a = a := by rw [zadd_eq (by omega) (by omega), Int.zero_add]
                have z8 : zadd 8 a = 8 + a := zadd_eq (by omega) (by omega)
                have t8 : (8 + a).toNat = 8 + a.toNat := by omega
                have z30 : zadd 30 h = 30 + h := zadd_eq (by omega) (by omega)
                have t30 : (30 + h).toNat = 30 + h.toNat := by omega
                have g43 : 0 ≤ a ∧ a < 43 := by omega
                have g43a : 0 ≤ 8 + a ∧ 8 + a < 43 := by omega
                have g43h : 0 ≤ 30 + h ∧ 30 + h < 43 := by omega
                -- forget
                have hfo : zex d 179 [zR 60] (F, G, zsg) = some (none, zup (zup (zup F 60 11 (-1)) 60 12 0) 60 10 0, G, zsg) := by
                  obtain ⟨d, rfl⟩ := zds (show 1 ≤ d by omega)
                  exact g_Planner_forget _ rfl
                have f11 : zup (zup (zup F 60 11 (-1)) 60 12 0) 60 10 0 60 11 = -1 := by rw [zup_col (by decide), zup_col (by decide), zup_eq]
                have f10 : zup (zup (zup F 60 11 (-1)) 60 12 0) 60 10 0 60 10 = 0 := zup_eq
                have f12 : zup (zup (zup F 60 11 (-1)) 60 12 0) 60 10 0 60 12 = 0 := by rw [zup_col (by decide), zup_eq]
                have fo : ∀ r, r ≠ 60 → zup (zup (zup F 60 11 (-1)) 60 12 0) 60 10 0 r = F r := fun r hr => by rw [zup_row hr, zup_row hr, zup_row hr]
                generalize zup (zup (zup F 60 11 (-1)) 60 12 0) 60 10 0 = F1 at hfo f11 f10 f12 fo
                -- what is forgotten there
                have q19 : ∀ F : zM, zup (zup (zup F 71 19 0) 71 32 0) 71 23 (-1) 71 19 = 0 := fun F => by rw [zup_col (by decide), zup_col (by decide), zup_eq]
                have q32 : ∀ F : zM, zup (zup (zup F 71 19 0) 71 32 0) 71 23 (-1) 71 32 = 0 := fun F => by rw [zup_col (by decide), zup_eq]
                have q23 : ∀ F : zM, zup (zup (zup F 71 19 0) 71 32 0) 71 23 (-1) 71 23 = -1 := fun F => zup_eq
                have qo : ∀ (F : zM) (j : Nat), j ≠ 19 → j ≠ 32 → j ≠ 23 → zup (zup (zup F 71 19 0) 71 32 0) 71 23 (-1) 71 j = F 71 j := fun F j j1 j2 j3 => by rw [zup_col j3, zup_col j2, zup_col j1]
                have qr : ∀ (F : zM) (r : Nat), r ≠ 71 → zup (zup (zup F 71 19 0) 71 32 0) 71 23 (-1) r = F r := fun F r hr => by rw [zup_row hr, zup_row hr, zup_row hr]
                have hQ0 : zQV (zup (zup (zup F 71 19 0) 71 32 0) 71 23 (-1)) := by
                  unfold zQV
                  rw [q23, q19, qo F 24 (by decide) (by decide) (by decide)]
                  exact ⟨a7.2.1, Or.inl ⟨rfl, rfl⟩⟩
                have hCq : ∀ F2 : zM, (∀ r, r ∈ [53, 54, 55, 56, 57, 58] → F2 r = F r) → F2 60 10 = 0 → F2 60 11 = -1 → zQC (zup (zup (zup F 71 19 0) 71 32 0) 71 23 (-1)) G F2 G := by
                  intro F2 hr h10 h11
                  obtain ⟨u1, u2, u3, u4, u5, u6, u7, u8, u9⟩ := a7
                  unfold zQC
                  rw [q19, q23, q32, qo F 24 (by decide) (by decide) (by decide), qo F 31 (by decide) (by decide) (by decide), qr F 88 (by decide), qr F 89 (by decide), qr F 90 (by decide), qr F 91 (by decide), qr F 92 (by decide), hr 53 (by decide), hr 54 (by decide), hr 55 (by decide), hr 56 (by decide), hr 57 (by decide), hr 58 (by decide), h10, h11, if_pos rfl]
                  exact ⟨⟨u1, u3, u4, u5, u6, u7, u8, u9⟩, rfl, rfl, fun q => absurd rfl q, fun i hi => by omega⟩
                -- the reference's row of heaps from a heap that the class has left
                have hMq : ∀ (F2 : zM) (G2 : zG), F2 71 = F 71 → (∀ r, r ∈ [85, 86, 87, 88, 89, 90, 91, 92] → F2 r = F r) → G2 93 = G 93 → zQM (zup (zup (zup F 71 19 0) 71 32 0) 71 23 (-1)) G (zup (zup (zup F2 71 19 0) 71 32 0) 71 23 (-1)) G2 := by
                  intro F2 G2 h71 hr hg
                  have h0 : zQM F G F2 G2 := ⟨fun j _ => by rw [h71], fun r hr' => hr r hr', hg⟩
                  exact h0.up.up.up
                by_cases c8 : p a.toNat = c
                · -- nothing is to do
                  have hch : zch [44, 22, 23, 24, 25, 26, 27, 28, 29, 30, 31, 32, 53, 54, 55, 56, 57, 58, 60, 61, 62, 63, 85, 86, 87, 88, 89, 90, 91, 92, 99, 100] [19, 23, 24, 31, 32, 44, 45, 46, 47] F (zup (zup (zup (zup (zup F1 60 11 0) 71 19 0) 71 32 0) 71 23 (-1)) 71 23 0) := by
                    refine ⟨fun r hr h71 => ?_, fun j hj => ?_⟩
                    · rw [zup_row h71, qr _ r h71, zup_row (by intro x; subst x; revert hr; decide), fo r (by intro x; subst x; revert hr; decide)]
                    · rw [zup_col (by intro x; subst x; revert hj; decide), qo _ j (by intro x; subst x; revert hj; decide) (by intro x; subst x; revert hj; decide) (by intro x; subst x; revert hj; decide), zup_row (by decide), fo 71 (by decide)]
                  have hR1 : zMR ρ (zup F1 60 11 0) := n3.fr (by rw [zup_row (by decide), fo 71 (by decide)]) (by rw [zup_row (by decide), fo 75 (by decide)]) (by rw [zup_row (by decide), fo 76 (by decide)]) (by rw [zup_row (by decide), fo 77 (by decide)]) (by rw [zup_row (by decide), fo 78 (by decide)]) (by rw [zup_row (by decide), fo 79 (by decide)])
                  have hp1 : zup F1 60 11 0 72 = p := by rw [zup_row (by decide), fo 72 (by decide)]; exact n4
                  have r97 : zup F1 60 11 0 97 = F 97 := by rw [zup_row (by decide), fo 97 (by decide)]
                  have r98 : zup F1 60 11 0 98 = F 98 := by rw [zup_row (by decide), fo 98 (by decide)]
                  have hY1 : zPY w n pl (zup F1 60 11 0) := ⟨by rw [r97]; exact hnn, fun k hk => by rw [r98]; exact hY0.2 k hk⟩
                  have gM := (m_cells (d := d) (G := G) (h := h) (a := a) (c := c) (v := v) (by omega) g4 hY1 hsz n.toNat 0 (by omega)).1 hg
                  rw [show ((0 : Nat) : Int) = 0 from rfl] at gM
                  refine ⟨0, zup F1 60 11 0, G, zup (zup (zup (zup (zup F1 60 11 0) 71 19 0) 71 32 0) 71 23 (-1)) 71 23 0, G, preC' _ (gC _ ?_), preM' _ _ hR1 hp1 (by rw [zup_row (by decide), fo 96 (by decide)]) r97 _ (gM _ ?_), ρ, p, A0.plan hch rfl ⟨?_, ?_⟩⟩
                  · refine g_C_plan_82 _ _ _ _ _ _ _ ?_
                    have hnt : zex d 180 [zR 60] (F1, G, zsg) = some (some (zI 0), zup F1 60 11 0, G, zsg) := by
                      obtain ⟨d, rfl⟩ := zds (show 1 ≤ d by omega)
                      exact g_Planner_findNothingToDo _ rfl
                    rw [if_pos g4, e69, if_neg (by omega), hfo, zbV_some, if_pos g8, fo 12 (by decide), e12, if_pos c8, hnt, zbI_some]
                  · refine g_M_plan_83 _ _ _ _ _ _ _ _ ?_
                    rw [if_pos g4, hY1.1, if_neg (by omega), if_neg (by decide), z0, if_pos g43, hp1, if_pos c8]
                  · have k19 : zup (zup (zup (zup (zup F1 60 11 0) 71 19 0) 71 32 0) 71 23 (-1)) 71 23 0 71 19 = 0 := by rw [zup_col (by decide), q19]
                    have k32 : zup (zup (zup (zup (zup F1 60 11 0) 71 19 0) 71 32 0) 71 23 (-1)) 71 23 0 71 32 = 0 := by rw [zup_col (by decide), q32]
                    have k23 : zup (zup (zup (zup (zup F1 60 11 0) 71 19 0) 71 32 0) 71 23 (-1)) 71 23 0 71 23 = 0 := zup_eq
                    have k60 : ∀ j, zup (zup (zup (zup (zup F1 60 11 0) 71 19 0) 71 32 0) 71 23 (-1)) 71 23 0 60 j = zup F1 60 11 0 60 j := fun j => by rw [zup_row (by decide), qr _ 60 (by decide)]
                    unfold zPl
                    rw [k19, k32, k23, k60, k60, k60, zup_eq, zup_col (show (12 : Nat) ≠ 11 by decide), zup_col (show (10 : Nat) ≠ 11 by decide), f12, f10]
                    exact ⟨by decide, fun _ => rfl, rfl, by decide, by decide, by decide, fun i hi => by omega⟩
                  · have k24 := hch.1
                    obtain ⟨u1, u2, u3, u4, u5, u6, u7, u8, u9⟩ := a7
                    have x24 : zup (zup (zup (zup (zup F1 60 11 0) 71 19 0) 71 32 0) 71 23 (-1)) 71 23 0 71 24 = F 71 24 := by rw [zup_col (by decide), qo _ 24 (by decide) (by decide) (by decide), zup_row (by decide), fo 71 (by decide)]
                    have x31 : zup (zup (zup (zup (zup F1 60 11 0) 71 19 0) 71 32 0) 71 23 (-1)) 71 23 0 71 31 = F 71 31 := by rw [zup_col (by decide), qo _ 31 (by decide) (by decide) (by decide), zup_row (by decide), fo 71 (by decide)]
                    have xr : ∀ r, r ≠ 60 → r ≠ 71 → zup (zup (zup (zup (zup F1 60 11 0) 71 19 0) 71 32 0) 71 23 (-1)) 71 23 0 r = F r := fun r r1 r2 => by rw [zup_row r2, qr _ r r2, zup_row r1, fo r r1]
                    unfold zRu
                    rw [x24, x31, xr 53 (by decide) (by decide), xr 54 (by decide) (by decide), xr 55 (by decide) (by decide), xr 56 (by decide) (by decide), xr 57 (by decide) (by decide), xr 58 (by decide) (by decide), xr 88 (by decide) (by decide), xr 89 (by decide) (by decide), xr 90 (by decide) (by decide), xr 91 (by decide) (by decide), xr 92 (by decide) (by decide)]
                    exact ⟨u1, u2, u3, u4, u5, u6, u7, u8, u9⟩
                · by_cases c9 : p (30 + h.toNat) = -1 ∧ p (8 + a.toNat) = -1
                  · -- both sides seek
                    have hB : ∀ t : Nat, t < 8 → -1 ≤ p (8 + t) := fun t ht => (n6.2.2.2.1 t ht).1
                    obtain ⟨Φ', Γ', v', jC, jM⟩ := j_find (d := d) (e := d) (A := a) (C := c) (pl := pl) (w := w) (v := v) (n := n) (Γ := G) (by omega) (by omega) n5 n6.1 n6.2.1 hB hh hc1 c2 c3 g4 c7 ⟨hsz.1, c6⟩ (fun k hk => hg k (Nat.zero_le _) hk) hQ0
                    have F2o : ∀ r, r ≠ 60 → zup F1 60 5 0 r = F r := fun r hr => by rw [zup_row hr, fo r hr]
                    obtain ⟨F3, b1, b2, b3, b4, b5⟩ := c_places (d := d) (G := G) (h := h) (a := a) (c := c) (v := v) (pl := pl) (by omega) g4 ⟨hsz.1, c6⟩ n.toNat 0 (zup F1 60 5 0) (by omega) (by rw [F2o 69 (by decide)]; exact e69) (by rw [F2o 70 (by decide)]; exact h70) zup_eq (fun j hj => by omega)
                    rw [show ((0 : Nat) : Int) = 0 from rfl] at b1
                    have F3o : ∀ r, r ≠ 60 → r ≠ 61 → F3 r = F r := fun r q1 q2 => by rw [b4 r q1 q2, F2o r q1]
                    have n1' : zSC 11 p F3 := n1.fr (fun k hk => F3o _ (by omega) (by omega))
                    obtain ⟨F4, d1, d2, d3⟩ := s_become_22_11 (d := d) (G := G) (by omega) n1'
                    have F4o : ∀ r, r ≠ 60 → r ≠ 61 → (r < 22 ∨ 32 < r) → F4 r = F r := fun r q1 q2 q3 => by rw [d3 r q3, F3o r q1 q2]
                    have hC4 : zCR ρ F4 G := n2.fr (F4o 6 (by decide) (by decide) (by decide)) (F4o 7 (by decide) (by decide) (by decide)) (F4o 8 (by decide) (by decide) (by decide)) (F4o 9 (by decide) (by decide) (by decide)) (F4o 10 (by decide) (by decide) (by decide)) rfl
                    have h460 : F4 60 = F3 60 := d3 60 (by decide)
                    have hK4 := hCq F4 (fun r hr => F4o r (by intro x; subst x; revert hr; decide) (by intro x; subst x; revert hr; decide) (by right; simp only [List.mem_cons, List.not_mem_nil, or_false] at hr; omega)) (by rw [h460, b5 10 (by decide), zup_col (by decide)]; exact f10) (by rw [h460, b5 11 (by decide), zup_col (by decide)]; exact f11)
                    obtain ⟨F5, G5, i1, i2, i3, i4⟩ := jC F4 G d2 hC4 (by rw [h460]; exact b2) (fun k hk => by rw [d3 61 (by decide)]; exact b3 k hk) hK4
                    have F5o : ∀ r, r ∉ [44, 22, 23, 24, 25, 26, 27, 28, 29, 30, 31, 32, 53, 54, 55, 56, 57, 58, 60, 61, 62, 63] → F5 r = F r := fun r hr => by
                      simp only [List.mem_cons, List.not_mem_nil, or_false, not_or] at hr
                      rw [i2 r (by simp only [List.mem_cons, List.not_mem_nil, or_false, not_or]; omega), F4o r (by omega) (by omega) (by omega)]
                    have hR5 : zMR ρ F5 := n3.fr (F5o 71 (by decide)) (F5o 75 (by decide)) (F5o 76 (by decide)) (F5o 77 (by decide)) (F5o 78 (by decide)) (F5o 79 (by decide))
                    have hp5 : F5 72 = p := by rw [F5o 72 (by decide)]; exact n4
                    have hY5 : zPY w n pl F5 := ⟨by rw [F5o 97 (by decide)]; exact hnn, fun k hk => by rw [F5o 98 (by decide)]; exact hY0.2 k hk⟩
                    have gM := (m_cells (d := d) (G := G5) (h := h) (a := a) (c := c) (v := v) (by omega) g4 hY5 hsz n.toNat 0 (by omega)).1 hg
                    rw [show ((0 : Nat) : Int) = 0 from rfl] at gM
                    have hM5 := hMq F5 G5 (F5o 71 (by decide)) (fun r hr => F5o r (by intro x; revert hr; simp only [List.mem_cons, List.not_mem_nil, or_false] at x ⊢; omega)) (i3 93 (by decide))
                    have hM6 := (hM5.wr (j := 44) (v := -1)).wr (j := 47) (v := 0)
                    have w44 : zup (zup (zup (zup (zup F5 71 19 0) 71 32 0) 71 23 (-1)) 71 44 (-1)) 71 47 0 71 44 = -1 := by rw [zup_col (by decide), zup_eq]
                    have w47 : zup (zup (zup (zup (zup F5 71 19 0) 71 32 0) 71 23 (-1)) 71 44 (-1)) 71 47 0 71 47 = 0 := zup_eq
                    have wo : ∀ j, j ∉ [19, 23, 24, 31, 32, 44, 45, 46, 47] → zup (zup (zup (zup (zup F5 71 19 0) 71 32 0) 71 23 (-1)) 71 44 (-1)) 71 47 0 71 j = F5 71 j := fun j hj => by
                      simp only [List.mem_cons, List.not_mem_nil, or_false, not_or] at hj
                      rw [zup_col (by omega), zup_col (by omega), qo F5 j (by omega) (by omega) (by omega)]
                    have wr : ∀ r, r ≠ 71 → zup (zup (zup (zup (zup F5 71 19 0) 71 32 0) 71 23 (-1)) 71 44 (-1)) 71 47 0 r = F5 r := fun r hr => by rw [zup_row hr, zup_row hr, qr F5 r hr]
                    generalize hF6 : zup (zup (zup (zup (zup F5 71 19 0) 71 32 0) 71 23 (-1)) 71 44 (-1)) 71 47 0 = F6 at hM6 w44 w47 wo wr
                    have hR6 : zMR ρ F6 := hR5.fr2 (wo 5 (by decide)) (wo 8 (by decide)) (wo 11 (by decide)) (wr 75 (by decide)) (wr 76 (by decide)) (wr 77 (by decide)) (wr 78 (by decide)) (wr 79 (by decide))
                    have hY6 : zPY w n pl F6 := ⟨by rw [wr 97 (by decide)]; exact hY5.1, fun k hk => by rw [wr 98 (by decide)]; exact hY5.2 k hk⟩
                    obtain ⟨F7, G7, k1, k2, k3⟩ := jM F6 G5 hR6 (by rw [wr 72 (by decide)]; exact hp5) hY6 hM6 w44 w47
                    have hK7 : zQC Φ' Γ' F7 G7 := i4.fr (fun r hr => by rw [k2.1 r (by intro x; revert hr; simp only [List.mem_cons, List.not_mem_nil, or_false] at x ⊢; omega), wr r (by intro x; subst x; revert hr; decide)]) (k2.2.2 59 (by decide))
                    have hch : zch [44, 22, 23, 24, 25, 26, 27, 28, 29, 30, 31, 32, 53, 54, 55, 56, 57, 58, 60, 61, 62, 63, 85, 86, 87, 88, 89, 90, 91, 92, 99, 100] [19, 23, 24, 31, 32, 44, 45, 46, 47] F F7 := by
                      refine ⟨fun r hr h71 => ?_, fun j hj => ?_⟩
                      · simp only [List.mem_cons, List.not_mem_nil, or_false, not_or] at hr
                        rw [k2.1 r (by simp only [List.mem_cons, List.not_mem_nil, or_false, not_or]; omega), wr r h71, F5o r (by simp only [List.mem_cons, List.not_mem_nil, or_false, not_or]; omega)]
                      · rw [k2.2.1 j hj, wo j hj, F5o 71 (by decide)]
                    have k1 : (zbV (zex d 122 [zR 71, zI h, zI a, zI c, zI v, zI w, zI 0] (F6, G5, zsg)) (fun F3 G3 => if (F3 71 23) = (-1) then zbV (zex d 122 [zR 71, zI h, zI a, zI c, zI v, zI w, zI 1] (F3, G3, zsg)) (fun F4 G4 => if (F4 71 23) = (-1) then some (some (zI (-3)), F4, G4, zsg) else some (some (zI (F4 71 19)), F4, G4, zsg)) else if (F3 71 23) = (-1) then some (some (zI (-3)), F3, G3, zsg) else some (some (zI (F3 71 19)), F3, G3, zsg))) = some (some (zI (if Φ' 71 23 = -1 then -3 else Φ' 71 19)), F7, G7, zsg) := k1
                    refine ⟨if Φ' 71 23 = -1 then -3 else Φ' 71 19, F5, G5, F7, G7, preC' _ (gC _ ?_), preM' _ _ hR5 hp5 (F5o 96 (by decide)) (F5o 97 (by decide)) _ (gM _ ?_), ρ, p, A0.plan hch (by rw [k2.2.2 6 (by decide), i3 6 (by decide)]) (zQ_plru hK7 k3 v')⟩
                    · refine g_C_plan_82 _ _ _ _ _ _ _ ?_
                      have hcl : zex d 181 [zR 60] (F1, G, zsg) = some (none, zup F1 60 5 0, G, zsg) := by
                        obtain ⟨d, rfl⟩ := zds (show 1 ≤ d by omega)
                        exact g_Planner_clearPlaces _ rfl
                      rw [if_pos g4, e69, if_neg (by omega), hfo, zbV_some, if_pos g8, fo 12 (by decide), e12, if_neg c8, if_pos (by omega), fo 16 (by decide), e16, if_pos (by omega), if_pos g8, fo 13 (by decide), e13, if_pos (by omega), hcl, zbV_some]
                      refine b1 _ (g_C_plan_188 _ _ _ _ _ _ _ ?_)
                      have h369 : F3 69 w.toNat = n := by rw [F3o 69 (by decide) (by decide)]; exact e69
                      rw [if_pos g4, h369, if_neg (by omega), d1, zbV_some, i1, zbI_some]
                      by_cases q : Φ' 71 23 = -1
                      · rw [if_pos q, if_pos q, if_pos rfl]
                      · have : ¬ Φ' 71 19 = 0 := by rcases v'.2 with ⟨q1, q2⟩ | ⟨q1, q2, q3⟩ <;> omega
                        rw [if_neg q, if_neg q, if_neg this]
                    · refine g_M_plan_83 _ _ _ _ _ _ _ _ ?_
                      rw [if_pos g4, hY5.1, if_neg (by omega), if_neg (by decide), z0, if_pos g43, hp5, if_neg c8, z30, if_pos g43h, t30, if_pos c9.1, z8, if_pos g43a, t8, if_pos c9.2, hF6]
                      exact k1
                  · -- a hand isn't empty
                    have hR1 : zMR ρ F1 := n3.fr (fo 71 (by decide)) (fo 75 (by decide)) (fo 76 (by decide)) (fo 77 (by decide)) (fo 78 (by decide)) (fo 79 (by decide))
                    have hp1 : F1 72 = p := by rw [fo 72 (by decide)]; exact n4
                    have hY1 : zPY w n pl F1 := ⟨by rw [fo 97 (by decide)]; exact hnn, fun k hk => by rw [fo 98 (by decide)]; exact hY0.2 k hk⟩
                    have gM := (m_cells (d := d) (G := G) (h := h) (a := a) (c := c) (v := v) (by omega) g4 hY1 hsz n.toNat 0 (by omega)).1 hg
                    rw [show ((0 : Nat) : Int) = 0 from rfl] at gM
                    have hM1 := hMq F1 G (fo 71 (by decide)) (fun r hr => fo r (by intro x; subst x; revert hr; decide)) rfl
                    have hK1 := hCq (zup (zup (zup F1 71 19 0) 71 32 0) 71 23 (-1)) (fun r hr => by rw [qr F1 r (by intro x; subst x; revert hr; decide), fo r (by intro x; subst x; revert hr; decide)]) (by rw [qr F1 60 (by decide)]; exact f10) (by rw [qr F1 60 (by decide)]; exact f11)
                    have hch : zch [44, 22, 23, 24, 25, 26, 27, 28, 29, 30, 31, 32, 53, 54, 55, 56, 57, 58, 60, 61, 62, 63, 85, 86, 87, 88, 89, 90, 91, 92, 99, 100] [19, 23, 24, 31, 32, 44, 45, 46, 47] F (zup (zup (zup F1 71 19 0) 71 32 0) 71 23 (-1)) := by
                      refine ⟨fun r hr h71 => ?_, fun j hj => ?_⟩
                      · rw [qr F1 r h71, fo r (by intro x; subst x; revert hr; decide)]
                      · rw [qo F1 j (by intro x; subst x; revert hj; decide) (by intro x; subst x; revert hj; decide) (by intro x; subst x; revert hj; decide), fo 71 (by decide)]
                    refine ⟨-6, F1, G, zup (zup (zup F1 71 19 0) 71 32 0) 71 23 (-1), G, preC' _ (gC _ ?_), preM' _ _ hR1 hp1 (fo 96 (by decide)) (fo 97 (by decide)) _ (gM _ ?_), ρ, p, A0.plan hch rfl (zQ_plru hK1 hM1 hQ0)⟩
                    · refine g_C_plan_82 _ _ _ _ _ _ _ ?_
                      rw [if_pos g4, e69, if_neg (by omega), hfo, zbV_some, if_pos g8, fo 12 (by decide), e12, if_neg c8, if_pos (by omega), fo 16 (by decide), e16]
                      by_cases q : p (30 + h.toNat) = -1
                      · rw [if_pos (by omega), if_pos g8, fo 13 (by decide), e13, if_neg (by omega)]
                      · rw [if_neg (by omega)]
                    · refine g_M_plan_83 _ _ _ _ _ _ _ _ ?_
                      rw [if_pos g4, hY1.1, if_neg (by omega), if_neg (by decide), z0, if_pos g43, hp1, if_neg c8, z30, if_pos g43h, t30]
                      by_cases q : p (30 + h.toNat) = -1
                      · rw [if_pos q, z8, if_pos g43a, t8, if_neg (fun q2 => c9 ⟨q, q2⟩)]
                      · rw [if_neg q]
              · have hbad : ∃ j : Nat, 0 ≤ j ∧ (j : Int) < n ∧ ¬ (0 ≤ pl j ∧ pl j < 64) := by
                  apply Classical.byContradiction
                  intro q
                  exact hg (fun j q1 q2 => Classical.byContradiction (fun q3 => q ⟨j, q1, q2, q3⟩))
                have gC := (c_cells (d := d) (G := G) (h := h) (a := a) (c := c) (v := v) (by omega) g4 e69 hsz h70 n.toNat 0 (by omega)).2 hbad
                have gM := (m_cells (d := d) (G := G) (h := h) (a := a) (c := c) (v := v) (by omega) g4 hY0 hsz n.toNat 0 (by omega)).2 hbad
                rw [show ((0 : Nat) : Int) = 0 from rfl] at gC gM
                exact A0.same (v := -2) (preC' _ gC) (preM' F G n3 n4 rfl rfl _ gM)
            · refine A0.same (v := -2) (preC _ ?_) (preM F G n3 n4 rfl rfl _ ?_)
              · by_cases q1 : 5 < F 97 w.toNat
                · rw [if_pos q1]
                · rw [if_neg q1]
                  by_cases q2 : v < 0
                  · rw [if_pos q2]
                  · rw [if_neg q2, if_pos (by omega)]
              · by_cases q1 : 5 < F 97 w.toNat
                · rw [if_pos q1]
                  exact m_bad g4 0
                · rw [if_neg q1, zp_f (fun q => c6 ⟨by omega, q⟩), if_pos rfl]
                  exact m_bad g4 0
        · refine A0.same (v := -5) (g_C_plan _ _ _ _ _ _ ?_) (g_M_plan _ _ _ _ _ _ ?_)
          · rw [N.pres (by omega), zbI_some, zp_t c1, if_neg (by decide), s_isThing (by omega) n2, zbI_some, zp_t c2, if_neg (by decide), s_isCell (by omega), zbI_some, zp_t c3, if_neg (by decide), s_isSheet (by omega), zbI_some, zp_f c4, if_pos rfl]
          · rw [m_isThere (by omega) n4, zbI_some, zp_t c1, if_neg (by decide), m_isThing (by omega) n3 n5, zbI_some, zp_t c2, if_neg (by decide), m_isCell (by omega), zbI_some, zp_t c3, if_neg (by decide), m_in (by omega), zbI_some, zp_f c4, if_pos rfl]
      · refine A0.same (v := -5) (g_C_plan _ _ _ _ _ _ ?_) (g_M_plan _ _ _ _ _ _ ?_)
        · rw [N.pres (by omega), zbI_some, zp_t c1, if_neg (by decide), s_isThing (by omega) n2, zbI_some, zp_t c2, if_neg (by decide), s_isCell (by omega), zbI_some, zp_f c3, if_pos rfl]
        · rw [m_isThere (by omega) n4, zbI_some, zp_t c1, if_neg (by decide), m_isThing (by omega) n3 n5, zbI_some, zp_t c2, if_neg (by decide), m_isCell (by omega), zbI_some, zp_f c3, if_pos rfl]
    · refine A0.same (v := -5) (g_C_plan _ _ _ _ _ _ ?_) (g_M_plan _ _ _ _ _ _ ?_)
      · rw [N.pres (by omega), zbI_some, zp_t c1, if_neg (by decide), s_isThing (by omega) n2, zbI_some, zp_f c2, if_pos rfl]
      · rw [m_isThere (by omega) n4, zbI_some, zp_t c1, if_neg (by decide), m_isThing (by omega) n3 n5, zbI_some, zp_f c2, if_pos rfl]
  · refine A0.same (v := -5) (g_C_plan _ _ _ _ _ _ ?_) (g_M_plan _ _ _ _ _ _ ?_)
    · rw [N.pres (by omega), zbI_some, zp_f c1, if_pos rfl]
    · rw [m_isThere (by omega) n4, zbI_some, zp_f c1, if_pos rfl]
end
