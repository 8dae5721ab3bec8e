/-! judging, playing, starting a program -/
section
variable {d : Nat} {F ρ ρ' : zM} {G : zG} {p p' : Nat → Int}
theorem zPv.k (hV : zRv ρ) (h : zPv ρ p) (e : ∀ j, j < 32 → p' j = p j) : zPv ρ p' := by
  obtain ⟨p1, p2, p3, p4, p5, p6, p7, p8, p9⟩ := h
  have hn8 := hV.1
  refine ⟨fun u h8 => by rw [e u (by omega)]; exact p1 u h8, fun g hg => by rw [e _ (by omega)]; exact p2 g hg, fun g hg => by rw [e _ (by omega)]; exact p3 g hg, fun u h8 => by rw [e _ (by omega)]; exact p4 u h8, fun u h8 h9 => by rw [e _ (by omega), e _ (by omega)]; exact p5 u h8 h9, fun x hx => by rw [e _ (by omega)]; exact p6 x hx, fun x hx h9 => by rw [e _ (by omega)]; exact p7 x hx h9, fun g hg hne => ?_, fun u g h8 hg h9 => by rw [e _ (by omega)] at h9 ⊢; exact p9 u g h8 hg h9⟩
  rw [e (30 + g) (by omega)] at hne ⊢
  have hb2 := p3 g hg
  have hdg := p8 g hg hne
  rw [e _ (by omega), e _ (by omega), e _ (by omega), e _ (by omega)]
  exact hdg
theorem zNO.k (h : zNO ρ p) (e : ∀ j, j < 8 → p' j = p j) : zNO ρ p' := by
  intro t u h1 h2
  rw [e t (by omega), e u (by omega)]
  exact h t u h1 h2
theorem zAll.act2 {F2 : zM} {G2 : zG} (A : zAll ρ p F G) (h1 : zSC 11 p' F2) (h2 : F2 72 = p') (hpv : zPv ρ p') (hno : zNO ρ p') (hgr : zGr F p') (hc : zch [44, 11, 12, 13, 14, 15, 16, 17, 18, 19, 20, 21, 22, 23, 24, 25, 26, 27, 28, 29, 30, 31, 32, 52, 72, 73, 99, 100] [43] F F2) (hG : ∀ r, r ≠ 44 → r ≠ 45 → G2 r = G r) : zAll ρ p' F2 G2 := by
  obtain ⟨⟨n1, n2, n3, n4, n5, n6⟩, a2, a3, a4, a5, a6, a7, a8, a9⟩ := A
  have e64 : F2 64 = F 64 := hc.1 64 (by decide) (by decide)
  refine ⟨⟨h1, n2.fr (hc.1 6 (by decide) (by decide)) (hc.1 7 (by decide) (by decide)) (hc.1 8 (by decide) (by decide)) (hc.1 9 (by decide) (by decide)) (hc.1 10 (by decide) (by decide)) (hG 6 (by decide) (by decide)), n3.fr2 (hc.2 5 (by decide)) (hc.2 8 (by decide)) (hc.2 11 (by decide)) (hc.1 75 (by decide) (by decide)) (hc.1 76 (by decide) (by decide)) (hc.1 77 (by decide) (by decide)) (hc.1 78 (by decide) (by decide)) (hc.1 79 (by decide) (by decide)), h2, n5, hpv⟩, hno, hgr.ch hc, a4.ch hc, a5.ch hc, a6.ch hc, a7.ch hc ⟨hG 59 (by decide) (by decide), hG 93 (by decide) (by decide)⟩, a8.ch hc (by decide) (by decide) (by rw [e64]) (by rw [e64]), a9.ch hc⟩
theorem a_start (hd : 3 ≤ d) (A : zAll ρ p F G) (h q : Int) : zStep d 25 110 [zI h, zI q] F G := by
  obtain ⟨d, rfl⟩ := zds (show 1 ≤ d by omega)
  have A0 := A
  obtain ⟨⟨n1, n2, n3, n4, n5, n6⟩, a2, a3, a4, a5, a6, a7, a8, a9⟩ := A
  by_cases c1 : 0 ≤ h ∧ h ≤ 1
  · have hh : h = 0 ∨ h = 1 := by omega
    have g2 : 0 ≤ h ∧ h < 2 := by omega
    have t34 : (34 + h).toNat = 34 + h.toNat := by omega
    have t36 : (36 + h).toNat = 36 + h.toNat := by omega
    have t38 : (38 + h).toNat = 38 + h.toNat := by omega
    have t40 : (40 + h).toNat = 40 + h.toNat := by omega
    have z34 : zadd 34 h = 34 + h := zadd_eq (by omega) (by omega)
    have z36 : zadd 36 h = 36 + h := zadd_eq (by omega) (by omega)
    have z38 : zadd 38 h = 38 + h := zadd_eq (by omega) (by omega)
    have z40 : zadd 40 h = 40 + h := zadd_eq (by omega) (by omega)
    have g34 : 0 ≤ 34 + h ∧ 34 + h < 43 := by omega
    have g36 : 0 ≤ 36 + h ∧ 36 + h < 43 := by omega
    have g38 : 0 ≤ 38 + h ∧ 38 + h < 43 := by omega
    have g40 : 0 ≤ 40 + h ∧ 40 + h < 43 := by omega
    have f18 : F 18 h.toNat = p (34 + h.toNat) := (n1.hn hh).2.2.2.1
    have gr := a3 h.toNat (by omega)
    by_cases c2 : 0 ≤ q ∧ q < F 71 12
    · by_cases c3 : p (34 + h.toNat) = -1
      · obtain ⟨d, rfl⟩ := zds (show 1 ≤ d by omega)
        have B : zex (d + 1) 205 [zR 11, zI h, zI q] (F, G, zsg) = some (none, zup (zup (zup (zup F 18 h.toNat q) 19 h.toNat 0) 20 h.toNat 0) 21 h.toNat 0, G, zsg) := by
          refine g_Scene_begin h q _ ?_
          rw [if_pos g2, if_pos g2, if_pos g2, if_pos g2]
        have S : zSC 11 (zu (zu (zu (zu p (34 + h.toNat) q) (36 + h.toNat) 0) (38 + h.toNat) 0) (40 + h.toNat) 0) (zup (zup (zup (zup F 18 h.toNat q) 19 h.toNat 0) 20 h.toNat 0) 21 h.toNat 0) := (((n1.up (i := 7) (x := h.toNat) (z := 34 + h.toNat) (v := q) (by decide) (Or.inr ⟨by decide, by omega, by omega⟩)).up (i := 8) (x := h.toNat) (z := 36 + h.toNat) (v := 0) (by decide) (Or.inr ⟨by decide, by omega, by omega⟩)).up (i := 9) (x := h.toNat) (z := 38 + h.toNat) (v := 0) (by decide) (Or.inr ⟨by decide, by omega, by omega⟩)).up (i := 10) (x := h.toNat) (z := 40 + h.toNat) (v := 0) (by decide) (Or.inr ⟨by decide, by omega, by omega⟩)
        generalize hFC : zup (zup (zup (zup F 18 h.toNat q) 19 h.toNat 0) 20 h.toNat 0) 21 h.toNat 0 = FC at B S
        have hF : ∀ r, r ≠ 18 → r ≠ 19 → r ≠ 20 → r ≠ 21 → FC r = F r := fun r r1 r2 r3 r4 => by rw [← hFC, zup_row r4, zup_row r3, zup_row r2, zup_row r1]
        have c72 : FC 72 = p := by rw [hF 72 (by decide) (by decide) (by decide) (by decide)]; exact n4
        refine ⟨q, FC, G, zup (zup (zup (zup FC 72 (34 + h.toNat) q) 72 (36 + h.toNat) 0) 72 (38 + h.toNat) 0) 72 (40 + h.toNat) 0, G, g_C_start h q _ ?_, g_M_start h q _ ?_, ρ, zu (zu (zu (zu p (34 + h.toNat) q) (36 + h.toNat) 0) (38 + h.toNat) 0) (40 + h.toNat) 0, ?_⟩
        · rw [s_isHand (by omega), zbI_some, zp_t c1, if_neg (by decide), s_isProgram (by omega) a5, zbI_some, zp_t c2, if_neg (by decide), if_pos g2, f18, if_pos (by omega), B, zbV_some]
        · have r71 := hF 71 (by decide) (by decide) (by decide) (by decide)
          rw [m_isHand (by omega), zbI_some, zp_t c1, if_neg (by decide), m_isProgram (by omega) (by rw [r71]; exact a5.2.2.2.1), zbI_some, r71, zp_t c2, if_neg (by decide), z34, z36, z38, z40, t34, t36, t38, t40, if_pos g34, c72, if_pos c3, if_pos g34, if_pos g36, if_pos g38, if_pos g40]
        · have e0 : ∀ j, j < 34 → zu (zu (zu (zu p (34 + h.toNat) q) (36 + h.toNat) 0) (38 + h.toNat) 0) (40 + h.toNat) 0 j = p j := fun j hj => by rw [zu_ne (by omega), zu_ne (by omega), zu_ne (by omega), zu_ne (by omega)]
          refine A0.act2 (S.fr (fun k hk => ?_)) ?_ (n6.k n5 (fun j hj => e0 j (by omega))) (a2.k (fun j hj => e0 j (by omega))) (fun g hg => ?_) ⟨fun r hr _ => ?_, fun j hj => ?_⟩ (fun _ _ _ => rfl)
          · rw [zup_row (by omega), zup_row (by omega), zup_row (by omega), zup_row (by omega)]
          · rw [zup_fn, zup_fn, zup_fn, zup_fn, c72]
          · by_cases hgh : g = h.toNat
            · subst hgh
              have u := (a5.2.2.2.2.2.2.2 q.toNat (by omega)).1
              rw [zu_ne (by omega), zu_ne (by omega), zu_ne (by omega), zu_eq, zu_ne (by omega), zu_ne (by omega), zu_eq, zu_eq]
              exact ⟨by omega, c2.2, fun _ => ⟨Int.le_refl _, u.1⟩, by decide⟩
            · have := a3 g hg
              rw [zu_ne (by omega), zu_ne (by omega), zu_ne (by omega), zu_ne (by omega), zu_ne (by omega), zu_ne (by omega), zu_ne (by omega), zu_ne (by omega), zu_ne (x := 40 + h.toNat) (by omega), zu_ne (by omega), zu_ne (by omega), zu_ne (by omega)]
              exact this
          · simp only [List.mem_cons, List.not_mem_nil, or_false, not_or] at hr
            rw [zup_row (by omega), zup_row (by omega), zup_row (by omega), zup_row (by omega), hF r (by omega) (by omega) (by omega) (by omega)]
          · rw [zup_row (by decide), zup_row (by decide), zup_row (by decide), zup_row (by decide), hF 71 (by decide) (by decide) (by decide) (by decide)]
      · refine A0.same (v := -3) (g_C_start h q _ ?_) (g_M_start h q _ ?_)
        · rw [s_isHand (by omega), zbI_some, zp_t c1, if_neg (by decide), s_isProgram (by omega) a5, zbI_some, zp_t c2, if_neg (by decide), if_pos g2, f18, if_neg (by omega)]
        · rw [m_isHand (by omega), zbI_some, zp_t c1, if_neg (by decide), m_isProgram (by omega) a5.2.2.2.1, zbI_some, zp_t c2, if_neg (by decide), z34, if_pos g34, n4, t34, if_neg c3]
    · refine A0.same (v := -5) (g_C_start h q _ ?_) (g_M_start h q _ ?_)
      · rw [s_isHand (by omega), zbI_some, zp_t c1, if_neg (by decide), s_isProgram (by omega) a5, zbI_some, zp_f c2, if_pos rfl]
      · rw [m_isHand (by omega), zbI_some, zp_t c1, if_neg (by decide), m_isProgram (by omega) a5.2.2.2.1, zbI_some, zp_f c2, if_pos rfl]
  · refine A0.same (v := -5) (g_C_start h q _ ?_) (g_M_start h q _ ?_)
    · rw [s_isHand (by omega), zbI_some, zp_f c1, if_pos rfl]
    · rw [m_isHand (by omega), zbI_some, zp_f c1, if_pos rfl]
/-- what both sides have done once a program has been played aside -/
theorem zAll.aside (hd : 9 ≤ d) (A : zAll ρ p F G) {h : Int} (hh : h = 0 ∨ h = 1) {k : Nat} (hk : (k : Int) < F 71 12) : ∃ (i v : Int) (p' : Nat → Int) (F1 F2 : zM) (G2 : zG), (i = -1 ∧ v = 0 ∨ 0 ≤ i ∧ v ≠ 0) ∧ zPv ρ p' ∧ zNO ρ p' ∧ (∀ j, 34 ≤ j → p' j = p j) ∧
    zex d 198 [zR 22, zR 11] (F, G, zsg) = some (none, F1, G, zsg) ∧ zex d 143 [zR 52, zR 22, zI h, zI k] (F1, G, zsg) = some (some (zI v), F2, G2, zsg) ∧ zSC 22 p' F2 ∧ F2 52 3 = i ∧ (∀ r, r ≠ 44 → r ≠ 52 → (r < 22 ∨ 32 < r) → F2 r = F r) ∧ (∀ r, r ≠ 44 → r ≠ 45 → G2 r = G r) ∧
    ∀ (F3 : zM), (∀ r, r ≠ 44 → (r < 11 ∨ 21 < r) → F3 r = F2 r) → ∃ F4 F5 F6, zex d 107 [zR 71, zI 0] (F3, G2, zsg) = some (none, F4, G2, zsg) ∧ zex d 106 [zR 71, zI h, zI k] (F4, G2, zsg) = some (some (zI i), F5, G2, zsg) ∧ F5 72 = p' ∧ (∀ j, j < 43 → F5 73 j = p j) ∧ (i ≠ -1 → F5 71 43 = v) ∧ (∀ r, r ≠ 71 → r ≠ 72 → r ≠ 73 → r ≠ 99 → r ≠ 100 → F5 r = F3 r) ∧ (∀ j, j ≠ 43 → F5 71 j = F 71 j) ∧ zex d 107 [zR 71, zI 1] (F5, G2, zsg) = some (none, F6, G2, zsg) ∧ (∀ r, r ≠ 72 → F6 r = F5 r) ∧ F6 72 = p := by
  obtain ⟨⟨n1, n2, n3, n4, n5, n6⟩, a2, a3, a4, a5, a6, a7, a8, a9⟩ := A
  obtain ⟨t1, t2, t3, t4, t5, t6, t7, t8⟩ := a5
  have hk6 : k < 6 := by omega
  obtain ⟨u1, u2⟩ := t8 k hk
  obtain ⟨m, hm⟩ := Int.eq_ofNat_of_zero_le u1.1
  obtain ⟨F1, e1, e2, e3⟩ := s_become_22_11 (d := d) (G := G) (by omega) n1
  have e3 : ∀ r, (r < 22 ∨ 32 < r) → F1 r = F r := e3
  have eF : ∀ r, r ≠ 52 → (r < 22 ∨ 32 < r) → zup F1 52 3 (-1) r = F r := fun r r1 r2 => by rw [zup_row r1, e3 r r2]
  obtain ⟨hP', hN', hK', hI'⟩ := q_plays_ok (A := fun j => F 81 (12 * k + j)) (N := fun j => F 82 (12 * k + j)) (S := fun j => F 83 (12 * k + j)) n5 hh m 0 p n6 a2 (fun j _ hj => (u2 j (by omega)).2.2.2)
  obtain ⟨F2, G2, f1, f2, f3, f4, f5⟩ := s_plays (d := d - 1) (A := fun j => F 81 (12 * k + j)) (N := fun j => F 82 (12 * k + j)) (S := fun j => F 83 (12 * k + j)) (by omega) n5 hh hk6 m 0 p (zup F1 52 3 (-1)) G (e2.fr (fun j hj => zup_row (by omega))) (n2.fr (eF 6 (by decide) (by decide)) (eF 7 (by decide) (by decide)) (eF 8 (by decide) (by decide)) (eF 9 (by decide) (by decide)) (eF 10 (by decide) (by decide)) rfl) n6 a2 (by omega) (by rw [eF 48 (by decide) (by decide), t7, hm]; simp) zup_eq (fun j _ hj => by
    rw [eF 49 (by decide) (by decide), eF 50 (by decide) (by decide), eF 51 (by decide) (by decide)]
    have := u2 j (by omega)
    exact ⟨this.2.2.2, this.1, this.2.1, this.2.2.1⟩)
  have hdd : d = d - 1 + 1 := by omega
  have hF2 : ∀ r, r ≠ 44 → r ≠ 52 → (r < 22 ∨ 32 < r) → F2 r = F r := fun r r1 r2 r3 => by rw [f4 r r1 r2 r3, eF r r2 r3]
  refine ⟨_, _, _, F1, F2, G2, hI', hP', hN', hK', e1, ?_, f2, f3, hF2, f5, fun F3 h3 => ?_⟩
  · rw [hdd]
    exact g_Acts_playAll h k _ f1
  · have hF3 : ∀ r, r ≠ 44 → r ≠ 52 → 32 < r → F3 r = F r := fun r r1 r2 r3 => by rw [h3 r r1 (by omega), hF2 r r1 r2 (by omega)]
    obtain ⟨F4, i1, i2, i3⟩ := m_lays0 (d := d) (F := F3) (G := G2) (by omega)
    have hF4 : ∀ r, r ≠ 44 → r ≠ 52 → 32 < r → r ≠ 73 → F4 r = F r := fun r r1 r2 r3 r4 => by rw [i2 r r4, hF3 r r1 r2 r3]
    have k72 : F4 72 = p := by rw [hF4 72 (by decide) (by decide) (by decide) (by decide)]; exact n4
    obtain ⟨F5, j1, j2, j3, j4, j5⟩ := m_plays (d := d - 1) (G := G2) (A := fun j => F 81 (12 * k + j)) (N := fun j => F 82 (12 * k + j)) (S := fun j => F 83 (12 * k + j)) (by omega) n5 hh hk6 m 0 p F4 k72 (n3.fr (hF4 71 (by decide) (by decide) (by decide) (by decide)) (hF4 75 (by decide) (by decide) (by decide) (by decide)) (hF4 76 (by decide) (by decide) (by decide) (by decide)) (hF4 77 (by decide) (by decide) (by decide) (by decide)) (hF4 78 (by decide) (by decide) (by decide) (by decide)) (hF4 79 (by decide) (by decide) (by decide) (by decide))) n6 a2 (by omega) (by rw [hF4 80 (by decide) (by decide) (by decide) (by decide), hm]; simp) (fun j _ hj => by
      rw [hF4 81 (by decide) (by decide) (by decide) (by decide), hF4 82 (by decide) (by decide) (by decide) (by decide), hF4 83 (by decide) (by decide) (by decide) (by decide)]
      exact ⟨(u2 j (by omega)).2.2.2, rfl, rfl, rfl⟩)
    obtain ⟨F6, l1, l2, l3⟩ := m_lays1 (d := d) (F := F5) (G := G2) (by omega)
    have k73 : ∀ j, j < 43 → F5 73 j = p j := fun j hj => by rw [j4 73 (by decide) (by decide) (by decide) (by decide), i3 j hj, hF3 72 (by decide) (by decide) (by decide), n4]
    refine ⟨F4, F5, F6, i1, ?_, j2, k73, j3, fun r r1 r2 r3 r4 r5 => by rw [j4 r r1 r2 r4 r5, i2 r r3], fun j hj => by rw [j5 j hj, hF4 71 (by decide) (by decide) (by decide) (by decide)], l1, l2, ?_⟩
    · rw [hdd]
      exact g_M_plays h k _ j1
    · funext j
      rw [l3 j]
      by_cases hj : j < 43
      · rw [if_pos hj, k73 j hj]
      · rw [if_neg hj, j2, hK' j (by omega)]
end
