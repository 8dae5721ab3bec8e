/-! the call that reads a program -/
section
variable {d : Nat} {F ρ ρ' : zM} {G : zG} {p p' : Nat → Int}
theorem zGr.more {F2 : zM} (h : zGr F p) (hq : F 71 12 ≤ F2 71 12) (h80 : ∀ j : Nat, (j : Int) < F 71 12 → F2 80 j = F 80 j) : zGr F2 p := by
  intro g hg
  obtain ⟨h1, h2, h3, h4⟩ := h g hg
  refine ⟨h1, by omega, fun hne => ?_, h4⟩
  rw [h80 _ (by omega)]
  exact h3 hne
theorem zAll.prog {F2 : zM} (A : zAll ρ p F G) (hc : zch [46, 47, 48, 49, 50, 51, 80, 81, 82, 83, 84] [12, 18, 42] F F2) (ht : zTp F2) (hq : F 71 12 ≤ F2 71 12) (h80 : ∀ j : Nat, (j : Int) < F 71 12 → F2 80 j = F 80 j) : zAll ρ p F2 G := by
  obtain ⟨n, a2, a3, a4, a5, a6, a7, a8, a9⟩ := A
  have e64 : F2 64 = F 64 := hc.1 64 (by decide) (by decide)
  refine ⟨n.ch hc ⟨rfl, trivial⟩, a2, a3.more hq h80, ?_, ht, a6.ch hc, a7.ch hc ⟨rfl, rfl⟩, a8.ch hc (by decide) (by decide) (by rw [e64]) (by rw [e64]), a9.ch hc⟩
  obtain ⟨i1, i2, i3⟩ := a4
  unfold zIm
  rw [hc.1 5 (by decide) (by decide), hc.1 74 (by decide) (by decide), hc.2 3 (by decide)]
  refine ⟨i1, i2, fun q => ?_⟩
  obtain ⟨j1, j2, j3, j4⟩ := i3 q
  exact ⟨j1.fr (fun i hi => hc.1 _ (by simp; omega) (by omega)), j2, j3, j4.more hq h80⟩
theorem a_program (hd : 6 ≤ d) (A : zAll ρ p F G) : zStep d 21 102 [] F G := by
  obtain ⟨d, rfl⟩ := zds (show 1 ≤ d by omega)
  have A0 := A
  obtain ⟨n, a2, a3, a4, a5, a6, a7, a8, a9⟩ := A
  obtain ⟨t1, t2, t3, t4, t5, t6, t7, t8⟩ := a5
  by_cases c1 : F 71 12 = 6
  · refine A0.same (v := -4) (g_C_program _ ?_) (g_M_program _ ?_)
    · rw [if_neg (by omega)]
    · rw [if_pos c1]
  · obtain ⟨q, hq⟩ := Int.eq_ofNat_of_zero_le t4.1
    have hq6 : q < 6 := by omega
    obtain ⟨ok', l', a', AA, N, S, i1, i2, i2b, i3, i4, P1, P2⟩ := a_prog (B := F 84) (n := F 71 18) (q := q) t2.2 hq6 12 0 0 1 (by omega) (by omega) (Or.inr rfl) (fun _ => rfl)
    obtain ⟨e, rfl⟩ := zds (show 1 ≤ d by omega)
    obtain ⟨F', e1, e2, e3⟩ := P1 e (zup F 46 7 0) G (by omega) (by rw [zup_col (by decide)]; exact t1) (by rw [zup_col (by decide), t3]; exact hq) zup_eq (by rw [zup_row (by decide)]; exact t5)
    have z00 : ((0 : Nat) : Int) = 0 := rfl
    rw [z00] at e1
    have hq1 : zsub ((q : Int) + 1) 1 = q := by rw [zsub_eq (by omega) (by omega)]; omega
    have hF' : ∀ r, r ≠ 46 → r ≠ 49 → r ≠ 50 → r ≠ 51 → F' r = F r := fun r r1 r2 r3 r4 => by rw [e2.2.1 r r1 r2 r3 r4, zup_row r1]
    by_cases c : ok' = 1 ∧ ¬ a' < F 71 18
    · rw [if_pos c] at e1
      generalize hFC : zup (zup (zup F' 46 1 0) 46 2 (q + 1)) 48 q l' = FC at e1
      have cF : ∀ r, r ≠ 46 → r ≠ 48 → FC r = F' r := fun r r1 r2 => by rw [← hFC, zup_row r2, zup_row r1, zup_row r1]
      have cF' : ∀ r, r ≠ 46 → r ≠ 48 → r ≠ 49 → r ≠ 50 → r ≠ 51 → FC r = F r := fun r r1 r2 r3 r4 r5 => by rw [cF r r1 r2, hF' r r1 r3 r4 r5]
      have c462 : FC 46 2 = q + 1 := by rw [← hFC, zup_row (by decide), zup_eq]
      have c461 : FC 46 1 = 0 := by rw [← hFC, zup_row (by decide), zup_col (by decide), zup_eq]
      have c48 : FC 48 = zu (F 48) q l' := by rw [← hFC, zup_fn, zup_row (by decide), zup_row (by decide), hF' 48 (by decide) (by decide) (by decide) (by decide)]
      have C : zex (e + 1 + 1) 21 [zR 5] (F, G, zsg) = some (some (zI q), FC, G, zsg) := by
        have h6 : F 46 2 < 6 := by omega
        have RP : zex (e + 1) 218 [zR 46] (F, G, zsg) = some (some (zI (-1)), FC, G, zsg) := g_Tape_readProgram _ e1
        refine g_C_program _ ?_
        rw [if_pos h6, RP, zbI_some, if_pos rfl, c462, hq1]
      obtain ⟨F'', f1, f2, f3⟩ := P2 (e + 1) (zup FC 71 42 0) G (by omega) (by rw [zup_col (by decide), cF' 71 (by decide) (by decide) (by decide) (by decide) (by decide)]) (by rw [zup_col (by decide), cF' 71 (by decide) (by decide) (by decide) (by decide) (by decide)]; exact hq) zup_eq (by rw [zup_row (by decide), cF' 84 (by decide) (by decide) (by decide) (by decide) (by decide)])
      rw [z00] at f1
      rw [if_pos c] at f1
      generalize hFM : zup (zup (zup F'' 71 18 0) 80 q l') 71 12 (q + 1) = FM at f1
      have M : zex (e + 1 + 1) 102 [zR 71] (FC, G, zsg) = some (some (zI q), FM, G, zsg) := by
        refine g_M_program _ ?_
        rw [cF' 71 (by decide) (by decide) (by decide) (by decide) (by decide), if_neg c1]
        exact f1
      have mF : ∀ r, r ≠ 71 → r ≠ 80 → r ≠ 81 → r ≠ 82 → r ≠ 83 → FM r = FC r := fun r r1 r2 r3 r4 r5 => by rw [← hFM, zup_row r1, zup_row r2, zup_row r1, f2.2.1 r r1 r3 r4 r5, zup_row r1]
      have mA : ∀ r, r ≠ 71 → r ≠ 80 → FM r = F'' r := fun r r1 r2 => by rw [← hFM, zup_row r1, zup_row r2, zup_row r1]
      have m71 : ∀ j, j ≠ 12 → j ≠ 18 → j ≠ 42 → FM 71 j = F 71 j := fun j j1 j2 j3 => by
        rw [← hFM, zup_col j1, zup_row (by decide), zup_col j2, f2.1 j j3, zup_col j3, cF' 71 (by decide) (by decide) (by decide) (by decide) (by decide)]
      have m12 : FM 71 12 = q + 1 := by rw [← hFM, zup_eq]
      have m18 : FM 71 18 = 0 := by rw [← hFM, zup_col (by decide), zup_row (by decide), zup_eq]
      have m80 : FM 80 = zu (F 80) q l' := by rw [← hFM, zup_row (by decide), zup_fn, zup_row (by decide), f2.2.1 80 (by decide) (by decide) (by decide) (by decide), zup_row (by decide), cF' 80 (by decide) (by decide) (by decide) (by decide) (by decide)]
      have mC : ∀ r, r ≠ 46 → r ≠ 48 → r ≠ 49 → r ≠ 50 → r ≠ 51 → r ≠ 71 → r ≠ 80 → r ≠ 81 → r ≠ 82 → r ≠ 83 → FM r = F r := fun r r1 r2 r3 r4 r5 r6 r7 r8 r9 r10 => by rw [mF r r6 r7 r8 r9 r10, cF' r r1 r2 r3 r4 r5]
      refine ⟨q, FC, G, FM, G, C, M, ρ, p, A0.prog ?_ ?_ (by rw [m12]; omega) (fun j hj => by rw [m80, zu_ne (by omega)])⟩
      · refine ⟨fun r hr r71 => ?_, fun j hj => ?_⟩
        · simp only [List.mem_cons, List.not_mem_nil, or_false, not_or] at hr
          exact mC r (by omega) (by omega) (by omega) (by omega) (by omega) (by omega) (by omega) (by omega) (by omega) (by omega)
        · simp only [List.mem_cons, List.not_mem_nil, or_false, not_or] at hj
          exact m71 j hj.1 hj.2.1 hj.2.2
      · refine ⟨by rw [mF 46 (by decide) (by decide) (by decide) (by decide) (by decide), c461, m18], by rw [m18]; decide, by rw [mF 46 (by decide) (by decide) (by decide) (by decide) (by decide), c462, m12], by rw [m12]; omega, by rw [mF 47 (by decide) (by decide) (by decide) (by decide) (by decide), cF' 47 (by decide) (by decide) (by decide) (by decide) (by decide), mC 84 (by decide) (by decide) (by decide) (by decide) (by decide) (by decide) (by decide) (by decide) (by decide) (by decide)]; exact t5, by rw [mC 84 (by decide) (by decide) (by decide) (by decide) (by decide) (by decide) (by decide) (by decide) (by decide) (by decide)]; exact t6, by rw [mF 48 (by decide) (by decide) (by decide) (by decide) (by decide), c48, m80, t7], fun q' hq' => ?_⟩
        rw [m12] at hq'
        rw [m80, mF 49 (by decide) (by decide) (by decide) (by decide) (by decide), mF 50 (by decide) (by decide) (by decide) (by decide) (by decide), mF 51 (by decide) (by decide) (by decide) (by decide) (by decide), cF 49 (by decide) (by decide), cF 50 (by decide) (by decide), cF 51 (by decide) (by decide), mA 81 (by decide) (by decide), mA 82 (by decide) (by decide), mA 83 (by decide) (by decide)]
        by_cases hqq : q' = q
        · subst hqq
          rw [zu_eq]
          refine ⟨by omega, fun i hi => ?_⟩
          have h5 := e3 c.1 i (by omega) (by omega)
          have h6 := f3 c.1 i (by omega) (by omega)
          rw [h5.1, h5.2.1, h5.2.2, h6.1, h6.2.1, h6.2.2]
          exact ⟨rfl, rfl, rfl, i4 c.1 i (by omega) (by omega)⟩
        · rw [zu_ne hqq]
          obtain ⟨u1, u2⟩ := t8 q' (by omega)
          refine ⟨u1, fun i hi => ?_⟩
          have h5 := e2.2.2 (12 * q' + i) (by omega)
          have h6 := f2.2.2 (12 * q' + i) (by omega)
          rw [zup_row (by decide), zup_row (by decide), zup_row (by decide)] at h5 h6
          rw [h5.1, h5.2.1, h5.2.2, h6.1, h6.2.1, h6.2.2, cF' 81 (by decide) (by decide) (by decide) (by decide) (by decide), cF' 82 (by decide) (by decide) (by decide) (by decide) (by decide), cF' 83 (by decide) (by decide) (by decide) (by decide) (by decide)]
          exact u2 i hi
    · rw [if_neg c] at e1
      generalize hFC : zup F' 46 1 0 = FC at e1
      have cF : ∀ r, r ≠ 46 → FC r = F' r := fun r r1 => by rw [← hFC, zup_row r1]
      have cF' : ∀ r, r ≠ 46 → r ≠ 49 → r ≠ 50 → r ≠ 51 → FC r = F r := fun r r1 r3 r4 r5 => by rw [cF r r1, hF' r r1 r3 r4 r5]
      have c462 : FC 46 2 = q := by rw [← hFC, zup_col (by decide), e2.1 2 (by decide) (by decide), zup_col (by decide), t3]; exact hq
      have c461 : FC 46 1 = 0 := by rw [← hFC, zup_eq]
      have z100 : zsub (-100) a' = -100 - a' := zsub_eq (by omega) (by omega)
      have C : zex (e + 1 + 1) 21 [zR 5] (F, G, zsg) = some (some (zI (-100 - a')), FC, G, zsg) := by
        have hne : ¬ a' = -1 := by
          intro h
          rw [h] at i3
          exact absurd i3.1 (by decide)
        have h6 : F 46 2 < 6 := by omega
        have RP : zex (e + 1) 218 [zR 46] (F, G, zsg) = some (some (zI a'), FC, G, zsg) := g_Tape_readProgram _ e1
        refine g_C_program _ ?_
        rw [if_pos h6, RP, zbI_some, if_neg hne, z100]
      obtain ⟨F'', f1, f2, f3⟩ := P2 (e + 1) (zup FC 71 42 0) G (by omega) (by rw [zup_col (by decide), cF' 71 (by decide) (by decide) (by decide) (by decide)]) (by rw [zup_col (by decide), cF' 71 (by decide) (by decide) (by decide) (by decide)]; exact hq) zup_eq (by rw [zup_row (by decide), cF' 84 (by decide) (by decide) (by decide) (by decide)])
      rw [z00] at f1
      rw [if_neg c] at f1
      generalize hFM : zup F'' 71 18 0 = FM at f1
      have M : zex (e + 1 + 1) 102 [zR 71] (FC, G, zsg) = some (some (zI (-100 - a')), FM, G, zsg) := by
        refine g_M_program _ ?_
        rw [cF' 71 (by decide) (by decide) (by decide) (by decide), if_neg c1]
        exact f1
      have mF : ∀ r, r ≠ 71 → r ≠ 81 → r ≠ 82 → r ≠ 83 → FM r = FC r := fun r r1 r3 r4 r5 => by rw [← hFM, zup_row r1, f2.2.1 r r1 r3 r4 r5, zup_row r1]
      have mA : ∀ r, r ≠ 71 → FM r = F'' r := fun r r1 => by rw [← hFM, zup_row r1]
      have m71 : ∀ j, j ≠ 18 → j ≠ 42 → FM 71 j = F 71 j := fun j j2 j3 => by
        rw [← hFM, zup_col j2, f2.1 j j3, zup_col j3, cF' 71 (by decide) (by decide) (by decide) (by decide)]
      have m12 : FM 71 12 = q := by rw [m71 12 (by decide) (by decide)]; exact hq
      have m18 : FM 71 18 = 0 := by rw [← hFM, zup_eq]
      have mC : ∀ r, r ≠ 46 → r ≠ 49 → r ≠ 50 → r ≠ 51 → r ≠ 71 → r ≠ 81 → r ≠ 82 → r ≠ 83 → FM r = F r := fun r r1 r3 r4 r5 r6 r8 r9 r10 => by rw [mF r r6 r8 r9 r10, cF' r r1 r3 r4 r5]
      have m80 : FM 80 = F 80 := mC 80 (by decide) (by decide) (by decide) (by decide) (by decide) (by decide) (by decide) (by decide)
      refine ⟨-100 - a', FC, G, FM, G, C, M, ρ, p, A0.prog ?_ ?_ (by rw [m12]; omega) (fun j hj => by rw [m80])⟩
      · refine ⟨fun r hr r71 => ?_, fun j hj => ?_⟩
        · simp only [List.mem_cons, List.not_mem_nil, or_false, not_or] at hr
          exact mC r (by omega) (by omega) (by omega) (by omega) (by omega) (by omega) (by omega) (by omega)
        · simp only [List.mem_cons, List.not_mem_nil, or_false, not_or] at hj
          exact m71 j hj.2.1 hj.2.2
      · refine ⟨by rw [mF 46 (by decide) (by decide) (by decide) (by decide), c461, m18], by rw [m18]; decide, by rw [mF 46 (by decide) (by decide) (by decide) (by decide), c462, m12], by rw [m12]; omega, by rw [mC 47 (by decide) (by decide) (by decide) (by decide) (by decide) (by decide) (by decide) (by decide), mC 84 (by decide) (by decide) (by decide) (by decide) (by decide) (by decide) (by decide) (by decide)]; exact t5, by rw [mC 84 (by decide) (by decide) (by decide) (by decide) (by decide) (by decide) (by decide) (by decide)]; exact t6, by rw [mC 48 (by decide) (by decide) (by decide) (by decide) (by decide) (by decide) (by decide) (by decide), m80]; exact t7, fun q' hq' => ?_⟩
        rw [m12] at hq'
        rw [m80, mF 49 (by decide) (by decide) (by decide) (by decide), mF 50 (by decide) (by decide) (by decide) (by decide), mF 51 (by decide) (by decide) (by decide) (by decide), cF 49 (by decide), cF 50 (by decide), cF 51 (by decide), mA 81 (by decide), mA 82 (by decide), mA 83 (by decide)]
        obtain ⟨u1, u2⟩ := t8 q' (by omega)
        refine ⟨u1, fun i hi => ?_⟩
        have h5 := e2.2.2 (12 * q' + i) (by omega)
        have h6 := f2.2.2 (12 * q' + i) (by omega)
        rw [zup_row (by decide), zup_row (by decide), zup_row (by decide)] at h5 h6
        rw [h5.1, h5.2.1, h5.2.2, h6.1, h6.2.1, h6.2.2, cF' 81 (by decide) (by decide) (by decide) (by decide), cF' 82 (by decide) (by decide) (by decide) (by decide), cF' 83 (by decide) (by decide) (by decide) (by decide)]
        exact u2 i hi
end
