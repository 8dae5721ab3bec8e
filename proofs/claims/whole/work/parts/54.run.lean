/-! running: both sides alike -/
section
variable {d : Nat} {F ρ ρ' : zM} {G : zG} {p p' : Nat → Int}
theorem zGr.u {h : Int} (gr : zGr F p) (hh : h = 0 ∨ h = 1) (e34 : ∀ g : Nat, g < 2 → p' (34 + g) = p (34 + g) ∨ p' (34 + g) = -1) (e36 : ∀ g : Nat, g < 2 → p' (34 + g) ≠ -1 → p' (36 + g) = p (36 + g) ∨ (p' (36 + g) = p (36 + g) + 1 ∧ p (36 + g) < F 80 (p (34 + g)).toNat)) (e40 : ∀ g : Nat, g < 2 → -2147483648 ≤ p' (40 + g) ∧ p' (40 + g) ≤ 2147483647) (h12 : 0 ≤ F 71 12) : zGr F p' := by
  intro g hg
  obtain ⟨g1, g2, g3, g4⟩ := gr g hg
  rcases e34 g hg with h1 | h1
  · rw [h1]
    refine ⟨g1, g2, fun hne => ?_, e40 g hg⟩
    have := g3 hne
    rcases e36 g hg (by rw [h1]; exact hne) with h2 | h2 <;> omega
  · rw [h1]
    exact ⟨by omega, by omega, fun q => absurd rfl q, e40 g hg⟩
theorem q_tick_ok (hV : zRv ρ) (hP : zPv ρ p) (hN : zNO ρ p) (T : zTp F) (gr : zGr F p) {h : Int} (hh : h = 0 ∨ h = 1) : zPv ρ (q_tick ρ (F 80) (F 81) (F 82) (F 83) p h) ∧ zNO ρ (q_tick ρ (F 80) (F 81) (F 82) (F 83) p h) ∧ zGr F (q_tick ρ (F 80) (F 81) (F 82) (F 83) p h) := by
  have t4 := T.2.2.2.1.1
  have r40 : ∀ g : Nat, g < 2 → -2147483648 ≤ p (40 + g) ∧ p (40 + g) ≤ 2147483647 := fun g hg => (gr g hg).2.2.2
  -- from numbers that differ from 34 on only
  have go : ∀ (q p' : Nat → Int), zPv ρ q → zNO ρ q → (∀ j, 34 ≤ j → q j = p j) → (∀ j, j < 34 → p' j = q j) → (∀ g : Nat, g < 2 → p' (34 + g) = p (34 + g) ∨ p' (34 + g) = -1) → (∀ g : Nat, g < 2 → p' (34 + g) ≠ -1 → p' (36 + g) = p (36 + g) ∨ (p' (36 + g) = p (36 + g) + 1 ∧ p (36 + g) < F 80 (p (34 + g)).toNat)) → (∀ g : Nat, g < 2 → -2147483648 ≤ p' (40 + g) ∧ p' (40 + g) ≤ 2147483647) → zPv ρ p' ∧ zNO ρ p' ∧ zGr F p' :=
    fun q p' q1 q2 _ q4 q5 q6 q7 => ⟨q1.k hV (fun j hj => q4 j (by omega)), q2.k (fun j hj => q4 j (by omega)), gr.u hh q5 q6 q7 t4⟩
  by_cases c0 : p (34 + h.toNat) = -1
  · unfold q_tick
    rw [if_pos c0]
    exact ⟨hP, hN, gr⟩
  · by_cases c1 : p (36 + h.toNat) < F 80 (p (34 + h.toNat)).toNat
    · obtain ⟨x1, x2, x3, x4, x5, x6, x7, x8⟩ := q_x_eq T gr hh c0 c1
      have zz : zadd (p (36 + h.toNat)) 1 = p (36 + h.toNat) + 1 := zadd_eq (by omega) (by omega)
      -- past an act that ends
      have ends : ∀ (q : Nat → Int), zPv ρ q → zNO ρ q → (∀ j, 34 ≤ j → j ≠ 38 + h.toNat → j ≠ 40 + h.toNat → q j = p j) → zPv ρ (q_end q h) ∧ zNO ρ (q_end q h) ∧ zGr F (q_end q h) := by
        intro q q1 q2 q3
        have v34 : ∀ j, j < 36 → q_end q h j = q j := fun j hj => by unfold q_end; rw [zu_ne (by omega), zu_ne (by omega), zu_ne (by omega)]
        have v36 : q_end q h (36 + h.toNat) = p (36 + h.toNat) + 1 := by unfold q_end; rw [zu_ne (by omega), zu_ne (by omega), zu_eq, q3 _ (by omega) (by omega) (by omega), zz]
        have v40 : q_end q h (40 + h.toNat) = 0 := by unfold q_end; rw [zu_eq]
        have vo : ∀ j, 34 ≤ j → j ≠ 36 + h.toNat → j ≠ 38 + h.toNat → j ≠ 40 + h.toNat → q_end q h j = p j := fun j h0 h1 h2 h3 => by unfold q_end; rw [zu_ne (by omega), zu_ne (by omega), zu_ne (by omega), q3 j h0 h2 h3]
        refine ⟨q1.k hV (fun j hj => v34 j (by omega)), q2.k (fun j hj => v34 j (by omega)), gr.u hh (fun g hg => Or.inl (vo _ (by omega) (by omega) (by omega) (by omega))) (fun g hg _ => ?_) (fun g hg => ?_) t4⟩
        · by_cases hgh : g = h.toNat
          · subst hgh; exact Or.inr ⟨v36, c1⟩
          · exact Or.inl (vo _ (by omega) (by omega) (by omega) (by omega))
        · by_cases hgh : g = h.toNat
          · subst hgh; rw [v40]; decide
          · rw [vo _ (by omega) (by omega) (by omega) (by omega)]; exact r40 g hg
      -- an act that does not end
      have stays : ∀ (q : Nat → Int) (v : Int), zPv ρ q → zNO ρ q → (∀ j, 34 ≤ j → q j = p j) → (-2147483648 ≤ v ∧ v ≤ 2147483647) → zPv ρ (zu q (40 + h.toNat) v) ∧ zNO ρ (zu q (40 + h.toNat) v) ∧ zGr F (zu q (40 + h.toNat) v) := by
        intro q v q1 q2 q3 hv
        refine go q _ q1 q2 q3 (fun j hj => zu_ne (by omega)) (fun g hg => Or.inl ?_) (fun g hg _ => Or.inl ?_) (fun g hg => ?_)
        · rw [zu_ne (by omega), q3 _ (by omega)]
        · rw [zu_ne (by omega), q3 _ (by omega)]
        · by_cases hgh : g = h.toNat
          · subst hgh; rw [zu_eq]; exact hv
          · rw [zu_ne (by omega), q3 _ (by omega)]; exact r40 g hg
      unfold q_tick
      rw [if_neg c0, if_neg (fun q => q c1)]
      by_cases a4 : F 81 (q_x p h) = 4
      · rw [if_pos a4]
        split
        · refine go p _ hP hN (fun _ _ => rfl) (fun j hj => zu_ne (by omega)) (fun g hg => Or.inl (zu_ne (by omega))) (fun g hg _ => Or.inl (zu_ne (by omega))) (fun g hg => ?_)
          rw [zu_ne (by omega)]
          exact r40 g hg
        · exact ends _ (hP.k hV (fun j hj => zu_ne (by omega))) (hN.k (fun j hj => zu_ne (by omega))) (fun j h0 h1 h2 => zu_ne h1)
      · rw [if_neg a4]
        by_cases a0 : F 81 (q_x p h) = 0
        · rw [if_pos a0]
          by_cases c2 : p (28 + h.toNat) = F 82 (q_x p h)
          · rw [if_pos c2]
            exact ends _ hP hN (fun _ _ _ _ => rfl)
          · rw [if_neg c2]
            by_cases c3 : q_first ρ p h (F 82 (q_x p h)) = -1
            · rw [if_pos c3]
              exact stays p _ hP hN (fun _ _ => rfl) (zadd_r _ _)
            · rw [if_neg c3]
              obtain ⟨k1, k2, k3, k4, k5, k6⟩ := q_first_ok hP hh (x8.2.1 a0) c2 c3
              have ho : q_aok 0 (q_first ρ p h (F 82 (q_x p h))) 0 := ⟨by decide, fun _ => k4, fun q => absurd q (by decide), fun q => absurd q (by decide)⟩
              have kk := q_act_keep hV hP hh ho
              have s1 := stays _ 0 (pv_act hV hP hh ho) (pno_act hV hP hN hh ho) kk (by decide)
              split
              · exact ends _ s1.1 s1.2.1 (fun j h0 _ h2 => by rw [zu_ne h2, kk j h0])
              · exact s1
        · rw [if_neg a0]
          have kk := q_act_keep hV hP hh x8
          split
          · exact ends _ (pv_act hV hP hh x8) (pno_act hV hP hN hh x8) (fun j h0 _ _ => kk j h0)
          · exact stays _ _ (pv_act hV hP hh x8) (pno_act hV hP hN hh x8) kk (zadd_r _ _)
    · unfold q_tick
      rw [if_neg c0, if_pos c1]
      refine go p _ hP hN (fun _ _ => rfl) (fun j hj => zu_ne (by omega)) (fun g hg => ?_) (fun g hg _ => Or.inl (zu_ne (by omega))) (fun g hg => ?_)
      · by_cases hgh : g = h.toNat
        · subst hgh; exact Or.inr zu_eq
        · exact Or.inl (zu_ne (by omega))
      · rw [zu_ne (by omega)]
        exact r40 g hg
noncomputable def q_both (ρ : zM) (L A N S : Nat → Int) (p : Nat → Int) : Nat → Int := zu (q_tick ρ L A N S (q_tick ρ L A N S p 0) 1) 42 (zadd (q_tick ρ L A N S (q_tick ρ L A N S p 0) 1 42) 1)
noncomputable def q_run (ρ : zM) (L A N S : Nat → Int) : Nat → (Nat → Int) → Nat → Int
  | 0, p => p
  | m + 1, p => q_run ρ L A N S m (q_both ρ L A N S p)
theorem q_both_ok (hV : zRv ρ) (hP : zPv ρ p) (hN : zNO ρ p) (T : zTp F) (gr : zGr F p) : zPv ρ (q_both ρ (F 80) (F 81) (F 82) (F 83) p) ∧ zNO ρ (q_both ρ (F 80) (F 81) (F 82) (F 83) p) ∧ zGr F (q_both ρ (F 80) (F 81) (F 82) (F 83) p) := by
  obtain ⟨a1, a2, a3⟩ := q_tick_ok hV hP hN T gr (Or.inl rfl)
  obtain ⟨b1, b2, b3⟩ := q_tick_ok hV a1 a2 T a3 (Or.inr rfl)
  refine ⟨b1.k hV (fun j hj => zu_ne (by omega)), b2.k (fun j hj => zu_ne (by omega)), fun g hg => ?_⟩
  unfold q_both
  rw [zu_ne (by omega), zu_ne (by omega), zu_ne (by omega)]
  exact b3 g hg
theorem s_run (hd : 8 ≤ d) (hV : zRv ρ) {w : Nat} (hw : w ≤ 100) : ∀ (m i : Nat) (p : Nat → Int) (F : zM) (G : zG), i + m = w → zSC 11 p F → zCR ρ F G → zPv ρ p → zNO ρ p → zTp F → zGr F p → ∃ F' G', zev zX0 d (26, 34, [zR 5, zI w, zI i], [], F, G, zsg) = some (some (zI (q_run ρ (F 80) (F 81) (F 82) (F 83) m p 42)), F', G', zsg) ∧ zSC 11 (q_run ρ (F 80) (F 81) (F 82) (F 83) m p) F' ∧ (∀ r, r ≠ 44 → (r < 11 ∨ 21 < r) → F' r = F r) ∧ (∀ r, r ≠ 44 → r ≠ 45 → G' r = G r) ∧ zPv ρ (q_run ρ (F 80) (F 81) (F 82) (F 83) m p) ∧ zNO ρ (q_run ρ (F 80) (F 81) (F 82) (F 83) m p) ∧ zGr F (q_run ρ (F 80) (F 81) (F 82) (F 83) m p) := by
  intro m
  induction m with
  | zero =>
    intro i p F G hi hS hC hP hN T gr
    refine ⟨F, G, g_C_run_34 w i _ ?_, hS, fun _ _ _ => rfl, fun _ _ _ => rfl, hP, hN, gr⟩
    rw [if_neg (by omega), hS.2.2.2]
    rfl
  | succ m ih =>
    intro i p F G hi hS hC hP hN T gr
    obtain ⟨a1, a2, a3⟩ := q_tick_ok hV hP hN T gr (Or.inl rfl)
    obtain ⟨F1, G1, e1, e2, e3, e4⟩ := s_tickHand (d := d) hd hS hC hV hP T gr (Or.inl rfl)
    have c1 : zch [44, 11, 12, 13, 14, 15, 16, 17, 18, 19, 20, 21] [] F F1 := by
      refine ⟨fun r hr _ => ?_, fun j _ => by rw [e3 71 (by decide) (by decide)]⟩
      simp only [List.mem_cons, List.not_mem_nil, or_false, not_or] at hr
      exact e3 r (by omega) (by omega)
    have r80 : F1 80 = F 80 := e3 80 (by decide) (by decide)
    have r81 : F1 81 = F 81 := e3 81 (by decide) (by decide)
    have r82 : F1 82 = F 82 := e3 82 (by decide) (by decide)
    have r83 : F1 83 = F 83 := e3 83 (by decide) (by decide)
    obtain ⟨F2, G2, f1, f2, f3, f4⟩ := s_tickHand (d := d) hd e2 (hC.fr (e3 6 (by decide) (by decide)) (e3 7 (by decide) (by decide)) (e3 8 (by decide) (by decide)) (e3 9 (by decide) (by decide)) (e3 10 (by decide) (by decide)) (e4 6 (by decide) (by decide))) hV a1 (T.ch c1) (a3.ch c1) (Or.inr rfl)
    rw [r80, r81, r82, r83] at f2
    have hF : ∀ r, r ≠ 44 → (r < 11 ∨ 21 < r) → ∀ v, zup F2 11 0 v r = F r := fun r r1 r2 v => by rw [zup_row (by omega), f3 r r1 r2, e3 r r1 r2]
    have S2 := f2.tick (v := zadd (q_tick ρ (F 80) (F 81) (F 82) (F 83) (q_tick ρ (F 80) (F 81) (F 82) (F 83) p 0) 1 42) 1)
    have f110 : F2 11 0 = q_tick ρ (F 80) (F 81) (F 82) (F 83) (q_tick ρ (F 80) (F 81) (F 82) (F 83) p 0) 1 42 := f2.2.2.2
    generalize hv : zadd (q_tick ρ (F 80) (F 81) (F 82) (F 83) (q_tick ρ (F 80) (F 81) (F 82) (F 83) p 0) 1 42) 1 = v at S2
    have c2 : zch [44, 11, 12, 13, 14, 15, 16, 17, 18, 19, 20, 21] [] F (zup F2 11 0 v) := by
      refine ⟨fun r hr _ => ?_, fun j _ => by rw [hF 71 (by decide) (by decide)]⟩
      simp only [List.mem_cons, List.not_mem_nil, or_false, not_or] at hr
      exact hF r (by omega) (by omega) v
    obtain ⟨b1, b2, b3⟩ := q_both_ok hV hP hN T gr
    have hb : q_both ρ (F 80) (F 81) (F 82) (F 83) p = zu (q_tick ρ (F 80) (F 81) (F 82) (F 83) (q_tick ρ (F 80) (F 81) (F 82) (F 83) p 0) 1) 42 v := by
      unfold q_both
      rw [hv]
    rw [← hb] at S2
    obtain ⟨F3, G3, h1, h2, h3, h4, h5, h6, h7⟩ := ih (i + 1) _ (zup F2 11 0 v) G2 (by omega) S2 (hC.fr (hF 6 (by decide) (by decide) v) (hF 7 (by decide) (by decide) v) (hF 8 (by decide) (by decide) v) (hF 9 (by decide) (by decide) v) (hF 10 (by decide) (by decide) v) (by rw [f4 6 (by decide) (by decide), e4 6 (by decide) (by decide)])) b1 b2 (T.ch c2) (b3.ch c2)
    rw [hF 80 (by decide) (by decide) v, hF 81 (by decide) (by decide) v, hF 82 (by decide) (by decide) v, hF 83 (by decide) (by decide) v] at h1 h2 h5 h6 h7
    refine ⟨F3, G3, g_C_run_34 w i _ ?_, h2, fun r r1 r2 => by rw [h3 r r1 r2, hF r r1 r2 v], fun r r1 r2 => by rw [h4 r r1 r2, f4 r r1 r2, e4 r r1 r2], h5, h6, ?_⟩
    · rw [if_pos (by omega), e1, zbV_some, f1, zbV_some, f110, hv, zadd_eq (by omega) (by omega), ← zcast1]
      exact h1
    · intro g hg
      have := h7 g hg
      rw [hF 80 (by decide) (by decide) v, hF 71 (by decide) (by decide) v] at this
      exact this
end
