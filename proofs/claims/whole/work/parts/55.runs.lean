/-! the call that runs -/
section
variable {d : Nat} {F ρ ρ' : zM} {G : zG} {p p' : Nat → Int}
theorem zch72 {F F' : zM} (h : ∀ r, r ≠ 72 → r ≠ 99 → r ≠ 100 → F' r = F r) : zch [72, 99, 100] [] F F' := by
  refine ⟨fun r hr _ => ?_, fun j _ => by rw [h 71 (by decide) (by decide) (by decide)]⟩
  simp only [List.mem_cons, List.not_mem_nil, or_false, not_or] at hr
  exact h r hr.1 hr.2.1 hr.2.2
theorem m_hand (hd : 8 ≤ d) (hR : zMR ρ F) (hp : F 72 = p) (hV : zRv ρ) (hP : zPv ρ p) (T : zTp F) (gr : zGr F p) {h w i : Int} (hh : h = 0 ∨ h = 1) : ∃ F1, F1 72 = q_tick ρ (F 80) (F 81) (F 82) (F 83) p h ∧ (∀ r, r ≠ 72 → r ≠ 99 → r ≠ 100 → F1 r = F r) ∧ ∀ r : zQ, zev zX0 d (113, 40, [zR 71, zI w, zI i, zI (h + 1)], [], F1, G, zsg) = some r → zev zX0 d (113, 40, [zR 71, zI w, zI i, zI h], [], F, G, zsg) = some r := by
  have z34 : zadd 34 h = 34 + h := zadd_eq (by omega) (by omega)
  have t34 : (34 + h).toNat = 34 + h.toNat := by omega
  have g34 : 0 ≤ 34 + h ∧ 34 + h < 43 := by omega
  have z1 : zadd h 1 = h + 1 := zadd_eq (by omega) (by omega)
  have l2 : h < 2 := by omega
  by_cases c0 : p (34 + h.toNat) = -1
  · refine ⟨F, ?_, fun _ _ _ _ => rfl, fun r hr => g_M_run_40 w i h _ ?_⟩
    · unfold q_tick
      rw [if_pos c0]
      exact hp
    · rw [if_pos l2, z34, t34, if_pos g34, hp, if_pos c0, z1]
      exact hr
  · obtain ⟨F1, e1, e2, e3⟩ := m_ticks (d := d) (G := G) hd hR hp hV hP T gr hh c0
    refine ⟨F1, e2, e3, fun r hr => g_M_run_40 w i h _ ?_⟩
    rw [if_pos l2, z34, t34, if_pos g34, hp, if_neg c0, e1, zbV_some, z1]
    exact hr
theorem m_run (hd : 8 ≤ d) (hV : zRv ρ) {w : Nat} (hw : w ≤ 100) : ∀ (m i : Nat) (p : Nat → Int) (F : zM), i + m = w → F 72 = p → zMR ρ F → zPv ρ p → zNO ρ p → zTp F → zGr F p → ∃ F', zev zX0 d (113, 33, [zR 71, zI w, zI i, zR 0], [], F, G, zsg) = some (some (zI (q_run ρ (F 80) (F 81) (F 82) (F 83) m p 42)), F', G, zsg) ∧ F' 72 = q_run ρ (F 80) (F 81) (F 82) (F 83) m p ∧ (∀ r, r ≠ 72 → r ≠ 99 → r ≠ 100 → F' r = F r) := by
  intro m
  induction m with
  | zero =>
    intro i p F hi hp hR hP hN T gr
    refine ⟨F, g_M_run_33 w i _ ?_, hp, fun _ _ _ _ => rfl⟩
    rw [if_neg (by omega), hp]
    rfl
  | succ m ih =>
    intro i p F hi hp hR hP hN T gr
    obtain ⟨a1, a2, a3⟩ := q_tick_ok hV hP hN T gr (Or.inl rfl)
    obtain ⟨F1, e1, e2, e3⟩ := m_hand (d := d) (G := G) (w := w) (i := i) hd hR hp hV hP T gr (Or.inl rfl)
    have c1 := zch72 e2
    obtain ⟨F2, f1, f2, f3⟩ := m_hand (d := d) (G := G) (w := w) (i := i) hd (hR.w e2) e1 hV a1 (T.ch c1) (a3.ch c1) (Or.inr rfl)
    rw [e2 80 (by decide) (by decide) (by decide), e2 81 (by decide) (by decide) (by decide), e2 82 (by decide) (by decide) (by decide), e2 83 (by decide) (by decide) (by decide)] at f1
    have hF : ∀ v, ∀ r, r ≠ 72 → r ≠ 99 → r ≠ 100 → zup F2 72 42 v r = F r := fun v r r1 r2 r3 => by rw [zup_row r1, f2 r r1 r2 r3, e2 r r1 r2 r3]
    obtain ⟨b1, b2, b3⟩ := q_both_ok hV hP hN T gr
    have hb : zup F2 72 42 (zadd (F2 72 42) 1) 72 = q_both ρ (F 80) (F 81) (F 82) (F 83) p := by
      rw [zup_fn, f1]
      rfl
    generalize hv : zadd (F2 72 42) 1 = v at hb
    have c2 := zch72 (hF v)
    obtain ⟨F3, h1, h2, h3⟩ := ih (i + 1) _ (zup F2 72 42 v) (by omega) hb (hR.w (hF v)) b1 b2 (T.ch c2) (b3.ch c2)
    rw [hF v 80 (by decide) (by decide) (by decide), hF v 81 (by decide) (by decide) (by decide), hF v 82 (by decide) (by decide) (by decide), hF v 83 (by decide) (by decide) (by decide)] at h1 h2
    refine ⟨F3, g_M_run_33 w i _ ?_, h2, fun r r1 r2 r3 => by rw [h3 r r1 r2 r3, hF v r r1 r2 r3]⟩
    rw [if_pos (by omega)]
    refine e3 _ (f3 _ (g_M_run_40 w i _ _ ?_))
    rw [if_neg (by decide), hv, zadd_eq (by omega) (by omega), ← zcast1]
    exact h1
theorem a_run (hd : 9 ≤ d) (A : zAll ρ p F G) (w : Int) : zStep d 26 113 [zI w] F G := by
  obtain ⟨d, rfl⟩ := zds (show 1 ≤ d by omega)
  have A0 := A
  obtain ⟨⟨n1, n2, n3, n4, n5, n6⟩, a2, a3, a4, a5, a6, a7, a8, a9⟩ := A
  have h0 : F 11 0 = p 42 := n1.2.2.2
  by_cases c1 : 1 ≤ w ∧ w ≤ 100
  · by_cases c2 : 5000 < zadd (p 42) w
    · refine A0.same (v := -4) (g_C_run w _ ?_) (g_M_run w _ ?_)
      · rw [if_neg (by omega), if_neg (by omega), h0, if_pos c2]
      · rw [m_in (by omega), zbI_some, zp_t c1, if_neg (by decide), n4, if_pos c2]
    · obtain ⟨m, rfl⟩ := Int.eq_ofNat_of_zero_le (show 0 ≤ w by omega)
      obtain ⟨F1, G1, e1, e2, e3, e4, e5, e6, e7⟩ := s_run (d := d) (w := m) (by omega) n5 (by omega) m 0 p F G (by omega) n1 n2 n6 a2 a5 a3
      have c3 : zch [44, 11, 12, 13, 14, 15, 16, 17, 18, 19, 20, 21] [] F F1 := by
        refine ⟨fun r hr _ => ?_, fun j _ => by rw [e3 71 (by decide) (by decide)]⟩
        simp only [List.mem_cons, List.not_mem_nil, or_false, not_or] at hr
        exact e3 r (by omega) (by omega)
      have p1 : F1 72 = p := by rw [e3 72 (by decide) (by decide)]; exact n4
      obtain ⟨F2, f1, f2, f3⟩ := m_run (d := d) (G := G1) (w := m) (by omega) n5 (by omega) m 0 p F1 (by omega) p1 (n3.fr (e3 71 (by decide) (by decide)) (e3 75 (by decide) (by decide)) (e3 76 (by decide) (by decide)) (e3 77 (by decide) (by decide)) (e3 78 (by decide) (by decide)) (e3 79 (by decide) (by decide))) n6 a2 (a5.ch c3) (a3.ch c3)
      rw [e3 80 (by decide) (by decide), e3 81 (by decide) (by decide), e3 82 (by decide) (by decide), e3 83 (by decide) (by decide)] at f1 f2
      refine ⟨q_run ρ (F 80) (F 81) (F 82) (F 83) m p 42, F1, G1, F2, G1, g_C_run m _ ?_, g_M_run m _ ?_, ρ, q_run ρ (F 80) (F 81) (F 82) (F 83) m p, A0.act2 (e2.fr (fun k hk => f3 _ (by omega) (by omega) (by omega))) f2 e5 e6 e7 ⟨fun r hr _ => ?_, fun j _ => ?_⟩ e4⟩
      · rw [if_neg (by omega), if_neg (by omega), h0, if_neg c2]
        exact e1
      · rw [m_in (by omega), zbI_some, zp_t c1, if_neg (by decide), p1, if_neg c2]
        exact f1
      · simp only [List.mem_cons, List.not_mem_nil, or_false, not_or] at hr
        rw [f3 r (by omega) (by omega) (by omega), e3 r (by omega) (by omega)]
      · rw [f3 71 (by decide) (by decide) (by decide), e3 71 (by decide) (by decide)]
  · refine A0.same (v := -2) (g_C_run w _ ?_) (g_M_run w _ ?_)
    · split
      · rfl
      · rw [if_pos (by omega)]
    · rw [m_in (by omega), zbI_some, zp_f c1, if_pos rfl]
end
