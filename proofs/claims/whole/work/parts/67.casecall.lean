/-! the loop over the cases -/
section
variable {d : Nat} {F0 F ρ : zM} {G : zG} {p : Nat → Int}
theorem q_adds_eq {F1 : zM} {h : Int} {k t i : Nat} {c s l4 l5 l7 m4 m5 m7 : Int} (h80 : F1 80 = F0 80) (h81 : F1 81 = F0 81) (h82 : F1 82 = F0 82) (h83 : F1 83 = F0 83) (Q : q_adds ρ F0 p h k t i c s l4 l5 l7 m4 m5 m7) : q_adds ρ F1 p h k t i c s l4 l5 l7 m4 m5 m7 := by
  unfold q_adds at *
  rw [q_pl_eq h80 h81 h82 h83]
  exact Q
theorem q_adds_ex {h : Int} {k t i : Nat} {c s l4 l5 l7 : Int} : ∃ m4 m5 m7, q_adds ρ F0 p h k t i c s l4 l5 l7 m4 m5 m7 := by
  by_cases g : q_lay ρ p t c ∧ (q_pl ρ F0 h k (zu p t c)).2.1 = 0
  · exact ⟨_, _, _, Or.inl ⟨g, rfl, rfl, rfl⟩⟩
  · exact ⟨_, _, _, Or.inr ⟨g, rfl, rfl, rfl⟩⟩
theorem a_weigh {d' : Nat} (hd : 9 ≤ d) (hd' : 9 ≤ d') (hV : zRv ρ) (hP : zPv ρ p) (hN : zNO ρ p) (hS0 : zSC 11 p F0) (T0 : zTp F0) {h w : Int} (hh : h = 0 ∨ h = 1) {k : Nat} (hk : (k : Int) < F0 71 12) {t : Nat} {n : Nat} (hn6 : n ≤ 6) (hn : F0 64 4 = n) (ht : 0 < n → (t : Int) < ρ 71 8 ∧ F0 64 5 = t) (hCS : ∀ i : Nat, i < n → (0 ≤ F0 65 i ∧ F0 65 i < 64) ∧ 1 ≤ F0 66 i ∧ F0 66 i ≤ 99) : ∀ (m i : Nat) (l4 l5 l6 l7 : Int), i + m = n → 0 ≤ l5 ∧ l5 ≤ l6 ∧ l6 ≤ 99 * i → ∃ m4 m5 m6 m7, (0 ≤ m5 ∧ m5 ≤ m6 ∧ m6 ≤ 600) ∧
    (∀ (F : zM) (G : zG), zKC ρ F0 F G l4 l5 l6 l7 → ∃ F' G', zev zX0 d (165, 23, [zR 64, zR 11, zI h, zI k, zI i], [], F, G, zsg) = some (none, F', G', zsg) ∧ zKC ρ F0 F' G' m4 m5 m6 m7 ∧ (∀ r, r ≠ 44 → r ≠ 45 → G' r = G r)) ∧
    (∀ (F1 F : zM) (G : zG), zMR ρ F1 → zTp F1 → F1 71 12 = F0 71 12 → F1 71 33 = n → (0 < n → F1 71 34 = t) → F1 94 = F0 65 → F1 95 = F0 66 → (F1 80 = F0 80 ∧ F1 81 = F0 81 ∧ F1 82 = F0 82 ∧ F1 83 = F0 83) → zKM p F1 F → ∃ F', zKM p F1 F' ∧ (∀ r, r ≠ 71 → r ≠ 72 → r ≠ 99 → r ≠ 100 → F' r = F r) ∧ ∀ r : zQ, zev zX0 d' (128, 219, [zR 71, zI h, zI k, zI w, zI m4, zI m5, zI m6, zI m7, zI m5, zI m6, zR 0], [], F', G, zsg) = some r → zev zX0 d' (128, 50, [zR 71, zI h, zI k, zI w, zI l4, zI l5, zI l6, zI l7, zI i, zR 0, zR 0], [], F, G, zsg) = some r) := by
  intro m
  induction m with
  | zero =>
    intro i l4 l5 l6 l7 hi hb
    refine ⟨l4, l5, l6, l7, by omega, fun F G K => ⟨F, G, g_Chances_weigh_23 h k i _ ?_, K, fun _ _ _ => rfl⟩, fun F1 F G hR T e12 e33 e34 e94 e95 e80 K => ⟨F, K, fun _ _ _ _ _ => rfl, fun r hr => g_M_cases_50 h k w l4 l5 l6 l7 i _ ?_⟩⟩
    · rw [if_neg (by rw [K.2.2.1, hn]; omega)]
    · rw [if_neg (by rw [K.2.1 33 (by decide), e33]; omega)]
      exact hr
  | succ m ih =>
    intro i l4 l5 l6 l7 hi hb
    obtain ⟨hc, hs⟩ := hCS i (by omega)
    obtain ⟨ht1, ht2⟩ := ht (by omega)
    obtain ⟨m4, m5, m7, Q⟩ := q_adds_ex (ρ := ρ) (F0 := F0) (p := p) (h := h) (k := k) (t := t) (i := i) (c := F0 65 i) (s := F0 66 i) (l4 := l4) (l5 := l5) (l7 := l7)
    have h5 : 0 ≤ m5 ∧ m5 ≤ l6 + F0 66 i := by
      rcases Q with q | q
      · obtain ⟨-, -, q2, -⟩ := q
        omega
      · obtain ⟨-, -, q2, -⟩ := q
        omega
    obtain ⟨n4, n5, n6, n7, u1, u2, u3⟩ := ih (i + 1) m4 m5 (l6 + F0 66 i) m7 (by omega) (by omega)
    refine ⟨n4, n5, n6, n7, u1, fun F G K => ?_, fun F1 F G hR T e12 e33 e34 e94 e95 e80 K => ?_⟩
    · obtain ⟨F', G', v1, v2, v3⟩ := s_weigh1 (d := d) (by omega) hV hP hN hS0 T0 hh hk ht1 ht2 (i := i) (by rw [hn]; omega) (by omega) hc hs (by omega) (by omega) K Q
      obtain ⟨F2, G2, x1, x2, x3⟩ := u2 F' G' v1
      exact ⟨F2, G2, v3 _ x1, x2, fun r r1 r2 => by rw [x3 r r1 r2, v2 r r1 r2]⟩
    · obtain ⟨F', v1, v2, v3⟩ := m_cases1 (d := d') (G := G) (w := w) hd' hV hP hN hR T hh (k := k) (by rw [e12]; exact hk) ht1 (e34 (by omega)) (i := i) (by rw [e33]; omega) (by omega) (by rw [e94]; exact hc) (by rw [e95]; exact hs) (l4 := l4) (l5 := l5) (l6 := l6) (l7 := l7) (by omega) (by omega) K (by rw [e94, e95]; exact q_adds_eq e80.1 e80.2.1 e80.2.2.1 e80.2.2.2 Q)
      obtain ⟨F2, x1, x2, x3⟩ := u3 F1 F' G hR T e12 e33 e34 e94 e95 e80 v1
      refine ⟨F2, x1, fun r r1 r2 r3 r4 => by rw [x2 r r1 r2 r3 r4, v2 r r1 r2 r3 r4], fun r hr => v3 r ?_⟩
      rw [e95]
      exact x3 r hr
end
