/-! the call that weighs cases -/
section
variable {d : Nat} {F ρ : zM} {G : zG} {p : Nat → Int}
theorem zAll.cs {F2 : zM} {G2 : zG} (A : zAll ρ p F G) (h2 : F2 72 = p) (hc : zch [44, 52, 64, 22, 23, 24, 25, 26, 27, 28, 29, 30, 31, 32, 72, 73, 99, 100] [43] F F2) (h4 : F2 64 4 = F 64 4) (h5 : F2 64 5 = F 64 5) (hG : ∀ r, r ≠ 44 → r ≠ 45 → G2 r = G r) : zAll ρ p F2 G2 := by
  obtain ⟨⟨n1, n2, n3, n4, n5, n6⟩, a2, a3, a4, a5, a6, a7, a8, a9⟩ := A
  refine ⟨⟨n1.fr (fun k hk => hc.1 _ (by simp; omega) (by omega)), n2.fr (hc.1 6 (by decide) (by decide)) (hc.1 7 (by decide) (by decide)) (hc.1 8 (by decide) (by decide)) (hc.1 9 (by decide) (by decide)) (hc.1 10 (by decide) (by decide)) (hG 6 (by decide) (by decide)), n3.fr2 (hc.2 5 (by decide)) (hc.2 8 (by decide)) (hc.2 11 (by decide)) (hc.1 75 (by decide) (by decide)) (hc.1 76 (by decide) (by decide)) (hc.1 77 (by decide) (by decide)) (hc.1 78 (by decide) (by decide)) (hc.1 79 (by decide) (by decide)), h2, n5, n6⟩, a2, a3.ch hc, a4.ch hc, a5.ch hc, a6.ch hc, a7.ch hc ⟨hG 59 (by decide) (by decide), hG 93 (by decide) (by decide)⟩, a8.ch hc (by decide) (by decide) h4 h5, a9.ch hc⟩
/-- both sides at the end of their loops -/
theorem zAll.weighed (hd : 10 ≤ d) (A : zAll ρ p F G) {h w : Int} (hh : h = 0 ∨ h = 1) {k : Nat} (hk : (k : Int) < F 71 12) : ∃ (m4 m7 : Int) (m5 m6 : Nat) (F1 : zM) (G1 : zG), (m5 ≤ m6 ∧ m6 ≤ 600) ∧ zex d 165 [zR 64, zR 11, zI h, zI k] (F, G, zsg) = some (none, F1, G1, zsg) ∧ F1 71 = F 71 ∧ F1 64 8 = m4 ∧ F1 64 10 = m5 ∧ F1 64 11 = m6 ∧ F1 64 9 = m7 ∧ ∃ F2 F3, zex d 107 [zR 71, zI 0] (F1, G1, zsg) = some (none, F2, G1, zsg) ∧ zAll ρ p F3 G1 ∧ ∀ r : zQ, zev zX0 d (128, 219, [zR 71, zI h, zI k, zI w, zI m4, zI m5, zI m6, zI m7, zI m5, zI m6, zR 0], [], F3, G1, zsg) = some r → zev zX0 d (128, 50, [zR 71, zI h, zI k, zI w, zI 0, zI 0, zI 0, zI 0, zI 0, zR 0, zR 0], [], F2, G1, zsg) = some r := by
  have A0 := A
  obtain ⟨⟨n1, n2, n3, n4, n5, n6⟩, a2, a3, a4, a5, a6, a7, ⟨c1, c2, c3, c4, c5, c6⟩, a9⟩ := A
  obtain ⟨n, hn⟩ := Int.eq_ofNat_of_zero_le c2.1
  obtain ⟨t, ht⟩ : ∃ t : Nat, 0 < n → F 71 34 = t := by
    by_cases q : 0 < n
    · obtain ⟨t, ht⟩ := Int.eq_ofNat_of_zero_le (c3 (by omega)).2.1
      exact ⟨t, fun _ => ht⟩
    · exact ⟨0, fun q2 => absurd q2 q⟩
  obtain ⟨e, rfl⟩ := zds (show 1 ≤ d by omega)
  obtain ⟨m4, m5, m6, m7, u1, u2, u3⟩ := a_weigh (d := e) (d' := e + 1) (F0 := F) (p := p) (w := w) (by omega) (by omega) n5 n6 a2 n1 a5 hh hk (t := t) (n := n) (by omega) (c1.trans hn) (fun q => by have := c3 (by omega); have := ht q; exact ⟨by omega, by omega⟩) (fun i hi => by rw [c4, c5]; exact c6 i (by omega)) n 0 0 0 0 0 (by omega) (by omega)
  obtain ⟨a5', rfl⟩ := Int.eq_ofNat_of_zero_le u1.1
  obtain ⟨a6', rfl⟩ := Int.eq_ofNat_of_zero_le (show 0 ≤ m6 by omega)
  have h64 : ∀ r, r ≠ 64 → zup (zup (zup (zup F 64 8 0) 64 10 0) 64 11 0) 64 9 0 r = F r := fun r hr => by rw [zup_row hr, zup_row hr, zup_row hr, zup_row hr]
  obtain ⟨F1, G1, v1, v2, v3⟩ := u2 (zup (zup (zup (zup F 64 8 0) 64 10 0) 64 11 0) 64 9 0) G ⟨fun r _ _ r3 _ => h64 r r3, n2.fr (h64 6 (by decide)) (h64 7 (by decide)) (h64 8 (by decide)) (h64 9 (by decide)) (h64 10 (by decide)) rfl, by rw [zup_col (by decide), zup_col (by decide), zup_col (by decide), zup_col (by decide)], by rw [zup_col (by decide), zup_col (by decide), zup_col (by decide), zup_col (by decide)], by rw [zup_col (by decide), zup_col (by decide), zup_col (by decide), zup_eq], by rw [zup_col (by decide), zup_col (by decide), zup_eq], by rw [zup_col (by decide), zup_eq], zup_eq⟩
  obtain ⟨K1, K2, K3, K4, K5, K6, K7, K8⟩ := v2
  have kk : ∀ r, 33 ≤ r → r ≠ 44 → r ≠ 52 → r ≠ 64 → F1 r = F r := fun r h0 r1 r2 r3 => K1 r r1 r2 r3 (by omega)
  have k71 := kk 71 (by decide) (by decide) (by decide) (by decide)
  have kc : zch [44, 52, 64, 22, 23, 24, 25, 26, 27, 28, 29, 30, 31, 32] [] F F1 := by
    refine ⟨fun r hr _ => ?_, fun j _ => by rw [k71]⟩
    simp only [List.mem_cons, List.not_mem_nil, or_false, not_or] at hr
    exact K1 r (by omega) (by omega) (by omega) (by omega)
  obtain ⟨F2, l1, l2, l3⟩ := m_lays0 (d := e + 1) (F := F1) (G := G1) (by omega)
  have p1 : F1 72 = p := by rw [kk 72 (by decide) (by decide) (by decide) (by decide)]; exact n4
  have KM : zKM p F1 F2 := ⟨fun r _ _ _ _ _ a6 _ _ _ => l2 r a6, fun j _ => by rw [l2 71 (by decide)], by rw [l2 72 (by decide)]; exact p1, fun j hj => by rw [l3 j hj, p1]⟩
  obtain ⟨F3, x1, x2, x3⟩ := u3 F1 F2 G1 (n3.fr k71 (kk 75 (by decide) (by decide) (by decide) (by decide)) (kk 76 (by decide) (by decide) (by decide) (by decide)) (kk 77 (by decide) (by decide) (by decide) (by decide)) (kk 78 (by decide) (by decide) (by decide) (by decide)) (kk 79 (by decide) (by decide) (by decide) (by decide))) (a5.ch kc) (by rw [k71]) (by rw [k71]; exact hn) (fun q => by rw [k71]; exact ht q) (by rw [kk 94 (by decide) (by decide) (by decide) (by decide), c4]) (by rw [kk 95 (by decide) (by decide) (by decide) (by decide), c5]) ⟨kk 80 (by decide) (by decide) (by decide) (by decide), kk 81 (by decide) (by decide) (by decide) (by decide), kk 82 (by decide) (by decide) (by decide) (by decide), kk 83 (by decide) (by decide) (by decide) (by decide)⟩ KM
  have y : ∀ r, r ≠ 71 → r ≠ 72 → r ≠ 73 → r ≠ 99 → r ≠ 100 → F3 r = F1 r := fun r r1 r2 r3 r4 r5 => by rw [x2 r r1 r2 r4 r5, l2 r r3]
  refine ⟨m4, m7, a5', a6', F1, G1, by omega, g_Chances_weigh h k _ v1, k71, K5, K6, K7, K8, F2, F3, l1, A0.cs x1.2.2.1 ⟨fun r hr h71 => ?_, fun j hj => ?_⟩ ?_ ?_ v3, fun r hr => x3 r hr⟩
  · simp only [List.mem_cons, List.not_mem_nil, or_false, not_or] at hr
    rw [y r h71 (by omega) (by omega) (by omega) (by omega), K1 r (by omega) (by omega) (by omega) (by omega)]
  · simp only [List.mem_cons, List.not_mem_nil, or_false] at hj
    rw [x1.2.1 j hj, k71]
  · rw [y 64 (by decide) (by decide) (by decide) (by decide) (by decide)]; exact K3
  · rw [y 64 (by decide) (by decide) (by decide) (by decide) (by decide)]; exact K4
end
