/-! weighing one case, the reference -/
section
variable {d : Nat} {F0 F ρ : zM} {G : zG} {p : Nat → Int}
theorem zKM.R (K : zKM p F0 F) (hR : zMR ρ F0) : zMR ρ F := by
  obtain ⟨K1, K2, K3, K4⟩ := K
  have k : ∀ r, 75 ≤ r → r ≤ 79 → F r = F0 r := fun r a b => K1 r (by omega) (by omega) (by omega) (by omega) (by omega) (by omega) (by omega) (by omega) (by omega)
  exact hR.fr2 (K2 5 (by decide)) (K2 8 (by decide)) (K2 11 (by decide)) (k 75 (by decide) (by decide)) (k 76 (by decide) (by decide)) (k 77 (by decide) (by decide)) (k 78 (by decide) (by decide)) (k 79 (by decide) (by decide))
theorem m_cases1 (hd : 9 ≤ d) (hV : zRv ρ) (hP : zPv ρ p) (hN : zNO ρ p) (hR0 : zMR ρ F0) (T0 : zTp F0) {h w : Int} (hh : h = 0 ∨ h = 1) {k : Nat} (hk : (k : Int) < F0 71 12) {t : Nat} (ht : (t : Int) < ρ 71 8) (h5 : F0 71 34 = t) {i : Nat} (hi : (i : Int) < F0 71 33) (hi6 : i < 6) (hc : 0 ≤ F0 94 i ∧ F0 94 i < 64) (hs : 1 ≤ F0 95 i ∧ F0 95 i ≤ 99) {l4 l5 l6 l7 m4 m5 m7 : Int} (b5 : 0 ≤ l5 ∧ l5 ≤ 600) (b6 : 0 ≤ l6 ∧ l6 ≤ 600) (K : zKM p F0 F) (Q : q_adds ρ F0 p h k t i (F0 94 i) (F0 95 i) l4 l5 l7 m4 m5 m7) :
    ∃ F', zKM p F0 F' ∧ (∀ r, r ≠ 71 → r ≠ 72 → r ≠ 99 → r ≠ 100 → F' r = F r) ∧ ∀ r : zQ, zev zX0 d (128, 50, [zR 71, zI h, zI k, zI w, zI m4, zI m5, zI (l6 + F0 95 i), zI m7, zI ((i + 1 : Nat) : Int), zR 0, zR 0], [], F', G, zsg) = some r → zev zX0 d (128, 50, [zR 71, zI h, zI k, zI w, zI l4, zI l5, zI l6, zI l7, zI i, zR 0, zR 0], [], F, G, zsg) = some r := by
  have K0 := K
  obtain ⟨K1, K2, K3, K4⟩ := K
  have hn8 := hV.1
  have hw := hV.2.2.2.2.2.1 t ht
  have hw2 := hV.2.2.2.2.1 t (by omega)
  have g6 : 0 ≤ (i : Int) ∧ (i : Int) < 6 := by omega
  have g8 : 0 ≤ (t : Int) ∧ (t : Int) < 8 := by omega
  have z1 : zadd (i : Int) 1 = ((i + 1 : Nat) : Int) := by rw [zadd_eq (by omega) (by omega)]; omega
  have z6 : zadd l6 (F0 95 i) = l6 + F0 95 i := zadd_eq (by omega) (by omega)
  have z5 : zadd l5 (F0 95 i) = l5 + F0 95 i := zadd_eq (by omega) (by omega)
  have z8 : zadd 8 (t : Int) = ((8 + t : Nat) : Int) := by rw [zadd_eq (by omega) (by omega)]; omega
  have z0 : zadd 0 (t : Int) = t := by rw [zadd_eq (by omega) (by omega)]; omega
  have z32 : zadd 32 h = 32 + h := zadd_eq (by omega) (by omega)
  have t32 : (32 + h).toNat = 32 + h.toNat := by omega
  have g32 : 0 ≤ 32 + h ∧ 32 + h < 43 := by omega
  have g43 : 0 ≤ ((8 + t : Nat) : Int) ∧ ((8 + t : Nat) : Int) < 43 := by omega
  have gt43 : 0 ≤ (t : Int) ∧ (t : Int) < 43 := by omega
  have k94 : F 94 = F0 94 := K1 94 (by decide) (by decide) (by decide) (by decide) (by decide) (by decide) (by decide) (by decide) (by decide)
  have k95 : F 95 = F0 95 := K1 95 (by decide) (by decide) (by decide) (by decide) (by decide) (by decide) (by decide) (by decide) (by decide)
  have k79 : F 79 = ρ 79 := by rw [K1 79 (by decide) (by decide) (by decide) (by decide) (by decide) (by decide) (by decide) (by decide) (by decide)]; exact hR0.2.2.2.2.2.2.2
  have k33 : F 71 33 = F0 71 33 := K2 33 (by decide)
  have k34 : F 71 34 = t := (K2 34 (by decide)).trans h5
  have hR : zMR ρ F := K0.R hR0
  by_cases cl : q_lay ρ p t (F0 94 i)
  · obtain ⟨lP, lN⟩ := q_lay_ok hV hP hN ht hc cl
    have hh1 : p (8 + t) = -1 := cl.1
    have cc : q_can ρ p t (ρ 79 t) (F0 94 i) := cl.2
    have KB : zch [44, 52, 64, 22, 23, 24, 25, 26, 27, 28, 29, 30, 31, 32, 72, 73, 99, 100] [43] F0 (zup F 72 t (F0 94 i)) := by
      refine ⟨fun r hr h71 => ?_, fun j hj => ?_⟩
      · simp only [List.mem_cons, List.not_mem_nil, or_false, not_or] at hr
        rw [zup_row (by omega), K1 r (by omega) (by omega) (by omega) h71 (by omega) (by omega) (by omega) (by omega) (by omega)]
      · simp only [List.mem_cons, List.not_mem_nil, or_false] at hj
        rw [zup_row (by decide), K2 j hj]
    have kr : ∀ r, r = 80 ∨ r = 81 ∨ r = 82 ∨ r = 83 → zup F 72 t (F0 94 i) r = F0 r := fun r hr => by rw [zup_row (by omega), K1 r (by omega) (by omega) (by omega) (by omega) (by omega) (by omega) (by omega) (by omega) (by omega)]
    have hq := q_pl_eq (F := zup F 72 t (F0 94 i)) (F0 := F0) (ρ := ρ) (h := h) (k := k) (q := zu p t (F0 94 i)) (kr 80 (by omega)) (kr 81 (by omega)) (kr 82 (by omega)) (kr 83 (by omega))
    obtain ⟨q1, q2, q3, q4⟩ := q_pl_ok hV (T0.ch KB) hh (k := k) (by rw [KB.2 12 (by decide)]; exact hk) lP lN
    obtain ⟨F2, e1, e2, e3, e4⟩ := m_pl (d := d) (G := G) (by omega) hV (T0.ch KB) (hR.p72 (x := t) (v := F0 94 i)) hh (k := k) (by rw [KB.2 12 (by decide)]; exact hk) (by rw [zup_fn, K3]) lP lN
    rw [hq] at e1 e2 q3 q4
    obtain ⟨F5, l1, l2, l3⟩ := m_lays1 (d := d) (F := F2) (G := G) (by omega)
    have r2 : ∀ r, r ≠ 71 → r ≠ 72 → r ≠ 99 → r ≠ 100 → F2 r = F r := fun r r1 r2 r3 r4 => by rw [e3 r r1 r2 r3 r4, zup_row r2]
    have k73 : ∀ j, j < 43 → F2 73 j = p j := fun j hj => by rw [r2 73 (by decide) (by decide) (by decide) (by decide)]; exact K4 j hj
    have p72 : F5 72 = p := by
      funext j
      rw [l3 j]
      by_cases hj : j < 43
      · rw [if_pos hj, k73 j hj]
      · rw [if_neg hj, e2, q3 j (by omega), zu_ne (by omega)]
    have KF : zKM p F0 F5 := by
      refine ⟨fun r a1 a2 a3 a4 a5 a6 a7 a8 a9 => ?_, fun j hj => ?_, p72, fun j hj => ?_⟩
      · rw [l2 r a5, r2 r a4 a5 a7 a8]; exact K1 r a1 a2 a3 a4 a5 a6 a7 a8 a9
      · rw [l2 71 (by decide), e4 j hj, zup_row (by decide)]; exact K2 j hj
      · rw [l2 73 (by decide)]; exact k73 j hj
    have fin : ∀ r, r ≠ 71 → r ≠ 72 → r ≠ 99 → r ≠ 100 → F5 r = F r := fun r a1 a2 a3 a4 => by rw [l2 r a2, r2 r a1 a2 a3 a4]
    have f295 : F2 95 = F0 95 := by rw [r2 95 (by decide) (by decide) (by decide) (by decide)]; exact k95
    have CL : zex d 79 [zR 71, zI t, zI (ρ 79 t), zI (F0 94 i)] (F, G, zsg) = some (some (zI (zp (q_can ρ p t (ρ 79 t) (F0 94 i)))), F, G, zsg) := m_canLie (by omega) hR K3 hV hP.1 hc.1 hc.2 hw hw2.2
    by_cases cv : (q_pl ρ F0 h k (zu p t (F0 94 i))).2.1 = 0
    · have Q := Q.resolve_right (fun q => q.1 ⟨cl, cv⟩)
      obtain ⟨-, w4, w5, w7⟩ := Q
      have hi1 : (q_pl ρ F0 h k (zu p t (F0 94 i))).1 = -1 := by omega
      refine ⟨F5, KF, fin, fun r hr => g_M_cases_50 h k w l4 l5 l6 l7 i _ ?_⟩
      rw [if_pos (by rw [k33]; exact hi), if_pos g6, k34, z8, if_pos g43, Int.toNat_natCast, K3, if_pos hh1, if_pos g8, if_pos g6, Int.toNat_natCast, Int.toNat_natCast, k79, k94, k95, CL, zbI_some, zp_t cc, if_neg (by decide), if_pos g6, k34, z0, if_pos gt43, k94, Int.toNat_natCast, e1, zbI_some, if_pos hi1, if_pos g6, z32, t32, if_pos g32, if_pos g32, e2, k73 _ (by omega), z6, z1, f295, z5, ← w4, ← w5]
      by_cases c7 : l7 < zsub ((q_pl ρ F0 h k (zu p t (F0 94 i))).2.2 (32 + h.toNat)) (p (32 + h.toNat))
      · rw [if_pos c7] at w7 ⊢
        rw [l1, zbV_some, ← w7]
        exact hr
      · rw [if_neg c7] at w7 ⊢
        rw [l1, zbV_some, ← w7]
        exact hr
    · have Q := Q.resolve_left (fun q => cv q.1.2)
      obtain ⟨-, rfl, rfl, rfl⟩ := Q
      have hi1 : ¬ (q_pl ρ F0 h k (zu p t (F0 94 i))).1 = -1 := by omega
      refine ⟨F5, KF, fin, fun r hr => g_M_cases_50 h k w m4 m5 l6 m7 i _ ?_⟩
      rw [if_pos (by rw [k33]; exact hi), if_pos g6, k34, z8, if_pos g43, Int.toNat_natCast, K3, if_pos hh1, if_pos g8, if_pos g6, Int.toNat_natCast, Int.toNat_natCast, k79, k94, k95, CL, zbI_some, zp_t cc, if_neg (by decide), if_pos g6, k34, z0, if_pos gt43, k94, Int.toNat_natCast, e1, zbI_some, if_neg hi1, z6, z1, l1, zbV_some]
      exact hr
  · have Q := Q.resolve_left (fun q => cl q.1.1)
    obtain ⟨-, rfl, rfl, rfl⟩ := Q
    refine ⟨F, ⟨K1, K2, K3, K4⟩, fun _ _ _ _ _ => rfl, fun r hr => g_M_cases_50 h k w m4 m5 l6 m7 i _ ?_⟩
    rw [if_pos (by rw [k33]; exact hi), if_pos g6, k34, z8, if_pos g43, Int.toNat_natCast, K3]
    by_cases c1 : p (8 + t) = -1
    · have CL : zex d 79 [zR 71, zI t, zI (ρ 79 t), zI (F0 94 i)] (F, G, zsg) = some (some (zI (zp (q_can ρ p t (ρ 79 t) (F0 94 i)))), F, G, zsg) := m_canLie (by omega) hR K3 hV hP.1 hc.1 hc.2 hw hw2.2
      rw [if_pos c1, if_pos g8, if_pos g6, Int.toNat_natCast, Int.toNat_natCast, k79, k94, k95, CL, zbI_some, zp_f (fun q => cl ⟨c1, q⟩), if_pos rfl, z6, z1]
      exact hr
    · rw [if_neg c1, Int.toNat_natCast, k95, z6, z1]
      exact hr
end
