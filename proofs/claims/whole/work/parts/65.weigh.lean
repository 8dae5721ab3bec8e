/-! weighing the cases: both sides alike -/
section
variable {d : Nat} {F0 F ρ : zM} {G : zG} {p : Nat → Int}
def zKC (ρ F0 : zM) (F : zM) (G : zG) (l4 l5 l6 l7 : Int) : Prop := (∀ r, r ≠ 44 → r ≠ 52 → r ≠ 64 → (r < 22 ∨ 32 < r) → F r = F0 r) ∧ zCR ρ F G ∧ F 64 4 = F0 64 4 ∧ F 64 5 = F0 64 5 ∧ F 64 8 = l4 ∧ F 64 10 = l5 ∧ F 64 11 = l6 ∧ F 64 9 = l7
def zKM (p : Nat → Int) (F0 : zM) (F : zM) : Prop := (∀ r, r ≠ 44 → r ≠ 52 → r ≠ 64 → r ≠ 71 → r ≠ 72 → r ≠ 73 → r ≠ 99 → r ≠ 100 → (r < 22 ∨ 32 < r) → F r = F0 r) ∧ (∀ j, j ≠ 43 → F 71 j = F0 71 j) ∧ F 72 = p ∧ (∀ j, j < 43 → F 73 j = p j)
theorem q_pl_eq {h : Int} {k : Nat} {q : Nat → Int} (h80 : F 80 = F0 80) (h81 : F 81 = F0 81) (h82 : F 82 = F0 82) (h83 : F 83 = F0 83) : q_pl ρ F h k q = q_pl ρ F0 h k q := by
  unfold q_pl
  rw [h80, h81, h82, h83]
/-- what a case adds -/
def q_adds (ρ F0 : zM) (p : Nat → Int) (h : Int) (k t i : Nat) (c s l4 l5 l7 m4 m5 m7 : Int) : Prop := ((q_lay ρ p t c ∧ (q_pl ρ F0 h k (zu p t c)).2.1 = 0) ∧ m4 = zor l4 (zshl 1 i) ∧ m5 = l5 + s ∧ m7 = if l7 < zsub ((q_pl ρ F0 h k (zu p t c)).2.2 (32 + h.toNat)) (p (32 + h.toNat)) then zsub ((q_pl ρ F0 h k (zu p t c)).2.2 (32 + h.toNat)) (p (32 + h.toNat)) else l7) ∨ (¬ (q_lay ρ p t c ∧ (q_pl ρ F0 h k (zu p t c)).2.1 = 0) ∧ m4 = l4 ∧ m5 = l5 ∧ m7 = l7)
/-- one case, the class's side -/
theorem s_weigh1 (hd : 8 ≤ d) (hV : zRv ρ) (hP : zPv ρ p) (hN : zNO ρ p) (hS0 : zSC 11 p F0) (T0 : zTp F0) {h : Int} (hh : h = 0 ∨ h = 1) {k : Nat} (hk : (k : Int) < F0 71 12) {t : Nat} (ht : (t : Int) < ρ 71 8) (h5 : F0 64 5 = t) {i : Nat} (hi : (i : Int) < F0 64 4) (hi6 : i < 6) (hc : 0 ≤ F0 65 i ∧ F0 65 i < 64) (hs : 1 ≤ F0 66 i ∧ F0 66 i ≤ 99) {l4 l5 l6 l7 m4 m5 m7 : Int} (b5 : 0 ≤ l5 ∧ l5 ≤ 600) (b6 : 0 ≤ l6 ∧ l6 ≤ 600) (K : zKC ρ F0 F G l4 l5 l6 l7) (Q : q_adds ρ F0 p h k t i (F0 65 i) (F0 66 i) l4 l5 l7 m4 m5 m7) :
    ∃ F' G', zKC ρ F0 F' G' m4 m5 (l6 + F0 66 i) m7 ∧ (∀ r, r ≠ 44 → r ≠ 45 → G' r = G r) ∧ ∀ r : zQ, zev zX0 d (165, 23, [zR 64, zR 11, zI h, zI k, zI ((i + 1 : Nat) : Int)], [], F', G', zsg) = some r → zev zX0 d (165, 23, [zR 64, zR 11, zI h, zI k, zI i], [], F, G, zsg) = some r := by
  obtain ⟨K1, K2, K3, K4, K5, K6, K7, K8⟩ := K
  have hn8 := hV.1
  have g6 : 0 ≤ (i : Int) ∧ (i : Int) < 6 := by omega
  have g8 : 0 ≤ (t : Int) ∧ (t : Int) < 8 := by omega
  have g2 : 0 ≤ h ∧ h < 2 := by omega
  have z1 : zadd (i : Int) 1 = ((i + 1 : Nat) : Int) := by rw [zadd_eq (by omega) (by omega)]; omega
  have z6 : zadd l6 (F0 66 i) = l6 + F0 66 i := zadd_eq (by omega) (by omega)
  have z5 : zadd l5 (F0 66 i) = l5 + F0 66 i := zadd_eq (by omega) (by omega)
  have k65 : F 65 = F0 65 := K1 65 (by decide) (by decide) (by decide) (by decide)
  have k66 : F 66 = F0 66 := K1 66 (by decide) (by decide) (by decide) (by decide)
  generalize hF1 : zup F 64 11 (l6 + F0 66 i) = F1
  have a1 : ∀ r, r ≠ 64 → F1 r = F r := fun r hr => by rw [← hF1, zup_row hr]
  have a64 : ∀ j, j ≠ 11 → F1 64 j = F 64 j := fun j hj => by rw [← hF1, zup_col hj]
  have aF : ∀ r, r ≠ 44 → r ≠ 52 → r ≠ 64 → (r < 22 ∨ 32 < r) → F1 r = F0 r := fun r r1 r2 r3 r4 => by rw [a1 r r3, K1 r r1 r2 r3 r4]
  have S1 : zSC 11 p F1 := hS0.fr (fun j hj => aF _ (by omega) (by omega) (by omega) (by omega))
  have C1 : zCR ρ F1 G := K2.fr (a1 6 (by decide)) (a1 7 (by decide)) (a1 8 (by decide)) (a1 9 (by decide)) (a1 10 (by decide)) rfl
  have L : zex d 166 [zR 64, zR 11, zI (F0 65 i)] (F1, G, zsg) = some (some (zI (zp (q_lay ρ p t (F0 65 i)))), F1, G, zsg) := s_canLay (d := d) (by omega) S1 C1 hV hP ht (by rw [a64 5 (by decide), K4]; exact h5) hc
  have KC1 : zKC ρ F0 F1 G l4 l5 (l6 + F0 66 i) l7 := ⟨aF, C1, by rw [a64 4 (by decide)]; exact K3, by rw [a64 5 (by decide)]; exact K4, by rw [a64 8 (by decide)]; exact K5, by rw [a64 10 (by decide)]; exact K6, by rw [← hF1, zup_eq], by rw [a64 9 (by decide)]; exact K8⟩
  by_cases cl : q_lay ρ p t (F0 65 i)
  · obtain ⟨lP, lN⟩ := q_lay_ok hV hP hN ht hc cl
    obtain ⟨F2, e1, e2, e3⟩ := s_become_22_11 (d := d) (G := G) (by omega) S1
    have e3 : ∀ r, (r < 22 ∨ 32 < r) → F2 r = F1 r := e3
    have S2 := e2.up (i := 1) (x := t) (z := t) (v := F0 65 i) (by decide) (Or.inl ⟨by decide, by omega, by omega⟩)
    have S2 : zSC 22 (zu p t (F0 65 i)) (zup F2 23 t (F0 65 i)) := S2
    have b1 : ∀ r, (r < 22 ∨ 32 < r) → zup F2 23 t (F0 65 i) r = F1 r := fun r hr => by rw [zup_row (by omega), e3 r hr]
    have bF : ∀ r, r ≠ 44 → r ≠ 52 → r ≠ 64 → (r < 22 ∨ 32 < r) → zup F2 23 t (F0 65 i) r = F0 r := fun r r1 r2 r3 r4 => by rw [b1 r r4, aF r r1 r2 r3 r4]
    have bc : zch [44, 52, 64, 22, 23, 24, 25, 26, 27, 28, 29, 30, 31, 32] [] F0 (zup F2 23 t (F0 65 i)) := by
      refine ⟨fun r hr _ => ?_, fun j _ => by rw [bF 71 (by decide) (by decide) (by decide) (by decide)]⟩
      simp only [List.mem_cons, List.not_mem_nil, or_false, not_or] at hr
      exact bF r (by omega) (by omega) (by omega) (by omega)
    have e265 : F2 65 = F0 65 := by rw [e3 65 (by decide), aF 65 (by decide) (by decide) (by decide) (by decide)]
    have e2645 : F2 64 5 = t := by rw [e3 64 (by decide), a64 5 (by decide), K4]; exact h5
    generalize hFB : zup F2 23 t (F0 65 i) = FB at *
    have hq := q_pl_eq (F := FB) (F0 := F0) (ρ := ρ) (h := h) (k := k) (q := zu p t (F0 65 i)) (bF 80 (by decide) (by decide) (by decide) (by decide)) (bF 81 (by decide) (by decide) (by decide) (by decide)) (bF 82 (by decide) (by decide) (by decide) (by decide)) (bF 83 (by decide) (by decide) (by decide) (by decide))
    obtain ⟨F3, G3, f1, f2, f3, f4⟩ := s_pl (d := d) (by omega) hV (T0.ch bc) (C1.fr (b1 6 (by decide)) (b1 7 (by decide)) (b1 8 (by decide)) (b1 9 (by decide)) (b1 10 (by decide)) rfl) hh (k := k) (by rw [bF 71 (by decide) (by decide) (by decide) (by decide)]; exact hk) S2 lP lN
    rw [hq] at f1 f2
    have c1 : ∀ r, r ≠ 44 → r ≠ 52 → (r < 22 ∨ 32 < r) → F3 r = F1 r := fun r r1 r2 r3 => by rw [f3 r r1 r2 r3, b1 r r3]
    have c64 : F3 64 = F1 64 := c1 64 (by decide) (by decide) (by decide)
    have c66 : F3 66 = F0 66 := by rw [c1 66 (by decide) (by decide) (by decide), aF 66 (by decide) (by decide) (by decide) (by decide)]
    have cF : ∀ r, r ≠ 44 → r ≠ 52 → r ≠ 64 → (r < 22 ∨ 32 < r) → F3 r = F0 r := fun r r1 r2 r3 r4 => by rw [c1 r r1 r2 r4, aF r r1 r2 r3 r4]
    have C3 : zCR ρ F3 G3 := C1.fr (c1 6 (by decide) (by decide) (by decide)) (c1 7 (by decide) (by decide) (by decide)) (c1 8 (by decide) (by decide) (by decide)) (c1 9 (by decide) (by decide) (by decide)) (c1 10 (by decide) (by decide) (by decide)) (f4 6 (by decide) (by decide))
    have pre : ∀ r : zQ, ((if (q_pl ρ F0 h k (zu p t (F0 65 i))).2.1 = 0 then
                        zbI (zex d 244 [zI (F3 64 9), zI (zsub (F3 28 h.toNat) (F3 17 h.toNat))] ((zup (zup F3 64 8 (zor (F3 64 8) (zshl 1 i))) 64 10 (zadd (F3 64 10) (F3 66 i))), G3, zsg)) (fun v4 F4 G4 =>
                        zev zX0 d (165, 23, [zR 64, zR 11, zI h, zI k, zI ((i + 1 : Nat) : Int)], [], (zup F4 64 9 v4), G4, zsg))
                  else
                    zev zX0 d (165, 23, [zR 64, zR 11, zI h, zI k, zI ((i + 1 : Nat) : Int)], [], F3, G3, zsg)) = some r) → zev zX0 d (165, 23, [zR 64, zR 11, zI h, zI k, zI i], [], F, G, zsg) = some r := by
      intro r hr
      refine g_Chances_weigh_23 h k i _ ?_
      rw [if_pos (by rw [K3]; exact hi), if_pos g6, if_pos g6, k65, k66, Int.toNat_natCast, K7, z6, hF1, L, zbI_some, zp_t cl, if_neg (by decide), e1, zbV_some, if_pos g6, e2645, if_pos g8, Int.toNat_natCast, e265, hFB, f1, zbI_some, if_pos g6, if_pos g2, if_pos g2, z1]
      exact hr
    by_cases cv : (q_pl ρ F0 h k (zu p t (F0 65 i))).2.1 = 0
    · have Q := Q.resolve_right (fun q => q.1 ⟨cl, cv⟩)
      obtain ⟨-, q4, q5, q7⟩ := Q
      have f28 : F3 28 h.toNat = (q_pl ρ F0 h k (zu p t (F0 65 i))).2.2 (32 + h.toNat) := (f2.hn hh).2.2.1
      have f17 : F3 17 h.toNat = p (32 + h.toNat) := by rw [c1 17 (by decide) (by decide) (by decide)]; exact (S1.hn hh).2.2.1
      have c648 : F3 64 8 = l4 := by rw [c64, a64 8 (by decide)]; exact K5
      have c6410 : F3 64 10 = l5 := by rw [c64, a64 10 (by decide)]; exact K6
      have c649 : F3 64 9 = l7 := by rw [c64, a64 9 (by decide)]; exact K8
      have c6411 : F3 64 11 = l6 + F0 66 i := by rw [c64, ← hF1, zup_eq]
      refine ⟨zup (zup (zup F3 64 8 m4) 64 10 m5) 64 9 m7, G3, ⟨fun r r1 r2 r3 r4 => by rw [zup_row r3, zup_row r3, zup_row r3, cF r r1 r2 r3 r4], C3.fr (by rw [zup_row (by decide), zup_row (by decide), zup_row (by decide)]) (by rw [zup_row (by decide), zup_row (by decide), zup_row (by decide)]) (by rw [zup_row (by decide), zup_row (by decide), zup_row (by decide)]) (by rw [zup_row (by decide), zup_row (by decide), zup_row (by decide)]) (by rw [zup_row (by decide), zup_row (by decide), zup_row (by decide)]) rfl, by rw [zup_col (by decide), zup_col (by decide), zup_col (by decide), c64, a64 4 (by decide)]; exact K3, by rw [zup_col (by decide), zup_col (by decide), zup_col (by decide), c64, a64 5 (by decide)]; exact K4, by rw [zup_col (by decide), zup_col (by decide), zup_eq], by rw [zup_col (by decide), zup_eq], by rw [zup_col (by decide), zup_col (by decide), zup_col (by decide)]; exact c6411, zup_eq⟩, f4, fun r hr => pre r ?_⟩
      rw [if_pos cv, c648, c6410, c649, c66, f28, f17, z5, s_max (by omega), zbI_some, ← q4, ← q5, ← q7]
      exact hr
    · have Q := Q.resolve_left (fun q => cv q.1.2)
      obtain ⟨-, rfl, rfl, rfl⟩ := Q
      refine ⟨F3, G3, ⟨cF, C3, by rw [c64]; exact KC1.2.2.1, by rw [c64]; exact KC1.2.2.2.1, by rw [c64]; exact KC1.2.2.2.2.1, by rw [c64]; exact KC1.2.2.2.2.2.1, by rw [c64]; exact KC1.2.2.2.2.2.2.1, by rw [c64]; exact KC1.2.2.2.2.2.2.2⟩, f4, fun r hr => pre r ?_⟩
      rw [if_neg cv]
      exact hr
  · have Q : m4 = l4 ∧ m5 = l5 ∧ m7 = l7 := by
      rcases Q with q | q
      · exact absurd q.1.1 cl
      · exact q.2
    obtain ⟨rfl, rfl, rfl⟩ := Q
    refine ⟨F1, G, KC1, fun _ _ _ => rfl, fun r hr => g_Chances_weigh_23 h k i _ ?_⟩
    rw [if_pos (by rw [K3]; exact hi), if_pos g6, if_pos g6, k65, k66, Int.toNat_natCast, K7, z6, hF1, L, zbI_some, zp_f cl, if_pos rfl, z1]
    exact hr
end
