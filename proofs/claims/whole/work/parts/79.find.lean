/-! a plan is found, on both sides -/
section
variable {d e : Nat} {F F' ρ Φ : zM} {G G' Γ : zG} {p : Nat → Int} {h A C n v w : Int} {pl : Nat → Int}
theorem j_find (hd : 12 ≤ d) (he : 11 ≤ e) (hV : zRv ρ) (hA : zPa ρ p) (hr : zHr p) (hB : ∀ t : Nat, t < 8 → -1 ≤ p (8 + t)) (hh : h = 0 ∨ h = 1) (hc1 : p (28 + h.toNat) ≠ -1) (hAr : 0 ≤ A ∧ A < ρ 71 8) (hCr : 0 ≤ C ∧ C < 64) (hw : 0 ≤ w ∧ w < 4) (hv : 0 ≤ v ∧ v ≤ 255) (hn : 0 ≤ n ∧ n ≤ 5) (hpl : ∀ k : Nat, (k : Int) < n → 0 ≤ pl k ∧ pl k < 64) (hQ : zQV Φ) : ∃ (Φ' : zM) (Γ' : zG), zQV Φ' ∧
      (∀ F G, zSC 22 p F → zCR ρ F G → F 60 5 = n → (∀ k : Nat, (k : Int) < n → F 61 k = pl k) → zQC Φ Γ F G → ∃ F' G', zex d 184 [zR 60, zI h, zI A, zI C, zI v] (F, G, zsg) = some (some (zI (if Φ' 71 23 = -1 then 0 else Φ' 71 19)), F', G', zsg) ∧ (∀ r, r ∉ [44, 53, 54, 55, 56, 57, 58, 60, 62, 63] → F' r = F r) ∧ (∀ r, r ∉ [44, 45, 59] → G' r = G r) ∧ zQC Φ' Γ' F' G') ∧
      (∀ F G, zMR ρ F → F 72 = p → zPY w n pl F → zQM Φ Γ F G → F 71 44 = -1 → F 71 47 = 0 → ∃ F' G', (zbV (zex e 122 [zR 71, zI h, zI A, zI C, zI v, zI w, zI 0] (F, G, zsg)) (fun F3 G3 => if (F3 71 23) = (-1) then zbV (zex e 122 [zR 71, zI h, zI A, zI C, zI v, zI w, zI 1] (F3, G3, zsg)) (fun F4 G4 => if (F4 71 23) = (-1) then some (some (zI (-3)), F4, G4, zsg) else some (some (zI (F4 71 19)), F4, G4, zsg)) else if (F3 71 23) = (-1) then some (some (zI (-3)), F3, G3, zsg) else some (some (zI (F3 71 19)), F3, G3, zsg))) = some (some (zI (if Φ' 71 23 = -1 then -3 else Φ' 71 19)), F', G', zsg) ∧ zfM F G F' G' ∧ zQM Φ' Γ' F' G') := by
  obtain ⟨d, rfl⟩ := zds (show 1 ≤ d by omega)
  obtain ⟨d, rfl⟩ := zds (show 1 ≤ d by omega)
  obtain ⟨e, rfl⟩ := zds (show 1 ≤ e by omega)
  have hn8 := hV.1
  obtain ⟨Φ1, Γ1, v1, jC, jM⟩ := j_seek (d := d) (e := e) (p := p) (A := A) (C := C) (pl := pl) (w := w) (v := v) (n := n) (by omega) (by omega) hV hA hr hB hh hc1 hAr hCr hw hv hn hpl (Or.inl ⟨rfl, rfl⟩) (ρ 71 8).toNat 0 Φ Γ (by omega) hQ
  rw [show ((0 : Nat) : Int) = 0 from rfl] at jC jM
  -- how the class's search begins
  have begin : ∀ F G, zSC 22 p F → zCR ρ F G → F 60 5 = n → (∀ k : Nat, (k : Int) < n → F 61 k = pl k) → zQC Φ Γ F G → ∃ F0, (∀ r, zev zX0 (d + 1) (184, 24, [zR 60, zI h, zI A, zI C, zI v, zI 1], [], F0, G, zsg) = some r → zex (d + 1 + 1) 184 [zR 60, zI h, zI A, zI C, zI v] (F, G, zsg) = some r) ∧ (∀ r, r ≠ 60 → F0 r = F r) ∧ zSC 22 p F0 ∧ zPC ρ h A C F0 G ∧ zPX n v pl F0 ∧ zQC Φ Γ F0 G := by
    intro F G hS hC h5 h61 hK
    refine ⟨zup (zup (zup (zup F 60 6 h) 60 7 A) 60 8 C) 60 9 v, fun r hr' => g_Planner_find _ _ _ _ _ hr', fun r hr' => by rw [zup_row hr', zup_row hr', zup_row hr', zup_row hr'], ?_, ⟨?_, ?_, ?_, ?_⟩, ⟨?_, zup_eq, fun k hk => ?_⟩, ?_⟩
    · refine hS.fr (fun i hi => ?_)
      rw [zup_row (by omega), zup_row (by omega), zup_row (by omega), zup_row (by omega)]
    · exact hC.fr (by rw [zup_row (by decide), zup_row (by decide), zup_row (by decide), zup_row (by decide)]) (by rw [zup_row (by decide), zup_row (by decide), zup_row (by decide), zup_row (by decide)]) (by rw [zup_row (by decide), zup_row (by decide), zup_row (by decide), zup_row (by decide)]) (by rw [zup_row (by decide), zup_row (by decide), zup_row (by decide), zup_row (by decide)]) (by rw [zup_row (by decide), zup_row (by decide), zup_row (by decide), zup_row (by decide)]) rfl
    · rw [zup_col (by decide), zup_col (by decide), zup_col (by decide), zup_eq]
    · rw [zup_col (by decide), zup_col (by decide), zup_eq]
    · rw [zup_col (by decide), zup_eq]
    · rw [zup_col (by decide), zup_col (by decide), zup_col (by decide), zup_col (by decide)]; exact h5
    · rw [zup_row (by decide), zup_row (by decide), zup_row (by decide), zup_row (by decide)]; exact h61 k hk
    · obtain ⟨k1, k2, k3, k4, k5⟩ := hK
      unfold zQC
      rw [zup_row (show (53 : Nat) ≠ 60 by decide), zup_row (show (53 : Nat) ≠ 60 by decide), zup_row (show (53 : Nat) ≠ 60 by decide), zup_row (show (53 : Nat) ≠ 60 by decide), zup_row (show (54 : Nat) ≠ 60 by decide), zup_row (show (54 : Nat) ≠ 60 by decide), zup_row (show (54 : Nat) ≠ 60 by decide), zup_row (show (54 : Nat) ≠ 60 by decide), zup_row (show (55 : Nat) ≠ 60 by decide), zup_row (show (55 : Nat) ≠ 60 by decide), zup_row (show (55 : Nat) ≠ 60 by decide), zup_row (show (55 : Nat) ≠ 60 by decide), zup_row (show (56 : Nat) ≠ 60 by decide), zup_row (show (56 : Nat) ≠ 60 by decide), zup_row (show (56 : Nat) ≠ 60 by decide), zup_row (show (56 : Nat) ≠ 60 by decide), zup_row (show (57 : Nat) ≠ 60 by decide), zup_row (show (57 : Nat) ≠ 60 by decide), zup_row (show (57 : Nat) ≠ 60 by decide), zup_row (show (57 : Nat) ≠ 60 by decide), zup_row (show (58 : Nat) ≠ 60 by decide), zup_row (show (58 : Nat) ≠ 60 by decide), zup_row (show (58 : Nat) ≠ 60 by decide), zup_row (show (58 : Nat) ≠ 60 by decide), zup_row (show (62 : Nat) ≠ 60 by decide), zup_row (show (62 : Nat) ≠ 60 by decide), zup_row (show (62 : Nat) ≠ 60 by decide), zup_row (show (62 : Nat) ≠ 60 by decide)]
      rw [zup_col (show (10 : Nat) ≠ 9 by decide), zup_col (show (10 : Nat) ≠ 8 by decide), zup_col (show (10 : Nat) ≠ 7 by decide), zup_col (show (10 : Nat) ≠ 6 by decide), zup_col (show (11 : Nat) ≠ 9 by decide), zup_col (show (11 : Nat) ≠ 8 by decide), zup_col (show (11 : Nat) ≠ 7 by decide), zup_col (show (11 : Nat) ≠ 6 by decide), zup_col (show (12 : Nat) ≠ 9 by decide), zup_col (show (12 : Nat) ≠ 8 by decide), zup_col (show (12 : Nat) ≠ 7 by decide), zup_col (show (12 : Nat) ≠ 6 by decide)]
      exact ⟨k1, k2, k3, k4, k5⟩
  have fnd : ∀ {Φ : zM} {Γ : zG} {F : zM} {G : zG}, zQV Φ → zQC Φ Γ F G → (Φ 71 23 = -1 → F 60 11 = -1) ∧ (Φ 71 23 ≠ -1 → F 60 11 = Φ 71 19 ∧ 0 < F 60 11) := by
    intro Φ Γ F G hQ hK
    have k3 := hK.2.2.1
    constructor
    · intro q
      rw [if_pos q] at k3
      exact k3
    · intro q
      rw [if_neg q] at k3
      rcases hQ.2 with ⟨q1, q2⟩ | ⟨q1, q2, q3⟩
      · exact absurd q1 q
      · exact ⟨k3, by omega⟩
  by_cases hf : Φ1 71 23 = -1
  · obtain ⟨Φ2, Γ2, v2, kC, kM⟩ := j_seek (d := d) (e := e) (p := p) (A := A) (C := C) (pl := pl) (w := w) (v := v) (n := n) (by omega) (by omega) hV hA hr hB hh hc1 hAr hCr hw hv hn hpl (Or.inr ⟨rfl, rfl⟩) (ρ 71 8).toNat 0 Φ1 Γ1 (by omega) v1
    rw [show ((0 : Nat) : Int) = 0 from rfl] at kC kM
    refine ⟨Φ2, Γ2, v2, fun F G hS hC h5 h61 hK => ?_, fun F G hR hp hY hK h44 h47 => ?_⟩
    · obtain ⟨F0, b1, b2, b3, b4, b5, b6⟩ := begin F G hS hC h5 h61 hK
      obtain ⟨F1, G1, a1, a2, a3⟩ := jC F0 G b3 b4 b5 b6
      obtain ⟨F2, G2, c1, c2, c3⟩ := kC F1 G1 (a2.sc b3) (a2.pc b4) (a2.px b5) a3
      have s1 : zex (d + 1) 185 [zR 60, zI 0, zI 1, zI 0] (F0, G, zsg) = some (none, F1, G1, zsg) := g_Planner_seek _ _ _ _ (by rw [if_pos (by decide)]; exact a1)
      have s2 : zex (d + 1) 185 [zR 60, zI 0, zI 2, zI 0] (F1, G1, zsg) = some (none, F2, G2, zsg) := g_Planner_seek _ _ _ _ (by rw [if_pos (by decide)]; exact c1)
      have f1 := (fnd v1 a3).1 hf
      have f2 := fnd v2 c3
      refine ⟨F2, G2, b1 _ ?_, fun r hr' => ?_, fun r hr' => ?_, c3⟩
      · refine g_Planner_find_24 _ _ _ _ _ _ ?_
        rw [if_neg (by decide), s1, zbV_some, if_neg (by omega), show zadd 1 1 = 2 by decide]
        refine g_Planner_find_24 _ _ _ _ _ _ ?_
        rw [if_neg (by decide), s2, zbV_some]
        by_cases q : Φ2 71 23 = -1
        · rw [if_neg (by have := f2.1 q; omega), show zadd 2 1 = 3 by decide, if_pos q]
          refine g_Planner_find_24 _ _ _ _ _ _ ?_
          rw [if_pos (by decide)]
        · have := f2.2 q
          rw [if_pos this.2, if_neg q, this.1]
      · rw [c2.1 r hr', a2.1 r hr', b2 r (by intro x; subst x; revert hr'; decide)]
      · rw [c2.2.2 r hr', a2.2.2 r hr']
    · obtain ⟨F1, G1, a1, a2, a3, a4, a5⟩ := jM F G hR hp hY hK h44 h47
      obtain ⟨F2, G2, c1, c2, c3, c4, c5⟩ := kM F1 G1 (a2.mr hR) (by rw [a2.1 72 (by decide)]; exact hp) (a2.py hY) a3 a4 a5
      have s1 : zex (e + 1) 122 [zR 71, zI h, zI A, zI C, zI v, zI w, zI 0] (F, G, zsg) = some (none, F1, G1, zsg) := g_M_seeks _ _ _ _ _ _ _ a1
      have s2 : zex (e + 1) 122 [zR 71, zI h, zI A, zI C, zI v, zI w, zI 1] (F1, G1, zsg) = some (none, F2, G2, zsg) := g_M_seeks _ _ _ _ _ _ _ c1
      have k23 : F1 71 23 = Φ1 71 23 := a3.1 23 (by decide)
      have k23' : F2 71 23 = Φ2 71 23 := c3.1 23 (by decide)
      have k19' : F2 71 19 = Φ2 71 19 := c3.1 19 (by decide)
      refine ⟨F2, G2, ?_, a2.tr c2, c3⟩
      rw [s1, zbV_some, k23, if_pos hf, s2, zbV_some, k23', k19']
      by_cases q : Φ2 71 23 = -1
      · rw [if_pos q, if_pos q]
      · rw [if_neg q, if_neg q]
  · refine ⟨Φ1, Γ1, v1, fun F G hS hC h5 h61 hK => ?_, fun F G hR hp hY hK h44 h47 => ?_⟩
    · obtain ⟨F0, b1, b2, b3, b4, b5, b6⟩ := begin F G hS hC h5 h61 hK
      obtain ⟨F1, G1, a1, a2, a3⟩ := jC F0 G b3 b4 b5 b6
      have s1 : zex (d + 1) 185 [zR 60, zI 0, zI 1, zI 0] (F0, G, zsg) = some (none, F1, G1, zsg) := g_Planner_seek _ _ _ _ (by rw [if_pos (by decide)]; exact a1)
      have f1 := (fnd v1 a3).2 hf
      refine ⟨F1, G1, b1 _ ?_, fun r hr' => ?_, a2.2.2, a3⟩
      · refine g_Planner_find_24 _ _ _ _ _ _ ?_
        rw [if_neg (by decide), s1, zbV_some, if_pos f1.2, if_neg hf, f1.1]
      · rw [a2.1 r hr', b2 r (by intro x; subst x; revert hr'; decide)]
    · obtain ⟨F1, G1, a1, a2, a3, a4, a5⟩ := jM F G hR hp hY hK h44 h47
      have s1 : zex (e + 1) 122 [zR 71, zI h, zI A, zI C, zI v, zI w, zI 0] (F, G, zsg) = some (none, F1, G1, zsg) := g_M_seeks _ _ _ _ _ _ _ a1
      have k23 : F1 71 23 = Φ1 71 23 := a3.1 23 (by decide)
      have k19 : F1 71 19 = Φ1 71 19 := a3.1 19 (by decide)
      refine ⟨F1, G1, ?_, a2, a3⟩
      rw [s1, zbV_some, k23, if_neg hf, if_neg hf, k19, if_neg hf]
end
