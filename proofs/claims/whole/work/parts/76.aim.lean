/-! the aim is asked for, on both sides at once -/
def zPC (ρ : zM) (h A C : Int) (F : zM) (G : zG) : Prop := zCR ρ F G ∧ F 60 6 = h ∧ F 60 7 = A ∧ F 60 8 = C
def zJA (ρ : zM) (p : Nat → Int) (h A C i gone t0 s0 c0 : Int) (Φ : zM) (Γ : zG) (cc mm : zM → zG → Option zQ) : Prop := ∃ (Φ' : zM) (Γ' : zG), zQV Φ' ∧
  (∀ F G, zSC 22 p F → zPC ρ h A C F G → zQC Φ Γ F G → (i = 1 → F 63 0 = t0 ∧ F 63 1 = s0 ∧ F 63 2 = c0) → ∃ F' G', cc F G = some (none, F', G', zsg) ∧ zfC F G F' G' ∧ zQC Φ' Γ' F' G' ∧ (i = 1 → F' 63 0 = t0 ∧ F' 63 1 = s0 ∧ F' 63 2 = c0)) ∧
  (∀ F G, zMR ρ F → F 72 = p → zQM Φ Γ F G → F 71 44 = (if i = 0 then -1 else t0) → (i = 1 → F 71 45 = s0 ∧ F 71 46 = c0) → F 71 47 = gone → ∃ F' G', mm F G = some (none, F', G', zsg) ∧ zfM F G F' G' ∧ zQM Φ' Γ' F' G' ∧ (∀ j, j ∈ [44, 45, 46, 47] → F' 71 j = F 71 j))
section
variable {d e : Nat} {F F' ρ Φ : zM} {G G' Γ : zG} {p : Nat → Int} {h A C i most gone t0 s0 c0 : Int}
theorem zfC.pc (hf : zfC F G F' G') (hP : zPC ρ h A C F G) : zPC ρ h A C F' G' := ⟨hf.cr hP.1, by rw [hf.2.1 6 (by decide)]; exact hP.2.1, by rw [hf.2.1 7 (by decide)]; exact hP.2.2.1, by rw [hf.2.1 8 (by decide)]; exact hP.2.2.2⟩
theorem zfC.as {v : Int} : zfC F G (zup F 60 10 v) G := ⟨fun r hr => zup_row (by intro e; subst e; revert hr; decide), fun j hj => zup_col (by intro e; subst e; revert hj; decide), fun _ _ => Eq.refl _⟩
theorem zfC.us {v : Int} : zfC F G (zup F 53 1 v) G := ⟨fun r hr => zup_row (by intro e; subst e; revert hr; decide), fun j _ => by rw [zup_row (by decide)], fun _ _ => Eq.refl _⟩
theorem zfC.fl (h1 : ∀ r, r ≠ 44 → F' r = F r) (h2 : ∀ r, r ≠ 44 → r ≠ 45 → G' r = G r) : zfC F G F' G' := ⟨fun r hr => h1 r (by intro e; subst e; revert hr; decide), fun j _ => by rw [h1 60 (by decide)], fun r hr => h2 r (by intro e; subst e; revert hr; decide) (by intro e; subst e; revert hr; decide)⟩
/-- the reference: the row is kept if it is the shorter one -/
theorem m_kp {s n w : Int} (hK : zQM Φ Γ F G) (hi : i = 0 ∨ i = 1) (h44 : F 71 44 = if i = 0 then -1 else t0) (h45 : i = 1 → F 71 45 = s0 ∧ F 71 46 = c0) (ht : i = 1 → t0 ≠ -1) (hw : zadd (F 71 47) n = w) : ∃ F', zfM F G F' G ∧ zQM (q_kp Φ i t0 s0 c0 A s C w) Γ F' G ∧ (∀ j, j ∈ [44, 45, 46, 47] → F' 71 j = F 71 j) ∧ ∀ X : zM → Option zQ,
    (if (F 71 23) = (-1) then
      if (F 71 44) = (-1) then X (zup (zup (zup (zup (zup (zup F 71 23 (zadd (F 71 47) n)) 71 19 0) 85 0 A) 86 0 s) 87 0 C) 71 19 (zadd 0 1))
      else X (zup (zup (zup (zup (zup (zup (zup (zup (zup (zup F 71 23 (zadd (F 71 47) n)) 71 19 0) 85 0 (F 71 44)) 86 0 (F 71 45)) 87 0 (F 71 46)) 71 19 1) 85 1 A) 86 1 s) 87 1 C) 71 19 (zadd 1 1))
    else
      if (zadd (F 71 47) n) < (F 71 23) then
        if (F 71 44) = (-1) then X (zup (zup (zup (zup (zup (zup F 71 23 (zadd (F 71 47) n)) 71 19 0) 85 0 A) 86 0 s) 87 0 C) 71 19 (zadd 0 1))
        else X (zup (zup (zup (zup (zup (zup (zup (zup (zup (zup F 71 23 (zadd (F 71 47) n)) 71 19 0) 85 0 (F 71 44)) 86 0 (F 71 45)) 87 0 (F 71 46)) 71 19 1) 85 1 A) 86 1 s) 87 1 C) 71 19 (zadd 1 1))
      else X F) = X F' := by
  have k23 := hK.1 23 (by decide)
  have a1 : zadd 0 1 = 1 := by decide
  have a2 : zadd 1 1 = 2 := by decide
  rw [hw, k23, a1, a2]
  by_cases hc : Φ 71 23 = -1 ∨ w < Φ 71 23
  · have hsel : ∀ (Y Z : Option zQ), (if Φ 71 23 = -1 then Y else if w < Φ 71 23 then Y else Z) = Y := by
      intro Y Z
      by_cases q1 : Φ 71 23 = -1
      · rw [if_pos q1]
      · rw [if_neg q1, if_pos (hc.elim (fun q => absurd q q1) id)]
    rcases hi with hi | hi
    · rw [if_pos hi] at h44
      have hkp : q_kp Φ i t0 s0 c0 A s C w = q_k0 Φ A s C w := by
        unfold q_kp
        rw [if_pos hc, if_pos hi]
      refine ⟨zup (zup (zup (zup (zup (zup F 71 23 w) 71 19 0) 85 0 A) 86 0 s) 87 0 C) 71 19 1, ?_, ?_, ?_, fun X => ?_⟩
      · exact ((((zfM.tr zfM.col zfM.col).tr zfM.row).tr zfM.row).tr zfM.row).tr zfM.col
      · rw [hkp]
        exact hK.up.up.up.up.up.up
      · intro j hj
        have j1 : j ≠ 19 := by intro e; subst e; revert hj; decide
        have j2 : j ≠ 23 := by intro e; subst e; revert hj; decide
        rw [zup_col j1, zup_row (by decide), zup_row (by decide), zup_row (by decide), zup_col j1, zup_col j2]
      · rw [if_pos h44, hsel]
    · rw [if_neg (by omega)] at h44
      obtain ⟨g45, g46⟩ := h45 hi
      have hkp : q_kp Φ i t0 s0 c0 A s C w = q_k1 Φ t0 s0 c0 A s C w := by
        unfold q_kp
        rw [if_pos hc, if_neg (by omega)]
      refine ⟨zup (zup (zup (zup (zup (zup (zup (zup (zup (zup F 71 23 w) 71 19 0) 85 0 t0) 86 0 s0) 87 0 c0) 71 19 1) 85 1 A) 86 1 s) 87 1 C) 71 19 2, ?_, ?_, ?_, fun X => ?_⟩
      · exact ((((((((zfM.tr zfM.col zfM.col).tr zfM.row).tr zfM.row).tr zfM.row).tr zfM.col).tr zfM.row).tr zfM.row).tr zfM.row).tr zfM.col
      · rw [hkp]
        exact hK.up.up.up.up.up.up.up.up.up.up
      · intro j hj
        have j1 : j ≠ 19 := by intro e; subst e; revert hj; decide
        have j2 : j ≠ 23 := by intro e; subst e; revert hj; decide
        rw [zup_col j1, zup_row (by decide), zup_row (by decide), zup_row (by decide), zup_col j1, zup_row (by decide), zup_row (by decide), zup_row (by decide), zup_col j1, zup_col j2]
      · rw [h44, g45, g46, if_neg (ht hi), hsel]
  · refine ⟨F, zfM.rfl, ?_, fun _ _ => rfl, fun X => ?_⟩
    · unfold q_kp
      rw [if_neg hc]
      exact hK
    · rw [if_neg (fun q => hc (Or.inl q)), if_neg (fun q => hc (Or.inr q))]
theorem j_aimloop (hd : 4 ≤ d) (he : 6 ≤ e) (hV : zRv ρ) (hA : zPa ρ p) (hr : zHr p) (hh : h = 0 ∨ h = 1) (hc1 : p (28 + h.toNat) ≠ -1) (hAr : 0 ≤ A ∧ A < ρ 71 8) (hCr : 0 ≤ C ∧ C < 64) (hi : i = 0 ∨ i = 1) (hg : 0 ≤ gone ∧ gone ≤ 126) (ht : i = 1 → t0 ≠ -1) :
    ∀ (m s : Nat) (acc : Int) (Φ : zM) (Γ : zG), s + m = 4 → (acc = 0 ∨ acc = 1) → zQV Φ → zJA ρ p h A C i gone t0 s0 c0 Φ Γ
      (fun F G => zev zX0 d (187, 90, [zR 60, zI A, zI C, zI i, zI most, zI gone, zI (p A.toNat), zI (p (28 + h.toNat)), zL (zset (q_tk ρ p h (q_but A))), zR 0, zI acc, zI s, zR 0], [], F, G, zsg))
      (fun F G => zev zX0 e (120, 17, [zR 71, zI h, zI A, zI C, zI acc, zI s, zR 0], [], F, G, zsg)) := by
  intro m
  induction m with
  | zero =>
    intro s acc Φ Γ hs hacc hQ
    rcases hacc with hacc | hacc
    · subst hacc
      refine ⟨q_lnF ρ Φ p h A C, q_lnG ρ Φ Γ p h A, hQ.ln, fun F G hS hP hK hpre => ?_, fun F G hR hp hK h44 h45 h47 => ?_⟩
      · obtain ⟨F', G', e1, e2, e3, e4⟩ := s_learn (ρ := ρ) (p := p) (h := h) (t := A) (c := C) (d := d) (by omega) hK hQ
        refine ⟨F', G', g_Planner_askThing_90 _ _ _ _ _ _ _ _ _ _ _ ?_, e2, e4, fun q => by rw [e3]; exact hpre q⟩
        rw [if_pos (by omega), if_pos rfl, show F 6 1 = ρ 71 11 from hP.1.2.1, e1, zbV_some]
      · obtain ⟨F', G', e1, e2, e3, e4⟩ := m_learns (d := e) (t := A) (c := C) (by omega) hK hQ hR hp hV hA hh hAr
        refine ⟨F', G', g_M_asksAim_17 _ _ _ _ _ _ ?_, e2, e4, e3⟩
        rw [if_neg (by omega), if_pos rfl, e1, zbV_some]
    · subst hacc
      refine ⟨Φ, Γ, hQ, fun F G hS hP hK hpre => ?_, fun F G hR hp hK h44 h45 h47 => ?_⟩
      · refine ⟨F, G, g_Planner_askThing_90 _ _ _ _ _ _ _ _ _ _ _ ?_, zfC.rfl, hK, hpre⟩
        rw [if_pos (by omega), if_neg (by decide)]
      · refine ⟨F, G, g_M_asksAim_17 _ _ _ _ _ _ ?_, zfM.rfl, hK, fun _ _ => rfl⟩
        rw [if_neg (by omega), if_neg (by decide)]
  | succ m ih =>
    intro s acc Φ Γ hs hacc hQ
    have hs1 : zadd (s : Int) 1 = s + 1 := zadd_eq (by omega) (by omega)
    have hmr := q_mv_r (ρ := ρ) (p := p) (h := h) (t := A) (s := (s : Int)) (c := C)
    -- the class's part of the step up to the move's length
    have stepC : ∀ F G, zSC 22 p F → zPC ρ h A C F G → zQC Φ Γ F G → (i = 1 → F 63 0 = t0 ∧ F 63 1 = s0 ∧ F 63 2 = c0) → ∃ F2 G2, zex d 188 [zR 60, zI A, zI s, zI C, zL (zset (q_tk ρ p h (q_but A)))] (zup F 60 10 (zadd (F 60 10) 1), G, zsg) = some (some (zI (q_mv ρ p h A s C)), F2, G2, zsg) ∧ zfC F G F2 G2 ∧ zQC (zup Φ 71 32 (zadd (Φ 71 32) 1)) Γ F2 G2 ∧ (i = 1 → F2 63 0 = t0 ∧ F2 63 1 = s0 ∧ F2 63 2 = c0) := by
      intro F G hS hP hK hpre
      have f1 : zfC F G (zup F 60 10 (zadd (F 60 10) 1)) G := zfC.as
      have hK1 := hK.ask
      have h63 : zup F 60 10 (zadd (F 60 10) 1) 63 = F 63 := zup_row (by decide)
      generalize zup F 60 10 (zadd (F 60 10) 1) = F1 at f1 hK1 h63
      obtain ⟨F2, G2, e1, e2, e3⟩ := s_mv (d := d) (s := (s : Int)) (by omega) (f1.sc hS) (f1.pc hP).1 hV hA hr hh (f1.pc hP).2.1 hc1 hAr (by omega) hCr
      refine ⟨F2, G2, e1, f1.tr (zfC.fl e2 e3), hK1.fr (fun r hr => e2 r (by intro e; subst e; revert hr; decide)) (e3 59 (by decide) (by decide)), fun q => ?_⟩
      rw [e2 63 (by decide), h63]
      exact hpre q
    have stepM : ∀ F G, zMR ρ F → F 72 = p → zQM Φ Γ F G → ∃ F2, zex e 116 [zR 71, zI h, zI A, zI s, zI C] (F, G, zsg) = some (some (zI (q_mv ρ p h A s C)), F2, G, zsg) ∧ zfM F G F2 G ∧ F2 72 = p ∧ zQM (zup Φ 71 32 (zadd (Φ 71 32) 1)) Γ F2 G ∧ (∀ j, j ∈ [44, 45, 46, 47] → F2 71 j = F 71 j) := by
      intro F G hR hp hK
      obtain ⟨F2, e1, e2⟩ := m_mv (d := e) (G := G) (t := A) (s := (s : Int)) (c := C) (by omega) hR hp hV hA hr hh hc1 hAr (by omega) hCr
      have k32 := hK.1 32 (by decide)
      rw [k32] at e2
      have hU := hK.up (r := 71) (j := 32) (v := zadd (Φ 71 32) 1)
      have hf : zfM F G (zup F 71 32 (zadd (Φ 71 32) 1)) G := zfM.col
      refine ⟨F2, e1, hf.tr ⟨fun r hr => e2 r (by intro e; subst e; revert hr; decide) (by intro e; subst e; revert hr; decide), fun j _ => by rw [e2 71 (by decide) (by decide)], fun _ _ => rfl⟩, by rw [e2 72 (by decide) (by decide), zup_row (by decide)]; exact hp, ?_, fun j hj => ?_⟩
      · exact hU.fr (fun j _ => by rw [e2 71 (by decide) (by decide)]) (fun r hr => e2 r (by intro e; subst e; revert hr; decide) (by intro e; subst e; revert hr; decide))
      · rw [e2 71 (by decide) (by decide), zup_col (by intro e; subst e; revert hj; decide)]
    by_cases hq : q_mv ρ p h A s C = -1
    · obtain ⟨Φ', Γ', v', ihC, ihM⟩ := ih (s + 1) acc (zup Φ 71 32 (zadd (Φ 71 32) 1)) Γ (by omega) hacc hQ.ask
      refine ⟨Φ', Γ', v', fun F G hS hP hK hpre => ?_, fun F G hR hp hK h44 h45 h47 => ?_⟩
      · obtain ⟨F2, G2, e1, e2, e3, e4⟩ := stepC F G hS hP hK hpre
        obtain ⟨F', G', i1, i2, i3, i4⟩ := ihC F2 G2 (e2.sc hS) (e2.pc hP) e3 e4
        refine ⟨F', G', g_Planner_askThing_90 _ _ _ _ _ _ _ _ _ _ _ ?_, e2.tr i2, i3, i4⟩
        simp only [zcast1] at i1
        rw [if_neg (by omega), e1, zbI_some, if_pos (by omega), hs1]
        exact i1
      · obtain ⟨F2, e1, e2, e3, e4, e5⟩ := stepM F G hR hp hK
        obtain ⟨F', G', i1, i2, i3, i4⟩ := ihM F2 G (e2.mr hR) e3 e4 (by rw [e5 44 (by decide)]; exact h44) (fun q => by rw [e5 45 (by decide), e5 46 (by decide)]; exact h45 q) (by rw [e5 47 (by decide)]; exact h47)
        refine ⟨F', G', g_M_asksAim_17 _ _ _ _ _ _ ?_, e2.tr i2, i3, fun j hj => by rw [i4 j hj, e5 j hj]⟩
        simp only [zcast1] at i1
        rw [if_pos (by omega), e1, zbI_some, hs1]
        rcases hacc with hacc | hacc
        · subst hacc
          rw [if_pos rfl, if_pos hq, if_pos hq]
          exact i1
        · subst hacc
          rw [if_neg (by decide), if_pos hq]
          exact i1
    · have hw : zadd gone (q_mv ρ p h A s C) = gone + q_mv ρ p h A s C := zadd_eq (by omega) (by omega)
      obtain ⟨Φ', Γ', v', ihC, ihM⟩ := ih (s + 1) 1 (q_kp (zup Φ 71 32 (zadd (Φ 71 32) 1)) i t0 s0 c0 A s C (gone + q_mv ρ p h A s C)) Γ (by omega) (Or.inr rfl) (hQ.ask.kp (by omega))
      refine ⟨Φ', Γ', v', fun F G hS hP hK hpre => ?_, fun F G hR hp hK h44 h45 h47 => ?_⟩
      · obtain ⟨F2, G2, e1, e2, e3, e4⟩ := stepC F G hS hP hK hpre
        obtain ⟨Fn, F3, k1, k2, k3, k4, k5, k6⟩ := s_keep (d := d) (A := A) (s := (s : Int)) (C := C) (w := gone + q_mv ρ p h A s C) (by omega) e3 hQ.ask hi (by omega) e4
        have f3 := e2.tr k4
        obtain ⟨F', G', i1, i2, i3, i4⟩ := ihC F3 G2 (f3.sc hS) (f3.pc hP) k5 k6
        refine ⟨F', G', g_Planner_askThing_90 _ _ _ _ _ _ _ _ _ _ _ ?_, f3.tr i2, i3, i4⟩
        simp only [zcast1] at i1
        have k7 : Fn 60 7 = A := by rw [k2]; exact (e2.pc hP).2.2.1
        rw [if_neg (by omega), e1, zbI_some, if_neg (by omega), k1, zbV_some, k7, if_pos rfl, hw, k3, zbV_some, hs1]
        exact i1
      · obtain ⟨F2, e1, e2, e3, e4, e5⟩ := stepM F G hR hp hK
        obtain ⟨F3, u1, u2, u3, u4⟩ := m_kp (A := A) (s := (s : Int)) (C := C) (n := q_mv ρ p h A s C) (w := gone + q_mv ρ p h A s C) (t0 := t0) (s0 := s0) (c0 := c0) e4 hi (by rw [e5 44 (by decide)]; exact h44) (fun q => by rw [e5 45 (by decide), e5 46 (by decide)]; exact h45 q) ht (by rw [e5 47 (by decide), h47]; exact hw)
        have f3 := e2.tr u1
        have hx : ∀ j, j ∈ [44, 45, 46, 47] → F3 71 j = F 71 j := fun j hj => by rw [u3 j hj, e5 j hj]
        obtain ⟨F', G', i1, i2, i3, i4⟩ := ihM F3 G (f3.mr hR) (by rw [u1.1 72 (by decide)]; exact e3) u2 (by rw [hx 44 (by decide)]; exact h44) (fun q => by rw [hx 45 (by decide), hx 46 (by decide)]; exact h45 q) (by rw [hx 47 (by decide)]; exact h47)
        refine ⟨F', G', g_M_asksAim_17 _ _ _ _ _ _ ?_, f3.tr i2, i3, fun j hj => by rw [i4 j hj, hx j hj]⟩
        simp only [zcast1] at i1
        have uu := u4 (fun H => zev zX0 e (120, 17, [zR 71, zI h, zI A, zI C, zI 1, zI ((s : Int) + 1), zR 0], [], H, G, zsg))
        rw [if_pos (by omega), e1, zbI_some, hs1]
        rcases hacc with hacc | hacc
        · subst hacc
          rw [if_pos rfl, if_neg hq, if_neg hq]
          exact uu.trans i1
        · subst hacc
          rw [if_neg (by decide), if_neg hq]
          exact uu.trans i1
theorem z_but {b : Int} (h1 : 0 ≤ b) (h2 : b < 8) : (0 ≤ zshl 1 b ∧ zshl 1 b ≤ 2147483647) ∧ (fun t : Nat => (zshl 1 b).toNat.testBit t = true) = q_but b := by
  have e1 := z_bits (b := b) (by omega)
  have e2 := z_bits_r (b := b) h2
  rw [if_neg (by omega)] at e1 e2
  rw [z_one h1 (by omega)]
  exact ⟨by omega, e1⟩
theorem j_aim (hd : 5 ≤ d) (he : 7 ≤ e) (hV : zRv ρ) (hA : zPa ρ p) (hr : zHr p) (hh : h = 0 ∨ h = 1) (hc1 : p (28 + h.toNat) ≠ -1) (hAr : 0 ≤ A ∧ A < ρ 71 8) (hCr : 0 ≤ C ∧ C < 64) (hi : i = 0 ∨ i = 1) (hg : 0 ≤ gone ∧ gone ≤ 126) (ht : i = 1 → t0 ≠ -1) (hQ : zQV Φ) : zJA ρ p h A C i gone t0 s0 c0 Φ Γ
      (fun F G => zex d 187 [zR 60, zI A, zI C, zI i, zI most, zI gone] (F, G, zsg))
      (fun F G => zex e 120 [zR 71, zI h, zI A, zI C] (F, G, zsg)) := by
  obtain ⟨d, rfl⟩ := zds (show 1 ≤ d by omega)
  obtain ⟨e, rfl⟩ := zds (show 1 ≤ e by omega)
  have hn8 := hV.1.2
  have g8 : 0 ≤ A ∧ A < 8 := by omega
  have hb := z_but g8.1 g8.2
  have startC : ∀ F G, zSC 22 p F → zPC ρ h A C F G → zQC Φ Γ F G → ∀ r, ((if zp (q_so ρ Φ Γ p h A C) = 0 then zev zX0 d (187, 90, [zR 60, zI A, zI C, zI i, zI most, zI gone, zI (p A.toNat), zI (p (28 + h.toNat)), zL (zset (q_tk ρ p h (q_but A))), zR 0, zI 0, zI 0, zR 0], [], F, G, zsg) else some (none, zup F 53 1 (zadd (F 53 1) 1), G, zsg)) = some r) → zex (d + 1) 187 [zR 60, zI A, zI C, zI i, zI most, zI gone] (F, G, zsg) = some r := by
    intro F G hS hP hK r hr'
    have e23 : F 23 A.toNat = p A.toNat := (hS.at g8.1 g8.2).1
    have e26 : F 26 h.toNat = p (28 + h.toNat) := (hS.hn hh).1
    refine g_Planner_askThing _ _ _ _ _ _ ?_
    rw [if_pos g8, hP.2.1, if_pos (by omega), s_takenFor_22 (by omega) hS hP.1 hV hA hr hb.1, zbL_some, hb.2, e23, e26, hP.1.2.1, s_isSo (by omega) hK hQ, zbI_some]
    exact hr'
  by_cases hs : q_so ρ Φ Γ p h A C
  · refine ⟨zup Φ 71 31 (zadd (Φ 71 31) 1), Γ, hQ.use, fun F G hS hP hK hpre => ?_, fun F G hR hp hK h44 h45 h47 => ?_⟩
    · refine ⟨_, _, startC F G hS hP hK _ (by rw [zp_t hs, if_neg (by decide)]), zfC.us, hK.use, fun q => ?_⟩
      rw [zup_row (by decide)]
      exact hpre q
    · refine ⟨zup F 71 31 (zadd (Φ 71 31) 1), G, g_M_asksAim _ _ _ _ ?_, zfM.col, hK.up, fun j hj => zup_col (by intro e; subst e; revert hj; decide)⟩
      rw [m_isRuled (by omega) hK hQ hR hp hV hA hh hAr, zbI_some, zp_t hs, if_neg (by decide), if_pos hs]
  · obtain ⟨Φ', Γ', v', jC, jM⟩ := j_aimloop (d := d) (e := e) (most := most) (s0 := s0) (c0 := c0) (by omega) (by omega) hV hA hr hh hc1 hAr hCr hi hg ht 4 0 0 Φ Γ (by omega) (Or.inl rfl) hQ
    refine ⟨Φ', Γ', v', fun F G hS hP hK hpre => ?_, fun F G hR hp hK h44 h45 h47 => ?_⟩
    · obtain ⟨F', G', i1, i2⟩ := jC F G hS hP hK hpre
      refine ⟨F', G', startC F G hS hP hK _ ?_, i2⟩
      rw [zp_f hs, if_pos rfl]
      exact i1
    · obtain ⟨F', G', i1, i2⟩ := jM F G hR hp hK h44 h45 h47
      refine ⟨F', G', g_M_asksAim _ _ _ _ ?_, i2⟩
      rw [m_isRuled (by omega) hK hQ hR hp hV hA hh hAr, zbI_some, zp_f hs, if_pos rfl, if_neg hs]
      exact i1
end
