/-! all that may be moved is asked for, on both sides at once -/
def zPX (n v : Int) (pl : Nat → Int) (F : zM) : Prop := F 60 5 = n ∧ F 60 9 = v ∧ ∀ k : Nat, (k : Int) < n → F 61 k = pl k
def zPY (w n : Int) (pl : Nat → Int) (F : zM) : Prop := F 97 w.toNat = n ∧ ∀ k : Nat, (k : Int) < n → F 98 (40 * w.toNat + k) = pl k
section
variable {d e : Nat} {F F' ρ Φ : zM} {G G' Γ : zG} {p : Nat → Int} {h A C t c n v w : Int} {pl : Nat → Int}
theorem zfC.px (hf : zfC F G F' G') (hX : zPX n v pl F) : zPX n v pl F' := ⟨by rw [hf.2.1 5 (by decide)]; exact hX.1, by rw [hf.2.1 9 (by decide)]; exact hX.2.1, fun k hk => by rw [hf.1 61 (by decide)]; exact hX.2.2 k hk⟩
theorem zfM.py (hf : zfM F G F' G') (hX : zPY w n pl F) : zPY w n pl F' := ⟨by rw [hf.1 97 (by decide)]; exact hX.1, fun k hk => by rw [hf.1 98 (by decide)]; exact hX.2 k hk⟩
theorem j_other (hd : 8 ≤ d) (he : 8 ≤ e) (hV : zRv ρ) (hA : zPa ρ p) (hr : zHr p) (hh : h = 0 ∨ h = 1) (hc1 : p (28 + h.toNat) ≠ -1) (hAr : 0 ≤ A ∧ A < ρ 71 8) (hCr : 0 ≤ C ∧ C < 64) (ht : 0 ≤ t ∧ t < ρ 71 8) (htA : t ≠ A) (hc : 0 ≤ c ∧ c < 64) (hQ : zQV Φ) : zJO ρ p h A C Φ Γ
      (fun F G => zex d 187 [zR 60, zI t, zI c, zI 0, zI 2, zI 0] (F, G, zsg))
      (fun F G => zex e 121 [zR 71, zI h, zI t, zI c, zI A, zI C] (F, G, zsg)) := by
  obtain ⟨d, rfl⟩ := zds (show 1 ≤ d by omega)
  obtain ⟨e, rfl⟩ := zds (show 1 ≤ e by omega)
  have hn8 := hV.1.2
  have g8 : 0 ≤ t ∧ t < 8 := by omega
  have hb := z_but g8.1 g8.2
  have z0 : zadd 0 t = t := by rw [zadd_eq (by omega) (by omega), Int.zero_add]
  have z28 : zadd 28 h = 28 + h := zadd_eq (by omega) (by omega)
  have t28 : (28 + h).toNat = 28 + h.toNat := by omega
  have g43 : 0 ≤ t ∧ t < 43 := by omega
  have g43' : 0 ≤ 28 + h ∧ 28 + h < 43 := by omega
  have startC : ∀ F G, zSC 22 p F → zPC ρ h A C F G → zQC Φ Γ F G → ∀ r, ((if zp (q_so ρ Φ Γ p h t c) = 0 then zev zX0 d (187, 90, [zR 60, zI t, zI c, zI 0, zI 2, zI 0, zI (p t.toNat), zI (p (28 + h.toNat)), zL (zset (q_tk ρ p h (q_but t))), zR 0, zI 0, zI 0, zR 0], [], F, G, zsg) else some (none, zup F 53 1 (zadd (F 53 1) 1), G, zsg)) = some r) → zex (d + 1) 187 [zR 60, zI t, zI c, zI 0, zI 2, zI 0] (F, G, zsg) = some r := by
    intro F G hS hP hK r hr'
    have e23 : F 23 t.toNat = p t.toNat := (hS.at g8.1 g8.2).1
    have e26 : F 26 h.toNat = p (28 + h.toNat) := (hS.hn hh).1
    refine g_Planner_askThing _ _ _ _ _ _ ?_
    rw [if_pos g8, hP.2.1, if_pos (by omega), s_takenFor_22 (by omega) hS hP.1 hV hA hr hb.1, zbL_some, hb.2, e23, e26, hP.1.2.1, s_isSo (by omega) hK hQ, zbI_some]
    exact hr'
  by_cases hs : q_so ρ Φ Γ p h t c
  · refine ⟨zup Φ 71 31 (zadd (Φ 71 31) 1), Γ, hQ.use, fun F G hS hP hK => ?_, fun F G hR hp hK h44 h47 => ?_⟩
    · exact ⟨_, _, startC F G hS hP hK _ (by rw [zp_t hs, if_neg (by decide)]), zfC.us, hK.use⟩
    · refine ⟨zup F 71 31 (zadd (Φ 71 31) 1), G, g_M_asksOther _ _ _ _ _ _ ?_, zfM.col, hK.up, by rw [zup_col (by decide)]; exact h44, by rw [zup_col (by decide)]; exact h47⟩
      rw [m_isRuled (by omega) hK hQ hR hp hV hA hh ht, zbI_some, zp_t hs, if_neg (by decide), if_pos hs]
  · obtain ⟨Φ', Γ', v', jC, jM⟩ := j_otherloop (d := d) (e := e) (by omega) (by omega) hV hA hr hh hc1 hAr hCr ht htA hc 4 0 0 Φ Γ (by omega) (Or.inl rfl) hQ
    refine ⟨Φ', Γ', v', fun F G hS hP hK => ?_, fun F G hR hp hK h44 h47 => ?_⟩
    · obtain ⟨F', G', i1, i2⟩ := jC F G hS hP hK
      refine ⟨F', G', startC F G hS hP hK _ ?_, i2⟩
      rw [zp_f hs, if_pos rfl]
      exact i1
    · obtain ⟨F', G', i1, i2⟩ := jM F G hR hp hK h44 h47
      refine ⟨F', G', g_M_asksOther _ _ _ _ _ _ ?_, i2⟩
      rw [m_isRuled (by omega) hK hQ hR hp hV hA hh ht, zbI_some, zp_f hs, if_pos rfl, if_neg hs, z0, z28, t28, if_pos g43, if_pos g43', hp]
      exact i1
theorem j_places (hd : 8 ≤ d) (he : 8 ≤ e) (hV : zRv ρ) (hA : zPa ρ p) (hr : zHr p) (hh : h = 0 ∨ h = 1) (hc1 : p (28 + h.toNat) ≠ -1) (hAr : 0 ≤ A ∧ A < ρ 71 8) (hCr : 0 ≤ C ∧ C < 64) (ht : 0 ≤ t ∧ t < ρ 71 8) (htA : t ≠ A) (hw : 0 ≤ w ∧ w < 4) (hn : 0 ≤ n ∧ n ≤ 5) (hpl : ∀ k : Nat, (k : Int) < n → 0 ≤ pl k ∧ pl k < 64) :
    ∀ (m k : Nat) (Φ : zM) (Γ : zG), (k : Int) + m = n → zQV Φ → ∃ (Φ' : zM) (Γ' : zG), zQV Φ' ∧
      (∀ F G, zSC 22 p F → zPC ρ h A C F G → zPX n v pl F → zQC Φ Γ F G → ∃ F' G', zev zX0 d (186, 3, [zR 60, zI t, zI 0, zI 2, zI 0, zI k], [], F, G, zsg) = some (none, F', G', zsg) ∧ zfC F G F' G' ∧ zQC Φ' Γ' F' G') ∧
      (∀ F G, zMR ρ F → F 72 = p → zPY w n pl F → zQM Φ Γ F G → F 71 44 = -1 → F 71 47 = 0 → ∃ F' G', (∀ r, zev zX0 e (122, 3, [zR 71, zI h, zI A, zI C, zI v, zI w, zI 1, zI (zadd t 1), zR 0, zR 0], [], F', G', zsg) = some r → zev zX0 e (122, 74, [zR 71, zI h, zI A, zI C, zI v, zI w, zI 1, zI t, zI k, zR 0], [], F, G, zsg) = some r) ∧ zfM F G F' G' ∧ zQM Φ' Γ' F' G' ∧ F' 71 44 = -1 ∧ F' 71 47 = 0) := by
  intro m
  have hn8 := hV.1.2
  have g8 : 0 ≤ t ∧ t < 8 := by omega
  have z0 : zadd 0 t = t := by rw [zadd_eq (by omega) (by omega), Int.zero_add]
  have g43 : 0 ≤ t ∧ t < 43 := by omega
  induction m with
  | zero =>
    intro k Φ Γ hk hQ
    refine ⟨Φ, Γ, hQ, fun F G hS hP hX hK => ?_, fun F G hR hp hY hK h44 h47 => ?_⟩
    · refine ⟨F, G, g_Planner_askPlaces_3 _ _ _ _ _ _ ?_, zfC.rfl, hK⟩
      rw [hX.1, if_neg (by omega)]
    · refine ⟨F, G, fun r hr => g_M_seeks_74 _ _ _ _ _ _ _ _ _ ?_, zfM.rfl, hK, h44, h47⟩
      rw [if_pos hw, hY.1, if_neg (by omega)]
      exact hr
  | succ m ih =>
    intro k Φ Γ hk hQ
    have hk1 : zadd (k : Int) 1 = k + 1 := zadd_eq (by omega) (by omega)
    have g5 : 0 ≤ (k : Int) ∧ (k : Int) < 5 := by omega
    have z40 : zadd (zmul 40 w) k = 40 * w + k := by rw [zmul_eq (by omega) (by omega), zadd_eq (by omega) (by omega)]
    have t40 : (40 * w + (k : Int)).toNat = 40 * w.toNat + k := by omega
    have g160 : 0 ≤ 40 * w + (k : Int) ∧ 40 * w + (k : Int) < 160 := by omega
    by_cases hq : p t.toNat = pl k
    · obtain ⟨Φ', Γ', v', ihC, ihM⟩ := ih (k + 1) Φ Γ (by omega) hQ
      refine ⟨Φ', Γ', v', fun F G hS hP hX hK => ?_, fun F G hR hp hY hK h44 h47 => ?_⟩
      · obtain ⟨F', G', i1, i2⟩ := ihC F G hS hP hX hK
        refine ⟨F', G', g_Planner_askPlaces_3 _ _ _ _ _ _ ?_, i2⟩
        simp only [zcast1] at i1
        have e23 : F 23 t.toNat = p t.toNat := (hS.at g8.1 g8.2).1
        rw [hX.1, if_pos (by omega), if_pos g8, if_pos g5, e23, Int.toNat_natCast, hX.2.2 k (by omega), if_pos hq, hk1]
        exact i1
      · obtain ⟨F', G', i1, i2⟩ := ihM F G hR hp hY hK h44 h47
        refine ⟨F', G', fun r hr => g_M_seeks_74 _ _ _ _ _ _ _ _ _ ?_, i2⟩
        have i1' := i1 r hr
        rw [zcast1] at i1'
        rw [if_pos hw, hY.1, if_pos (by omega), z40, if_pos g160, z0, if_pos g43, hp, t40, hY.2 k (by omega), if_pos hq, hk1]
        exact i1'
    · obtain ⟨Φ1, Γ1, v1, jC, jM⟩ := j_other (d := d) (e := e) (c := pl k) (Γ := Γ) hd he hV hA hr hh hc1 hAr hCr ht htA (hpl k (by omega)) hQ
      obtain ⟨Φ', Γ', v', ihC, ihM⟩ := ih (k + 1) Φ1 Γ1 (by omega) v1
      refine ⟨Φ', Γ', v', fun F G hS hP hX hK => ?_, fun F G hR hp hY hK h44 h47 => ?_⟩
      · obtain ⟨F1, G1, a1, a2, a3⟩ := jC F G hS hP hK
        have a1 : zex d 187 [zR 60, zI t, zI (pl k), zI 0, zI 2, zI 0] (F, G, zsg) = some (none, F1, G1, zsg) := a1
        obtain ⟨F', G', i1, i2, i3⟩ := ihC F1 G1 (a2.sc hS) (a2.pc hP) (a2.px hX) a3
        refine ⟨F', G', g_Planner_askPlaces_3 _ _ _ _ _ _ ?_, a2.tr i2, i3⟩
        simp only [zcast1] at i1
        have e23 : F 23 t.toNat = p t.toNat := (hS.at g8.1 g8.2).1
        rw [hX.1, if_pos (by omega), if_pos g8, if_pos g5, e23, Int.toNat_natCast, hX.2.2 k (by omega), if_neg hq, if_pos g5, a1, zbV_some, hk1]
        exact i1
      · obtain ⟨F1, G1, a1, a2, a3, a4, a5⟩ := jM F G hR hp hK h44 h47
        have a1 : zex e 121 [zR 71, zI h, zI t, zI (pl k), zI A, zI C] (F, G, zsg) = some (none, F1, G1, zsg) := a1
        obtain ⟨F', G', i1, i2, i3⟩ := ihM F1 G1 (a2.mr hR) (by rw [a2.1 72 (by decide)]; exact hp) (a2.py hY) a3 a4 a5
        refine ⟨F', G', fun r hr => g_M_seeks_74 _ _ _ _ _ _ _ _ _ ?_, a2.tr i2, i3⟩
        have i1' := i1 r hr
        rw [zcast1] at i1'
        rw [if_pos hw, hY.1, if_pos (by omega), z40, if_pos g160, z0, if_pos g43, hp, t40, hY.2 k (by omega), if_neg hq, a1, zbV_some, hk1]
        exact i1'
theorem j_seek (hd : 9 ≤ d) (he : 9 ≤ e) (hV : zRv ρ) (hA : zPa ρ p) (hr : zHr p) (hB : ∀ t : Nat, t < 8 → -1 ≤ p (8 + t)) (hh : h = 0 ∨ h = 1) (hc1 : p (28 + h.toNat) ≠ -1) (hAr : 0 ≤ A ∧ A < ρ 71 8) (hCr : 0 ≤ C ∧ C < 64) (hw : 0 ≤ w ∧ w < 4) (hv : 0 ≤ v ∧ v ≤ 255) (hn : 0 ≤ n ∧ n ≤ 5) (hpl : ∀ k : Nat, (k : Int) < n → 0 ≤ pl k ∧ pl k < 64) {most two : Int} (hmo : (most = 1 ∧ two = 0) ∨ (most = 2 ∧ two = 1)) :
    ∀ (m k : Nat) (Φ : zM) (Γ : zG), (k : Int) + m = ρ 71 8 → zQV Φ → ∃ (Φ' : zM) (Γ' : zG), zQV Φ' ∧
      (∀ F G, zSC 22 p F → zPC ρ h A C F G → zPX n v pl F → zQC Φ Γ F G → ∃ F' G', zev zX0 d (185, 9, [zR 60, zI 0, zI most, zI 0, zI k], [], F, G, zsg) = some (none, F', G', zsg) ∧ zfC F G F' G' ∧ zQC Φ' Γ' F' G') ∧
      (∀ F G, zMR ρ F → F 72 = p → zPY w n pl F → zQM Φ Γ F G → F 71 44 = -1 → F 71 47 = 0 → ∃ F' G', zev zX0 e (122, 3, [zR 71, zI h, zI A, zI C, zI v, zI w, zI two, zI k, zR 0, zR 0], [], F, G, zsg) = some (none, F', G', zsg) ∧ zfM F G F' G' ∧ zQM Φ' Γ' F' G' ∧ F' 71 44 = -1 ∧ F' 71 47 = 0) := by
  intro m
  have hn8 := hV.1.2
  induction m with
  | zero =>
    intro k Φ Γ hk hQ
    refine ⟨Φ, Γ, hQ, fun F G hS hP hX hK => ?_, fun F G hR hp hY hK h44 h47 => ?_⟩
    · refine ⟨F, G, g_Planner_seek_9 _ _ _ _ _ ?_, zfC.rfl, hK⟩
      rw [hP.1.1, if_neg (by omega)]
    · refine ⟨F, G, g_M_seeks_3 _ _ _ _ _ _ _ _ ?_, zfM.rfl, hK, h44, h47⟩
      rw [hR.2.1, if_neg (by omega)]
  | succ m ih =>
    intro k Φ Γ hk hQ
    have hk1 : zadd (k : Int) 1 = k + 1 := zadd_eq (by omega) (by omega)
    have g8 : 0 ≤ (k : Int) ∧ (k : Int) < 8 := by omega
    have z0 : zadd 0 (k : Int) = k := by rw [zadd_eq (by omega) (by omega), Int.zero_add]
    have z8 : zadd 8 (k : Int) = 8 + k := zadd_eq (by omega) (by omega)
    have t8 : (8 + (k : Int)).toNat = 8 + k := by omega
    have g43 : 0 ≤ (k : Int) ∧ (k : Int) < 43 := by omega
    have g43' : 0 ≤ 8 + (k : Int) ∧ 8 + (k : Int) < 43 := by omega
    by_cases hkA : (k : Int) = A
    · obtain ⟨Φ1, Γ1, v1, jC, jM⟩ := j_aim (d := d) (e := e) (i := 0) (most := most) (gone := 0) (t0 := -1) (s0 := 0) (c0 := 0) (Γ := Γ) (by omega) (by omega) hV hA hr hh hc1 hAr hCr (Or.inl rfl) (by decide) (fun q => absurd q (by decide)) hQ
      obtain ⟨Φ', Γ', v', ihC, ihM⟩ := ih (k + 1) Φ1 Γ1 (by omega) v1
      refine ⟨Φ', Γ', v', fun F G hS hP hX hK => ?_, fun F G hR hp hY hK h44 h47 => ?_⟩
      · obtain ⟨F1, G1, a1, a2, a3, -⟩ := jC F G hS hP hK (fun q => absurd q (by decide))
        have a1 : zex d 187 [zR 60, zI A, zI C, zI 0, zI most, zI 0] (F, G, zsg) = some (none, F1, G1, zsg) := a1
        obtain ⟨F', G', i1, i2, i3⟩ := ihC F1 G1 (a2.sc hS) (a2.pc hP) (a2.px hX) a3
        refine ⟨F', G', g_Planner_seek_9 _ _ _ _ _ ?_, a2.tr i2, i3⟩
        simp only [zcast1] at i1
        rw [hP.1.1, if_pos (by omega), hP.2.2.1, if_pos hkA, hP.2.2.2, hk1, hkA, a1, zbV_some]
        rw [hkA] at i1
        exact i1
      · obtain ⟨F1, G1, a1, a2, a3, a4⟩ := jM F G hR hp hK (by rw [if_pos rfl]; exact h44) (fun q => absurd q (by decide)) h47
        have a1 : zex e 120 [zR 71, zI h, zI A, zI C] (F, G, zsg) = some (none, F1, G1, zsg) := a1
        obtain ⟨F', G', i1, i2, i3⟩ := ihM F1 G1 (a2.mr hR) (by rw [a2.1 72 (by decide)]; exact hp) (a2.py hY) a3 (by rw [a4 44 (by decide)]; exact h44) (by rw [a4 47 (by decide)]; exact h47)
        refine ⟨F', G', g_M_seeks_3 _ _ _ _ _ _ _ _ ?_, a2.tr i2, i3⟩
        simp only [zcast1] at i1
        rw [hR.2.1, if_pos (by omega), if_pos hkA, a1, zbV_some, hk1]
        exact i1
    · by_cases hgo : two = 1 ∧ v.toNat.testBit k = true ∧ p k ≠ -1 ∧ p (8 + k) = -1
      · obtain ⟨t1, t2, t3, t4⟩ := hgo
        have hm2 : most = 2 := by omega
        subst hm2
        subst t1
        obtain ⟨d, rfl⟩ := zds (show 1 ≤ d by omega)
        obtain ⟨Φ1, Γ1, v1, jC, jM⟩ := j_places (d := d) (e := e) (v := v) (w := w) (t := (k : Int)) (by omega) (by omega) hV hA hr hh hc1 hAr hCr (by omega) hkA hw hn hpl n.toNat 0 Φ Γ (by omega) hQ
        obtain ⟨Φ', Γ', v', ihC, ihM⟩ := ih (k + 1) Φ1 Γ1 (by omega) v1
        refine ⟨Φ', Γ', v', fun F G hS hP hX hK => ?_, fun F G hR hp hY hK h44 h47 => ?_⟩
        · obtain ⟨F1, G1, a1, a2, a3⟩ := jC F G hS hP hX hK
          rw [show ((0 : Nat) : Int) = 0 from rfl] at a1
          have a0 : zex (d + 1) 186 [zR 60, zI k, zI 0, zI 2, zI 0] (F, G, zsg) = some (none, F1, G1, zsg) := g_Planner_askPlaces _ _ _ _ _ a1
          obtain ⟨F', G', i1, i2, i3⟩ := ihC F1 G1 (a2.sc hS) (a2.pc hP) (a2.px hX) a3
          refine ⟨F', G', g_Planner_seek_9 _ _ _ _ _ ?_, a2.tr i2, i3⟩
          simp only [zcast1] at i1
          have hl := s_isLoose_22 (d := d + 1) (G := G) (t := (k : Int)) (by omega) hS hA hB g8.1 g8.2
          rw [Int.toNat_natCast] at hl
          rw [hP.1.1, if_pos (by omega), hP.2.2.1, if_neg hkA, if_pos (by decide), hX.2.1, if_neg (by rw [z_bit0 hv.1 (by omega) g8.1 (by omega), Int.toNat_natCast]; exact fun q => q t2), hl, zbI_some, zp_t ⟨t3, t4⟩, if_neg (by decide), a0, zbV_some, hk1]
          exact i1
        · obtain ⟨F1, G1, a1, a2, a3, a4, a5⟩ := jM F G hR hp hY hK h44 h47
          obtain ⟨F', G', i1, i2, i3⟩ := ihM F1 G1 (a2.mr hR) (by rw [a2.1 72 (by decide)]; exact hp) (a2.py hY) a3 a4 a5
          simp only [zcast1] at i1
          have hb : zand (zshr v k) 1 = 1 := by
            rw [z_bit hv.1 (by omega) g8.1 (by omega), Int.toNat_natCast, if_pos t2]
          refine ⟨F', G', g_M_seeks_3 _ _ _ _ _ _ _ _ ?_, a2.tr i2, i3⟩
          rw [hR.2.1, if_pos (by omega), if_neg hkA, if_neg (by decide), if_pos hb, z0, if_pos g43, hp, Int.toNat_natCast, if_neg t3, z8, if_pos g43', t8, if_pos t4]
          exact a1 _ (by rw [hk1]; exact i1)
      · obtain ⟨Φ', Γ', v', ihC, ihM⟩ := ih (k + 1) Φ Γ (by omega) hQ
        refine ⟨Φ', Γ', v', fun F G hS hP hX hK => ?_, fun F G hR hp hY hK h44 h47 => ?_⟩
        · obtain ⟨F', G', i1, i2⟩ := ihC F G hS hP hX hK
          refine ⟨F', G', g_Planner_seek_9 _ _ _ _ _ ?_, i2⟩
          simp only [zcast1] at i1
          have hl := s_isLoose_22 (d := d) (G := G) (t := (k : Int)) (by omega) hS hA hB g8.1 g8.2
          rw [Int.toNat_natCast] at hl
          rw [hP.1.1, if_pos (by omega), hP.2.2.1, if_neg hkA, hX.2.1, hk1, show zadd 0 1 = 1 by decide]
          rcases hmo with ⟨m1, m2⟩ | ⟨m1, m2⟩
          · rw [if_neg (by omega)]
            exact i1
          · rw [if_pos (by omega)]
            split
            · exact i1
            · rename_i q1
              rw [z_bit0 hv.1 (by omega) g8.1 (by omega), Int.toNat_natCast, Classical.not_not] at q1
              rw [hl, zbI_some, zp_f (fun q => hgo ⟨m2, q1, q.1, q.2⟩), if_pos rfl]
              exact i1
        · obtain ⟨F', G', i1, i2⟩ := ihM F G hR hp hY hK h44 h47
          refine ⟨F', G', g_M_seeks_3 _ _ _ _ _ _ _ _ ?_, i2⟩
          simp only [zcast1] at i1
          rw [hR.2.1, if_pos (by omega), if_neg hkA, hk1]
          rcases hmo with ⟨m1, m2⟩ | ⟨m1, m2⟩
          · rw [if_pos m2]
            exact i1
          · rw [if_neg (by omega)]
            by_cases q1 : v.toNat.testBit k = true
            · have hb : zand (zshr v k) 1 = 1 := by
                rw [z_bit hv.1 (by omega) g8.1 (by omega), Int.toNat_natCast, if_pos q1]
              rw [if_pos hb, z0, if_pos g43, hp, Int.toNat_natCast]
              by_cases q2 : p k = -1
              · rw [if_pos q2]
                exact i1
              · rw [if_neg q2, z8, if_pos g43', t8, if_neg (fun q => hgo ⟨m2, q1, q2, q⟩)]
                exact i1
            · have hb : ¬ zand (zshr v k) 1 = 1 := by
                rw [z_bit hv.1 (by omega) g8.1 (by omega), Int.toNat_natCast, if_neg q1]
                decide
              rw [if_neg hb]
              exact i1
end
