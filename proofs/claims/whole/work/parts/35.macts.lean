/-! the reference's acts -/
theorem zu_comm {f : Nat → Int} {x y : Nat} {v w : Int} (h : x ≠ y) : zu (zu f x v) y w = zu (zu f y w) x v := by
  funext c
  unfold zu
  by_cases h1 : c = x
  · rw [if_pos h1, if_pos h1, if_neg (by omega)]
  · rw [if_neg h1, if_neg h1]
section
variable {d : Nat} {F ρ : zM} {G : zG} {p : Nat → Int}
theorem zMR.fr2 {F' : zM} (h : zMR ρ F) (h5 : F' 71 5 = F 71 5) (h8 : F' 71 8 = F 71 8) (h11 : F' 71 11 = F 71 11) (g2 : F' 75 = F 75) (g3 : F' 76 = F 76) (g4 : F' 77 = F 77) (g5 : F' 78 = F 78) (g6 : F' 79 = F 79) : zMR ρ F' := by
  unfold zMR
  rw [h5, h8, h11, g2, g3, g4, g5, g6]
  exact h
theorem zMR.p72 {x : Nat} {v : Int} (h : zMR ρ F) : zMR ρ (zup F 72 x v) := h.fr (zup_row (by decide)) (zup_row (by decide)) (zup_row (by decide)) (zup_row (by decide)) (zup_row (by decide)) (zup_row (by decide))
theorem zMR.w {F' : zM} (h : zMR ρ F) (hF : ∀ r, r ≠ 72 → r ≠ 99 → r ≠ 100 → F' r = F r) : zMR ρ F' := h.fr (hF 71 (by decide) (by decide) (by decide)) (hF 75 (by decide) (by decide) (by decide)) (hF 76 (by decide) (by decide) (by decide)) (hF 77 (by decide) (by decide) (by decide)) (hF 78 (by decide) (by decide) (by decide)) (hF 79 (by decide) (by decide) (by decide))
theorem m_comesTo (hd : 3 ≤ d) (hR : zMR ρ F) (hp : F 72 = p) (hV : zRv ρ) {h c : Int} (hh : h = 0 ∨ h = 1) (hc : 0 ≤ c ∧ c < 64) (hb : -1 ≤ p (30 + h.toNat) ∧ p (30 + h.toNat) < ρ 71 8) :
    ∃ F', zex d 83 [zR 71, zI h, zI c] (F, G, zsg) = some (none, F', G, zsg) ∧ F' 72 = (if p (30 + h.toNat) = -1 then zu p (28 + h.toNat) c else zu (zu p (28 + h.toNat) c) (p (30 + h.toNat)).toNat (q_heldAt c (p (16 + (p (30 + h.toNat)).toNat)) (ρ 79 (p (30 + h.toNat)).toNat))) ∧ (∀ r, r ≠ 72 → F' r = F r) := by
  obtain ⟨d, rfl⟩ := zds (show 1 ≤ d by omega)
  have hn8 := hV.1.2
  have z28 : zadd 28 h = 28 + h := zadd_eq (by omega) (by omega)
  have z30 : zadd 30 h = 30 + h := zadd_eq (by omega) (by omega)
  have t28 : (28 + h).toNat = 28 + h.toNat := by omega
  have t30 : (30 + h).toNat = 30 + h.toNat := by omega
  have hrow : zup F 72 (28 + h.toNat) c 72 = zu p (28 + h.toNat) c := by rw [zup_fn, hp]
  have h30 : zu p (28 + h.toNat) c (30 + h.toNat) = p (30 + h.toNat) := zu_ne (by omega)
  by_cases ht : p (30 + h.toNat) = -1
  · refine ⟨zup F 72 (28 + h.toNat) c, g_M_comesTo h c _ ?_, by rw [if_pos ht, hrow], fun r hr => zup_row hr⟩
    rw [z28, z30, t28, t30, if_pos (by omega), if_pos (by omega), hrow, h30, if_pos ht]
  · have ht8 : 0 ≤ p (30 + h.toNat) ∧ p (30 + h.toNat) < 8 := by omega
    have hw := hV.2.2.2.2.1 (p (30 + h.toNat)).toNat (by omega)
    have z16 : zadd 16 (p (30 + h.toNat)) = 16 + p (30 + h.toNat) := zadd_eq (by omega) (by omega)
    have z0 : zadd 0 (p (30 + h.toNat)) = p (30 + h.toNat) := by rw [zadd_eq (by omega) (by omega), Int.zero_add]
    have t16 : (16 + p (30 + h.toNat)).toNat = 16 + (p (30 + h.toNat)).toNat := by omega
    have h16 : zu p (28 + h.toNat) c (16 + (p (30 + h.toNat)).toNat) = p (16 + (p (30 + h.toNat)).toNat) := zu_ne (by omega)
    refine ⟨zup (zup F 72 (28 + h.toNat) c) 72 (p (30 + h.toNat)).toNat (q_heldAt c (p (16 + (p (30 + h.toNat)).toNat)) (ρ 79 (p (30 + h.toNat)).toNat)), g_M_comesTo h c _ ?_, by rw [if_neg ht, zup_fn, hrow], fun r hr => by rw [zup_row hr, zup_row hr]⟩
    rw [z28, z30, t28, t30, if_pos (by omega), if_pos (by omega), hrow, h30, if_neg ht, z16, t16, if_pos (by omega), if_pos (by omega), h16, hR.2.2.2.2.2.2.2, m_heldAt (by omega) hc.1 hc.2 hw.1 hw.2, zbI_some, z0, if_pos (by omega)]
theorem m_goes (hd : 6 ≤ d) (hR : zMR ρ F) (hp : F 72 = p) (hV : zRv ρ) (hP : zPv ρ p) {h c : Int} (hh : h = 0 ∨ h = 1) (hc : 0 ≤ c ∧ c < 64) :
    ∃ F', zex d 84 [zR 71, zI h, zI c] (F, G, zsg) = some (some (zI (q_go ρ p h c).1), F', G, zsg) ∧ F' 72 = (q_go ρ p h c).2 ∧ (∀ r, r ≠ 72 → r ≠ 99 → r ≠ 100 → F' r = F r) := by
  obtain ⟨d, rfl⟩ := zds (show 1 ≤ d by omega)
  have z28 : zadd 28 h = 28 + h := zadd_eq (by omega) (by omega)
  have z32 : zadd 32 h = 32 + h := zadd_eq (by omega) (by omega)
  have t28 : (28 + h).toNat = 28 + h.toNat := by omega
  have t32 : (32 + h).toNat = 32 + h.toNat := by omega
  have hb := hP.2.2.1 h.toNat (by omega)
  have hcr := hP.2.1 h.toNat (by omega)
  unfold q_go
  by_cases h0 : p (28 + h.toNat) = -1
  · rw [if_pos h0]
    refine ⟨F, g_M_goes h c _ ?_, hp, fun _ _ _ _ => rfl⟩
    rw [z28, t28, hp, if_pos (by omega), if_pos h0]
  · rw [if_neg h0]
    obtain ⟨F1, e1, e2, e3⟩ := m_spreadsNow (d := d) (G := G) (by omega) hR hp hV hP.1 hh (by omega) hb
    have hr := q_far_r (T := n_T ρ p h) (S := n_S ρ p h) (a := n_a p h) (c := c)
    have hF1 : F1 99 c.toNat = zfo (q_far (n_T ρ p h) (n_S ρ p h) (n_a p h) c) := by rw [e3 _ (by omega), Int.toNat_of_nonneg hc.1]
    have hp1 : F1 72 = p := by rw [e2 72 (by decide) (by decide)]; exact hp
    have hR1 : zMR ρ F1 := hR.w (fun r _ r2 r3 => e2 r r2 r3)
    by_cases hq : q_far (n_T ρ p h) (n_S ρ p h) (n_a p h) c = -1
    · rw [if_pos hq]
      refine ⟨F1, g_M_goes h c _ ?_, hp1, fun r _ r2 r3 => e2 r r2 r3⟩
      rw [z28, t28, hp, if_pos (by omega), if_neg h0, e1, zbV_some, if_pos hc, hF1, if_pos ((zfo_1000 hr).mpr hq)]
    · rw [if_neg hq]
      have hp2 : zup F1 72 (32 + h.toNat) (zadd (p (32 + h.toNat)) (q_far (n_T ρ p h) (n_S ρ p h) (n_a p h) c)) 72 = zu p (32 + h.toNat) (zadd (p (32 + h.toNat)) (q_far (n_T ρ p h) (n_S ρ p h) (n_a p h) c)) := by rw [zup_fn, hp1]
      have u30 : zu p (32 + h.toNat) (zadd (p (32 + h.toNat)) (q_far (n_T ρ p h) (n_S ρ p h) (n_a p h) c)) (30 + h.toNat) = p (30 + h.toNat) := zu_ne (by omega)
      obtain ⟨F2, g1, g2, g3⟩ := m_comesTo (d := d) (G := G) (by omega) (hR1.p72 (x := 32 + h.toNat) (v := zadd (p (32 + h.toNat)) (q_far (n_T ρ p h) (n_S ρ p h) (n_a p h) c))) hp2 hV hh hc (by rw [u30]; exact hb)
      rw [u30] at g2
      have hn8 := hV.1.2
      refine ⟨F2, g_M_goes h c _ ?_, ?_, fun r r1 r2 r3 => by rw [g3 r r1, zup_row r1, e2 r r2 r3]⟩
      · rw [z28, t28, hp, if_pos (by omega), if_neg h0, e1, zbV_some, if_pos hc, hF1, if_neg (fun q => hq ((zfo_1000 hr).mp q)), z32, t32, if_pos (by omega), if_pos hc, if_pos (by omega), hp1, zfo_eq hq, g1, zbV_some]
      · rw [g2]
        unfold q_move
        by_cases ht : p (30 + h.toNat) = -1
        · rw [if_pos ht, if_pos ht, zu_comm (by omega)]
        · rw [if_neg ht, if_neg ht]
          rw [zu_ne (show 16 + (p (30 + h.toNat)).toNat ≠ 32 + h.toNat by omega)]
          rw [zu_comm (x := 32 + h.toNat) (y := 28 + h.toNat) (by omega), zu_comm (x := 32 + h.toNat) (by omega), zu_comm (x := 28 + h.toNat) (by omega)]
theorem m_takes (hd : 3 ≤ d) (hR : zMR ρ F) (hp : F 72 = p) (hV : zRv ρ) (hP : zPv ρ p) {h t s : Int} (hh : h = 0 ∨ h = 1) (ht : 0 ≤ t ∧ t < 8) (hs : 0 ≤ s ∧ s < 4) :
    ∃ F', zex d 85 [zR 71, zI h, zI t, zI s] (F, G, zsg) = some (some (zI (q_take ρ p h t s).1), F', G, zsg) ∧ F' 72 = (q_take ρ p h t s).2 ∧ (∀ r, r ≠ 72 → F' r = F r) := by
  obtain ⟨d, rfl⟩ := zds (show 1 ≤ d by omega)
  have z28 : zadd 28 h = 28 + h := zadd_eq (by omega) (by omega)
  have z30 : zadd 30 h = 30 + h := zadd_eq (by omega) (by omega)
  have t28 : (28 + h).toNat = 28 + h.toNat := by omega
  have t30 : (30 + h).toNat = 30 + h.toNat := by omega
  have z0 : zadd 0 t = t := by rw [zadd_eq (by omega) (by omega), Int.zero_add]
  have z8 : zadd 8 t = 8 + t := zadd_eq (by omega) (by omega)
  have z16 : zadd 16 t = 16 + t := zadd_eq (by omega) (by omega)
  have t8 : (8 + t).toNat = 8 + t.toNat := by omega
  have t16 : (16 + t).toNat = 16 + t.toNat := by omega
  have g28 : 0 ≤ 28 + h ∧ 28 + h < 43 := by omega
  have g30 : 0 ≤ 30 + h ∧ 30 + h < 43 := by omega
  have g0 : 0 ≤ t ∧ t < 43 := by omega
  have g8 : 0 ≤ 8 + t ∧ 8 + t < 43 := by omega
  have g16 : 0 ≤ 16 + t ∧ 16 + t < 43 := by omega
  have hk := hV.2.2.2.1 t.toNat (by omega)
  have hw := hV.2.2.2.2.1 t.toNat (by omega)
  have hcr := hP.2.1 h.toNat (by omega)
  have hsr := q_sides_r (ρ 78 t.toNat)
  unfold q_take
  by_cases c0 : p (28 + h.toNat) = -1
  · rw [if_pos (Or.inl c0)]
    refine ⟨F, g_M_takes h t s _ ?_, hp, fun _ _ => rfl⟩
    rw [z28, t28, hp, if_pos g28, if_pos c0]
  · by_cases c1 : p (30 + h.toNat) = -1
    · by_cases c2 : t < ρ 71 8
      · by_cases c3 : p t.toNat = -1
        · rw [if_pos (Or.inr (Or.inr (Or.inr (Or.inl c3))))]
          refine ⟨F, g_M_takes h t s _ ?_, hp, fun _ _ => rfl⟩
          rw [z28, t28, hp, if_pos g28, if_neg c0, z30, t30, if_pos g30, if_pos c1, m_isThing (by omega) hR hV, zbI_some, zp_t (by omega), if_neg (by decide), z0, if_pos g0, hp, if_pos c3]
        · by_cases c4 : p (8 + t.toNat) = -1
          · rw [if_neg (by omega)]
            have pre : ∀ (F' : zM) (w : Int), (zbI (zex d 54 [zI (ρ 78 t.toNat)] (F, G, zsg)) (fun v2 F2 G2 => if (zand (zshr v2 s) 1) = 0 then some (some (zI 2), F2, G2, zsg) else if 0 ≤ t ∧ t < 8 then if 0 ≤ t ∧ t < 8 then zbI (zex d 55 [zI (F2 78 t.toNat), zI (F2 79 t.toNat)] (F2, G2, zsg)) (fun v3 F3 G3 => if (F3 71 11) < v3 then some (some (zI 3), F3, G3, zsg) else if 0 ≤ 28 + h ∧ 28 + h < 43 then if 0 ≤ t ∧ t < 8 then zbI (zex d 63 [zI (F3 72 (28 + h.toNat)), zI s, zI (F3 79 t.toNat)] (F3, G3, zsg)) (fun v4 F4 G4 => if 0 ≤ t ∧ t < 43 then if v4 = (F4 72 t.toNat) then if 0 ≤ 8 + t ∧ 8 + t < 43 then if 0 ≤ 16 + t ∧ 16 + t < 43 then if 0 ≤ 30 + h ∧ 30 + h < 43 then some (some (zI 0), (zup (zup (zup F4 72 (8 + t.toNat) h) 72 (16 + t.toNat) s) 72 (30 + h.toNat) t), G4, zsg) else none else none else none else some (some (zI 7), F4, G4, zsg) else none) else none else none) else none else none)) = some (some (zI w), F', G, zsg) → zex (d + 1) 85 [zR 71, zI h, zI t, zI s] (F, G, zsg) = some (some (zI w), F', G, zsg) := by
              intro F' w hz
              refine g_M_takes h t s _ ?_
              rw [z28, t28, hp, if_pos g28, if_neg c0, z30, t30, if_pos g30, if_pos c1, m_isThing (by omega) hR hV, zbI_some, zp_t (by omega), if_neg (by decide), z0, z8, z16, t8, t16, if_pos g0, hp, if_neg c3, if_pos g8, if_pos c4, if_pos ht, hR.2.2.2.2.2.2.1]
              exact hz
            by_cases c5 : q_hf (ρ 78 t.toNat) s = false
            · rw [if_pos c5]
              refine ⟨F, pre F 2 ?_, hp, fun _ _ => rfl⟩
              rw [m_sidesOf (by omega), zbI_some, if_pos ((z_bit0 (by omega) (by omega) hs.1 (by omega)).mpr (by unfold q_hf at c5; rw [c5]; decide))]
            · rw [if_neg c5]
              have c5' : q_hf (ρ 78 t.toNat) s = true := by
                cases hx : q_hf (ρ 78 t.toNat) s with
                | false => exact absurd hx c5
                | true => rfl
              have c6 : ¬ zand (zshr (q_sides (ρ 78 t.toNat)) s) 1 = 0 := fun q => (z_bit0 (by omega) (by omega) hs.1 (by omega)).mp q c5'
              by_cases c7 : ρ 71 11 < q_wt (ρ 78 t.toNat) (ρ 79 t.toNat)
              · rw [if_pos c7]
                refine ⟨F, pre F 3 ?_, hp, fun _ _ => rfl⟩
                rw [m_sidesOf (by omega), zbI_some, if_neg c6, if_pos ht, if_pos ht, hR.2.2.2.2.2.2.1, hR.2.2.2.2.2.2.2, m_weightOf (by omega) hw.1 hw.2, zbI_some, hR.2.2.1, if_pos c7]
              · rw [if_neg c7]
                by_cases c8 : q_heldAt (p (28 + h.toNat)) s (ρ 79 t.toNat) ≠ p t.toNat
                · rw [if_pos c8]
                  refine ⟨F, pre F 7 ?_, hp, fun _ _ => rfl⟩
                  rw [m_sidesOf (by omega), zbI_some, if_neg c6, if_pos ht, if_pos ht, hR.2.2.2.2.2.2.1, hR.2.2.2.2.2.2.2, m_weightOf (by omega) hw.1 hw.2, zbI_some, hR.2.2.1, if_neg c7, if_pos g28, if_pos ht, hp, hR.2.2.2.2.2.2.2, m_heldAt (by omega) (by omega) (by omega) hw.1 hw.2, zbI_some, if_pos g0, hp, if_neg c8]
                · rw [if_neg c8]
                  rw [Classical.not_not] at c8
                  refine ⟨zup (zup (zup F 72 (8 + t.toNat) h) 72 (16 + t.toNat) s) 72 (30 + h.toNat) t, pre _ 0 ?_, ?_, fun r hr => by rw [zup_row hr, zup_row hr, zup_row hr]⟩
                  · rw [m_sidesOf (by omega), zbI_some, if_neg c6, if_pos ht, if_pos ht, hR.2.2.2.2.2.2.1, hR.2.2.2.2.2.2.2, m_weightOf (by omega) hw.1 hw.2, zbI_some, hR.2.2.1, if_neg c7, if_pos g28, if_pos ht, hp, hR.2.2.2.2.2.2.2, m_heldAt (by omega) (by omega) (by omega) hw.1 hw.2, zbI_some, if_pos g0, hp, if_pos c8, if_pos g8, if_pos g16, if_pos g30]
                  · rw [zup_fn, zup_fn, zup_fn, hp, zu_comm (x := 16 + t.toNat) (by omega), zu_comm (x := 8 + t.toNat) (by omega)]
          · rw [if_pos (Or.inr (Or.inr (Or.inr (Or.inr c4))))]
            refine ⟨F, g_M_takes h t s _ ?_, hp, fun _ _ => rfl⟩
            rw [z28, t28, hp, if_pos g28, if_neg c0, z30, t30, if_pos g30, if_pos c1, m_isThing (by omega) hR hV, zbI_some, zp_t (by omega), if_neg (by decide), z0, z8, t8, if_pos g0, hp, if_neg c3, if_pos g8, if_neg c4]
      · rw [if_pos (Or.inr (Or.inr (Or.inl (by omega))))]
        refine ⟨F, g_M_takes h t s _ ?_, hp, fun _ _ => rfl⟩
        rw [z28, t28, hp, if_pos g28, if_neg c0, z30, t30, if_pos g30, if_pos c1, m_isThing (by omega) hR hV, zbI_some, zp_f (by omega), if_pos rfl]
    · rw [if_pos (Or.inr (Or.inl c1))]
      refine ⟨F, g_M_takes h t s _ ?_, hp, fun _ _ => rfl⟩
      rw [z28, t28, hp, if_pos g28, if_neg c0, z30, t30, if_pos g30, if_neg c1]
theorem m_puts (hd : 1 ≤ d) (hV : zRv ρ) (hp : F 72 = p) (hP : zPv ρ p) {h : Int} (hh : h = 0 ∨ h = 1) :
    ∃ F', zex d 86 [zR 71, zI h] (F, G, zsg) = some (some (zI (q_put p h).1), F', G, zsg) ∧ F' 72 = (q_put p h).2 ∧ (∀ r, r ≠ 72 → F' r = F r) := by
  obtain ⟨d, rfl⟩ := zds (show 1 ≤ d by omega)
  have z28 : zadd 28 h = 28 + h := zadd_eq (by omega) (by omega)
  have z30 : zadd 30 h = 30 + h := zadd_eq (by omega) (by omega)
  have t28 : (28 + h).toNat = 28 + h.toNat := by omega
  have t30 : (30 + h).toNat = 30 + h.toNat := by omega
  have g28 : 0 ≤ 28 + h ∧ 28 + h < 43 := by omega
  have g30 : 0 ≤ 30 + h ∧ 30 + h < 43 := by omega
  have hb := hP.2.2.1 h.toNat (by omega)
  have hn8 := hV.1.2
  unfold q_put
  by_cases c0 : p (28 + h.toNat) = -1
  · rw [if_pos (Or.inl c0)]
    refine ⟨F, g_M_puts h _ ?_, hp, fun _ _ => rfl⟩
    rw [z28, t28, z30, t30, if_pos g30, if_pos g28, hp, if_pos c0]
  · by_cases c1 : p (30 + h.toNat) = -1
    · rw [if_pos (Or.inr c1)]
      refine ⟨F, g_M_puts h _ ?_, hp, fun _ _ => rfl⟩
      rw [z28, t28, z30, t30, if_pos g30, if_pos g28, hp, if_neg c0, if_pos c1]
    · rw [if_neg (fun q => q.elim c0 c1)]
      have z8 : zadd 8 (p (30 + h.toNat)) = 8 + p (30 + h.toNat) := zadd_eq (by omega) (by omega)
      have z16 : zadd 16 (p (30 + h.toNat)) = 16 + p (30 + h.toNat) := zadd_eq (by omega) (by omega)
      have t8 : (8 + p (30 + h.toNat)).toNat = 8 + (p (30 + h.toNat)).toNat := by omega
      have t16 : (16 + p (30 + h.toNat)).toNat = 16 + (p (30 + h.toNat)).toNat := by omega
      refine ⟨zup (zup (zup F 72 (8 + (p (30 + h.toNat)).toNat) (-1)) 72 (16 + (p (30 + h.toNat)).toNat) (-1)) 72 (30 + h.toNat) (-1), g_M_puts h _ ?_, ?_, fun r hr => by rw [zup_row hr, zup_row hr, zup_row hr]⟩
      · rw [z28, t28, z30, t30, if_pos g30, if_pos g28, hp, if_neg c0, if_neg c1, z8, z16, t8, t16, if_pos (by omega), if_pos (by omega), if_pos g30]
      · rw [zup_fn, zup_fn, zup_fn, hp, zu_comm (x := 16 + (p (30 + h.toNat)).toNat) (by omega), zu_comm (x := 8 + (p (30 + h.toNat)).toNat) (by omega)]
theorem m_opens (hd : 2 ≤ d) (hR : zMR ρ F) (hp : F 72 = p) (hV : zRv ρ) (hP : zPv ρ p) {h e : Int} (hh : h = 0 ∨ h = 1) (he : 0 ≤ e ∧ e < 4) :
    ∃ F', zex d 87 [zR 71, zI h, zI e] (F, G, zsg) = some (some (zI (q_open ρ p h e).1), F', G, zsg) ∧ F' 72 = (q_open ρ p h e).2 ∧ (∀ r, r ≠ 72 → F' r = F r) := by
  obtain ⟨d, rfl⟩ := zds (show 1 ≤ d by omega)
  have z28 : zadd 28 h = 28 + h := zadd_eq (by omega) (by omega)
  have z30 : zadd 30 h = 30 + h := zadd_eq (by omega) (by omega)
  have z24 : zadd 24 e = 24 + e := zadd_eq (by omega) (by omega)
  have t28 : (28 + h).toNat = 28 + h.toNat := by omega
  have t30 : (30 + h).toNat = 30 + h.toNat := by omega
  have t24 : (24 + e).toNat = 24 + e.toNat := by omega
  have g28 : 0 ≤ 28 + h ∧ 28 + h < 43 := by omega
  have g30 : 0 ≤ 30 + h ∧ 30 + h < 43 := by omega
  have g24 : 0 ≤ 24 + e ∧ 24 + e < 43 := by omega
  have hcr := hP.2.1 h.toNat (by omega)
  have hD := hV.2.1
  have hdc := hV.2.2.2.2.2.2.1 e.toNat (by omega)
  unfold q_open
  by_cases c0 : p (28 + h.toNat) = -1
  · rw [if_pos c0]
    refine ⟨F, g_M_opens h e _ ?_, hp, fun _ _ => rfl⟩
    rw [z28, t28, hp, if_pos g28, if_pos c0]
  · rw [if_neg c0]
    by_cases c1 : e < ρ 71 5
    · by_cases c2 : p (24 + e.toNat) = 1
      · rw [if_pos (Or.inr c2)]
        refine ⟨F, g_M_opens h e _ ?_, hp, fun _ _ => rfl⟩
        rw [z28, t28, hp, if_pos g28, if_neg c0, hR.1, zsub_eq (by omega) (by omega), m_in (by omega), zbI_some, zp_t (by omega), if_neg (by decide), z24, t24, if_pos g24, hp, if_pos c2]
      · rw [if_neg (by omega)]
        have hnr := q_near_rev (p := p) hV (h := h) (e := e) (by omega) he
        -- behind the loop
        have fin : ∃ F', ∀ n : Int, (n = zp (q_near ρ p h e)) → zev zX0 d (87, 51, [zR 71, zI h, zI e, zI n, zI 4], [], F, G, zsg) = some (some (zI (if zp (q_near ρ p h e) = 0 then (7, p) else if ρ 77 e.toNat ≠ -1 ∧ p (30 + h.toNat) ≠ ρ 77 e.toNat then (6, p) else (0, zu p (24 + e.toNat) 1)).1), F', G, zsg) ∧ F' 72 = (if zp (q_near ρ p h e) = 0 then (7, p) else if ρ 77 e.toNat ≠ -1 ∧ p (30 + h.toNat) ≠ ρ 77 e.toNat then (6, p) else (0, zu p (24 + e.toNat) 1) : Int × (Nat → Int)).2 ∧ (∀ r, r ≠ 72 → F' r = F r) := by
          by_cases c3 : zp (q_near ρ p h e) = 0
          · refine ⟨F, fun n hn => ?_⟩
            rw [if_pos c3]
            refine ⟨g_M_opens_51 h e n 4 _ ?_, hp, fun _ _ => rfl⟩
            rw [if_neg (by decide), if_pos (by omega)]
          · by_cases c4 : ρ 77 e.toNat ≠ -1 ∧ p (30 + h.toNat) ≠ ρ 77 e.toNat
            · refine ⟨F, fun n hn => ?_⟩
              rw [if_neg c3, if_pos c4]
              refine ⟨g_M_opens_51 h e n 4 _ ?_, hp, fun _ _ => rfl⟩
              rw [if_neg (by decide), if_neg (by omega), if_pos he, hR.2.2.2.2.2.1, if_neg c4.1, z30, t30, if_pos g30, if_pos he, hp, if_neg c4.2]
            · refine ⟨zup F 72 (24 + e.toNat) 1, fun n hn => ?_⟩
              rw [if_neg c3, if_neg c4]
              refine ⟨g_M_opens_51 h e n 4 _ ?_, by rw [zup_fn, hp], fun r hr => zup_row hr⟩
              rw [if_neg (by decide), if_neg (by omega), if_pos he, hR.2.2.2.2.2.1, z24, t24, if_pos g24]
              by_cases c5 : ρ 77 e.toNat = -1
              · rw [if_pos c5]
              · rw [if_neg c5, z30, t30, if_pos g30, if_pos he, hp, if_pos (by
                  rcases Classical.em (p (30 + h.toNat) = ρ 77 e.toNat) with q | q
                  · exact q
                  · exact absurd ⟨c5, q⟩ c4)]
        obtain ⟨F', fin⟩ := fin
        have f0 := fin _ rfl
        have one : ∀ (n : Int) (k : Int), (n = 0 ∨ n = 1) → 0 ≤ k → k < 4 → ∀ r, zev zX0 d (87, 51, [zR 71, zI h, zI e, zI (if n = 1 ∨ q_bes (ρ 76 e.toNat) k = p (28 + h.toNat) then 1 else 0), zI (k + 1)], [], F, G, zsg) = some r → zev zX0 d (87, 51, [zR 71, zI h, zI e, zI n, zI k], [], F, G, zsg) = some r := by
          intro n k hn k0 k4 r hr
          refine g_M_opens_51 h e n k r ?_
          rw [if_pos k4, hR.2.2.2.2.1, m_beside (by omega) hdc.1 hdc.2, zbI_some, z28, t28, if_pos g28, hp, zadd_eq (by omega) (by omega)]
          by_cases n0 : n = 0
          · rw [if_pos n0, if_pos he]
            by_cases hb : q_bes (ρ 76 e.toNat) k = p (28 + h.toNat)
            · rw [if_pos hb]
              rw [if_pos (Or.inr hb)] at hr
              exact hr
            · rw [if_neg hb]
              rw [if_neg (by omega)] at hr
              exact hr
          · rw [if_neg n0]
            rw [if_pos (Or.inl (by omega))] at hr
            exact hr
        refine ⟨F', g_M_opens h e _ ?_, f0.2.1, f0.2.2⟩
        rw [z28, t28, hp, if_pos g28, if_neg c0, hR.1, zsub_eq (by omega) (by omega), m_in (by omega), zbI_some, zp_t (by omega), if_neg (by decide), z24, t24, if_pos g24, hp, if_neg c2]
        refine one 0 0 (Or.inl rfl) (by decide) (by decide) _ (one _ 1 ?_ (by decide) (by decide) _ (one _ 2 ?_ (by decide) (by decide) _ (one _ 3 ?_ (by decide) (by decide) _ (fin _ ?_).1)))
        · split <;> omega
        · split <;> omega
        · split <;> omega
        · by_cases hq : q_near ρ p h e
          · rw [zp_t hq]
            have := hnr.mp hq
            rw [if_pos]
            rcases this with q | q | q | q
            · exact Or.inl (by rw [if_pos]; exact Or.inl (by rw [if_pos]; exact Or.inl (by rw [if_pos (Or.inr q)])))
            · exact Or.inl (by rw [if_pos]; exact Or.inl (by rw [if_pos (Or.inr q)]))
            · exact Or.inl (by rw [if_pos (Or.inr q)])
            · exact Or.inr q
          · rw [zp_f hq]
            have h4 := fun q => hq (hnr.mpr q)
            have n0 : ¬ q_bes (ρ 76 e.toNat) 0 = p (28 + h.toNat) := fun q => h4 (Or.inl q)
            have n1 : ¬ q_bes (ρ 76 e.toNat) 1 = p (28 + h.toNat) := fun q => h4 (Or.inr (Or.inl q))
            have n2 : ¬ q_bes (ρ 76 e.toNat) 2 = p (28 + h.toNat) := fun q => h4 (Or.inr (Or.inr (Or.inl q)))
            have n3 : ¬ q_bes (ρ 76 e.toNat) 3 = p (28 + h.toNat) := fun q => h4 (Or.inr (Or.inr (Or.inr q)))
            show (if (if (if (if (0 : Int) = 1 ∨ q_bes (ρ 76 e.toNat) 0 = p (28 + h.toNat) then (1 : Int) else 0) = 1 ∨ q_bes (ρ 76 e.toNat) (0 + 1) = p (28 + h.toNat) then (1 : Int) else 0) = 1 ∨ q_bes (ρ 76 e.toNat) (0 + 1 + 1) = p (28 + h.toNat) then (1 : Int) else 0) = 1 ∨ q_bes (ρ 76 e.toNat) (0 + 1 + 1 + 1) = p (28 + h.toNat) then (1 : Int) else 0) = 0
            rw [if_neg (show ¬ ((0 : Int) = 1 ∨ q_bes (ρ 76 e.toNat) 0 = p (28 + h.toNat)) from fun q => q.elim (by decide) n0)]
            rw [if_neg (show ¬ ((0 : Int) = 1 ∨ q_bes (ρ 76 e.toNat) (0 + 1) = p (28 + h.toNat)) from fun q => q.elim (by decide) n1)]
            rw [if_neg (show ¬ ((0 : Int) = 1 ∨ q_bes (ρ 76 e.toNat) (0 + 1 + 1) = p (28 + h.toNat)) from fun q => q.elim (by decide) n2)]
            rw [if_neg (show ¬ ((0 : Int) = 1 ∨ q_bes (ρ 76 e.toNat) (0 + 1 + 1 + 1) = p (28 + h.toNat)) from fun q => q.elim (by decide) n3)]
    · rw [if_pos (Or.inl (by omega))]
      refine ⟨F, g_M_opens h e _ ?_, hp, fun _ _ => rfl⟩
      rw [z28, t28, hp, if_pos g28, if_neg c0, hR.1, zsub_eq (by omega) (by omega), m_in (by omega), zbI_some, zp_f (by omega), if_pos rfl]
theorem m_does (hd : 7 ≤ d) (hR : zMR ρ F) (hp : F 72 = p) (hV : zRv ρ) (hP : zPv ρ p) {h x : Int} (hh : h = 0 ∨ h = 1) (hx : 0 ≤ x ∧ x < 72) (ho : q_aok (F 81 x.toNat) (F 82 x.toNat) (F 83 x.toNat)) :
    ∃ F', zex d 105 [zR 71, zI h, zI x] (F, G, zsg) = some (some (zI (q_act ρ p h (F 81 x.toNat) (F 82 x.toNat) (F 83 x.toNat)).1), F', G, zsg) ∧ F' 72 = (q_act ρ p h (F 81 x.toNat) (F 82 x.toNat) (F 83 x.toNat)).2 ∧ (∀ r, r ≠ 72 → r ≠ 99 → r ≠ 100 → F' r = F r) := by
  obtain ⟨d, rfl⟩ := zds (show 1 ≤ d by omega)
  obtain ⟨o1, o2, o3, o4⟩ := ho
  unfold q_act
  by_cases a0 : F 81 x.toNat = 0
  · rw [if_pos a0]
    obtain ⟨F', e1, e2, e3⟩ := m_goes (d := d) (G := G) (by omega) hR hp hV hP hh (o2 a0)
    refine ⟨F', g_M_does h x _ ?_, e2, e3⟩
    rw [if_pos hx, if_pos a0, if_pos hx, e1, zbI_some]
  · rw [if_neg a0]
    by_cases a1 : F 81 x.toNat = 1
    · rw [if_pos a1]
      obtain ⟨F', e1, e2, e3⟩ := m_takes (d := d) (G := G) (by omega) hR hp hV hP hh (o3 a1).1 (o3 a1).2
      refine ⟨F', g_M_does h x _ ?_, e2, fun r r1 _ _ => e3 r r1⟩
      rw [if_pos hx, if_neg a0, if_pos a1, if_pos hx, if_pos hx, e1, zbI_some]
    · rw [if_neg a1]
      by_cases a2 : F 81 x.toNat = 2
      · rw [if_pos a2]
        obtain ⟨F', e1, e2, e3⟩ := m_puts (d := d) (G := G) (by omega) hV hp hP hh
        refine ⟨F', g_M_does h x _ ?_, e2, fun r r1 _ _ => e3 r r1⟩
        rw [if_pos hx, if_neg a0, if_neg a1, if_pos a2, e1, zbI_some]
      · rw [if_neg a2]
        by_cases a3 : F 81 x.toNat = 3
        · rw [if_pos a3]
          obtain ⟨F', e1, e2, e3⟩ := m_opens (d := d) (G := G) (by omega) hR hp hV hP hh (o4 a3)
          refine ⟨F', g_M_does h x _ ?_, e2, fun r r1 _ _ => e3 r r1⟩
          rw [if_pos hx, if_neg a0, if_neg a1, if_neg a2, if_pos a3, if_pos hx, e1, zbI_some]
        · rw [if_neg a3]
          refine ⟨F, g_M_does h x _ ?_, hp, fun _ _ _ _ => rfl⟩
          rw [if_pos hx, if_neg a0, if_neg a1, if_neg a2, if_neg a3]
end
