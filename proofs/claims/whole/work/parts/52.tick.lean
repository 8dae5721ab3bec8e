/-! one hand's tick: both sides alike -/
theorem zadd_r (x y : Int) : -2147483648 ≤ zadd x y ∧ zadd x y ≤ 2147483647 := by
  unfold zadd
  have h1 := Int32.minValue_le_toInt (Int32.ofInt x + Int32.ofInt y)
  have h2 := Int32.toInt_le (Int32.ofInt x + Int32.ofInt y)
  have e1 : Int32.minValue.toInt = -2147483648 := by decide
  have e2 : Int32.maxValue.toInt = 2147483647 := by decide
  constructor
  · simpa using Int32.le_toInt (Int32.ofInt x + Int32.ofInt y)
  · have := Int32.toInt_lt (Int32.ofInt x + Int32.ofInt y)
    omega
noncomputable def q_first (ρ : zM) (p : Nat → Int) (h c : Int) : Int := if p (28 + h.toNat) = -1 ∨ q_far (n_T ρ p h) (n_S ρ p h) (n_a p h) c = -1 then -1 else q_back (n_T ρ p h) (n_S ρ p h) (n_a p h) (q_far (n_T ρ p h) (n_S ρ p h) (n_a p h) c - 1).toNat (q_far (n_T ρ p h) (n_S ρ p h) (n_a p h) c).toNat c
def q_end (p : Nat → Int) (h : Int) : Nat → Int := zu (zu (zu p (36 + h.toNat) (zadd (p (36 + h.toNat)) 1)) (38 + h.toNat) 0) (40 + h.toNat) 0
def q_x (p : Nat → Int) (h : Int) : Nat := (12 * p (34 + h.toNat) + p (36 + h.toNat)).toNat
noncomputable def q_tick (ρ : zM) (L A N S : Nat → Int) (p : Nat → Int) (h : Int) : Nat → Int :=
  if p (34 + h.toNat) = -1 then p
  else if ¬ p (36 + h.toNat) < L (p (34 + h.toNat)).toNat then zu p (34 + h.toNat) (-1)
  else if A (q_x p h) = 4 then (if zadd (p (38 + h.toNat)) 1 < N (q_x p h) then zu p (38 + h.toNat) (zadd (p (38 + h.toNat)) 1) else q_end (zu p (38 + h.toNat) (zadd (p (38 + h.toNat)) 1)) h)
  else if A (q_x p h) = 0 then
    (if p (28 + h.toNat) = N (q_x p h) then q_end p h
    else if q_first ρ p h (N (q_x p h)) = -1 then zu p (40 + h.toNat) (zadd (p (40 + h.toNat)) 1)
    else if q_first ρ p h (N (q_x p h)) = N (q_x p h) then q_end (zu (q_act ρ p h 0 (q_first ρ p h (N (q_x p h))) 0).2 (40 + h.toNat) 0) h
    else zu (q_act ρ p h 0 (q_first ρ p h (N (q_x p h))) 0).2 (40 + h.toNat) 0)
  else if (q_act ρ p h (A (q_x p h)) (N (q_x p h)) (S (q_x p h))).1 = 0 then q_end (q_act ρ p h (A (q_x p h)) (N (q_x p h)) (S (q_x p h))).2 h
  else zu (q_act ρ p h (A (q_x p h)) (N (q_x p h)) (S (q_x p h))).2 (40 + h.toNat) (zadd ((q_act ρ p h (A (q_x p h)) (N (q_x p h)) (S (q_x p h))).2 (40 + h.toNat)) 1)
section
variable {d : Nat} {F ρ ρ' : zM} {G : zG} {p p' : Nat → Int}
/-- the first step's cell is one step away -/
theorem q_first_ok (hP : zPv ρ p) {h c : Int} (hh : h = 0 ∨ h = 1) (hc : 0 ≤ c ∧ c < 64) (hne : p (28 + h.toNat) ≠ c) (h1 : q_first ρ p h c ≠ -1) : p (28 + h.toNat) ≠ -1 ∧ q_far (n_T ρ p h) (n_S ρ p h) (n_a p h) c ≠ -1 ∧ 1 ≤ q_far (n_T ρ p h) (n_S ρ p h) (n_a p h) c ∧ (0 ≤ q_first ρ p h c ∧ q_first ρ p h c < 64) ∧ q_far (n_T ρ p h) (n_S ρ p h) (n_a p h) (q_first ρ p h c) = 1 ∧ q_first ρ p h c = q_back (n_T ρ p h) (n_S ρ p h) (n_a p h) (q_far (n_T ρ p h) (n_S ρ p h) (n_a p h) c - 1).toNat (q_far (n_T ρ p h) (n_S ρ p h) (n_a p h) c).toNat c := by
  unfold q_first at h1 ⊢
  by_cases c0 : p (28 + h.toNat) = -1 ∨ q_far (n_T ρ p h) (n_S ρ p h) (n_a p h) c = -1
  · rw [if_pos c0] at h1
    exact absurd rfl h1
  · rw [if_neg c0]
    have hr := q_far_r (T := n_T ρ p h) (S := n_S ρ p h) (a := n_a p h) (c := c)
    have ha := n_acell hP hh (fun q => c0 (Or.inl q))
    have hf : q_far (n_T ρ p h) (n_S ρ p h) (n_a p h) c ≠ -1 := fun q => c0 (Or.inr q)
    have hL := q_far_L hf
    have h1f : 1 ≤ q_far (n_T ρ p h) (n_S ρ p h) (n_a p h) c := by
      rcases Int.lt_or_le (q_far (n_T ρ p h) (n_S ρ p h) (n_a p h) c) 1 with q | q
      · have : q_far (n_T ρ p h) (n_S ρ p h) (n_a p h) c = 0 := by omega
        rw [this] at hL
        exact absurd hL.symm hne
      · exact q
    have hb := q_back_L (T := n_T ρ p h) (S := n_S ρ p h) (a := n_a p h) (m := (q_far (n_T ρ p h) (n_S ρ p h) (n_a p h) c - 1).toNat) (k := (q_far (n_T ρ p h) (n_S ρ p h) (n_a p h) c).toNat) (by omega) hL
    rw [show (q_far (n_T ρ p h) (n_S ρ p h) (n_a p h) c).toNat - (q_far (n_T ρ p h) (n_S ρ p h) (n_a p h) c - 1).toNat = 1 by omega] at hb
    exact ⟨fun q => c0 (Or.inl q), hf, h1f, q_B_cell ha n_S_cell (q_L_B hb), (q_far_eq ha n_S_cell).mpr hb, rfl⟩
theorem q_x_eq (T : zTp F) (gr : zGr F p) {h : Int} (hh : h = 0 ∨ h = 1) (h0 : p (34 + h.toNat) ≠ -1) (h1 : p (36 + h.toNat) < F 80 (p (34 + h.toNat)).toNat) : (0 ≤ p (34 + h.toNat) ∧ p (34 + h.toNat) < 6) ∧ (0 ≤ p (36 + h.toNat) ∧ p (36 + h.toNat) < 12) ∧ (q_x p h : Int) = 12 * p (34 + h.toNat) + p (36 + h.toNat) ∧ q_x p h < 72 ∧ F 49 (q_x p h) = F 81 (q_x p h) ∧ F 50 (q_x p h) = F 82 (q_x p h) ∧ F 51 (q_x p h) = F 83 (q_x p h) ∧ q_aok (F 81 (q_x p h)) (F 82 (q_x p h)) (F 83 (q_x p h)) := by
  obtain ⟨t1, t2, t3, t4, t5, t6, t7, t8⟩ := T
  obtain ⟨g1, g2, g3, g4⟩ := gr h.toNat (by omega)
  have g3 := g3 h0
  obtain ⟨u1, u2⟩ := t8 (p (34 + h.toNat)).toNat (by omega)
  have u2 := u2 (p (36 + h.toNat)).toNat (by omega)
  have hx : q_x p h = 12 * (p (34 + h.toNat)).toNat + (p (36 + h.toNat)).toNat := by
    unfold q_x
    omega
  rw [← hx] at u2
  exact ⟨by omega, by omega, by omega, by omega, u2⟩
theorem zSC.ended {a : Nat} (h : zSC a p F) {g : Int} (hh : g = 0 ∨ g = 1) : zSC a (q_end p g) (zup (zup (zup F (a + 8) g.toNat (zadd (p (36 + g.toNat)) 1)) (a + 9) g.toNat 0) (a + 10) g.toNat 0) := by
  unfold q_end
  exact ((h.up (i := 8) (x := g.toNat) (z := 36 + g.toNat) (by decide) (Or.inr ⟨by decide, by omega, by omega⟩)).up (i := 9) (x := g.toNat) (z := 38 + g.toNat) (by decide) (Or.inr ⟨by decide, by omega, by omega⟩)).up (i := 10) (x := g.toNat) (z := 40 + g.toNat) (by decide) (Or.inr ⟨by decide, by omega, by omega⟩)
theorem s_endAct (hd : 1 ≤ d) (h : zSC 11 p F) {g : Int} (hh : g = 0 ∨ g = 1) : ∃ F', zex d 206 [zR 11, zI g] (F, G, zsg) = some (none, F', G, zsg) ∧ zSC 11 (q_end p g) F' ∧ (∀ r, (r < 11 ∨ 21 < r) → F' r = F r) := by
  obtain ⟨d, rfl⟩ := zds hd
  have g2 : 0 ≤ g ∧ g < 2 := by omega
  have f19 : F 19 g.toNat = p (36 + g.toNat) := (h.hn hh).2.2.2.2.1
  refine ⟨_, g_Scene_endAct g _ ?_, h.ended hh, fun r hr => ?_⟩
  · rw [if_pos g2, if_pos g2, if_pos g2, if_pos g2, f19]
  · rw [zup_row (by omega), zup_row (by omega), zup_row (by omega)]
theorem s_firstStep (hd : 5 ≤ d) (hS : zSC 11 p F) (hC : zCR ρ F G) (hV : zRv ρ) (hP : zPv ρ p) {h c : Int} (hh : h = 0 ∨ h = 1) (hc : 0 ≤ c ∧ c < 64) (hne : p (28 + h.toNat) ≠ c) : ∃ F' G', zex d 147 [zR 52, zR 11, zI h, zI c] (F, G, zsg) = some (some (zI (q_first ρ p h c)), F', G', zsg) ∧ (∀ r, r ≠ 44 → F' r = F r) ∧ (∀ r, r ≠ 44 → r ≠ 45 → G' r = G r) := by
  obtain ⟨d, rfl⟩ := zds (show 1 ≤ d by omega)
  have g2 : 0 ≤ h ∧ h < 2 := by omega
  have f15 : F 15 h.toNat = p (28 + h.toNat) := (hS.hn hh).1
  have hcr := hP.2.1 h.toNat (by omega)
  by_cases c0 : p (28 + h.toNat) = -1
  · refine ⟨F, G, g_Acts_firstStep h c _ ?_, fun _ _ => rfl, fun _ _ _ => rfl⟩
    rw [if_pos g2, f15, if_pos (by omega)]
    unfold q_first
    rw [if_pos (Or.inl c0)]
  · have ha := n_acell hP hh c0
    obtain ⟨F', G', e1, e2, e3, e4⟩ := s_floodFromHand_11 (W := 0) (d := d) (by omega) hS hC hV hP.1 hP.2.1 hh c0 (hP.2.2.1 _ (by omega)) (by decide)
    rw [q_bw0] at e4
    have e4 : q_fl (n_T ρ p h) (n_S ρ p h) (n_a p h) F' G' := e4
    refine ⟨F', G', g_Acts_firstStep h c _ ?_, e2, e3⟩
    have hr := q_far_r (T := n_T ρ p h) (S := n_S ρ p h) (a := n_a p h) (c := c)
    rw [if_pos g2, f15, if_neg (by omega), e1, zbV_some, s_farTo (T := n_T ρ p h) (by omega) ha n_S_cell hc.1 hc.2 e4, zbI_some]
    by_cases c1 : q_far (n_T ρ p h) (n_S ρ p h) (n_a p h) c = -1
    · rw [if_pos (by omega)]
      unfold q_first
      rw [if_pos (Or.inr c1)]
    · have hq : q_first ρ p h c = q_back (n_T ρ p h) (n_S ρ p h) (n_a p h) (q_far (n_T ρ p h) (n_S ρ p h) (n_a p h) c - 1).toNat (q_far (n_T ρ p h) (n_S ρ p h) (n_a p h) c).toNat c := by
        unfold q_first
        rw [if_neg (fun q => q.elim c0 c1)]
      have hL := q_far_L c1
      have h1f : 1 ≤ q_far (n_T ρ p h) (n_S ρ p h) (n_a p h) c := by
        rcases Int.lt_or_le (q_far (n_T ρ p h) (n_S ρ p h) (n_a p h) c) 1 with q | q
        · have : q_far (n_T ρ p h) (n_S ρ p h) (n_a p h) c = 0 := by omega
          rw [this] at hL
          exact absurd hL.symm hne
        · exact q
      rw [if_neg (by omega), s_cellOnWay (by omega) ha n_S_cell e4 hc.1 hc.2 (by decide) c1 h1f, zbI_some, hq]
theorem q_step_eq {h c : Int} (h0 : p (28 + h.toNat) ≠ -1) (hf : q_far (n_T ρ p h) (n_S ρ p h) (n_a p h) c = 1) : (q_act ρ p h 0 c 0).2 = q_move ρ p h c 1 := by
  unfold q_act q_go
  rw [if_pos rfl, if_neg h0, if_neg (by omega), hf]
theorem s_tickHand (hd : 8 ≤ d) (hS : zSC 11 p F) (hC : zCR ρ F G) (hV : zRv ρ) (hP : zPv ρ p) (T : zTp F) (gr : zGr F p) {h : Int} (hh : h = 0 ∨ h = 1) : ∃ F' G', zex d 144 [zR 52, zR 11, zI h] (F, G, zsg) = some (none, F', G', zsg) ∧ zSC 11 (q_tick ρ (F 80) (F 81) (F 82) (F 83) p h) F' ∧ (∀ r, r ≠ 44 → (r < 11 ∨ 21 < r) → F' r = F r) ∧ (∀ r, r ≠ 44 → r ≠ 45 → G' r = G r) := by
  obtain ⟨d, rfl⟩ := zds (show 1 ≤ d by omega)
  have g2 : 0 ≤ h ∧ h < 2 := by omega
  have f18 : F 18 h.toNat = p (34 + h.toNat) := (hS.hn hh).2.2.2.1
  have f19 : F 19 h.toNat = p (36 + h.toNat) := (hS.hn hh).2.2.2.2.1
  have f20 : F 20 h.toNat = p (38 + h.toNat) := (hS.hn hh).2.2.2.2.2.1
  have f15 : F 15 h.toNat = p (28 + h.toNat) := (hS.hn hh).1
  obtain ⟨r1, r2, r3, r4⟩ := gr h.toNat (by omega)
  have t7 := T.2.2.2.2.2.2.1
  have t4 := T.2.2.2.1
  by_cases c0 : p (34 + h.toNat) = -1
  · refine ⟨F, G, g_Acts_tickHand h _ ?_, ?_, fun _ _ _ => rfl, fun _ _ _ => rfl⟩
    · rw [if_pos g2, f18, if_pos (by omega)]
    · unfold q_tick
      rw [if_pos c0]
      exact hS
  · have g6 : 0 ≤ p (34 + h.toNat) ∧ p (34 + h.toNat) < 6 := by omega
    have nneg : ¬ p (34 + h.toNat) < 0 := by omega
    by_cases c1 : p (36 + h.toNat) < F 80 (p (34 + h.toNat)).toNat
    · obtain ⟨x1, x2, x3, x4, x5, x6, x7, x8⟩ := q_x_eq T gr hh c0 c1
      have g72 : 0 ≤ ((q_x p h : Nat) : Int) ∧ ((q_x p h : Nat) : Int) < 72 := by omega
      have pl : zex d 216 [zI (p (34 + h.toNat)), zI (p (36 + h.toNat))] (F, G, zsg) = some (some (zI ((q_x p h : Nat) : Int)), F, G, zsg) := by
        obtain ⟨d', rfl⟩ := zds (show 1 ≤ d by omega)
        refine g_Tape_placeOf _ _ _ ?_
        rw [zmul_eq (by omega) (by omega), zadd_eq (by omega) (by omega), x3, Int.mul_comm]
      have pre : ∀ r : zQ, ((if F 81 (q_x p h) = 0 then
                  zbV (zex d 146 [zR 52, zR 11, zI h, zI (F 82 (q_x p h))] (F, G, zsg)) (fun F5 G5 =>
                    some (none, F5, G5, zsg))
                else
                if F 81 (q_x p h) = 4 then
                  zbV (zex d 145 [zR 11, zI h, zI (F 82 (q_x p h))] (F, G, zsg)) (fun F4 G4 =>
                    some (none, F4, G4, zsg))
                else
                    zbI (zex d 138 [zR 52, zR 11, zI h, zI (F 81 (q_x p h)), zI (F 82 (q_x p h)), zI (F 83 (q_x p h))] (F, G, zsg)) (fun v2 F2 G2 =>
                      zbV (zex d 148 [zR 11, zI h, zI v2] (F2, G2, zsg)) (fun F3 G3 =>
                        some (none, F3, G3, zsg)))) = some r) → zex (d + 1) 144 [zR 52, zR 11, zI h] (F, G, zsg) = some r := by
        intro r hr
        refine g_Acts_tickHand h _ ?_
        rw [if_pos g2, f18, if_neg nneg, if_pos g2, if_pos g6, f19, t7, if_pos c1, pl, zbI_some, if_pos g72, if_pos g72, Int.toNat_natCast, x5, x6, x7, if_pos g72]
        exact hr
      unfold q_tick
      rw [if_neg c0, if_neg (fun q => q c1)]
      by_cases a4 : F 81 (q_x p h) = 4
      · rw [if_pos a4]
        obtain ⟨d, rfl⟩ := zds (show 1 ≤ d by omega)
        have S1 := hS.up (i := 9) (x := h.toNat) (z := 38 + h.toNat) (v := zadd (p (38 + h.toNat)) 1) (by decide) (Or.inr ⟨by decide, by omega, by omega⟩)
        by_cases c2 : zadd (p (38 + h.toNat)) 1 < F 82 (q_x p h)
        · rw [if_pos c2]
          refine ⟨_, G, pre _ ?_, S1, fun r _ hr => zup_row (by omega), fun _ _ _ => rfl⟩
          have W : zex (d + 1) 145 [zR 11, zI h, zI (F 82 (q_x p h))] (F, G, zsg) = some (none, zup F 20 h.toNat (zadd (p (38 + h.toNat)) 1), G, zsg) := by
            refine g_Acts_tickWait h _ _ ?_
            rw [if_pos g2, if_pos g2, if_pos g2, zup_eq, f20, if_pos c2]
          rw [if_neg (by omega), if_pos a4, W, zbV_some]
        · rw [if_neg c2]
          obtain ⟨F1, e1, e2, e3⟩ := s_endAct (d := d) (G := G) (by omega) S1 hh
          refine ⟨F1, G, pre _ ?_, e2, fun r _ hr => by rw [e3 r hr, zup_row (by omega)], fun _ _ _ => rfl⟩
          have W : zex (d + 1) 145 [zR 11, zI h, zI (F 82 (q_x p h))] (F, G, zsg) = some (none, F1, G, zsg) := by
            refine g_Acts_tickWait h _ _ ?_
            rw [if_pos g2, if_pos g2, if_pos g2, zup_eq, f20, if_neg c2, e1, zbV_some]
          rw [if_neg (by omega), if_pos a4, W, zbV_some]
      · rw [if_neg a4]
        by_cases a0 : F 81 (q_x p h) = 0
        · rw [if_pos a0]
          have hc := x8.2.1 a0
          obtain ⟨d, rfl⟩ := zds (show 1 ≤ d by omega)
          generalize F 82 (q_x p h) = c at *
          have fin : ∀ F1 G1, zex (d + 1) 146 [zR 52, zR 11, zI h, zI c] (F, G, zsg) = some (none, F1, G1, zsg) → zex (d + 1 + 1) 144 [zR 52, zR 11, zI h] (F, G, zsg) = some (none, F1, G1, zsg) := by
            intro F1 G1 W
            refine pre _ ?_
            rw [if_pos a0, W, zbV_some]
          by_cases c2 : p (28 + h.toNat) = c
          · rw [if_pos c2]
            obtain ⟨F1, e1, e2, e3⟩ := s_endAct (d := d) (G := G) (by omega) hS hh
            refine ⟨F1, G, fin _ _ (g_Acts_tickGo h c _ ?_), e2, fun r _ hr => e3 r hr, fun _ _ _ => rfl⟩
            rw [if_pos g2, f15, if_pos c2, e1, zbV_some]
          · rw [if_neg c2]
            obtain ⟨F1, G1, e1, e2, e3⟩ := s_firstStep (d := d) (by omega) hS hC hV hP hh hc c2
            have S1 : zSC 11 p F1 := hS.fr (fun k hk => e2 _ (by omega))
            have f21 : F1 21 h.toNat = p (40 + h.toNat) := (S1.hn hh).2.2.2.2.2.2
            by_cases c3 : q_first ρ p h c = -1
            · rw [if_pos c3]
              refine ⟨_, G1, fin _ _ (g_Acts_tickGo h c _ ?_), S1.up (i := 10) (x := h.toNat) (z := 40 + h.toNat) (v := zadd (p (40 + h.toNat)) 1) (by decide) (Or.inr ⟨by decide, by omega, by omega⟩), fun r r1 hr => by rw [zup_row (by omega), e2 r r1], e3⟩
              rw [if_pos g2, f15, if_neg c2, e1, zbI_some, c3, if_pos (by decide), if_pos g2, if_pos g2, f21]
            · rw [if_neg c3]
              obtain ⟨k1, k2, k3, k4, k5, k6⟩ := q_first_ok hP hh hc c2 c3
              obtain ⟨F2, m1, m2, m3⟩ := s_moveHand_11 (d := d) (G := G1) (by omega) S1 hV hP hh k4 k1 (f := 1) (fun ht => q_reach hV hP hh k1 (by omega) ht)
              rw [← q_step_eq k1 k5] at m2
              have S2 := m2.up (i := 10) (x := h.toNat) (z := 40 + h.toNat) (v := 0) (by decide) (Or.inr ⟨by decide, by omega, by omega⟩)
              by_cases c4 : q_first ρ p h c = c
              · rw [if_pos c4]
                obtain ⟨F3, n1, n2, n3⟩ := s_endAct (d := d) (G := G1) (by omega) S2 hh
                refine ⟨F3, G1, fin _ _ (g_Acts_tickGo h c _ ?_), n2, fun r r1 hr => by rw [n3 r hr, zup_row (by omega), m3 r hr, e2 r r1], e3⟩
                rw [if_pos g2, f15, if_neg c2, e1, zbI_some, if_neg (by omega), m1, zbV_some, if_pos g2, if_pos c4, n1, zbV_some]
              · rw [if_neg c4]
                refine ⟨_, G1, fin _ _ (g_Acts_tickGo h c _ ?_), S2, fun r r1 hr => by rw [zup_row (by omega), m3 r hr, e2 r r1], e3⟩
                rw [if_pos g2, f15, if_neg c2, e1, zbI_some, if_neg (by omega), m1, zbV_some, if_pos g2, if_neg c4]
        · rw [if_neg a0]
          obtain ⟨F1, G1, e1, e2, e3, e4⟩ := s_attempt_11 (d := d) (by omega) hS hC hV hP hh x8
          have e3 : ∀ r, r ≠ 44 → (r < 11 ∨ 21 < r) → F1 r = F r := e3
          have f21 : F1 21 h.toNat = (q_act ρ p h (F 81 (q_x p h)) (F 82 (q_x p h)) (F 83 (q_x p h))).2 (40 + h.toNat) := (e2.hn hh).2.2.2.2.2.2
          obtain ⟨d, rfl⟩ := zds (show 1 ≤ d by omega)
          by_cases c2 : (q_act ρ p h (F 81 (q_x p h)) (F 82 (q_x p h)) (F 83 (q_x p h))).1 = 0
          · rw [if_pos c2]
            obtain ⟨F2, n1, n2, n3⟩ := s_endAct (d := d) (G := G1) (by omega) e2 hh
            refine ⟨F2, G1, pre _ ?_, n2, fun r r1 hr => by rw [n3 r hr, e3 r r1 hr], e4⟩
            have W : zex (d + 1) 148 [zR 11, zI h, zI (q_act ρ p h (F 81 (q_x p h)) (F 82 (q_x p h)) (F 83 (q_x p h))).1] (F1, G1, zsg) = some (none, F2, G1, zsg) := by
              refine g_Acts_tickOther h _ _ ?_
              rw [if_pos c2, n1, zbV_some]
            rw [if_neg a0, if_neg a4, e1, zbI_some, W, zbV_some]
          · rw [if_neg c2]
            refine ⟨_, G1, pre _ ?_, e2.up (i := 10) (x := h.toNat) (z := 40 + h.toNat) (v := zadd ((q_act ρ p h (F 81 (q_x p h)) (F 82 (q_x p h)) (F 83 (q_x p h))).2 (40 + h.toNat)) 1) (by decide) (Or.inr ⟨by decide, by omega, by omega⟩), fun r r1 hr => by rw [zup_row (by omega), e3 r r1 hr], e4⟩
            have W : zex (d + 1) 148 [zR 11, zI h, zI (q_act ρ p h (F 81 (q_x p h)) (F 82 (q_x p h)) (F 83 (q_x p h))).1] (F1, G1, zsg) = some (none, zup F1 21 h.toNat (zadd ((q_act ρ p h (F 81 (q_x p h)) (F 82 (q_x p h)) (F 83 (q_x p h))).2 (40 + h.toNat)) 1), G1, zsg) := by
              refine g_Acts_tickOther h _ _ ?_
              rw [if_neg c2, if_pos g2, if_pos g2, f21]
            rw [if_neg a0, if_neg a4, e1, zbI_some, W, zbV_some]
    · unfold q_tick
      rw [if_neg c0, if_pos c1]
      refine ⟨_, G, g_Acts_tickHand h _ ?_, hS.up (i := 7) (x := h.toNat) (z := 34 + h.toNat) (v := -1) (by decide) (Or.inr ⟨by decide, by omega, by omega⟩), fun r _ hr => zup_row (by omega), fun _ _ _ => rfl⟩
      rw [if_pos g2, f18, if_neg nneg, if_pos g2, if_pos g6, f19, t7, if_neg c1, if_pos g2]
end
