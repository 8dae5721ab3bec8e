/-! one hand's tick in the reference -/
section
variable {d : Nat} {F ρ ρ' : zM} {G : zG} {p p' : Nat → Int}
theorem m_steps (hd : 6 ≤ d) (hR : zMR ρ F) (hp : F 72 = p) (hV : zRv ρ) (hP : zPv ρ p) {h c : Int} (hh : h = 0 ∨ h = 1) (hc : 0 ≤ c ∧ c < 64) (hne : p (28 + h.toNat) ≠ c) : ∃ F', zex d 111 [zR 71, zI h, zI c] (F, G, zsg) = some (some (zI (if q_first ρ p h c = -1 then 0 else 1)), F', G, zsg) ∧ F' 72 = (if q_first ρ p h c = -1 then p else (q_act ρ p h 0 (q_first ρ p h c) 0).2) ∧ (∀ r, r ≠ 72 → r ≠ 99 → r ≠ 100 → F' r = F r) := by
  obtain ⟨d, rfl⟩ := zds (show 1 ≤ d by omega)
  have z28 : zadd 28 h = 28 + h := zadd_eq (by omega) (by omega)
  have z32 : zadd 32 h = 32 + h := zadd_eq (by omega) (by omega)
  have t28 : (28 + h).toNat = 28 + h.toNat := by omega
  have t32 : (32 + h).toNat = 32 + h.toNat := by omega
  have g28 : 0 ≤ 28 + h ∧ 28 + h < 43 := by omega
  have g32 : 0 ≤ 32 + h ∧ 32 + h < 43 := by omega
  have hb := hP.2.2.1 h.toNat (by omega)
  have hcr := hP.2.1 h.toNat (by omega)
  have hn8 := hV.1.2
  by_cases h0 : p (28 + h.toNat) = -1
  · have hq : q_first ρ p h c = -1 := by unfold q_first; rw [if_pos (Or.inl h0)]
    rw [if_pos hq, if_pos hq]
    refine ⟨F, g_M_steps h c _ ?_, hp, fun _ _ _ _ => rfl⟩
    rw [z28, t28, if_pos g28, hp, if_pos h0]
  · have ha := n_acell hP hh h0
    obtain ⟨F1, e1, e2, e3⟩ := m_spreadsNow (d := d) (G := G) (by omega) hR hp hV hP.1 hh (by omega) hb
    have hr := q_far_r (T := n_T ρ p h) (S := n_S ρ p h) (a := n_a p h) (c := c)
    have hF1 : F1 99 c.toNat = zfo (q_far (n_T ρ p h) (n_S ρ p h) (n_a p h) c) := by rw [e3 _ (by omega), Int.toNat_of_nonneg hc.1]
    have hp1 : F1 72 = p := by rw [e2 72 (by decide) (by decide)]; exact hp
    have hR1 : zMR ρ F1 := hR.w (fun r _ r2 r3 => e2 r r2 r3)
    by_cases hq : q_far (n_T ρ p h) (n_S ρ p h) (n_a p h) c = -1
    · have hq1 : q_first ρ p h c = -1 := by unfold q_first; rw [if_pos (Or.inr hq)]
      rw [if_pos hq1, if_pos hq1]
      refine ⟨F1, g_M_steps h c _ ?_, hp1, fun r _ r2 r3 => e2 r r2 r3⟩
      rw [z28, t28, if_pos g28, hp, if_neg h0, e1, zbV_some, if_pos hc, hF1, if_pos ((zfo_1000 hr).mpr hq)]
    · have hqb : q_first ρ p h c = q_back (n_T ρ p h) (n_S ρ p h) (n_a p h) (q_far (n_T ρ p h) (n_S ρ p h) (n_a p h) c - 1).toNat (q_far (n_T ρ p h) (n_S ρ p h) (n_a p h) c).toNat c := by
        unfold q_first
        rw [if_neg (fun q => q.elim h0 hq)]
      have hL := q_far_L hq
      have h1f : 1 ≤ q_far (n_T ρ p h) (n_S ρ p h) (n_a p h) c := by
        rcases Int.lt_or_le (q_far (n_T ρ p h) (n_S ρ p h) (n_a p h) c) 1 with q | q
        · have : q_far (n_T ρ p h) (n_S ρ p h) (n_a p h) c = 0 := by omega
          rw [this] at hL
          exact absurd hL.symm hne
        · exact q
      have hbk := q_B_cell ha n_S_cell (q_L_B (q_back_L (T := n_T ρ p h) (S := n_S ρ p h) (a := n_a p h) (m := (q_far (n_T ρ p h) (n_S ρ p h) (n_a p h) c - 1).toNat) (k := (q_far (n_T ρ p h) (n_S ρ p h) (n_a p h) c).toNat) (by omega) hL))
      have hqn : q_first ρ p h c ≠ -1 := by rw [hqb]; omega
      obtain ⟨k1, k2, k3, k4, k5, k6⟩ := q_first_ok hP hh hc hne hqn
      rw [if_neg hqn, if_neg hqn, q_step_eq k1 k5]
      obtain ⟨F2, m1, m2, m3⟩ := m_comesTo (d := d) (G := G) (by omega) hR1 hp1 hV hh k4 hb
      have hF2 : F2 72 (32 + h.toNat) = p (32 + h.toNat) := by
        rw [m2]
        split
        · rw [zu_ne (by omega)]
        · rw [zu_ne (by omega), zu_ne (by omega)]
      refine ⟨zup F2 72 (32 + h.toNat) (zadd (p (32 + h.toNat)) 1), g_M_steps h c _ ?_, ?_, fun r r1 r2 r3 => by rw [zup_row r1, m3 r r1, e2 r r2 r3]⟩
      · rw [z28, t28, if_pos g28, hp, if_neg h0, e1, zbV_some, if_pos hc, hF1, if_neg (fun q => hq ((zfo_1000 hr).mp q)), m_cellOn (by omega) hR1 hp1 hh (by omega) Iff.rfl ha n_S_cell e3 hc.1 hc.2 (by decide) hq h1f, zbI_some, ← hqb, m1, zbV_some, z32, t32, if_pos g32, if_pos g32, hF2]
      · rw [zup_fn, m2]
        unfold q_move
        by_cases ht : p (30 + h.toNat) = -1
        · rw [if_pos ht, if_pos ht]
        · rw [if_neg ht, if_neg ht]
          rw [zu_comm (x := 28 + h.toNat) (by omega)]
theorem q_end_t {p : Nat → Int} {h v w : Int} (n : Nat) (hn : n = h.toNat) : zu (zu (zu (zu (zu p (38 + n) v) (40 + n) w) (36 + n) (zadd (p (36 + n)) 1)) (38 + n) 0) (40 + n) 0 = q_end (zu p (38 + h.toNat) v) h := by
  subst hn
  funext j
  unfold q_end
  simp only [zu]
  repeat' split
  all_goals first
    | rfl
    | (exfalso; omega)
theorem q_end_s {p : Nat → Int} {h w : Int} (n : Nat) (hn : n = h.toNat) : zu (zu (zu (zu p (40 + n) w) (36 + n) (zadd (p (36 + n)) 1)) (38 + n) 0) (40 + n) 0 = q_end p h := by
  subst hn
  funext j
  unfold q_end
  simp only [zu]
  repeat' split
  all_goals first
    | rfl
    | (exfalso; omega)
def zt40 (F : zM) (n : Nat) (w : Int) : zM := zup F 72 (40 + n) (zadd (F 72 (40 + n)) w)
def ztend (F : zM) (n : Nat) : zM := zup (zup (zup F 72 (36 + n) (zadd (F 72 (36 + n)) 1)) 72 (38 + n) 0) 72 (40 + n) 0
theorem zt40_row {F : zM} {n r : Nat} {w : Int} (h : r ≠ 72) : zt40 F n w r = F r := zup_row h
theorem ztend_row {F : zM} {n r : Nat} (h : r ≠ 72) : ztend F n r = F r := by unfold ztend; rw [zup_row h, zup_row h, zup_row h]
theorem zt40_72 {F : zM} {n : Nat} {w : Int} : zt40 F n w 72 = zu (F 72) (40 + n) (zadd (F 72 (40 + n)) w) := by unfold zt40; rw [zup_fn]
theorem ztend_72 {F : zM} {h : Int} {n : Nat} (hn : n = h.toNat) : ztend F n 72 = q_end (F 72) h := by
  subst hn
  unfold ztend q_end
  rw [zup_fn, zup_fn, zup_fn]
theorem q_end_40 {p : Nat → Int} {h w : Int} {n : Nat} (hn : n = h.toNat) : q_end (zu p (40 + n) w) h = q_end p h := by
  subst hn
  funext j
  unfold q_end
  simp only [zu]
  repeat' split
  all_goals first
    | rfl
    | (exfalso; omega)
theorem zu_zu {p : Nat → Int} {x : Nat} {v w : Int} : zu (zu p x v) x w = zu p x w := by
  funext j
  simp only [zu]
  split <;> rfl
theorem zu_id {p : Nat → Int} {x : Nat} {v : Int} (h : p x = v) : zu p x v = p := by
  funext j
  simp only [zu]
  split
  · rename_i q
    rw [q, h]
  · rfl
theorem m_ticks (hd : 8 ≤ d) (hR : zMR ρ F) (hp : F 72 = p) (hV : zRv ρ) (hP : zPv ρ p) (T : zTp F) (gr : zGr F p) {h : Int} (hh : h = 0 ∨ h = 1) (h0 : p (34 + h.toNat) ≠ -1) : ∃ F', zex d 112 [zR 71, zI h] (F, G, zsg) = some (none, F', G, zsg) ∧ F' 72 = q_tick ρ (F 80) (F 81) (F 82) (F 83) p h ∧ (∀ r, r ≠ 72 → r ≠ 99 → r ≠ 100 → F' r = F r) := by
  obtain ⟨d, rfl⟩ := zds (show 1 ≤ d by omega)
  have z28 : zadd 28 h = 28 + h := zadd_eq (by omega) (by omega)
  have z34 : zadd 34 h = 34 + h := zadd_eq (by omega) (by omega)
  have z36 : zadd 36 h = 36 + h := zadd_eq (by omega) (by omega)
  have z38 : zadd 38 h = 38 + h := zadd_eq (by omega) (by omega)
  have z40 : zadd 40 h = 40 + h := zadd_eq (by omega) (by omega)
  have t28 : (28 + h).toNat = 28 + h.toNat := by omega
  have t34 : (34 + h).toNat = 34 + h.toNat := by omega
  have t36 : (36 + h).toNat = 36 + h.toNat := by omega
  have t38 : (38 + h).toNat = 38 + h.toNat := by omega
  have t40 : (40 + h).toNat = 40 + h.toNat := by omega
  have g28 : 0 ≤ 28 + h ∧ 28 + h < 43 := by omega
  have g34 : 0 ≤ 34 + h ∧ 34 + h < 43 := by omega
  have g36 : 0 ≤ 36 + h ∧ 36 + h < 43 := by omega
  have g38 : 0 ≤ 38 + h ∧ 38 + h < 43 := by omega
  have g40 : 0 ≤ 40 + h ∧ 40 + h < 43 := by omega
  obtain ⟨r1, r2, r3, r4⟩ := gr h.toNat (by omega)
  have r3 := r3 h0
  have t4 := T.2.2.2.1
  have g6 : 0 ≤ p (34 + h.toNat) ∧ p (34 + h.toNat) < 6 := by omega
  have b0 : zadd (p (40 + h.toNat)) 0 = p (40 + h.toNat) := by rw [zadd_eq (by omega) (by omega)]; omega
  unfold q_tick
  rw [if_neg h0]
  by_cases c1 : p (36 + h.toNat) < F 80 (p (34 + h.toNat)).toNat
  · obtain ⟨x1, x2, x3, x4, x5, x6, x7, x8⟩ := q_x_eq T gr hh h0 c1
    have g72 : 0 ≤ ((q_x p h : Nat) : Int) ∧ ((q_x p h : Nat) : Int) < 72 := by omega
    have hx : zadd (zmul 12 (p (34 + h.toNat))) (p (36 + h.toNat)) = ((q_x p h : Nat) : Int) := by
      rw [zmul_eq (by omega) (by omega), zadd_eq (by omega) (by omega), x3]
    have ne1 : ¬ p (36 + h.toNat) = F 80 (p (34 + h.toNat)).toNat := by omega
    rw [if_neg (fun q => q c1)]
    by_cases a4 : F 81 (q_x p h) = 4
    · rw [if_pos a4]
      by_cases c2 : zadd (p (38 + h.toNat)) 1 < F 82 (q_x p h)
      · rw [if_pos c2]
        refine ⟨zt40 (zup F 72 (38 + h.toNat) (zadd (p (38 + h.toNat)) 1)) h.toNat 0, g_M_ticks h _ ?_, ?_, fun r q1 _ _ => by rw [zt40_row q1, zup_row q1]⟩
        · simp only [z34, z36, z38, z40, t34, t36, t38, t40, if_pos g34, if_pos g36, if_pos g38, if_pos g40, hp, if_pos g6, if_neg ne1, hx, if_pos g72, Int.toNat_natCast, if_pos a4, zup_eq, if_pos c2]
          rfl
        · rw [zt40_72, zup_fn, hp, zu_ne (show 40 + h.toNat ≠ 38 + h.toNat by omega), b0]
          exact zu_id (zu_ne (by omega))
      · rw [if_neg c2]
        refine ⟨ztend (zt40 (zup F 72 (38 + h.toNat) (zadd (p (38 + h.toNat)) 1)) h.toNat 0) h.toNat, g_M_ticks h _ ?_, ?_, fun r q1 _ _ => by rw [ztend_row q1, zt40_row q1, zup_row q1]⟩
        · simp only [z34, z36, z38, z40, t34, t36, t38, t40, if_pos g34, if_pos g36, if_pos g38, if_pos g40, hp, if_pos g6, if_neg ne1, hx, if_pos g72, Int.toNat_natCast, if_pos a4, zup_eq, if_neg c2]
          rfl
        · rw [ztend_72 rfl, zt40_72, q_end_40 rfl, zup_fn, hp]
    · rw [if_neg a4]
      by_cases a0 : F 81 (q_x p h) = 0
      · rw [if_pos a0]
        have hc := x8.2.1 a0
        by_cases c2 : p (28 + h.toNat) = F 82 (q_x p h)
        · rw [if_pos c2]
          refine ⟨ztend (zt40 (zup F 72 (40 + h.toNat) 0) h.toNat 0) h.toNat, g_M_ticks h _ ?_, ?_, fun r q1 _ _ => by rw [ztend_row q1, zt40_row q1, zup_row q1]⟩
          · simp only [z28, z34, z36, z38, z40, t28, t34, t36, t38, t40, if_pos g28, if_pos g34, if_pos g36, if_pos g38, if_pos g40, hp, if_pos g6, if_neg ne1, hx, if_pos g72, Int.toNat_natCast, if_neg a4, if_pos a0, if_pos c2]
            rfl
          · rw [ztend_72 rfl, zt40_72, q_end_40 rfl, zup_fn, hp, q_end_40 rfl]
        · rw [if_neg c2]
          obtain ⟨F1, e1, e2, e3⟩ := m_steps (d := d) (G := G) (by omega) hR hp hV hP hh hc c2
          have e82 : F1 82 = F 82 := e3 82 (by decide) (by decide) (by decide)
          by_cases c3 : q_first ρ p h (F 82 (q_x p h)) = -1
          · rw [if_pos c3] at e1 e2
            rw [if_pos c3]
            refine ⟨zt40 (zup F1 72 (40 + h.toNat) (F1 72 (40 + h.toNat))) h.toNat 1, g_M_ticks h _ ?_, ?_, fun r q1 q2 q3 => by rw [zt40_row q1, zup_row q1, e3 r q1 q2 q3]⟩
            · simp only [z28, z34, z36, z38, z40, t28, t34, t36, t38, t40, if_pos g28, if_pos g34, if_pos g36, if_pos g38, if_pos g40, hp, if_pos g6, if_neg ne1, hx, if_pos g72, Int.toNat_natCast, if_neg a4, if_pos a0, if_neg c2, e1, zbI_some, if_pos (Eq.refl (0 : Int)), e2, e82]
              rw [← e2]
              rfl
            · rw [zt40_72, zup_fn, e2, zu_id (p := p) rfl]
          · rw [if_neg c3] at e1 e2
            rw [if_neg c3]
            obtain ⟨k1, k2, k3, k4, k5, k6⟩ := q_first_ok hP hh hc c2 c3
            have e28 : F1 72 (28 + h.toNat) = q_first ρ p h (F 82 (q_x p h)) := by
              rw [e2, q_step_eq k1 k5]
              unfold q_move
              have hb := hP.2.2.1 h.toNat (by omega)
              have hn8 := hV.1.2
              split
              · rw [zu_ne (by omega), zu_eq]
              · rw [zu_ne (by omega), zu_eq]
            by_cases c4 : q_first ρ p h (F 82 (q_x p h)) = F 82 (q_x p h)
            · rw [if_pos c4]
              have c5 : F1 72 (28 + h.toNat) = F 82 (q_x p h) := e28.trans c4
              refine ⟨ztend (zt40 (zup F1 72 (40 + h.toNat) 0) h.toNat 0) h.toNat, g_M_ticks h _ ?_, ?_, fun r q1 q2 q3 => by rw [ztend_row q1, zt40_row q1, zup_row q1, e3 r q1 q2 q3]⟩
              · simp only [z28, z34, z36, z38, z40, t28, t34, t36, t38, t40, if_pos g28, if_pos g34, if_pos g36, if_pos g38, if_pos g40, hp, if_pos g6, if_neg ne1, hx, if_pos g72, Int.toNat_natCast, if_neg a4, if_pos a0, if_neg c2, e1, zbI_some, if_neg (show ¬ (1 : Int) = 0 by decide), e82, if_pos c5]
                rfl
              · rw [ztend_72 rfl, zt40_72, q_end_40 rfl, zup_fn, e2]
            · rw [if_neg c4]
              have c5 : ¬ F1 72 (28 + h.toNat) = F 82 (q_x p h) := fun q => c4 (e28.symm.trans q)
              refine ⟨zt40 (zup F1 72 (40 + h.toNat) 0) h.toNat 0, g_M_ticks h _ ?_, ?_, fun r q1 q2 q3 => by rw [zt40_row q1, zup_row q1, e3 r q1 q2 q3]⟩
              · simp only [z28, z34, z36, z38, z40, t28, t34, t36, t38, t40, if_pos g28, if_pos g34, if_pos g36, if_pos g38, if_pos g40, hp, if_pos g6, if_neg ne1, hx, if_pos g72, Int.toNat_natCast, if_neg a4, if_pos a0, if_neg c2, e1, zbI_some, if_neg (show ¬ (1 : Int) = 0 by decide), e82, if_neg c5]
                rfl
              · rw [zt40_72, zup_fn, zu_eq, zu_zu, e2]
                rfl
      · rw [if_neg a0]
        obtain ⟨F1, e1, e2, e3⟩ := m_does (d := d) (G := G) (x := ((q_x p h : Nat) : Int)) (by omega) hR hp hV hP hh g72 (by rw [Int.toNat_natCast]; exact x8)
        rw [Int.toNat_natCast] at e1 e2
        have k40 : (q_act ρ p h (F 81 (q_x p h)) (F 82 (q_x p h)) (F 83 (q_x p h))).2 (40 + h.toNat) = p (40 + h.toNat) := q_act_keep hV hP hh x8 _ (by omega)
        by_cases c2 : (q_act ρ p h (F 81 (q_x p h)) (F 82 (q_x p h)) (F 83 (q_x p h))).1 = 0
        · rw [if_pos c2]
          refine ⟨ztend (zt40 F1 h.toNat 0) h.toNat, g_M_ticks h _ ?_, ?_, fun r q1 q2 q3 => by rw [ztend_row q1, zt40_row q1, e3 r q1 q2 q3]⟩
          · simp only [z28, z34, z36, z38, z40, t28, t34, t36, t38, t40, if_pos g28, if_pos g34, if_pos g36, if_pos g38, if_pos g40, hp, if_pos g6, if_neg ne1, hx, if_pos g72, Int.toNat_natCast, if_neg a4, if_neg a0, e1, zbI_some, if_pos c2]
            rfl
          · rw [ztend_72 rfl, zt40_72, q_end_40 rfl, e2]
        · rw [if_neg c2]
          refine ⟨zt40 F1 h.toNat 1, g_M_ticks h _ ?_, ?_, fun r q1 q2 q3 => by rw [zt40_row q1, e3 r q1 q2 q3]⟩
          · simp only [z28, z34, z36, z38, z40, t28, t34, t36, t38, t40, if_pos g28, if_pos g34, if_pos g36, if_pos g38, if_pos g40, hp, if_pos g6, if_neg ne1, hx, if_pos g72, Int.toNat_natCast, if_neg a4, if_neg a0, e1, zbI_some, if_neg c2]
            rfl
          · rw [zt40_72, e2]
  · rw [if_pos c1]
    refine ⟨zup F 72 (34 + h.toNat) (-1), g_M_ticks h _ ?_, by rw [zup_fn, hp], fun r q1 _ _ => zup_row q1⟩
    have eq1 : p (36 + h.toNat) = F 80 (p (34 + h.toNat)).toNat := by omega
    rw [z34, z36, t34, t36, if_pos g34, if_pos g36, hp, if_pos g6, if_pos eq1, if_pos g34]
end
