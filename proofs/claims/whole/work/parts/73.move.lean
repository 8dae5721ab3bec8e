/-! how far a move of a plan is, on both sides -/
noncomputable def q_m1 (ρ : zM) (p : Nat → Int) (h : Int) (c : Int) : Int := q_far (q_T ρ (-1)) (q_S ρ p h (q_but (-1)) (-1) (-1)) (p (28 + h.toNat)) c
noncomputable def q_m2 (ρ : zM) (p : Nat → Int) (h t s a c : Int) : Int := q_far (q_T ρ t) (q_S ρ p h (q_but t) t s) a c
noncomputable def q_mv (ρ : zM) (p : Nat → Int) (h t s c : Int) : Int :=
  if p t.toNat = -1 ∨ ¬ q_hf (ρ 78 t.toNat) s = true ∨ ρ 71 11 < q_wt (ρ 78 t.toNat) (ρ 79 t.toNat) ∨ 8 < c % 8 + ρ 79 t.toNat ∨ q_handFor (p t.toNat) s (ρ 79 t.toNat) = -1 ∨ q_handFor c s (ρ 79 t.toNat) = -1 ∨
    q_m1 ρ p h (q_handFor (p t.toNat) s (ρ 79 t.toNat)) = -1 ∨ q_m2 ρ p h t s (q_handFor (p t.toNat) s (ρ 79 t.toNat)) (q_handFor c s (ρ 79 t.toNat)) = -1 then -1
  else q_m1 ρ p h (q_handFor (p t.toNat) s (ρ 79 t.toNat)) + q_m2 ρ p h t s (q_handFor (p t.toNat) s (ρ 79 t.toNat)) (q_handFor c s (ρ 79 t.toNat))
section
variable {d : Nat} {F ρ : zM} {G : zG} {p : Nat → Int} {h t s c : Int}
theorem q_mv_r : -1 ≤ q_mv ρ p h t s c ∧ q_mv ρ p h t s c ≤ 126 := by
  unfold q_mv
  split
  · omega
  · rename_i q
    have q1 : ¬ q_m1 ρ p h (q_handFor (p t.toNat) s (ρ 79 t.toNat)) = -1 := fun r => q (Or.inr (Or.inr (Or.inr (Or.inr (Or.inr (Or.inr (Or.inl r)))))))
    have q2 : ¬ q_m2 ρ p h t s (q_handFor (p t.toNat) s (ρ 79 t.toNat)) (q_handFor c s (ρ 79 t.toNat)) = -1 := fun r => q (Or.inr (Or.inr (Or.inr (Or.inr (Or.inr (Or.inr (Or.inr r)))))))
    have r1 : -1 ≤ q_m1 ρ p h (q_handFor (p t.toNat) s (ρ 79 t.toNat)) ∧ q_m1 ρ p h (q_handFor (p t.toNat) s (ρ 79 t.toNat)) < 64 := q_far_r
    have r2 : -1 ≤ q_m2 ρ p h t s (q_handFor (p t.toNat) s (ρ 79 t.toNat)) (q_handFor c s (ρ 79 t.toNat)) ∧ q_m2 ρ p h t s (q_handFor (p t.toNat) s (ρ 79 t.toNat)) (q_handFor c s (ρ 79 t.toNat)) < 64 := q_far_r
    omega
/-- what a move can't be without -/
theorem q_mv_ok (hq : q_mv ρ p h t s c ≠ -1) : p t.toNat ≠ -1 ∧ c % 8 + ρ 79 t.toNat ≤ 8 ∧ q_handFor c s (ρ 79 t.toNat) ≠ -1 := by
  unfold q_mv at hq
  split at hq
  · exact absurd rfl hq
  · rename_i q
    refine ⟨fun r => q (Or.inl r), ?_, fun r => q (Or.inr (Or.inr (Or.inr (Or.inr (Or.inr (Or.inl r))))))⟩
    rcases Int.lt_or_le 8 (c % 8 + ρ 79 t.toNat) with r | r
    · exact absurd (Or.inr (Or.inr (Or.inr (Or.inl r)))) q
    · exact r
/-- a hand that holds it there holds it in the room -/
theorem q_m2_in (hV : zRv ρ) (hA : zPa ρ p) (ht : 0 ≤ t ∧ t < ρ 71 8) (hc : 0 ≤ c ∧ c < 64) (h1 : p t.toNat ≠ -1) (h2 : q_handFor (p t.toNat) s (ρ 79 t.toNat) ≠ -1) (h3 : q_handFor c s (ρ 79 t.toNat) ≠ -1) (h4 : q_m2 ρ p h t s (q_handFor (p t.toNat) s (ρ 79 t.toNat)) (q_handFor c s (ρ 79 t.toNat)) ≠ -1) : c % 8 + ρ 79 t.toNat ≤ 8 := by
  have hn8 := hV.1.2
  have ha := hA t.toNat (by omega)
  have hL := q_far_L h4
  generalize (q_far (q_T ρ t) (q_S ρ p h (q_but t) t s) (q_handFor (p t.toNat) s (ρ 79 t.toNat)) (q_handFor c s (ρ 79 t.toNat))).toNat = k at hL
  cases k with
  | zero =>
    have e : q_handFor c s (ρ 79 t.toNat) = q_handFor (p t.toNat) s (ρ 79 t.toNat) := hL
    unfold q_handFor q_at at e h2 h3
    generalize q_ex s (ρ 79 t.toNat) = x at *
    generalize q_sy s = y at *
    split at h2
    · split at h3
      · rename_i g1 g2
        rw [if_pos g1, if_pos g2] at e
        omega
      · exact absurd rfl h3
    · exact absurd rfl h2
  | succ k =>
    have hS := (q_L_pred hL).1
    have hg := (hS.2.2 (by omega)).1
    unfold q_heldAt at hg
    split at hg
    · rename_i g1
      unfold q_handFor q_at at g1 h3
      generalize q_ex s (ρ 79 t.toNat) = x at *
      generalize q_sy s = y at *
      split at h3
      · rename_i g2
        rw [if_pos g2] at g1
        omega
      · exact absurd rfl h3
    · exact absurd rfl hg
theorem m_handFor (hd : 2 ≤ d) {f w : Int} (h1 : 0 ≤ f) (h2 : f < 64) (h3 : 0 ≤ w) (h4 : w ≤ 2) : zex d 115 [zI f, zI s, zI w] (F, G, zsg) = some (some (zI (q_handFor f s w)), F, G, zsg) := by
  obtain ⟨d, rfl⟩ := zds (show 1 ≤ d by omega)
  have key : ∀ X Y : Int, (-9 ≤ X ∧ X ≤ 20) → (-9 ≤ Y ∧ Y ≤ 20) → zbI (zex d 49 [zI X, zI 0, zI 7] (F, G, zsg)) (fun v1 F1 G1 => if v1 = 0 then some (some (zI (-1)), F1, G1, zsg) else zbI (zex d 49 [zI Y, zI 0, zI 7] (F1, G1, zsg)) (fun v2 F2 G2 => if v2 = 0 then some (some (zI (-1)), F2, G2, zsg) else some (some (zI (zadd (zmul 8 Y) X)), F2, G2, zsg))) = some (some (zI (q_at X Y)), F, G, zsg) := by
    intro X Y hX hY
    rw [m_in (by omega), zbI_some]
    unfold q_at
    by_cases c1 : 0 ≤ X ∧ X ≤ 7
    · rw [zp_t c1, if_neg (by decide), m_in (by omega), zbI_some]
      by_cases c2 : 0 ≤ Y ∧ Y ≤ 7
      · rw [zp_t c2, if_neg (by decide), if_pos (by omega), zmul_eq (by omega) (by omega), zadd_eq (by omega) (by omega)]
      · rw [zp_f c2, if_pos rfl, if_neg (by omega)]
    · rw [zp_f c1, if_pos rfl, if_neg (by omega)]
  have hq : ∀ X Y, X = f % 8 - q_ex s w → Y = f / 8 - q_sy s → q_at X Y = q_handFor f s w := by
    rintro _ _ rfl rfl
    rfl
  refine g_M_handFor f s w _ ?_
  rw [zrem_eq h1 (by omega) (by omega) (by omega), zdiv_eq h1 (by omega) (by omega) (by omega), zadd_eq (x := f % 8) (y := w) (by omega) (by omega), zadd_eq (x := f % 8) (y := -1) (by omega) (by omega), zadd_eq (x := f % 8) (y := 0) (by omega) (by omega), zadd_eq (x := f / 8) (y := -1) (by omega) (by omega), zadd_eq (x := f / 8) (y := 1) (by omega) (by omega), zadd_eq (x := f / 8) (y := 0) (by omega) (by omega)]
  repeat' split
  all_goals first
    | (exfalso; omega)
    | rw [key _ _ (by omega) (by omega), hq _ _ (by unfold q_ex; repeat' split; all_goals omega) (by unfold q_sy; repeat' split; all_goals omega)]
theorem s_canBeHeld (hd : 2 ≤ d) (hC : zCR ρ F G) (hV : zRv ρ) (ht : 0 ≤ t ∧ t < ρ 71 8) (hs : 0 ≤ s ∧ s < 4) : zex d 193 [zR 6, zI t, zI s] (F, G, zsg) = some (some (zI (zp (q_hf (ρ 78 t.toNat) s = true ∧ q_wt (ρ 78 t.toNat) (ρ 79 t.toNat) ≤ ρ 71 11))), F, G, zsg) := by
  obtain ⟨d, rfl⟩ := zds (show 1 ≤ d by omega)
  have hn8 := hV.1.2
  have hk := hV.2.2.2.1 t.toNat (by omega)
  have hw := hV.2.2.2.2.1 t.toNat (by omega)
  have g8 : 0 ≤ t ∧ t < 8 := by omega
  refine g_Room_canBeHeld t s _ ?_
  rw [if_pos g8, hC.2.2.2.1, s_isHeldFrom (by omega) hk.1 hk.2 hs.1 (by omega), zbI_some]
  split
  · rename_i q
    rw [zp_0] at q
    rw [zp_f (fun r => q r.1)]
  · rename_i q
    rw [zp_0, Classical.not_not] at q
    rw [hC.2.2.2.1, hC.2.2.2.2.1, s_weightOf (by omega) hw.1 hw.2, zbI_some, hC.2.1]
    split
    · rw [zp_f (fun r => by have := r.2; omega)]
    · rw [zp_t ⟨q, by omega⟩]
theorem s_mv (hd : 4 ≤ d) (hS : zSC 22 p F) (hC : zCR ρ F G) (hV : zRv ρ) (hA : zPa ρ p) (hr : zHr p) (hh : h = 0 ∨ h = 1) (h6 : F 60 6 = h) (hc1 : p (28 + h.toNat) ≠ -1) (ht : 0 ≤ t ∧ t < ρ 71 8) (hs : 0 ≤ s ∧ s < 4) (hc : 0 ≤ c ∧ c < 64) :
    ∃ F' G', zex d 188 [zR 60, zI t, zI s, zI c, zL (zset (q_tk ρ p h (q_but t)))] (F, G, zsg) = some (some (zI (q_mv ρ p h t s c)), F', G', zsg) ∧ (∀ r, r ≠ 44 → F' r = F r) ∧ (∀ r, r ≠ 44 → r ≠ 45 → G' r = G r) := by
  obtain ⟨d, rfl⟩ := zds (show 1 ≤ d by omega)
  have hn8 := hV.1.2
  have g8 : 0 ≤ t ∧ t < 8 := by omega
  have hw := hV.2.2.2.2.1 t.toNat (by omega)
  have e23 : F 23 t.toNat = p t.toNat := (hS.at g8.1 g8.2).1
  have e26 : F 26 h.toNat = p (28 + h.toNat) := (hS.hn hh).1
  have ha := hA.r (show t.toNat < 8 by omega)
  have hhr := hr h.toNat (by omega)
  have hb := s_canBeHeld (d := d) (G := G) (by omega) hC hV ht hs
  have no : (p t.toNat = -1 ∨ ¬ q_hf (ρ 78 t.toNat) s = true ∨ ρ 71 11 < q_wt (ρ 78 t.toNat) (ρ 79 t.toNat) ∨ 8 < c % 8 + ρ 79 t.toNat ∨ q_handFor (p t.toNat) s (ρ 79 t.toNat) = -1 ∨ q_handFor c s (ρ 79 t.toNat) = -1 ∨
    q_m1 ρ p h (q_handFor (p t.toNat) s (ρ 79 t.toNat)) = -1 ∨ q_m2 ρ p h t s (q_handFor (p t.toNat) s (ρ 79 t.toNat)) (q_handFor c s (ρ 79 t.toNat)) = -1) → q_mv ρ p h t s c = -1 := fun q => by unfold q_mv; rw [if_pos q]
  by_cases c1 : p t.toNat = -1
  · refine ⟨F, G, g_Planner_farOfMove t s c _ _ ?_, fun _ _ => rfl, fun _ _ _ => rfl⟩
    rw [if_pos g8, if_pos g8, e23, if_pos (by omega), no (Or.inl c1)]
  · by_cases c2 : q_hf (ρ 78 t.toNat) s = true ∧ q_wt (ρ 78 t.toNat) (ρ 79 t.toNat) ≤ ρ 71 11
    · have f1 := s_handCell (d := d) (F := F) (G := G) (s := s) (by omega) (show 0 ≤ p t.toNat by omega) ha.2 hw.1 hw.2
      have f2 := s_handCell (d := d) (F := F) (G := G) (s := s) (by omega) hc.1 hc.2 hw.1 hw.2
      have r1 := q_handFor_r (p t.toNat) s (ρ 79 t.toNat)
      have r2 := q_handFor_r c s (ρ 79 t.toNat)
      by_cases c3 : q_handFor (p t.toNat) s (ρ 79 t.toNat) = -1
      · refine ⟨F, G, g_Planner_farOfMove t s c _ _ ?_, fun _ _ => rfl, fun _ _ _ => rfl⟩
        rw [if_pos g8, if_pos g8, e23, if_neg (by omega), hb, zbI_some, zp_t c2, if_neg (by decide), hC.2.2.2.2.1, f1, zbI_some, f2, zbI_some, if_pos (by omega), no (Or.inr (Or.inr (Or.inr (Or.inr (Or.inl c3)))))]
      · by_cases c4 : q_handFor c s (ρ 79 t.toNat) = -1
        · refine ⟨F, G, g_Planner_farOfMove t s c _ _ ?_, fun _ _ => rfl, fun _ _ _ => rfl⟩
          rw [if_pos g8, if_pos g8, e23, if_neg (by omega), hb, zbI_some, zp_t c2, if_neg (by decide), hC.2.2.2.2.1, f1, zbI_some, f2, zbI_some, if_neg (by omega), if_pos (by omega), no (Or.inr (Or.inr (Or.inr (Or.inr (Or.inr (Or.inl c4))))))]
        · have hrow := s_row (d := d) (F := F) (G := G) (by omega) (f := p t.toNat) (w := ρ 79 t.toNat) ha hw
          obtain ⟨F5, G5, k1, k2, k3, k4⟩ := s_flood (d := d) (F := F) (G := G) (ρ := ρ) (by omega) hC hV (a := p (28 + h.toNat)) (t := -1) (side := 0) (K := fun c => q_tk ρ p h (q_but t) c ∨ q_rw (p t.toNat) (ρ 79 t.toNat) c) (by omega) (by omega)
          have hSK : q_SK ρ (fun c => q_tk ρ p h (q_but t) c ∨ q_rw (p t.toNat) (ρ 79 t.toNat) c) (-1) 0 = q_S ρ p h (q_but (-1)) (-1) (-1) := by
            funext x
            have hk : (q_tk ρ p h (q_but t) x ∨ q_rw (p t.toNat) (ρ 79 t.toNat) x) ↔ q_tk ρ p h (q_but (-1)) x := by
              unfold q_tk
              constructor
              · rintro ((q | q | ⟨u, q1, q2, q3⟩ | q) | q)
                · exact Or.inl q
                · exact Or.inr (Or.inl q)
                · exact Or.inr (Or.inr (Or.inl ⟨u, q1, fun (r : (u : Int) = -1) => by omega, q3⟩))
                · exact Or.inr (Or.inr (Or.inr q))
                · exact Or.inr (Or.inr (Or.inl ⟨t.toNat, by omega, fun (r : ((t.toNat : Nat) : Int) = -1) => by omega, q⟩))
              · rintro (q | q | ⟨u, q1, q2, q3⟩ | q)
                · exact Or.inl (Or.inl q)
                · exact Or.inl (Or.inr (Or.inl q))
                · by_cases hu : (u : Int) = t
                  · have : u = t.toNat := by omega
                    subst this
                    exact Or.inr q3
                  · exact Or.inl (Or.inr (Or.inr (Or.inl ⟨u, q1, hu, q3⟩)))
                · exact Or.inl (Or.inr (Or.inr (Or.inr q)))
            unfold q_SK q_S
            apply propext
            constructor
            · rintro ⟨q1, q2, -⟩
              exact ⟨q1, fun r => q2 (hk.mpr r), fun r => absurd rfl r⟩
            · rintro ⟨q1, q2, -⟩
              exact ⟨q1, fun r => q2 (hk.mp r), fun r => absurd rfl r⟩
          rw [hSK] at k4
          have k5 : zex d 235 [zR 44, zI (q_handFor (p t.toNat) s (ρ 79 t.toNat))] (F5, G5, zsg) = some (some (zI (q_m1 ρ p h (q_handFor (p t.toNat) s (ρ 79 t.toNat)))), F5, G5, zsg) := s_farTo (by omega) (by omega) q_S_cell (by omega) r1.2 k4
          have r5 : -1 ≤ q_m1 ρ p h (q_handFor (p t.toNat) s (ρ 79 t.toNat)) := q_far_r.1
          have r5' : q_m1 ρ p h (q_handFor (p t.toNat) s (ρ 79 t.toNat)) < 64 := q_far_r.2
          by_cases c5 : q_m1 ρ p h (q_handFor (p t.toNat) s (ρ 79 t.toNat)) = -1
          · refine ⟨F5, G5, g_Planner_farOfMove t s c _ _ ?_, k2, k3⟩
            rw [if_pos g8, if_pos g8, e23, if_neg (by omega), hb, zbI_some, zp_t c2, if_neg (by decide), hC.2.2.2.2.1, f1, zbI_some, f2, zbI_some, if_neg (by omega), if_neg (by omega), h6, if_pos (by omega), hrow, zbL_some, e26, zlor_eq, zset_or, k1, zbV_some, k5, zbI_some, if_pos (by omega), no (Or.inr (Or.inr (Or.inr (Or.inr (Or.inr (Or.inr (Or.inl c5)))))))]
          · have hC5 : zCR ρ F5 G5 := hC.fr (k2 6 (by decide)) (k2 7 (by decide)) (k2 8 (by decide)) (k2 9 (by decide)) (k2 10 (by decide)) (k3 6 (by decide) (by decide))
            obtain ⟨F7, G7, j1, j2, j3, j4⟩ := s_flood (d := d) (F := F5) (G := G5) (ρ := ρ) (by omega) hC5 hV (a := q_handFor (p t.toNat) s (ρ 79 t.toNat)) (t := t) (side := s) (K := q_tk ρ p h (q_but t)) (by omega) (by omega)
            rw [q_SK_S] at j4
            have j5 : zex d 235 [zR 44, zI (q_handFor c s (ρ 79 t.toNat))] (F7, G7, zsg) = some (some (zI (q_m2 ρ p h t s (q_handFor (p t.toNat) s (ρ 79 t.toNat)) (q_handFor c s (ρ 79 t.toNat)))), F7, G7, zsg) := s_farTo (by omega) (by omega) q_S_cell (by omega) r2.2 j4
            have r7 : -1 ≤ q_m2 ρ p h t s (q_handFor (p t.toNat) s (ρ 79 t.toNat)) (q_handFor c s (ρ 79 t.toNat)) := q_far_r.1
            have r7' : q_m2 ρ p h t s (q_handFor (p t.toNat) s (ρ 79 t.toNat)) (q_handFor c s (ρ 79 t.toNat)) < 64 := q_far_r.2
            by_cases c6 : q_m2 ρ p h t s (q_handFor (p t.toNat) s (ρ 79 t.toNat)) (q_handFor c s (ρ 79 t.toNat)) = -1
            · refine ⟨F7, G7, g_Planner_farOfMove t s c _ _ ?_, fun r hr => by rw [j2 r hr, k2 r hr], fun r q1 q2 => by rw [j3 r q1 q2, k3 r q1 q2]⟩
              rw [if_pos g8, if_pos g8, e23, if_neg (by omega), hb, zbI_some, zp_t c2, if_neg (by decide), hC.2.2.2.2.1, f1, zbI_some, f2, zbI_some, if_neg (by omega), if_neg (by omega), h6, if_pos (by omega), hrow, zbL_some, e26, zlor_eq, zset_or, k1, zbV_some, k5, zbI_some, if_neg (by omega), j1, zbV_some, j5, zbI_some, if_pos (by omega), no (Or.inr (Or.inr (Or.inr (Or.inr (Or.inr (Or.inr (Or.inr c6)))))))]
            · have hin := q_m2_in hV hA ht hc c1 c3 c4 c6
              have hval : q_mv ρ p h t s c = q_m1 ρ p h (q_handFor (p t.toNat) s (ρ 79 t.toNat)) + q_m2 ρ p h t s (q_handFor (p t.toNat) s (ρ 79 t.toNat)) (q_handFor c s (ρ 79 t.toNat)) := by
                unfold q_mv
                rw [if_neg]
                rintro (q | q | q | q | q | q | q | q)
                · exact c1 q
                · exact q c2.1
                · have := c2.2; omega
                · omega
                · exact c3 q
                · exact c4 q
                · exact c5 q
                · exact c6 q
              refine ⟨F7, G7, g_Planner_farOfMove t s c _ _ ?_, fun r hr => by rw [j2 r hr, k2 r hr], fun r q1 q2 => by rw [j3 r q1 q2, k3 r q1 q2]⟩
              rw [if_pos g8, if_pos g8, e23, if_neg (by omega), hb, zbI_some, zp_t c2, if_neg (by decide), hC.2.2.2.2.1, f1, zbI_some, f2, zbI_some, if_neg (by omega), if_neg (by omega), h6, if_pos (by omega), hrow, zbL_some, e26, zlor_eq, zset_or, k1, zbV_some, k5, zbI_some, if_neg (by omega), j1, zbV_some, j5, zbI_some, if_neg (by omega), zadd_eq (by omega) (by omega), hval]
    · refine ⟨F, G, g_Planner_farOfMove t s c _ _ ?_, fun _ _ => rfl, fun _ _ _ => rfl⟩
      rw [if_pos g8, if_pos g8, e23, if_neg (by omega), hb, zbI_some, zp_f c2, if_pos rfl, no]
      by_cases q : q_hf (ρ 78 t.toNat) s = true
      · refine Or.inr (Or.inr (Or.inl ?_))
        rcases Int.lt_or_le (ρ 71 11) (q_wt (ρ 78 t.toNat) (ρ 79 t.toNat)) with r | r
        · exact r
        · exact absurd ⟨q, r⟩ c2
      · exact Or.inr (Or.inl q)
theorem zMR.col (hR : zMR ρ F) {j : Nat} {v : Int} (h1 : j ≠ 5) (h2 : j ≠ 8) (h3 : j ≠ 11) : zMR ρ (zup F 71 j v) := by
  obtain ⟨r1, r2, r3, r4, r5, r6, r7, r8⟩ := hR
  exact ⟨by rw [zup_col (fun q => h1 q.symm)]; exact r1, by rw [zup_col (fun q => h2 q.symm)]; exact r2, by rw [zup_col (fun q => h3 q.symm)]; exact r3, by rw [zup_row (by decide)]; exact r4, by rw [zup_row (by decide)]; exact r5, by rw [zup_row (by decide)]; exact r6, by rw [zup_row (by decide)]; exact r7, by rw [zup_row (by decide)]; exact r8⟩
theorem m_mv (hd : 6 ≤ d) (hR : zMR ρ F) (hp : F 72 = p) (hV : zRv ρ) (hA : zPa ρ p) (hr : zHr p) (hh : h = 0 ∨ h = 1) (hc1 : p (28 + h.toNat) ≠ -1) (ht : 0 ≤ t ∧ t < ρ 71 8) (hs : 0 ≤ s ∧ s < 4) (hc : 0 ≤ c ∧ c < 64) :
    ∃ F', zex d 116 [zR 71, zI h, zI t, zI s, zI c] (F, G, zsg) = some (some (zI (q_mv ρ p h t s c)), F', G, zsg) ∧ (∀ r, r ≠ 99 → r ≠ 100 → F' r = zup F 71 32 (zadd (F 71 32) 1) r) := by
  obtain ⟨d, rfl⟩ := zds (show 1 ≤ d by omega)
  have hn8 := hV.1.2
  have g8 : 0 ≤ t ∧ t < 8 := by omega
  have hw := hV.2.2.2.2.1 t.toNat (by omega)
  have ha := hA.r (show t.toNat < 8 by omega)
  have hhr := hr h.toNat (by omega)
  have z0 : zadd 0 t = t := by rw [zadd_eq (by omega) (by omega), Int.zero_add]
  have z28 : zadd 28 h = 28 + h := zadd_eq (by omega) (by omega)
  have t28 : (28 + h).toNat = 28 + h.toNat := by omega
  have g43 : 0 ≤ t ∧ t < 43 := by omega
  have hsr := q_sides_r (ρ 78 t.toNat)
  have no : (p t.toNat = -1 ∨ ¬ q_hf (ρ 78 t.toNat) s = true ∨ ρ 71 11 < q_wt (ρ 78 t.toNat) (ρ 79 t.toNat) ∨ 8 < c % 8 + ρ 79 t.toNat ∨ q_handFor (p t.toNat) s (ρ 79 t.toNat) = -1 ∨ q_handFor c s (ρ 79 t.toNat) = -1 ∨
    q_m1 ρ p h (q_handFor (p t.toNat) s (ρ 79 t.toNat)) = -1 ∨ q_m2 ρ p h t s (q_handFor (p t.toNat) s (ρ 79 t.toNat)) (q_handFor c s (ρ 79 t.toNat)) = -1) → q_mv ρ p h t s c = -1 := fun q => by unfold q_mv; rw [if_pos q]
  have hR1 : zMR ρ (zup F 71 32 (zadd (F 71 32) 1)) := hR.col (by decide) (by decide) (by decide)
  have hp1 : zup F 71 32 (zadd (F 71 32) 1) 72 = p := by rw [zup_row (by decide)]; exact hp
  generalize hF1 : zup F 71 32 (zadd (F 71 32) 1) = F1 at *
  by_cases c1 : p t.toNat = -1
  · refine ⟨F1, g_M_moveFar h t s c _ ?_, fun _ _ _ => rfl⟩
    rw [z0, if_pos g43, hp, if_pos c1, no (Or.inl c1), hF1]
  · have k78 : F 78 = ρ 78 := hR.2.2.2.2.2.2.1
    have k781 : F1 78 = ρ 78 := hR1.2.2.2.2.2.2.1
    have k79 : F1 79 = ρ 79 := hR1.2.2.2.2.2.2.2
    have k11 : F1 71 11 = ρ 71 11 := hR1.2.2.1
    by_cases c2 : q_hf (ρ 78 t.toNat) s = true
    · have hz : ¬ zand (zshr (q_sides (ρ 78 t.toNat)) s) 1 = 0 := by
        rw [z_bit0 hsr.1 (by omega) hs.1 (by omega)]
        exact fun q => q c2
      by_cases c3 : ρ 71 11 < q_wt (ρ 78 t.toNat) (ρ 79 t.toNat)
      · refine ⟨F1, g_M_moveFar h t s c _ ?_, fun _ _ _ => rfl⟩
        rw [z0, if_pos g43, hp, if_neg c1, if_pos g8, k78, m_sidesOf (by omega), zbI_some, if_neg hz, if_pos g8, if_pos g8, hF1, k781, k79, m_weightOf (by omega) hw.1 hw.2, zbI_some, k11, if_pos c3, no (Or.inr (Or.inr (Or.inl c3)))]
      · have hm8 : zadd (zrem c 8) (ρ 79 t.toNat) = c % 8 + ρ 79 t.toNat := by rw [zrem_eq hc.1 (by omega) (by omega) (by omega), zadd_eq (by omega) (by omega)]
        by_cases c4 : 8 < c % 8 + ρ 79 t.toNat
        · refine ⟨F1, g_M_moveFar h t s c _ ?_, fun _ _ _ => rfl⟩
          rw [z0, if_pos g43, hp, if_neg c1, if_pos g8, k78, m_sidesOf (by omega), zbI_some, if_neg hz, if_pos g8, if_pos g8, hF1, k781, k79, m_weightOf (by omega) hw.1 hw.2, zbI_some, k11, if_neg c3, if_pos g8, k79, hm8, if_pos c4, no (Or.inr (Or.inr (Or.inr (Or.inl c4))))]
        · have f1 := m_handFor (d := d) (F := F1) (G := G) (s := s) (by omega) (show 0 ≤ p t.toNat by omega) ha.2 hw.1 hw.2
          have f2 := m_handFor (d := d) (F := F1) (G := G) (s := s) (by omega) hc.1 hc.2 hw.1 hw.2
          have r1 := q_handFor_r (p t.toNat) s (ρ 79 t.toNat)
          have r2 := q_handFor_r c s (ρ 79 t.toNat)
          by_cases c5 : q_handFor (p t.toNat) s (ρ 79 t.toNat) = -1
          · refine ⟨F1, g_M_moveFar h t s c _ ?_, fun _ _ _ => rfl⟩
            rw [z0, if_pos g43, hp, if_neg c1, if_pos g8, k78, m_sidesOf (by omega), zbI_some, if_neg hz, if_pos g8, if_pos g8, hF1, k781, k79, m_weightOf (by omega) hw.1 hw.2, zbI_some, k11, if_neg c3, if_pos g8, k79, hm8, if_neg c4, if_pos g43, if_pos g8, hp1, f1, zbI_some, if_pos g8, k79, f2, zbI_some, if_pos c5, no (Or.inr (Or.inr (Or.inr (Or.inr (Or.inl c5)))))]
          · by_cases c6 : q_handFor c s (ρ 79 t.toNat) = -1
            · refine ⟨F1, g_M_moveFar h t s c _ ?_, fun _ _ _ => rfl⟩
              rw [z0, if_pos g43, hp, if_neg c1, if_pos g8, k78, m_sidesOf (by omega), zbI_some, if_neg hz, if_pos g8, if_pos g8, hF1, k781, k79, m_weightOf (by omega) hw.1 hw.2, zbI_some, k11, if_neg c3, if_pos g8, k79, hm8, if_neg c4, if_pos g43, if_pos g8, hp1, f1, zbI_some, if_pos g8, k79, f2, zbI_some, if_neg c5, if_pos c6, no (Or.inr (Or.inr (Or.inr (Or.inr (Or.inr (Or.inl c6))))))]
            · obtain ⟨F5, a1, a2, a3⟩ := m_spreads (d := d) (G := G) (by omega) hR1 hp1 hV hA hh (a := p (28 + h.toNat)) (held := -1) (side := -1) (by omega) (by omega)
              have e5 : F5 99 (q_handFor (p t.toNat) s (ρ 79 t.toNat)).toNat = zfo (q_m1 ρ p h (q_handFor (p t.toNat) s (ρ 79 t.toNat))) := by
                rw [a3 _ (by omega), Int.toNat_of_nonneg (by omega)]
                rfl
              have r5 : -1 ≤ q_m1 ρ p h (q_handFor (p t.toNat) s (ρ 79 t.toNat)) ∧ q_m1 ρ p h (q_handFor (p t.toNat) s (ρ 79 t.toNat)) < 64 := q_far_r
              by_cases c7 : q_m1 ρ p h (q_handFor (p t.toNat) s (ρ 79 t.toNat)) = -1
              · refine ⟨F5, g_M_moveFar h t s c _ ?_, a2⟩
                rw [z0, if_pos g43, hp, if_neg c1, if_pos g8, k78, m_sidesOf (by omega), zbI_some, if_neg hz, if_pos g8, if_pos g8, hF1, k781, k79, m_weightOf (by omega) hw.1 hw.2, zbI_some, k11, if_neg c3, if_pos g8, k79, hm8, if_neg c4, if_pos g43, if_pos g8, hp1, f1, zbI_some, if_pos g8, k79, f2, zbI_some, if_neg c5, if_neg c6, z28, if_pos (by omega), hp1, t28, a1, zbV_some, if_pos (by omega), e5, if_pos ((zfo_1000 r5).mpr c7), no (Or.inr (Or.inr (Or.inr (Or.inr (Or.inr (Or.inr (Or.inl c7)))))))]
              · have hR5 : zMR ρ F5 := hR1.fr (a2 71 (by decide) (by decide)) (a2 75 (by decide) (by decide)) (a2 76 (by decide) (by decide)) (a2 77 (by decide) (by decide)) (a2 78 (by decide) (by decide)) (a2 79 (by decide) (by decide))
                have hp5 : F5 72 = p := by rw [a2 72 (by decide) (by decide)]; exact hp1
                obtain ⟨F6, b1, b2, b3⟩ := m_spreads (d := d) (G := G) (by omega) hR5 hp5 hV hA hh (a := q_handFor (p t.toNat) s (ρ 79 t.toNat)) (held := t) (side := s) (by omega) (by omega)
                have e6 : F6 99 (q_handFor c s (ρ 79 t.toNat)).toNat = zfo (q_m2 ρ p h t s (q_handFor (p t.toNat) s (ρ 79 t.toNat)) (q_handFor c s (ρ 79 t.toNat))) := by
                  rw [b3 _ (by omega), Int.toNat_of_nonneg (by omega)]
                  rfl
                have r7 : -1 ≤ q_m2 ρ p h t s (q_handFor (p t.toNat) s (ρ 79 t.toNat)) (q_handFor c s (ρ 79 t.toNat)) ∧ q_m2 ρ p h t s (q_handFor (p t.toNat) s (ρ 79 t.toNat)) (q_handFor c s (ρ 79 t.toNat)) < 64 := q_far_r
                by_cases c8 : q_m2 ρ p h t s (q_handFor (p t.toNat) s (ρ 79 t.toNat)) (q_handFor c s (ρ 79 t.toNat)) = -1
                · refine ⟨F6, g_M_moveFar h t s c _ ?_, fun r q1 q2 => by rw [b2 r q1 q2, a2 r q1 q2]⟩
                  rw [z0, if_pos g43, hp, if_neg c1, if_pos g8, k78, m_sidesOf (by omega), zbI_some, if_neg hz, if_pos g8, if_pos g8, hF1, k781, k79, m_weightOf (by omega) hw.1 hw.2, zbI_some, k11, if_neg c3, if_pos g8, k79, hm8, if_neg c4, if_pos g43, if_pos g8, hp1, f1, zbI_some, if_pos g8, k79, f2, zbI_some, if_neg c5, if_neg c6, z28, if_pos (by omega), hp1, t28, a1, zbV_some, if_pos (by omega), e5, if_neg (fun q => c7 ((zfo_1000 r5).mp q)), b1, zbV_some, if_pos (by omega), e6, if_pos ((zfo_1000 r7).mpr c8), no (Or.inr (Or.inr (Or.inr (Or.inr (Or.inr (Or.inr (Or.inr c8)))))))]
                · have hval : q_mv ρ p h t s c = q_m1 ρ p h (q_handFor (p t.toNat) s (ρ 79 t.toNat)) + q_m2 ρ p h t s (q_handFor (p t.toNat) s (ρ 79 t.toNat)) (q_handFor c s (ρ 79 t.toNat)) := by
                    unfold q_mv
                    rw [if_neg]
                    rintro (q | q | q | q | q | q | q | q)
                    · exact c1 q
                    · exact q c2
                    · exact c3 q
                    · exact c4 q
                    · exact c5 q
                    · exact c6 q
                    · exact c7 q
                    · exact c8 q
                  refine ⟨F6, g_M_moveFar h t s c _ ?_, fun r q1 q2 => by rw [b2 r q1 q2, a2 r q1 q2]⟩
                  rw [z0, if_pos g43, hp, if_neg c1, if_pos g8, k78, m_sidesOf (by omega), zbI_some, if_neg hz, if_pos g8, if_pos g8, hF1, k781, k79, m_weightOf (by omega) hw.1 hw.2, zbI_some, k11, if_neg c3, if_pos g8, k79, hm8, if_neg c4, if_pos g43, if_pos g8, hp1, f1, zbI_some, if_pos g8, k79, f2, zbI_some, if_neg c5, if_neg c6, z28, if_pos (by omega), hp1, t28, a1, zbV_some, if_pos (by omega), e5, if_neg (fun q => c7 ((zfo_1000 r5).mp q)), b1, zbV_some, if_pos (by omega), e6, if_neg (fun q => c8 ((zfo_1000 r7).mp q)), if_pos (by omega), zfo_eq c7, zfo_eq c8, zadd_eq (by omega) (by omega), hval]
    · have hz : zand (zshr (q_sides (ρ 78 t.toNat)) s) 1 = 0 := by
        rw [z_bit0 hsr.1 (by omega) hs.1 (by omega)]
        exact c2
      refine ⟨F1, g_M_moveFar h t s c _ ?_, fun _ _ _ => rfl⟩
      rw [z0, if_pos g43, hp, if_neg c1, if_pos g8, k78, m_sidesOf (by omega), zbI_some, if_pos hz, no (Or.inr (Or.inl c2)), hF1]
theorem m_takenBut (hd : 3 ≤ d) (hR : zMR ρ F) (hp : F 72 = p) (hV : zRv ρ) (hA : zPa ρ p) (hh : h = 0 ∨ h = 1) : zex d 117 [zR 71, zI h, zI t] (F, G, zsg) = some (some (zL (zset (q_tk ρ p h (q_but t)))), F, G, zsg) := by
  obtain ⟨d, rfl⟩ := zds (show 1 ≤ d by omega)
  have loop : ∀ m k : Nat, k + m = 64 → zev zX0 d (117, 5, [zR 71, zI h, zI t, zL (zset (fun c => c < k ∧ q_tk ρ p h (q_but t) c)), zR 0, zI k], [], F, G, zsg) = some (some (zL (zset (q_tk ρ p h (q_but t)))), F, G, zsg) := by
    intro m
    induction m with
    | zero =>
      intro k hk
      refine g_M_takenBut_5 h t _ k _ ?_
      rw [if_neg (by omega)]
      congr 4
      exact zset_congr fun c _ h1 => ⟨fun q => q.2, fun q => ⟨by omega, q⟩⟩
    | succ m ih =>
      intro k hk
      have hn := ih (k + 1) (by omega)
      have hk1 : zadd (k : Int) 1 = k + 1 := zadd_eq (by omega) (by omega)
      rw [zcast1] at hn
      refine g_M_takenBut_5 h t _ k _ ?_
      rw [if_pos (by omega), m_isFree (by omega) hR hp hV hA hh (by omega) (by omega), zbI_some, hk1]
      split
      · rename_i q
        rw [zp_0, Classical.not_not] at q
        rw [zset_bit (by omega) (by omega), zlor_eq, zset_or, zset_congr (Q := fun c => c < (k : Int) + 1 ∧ q_tk ρ p h (q_but t) c)]
        · exact hn
        · intro c c0 c1
          constructor
          · rintro (⟨q1, q2⟩ | q1)
            · exact ⟨by omega, q2⟩
            · subst q1; exact ⟨by omega, q⟩
          · rintro ⟨q1, q2⟩
            by_cases hc : c = k
            · exact Or.inr hc
            · exact Or.inl ⟨by omega, q2⟩
      · rename_i q
        rw [zp_0, Classical.not_not] at q
        rw [zset_none, zlor_eq, zset_or, zset_congr (Q := fun c => c < (k : Int) + 1 ∧ q_tk ρ p h (q_but t) c)]
        · exact hn
        · intro c c0 c1
          constructor
          · rintro (⟨q1, q2⟩ | q1)
            · exact ⟨by omega, q2⟩
            · exact q1.elim
          · rintro ⟨q1, q2⟩
            by_cases hc : c = k
            · subst hc; exact absurd q2 q
            · exact Or.inl ⟨by omega, q2⟩
  refine g_M_takenBut h t _ ?_
  have := loop 64 0 (by omega)
  rw [show ((0 : Nat) : Int) = 0 from rfl] at this
  rw [zset_none, zset_congr (Q := fun c => c < 0 ∧ q_tk ρ p h (q_but t) c) (fun c c0 _ => ⟨fun q => q.elim, fun q => by omega⟩)]
  exact this
end
