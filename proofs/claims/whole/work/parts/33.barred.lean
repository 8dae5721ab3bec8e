/-! what bars a hand by itself -/
noncomputable def zfold (Q : Nat → Prop) : Nat → Nat → Int → Int
  | _, 0, acc => acc
  | k, m + 1, acc => zfold Q (k + 1) m (@ite _ (Q k) (Classical.propDecidable _) (zor acc (zshl 1 k)) acc)
theorem zfold_t {Q : Nat → Prop} {k m : Nat} {acc : Int} (h : Q k) : zfold Q k (m + 1) acc = zfold Q (k + 1) m (zor acc (zshl 1 k)) := by simp only [zfold]; rw [if_pos h]
theorem zfold_f {Q : Nat → Prop} {k m : Nat} {acc : Int} (h : ¬ Q k) : zfold Q k (m + 1) acc = zfold Q (k + 1) m acc := by simp only [zfold]; rw [if_neg h]
theorem z_bitor {acc k : Int} (h1 : 0 ≤ acc) (h2 : acc ≤ 255) (h3 : 0 ≤ k) (h4 : k < 8) : 0 ≤ zor acc (zshl 1 k) ∧ zor acc (zshl 1 k) ≤ 255 := by
  have := z_orbits (W := acc) (b := k) ⟨h1, h2⟩ ⟨by omega, h4⟩
  rw [if_neg (by omega)] at this
  rw [z_one h3 (by omega)]
  exact this.1
theorem zor_0 {x : Int} (h1 : 0 ≤ x) (h2 : x ≤ 2147483647) : zor x 0 = x := by
  rw [zor_eq h1 h2 (by decide) (by decide)]
  show ((x.toNat ||| 0 : Nat) : Int) = x
  rw [Nat.or_zero]
  omega
section
variable {d : Nat} {F ρ : zM} {G : zG} {p : Nat → Int}
/-- a thing that lies nowhere takes nothing -/
theorem q_tk_gone {t : Nat} (ht : t < 8) {h b c : Int} : q_tk ρ (zu p t (-1)) h (q_but b) c ↔ q_tk ρ p h (q_bw (2 ^ t) b) c := by
  have hb : ∀ u : Nat, q_bw (2 ^ t) b u ↔ (u = t ∨ (u : Int) = b) := by
    intro u
    unfold q_bw
    have h1 : ((2 : Int) ^ t).toNat = 2 ^ t := by
      rw [show (2 : Int) ^ t = ((2 ^ t : Nat) : Int) by rw [Int.natCast_pow]; rfl, Int.toNat_natCast]
    rw [h1, Nat.testBit_two_pow]
    simp only [decide_eq_true_eq]
    omega
  unfold q_tk q_shut q_lies
  refine or_congr Iff.rfl (or_congr ?_ (or_congr ?_ ?_))
  · refine exists_congr fun e => ?_
    rw [zu_ne (show 24 + e ≠ t by omega)]
  · refine exists_congr fun u => ?_
    rw [hb]
    by_cases hu : u = t
    · subst hu
      rw [zu_eq]
      constructor
      · rintro ⟨_, _, q, _⟩; exact absurd rfl q
      · rintro ⟨_, q, _⟩; exact absurd (Or.inl rfl) q
    · rw [zu_ne hu]
      constructor
      · rintro ⟨q1, q2, q3⟩; exact ⟨q1, fun q => q.elim hu q2, q3⟩
      · rintro ⟨q1, q2, q3⟩; exact ⟨q1, fun q => q2 (Or.inr q), q3⟩
  · refine exists_congr fun g => ?_
    rw [zu_ne (show 28 + g ≠ t by omega)]
theorem q_S_gone {t : Nat} (ht : t < 8) {h b s : Int} : q_S ρ (zu p t (-1)) h (q_but b) b s = q_S ρ p h (q_bw (2 ^ t) b) b s := by
  funext c
  unfold q_S
  simp only [q_tk_gone ht]
/-- how far it is without a thing -/
noncomputable def q_wo (ρ : zM) (p : Nat → Int) (h : Int) (t : Nat) (c : Int) : Int := q_far (n_T ρ p h) (q_S ρ p h (q_bw (2 ^ t) (p (30 + h.toNat))) (p (30 + h.toNat)) (p (16 + (p (30 + h.toNat)).toNat))) (n_a p h) c
theorem zu_back {f : Nat → Int} {t : Nat} {v : Int} : zu (zu f t v) t (f t) = f := by
  funext c
  unfold zu
  split
  · rename_i h; rw [h]
  · rfl
theorem s_isLoose (hd : 1 ≤ d) (hS : zSC 11 p F) (hA : zPa ρ p) (hB : ∀ t : Nat, t < 8 → -1 ≤ p (8 + t)) {t : Int} (h1 : 0 ≤ t) (h2 : t < 8) : zex d 200 [zR 11, zI t] (F, G, zsg) = some (some (zI (zp (p t.toNat ≠ -1 ∧ p (8 + t.toNat) = -1))), F, G, zsg) := by
  obtain ⟨d, rfl⟩ := zds hd
  refine g_Scene_isLoose_11 t _ ?_
  have e1 : F 12 t.toNat = p t.toNat := (hS.at h1 h2).1
  have e2 : F 13 t.toNat = p (8 + t.toNat) := (hS.at h1 h2).2.1
  have r1 := hA.r (show t.toNat < 8 by omega)
  have r2 := hB t.toNat (by omega)
  have h12 : 0 ≤ t ∧ t < 8 := ⟨h1, h2⟩
  rw [if_pos h12, if_pos h12, e1, e2]
  repeat' split
  all_goals first | rw [zp_f (by omega)] | rw [zp_t (by omega)]
theorem a_barred (hd : 7 ≤ d) (N : zNow ρ p F G) (h c : Int) : zAsk d 13 75 [zI h, zI c] F G := by
  obtain ⟨d, rfl⟩ := zds (show 1 ≤ d by omega)
  by_cases c1 : (0 ≤ h ∧ h ≤ 1) ∧ p (28 + h).toNat ≠ -1
  · by_cases c2 : 0 ≤ c ∧ c < 64
    · have hh : h = 0 ∨ h = 1 := by omega
      have hc1 : p (28 + h.toNat) ≠ -1 := by rw [← show (28 + h).toNat = 28 + h.toNat by omega]; exact c1.2
      have ha := n_acell N.2.2.2.2.2 hh hc1
      have hn8 := N.2.2.2.2.1.1
      have hPv := N.2.2.2.2.2
      have hV := N.2.2.2.2.1
      have hb := hPv.2.2.1 h.toNat (by omega)
      obtain ⟨F1, G1, e1, e2, -, e3⟩ := N.flood (d := d) (by omega) hh hc1
      have N1 := N.q e2
      have hr := q_far_r (T := n_T ρ p h) (S := n_S ρ p h) (a := n_a p h) (c := c)
      let Q : Nat → Prop := fun t => (p t ≠ -1 ∧ p (8 + t) = -1) ∧ q_wo ρ p h t c ≠ -1
      -- the class's loop
      have loopC : ∀ (m k : Nat) (acc : Int) (F1 : zM) (G1 : zG), (k : Int) + m = ρ 71 8 → 0 ≤ acc → acc ≤ 255 → zNow ρ p F1 G1 → ∃ F' G', zev zX0 d (13, 49, [zR 5, zI h, zI c, zI acc, zI k], [], F1, G1, zsg) = some (some (zI (zfold Q k m acc)), F', G', zsg) ∧ zqc F1 G1 F' G' := by
        intro m
        induction m with
        | zero =>
          intro k acc F1 G1 hk a1 a2 N1
          refine ⟨F1, G1, g_C_barred_49 h c acc k _ ?_, zqc.rfl⟩
          rw [N1.2.1.1, if_neg (by omega)]
          rfl
        | succ m ih =>
          intro k acc F1 G1 hk a1 a2 N1
          have hk8 : k < 8 := by omega
          have hl := s_isLoose (d := d) (G := G1) (t := (k : Int)) (by omega) N1.1 hPv.1 (fun t ht => (hPv.2.2.2.1 t ht).1) (by omega) (by omega)
          rw [Int.toNat_natCast] at hl
          by_cases c3 : p k ≠ -1 ∧ p (8 + k) = -1
          · have hpow : zshl 1 (k : Int) = 2 ^ k := by rw [z_one (by omega) (by omega), Int.toNat_natCast]
            have hpr : (0 : Int) ≤ 2 ^ k ∧ (2 : Int) ^ k ≤ 255 := by
              have := z_bits_r (b := (k : Int)) (by omega)
              rw [if_neg (by omega), Int.toNat_natCast] at this
              exact this
            obtain ⟨F2, G2, f1, f2, f3, f4⟩ := s_floodFromHand_11 (d := d) (G := G1) (by omega) N1.1 N1.2.1 hV hPv.1 hPv.2.1 hh hc1 hb hpr
            have N2 := N1.q (zqc.c f2 f3)
            have hfar : zex d 235 [zR 44, zI c] (F2, G2, zsg) = some (some (zI (q_wo ρ p h k c)), F2, G2, zsg) := s_farTo (by omega) ha q_S_cell c2.1 c2.2 f4
            have hwr : -1 ≤ q_wo ρ p h k c := q_far_r.1
            by_cases c4 : q_wo ρ p h k c = -1
            · obtain ⟨F', G', g1, g2⟩ := ih (k + 1) acc F2 G2 (by omega) a1 a2 N2
              rw [zcast1] at g1
              refine ⟨F', G', g_C_barred_49 h c acc k _ ?_, (zqc.c f2 f3).tr g2⟩
              rw [N1.2.1.1, if_pos (by omega), hl, zbI_some, zp_t c3, if_neg (by decide), hpow, f1, zbV_some, hfar, zbI_some, if_pos (by omega), zadd_eq (by omega) (by omega), g1, zfold_f (fun q => q.2 c4)]
            · have hbo := z_bitor (k := (k : Int)) a1 a2 (by omega) (by omega)
              obtain ⟨F', G', g1, g2⟩ := ih (k + 1) (zor acc (zshl 1 k)) F2 G2 (by omega) hbo.1 hbo.2 N2
              rw [zcast1] at g1
              refine ⟨F', G', g_C_barred_49 h c acc k _ ?_, (zqc.c f2 f3).tr g2⟩
              rw [N1.2.1.1, if_pos (by omega), hl, zbI_some, zp_t c3, if_neg (by decide), show zex d 233 [zR 44, zR 11, zI h, zI (zshl 1 (k : Int))] (F1, G1, zsg) = some (none, F2, G2, zsg) by rw [hpow]; exact f1, zbV_some, hfar, zbI_some, if_neg (by omega), zadd_eq (by omega) (by omega), g1, zfold_t (Q := Q) ⟨c3, c4⟩]
          · obtain ⟨F', G', g1, g2⟩ := ih (k + 1) acc F1 G1 (by omega) a1 a2 N1
            rw [zcast1] at g1
            refine ⟨F', G', g_C_barred_49 h c acc k _ ?_, g2⟩
            rw [N1.2.1.1, if_pos (by omega), hl, zbI_some, zp_f c3, if_pos rfl, zadd_eq (by omega) (by omega), g1, zfold_f (fun q => c3 q.1)]
      have loopM : ∀ (G1 : zG) (m k : Nat) (acc : Int) (F1 : zM), (k : Int) + m = ρ 71 8 → 0 ≤ acc → acc ≤ 255 → zNow ρ p F1 G1 → ∃ F', zev zX0 d (75, 47, [zR 71, zI h, zI c, zI acc, zI 0, zI k, zR 0], [], F1, G1, zsg) = some (some (zI (zfold Q k m acc)), F', G1, zsg) ∧ zqc F1 G1 F' G1 := by
        intro G1 m
        induction m with
        | zero =>
          intro k acc F1 hk a1 a2 N1
          refine ⟨F1, g_M_barred_47 h c acc 0 k _ ?_, zqc.rfl⟩
          rw [N1.2.2.1.2.1, if_neg (by omega)]
          rfl
        | succ m ih =>
          intro k acc F1 hk a1 a2 N1
          have hk8 : k < 8 := by omega
          have hp1 := N1.2.2.2.1
          have z8 : zadd 8 (k : Int) = 8 + k := zadd_eq (by omega) (by omega)
          have z0 : zadd 0 (k : Int) = k := by rw [zadd_eq (by omega) (by omega), Int.zero_add]
          have t8 : (8 + (k : Int)).toNat = 8 + k := by omega
          have g43 : 0 ≤ (k : Int) ∧ (k : Int) < 43 := by omega
          by_cases c3 : p k ≠ -1 ∧ p (8 + k) = -1
          · -- the scene without the thing
            have hR' : zMR ρ (zup F1 72 k (-1)) := N1.2.2.1.fr (zup_row (by decide)) (zup_row (by decide)) (zup_row (by decide)) (zup_row (by decide)) (zup_row (by decide)) (zup_row (by decide))
            have hp' : zup F1 72 k (-1) 72 = zu p k (-1) := by rw [zup_fn, hp1]
            have u28 : zu p k (-1) (28 + h.toNat) = p (28 + h.toNat) := zu_ne (by omega)
            have u30 : zu p k (-1) (30 + h.toNat) = p (30 + h.toNat) := zu_ne (by omega)
            have hne : (p (30 + h.toNat)).toNat ≠ k ∨ p (30 + h.toNat) = -1 := by
              by_cases hq : p (30 + h.toNat) = -1
              · exact Or.inr hq
              · left
                intro e
                have := (hPv.2.2.2.2.2.2.2.1 h.toNat (by omega) hq).1
                rw [e] at this
                omega
            have u16 : zu p k (-1) (16 + (p (30 + h.toNat)).toNat) = p (16 + (p (30 + h.toNat)).toNat) := zu_ne (by omega)
            have hA' : zPa ρ (zu p k (-1)) := by
              intro t ht
              by_cases htk : t = k
              · subst htk; rw [zu_eq]; exact Or.inl (Eq.refl _)
              · rw [zu_ne htk]; exact hPv.1 t ht
            obtain ⟨F2, f1, f2, f3⟩ := m_spreadsNow (d := d) (G := G1) (by omega) hR' hp' hV hA' hh (by rw [u28]; exact ha) (by rw [u30]; exact hb)
            rw [u28, u30, u16, q_S_gone hk8] at f3
            have hF2 : F2 99 c.toNat = zfo (q_wo ρ p h k c) := by rw [f3 _ (by omega), Int.toNat_of_nonneg c2.1]; rfl
            have hback : zup F2 72 k (p k) 72 = p := by
              rw [zup_fn, f2 72 (by decide) (by decide), hp', zu_back]
            have hq2 : zqc F1 G1 (zup F2 72 k (p k)) G1 := by
              refine ⟨fun r r1 r2 r3 => ?_, fun _ _ _ => Eq.refl _⟩
              by_cases hr72 : r = 72
              · subst hr72; rw [hback, hp1]
              · rw [zup_row hr72, f2 r r2 r3, zup_row hr72]
            have N2 := N1.q hq2
            have hwr := q_far_r (T := n_T ρ p h) (S := q_S ρ p h (q_bw (2 ^ k) (p (30 + h.toNat))) (p (30 + h.toNat)) (p (16 + (p (30 + h.toNat)).toNat))) (a := n_a p h) (c := c)
            have hwr : -1 ≤ q_wo ρ p h k c ∧ q_wo ρ p h k c < 64 := hwr
            by_cases c4 : q_wo ρ p h k c = -1
            · obtain ⟨F', g1, g2⟩ := ih (k + 1) acc (zup F2 72 k (p k)) (by omega) a1 a2 N2
              rw [zcast1] at g1
              refine ⟨F', g_M_barred_47 h c acc 0 k _ ?_, hq2.tr g2⟩
              rw [N1.2.2.1.2.1, if_pos (by omega), if_pos (Eq.refl _), z8, z0, if_pos (by omega), hp1, t8, Int.toNat_natCast, if_pos c3.2, if_pos g43, if_neg c3.1, if_pos g43, if_pos g43, f1, zbV_some, if_pos c2, hF2, if_neg (by rw [(zfo_1000 hwr).mpr c4]; decide), if_pos g43, zor_0 a1 (by omega), zadd_eq (by omega) (by omega), g1, zfold_f (fun q => q.2 c4)]
            · have hbo := z_bitor (k := (k : Int)) a1 a2 (by omega) (by omega)
              obtain ⟨F', g1, g2⟩ := ih (k + 1) (zor acc (zshl 1 k)) (zup F2 72 k (p k)) (by omega) hbo.1 hbo.2 N2
              rw [zcast1] at g1
              refine ⟨F', g_M_barred_47 h c acc 0 k _ ?_, hq2.tr g2⟩
              rw [N1.2.2.1.2.1, if_pos (by omega), if_pos (Eq.refl _), z8, z0, if_pos (by omega), hp1, t8, Int.toNat_natCast, if_pos c3.2, if_pos g43, if_neg c3.1, if_pos g43, if_pos g43, f1, zbV_some, if_pos c2, hF2, if_pos (by rw [zfo_eq c4]; omega), if_pos g43, zadd_eq (y := (1 : Int)) (by omega) (by omega), g1, zfold_t (Q := Q) ⟨c3, c4⟩]
          · obtain ⟨F', g1, g2⟩ := ih (k + 1) acc F1 (by omega) a1 a2 N1
            rw [zcast1] at g1
            refine ⟨F', g_M_barred_47 h c acc 0 k _ ?_, g2⟩
            rw [N1.2.2.1.2.1, if_pos (by omega), if_pos (Eq.refl _), z8, z0, if_pos (by omega), hp1, t8, Int.toNat_natCast, zadd_eq (by omega) (by omega), zfold_f (fun q => c3 q.1)]
            split
            · rename_i c5
              rw [if_pos (by
                rcases Classical.em (p k = -1) with q | q
                · exact q
                · exact absurd ⟨q, c5⟩ c3)]
              exact g1
            · exact g1
      by_cases hq : q_far (n_T ρ p h) (n_S ρ p h) (n_a p h) c = -1
      · obtain ⟨F2, G2, g1, g2⟩ := loopC (ρ 71 8).toNat 0 0 F1 G1 (by omega) (by decide) (by decide) N1
        rw [show ((0 : Nat) : Int) = 0 from Eq.refl _] at g1
        have N2 := N1.q g2
        obtain ⟨F3, f4, f5, -, f6⟩ := N2.spread (d := d) (by omega) hh hc1
        have N3 := N2.q f5
        have hF3 : F3 99 c.toNat = zfo (q_far (n_T ρ p h) (n_S ρ p h) (n_a p h) c) := by rw [f6 _ (by omega), Int.toNat_of_nonneg c2.1]
        obtain ⟨F4, m1, m2⟩ := loopM G2 (ρ 71 8).toNat 0 0 F3 (by omega) (by decide) (by decide) N3
        rw [show ((0 : Nat) : Int) = 0 from Eq.refl _] at m1
        refine ⟨zfold Q 0 (ρ 71 8).toNat 0, F2, G2, F4, g_C_barred h c _ ?_, g_M_barred h c _ ?_, ((e2.tr g2).tr f5).tr m2⟩
        · rw [N.pres (by omega), zbI_some, zp_t c1, if_neg (by decide), s_isCell (by omega), zbI_some, zp_t c2, if_neg (by decide), e1, zbV_some, s_farTo (by omega) ha n_S_cell c2.1 c2.2 e3, zbI_some, if_pos (by omega), g1]
        · rw [m_isThere (by omega) N2.2.2.2.1, zbI_some, zp_t c1, if_neg (by decide), m_isCell (by omega), zbI_some, zp_t c2, if_neg (by decide), f4, zbV_some, if_pos c2, hF3, if_neg (by rw [(zfo_1000 hr).mpr hq]; decide), m1]
      · obtain ⟨F3, f4, f5, -, f6⟩ := N1.spread (d := d) (by omega) hh hc1
        have hF3 : F3 99 c.toNat = zfo (q_far (n_T ρ p h) (n_S ρ p h) (n_a p h) c) := by rw [f6 _ (by omega), Int.toNat_of_nonneg c2.1]
        refine ⟨0, F1, G1, F3, g_C_barred h c _ ?_, g_M_barred h c _ ?_, e2.tr f5⟩
        · rw [N.pres (by omega), zbI_some, zp_t c1, if_neg (by decide), s_isCell (by omega), zbI_some, zp_t c2, if_neg (by decide), e1, zbV_some, s_farTo (by omega) ha n_S_cell c2.1 c2.2 e3, zbI_some, if_neg (by omega)]
        · rw [m_isThere (by omega) N1.2.2.2.1, zbI_some, zp_t c1, if_neg (by decide), m_isCell (by omega), zbI_some, zp_t c2, if_neg (by decide), f4, zbV_some, if_pos c2, hF3, if_pos (by rw [zfo_eq hq]; omega)]
          refine g_M_barred_47 h c 0 1 0 _ ?_
          by_cases hz : (0 : Int) < F3 71 8
          · rw [if_pos hz, if_neg (by decide)]
          · rw [if_neg hz]
    · refine ⟨-5, F, G, F, g_C_barred h c _ ?_, g_M_barred h c _ ?_, zqc.rfl⟩
      · rw [N.pres (by omega), zbI_some, zp_t c1, if_neg (by decide), s_isCell (by omega), zbI_some, zp_f c2, if_pos rfl]
      · rw [m_isThere (by omega) N.2.2.2.1, zbI_some, zp_t c1, if_neg (by decide), m_isCell (by omega), zbI_some, zp_f c2, if_pos rfl]
  · refine ⟨-5, F, G, F, g_C_barred h c _ ?_, g_M_barred h c _ ?_, zqc.rfl⟩
    · rw [N.pres (by omega), zbI_some, zp_f c1, if_pos rfl]
    · rw [m_isThere (by omega) N.2.2.2.1, zbI_some, zp_f c1, if_pos rfl]
end
