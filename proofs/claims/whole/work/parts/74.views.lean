/-! what a plan works on, told as rows of the reference (Φ, Γ); how the class holds it, how the reference does -/
def zQC (Φ : zM) (Γ : zG) (F : zM) (G : zG) : Prop := (F 53 0 = Φ 71 24 ∧ F 53 1 = Φ 71 31 ∧ F 54 = Φ 88 ∧ F 55 = Φ 89 ∧ F 56 = Φ 90 ∧ F 57 = Φ 91 ∧ F 58 = Φ 92 ∧ G 59 = Γ 93) ∧ F 60 10 = Φ 71 32 ∧ (F 60 11 = if Φ 71 23 = -1 then -1 else Φ 71 19) ∧ (Φ 71 23 ≠ -1 → F 60 12 = Φ 71 23) ∧ (∀ i : Nat, (i : Int) < Φ 71 19 → F 62 (3 * i) = Φ 85 i ∧ F 62 (3 * i + 1) = Φ 86 i ∧ F 62 (3 * i + 2) = Φ 87 i)
def zQM (Φ : zM) (Γ : zG) (F : zM) (G : zG) : Prop := (∀ j, j ∈ [19, 23, 24, 31, 32] → F 71 j = Φ 71 j) ∧ (∀ r, r ∈ [85, 86, 87, 88, 89, 90, 91, 92] → F r = Φ r) ∧ G 93 = Γ 93
def zQV (Φ : zM) : Prop := (0 ≤ Φ 71 24 ∧ Φ 71 24 ≤ 12) ∧ ((Φ 71 23 = -1 ∧ Φ 71 19 = 0) ∨ (0 ≤ Φ 71 23 ∧ 1 ≤ Φ 71 19 ∧ Φ 71 19 ≤ 2))
/-- what the class may write while it plans -/
def zfC (F : zM) (G : zG) (F' : zM) (G' : zG) : Prop := (∀ r, r ∉ [44, 53, 54, 55, 56, 57, 58, 60, 62, 63] → F' r = F r) ∧ (∀ j, j ∉ [10, 11, 12] → F' 60 j = F 60 j) ∧ (∀ r, r ∉ [44, 45, 59] → G' r = G r)
/-- what the reference may write while it plans -/
def zfM (F : zM) (G : zG) (F' : zM) (G' : zG) : Prop := (∀ r, r ∉ [71, 85, 86, 87, 88, 89, 90, 91, 92, 99, 100] → F' r = F r) ∧ (∀ j, j ∉ [19, 23, 24, 31, 32, 44, 45, 46, 47] → F' 71 j = F 71 j) ∧ (∀ r, r ≠ 93 → G' r = G r)
theorem zfC.rfl {F : zM} {G : zG} : zfC F G F G := ⟨fun _ _ => Eq.refl _, fun _ _ => Eq.refl _, fun _ _ => Eq.refl _⟩
theorem zfM.rfl {F : zM} {G : zG} : zfM F G F G := ⟨fun _ _ => Eq.refl _, fun _ _ => Eq.refl _, fun _ _ => Eq.refl _⟩
theorem zfC.tr {F F' F'' : zM} {G G' G'' : zG} (h1 : zfC F G F' G') (h2 : zfC F' G' F'' G'') : zfC F G F'' G'' := ⟨fun r a => by rw [h2.1 r a, h1.1 r a], fun r a => by rw [h2.2.1 r a, h1.2.1 r a], fun r a => by rw [h2.2.2 r a, h1.2.2 r a]⟩
theorem zfM.tr {F F' F'' : zM} {G G' G'' : zG} (h1 : zfM F G F' G') (h2 : zfM F' G' F'' G'') : zfM F G F'' G'' := ⟨fun r a => by rw [h2.1 r a, h1.1 r a], fun r a => by rw [h2.2.1 r a, h1.2.1 r a], fun r a => by rw [h2.2.2 r a, h1.2.2 r a]⟩
section
variable {d : Nat} {F F' ρ Φ : zM} {G G' Γ : zG} {p : Nat → Int} {h t c l f g : Int}
theorem zfC.sc (h : zfC F G F' G') (hS : zSC 22 p F) : zSC 22 p F' := by
  refine hS.fr (fun i hi => h.1 _ ?_)
  have : i = 0 ∨ i = 1 ∨ i = 2 ∨ i = 3 ∨ i = 4 ∨ i = 5 ∨ i = 6 ∨ i = 7 ∨ i = 8 ∨ i = 9 ∨ i = 10 := by omega
  rcases this with rfl | rfl | rfl | rfl | rfl | rfl | rfl | rfl | rfl | rfl | rfl <;> decide
theorem zfC.cr (h : zfC F G F' G') (hC : zCR ρ F G) : zCR ρ F' G' := hC.fr (h.1 6 (by decide)) (h.1 7 (by decide)) (h.1 8 (by decide)) (h.1 9 (by decide)) (h.1 10 (by decide)) (h.2.2 6 (by decide))
theorem zfM.mr (h : zfM F G F' G') (hR : zMR ρ F) : zMR ρ F' := by
  obtain ⟨r1, r2, r3, r4, r5, r6, r7, r8⟩ := hR
  exact ⟨by rw [h.2.1 5 (by decide)]; exact r1, by rw [h.2.1 8 (by decide)]; exact r2, by rw [h.2.1 11 (by decide)]; exact r3, by rw [h.1 75 (by decide)]; exact r4, by rw [h.1 76 (by decide)]; exact r5, by rw [h.1 77 (by decide)]; exact r6, by rw [h.1 78 (by decide)]; exact r7, by rw [h.1 79 (by decide)]; exact r8⟩
/-- the same written on both sides -/
theorem zQM.up (h : zQM Φ Γ F G) {r j : Nat} {v : Int} : zQM (zup Φ r j v) Γ (zup F r j v) G := by
  obtain ⟨h1, h2, h3⟩ := h
  refine ⟨fun i hi => ?_, fun q hq => ?_, h3⟩
  · by_cases hr : (71 : Nat) = r
    · subst hr
      by_cases hj : i = j
      · subst hj; rw [zup_eq, zup_eq]
      · rw [zup_col hj, zup_col hj]; exact h1 i hi
    · rw [zup_row hr, zup_row hr]; exact h1 i hi
  · by_cases hr : q = r
    · subst hr
      rw [zup_fn, zup_fn, h2 q hq]
    · rw [zup_row hr, zup_row hr]; exact h2 q hq
/-- what the reference writes beside it -/
theorem zQM.wr (h : zQM Φ Γ F G) {j : Nat} {v : Int} (hj : j ∉ [19, 23, 24, 31, 32] := by decide) : zQM Φ Γ (zup F 71 j v) G := by
  obtain ⟨h1, h2, h3⟩ := h
  refine ⟨fun i hi => ?_, fun q hq => ?_, h3⟩
  · rw [zup_col (fun e => hj (by rw [← e]; exact hi))]
    exact h1 i hi
  · rw [zup_row (by intro e; subst e; revert hq; decide)]
    exact h2 q hq
theorem zQM.fr (h : zQM Φ Γ F G) (h71 : ∀ j, j ∈ [19, 23, 24, 31, 32] → F' 71 j = F 71 j) (hr : ∀ r, r ∈ [85, 86, 87, 88, 89, 90, 91, 92] → F' r = F r) : zQM Φ Γ F' G := ⟨fun j hj => by rw [h71 j hj]; exact h.1 j hj, fun r hr' => by rw [hr r hr']; exact h.2.1 r hr', h.2.2⟩
theorem zfM.col {j : Nat} {v : Int} (hj : j ∈ [19, 23, 24, 31, 32, 44, 45, 46, 47] := by decide) : zfM F G (zup F 71 j v) G := by
  refine ⟨fun r hr => zup_row (by intro e; subst e; revert hr; decide), fun i hi => zup_col (fun e => hi (by rw [e]; exact hj)), fun _ _ => Eq.refl _⟩
theorem zfM.row {r j : Nat} {v : Int} (hr : r ∈ [85, 86, 87, 88, 89, 90, 91, 92] := by decide) : zfM F G (zup F r j v) G := by
  refine ⟨fun q hq => zup_row (fun e => hq (by subst e; revert hr; simp only [List.mem_cons, List.not_mem_nil, or_false]; omega)), fun i hi => by rw [zup_row (by intro e; subst e; revert hr; decide)], fun _ _ => Eq.refl _⟩
/-- what was learnt before -/
def q_so (ρ Φ : zM) (Γ : zG) (p : Nat → Int) (h t c : Int) : Prop := ∃ r : Nat, (r : Int) < Φ 71 24 ∧ Φ 88 r = t ∧ Φ 89 r = c ∧ Φ 90 r = p t.toNat ∧ Φ 91 r = p (28 + h.toNat) ∧ Φ 92 r = ρ 71 11 ∧ Γ 93 r = zset (q_tk ρ p h (q_but t))
theorem s_isSo (hd : 1 ≤ d) (hK : zQC Φ Γ F G) (hV : zQV Φ) : zex d 195 [zR 53, zI t, zI c, zI (p t.toNat), zI (p (28 + h.toNat)), zI (ρ 71 11), zL (zset (q_tk ρ p h (q_but t)))] (F, G, zsg) = some (some (zI (zp (q_so ρ Φ Γ p h t c))), F, G, zsg) := by
  obtain ⟨d, rfl⟩ := zds hd
  obtain ⟨⟨k0, k1, k2, k3, k4, k5, k6, k7⟩, -⟩ := hK
  have hn := hV.1
  have loop : ∀ m k : Nat, (k : Int) + m = Φ 71 24 → zev zX0 d (195, 3, [zR 53, zI t, zI c, zI (p t.toNat), zI (p (28 + h.toNat)), zI (ρ 71 11), zL (zset (q_tk ρ p h (q_but t))), zR 0, zI k], [], F, G, zsg) = some (some (zI (zp (∃ r : Nat, k ≤ r ∧ (r : Int) < Φ 71 24 ∧ Φ 88 r = t ∧ Φ 89 r = c ∧ Φ 90 r = p t.toNat ∧ Φ 91 r = p (28 + h.toNat) ∧ Φ 92 r = ρ 71 11 ∧ Γ 93 r = zset (q_tk ρ p h (q_but t))))), F, G, zsg) := by
    intro m
    induction m with
    | zero =>
      intro k hk
      refine g_Rules_isSo_3 _ _ _ _ _ _ k _ ?_
      rw [k0, if_neg (by omega), zp_f]
      rintro ⟨r, q1, q2, -⟩
      omega
    | succ m ih =>
      intro k hk
      have hnx := ih (k + 1) (by omega)
      rw [zcast1] at hnx
      have hk1 : zadd (k : Int) 1 = k + 1 := zadd_eq (by omega) (by omega)
      have g12 : 0 ≤ (k : Int) ∧ (k : Int) < 12 := by omega
      refine g_Rules_isSo_3 _ _ _ _ _ _ k _ ?_
      rw [k0, if_pos (by omega), hk1]
      simp only [if_pos g12, Int.toNat_natCast, k2, k3, k4, k5, k6, k7]
      have step : ∀ {P : Prop}, (Φ 88 k = t ∧ Φ 89 k = c ∧ Φ 90 k = p t.toNat ∧ Φ 91 k = p (28 + h.toNat) ∧ Φ 92 k = ρ 71 11 ∧ Γ 93 k = zset (q_tk ρ p h (q_but t)) → P) → ¬ P → zev zX0 d (195, 3, [zR 53, zI t, zI c, zI (p t.toNat), zI (p (28 + h.toNat)), zI (ρ 71 11), zL (zset (q_tk ρ p h (q_but t))), zR 0, zI ((k : Int) + 1)], [], F, G, zsg) = some (some (zI (zp (∃ r : Nat, k ≤ r ∧ (r : Int) < Φ 71 24 ∧ Φ 88 r = t ∧ Φ 89 r = c ∧ Φ 90 r = p t.toNat ∧ Φ 91 r = p (28 + h.toNat) ∧ Φ 92 r = ρ 71 11 ∧ Γ 93 r = zset (q_tk ρ p h (q_but t))))), F, G, zsg) := by
        intro P h1 h2
        rw [hnx, zp_iff (zE_step (fun q => h2 (h1 q.2)))]
      by_cases c1 : Φ 88 k = t
      · rw [if_pos c1]
        by_cases c2 : Φ 89 k = c
        · rw [if_pos c2]
          by_cases c3 : Φ 90 k = p t.toNat
          · rw [if_pos c3]
            by_cases c4 : Φ 91 k = p (28 + h.toNat)
            · rw [if_pos c4]
              by_cases c5 : Φ 92 k = ρ 71 11
              · rw [if_pos c5]
                by_cases c6 : Γ 93 k = zset (q_tk ρ p h (q_but t))
                · rw [if_pos (zlcmp_eq.mpr c6), zp_t ⟨k, Nat.le_refl _, by omega, c1, c2, c3, c4, c5, c6⟩]
                · rw [if_neg (fun q => c6 (zlcmp_eq.mp q))]
                  exact step (fun q => q.2.2.2.2.2) c6
              · rw [if_neg c5]
                exact step (fun q => q.2.2.2.2.1) c5
            · rw [if_neg c4]
              exact step (fun q => q.2.2.2.1) c4
          · rw [if_neg c3]
            exact step (fun q => q.2.2.1) c3
        · rw [if_neg c2]
          exact step (fun q => q.2.1) c2
      · rw [if_neg c1]
        exact step (fun q => q.1) c1
  refine g_Rules_isSo _ _ _ _ _ _ _ ?_
  have := loop (Φ 71 24).toNat 0 (by omega)
  rw [show ((0 : Nat) : Int) = 0 from rfl] at this
  rw [this, zp_iff]
  unfold q_so
  exact ⟨fun ⟨r, _, q⟩ => ⟨r, q⟩, fun ⟨r, q⟩ => ⟨r, Nat.zero_le _, q⟩⟩
theorem m_isRuled (hd : 4 ≤ d) (hK : zQM Φ Γ F G) (hV : zQV Φ) (hR : zMR ρ F) (hp : F 72 = p) (hRv : zRv ρ) (hA : zPa ρ p) (hh : h = 0 ∨ h = 1) (ht : 0 ≤ t ∧ t < ρ 71 8) : zex d 118 [zR 71, zI h, zI t, zI c] (F, G, zsg) = some (some (zI (zp (q_so ρ Φ Γ p h t c))), @ite _ (q_so ρ Φ Γ p h t c) (Classical.propDecidable _) (zup F 71 31 (zadd (Φ 71 31) 1)) F, G, zsg) := by
  obtain ⟨d, rfl⟩ := zds (show 1 ≤ d by omega)
  have hn := hV.1
  have hn8 := hRv.1.2
  obtain ⟨kc, kr, kg⟩ := hK
  have k24 := kc 24 (by decide)
  have k31 := kc 31 (by decide)
  have k88 := kr 88 (by decide)
  have k89 := kr 89 (by decide)
  have k90 := kr 90 (by decide)
  have k91 := kr 91 (by decide)
  have k92 := kr 92 (by decide)
  have k11 : F 71 11 = ρ 71 11 := hR.2.2.1
  have z0 : zadd 0 t = t := by rw [zadd_eq (by omega) (by omega), Int.zero_add]
  have z28 : zadd 28 h = 28 + h := zadd_eq (by omega) (by omega)
  have t28 : (28 + h).toNat = 28 + h.toNat := by omega
  have g43 : 0 ≤ t ∧ t < 43 := by omega
  have g43' : 0 ≤ 28 + h ∧ 28 + h < 43 := by omega
  have htk := m_takenBut (d := d) (F := F) (G := G) (t := t) (by omega) hR hp hRv hA hh
  have loop : ∀ m k : Nat, (k : Int) + m = Φ 71 24 → (∀ r : Nat, r < k → ¬ (Φ 88 r = t ∧ Φ 89 r = c ∧ Φ 90 r = p t.toNat ∧ Φ 91 r = p (28 + h.toNat) ∧ Φ 92 r = ρ 71 11 ∧ Γ 93 r = zset (q_tk ρ p h (q_but t)))) → zev zX0 d (118, 3, [zR 71, zI h, zI t, zI c, zI k, zR 0], [], F, G, zsg) = some (some (zI (zp (q_so ρ Φ Γ p h t c))), @ite _ (q_so ρ Φ Γ p h t c) (Classical.propDecidable _) (zup F 71 31 (zadd (Φ 71 31) 1)) F, G, zsg) := by
    intro m
    induction m with
    | zero =>
      intro k hk hno
      have hz : ¬ q_so ρ Φ Γ p h t c := by
        rintro ⟨r, q1, q2⟩
        exact hno r (by omega) q2
      refine g_M_isRuled_3 h t c k _ ?_
      rw [k24, if_neg (by omega), zp_f hz, if_neg hz]
    | succ m ih =>
      intro k hk hno
      have hk1 : zadd (k : Int) 1 = k + 1 := zadd_eq (by omega) (by omega)
      have g12 : 0 ≤ (k : Int) ∧ (k : Int) < 12 := by omega
      have step : ¬ (Φ 88 k = t ∧ Φ 89 k = c ∧ Φ 90 k = p t.toNat ∧ Φ 91 k = p (28 + h.toNat) ∧ Φ 92 k = ρ 71 11 ∧ Γ 93 k = zset (q_tk ρ p h (q_but t))) → zev zX0 d (118, 3, [zR 71, zI h, zI t, zI c, zI ((k : Int) + 1), zR 0], [], F, G, zsg) = some (some (zI (zp (q_so ρ Φ Γ p h t c))), @ite _ (q_so ρ Φ Γ p h t c) (Classical.propDecidable _) (zup F 71 31 (zadd (Φ 71 31) 1)) F, G, zsg) := by
        intro hs
        have := ih (k + 1) (by omega) (fun r hr => by
          by_cases hrk : r = k
          · subst hrk; exact hs
          · exact hno r (by omega))
        rw [zcast1] at this
        exact this
      refine g_M_isRuled_3 h t c k _ ?_
      rw [k24, if_pos (by omega), hk1, z0, z28]
      simp only [if_pos g12, if_pos g43, if_pos g43', Int.toNat_natCast, t28, k88, k89, k90, k91, k92, kg, k11, hp, htk, zbL_some]
      by_cases c1 : Φ 88 k = t
      · rw [if_pos c1]
        by_cases c2 : Φ 89 k = c
        · rw [if_pos c2]
          by_cases c3 : Φ 90 k = p t.toNat
          · rw [if_pos c3]
            by_cases c4 : Φ 91 k = p (28 + h.toNat)
            · rw [if_pos c4]
              by_cases c5 : Φ 92 k = ρ 71 11
              · rw [if_pos c5]
                by_cases c6 : Γ 93 k = zset (q_tk ρ p h (q_but t))
                · have hz : q_so ρ Φ Γ p h t c := ⟨k, by omega, c1, c2, c3, c4, c5, c6⟩
                  rw [if_pos (zlcmp_eq.mpr c6), zp_t hz, if_pos hz, k31]
                · rw [if_neg (fun q => c6 (zlcmp_eq.mp q))]
                  exact step (fun q => c6 q.2.2.2.2.2)
              · rw [if_neg c5]
                exact step (fun q => c5 q.2.2.2.2.1)
            · rw [if_neg c4]
              exact step (fun q => c4 q.2.2.2.1)
          · rw [if_neg c3]
            exact step (fun q => c3 q.2.2.1)
        · rw [if_neg c2]
          exact step (fun q => c2 q.2.1)
      · rw [if_neg c1]
        exact step (fun q => c1 q.1)
  refine g_M_isRuled h t c _ ?_
  have := loop (Φ 71 24).toNat 0 (by omega) (fun r hr => by omega)
  rw [show ((0 : Nat) : Int) = 0 from rfl] at this
  exact this
/-- one rule more -/
noncomputable def q_lnF (ρ Φ : zM) (p : Nat → Int) (h t c : Int) : zM := if Φ 71 24 < 12 then zup (zup (zup (zup (zup (zup Φ 88 (Φ 71 24).toNat t) 89 (Φ 71 24).toNat c) 90 (Φ 71 24).toNat (p t.toNat)) 91 (Φ 71 24).toNat (p (28 + h.toNat))) 92 (Φ 71 24).toNat (ρ 71 11)) 71 24 (Φ 71 24 + 1) else Φ
noncomputable def q_lnG (ρ Φ : zM) (Γ : zG) (p : Nat → Int) (h t : Int) : zG := if Φ 71 24 < 12 then zug Γ 93 (Φ 71 24).toNat (zset (q_tk ρ p h (q_but t))) else Γ
theorem zQV.ln (hV : zQV Φ) : zQV (q_lnF ρ Φ p h t c) := by
  unfold q_lnF
  split
  · rename_i q
    obtain ⟨v1, v2⟩ := hV
    unfold zQV
    rw [zup_eq, zup_col (by decide), zup_col (by decide), zup_row (by decide), zup_row (by decide), zup_row (by decide), zup_row (by decide), zup_row (by decide)]
    exact ⟨by omega, v2⟩
  · exact hV
theorem s_learn (hd : 1 ≤ d) (hK : zQC Φ Γ F G) (hV : zQV Φ) : ∃ F' G', zex d 196 [zR 53, zI t, zI c, zI (p t.toNat), zI (p (28 + h.toNat)), zI (ρ 71 11), zL (zset (q_tk ρ p h (q_but t)))] (F, G, zsg) = some (none, F', G', zsg) ∧ zfC F G F' G' ∧ F' 63 = F 63 ∧ zQC (q_lnF ρ Φ p h t c) (q_lnG ρ Φ Γ p h t) F' G' := by
  obtain ⟨d, rfl⟩ := zds hd
  have hK0 := hK
  obtain ⟨⟨k0, k1, k2, k3, k4, k5, k6, k7⟩, k8, k9, k10, k11⟩ := hK
  have hn := hV.1
  by_cases q : Φ 71 24 < 12
  · have g12 : 0 ≤ Φ 71 24 ∧ Φ 71 24 < 12 := ⟨hn.1, q⟩
    have e1 : zadd (Φ 71 24) 1 = Φ 71 24 + 1 := zadd_eq (by omega) (by omega)
    refine ⟨zup (zup (zup (zup (zup (zup F 54 (Φ 71 24).toNat t) 55 (Φ 71 24).toNat c) 56 (Φ 71 24).toNat (p t.toNat)) 57 (Φ 71 24).toNat (p (28 + h.toNat))) 58 (Φ 71 24).toNat (ρ 71 11)) 53 0 (Φ 71 24 + 1), zug G 59 (Φ 71 24).toNat (zset (q_tk ρ p h (q_but t))), g_Rules_learn _ _ _ _ _ _ _ ?_, ?_, ?_, ?_⟩
    · rw [k0, if_pos q]
      simp only [if_pos g12, e1]
    · refine ⟨fun r hr => ?_, fun j hj => ?_, fun r hr => ?_⟩
      · simp only [List.mem_cons, List.not_mem_nil, or_false, not_or] at hr
        rw [zup_row (by omega), zup_row (by omega), zup_row (by omega), zup_row (by omega), zup_row (by omega), zup_row (by omega)]
      · rw [zup_row (by decide), zup_row (by decide), zup_row (by decide), zup_row (by decide), zup_row (by decide), zup_row (by decide)]
      · simp only [List.mem_cons, List.not_mem_nil, or_false, not_or] at hr
        rw [zug_row (by omega)]
    · rw [zup_row (by decide), zup_row (by decide), zup_row (by decide), zup_row (by decide), zup_row (by decide), zup_row (by decide)]
    · unfold q_lnF q_lnG
      rw [if_pos q, if_pos q]
      generalize hn' : (Φ 71 24).toNat = n
      have p24 : ∀ v w x y z u : Int, zup (zup (zup (zup (zup (zup Φ 88 n v) 89 n w) 90 n x) 91 n y) 92 n z) 71 24 u 71 24 = u := fun v w x y z u => zup_eq
      have pc : ∀ (v w x y z u : Int) (j : Nat), j ≠ 24 → zup (zup (zup (zup (zup (zup Φ 88 n v) 89 n w) 90 n x) 91 n y) 92 n z) 71 24 u 71 j = Φ 71 j := fun v w x y z u j hj => by
        rw [zup_col hj, zup_row (by decide), zup_row (by decide), zup_row (by decide), zup_row (by decide), zup_row (by decide)]
      have p88 : ∀ v w x y z u : Int, zup (zup (zup (zup (zup (zup Φ 88 n v) 89 n w) 90 n x) 91 n y) 92 n z) 71 24 u 88 = zu (Φ 88) n v := fun v w x y z u => by
        rw [zup_row (by decide), zup_row (by decide), zup_row (by decide), zup_row (by decide), zup_row (by decide), zup_fn]
      have p89 : ∀ v w x y z u : Int, zup (zup (zup (zup (zup (zup Φ 88 n v) 89 n w) 90 n x) 91 n y) 92 n z) 71 24 u 89 = zu (Φ 89) n w := fun v w x y z u => by
        rw [zup_row (by decide), zup_row (by decide), zup_row (by decide), zup_row (by decide), zup_fn, zup_row (by decide)]
      have p90 : ∀ v w x y z u : Int, zup (zup (zup (zup (zup (zup Φ 88 n v) 89 n w) 90 n x) 91 n y) 92 n z) 71 24 u 90 = zu (Φ 90) n x := fun v w x y z u => by
        rw [zup_row (by decide), zup_row (by decide), zup_row (by decide), zup_fn, zup_row (by decide), zup_row (by decide)]
      have p91 : ∀ v w x y z u : Int, zup (zup (zup (zup (zup (zup Φ 88 n v) 89 n w) 90 n x) 91 n y) 92 n z) 71 24 u 91 = zu (Φ 91) n y := fun v w x y z u => by
        rw [zup_row (by decide), zup_row (by decide), zup_fn, zup_row (by decide), zup_row (by decide), zup_row (by decide)]
      have p92 : ∀ v w x y z u : Int, zup (zup (zup (zup (zup (zup Φ 88 n v) 89 n w) 90 n x) 91 n y) 92 n z) 71 24 u 92 = zu (Φ 92) n z := fun v w x y z u => by
        rw [zup_row (by decide), zup_fn, zup_row (by decide), zup_row (by decide), zup_row (by decide), zup_row (by decide)]
      have pr : ∀ (v w x y z u : Int) (r : Nat), r < 71 ∨ (71 < r ∧ r < 88) → zup (zup (zup (zup (zup (zup Φ 88 n v) 89 n w) 90 n x) 91 n y) 92 n z) 71 24 u r = Φ r := fun v w x y z u r hr => by
        rw [zup_row (by omega), zup_row (by omega), zup_row (by omega), zup_row (by omega), zup_row (by omega), zup_row (by omega)]
      unfold zQC
      rw [p24, pc _ _ _ _ _ _ 31 (by decide), pc _ _ _ _ _ _ 32 (by decide), pc _ _ _ _ _ _ 23 (by decide), pc _ _ _ _ _ _ 19 (by decide), p88, p89, p90, p91, p92, pr _ _ _ _ _ _ 85 (by omega), pr _ _ _ _ _ _ 86 (by omega), pr _ _ _ _ _ _ 87 (by omega)]
      refine ⟨⟨zup_eq, ?_, ?_, ?_, ?_, ?_, ?_, ?_⟩, ?_, ?_, ?_, ?_⟩
      · rw [zup_col (by decide), zup_row (by decide), zup_row (by decide), zup_row (by decide), zup_row (by decide), zup_row (by decide)]; exact k1
      · rw [zup_row (by decide), zup_row (by decide), zup_row (by decide), zup_row (by decide), zup_row (by decide), zup_fn, k2]
      · rw [zup_row (by decide), zup_row (by decide), zup_row (by decide), zup_row (by decide), zup_fn, zup_row (by decide), k3]
      · rw [zup_row (by decide), zup_row (by decide), zup_row (by decide), zup_fn, zup_row (by decide), zup_row (by decide), k4]
      · rw [zup_row (by decide), zup_row (by decide), zup_fn, zup_row (by decide), zup_row (by decide), zup_row (by decide), k5]
      · rw [zup_row (by decide), zup_fn, zup_row (by decide), zup_row (by decide), zup_row (by decide), zup_row (by decide), k6]
      · funext b
        unfold zug
        by_cases hb : b = n
        · rw [if_pos ⟨rfl, hb⟩, if_pos ⟨rfl, hb⟩]
        · rw [if_neg (fun q => hb q.2), if_neg (fun q => hb q.2), k7]
      · rw [zup_row (by decide), zup_row (by decide), zup_row (by decide), zup_row (by decide), zup_row (by decide), zup_row (by decide)]; exact k8
      · rw [zup_row (by decide), zup_row (by decide), zup_row (by decide), zup_row (by decide), zup_row (by decide), zup_row (by decide)]; exact k9
      · rw [zup_row (by decide), zup_row (by decide), zup_row (by decide), zup_row (by decide), zup_row (by decide), zup_row (by decide)]; exact k10
      · rw [zup_row (by decide), zup_row (by decide), zup_row (by decide), zup_row (by decide), zup_row (by decide), zup_row (by decide)]; exact k11
  · refine ⟨F, G, g_Rules_learn _ _ _ _ _ _ _ ?_, zfC.rfl, rfl, ?_⟩
    · rw [k0, if_neg q]
    · unfold q_lnF q_lnG
      rw [if_neg q, if_neg q]
      exact hK0
theorem m_learns (hd : 4 ≤ d) (hK : zQM Φ Γ F G) (hV : zQV Φ) (hR : zMR ρ F) (hp : F 72 = p) (hRv : zRv ρ) (hA : zPa ρ p) (hh : h = 0 ∨ h = 1) (ht : 0 ≤ t ∧ t < ρ 71 8) : ∃ F' G', zex d 119 [zR 71, zI h, zI t, zI c] (F, G, zsg) = some (none, F', G', zsg) ∧ zfM F G F' G' ∧ (∀ j, j ∈ [44, 45, 46, 47] → F' 71 j = F 71 j) ∧ zQM (q_lnF ρ Φ p h t c) (q_lnG ρ Φ Γ p h t) F' G' := by
  obtain ⟨d, rfl⟩ := zds (show 1 ≤ d by omega)
  have hn := hV.1
  have hn8 := hRv.1.2
  have hK0 := hK
  obtain ⟨kc, kr, kg⟩ := hK
  have k24 := kc 24 (by decide)
  have k11 : F 71 11 = ρ 71 11 := hR.2.2.1
  have z0 : zadd 0 t = t := by rw [zadd_eq (by omega) (by omega), Int.zero_add]
  have z28 : zadd 28 h = 28 + h := zadd_eq (by omega) (by omega)
  have t28 : (28 + h).toNat = 28 + h.toNat := by omega
  have g43 : 0 ≤ t ∧ t < 43 := by omega
  have g43' : 0 ≤ 28 + h ∧ 28 + h < 43 := by omega
  by_cases q : Φ 71 24 < 12
  · have g12 : 0 ≤ Φ 71 24 ∧ Φ 71 24 < 12 := ⟨hn.1, q⟩
    have e1 : zadd (Φ 71 24) 1 = Φ 71 24 + 1 := zadd_eq (by omega) (by omega)
    have hfr : zfM F G (zup (zup (zup (zup (zup F 88 (Φ 71 24).toNat t) 89 (Φ 71 24).toNat c) 90 (Φ 71 24).toNat (p t.toNat)) 91 (Φ 71 24).toNat (p (28 + h.toNat))) 92 (Φ 71 24).toNat (ρ 71 11)) G := ((((zfM.row).tr (zfM.row)).tr (zfM.row)).tr (zfM.row)).tr (zfM.row)
    have hK1 : zQM (zup (zup (zup (zup (zup Φ 88 (Φ 71 24).toNat t) 89 (Φ 71 24).toNat c) 90 (Φ 71 24).toNat (p t.toNat)) 91 (Φ 71 24).toNat (p (28 + h.toNat))) 92 (Φ 71 24).toNat (ρ 71 11)) Γ (zup (zup (zup (zup (zup F 88 (Φ 71 24).toNat t) 89 (Φ 71 24).toNat c) 90 (Φ 71 24).toNat (p t.toNat)) 91 (Φ 71 24).toNat (p (28 + h.toNat))) 92 (Φ 71 24).toNat (ρ 71 11)) G := hK0.up.up.up.up.up
    have h71 : zup (zup (zup (zup (zup F 88 (Φ 71 24).toNat t) 89 (Φ 71 24).toNat c) 90 (Φ 71 24).toNat (p t.toNat)) 91 (Φ 71 24).toNat (p (28 + h.toNat))) 92 (Φ 71 24).toNat (ρ 71 11) 71 = F 71 := by rw [zup_row (by decide), zup_row (by decide), zup_row (by decide), zup_row (by decide), zup_row (by decide)]
    have h72 : zup (zup (zup (zup (zup F 88 (Φ 71 24).toNat t) 89 (Φ 71 24).toNat c) 90 (Φ 71 24).toNat (p t.toNat)) 91 (Φ 71 24).toNat (p (28 + h.toNat))) 92 (Φ 71 24).toNat (ρ 71 11) 72 = p := by rw [zup_row (by decide), zup_row (by decide), zup_row (by decide), zup_row (by decide), zup_row (by decide)]; exact hp
    generalize hF1 : zup (zup (zup (zup (zup F 88 (Φ 71 24).toNat t) 89 (Φ 71 24).toNat c) 90 (Φ 71 24).toNat (p t.toNat)) 91 (Φ 71 24).toNat (p (28 + h.toNat))) 92 (Φ 71 24).toNat (ρ 71 11) = F1 at hfr hK1 h71 h72
    have htk := m_takenBut (d := d) (F := F1) (G := G) (t := t) (by omega) (hfr.mr hR) h72 hRv hA hh
    refine ⟨zup F1 71 24 (Φ 71 24 + 1), zug G 93 (Φ 71 24).toNat (zset (q_tk ρ p h (q_but t))), g_M_learns h t c _ ?_, ?_, ?_, ?_⟩
    · rw [k24, if_pos q, z0, z28, hp, k11, t28]
      simp only [if_pos g12, if_pos g43, if_pos g43']
      rw [hF1, htk, zbL_some, h71, k24, e1]
    · refine hfr.tr ((zfM.col (j := 24)).tr ⟨fun _ _ => rfl, fun _ _ => rfl, fun r hr => zug_row hr⟩)
    · intro j hj
      rw [zup_col (by intro e; subst e; revert hj; decide), h71]
    · unfold q_lnF q_lnG
      rw [if_pos q, if_pos q]
      obtain ⟨u1, u2, u3⟩ := hK1.up (r := 71) (j := 24) (v := Φ 71 24 + 1)
      refine ⟨u1, u2, ?_⟩
      funext b
      unfold zug
      by_cases hb : b = (Φ 71 24).toNat
      · rw [if_pos ⟨rfl, hb⟩, if_pos ⟨rfl, hb⟩]
      · rw [if_neg (fun q => hb q.2), if_neg (fun q => hb q.2), u3]
  · refine ⟨F, G, g_M_learns h t c _ ?_, zfM.rfl, fun _ _ => rfl, ?_⟩
    · rw [k24, if_neg q]
    · unfold q_lnF q_lnG
      rw [if_neg q, if_neg q]
      exact hK0
end
