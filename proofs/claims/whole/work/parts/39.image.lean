/-! images, hands, strength, counts: both sides alike (printed by wip/tpl/mk.py out of wip/tpl/39.txt) -/
theorem zSC.x {a : Nat} {p p' : Nat → Int} {F : zM} (h : zSC a p F) (e : ∀ j, j < 43 → p' j = p j) : zSC a p' F := by
  obtain ⟨h1, ⟨h2, h3⟩, h4, h5⟩ := h
  refine ⟨fun t ht => ?_, ⟨h2, fun x hx => ?_⟩, fun g hg => ?_, ?_⟩
  · rw [e _ (by omega), e _ (by omega), e _ (by omega)]; exact h1 t ht
  · rw [e _ (by omega)]; exact h3 x hx
  · rw [e _ (by omega), e _ (by omega), e _ (by omega), e _ (by omega), e _ (by omega), e _ (by omega), e _ (by omega)]; exact h4 g hg
  · rw [e _ (by omega)]; exact h5
theorem zPv.x {ρ : zM} {p p' : Nat → Int} (hV : zRv ρ) (h : zPv ρ p) (e : ∀ j, j < 43 → p' j = p j) : zPv ρ p' := by
  obtain ⟨p1, p2, p3, p4, p5, p6, p7, p8, p9⟩ := h
  have hn8 := hV.1
  refine ⟨fun u h8 => by rw [e u (by omega)]; exact p1 u h8, fun g hg => by rw [e _ (by omega)]; exact p2 g hg, fun g hg => by rw [e _ (by omega)]; exact p3 g hg, fun u h8 => by rw [e _ (by omega)]; exact p4 u h8, fun u h8 h9 => by rw [e _ (by omega), e _ (by omega)]; exact p5 u h8 h9, fun x hx => by rw [e _ (by omega)]; exact p6 x hx, fun x hx h9 => by rw [e _ (by omega)]; exact p7 x hx h9, fun g hg hne => ?_, fun u g h8 hg h9 => by rw [e _ (by omega)] at h9 ⊢; exact p9 u g h8 hg h9⟩
  rw [e (30 + g) (by omega)] at hne ⊢
  have hb2 := p3 g hg
  have hdg := p8 g hg hne
  rw [e _ (by omega), e _ (by omega), e _ (by omega), e _ (by omega)]
  exact hdg
theorem zNO.x {ρ : zM} {p p' : Nat → Int} (h : zNO ρ p) (e : ∀ j, j < 43 → p' j = p j) : zNO ρ p' := by
  intro t u h1 h2
  rw [e t (by omega), e u (by omega)]
  exact h t u h1 h2
theorem zGr.x {F : zM} {p p' : Nat → Int} (h : zGr F p) (e : ∀ j, j < 43 → p' j = p j) : zGr F p' := by
  intro g hg
  rw [e _ (by omega), e _ (by omega), e (40 + g) (by omega)]
  exact h g hg
theorem zcpy_row {F : zM} {a0 sp a1 dp n a : Nat} (h : a ≠ a1) : zcpy F a0 sp a1 dp n a = F a := by funext b; simp [zcpy, h]
theorem zcpy_at {F : zM} {a0 a1 n b : Nat} (h : b < n) : zcpy F a0 0 a1 0 n a1 b = F a0 b := by simp [zcpy, h]
section
variable {d : Nat} {F ρ : zM} {G : zG} {p : Nat → Int}
theorem s_become_22_11 (hd : 1 ≤ d) (hS : zSC 11 p F) : ∃ F', zex d 198 [zR 22, zR 11] (F, G, zsg) = some (none, F', G, zsg) ∧ zSC 22 p F' ∧ (∀ r, (r < 22 ∨ 32 < r) → F' r = F r) := by
  obtain ⟨d, rfl⟩ := zds hd
  refine ⟨_, g_Scene_become_22_11 _ rfl, ?_, fun r hr => ?_⟩
  · obtain ⟨h1, ⟨h2, h3⟩, h4, h5⟩ := hS
    refine ⟨fun t ht => ?_, ⟨?_, fun x hx => ?_⟩, fun g hg => ?_, ?_⟩
    · rw [← (h1 t ht).1, ← (h1 t ht).2.1, ← (h1 t ht).2.2]
      simp [zcpy, zup, ht]
    · simp [zcpy, zup]; omega
    · rw [h3 x hx]; simp [zcpy, zup]
    · have := h4 g hg
      rw [← this.1, ← this.2.1, ← this.2.2.1, ← this.2.2.2.1, ← this.2.2.2.2.1, ← this.2.2.2.2.2.1, ← this.2.2.2.2.2.2]
      simp [zcpy, zup, hg]
    · rw [← h5]; simp [zcpy, zup]
  · rw [zcpy_row (by omega), zcpy_row (by omega), zcpy_row (by omega), zcpy_row (by omega), zcpy_row (by omega), zcpy_row (by omega), zcpy_row (by omega), zcpy_row (by omega), zcpy_row (by omega), zcpy_row (by omega), zup_row (by omega), zup_row (by omega)]
theorem s_become_33_11 (hd : 1 ≤ d) (hS : zSC 11 p F) : ∃ F', zex d 198 [zR 33, zR 11] (F, G, zsg) = some (none, F', G, zsg) ∧ zSC 33 p F' ∧ (∀ r, (r < 33 ∨ 43 < r) → F' r = F r) := by
  obtain ⟨d, rfl⟩ := zds hd
  refine ⟨_, g_Scene_become_33_11 _ rfl, ?_, fun r hr => ?_⟩
  · obtain ⟨h1, ⟨h2, h3⟩, h4, h5⟩ := hS
    refine ⟨fun t ht => ?_, ⟨?_, fun x hx => ?_⟩, fun g hg => ?_, ?_⟩
    · rw [← (h1 t ht).1, ← (h1 t ht).2.1, ← (h1 t ht).2.2]
      simp [zcpy, zup, ht]
    · simp [zcpy, zup]; omega
    · rw [h3 x hx]; simp [zcpy, zup]
    · have := h4 g hg
      rw [← this.1, ← this.2.1, ← this.2.2.1, ← this.2.2.2.1, ← this.2.2.2.2.1, ← this.2.2.2.2.2.1, ← this.2.2.2.2.2.2]
      simp [zcpy, zup, hg]
    · rw [← h5]; simp [zcpy, zup]
  · rw [zcpy_row (by omega), zcpy_row (by omega), zcpy_row (by omega), zcpy_row (by omega), zcpy_row (by omega), zcpy_row (by omega), zcpy_row (by omega), zcpy_row (by omega), zcpy_row (by omega), zcpy_row (by omega), zup_row (by omega), zup_row (by omega)]
theorem s_become_11_22 (hd : 1 ≤ d) (hS : zSC 22 p F) : ∃ F', zex d 198 [zR 11, zR 22] (F, G, zsg) = some (none, F', G, zsg) ∧ zSC 11 p F' ∧ (∀ r, (r < 11 ∨ 21 < r) → F' r = F r) := by
  obtain ⟨d, rfl⟩ := zds hd
  refine ⟨_, g_Scene_become_11_22 _ rfl, ?_, fun r hr => ?_⟩
  · obtain ⟨h1, ⟨h2, h3⟩, h4, h5⟩ := hS
    refine ⟨fun t ht => ?_, ⟨?_, fun x hx => ?_⟩, fun g hg => ?_, ?_⟩
    · rw [← (h1 t ht).1, ← (h1 t ht).2.1, ← (h1 t ht).2.2]
      simp [zcpy, zup, ht]
    · simp [zcpy, zup]; omega
    · rw [h3 x hx]; simp [zcpy, zup]
    · have := h4 g hg
      rw [← this.1, ← this.2.1, ← this.2.2.1, ← this.2.2.2.1, ← this.2.2.2.2.1, ← this.2.2.2.2.2.1, ← this.2.2.2.2.2.2]
      simp [zcpy, zup, hg]
    · rw [← h5]; simp [zcpy, zup]
  · rw [zcpy_row (by omega), zcpy_row (by omega), zcpy_row (by omega), zcpy_row (by omega), zcpy_row (by omega), zcpy_row (by omega), zcpy_row (by omega), zcpy_row (by omega), zcpy_row (by omega), zcpy_row (by omega), zup_row (by omega), zup_row (by omega)]
theorem s_become_11_33 (hd : 1 ≤ d) (hS : zSC 33 p F) : ∃ F', zex d 198 [zR 11, zR 33] (F, G, zsg) = some (none, F', G, zsg) ∧ zSC 11 p F' ∧ (∀ r, (r < 11 ∨ 21 < r) → F' r = F r) := by
  obtain ⟨d, rfl⟩ := zds hd
  refine ⟨_, g_Scene_become_11_33 _ rfl, ?_, fun r hr => ?_⟩
  · obtain ⟨h1, ⟨h2, h3⟩, h4, h5⟩ := hS
    refine ⟨fun t ht => ?_, ⟨?_, fun x hx => ?_⟩, fun g hg => ?_, ?_⟩
    · rw [← (h1 t ht).1, ← (h1 t ht).2.1, ← (h1 t ht).2.2]
      simp [zcpy, zup, ht]
    · simp [zcpy, zup]; omega
    · rw [h3 x hx]; simp [zcpy, zup]
    · have := h4 g hg
      rw [← this.1, ← this.2.1, ← this.2.2.1, ← this.2.2.2.1, ← this.2.2.2.2.1, ← this.2.2.2.2.2.1, ← this.2.2.2.2.2.2]
      simp [zcpy, zup, hg]
    · rw [← h5]; simp [zcpy, zup]
  · rw [zcpy_row (by omega), zcpy_row (by omega), zcpy_row (by omega), zcpy_row (by omega), zcpy_row (by omega), zcpy_row (by omega), zcpy_row (by omega), zcpy_row (by omega), zcpy_row (by omega), zcpy_row (by omega), zup_row (by omega), zup_row (by omega)]
theorem a_image (hd : 2 ≤ d) (A : zAll ρ p F G) : zStep d 34 129 [] F G := by
  obtain ⟨d, rfl⟩ := zds (show 1 ≤ d by omega)
  obtain ⟨⟨n1, n2, n3, n4, n5, n6⟩, a2, a3, a4, a5, a6, a7, a8, a9⟩ := A
  obtain ⟨F1, e1, e2, e3⟩ := s_become_33_11 (d := d) (G := G) (by omega) n1
  have e3 : ∀ r, (r < 33 ∨ 43 < r) → F1 r = F r := e3
  have loop : ∀ (m k : Nat) (F2 : zM), k + m = 43 → F2 72 = p → ∃ F', zev zX0 d (129, 2, [zR 71, zI k], [], F2, G, zsg) = some (some (zI (p 42)), F', G, zsg) ∧ F' 71 = zu (F2 71) 3 1 ∧ (∀ r, r ≠ 71 → r ≠ 74 → F' r = F2 r) ∧ ∀ j, j < 43 → F' 74 j = if k ≤ j then p j else F2 74 j := by
    intro m
    induction m with
    | zero =>
      intro k F2 hk hp2
      refine ⟨zup F2 71 3 1, g_M_image_2 k _ ?_, zup_fn, fun r r1 _ => zup_row r1, fun j hj => ?_⟩
      · rw [if_neg (by omega), hp2]
      · rw [zup_row (by decide), if_neg (by omega)]
    | succ m ih =>
      intro k F2 hk hp2
      obtain ⟨F', f1, f2, f3, f4⟩ := ih (k + 1) (zup F2 74 k (p k)) (by omega) (by rw [zup_row (by decide)]; exact hp2)
      rw [zcast1] at f1
      refine ⟨F', g_M_image_2 k _ ?_, by rw [f2, zup_row (by decide)], fun r r1 r2 => by rw [f3 r r1 r2, zup_row r2], fun j hj => ?_⟩
      · have g43 : 0 ≤ (k : Int) ∧ (k : Int) < 43 := by omega
        rw [if_pos g43.2, if_pos g43, if_pos g43, hp2, Int.toNat_natCast, zadd_eq (by omega) (by omega)]
        exact f1
      · rw [f4 j hj]
        by_cases hjk : j = k
        · subst hjk
          rw [if_neg (by omega), if_pos (Nat.le_refl _), zup_eq]
        · by_cases hkj : k + 1 ≤ j
          · rw [if_pos hkj, if_pos (by omega)]
          · rw [if_neg hkj, if_neg (by omega), zup_col hjk]
  obtain ⟨F2, f1, f2, f3, f4⟩ := loop 43 0 (zup F1 5 4 1) (by omega) (by rw [zup_row (by decide), e3 72 (by decide)]; exact n4)
  have f4 : ∀ j, j < 43 → F2 74 j = p j := fun j hj => by rw [f4 j hj, if_pos (Nat.zero_le _)]
  have hF : ∀ r, r ≠ 71 → r ≠ 74 → r ≠ 5 → (r < 33 ∨ 43 < r) → F2 r = F r := fun r r1 r2 r3 r4 => by rw [f3 r r1 r2, zup_row r3, e3 r r4]
  have hF2 : ∀ r, r ≠ 71 → r ≠ 74 → r ≠ 5 → F2 r = F1 r := fun r r1 r2 r3 => by rw [f3 r r1 r2, zup_row r3]
  have h71 : F2 71 = zu (F 71) 3 1 := by rw [f2, zup_row (by decide), e3 71 (by decide)]
  have hc : zch [5, 33, 34, 35, 36, 37, 38, 39, 40, 41, 42, 43, 74] [3] F F2 := by
    refine ⟨fun r hr r71 => ?_, fun j hj => ?_⟩
    · simp only [List.mem_cons, List.not_mem_nil, or_false, not_or] at hr
      exact hF r r71 (by omega) (by omega) (by omega)
    · simp only [List.mem_cons, List.not_mem_nil, or_false] at hj
      rw [h71, zu_ne hj]
  have e64 : F2 64 = F 64 := hF 64 (by decide) (by decide) (by decide) (by decide)
  have hR2 : zMR ρ F2 := n3.fr2 (hc.2 5 (by decide)) (hc.2 8 (by decide)) (hc.2 11 (by decide)) (hF 75 (by decide) (by decide) (by decide) (by decide)) (hF 76 (by decide) (by decide) (by decide) (by decide)) (hF 77 (by decide) (by decide) (by decide) (by decide)) (hF 78 (by decide) (by decide) (by decide) (by decide)) (hF 79 (by decide) (by decide) (by decide) (by decide))
  refine ⟨p 42, zup F1 5 4 1, G, F2, G, g_C_image _ ?_, g_M_image _ f1, ρ, p, ⟨n1.fr (fun k hk => hF _ (by omega) (by omega) (by omega) (by omega)), n2.fr (hF 6 (by decide) (by decide) (by decide) (by decide)) (hF 7 (by decide) (by decide) (by decide) (by decide)) (hF 8 (by decide) (by decide) (by decide) (by decide)) (hF 9 (by decide) (by decide) (by decide) (by decide)) (hF 10 (by decide) (by decide) (by decide) (by decide)) rfl, hR2, by rw [hF 72 (by decide) (by decide) (by decide) (by decide)]; exact n4, n5, n6⟩, a2, a3.ch hc, ?_, a5.ch hc, a6.ch hc, a7.ch hc ⟨rfl, rfl⟩, a8.ch hc (by decide) (by decide) (by rw [e64]) (by rw [e64]), a9.ch hc⟩
  · rw [e1, zbV_some]
    have : F1 11 0 = p 42 := by rw [e3 11 (by decide)]; exact n1.2.2.2
    rw [this]
  · have h3 : F2 71 3 = 1 := by rw [h71, zu_eq]
    have h54 : F2 5 4 = 1 := by rw [f3 5 (by decide) (by decide), zup_eq]
    refine ⟨by rw [h3, h54], Or.inr h3, fun _ => ⟨?_, n6.x n5 f4, a2.x f4, (a3.ch hc).x f4⟩⟩
    exact (e2.fr (fun k hk => hF2 _ (by omega) (by omega) (by omega))).x f4
theorem a_back (hd : 2 ≤ d) (A : zAll ρ p F G) : zStep d 35 130 [] F G := by
  obtain ⟨d, rfl⟩ := zds (show 1 ≤ d by omega)
  have A0 := A
  obtain ⟨⟨n1, n2, n3, n4, n5, n6⟩, a2, a3, ⟨i1, i2, i3⟩, a5, a6, a7, a8, a9⟩ := A
  by_cases h3 : F 71 3 = 0
  · refine A0.same (v := -3) (g_C_back _ ?_) (g_M_back _ ?_)
    · rw [i1, if_pos h3]
    · rw [if_pos h3]
  · have h31 : F 71 3 = 1 := i2.resolve_left h3
    obtain ⟨b1, b2, b3, b4⟩ := i3 h31
    obtain ⟨F1, e1, e2, e3⟩ := s_become_11_33 (d := d) (G := G) (by omega) b1
    have e3 : ∀ r, (r < 11 ∨ 21 < r) → F1 r = F r := e3
    have loop : ∀ (m k : Nat) (F2 : zM), k + m = 43 → F2 74 = F 74 → (∀ j, j < k → F2 72 j = F 74 j) → ∃ F', zev zX0 d (130, 12, [zR 71, zI k], [], F2, G, zsg) = some (some (zI (F 74 42)), F', G, zsg) ∧ (∀ r, r ≠ 72 → F' r = F2 r) ∧ ∀ j, j < 43 → F' 72 j = F 74 j := by
      intro m
      induction m with
      | zero =>
        intro k F2 hk hp2 hj
        refine ⟨F2, g_M_back_12 k _ ?_, fun r _ => rfl, fun j h => hj j (by omega)⟩
        rw [if_neg (by omega), hj 42 (by omega)]
      | succ m ih =>
        intro k F2 hk hp2 hj
        obtain ⟨F', f1, f2, f3⟩ := ih (k + 1) (zup F2 72 k (F 74 k)) (by omega) (by rw [zup_row (by decide)]; exact hp2) (fun j h => by
          by_cases hjk : j = k
          · subst hjk; exact zup_eq
          · rw [zup_col hjk]; exact hj j (by omega))
        rw [zcast1] at f1
        refine ⟨F', g_M_back_12 k _ ?_, fun r r1 => by rw [f2 r r1, zup_row r1], f3⟩
        have g43 : 0 ≤ (k : Int) ∧ (k : Int) < 43 := by omega
        rw [if_pos g43.2, if_pos g43, if_pos g43, hp2, Int.toNat_natCast, zadd_eq (by omega) (by omega)]
        exact f1
    obtain ⟨F2, f1, f2, f3⟩ := loop 43 0 F1 (by omega) (e3 74 (by decide)) (fun j h => by omega)
    have h11 : F1 11 0 = F 74 42 := e2.2.2.2
    refine ⟨F 74 42, F1, G, F2, G, g_C_back _ ?_, g_M_back _ ?_, ρ, F2 72, A0.act ((e2.fr (fun k hk => f2 _ (by omega))).x f3) rfl (b2.x n5 f3) (b3.x f3) (b4.x f3) (fun r _ r2 r3 _ _ => by rw [f2 r r3, e3 r r2]) (fun r _ _ => rfl)⟩
    · rw [i1, if_neg h3, e1, zbV_some, h11]
    · rw [e3 71 (by decide), if_neg h3]
      exact f1
theorem a_count (hd : 1 ≤ d) (A : zAll ρ p F G) (w : Int) : zStep d 19 97 [zI w] F G := by
  obtain ⟨d, rfl⟩ := zds hd
  have A0 := A
  obtain ⟨⟨n1, n2, n3, n4, n5, n6⟩, a2, a3, a4, a5, a6, a7, a8, a9⟩ := A
  have h0 : F 11 0 = p 42 := n1.2.2.2
  refine A0.same (v := if w = 0 then p 42 else if w = 1 then ρ 71 8 else if w = 2 then ρ 71 5 else if w = 3 then F 71 12 else if w = 4 then F 71 18 else if w = 5 then ρ 71 11 else if w = 6 then F 71 33 else if w = 7 then F 71 24 else -2) (g_C_count w _ ?_) (g_M_count w _ ?_)
  · rw [h0, n2.1, n2.2.1, n2.2.2.1, a5.1, a5.2.2.1, a8.1, a7.1]
    repeat' split
    all_goals rfl
  · rw [n4, n3.1, n3.2.1, n3.2.2.1]
    repeat' split
    all_goals rfl
theorem a_hangs (hd : 2 ≤ d) (A : zAll ρ p F G) (w : Int) : zStep d 27 114 [zI w] F G := by
  obtain ⟨d, rfl⟩ := zds (show 1 ≤ d by omega)
  have A0 := A
  obtain ⟨⟨n1, n2, n3, n4, n5, n6⟩, a2, a3, a4, a5, a6, a7, a8, a9⟩ := A
  have g0 := (a3 0 (by decide)).1
  have g1 := (a3 1 (by decide)).1
  have st : ∀ h : Int, h = 0 ∨ h = 1 → zex d 201 [zR 11, zI h, zI w] (F, G, zsg) = some (some (zI (zp (p (34 + h.toNat) ≠ -1 ∧ w ≤ p (40 + h.toNat)))), F, G, zsg) := by
    intro h hh
    obtain ⟨d', rfl⟩ := zds (show 1 ≤ d by omega)
    have e18 : F 18 h.toNat = p (34 + h.toNat) := (n1.hn hh).2.2.2.1
    have e21 : F 21 h.toNat = p (40 + h.toNat) := (n1.hn hh).2.2.2.2.2.2
    have h2 : 0 ≤ h ∧ h < 2 := by omega
    have gr := (a3 h.toNat (by omega)).1
    refine g_Scene_isStuck h w _ ?_
    rw [if_pos h2, e18, if_pos h2, e21]
    split
    · rw [zp_f (by omega)]
    · split
      · rw [zp_f (by omega)]
      · rw [zp_t (by omega)]
  by_cases c1 : 1 ≤ w ∧ w ≤ 99
  · refine A0.same (v := if p 34 = -1 then 0 else if p 35 = -1 then 0 else if p 40 < w then 0 else if p 41 < w then 0 else 1) (g_C_hangs w _ ?_) (g_M_hangs w _ ?_)
    · rw [if_neg (by omega), if_neg (by omega), st 0 (Or.inl rfl), zbI_some, st 1 (Or.inr rfl), zbI_some]
      show (if zp (p 34 ≠ -1 ∧ w ≤ p 40) = 0 then some (some (zI 0), F, G, zsg) else if zp (p 35 ≠ -1 ∧ w ≤ p 41) = 0 then some (some (zI 0), F, G, zsg) else some (some (zI 1), F, G, zsg)) = _
      by_cases q1 : p 34 ≠ -1 ∧ w ≤ p 40
      · rw [zp_t q1, if_neg (by decide), if_neg q1.1]
        by_cases q2 : p 35 ≠ -1 ∧ w ≤ p 41
        · rw [zp_t q2, if_neg (by decide), if_neg q2.1, if_neg (by omega), if_neg (by omega)]
        · rw [zp_f q2, if_pos rfl]
          repeat' split
          all_goals first | rfl | (exfalso; omega)
      · rw [zp_f q1, if_pos rfl]
        repeat' split
        all_goals first | rfl | (exfalso; omega)
    · rw [m_in (by omega), zbI_some, zp_t c1, if_neg (by decide), n4]
      repeat' split
      all_goals rfl
  · refine A0.same (v := -2) (g_C_hangs w _ ?_) (g_M_hangs w _ ?_)
    · split
      · rfl
      · rw [if_pos (by omega)]
    · rw [m_in (by omega), zbI_some, zp_f c1, if_pos rfl]
end
