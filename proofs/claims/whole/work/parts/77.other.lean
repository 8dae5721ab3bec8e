/-! another thing is asked to a place, and the aim behind each of its moves, on both sides at once -/
/-- a thing lies elsewhere, and a hand is elsewhere -/
def q_pp (p : Nat → Int) (h t c v : Int) : Nat → Int := zu (zu p t.toNat c) (28 + h.toNat) v
def zJO (ρ : zM) (p : Nat → Int) (h A C : Int) (Φ : zM) (Γ : zG) (cc mm : zM → zG → Option zQ) : Prop := ∃ (Φ' : zM) (Γ' : zG), zQV Φ' ∧
  (∀ F G, zSC 22 p F → zPC ρ h A C F G → zQC Φ Γ F G → ∃ F' G', cc F G = some (none, F', G', zsg) ∧ zfC F G F' G' ∧ zQC Φ' Γ' F' G') ∧
  (∀ F G, zMR ρ F → F 72 = p → zQM Φ Γ F G → F 71 44 = -1 → F 71 47 = 0 → ∃ F' G', mm F G = some (none, F', G', zsg) ∧ zfM F G F' G' ∧ zQM Φ' Γ' F' G' ∧ F' 71 44 = -1 ∧ F' 71 47 = 0)
section
variable {d e : Nat} {F F' ρ Φ : zM} {G G' Γ : zG} {p : Nat → Int} {h A C gone t c : Int}
theorem q_pp_e (hh : h = 0 ∨ h = 1) (ht : 0 ≤ t ∧ t < 8) {v : Int} : q_pp p h t c v t.toNat = c ∧ q_pp p h t c v (28 + h.toNat) = v ∧ ∀ j, j ≠ t.toNat → j ≠ 28 + h.toNat → q_pp p h t c v j = p j := by
  unfold q_pp
  exact ⟨by rw [zu_ne (by omega), zu_eq], zu_eq, fun j h1 h2 => by rw [zu_ne h2, zu_ne h1]⟩
theorem q_pp_sc (hS : zSC 22 p F) (hh : h = 0 ∨ h = 1) (ht : 0 ≤ t ∧ t < 8) {v : Int} : zSC 22 (q_pp p h t c v) (zup (zup F 23 t.toNat c) 26 h.toNat v) := by
  obtain ⟨e1, e2, e3⟩ := q_pp_e (p := p) (c := c) (v := v) hh ht
  obtain ⟨s1, s2, s3, s4⟩ := hS
  have r23 : zup (zup F 23 t.toNat c) 26 h.toNat v 23 = zu (F 23) t.toNat c := by rw [zup_row (by decide), zup_fn]
  have r26 : zup (zup F 23 t.toNat c) 26 h.toNat v 26 = zu (F 26) h.toNat v := by rw [zup_fn, zup_row (by decide)]
  have ro : ∀ r, r ≠ 23 → r ≠ 26 → zup (zup F 23 t.toNat c) 26 h.toNat v r = F r := fun r q1 q2 => by rw [zup_row q2, zup_row q1]
  generalize zup (zup F 23 t.toNat c) 26 h.toNat v = F2 at r23 r26 ro
  refine ⟨fun u hu => ?_, ⟨?_, fun e he => ?_⟩, fun g hg => ?_, ?_⟩
  · show F2 23 u = _ ∧ F2 24 u = _ ∧ F2 25 u = _
    rw [r23, ro 24 (by decide) (by decide), ro 25 (by decide) (by decide), e3 (8 + u) (by omega) (by omega), e3 (16 + u) (by omega) (by omega)]
    refine ⟨?_, (s1 u hu).2⟩
    by_cases q : u = t.toNat
    · rw [q, zu_eq, e1]
    · rw [zu_ne q, e3 u q (by omega)]
      exact (s1 u hu).1
  · rw [ro 22 (by decide) (by decide)]
    exact s2.1
  · rw [ro 22 (by decide) (by decide), e3 (24 + e) (by omega) (by omega)]
    exact s2.2 e he
  · show F2 26 g = _ ∧ F2 27 g = _ ∧ F2 28 g = _ ∧ F2 29 g = _ ∧ F2 30 g = _ ∧ F2 31 g = _ ∧ F2 32 g = _
    rw [r26, ro 27 (by decide) (by decide), ro 28 (by decide) (by decide), ro 29 (by decide) (by decide), ro 30 (by decide) (by decide), ro 31 (by decide) (by decide), ro 32 (by decide) (by decide), e3 (30 + g) (by omega) (by omega), e3 (32 + g) (by omega) (by omega), e3 (34 + g) (by omega) (by omega), e3 (36 + g) (by omega) (by omega), e3 (38 + g) (by omega) (by omega), e3 (40 + g) (by omega) (by omega)]
    refine ⟨?_, (s3 g hg).2⟩
    by_cases q : g = h.toNat
    · rw [q, zu_eq, e2]
    · rw [zu_ne q, e3 (28 + g) (by omega) (by omega)]
      exact (s3 g hg).1
  · rw [ro 22 (by decide) (by decide), e3 42 (by omega) (by omega)]
    exact s4
theorem q_pp_pa (hA : zPa ρ p) (hh : h = 0 ∨ h = 1) (ht : 0 ≤ t ∧ t < 8) (hc : 0 ≤ c ∧ c < 64) (hw : c % 8 + ρ 79 t.toNat ≤ 8) {v : Int} : zPa ρ (q_pp p h t c v) := by
  obtain ⟨e1, e2, e3⟩ := q_pp_e (p := p) (c := c) (v := v) hh ht
  intro u hu
  by_cases q : u = t.toNat
  · rw [q, e1]
    exact Or.inr ⟨hc.1, hc.2, hw⟩
  · rw [e3 u q (by omega)]
    exact hA u hu
theorem q_pp_hr (hr : zHr p) (hh : h = 0 ∨ h = 1) (ht : 0 ≤ t ∧ t < 8) {v : Int} (hv : -1 ≤ v ∧ v < 64) : zHr (q_pp p h t c v) := by
  obtain ⟨e1, e2, e3⟩ := q_pp_e (p := p) (c := c) (v := v) hh ht
  intro g hg
  by_cases q : g = h.toNat
  · rw [q, e2]
    exact hv
  · rw [e3 (28 + g) (by omega) (by omega)]
    exact hr g hg
/-- behind a first move only the aim is sought -/
theorem s_seek1 (hd : 1 ≤ d) (hV : zRv ρ) (hAr : 0 ≤ A ∧ A < ρ 71 8) (hP : zPC ρ h A C F G) (he : zex d 187 [zR 60, zI A, zI C, zI 1, zI 2, zI gone] (F, G, zsg) = some (none, F', G', zsg)) (hP' : zPC ρ h A C F' G') : zex (d + 1) 185 [zR 60, zI 1, zI 2, zI gone] (F, G, zsg) = some (none, F', G', zsg) := by
  have hn8 := hV.1
  have z12 : ¬ zadd 1 1 < 2 := by decide
  have after : ∀ m k : Nat, (k : Int) + m = ρ 71 8 → A < k → zev zX0 d (185, 9, [zR 60, zI 1, zI 2, zI gone, zI k], [], F', G', zsg) = some (none, F', G', zsg) := by
    intro m
    induction m with
    | zero =>
      intro k hk hA
      refine g_Planner_seek_9 _ _ _ _ _ ?_
      rw [hP'.1.1, if_neg (by omega)]
    | succ m ih =>
      intro k hk hA
      have hn := ih (k + 1) (by omega) (by omega)
      rw [zcast1] at hn
      refine g_Planner_seek_9 _ _ _ _ _ ?_
      rw [hP'.1.1, if_pos (by omega), hP'.2.2.1, if_neg (by omega), if_neg z12, zadd_eq (x := (k : Int)) (by omega) (by omega)]
      exact hn
  have before : ∀ m k : Nat, (k : Int) + m = A → zev zX0 d (185, 9, [zR 60, zI 1, zI 2, zI gone, zI k], [], F, G, zsg) = some (none, F', G', zsg) := by
    intro m
    induction m with
    | zero =>
      intro k hk
      have hn := after (ρ 71 8 - A - 1).toNat (k + 1) (by omega) (by omega)
      rw [zcast1] at hn
      refine g_Planner_seek_9 _ _ _ _ _ ?_
      have hkA : (k : Int) = A := by omega
      rw [hP.1.1, if_pos (by omega), hP.2.2.1, if_pos hkA, hP.2.2.2, hkA, he, zbV_some, zadd_eq (x := A) (by omega) (by omega)]
      rw [hkA] at hn
      exact hn
    | succ m ih =>
      intro k hk
      have hn := ih (k + 1) (by omega)
      rw [zcast1] at hn
      refine g_Planner_seek_9 _ _ _ _ _ ?_
      rw [hP.1.1, if_pos (by omega), hP.2.2.1, if_neg (by omega), if_neg z12, zadd_eq (x := (k : Int)) (by omega) (by omega)]
      exact hn
  refine g_Planner_seek _ _ _ _ ?_
  rw [if_pos (by decide)]
  have := before A.toNat 0 (by omega)
  rw [show ((0 : Nat) : Int) = 0 from rfl] at this
  exact this
theorem s_note0 (hd : 1 ≤ d) {s : Int} : ∃ Fn, zex d 189 [zR 60, zI 0, zI t, zI s, zI c] (F, G, zsg) = some (none, Fn, G, zsg) ∧ (∀ r, r ≠ 63 → Fn r = F r) ∧ (Fn 63 0 = t ∧ Fn 63 1 = s ∧ Fn 63 2 = c) := by
  obtain ⟨d, rfl⟩ := zds (show 1 ≤ d by omega)
  have hm : zmul 0 3 = 0 := by decide
  have ha1 : zadd 0 1 = 1 := by decide
  have ha2 : zadd 0 2 = 2 := by decide
  have hn := g_Planner_noteMove (d := d) (F := F) (G := G) 0 t s c
  rw [hm, ha1, ha2, if_pos (by decide), if_pos (by decide), if_pos (by decide)] at hn
  refine ⟨_, hn _ rfl, fun r hr => by rw [zup_row hr, zup_row hr, zup_row hr], ?_, ?_, ?_⟩
  · rw [zup_col (by decide), zup_col (by decide)]; exact zup_eq
  · rw [zup_col (by decide)]; exact zup_eq
  · exact zup_eq
theorem j_otherloop (hd : 7 ≤ d) (he : 7 ≤ e) (hV : zRv ρ) (hA : zPa ρ p) (hr : zHr p) (hh : h = 0 ∨ h = 1) (hc1 : p (28 + h.toNat) ≠ -1) (hAr : 0 ≤ A ∧ A < ρ 71 8) (hCr : 0 ≤ C ∧ C < 64) (ht : 0 ≤ t ∧ t < ρ 71 8) (htA : t ≠ A) (hc : 0 ≤ c ∧ c < 64) :
    ∀ (m s : Nat) (acc : Int) (Φ : zM) (Γ : zG), s + m = 4 → (acc = 0 ∨ acc = 1) → zQV Φ → zJO ρ p h A C Φ Γ
      (fun F G => zev zX0 d (187, 90, [zR 60, zI t, zI c, zI 0, zI 2, zI 0, zI (p t.toNat), zI (p (28 + h.toNat)), zL (zset (q_tk ρ p h (q_but t))), zR 0, zI acc, zI s, zR 0], [], F, G, zsg))
      (fun F G => zev zX0 e (121, 38, [zR 71, zI h, zI t, zI c, zI A, zI C, zI acc, zI (p t.toNat), zI (p (28 + h.toNat)), zI s, zR 0], [], F, G, zsg)) := by
  intro m
  have hn8 := hV.1.2
  have g8 : 0 ≤ t ∧ t < 8 := by omega
  have z0 : zadd 0 t = t := by rw [zadd_eq (by omega) (by omega), Int.zero_add]
  have z28 : zadd 28 h = 28 + h := zadd_eq (by omega) (by omega)
  have t28 : (28 + h).toNat = 28 + h.toNat := by omega
  have g43 : 0 ≤ t ∧ t < 43 := by omega
  have g43' : 0 ≤ 28 + h ∧ 28 + h < 43 := by omega
  have hw := hV.2.2.2.2.1 t.toNat (by omega)
  induction m with
  | zero =>
    intro s acc Φ Γ hs hacc hQ
    rcases hacc with hacc | hacc
    · subst hacc
      refine ⟨q_lnF ρ Φ p h t c, q_lnG ρ Φ Γ p h t, hQ.ln, fun F G hS hP hK => ?_, fun F G hR hp hK h44 h47 => ?_⟩
      · obtain ⟨F', G', e1, e2, e3, e4⟩ := s_learn (ρ := ρ) (p := p) (h := h) (t := t) (c := c) (d := d) (by omega) hK hQ
        refine ⟨F', G', g_Planner_askThing_90 _ _ _ _ _ _ _ _ _ _ _ ?_, e2, e4⟩
        rw [if_pos (by omega), if_pos rfl, show F 6 1 = ρ 71 11 from hP.1.2.1, e1, zbV_some]
      · obtain ⟨F', G', e1, e2, e3, e4⟩ := m_learns (d := e) (t := t) (c := c) (by omega) hK hQ hR hp hV hA hh ht
        refine ⟨F', G', g_M_asksOther_38 _ _ _ _ _ _ _ _ _ _ ?_, e2, e4, by rw [e3 44 (by decide)]; exact h44, by rw [e3 47 (by decide)]; exact h47⟩
        rw [if_neg (by omega), if_pos rfl, e1, zbV_some]
    · subst hacc
      refine ⟨Φ, Γ, hQ, fun F G hS hP hK => ?_, fun F G hR hp hK h44 h47 => ?_⟩
      · refine ⟨F, G, g_Planner_askThing_90 _ _ _ _ _ _ _ _ _ _ _ ?_, zfC.rfl, hK⟩
        rw [if_pos (by omega), if_neg (by decide)]
      · refine ⟨F, G, g_M_asksOther_38 _ _ _ _ _ _ _ _ _ _ ?_, zfM.rfl, hK, h44, h47⟩
        rw [if_neg (by omega), if_neg (by decide)]
  | succ m ih =>
    intro s acc Φ Γ hs hacc hQ
    have hs1 : zadd (s : Int) 1 = s + 1 := zadd_eq (by omega) (by omega)
    have hmr := q_mv_r (ρ := ρ) (p := p) (h := h) (t := t) (s := (s : Int)) (c := c)
    have stepC : ∀ F G, zSC 22 p F → zPC ρ h A C F G → zQC Φ Γ F G → ∃ F2 G2, zex d 188 [zR 60, zI t, zI s, zI c, zL (zset (q_tk ρ p h (q_but t)))] (zup F 60 10 (zadd (F 60 10) 1), G, zsg) = some (some (zI (q_mv ρ p h t s c)), F2, G2, zsg) ∧ zfC F G F2 G2 ∧ zQC (zup Φ 71 32 (zadd (Φ 71 32) 1)) Γ F2 G2 := by
      intro F G hS hP hK
      have f1 : zfC F G (zup F 60 10 (zadd (F 60 10) 1)) G := zfC.as
      have hK1 := hK.ask
      generalize zup F 60 10 (zadd (F 60 10) 1) = F1 at f1 hK1
      obtain ⟨F2, G2, e1, e2, e3⟩ := s_mv (d := d) (s := (s : Int)) (by omega) (f1.sc hS) (f1.pc hP).1 hV hA hr hh (f1.pc hP).2.1 hc1 ht (by omega) hc
      exact ⟨F2, G2, e1, f1.tr (zfC.fl e2 e3), hK1.fr (fun r hr => e2 r (by intro e; subst e; revert hr; decide)) (e3 59 (by decide) (by decide))⟩
    have stepM : ∀ F G, zMR ρ F → F 72 = p → zQM Φ Γ F G → ∃ F2, zex e 116 [zR 71, zI h, zI t, zI s, zI c] (F, G, zsg) = some (some (zI (q_mv ρ p h t s c)), F2, G, zsg) ∧ zfM F G F2 G ∧ F2 72 = p ∧ zQM (zup Φ 71 32 (zadd (Φ 71 32) 1)) Γ F2 G ∧ (∀ j, j ∈ [44, 45, 46, 47] → F2 71 j = F 71 j) := by
      intro F G hR hp hK
      obtain ⟨F2, e1, e2⟩ := m_mv (d := e) (G := G) (t := t) (s := (s : Int)) (c := c) (by omega) hR hp hV hA hr hh hc1 ht (by omega) hc
      have k32 := hK.1 32 (by decide)
      rw [k32] at e2
      have hU := hK.up (r := 71) (j := 32) (v := zadd (Φ 71 32) 1)
      have hf : zfM F G (zup F 71 32 (zadd (Φ 71 32) 1)) G := zfM.col
      refine ⟨F2, e1, hf.tr ⟨fun r hr => e2 r (by intro e; subst e; revert hr; decide) (by intro e; subst e; revert hr; decide), fun j _ => by rw [e2 71 (by decide) (by decide)], fun _ _ => rfl⟩, by rw [e2 72 (by decide) (by decide), zup_row (by decide)]; exact hp, ?_, fun j hj => ?_⟩
      · exact hU.fr (fun j _ => by rw [e2 71 (by decide) (by decide)]) (fun r hr => e2 r (by intro e; subst e; revert hr; decide) (by intro e; subst e; revert hr; decide))
      · rw [e2 71 (by decide) (by decide), zup_col (by intro e; subst e; revert hj; decide)]
    by_cases hq : q_mv ρ p h t s c = -1
    · obtain ⟨Φ', Γ', v', ihC, ihM⟩ := ih (s + 1) acc (zup Φ 71 32 (zadd (Φ 71 32) 1)) Γ (by omega) hacc hQ.ask
      refine ⟨Φ', Γ', v', fun F G hS hP hK => ?_, fun F G hR hp hK h44 h47 => ?_⟩
      · obtain ⟨F2, G2, e1, e2, e3⟩ := stepC F G hS hP hK
        obtain ⟨F', G', i1, i2, i3⟩ := ihC F2 G2 (e2.sc hS) (e2.pc hP) e3
        refine ⟨F', G', g_Planner_askThing_90 _ _ _ _ _ _ _ _ _ _ _ ?_, e2.tr i2, i3⟩
        simp only [zcast1] at i1
        rw [if_neg (by omega), e1, zbI_some, if_pos (by omega), hs1]
        exact i1
      · obtain ⟨F2, e1, e2, e3, e4, e5⟩ := stepM F G hR hp hK
        obtain ⟨F', G', i1, i2, i3, i4⟩ := ihM F2 G (e2.mr hR) e3 e4 (by rw [e5 44 (by decide)]; exact h44) (by rw [e5 47 (by decide)]; exact h47)
        refine ⟨F', G', g_M_asksOther_38 _ _ _ _ _ _ _ _ _ _ ?_, e2.tr i2, i3, i4⟩
        simp only [zcast1] at i1
        rw [if_pos (by omega), e1, zbI_some, hs1]
        rcases hacc with hacc | hacc
        · subst hacc
          rw [if_pos rfl, if_pos hq, if_pos hq]
          exact i1
        · subst hacc
          rw [if_neg (by decide), if_pos hq]
          exact i1
    · obtain ⟨o1, o2, o3⟩ := q_mv_ok hq
      have hvr := q_handFor_r c s (ρ 79 t.toNat)
      generalize hv : q_handFor c s (ρ 79 t.toNat) = v at o3 hvr
      obtain ⟨pe1, pe2, pe3⟩ := q_pp_e (p := p) (c := c) (v := v) hh g8
      have hw0 : zadd 0 (q_mv ρ p h t s c) = q_mv ρ p h t s c := by rw [zadd_eq (by omega) (by omega), Int.zero_add]
      obtain ⟨Φ2, Γ2, v2, jC, jM⟩ := j_aim (d := d - 1) (e := e) (p := q_pp p h t c v) (A := A) (C := C) (i := 1) (most := 2) (gone := q_mv ρ p h t s c) (t0 := t) (s0 := (s : Int)) (c0 := c) (Γ := Γ) (by omega) he hV (q_pp_pa hA hh g8 hc o2) (q_pp_hr hr hh g8 hvr) hh (by rw [pe2]; exact o3) hAr hCr (Or.inr rfl) (by omega) (fun _ => by omega) hQ.ask
      obtain ⟨Φ', Γ', v', ihC, ihM⟩ := ih (s + 1) 1 Φ2 Γ2 (by omega) (Or.inr rfl) v2
      refine ⟨Φ', Γ', v', fun F G hS hP hK => ?_, fun F G hR hp hK h44 h47 => ?_⟩
      · obtain ⟨F2, G2, e1, e2, e3⟩ := stepC F G hS hP hK
        have hS2 := e2.sc hS
        have hP2 := e2.pc hP
        -- the first move is noted
        obtain ⟨Fn, n1, n2, n3⟩ := s_note0 (d := d) (F := F2) (G := G2) (t := t) (s := (s : Int)) (c := c) (by omega)
        have fn : zfC F2 G2 Fn G2 := ⟨fun r hr => n2 r (by intro e; subst e; revert hr; decide), fun j _ => by rw [n2 60 (by decide)], fun _ _ => rfl⟩
        have hSn := fn.sc hS2
        have hPn := fn.pc hP2
        have hKn : zQC (zup Φ 71 32 (zadd (Φ 71 32) 1)) Γ Fn G2 := e3.fr (fun r hr => n2 r (by intro e; subst e; revert hr; decide)) rfl
        -- the thing and the hand are there
        have hS4 := q_pp_sc (c := c) (v := v) hSn hh g8
        have h4o : ∀ r, r ≠ 23 → r ≠ 26 → zup (zup Fn 23 t.toNat c) 26 h.toNat v r = Fn r := fun r q1 q2 => by rw [zup_row q2, zup_row q1]
        have h423 : zup (zup Fn 23 t.toNat c) 26 h.toNat v 23 = zu (Fn 23) t.toNat c := by rw [zup_row (by decide), zup_fn]
        have h426 : zup (zup Fn 23 t.toNat c) 26 h.toNat v 26 = zu (Fn 26) h.toNat v := by rw [zup_fn, zup_row (by decide)]
        generalize hF4 : zup (zup Fn 23 t.toNat c) 26 h.toNat v = F4 at hS4 h4o h423 h426
        have hP4 : zPC ρ h A C F4 G2 := ⟨hPn.1.fr (h4o 6 (by decide) (by decide)) (h4o 7 (by decide) (by decide)) (h4o 8 (by decide) (by decide)) (h4o 9 (by decide) (by decide)) (h4o 10 (by decide) (by decide)) rfl, by rw [h4o 60 (by decide) (by decide)]; exact hPn.2.1, by rw [h4o 60 (by decide) (by decide)]; exact hPn.2.2.1, by rw [h4o 60 (by decide) (by decide)]; exact hPn.2.2.2⟩
        have hK4 : zQC (zup Φ 71 32 (zadd (Φ 71 32) 1)) Γ F4 G2 := hKn.fr (fun r hr => h4o r (by intro e; subst e; revert hr; decide) (by intro e; subst e; revert hr; decide)) rfl
        obtain ⟨F5, G5, a1, a2, a3, a4⟩ := jC F4 G2 hS4 hP4 hK4 (fun _ => by rw [h4o 63 (by decide) (by decide)]; exact n3)
        have hP5 := a2.pc hP4
        have sk := s_seek1 (d := d - 1) (by omega) hV hAr hP4 a1 hP5
        rw [show d - 1 + 1 = d by omega] at sk
        -- back
        have b23 : zup (zup F5 23 t.toNat (p t.toNat)) 26 h.toNat (p (28 + h.toNat)) 23 = Fn 23 := by
          rw [zup_row (by decide), zup_fn, a2.1 23 (by decide), h423, show p t.toNat = Fn 23 t.toNat from (hSn.at g8.1 g8.2).1.symm, zu_back]
        have b26 : zup (zup F5 23 t.toNat (p t.toNat)) 26 h.toNat (p (28 + h.toNat)) 26 = Fn 26 := by
          rw [zup_fn, zup_row (by decide), a2.1 26 (by decide), h426, show p (28 + h.toNat) = Fn 26 h.toNat from (hSn.hn hh).1.symm, zu_back]
        have bo : ∀ r, r ≠ 23 → r ≠ 26 → zup (zup F5 23 t.toNat (p t.toNat)) 26 h.toNat (p (28 + h.toNat)) r = F5 r := fun r q1 q2 => by rw [zup_row q2, zup_row q1]
        generalize hF6 : zup (zup F5 23 t.toNat (p t.toNat)) 26 h.toNat (p (28 + h.toNat)) = F6 at b23 b26 bo
        have f6 : zfC Fn G2 F6 G5 := by
          refine ⟨fun r hr => ?_, fun j hj => ?_, a2.2.2⟩
          · by_cases q1 : r = 23
            · subst q1; exact b23
            · by_cases q2 : r = 26
              · subst q2; exact b26
              · rw [bo r q1 q2, a2.1 r hr, h4o r q1 q2]
          · rw [bo 60 (by decide) (by decide), a2.2.1 j hj, h4o 60 (by decide) (by decide)]
        have hK6 : zQC Φ2 Γ2 F6 G5 := a3.fr (fun r hr => bo r (by intro e; subst e; revert hr; decide) (by intro e; subst e; revert hr; decide)) rfl
        have fAll := (e2.tr fn).tr f6
        obtain ⟨F', G', i1, i2, i3⟩ := ihC F6 G5 (fAll.sc hS) (fAll.pc hP) hK6
        refine ⟨F', G', g_Planner_askThing_90 _ _ _ _ _ _ _ _ _ _ _ ?_, fAll.tr i2, i3⟩
        simp only [zcast1] at i1
        have hhc := s_handCell (d := d) (F := zup Fn 23 t.toNat c) (G := G2) (s := (s : Int)) (by omega) hc.1 hc.2 hw.1 hw.2
        rw [hv] at hhc
        rw [if_neg (by omega), e1, zbI_some, if_neg (by omega), n1, zbV_some, hPn.2.2.1, if_neg htA, if_pos g8, if_pos g8, hPn.1.2.2.2.2.1, hhc, zbI_some, hPn.2.1, if_pos (by omega), hw0, hF4, show zadd 0 1 = 1 by decide, sk, zbV_some, if_pos g8, hP5.2.1, if_pos (by omega), hF6, hs1]
        exact i1
      · obtain ⟨F2, e1, e2, e3, e4, e5⟩ := stepM F G hR hp hK
        have hR2 := e2.mr hR
        -- the thing and the hand are there, and what was done is told
        have r72 : zup (zup (zup (zup (zup (zup F2 72 t.toNat c) 72 (28 + h.toNat) v) 71 44 t) 71 45 s) 71 46 c) 71 47 (q_mv ρ p h t s c) 72 = q_pp p h t c v := by
          rw [zup_row (by decide), zup_row (by decide), zup_row (by decide), zup_row (by decide), zup_fn, zup_fn, e3]
          rfl
        have r71 : ∀ j, j ≠ 44 → j ≠ 45 → j ≠ 46 → j ≠ 47 → zup (zup (zup (zup (zup (zup F2 72 t.toNat c) 72 (28 + h.toNat) v) 71 44 t) 71 45 s) 71 46 c) 71 47 (q_mv ρ p h t s c) 71 j = F2 71 j := fun j j1 j2 j3 j4 => by
          rw [zup_col j4, zup_col j3, zup_col j2, zup_col j1, zup_row (by decide), zup_row (by decide)]
        have r44 : zup (zup (zup (zup (zup (zup F2 72 t.toNat c) 72 (28 + h.toNat) v) 71 44 t) 71 45 s) 71 46 c) 71 47 (q_mv ρ p h t s c) 71 44 = t := by
          rw [zup_col (by decide), zup_col (by decide), zup_col (by decide), zup_eq]
        have r45 : zup (zup (zup (zup (zup (zup F2 72 t.toNat c) 72 (28 + h.toNat) v) 71 44 t) 71 45 s) 71 46 c) 71 47 (q_mv ρ p h t s c) 71 45 = s := by
          rw [zup_col (by decide), zup_col (by decide), zup_eq]
        have r46 : zup (zup (zup (zup (zup (zup F2 72 t.toNat c) 72 (28 + h.toNat) v) 71 44 t) 71 45 s) 71 46 c) 71 47 (q_mv ρ p h t s c) 71 46 = c := by
          rw [zup_col (by decide), zup_eq]
        have r47 : zup (zup (zup (zup (zup (zup F2 72 t.toNat c) 72 (28 + h.toNat) v) 71 44 t) 71 45 s) 71 46 c) 71 47 (q_mv ρ p h t s c) 71 47 = q_mv ρ p h t s c := zup_eq
        have ro : ∀ r, r ≠ 71 → r ≠ 72 → zup (zup (zup (zup (zup (zup F2 72 t.toNat c) 72 (28 + h.toNat) v) 71 44 t) 71 45 s) 71 46 c) 71 47 (q_mv ρ p h t s c) r = F2 r := fun r q1 q2 => by
          rw [zup_row q1, zup_row q1, zup_row q1, zup_row q1, zup_row q2, zup_row q2]
        generalize hF4 : zup (zup (zup (zup (zup (zup F2 72 t.toNat c) 72 (28 + h.toNat) v) 71 44 t) 71 45 s) 71 46 c) 71 47 (q_mv ρ p h t s c) = F4 at r72 r71 r44 r45 r46 r47 ro
        have hR4 : zMR ρ F4 := by
          obtain ⟨u1, u2, u3, u4, u5, u6, u7, u8⟩ := hR2
          exact ⟨by rw [r71 5 (by decide) (by decide) (by decide) (by decide)]; exact u1, by rw [r71 8 (by decide) (by decide) (by decide) (by decide)]; exact u2, by rw [r71 11 (by decide) (by decide) (by decide) (by decide)]; exact u3, by rw [ro 75 (by decide) (by decide)]; exact u4, by rw [ro 76 (by decide) (by decide)]; exact u5, by rw [ro 77 (by decide) (by decide)]; exact u6, by rw [ro 78 (by decide) (by decide)]; exact u7, by rw [ro 79 (by decide) (by decide)]; exact u8⟩
        have hK4 : zQM (zup Φ 71 32 (zadd (Φ 71 32) 1)) Γ F4 G := e4.fr (fun j hj => r71 j (by intro e; subst e; revert hj; decide) (by intro e; subst e; revert hj; decide) (by intro e; subst e; revert hj; decide) (by intro e; subst e; revert hj; decide)) (fun r hr => ro r (by intro e; subst e; revert hr; decide) (by intro e; subst e; revert hr; decide))
        obtain ⟨F5, G5, a1, a2, a3, a4⟩ := jM F4 G hR4 r72 hK4 (by rw [if_neg (by decide)]; exact r44) (fun _ => ⟨r45, r46⟩) r47
        -- back
        have b72 : zup (zup (zup (zup F5 72 t.toNat (p t.toNat)) 72 (28 + h.toNat) (p (28 + h.toNat))) 71 44 (-1)) 71 47 0 72 = p := by
          rw [zup_row (by decide), zup_row (by decide), zup_fn, zup_fn, a2.1 72 (by decide), r72]
          funext j
          by_cases q1 : j = 28 + h.toNat
          · subst q1; rw [zu_eq]
          · rw [zu_ne q1]
            by_cases q2 : j = t.toNat
            · subst q2; rw [zu_eq]
            · rw [zu_ne q2, pe3 j q2 q1]
        have b71 : ∀ j, j ≠ 44 → j ≠ 47 → zup (zup (zup (zup F5 72 t.toNat (p t.toNat)) 72 (28 + h.toNat) (p (28 + h.toNat))) 71 44 (-1)) 71 47 0 71 j = F5 71 j := fun j j1 j2 => by
          rw [zup_col j2, zup_col j1, zup_row (by decide), zup_row (by decide)]
        have b44 : zup (zup (zup (zup F5 72 t.toNat (p t.toNat)) 72 (28 + h.toNat) (p (28 + h.toNat))) 71 44 (-1)) 71 47 0 71 44 = -1 := by
          rw [zup_col (by decide), zup_eq]
        have b47 : zup (zup (zup (zup F5 72 t.toNat (p t.toNat)) 72 (28 + h.toNat) (p (28 + h.toNat))) 71 44 (-1)) 71 47 0 71 47 = 0 := zup_eq
        have bo : ∀ r, r ≠ 71 → r ≠ 72 → zup (zup (zup (zup F5 72 t.toNat (p t.toNat)) 72 (28 + h.toNat) (p (28 + h.toNat))) 71 44 (-1)) 71 47 0 r = F5 r := fun r q1 q2 => by
          rw [zup_row q1, zup_row q1, zup_row q2, zup_row q2]
        generalize hF6 : zup (zup (zup (zup F5 72 t.toNat (p t.toNat)) 72 (28 + h.toNat) (p (28 + h.toNat))) 71 44 (-1)) 71 47 0 = F6 at b72 b71 b44 b47 bo
        have f6 : zfM F2 G F6 G5 := by
          refine ⟨fun r hr => ?_, fun j hj => ?_, a2.2.2⟩
          · by_cases q2 : r = 72
            · subst q2; rw [b72, e3]
            · have q1 : r ≠ 71 := by intro e; subst e; revert hr; decide
              rw [bo r q1 q2, a2.1 r hr, ro r q1 q2]
          · rw [b71 j (by intro e; subst e; revert hj; decide) (by intro e; subst e; revert hj; decide), a2.2.1 j hj, r71 j (by intro e; subst e; revert hj; decide) (by intro e; subst e; revert hj; decide) (by intro e; subst e; revert hj; decide) (by intro e; subst e; revert hj; decide)]
        have hK6 : zQM Φ2 Γ2 F6 G5 := a3.fr (fun j hj => b71 j (by intro e; subst e; revert hj; decide) (by intro e; subst e; revert hj; decide)) (fun r hr => bo r (by intro e; subst e; revert hr; decide) (by intro e; subst e; revert hr; decide))
        have fAll := e2.tr f6
        obtain ⟨F', G', i1, i2, i3, i4⟩ := ihM F6 G5 (fAll.mr hR) b72 hK6 b44 b47
        refine ⟨F', G', g_M_asksOther_38 _ _ _ _ _ _ _ _ _ _ ?_, fAll.tr i2, i3, i4⟩
        simp only [zcast1] at i1
        have hhc := m_handFor (d := e) (F := zup F2 72 t.toNat c) (G := G) (s := (s : Int)) (by omega) hc.1 hc.2 hw.1 hw.2
        rw [hv] at hhc
        have a1' : zex e 120 [zR 71, zI h, zI A, zI C] (F4, G, zsg) = some (none, F5, G5, zsg) := a1
        have k79 : F2 79 = ρ 79 := hR2.2.2.2.2.2.2.2
        rw [if_pos (by omega), e1, zbI_some, hs1]
        rcases hacc with hacc | hacc
        · subst hacc
          rw [if_pos rfl, if_neg hq, if_neg hq, z0, z28, t28, if_pos g43, if_pos g8, k79, hhc, zbI_some, if_pos g43', hF4, a1', zbV_some, if_pos g43, if_pos g43', hF6]
          exact i1
        · subst hacc
          rw [if_neg (by decide), if_neg hq, z0, z28, t28, if_pos g43, if_pos g8, k79, hhc, zbI_some, if_pos g43', hF4, a1', zbV_some, if_pos g43, if_pos g43', hF6]
          exact i1
end
