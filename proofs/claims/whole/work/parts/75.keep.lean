/-! a row of moves is kept, on both sides -/
def q_k0 (Φ : zM) (A s C w : Int) : zM := zup (zup (zup (zup (zup (zup Φ 71 23 w) 71 19 0) 85 0 A) 86 0 s) 87 0 C) 71 19 1
def q_k1 (Φ : zM) (t0 s0 c0 A s C w : Int) : zM := zup (zup (zup (zup (zup (zup (zup (zup (zup (zup Φ 71 23 w) 71 19 0) 85 0 t0) 86 0 s0) 87 0 c0) 71 19 1) 85 1 A) 86 1 s) 87 1 C) 71 19 2
def q_kp (Φ : zM) (i t0 s0 c0 A s C w : Int) : zM := if Φ 71 23 = -1 ∨ w < Φ 71 23 then (if i = 0 then q_k0 Φ A s C w else q_k1 Φ t0 s0 c0 A s C w) else Φ
section
variable {d : Nat} {F F' ρ Φ : zM} {G G' Γ : zG} {p : Nat → Int} {A s C w t0 s0 c0 i : Int}
theorem q_k0_e : q_k0 Φ A s C w 71 23 = w ∧ q_k0 Φ A s C w 71 19 = 1 ∧ (∀ j, j ≠ 23 → j ≠ 19 → q_k0 Φ A s C w 71 j = Φ 71 j) ∧ (∀ r, 87 < r → q_k0 Φ A s C w r = Φ r) ∧ q_k0 Φ A s C w 85 0 = A ∧ q_k0 Φ A s C w 86 0 = s ∧ q_k0 Φ A s C w 87 0 = C := by
  unfold q_k0
  refine ⟨?_, zup_eq, fun j h1 h2 => ?_, fun r hr => ?_, ?_, ?_, ?_⟩
  · rw [zup_col (by decide), zup_row (by decide), zup_row (by decide), zup_row (by decide), zup_col (by decide), zup_eq]
  · rw [zup_col h2, zup_row (by decide), zup_row (by decide), zup_row (by decide), zup_col h2, zup_col h1]
  · rw [zup_row (by omega), zup_row (by omega), zup_row (by omega), zup_row (by omega), zup_row (by omega), zup_row (by omega)]
  · rw [zup_row (by decide), zup_row (by decide), zup_row (by decide), zup_eq]
  · rw [zup_row (by decide), zup_row (by decide), zup_eq]
  · rw [zup_row (by decide), zup_eq]
theorem q_k1_e : q_k1 Φ t0 s0 c0 A s C w 71 23 = w ∧ q_k1 Φ t0 s0 c0 A s C w 71 19 = 2 ∧ (∀ j, j ≠ 23 → j ≠ 19 → q_k1 Φ t0 s0 c0 A s C w 71 j = Φ 71 j) ∧ (∀ r, 87 < r → q_k1 Φ t0 s0 c0 A s C w r = Φ r) ∧
    (q_k1 Φ t0 s0 c0 A s C w 85 0 = t0 ∧ q_k1 Φ t0 s0 c0 A s C w 86 0 = s0 ∧ q_k1 Φ t0 s0 c0 A s C w 87 0 = c0) ∧ q_k1 Φ t0 s0 c0 A s C w 85 1 = A ∧ q_k1 Φ t0 s0 c0 A s C w 86 1 = s ∧ q_k1 Φ t0 s0 c0 A s C w 87 1 = C := by
  unfold q_k1
  refine ⟨?_, zup_eq, fun j h1 h2 => ?_, fun r hr => ?_, ⟨?_, ?_, ?_⟩, ?_, ?_, ?_⟩
  · rw [zup_col (by decide), zup_row (by decide), zup_row (by decide), zup_row (by decide), zup_col (by decide), zup_row (by decide), zup_row (by decide), zup_row (by decide), zup_col (by decide), zup_eq]
  · rw [zup_col h2, zup_row (by decide), zup_row (by decide), zup_row (by decide), zup_col h2, zup_row (by decide), zup_row (by decide), zup_row (by decide), zup_col h2, zup_col h1]
  · rw [zup_row (by omega), zup_row (by omega), zup_row (by omega), zup_row (by omega), zup_row (by omega), zup_row (by omega), zup_row (by omega), zup_row (by omega), zup_row (by omega), zup_row (by omega)]
  · rw [zup_row (by decide), zup_row (by decide), zup_row (by decide), zup_col (by decide), zup_row (by decide), zup_row (by decide), zup_row (by decide), zup_eq]
  · rw [zup_row (by decide), zup_row (by decide), zup_col (by decide), zup_row (by decide), zup_row (by decide), zup_row (by decide), zup_eq]
  · rw [zup_row (by decide), zup_col (by decide), zup_row (by decide), zup_row (by decide), zup_row (by decide), zup_eq]
  · rw [zup_row (by decide), zup_row (by decide), zup_row (by decide), zup_eq]
  · rw [zup_row (by decide), zup_row (by decide), zup_eq]
  · rw [zup_row (by decide), zup_eq]
theorem zQV.kp (hV : zQV Φ) (hw : 0 ≤ w) : zQV (q_kp Φ i t0 s0 c0 A s C w) := by
  unfold q_kp
  split
  · split
    · obtain ⟨e1, e2, e3, -⟩ := q_k0_e (Φ := Φ) (A := A) (s := s) (C := C) (w := w)
      unfold zQV
      rw [e1, e2, e3 24 (by decide) (by decide)]
      exact ⟨hV.1, Or.inr ⟨hw, by decide, by decide⟩⟩
    · obtain ⟨e1, e2, e3, -⟩ := q_k1_e (Φ := Φ) (t0 := t0) (s0 := s0) (c0 := c0) (A := A) (s := s) (C := C) (w := w)
      unfold zQV
      rw [e1, e2, e3 24 (by decide) (by decide)]
      exact ⟨hV.1, Or.inr ⟨hw, by decide, by decide⟩⟩
  · exact hV
theorem zQV.ask (hV : zQV Φ) {v : Int} : zQV (zup Φ 71 32 v) := by
  unfold zQV
  rw [zup_col (by decide), zup_col (by decide), zup_col (by decide)]
  exact hV
theorem zQV.use (hV : zQV Φ) {v : Int} : zQV (zup Φ 71 31 v) := by
  unfold zQV
  rw [zup_col (by decide), zup_col (by decide), zup_col (by decide)]
  exact hV
theorem zQC.fr (hK : zQC Φ Γ F G) (hF : ∀ r, r ∈ [53, 54, 55, 56, 57, 58, 60, 62] → F' r = F r) (hG : G' 59 = G 59) : zQC Φ Γ F' G' := by
  unfold zQC
  rw [hF 53 (by decide), hF 54 (by decide), hF 55 (by decide), hF 56 (by decide), hF 57 (by decide), hF 58 (by decide), hF 60 (by decide), hF 62 (by decide), hG]
  exact hK
theorem zQC.ask (hK : zQC Φ Γ F G) : zQC (zup Φ 71 32 (zadd (Φ 71 32) 1)) Γ (zup F 60 10 (zadd (F 60 10) 1)) G := by
  obtain ⟨k1, k2, k3, k4, k5⟩ := hK
  unfold zQC
  rw [zup_eq, zup_col (show (24 : Nat) ≠ 32 by decide), zup_col (show (31 : Nat) ≠ 32 by decide), zup_col (show (23 : Nat) ≠ 32 by decide), zup_col (show (19 : Nat) ≠ 32 by decide), zup_eq, zup_col (show (11 : Nat) ≠ 10 by decide), zup_col (show (12 : Nat) ≠ 10 by decide)]
  rw [zup_row (show (53 : Nat) ≠ 60 by decide), zup_row (show (54 : Nat) ≠ 60 by decide), zup_row (show (55 : Nat) ≠ 60 by decide), zup_row (show (56 : Nat) ≠ 60 by decide), zup_row (show (57 : Nat) ≠ 60 by decide), zup_row (show (58 : Nat) ≠ 60 by decide), zup_row (show (62 : Nat) ≠ 60 by decide)]
  rw [zup_row (show (85 : Nat) ≠ 71 by decide), zup_row (show (86 : Nat) ≠ 71 by decide), zup_row (show (87 : Nat) ≠ 71 by decide), zup_row (show (88 : Nat) ≠ 71 by decide), zup_row (show (89 : Nat) ≠ 71 by decide), zup_row (show (90 : Nat) ≠ 71 by decide), zup_row (show (91 : Nat) ≠ 71 by decide), zup_row (show (92 : Nat) ≠ 71 by decide), k2]
  exact ⟨k1, Eq.refl _, k3, k4, k5⟩
theorem zQC.use (hK : zQC Φ Γ F G) : zQC (zup Φ 71 31 (zadd (Φ 71 31) 1)) Γ (zup F 53 1 (zadd (F 53 1) 1)) G := by
  obtain ⟨⟨k0, k1, k1'⟩, k2, k3, k4, k5⟩ := hK
  unfold zQC
  rw [zup_eq, zup_col (show (24 : Nat) ≠ 31 by decide), zup_col (show (32 : Nat) ≠ 31 by decide), zup_col (show (23 : Nat) ≠ 31 by decide), zup_col (show (19 : Nat) ≠ 31 by decide), zup_eq, zup_col (show (0 : Nat) ≠ 1 by decide)]
  rw [zup_row (show (60 : Nat) ≠ 53 by decide), zup_row (show (54 : Nat) ≠ 53 by decide), zup_row (show (55 : Nat) ≠ 53 by decide), zup_row (show (56 : Nat) ≠ 53 by decide), zup_row (show (57 : Nat) ≠ 53 by decide), zup_row (show (58 : Nat) ≠ 53 by decide), zup_row (show (62 : Nat) ≠ 53 by decide)]
  rw [zup_row (show (85 : Nat) ≠ 71 by decide), zup_row (show (86 : Nat) ≠ 71 by decide), zup_row (show (87 : Nat) ≠ 71 by decide), zup_row (show (88 : Nat) ≠ 71 by decide), zup_row (show (89 : Nat) ≠ 71 by decide), zup_row (show (90 : Nat) ≠ 71 by decide), zup_row (show (91 : Nat) ≠ 71 by decide), zup_row (show (92 : Nat) ≠ 71 by decide), k1]
  exact ⟨⟨k0, Eq.refl _, k1'⟩, k2, k3, k4, k5⟩
/-- the class: the move is noted, the row kept if it is the shorter one -/
theorem s_keep (hd : 1 ≤ d) (hK : zQC Φ Γ F G) (hV : zQV Φ) (hi : i = 0 ∨ i = 1) (hw : 0 ≤ w) (hp : i = 1 → F 63 0 = t0 ∧ F 63 1 = s0 ∧ F 63 2 = c0) : ∃ Fn F', zex d 189 [zR 60, zI i, zI A, zI s, zI C] (F, G, zsg) = some (none, Fn, G, zsg) ∧ Fn 60 = F 60 ∧ zex d 190 [zR 60, zI (zadd i 1), zI w] (Fn, G, zsg) = some (none, F', G, zsg) ∧ zfC F G F' G ∧ zQC (q_kp Φ i t0 s0 c0 A s C w) Γ F' G ∧ (i = 1 → F' 63 0 = t0 ∧ F' 63 1 = s0 ∧ F' 63 2 = c0) := by
  obtain ⟨d, rfl⟩ := zds hd
  have hK0 := hK
  obtain ⟨k1, k2, k3, k4, k5⟩ := hK
  have hcond : (F 60 11 < 0 ∨ w < F 60 12) ↔ (Φ 71 23 = -1 ∨ w < Φ 71 23) := by
    rcases hV.2 with ⟨v1, v2⟩ | ⟨v1, v2, v3⟩
    · rw [if_pos v1] at k3
      exact ⟨fun _ => Or.inl v1, fun _ => Or.inl (by omega)⟩
    · rw [if_neg (by omega)] at k3
      rw [k4 (by omega)]
      exact ⟨fun q => Or.inr (q.elim (fun q => by omega) id), fun q => Or.inr (q.elim (fun q => by omega) id)⟩
  -- a heap with the row noted, cells 60 set and the row copied
  have copied : ∀ (Fn : zM) (n : Nat), (∀ r, r ≠ 63 → Fn r = F r) → (Φ 71 23 = -1 ∨ w < Φ 71 23) → ∀ m : Int, (zadd i 1) = m → m = i + 1 → n = 3 * m.toNat → (∀ b : Nat, b < 3 → i = 0 → Fn 63 b = if b = 0 then A else if b = 1 then s else C) → (i = 1 → (Fn 63 0 = t0 ∧ Fn 63 1 = s0 ∧ Fn 63 2 = c0) ∧ Fn 63 3 = A ∧ Fn 63 4 = s ∧ Fn 63 5 = C) →
      zfC F G (zcpy (zup (zup Fn 60 11 m) 60 12 w) 63 (Int.toNat 0) 62 (Int.toNat 0) n) G ∧ zQC (q_kp Φ i t0 s0 c0 A s C w) Γ (zcpy (zup (zup Fn 60 11 m) 60 12 w) 63 (Int.toNat 0) 62 (Int.toNat 0) n) G := by
    intro Fn n hFn hc m _ hm hn h0 h1
    have cr : ∀ r, r ≠ 62 → zcpy (zup (zup Fn 60 11 m) 60 12 w) 63 (Int.toNat 0) 62 (Int.toNat 0) n r = zup (zup Fn 60 11 m) 60 12 w r := by
      intro r hr
      funext b
      unfold zcpy
      rw [if_neg (fun q => hr q.1)]
    have cc : ∀ b, b < n → zcpy (zup (zup Fn 60 11 m) 60 12 w) 63 (Int.toNat 0) 62 (Int.toNat 0) n 62 b = Fn 63 b := by
      intro b hb
      unfold zcpy
      have : (62 : Nat) = 62 ∧ Int.toNat 0 ≤ b ∧ b < Int.toNat 0 + n := ⟨rfl, Nat.zero_le _, by show b < 0 + n; omega⟩
      rw [if_pos this, zup_row (by decide), zup_row (by decide)]
      show Fn 63 (0 + (b - 0)) = _
      congr 1
      omega
    generalize zcpy (zup (zup Fn 60 11 m) 60 12 w) 63 (Int.toNat 0) 62 (Int.toNat 0) n = F2 at cr cc
    have c60 : ∀ j, j ≠ 11 → j ≠ 12 → F2 60 j = F 60 j := fun j j1 j2 => by rw [cr 60 (by decide), zup_col j2, zup_col j1, hFn 60 (by decide)]
    have co : ∀ r, r ≠ 60 → r ≠ 62 → r ≠ 63 → F2 r = F r := fun r r1 r2 r3 => by rw [cr r r2, zup_row r1, zup_row r1, hFn r r3]
    have c11 : F2 60 11 = m := by rw [cr 60 (by decide), zup_col (by decide), zup_eq]
    have c12 : F2 60 12 = w := by rw [cr 60 (by decide), zup_eq]
    refine ⟨⟨fun r hr => ?_, fun j hj => ?_, fun _ _ => rfl⟩, ?_⟩
    · simp only [List.mem_cons, List.not_mem_nil, or_false, not_or] at hr
      exact co r (by omega) (by omega) (by omega)
    · simp only [List.mem_cons, List.not_mem_nil, or_false, not_or] at hj
      exact c60 j (by omega) (by omega)
    · unfold q_kp
      rw [if_pos hc]
      rcases hi with hi | hi
      · rw [if_pos hi]
        obtain ⟨e1, e2, e3, e4, e5, e6, e7⟩ := q_k0_e (Φ := Φ) (A := A) (s := s) (C := C) (w := w)
        unfold zQC
        rw [e1, e2, e3 24 (by decide) (by decide), e3 31 (by decide) (by decide), e3 32 (by decide) (by decide), e4 88 (by decide), e4 89 (by decide), e4 90 (by decide), e4 91 (by decide), e4 92 (by decide)]
        rw [co 53 (by decide) (by decide) (by decide), co 54 (by decide) (by decide) (by decide), co 55 (by decide) (by decide) (by decide), co 56 (by decide) (by decide) (by decide), co 57 (by decide) (by decide) (by decide), co 58 (by decide) (by decide) (by decide), c60 10 (by decide) (by decide), c11, c12, if_neg (by omega)]
        refine ⟨k1, k2, by omega, fun _ => rfl, fun j hj => ?_⟩
        have hj0 : j = 0 := by omega
        subst hj0
        rw [e5, e6, e7]
        refine ⟨?_, ?_, ?_⟩
        · rw [cc _ (by omega), h0 _ (by omega) hi]; rfl
        · rw [cc _ (by omega), h0 _ (by omega) hi]; rfl
        · rw [cc _ (by omega), h0 _ (by omega) hi]; rfl
      · rw [if_neg (by omega)]
        obtain ⟨e1, e2, e3, e4, ⟨e5, e6, e7⟩, e8, e9, e10⟩ := q_k1_e (Φ := Φ) (t0 := t0) (s0 := s0) (c0 := c0) (A := A) (s := s) (C := C) (w := w)
        obtain ⟨⟨g1, g2, g3⟩, g4, g5, g6⟩ := h1 hi
        unfold zQC
        rw [e1, e2, e3 24 (by decide) (by decide), e3 31 (by decide) (by decide), e3 32 (by decide) (by decide), e4 88 (by decide), e4 89 (by decide), e4 90 (by decide), e4 91 (by decide), e4 92 (by decide)]
        rw [co 53 (by decide) (by decide) (by decide), co 54 (by decide) (by decide) (by decide), co 55 (by decide) (by decide) (by decide), co 56 (by decide) (by decide) (by decide), co 57 (by decide) (by decide) (by decide), co 58 (by decide) (by decide) (by decide), c60 10 (by decide) (by decide), c11, c12, if_neg (by omega)]
        refine ⟨k1, k2, by omega, fun _ => rfl, fun j hj => ?_⟩
        have hj0 : j = 0 ∨ j = 1 := by omega
        rcases hj0 with hj0 | hj0
        · subst hj0
          rw [e5, e6, e7, cc _ (by omega), cc _ (by omega), cc _ (by omega)]
          exact ⟨g1, g2, g3⟩
        · subst hj0
          rw [e8, e9, e10, cc _ (by omega), cc _ (by omega), cc _ (by omega)]
          exact ⟨g4, g5, g6⟩
  rcases hi with hi | hi
  · subst hi
    have hm : zmul 0 3 = 0 := by decide
    have ha1 : zadd 0 1 = 1 := by decide
    have ha2 : zadd 0 2 = 2 := by decide
    have hm3 : zmul 1 3 = 3 := by decide
    have hn := g_Planner_noteMove (d := d) (F := F) (G := G) 0 A s C
    rw [hm, ha1, ha2, if_pos (by decide), if_pos (by decide), if_pos (by decide)] at hn
    have hFn : ∀ r, r ≠ 63 → zup (zup (zup F 63 (Int.toNat 0) A) 63 (Int.toNat 1) s) 63 (Int.toNat 2) C r = F r := fun r hr => by rw [zup_row hr, zup_row hr, zup_row hr]
    have hFb : ∀ b : Nat, b < 3 → (0 : Int) = 0 → zup (zup (zup F 63 (Int.toNat 0) A) 63 (Int.toNat 1) s) 63 (Int.toNat 2) C 63 b = if b = 0 then A else if b = 1 then s else C := by
      intro b hb _
      have : b = 0 ∨ b = 1 ∨ b = 2 := by omega
      rcases this with rfl | rfl | rfl
      · rw [zup_col (by decide), zup_col (by decide)]; exact zup_eq
      · rw [zup_col (by decide)]; exact zup_eq
      · exact zup_eq
    generalize zup (zup (zup F 63 (Int.toNat 0) A) 63 (Int.toNat 1) s) 63 (Int.toNat 2) C = Fn at hn hFn hFb
    have f60 : Fn 60 = F 60 := hFn 60 (by decide)
    have hk := g_Planner_keepRow (d := d) (F := Fn) (G := G) 1 w
    have hg : (0 : Int) ≤ 0 ∧ (0 : Int) ≤ 0 ∧ (0 : Int) ≤ 3 ∧ (Int.toNat 0) + (Int.toNat 3) ≤ 6 ∧ (Int.toNat 0) + (Int.toNat 3) ≤ 6 := by decide
    rw [hm3, f60, if_pos hg] at hk
    rw [ha1]
    by_cases hc : Φ 71 23 = -1 ∨ w < Φ 71 23
    · obtain ⟨u1, u2⟩ := copied Fn 3 hFn hc 1 ha1 (by decide) (by decide) hFb (fun q => absurd q (by decide))
      refine ⟨Fn, _, hn _ rfl, f60, hk _ ?_, u1, u2, fun q => absurd q (by decide)⟩
      split
      · rfl
      · rename_i q1
        rw [if_pos ((hcond.mpr hc).elim (fun q => absurd q q1) id)]
        rfl
    · refine ⟨Fn, Fn, hn _ rfl, f60, hk _ ?_, ⟨fun r hr => hFn r (by intro e; subst e; revert hr; decide), fun j _ => by rw [f60], fun _ _ => rfl⟩, ?_, fun q => absurd q (by decide)⟩
      · rw [if_neg (fun q => hc (hcond.mp (Or.inl q))), if_neg (fun q => hc (hcond.mp (Or.inr q)))]
      · unfold q_kp
        rw [if_neg hc]
        exact hK0.fr (fun r hr => hFn r (by intro e; subst e; revert hr; decide)) rfl
  · subst hi
    obtain ⟨p1, p2, p3⟩ := hp rfl
    have hm : zmul 1 3 = 3 := by decide
    have ha1 : zadd 3 1 = 4 := by decide
    have ha2 : zadd 3 2 = 5 := by decide
    have ha3 : zadd 1 1 = 2 := by decide
    have hm3 : zmul 2 3 = 6 := by decide
    have hn := g_Planner_noteMove (d := d) (F := F) (G := G) 1 A s C
    rw [hm, ha1, ha2, if_pos (by decide), if_pos (by decide), if_pos (by decide)] at hn
    have hFn : ∀ r, r ≠ 63 → zup (zup (zup F 63 (Int.toNat 3) A) 63 (Int.toNat 4) s) 63 (Int.toNat 5) C r = F r := fun r hr => by rw [zup_row hr, zup_row hr, zup_row hr]
    have hFb : (1 : Int) = 1 → (zup (zup (zup F 63 (Int.toNat 3) A) 63 (Int.toNat 4) s) 63 (Int.toNat 5) C 63 0 = t0 ∧ zup (zup (zup F 63 (Int.toNat 3) A) 63 (Int.toNat 4) s) 63 (Int.toNat 5) C 63 1 = s0 ∧ zup (zup (zup F 63 (Int.toNat 3) A) 63 (Int.toNat 4) s) 63 (Int.toNat 5) C 63 2 = c0) ∧ zup (zup (zup F 63 (Int.toNat 3) A) 63 (Int.toNat 4) s) 63 (Int.toNat 5) C 63 3 = A ∧ zup (zup (zup F 63 (Int.toNat 3) A) 63 (Int.toNat 4) s) 63 (Int.toNat 5) C 63 4 = s ∧ zup (zup (zup F 63 (Int.toNat 3) A) 63 (Int.toNat 4) s) 63 (Int.toNat 5) C 63 5 = C := by
      intro _
      refine ⟨⟨?_, ?_, ?_⟩, ?_, ?_, ?_⟩
      · rw [zup_col (by decide), zup_col (by decide), zup_col (by decide)]; exact p1
      · rw [zup_col (by decide), zup_col (by decide), zup_col (by decide)]; exact p2
      · rw [zup_col (by decide), zup_col (by decide), zup_col (by decide)]; exact p3
      · rw [zup_col (by decide), zup_col (by decide)]; exact zup_eq
      · rw [zup_col (by decide)]; exact zup_eq
      · exact zup_eq
    generalize zup (zup (zup F 63 (Int.toNat 3) A) 63 (Int.toNat 4) s) 63 (Int.toNat 5) C = Fn at hn hFn hFb
    have f60 : Fn 60 = F 60 := hFn 60 (by decide)
    have hk := g_Planner_keepRow (d := d) (F := Fn) (G := G) 2 w
    have hg : (0 : Int) ≤ 0 ∧ (0 : Int) ≤ 0 ∧ (0 : Int) ≤ 6 ∧ (Int.toNat 0) + (Int.toNat 6) ≤ 6 ∧ (Int.toNat 0) + (Int.toNat 6) ≤ 6 := by decide
    rw [hm3, f60, if_pos hg] at hk
    rw [ha3]
    have hpre := (hFb rfl).1
    by_cases hc : Φ 71 23 = -1 ∨ w < Φ 71 23
    · obtain ⟨u1, u2⟩ := copied Fn 6 hFn hc 2 ha3 (by decide) (by decide) (fun b _ q => absurd q (by decide)) hFb
      refine ⟨Fn, _, hn _ rfl, f60, hk _ ?_, u1, u2, fun _ => ?_⟩
      · split
        · rfl
        · rename_i q1
          rw [if_pos ((hcond.mpr hc).elim (fun q => absurd q q1) id)]
          rfl
      · have cr : ∀ b, zcpy (zup (zup Fn 60 11 2) 60 12 w) 63 (Int.toNat 0) 62 (Int.toNat 0) 6 63 b = Fn 63 b := by
          intro b
          unfold zcpy
          rw [if_neg (fun q => absurd q.1 (by decide)), zup_row (by decide), zup_row (by decide)]
        rw [cr, cr, cr]
        exact hpre
    · refine ⟨Fn, Fn, hn _ rfl, f60, hk _ ?_, ⟨fun r hr => hFn r (by intro e; subst e; revert hr; decide), fun j _ => by rw [f60], fun _ _ => rfl⟩, ?_, fun _ => hpre⟩
      · rw [if_neg (fun q => hc (hcond.mp (Or.inl q))), if_neg (fun q => hc (hcond.mp (Or.inr q)))]
      · unfold q_kp
        rw [if_neg hc]
        exact hK0.fr (fun r hr => hFn r (by intro e; subst e; revert hr; decide)) rfl
end
