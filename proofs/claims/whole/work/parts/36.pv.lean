/-! what holds of a scene holds behind each act; a program played (printed by wip/tpl/mk.py out of wip/tpl/36.txt) -/
section
variable {d : Nat} {F ρ : zM} {G : zG} {p : Nat → Int}
theorem pv_move (hV : zRv ρ) (hP : zPv ρ p) {h c f : Int} (hh : h = 0 ∨ h = 1) (hc : 0 ≤ c ∧ c < 64) (hr : p (30 + h.toNat) ≠ -1 → q_heldAt c (p (16 + (p (30 + h.toNat)).toNat)) (ρ 79 (p (30 + h.toNat)).toNat) ≠ -1) : zPv ρ (q_move ρ p h c f) := by
  obtain ⟨p1, p2, p3, p4, p5, p6, p7, p8, p9⟩ := hP
  have hb := p3 h.toNat (by omega)
  have hn8 := hV.1.2
  unfold q_move
  by_cases ht : p (30 + h.toNat) = -1
  · rw [if_pos ht]
    have e0 : ∀ j, j ≠ 28 + h.toNat → j ≠ 32 + h.toNat → zu (zu p (28 + h.toNat) c) (32 + h.toNat) (zadd (p (32 + h.toNat)) f) j = p j := fun j h1 h2 => by rw [zu_ne h2, zu_ne h1]
    have e1 : zu (zu p (28 + h.toNat) c) (32 + h.toNat) (zadd (p (32 + h.toNat)) f) (28 + h.toNat) = c := by rw [zu_ne (by omega), zu_eq]
    generalize zu (zu p (28 + h.toNat) c) (32 + h.toNat) (zadd (p (32 + h.toNat)) f) = p' at e0 e1
    refine ⟨fun t h8 => by rw [e0 t (by omega) (by omega)]; exact p1 t h8, fun g hg => ?_, fun g hg => by rw [e0 _ (by omega) (by omega)]; exact p3 g hg, fun t h8 => by rw [e0 _ (by omega) (by omega)]; exact p4 t h8, fun t h8 h9 => by rw [e0 _ (by omega) (by omega), e0 _ (by omega) (by omega)]; exact p5 t h8 h9, fun e he => by rw [e0 _ (by omega) (by omega)]; exact p6 e he, fun e he h9 => by rw [e0 _ (by omega) (by omega)]; exact p7 e he h9, fun g hg hne => ?_, fun t g h8 hg h9 => ?_⟩
    · by_cases hgh : g = h.toNat
      · subst hgh; rw [e1]; omega
      · rw [e0 _ (by omega) (by omega)]; exact p2 g hg
    · rw [e0 (30 + g) (by omega) (by omega)] at hne ⊢
      have hgh : g ≠ h.toNat := fun q => hne (by rw [q]; exact ht)
      have hb2 := p3 g hg
      have := p8 g hg hne
      rw [e0 _ (by omega) (by omega), e0 _ (by omega) (by omega), e0 _ (by omega) (by omega), e0 _ (by omega) (by omega)]
      exact this
    · rw [e0 _ (by omega) (by omega)] at h9 ⊢
      exact p9 t g h8 hg h9
  · rw [if_neg ht]
    have hd := p8 h.toNat (by omega) ht
    have hg := hr ht
    have hw1 := hV.2.2.2.2.2.1 (p (30 + h.toNat)).toNat (by omega)
    have hv := q_heldAt_v hw1 hg
    generalize hT : (p (30 + h.toNat)).toNat = T at *
    have hT8 : T < 8 := by omega
    generalize hN : q_heldAt c (p (16 + T)) (ρ 79 T) = N at *
    have e0 : ∀ j, j ≠ T → j ≠ 28 + h.toNat → j ≠ 32 + h.toNat → zu (zu (zu p T N) (28 + h.toNat) c) (32 + h.toNat) (zadd (p (32 + h.toNat)) f) j = p j := fun j h0 h1 h2 => by rw [zu_ne h2, zu_ne h1, zu_ne h0]
    have e1 : zu (zu (zu p T N) (28 + h.toNat) c) (32 + h.toNat) (zadd (p (32 + h.toNat)) f) (28 + h.toNat) = c := by rw [zu_ne (by omega), zu_eq]
    have e2 : zu (zu (zu p T N) (28 + h.toNat) c) (32 + h.toNat) (zadd (p (32 + h.toNat)) f) T = N := by rw [zu_ne (by omega), zu_ne (by omega), zu_eq]
    generalize zu (zu (zu p T N) (28 + h.toNat) c) (32 + h.toNat) (zadd (p (32 + h.toNat)) f) = p' at e0 e1 e2
    refine ⟨fun t h8 => ?_, fun g hg => ?_, fun g hg => by rw [e0 _ (by omega) (by omega) (by omega)]; exact p3 g hg, fun t h8 => by rw [e0 _ (by omega) (by omega) (by omega)]; exact p4 t h8, fun t h8 h9 => by rw [e0 _ (by omega) (by omega) (by omega), e0 _ (by omega) (by omega) (by omega)]; exact p5 t h8 h9, fun e he => by rw [e0 _ (by omega) (by omega) (by omega)]; exact p6 e he, fun e he h9 => by rw [e0 _ (by omega) (by omega) (by omega)]; exact p7 e he h9, fun g hg hne => ?_, fun t g h8 hg h9 => ?_⟩
    · by_cases htT : t = T
      · subst htT; rw [e2]; exact Or.inr (by omega)
      · rw [e0 t htT (by omega) (by omega)]; exact p1 t h8
    · by_cases hgh : g = h.toNat
      · subst hgh; rw [e1]; omega
      · rw [e0 _ (by omega) (by omega) (by omega)]; exact p2 g hg
    · rw [e0 (30 + g) (by omega) (by omega) (by omega)] at hne ⊢
      have hb2 := p3 g hg
      have hdg := p8 g hg hne
      by_cases hgh : g = h.toNat
      · subst hgh
        rw [hT] at hdg ⊢
        rw [e0 (8 + T) (by omega) (by omega) (by omega), e1, e0 (16 + T) (by omega) (by omega) (by omega), e2]
        exact ⟨hdg.1, by omega, hdg.2.2.1, by omega, hN.symm⟩
      · have hne2 : (p (30 + g)).toNat ≠ T := by
          intro q
          rw [q] at hdg
          have := hdg.1
          omega
        rw [e0 _ (by omega) (by omega) (by omega), e0 _ (by omega) (by omega) (by omega), e0 _ (by omega) (by omega) (by omega), e0 _ hne2 (by omega) (by omega)]
        exact hdg
    · rw [e0 _ (by omega) (by omega) (by omega)] at h9 ⊢
      exact p9 t g h8 hg h9
theorem pv_take (hV : zRv ρ) (hP : zPv ρ p) {h t s : Int} (hh : h = 0 ∨ h = 1) (ht : 0 ≤ t ∧ t < ρ 71 8) (hs : 0 ≤ s ∧ s < 4) (c0 : p (28 + h.toNat) ≠ -1) (c1 : p (30 + h.toNat) = -1) (c2 : p t.toNat ≠ -1) (c3 : p (8 + t.toNat) = -1) (c4 : q_heldAt (p (28 + h.toNat)) s (ρ 79 t.toNat) = p t.toNat) : zPv ρ (zu (zu (zu p (30 + h.toNat) t) (8 + t.toNat) h) (16 + t.toNat) s) := by
  obtain ⟨p1, p2, p3, p4, p5, p6, p7, p8, p9⟩ := hP
  have hn8 := hV.1.2
  have e0 : ∀ j, j ≠ 30 + h.toNat → j ≠ 8 + t.toNat → j ≠ 16 + t.toNat → zu (zu (zu p (30 + h.toNat) t) (8 + t.toNat) h) (16 + t.toNat) s j = p j := fun j h0 h1 h2 => by rw [zu_ne h2, zu_ne h1, zu_ne h0]
  have e1 : zu (zu (zu p (30 + h.toNat) t) (8 + t.toNat) h) (16 + t.toNat) s (30 + h.toNat) = t := by rw [zu_ne (by omega), zu_ne (by omega), zu_eq]
  have e2 : zu (zu (zu p (30 + h.toNat) t) (8 + t.toNat) h) (16 + t.toNat) s (8 + t.toNat) = h := by rw [zu_ne (by omega), zu_eq]
  have e3 : zu (zu (zu p (30 + h.toNat) t) (8 + t.toNat) h) (16 + t.toNat) s (16 + t.toNat) = s := by rw [zu_eq]
  generalize zu (zu (zu p (30 + h.toNat) t) (8 + t.toNat) h) (16 + t.toNat) s = p' at e0 e1 e2 e3
  refine ⟨fun u h8 => by rw [e0 u (by omega) (by omega) (by omega)]; exact p1 u h8, fun g hg => by rw [e0 _ (by omega) (by omega) (by omega)]; exact p2 g hg, fun g hg => ?_, fun u h8 => ?_, fun u h8 h9 => by rw [e0 _ (by omega) (by omega) (by omega), e0 _ (by omega) (by omega) (by omega)]; exact p5 u h8 h9, fun e he => by rw [e0 _ (by omega) (by omega) (by omega)]; exact p6 e he, fun e he h9 => by rw [e0 _ (by omega) (by omega) (by omega)]; exact p7 e he h9, fun g hg hne => ?_, fun u g h8 hg h9 => ?_⟩
  · by_cases hgh : g = h.toNat
    · subst hgh; rw [e1]; omega
    · rw [e0 _ (by omega) (by omega) (by omega)]; exact p3 g hg
  · by_cases hu : u = t.toNat
    · subst hu; rw [e2]; omega
    · rw [e0 _ (by omega) (by omega) (by omega)]; exact p4 u h8
  · by_cases hgh : g = h.toNat
    · subst hgh
      rw [e1, e2, e3, e0 _ (by omega) (by omega) (by omega), e0 _ (by omega) (by omega) (by omega)]
      exact ⟨by omega, c0, by omega, c2, c4.symm⟩
    · rw [e0 (30 + g) (by omega) (by omega) (by omega)] at hne ⊢
      have hb2 := p3 g hg
      have hdg := p8 g hg hne
      have hne2 : (p (30 + g)).toNat ≠ t.toNat := by
        intro q
        rw [q] at hdg
        have := hdg.1
        omega
      rw [e0 _ (by omega) (by omega) (by omega), e0 _ (by omega) (by omega) (by omega), e0 _ (by omega) (by omega) (by omega), e0 _ (by omega) (by omega) (by omega)]
      exact hdg
  · by_cases hu : u = t.toNat
    · subst hu
      rw [e2] at h9
      have : g = h.toNat := by omega
      subst this
      rw [e1]; omega
    · rw [e0 _ (by omega) (by omega) (by omega)] at h9
      have h10 := p9 u g h8 hg h9
      have hgh : g ≠ h.toNat := by
        intro q
        rw [q, c1] at h10
        omega
      rw [e0 _ (by omega) (by omega) (by omega)]
      exact h10
theorem pv_put (hV : zRv ρ) (hP : zPv ρ p) {h : Int} (hh : h = 0 ∨ h = 1) (c1 : p (30 + h.toNat) ≠ -1) : zPv ρ (zu (zu (zu p (30 + h.toNat) (-1)) (8 + (p (30 + h.toNat)).toNat) (-1)) (16 + (p (30 + h.toNat)).toNat) (-1)) := by
  obtain ⟨p1, p2, p3, p4, p5, p6, p7, p8, p9⟩ := hP
  have hn8 := hV.1
  have hb := p3 h.toNat (by omega)
  have hdh := p8 h.toNat (by omega) c1
  generalize hT : (p (30 + h.toNat)).toNat = T at *
  have e0 : ∀ j, j ≠ 30 + h.toNat → j ≠ 8 + T → j ≠ 16 + T → zu (zu (zu p (30 + h.toNat) (-1)) (8 + T) (-1)) (16 + T) (-1) j = p j := fun j h0 h1 h2 => by rw [zu_ne h2, zu_ne h1, zu_ne h0]
  have e1 : zu (zu (zu p (30 + h.toNat) (-1)) (8 + T) (-1)) (16 + T) (-1) (30 + h.toNat) = -1 := by rw [zu_ne (by omega), zu_ne (by omega), zu_eq]
  have e2 : zu (zu (zu p (30 + h.toNat) (-1)) (8 + T) (-1)) (16 + T) (-1) (8 + T) = -1 := by rw [zu_ne (by omega), zu_eq]
  generalize zu (zu (zu p (30 + h.toNat) (-1)) (8 + T) (-1)) (16 + T) (-1) = p' at e0 e1 e2
  refine ⟨fun u h8 => by rw [e0 u (by omega) (by omega) (by omega)]; exact p1 u h8, fun g hg => by rw [e0 _ (by omega) (by omega) (by omega)]; exact p2 g hg, fun g hg => ?_, fun u h8 => ?_, fun u h8 h9 => ?_, fun e he => by rw [e0 _ (by omega) (by omega) (by omega)]; exact p6 e he, fun e he h9 => by rw [e0 _ (by omega) (by omega) (by omega)]; exact p7 e he h9, fun g hg hne => ?_, fun u g h8 hg h9 => ?_⟩
  · by_cases hgh : g = h.toNat
    · subst hgh; rw [e1]; omega
    · rw [e0 _ (by omega) (by omega) (by omega)]; exact p3 g hg
  · by_cases hu : u = T
    · subst hu; rw [e2]; omega
    · rw [e0 _ (by omega) (by omega) (by omega)]; exact p4 u h8
  · rw [e0 u (by omega) (by omega) (by omega), e0 (8 + u) (by omega) (by omega) (by omega)]; exact p5 u h8 h9
  · have hgh : g ≠ h.toNat := fun q => hne (by rw [q]; exact e1)
    rw [e0 (30 + g) (by omega) (by omega) (by omega)] at hne ⊢
    have hb2 := p3 g hg
    have hdg := p8 g hg hne
    have hne2 : (p (30 + g)).toNat ≠ T := by
      intro q
      rw [q] at hdg
      have := hdg.1
      have := hdh.1
      omega
    rw [e0 _ (by omega) (by omega) (by omega), e0 _ (by omega) (by omega) (by omega), e0 _ (by omega) (by omega) (by omega), e0 _ (by omega) (by omega) (by omega)]
    exact hdg
  · by_cases hu : u = T
    · subst hu
      rw [e2] at h9
      omega
    · rw [e0 _ (by omega) (by omega) (by omega)] at h9
      have h10 := p9 u g h8 hg h9
      have hgh : g ≠ h.toNat := by
        intro q
        rw [q] at h10
        omega
      rw [e0 _ (by omega) (by omega) (by omega)]
      exact h10
theorem pv_open (hV : zRv ρ) (hP : zPv ρ p) {e : Nat} (he : e < 4) (hd : (e : Int) < ρ 71 5) : zPv ρ (zu p (24 + e) 1) := by
  obtain ⟨p1, p2, p3, p4, p5, p6, p7, p8, p9⟩ := hP
  have e0 : ∀ j, j ≠ 24 + e → zu p (24 + e) 1 j = p j := fun j h0 => zu_ne h0
  have e1 : zu p (24 + e) 1 (24 + e) = 1 := zu_eq
  generalize zu p (24 + e) 1 = p' at e0 e1
  refine ⟨fun u h8 => by rw [e0 u (by omega)]; exact p1 u h8, fun g hg => by rw [e0 _ (by omega)]; exact p2 g hg, fun g hg => by rw [e0 _ (by omega)]; exact p3 g hg, fun u h8 => by rw [e0 _ (by omega)]; exact p4 u h8, fun u h8 h9 => by rw [e0 _ (by omega), e0 _ (by omega)]; exact p5 u h8 h9, fun x hx => ?_, fun x hx h9 => ?_, fun g hg hne => ?_, fun u g h8 hg h9 => by rw [e0 _ (by omega)] at h9 ⊢; exact p9 u g h8 hg h9⟩
  · by_cases hxe : x = e
    · subst hxe; rw [e1]; exact Or.inr rfl
    · rw [e0 _ (by omega)]; exact p6 x hx
  · rw [e0 _ (by omega)]; exact p7 x hx h9
  · rw [e0 (30 + g) (by omega)] at hne ⊢
    have hb2 := p3 g hg
    have hdg := p8 g hg hne
    have hn8 := hV.1.2
    rw [e0 _ (by omega), e0 _ (by omega), e0 _ (by omega), e0 _ (by omega)]
    exact hdg
theorem pv_act (hV : zRv ρ) (hP : zPv ρ p) {h act n s : Int} (hh : h = 0 ∨ h = 1) (ho : q_aok act n s) : zPv ρ (q_act ρ p h act n s).2 := by
  obtain ⟨o1, o2, o3, o4⟩ := ho
  have hn8 := hV.1.2
  unfold q_act
  by_cases a0 : act = 0
  · rw [if_pos a0]
    have hn := o2 a0
    unfold q_go
    by_cases c0 : p (28 + h.toNat) = -1
    · rw [if_pos c0]; exact hP
    · rw [if_neg c0]
      by_cases hq : q_far (n_T ρ p h) (n_S ρ p h) (n_a p h) n = -1
      · rw [if_pos hq]; exact hP
      · rw [if_neg hq]
        exact pv_move hV hP hh hn (fun ht => q_reach hV hP hh c0 hq ht)
  · rw [if_neg a0]
    by_cases a1 : act = 1
    · rw [if_pos a1]
      obtain ⟨hn, hs⟩ := o3 a1
      unfold q_take
      by_cases c1 : p (28 + h.toNat) = -1 ∨ p (30 + h.toNat) ≠ -1 ∨ ρ 71 8 ≤ n ∨ p n.toNat = -1 ∨ p (8 + n.toNat) ≠ -1
      · rw [if_pos c1]; exact hP
      · rw [if_neg c1]
        by_cases c2 : q_hf (ρ 78 n.toNat) s = false
        · rw [if_pos c2]; exact hP
        · rw [if_neg c2]
          by_cases c3 : ρ 71 11 < q_wt (ρ 78 n.toNat) (ρ 79 n.toNat)
          · rw [if_pos c3]; exact hP
          · rw [if_neg c3]
            by_cases c4 : q_heldAt (p (28 + h.toNat)) s (ρ 79 n.toNat) ≠ p n.toNat
            · rw [if_pos c4]; exact hP
            · rw [if_neg c4]
              exact pv_take hV hP hh (by omega) hs (by omega) (by omega) (by omega) (by omega) (Classical.not_not.mp c4)
    · rw [if_neg a1]
      by_cases a2 : act = 2
      · rw [if_pos a2]
        unfold q_put
        by_cases c1 : p (28 + h.toNat) = -1 ∨ p (30 + h.toNat) = -1
        · rw [if_pos c1]; exact hP
        · rw [if_neg c1]; exact pv_put hV hP hh (by omega)
      · rw [if_neg a2]
        by_cases a3 : act = 3
        · rw [if_pos a3]
          have hn := o4 a3
          unfold q_open
          by_cases c0 : p (28 + h.toNat) = -1
          · rw [if_pos c0]; exact hP
          · rw [if_neg c0]
            by_cases c1 : ρ 71 5 ≤ n ∨ p (24 + n.toNat) = 1
            · rw [if_pos c1]; exact hP
            · rw [if_neg c1]
              by_cases c2 : zp (q_near ρ p h n) = 0
              · rw [if_pos c2]; exact hP
              · rw [if_neg c2]
                by_cases c3 : ρ 77 n.toNat ≠ -1 ∧ p (30 + h.toNat) ≠ ρ 77 n.toNat
                · rw [if_pos c3]; exact hP
                · rw [if_neg c3]; exact pv_open hV hP (by omega) (by omega)
        · rw [if_neg a3]; exact hP
end
