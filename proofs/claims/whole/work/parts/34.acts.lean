/-! acts in pure words, and what both sides make of them (printed by wip/tpl/mk.py out of wip/tpl/34.txt) -/
theorem zup_zu {F : zM} {p : Nat → Int} {i j x y z w : Nat} {v : Int} (E : F j y = p w) (h : (j = i ∧ y = x) ↔ w = z) : zup F i x v j y = zu p z v w := by
  unfold zup zu
  by_cases hw : w = z
  · rw [if_pos (h.mpr hw), if_pos hw]
  · rw [if_neg (fun q => hw (h.mp q)), if_neg hw, E]
theorem zSC.up {a : Nat} {p : Nat → Int} {F : zM} (h : zSC a p F) {i x z : Nat} {v : Int} (hi : 1 ≤ i ∧ i ≤ 10) (hz : (i ≤ 3 ∧ x < 8 ∧ z + 8 = 8 * i + x) ∨ (4 ≤ i ∧ x < 2 ∧ z = 20 + 2 * i + x)) : zSC a (zu p z v) (zup F (a + i) x v) := by
  obtain ⟨h1, ⟨h2, h3⟩, h4, h5⟩ := h
  have hr : zup F (a + i) x v a = F a := zup_row (by omega)
  refine ⟨fun t ht => ⟨zup_zu (h1 t ht).1 (by omega), zup_zu (h1 t ht).2.1 (by omega), zup_zu (h1 t ht).2.2 (by omega)⟩, ⟨by rw [hr]; exact h2, fun e he => ?_⟩, fun g hg => ⟨zup_zu (h4 g hg).1 (by omega), zup_zu (h4 g hg).2.1 (by omega), zup_zu (h4 g hg).2.2.1 (by omega), zup_zu (h4 g hg).2.2.2.1 (by omega), zup_zu (h4 g hg).2.2.2.2.1 (by omega), zup_zu (h4 g hg).2.2.2.2.2.1 (by omega), zup_zu (h4 g hg).2.2.2.2.2.2 (by omega)⟩, ?_⟩
  · rw [hr, zu_ne (by omega)]; exact h3 e he
  · rw [hr, zu_ne (by omega)]; exact h5
theorem zSC.tick {a : Nat} {p : Nat → Int} {F : zM} (h : zSC a p F) {v : Int} : zSC a (zu p 42 v) (zup F a 0 v) := by
  obtain ⟨h1, ⟨h2, h3⟩, h4, h5⟩ := h
  have hr : ∀ i, 1 ≤ i → zup F a 0 v (a + i) = F (a + i) := fun i hi => zup_row (by omega)
  refine ⟨fun t ht => ?_, ⟨by rw [zup_col (by decide)]; exact h2, fun e he => ?_⟩, fun g hg => ?_, ?_⟩
  · rw [hr 1 (by decide), hr 2 (by decide), hr 3 (by decide), zu_ne (by omega), zu_ne (by omega), zu_ne (by omega)]; exact h1 t ht
  · rw [zup_col (by decide), zu_ne (by omega)]; exact h3 e he
  · rw [hr 4 (by decide), hr 5 (by decide), hr 6 (by decide), hr 7 (by decide), hr 8 (by decide), hr 9 (by decide), hr 10 (by decide), zu_ne (by omega), zu_ne (by omega), zu_ne (by omega), zu_ne (by omega), zu_ne (by omega), zu_ne (by omega), zu_ne (by omega)]; exact h4 g hg
  · rw [zup_eq, zu_eq]
theorem zSC.opn {a : Nat} {p : Nat → Int} {F : zM} (h : zSC a p F) {e : Int} (he0 : 0 ≤ e) (he4 : e < 4) : zSC a (zu p (24 + e.toNat) 1) (zup F a 1 (zor (F a 1) (zshl 1 e))) := by
  obtain ⟨h1, ⟨⟨h2, h2'⟩, h3⟩, h4, h5⟩ := h
  have hr : ∀ i, 1 ≤ i → zup F a 1 (zor (F a 1) (zshl 1 e)) (a + i) = F (a + i) := fun i hi => zup_row (by omega)
  have hp : zshl 1 e = 2 ^ e.toNat := z_one he0 (by omega)
  have hpr := z_bits_r (b := e) (by omega)
  rw [if_neg (by omega)] at hpr
  have hpt : ((2 : Int) ^ e.toNat).toNat = 2 ^ e.toNat := by
    rw [show (2 : Int) ^ e.toNat = ((2 ^ e.toNat : Nat) : Int) by rw [Int.natCast_pow]; rfl, Int.toNat_natCast]
  have hp16 : 2 ^ e.toNat < 2 ^ 4 := Nat.pow_lt_pow_right (by decide) (by omega)
  have hzo : zor (F a 1) (zshl 1 e) = (((F a 1).toNat ||| 2 ^ e.toNat : Nat) : Int) := by
    rw [hp, zor_eq h2 (by omega) hpr.1 (by omega), hpt]
  have hlt : (F a 1).toNat ||| 2 ^ e.toNat < 2 ^ 4 := Nat.or_lt_two_pow (by omega) hp16
  refine ⟨fun t ht => ?_, ⟨?_, fun g hg => ?_⟩, fun g hg => ?_, ?_⟩
  · rw [hr 1 (by decide), hr 2 (by decide), hr 3 (by decide), zu_ne (by omega), zu_ne (by omega), zu_ne (by omega)]; exact h1 t ht
  · rw [zup_eq, hzo]; omega
  · rw [zup_eq, hzo, Int.toNat_natCast, Nat.testBit_or, Nat.testBit_two_pow]
    by_cases hge : g = e.toNat
    · subst hge
      rw [zu_eq]; simp
    · rw [zu_ne (by omega), h3 g hg]
      have : decide (e.toNat = g) = false := decide_eq_false (fun q => hge q.symm)
      rw [this, Bool.or_false]
  · rw [hr 4 (by decide), hr 5 (by decide), hr 6 (by decide), hr 7 (by decide), hr 8 (by decide), hr 9 (by decide), hr 10 (by decide), zu_ne (by omega), zu_ne (by omega), zu_ne (by omega), zu_ne (by omega), zu_ne (by omega), zu_ne (by omega), zu_ne (by omega)]; exact h4 g hg
  · rw [zup_col (by decide), zu_ne (by omega)]; exact h5
/-- a hand comes to a cell, with what it holds -/
def q_move (ρ : zM) (p : Nat → Int) (h c f : Int) : Nat → Int :=
  if p (30 + h.toNat) = -1 then zu (zu p (28 + h.toNat) c) (32 + h.toNat) (zadd (p (32 + h.toNat)) f)
  else zu (zu (zu p (p (30 + h.toNat)).toNat (q_heldAt c (p (16 + (p (30 + h.toNat)).toNat)) (ρ 79 (p (30 + h.toNat)).toNat))) (28 + h.toNat) c) (32 + h.toNat) (zadd (p (32 + h.toNat)) f)
noncomputable def q_go (ρ : zM) (p : Nat → Int) (h c : Int) : Int × (Nat → Int) :=
  if p (28 + h.toNat) = -1 then (1, p) else if q_far (n_T ρ p h) (n_S ρ p h) (n_a p h) c = -1 then (4, p) else (0, q_move ρ p h c (q_far (n_T ρ p h) (n_S ρ p h) (n_a p h) c))
def q_take (ρ : zM) (p : Nat → Int) (h t s : Int) : Int × (Nat → Int) :=
  if p (28 + h.toNat) = -1 ∨ p (30 + h.toNat) ≠ -1 ∨ ρ 71 8 ≤ t ∨ p t.toNat = -1 ∨ p (8 + t.toNat) ≠ -1 then (1, p) else if q_hf (ρ 78 t.toNat) s = false then (2, p) else if ρ 71 11 < q_wt (ρ 78 t.toNat) (ρ 79 t.toNat) then (3, p)
  else if q_heldAt (p (28 + h.toNat)) s (ρ 79 t.toNat) ≠ p t.toNat then (7, p) else (0, zu (zu (zu p (30 + h.toNat) t) (8 + t.toNat) h) (16 + t.toNat) s)
def q_put (p : Nat → Int) (h : Int) : Int × (Nat → Int) :=
  if p (28 + h.toNat) = -1 ∨ p (30 + h.toNat) = -1 then (1, p) else (0, zu (zu (zu p (30 + h.toNat) (-1)) (8 + (p (30 + h.toNat)).toNat) (-1)) (16 + (p (30 + h.toNat)).toNat) (-1))
def q_near (ρ : zM) (p : Nat → Int) (h e : Int) : Prop := q_bes (p (28 + h.toNat)) 0 = ρ 76 e.toNat ∨ q_bes (p (28 + h.toNat)) 1 = ρ 76 e.toNat ∨ q_bes (p (28 + h.toNat)) 2 = ρ 76 e.toNat ∨ q_bes (p (28 + h.toNat)) 3 = ρ 76 e.toNat
noncomputable def q_open (ρ : zM) (p : Nat → Int) (h e : Int) : Int × (Nat → Int) :=
  if p (28 + h.toNat) = -1 then (1, p) else if ρ 71 5 ≤ e ∨ p (24 + e.toNat) = 1 then (5, p) else if zp (q_near ρ p h e) = 0 then (7, p) else if ρ 77 e.toNat ≠ -1 ∧ p (30 + h.toNat) ≠ ρ 77 e.toNat then (6, p) else (0, zu p (24 + e.toNat) 1)
noncomputable def q_act (ρ : zM) (p : Nat → Int) (h act n s : Int) : Int × (Nat → Int) :=
  if act = 0 then q_go ρ p h n else if act = 1 then q_take ρ p h n s else if act = 2 then q_put p h else if act = 3 then q_open ρ p h n else (0, p)
/-- an act as a program can have it -/
def q_aok (act n s : Int) : Prop := (0 ≤ act ∧ act ≤ 4) ∧ (act = 0 → 0 ≤ n ∧ n < 64) ∧ (act = 1 → (0 ≤ n ∧ n < 8) ∧ 0 ≤ s ∧ s < 4) ∧ (act = 3 → 0 ≤ n ∧ n < 4)
section
variable {d : Nat} {F ρ : zM} {G : zG} {p : Nat → Int}
theorem q_near_rev (hV : zRv ρ) {h e : Int} (hc : 0 ≤ p (28 + h.toNat) ∧ p (28 + h.toNat) < 64) (he : 0 ≤ e ∧ e < 4) : q_near ρ p h e ↔ (q_bes (ρ 76 e.toNat) 0 = p (28 + h.toNat) ∨ q_bes (ρ 76 e.toNat) 1 = p (28 + h.toNat) ∨ q_bes (ρ 76 e.toNat) 2 = p (28 + h.toNat) ∨ q_bes (ρ 76 e.toNat) 3 = p (28 + h.toNat)) := by
  have hD := hV.2.2.2.2.2.2.1 e.toNat (by omega)
  have key : ∀ x y : Int, 0 ≤ x → x < 64 → 0 ≤ y → (q_bes x 0 = y ∨ q_bes x 1 = y ∨ q_bes x 2 = y ∨ q_bes x 3 = y) → (q_bes y 0 = x ∨ q_bes y 1 = x ∨ q_bes y 2 = x ∨ q_bes y 3 = x) := by
    intro x y x0 x1 y0 hq
    rcases hq with hq | hq | hq | hq
    · have := (q_bes_rev x0 x1 (s := 0) (by decide) (by omega)).2
      rw [hq] at this
      exact Or.inr (Or.inr (Or.inl this))
    · have := (q_bes_rev x0 x1 (s := 1) (by decide) (by omega)).2
      rw [hq] at this
      exact Or.inr (Or.inr (Or.inr this))
    · have := (q_bes_rev x0 x1 (s := 2) (by decide) (by omega)).2
      rw [hq] at this
      exact Or.inl this
    · have := (q_bes_rev x0 x1 (s := 3) (by decide) (by omega)).2
      rw [hq] at this
      exact Or.inr (Or.inl this)
  exact ⟨key _ _ hc.1 hc.2 hD.1, key _ _ hD.1 hD.2 hc.1⟩
/-- a cell that is come to: what is held is in the room there too -/
theorem q_reach (hV : zRv ρ) (hP : zPv ρ p) {h c : Int} (hh : h = 0 ∨ h = 1) (hc : p (28 + h.toNat) ≠ -1) (hq : q_far (n_T ρ p h) (n_S ρ p h) (n_a p h) c ≠ -1) (ht : p (30 + h.toNat) ≠ -1) : q_heldAt c (p (16 + (p (30 + h.toNat)).toNat)) (ρ 79 (p (30 + h.toNat)).toNat) ≠ -1 := by
  have hL := q_far_L hq
  have hd := hP.2.2.2.2.2.2.2.1 h.toNat (by omega) ht
  cases hk : (q_far (n_T ρ p h) (n_S ρ p h) (n_a p h) c).toNat with
  | zero =>
    rw [hk] at hL
    have : c = n_a p h := hL
    rw [this]
    show q_heldAt (p (28 + h.toNat)) _ _ ≠ -1
    rw [← hd.2.2.2.2]
    exact hd.2.2.2.1
  | succ k =>
    rw [hk] at hL
    exact ((q_L_pred hL).1.2.2 ht).1
theorem s_moveHand_11 (hd : 1 ≤ d) (hS : zSC 11 p F) (hV : zRv ρ) (hP : zPv ρ p) {h c f : Int} (hh : h = 0 ∨ h = 1) (hcc : 0 ≤ c ∧ c < 64) (hc : p (28 + h.toNat) ≠ -1) (hr : p (30 + h.toNat) ≠ -1 → q_heldAt c (p (16 + (p (30 + h.toNat)).toNat)) (ρ 79 (p (30 + h.toNat)).toNat) ≠ -1) :
    ∃ F', zex d 202 [zR 11, zI h, zI c, zI f] (F, G, zsg) = some (none, F', G, zsg) ∧ zSC 11 (q_move ρ p h c f) F' ∧ (∀ r, (r < 11 ∨ 21 < r) → F' r = F r) := by
  obtain ⟨d, rfl⟩ := zds hd
  have hn8 := hV.1.2
  have e4 : F 15 h.toNat = p (28 + h.toNat) := (hS.hn hh).1
  have e5 : F 16 h.toNat = p (30 + h.toNat) := (hS.hn hh).2.1
  have e6 : F 17 h.toNat = p (32 + h.toNat) := (hS.hn hh).2.2.1
  have hb := hP.2.2.1 h.toNat (by omega)
  have hcr := hP.2.1 h.toNat (by omega)
  have h2 : 0 ≤ h ∧ h < 2 := by omega
  unfold q_move
  by_cases ht : p (30 + h.toNat) = -1
  · rw [if_pos ht]
    refine ⟨zup (zup F 15 h.toNat c) 17 h.toNat (zadd (p (32 + h.toNat)) f), g_Scene_moveHand_11 h c f _ ?_, ?_, fun r hr => ?_⟩
    · rw [if_pos h2, e5, if_pos (by omega), if_pos h2, if_pos h2, if_pos h2, e6]
    · exact (hS.up (i := 4) (x := h.toNat) (z := 28 + h.toNat) (v := c) (by decide) (by omega)).up (i := 6) (x := h.toNat) (z := 32 + h.toNat) (by decide) (by omega)
    · rw [zup_row (by omega), zup_row (by omega)]
  · rw [if_neg ht]
    have hd := hP.2.2.2.2.2.2.2.1 h.toNat (by omega) ht
    have hgo := hr ht
    have ht8 : 0 ≤ p (30 + h.toNat) ∧ p (30 + h.toNat) < 8 := by omega
    have e1 : F 12 (p (30 + h.toNat)).toNat = p (p (30 + h.toNat)).toNat := (hS.at ht8.1 ht8.2).1
    have hat := hd.2.2.2.2
    have hat0 := hd.2.2.2.1
    have hcell : ∀ x s w : Int, q_heldAt x s w ≠ -1 → q_heldAt x s w = x + q_ex s w + 8 * q_sy s := by
      intro x s w hx
      unfold q_heldAt at hx ⊢
      split at hx
      · rename_i g; rw [if_pos g]; omega
      · exact absurd rfl hx
    have hw1 := hV.2.2.2.2.2.1 (p (30 + h.toNat)).toNat (by omega)
    have hv := q_heldAt_v hw1 hgo
    have hv0 := q_heldAt_v (c := p (28 + h.toNat)) hw1 (by rw [← hat]; exact hat0)
    have hm := hcell _ _ _ hgo
    have hm0 := hcell (p (28 + h.toNat)) _ _ (by rw [← hat]; exact hat0)
    rw [← hat] at hm0 hv0
    have hz : zadd (p (p (30 + h.toNat)).toNat) (zsub c (p (28 + h.toNat))) = q_heldAt c (p (16 + (p (30 + h.toNat)).toNat)) (ρ 79 (p (30 + h.toNat)).toNat) := by
      rw [zsub_eq (by omega) (by omega), zadd_eq (by omega) (by omega)]
      omega
    refine ⟨zup (zup (zup F 12 (p (30 + h.toNat)).toNat (q_heldAt c (p (16 + (p (30 + h.toNat)).toNat)) (ρ 79 (p (30 + h.toNat)).toNat))) 15 h.toNat c) 17 h.toNat (zadd (p (32 + h.toNat)) f), g_Scene_moveHand_11 h c f _ ?_, ?_, fun r hr => ?_⟩
    · rw [if_pos h2, e5, if_neg (by omega), if_pos ht8, if_pos h2, if_pos ht8, if_pos h2, if_pos h2, if_pos h2, e1, e4, e6, hz]
    · exact ((hS.up (i := 1) (x := (p (30 + h.toNat)).toNat) (z := (p (30 + h.toNat)).toNat) (by decide) (by omega)).up (i := 4) (x := h.toNat) (z := 28 + h.toNat) (v := c) (by decide) (by omega)).up (i := 6) (x := h.toNat) (z := 32 + h.toNat) (by decide) (by omega)
    · rw [zup_row (by omega), zup_row (by omega), zup_row (by omega)]
theorem s_isLoose_11 (hd : 1 ≤ d) (hS : zSC 11 p F) (hA : zPa ρ p) (hB : ∀ t : Nat, t < 8 → -1 ≤ p (8 + t)) {t : Int} (h1 : 0 ≤ t) (h2 : t < 8) : zex d 200 [zR 11, zI t] (F, G, zsg) = some (some (zI (zp (p t.toNat ≠ -1 ∧ p (8 + t.toNat) = -1))), F, G, zsg) := by
  obtain ⟨d, rfl⟩ := zds hd
  refine g_Scene_isLoose_11 t _ ?_
  have e1 : F 12 t.toNat = p t.toNat := (hS.at h1 h2).1
  have e2 : F 13 t.toNat = p (8 + t.toNat) := (hS.at h1 h2).2.1
  have r1 := hA.r (show t.toNat < 8 by omega)
  have r2 := hB t.toNat (by omega)
  have h12 : 0 ≤ t ∧ t < 8 := ⟨h1, h2⟩
  rw [if_pos h12, if_pos h12, e1, e2]
  repeat' split
  all_goals first | rw [zp_f (by omega)] | rw [zp_t (by omega)]
theorem s_attempt_11 (hd : 5 ≤ d) (hS : zSC 11 p F) (hC : zCR ρ F G) (hV : zRv ρ) (hP : zPv ρ p) {h act n s : Int} (hh : h = 0 ∨ h = 1) (ho : q_aok act n s) :
    ∃ F' G', zex d 138 [zR 52, zR 11, zI h, zI act, zI n, zI s] (F, G, zsg) = some (some (zI (q_act ρ p h act n s).1), F', G', zsg) ∧ zSC 11 (q_act ρ p h act n s).2 F' ∧ (∀ r, r ≠ 44 → (r < 11 ∨ 21 < r) → F' r = F r) ∧ (∀ r, r ≠ 44 → r ≠ 45 → G' r = G r) := by
  obtain ⟨d, rfl⟩ := zds (show 1 ≤ d by omega)
  have hn8 := hV.1.2
  have h2 : 0 ≤ h ∧ h < 2 := by omega
  have e4 : F 15 h.toNat = p (28 + h.toNat) := (hS.hn hh).1
  have e5 : F 16 h.toNat = p (30 + h.toNat) := (hS.hn hh).2.1
  have hb := hP.2.2.1 h.toNat (by omega)
  have hcr := hP.2.1 h.toNat (by omega)
  obtain ⟨o1, o2, o3, o4⟩ := ho
  have stay : ∀ {w : Int}, q_act ρ p h act n s = (w, p) → zex (d + 1) 138 [zR 52, zR 11, zI h, zI act, zI n, zI s] (F, G, zsg) = some (some (zI w), F, G, zsg) → ∃ F' G', zex (d + 1) 138 [zR 52, zR 11, zI h, zI act, zI n, zI s] (F, G, zsg) = some (some (zI (q_act ρ p h act n s).1), F', G', zsg) ∧ zSC 11 (q_act ρ p h act n s).2 F' ∧ (∀ r, r ≠ 44 → (r < 11 ∨ 21 < r) → F' r = F r) ∧ (∀ r, r ≠ 44 → r ≠ 45 → G' r = G r) := by
    intro w hw he
    rw [hw]
    exact ⟨F, G, he, hS, fun _ _ _ => rfl, fun _ _ _ => rfl⟩
  by_cases a4 : act = 4
  · subst a4
    refine stay (w := 0) rfl (g_Acts_attempt_52_11 h 4 n s _ ?_)
    rw [if_pos rfl]
  · by_cases hc : p (28 + h.toNat) = -1
    · refine stay (w := 1) ?_ (g_Acts_attempt_52_11 h act n s _ ?_)
      · have h3 : act = 0 ∨ act = 1 ∨ act = 2 ∨ act = 3 := by omega
        unfold q_act q_go q_take q_put q_open
        rcases h3 with rfl | rfl | rfl | rfl
        · rw [if_pos rfl, if_pos hc]
        · rw [if_neg (by decide), if_pos rfl, if_pos (Or.inl hc)]
        · rw [if_neg (by decide), if_neg (by decide), if_pos rfl, if_pos (Or.inl hc)]
        · rw [if_neg (by decide), if_neg (by decide), if_neg (by decide), if_pos rfl, if_pos hc]
      · rw [if_neg a4, if_pos h2, e4, if_pos (by omega)]
    · have hc0 : ¬ p (28 + h.toNat) < 0 := by omega
      have h3 : act = 0 ∨ act = 1 ∨ act = 2 ∨ act = 3 := by omega
      rcases h3 with rfl | rfl | rfl | rfl
      · -- go
        have hn := o2 rfl
        have hact : q_act ρ p h 0 n s = q_go ρ p h n := by unfold q_act; rw [if_pos rfl]
        obtain ⟨F1, G1, f1, f2, f3, f4⟩ := s_floodFromHand_11 (W := 0) (d := d - 1) (by omega) hS hC hV hP.1 hP.2.1 hh hc hb (by decide)
        rw [q_bw0] at f4
        have ha := n_acell hP hh hc
        have hfar : zex (d - 1) 235 [zR 44, zI n] (F1, G1, zsg) = some (some (zI (q_far (n_T ρ p h) (n_S ρ p h) (n_a p h) n)), F1, G1, zsg) := s_farTo (by omega) ha n_S_cell hn.1 hn.2 f4
        have hr := q_far_r (T := n_T ρ p h) (S := n_S ρ p h) (a := n_a p h) (c := n)
        have hS1 : zSC 11 p F1 := hS.fr (fun k hk => f2 _ (by omega))
        rw [hact]
        by_cases hq : q_far (n_T ρ p h) (n_S ρ p h) (n_a p h) n = -1
        · have hg : q_go ρ p h n = (4, p) := by unfold q_go; rw [if_neg hc, if_pos hq]
          rw [hg]
          refine ⟨F1, G1, g_Acts_attempt_52_11 h 0 n s _ ?_, hS1, fun r r1 _ => f2 r r1, f3⟩
          rw [if_neg (by decide), if_pos h2, e4, if_neg hc0, if_pos rfl]
          have : zex d 139 [zR 52, zR 11, zI h, zI n] (F, G, zsg) = some (some (zI 4), F1, G1, zsg) := by
            obtain ⟨d', rfl⟩ := zds (show 1 ≤ d by omega)
            refine g_Acts_attemptGo_52_11 h n _ ?_
            rw [Nat.add_sub_cancel] at f1 hfar
            rw [f1, zbV_some, hfar, zbI_some, if_pos (by omega)]
          rw [this, zbI_some]
        · have hg : q_go ρ p h n = (0, q_move ρ p h n (q_far (n_T ρ p h) (n_S ρ p h) (n_a p h) n)) := by unfold q_go; rw [if_neg hc, if_neg hq]
          rw [hg]
          obtain ⟨F2, g1, g2, g3⟩ := s_moveHand_11 (d := d - 1) (G := G1) (f := q_far (n_T ρ p h) (n_S ρ p h) (n_a p h) n) (by omega) hS1 hV hP hh hn hc (fun ht => q_reach hV hP hh hc hq ht)
          refine ⟨F2, G1, g_Acts_attempt_52_11 h 0 n s _ ?_, g2, fun r r1 r2 => by rw [g3 r r2, f2 r r1], f3⟩
          rw [if_neg (by decide), if_pos h2, e4, if_neg hc0, if_pos rfl]
          have : zex d 139 [zR 52, zR 11, zI h, zI n] (F, G, zsg) = some (some (zI 0), F2, G1, zsg) := by
            obtain ⟨d', rfl⟩ := zds (show 1 ≤ d by omega)
            refine g_Acts_attemptGo_52_11 h n _ ?_
            rw [Nat.add_sub_cancel] at f1 hfar g1
            rw [f1, zbV_some, hfar, zbI_some, if_neg (by omega), g1, zbV_some]
          rw [this, zbI_some]
      · -- take
        obtain ⟨hn, hs⟩ := o3 rfl
        have hact : q_act ρ p h 1 n s = q_take ρ p h n s := by unfold q_act; rw [if_neg (by decide), if_pos rfl]
        have hn8' : 0 ≤ n ∧ n < 8 := hn
        have e1 : F 12 n.toNat = p n.toNat := (hS.at hn.1 hn.2).1
        have hbr := hP.2.2.2.1 n.toNat (by omega)
        have har := hP.1.r (show n.toNat < 8 by omega)
        have hk := hV.2.2.2.1 n.toNat (by omega)
        have hw := hV.2.2.2.2.1 n.toNat (by omega)
        have key : ∃ F', zex d 140 [zR 52, zR 11, zI h, zI n, zI s] (F, G, zsg) = some (some (zI (q_take ρ p h n s).1), F', G, zsg) ∧ zSC 11 (q_take ρ p h n s).2 F' ∧ (∀ r, (r < 11 ∨ 21 < r) → F' r = F r) := by
          obtain ⟨d', rfl⟩ := zds (show 1 ≤ d by omega)
          unfold q_take
          by_cases c1 : p (28 + h.toNat) = -1 ∨ p (30 + h.toNat) ≠ -1 ∨ ρ 71 8 ≤ n ∨ p n.toNat = -1 ∨ p (8 + n.toNat) ≠ -1
          · rw [if_pos c1]
            refine ⟨F, g_Acts_attemptTake_52_11 h n s _ ?_, hS, fun _ _ => rfl⟩
            rw [if_pos h2, e5, hC.1, s_isLoose_11 (by omega) hS hP.1 (fun t ht => (hP.2.2.2.1 t ht).1) hn.1 hn.2, zbI_some]
            by_cases c2 : p (30 + h.toNat) < 0
            · rw [if_pos c2]
              by_cases c3 : n < ρ 71 8
              · rw [if_pos c3, zp_f (by omega), if_pos rfl]
              · rw [if_neg c3]
            · rw [if_neg c2]
          · rw [if_neg c1]
            have hnn : n < ρ 71 8 := by omega
            have hw1 := hV.2.2.2.2.2.1 n.toNat (by omega)
            have hav := hP.1 n.toNat (by omega)
            have pre : ∀ (F' : zM) (w : Int), (zbI (zex d' 173 [zI (F 7 n.toNat), zI s] (F, G, zsg)) (fun v2 F2 G2 => if v2 = 0 then some (some (zI 2), F2, G2, zsg) else zbI (zex d' 192 [zR 6, zI n] (F2, G2, zsg)) (fun v3 F3 G3 => if (F3 6 1) < v3 then some (some (zI 3), F3, G3, zsg) else if 0 ≤ n ∧ n < 8 then if 0 ≤ n ∧ n < 8 then zbI (zex d' 162 [zI (F3 12 n.toNat), zI (F3 8 n.toNat), zI s] (F3, G3, zsg)) (fun v4 F4 G4 => if 0 ≤ h ∧ h < 2 then if v4 = (F4 15 h.toNat) then zbV (zex d' 203 [zR 11, zI h, zI n, zI s] (F4, G4, zsg)) (fun F5 G5 => some (some (zI 0), F5, G5, zsg)) else some (some (zI 7), F4, G4, zsg) else none) else none else none))) = some (some (zI w), F', G, zsg) → zex (d' + 1) 140 [zR 52, zR 11, zI h, zI n, zI s] (F, G, zsg) = some (some (zI w), F', G, zsg) := by
              intro F' w hz
              refine g_Acts_attemptTake_52_11 h n s _ ?_
              rw [if_pos h2, e5, if_pos (by omega), hC.1, if_pos hnn, s_isLoose_11 (by omega) hS hP.1 (fun t ht => (hP.2.2.2.1 t ht).1) hn.1 hn.2, zbI_some, zp_t (by omega), if_neg (by decide), if_pos hn8']
              exact hz
            by_cases c2 : q_hf (ρ 78 n.toNat) s = false
            · rw [if_pos c2]
              refine ⟨F, pre F 2 ?_, hS, fun _ _ => rfl⟩
              rw [hC.2.2.2.1, s_isHeldFrom (by omega) hk.1 hk.2 hs.1 (by omega), zbI_some, zp_f (by rw [c2]; decide), if_pos rfl]
            · rw [if_neg c2]
              have c2' : q_hf (ρ 78 n.toNat) s = true := by
                cases hx : q_hf (ρ 78 n.toNat) s with
                | false => exact absurd hx c2
                | true => rfl
              by_cases c3 : ρ 71 11 < q_wt (ρ 78 n.toNat) (ρ 79 n.toNat)
              · rw [if_pos c3]
                refine ⟨F, pre F 3 ?_, hS, fun _ _ => rfl⟩
                rw [hC.2.2.2.1, s_isHeldFrom (by omega) hk.1 hk.2 hs.1 (by omega), zbI_some, zp_t c2', if_neg (by decide), s_roomWeight (by omega) hC hV hn.1 hn.2, zbI_some, hC.2.1, if_pos c3]
              · rw [if_neg c3]
                have hiff := q_held_hand (s := s) (f := p n.toNat) (c := p (28 + h.toNat)) (w := ρ 79 n.toNat) (by omega) (by omega) (by omega)
                by_cases c4 : q_heldAt (p (28 + h.toNat)) s (ρ 79 n.toNat) ≠ p n.toNat
                · rw [if_pos c4]
                  refine ⟨F, pre F 7 ?_, hS, fun _ _ => rfl⟩
                  rw [hC.2.2.2.1, s_isHeldFrom (by omega) hk.1 hk.2 hs.1 (by omega), zbI_some, zp_t c2', if_neg (by decide), s_roomWeight (by omega) hC hV hn.1 hn.2, zbI_some, hC.2.1, if_neg c3, if_pos hn8', if_pos hn8', e1, hC.2.2.2.2.1, s_handCell (by omega) (by omega) (by omega) hw.1 hw.2, zbI_some, if_pos h2, e4, if_neg (fun q => c4 (hiff.mp q))]
                · rw [if_neg c4]
                  rw [Classical.not_not] at c4
                  refine ⟨zup (zup (zup F 16 h.toNat n) 13 n.toNat h) 14 n.toNat s, pre _ 0 ?_, ?_, fun r hr => ?_⟩
                  · rw [hC.2.2.2.1, s_isHeldFrom (by omega) hk.1 hk.2 hs.1 (by omega), zbI_some, zp_t c2', if_neg (by decide), s_roomWeight (by omega) hC hV hn.1 hn.2, zbI_some, hC.2.1, if_neg c3, if_pos hn8', if_pos hn8', e1, hC.2.2.2.2.1, s_handCell (by omega) (by omega) (by omega) hw.1 hw.2, zbI_some, if_pos h2, e4, if_pos (hiff.mpr c4)]
                    have : zex d' 203 [zR 11, zI h, zI n, zI s] (F, G, zsg) = some (none, zup (zup (zup F 16 h.toNat n) 13 n.toNat h) 14 n.toNat s, G, zsg) := by
                      obtain ⟨d'', rfl⟩ := zds (show 1 ≤ d' by omega)
                      refine g_Scene_hold_11 h n s _ ?_
                      rw [if_pos h2, if_pos hn8', if_pos hn8']
                    rw [this, zbV_some]
                  · exact ((hS.up (i := 5) (x := h.toNat) (z := 30 + h.toNat) (v := n) (by decide) (by omega)).up (i := 2) (x := n.toNat) (z := 8 + n.toNat) (v := h) (by decide) (by omega)).up (i := 3) (x := n.toNat) (z := 16 + n.toNat) (v := s) (by decide) (by omega)
                  · rw [zup_row (by omega), zup_row (by omega), zup_row (by omega)]
        obtain ⟨F', k1, k2, k3⟩ := key
        rw [hact]
        refine ⟨F', G, g_Acts_attempt_52_11 h 1 n s _ ?_, k2, fun r _ r2 => k3 r r2, fun _ _ _ => rfl⟩
        rw [if_neg (by decide), if_pos h2, e4, if_neg hc0, if_neg (by decide), if_pos rfl, k1, zbI_some]
      · -- put
        have hact : q_act ρ p h 2 n s = q_put p h := by unfold q_act; rw [if_neg (by decide), if_neg (by decide), if_pos rfl]
        rw [hact]
        unfold q_put
        by_cases ht : p (30 + h.toNat) = -1
        · rw [if_pos (Or.inr ht)]
          refine ⟨F, G, g_Acts_attempt_52_11 h 2 n s _ ?_, hS, fun _ _ _ => rfl, fun _ _ _ => rfl⟩
          rw [if_neg (by decide), if_pos h2, e4, if_neg hc0, if_neg (by decide), if_neg (by decide), if_pos rfl]
          have : zex d 141 [zR 11, zI h] (F, G, zsg) = some (some (zI 1), F, G, zsg) := by
            obtain ⟨d', rfl⟩ := zds (show 1 ≤ d by omega)
            refine g_Acts_attemptPut_11 h _ ?_
            rw [if_pos h2, e5, if_pos (by omega)]
          rw [this, zbI_some]
        · rw [if_neg (fun q => q.elim hc ht)]
          have ht8 : 0 ≤ p (30 + h.toNat) ∧ p (30 + h.toNat) < 8 := by omega
          refine ⟨zup (zup (zup F 16 h.toNat (-1)) 13 (p (30 + h.toNat)).toNat (-1)) 14 (p (30 + h.toNat)).toNat (-1), G, g_Acts_attempt_52_11 h 2 n s _ ?_, ?_, fun r _ hr => ?_, fun _ _ _ => rfl⟩
          · rw [if_neg (by decide), if_pos h2, e4, if_neg hc0, if_neg (by decide), if_neg (by decide), if_pos rfl]
            have : zex d 141 [zR 11, zI h] (F, G, zsg) = some (some (zI 0), zup (zup (zup F 16 h.toNat (-1)) 13 (p (30 + h.toNat)).toNat (-1)) 14 (p (30 + h.toNat)).toNat (-1), G, zsg) := by
              obtain ⟨d', rfl⟩ := zds (show 1 ≤ d by omega)
              refine g_Acts_attemptPut_11 h _ ?_
              have : zex d' 204 [zR 11, zI h] (F, G, zsg) = some (none, zup (zup (zup F 16 h.toNat (-1)) 13 (p (30 + h.toNat)).toNat (-1)) 14 (p (30 + h.toNat)).toNat (-1), G, zsg) := by
                obtain ⟨d'', rfl⟩ := zds (show 1 ≤ d' by omega)
                refine g_Scene_letGo_11 h _ ?_
                rw [if_pos h2, e5, if_neg (by omega), if_pos h2, if_pos ht8, if_pos ht8]
              rw [if_pos h2, e5, if_neg (by omega), this, zbV_some]
            rw [this, zbI_some]
          · exact ((hS.up (i := 5) (x := h.toNat) (z := 30 + h.toNat) (v := -1) (by decide) (by omega)).up (i := 2) (x := (p (30 + h.toNat)).toNat) (z := 8 + (p (30 + h.toNat)).toNat) (v := -1) (by decide) (by omega)).up (i := 3) (x := (p (30 + h.toNat)).toNat) (z := 16 + (p (30 + h.toNat)).toNat) (v := -1) (by decide) (by omega)
          · rw [zup_row (by omega), zup_row (by omega), zup_row (by omega)]
      · -- open
        have hn := o4 rfl
        have hD := hV.2.1
        have hact : q_act ρ p h 3 n s = q_open ρ p h n := by unfold q_act; rw [if_neg (by decide), if_neg (by decide), if_neg (by decide), if_pos rfl]
        rw [hact]
        obtain ⟨⟨p1, p2⟩, p3⟩ := hS.2.1
        have p3 : p (24 + n.toNat) = if (F 11 1).toNat.testBit n.toNat then 1 else 0 := p3 n.toNat (by omega)
        have hdc := hV.2.2.2.2.2.2.1 n.toNat (by omega)
        have hdk := hV.2.2.2.2.2.2.2.1 n.toNat (by omega)
        have isop : zex (d - 1) 199 [zR 11, zI n] (F, G, zsg) = some (some (zI (p (24 + n.toNat))), F, G, zsg) := by
          obtain ⟨d', hd'⟩ := zds (show 1 ≤ d - 1 by omega)
          rw [hd']
          refine g_Scene_isOpened_11 n _ ?_
          rw [p3, z_bit p1 (by omega) hn.1 (by omega)]
          cases (F 11 1).toNat.testBit n.toNat <;> rfl
        have hp01 : p (24 + n.toNat) = 0 ∨ p (24 + n.toNat) = 1 := hP.2.2.2.2.2.1 _ (by omega)
        have key : ∃ F', zex d 142 [zR 52, zR 11, zI h, zI n] (F, G, zsg) = some (some (zI (q_open ρ p h n).1), F', G, zsg) ∧ zSC 11 (q_open ρ p h n).2 F' ∧ (∀ r, (r < 11 ∨ 21 < r) → F' r = F r) := by
          obtain ⟨d', rfl⟩ := zds (show 1 ≤ d by omega)
          rw [Nat.add_sub_cancel] at isop
          unfold q_open
          rw [if_neg hc]
          by_cases c1 : ρ 71 5 ≤ n ∨ p (24 + n.toNat) = 1
          · rw [if_pos c1]
            refine ⟨F, g_Acts_attemptOpen_52_11 h n _ ?_, hS, fun _ _ => rfl⟩
            rw [hC.2.2.1, isop, zbI_some]
            by_cases c2 : n < ρ 71 5
            · rw [if_pos c2, if_neg (by omega)]
            · rw [if_neg c2]
          · rw [if_neg c1]
            have c2 : n < ρ 71 5 := by omega
            have hb4 : zex d' 155 [zI (p (28 + h.toNat)), zI (ρ 76 n.toNat)] (F, G, zsg) = some (some (zI (zp (q_near ρ p h n))), F, G, zsg) := s_areBeside (by omega) (by omega) (by omega)
            by_cases c3 : zp (q_near ρ p h n) = 0
            · rw [if_pos c3]
              refine ⟨F, g_Acts_attemptOpen_52_11 h n _ ?_, hS, fun _ _ => rfl⟩
              rw [hC.2.2.1, if_pos c2, isop, zbI_some, if_pos (by omega), if_pos h2, if_pos hn, e4, hC.2.2.2.2.2.1, hb4, zbI_some, if_pos c3]
            · rw [if_neg c3]
              have hup : zSC 11 (zu p (24 + n.toNat) 1) (zup F 11 1 (zor (F 11 1) (zshl 1 n))) := hS.opn hn.1 hn.2
              by_cases c4 : ρ 77 n.toNat ≠ -1 ∧ p (30 + h.toNat) ≠ ρ 77 n.toNat
              · rw [if_pos c4]
                refine ⟨F, g_Acts_attemptOpen_52_11 h n _ ?_, hS, fun _ _ => rfl⟩
                rw [hC.2.2.1, if_pos c2, isop, zbI_some, if_pos (by omega), if_pos h2, if_pos hn, e4, hC.2.2.2.2.2.1, hb4, zbI_some, if_neg c3, if_pos hn, hC.2.2.2.2.2.2.1, if_neg (by omega), if_pos h2, e5, if_neg c4.2]
              · rw [if_neg c4]
                refine ⟨_, g_Acts_attemptOpen_52_11 h n _ ?_, hup, fun r hr => zup_row (by omega)⟩
                rw [hC.2.2.1, if_pos c2, isop, zbI_some, if_pos (by omega), if_pos h2, if_pos hn, e4, hC.2.2.2.2.2.1, hb4, zbI_some, if_neg c3, if_pos hn, hC.2.2.2.2.2.2.1]
                by_cases c5 : ρ 77 n.toNat < 0
                · rw [if_pos c5]
                · rw [if_neg c5, if_pos h2, e5, if_pos (by omega)]
        obtain ⟨F', k1, k2, k3⟩ := key
        refine ⟨F', G, g_Acts_attempt_52_11 h 3 n s _ ?_, k2, fun r _ r2 => k3 r r2, fun _ _ _ => rfl⟩
        rw [if_neg (by decide), if_pos h2, e4, if_neg hc0, if_neg (by decide), if_neg (by decide), if_neg (by decide), k1, zbI_some]
theorem s_moveHand_22 (hd : 1 ≤ d) (hS : zSC 22 p F) (hV : zRv ρ) (hP : zPv ρ p) {h c f : Int} (hh : h = 0 ∨ h = 1) (hcc : 0 ≤ c ∧ c < 64) (hc : p (28 + h.toNat) ≠ -1) (hr : p (30 + h.toNat) ≠ -1 → q_heldAt c (p (16 + (p (30 + h.toNat)).toNat)) (ρ 79 (p (30 + h.toNat)).toNat) ≠ -1) :
    ∃ F', zex d 202 [zR 22, zI h, zI c, zI f] (F, G, zsg) = some (none, F', G, zsg) ∧ zSC 22 (q_move ρ p h c f) F' ∧ (∀ r, (r < 22 ∨ 32 < r) → F' r = F r) := by
  obtain ⟨d, rfl⟩ := zds hd
  have hn8 := hV.1.2
  have e4 : F 26 h.toNat = p (28 + h.toNat) := (hS.hn hh).1
  have e5 : F 27 h.toNat = p (30 + h.toNat) := (hS.hn hh).2.1
  have e6 : F 28 h.toNat = p (32 + h.toNat) := (hS.hn hh).2.2.1
  have hb := hP.2.2.1 h.toNat (by omega)
  have hcr := hP.2.1 h.toNat (by omega)
  have h2 : 0 ≤ h ∧ h < 2 := by omega
  unfold q_move
  by_cases ht : p (30 + h.toNat) = -1
  · rw [if_pos ht]
    refine ⟨zup (zup F 26 h.toNat c) 28 h.toNat (zadd (p (32 + h.toNat)) f), g_Scene_moveHand_22 h c f _ ?_, ?_, fun r hr => ?_⟩
    · rw [if_pos h2, e5, if_pos (by omega), if_pos h2, if_pos h2, if_pos h2, e6]
    · exact (hS.up (i := 4) (x := h.toNat) (z := 28 + h.toNat) (v := c) (by decide) (by omega)).up (i := 6) (x := h.toNat) (z := 32 + h.toNat) (by decide) (by omega)
    · rw [zup_row (by omega), zup_row (by omega)]
  · rw [if_neg ht]
    have hd := hP.2.2.2.2.2.2.2.1 h.toNat (by omega) ht
    have hgo := hr ht
    have ht8 : 0 ≤ p (30 + h.toNat) ∧ p (30 + h.toNat) < 8 := by omega
    have e1 : F 23 (p (30 + h.toNat)).toNat = p (p (30 + h.toNat)).toNat := (hS.at ht8.1 ht8.2).1
    have hat := hd.2.2.2.2
    have hat0 := hd.2.2.2.1
    have hcell : ∀ x s w : Int, q_heldAt x s w ≠ -1 → q_heldAt x s w = x + q_ex s w + 8 * q_sy s := by
      intro x s w hx
      unfold q_heldAt at hx ⊢
      split at hx
      · rename_i g; rw [if_pos g]; omega
      · exact absurd rfl hx
    have hw1 := hV.2.2.2.2.2.1 (p (30 + h.toNat)).toNat (by omega)
    have hv := q_heldAt_v hw1 hgo
    have hv0 := q_heldAt_v (c := p (28 + h.toNat)) hw1 (by rw [← hat]; exact hat0)
    have hm := hcell _ _ _ hgo
    have hm0 := hcell (p (28 + h.toNat)) _ _ (by rw [← hat]; exact hat0)
    rw [← hat] at hm0 hv0
    have hz : zadd (p (p (30 + h.toNat)).toNat) (zsub c (p (28 + h.toNat))) = q_heldAt c (p (16 + (p (30 + h.toNat)).toNat)) (ρ 79 (p (30 + h.toNat)).toNat) := by
      rw [zsub_eq (by omega) (by omega), zadd_eq (by omega) (by omega)]
      omega
    refine ⟨zup (zup (zup F 23 (p (30 + h.toNat)).toNat (q_heldAt c (p (16 + (p (30 + h.toNat)).toNat)) (ρ 79 (p (30 + h.toNat)).toNat))) 26 h.toNat c) 28 h.toNat (zadd (p (32 + h.toNat)) f), g_Scene_moveHand_22 h c f _ ?_, ?_, fun r hr => ?_⟩
    · rw [if_pos h2, e5, if_neg (by omega), if_pos ht8, if_pos h2, if_pos ht8, if_pos h2, if_pos h2, if_pos h2, e1, e4, e6, hz]
    · exact ((hS.up (i := 1) (x := (p (30 + h.toNat)).toNat) (z := (p (30 + h.toNat)).toNat) (by decide) (by omega)).up (i := 4) (x := h.toNat) (z := 28 + h.toNat) (v := c) (by decide) (by omega)).up (i := 6) (x := h.toNat) (z := 32 + h.toNat) (by decide) (by omega)
    · rw [zup_row (by omega), zup_row (by omega), zup_row (by omega)]
theorem s_isLoose_22 (hd : 1 ≤ d) (hS : zSC 22 p F) (hA : zPa ρ p) (hB : ∀ t : Nat, t < 8 → -1 ≤ p (8 + t)) {t : Int} (h1 : 0 ≤ t) (h2 : t < 8) : zex d 200 [zR 22, zI t] (F, G, zsg) = some (some (zI (zp (p t.toNat ≠ -1 ∧ p (8 + t.toNat) = -1))), F, G, zsg) := by
  obtain ⟨d, rfl⟩ := zds hd
  refine g_Scene_isLoose_22 t _ ?_
  have e1 : F 23 t.toNat = p t.toNat := (hS.at h1 h2).1
  have e2 : F 24 t.toNat = p (8 + t.toNat) := (hS.at h1 h2).2.1
  have r1 := hA.r (show t.toNat < 8 by omega)
  have r2 := hB t.toNat (by omega)
  have h12 : 0 ≤ t ∧ t < 8 := ⟨h1, h2⟩
  rw [if_pos h12, if_pos h12, e1, e2]
  repeat' split
  all_goals first | rw [zp_f (by omega)] | rw [zp_t (by omega)]
theorem s_attempt_22 (hd : 5 ≤ d) (hS : zSC 22 p F) (hC : zCR ρ F G) (hV : zRv ρ) (hP : zPv ρ p) {h act n s : Int} (hh : h = 0 ∨ h = 1) (ho : q_aok act n s) :
    ∃ F' G', zex d 138 [zR 52, zR 22, zI h, zI act, zI n, zI s] (F, G, zsg) = some (some (zI (q_act ρ p h act n s).1), F', G', zsg) ∧ zSC 22 (q_act ρ p h act n s).2 F' ∧ (∀ r, r ≠ 44 → (r < 22 ∨ 32 < r) → F' r = F r) ∧ (∀ r, r ≠ 44 → r ≠ 45 → G' r = G r) := by
  obtain ⟨d, rfl⟩ := zds (show 1 ≤ d by omega)
  have hn8 := hV.1.2
  have h2 : 0 ≤ h ∧ h < 2 := by omega
  have e4 : F 26 h.toNat = p (28 + h.toNat) := (hS.hn hh).1
  have e5 : F 27 h.toNat = p (30 + h.toNat) := (hS.hn hh).2.1
  have hb := hP.2.2.1 h.toNat (by omega)
  have hcr := hP.2.1 h.toNat (by omega)
  obtain ⟨o1, o2, o3, o4⟩ := ho
  have stay : ∀ {w : Int}, q_act ρ p h act n s = (w, p) → zex (d + 1) 138 [zR 52, zR 22, zI h, zI act, zI n, zI s] (F, G, zsg) = some (some (zI w), F, G, zsg) → ∃ F' G', zex (d + 1) 138 [zR 52, zR 22, zI h, zI act, zI n, zI s] (F, G, zsg) = some (some (zI (q_act ρ p h act n s).1), F', G', zsg) ∧ zSC 22 (q_act ρ p h act n s).2 F' ∧ (∀ r, r ≠ 44 → (r < 22 ∨ 32 < r) → F' r = F r) ∧ (∀ r, r ≠ 44 → r ≠ 45 → G' r = G r) := by
    intro w hw he
    rw [hw]
    exact ⟨F, G, he, hS, fun _ _ _ => rfl, fun _ _ _ => rfl⟩
  by_cases a4 : act = 4
  · subst a4
    refine stay (w := 0) rfl (g_Acts_attempt_52_22 h 4 n s _ ?_)
    rw [if_pos rfl]
  · by_cases hc : p (28 + h.toNat) = -1
    · refine stay (w := 1) ?_ (g_Acts_attempt_52_22 h act n s _ ?_)
      · have h3 : act = 0 ∨ act = 1 ∨ act = 2 ∨ act = 3 := by omega
        unfold q_act q_go q_take q_put q_open
        rcases h3 with rfl | rfl | rfl | rfl
        · rw [if_pos rfl, if_pos hc]
        · rw [if_neg (by decide), if_pos rfl, if_pos (Or.inl hc)]
        · rw [if_neg (by decide), if_neg (by decide), if_pos rfl, if_pos (Or.inl hc)]
        · rw [if_neg (by decide), if_neg (by decide), if_neg (by decide), if_pos rfl, if_pos hc]
      · rw [if_neg a4, if_pos h2, e4, if_pos (by omega)]
    · have hc0 : ¬ p (28 + h.toNat) < 0 := by omega
      have h3 : act = 0 ∨ act = 1 ∨ act = 2 ∨ act = 3 := by omega
      rcases h3 with rfl | rfl | rfl | rfl
      · -- go
        have hn := o2 rfl
        have hact : q_act ρ p h 0 n s = q_go ρ p h n := by unfold q_act; rw [if_pos rfl]
        obtain ⟨F1, G1, f1, f2, f3, f4⟩ := s_floodFromHand_22 (W := 0) (d := d - 1) (by omega) hS hC hV hP.1 hP.2.1 hh hc hb (by decide)
        rw [q_bw0] at f4
        have ha := n_acell hP hh hc
        have hfar : zex (d - 1) 235 [zR 44, zI n] (F1, G1, zsg) = some (some (zI (q_far (n_T ρ p h) (n_S ρ p h) (n_a p h) n)), F1, G1, zsg) := s_farTo (by omega) ha n_S_cell hn.1 hn.2 f4
        have hr := q_far_r (T := n_T ρ p h) (S := n_S ρ p h) (a := n_a p h) (c := n)
        have hS1 : zSC 22 p F1 := hS.fr (fun k hk => f2 _ (by omega))
        rw [hact]
        by_cases hq : q_far (n_T ρ p h) (n_S ρ p h) (n_a p h) n = -1
        · have hg : q_go ρ p h n = (4, p) := by unfold q_go; rw [if_neg hc, if_pos hq]
          rw [hg]
          refine ⟨F1, G1, g_Acts_attempt_52_22 h 0 n s _ ?_, hS1, fun r r1 _ => f2 r r1, f3⟩
          rw [if_neg (by decide), if_pos h2, e4, if_neg hc0, if_pos rfl]
          have : zex d 139 [zR 52, zR 22, zI h, zI n] (F, G, zsg) = some (some (zI 4), F1, G1, zsg) := by
            obtain ⟨d', rfl⟩ := zds (show 1 ≤ d by omega)
            refine g_Acts_attemptGo_52_22 h n _ ?_
            rw [Nat.add_sub_cancel] at f1 hfar
            rw [f1, zbV_some, hfar, zbI_some, if_pos (by omega)]
          rw [this, zbI_some]
        · have hg : q_go ρ p h n = (0, q_move ρ p h n (q_far (n_T ρ p h) (n_S ρ p h) (n_a p h) n)) := by unfold q_go; rw [if_neg hc, if_neg hq]
          rw [hg]
          obtain ⟨F2, g1, g2, g3⟩ := s_moveHand_22 (d := d - 1) (G := G1) (f := q_far (n_T ρ p h) (n_S ρ p h) (n_a p h) n) (by omega) hS1 hV hP hh hn hc (fun ht => q_reach hV hP hh hc hq ht)
          refine ⟨F2, G1, g_Acts_attempt_52_22 h 0 n s _ ?_, g2, fun r r1 r2 => by rw [g3 r r2, f2 r r1], f3⟩
          rw [if_neg (by decide), if_pos h2, e4, if_neg hc0, if_pos rfl]
          have : zex d 139 [zR 52, zR 22, zI h, zI n] (F, G, zsg) = some (some (zI 0), F2, G1, zsg) := by
            obtain ⟨d', rfl⟩ := zds (show 1 ≤ d by omega)
            refine g_Acts_attemptGo_52_22 h n _ ?_
            rw [Nat.add_sub_cancel] at f1 hfar g1
            rw [f1, zbV_some, hfar, zbI_some, if_neg (by omega), g1, zbV_some]
          rw [this, zbI_some]
      · -- take
        obtain ⟨hn, hs⟩ := o3 rfl
        have hact : q_act ρ p h 1 n s = q_take ρ p h n s := by unfold q_act; rw [if_neg (by decide), if_pos rfl]
        have hn8' : 0 ≤ n ∧ n < 8 := hn
        have e1 : F 23 n.toNat = p n.toNat := (hS.at hn.1 hn.2).1
        have hbr := hP.2.2.2.1 n.toNat (by omega)
        have har := hP.1.r (show n.toNat < 8 by omega)
        have hk := hV.2.2.2.1 n.toNat (by omega)
        have hw := hV.2.2.2.2.1 n.toNat (by omega)
        have key : ∃ F', zex d 140 [zR 52, zR 22, zI h, zI n, zI s] (F, G, zsg) = some (some (zI (q_take ρ p h n s).1), F', G, zsg) ∧ zSC 22 (q_take ρ p h n s).2 F' ∧ (∀ r, (r < 22 ∨ 32 < r) → F' r = F r) := by
          obtain ⟨d', rfl⟩ := zds (show 1 ≤ d by omega)
          unfold q_take
          by_cases c1 : p (28 + h.toNat) = -1 ∨ p (30 + h.toNat) ≠ -1 ∨ ρ 71 8 ≤ n ∨ p n.toNat = -1 ∨ p (8 + n.toNat) ≠ -1
          · rw [if_pos c1]
            refine ⟨F, g_Acts_attemptTake_52_22 h n s _ ?_, hS, fun _ _ => rfl⟩
            rw [if_pos h2, e5, hC.1, s_isLoose_22 (by omega) hS hP.1 (fun t ht => (hP.2.2.2.1 t ht).1) hn.1 hn.2, zbI_some]
            by_cases c2 : p (30 + h.toNat) < 0
            · rw [if_pos c2]
              by_cases c3 : n < ρ 71 8
              · rw [if_pos c3, zp_f (by omega), if_pos rfl]
              · rw [if_neg c3]
            · rw [if_neg c2]
          · rw [if_neg c1]
            have hnn : n < ρ 71 8 := by omega
            have hw1 := hV.2.2.2.2.2.1 n.toNat (by omega)
            have hav := hP.1 n.toNat (by omega)
            have pre : ∀ (F' : zM) (w : Int), (zbI (zex d' 173 [zI (F 7 n.toNat), zI s] (F, G, zsg)) (fun v2 F2 G2 => if v2 = 0 then some (some (zI 2), F2, G2, zsg) else zbI (zex d' 192 [zR 6, zI n] (F2, G2, zsg)) (fun v3 F3 G3 => if (F3 6 1) < v3 then some (some (zI 3), F3, G3, zsg) else if 0 ≤ n ∧ n < 8 then if 0 ≤ n ∧ n < 8 then zbI (zex d' 162 [zI (F3 23 n.toNat), zI (F3 8 n.toNat), zI s] (F3, G3, zsg)) (fun v4 F4 G4 => if 0 ≤ h ∧ h < 2 then if v4 = (F4 26 h.toNat) then zbV (zex d' 203 [zR 22, zI h, zI n, zI s] (F4, G4, zsg)) (fun F5 G5 => some (some (zI 0), F5, G5, zsg)) else some (some (zI 7), F4, G4, zsg) else none) else none else none))) = some (some (zI w), F', G, zsg) → zex (d' + 1) 140 [zR 52, zR 22, zI h, zI n, zI s] (F, G, zsg) = some (some (zI w), F', G, zsg) := by
              intro F' w hz
              refine g_Acts_attemptTake_52_22 h n s _ ?_
              rw [if_pos h2, e5, if_pos (by omega), hC.1, if_pos hnn, s_isLoose_22 (by omega) hS hP.1 (fun t ht => (hP.2.2.2.1 t ht).1) hn.1 hn.2, zbI_some, zp_t (by omega), if_neg (by decide), if_pos hn8']
              exact hz
            by_cases c2 : q_hf (ρ 78 n.toNat) s = false
            · rw [if_pos c2]
              refine ⟨F, pre F 2 ?_, hS, fun _ _ => rfl⟩
              rw [hC.2.2.2.1, s_isHeldFrom (by omega) hk.1 hk.2 hs.1 (by omega), zbI_some, zp_f (by rw [c2]; decide), if_pos rfl]
            · rw [if_neg c2]
              have c2' : q_hf (ρ 78 n.toNat) s = true := by
                cases hx : q_hf (ρ 78 n.toNat) s with
                | false => exact absurd hx c2
                | true => rfl
              by_cases c3 : ρ 71 11 < q_wt (ρ 78 n.toNat) (ρ 79 n.toNat)
              · rw [if_pos c3]
                refine ⟨F, pre F 3 ?_, hS, fun _ _ => rfl⟩
                rw [hC.2.2.2.1, s_isHeldFrom (by omega) hk.1 hk.2 hs.1 (by omega), zbI_some, zp_t c2', if_neg (by decide), s_roomWeight (by omega) hC hV hn.1 hn.2, zbI_some, hC.2.1, if_pos c3]
              · rw [if_neg c3]
                have hiff := q_held_hand (s := s) (f := p n.toNat) (c := p (28 + h.toNat)) (w := ρ 79 n.toNat) (by omega) (by omega) (by omega)
                by_cases c4 : q_heldAt (p (28 + h.toNat)) s (ρ 79 n.toNat) ≠ p n.toNat
                · rw [if_pos c4]
                  refine ⟨F, pre F 7 ?_, hS, fun _ _ => rfl⟩
                  rw [hC.2.2.2.1, s_isHeldFrom (by omega) hk.1 hk.2 hs.1 (by omega), zbI_some, zp_t c2', if_neg (by decide), s_roomWeight (by omega) hC hV hn.1 hn.2, zbI_some, hC.2.1, if_neg c3, if_pos hn8', if_pos hn8', e1, hC.2.2.2.2.1, s_handCell (by omega) (by omega) (by omega) hw.1 hw.2, zbI_some, if_pos h2, e4, if_neg (fun q => c4 (hiff.mp q))]
                · rw [if_neg c4]
                  rw [Classical.not_not] at c4
                  refine ⟨zup (zup (zup F 27 h.toNat n) 24 n.toNat h) 25 n.toNat s, pre _ 0 ?_, ?_, fun r hr => ?_⟩
                  · rw [hC.2.2.2.1, s_isHeldFrom (by omega) hk.1 hk.2 hs.1 (by omega), zbI_some, zp_t c2', if_neg (by decide), s_roomWeight (by omega) hC hV hn.1 hn.2, zbI_some, hC.2.1, if_neg c3, if_pos hn8', if_pos hn8', e1, hC.2.2.2.2.1, s_handCell (by omega) (by omega) (by omega) hw.1 hw.2, zbI_some, if_pos h2, e4, if_pos (hiff.mpr c4)]
                    have : zex d' 203 [zR 22, zI h, zI n, zI s] (F, G, zsg) = some (none, zup (zup (zup F 27 h.toNat n) 24 n.toNat h) 25 n.toNat s, G, zsg) := by
                      obtain ⟨d'', rfl⟩ := zds (show 1 ≤ d' by omega)
                      refine g_Scene_hold_22 h n s _ ?_
                      rw [if_pos h2, if_pos hn8', if_pos hn8']
                    rw [this, zbV_some]
                  · exact ((hS.up (i := 5) (x := h.toNat) (z := 30 + h.toNat) (v := n) (by decide) (by omega)).up (i := 2) (x := n.toNat) (z := 8 + n.toNat) (v := h) (by decide) (by omega)).up (i := 3) (x := n.toNat) (z := 16 + n.toNat) (v := s) (by decide) (by omega)
                  · rw [zup_row (by omega), zup_row (by omega), zup_row (by omega)]
        obtain ⟨F', k1, k2, k3⟩ := key
        rw [hact]
        refine ⟨F', G, g_Acts_attempt_52_22 h 1 n s _ ?_, k2, fun r _ r2 => k3 r r2, fun _ _ _ => rfl⟩
        rw [if_neg (by decide), if_pos h2, e4, if_neg hc0, if_neg (by decide), if_pos rfl, k1, zbI_some]
      · -- put
        have hact : q_act ρ p h 2 n s = q_put p h := by unfold q_act; rw [if_neg (by decide), if_neg (by decide), if_pos rfl]
        rw [hact]
        unfold q_put
        by_cases ht : p (30 + h.toNat) = -1
        · rw [if_pos (Or.inr ht)]
          refine ⟨F, G, g_Acts_attempt_52_22 h 2 n s _ ?_, hS, fun _ _ _ => rfl, fun _ _ _ => rfl⟩
          rw [if_neg (by decide), if_pos h2, e4, if_neg hc0, if_neg (by decide), if_neg (by decide), if_pos rfl]
          have : zex d 141 [zR 22, zI h] (F, G, zsg) = some (some (zI 1), F, G, zsg) := by
            obtain ⟨d', rfl⟩ := zds (show 1 ≤ d by omega)
            refine g_Acts_attemptPut_22 h _ ?_
            rw [if_pos h2, e5, if_pos (by omega)]
          rw [this, zbI_some]
        · rw [if_neg (fun q => q.elim hc ht)]
          have ht8 : 0 ≤ p (30 + h.toNat) ∧ p (30 + h.toNat) < 8 := by omega
          refine ⟨zup (zup (zup F 27 h.toNat (-1)) 24 (p (30 + h.toNat)).toNat (-1)) 25 (p (30 + h.toNat)).toNat (-1), G, g_Acts_attempt_52_22 h 2 n s _ ?_, ?_, fun r _ hr => ?_, fun _ _ _ => rfl⟩
          · rw [if_neg (by decide), if_pos h2, e4, if_neg hc0, if_neg (by decide), if_neg (by decide), if_pos rfl]
            have : zex d 141 [zR 22, zI h] (F, G, zsg) = some (some (zI 0), zup (zup (zup F 27 h.toNat (-1)) 24 (p (30 + h.toNat)).toNat (-1)) 25 (p (30 + h.toNat)).toNat (-1), G, zsg) := by
              obtain ⟨d', rfl⟩ := zds (show 1 ≤ d by omega)
              refine g_Acts_attemptPut_22 h _ ?_
              have : zex d' 204 [zR 22, zI h] (F, G, zsg) = some (none, zup (zup (zup F 27 h.toNat (-1)) 24 (p (30 + h.toNat)).toNat (-1)) 25 (p (30 + h.toNat)).toNat (-1), G, zsg) := by
                obtain ⟨d'', rfl⟩ := zds (show 1 ≤ d' by omega)
                refine g_Scene_letGo_22 h _ ?_
                rw [if_pos h2, e5, if_neg (by omega), if_pos h2, if_pos ht8, if_pos ht8]
              rw [if_pos h2, e5, if_neg (by omega), this, zbV_some]
            rw [this, zbI_some]
          · exact ((hS.up (i := 5) (x := h.toNat) (z := 30 + h.toNat) (v := -1) (by decide) (by omega)).up (i := 2) (x := (p (30 + h.toNat)).toNat) (z := 8 + (p (30 + h.toNat)).toNat) (v := -1) (by decide) (by omega)).up (i := 3) (x := (p (30 + h.toNat)).toNat) (z := 16 + (p (30 + h.toNat)).toNat) (v := -1) (by decide) (by omega)
          · rw [zup_row (by omega), zup_row (by omega), zup_row (by omega)]
      · -- open
        have hn := o4 rfl
        have hD := hV.2.1
        have hact : q_act ρ p h 3 n s = q_open ρ p h n := by unfold q_act; rw [if_neg (by decide), if_neg (by decide), if_neg (by decide), if_pos rfl]
        rw [hact]
        obtain ⟨⟨p1, p2⟩, p3⟩ := hS.2.1
        have p3 : p (24 + n.toNat) = if (F 22 1).toNat.testBit n.toNat then 1 else 0 := p3 n.toNat (by omega)
        have hdc := hV.2.2.2.2.2.2.1 n.toNat (by omega)
        have hdk := hV.2.2.2.2.2.2.2.1 n.toNat (by omega)
        have isop : zex (d - 1) 199 [zR 22, zI n] (F, G, zsg) = some (some (zI (p (24 + n.toNat))), F, G, zsg) := by
          obtain ⟨d', hd'⟩ := zds (show 1 ≤ d - 1 by omega)
          rw [hd']
          refine g_Scene_isOpened_22 n _ ?_
          rw [p3, z_bit p1 (by omega) hn.1 (by omega)]
          cases (F 22 1).toNat.testBit n.toNat <;> rfl
        have hp01 : p (24 + n.toNat) = 0 ∨ p (24 + n.toNat) = 1 := hP.2.2.2.2.2.1 _ (by omega)
        have key : ∃ F', zex d 142 [zR 52, zR 22, zI h, zI n] (F, G, zsg) = some (some (zI (q_open ρ p h n).1), F', G, zsg) ∧ zSC 22 (q_open ρ p h n).2 F' ∧ (∀ r, (r < 22 ∨ 32 < r) → F' r = F r) := by
          obtain ⟨d', rfl⟩ := zds (show 1 ≤ d by omega)
          rw [Nat.add_sub_cancel] at isop
          unfold q_open
          rw [if_neg hc]
          by_cases c1 : ρ 71 5 ≤ n ∨ p (24 + n.toNat) = 1
          · rw [if_pos c1]
            refine ⟨F, g_Acts_attemptOpen_52_22 h n _ ?_, hS, fun _ _ => rfl⟩
            rw [hC.2.2.1, isop, zbI_some]
            by_cases c2 : n < ρ 71 5
            · rw [if_pos c2, if_neg (by omega)]
            · rw [if_neg c2]
          · rw [if_neg c1]
            have c2 : n < ρ 71 5 := by omega
            have hb4 : zex d' 155 [zI (p (28 + h.toNat)), zI (ρ 76 n.toNat)] (F, G, zsg) = some (some (zI (zp (q_near ρ p h n))), F, G, zsg) := s_areBeside (by omega) (by omega) (by omega)
            by_cases c3 : zp (q_near ρ p h n) = 0
            · rw [if_pos c3]
              refine ⟨F, g_Acts_attemptOpen_52_22 h n _ ?_, hS, fun _ _ => rfl⟩
              rw [hC.2.2.1, if_pos c2, isop, zbI_some, if_pos (by omega), if_pos h2, if_pos hn, e4, hC.2.2.2.2.2.1, hb4, zbI_some, if_pos c3]
            · rw [if_neg c3]
              have hup : zSC 22 (zu p (24 + n.toNat) 1) (zup F 22 1 (zor (F 22 1) (zshl 1 n))) := hS.opn hn.1 hn.2
              by_cases c4 : ρ 77 n.toNat ≠ -1 ∧ p (30 + h.toNat) ≠ ρ 77 n.toNat
              · rw [if_pos c4]
                refine ⟨F, g_Acts_attemptOpen_52_22 h n _ ?_, hS, fun _ _ => rfl⟩
                rw [hC.2.2.1, if_pos c2, isop, zbI_some, if_pos (by omega), if_pos h2, if_pos hn, e4, hC.2.2.2.2.2.1, hb4, zbI_some, if_neg c3, if_pos hn, hC.2.2.2.2.2.2.1, if_neg (by omega), if_pos h2, e5, if_neg c4.2]
              · rw [if_neg c4]
                refine ⟨_, g_Acts_attemptOpen_52_22 h n _ ?_, hup, fun r hr => zup_row (by omega)⟩
                rw [hC.2.2.1, if_pos c2, isop, zbI_some, if_pos (by omega), if_pos h2, if_pos hn, e4, hC.2.2.2.2.2.1, hb4, zbI_some, if_neg c3, if_pos hn, hC.2.2.2.2.2.2.1]
                by_cases c5 : ρ 77 n.toNat < 0
                · rw [if_pos c5]
                · rw [if_neg c5, if_pos h2, e5, if_pos (by omega)]
        obtain ⟨F', k1, k2, k3⟩ := key
        refine ⟨F', G, g_Acts_attempt_52_22 h 3 n s _ ?_, k2, fun r _ r2 => k3 r r2, fun _ _ _ => rfl⟩
        rw [if_neg (by decide), if_pos h2, e4, if_neg hc0, if_neg (by decide), if_neg (by decide), if_neg (by decide), k1, zbI_some]
end
