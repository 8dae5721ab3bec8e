/-! sets of cells as longs; what the class's questions come to (printed by wip/tpl/mk.py out of wip/tpl/27.txt: once for each scene) -/
noncomputable def zsetn (P : Int → Prop) : Nat → BitVec 64
  | 0 => 0
  | n + 1 => zsetn P n ||| @ite _ (P (n : Int)) (Classical.propDecidable _) (1#64 <<< n) 0
noncomputable def zset (P : Int → Prop) : BitVec 64 := zsetn P 64
theorem z_one64 (n c : Nat) (hn : n < 64) : (1#64 <<< n).getLsbD c = decide (c = n) := by
  have := z_bit1 (c := (n : Int)) (by omega) (by omega) c
  rw [zlshl_eq (by omega) (by omega), Int.toNat_natCast] at this
  exact this
theorem zsetn_get (P : Int → Prop) : ∀ (n : Nat) (c : Nat), n ≤ 64 → ((zsetn P n).getLsbD c = true ↔ c < n ∧ P c)
  | 0, c => fun _ => by simp [zsetn]
  | n + 1, c => fun hn => by
    have ih := zsetn_get P n c (by omega)
    simp only [zsetn, BitVec.getLsbD_or, Bool.or_eq_true, ih]
    rcases Classical.em (P (n : Int)) with h | h
    · rw [if_pos h, z_one64 n c (by omega), decide_eq_true_eq]
      constructor
      · rintro (h1 | h1)
        · exact ⟨by omega, h1.2⟩
        · subst h1; exact ⟨by omega, h⟩
      · rintro ⟨h1, h2⟩
        by_cases hc : c = n
        · exact Or.inr hc
        · exact Or.inl ⟨by omega, h2⟩
    · rw [if_neg h]
      constructor
      · rintro (h1 | h1)
        · exact ⟨by omega, h1.2⟩
        · simp at h1
      · rintro ⟨h1, h2⟩
        by_cases hc : c = n
        · subst hc; exact absurd h2 h
        · exact Or.inl ⟨by omega, h2⟩
theorem zset_get {P : Int → Prop} {c : Nat} (hc : c < 64) : (zset P).getLsbD c = true ↔ P c := by
  unfold zset
  rw [zsetn_get P 64 c (Nat.le_refl _)]
  exact ⟨fun h => h.2, fun h => ⟨hc, h⟩⟩
theorem zset_geti {P : Int → Prop} {c : Int} (h0 : 0 ≤ c) (hc : c < 64) : (zset P).getLsbD c.toNat = true ↔ P c := by
  rw [zset_get (by omega), Int.toNat_of_nonneg h0]
theorem zset_of {b : BitVec 64} {P : Int → Prop} (h : ∀ c : Nat, c < 64 → (b.getLsbD c = true ↔ P c)) : b = zset P := by
  apply BitVec.eq_of_getLsbD_eq
  intro i hi
  have h1 := h i hi
  have h2 := zset_get (P := P) hi
  rw [← h2] at h1
  exact Bool.eq_iff_iff.mpr h1
theorem zset_congr {P Q : Int → Prop} (h : ∀ c : Int, 0 ≤ c → c < 64 → (P c ↔ Q c)) : zset P = zset Q := by
  refine zset_of fun c hc => ?_
  rw [zset_get hc]
  exact h c (by omega) (by omega)
theorem zset_inj {P Q : Int → Prop} (h : zset P = zset Q) {c : Int} (h0 : 0 ≤ c) (h1 : c < 64) : P c ↔ Q c := by
  rw [← zset_geti (P := P) h0 h1, h, zset_geti h0 h1]
theorem zset_or {P Q : Int → Prop} : zset P ||| zset Q = zset (fun c => P c ∨ Q c) := by
  refine zset_of fun c hc => ?_
  rw [BitVec.getLsbD_or, Bool.or_eq_true, zset_get hc, zset_get hc]
theorem zset_and {P Q : Int → Prop} : zset P &&& zset Q = zset (fun c => P c ∧ Q c) := by
  refine zset_of fun c hc => ?_
  rw [BitVec.getLsbD_and, Bool.and_eq_true, zset_get hc, zset_get hc]
theorem zset_not {P : Int → Prop} : ~~~ zset P = zset (fun c => ¬ P c) := by
  refine zset_of fun c hc => ?_
  rw [BitVec.getLsbD_not, Bool.and_eq_true, Bool.not_eq_true', decide_eq_true_eq, ← zset_get (P := P) hc]
  simp [hc]
theorem zset_none : BitVec.ofNat 64 0 = zset (fun _ => False) := by
  refine zset_of fun c hc => ?_
  simp
theorem zset_zero {P : Int → Prop} : zset P = BitVec.ofNat 64 0 ↔ ∀ c : Int, 0 ≤ c → c < 64 → ¬ P c := by
  constructor
  · intro h c h0 h1 hp
    rw [zset_none] at h
    exact (zset_inj h h0 h1).mp hp
  · intro h
    rw [zset_none]
    exact zset_congr fun c h0 h1 => ⟨fun hp => h c h0 h1 hp, fun q => q.elim⟩
theorem zset_bit {c : Int} (h1 : 0 ≤ c) (h2 : c < 64) : zlshl (BitVec.ofNat 64 1) c = zset (fun x => x = c) := by
  refine zset_of fun n hn => ?_
  rw [z_bit1 h1 h2, decide_eq_true_eq]
  omega
/-- a thing's cells -/
def q_rw (f w : Int) (c : Int) : Prop := f ≠ -1 ∧ f ≤ c ∧ c < f + w
theorem z_row0 {w : Int} (h : w = 0 ∨ w = 1 ∨ w = 2) (n : Nat) : (zlsub (zlshl (BitVec.ofNat 64 1) w) (BitVec.ofNat 64 1)).getLsbD n = decide ((n : Int) < w) := by
  have e0 : zlsub (zlshl (BitVec.ofNat 64 1) 0) (BitVec.ofNat 64 1) = 0#64 := by decide
  have e1 : zlsub (zlshl (BitVec.ofNat 64 1) 1) (BitVec.ofNat 64 1) = 1#64 := by decide
  have e2 : zlsub (zlshl (BitVec.ofNat 64 1) 2) (BitVec.ofNat 64 1) = 3#64 := by decide
  have hbig : ∀ k : Nat, k < 4 → ∀ n : Nat, 2 ≤ n → (BitVec.ofNat 64 k).getLsbD n = false := by
    intro k hk n hn
    rw [BitVec.getLsbD_ofNat]
    have : Nat.testBit k n = false := Nat.testBit_lt_two_pow (Nat.lt_of_lt_of_le hk (Nat.le_trans (show 4 ≤ 2 ^ 2 by decide) (Nat.pow_le_pow_right (by decide) hn)))
    rw [this]; simp
  rcases h with rfl | rfl | rfl
  · rw [e0]
    simp
  · rw [e1]
    by_cases hn : n = 0
    · subst hn; decide
    · by_cases hn1 : n = 1
      · subst hn1; decide
      · rw [hbig 1 (by decide) n (by omega)]
        simp; omega
  · rw [e2]
    by_cases hn : n = 0
    · subst hn; decide
    · by_cases hn1 : n = 1
      · subst hn1; decide
      · rw [hbig 3 (by decide) n (by omega)]
        simp; omega
theorem s_row {d : Nat} {F : zM} {G : zG} (hd : 1 ≤ d) {f w : Int} (hf : -1 ≤ f ∧ f < 64) (hw : 0 ≤ w ∧ w ≤ 2) : zex d 159 [zI f, zI w] (F, G, zsg) = some (some (zL (zset (q_rw f w))), F, G, zsg) := by
  obtain ⟨d, rfl⟩ := zds hd
  refine g_Cells_row f w _ ?_
  split
  · rw [zset_none]
    congr 4
    refine zset_congr fun c _ _ => ⟨fun q => q.elim, fun q => ?_⟩
    unfold q_rw at q
    omega
  · congr 4
    refine zset_of fun c hc => ?_
    rw [zlshl_eq (by omega) (by omega), BitVec.getLsbD_shiftLeft, z_row0 (by omega)]
    unfold q_rw
    simp only [Bool.and_eq_true, Bool.not_eq_true', decide_eq_true_eq, decide_eq_false_iff_not]
    omega
def zCR (ρ F : zM) (G : zG) : Prop := F 6 2 = ρ 71 8 ∧ F 6 1 = ρ 71 11 ∧ F 6 5 = ρ 71 5 ∧ F 7 = ρ 78 ∧ F 8 = ρ 79 ∧ F 9 = ρ 76 ∧ F 10 = ρ 77 ∧ G 6 0 = zset (fun c => ρ 75 c.toNat ≠ 0)
theorem zCR.fr {ρ F F' : zM} {G G' : zG} (h : zCR ρ F G) (h1 : F' 6 = F 6) (h2 : F' 7 = F 7) (h3 : F' 8 = F 8) (h4 : F' 9 = F 9) (h5 : F' 10 = F 10) (h6 : G' 6 = G 6) : zCR ρ F' G' := by
  unfold zCR
  rw [h1, h2, h3, h4, h5, h6]
  exact h
/-- a scene of the class is a row of numbers of the reference -/
def zSC (a : Nat) (p : Nat → Int) (F : zM) : Prop := (∀ t : Nat, t < 8 → F (a + 1) t = p t ∧ F (a + 2) t = p (8 + t) ∧ F (a + 3) t = p (16 + t)) ∧ ((0 ≤ F a 1 ∧ F a 1 < 16) ∧ ∀ e : Nat, e < 4 → p (24 + e) = if (F a 1).toNat.testBit e then 1 else 0) ∧
  (∀ h : Nat, h < 2 → F (a + 4) h = p (28 + h) ∧ F (a + 5) h = p (30 + h) ∧ F (a + 6) h = p (32 + h) ∧ F (a + 7) h = p (34 + h) ∧ F (a + 8) h = p (36 + h) ∧ F (a + 9) h = p (38 + h) ∧ F (a + 10) h = p (40 + h)) ∧ F a 0 = p 42
theorem zSC.fr {a : Nat} {p : Nat → Int} {F F' : zM} (h : zSC a p F) (h1 : ∀ k, k ≤ 10 → F' (a + k) = F (a + k)) : zSC a p F' := by
  have h0 : F' a = F a := h1 0 (by omega)
  unfold zSC
  rw [h0, h1 1 (by omega), h1 2 (by omega), h1 3 (by omega), h1 4 (by omega), h1 5 (by omega), h1 6 (by omega), h1 7 (by omega), h1 8 (by omega), h1 9 (by omega), h1 10 (by omega)]
  exact h
theorem zSC.at {a : Nat} {p : Nat → Int} {F : zM} (h : zSC a p F) {t : Int} (h0 : 0 ≤ t) (h1 : t < 8) : F (a + 1) t.toNat = p t.toNat ∧ F (a + 2) t.toNat = p (8 + t.toNat) ∧ F (a + 3) t.toNat = p (16 + t.toNat) := h.1 t.toNat (by omega)
theorem zSC.hn {a : Nat} {p : Nat → Int} {F : zM} (hs : zSC a p F) {h : Int} (h0 : h = 0 ∨ h = 1) : F (a + 4) h.toNat = p (28 + h.toNat) ∧ F (a + 5) h.toNat = p (30 + h.toNat) ∧ F (a + 6) h.toNat = p (32 + h.toNat) ∧ F (a + 7) h.toNat = p (34 + h.toNat) ∧ F (a + 8) h.toNat = p (36 + h.toNat) ∧ F (a + 9) h.toNat = p (38 + h.toNat) ∧ F (a + 10) h.toNat = p (40 + h.toNat) := hs.2.2.1 h.toNat (by omega)
theorem z_bit0 {x t : Int} (h1 : 0 ≤ x) (h2 : x ≤ 2147483647) (h3 : 0 ≤ t) (h4 : t < 32) : zand (zshr x t) 1 = 0 ↔ ¬ x.toNat.testBit t.toNat = true := by
  rw [z_bit h1 h2 h3 h4]
  cases x.toNat.testBit t.toNat <;> simp
section
variable {d : Nat} {F ρ : zM} {G : zG} {p : Nat → Int}
theorem s_isHand (hd : 1 ≤ d) {h : Int} : zex d 41 [zI h] (F, G, zsg) = some (some (zI (zp (0 ≤ h ∧ h ≤ 1))), F, G, zsg) := by
  obtain ⟨d, rfl⟩ := zds hd
  refine g_C_isHand h _ ?_
  repeat' split
  all_goals first | rw [zp_t (by omega)] | rw [zp_f (by omega)]
theorem s_isThing (hd : 1 ≤ d) (hC : zCR ρ F G) {t : Int} : zex d 43 [zR 5, zI t] (F, G, zsg) = some (some (zI (zp (0 ≤ t ∧ t < ρ 71 8))), F, G, zsg) := by
  obtain ⟨d, rfl⟩ := zds hd
  refine g_C_isThing t _ ?_
  rw [hC.1]
  repeat' split
  all_goals first | rw [zp_t (by omega)] | rw [zp_f (by omega)]
theorem s_isDoor (hd : 1 ≤ d) (hC : zCR ρ F G) {t : Int} : zex d 44 [zR 5, zI t] (F, G, zsg) = some (some (zI (zp (0 ≤ t ∧ t < ρ 71 5))), F, G, zsg) := by
  obtain ⟨d, rfl⟩ := zds hd
  refine g_C_isDoor t _ ?_
  rw [hC.2.2.1]
  repeat' split
  all_goals first | rw [zp_t (by omega)] | rw [zp_f (by omega)]
theorem s_isPresent (hd : 2 ≤ d) (hS : zSC 11 p F) (hr : ∀ h : Nat, h < 2 → -1 ≤ p (28 + h)) {h : Int} : zex d 42 [zR 5, zI h] (F, G, zsg) = some (some (zI (zp ((0 ≤ h ∧ h ≤ 1) ∧ p (28 + h).toNat ≠ -1))), F, G, zsg) := by
  obtain ⟨d, rfl⟩ := zds (Nat.le_of_lt hd)
  refine g_C_isPresent h _ ?_
  rw [s_isHand (by omega), zbI_some]
  split
  · rename_i e1
    rw [zp_0] at e1
    rw [zp_f (fun q => e1 q.1)]
  · rename_i e1
    rw [zp_0, Classical.not_not] at e1
    have e2 : F 15 h.toNat = p (28 + h.toNat) := (hS.hn (by omega)).1
    have e3 : (28 + h).toNat = 28 + h.toNat := by omega
    have e4 := hr h.toNat (by omega)
    rw [if_pos (by omega), e2, e3]
    split
    · rw [zp_f (fun q => by have := q.2; omega)]
    · rw [zp_t ⟨e1, by omega⟩]
theorem s_bitOf (hd : 1 ≤ d) {t : Int} (h2 : t < 8) : zex d 232 [zI t] (F, G, zsg) = some (some (zI (if t < 0 then 0 else 2 ^ t.toNat)), F, G, zsg) := by
  obtain ⟨d, rfl⟩ := zds hd
  refine g_Ways_bitOf t _ ?_
  split
  · rfl
  · rw [z_one (by omega) (by omega)]
theorem s_cellsOf (hd : 2 ≤ d) (hS : zSC 11 p F) (hC : zCR ρ F G) (hV : zRv ρ) (hA : zPa ρ p) {t : Int} (h1 : 0 ≤ t) (h2 : t < 8) : zex d 227 [zR 44, zR 11, zI t] (F, G, zsg) = some (some (zL (zset (q_rw (p t.toNat) (ρ 79 t.toNat)))), F, G, zsg) := by
  obtain ⟨d, rfl⟩ := zds (Nat.le_of_lt hd)
  refine g_Ways_cellsOf t _ ?_
  have e1 : F 12 t.toNat = p t.toNat := (hS.at h1 h2).1
  rw [if_pos ⟨h1, h2⟩, if_pos ⟨h1, h2⟩, e1, hC.2.2.2.2.1, s_row (by omega) (hA.r (by omega)) (hV.2.2.2.2.1 _ (by omega)), zbL_some]
theorem s_leastThingIn (hd : 3 ≤ d) (hS : zSC 11 p F) (hC : zCR ρ F G) (hV : zRv ρ) (hA : zPa ρ p) {c : Int} (h1 : 0 ≤ c) (h2 : c < 64) : zex d 229 [zR 44, zR 11, zI c] (F, G, zsg) = some (some (zI (zfd (fun t => (t : Int) ≠ -1 ∧ q_lies ρ p t c) 0 (ρ 71 8).toNat)), F, G, zsg) := by
  obtain ⟨d, rfl⟩ := zds (show 1 ≤ d by omega)
  have hT := hV.1
  have loop : ∀ m k : Nat, (k : Int) + m = ρ 71 8 → zev zX0 d (229, 2, [zR 44, zR 11, zI c, zI k], [], F, G, zsg) = some (some (zI (zfd (fun t => (t : Int) ≠ -1 ∧ q_lies ρ p t c) k m)), F, G, zsg) := by
    intro m
    induction m with
    | zero =>
      intro k hk
      refine g_Ways_leastThingIn_2 c k _ ?_
      rw [hC.1, if_neg (by omega)]
      rfl
    | succ m ih =>
      intro k hk
      refine g_Ways_leastThingIn_2 c k _ ?_
      have hn := ih (k + 1) (by omega)
      rw [zcast1] at hn
      rw [hC.1, if_pos (by omega), s_cellsOf (by omega) hS hC hV hA (by omega) (by omega), zbL_some, s_has (by omega) h1 h2, zbI_some, zp_iff (zset_geti h1 h2), Int.toNat_natCast, zadd_eq (by omega) (by omega)]
      split
      · rename_i e1
        rw [zp_0] at e1
        rw [hn, zfd_f (fun q => e1 q.2)]
      · rename_i e1
        rw [zp_0, Classical.not_not] at e1
        rw [zfd_t ⟨by omega, e1⟩]
  refine g_Ways_leastThingIn c _ ?_
  have := loop (ρ 71 8).toNat 0 (by omega)
  rw [show ((0 : Nat) : Int) = 0 from rfl] at this
  exact this
theorem s_shutDoors_11 (hd : 1 ≤ d) (hS : zSC 11 p F) (hC : zCR ρ F G) (hV : zRv ρ) : zex d 228 [zR 44, zR 11] (F, G, zsg) = some (some (zL (zset (q_shut ρ p))), F, G, zsg) := by
  obtain ⟨d, rfl⟩ := zds hd
  have hD := hV.2.1
  obtain ⟨⟨o1, o2⟩, o3⟩ := hS.2.1
  have loop : ∀ (m k : Nat) (Q : Int → Prop), (k : Int) + m = ρ 71 5 → zev zX0 d (228, 5, [zR 44, zR 11, zL (zset Q), zR 0, zI k], [], F, G, zsg) = some (some (zL (zset (fun c => Q c ∨ ∃ e : Nat, k ≤ e ∧ (e : Int) < ρ 71 5 ∧ ρ 76 e = c ∧ p (24 + e) = 0))), F, G, zsg) := by
    intro m
    induction m with
    | zero =>
      intro k Q hk
      refine g_Ways_shutDoors_44_11_5 (zset Q) k _ ?_
      rw [hC.2.2.1, if_neg (by omega)]
      congr 4
      refine zset_congr fun c _ _ => ⟨fun q => Or.inl q, fun q => ?_⟩
      rcases q with q | ⟨e, q1, q2, -⟩
      · exact q
      · omega
    | succ m ih =>
      intro k Q hk
      refine g_Ways_shutDoors_44_11_5 (zset Q) k _ ?_
      have hk4 : k < 4 := by omega
      have ho := o3 k hk4
      have hc := hV.2.2.2.2.2.2.1 k hk4
      have hn := fun Q => ih (k + 1) Q (by omega)
      rw [zcast1] at hn
      rw [hC.2.2.1, if_pos (by omega), hC.2.2.2.2.2.1, zadd_eq (by omega) (by omega), Int.toNat_natCast]
      split
      · rename_i e1
        rw [z_bit0 o1 (by omega) (by omega) (by omega), Int.toNat_natCast] at e1
        rw [if_neg e1] at ho
        rw [if_pos (by omega), zlor_eq, zset_bit hc.1 hc.2, zset_or, hn]
        congr 4
        refine zset_congr fun c _ _ => ?_
        constructor
        · rintro ((q | q) | ⟨e, q1, q2⟩)
          · exact Or.inl q
          · exact Or.inr ⟨k, Nat.le_refl _, by omega, q.symm, ho⟩
          · exact Or.inr ⟨e, by omega, q2⟩
        · rintro (q | ⟨e, q1, q2, q3, q4⟩)
          · exact Or.inl (Or.inl q)
          · by_cases he : e = k
            · subst he; exact Or.inl (Or.inr q3.symm)
            · exact Or.inr ⟨e, by omega, q2, q3, q4⟩
      · rename_i e1
        rw [z_bit0 o1 (by omega) (by omega) (by omega), Int.toNat_natCast, Classical.not_not] at e1
        rw [if_pos e1] at ho
        rw [hn]
        congr 4
        refine zset_congr fun c _ _ => or_congr Iff.rfl (zE_step (fun q => ?_))
        have := q.2.2
        omega
  refine g_Ways_shutDoors_44_11 _ ?_
  have := loop (ρ 71 5).toNat 0 (fun _ => False) (by omega)
  rw [show ((0 : Nat) : Int) = 0 from rfl, ← zset_none] at this
  rw [this]
  congr 4
  refine zset_congr fun c _ _ => ?_
  unfold q_shut
  exact ⟨fun q => q.elim (fun q => q.elim) (fun ⟨e, _, h⟩ => ⟨e, h⟩), fun ⟨e, h⟩ => Or.inr ⟨e, Nat.zero_le _, h⟩⟩
/-- the things told by the bits of a number -/
theorem s_takenFor_11 (hd : 2 ≤ d) (hS : zSC 11 p F) (hC : zCR ρ F G) (hV : zRv ρ) (hA : zPa ρ p) (hr : ∀ h : Nat, h < 2 → -1 ≤ p (28 + h) ∧ p (28 + h) < 64) {h X : Int} (hX : 0 ≤ X ∧ X ≤ 2147483647) : zex d 230 [zR 44, zR 11, zI h, zI X] (F, G, zsg) = some (some (zL (zset (q_tk ρ p h (fun t => X.toNat.testBit t = true)))), F, G, zsg) := by
  obtain ⟨d, rfl⟩ := zds (Nat.le_of_lt hd)
  have hT := hV.1
  have loop2 : ∀ (m k : Nat) (Q : Int → Prop), k + m = 2 → zev zX0 d (230, 73, [zR 44, zR 11, zI h, zI X, zL (zset Q), zR 0, zI k], [], F, G, zsg) = some (some (zL (zset (fun c => Q c ∨ ∃ g : Nat, k ≤ g ∧ g < 2 ∧ (g : Int) ≠ h ∧ p (28 + g) = c))), F, G, zsg) := by
    intro m
    induction m with
    | zero =>
      intro k Q hk
      refine g_Ways_takenFor_44_11_73 h X (zset Q) k _ ?_
      rw [if_neg (by omega)]
      congr 4
      refine zset_congr fun c _ _ => ⟨fun q => Or.inl q, fun q => ?_⟩
      rcases q with q | ⟨e, q1, q2, -⟩
      · exact q
      · omega
    | succ m ih =>
      intro k Q hk
      refine g_Ways_takenFor_44_11_73 h X (zset Q) k _ ?_
      have hn := fun Q => ih (k + 1) Q (by omega)
      rw [zcast1] at hn
      have hk2 : k < 2 := by omega
      have e15 : F 15 k = p (28 + k) := (hS.2.2.1 k hk2).1
      have hrk := hr k hk2
      rw [if_pos (by omega), zadd_eq (by omega) (by omega), Int.toNat_natCast, e15]
      split
      · rename_i e1
        rw [hn]
        congr 4
        exact zset_congr fun c _ _ => or_congr Iff.rfl (zE_step (fun q => q.2.1 e1))
      · rename_i e1
        rw [if_pos (by omega)]
        split
        · rename_i e2
          rw [hn]
          congr 4
          refine zset_congr fun c h0 _ => or_congr Iff.rfl (zE_step (fun q => ?_))
          have := q.2.2
          omega
        · rename_i e2
          rw [if_pos (by omega), s_bit (by omega), zbL_some, zset_bit (by omega) hrk.2, zlor_eq, zset_or, hn]
          congr 4
          refine zset_congr fun c _ _ => ?_
          constructor
          · rintro ((q | q) | ⟨e, q1, q2⟩)
            · exact Or.inl q
            · exact Or.inr ⟨k, Nat.le_refl _, by omega, e1, q.symm⟩
            · exact Or.inr ⟨e, by omega, q2⟩
          · rintro (q | ⟨e, q1, q2, q3, q4⟩)
            · exact Or.inl (Or.inl q)
            · by_cases he : e = k
              · subst he; exact Or.inl (Or.inr q4.symm)
              · exact Or.inr ⟨e, by omega, q2, q3, q4⟩
  have loop1 : ∀ (m k : Nat) (Q : Int → Prop), (k : Int) + m = ρ 71 8 → zev zX0 d (230, 18, [zR 44, zR 11, zI h, zI X, zL (zset Q), zR 0, zI k], [], F, G, zsg) = some (some (zL (zset (fun c => (Q c ∨ ∃ t : Nat, k ≤ t ∧ (t : Int) < ρ 71 8 ∧ ¬ X.toNat.testBit t = true ∧ q_lies ρ p t c) ∨ ∃ g : Nat, g < 2 ∧ (g : Int) ≠ h ∧ p (28 + g) = c))), F, G, zsg) := by
    intro m
    induction m with
    | zero =>
      intro k Q hk
      refine g_Ways_takenFor_44_11_18 h X (zset Q) k _ ?_
      have h2 := loop2 2 0 Q (by omega)
      rw [show ((0 : Nat) : Int) = 0 from rfl] at h2
      rw [hC.1, if_neg (by omega), h2]
      congr 4
      refine zset_congr fun c _ _ => ?_
      constructor
      · rintro (q | ⟨g, -, q⟩)
        · exact Or.inl (Or.inl q)
        · exact Or.inr ⟨g, q⟩
      · rintro ((q | ⟨t, q1, q2, -⟩) | ⟨g, q⟩)
        · exact Or.inl q
        · omega
        · exact Or.inr ⟨g, Nat.zero_le _, q⟩
    | succ m ih =>
      intro k Q hk
      refine g_Ways_takenFor_44_11_18 h X (zset Q) k _ ?_
      have hn := fun Q => ih (k + 1) Q (by omega)
      rw [zcast1] at hn
      have hk8 : k < 8 := by omega
      have e12 : F 12 k = p k := (hS.1 k hk8).1
      rw [hC.1, if_pos (by omega), zadd_eq (by omega) (by omega), Int.toNat_natCast, e12, hC.2.2.2.2.1]
      split
      · rename_i e1
        rw [z_bit0 hX.1 hX.2 (by omega) (by omega), Int.toNat_natCast] at e1
        rw [if_pos (by omega), if_pos (by omega), s_row (by omega) (hA.r hk8) (hV.2.2.2.2.1 _ hk8), zbL_some, zlor_eq, zset_or, hn]
        congr 4
        refine zset_congr fun c _ _ => or_congr ?_ Iff.rfl
        constructor
        · rintro ((q | q) | ⟨t, q1, q2⟩)
          · exact Or.inl q
          · exact Or.inr ⟨k, Nat.le_refl _, by omega, e1, q⟩
          · exact Or.inr ⟨t, by omega, q2⟩
        · rintro (q | ⟨t, q1, q2, q3, q4⟩)
          · exact Or.inl (Or.inl q)
          · by_cases he : t = k
            · subst he; exact Or.inl (Or.inr q4)
            · exact Or.inr ⟨t, by omega, q2, q3, q4⟩
      · rename_i e1
        rw [z_bit0 hX.1 hX.2 (by omega) (by omega), Int.toNat_natCast, Classical.not_not] at e1
        rw [hn]
        congr 4
        exact zset_congr fun c _ _ => or_congr (or_congr Iff.rfl (zE_step (fun q => q.2.1 e1))) Iff.rfl
  refine g_Ways_takenFor_44_11 h X _ ?_
  rw [s_shutDoors_11 (by omega) hS hC hV, zbL_some, hC.2.2.2.2.2.2.2, zlor_eq, zset_or]
  have := loop1 (ρ 71 8).toNat 0 (fun c => ρ 75 c.toNat ≠ 0 ∨ q_shut ρ p c) (by omega)
  rw [show ((0 : Nat) : Int) = 0 from rfl] at this
  rw [this]
  congr 4
  refine zset_congr fun c _ _ => ?_
  unfold q_tk
  constructor
  · rintro (((q | q) | ⟨t, -, q⟩) | q)
    · exact Or.inl q
    · exact Or.inr (Or.inl q)
    · exact Or.inr (Or.inr (Or.inl ⟨t, q⟩))
    · exact Or.inr (Or.inr (Or.inr q))
  · rintro (q | q | ⟨t, q⟩ | q)
    · exact Or.inl (Or.inl (Or.inl q))
    · exact Or.inl (Or.inl (Or.inr q))
    · exact Or.inl (Or.inr ⟨t, Nat.zero_le _, q⟩)
    · exact Or.inr q
theorem s_shutDoors_22 (hd : 1 ≤ d) (hS : zSC 22 p F) (hC : zCR ρ F G) (hV : zRv ρ) : zex d 228 [zR 44, zR 22] (F, G, zsg) = some (some (zL (zset (q_shut ρ p))), F, G, zsg) := by
  obtain ⟨d, rfl⟩ := zds hd
  have hD := hV.2.1
  obtain ⟨⟨o1, o2⟩, o3⟩ := hS.2.1
  have loop : ∀ (m k : Nat) (Q : Int → Prop), (k : Int) + m = ρ 71 5 → zev zX0 d (228, 5, [zR 44, zR 22, zL (zset Q), zR 0, zI k], [], F, G, zsg) = some (some (zL (zset (fun c => Q c ∨ ∃ e : Nat, k ≤ e ∧ (e : Int) < ρ 71 5 ∧ ρ 76 e = c ∧ p (24 + e) = 0))), F, G, zsg) := by
    intro m
    induction m with
    | zero =>
      intro k Q hk
      refine g_Ways_shutDoors_44_22_5 (zset Q) k _ ?_
      rw [hC.2.2.1, if_neg (by omega)]
      congr 4
      refine zset_congr fun c _ _ => ⟨fun q => Or.inl q, fun q => ?_⟩
      rcases q with q | ⟨e, q1, q2, -⟩
      · exact q
      · omega
    | succ m ih =>
      intro k Q hk
      refine g_Ways_shutDoors_44_22_5 (zset Q) k _ ?_
      have hk4 : k < 4 := by omega
      have ho := o3 k hk4
      have hc := hV.2.2.2.2.2.2.1 k hk4
      have hn := fun Q => ih (k + 1) Q (by omega)
      rw [zcast1] at hn
      rw [hC.2.2.1, if_pos (by omega), hC.2.2.2.2.2.1, zadd_eq (by omega) (by omega), Int.toNat_natCast]
      split
      · rename_i e1
        rw [z_bit0 o1 (by omega) (by omega) (by omega), Int.toNat_natCast] at e1
        rw [if_neg e1] at ho
        rw [if_pos (by omega), zlor_eq, zset_bit hc.1 hc.2, zset_or, hn]
        congr 4
        refine zset_congr fun c _ _ => ?_
        constructor
        · rintro ((q | q) | ⟨e, q1, q2⟩)
          · exact Or.inl q
          · exact Or.inr ⟨k, Nat.le_refl _, by omega, q.symm, ho⟩
          · exact Or.inr ⟨e, by omega, q2⟩
        · rintro (q | ⟨e, q1, q2, q3, q4⟩)
          · exact Or.inl (Or.inl q)
          · by_cases he : e = k
            · subst he; exact Or.inl (Or.inr q3.symm)
            · exact Or.inr ⟨e, by omega, q2, q3, q4⟩
      · rename_i e1
        rw [z_bit0 o1 (by omega) (by omega) (by omega), Int.toNat_natCast, Classical.not_not] at e1
        rw [if_pos e1] at ho
        rw [hn]
        congr 4
        refine zset_congr fun c _ _ => or_congr Iff.rfl (zE_step (fun q => ?_))
        have := q.2.2
        omega
  refine g_Ways_shutDoors_44_22 _ ?_
  have := loop (ρ 71 5).toNat 0 (fun _ => False) (by omega)
  rw [show ((0 : Nat) : Int) = 0 from rfl, ← zset_none] at this
  rw [this]
  congr 4
  refine zset_congr fun c _ _ => ?_
  unfold q_shut
  exact ⟨fun q => q.elim (fun q => q.elim) (fun ⟨e, _, h⟩ => ⟨e, h⟩), fun ⟨e, h⟩ => Or.inr ⟨e, Nat.zero_le _, h⟩⟩
/-- the things told by the bits of a number -/
theorem s_takenFor_22 (hd : 2 ≤ d) (hS : zSC 22 p F) (hC : zCR ρ F G) (hV : zRv ρ) (hA : zPa ρ p) (hr : ∀ h : Nat, h < 2 → -1 ≤ p (28 + h) ∧ p (28 + h) < 64) {h X : Int} (hX : 0 ≤ X ∧ X ≤ 2147483647) : zex d 230 [zR 44, zR 22, zI h, zI X] (F, G, zsg) = some (some (zL (zset (q_tk ρ p h (fun t => X.toNat.testBit t = true)))), F, G, zsg) := by
  obtain ⟨d, rfl⟩ := zds (Nat.le_of_lt hd)
  have hT := hV.1
  have loop2 : ∀ (m k : Nat) (Q : Int → Prop), k + m = 2 → zev zX0 d (230, 73, [zR 44, zR 22, zI h, zI X, zL (zset Q), zR 0, zI k], [], F, G, zsg) = some (some (zL (zset (fun c => Q c ∨ ∃ g : Nat, k ≤ g ∧ g < 2 ∧ (g : Int) ≠ h ∧ p (28 + g) = c))), F, G, zsg) := by
    intro m
    induction m with
    | zero =>
      intro k Q hk
      refine g_Ways_takenFor_44_22_73 h X (zset Q) k _ ?_
      rw [if_neg (by omega)]
      congr 4
      refine zset_congr fun c _ _ => ⟨fun q => Or.inl q, fun q => ?_⟩
      rcases q with q | ⟨e, q1, q2, -⟩
      · exact q
      · omega
    | succ m ih =>
      intro k Q hk
      refine g_Ways_takenFor_44_22_73 h X (zset Q) k _ ?_
      have hn := fun Q => ih (k + 1) Q (by omega)
      rw [zcast1] at hn
      have hk2 : k < 2 := by omega
      have e15 : F 26 k = p (28 + k) := (hS.2.2.1 k hk2).1
      have hrk := hr k hk2
      rw [if_pos (by omega), zadd_eq (by omega) (by omega), Int.toNat_natCast, e15]
      split
      · rename_i e1
        rw [hn]
        congr 4
        exact zset_congr fun c _ _ => or_congr Iff.rfl (zE_step (fun q => q.2.1 e1))
      · rename_i e1
        rw [if_pos (by omega)]
        split
        · rename_i e2
          rw [hn]
          congr 4
          refine zset_congr fun c h0 _ => or_congr Iff.rfl (zE_step (fun q => ?_))
          have := q.2.2
          omega
        · rename_i e2
          rw [if_pos (by omega), s_bit (by omega), zbL_some, zset_bit (by omega) hrk.2, zlor_eq, zset_or, hn]
          congr 4
          refine zset_congr fun c _ _ => ?_
          constructor
          · rintro ((q | q) | ⟨e, q1, q2⟩)
            · exact Or.inl q
            · exact Or.inr ⟨k, Nat.le_refl _, by omega, e1, q.symm⟩
            · exact Or.inr ⟨e, by omega, q2⟩
          · rintro (q | ⟨e, q1, q2, q3, q4⟩)
            · exact Or.inl (Or.inl q)
            · by_cases he : e = k
              · subst he; exact Or.inl (Or.inr q4.symm)
              · exact Or.inr ⟨e, by omega, q2, q3, q4⟩
  have loop1 : ∀ (m k : Nat) (Q : Int → Prop), (k : Int) + m = ρ 71 8 → zev zX0 d (230, 18, [zR 44, zR 22, zI h, zI X, zL (zset Q), zR 0, zI k], [], F, G, zsg) = some (some (zL (zset (fun c => (Q c ∨ ∃ t : Nat, k ≤ t ∧ (t : Int) < ρ 71 8 ∧ ¬ X.toNat.testBit t = true ∧ q_lies ρ p t c) ∨ ∃ g : Nat, g < 2 ∧ (g : Int) ≠ h ∧ p (28 + g) = c))), F, G, zsg) := by
    intro m
    induction m with
    | zero =>
      intro k Q hk
      refine g_Ways_takenFor_44_22_18 h X (zset Q) k _ ?_
      have h2 := loop2 2 0 Q (by omega)
      rw [show ((0 : Nat) : Int) = 0 from rfl] at h2
      rw [hC.1, if_neg (by omega), h2]
      congr 4
      refine zset_congr fun c _ _ => ?_
      constructor
      · rintro (q | ⟨g, -, q⟩)
        · exact Or.inl (Or.inl q)
        · exact Or.inr ⟨g, q⟩
      · rintro ((q | ⟨t, q1, q2, -⟩) | ⟨g, q⟩)
        · exact Or.inl q
        · omega
        · exact Or.inr ⟨g, Nat.zero_le _, q⟩
    | succ m ih =>
      intro k Q hk
      refine g_Ways_takenFor_44_22_18 h X (zset Q) k _ ?_
      have hn := fun Q => ih (k + 1) Q (by omega)
      rw [zcast1] at hn
      have hk8 : k < 8 := by omega
      have e12 : F 23 k = p k := (hS.1 k hk8).1
      rw [hC.1, if_pos (by omega), zadd_eq (by omega) (by omega), Int.toNat_natCast, e12, hC.2.2.2.2.1]
      split
      · rename_i e1
        rw [z_bit0 hX.1 hX.2 (by omega) (by omega), Int.toNat_natCast] at e1
        rw [if_pos (by omega), if_pos (by omega), s_row (by omega) (hA.r hk8) (hV.2.2.2.2.1 _ hk8), zbL_some, zlor_eq, zset_or, hn]
        congr 4
        refine zset_congr fun c _ _ => or_congr ?_ Iff.rfl
        constructor
        · rintro ((q | q) | ⟨t, q1, q2⟩)
          · exact Or.inl q
          · exact Or.inr ⟨k, Nat.le_refl _, by omega, e1, q⟩
          · exact Or.inr ⟨t, by omega, q2⟩
        · rintro (q | ⟨t, q1, q2, q3, q4⟩)
          · exact Or.inl (Or.inl q)
          · by_cases he : t = k
            · subst he; exact Or.inl (Or.inr q4)
            · exact Or.inr ⟨t, by omega, q2, q3, q4⟩
      · rename_i e1
        rw [z_bit0 hX.1 hX.2 (by omega) (by omega), Int.toNat_natCast, Classical.not_not] at e1
        rw [hn]
        congr 4
        exact zset_congr fun c _ _ => or_congr (or_congr Iff.rfl (zE_step (fun q => q.2.1 e1))) Iff.rfl
  refine g_Ways_takenFor_44_22 h X _ ?_
  rw [s_shutDoors_22 (by omega) hS hC hV, zbL_some, hC.2.2.2.2.2.2.2, zlor_eq, zset_or]
  have := loop1 (ρ 71 8).toNat 0 (fun c => ρ 75 c.toNat ≠ 0 ∨ q_shut ρ p c) (by omega)
  rw [show ((0 : Nat) : Int) = 0 from rfl] at this
  rw [this]
  congr 4
  refine zset_congr fun c _ _ => ?_
  unfold q_tk
  constructor
  · rintro (((q | q) | ⟨t, -, q⟩) | q)
    · exact Or.inl q
    · exact Or.inr (Or.inl q)
    · exact Or.inr (Or.inr (Or.inl ⟨t, q⟩))
    · exact Or.inr (Or.inr (Or.inr q))
  · rintro (q | q | ⟨t, q⟩ | q)
    · exact Or.inl (Or.inl (Or.inl q))
    · exact Or.inl (Or.inl (Or.inr q))
    · exact Or.inl (Or.inr ⟨t, Nat.zero_le _, q⟩)
    · exact Or.inr q
theorem z_testpow {t : Nat} {b : Int} (hb : 0 ≤ b) : ((2 ^ b.toNat : Nat).testBit t = true) ↔ (t : Int) = b := by
  rw [Nat.testBit_two_pow]
  simp only [decide_eq_true_eq]
  omega
theorem z_bits {b : Int} (h1 : -1 ≤ b) : (fun t : Nat => ((if b < 0 then 0 else 2 ^ b.toNat : Int)).toNat.testBit t = true) = q_but b := by
  funext t
  apply propext
  by_cases hb : b < 0
  · rw [if_pos hb]
    simp [q_but]
    omega
  · rw [if_neg hb]
    have : ((2 : Int) ^ b.toNat).toNat = 2 ^ b.toNat := by
      rw [show (2 : Int) ^ b.toNat = ((2 ^ b.toNat : Nat) : Int) by rw [Int.natCast_pow]; rfl, Int.toNat_natCast]
    rw [this, z_testpow (by omega)]
theorem z_bits_r {b : Int} (h2 : b < 8) : 0 ≤ (if b < 0 then 0 else 2 ^ b.toNat : Int) ∧ (if b < 0 then 0 else 2 ^ b.toNat : Int) ≤ 255 := by
  by_cases hb : b < 0
  · rw [if_pos hb]; omega
  · rw [if_neg hb]
    have : b.toNat < 8 := by omega
    have h3 : b.toNat = 0 ∨ b.toNat = 1 ∨ b.toNat = 2 ∨ b.toNat = 3 ∨ b.toNat = 4 ∨ b.toNat = 5 ∨ b.toNat = 6 ∨ b.toNat = 7 := by omega
    rcases h3 with h | h | h | h | h | h | h | h <;> rw [h] <;> decide
theorem s_canLie (hd : 3 ≤ d) (hS : zSC 11 p F) (hC : zCR ρ F G) (hV : zRv ρ) (hA : zPa ρ p) (hr : ∀ h : Nat, h < 2 → -1 ≤ p (28 + h) ∧ p (28 + h) < 64) {b w c : Int} (hb : -1 ≤ b ∧ b < 8) (h1 : 0 ≤ c) (h2 : c < 64) (h3 : 1 ≤ w) (h4 : w ≤ 2) : zex d 231 [zR 44, zR 11, zI b, zI w, zI c] (F, G, zsg) = some (some (zI (zp (q_can ρ p b w c))), F, G, zsg) := by
  obtain ⟨d, rfl⟩ := zds (show 1 ≤ d by omega)
  refine g_Ways_canLie b w c _ ?_
  have hbr := z_bits_r hb.2
  rw [s_isInRow (by omega) h1 h2 (by omega), zbI_some]
  unfold q_can
  split
  · rename_i e1
    rw [zp_0] at e1
    rw [zp_f (fun q => e1 q.1)]
  · rename_i e1
    rw [zp_0, Classical.not_not] at e1
    rw [s_bitOf (by omega) hb.2, zbI_some, s_takenFor_11 (by omega) hS hC hV hA hr ⟨hbr.1, by omega⟩, zbL_some, z_bits hb.1, s_row (by omega) (by omega) (by omega), zbL_some, zland_eq, zset_and]
    have key : zset (fun x => q_tk ρ p (-1) (q_but b) x ∧ q_rw c w x) = BitVec.ofNat 64 0 ↔ ∀ k : Nat, (k : Int) < w → ¬ q_tk ρ p (-1) (q_but b) (c + k) := by
      rw [zset_zero]
      unfold q_rw
      constructor
      · intro h k hk q
        exact h (c + k) (by omega) (by omega) ⟨q, by omega⟩
      · rintro h x h0 h5 ⟨q1, q2⟩
        have := h (x - c).toNat (by omega)
        rw [show c + ((x - c).toNat : Int) = x by omega] at this
        exact this q1
    split
    · rename_i e2
      rw [zlcmp_eq, key] at e2
      rw [zp_t ⟨e1, e2⟩]
    · rename_i e2
      rw [zlcmp_eq, key] at e2
      rw [zp_f (fun q => e2 q.2)]
theorem s_isThingOrHandIn (hd : 4 ≤ d) (hS : zSC 11 p F) (hC : zCR ρ F G) (hV : zRv ρ) (hA : zPa ρ p) {c : Int} (h1 : 0 ≤ c) (h2 : c < 64) : zex d 46 [zR 5, zI c] (F, G, zsg) = some (some (zI (zp (zfd (fun t => (t : Int) ≠ -1 ∧ q_lies ρ p t c) 0 (ρ 71 8).toNat ≠ -1 ∨ p 28 = c ∨ p 29 = c))), F, G, zsg) := by
  obtain ⟨d, rfl⟩ := zds (show 1 ≤ d by omega)
  refine g_C_isThingOrHandIn c _ ?_
  have e0 : F 15 0 = p 28 := (hS.2.2.1 0 (by omega)).1
  have e1 : F 15 1 = p 29 := (hS.2.2.1 1 (by omega)).1
  rw [e0, e1]
  split
  · rename_i e2
    rw [zp_t (Or.inr (Or.inl e2))]
  · rename_i e2
    split
    · rename_i e3
      rw [zp_t (Or.inr (Or.inr e3))]
    · rename_i e3
      rw [s_leastThingIn (by omega) hS hC hV hA h1 h2, zbI_some]
      have hz := zfd_r (P := fun t => (t : Int) ≠ -1 ∧ q_lies ρ p t c) (m := (ρ 71 8).toNat) (k := 0)
      split
      · rename_i e4
        rw [zp_f]
        rintro (q | q | q)
        · omega
        · exact e2 q
        · exact e3 q
      · rename_i e4
        rw [zp_t (Or.inl (by omega))]
end
