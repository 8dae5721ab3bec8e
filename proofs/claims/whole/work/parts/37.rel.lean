/-! the whole relation between the class's cells and the reference's -/
/-- all rows but some are as they were; of the reference's own fields all but some -/
def zch (R C : List Nat) (F F' : zM) : Prop := (∀ r, r ∉ R → r ≠ 71 → F' r = F r) ∧ (∀ j, j ∉ C → F' 71 j = F 71 j)
theorem zch.rfl {R C : List Nat} {F : zM} : zch R C F F := ⟨fun _ _ _ => Eq.refl _, fun _ _ => Eq.refl _⟩
theorem zch.tr {R C R' C' : List Nat} {F F' F'' : zM} (h1 : zch R C F F') (h2 : zch R' C' F' F'') : zch (R ++ R') (C ++ C') F F'' :=
  ⟨fun r a b => by
    have := not_or.mp (fun q => a (List.mem_append.mpr q))
    rw [h2.1 r this.2 b, h1.1 r this.1 b], fun j a => by
    have := not_or.mp (fun q => a (List.mem_append.mpr q))
    rw [h2.2 j this.2, h1.2 j this.1]⟩
theorem zch.le {R C R' C' : List Nat} {F F' : zM} (h : zch R C F F') (hR : ∀ r ∈ R, r ∈ R') (hC : ∀ j ∈ C, j ∈ C') : zch R' C' F F' := ⟨fun r a b => h.1 r (fun q => a (hR r q)) b, fun j a => h.2 j (fun q => a (hC j q))⟩
def zNO (ρ : zM) (p : Nat → Int) : Prop := ∀ t u : Nat, t < 8 → u < 8 → t ≠ u → p t ≠ -1 → p u ≠ -1 → p t + ρ 79 t ≤ p u ∨ p u + ρ 79 u ≤ p t
/-- programs that hands have -/
def zGr (F : zM) (p : Nat → Int) : Prop := ∀ h : Nat, h < 2 → -1 ≤ p (34 + h) ∧ p (34 + h) < F 71 12 ∧ (p (34 + h) ≠ -1 → 0 ≤ p (36 + h) ∧ p (36 + h) ≤ F 80 (p (34 + h)).toNat) ∧ -2147483648 ≤ p (40 + h) ∧ p (40 + h) ≤ 2147483647
def zIm (ρ F : zM) : Prop := F 5 4 = F 71 3 ∧ (F 71 3 = 0 ∨ F 71 3 = 1) ∧ (F 71 3 = 1 → zSC 33 (F 74) F ∧ zPv ρ (F 74) ∧ zNO ρ (F 74) ∧ zGr F (F 74))
def zTp (F : zM) : Prop := F 46 1 = F 71 18 ∧ (0 ≤ F 71 18 ∧ F 71 18 ≤ 120) ∧ F 46 2 = F 71 12 ∧ (0 ≤ F 71 12 ∧ F 71 12 ≤ 6) ∧ F 47 = F 84 ∧ (∀ j, 0 ≤ F 84 j ∧ F 84 j ≤ 255) ∧ F 48 = F 80 ∧
  (∀ q : Nat, (q : Int) < F 71 12 → (0 ≤ F 80 q ∧ F 80 q ≤ 12) ∧ ∀ i : Nat, (i : Int) < F 80 q → F 49 (12 * q + i) = F 81 (12 * q + i) ∧ F 50 (12 * q + i) = F 82 (12 * q + i) ∧ F 51 (12 * q + i) = F 83 (12 * q + i) ∧ q_aok (F 81 (12 * q + i)) (F 82 (12 * q + i)) (F 83 (12 * q + i)))
def zPl (F : zM) : Prop := (F 60 11 = if F 71 23 = -1 then -1 else F 71 19) ∧ (F 71 23 ≠ -1 → F 60 12 = F 71 23) ∧ F 60 10 = F 71 32 ∧ (0 ≤ F 71 19 ∧ F 71 19 ≤ 2) ∧ (F 71 23 = -1 → F 71 19 = 0) ∧ -1 ≤ F 71 23 ∧
  (∀ i : Nat, (i : Int) < F 71 19 → F 62 (3 * i) = F 85 i ∧ F 62 (3 * i + 1) = F 86 i ∧ F 62 (3 * i + 2) = F 87 i)
def zRu (F : zM) (G : zG) : Prop := F 53 0 = F 71 24 ∧ (0 ≤ F 71 24 ∧ F 71 24 ≤ 12) ∧ F 53 1 = F 71 31 ∧ F 54 = F 88 ∧ F 55 = F 89 ∧ F 56 = F 90 ∧ F 57 = F 91 ∧ F 58 = F 92 ∧ G 59 = G 93
def zCa (ρ F : zM) : Prop := F 64 4 = F 71 33 ∧ (0 ≤ F 71 33 ∧ F 71 33 ≤ 6) ∧ (0 < F 71 33 → F 64 5 = F 71 34 ∧ 0 ≤ F 71 34 ∧ F 71 34 < ρ 71 8) ∧ F 65 = F 94 ∧ F 66 = F 95 ∧ (∀ i : Nat, (i : Int) < F 71 33 → (0 ≤ F 94 i ∧ F 94 i < 64) ∧ 1 ≤ F 95 i ∧ F 95 i ≤ 99)
def zSh (F : zM) : Prop := F 68 = F 96 ∧ F 69 = F 97 ∧ (∀ s : Nat, s < 4 → (-1 ≤ F 96 s ∧ F 96 s ≤ 2) ∧ 0 ≤ F 97 s ∧ F 97 s ≤ 40) ∧ (∀ s i : Nat, s < 4 → (i : Int) < F 97 s → F 70 (40 * s + i) = F 98 (40 * s + i))
def zAll (ρ : zM) (p : Nat → Int) (F : zM) (G : zG) : Prop := zNow ρ p F G ∧ zNO ρ p ∧ zGr F p ∧ zIm ρ F ∧ zTp F ∧ zPl F ∧ zRu F G ∧ zCa ρ F ∧ zSh F
def zRR (F : zM) (G : zG) : Prop := ∃ ρ p, zAll ρ p F G
section
variable {F F' ρ : zM} {G G' : zG} {p : Nat → Int} {R C : List Nat}
theorem zGr.ch (h : zGr F p) (hc : zch R C F F') (hR : 80 ∉ R := by decide) (hC : 12 ∉ C := by decide) : zGr F' p := by
  unfold zGr
  rw [hc.1 80 hR (by decide), hc.2 12 hC]
  exact h
theorem zIm.ch (h : zIm ρ F) (hc : zch R C F F') (hR : ∀ r ∈ [5, 33, 34, 35, 36, 37, 38, 39, 40, 41, 42, 43, 74, 80], r ∉ R := by decide) (hC : ∀ j ∈ [3, 12], j ∉ C := by decide) : zIm ρ F' := by
  unfold zIm
  have k : ∀ r ∈ [5, 33, 34, 35, 36, 37, 38, 39, 40, 41, 42, 43, 74, 80], F' r = F r := fun r hr => hc.1 r (hR r hr) (by intro q; subst q; revert hr; decide)
  rw [k 5 (by decide), k 74 (by decide), hc.2 3 (hC 3 (by decide))]
  refine ⟨h.1, h.2.1, fun h3 => ?_⟩
  obtain ⟨h4, h5, h6, h7⟩ := h.2.2 h3
  refine ⟨h4.fr (fun i hi => ?_), h5, h6, h7.ch hc (hR 80 (by decide)) (hC 12 (by decide))⟩
  have : i = 0 ∨ i = 1 ∨ i = 2 ∨ i = 3 ∨ i = 4 ∨ i = 5 ∨ i = 6 ∨ i = 7 ∨ i = 8 ∨ i = 9 ∨ i = 10 := by omega
  rcases this with rfl | rfl | rfl | rfl | rfl | rfl | rfl | rfl | rfl | rfl | rfl <;> exact k _ (by decide)
theorem zTp.ch (h : zTp F) (hc : zch R C F F') (hR : ∀ r ∈ [46, 47, 48, 49, 50, 51, 80, 81, 82, 83, 84], r ∉ R := by decide) (hC : ∀ j ∈ [12, 18], j ∉ C := by decide) : zTp F' := by
  unfold zTp
  have k : ∀ r ∈ [46, 47, 48, 49, 50, 51, 80, 81, 82, 83, 84], F' r = F r := fun r hr => hc.1 r (hR r hr) (by intro q; subst q; revert hr; decide)
  rw [k 46 (by decide), k 47 (by decide), k 48 (by decide), k 49 (by decide), k 50 (by decide), k 51 (by decide), k 80 (by decide), k 81 (by decide), k 82 (by decide), k 83 (by decide), k 84 (by decide), hc.2 12 (hC 12 (by decide)), hc.2 18 (hC 18 (by decide))]
  exact h
theorem zPl.ch (h : zPl F) (hc : zch R C F F') (hR : ∀ r ∈ [60, 62, 85, 86, 87], r ∉ R := by decide) (hC : ∀ j ∈ [19, 23, 32], j ∉ C := by decide) : zPl F' := by
  unfold zPl
  have k : ∀ r ∈ [60, 62, 85, 86, 87], F' r = F r := fun r hr => hc.1 r (hR r hr) (by intro q; subst q; revert hr; decide)
  rw [k 60 (by decide), k 62 (by decide), k 85 (by decide), k 86 (by decide), k 87 (by decide), hc.2 19 (hC 19 (by decide)), hc.2 23 (hC 23 (by decide)), hc.2 32 (hC 32 (by decide))]
  exact h
theorem zRu.ch (h : zRu F G) (hc : zch R C F F') (hg : G' 59 = G 59 ∧ G' 93 = G 93) (hR : ∀ r ∈ [53, 54, 55, 56, 57, 58, 88, 89, 90, 91, 92], r ∉ R := by decide) (hC : ∀ j ∈ [24, 31], j ∉ C := by decide) : zRu F' G' := by
  unfold zRu
  have k : ∀ r ∈ [53, 54, 55, 56, 57, 58, 88, 89, 90, 91, 92], F' r = F r := fun r hr => hc.1 r (hR r hr) (by intro q; subst q; revert hr; decide)
  rw [k 53 (by decide), k 54 (by decide), k 55 (by decide), k 56 (by decide), k 57 (by decide), k 58 (by decide), k 88 (by decide), k 89 (by decide), k 90 (by decide), k 91 (by decide), k 92 (by decide), hc.2 24 (hC 24 (by decide)), hc.2 31 (hC 31 (by decide)), hg.1, hg.2]
  exact h
theorem zCa.ch (h : zCa ρ F) (hc : zch R C F F') (hR : ∀ r ∈ [65, 66, 94, 95], r ∉ R := by decide) (hC : ∀ j ∈ [33, 34], j ∉ C := by decide) (h4 : F' 64 4 = F 64 4) (h5 : F' 64 5 = F 64 5) : zCa ρ F' := by
  unfold zCa
  have k : ∀ r ∈ [65, 66, 94, 95], F' r = F r := fun r hr => hc.1 r (hR r hr) (by intro q; subst q; revert hr; decide)
  rw [h4, h5, k 65 (by decide), k 66 (by decide), k 94 (by decide), k 95 (by decide), hc.2 33 (hC 33 (by decide)), hc.2 34 (hC 34 (by decide))]
  exact h
theorem zSh.ch (h : zSh F) (hc : zch R C F F') (hR : ∀ r ∈ [68, 69, 70, 96, 97, 98], r ∉ R := by decide) : zSh F' := by
  unfold zSh
  have k : ∀ r ∈ [68, 69, 70, 96, 97, 98], F' r = F r := fun r hr => hc.1 r (hR r hr) (by intro q; subst q; revert hr; decide)
  rw [k 68 (by decide), k 69 (by decide), k 70 (by decide), k 96 (by decide), k 97 (by decide), k 98 (by decide)]
  exact h
theorem zqc.ch (h : zqc F G F' G') : zch [44, 99, 100] [] F F' ∧ G' 59 = G 59 ∧ G' 93 = G 93 := by
  refine ⟨⟨fun r hr _ => ?_, fun j _ => ?_⟩, h.2 59 (by decide) (by decide), h.2 93 (by decide) (by decide)⟩
  · simp only [List.mem_cons, List.not_mem_nil, or_false, not_or] at hr
    exact h.1 r hr.1 hr.2.1 hr.2.2
  · rw [h.1 71 (by decide) (by decide) (by decide)]
theorem zAll.q (h : zAll ρ p F G) (hq : zqc F G F' G') : zAll ρ p F' G' := by
  obtain ⟨h1, h2, h3, h4, h5, h6, h7, h8, h9⟩ := h
  obtain ⟨c1, c2⟩ := hq.ch
  have e64 : F' 64 = F 64 := hq.1 64 (by decide) (by decide) (by decide)
  exact ⟨h1.q hq, h2, h3.ch c1, h4.ch c1, h5.ch c1, h6.ch c1, h7.ch c1 c2, h8.ch c1 (by decide) (by decide) (by rw [e64]) (by rw [e64]), h9.ch c1⟩
/-- a call of the law: both sides answer alike, and the relation holds again -/
def zStep (d c m : Nat) (as : List zV) (F : zM) (G : zG) : Prop := ∃ (v : Int) (F1 : zM) (G1 : zG) (F2 : zM) (G2 : zG), zex d c (zR 5 :: as) (F, G, zsg) = some (some (zI v), F1, G1, zsg) ∧ zex d m (zR 71 :: as) (F1, G1, zsg) = some (some (zI v), F2, G2, zsg) ∧ zRR F2 G2
theorem zAsk.step {d c m : Nat} {as : List zV} (h : zAsk d c m as F G) (hr : zAll ρ p F G) : zStep d c m as F G := by
  obtain ⟨v, F1, G1, F2, e1, e2, e3⟩ := h
  exact ⟨v, F1, G1, F2, G1, e1, e2, ρ, p, hr.q e3⟩
end
