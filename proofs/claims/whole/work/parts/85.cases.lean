/-! printed by wip/gen/gen_cases.py: each case of the law's loop -/
def zOk (q : Option zQ) : Prop := ∃ (F' : zM) (G' : zG), q = some (some (zI 1), F', G', zsg)
theorem zOk.le {a b : Option zQ} (h : zle a b) (hb : zOk a) : zOk b := by
  obtain ⟨F', G', e⟩ := hb
  exact ⟨F', G', h _ e⟩
theorem zOk.ite {P : Prop} [Decidable P] {A B : Option zQ} (h1 : zOk A) (h2 : zOk B) : zOk (if P then A else B) := by
  by_cases h : P
  · rw [if_pos h]; exact h1
  · rw [if_neg h]; exact h2
section
variable {L : Nat} {xs : Nat → Int} {F : zM} {G : zG} {i : Int}
theorem w_208 (hi : 0 ≤ i ∧ i + 5 < L) (hL : L ≤ 3072) (S : zStep 40 1 77 [zI (xs (Int.toNat (i + 1))), zI (xs (Int.toNat (i + 2)))] F G) (ih : ∀ F2 G2, zRR F2 G2 → zOk (zev (zX 1 L xs) 40 (242, 1578, [zR 1, zR 5, zR 71, zI i], [], F2, G2, zsg))) : zOk (zev (zX 1 L xs) 40 (242, 208, [zR 1, zR 5, zR 71, zI i], [], F, G, zsg)) := by
  obtain ⟨v, F1, G1, F2, G2, e1, e2, hr⟩ := S
  refine zOk.le (g_W_208 i) ?_
  rw [zadd_eq (x := i) (y := 1) (by omega) (by omega), zadd_eq (x := i) (y := 2) (by omega) (by omega), if_pos (by omega), if_pos (by omega), e1, zbI_some, if_pos (by omega), if_pos (by omega), e2, zbI_some, if_pos rfl]
  exact ih F2 G2 hr
theorem w_241 (hi : 0 ≤ i ∧ i + 5 < L) (hL : L ≤ 3072) (S : zStep 40 2 78 [zI (xs (Int.toNat (i + 1))), zI (xs (Int.toNat (i + 2)))] F G) (ih : ∀ F2 G2, zRR F2 G2 → zOk (zev (zX 1 L xs) 40 (242, 1578, [zR 1, zR 5, zR 71, zI i], [], F2, G2, zsg))) : zOk (zev (zX 1 L xs) 40 (242, 241, [zR 1, zR 5, zR 71, zI i], [], F, G, zsg)) := by
  obtain ⟨v, F1, G1, F2, G2, e1, e2, hr⟩ := S
  refine zOk.le (g_W_241 i) ?_
  rw [zadd_eq (x := i) (y := 1) (by omega) (by omega), zadd_eq (x := i) (y := 2) (by omega) (by omega), if_pos (by omega), if_pos (by omega), e1, zbI_some, if_pos (by omega), if_pos (by omega), e2, zbI_some, if_pos rfl]
  exact ih F2 G2 hr
theorem w_274 (hi : 0 ≤ i ∧ i + 5 < L) (hL : L ≤ 3072) (S : zStep 40 3 80 [zI (xs (Int.toNat (i + 1))), zI (xs (Int.toNat (i + 2))), zI (xs (Int.toNat (i + 3)))] F G) (ih : ∀ F2 G2, zRR F2 G2 → zOk (zev (zX 1 L xs) 40 (242, 1578, [zR 1, zR 5, zR 71, zI i], [], F2, G2, zsg))) : zOk (zev (zX 1 L xs) 40 (242, 274, [zR 1, zR 5, zR 71, zI i], [], F, G, zsg)) := by
  obtain ⟨v, F1, G1, F2, G2, e1, e2, hr⟩ := S
  refine zOk.le (g_W_274 i) ?_
  rw [zadd_eq (x := i) (y := 1) (by omega) (by omega), zadd_eq (x := i) (y := 2) (by omega) (by omega), zadd_eq (x := i) (y := 3) (by omega) (by omega), if_pos (by omega), if_pos (by omega), if_pos (by omega), e1, zbI_some, if_pos (by omega), if_pos (by omega), if_pos (by omega), e2, zbI_some, if_pos rfl]
  exact ih F2 G2 hr
theorem w_317 (hi : 0 ≤ i ∧ i + 5 < L) (hL : L ≤ 3072) (S : zStep 40 4 81 [zI (xs (Int.toNat (i + 1))), zI (xs (Int.toNat (i + 2)))] F G) (ih : ∀ F2 G2, zRR F2 G2 → zOk (zev (zX 1 L xs) 40 (242, 1578, [zR 1, zR 5, zR 71, zI i], [], F2, G2, zsg))) : zOk (zev (zX 1 L xs) 40 (242, 317, [zR 1, zR 5, zR 71, zI i], [], F, G, zsg)) := by
  obtain ⟨v, F1, G1, F2, G2, e1, e2, hr⟩ := S
  refine zOk.le (g_W_317 i) ?_
  rw [zadd_eq (x := i) (y := 1) (by omega) (by omega), zadd_eq (x := i) (y := 2) (by omega) (by omega), if_pos (by omega), if_pos (by omega), e1, zbI_some, if_pos (by omega), if_pos (by omega), e2, zbI_some, if_pos rfl]
  exact ih F2 G2 hr
theorem w_350 (hi : 0 ≤ i ∧ i + 5 < L) (hL : L ≤ 3072) (S : zStep 40 5 82 [zI (xs (Int.toNat (i + 1)))] F G) (ih : ∀ F2 G2, zRR F2 G2 → zOk (zev (zX 1 L xs) 40 (242, 1578, [zR 1, zR 5, zR 71, zI i], [], F2, G2, zsg))) : zOk (zev (zX 1 L xs) 40 (242, 350, [zR 1, zR 5, zR 71, zI i], [], F, G, zsg)) := by
  obtain ⟨v, F1, G1, F2, G2, e1, e2, hr⟩ := S
  refine zOk.le (g_W_350 i) ?_
  rw [zadd_eq (x := i) (y := 1) (by omega) (by omega), if_pos (by omega), e1, zbI_some, if_pos (by omega), e2, zbI_some, if_pos rfl]
  exact ih F2 G2 hr
theorem w_373 (hi : 0 ≤ i ∧ i + 5 < L) (hL : L ≤ 3072) (S : zStep 40 6 88 [zI (xs (Int.toNat (i + 1))), zI (xs (Int.toNat (i + 2)))] F G) (ih : ∀ F2 G2, zRR F2 G2 → zOk (zev (zX 1 L xs) 40 (242, 1578, [zR 1, zR 5, zR 71, zI i], [], F2, G2, zsg))) : zOk (zev (zX 1 L xs) 40 (242, 373, [zR 1, zR 5, zR 71, zI i], [], F, G, zsg)) := by
  obtain ⟨v, F1, G1, F2, G2, e1, e2, hr⟩ := S
  refine zOk.le (g_W_373 i) ?_
  rw [zadd_eq (x := i) (y := 1) (by omega) (by omega), zadd_eq (x := i) (y := 2) (by omega) (by omega), if_pos (by omega), if_pos (by omega), e1, zbI_some, if_pos (by omega), if_pos (by omega), e2, zbI_some, if_pos rfl]
  exact ih F2 G2 hr
theorem w_406 (hi : 0 ≤ i ∧ i + 5 < L) (hL : L ≤ 3072) (S : zStep 40 7 90 [zI (xs (Int.toNat (i + 1))), zI (xs (Int.toNat (i + 2))), zI (xs (Int.toNat (i + 3)))] F G) (ih : ∀ F2 G2, zRR F2 G2 → zOk (zev (zX 1 L xs) 40 (242, 1578, [zR 1, zR 5, zR 71, zI i], [], F2, G2, zsg))) : zOk (zev (zX 1 L xs) 40 (242, 406, [zR 1, zR 5, zR 71, zI i], [], F, G, zsg)) := by
  obtain ⟨v, F1, G1, F2, G2, e1, e2, hr⟩ := S
  refine zOk.le (g_W_406 i) ?_
  rw [zadd_eq (x := i) (y := 1) (by omega) (by omega), zadd_eq (x := i) (y := 2) (by omega) (by omega), zadd_eq (x := i) (y := 3) (by omega) (by omega), if_pos (by omega), if_pos (by omega), if_pos (by omega), e1, zbI_some, if_pos (by omega), if_pos (by omega), if_pos (by omega), e2, zbI_some, if_pos rfl]
  exact ih F2 G2 hr
theorem w_449 (hi : 0 ≤ i ∧ i + 5 < L) (hL : L ≤ 3072) (S : zStep 40 8 91 [zI (xs (Int.toNat (i + 1)))] F G) (ih : ∀ F2 G2, zRR F2 G2 → zOk (zev (zX 1 L xs) 40 (242, 1578, [zR 1, zR 5, zR 71, zI i], [], F2, G2, zsg))) : zOk (zev (zX 1 L xs) 40 (242, 449, [zR 1, zR 5, zR 71, zI i], [], F, G, zsg)) := by
  obtain ⟨v, F1, G1, F2, G2, e1, e2, hr⟩ := S
  refine zOk.le (g_W_449 i) ?_
  rw [zadd_eq (x := i) (y := 1) (by omega) (by omega), if_pos (by omega), e1, zbI_some, if_pos (by omega), e2, zbI_some, if_pos rfl]
  exact ih F2 G2 hr
theorem w_472 (hi : 0 ≤ i ∧ i + 5 < L) (hL : L ≤ 3072) (S : zStep 40 9 92 [zI (xs (Int.toNat (i + 1))), zI (xs (Int.toNat (i + 2)))] F G) (ih : ∀ F2 G2, zRR F2 G2 → zOk (zev (zX 1 L xs) 40 (242, 1578, [zR 1, zR 5, zR 71, zI i], [], F2, G2, zsg))) : zOk (zev (zX 1 L xs) 40 (242, 472, [zR 1, zR 5, zR 71, zI i], [], F, G, zsg)) := by
  obtain ⟨v, F1, G1, F2, G2, e1, e2, hr⟩ := S
  refine zOk.le (g_W_472 i) ?_
  rw [zadd_eq (x := i) (y := 1) (by omega) (by omega), zadd_eq (x := i) (y := 2) (by omega) (by omega), if_pos (by omega), if_pos (by omega), e1, zbI_some, if_pos (by omega), if_pos (by omega), e2, zbI_some, if_pos rfl]
  exact ih F2 G2 hr
theorem w_505 (hi : 0 ≤ i ∧ i + 5 < L) (hL : L ≤ 3072) (S : zStep 40 10 69 [zI (xs (Int.toNat (i + 1))), zI (xs (Int.toNat (i + 2)))] F G) (ih : ∀ F2 G2, zRR F2 G2 → zOk (zev (zX 1 L xs) 40 (242, 1578, [zR 1, zR 5, zR 71, zI i], [], F2, G2, zsg))) : zOk (zev (zX 1 L xs) 40 (242, 505, [zR 1, zR 5, zR 71, zI i], [], F, G, zsg)) := by
  obtain ⟨v, F1, G1, F2, G2, e1, e2, hr⟩ := S
  refine zOk.le (g_W_505 i) ?_
  rw [zadd_eq (x := i) (y := 1) (by omega) (by omega), zadd_eq (x := i) (y := 2) (by omega) (by omega), if_pos (by omega), if_pos (by omega), e1, zbI_some, if_pos (by omega), if_pos (by omega), e2, zbI_some, if_pos rfl]
  exact ih F2 G2 hr
theorem w_538 (hi : 0 ≤ i ∧ i + 5 < L) (hL : L ≤ 3072) (S : zStep 40 11 71 [zI (xs (Int.toNat (i + 1))), zI (xs (Int.toNat (i + 2))), zI (xs (Int.toNat (i + 3)))] F G) (ih : ∀ F2 G2, zRR F2 G2 → zOk (zev (zX 1 L xs) 40 (242, 1578, [zR 1, zR 5, zR 71, zI i], [], F2, G2, zsg))) : zOk (zev (zX 1 L xs) 40 (242, 538, [zR 1, zR 5, zR 71, zI i], [], F, G, zsg)) := by
  obtain ⟨v, F1, G1, F2, G2, e1, e2, hr⟩ := S
  refine zOk.le (g_W_538 i) ?_
  rw [zadd_eq (x := i) (y := 1) (by omega) (by omega), zadd_eq (x := i) (y := 2) (by omega) (by omega), zadd_eq (x := i) (y := 3) (by omega) (by omega), if_pos (by omega), if_pos (by omega), if_pos (by omega), e1, zbI_some, if_pos (by omega), if_pos (by omega), if_pos (by omega), e2, zbI_some, if_pos rfl]
  exact ih F2 G2 hr
theorem w_581 (hi : 0 ≤ i ∧ i + 5 < L) (hL : L ≤ 3072) (S : zStep 40 12 74 [zI (xs (Int.toNat (i + 1))), zI (xs (Int.toNat (i + 2)))] F G) (ih : ∀ F2 G2, zRR F2 G2 → zOk (zev (zX 1 L xs) 40 (242, 1578, [zR 1, zR 5, zR 71, zI i], [], F2, G2, zsg))) : zOk (zev (zX 1 L xs) 40 (242, 581, [zR 1, zR 5, zR 71, zI i], [], F, G, zsg)) := by
  obtain ⟨v, F1, G1, F2, G2, e1, e2, hr⟩ := S
  refine zOk.le (g_W_581 i) ?_
  rw [zadd_eq (x := i) (y := 1) (by omega) (by omega), zadd_eq (x := i) (y := 2) (by omega) (by omega), if_pos (by omega), if_pos (by omega), e1, zbI_some, if_pos (by omega), if_pos (by omega), e2, zbI_some, if_pos rfl]
  exact ih F2 G2 hr
theorem w_614 (hi : 0 ≤ i ∧ i + 5 < L) (hL : L ≤ 3072) (S : zStep 40 13 75 [zI (xs (Int.toNat (i + 1))), zI (xs (Int.toNat (i + 2)))] F G) (ih : ∀ F2 G2, zRR F2 G2 → zOk (zev (zX 1 L xs) 40 (242, 1578, [zR 1, zR 5, zR 71, zI i], [], F2, G2, zsg))) : zOk (zev (zX 1 L xs) 40 (242, 614, [zR 1, zR 5, zR 71, zI i], [], F, G, zsg)) := by
  obtain ⟨v, F1, G1, F2, G2, e1, e2, hr⟩ := S
  refine zOk.le (g_W_614 i) ?_
  rw [zadd_eq (x := i) (y := 1) (by omega) (by omega), zadd_eq (x := i) (y := 2) (by omega) (by omega), if_pos (by omega), if_pos (by omega), e1, zbI_some, if_pos (by omega), if_pos (by omega), e2, zbI_some, if_pos rfl]
  exact ih F2 G2 hr
theorem w_647 (hi : 0 ≤ i ∧ i + 5 < L) (hL : L ≤ 3072) (S : zStep 40 14 93 [zI (xs (Int.toNat (i + 1))), zI (xs (Int.toNat (i + 2)))] F G) (ih : ∀ F2 G2, zRR F2 G2 → zOk (zev (zX 1 L xs) 40 (242, 1578, [zR 1, zR 5, zR 71, zI i], [], F2, G2, zsg))) : zOk (zev (zX 1 L xs) 40 (242, 647, [zR 1, zR 5, zR 71, zI i], [], F, G, zsg)) := by
  obtain ⟨v, F1, G1, F2, G2, e1, e2, hr⟩ := S
  refine zOk.le (g_W_647 i) ?_
  rw [zadd_eq (x := i) (y := 1) (by omega) (by omega), zadd_eq (x := i) (y := 2) (by omega) (by omega), if_pos (by omega), if_pos (by omega), e1, zbI_some, if_pos (by omega), if_pos (by omega), e2, zbI_some, if_pos rfl]
  exact ih F2 G2 hr
theorem w_680 (hi : 0 ≤ i ∧ i + 5 < L) (hL : L ≤ 3072) (S : zStep 40 15 94 [zI (xs (Int.toNat (i + 1))), zI (xs (Int.toNat (i + 2)))] F G) (ih : ∀ F2 G2, zRR F2 G2 → zOk (zev (zX 1 L xs) 40 (242, 1578, [zR 1, zR 5, zR 71, zI i], [], F2, G2, zsg))) : zOk (zev (zX 1 L xs) 40 (242, 680, [zR 1, zR 5, zR 71, zI i], [], F, G, zsg)) := by
  obtain ⟨v, F1, G1, F2, G2, e1, e2, hr⟩ := S
  refine zOk.le (g_W_680 i) ?_
  rw [zadd_eq (x := i) (y := 1) (by omega) (by omega), zadd_eq (x := i) (y := 2) (by omega) (by omega), if_pos (by omega), if_pos (by omega), e1, zbI_some, if_pos (by omega), if_pos (by omega), e2, zbI_some, if_pos rfl]
  exact ih F2 G2 hr
theorem w_713 (hi : 0 ≤ i ∧ i + 5 < L) (hL : L ≤ 3072) (S : zStep 40 16 57 [zI (xs (Int.toNat (i + 1))), zI (xs (Int.toNat (i + 2))), zI (xs (Int.toNat (i + 3)))] F G) (ih : ∀ F2 G2, zRR F2 G2 → zOk (zev (zX 1 L xs) 40 (242, 1578, [zR 1, zR 5, zR 71, zI i], [], F2, G2, zsg))) : zOk (zev (zX 1 L xs) 40 (242, 713, [zR 1, zR 5, zR 71, zI i], [], F, G, zsg)) := by
  obtain ⟨v, F1, G1, F2, G2, e1, e2, hr⟩ := S
  refine zOk.le (g_W_713 i) ?_
  rw [zadd_eq (x := i) (y := 1) (by omega) (by omega), zadd_eq (x := i) (y := 2) (by omega) (by omega), zadd_eq (x := i) (y := 3) (by omega) (by omega), if_pos (by omega), if_pos (by omega), if_pos (by omega), e1, zbI_some, if_pos (by omega), if_pos (by omega), if_pos (by omega), e2, zbI_some, if_pos rfl]
  exact ih F2 G2 hr
theorem w_756 (hi : 0 ≤ i ∧ i + 5 < L) (hL : L ≤ 3072) (S : zStep 40 17 95 [zI (xs (Int.toNat (i + 1)))] F G) (ih : ∀ F2 G2, zRR F2 G2 → zOk (zev (zX 1 L xs) 40 (242, 1578, [zR 1, zR 5, zR 71, zI i], [], F2, G2, zsg))) : zOk (zev (zX 1 L xs) 40 (242, 756, [zR 1, zR 5, zR 71, zI i], [], F, G, zsg)) := by
  obtain ⟨v, F1, G1, F2, G2, e1, e2, hr⟩ := S
  refine zOk.le (g_W_756 i) ?_
  rw [zadd_eq (x := i) (y := 1) (by omega) (by omega), if_pos (by omega), e1, zbI_some, if_pos (by omega), e2, zbI_some, if_pos rfl]
  exact ih F2 G2 hr
theorem w_779 (hi : 0 ≤ i ∧ i + 5 < L) (hL : L ≤ 3072) (S : zStep 40 18 96 [zI (xs (Int.toNat (i + 1)))] F G) (ih : ∀ F2 G2, zRR F2 G2 → zOk (zev (zX 1 L xs) 40 (242, 1578, [zR 1, zR 5, zR 71, zI i], [], F2, G2, zsg))) : zOk (zev (zX 1 L xs) 40 (242, 779, [zR 1, zR 5, zR 71, zI i], [], F, G, zsg)) := by
  obtain ⟨v, F1, G1, F2, G2, e1, e2, hr⟩ := S
  refine zOk.le (g_W_779 i) ?_
  rw [zadd_eq (x := i) (y := 1) (by omega) (by omega), if_pos (by omega), e1, zbI_some, if_pos (by omega), e2, zbI_some, if_pos rfl]
  exact ih F2 G2 hr
theorem w_802 (hi : 0 ≤ i ∧ i + 5 < L) (hL : L ≤ 3072) (S : zStep 40 19 97 [zI (xs (Int.toNat (i + 1)))] F G) (ih : ∀ F2 G2, zRR F2 G2 → zOk (zev (zX 1 L xs) 40 (242, 1578, [zR 1, zR 5, zR 71, zI i], [], F2, G2, zsg))) : zOk (zev (zX 1 L xs) 40 (242, 802, [zR 1, zR 5, zR 71, zI i], [], F, G, zsg)) := by
  obtain ⟨v, F1, G1, F2, G2, e1, e2, hr⟩ := S
  refine zOk.le (g_W_802 i) ?_
  rw [zadd_eq (x := i) (y := 1) (by omega) (by omega), if_pos (by omega), e1, zbI_some, if_pos (by omega), e2, zbI_some, if_pos rfl]
  exact ih F2 G2 hr
theorem w_825 (hi : 0 ≤ i ∧ i + 5 < L) (hL : L ≤ 3072) (S : zStep 40 20 98 [zL (zlor (zlshl (zi2l (xs (Int.toNat (i + 1)))) 32) (zland (zi2l (xs (Int.toNat (i + 2)))) (BitVec.ofInt 64 (4294967295)))), zI (xs (Int.toNat (i + 3)))] F G) (ih : ∀ F2 G2, zRR F2 G2 → zOk (zev (zX 1 L xs) 40 (242, 1578, [zR 1, zR 5, zR 71, zI i], [], F2, G2, zsg))) : zOk (zev (zX 1 L xs) 40 (242, 825, [zR 1, zR 5, zR 71, zI i], [], F, G, zsg)) := by
  obtain ⟨v, F1, G1, F2, G2, e1, e2, hr⟩ := S
  refine zOk.le (g_W_825 i) ?_
  rw [zadd_eq (x := i) (y := 1) (by omega) (by omega), zadd_eq (x := i) (y := 2) (by omega) (by omega), zadd_eq (x := i) (y := 3) (by omega) (by omega), if_pos (by omega), if_pos (by omega), if_pos (by omega), e1, zbI_some, if_pos (by omega), if_pos (by omega), if_pos (by omega), e2, zbI_some, if_pos rfl]
  exact ih F2 G2 hr
theorem w_888 (hi : 0 ≤ i ∧ i + 5 < L) (hL : L ≤ 3072) (S : zStep 40 21 102 [] F G) (ih : ∀ F2 G2, zRR F2 G2 → zOk (zev (zX 1 L xs) 40 (242, 1578, [zR 1, zR 5, zR 71, zI i], [], F2, G2, zsg))) : zOk (zev (zX 1 L xs) 40 (242, 888, [zR 1, zR 5, zR 71, zI i], [], F, G, zsg)) := by
  obtain ⟨v, F1, G1, F2, G2, e1, e2, hr⟩ := S
  refine zOk.le (g_W_888 i) ?_
  rw [e1, zbI_some, e2, zbI_some, if_pos rfl]
  exact ih F2 G2 hr
theorem w_901 (hi : 0 ≤ i ∧ i + 5 < L) (hL : L ≤ 3072) (S : zStep 40 22 104 [zI (xs (Int.toNat (i + 1))), zI (xs (Int.toNat (i + 2))), zI (xs (Int.toNat (i + 3)))] F G) (ih : ∀ F2 G2, zRR F2 G2 → zOk (zev (zX 1 L xs) 40 (242, 1578, [zR 1, zR 5, zR 71, zI i], [], F2, G2, zsg))) : zOk (zev (zX 1 L xs) 40 (242, 901, [zR 1, zR 5, zR 71, zI i], [], F, G, zsg)) := by
  obtain ⟨v, F1, G1, F2, G2, e1, e2, hr⟩ := S
  refine zOk.le (g_W_901 i) ?_
  rw [zadd_eq (x := i) (y := 1) (by omega) (by omega), zadd_eq (x := i) (y := 2) (by omega) (by omega), zadd_eq (x := i) (y := 3) (by omega) (by omega), if_pos (by omega), if_pos (by omega), if_pos (by omega), e1, zbI_some, if_pos (by omega), if_pos (by omega), if_pos (by omega), e2, zbI_some, if_pos rfl]
  exact ih F2 G2 hr
theorem w_944 (hi : 0 ≤ i ∧ i + 5 < L) (hL : L ≤ 3072) (S : zStep 40 23 108 [zI (xs (Int.toNat (i + 1))), zI (xs (Int.toNat (i + 2))), zI (xs (Int.toNat (i + 3)))] F G) (ih : ∀ F2 G2, zRR F2 G2 → zOk (zev (zX 1 L xs) 40 (242, 1578, [zR 1, zR 5, zR 71, zI i], [], F2, G2, zsg))) : zOk (zev (zX 1 L xs) 40 (242, 944, [zR 1, zR 5, zR 71, zI i], [], F, G, zsg)) := by
  obtain ⟨v, F1, G1, F2, G2, e1, e2, hr⟩ := S
  refine zOk.le (g_W_944 i) ?_
  rw [zadd_eq (x := i) (y := 1) (by omega) (by omega), zadd_eq (x := i) (y := 2) (by omega) (by omega), zadd_eq (x := i) (y := 3) (by omega) (by omega), if_pos (by omega), if_pos (by omega), if_pos (by omega), e1, zbI_some, if_pos (by omega), if_pos (by omega), if_pos (by omega), e2, zbI_some, if_pos rfl]
  exact ih F2 G2 hr
theorem w_987 (hi : 0 ≤ i ∧ i + 5 < L) (hL : L ≤ 3072) (S : zStep 40 24 109 [zI (xs (Int.toNat (i + 1))), zI (xs (Int.toNat (i + 2)))] F G) (ih : ∀ F2 G2, zRR F2 G2 → zOk (zev (zX 1 L xs) 40 (242, 1578, [zR 1, zR 5, zR 71, zI i], [], F2, G2, zsg))) : zOk (zev (zX 1 L xs) 40 (242, 987, [zR 1, zR 5, zR 71, zI i], [], F, G, zsg)) := by
  obtain ⟨v, F1, G1, F2, G2, e1, e2, hr⟩ := S
  refine zOk.le (g_W_987 i) ?_
  rw [zadd_eq (x := i) (y := 1) (by omega) (by omega), zadd_eq (x := i) (y := 2) (by omega) (by omega), if_pos (by omega), if_pos (by omega), e1, zbI_some, if_pos (by omega), if_pos (by omega), e2, zbI_some, if_pos rfl]
  exact ih F2 G2 hr
theorem w_1020 (hi : 0 ≤ i ∧ i + 5 < L) (hL : L ≤ 3072) (S : zStep 40 25 110 [zI (xs (Int.toNat (i + 1))), zI (xs (Int.toNat (i + 2)))] F G) (ih : ∀ F2 G2, zRR F2 G2 → zOk (zev (zX 1 L xs) 40 (242, 1578, [zR 1, zR 5, zR 71, zI i], [], F2, G2, zsg))) : zOk (zev (zX 1 L xs) 40 (242, 1020, [zR 1, zR 5, zR 71, zI i], [], F, G, zsg)) := by
  obtain ⟨v, F1, G1, F2, G2, e1, e2, hr⟩ := S
  refine zOk.le (g_W_1020 i) ?_
  rw [zadd_eq (x := i) (y := 1) (by omega) (by omega), zadd_eq (x := i) (y := 2) (by omega) (by omega), if_pos (by omega), if_pos (by omega), e1, zbI_some, if_pos (by omega), if_pos (by omega), e2, zbI_some, if_pos rfl]
  exact ih F2 G2 hr
theorem w_1053 (hi : 0 ≤ i ∧ i + 5 < L) (hL : L ≤ 3072) (S : zStep 40 26 113 [zI (xs (Int.toNat (i + 1)))] F G) (ih : ∀ F2 G2, zRR F2 G2 → zOk (zev (zX 1 L xs) 40 (242, 1578, [zR 1, zR 5, zR 71, zI i], [], F2, G2, zsg))) : zOk (zev (zX 1 L xs) 40 (242, 1053, [zR 1, zR 5, zR 71, zI i], [], F, G, zsg)) := by
  obtain ⟨v, F1, G1, F2, G2, e1, e2, hr⟩ := S
  refine zOk.le (g_W_1053 i) ?_
  rw [zadd_eq (x := i) (y := 1) (by omega) (by omega), if_pos (by omega), e1, zbI_some, if_pos (by omega), e2, zbI_some, if_pos rfl]
  exact ih F2 G2 hr
theorem w_1076 (hi : 0 ≤ i ∧ i + 5 < L) (hL : L ≤ 3072) (S : zStep 40 27 114 [zI (xs (Int.toNat (i + 1)))] F G) (ih : ∀ F2 G2, zRR F2 G2 → zOk (zev (zX 1 L xs) 40 (242, 1578, [zR 1, zR 5, zR 71, zI i], [], F2, G2, zsg))) : zOk (zev (zX 1 L xs) 40 (242, 1076, [zR 1, zR 5, zR 71, zI i], [], F, G, zsg)) := by
  obtain ⟨v, F1, G1, F2, G2, e1, e2, hr⟩ := S
  refine zOk.le (g_W_1076 i) ?_
  rw [zadd_eq (x := i) (y := 1) (by omega) (by omega), if_pos (by omega), e1, zbI_some, if_pos (by omega), e2, zbI_some, if_pos rfl]
  exact ih F2 G2 hr
theorem w_1099 (hi : 0 ≤ i ∧ i + 5 < L) (hL : L ≤ 3072) (S : zStep 40 28 123 [zI (xs (Int.toNat (i + 1))), zI (xs (Int.toNat (i + 2))), zI (xs (Int.toNat (i + 3))), zI (xs (Int.toNat (i + 4))), zI (xs (Int.toNat (i + 5)))] F G) (ih : ∀ F2 G2, zRR F2 G2 → zOk (zev (zX 1 L xs) 40 (242, 1578, [zR 1, zR 5, zR 71, zI i], [], F2, G2, zsg))) : zOk (zev (zX 1 L xs) 40 (242, 1099, [zR 1, zR 5, zR 71, zI i], [], F, G, zsg)) := by
  obtain ⟨v, F1, G1, F2, G2, e1, e2, hr⟩ := S
  refine zOk.le (g_W_1099 i) ?_
  rw [zadd_eq (x := i) (y := 1) (by omega) (by omega), zadd_eq (x := i) (y := 2) (by omega) (by omega), zadd_eq (x := i) (y := 3) (by omega) (by omega), zadd_eq (x := i) (y := 4) (by omega) (by omega), zadd_eq (x := i) (y := 5) (by omega) (by omega), if_pos (by omega), if_pos (by omega), if_pos (by omega), if_pos (by omega), if_pos (by omega), e1, zbI_some, if_pos (by omega), if_pos (by omega), if_pos (by omega), if_pos (by omega), if_pos (by omega), e2, zbI_some, if_pos rfl]
  exact ih F2 G2 hr
theorem w_1162 (hi : 0 ≤ i ∧ i + 5 < L) (hL : L ≤ 3072) (S : zStep 40 29 124 [zI (xs (Int.toNat (i + 1))), zI (xs (Int.toNat (i + 2)))] F G) (ih : ∀ F2 G2, zRR F2 G2 → zOk (zev (zX 1 L xs) 40 (242, 1578, [zR 1, zR 5, zR 71, zI i], [], F2, G2, zsg))) : zOk (zev (zX 1 L xs) 40 (242, 1162, [zR 1, zR 5, zR 71, zI i], [], F, G, zsg)) := by
  obtain ⟨v, F1, G1, F2, G2, e1, e2, hr⟩ := S
  refine zOk.le (g_W_1162 i) ?_
  rw [zadd_eq (x := i) (y := 1) (by omega) (by omega), zadd_eq (x := i) (y := 2) (by omega) (by omega), if_pos (by omega), if_pos (by omega), e1, zbI_some, if_pos (by omega), if_pos (by omega), e2, zbI_some, if_pos rfl]
  exact ih F2 G2 hr
theorem w_1195 (hi : 0 ≤ i ∧ i + 5 < L) (hL : L ≤ 3072) (S : zStep 40 30 125 [zI (xs (Int.toNat (i + 1)))] F G) (ih : ∀ F2 G2, zRR F2 G2 → zOk (zev (zX 1 L xs) 40 (242, 1578, [zR 1, zR 5, zR 71, zI i], [], F2, G2, zsg))) : zOk (zev (zX 1 L xs) 40 (242, 1195, [zR 1, zR 5, zR 71, zI i], [], F, G, zsg)) := by
  obtain ⟨v, F1, G1, F2, G2, e1, e2, hr⟩ := S
  refine zOk.le (g_W_1195 i) ?_
  rw [zadd_eq (x := i) (y := 1) (by omega) (by omega), if_pos (by omega), e1, zbI_some, if_pos (by omega), e2, zbI_some, if_pos rfl]
  exact ih F2 G2 hr
theorem w_1218 (hi : 0 ≤ i ∧ i + 5 < L) (hL : L ≤ 3072) (S : zStep 40 31 126 [zI (xs (Int.toNat (i + 1))), zI (xs (Int.toNat (i + 2))), zI (xs (Int.toNat (i + 3)))] F G) (ih : ∀ F2 G2, zRR F2 G2 → zOk (zev (zX 1 L xs) 40 (242, 1578, [zR 1, zR 5, zR 71, zI i], [], F2, G2, zsg))) : zOk (zev (zX 1 L xs) 40 (242, 1218, [zR 1, zR 5, zR 71, zI i], [], F, G, zsg)) := by
  obtain ⟨v, F1, G1, F2, G2, e1, e2, hr⟩ := S
  refine zOk.le (g_W_1218 i) ?_
  rw [zadd_eq (x := i) (y := 1) (by omega) (by omega), zadd_eq (x := i) (y := 2) (by omega) (by omega), zadd_eq (x := i) (y := 3) (by omega) (by omega), if_pos (by omega), if_pos (by omega), if_pos (by omega), e1, zbI_some, if_pos (by omega), if_pos (by omega), if_pos (by omega), e2, zbI_some, if_pos rfl]
  exact ih F2 G2 hr
theorem w_1261 (hi : 0 ≤ i ∧ i + 5 < L) (hL : L ≤ 3072) (S : zStep 40 32 127 [] F G) (ih : ∀ F2 G2, zRR F2 G2 → zOk (zev (zX 1 L xs) 40 (242, 1578, [zR 1, zR 5, zR 71, zI i], [], F2, G2, zsg))) : zOk (zev (zX 1 L xs) 40 (242, 1261, [zR 1, zR 5, zR 71, zI i], [], F, G, zsg)) := by
  obtain ⟨v, F1, G1, F2, G2, e1, e2, hr⟩ := S
  refine zOk.le (g_W_1261 i) ?_
  rw [e1, zbI_some, e2, zbI_some, if_pos rfl]
  exact ih F2 G2 hr
theorem w_1274 (hi : 0 ≤ i ∧ i + 5 < L) (hL : L ≤ 3072) (S : zStep 40 33 128 [zI (xs (Int.toNat (i + 1))), zI (xs (Int.toNat (i + 2))), zI (xs (Int.toNat (i + 3)))] F G) (ih : ∀ F2 G2, zRR F2 G2 → zOk (zev (zX 1 L xs) 40 (242, 1578, [zR 1, zR 5, zR 71, zI i], [], F2, G2, zsg))) : zOk (zev (zX 1 L xs) 40 (242, 1274, [zR 1, zR 5, zR 71, zI i], [], F, G, zsg)) := by
  obtain ⟨v, F1, G1, F2, G2, e1, e2, hr⟩ := S
  refine zOk.le (g_W_1274 i) ?_
  rw [zadd_eq (x := i) (y := 1) (by omega) (by omega), zadd_eq (x := i) (y := 2) (by omega) (by omega), zadd_eq (x := i) (y := 3) (by omega) (by omega), if_pos (by omega), if_pos (by omega), if_pos (by omega), e1, zbI_some, if_pos (by omega), if_pos (by omega), if_pos (by omega), e2, zbI_some, if_pos rfl]
  exact ih F2 G2 hr
theorem w_1317 (hi : 0 ≤ i ∧ i + 5 < L) (hL : L ≤ 3072) (S : zStep 40 34 129 [] F G) (ih : ∀ F2 G2, zRR F2 G2 → zOk (zev (zX 1 L xs) 40 (242, 1578, [zR 1, zR 5, zR 71, zI i], [], F2, G2, zsg))) : zOk (zev (zX 1 L xs) 40 (242, 1317, [zR 1, zR 5, zR 71, zI i], [], F, G, zsg)) := by
  obtain ⟨v, F1, G1, F2, G2, e1, e2, hr⟩ := S
  refine zOk.le (g_W_1317 i) ?_
  rw [e1, zbI_some, e2, zbI_some, if_pos rfl]
  exact ih F2 G2 hr
theorem w_1330 (hi : 0 ≤ i ∧ i + 5 < L) (hL : L ≤ 3072) (S : zStep 40 35 130 [] F G) (ih : ∀ F2 G2, zRR F2 G2 → zOk (zev (zX 1 L xs) 40 (242, 1578, [zR 1, zR 5, zR 71, zI i], [], F2, G2, zsg))) : zOk (zev (zX 1 L xs) 40 (242, 1330, [zR 1, zR 5, zR 71, zI i], [], F, G, zsg)) := by
  obtain ⟨v, F1, G1, F2, G2, e1, e2, hr⟩ := S
  refine zOk.le (g_W_1330 i) ?_
  rw [e1, zbI_some, e2, zbI_some, if_pos rfl]
  exact ih F2 G2 hr
theorem w_1343 (hi : 0 ≤ i ∧ i + 5 < L) (hL : L ≤ 3072) (S : zStep 40 36 131 [zI (xs (Int.toNat (i + 1))), zI (xs (Int.toNat (i + 2))), zI (xs (Int.toNat (i + 3)))] F G) (ih : ∀ F2 G2, zRR F2 G2 → zOk (zev (zX 1 L xs) 40 (242, 1578, [zR 1, zR 5, zR 71, zI i], [], F2, G2, zsg))) : zOk (zev (zX 1 L xs) 40 (242, 1343, [zR 1, zR 5, zR 71, zI i], [], F, G, zsg)) := by
  obtain ⟨v, F1, G1, F2, G2, e1, e2, hr⟩ := S
  refine zOk.le (g_W_1343 i) ?_
  rw [zadd_eq (x := i) (y := 1) (by omega) (by omega), zadd_eq (x := i) (y := 2) (by omega) (by omega), zadd_eq (x := i) (y := 3) (by omega) (by omega), if_pos (by omega), if_pos (by omega), if_pos (by omega), e1, zbI_some, if_pos (by omega), if_pos (by omega), if_pos (by omega), e2, zbI_some, if_pos rfl]
  exact ih F2 G2 hr
theorem w_1386 (hi : 0 ≤ i ∧ i + 5 < L) (hL : L ≤ 3072) (S : zStep 40 37 132 [zI (xs (Int.toNat (i + 1))), zI (xs (Int.toNat (i + 2))), zI (xs (Int.toNat (i + 3)))] F G) (ih : ∀ F2 G2, zRR F2 G2 → zOk (zev (zX 1 L xs) 40 (242, 1578, [zR 1, zR 5, zR 71, zI i], [], F2, G2, zsg))) : zOk (zev (zX 1 L xs) 40 (242, 1386, [zR 1, zR 5, zR 71, zI i], [], F, G, zsg)) := by
  obtain ⟨v, F1, G1, F2, G2, e1, e2, hr⟩ := S
  refine zOk.le (g_W_1386 i) ?_
  rw [zadd_eq (x := i) (y := 1) (by omega) (by omega), zadd_eq (x := i) (y := 2) (by omega) (by omega), zadd_eq (x := i) (y := 3) (by omega) (by omega), if_pos (by omega), if_pos (by omega), if_pos (by omega), e1, zbI_some, if_pos (by omega), if_pos (by omega), if_pos (by omega), e2, zbI_some, if_pos rfl]
  exact ih F2 G2 hr
theorem w_1429 (hi : 0 ≤ i ∧ i + 5 < L) (hL : L ≤ 3072) (S : zStep 40 38 133 [zI (xs (Int.toNat (i + 1))), zI (xs (Int.toNat (i + 2))), zI (xs (Int.toNat (i + 3))), zI (xs (Int.toNat (i + 4))), zI (xs (Int.toNat (i + 5)))] F G) (ih : ∀ F2 G2, zRR F2 G2 → zOk (zev (zX 1 L xs) 40 (242, 1578, [zR 1, zR 5, zR 71, zI i], [], F2, G2, zsg))) : zOk (zev (zX 1 L xs) 40 (242, 1429, [zR 1, zR 5, zR 71, zI i], [], F, G, zsg)) := by
  obtain ⟨v, F1, G1, F2, G2, e1, e2, hr⟩ := S
  refine zOk.le (g_W_1429 i) ?_
  rw [zadd_eq (x := i) (y := 1) (by omega) (by omega), zadd_eq (x := i) (y := 2) (by omega) (by omega), zadd_eq (x := i) (y := 3) (by omega) (by omega), zadd_eq (x := i) (y := 4) (by omega) (by omega), zadd_eq (x := i) (y := 5) (by omega) (by omega), if_pos (by omega), if_pos (by omega), if_pos (by omega), if_pos (by omega), if_pos (by omega), e1, zbI_some, if_pos (by omega), if_pos (by omega), if_pos (by omega), if_pos (by omega), if_pos (by omega), e2, zbI_some, if_pos rfl]
  exact ih F2 G2 hr
theorem w_1492 (hi : 0 ≤ i ∧ i + 5 < L) (hL : L ≤ 3072) (S : zStep 40 39 134 [zI (xs (Int.toNat (i + 1))), zI (xs (Int.toNat (i + 2))), zI (xs (Int.toNat (i + 3))), zI (xs (Int.toNat (i + 4)))] F G) (ih : ∀ F2 G2, zRR F2 G2 → zOk (zev (zX 1 L xs) 40 (242, 1578, [zR 1, zR 5, zR 71, zI i], [], F2, G2, zsg))) : zOk (zev (zX 1 L xs) 40 (242, 1492, [zR 1, zR 5, zR 71, zI i], [], F, G, zsg)) := by
  obtain ⟨v, F1, G1, F2, G2, e1, e2, hr⟩ := S
  refine zOk.le (g_W_1492 i) ?_
  rw [zadd_eq (x := i) (y := 1) (by omega) (by omega), zadd_eq (x := i) (y := 2) (by omega) (by omega), zadd_eq (x := i) (y := 3) (by omega) (by omega), zadd_eq (x := i) (y := 4) (by omega) (by omega), if_pos (by omega), if_pos (by omega), if_pos (by omega), if_pos (by omega), e1, zbI_some, if_pos (by omega), if_pos (by omega), if_pos (by omega), if_pos (by omega), e2, zbI_some, if_pos rfl]
  exact ih F2 G2 hr
theorem w_1545 (hi : 0 ≤ i ∧ i + 5 < L) (hL : L ≤ 3072) (S : zStep 40 40 136 [zI (xs (Int.toNat (i + 1))), zI (xs (Int.toNat (i + 2)))] F G) (ih : ∀ F2 G2, zRR F2 G2 → zOk (zev (zX 1 L xs) 40 (242, 1578, [zR 1, zR 5, zR 71, zI i], [], F2, G2, zsg))) : zOk (zev (zX 1 L xs) 40 (242, 1545, [zR 1, zR 5, zR 71, zI i], [], F, G, zsg)) := by
  obtain ⟨v, F1, G1, F2, G2, e1, e2, hr⟩ := S
  refine zOk.le (g_W_1545 i) ?_
  rw [zadd_eq (x := i) (y := 1) (by omega) (by omega), zadd_eq (x := i) (y := 2) (by omega) (by omega), if_pos (by omega), if_pos (by omega), e1, zbI_some, if_pos (by omega), if_pos (by omega), e2, zbI_some, if_pos rfl]
  exact ih F2 G2 hr
set_option maxRecDepth 20000 in
set_option maxHeartbeats 2000000 in
theorem w_loop (hL : L ≤ 3072) (hx : ∀ j, -2147483648 ≤ xs j ∧ xs j ≤ 2147483647) : ∀ (m : Nat) (i : Int) (F : zM) (G : zG), (L : Int) - i ≤ m → 0 ≤ i → i ≤ L + 6 → zRR F G → zOk (zev (zX 1 L xs) 40 (242, 18, [zR 1, zR 5, zR 71, zI i], [], F, G, zsg)) := by
  intro m
  induction m with
  | zero =>
    intro i F G hm h0 h6 hr
    refine zOk.le (g_W_18 i) ?_
    rw [zsub_eq (by omega) (by omega), if_pos (by omega)]
    exact ⟨F, G, rfl⟩
  | succ m ih =>
    intro i F G hm h0 h6 hr
    refine zOk.le (g_W_18 i) ?_
    rw [zsub_eq (by omega) (by omega)]
    by_cases q : (L : Int) - 6 < i
    · rw [if_pos q]
      exact ⟨F, G, rfl⟩
    rw [if_neg q, if_pos (by omega)]
    have hi : 0 ≤ i ∧ i + 5 < L := by omega
    have ih' : ∀ F2 G2, zRR F2 G2 → zOk (zev (zX 1 L xs) 40 (242, 1578, [zR 1, zR 5, zR 71, zI i], [], F2, G2, zsg)) := by
      intro F2 G2 hr2
      refine zOk.le (g_W_1578 i) ?_
      rw [zadd_eq (x := i) (y := 6) (by omega) (by omega)]
      exact ih (i + 6) F2 G2 (by omega) (by omega) (by omega) hr2
    have hr0 := hr
    obtain ⟨ρ, p, A⟩ := hr0
    have c0 := w_208 hi hL (a_wall (by decide) A _ _) ih'
    have c1 := w_241 hi hL (a_door (by decide) A _ _) ih'
    have c2 := w_274 hi hL (a_thing (by decide) A _ _ _) ih'
    have c3 := w_317 hi hL (a_hand (by decide) A _ _) ih'
    have c4 := w_350 hi hL (a_strong (by decide) A _) ih'
    have c5 := w_373 hi hL (a_go (by decide) A _ _) ih'
    have c6 := w_406 hi hL (a_take (by decide) A _ _ _) ih'
    have c7 := w_449 hi hL (a_put (by decide) A _) ih'
    have c8 := w_472 hi hL (a_open (by decide) A _ _) ih'
    have c9 := w_505 hi hL (zAsk.step (a_way (by decide) A.1 _ _) A) ih'
    have c10 := w_538 hi hL (zAsk.step (a_step (by decide) A.1 _ _ _) A) ih'
    have c11 := w_581 hi hL (zAsk.step (a_reached (by decide) A.1 A.2.1 _ _) A) ih'
    have c12 := w_614 hi hL (zAsk.step (a_barred (by decide) A.1 _ _) A) ih'
    have c13 := w_647 hi hL (zAsk.step (a_thingTold (by decide) A.1 _ _) A) ih'
    have c14 := w_680 hi hL (zAsk.step (a_handTold (by decide) A.1 _ _) A) ih'
    have c15 := w_713 hi hL (zAsk.step (a_kindTold (by decide) _ _ _) A) ih'
    have c16 := w_756 hi hL (zAsk.step (a_cellTold (by decide) A.1 _) A) ih'
    have c17 := w_779 hi hL (zAsk.step (a_isOpen (by decide) A.1 _) A) ih'
    have c18 := w_802 hi hL (a_count (by decide) A _) ih'
    have c19 := w_825 hi hL (a_feed (by decide) A _ _) ih'
    have c20 := w_888 hi hL (a_program (by decide) A ) ih'
    have c21 := w_901 hi hL (a_actTold (by decide) A _ _ _) ih'
    have c22 := w_944 hi hL (a_judge (by decide) A _ _ _) ih'
    have c23 := w_987 hi hL (a_play (by decide) A _ _) ih'
    have c24 := w_1020 hi hL (a_start (by decide) A _ _) ih'
    have c25 := w_1053 hi hL (a_run (by decide) A _) ih'
    have c26 := w_1076 hi hL (a_hangs (by decide) A _) ih'
    have c27 := w_1099 hi hL (a_plan (by decide) A _ _ _ _ _) ih'
    have c28 := w_1162 hi hL (a_planned (by decide) A _ _) ih'
    have c29 := w_1195 hi hL (a_learnt (by decide) A _) ih'
    have c30 := w_1218 hi hL (a_maybe (by decide) A _ _ _) ih'
    have c31 := w_1261 hi hL (a_sure (by decide) A ) ih'
    have c32 := w_1274 hi hL (a_cases (by decide) A _ _ _) ih'
    have c33 := w_1317 hi hL (a_image (by decide) A ) ih'
    have c34 := w_1330 hi hL (a_back (by decide) A ) ih'
    have c35 := w_1343 hi hL (a_sheet (by decide) A _ _ _) ih'
    have c36 := w_1386 hi hL (a_cell (by decide) A _ _ _) ih'
    have c37 := w_1429 hi hL (a_copy (by decide) A _ _ _ _ _) ih'
    have c38 := w_1492 hi hL (a_walls (by decide) A _ _ _ _ (hx _)) ih'
    have c39 := w_1545 hi hL (zAsk.step (a_taken (by decide) A.1 _ _) A) ih'
    exact zOk.ite c0 (zOk.ite c1 (zOk.ite c2 (zOk.ite c3 (zOk.ite c4 (zOk.ite c5 (zOk.ite c6 (zOk.ite c7 (zOk.ite c8 (zOk.ite c9 (zOk.ite c10 (zOk.ite c11 (zOk.ite c12 (zOk.ite c13 (zOk.ite c14 (zOk.ite c15 (zOk.ite c16 (zOk.ite c17 (zOk.ite c18 (zOk.ite c19 (zOk.ite c20 (zOk.ite c21 (zOk.ite c22 (zOk.ite c23 (zOk.ite c24 (zOk.ite c25 (zOk.ite c26 (zOk.ite c27 (zOk.ite c28 (zOk.ite c29 (zOk.ite c30 (zOk.ite c31 (zOk.ite c32 (zOk.ite c33 (zOk.ite c34 (zOk.ite c35 (zOk.ite c36 (zOk.ite c37 (zOk.ite c38 (zOk.ite c39 (ih' F G hr))))))))))))))))))))))))))))))))))))))))
theorem w_zlaw (hL : L ≤ 3072) (hx : ∀ j, -2147483648 ≤ xs j ∧ xs j ≤ 2147483647) : zlaw L xs := by
  have h1 := w_loop hL hx L 0 zI0 zJ0 (by omega) (by omega) (by omega) zI0_RR
  obtain ⟨F', G', h2⟩ := zOk.le (g_W_0 (d := 40) (by decide)) h1
  obtain ⟨n, hn⟩ := zev_some.mp h2
  exact ⟨n, _, hn, rfl, rfl⟩
end
