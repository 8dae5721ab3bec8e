/-! the tape: bytes, numbers, acts, programs -/
theorem z_ofi (y : BitVec 32) : (Int32.ofInt y.toInt).toBitVec = y := by
  show BitVec.ofInt 32 y.toInt = y
  rw [BitVec.ofInt_toInt]
theorem zl2i_eq (b : BitVec 64) : zl2i b = (b.setWidth 32).toInt := by
  show (b.signExtend 32).toInt = _
  rw [BitVec.signExtend_eq_setWidth_of_le _ (by decide)]
theorem z_byte (b : BitVec 64) {n : Int} (h1 : 0 ≤ n) (h2 : n ≤ 56) : zand (zl2i (zlushr b n)) 255 = zl2i (zland (zlshr b n) (BitVec.ofInt 64 255)) ∧ 0 ≤ zl2i (zland (zlshr b n) (BitVec.ofInt 64 255)) ∧ zl2i (zland (zlshr b n) (BitVec.ofInt 64 255)) ≤ 255 := by
  rw [zl2i_eq, zl2i_eq, zlushr_eq h1 (by omega), zlshr_eq h1 (by omega), zland_eq]
  have e0 : zand ((b >>> n.toNat).setWidth 32).toInt 255 = ((b >>> n.toNat).setWidth 32 &&& 255#32).toInt := by
    unfold zand
    show ((Int32.ofInt ((b >>> n.toNat).setWidth 32).toInt).toBitVec &&& (Int32.ofInt 255).toBitVec).toInt = _
    rw [z_ofi]
    rfl
  have e1 : (b >>> n.toNat).setWidth 32 &&& 255#32 = (b.sshiftRight n.toNat &&& BitVec.ofInt 64 255).setWidth 32 := by
    apply BitVec.eq_of_getLsbD_eq
    intro i hi
    have h255 : (255#32).getLsbD i = decide (i < 8) := by
      revert i
      decide
    have h256 : (BitVec.ofInt 64 255).getLsbD i = decide (i < 8) := by
      clear h255
      revert i
      decide
    rw [BitVec.getLsbD_and, BitVec.getLsbD_setWidth, BitVec.getLsbD_setWidth, BitVec.getLsbD_and, h255, h256, BitVec.getLsbD_ushiftRight, BitVec.getLsbD_sshiftRight]
    by_cases h8 : i < 8
    · have q1 : n.toNat + i < 64 := by omega
      have q2 : ¬ 64 ≤ i := by omega
      simp [h8, hi, q1, q2]
    · simp [h8]
  rw [e0, ← e1]
  have h3 : ((b >>> n.toNat).setWidth 32 &&& 255#32).toNat ≤ 255 := by
    rw [BitVec.toNat_and]
    exact Nat.and_le_right
  have h4 : ((b >>> n.toNat).setWidth 32 &&& 255#32).toInt = (((b >>> n.toNat).setWidth 32 &&& 255#32).toNat : Int) := BitVec.toInt_eq_toNat_of_lt (by omega)
  rw [h4]
  exact ⟨Eq.refl _, by omega, by omega⟩
def q_byte (b : BitVec 64) (m : Nat) : Int := zl2i (zland (zlshr b (8 * (m : Int))) (BitVec.ofInt 64 255))
def q_app (b : BitVec 64) : Nat → Nat → (Nat → Int) → Nat → Int
  | 0, _, B => B
  | m + 1, s, B => q_app b m (s + 1) (zu B s (q_byte b m))
theorem q_app_r (b : BitVec 64) : ∀ (m s : Nat) (B : Nat → Int), m ≤ 8 → (∀ j, 0 ≤ B j ∧ B j ≤ 255) → ∀ j, 0 ≤ q_app b m s B j ∧ q_app b m s B j ≤ 255
  | 0, _, _, _, h => h
  | m + 1, s, B, hm, h => q_app_r b m (s + 1) _ (by omega) (fun j => by
    by_cases hj : j = s
    · rw [hj, zu_eq]; exact (z_byte b (by omega) (by omega)).2
    · rw [zu_ne hj]; exact h j)
section
variable {d : Nat} {F ρ ρ' : zM} {G : zG} {p p' : Nat → Int}
theorem zNow.ch {F' : zM} {G' : zG} {R C : List Nat} (h : zNow ρ p F G) (hc : zch R C F F') (hg : G' 6 = G 6 ∧ True) (hR : ∀ r ∈ [6, 7, 8, 9, 10, 11, 12, 13, 14, 15, 16, 17, 18, 19, 20, 21, 72, 75, 76, 77, 78, 79], r ∉ R := by decide) (hC : ∀ j ∈ [5, 8, 11], j ∉ C := by decide) : zNow ρ p F' G' := by
  obtain ⟨n1, n2, n3, n4, n5, n6⟩ := h
  have k : ∀ r ∈ [6, 7, 8, 9, 10, 11, 12, 13, 14, 15, 16, 17, 18, 19, 20, 21, 72, 75, 76, 77, 78, 79], F' r = F r := fun r hr => hc.1 r (hR r hr) (by intro q; subst q; revert hr; decide)
  refine ⟨n1.fr (fun i hi => ?_), n2.fr (k 6 (by decide)) (k 7 (by decide)) (k 8 (by decide)) (k 9 (by decide)) (k 10 (by decide)) hg.1, n3.fr2 (hc.2 5 (hC 5 (by decide))) (hc.2 8 (hC 8 (by decide))) (hc.2 11 (hC 11 (by decide))) (k 75 (by decide)) (k 76 (by decide)) (k 77 (by decide)) (k 78 (by decide)) (k 79 (by decide)), by rw [k 72 (by decide)]; exact n4, n5, n6⟩
  have : i = 0 ∨ i = 1 ∨ i = 2 ∨ i = 3 ∨ i = 4 ∨ i = 5 ∨ i = 6 ∨ i = 7 ∨ i = 8 ∨ i = 9 ∨ i = 10 := by omega
  rcases this with rfl | rfl | rfl | rfl | rfl | rfl | rfl | rfl | rfl | rfl | rfl <;> exact k _ (by decide)
/-- only the tape changes -/
theorem zAll.tape {F2 : zM} (A : zAll ρ p F G) (hc : zch [46, 47, 48, 49, 50, 51, 81, 82, 83, 84] [18, 42] F F2) (ht : zTp F2) : zAll ρ p F2 G := by
  obtain ⟨n, a2, a3, a4, a5, a6, a7, a8, a9⟩ := A
  have e64 : F2 64 = F 64 := hc.1 64 (by decide) (by decide)
  exact ⟨n.ch hc ⟨rfl, trivial⟩, a2, a3.ch hc, a4.ch hc, ht, a6.ch hc, a7.ch hc ⟨rfl, rfl⟩, a8.ch hc (by decide) (by decide) (by rw [e64]) (by rw [e64]), a9.ch hc⟩
theorem a_feed (hd : 2 ≤ d) (A : zAll ρ p F G) (b : BitVec 64) (w : Int) : zStep d 20 98 [zL b, zI w] F G := by
  obtain ⟨d, rfl⟩ := zds (show 1 ≤ d by omega)
  have A0 := A
  obtain ⟨⟨n1, n2, n3, n4, n5, n6⟩, a2, a3, a4, a5, a6, a7, a8, a9⟩ := A
  obtain ⟨t1, t2, t3, t4, t5, t6, t7, t8⟩ := a5
  by_cases c1 : 1 ≤ w ∧ w ≤ 8
  · by_cases c2 : 120 < F 71 18 + w
    · refine A0.same (v := -4) (g_C_feed b w _ ?_) (g_M_feed b w _ ?_)
      · rw [if_neg (by omega), if_neg (by omega), t1, zadd_eq (by omega) (by omega), if_pos c2]
      · rw [m_in (by omega), zbI_some, zp_t c1, if_neg (by decide), zadd_eq (by omega) (by omega), if_pos c2]
    · have cl : ∀ (m s : Nat) (F1 : zM), m ≤ 8 → s + m ≤ 120 → F1 46 1 = s → ∃ F2, zev zX0 (d - 1) (217, 5, [zR 46, zL b, zR 0, zI w, zI ((m : Int) - 1)], [], F1, G, zsg) = some (none, F2, G, zsg) ∧ F2 46 1 = s + m ∧ F2 47 = q_app b m s (F1 47) ∧ (∀ j, j ≠ 1 → F2 46 j = F1 46 j) ∧ (∀ r, r ≠ 46 → r ≠ 47 → F2 r = F1 r) := by
        intro m
        induction m with
        | zero =>
          intro s F1 _ hs h1
          refine ⟨F1, g_Tape_append_5 b w _ _ ?_, by rw [h1]; omega, rfl, fun j _ => rfl, fun r _ _ => rfl⟩
          rw [if_pos (by omega)]
        | succ m ih =>
          intro s F1 hm hs h1
          have hb := z_byte b (n := 8 * (m : Int)) (by omega) (by omega)
          obtain ⟨F2, e1, e2, e3, e4, e5⟩ := ih (s + 1) (zup (zup F1 46 1 (s + 1)) 47 s (q_byte b m)) (by omega) (by omega) (by rw [zup_row (by decide), zup_eq]; omega)
          refine ⟨F2, g_Tape_append_5 b w _ _ ?_, by rw [e2]; omega, ?_, fun j hj => ?_, fun r r1 r2 => ?_⟩
          · have g120 : 0 ≤ (s : Int) ∧ (s : Int) < 120 := by omega
            rw [if_neg (by omega), h1, if_pos g120, zadd_eq (y := -1) (by omega) (by omega), zadd_eq (by omega) (by omega), Int.toNat_natCast, show ((m + 1 : Nat) : Int) - 1 = m by omega, zmul_eq (by omega) (by omega), hb.1]
            rw [show (m : Int) + -1 = (m : Int) - 1 by omega]
            exact e1
          · rw [e3, zup_fn, zup_row (by decide)]
            rfl
          · rw [e4 j hj, zup_row (by decide), zup_col hj]
          · rw [e5 r r1 r2, zup_row r2, zup_row r1]
      have ml : ∀ (m s : Nat) (F1 : zM), m ≤ 8 → s + m ≤ 120 → F1 71 18 = s → ∃ F2, zev zX0 d (98, 32, [zR 71, zL b, zR 0, zI w, zI ((m : Int) - 1)], [], F1, G, zsg) = some (some (zI (s + m)), F2, G, zsg) ∧ F2 71 18 = s + m ∧ F2 84 = q_app b m s (F1 84) ∧ (∀ j, j ≠ 18 → F2 71 j = F1 71 j) ∧ (∀ r, r ≠ 71 → r ≠ 84 → F2 r = F1 r) := by
        intro m
        induction m with
        | zero =>
          intro s F1 _ hs h1
          refine ⟨F1, g_M_feed_32 b w _ _ ?_, by rw [h1]; omega, rfl, fun j _ => rfl, fun r _ _ => rfl⟩
          rw [if_pos (by omega), h1]
          simp
        | succ m ih =>
          intro s F1 hm hs h1
          obtain ⟨F2, e1, e2, e3, e4, e5⟩ := ih (s + 1) (zup (zup F1 84 s (q_byte b m)) 71 18 (s + 1)) (by omega) (by omega) (by rw [zup_eq]; omega)
          refine ⟨F2, g_M_feed_32 b w _ _ ?_, by rw [e2]; omega, ?_, fun j hj => ?_, fun r r1 r2 => ?_⟩
          · have g120 : 0 ≤ (s : Int) ∧ (s : Int) < 120 := by omega
            rw [if_neg (by omega), h1, if_pos g120, zadd_eq (y := -1) (by omega) (by omega), zadd_eq (by omega) (by omega), Int.toNat_natCast, show ((m + 1 : Nat) : Int) - 1 = m by omega, zmul_eq (by omega) (by omega)]
            rw [show (m : Int) + -1 = (m : Int) - 1 by omega, show (s : Int) + ((m + 1 : Nat) : Int) = ((s + 1 : Nat) : Int) + (m : Int) by omega]
            exact e1
          · rw [e3, zup_row (by decide), zup_fn]
            rfl
          · rw [e4 j hj, zup_col hj, zup_row (by decide)]
          · rw [e5 r r1 r2, zup_row r1, zup_row r2]
      obtain ⟨m, rfl⟩ := Int.eq_ofNat_of_zero_le (show 0 ≤ w by omega)
      obtain ⟨s, hs⟩ := Int.eq_ofNat_of_zero_le t2.1
      obtain ⟨F1, e1, e2, e3, e4, e5⟩ := cl m s F (by omega) (by omega) (by rw [t1]; exact hs)
      obtain ⟨F2, f1, f2, f3, f4, f5⟩ := ml m s F1 (by omega) (by omega) (by rw [e5 71 (by decide) (by decide)]; exact hs)
      have e84 : F1 84 = F 84 := e5 84 (by decide) (by decide)
      have hz : zsub (m : Int) 1 = (m : Int) - 1 := zsub_eq (by omega) (by omega)
      have hdd : d = d - 1 + 1 := by omega
      refine ⟨s + m, F1, G, F2, G, g_C_feed b _ _ ?_, g_M_feed b _ _ ?_, ρ, p, ?_⟩
      · rw [if_neg (by omega), if_neg (by omega), t1, zadd_eq (by omega) (by omega), if_neg c2]
        have : zex d 217 [zR 46, zL b, zI (m : Int)] (F, G, zsg) = some (none, F1, G, zsg) := by
          rw [hdd]
          refine g_Tape_append b _ _ ?_
          rw [hz]
          exact e1
        rw [this, zbV_some, e2]
      · rw [m_in (by omega), zbI_some, zp_t c1, if_neg (by decide), e5 71 (by decide) (by decide), zadd_eq (by omega) (by omega), if_neg c2, hz]
        exact f1
      · have hF : ∀ r, r ≠ 46 → r ≠ 47 → r ≠ 71 → r ≠ 84 → F2 r = F r := fun r r1 r2 r3 r4 => by rw [f5 r r3 r4, e5 r r1 r2]
        have hc : zch [46, 47, 84] [18] F F2 := by
          refine ⟨fun r hr r71 => ?_, fun j hj => ?_⟩
          · simp only [List.mem_cons, List.not_mem_nil, or_false, not_or] at hr
            exact hF r hr.1 hr.2.1 r71 hr.2.2
          · simp only [List.mem_cons, List.not_mem_nil, or_false] at hj
            rw [f4 j hj, e5 71 (by decide) (by decide)]
        refine A0.tape (hc.le (by decide) (by decide)) ?_
        have f46 : F2 46 = F1 46 := f5 46 (by decide) (by decide)
        refine ⟨by rw [f46, e2, f2], by rw [f2]; omega, by rw [f46, e4 2 (by decide), f4 12 (by decide), e5 71 (by decide) (by decide)]; exact t3, by rw [f4 12 (by decide), e5 71 (by decide) (by decide)]; exact t4, by rw [f5 47 (by decide) (by decide), e3, f3, e84, t5], ?_, by rw [hF 48 (by decide) (by decide) (by decide) (by decide), hF 80 (by decide) (by decide) (by decide) (by decide)]; exact t7, ?_⟩
        · rw [f3, e84]
          exact q_app_r b m s _ (by omega) t6
        · rw [f4 12 (by decide), e5 71 (by decide) (by decide), hF 80 (by decide) (by decide) (by decide) (by decide), hF 81 (by decide) (by decide) (by decide) (by decide), hF 82 (by decide) (by decide) (by decide) (by decide), hF 83 (by decide) (by decide) (by decide) (by decide), hF 49 (by decide) (by decide) (by decide) (by decide), hF 50 (by decide) (by decide) (by decide) (by decide), hF 51 (by decide) (by decide) (by decide) (by decide)]
          exact t8
  · refine A0.same (v := -2) (g_C_feed b w _ ?_) (g_M_feed b w _ ?_)
    · split
      · rfl
      · rw [if_pos (by omega)]
    · rw [m_in (by omega), zbI_some, zp_f c1, if_pos rfl]
end
