/-! calls that change the room: walls, doors, things, hands, strength -/
section
variable {d : Nat} {F ρ ρ' : zM} {G : zG} {p p' : Nat → Int}
theorem zPv.room (h : zPv ρ p) (h8 : ρ 71 8 ≤ ρ' 71 8) (h5 : ρ 71 5 ≤ ρ' 71 5) (h79 : ∀ t : Nat, (t : Int) < ρ 71 8 → ρ' 79 t = ρ 79 t) : zPv ρ' p := by
  obtain ⟨p1, p2, p3, p4, p5, p6, p7, p8, p9⟩ := h
  refine ⟨fun t ht => ?_, p2, fun g hg => ⟨(p3 g hg).1, by have := (p3 g hg).2; omega⟩, p4, fun t ht h => p5 t ht (by omega), p6, fun e he h => p7 e he (by omega), fun g hg hne => ?_, p9⟩
  · rcases Int.lt_or_le (t : Int) (ρ 71 8) with q | q
    · rw [h79 t q]; exact p1 t ht
    · exact Or.inl (p5 t ht q).1
  · have := p3 g hg
    rw [h79 _ (by omega)]
    exact p8 g hg hne
theorem zNO.room (h : zNO ρ p) (hp : zPv ρ p) (h79 : ∀ t : Nat, (t : Int) < ρ 71 8 → ρ' 79 t = ρ 79 t) : zNO ρ' p := by
  intro t u ht hu hne h1 h2
  have e : ∀ t : Nat, t < 8 → p t ≠ -1 → ρ' 79 t = ρ 79 t := by
    intro t ht hq
    rcases Int.lt_or_le (t : Int) (ρ 71 8) with q | q
    · exact h79 t q
    · exact absurd (hp.2.2.2.2.1 t ht q).1 hq
  rw [e t ht h1, e u hu h2]
  exact h t u ht hu hne h1 h2
theorem zAll.room {F2 : zM} {G2 : zG} (A : zAll ρ p F G) (hS : zSC 11 p' F2) (hC : zCR ρ' F2 G2) (hM : zMR ρ' F2) (h72 : F2 72 = p') (hV : zRv ρ') (hpv : zPv ρ' p') (hno : zNO ρ' p') (hgr : ∀ j, 34 ≤ j → p' j = p j) (h8 : ρ 71 8 ≤ ρ' 71 8) (h5 : ρ 71 5 ≤ ρ' 71 5) (h79 : ∀ t : Nat, (t : Int) < ρ 71 8 → ρ' 79 t = ρ 79 t)
    (hc : zch [6, 7, 8, 9, 10, 11, 12, 13, 14, 15, 16, 17, 18, 19, 20, 21, 72, 75, 76, 77, 78, 79] [5, 8, 11] F F2) (hG : G2 59 = G 59 ∧ G2 93 = G 93) : zAll ρ' p' F2 G2 := by
  obtain ⟨⟨n1, n2, n3, n4, n5, n6⟩, a2, a3, a4, a5, a6, a7, a8, a9⟩ := A
  have e64 : F2 64 = F 64 := hc.1 64 (by decide) (by decide)
  refine ⟨⟨hS, hC, hM, h72, hV, hpv⟩, hno, (a3.ch hc).keep hgr, ?_, a5.ch hc, a6.ch hc, a7.ch hc hG, ?_, a9.ch hc⟩
  · obtain ⟨i1, i2, i3⟩ := a4.ch hc
    refine ⟨i1, i2, fun q => ?_⟩
    obtain ⟨j1, j2, j3, j4⟩ := i3 q
    exact ⟨j1, j2.room h8 h5 h79, j3.room j2 h79, j4⟩
  · obtain ⟨c1, c2, c3, c4, c5, c6⟩ := a8.ch hc (by decide) (by decide) (by rw [e64]) (by rw [e64])
    exact ⟨c1, c2, fun q => ⟨(c3 q).1, (c3 q).2.1, by have := (c3 q).2.2; omega⟩, c4, c5, c6⟩
theorem a_strong (hd : 2 ≤ d) (A : zAll ρ p F G) (w : Int) : zStep d 5 82 [zI w] F G := by
  obtain ⟨d, rfl⟩ := zds (show 1 ≤ d by omega)
  have A0 := A
  obtain ⟨⟨n1, n2, n3, n4, n5, n6⟩, a2, a3, a4, a5, a6, a7, a8, a9⟩ := A
  by_cases c1 : 1 ≤ w ∧ w ≤ 99
  · refine ⟨ρ 71 11, zup F 6 1 w, G, zup (zup F 6 1 w) 71 11 w, G, g_C_strong w _ ?_, g_M_strong w _ ?_, zup ρ 71 11 w, p, ?_⟩
    · rw [if_neg (by omega), if_neg (by omega), n2.2.1]
    · rw [m_in (by omega), zbI_some, zp_t c1, if_neg (by decide), zup_row (by decide), n3.2.2.1]
    · have hR8 : zup ρ 71 11 w 71 8 = ρ 71 8 := zup_col (by decide)
      have hR5 : zup ρ 71 11 w 71 5 = ρ 71 5 := zup_col (by decide)
      have hR : ∀ r, r ≠ 71 → zup ρ 71 11 w r = ρ r := fun r hr => zup_row hr
      have hF2 : ∀ r, r ≠ 6 → r ≠ 71 → zup (zup F 6 1 w) 71 11 w r = F r := fun r r1 r2 => by rw [zup_row r2, zup_row r1]
      refine A0.room (n1.fr (fun k hk => hF2 _ (by omega) (by omega))) ?_ ?_ (by rw [hF2 72 (by decide) (by decide)]; exact n4) ?_ (n6.room (Int.le_of_eq hR8.symm) (Int.le_of_eq hR5.symm) (fun t _ => by rw [hR 79 (by decide)])) (a2.room n6 (fun t _ => by rw [hR 79 (by decide)])) (fun j _ => rfl) (Int.le_of_eq hR8.symm) (Int.le_of_eq hR5.symm) (fun t _ => by rw [hR 79 (by decide)]) ?_ ⟨rfl, rfl⟩
      · refine ⟨?_, ?_, ?_, ?_, ?_, ?_, ?_, ?_⟩
        · rw [hR8, zup_row (by decide), zup_col (by decide)]; exact n2.1
        · rw [zup_row (by decide), zup_eq, zup_eq]
        · rw [hR5, zup_row (by decide), zup_col (by decide)]; exact n2.2.2.1
        · rw [hR 78 (by decide), hF2 7 (by decide) (by decide)]; exact n2.2.2.2.1
        · rw [hR 79 (by decide), hF2 8 (by decide) (by decide)]; exact n2.2.2.2.2.1
        · rw [hR 76 (by decide), hF2 9 (by decide) (by decide)]; exact n2.2.2.2.2.2.1
        · rw [hR 77 (by decide), hF2 10 (by decide) (by decide)]; exact n2.2.2.2.2.2.2.1
        · rw [hR 75 (by decide)]; exact n2.2.2.2.2.2.2.2
      · refine ⟨?_, ?_, ?_, ?_, ?_, ?_, ?_, ?_⟩
        · rw [hR5, zup_col (by decide), zup_row (by decide)]; exact n3.1
        · rw [hR8, zup_col (by decide), zup_row (by decide)]; exact n3.2.1
        · rw [zup_eq, zup_eq]
        · rw [hR 75 (by decide), hF2 75 (by decide) (by decide)]; exact n3.2.2.2.1
        · rw [hR 76 (by decide), hF2 76 (by decide) (by decide)]; exact n3.2.2.2.2.1
        · rw [hR 77 (by decide), hF2 77 (by decide) (by decide)]; exact n3.2.2.2.2.2.1
        · rw [hR 78 (by decide), hF2 78 (by decide) (by decide)]; exact n3.2.2.2.2.2.2.1
        · rw [hR 79 (by decide), hF2 79 (by decide) (by decide)]; exact n3.2.2.2.2.2.2.2
      · unfold zRv
        rw [hR8, hR5, hR 78 (by decide), hR 79 (by decide), hR 76 (by decide), hR 77 (by decide), hR 75 (by decide), zup_eq]
        exact ⟨n5.1, n5.2.1, c1, n5.2.2.2⟩
      · refine ⟨fun r hr r71 => ?_, fun j hj => ?_⟩
        · simp only [List.mem_cons, List.not_mem_nil, or_false, not_or] at hr
          exact hF2 r hr.1 r71
        · simp only [List.mem_cons, List.not_mem_nil, or_false, not_or] at hj
          rw [zup_col hj.2.2, zup_row (by decide)]
  · refine A0.same (v := -2) (g_C_strong w _ ?_) (g_M_strong w _ ?_)
    · split
      · rfl
      · rw [if_pos (by omega)]
    · rw [m_in (by omega), zbI_some, zp_f c1, if_pos rfl]
/-- the wall at one cell set or cleared, on both sides -/
theorem zAll.wall (A : zAll ρ p F G) {a w : Int} (ha : 0 ≤ a ∧ a < 64) (hw : w = 0 ∨ w = 1) {g : BitVec 64} (hg : g = zset (fun c => zu (ρ 75) a.toNat w c.toNat ≠ 0)) : zAll (zup F 75 a.toNat w) p (zup F 75 a.toNat w) (zug G 6 0 g) := by
  have A0 := A
  obtain ⟨⟨n1, n2, n3, n4, n5, n6⟩, a2, a3, a4, a5, a6, a7, a8, a9⟩ := A
  obtain ⟨m1, m2, m3, m4, m5, m6, m7, m8⟩ := n3
  have hF2 : ∀ r, r ≠ 75 → zup F 75 a.toNat w r = F r := fun r r1 => zup_row r1
  have h75 : zup F 75 a.toNat w 75 = zu (ρ 75) a.toNat w := by rw [zup_fn, m4]
  have r71 := hF2 71 (by decide)
  have r79 : ∀ t : Nat, (t : Int) < ρ 71 8 → zup F 75 a.toNat w 79 t = ρ 79 t := fun t _ => by rw [hF2 79 (by decide), m8]
  have e8 : ρ 71 8 ≤ zup F 75 a.toNat w 71 8 := by rw [r71, m2]; exact Int.le_refl _
  have e5 : ρ 71 5 ≤ zup F 75 a.toNat w 71 5 := by rw [r71, m1]; exact Int.le_refl _
  refine A0.room (n1.fr (fun k hk => hF2 _ (by omega))) ?_ ⟨rfl, rfl, rfl, rfl, rfl, rfl, rfl, rfl⟩ (by rw [hF2 72 (by decide)]; exact n4) ?_ (n6.room e8 e5 r79) (a2.room n6 r79) (fun j _ => rfl) e8 e5 r79 ?_ ⟨zug_row (by decide), zug_row (by decide)⟩
  · unfold zCR
    rw [h75, zug_eq, hg, hF2 6 (by decide), hF2 7 (by decide), hF2 8 (by decide), hF2 9 (by decide), hF2 10 (by decide), r71, hF2 76 (by decide), hF2 77 (by decide), hF2 78 (by decide), hF2 79 (by decide), m1, m2, m3, m5, m6, m7, m8]
    exact ⟨n2.1, n2.2.1, n2.2.2.1, n2.2.2.2.1, n2.2.2.2.2.1, n2.2.2.2.2.2.1, n2.2.2.2.2.2.2.1, Eq.refl _⟩
  · unfold zRv
    rw [h75, r71, hF2 76 (by decide), hF2 77 (by decide), hF2 78 (by decide), hF2 79 (by decide), m1, m2, m3, m5, m6, m7, m8]
    refine ⟨n5.1, n5.2.1, n5.2.2.1, n5.2.2.2.1, n5.2.2.2.2.1, n5.2.2.2.2.2.1, n5.2.2.2.2.2.2.1, n5.2.2.2.2.2.2.2.1, fun c hc => ?_⟩
    by_cases h : c = a.toNat
    · subst h; rw [zu_eq]; exact hw
    · rw [zu_ne h]; exact n5.2.2.2.2.2.2.2.2 c hc
  · refine ⟨fun r hr _ => hF2 r ?_, fun j _ => by rw [r71]⟩
    simp only [List.mem_cons, List.not_mem_nil, or_false, not_or] at hr
    omega
theorem a_wall (hd : 6 ≤ d) (A : zAll ρ p F G) (a w : Int) : zStep d 1 77 [zI a, zI w] F G := by
  obtain ⟨d, rfl⟩ := zds (show 1 ≤ d by omega)
  have A0 := A
  obtain ⟨⟨n1, n2, n3, n4, n5, n6⟩, a2, a3, a4, a5, a6, a7, a8, a9⟩ := A
  by_cases c1 : 0 ≤ a ∧ a < 64
  · by_cases c2 : w = 0 ∨ w = 1
    · have bG : G 6 0 = zset (fun c => ρ 75 c.toNat ≠ 0) := n2.2.2.2.2.2.2.2
      have m75 : F 75 = ρ 75 := n3.2.2.2.1
      have n01 : ¬ (0 : Int) = 1 := by decide
      have set1 : zlor (G 6 0) (zlshl (BitVec.ofNat 64 1) a) = zset (fun c => zu (ρ 75) a.toNat 1 c.toNat ≠ 0) := by
        rw [bG, zset_bit c1.1 c1.2, zlor_eq, zset_or]
        refine zset_congr fun c h0 h1 => ?_
        by_cases h : c = a
        · subst h; rw [zu_eq]; exact ⟨fun _ => by decide, fun _ => Or.inr (Eq.refl _)⟩
        · rw [zu_ne (by omega)]; exact ⟨fun q => q.elim id (fun q => absurd q h), Or.inl⟩
      have set0 : zland (G 6 0) (zlxor (zlshl (BitVec.ofNat 64 1) a) (BitVec.ofInt 64 (-1))) = zset (fun c => zu (ρ 75) a.toNat 0 c.toNat ≠ 0) := by
        rw [bG, zset_bit c1.1 c1.2, zlnot_eq, zland_eq, zset_not, zset_and]
        refine zset_congr fun c h0 h1 => ?_
        by_cases h : c = a
        · subst h; rw [zu_eq]; exact ⟨fun q => absurd (Eq.refl _) q.2, fun q => absurd (Eq.refl _) q⟩
        · rw [zu_ne (by omega)]; exact ⟨fun q => q.1, fun q => ⟨q, h⟩⟩
      have hhas : ∀ d, 1 ≤ d → zex d 152 [zL (G 6 0), zI a] (F, G, zsg) = some (some (zI (zp (ρ 75 a.toNat ≠ 0))), F, G, zsg) := by
        intro d hd
        rw [bG, s_has hd c1.1 c1.2, zp_iff (zset_geti c1.1 c1.2)]
      rcases c2 with rfl | rfl
      · refine ⟨zp (ρ 75 a.toNat ≠ 0), F, zug G 6 0 (zset (fun c => zu (ρ 75) a.toNat 0 c.toNat ≠ 0)), zup F 75 a.toNat 0, zug G 6 0 (zset (fun c => zu (ρ 75) a.toNat 0 c.toNat ≠ 0)), g_C_wall a 0 _ ?_, g_M_wall a 0 _ ?_, _, p, A0.wall c1 (Or.inl (Eq.refl _)) (Eq.refl _)⟩
        · rw [s_isCell (by omega), zbI_some, zp_t c1, if_neg (by decide), if_pos (by decide), if_neg (by decide), hhas d (by omega), zbI_some]
          rcases zp_01 (ρ 75 a.toNat ≠ 0) with h | h
          · rw [h, if_pos rfl, if_neg n01, s_bit (by omega), zbL_some, set0]
          · rw [h, if_neg (by decide), if_neg n01, s_bit (by omega), zbL_some, set0]
        · rw [m_isCell (by omega), zbI_some, zp_t c1, if_neg (by decide), m_in (by omega), zbI_some, zp_t (by decide), if_neg (by decide), if_neg (by decide), if_pos c1, m75]
          by_cases h : ρ 75 a.toNat = 0
          · rw [if_pos h, if_neg n01, if_pos c1, zp_f (fun q => q h)]
          · rw [if_neg h, if_neg n01, if_pos c1, zp_t h]
      · by_cases c3 : zfd (fun t => (t : Int) ≠ -1 ∧ q_lies ρ p t a) 0 (ρ 71 8).toNat ≠ -1 ∨ p 28 = a ∨ p 29 = a
        · refine A0.same (v := -3) (g_C_wall a 1 _ ?_) (g_M_wall a 1 _ ?_)
          · rw [s_isCell (by omega), zbI_some, zp_t c1, if_neg (by decide), if_neg (by decide), if_pos (by decide), if_pos (by decide), s_isThingOrHandIn (by omega) n1 n2 n5 n6.1 c1.1 c1.2, zbI_some, zp_t c3, if_neg (by decide)]
          · rw [m_isCell (by omega), zbI_some, zp_t c1, if_neg (by decide), m_in (by omega), zbI_some, zp_t (by decide), if_neg (by decide), if_pos (by decide), m_thingIn (by omega) n3 n4 n5 n6.1, zbI_some]
            by_cases h : zfd (fun t => (t : Int) ≠ -1 ∧ q_lies ρ p t a) 0 (ρ 71 8).toNat = -1
            · rw [if_pos h, m_isHandIn (by omega) n4, zbI_some, zp_t (c3.resolve_left (fun q => q h)), if_neg (by decide)]
            · rw [if_neg h]
        · refine ⟨zp (ρ 75 a.toNat ≠ 0), F, zug G 6 0 (zset (fun c => zu (ρ 75) a.toNat 1 c.toNat ≠ 0)), zup F 75 a.toNat 1, zug G 6 0 (zset (fun c => zu (ρ 75) a.toNat 1 c.toNat ≠ 0)), g_C_wall a 1 _ ?_, g_M_wall a 1 _ ?_, _, p, A0.wall c1 (Or.inr (Eq.refl _)) (Eq.refl _)⟩
          · rw [s_isCell (by omega), zbI_some, zp_t c1, if_neg (by decide), if_neg (by decide), if_pos (by decide), if_pos (by decide), s_isThingOrHandIn (by omega) n1 n2 n5 n6.1 c1.1 c1.2, zbI_some, zp_f c3, if_pos (by decide), hhas d (by omega), zbI_some]
            rcases zp_01 (ρ 75 a.toNat ≠ 0) with h | h
            · rw [h, if_pos rfl, if_pos rfl, s_bit (by omega), zbL_some, set1]
            · rw [h, if_neg (by decide), if_pos rfl, s_bit (by omega), zbL_some, set1]
          · have h1 : zfd (fun t => (t : Int) ≠ -1 ∧ q_lies ρ p t a) 0 (ρ 71 8).toNat = -1 := Classical.byContradiction fun q => c3 (Or.inl q)
            rw [m_isCell (by omega), zbI_some, zp_t c1, if_neg (by decide), m_in (by omega), zbI_some, zp_t (by decide), if_neg (by decide), if_pos (by decide), m_thingIn (by omega) n3 n4 n5 n6.1, zbI_some, if_pos h1, m_isHandIn (by omega) n4, zbI_some, zp_f (fun q => c3 (Or.inr q)), if_pos (by decide), if_pos c1, m75]
            by_cases h : ρ 75 a.toNat = 0
            · rw [if_pos h, if_pos rfl, if_pos c1, zp_f (fun q => q h)]
            · rw [if_neg h, if_pos rfl, if_pos c1, zp_t h]
    · refine A0.same (v := -2) (g_C_wall a w _ ?_) (g_M_wall a w _ ?_)
      · rw [s_isCell (by omega), zbI_some, zp_t c1, if_neg (by decide), if_neg (by omega), if_neg (by omega)]
      · rw [m_isCell (by omega), zbI_some, zp_t c1, if_neg (by decide), m_in (by omega), zbI_some, zp_f (by omega), if_pos rfl]
  · refine A0.same (v := -1) (g_C_wall a w _ ?_) (g_M_wall a w _ ?_)
    · rw [s_isCell (by omega), zbI_some, zp_f c1, if_pos rfl]
    · rw [m_isCell (by omega), zbI_some, zp_f c1, if_pos rfl]
/-- a door more, on both sides -/
theorem zAll.door (A : zAll ρ p F G) {a k : Int} (ha : 0 ≤ a ∧ a < 64) (hk : -1 ≤ k ∧ k < 8) (hn : ρ 71 5 < 4) : zAll (zup (zup (zup (zup (zup (zup (zup F 9 (ρ 71 5).toNat a) 10 (ρ 71 5).toNat k) 6 5 (ρ 71 5 + 1)) 76 (ρ 71 5).toNat a) 77 (ρ 71 5).toNat k) 72 (24 + (ρ 71 5).toNat) 0) 71 5 (ρ 71 5 + 1)) p (zup (zup (zup (zup (zup (zup (zup F 9 (ρ 71 5).toNat a) 10 (ρ 71 5).toNat k) 6 5 (ρ 71 5 + 1)) 76 (ρ 71 5).toNat a) 77 (ρ 71 5).toNat k) 72 (24 + (ρ 71 5).toNat) 0) 71 5 (ρ 71 5 + 1)) G := by
  have A0 := A
  obtain ⟨⟨n1, n2, n3, n4, n5, n6⟩, a2, a3, a4, a5, a6, a7, a8, a9⟩ := A
  obtain ⟨m1, m2, m3, m4, m5, m6, m7, m8⟩ := n3
  obtain ⟨k1, k2, k3, k4, k5, k6, k7, k8⟩ := n2
  have hn0 := n5.2.1.1
  generalize hFM : zup (zup (zup (zup (zup (zup (zup F 9 (ρ 71 5).toNat a) 10 (ρ 71 5).toNat k) 6 5 (ρ 71 5 + 1)) 76 (ρ 71 5).toNat a) 77 (ρ 71 5).toNat k) 72 (24 + (ρ 71 5).toNat) 0) 71 5 (ρ 71 5 + 1) = FM
  have hF2 : ∀ r, r ≠ 6 → r ≠ 9 → r ≠ 10 → r ≠ 71 → r ≠ 72 → r ≠ 76 → r ≠ 77 → FM r = F r := fun r r1 r2 r3 r4 r5 r6 r7 => by rw [← hFM, zup_row r4, zup_row r5, zup_row r7, zup_row r6, zup_row r1, zup_row r3, zup_row r2]
  have e6 : FM 6 = zu (F 6) 5 (ρ 71 5 + 1) := by rw [← hFM, zup_row (by decide), zup_row (by decide), zup_row (by decide), zup_row (by decide), zup_fn, zup_row (by decide), zup_row (by decide)]
  have e9 : FM 9 = zu (ρ 76) (ρ 71 5).toNat a := by rw [← hFM, zup_row (by decide), zup_row (by decide), zup_row (by decide), zup_row (by decide), zup_row (by decide), zup_row (by decide), zup_fn, k6]
  have e10 : FM 10 = zu (ρ 77) (ρ 71 5).toNat k := by rw [← hFM, zup_row (by decide), zup_row (by decide), zup_row (by decide), zup_row (by decide), zup_row (by decide), zup_fn, zup_row (by decide), k7]
  have e71 : FM 71 = zu (F 71) 5 (ρ 71 5 + 1) := by rw [← hFM, zup_fn, zup_row (by decide), zup_row (by decide), zup_row (by decide), zup_row (by decide), zup_row (by decide), zup_row (by decide)]
  have e72 : FM 72 = p := by
    rw [← hFM, zup_row (by decide), zup_fn, zup_row (by decide), zup_row (by decide), zup_row (by decide), zup_row (by decide), zup_row (by decide), n4]
    funext j
    by_cases h : j = 24 + (ρ 71 5).toNat
    · rw [h, zu_eq]
      exact (n6.2.2.2.2.2.2.1 (ρ 71 5).toNat (by omega) (by omega)).symm
    · rw [zu_ne h]
  have e76 : FM 76 = zu (ρ 76) (ρ 71 5).toNat a := by rw [← hFM, zup_row (by decide), zup_row (by decide), zup_row (by decide), zup_fn, zup_row (by decide), zup_row (by decide), zup_row (by decide), m5]
  have e77 : FM 77 = zu (ρ 77) (ρ 71 5).toNat k := by rw [← hFM, zup_row (by decide), zup_row (by decide), zup_fn, zup_row (by decide), zup_row (by decide), zup_row (by decide), zup_row (by decide), m6]
  have r71 : ∀ j, j ≠ 5 → FM 71 j = F 71 j := fun j hj => by rw [e71, zu_ne hj]
  have r715 : FM 71 5 = ρ 71 5 + 1 := by rw [e71, zu_eq]
  have r6 : ∀ j, j ≠ 5 → FM 6 j = F 6 j := fun j hj => by rw [e6, zu_ne hj]
  have r65 : FM 6 5 = ρ 71 5 + 1 := by rw [e6, zu_eq]
  have hr : ∀ r, r = 7 ∨ r = 8 ∨ r = 75 ∨ r = 78 ∨ r = 79 → FM r = F r := fun r h => hF2 r (by omega) (by omega) (by omega) (by omega) (by omega) (by omega) (by omega)
  have r79 : ∀ t : Nat, (t : Int) < ρ 71 8 → FM 79 t = ρ 79 t := fun t _ => by rw [hr 79 (by decide), m8]
  have e8 : ρ 71 8 ≤ FM 71 8 := by rw [r71 8 (by decide), m2]; exact Int.le_refl _
  have e5 : ρ 71 5 ≤ FM 71 5 := by rw [r715]; omega
  refine A0.room (n1.fr (fun k hk => hF2 _ (by omega) (by omega) (by omega) (by omega) (by omega) (by omega) (by omega))) ?_ ⟨rfl, rfl, rfl, rfl, rfl, rfl, rfl, rfl⟩ e72 ?_ (n6.room e8 e5 r79) (a2.room n6 r79) (fun j _ => rfl) e8 e5 r79 ?_ ⟨rfl, rfl⟩
  · unfold zCR
    rw [r6 2 (by decide), r6 1 (by decide), r65, r71 8 (by decide), r71 11 (by decide), r715, hr 7 (by decide), hr 8 (by decide), hr 78 (by decide), hr 79 (by decide), hr 75 (by decide), e9, e10, e76, e77, m2, m3, m4, m7, m8]
    exact ⟨k1, k2, rfl, k4, k5, rfl, rfl, k8⟩
  · unfold zRv
    rw [r71 8 (by decide), r71 11 (by decide), r715, hr 78 (by decide), hr 79 (by decide), hr 75 (by decide), e76, e77, m2, m3, m4, m7, m8]
    refine ⟨n5.1, by omega, n5.2.2.1, n5.2.2.2.1, n5.2.2.2.2.1, n5.2.2.2.2.2.1, fun e he => ?_, fun e he => ?_, n5.2.2.2.2.2.2.2.2⟩
    · by_cases h : e = (ρ 71 5).toNat
      · rw [h, zu_eq]; exact ha
      · rw [zu_ne h]; exact n5.2.2.2.2.2.2.1 e he
    · by_cases h : e = (ρ 71 5).toNat
      · rw [h, zu_eq]; exact hk
      · rw [zu_ne h]; exact n5.2.2.2.2.2.2.2.1 e he
  · refine ⟨fun r hr _ => ?_, fun j hj => r71 j ?_⟩
    · simp only [List.mem_cons, List.not_mem_nil, or_false, not_or] at hr
      exact hF2 r (by omega) (by omega) (by omega) (by omega) (by omega) (by omega) (by omega)
    · simp only [List.mem_cons, List.not_mem_nil, or_false, not_or] at hj
      exact hj.1
theorem a_door_tail (hd : 5 ≤ d) (A : zAll ρ p F G) {a k : Int} (c1 : 0 ≤ a ∧ a < 64) (hk : -1 ≤ k ∧ k < 8) : ∃ v F1 F2, (zbI (zex d 152 [zL (G 6 0), zI a] (F, G, zsg)) (fun v2 F2 G2 =>
          if v2 = 0 then
            zbI (zex d 46 [zR 5, zI a] (F2, G2, zsg)) (fun v3 F3 G3 =>
              if v3 = 0 then
                if (F3 6 5) < 4 then
                  if 0 ≤ (F3 6 5) ∧ (F3 6 5) < 4 then
                    if 0 ≤ (F3 6 5) ∧ (F3 6 5) < 4 then
                      some (some (zI (F3 6 5)), (zup (zup (zup F3 9 (Int.toNat (F3 6 5)) a) 10 (Int.toNat (F3 6 5)) k) 6 5 (zadd (F3 6 5) 1)), G3, zsg)
                    else none
                  else none
                else
                  some (some (zI (-4)), F3, G3, zsg)
              else
                some (some (zI (-3)), F3, G3, zsg))
          else
            some (some (zI (-3)), F2, G2, zsg))) = some (some (zI v), F1, G, zsg) ∧
  (if 0 ≤ a ∧ a < 64 then
          if (F1 75 (Int.toNat a)) = 0 then
            zbI (zex d 59 [zR 71, zI a, zI (-1)] (F1, G, zsg)) (fun v2 F2 G2 =>
              if v2 = (-1) then
                zbI (zex d 76 [zR 71, zI a] (F2, G2, zsg)) (fun v3 F3 G3 =>
                  if v3 = 0 then
                    if (F3 71 5) = 4 then
                      some (some (zI (-4)), F3, G3, zsg)
                    else
                      if 0 ≤ (F3 71 5) ∧ (F3 71 5) < 4 then
                        if 0 ≤ (F3 71 5) ∧ (F3 71 5) < 4 then
                        if 0 ≤ (zadd 24 (F3 71 5)) ∧ (zadd 24 (F3 71 5)) < 43 then
                        some (some (zI (zsub (zadd (F3 71 5) 1) 1)), (zup (zup (zup (zup F3 76 (Int.toNat (F3 71 5)) a) 77 (Int.toNat (F3 71 5)) k) 72 (Int.toNat (zadd 24 (F3 71 5))) 0) 71 5 (zadd (F3 71 5) 1)), G3, zsg)
                      else none
                      else none
                      else none
                  else
                    some (some (zI (-3)), F3, G3, zsg))
              else
                some (some (zI (-3)), F2, G2, zsg))
          else
            some (some (zI (-3)), F1, G, zsg)
        else none) = some (some (zI v), F2, G, zsg) ∧ zRR F2 G ∧ F1 71 = F 71 ∧ F1 78 = F 78 := by
  have A0 := A
  obtain ⟨⟨n1, n2, n3, n4, n5, n6⟩, a2, a3, a4, a5, a6, a7, a8, a9⟩ := A
  have bG : G 6 0 = zset (fun c => ρ 75 c.toNat ≠ 0) := n2.2.2.2.2.2.2.2
  have hn0 := n5.2.1
  have m71 := n3.1
  have m75 : F 75 = ρ 75 := n3.2.2.2.1
  rw [bG, s_has (by omega) c1.1 c1.2, zbI_some, zp_iff (zset_geti c1.1 c1.2)]
  by_cases h1 : ρ 75 a.toNat = 0
  · rw [zp_f (fun q => q h1), if_pos (Eq.refl _), s_isThingOrHandIn (by omega) n1 n2 n5 n6.1 c1.1 c1.2, zbI_some]
    by_cases c3 : zfd (fun t => (t : Int) ≠ -1 ∧ q_lies ρ p t a) 0 (ρ 71 8).toNat ≠ -1 ∨ p 28 = a ∨ p 29 = a
    · refine ⟨-3, F, F, by rw [zp_t c3, if_neg (by decide)], ?_, ⟨ρ, p, A0⟩, rfl, rfl⟩
      rw [if_pos c1, m75, if_pos h1, m_thingIn (by omega) n3 n4 n5 n6.1, zbI_some]
      by_cases h : zfd (fun t => (t : Int) ≠ -1 ∧ q_lies ρ p t a) 0 (ρ 71 8).toNat = -1
      · rw [if_pos h, m_isHandIn (by omega) n4, zbI_some, zp_t (c3.resolve_left (fun q => q h)), if_neg (by decide)]
      · rw [if_neg h]
    · have h2 : zfd (fun t => (t : Int) ≠ -1 ∧ q_lies ρ p t a) 0 (ρ 71 8).toNat = -1 := Classical.byContradiction fun q => c3 (Or.inl q)
      rw [zp_f c3, if_pos (Eq.refl _), n2.2.2.1]
      by_cases h4 : ρ 71 5 < 4
      · have g4 : 0 ≤ ρ 71 5 ∧ ρ 71 5 < 4 := ⟨hn0.1, h4⟩
        have t24 : (24 + ρ 71 5).toNat = 24 + (ρ 71 5).toNat := by omega
        have g43 : 0 ≤ 24 + ρ 71 5 ∧ 24 + ρ 71 5 < 43 := by omega
        refine ⟨ρ 71 5, zup (zup (zup F 9 (ρ 71 5).toNat a) 10 (ρ 71 5).toNat k) 6 5 (ρ 71 5 + 1), _, by rw [if_pos h4, if_pos g4, if_pos g4, zadd_eq (by omega) (by omega)], ?_, ⟨_, p, A0.door c1 hk h4⟩, by rw [zup_row (by decide), zup_row (by decide), zup_row (by decide)], by rw [zup_row (by decide), zup_row (by decide), zup_row (by decide)]⟩
        have hF : ∀ r, r ≠ 6 → r ≠ 9 → r ≠ 10 → zup (zup (zup F 9 (ρ 71 5).toNat a) 10 (ρ 71 5).toNat k) 6 5 (ρ 71 5 + 1) r = F r := fun r r1 r2 r3 => by rw [zup_row r1, zup_row r3, zup_row r2]
        have n3' : zMR ρ (zup (zup (zup F 9 (ρ 71 5).toNat a) 10 (ρ 71 5).toNat k) 6 5 (ρ 71 5 + 1)) := n3.fr (hF 71 (by decide) (by decide) (by decide)) (hF 75 (by decide) (by decide) (by decide)) (hF 76 (by decide) (by decide) (by decide)) (hF 77 (by decide) (by decide) (by decide)) (hF 78 (by decide) (by decide) (by decide)) (hF 79 (by decide) (by decide) (by decide))
        have n4' := (hF 72 (by decide) (by decide) (by decide)).trans n4
        rw [if_pos c1, hF 75 (by decide) (by decide) (by decide), m75, if_pos h1, m_thingIn (by omega) n3' n4' n5 n6.1, zbI_some, if_pos h2, m_isHandIn (by omega) n4', zbI_some, zp_f (fun q => c3 (Or.inr q)), if_pos (Eq.refl _), hF 71 (by decide) (by decide) (by decide), m71, if_neg (by omega), if_pos g4, if_pos g4, zadd_eq (x := 24) (by omega) (by omega), if_pos g43, zadd_eq (by omega) (by omega), zsub_eq (by omega) (by omega), t24, show ρ 71 5 + 1 - 1 = ρ 71 5 by omega]
      · refine ⟨-4, F, F, by rw [if_neg h4], ?_, ⟨ρ, p, A0⟩, rfl, rfl⟩
        rw [if_pos c1, m75, if_pos h1, m_thingIn (by omega) n3 n4 n5 n6.1, zbI_some, if_pos h2, m_isHandIn (by omega) n4, zbI_some, zp_f (fun q => c3 (Or.inr q)), if_pos (Eq.refl _), m71, if_pos (by omega)]
  · refine ⟨-3, F, F, by rw [zp_t h1, if_neg (by decide)], ?_, ⟨ρ, p, A0⟩, rfl, rfl⟩
    rw [if_pos c1, m75, if_neg h1]
theorem a_door (hd : 6 ≤ d) (A : zAll ρ p F G) (a k : Int) : zStep d 2 78 [zI a, zI k] F G := by
  obtain ⟨d, rfl⟩ := zds (show 1 ≤ d by omega)
  have A0 := A
  obtain ⟨⟨n1, n2, n3, n4, n5, n6⟩, a2, a3, a4, a5, a6, a7, a8, a9⟩ := A
  by_cases c1 : 0 ≤ a ∧ a < 64
  · by_cases c2 : k = -1
    · subst c2
      obtain ⟨v, F1, F2, e1, e2, e3, e4, e5⟩ := a_door_tail (d := d) (k := -1) (by omega) A0 c1 (by decide)
      refine ⟨v, F1, G, F2, G, g_C_door a (-1) _ ?_, g_M_door a (-1) _ ?_, e3⟩
      · rw [s_isCell (by omega), zbI_some, zp_t c1, if_neg (by decide), if_pos (Eq.refl _), if_pos (Eq.refl _)]
        exact e1
      · rw [m_isCell (by omega), zbI_some, zp_t c1, if_neg (by decide), if_pos (Eq.refl _), if_pos (Eq.refl _)]
        exact e2
    · by_cases c3 : 0 ≤ k ∧ k < ρ 71 8
      · have g8 : 0 ≤ k ∧ k < 8 := by have := n5.1.2; omega
        by_cases c4 : ρ 78 k.toNat = 3
        · obtain ⟨v, F1, F2, e1, e2, e3, e4, e5⟩ := a_door_tail (d := d) (k := k) (by omega) A0 c1 (by omega)
          refine ⟨v, F1, G, F2, G, g_C_door a k _ ?_, g_M_door a k _ ?_, e3⟩
          · rw [s_isCell (by omega), zbI_some, zp_t c1, if_neg (by decide), if_neg c2, s_isThing (by omega) n2, zbI_some, zp_t c3, if_neg (by decide), if_neg c2, if_pos g8, n2.2.2.2.1, s_isKey (by omega), zbI_some, zp_t c4, if_neg (by decide)]
            exact e1
          · have is : zex d 51 [zR 71, zI k] (F1, G, zsg) = some (some (zI (zp (0 ≤ k ∧ k < ρ 71 8))), F1, G, zsg) := by
              have := n5.1
              obtain ⟨d, rfl⟩ := zds (show 1 ≤ d by omega)
              refine g_M_isThing k _ ?_
              rw [e4, n3.2.1, m_in (by omega), zbI_some, zsub_eq (by omega) (by omega)]
              rw [zp_iff (show (0 ≤ k ∧ k ≤ ρ 71 8 - 1) ↔ (0 ≤ k ∧ k < ρ 71 8) by omega), if_pos (zp_01 _)]
            rw [m_isCell (by omega), zbI_some, zp_t c1, if_neg (by decide), if_neg c2, is, zbI_some, zp_t c3, if_neg (by decide), if_neg c2, if_pos g8, e5, n3.2.2.2.2.2.2.1, if_pos c4]
            exact e2
        · refine A0.same (v := -13) (g_C_door a k _ ?_) (g_M_door a k _ ?_)
          · rw [s_isCell (by omega), zbI_some, zp_t c1, if_neg (by decide), if_neg c2, s_isThing (by omega) n2, zbI_some, zp_t c3, if_neg (by decide), if_neg c2, if_pos g8, n2.2.2.2.1, s_isKey (by omega), zbI_some, zp_f c4, if_pos (Eq.refl _)]
          · rw [m_isCell (by omega), zbI_some, zp_t c1, if_neg (by decide), if_neg c2, m_isThing (by omega) n3 n5, zbI_some, zp_t c3, if_neg (by decide), if_neg c2, if_pos g8, n3.2.2.2.2.2.2.1, if_neg c4]
      · refine A0.same (v := -1) (g_C_door a k _ ?_) (g_M_door a k _ ?_)
        · rw [s_isCell (by omega), zbI_some, zp_t c1, if_neg (by decide), if_neg c2, s_isThing (by omega) n2, zbI_some, zp_f c3, if_pos (Eq.refl _)]
        · rw [m_isCell (by omega), zbI_some, zp_t c1, if_neg (by decide), if_neg c2, m_isThing (by omega) n3 n5, zbI_some, zp_f c3, if_pos (Eq.refl _)]
  · refine A0.same (v := -1) (g_C_door a k _ ?_) (g_M_door a k _ ?_)
    · rw [s_isCell (by omega), zbI_some, zp_f c1, if_pos rfl]
    · rw [m_isCell (by omega), zbI_some, zp_f c1, if_pos rfl]
end
