/-! acts: both sides alike -/
section
variable {d : Nat} {F ρ ρ' : zM} {G : zG} {p p' : Nat → Int}
theorem q_move_keep {h c f : Int} (hh : h = 0 ∨ h = 1) (hV : zRv ρ) (hP : zPv ρ p) : ∀ j, 34 ≤ j → q_move ρ p h c f j = p j := by
  intro j hj
  have hb := hP.2.2.1 h.toNat (by omega)
  have hn8 := hV.1.2
  unfold q_move
  split
  · rw [zu_ne (by omega), zu_ne (by omega)]
  · rw [zu_ne (by omega), zu_ne (by omega), zu_ne (by omega)]
theorem q_act_keep (hV : zRv ρ) (hP : zPv ρ p) {h act n s : Int} (hh : h = 0 ∨ h = 1) (ho : q_aok act n s) : ∀ j, 34 ≤ j → (q_act ρ p h act n s).2 j = p j := by
  intro j hj
  have hb := hP.2.2.1 h.toNat (by omega)
  have hn8 := hV.1.2
  obtain ⟨o1, o2, o3, o4⟩ := ho
  unfold q_act q_go q_take q_put q_open
  split
  · split
    · rfl
    · split
      · rfl
      · exact q_move_keep hh hV hP j hj
  · split
    · rename_i a1
      have := (o3 a1).1
      repeat' split
      all_goals first
        | rfl
        | (dsimp only; rw [zu_ne (by omega), zu_ne (by omega), zu_ne (by omega)])
    · split
      · split
        · rfl
        · dsimp only; rw [zu_ne (by omega), zu_ne (by omega), zu_ne (by omega)]
      · split
        · rename_i a3
          have := o4 a3
          repeat' split
          all_goals first
            | rfl
            | (dsimp only; rw [zu_ne (by omega)])
        · rfl
/-- things stay apart -/
theorem pno_act (hV : zRv ρ) (hP : zPv ρ p) (hN : zNO ρ p) {h act n s : Int} (hh : h = 0 ∨ h = 1) (ho : q_aok act n s) : zNO ρ (q_act ρ p h act n s).2 := by
  have hb := hP.2.2.1 h.toNat (by omega)
  have hn8 := hV.1.2
  obtain ⟨o1, o2, o3, o4⟩ := ho
  have same : ∀ p' : Nat → Int, (∀ t, t < 8 → p' t = p t) → zNO ρ p' := by
    intro p' he t u ht hu hne
    rw [he t ht, he u hu]
    exact hN t u ht hu hne
  unfold q_act
  split
  · rename_i a0
    unfold q_go
    split
    · exact hN
    · rename_i c0
      split
      · exact hN
      · rename_i c1
        by_cases ht : p (30 + h.toNat) = -1
        · refine same _ (fun t h8 => ?_)
          show q_move ρ p h n _ t = p t
          unfold q_move
          rw [if_pos ht, zu_ne (by omega), zu_ne (by omega)]
        · have hreach := q_reach hV hP hh c0 c1 ht
          have hd := hP.2.2.2.2.2.2.2.1 h.toNat (by omega) ht
          have hL := q_far_L c1
          show zNO ρ (q_move ρ p h n _)
          unfold q_move
          rw [if_neg ht]
          have hw1 := hV.2.2.2.2.2.1 (p (30 + h.toNat)).toNat (by omega)
          have hw2 := hV.2.2.2.2.1 (p (30 + h.toNat)).toNat (by omega)
          have hfree : n = p (28 + h.toNat) ∨ ∀ k : Nat, (k : Int) < ρ 79 (p (30 + h.toNat)).toNat → ¬ q_tk ρ p h (q_but (p (30 + h.toNat))) (q_heldAt n (p (16 + (p (30 + h.toNat)).toNat)) (ρ 79 (p (30 + h.toNat)).toNat) + k) := by
            cases hk : (q_far (n_T ρ p h) (n_S ρ p h) (n_a p h) n).toNat with
            | zero =>
              rw [hk] at hL
              exact Or.inl hL
            | succ k =>
              rw [hk] at hL
              exact Or.inr ((q_L_pred hL).1.2.2 ht).2
          have apart : ∀ u : Nat, u < 8 → u ≠ (p (30 + h.toNat)).toNat → p u ≠ -1 → q_heldAt n (p (16 + (p (30 + h.toNat)).toNat)) (ρ 79 (p (30 + h.toNat)).toNat) + ρ 79 (p (30 + h.toNat)).toNat ≤ p u ∨ p u + ρ 79 u ≤ q_heldAt n (p (16 + (p (30 + h.toNat)).toNat)) (ρ 79 (p (30 + h.toNat)).toNat) := by
            intro u hu hne hpu
            rcases hfree with hf | hf
            · rw [hf, ← hd.2.2.2.2]
              exact hN _ u (by omega) hu (fun q => hne q.symm) hd.2.2.2.1 hpu
            · have hun : (u : Int) < ρ 71 8 := by
                rcases Int.lt_or_le (u : Int) (ρ 71 8) with q | q
                · exact q
                · exact absurd (hP.2.2.2.2.1 u hu q).1 hpu
              have hwu1 := hV.2.2.2.2.2.1 u hun
              have no : ∀ k : Nat, (k : Int) < ρ 79 (p (30 + h.toNat)).toNat → ¬ (p u ≤ q_heldAt n (p (16 + (p (30 + h.toNat)).toNat)) (ρ 79 (p (30 + h.toNat)).toNat) + k ∧ q_heldAt n (p (16 + (p (30 + h.toNat)).toNat)) (ρ 79 (p (30 + h.toNat)).toNat) + k < p u + ρ 79 u) := fun k hk q => hf k hk (Or.inr (Or.inr (Or.inl ⟨u, hun, fun q2 => hne (by have : (u : Int) = p (30 + h.toNat) := q2; omega), hpu, q.1, q.2⟩)))
              generalize q_heldAt n (p (16 + (p (30 + h.toNat)).toNat)) (ρ 79 (p (30 + h.toNat)).toNat) = N at no ⊢
              have h0 := no 0 (by omega)
              rcases Int.lt_or_le N (p u) with q | q
              · rcases Int.lt_or_le (p u) (N + ρ 79 (p (30 + h.toNat)).toNat) with q2 | q2
                · have := no (p u - N).toNat (by omega)
                  omega
                · exact Or.inl q2
              · omega
          intro t u h8 h9 hne
          have ev : ∀ t, t < 8 → zu (zu (zu p (p (30 + h.toNat)).toNat (q_heldAt n (p (16 + (p (30 + h.toNat)).toNat)) (ρ 79 (p (30 + h.toNat)).toNat))) (28 + h.toNat) n) (32 + h.toNat) (zadd (p (32 + h.toNat)) (q_far (n_T ρ p h) (n_S ρ p h) (n_a p h) n)) t = if t = (p (30 + h.toNat)).toNat then q_heldAt n (p (16 + (p (30 + h.toNat)).toNat)) (ρ 79 (p (30 + h.toNat)).toNat) else p t := by
            intro t h8
            rw [zu_ne (by omega), zu_ne (by omega)]
            rfl
          rw [ev t h8, ev u h9]
          by_cases e1 : t = (p (30 + h.toNat)).toNat
          · have e2 : u ≠ (p (30 + h.toNat)).toNat := fun q => hne (e1.trans q.symm)
            rw [if_pos e1, if_neg e2, e1]
            exact fun _ q => apart u h9 e2 q
          · by_cases e2 : u = (p (30 + h.toNat)).toNat
            · rw [if_neg e1, if_pos e2, e2]
              exact fun q _ => (apart t h8 e1 q).symm
            · rw [if_neg e1, if_neg e2]
              exact hN t u h8 h9 hne
  · split
    · rename_i a1
      have hn := (o3 a1).1
      unfold q_take
      repeat' split
      all_goals first
        | exact hN
        | exact same _ (fun t h8 => by dsimp only; rw [zu_ne (by omega), zu_ne (by omega), zu_ne (by omega)])
    · split
      · unfold q_put
        split
        · exact hN
        · exact same _ (fun t h8 => by dsimp only; rw [zu_ne (by omega), zu_ne (by omega), zu_ne (by omega)])
      · split
        · unfold q_open
          repeat' split
          all_goals first
            | exact hN
            | exact same _ (fun t h8 => by dsimp only; rw [zu_ne (by omega)])
        · exact hN
theorem zAll.act {F2 : zM} {G2 : zG} (A : zAll ρ p F G) (h1 : zSC 11 p' F2) (h2 : F2 72 = p') (hpv : zPv ρ p') (hno : zNO ρ p') (hgr : zGr F p') (hF : ∀ r, r ≠ 44 → (r < 11 ∨ 21 < r) → r ≠ 72 → r ≠ 99 → r ≠ 100 → F2 r = F r) (hG : ∀ r, r ≠ 44 → r ≠ 45 → G2 r = G r) : zAll ρ p' F2 G2 := by
  obtain ⟨⟨n1, n2, n3, n4, n5, n6⟩, a2, a3, a4, a5, a6, a7, a8, a9⟩ := A
  have hc : zch [44, 11, 12, 13, 14, 15, 16, 17, 18, 19, 20, 21, 72, 99, 100] [] F F2 := by
    refine ⟨fun r hr _ => ?_, fun j _ => by rw [hF 71 (by decide) (by decide) (by decide) (by decide) (by decide)]⟩
    simp only [List.mem_cons, List.not_mem_nil, or_false, not_or] at hr
    exact hF r (by omega) (by omega) (by omega) (by omega) (by omega)
  have hk : ∀ r, r ≤ 10 → F2 r = F r := fun r hr => hF r (by omega) (by omega) (by omega) (by omega) (by omega)
  have e64 : F2 64 = F 64 := hF 64 (by decide) (by decide) (by decide) (by decide) (by decide)
  refine ⟨⟨h1, n2.fr (hk 6 (by decide)) (hk 7 (by decide)) (hk 8 (by decide)) (hk 9 (by decide)) (hk 10 (by decide)) (hG 6 (by decide) (by decide)), ?_, h2, n5, hpv⟩, hno, hgr.ch hc, a4.ch hc, a5.ch hc, a6.ch hc, a7.ch hc ⟨hG 59 (by decide) (by decide), hG 93 (by decide) (by decide)⟩, a8.ch hc (by decide) (by decide) (by rw [e64]) (by rw [e64]), a9.ch hc⟩
  exact n3.fr (hF 71 (by decide) (by decide) (by decide) (by decide) (by decide)) (hF 75 (by decide) (by decide) (by decide) (by decide) (by decide)) (hF 76 (by decide) (by decide) (by decide) (by decide) (by decide)) (hF 77 (by decide) (by decide) (by decide) (by decide) (by decide)) (hF 78 (by decide) (by decide) (by decide) (by decide) (by decide)) (hF 79 (by decide) (by decide) (by decide) (by decide) (by decide))
theorem zGr.keep (h : zGr F p) (hk : ∀ j, 34 ≤ j → p' j = p j) : zGr F p' := by
  intro g hg
  rw [hk _ (by omega), hk _ (by omega), hk (40 + g) (by omega)]
  exact h g hg
/-- an act of now on both sides -/
theorem zAll.acts (hd : 5 ≤ d) (A : zAll ρ p F G) {h act n s : Int} (hh : h = 0 ∨ h = 1) (ho : q_aok act n s) : ∃ F1 G1, zex d 138 [zR 52, zR 11, zI h, zI act, zI n, zI s] (F, G, zsg) = some (some (zI (q_act ρ p h act n s).1), F1, G1, zsg) ∧ zSC 11 (q_act ρ p h act n s).2 F1 ∧ zMR ρ F1 ∧ F1 72 = p ∧
    (∀ r, r ≠ 44 → (r < 11 ∨ 21 < r) → F1 r = F r) ∧ ∀ F2 : zM, F2 72 = (q_act ρ p h act n s).2 → (∀ r, r ≠ 72 → r ≠ 99 → r ≠ 100 → F2 r = F1 r) → zAll ρ (q_act ρ p h act n s).2 F2 G1 := by
  obtain ⟨n1, n2, n3, n4, n5, n6⟩ := A.1
  obtain ⟨F1, G1, e1, e2, e3, e4⟩ := s_attempt_11 (d := d) hd n1 n2 n5 n6 hh ho
  have e3' : ∀ r, r ≠ 44 → (r < 11 ∨ 21 < r) → F1 r = F r := e3
  refine ⟨F1, G1, e1, e2, n3.fr (e3' 71 (by decide) (by decide)) (e3' 75 (by decide) (by decide)) (e3' 76 (by decide) (by decide)) (e3' 77 (by decide) (by decide)) (e3' 78 (by decide) (by decide)) (e3' 79 (by decide) (by decide)), by rw [e3' 72 (by decide) (by decide)]; exact n4, e3', fun F2 h1 h2 => ?_⟩
  refine A.act (e2.fr (fun k hk => h2 _ (by omega) (by omega) (by omega))) h1 (pv_act n5 n6 hh ho) (pno_act n5 n6 A.2.1 hh ho) (A.2.2.1.keep (q_act_keep n5 n6 hh ho)) (fun r r1 r2 r3 r4 r5 => by rw [h2 r r3 r4 r5, e3' r r1 r2]) e4
theorem s_answerOf (hd : 1 ≤ d) {w : Int} : zex d 47 [zI w] (F, G, zsg) = some (some (zI (if w = 0 then 0 else zsub (-10) w)), F, G, zsg) := by
  obtain ⟨d, rfl⟩ := zds hd
  refine g_C_answerOf w _ ?_
  split <;> rfl
theorem m_told (hd : 1 ≤ d) {w : Int} : zex d 89 [zI w] (F, G, zsg) = some (some (zI (if w = 0 then 0 else zsub (-10) w)), F, G, zsg) := by
  obtain ⟨d, rfl⟩ := zds hd
  refine g_M_told w _ ?_
  split <;> rfl
theorem zAll.same {d c m : Nat} {as : List zV} {v : Int} (A : zAll ρ p F G) (h1 : zex d c (zR 5 :: as) (F, G, zsg) = some (some (zI v), F, G, zsg)) (h2 : zex d m (zR 71 :: as) (F, G, zsg) = some (some (zI v), F, G, zsg)) : zStep d c m as F G := ⟨v, F, G, F, G, h1, h2, ρ, p, A⟩
theorem a_go (hd : 8 ≤ d) (A : zAll ρ p F G) (h c : Int) : zStep d 6 88 [zI h, zI c] F G := by
  obtain ⟨d, rfl⟩ := zds (show 1 ≤ d by omega)
  have N := A.1
  by_cases c1 : (0 ≤ h ∧ h ≤ 1) ∧ p (28 + h).toNat ≠ -1
  · by_cases c2 : 0 ≤ c ∧ c < 64
    · have hh : h = 0 ∨ h = 1 := by omega
      have h2 : 0 ≤ h ∧ h < 2 := by omega
      have ho : q_aok 0 c 0 := ⟨by decide, fun _ => c2, fun q => absurd q (by decide), fun q => absurd q (by decide)⟩
      obtain ⟨F1, G1, e1, e2, e3, e4, e5, e6⟩ := A.acts (d := d) (by omega) hh ho
      have hact : q_act ρ p h 0 c 0 = q_go ρ p h c := by unfold q_act; rw [if_pos rfl]
      rw [hact] at e1 e2 e6
      obtain ⟨F2, m1, m2, m3⟩ := m_goes (d := d) (G := G1) (by omega) e3 e4 N.2.2.2.2.1 N.2.2.2.2.2 hh c2
      have z32 : zadd 32 h = 32 + h := zadd_eq (by omega) (by omega)
      have t32 : (32 + h).toNat = 32 + h.toNat := by omega
      have g32 : 0 ≤ 32 + h ∧ 32 + h < 43 := by omega
      have f17 : F 17 h.toNat = p (32 + h.toNat) := (N.1.hn hh).2.2.1
      have f171 : F1 17 h.toNat = (q_go ρ p h c).2 (32 + h.toNat) := (e2.hn hh).2.2.1
      refine ⟨if (q_go ρ p h c).1 = 0 then zsub ((q_go ρ p h c).2 (32 + h.toNat)) (p (32 + h.toNat)) else zsub (-10) (q_go ρ p h c).1, F1, G1, F2, G1, g_C_go h c _ ?_, g_M_go h c _ ?_, ρ, _, e6 F2 m2 m3⟩
      · rw [N.pres (by omega), zbI_some, zp_t c1, if_neg (by decide), s_isCell (by omega), zbI_some, zp_t c2, if_neg (by decide), if_pos h2, e1, zbI_some, if_pos h2, f17, f171]
        split <;> rfl
      · rw [m_isThere (by omega) e4, zbI_some, zp_t c1, if_neg (by decide), m_isCell (by omega), zbI_some, zp_t c2, if_neg (by decide), z32, t32, if_pos g32, m1, zbI_some, if_pos g32, m2, e4]
        split <;> rfl
    · refine A.same (v := -5) (g_C_go h c _ ?_) (g_M_go h c _ ?_)
      · rw [N.pres (by omega), zbI_some, zp_t c1, if_neg (by decide), s_isCell (by omega), zbI_some, zp_f c2, if_pos rfl]
      · rw [m_isThere (by omega) N.2.2.2.1, zbI_some, zp_t c1, if_neg (by decide), m_isCell (by omega), zbI_some, zp_f c2, if_pos rfl]
  · refine A.same (v := -5) (g_C_go h c _ ?_) (g_M_go h c _ ?_)
    · rw [N.pres (by omega), zbI_some, zp_f c1, if_pos rfl]
    · rw [m_isThere (by omega) N.2.2.2.1, zbI_some, zp_f c1, if_pos rfl]
theorem a_take (hd : 8 ≤ d) (A : zAll ρ p F G) (h t s : Int) : zStep d 7 90 [zI h, zI t, zI s] F G := by
  obtain ⟨d, rfl⟩ := zds (show 1 ≤ d by omega)
  have N := A.1
  have hn8 := N.2.2.2.2.1.1
  by_cases c1 : 0 ≤ h ∧ h ≤ 1
  · by_cases c2 : 0 ≤ t ∧ t < ρ 71 8
    · by_cases c3 : 0 ≤ s ∧ s ≤ 3
      · have hh : h = 0 ∨ h = 1 := by omega
        have ho : q_aok 1 t s := ⟨by decide, fun q => absurd q (by decide), fun _ => ⟨by omega, by omega⟩, fun q => absurd q (by decide)⟩
        obtain ⟨F1, G1, e1, e2, e3, e4, e5, e6⟩ := A.acts (d := d) (by omega) hh ho
        have hact : q_act ρ p h 1 t s = q_take ρ p h t s := by unfold q_act; rw [if_neg (by decide), if_pos rfl]
        rw [hact] at e1 e2 e6
        obtain ⟨F2, m1, m2, m3⟩ := m_takes (d := d) (G := G1) (by omega) e3 e4 N.2.2.2.2.1 N.2.2.2.2.2 hh (t := t) (s := s) (by omega) (by omega)
        refine ⟨if (q_take ρ p h t s).1 = 0 then 0 else zsub (-10) (q_take ρ p h t s).1, F1, G1, F2, G1, g_C_take h t s _ ?_, g_M_take h t s _ ?_, ρ, _, e6 F2 m2 (fun r r1 _ _ => m3 r r1)⟩
        · rw [s_isHand (by omega), zbI_some, zp_t c1, if_neg (by decide), s_isThing (by omega) N.2.1, zbI_some, zp_t c2, if_neg (by decide), s_isSide (by omega), zbI_some, zp_t c3, if_neg (by decide), e1, zbI_some, s_answerOf (by omega), zbI_some]
        · rw [m_isHand (by omega), zbI_some, zp_t c1, if_neg (by decide), m_isThing (by omega) e3 N.2.2.2.2.1, zbI_some, zp_t c2, if_neg (by decide), m_in (by omega), zbI_some, zp_t c3, if_neg (by decide), m1, zbI_some, m_told (by omega), zbI_some]
      · refine A.same (v := -5) (g_C_take h t s _ ?_) (g_M_take h t s _ ?_)
        · rw [s_isHand (by omega), zbI_some, zp_t c1, if_neg (by decide), s_isThing (by omega) N.2.1, zbI_some, zp_t c2, if_neg (by decide), s_isSide (by omega), zbI_some, zp_f c3, if_pos rfl]
        · rw [m_isHand (by omega), zbI_some, zp_t c1, if_neg (by decide), m_isThing (by omega) N.2.2.1 N.2.2.2.2.1, zbI_some, zp_t c2, if_neg (by decide), m_in (by omega), zbI_some, zp_f c3, if_pos rfl]
    · refine A.same (v := -5) (g_C_take h t s _ ?_) (g_M_take h t s _ ?_)
      · rw [s_isHand (by omega), zbI_some, zp_t c1, if_neg (by decide), s_isThing (by omega) N.2.1, zbI_some, zp_f c2, if_pos rfl]
      · rw [m_isHand (by omega), zbI_some, zp_t c1, if_neg (by decide), m_isThing (by omega) N.2.2.1 N.2.2.2.2.1, zbI_some, zp_f c2, if_pos rfl]
  · refine A.same (v := -5) (g_C_take h t s _ ?_) (g_M_take h t s _ ?_)
    · rw [s_isHand (by omega), zbI_some, zp_f c1, if_pos rfl]
    · rw [m_isHand (by omega), zbI_some, zp_f c1, if_pos rfl]
theorem a_put (hd : 8 ≤ d) (A : zAll ρ p F G) (h : Int) : zStep d 8 91 [zI h] F G := by
  obtain ⟨d, rfl⟩ := zds (show 1 ≤ d by omega)
  have N := A.1
  by_cases c1 : 0 ≤ h ∧ h ≤ 1
  · have hh : h = 0 ∨ h = 1 := by omega
    have ho : q_aok 2 0 0 := ⟨by decide, fun q => absurd q (by decide), fun q => absurd q (by decide), fun q => absurd q (by decide)⟩
    obtain ⟨F1, G1, e1, e2, e3, e4, e5, e6⟩ := A.acts (d := d) (by omega) hh ho
    have hact : q_act ρ p h 2 0 0 = q_put p h := by unfold q_act; rw [if_neg (by decide), if_neg (by decide), if_pos rfl]
    rw [hact] at e1 e2 e6
    obtain ⟨F2, m1, m2, m3⟩ := m_puts (d := d) (G := G1) (by omega) N.2.2.2.2.1 e4 N.2.2.2.2.2 hh
    refine ⟨if (q_put p h).1 = 0 then 0 else zsub (-10) (q_put p h).1, F1, G1, F2, G1, g_C_put h _ ?_, g_M_put h _ ?_, ρ, _, e6 F2 m2 (fun r r1 _ _ => m3 r r1)⟩
    · rw [s_isHand (by omega), zbI_some, zp_t c1, if_neg (by decide), e1, zbI_some, s_answerOf (by omega), zbI_some]
    · rw [m_isHand (by omega), zbI_some, zp_t c1, if_neg (by decide), m1, zbI_some, m_told (by omega), zbI_some]
  · refine A.same (v := -5) (g_C_put h _ ?_) (g_M_put h _ ?_)
    · rw [s_isHand (by omega), zbI_some, zp_f c1, if_pos rfl]
    · rw [m_isHand (by omega), zbI_some, zp_f c1, if_pos rfl]
theorem a_open (hd : 8 ≤ d) (A : zAll ρ p F G) (h e : Int) : zStep d 9 92 [zI h, zI e] F G := by
  obtain ⟨d, rfl⟩ := zds (show 1 ≤ d by omega)
  have N := A.1
  have hD := N.2.2.2.2.1.2.1
  by_cases c1 : 0 ≤ h ∧ h ≤ 1
  · by_cases c2 : 0 ≤ e ∧ e < ρ 71 5
    · have hh : h = 0 ∨ h = 1 := by omega
      have ho : q_aok 3 e 0 := ⟨by decide, fun q => absurd q (by decide), fun q => absurd q (by decide), fun _ => by omega⟩
      obtain ⟨F1, G1, e1, e2, e3, e4, e5, e6⟩ := A.acts (d := d) (by omega) hh ho
      have hact : q_act ρ p h 3 e 0 = q_open ρ p h e := by unfold q_act; rw [if_neg (by decide), if_neg (by decide), if_neg (by decide), if_pos rfl]
      rw [hact] at e1 e2 e6
      obtain ⟨F2, m1, m2, m3⟩ := m_opens (d := d) (G := G1) (by omega) e3 e4 N.2.2.2.2.1 N.2.2.2.2.2 hh (e := e) (by omega)
      refine ⟨if (q_open ρ p h e).1 = 0 then 0 else zsub (-10) (q_open ρ p h e).1, F1, G1, F2, G1, g_C_open h e _ ?_, g_M_open h e _ ?_, ρ, _, e6 F2 m2 (fun r r1 _ _ => m3 r r1)⟩
      · rw [s_isHand (by omega), zbI_some, zp_t c1, if_neg (by decide), s_isDoor (by omega) N.2.1, zbI_some, zp_t c2, if_neg (by decide), e1, zbI_some, s_answerOf (by omega), zbI_some]
      · rw [m_isHand (by omega), zbI_some, zp_t c1, if_neg (by decide), e3.1, zsub_eq (by omega) (by omega), m_in (by omega), zbI_some, zp_t (by omega), if_neg (by decide), m1, zbI_some, m_told (by omega), zbI_some]
    · refine A.same (v := -5) (g_C_open h e _ ?_) (g_M_open h e _ ?_)
      · rw [s_isHand (by omega), zbI_some, zp_t c1, if_neg (by decide), s_isDoor (by omega) N.2.1, zbI_some, zp_f c2, if_pos rfl]
      · rw [m_isHand (by omega), zbI_some, zp_t c1, if_neg (by decide), N.2.2.1.1, zsub_eq (by omega) (by omega), m_in (by omega), zbI_some, zp_f (by omega), if_pos rfl]
  · refine A.same (v := -5) (g_C_open h e _ ?_) (g_M_open h e _ ?_)
    · rw [s_isHand (by omega), zbI_some, zp_f c1, if_pos rfl]
    · rw [m_isHand (by omega), zbI_some, zp_f c1, if_pos rfl]
end
