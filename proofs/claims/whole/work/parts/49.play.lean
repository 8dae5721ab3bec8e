/-! playing a program: both sides alike -/
noncomputable def q_plays (ρ : zM) (h : Int) (A N S : Nat → Int) : Nat → Nat → (Nat → Int) → Int × Int × (Nat → Int)
  | 0, _, p => (-1, 0, p)
  | m + 1, i, p => if (q_act ρ p h (A i) (N i) (S i)).1 = 0 then q_plays ρ h A N S m (i + 1) (q_act ρ p h (A i) (N i) (S i)).2 else (i, (q_act ρ p h (A i) (N i) (S i)).1, (q_act ρ p h (A i) (N i) (S i)).2)
section
variable {d : Nat} {F ρ ρ' : zM} {G : zG} {p p' A N S : Nat → Int} {h : Int}
theorem q_plays_ok (hV : zRv ρ) (hh : h = 0 ∨ h = 1) : ∀ (m i : Nat) (p : Nat → Int), zPv ρ p → zNO ρ p → (∀ j, i ≤ j → j < i + m → q_aok (A j) (N j) (S j)) → zPv ρ (q_plays ρ h A N S m i p).2.2 ∧ zNO ρ (q_plays ρ h A N S m i p).2.2 ∧ (∀ j, 34 ≤ j → (q_plays ρ h A N S m i p).2.2 j = p j) ∧ ((q_plays ρ h A N S m i p).1 = -1 ∧ (q_plays ρ h A N S m i p).2.1 = 0 ∨ 0 ≤ (q_plays ρ h A N S m i p).1 ∧ (q_plays ρ h A N S m i p).2.1 ≠ 0)
  | 0, _, _, hP, hN, _ => ⟨hP, hN, fun _ _ => rfl, Or.inl ⟨rfl, rfl⟩⟩
  | m + 1, i, p, hP, hN, ho => by
    have o := ho i (Nat.le_refl _) (by omega)
    have e1 := pv_act hV hP hh o
    have e2 := pno_act hV hP hN hh o
    have e3 := q_act_keep hV hP hh o
    unfold q_plays
    split
    · have ih := q_plays_ok hV hh m (i + 1) _ e1 e2 (fun j h1 h2 => ho j (by omega) (by omega))
      exact ⟨ih.1, ih.2.1, fun j hj => (ih.2.2.1 j hj).trans (e3 j hj), ih.2.2.2⟩
    · rename_i hne
      exact ⟨e1, e2, e3, Or.inr ⟨by show (0 : Int) ≤ (i : Int); omega, hne⟩⟩
theorem s_plays (hd : 5 ≤ d) (hV : zRv ρ) (hh : h = 0 ∨ h = 1) {k : Nat} (hk : k < 6) : ∀ (m i : Nat) (p : Nat → Int) (F : zM) (G : zG), zSC 22 p F → zCR ρ F G → zPv ρ p → zNO ρ p → i + m ≤ 12 → F 48 k = (i + m : Nat) → F 52 3 = -1 → (∀ j, i ≤ j → j < i + m → q_aok (A j) (N j) (S j) ∧ F 49 (12 * k + j) = A j ∧ F 50 (12 * k + j) = N j ∧ F 51 (12 * k + j) = S j) →
    ∃ F' G', zev zX0 d (143, 8, [zR 52, zR 22, zI h, zI k, zI i, zR 0, zR 0], [], F, G, zsg) = some (some (zI (q_plays ρ h A N S m i p).2.1), F', G', zsg) ∧ zSC 22 (q_plays ρ h A N S m i p).2.2 F' ∧ F' 52 3 = (q_plays ρ h A N S m i p).1 ∧ (∀ r, r ≠ 44 → r ≠ 52 → (r < 22 ∨ 32 < r) → F' r = F r) ∧ (∀ r, r ≠ 44 → r ≠ 45 → G' r = G r) := by
  have g6 : 0 ≤ (k : Int) ∧ (k : Int) < 6 := by omega
  intro m
  induction m with
  | zero =>
    intro i p F G hS hC hP hN him hlen h52 ho
    refine ⟨F, G, g_Acts_playAll_8 h k i _ ?_, hS, h52, fun _ _ _ _ => rfl, fun _ _ _ => rfl⟩
    rw [if_pos g6, Int.toNat_natCast, hlen, if_neg (by omega)]
    rfl
  | succ m ih =>
    intro i p F G hS hC hP hN him hlen h52 ho
    obtain ⟨o, o1, o2, o3⟩ := ho i (Nat.le_refl _) (by omega)
    obtain ⟨F1, G1, e1, e2, e3, e4⟩ := s_attempt_22 (d := d) hd hS hC hV hP hh o
    have e3 : ∀ r, r ≠ 44 → (r < 22 ∨ 32 < r) → F1 r = F r := e3
    have g72 : 0 ≤ ((12 * k + i : Nat) : Int) ∧ ((12 * k + i : Nat) : Int) < 72 := by omega
    have hin : (i : Int) < ((i + (m + 1) : Nat) : Int) := by omega
    have pre : ∀ r : zQ, ((if (q_act ρ p h (A i) (N i) (S i)).1 = 0 then zev zX0 d (143, 8, [zR 52, zR 22, zI h, zI k, zI ((i + 1 : Nat) : Int), zR 0, zR 0], [], F1, G1, zsg) else some (some (zI (q_act ρ p h (A i) (N i) (S i)).1), zup F1 52 3 i, G1, zsg)) = some r) → zev zX0 d (143, 8, [zR 52, zR 22, zI h, zI k, zI i, zR 0, zR 0], [], F, G, zsg) = some r := by
      intro r hr
      refine g_Acts_playAll_8 h k i _ ?_
      rw [if_pos g6, Int.toNat_natCast, hlen, if_pos hin, s_placeOf (by omega) hk (by omega), zbI_some, if_pos g72, if_pos g72, if_pos g72, Int.toNat_natCast, o1, o2, o3, e1, zbI_some, zadd_eq (by omega) (by omega), ← zcast1]
      exact hr
    by_cases c : (q_act ρ p h (A i) (N i) (S i)).1 = 0
    · obtain ⟨F2, G2, f1, f2, f3, f4, f5⟩ := ih (i + 1) _ F1 G1 e2 (hC.fr (e3 6 (by decide) (by decide)) (e3 7 (by decide) (by decide)) (e3 8 (by decide) (by decide)) (e3 9 (by decide) (by decide)) (e3 10 (by decide) (by decide)) (e4 6 (by decide) (by decide))) (pv_act hV hP hh o) (pno_act hV hP hN hh o) (by omega) (by rw [e3 48 (by decide) (by decide), hlen]; omega) (by rw [e3 52 (by decide) (by decide)]; exact h52) (fun j h1 h2 => by rw [e3 49 (by decide) (by decide), e3 50 (by decide) (by decide), e3 51 (by decide) (by decide)]; exact ho j (by omega) (by omega))
      have hq : q_plays ρ h A N S (m + 1) i p = q_plays ρ h A N S m (i + 1) (q_act ρ p h (A i) (N i) (S i)).2 := by
        rw [q_plays, if_pos c]
      rw [hq]
      refine ⟨F2, G2, pre _ ?_, f2, f3, fun r r1 r2 r3 => by rw [f4 r r1 r2 r3, e3 r r1 r3], fun r r1 r2 => by rw [f5 r r1 r2, e4 r r1 r2]⟩
      rw [if_pos c]
      exact f1
    · have hq : q_plays ρ h A N S (m + 1) i p = ((i : Int), (q_act ρ p h (A i) (N i) (S i)).1, (q_act ρ p h (A i) (N i) (S i)).2) := by
        rw [q_plays, if_neg c]
      rw [hq]
      refine ⟨zup F1 52 3 i, G1, pre _ ?_, e2.fr (fun j hj => zup_row (by omega)), zup_eq, fun r r1 r2 r3 => by rw [zup_row r2, e3 r r1 r3], e4⟩
      rw [if_neg c]
theorem m_plays (hd : 7 ≤ d) (hV : zRv ρ) (hh : h = 0 ∨ h = 1) {k : Nat} (hk : k < 6) : ∀ (m i : Nat) (p : Nat → Int) (F : zM), F 72 = p → zMR ρ F → zPv ρ p → zNO ρ p → i + m ≤ 12 → F 80 k = (i + m : Nat) → (∀ j, i ≤ j → j < i + m → q_aok (A j) (N j) (S j) ∧ F 81 (12 * k + j) = A j ∧ F 82 (12 * k + j) = N j ∧ F 83 (12 * k + j) = S j) →
    ∃ F', zev zX0 d (106, 2, [zR 71, zI h, zI k, zI i], [], F, G, zsg) = some (some (zI (q_plays ρ h A N S m i p).1), F', G, zsg) ∧ F' 72 = (q_plays ρ h A N S m i p).2.2 ∧ ((q_plays ρ h A N S m i p).1 ≠ -1 → F' 71 43 = (q_plays ρ h A N S m i p).2.1) ∧ (∀ r, r ≠ 71 → r ≠ 72 → r ≠ 99 → r ≠ 100 → F' r = F r) ∧ (∀ j, j ≠ 43 → F' 71 j = F 71 j) := by
  have g6 : 0 ≤ (k : Int) ∧ (k : Int) < 6 := by omega
  intro m
  induction m with
  | zero =>
    intro i p F hp hR hP hN him hlen ho
    refine ⟨F, g_M_plays_2 h k i _ ?_, hp, fun q => absurd rfl q, fun _ _ _ _ _ => rfl, fun _ _ => rfl⟩
    rw [if_pos g6, Int.toNat_natCast, hlen, if_neg (by omega)]
    rfl
  | succ m ih =>
    intro i p F hp hR hP hN him hlen ho
    obtain ⟨o, o1, o2, o3⟩ := ho i (Nat.le_refl _) (by omega)
    have g72 : 0 ≤ ((12 * k + i : Nat) : Int) ∧ ((12 * k + i : Nat) : Int) < 72 := by omega
    have o' : q_aok (F 81 ((12 * k + i : Nat) : Int).toNat) (F 82 ((12 * k + i : Nat) : Int).toNat) (F 83 ((12 * k + i : Nat) : Int).toNat) := by
      rw [Int.toNat_natCast, o1, o2, o3]
      exact o
    obtain ⟨F1, e1, e2, e3⟩ := m_does (d := d) (G := G) hd hR hp hV hP hh g72 o'
    rw [Int.toNat_natCast, o1, o2, o3] at e1 e2
    have hin : (i : Int) < ((i + (m + 1) : Nat) : Int) := by omega
    have hx : zadd (zmul 12 (k : Int)) i = ((12 * k + i : Nat) : Int) := by rw [zmul_eq (by omega) (by omega), zadd_eq (by omega) (by omega)]; omega
    have pre : ∀ r : zQ, ((if (q_act ρ p h (A i) (N i) (S i)).1 = 0 then zev zX0 d (106, 2, [zR 71, zI h, zI k, zI ((i + 1 : Nat) : Int)], [], zup F1 71 43 (q_act ρ p h (A i) (N i) (S i)).1, G, zsg) else some (some (zI i), zup F1 71 43 (q_act ρ p h (A i) (N i) (S i)).1, G, zsg)) = some r) → zev zX0 d (106, 2, [zR 71, zI h, zI k, zI i], [], F, G, zsg) = some r := by
      intro r hr
      refine g_M_plays_2 h k i _ ?_
      rw [if_pos g6, Int.toNat_natCast, hlen, if_pos hin, hx, e1, zbI_some, zadd_eq (by omega) (by omega), ← zcast1]
      exact hr
    generalize hw : (q_act ρ p h (A i) (N i) (S i)).1 = w at pre
    have hF : ∀ r, r ≠ 71 → r ≠ 72 → r ≠ 99 → r ≠ 100 → zup F1 71 43 w r = F r := fun r r1 r2 r3 r4 => by rw [zup_row r1, e3 r r2 r3 r4]
    have h71 : ∀ j, j ≠ 43 → zup F1 71 43 w 71 j = F 71 j := fun j hj => by rw [zup_col hj, e3 71 (by decide) (by decide) (by decide)]
    by_cases c : w = 0
    · obtain ⟨F2, f1, f2, f3, f4, f5⟩ := ih (i + 1) _ (zup F1 71 43 w) (by rw [zup_row (by decide)]; exact e2) (hR.fr2 (h71 5 (by decide)) (h71 8 (by decide)) (h71 11 (by decide)) (hF 75 (by decide) (by decide) (by decide) (by decide)) (hF 76 (by decide) (by decide) (by decide) (by decide)) (hF 77 (by decide) (by decide) (by decide) (by decide)) (hF 78 (by decide) (by decide) (by decide) (by decide)) (hF 79 (by decide) (by decide) (by decide) (by decide))) (pv_act hV hP hh o) (pno_act hV hP hN hh o) (by omega) (by rw [hF 80 (by decide) (by decide) (by decide) (by decide), hlen]; omega) (fun j h1 h2 => by rw [hF 81 (by decide) (by decide) (by decide) (by decide), hF 82 (by decide) (by decide) (by decide) (by decide), hF 83 (by decide) (by decide) (by decide) (by decide)]; exact ho j (by omega) (by omega))
      have hq : q_plays ρ h A N S (m + 1) i p = q_plays ρ h A N S m (i + 1) (q_act ρ p h (A i) (N i) (S i)).2 := by
        rw [q_plays, if_pos (hw.trans c)]
      rw [hq]
      refine ⟨F2, pre _ ?_, f2, f3, fun r r1 r2 r3 r4 => by rw [f4 r r1 r2 r3 r4, hF r r1 r2 r3 r4], fun j hj => by rw [f5 j hj, h71 j hj]⟩
      rw [if_pos c]
      exact f1
    · have hq : q_plays ρ h A N S (m + 1) i p = ((i : Int), w, (q_act ρ p h (A i) (N i) (S i)).2) := by
        rw [q_plays, if_neg (by rw [hw]; exact c), hw]
      rw [hq]
      refine ⟨zup F1 71 43 w, pre _ ?_, by rw [zup_row (by decide)]; exact e2, fun _ => zup_eq, hF, h71⟩
      rw [if_neg c]
theorem m_lays0 (hd : 1 ≤ d) : ∃ F', zex d 107 [zR 71, zI 0] (F, G, zsg) = some (none, F', G, zsg) ∧ (∀ r, r ≠ 73 → F' r = F r) ∧ ∀ j, j < 43 → F' 73 j = F 72 j := by
  obtain ⟨d, rfl⟩ := zds hd
  have loop : ∀ (m k : Nat) (F1 : zM), k + m = 43 → (∀ r, r ≠ 73 → F1 r = F r) → (∀ j, j < k → F1 73 j = F 72 j) → ∃ F', zev zX0 d (107, 2, [zR 71, zI 0, zI k], [], F1, G, zsg) = some (none, F', G, zsg) ∧ (∀ r, r ≠ 73 → F' r = F r) ∧ ∀ j, j < 43 → F' 73 j = F 72 j := by
    intro m
    induction m with
    | zero =>
      intro k F1 hk h1 h2
      refine ⟨F1, g_M_lays_2 0 k _ ?_, h1, fun j hj => h2 j (by omega)⟩
      rw [if_neg (by omega)]
    | succ m ih =>
      intro k F1 hk h1 h2
      obtain ⟨F', e1, e2, e3⟩ := ih (k + 1) (zup F1 73 k (F 72 k)) (by omega) (fun r hr => by rw [zup_row hr, h1 r hr]) (fun j hj => by
        by_cases hjk : j = k
        · rw [hjk, zup_eq]
        · rw [zup_col hjk]; exact h2 j (by omega))
      refine ⟨F', g_M_lays_2 0 k _ ?_, e2, e3⟩
      have g43 : 0 ≤ (k : Int) ∧ (k : Int) < 43 := by omega
      rw [if_pos g43.2, if_pos rfl, if_pos g43, if_pos g43, h1 72 (by decide), Int.toNat_natCast, zadd_eq (by omega) (by omega), ← zcast1]
      exact e1
  obtain ⟨F', e1, e2, e3⟩ := loop 43 0 F (by omega) (fun _ _ => rfl) (fun j hj => by omega)
  exact ⟨F', g_M_lays 0 _ e1, e2, e3⟩
theorem m_lays1 (hd : 1 ≤ d) : ∃ F', zex d 107 [zR 71, zI 1] (F, G, zsg) = some (none, F', G, zsg) ∧ (∀ r, r ≠ 72 → F' r = F r) ∧ ∀ j, F' 72 j = if j < 43 then F 73 j else F 72 j := by
  obtain ⟨d, rfl⟩ := zds hd
  have loop : ∀ (m k : Nat) (F1 : zM), k + m = 43 → (∀ r, r ≠ 72 → F1 r = F r) → (∀ j, F1 72 j = if j < k then F 73 j else F 72 j) → ∃ F', zev zX0 d (107, 2, [zR 71, zI 1, zI k], [], F1, G, zsg) = some (none, F', G, zsg) ∧ (∀ r, r ≠ 72 → F' r = F r) ∧ ∀ j, F' 72 j = if j < 43 then F 73 j else F 72 j := by
    intro m
    induction m with
    | zero =>
      intro k F1 hk h1 h2
      refine ⟨F1, g_M_lays_2 1 k _ ?_, h1, fun j => by rw [h2 j, show k = 43 by omega]⟩
      rw [if_neg (by omega)]
    | succ m ih =>
      intro k F1 hk h1 h2
      obtain ⟨F', e1, e2, e3⟩ := ih (k + 1) (zup F1 72 k (F 73 k)) (by omega) (fun r hr => by rw [zup_row hr, h1 r hr]) (fun j => by
        by_cases hjk : j = k
        · rw [hjk, zup_eq, if_pos (by omega)]
        · rw [zup_col hjk, h2 j]
          by_cases hj : j < k
          · rw [if_pos hj, if_pos (by omega)]
          · rw [if_neg hj, if_neg (by omega)])
      refine ⟨F', g_M_lays_2 1 k _ ?_, e2, e3⟩
      have g43 : 0 ≤ (k : Int) ∧ (k : Int) < 43 := by omega
      rw [if_pos g43.2, if_neg (by decide), if_pos g43, if_pos g43, h1 73 (by decide), Int.toNat_natCast, zadd_eq (by omega) (by omega), ← zcast1]
      exact e1
  obtain ⟨F', e1, e2, e3⟩ := loop 43 0 F (by omega) (fun _ _ => rfl) (fun j => by rw [if_neg (by omega)])
  exact ⟨F', g_M_lays 1 _ e1, e2, e3⟩
end
