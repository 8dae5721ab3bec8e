/-! reading an act: both sides alike (printed by wip/tpl/gen44.py) -/
def zFr1 (X : Nat) (F F' : zM) : Prop := (∀ j, j ≠ 7 → j ≠ 8 → F' 46 j = F 46 j) ∧ (∀ r, r ≠ 46 → r ≠ 49 → r ≠ 50 → r ≠ 51 → F' r = F r) ∧ (∀ j, j ≠ X → F' 49 j = F 49 j ∧ F' 50 j = F 50 j ∧ F' 51 j = F 51 j)
def zFr2 (X : Nat) (F F' : zM) : Prop := (∀ j, j ≠ 42 → F' 71 j = F 71 j) ∧ (∀ r, r ≠ 71 → r ≠ 81 → r ≠ 82 → r ≠ 83 → F' r = F r) ∧ (∀ j, j ≠ X → F' 81 j = F 81 j ∧ F' 82 j = F 82 j ∧ F' 83 j = F 83 j)
theorem zup_ne {F : zM} {k j a b : Nat} {v : Int} (h : ¬ (a = k ∧ b = j)) : zup F k j v a b = F a b := if_neg h
section
variable {X : Nat} {F F' F'' : zM}
theorem zFr1.rfl : zFr1 X F F := ⟨fun _ _ _ => Eq.refl _, fun _ _ _ _ _ => Eq.refl _, fun _ _ => ⟨Eq.refl _, Eq.refl _, Eq.refl _⟩⟩
theorem zFr2.rfl : zFr2 X F F := ⟨fun _ _ => Eq.refl _, fun _ _ _ _ _ => Eq.refl _, fun _ _ => ⟨Eq.refl _, Eq.refl _, Eq.refl _⟩⟩
theorem zFr1.u (h : zFr1 X F F') {i j : Nat} {v : Int} (hi : (i = 46 ∧ (j = 7 ∨ j = 8)) ∨ ((i = 49 ∨ i = 50 ∨ i = 51) ∧ j = X)) : zFr1 X F (zup F' i j v) := by
  refine ⟨fun b h7 h8 => ?_, fun r r1 r2 r3 r4 => ?_, fun b hb => ⟨?_, ?_, ?_⟩⟩
  · rw [zup_ne (by omega)]; exact h.1 b h7 h8
  · rw [zup_row (by omega)]; exact h.2.1 r r1 r2 r3 r4
  · rw [zup_ne (by omega)]; exact (h.2.2 b hb).1
  · rw [zup_ne (by omega)]; exact (h.2.2 b hb).2.1
  · rw [zup_ne (by omega)]; exact (h.2.2 b hb).2.2
theorem zFr2.u (h : zFr2 X F F') {i j : Nat} {v : Int} (hi : (i = 71 ∧ j = 42) ∨ ((i = 81 ∨ i = 82 ∨ i = 83) ∧ j = X)) : zFr2 X F (zup F' i j v) := by
  refine ⟨fun b h7 => ?_, fun r r1 r2 r3 r4 => ?_, fun b hb => ⟨?_, ?_, ?_⟩⟩
  · rw [zup_ne (by omega)]; exact h.1 b h7
  · rw [zup_row (by omega)]; exact h.2.1 r r1 r2 r3 r4
  · rw [zup_ne (by omega)]; exact (h.2.2 b hb).1
  · rw [zup_ne (by omega)]; exact (h.2.2 b hb).2.1
  · rw [zup_ne (by omega)]; exact (h.2.2 b hb).2.2
theorem zFr1.n (h : zFr1 X F F') (h1 : ∀ j, j ≠ 7 → j ≠ 8 → F'' 46 j = F' 46 j) (h2 : ∀ r, r ≠ 46 → F'' r = F' r) : zFr1 X F F'' := by
  refine ⟨fun b h7 h8 => by rw [h1 b h7 h8]; exact h.1 b h7 h8, fun r r1 r2 r3 r4 => by rw [h2 r r1]; exact h.2.1 r r1 r2 r3 r4, fun b hb => ?_⟩
  rw [h2 49 (by decide), h2 50 (by decide), h2 51 (by decide)]
  exact h.2.2 b hb
theorem zFr2.n (h : zFr2 X F F') (h1 : ∀ j, j ≠ 42 → F'' 71 j = F' 71 j) (h2 : ∀ r, r ≠ 71 → F'' r = F' r) : zFr2 X F F'' := by
  refine ⟨fun b h7 => by rw [h1 b h7]; exact h.1 b h7, fun r r1 r2 r3 r4 => by rw [h2 r r1]; exact h.2.1 r r1 r2 r3 r4, fun b hb => ?_⟩
  rw [h2 81 (by decide), h2 82 (by decide), h2 83 (by decide)]
  exact h.2.2 b hb
end
def zRd1 (B : Nat → Int) (n a x ok a' k m s : Int) : Prop := ∀ (d : Nat) (F : zM) (G : zG), 3 ≤ d → F 46 1 = n → F 46 7 = a → F 47 = B → ∃ F', zex d 219 [zR 46, zI x] (F, G, zsg) = some (some (zI ok), F', G, zsg) ∧ F' 46 7 = a' ∧ zFr1 x.toNat F F' ∧ (ok = 1 → F' 49 x.toNat = k ∧ F' 50 x.toNat = m ∧ F' 51 x.toNat = s)
def zRd2 (B : Nat → Int) (n a x ok a' k m s : Int) : Prop := ∀ (d : Nat) (F : zM) (G : zG), 3 ≤ d → F 71 18 = n → F 71 42 = a → F 84 = B → ∃ F', zex d 101 [zR 71, zI x] (F, G, zsg) = some (some (zI ok), F', G, zsg) ∧ F' 71 42 = a' ∧ zFr2 x.toNat F F' ∧ (ok = 1 → F' 81 x.toNat = k ∧ F' 82 x.toNat = m ∧ F' 83 x.toNat = s)
section
variable {d : Nat} {F : zM} {G : zG} {B : Nat → Int} {n a : Int}
theorem s_actOf (hd : 1 ≤ d) {v : Int} : zex d 223 [zI v] (F, G, zsg) = some (some (zI (if v = 103 then 0 else if v = 111 then 3 else if v = 112 then 2 else if v = 116 then 1 else if v = 119 then 4 else -1)), F, G, zsg) := by
  obtain ⟨d, rfl⟩ := zds hd
  refine g_Tape_actOf v _ ?_
  repeat' split
  all_goals rfl
theorem s_sideOf (hd : 1 ≤ d) {v : Int} : zex d 224 [zI v] (F, G, zsg) = some (some (zI (if v = 101 then 1 else if v = 110 then 0 else if v = 115 then 2 else if v = 119 then 3 else -1)), F, G, zsg) := by
  obtain ⟨d, rfl⟩ := zds hd
  refine g_Tape_sideOf v _ ?_
  repeat' split
  all_goals rfl
theorem s_mostOf (hd : 1 ≤ d) {v : Int} : zex d 225 [zI v] (F, G, zsg) = some (some (zI (if v = 0 then 63 else if v = 1 then 7 else if v = 2 then 99 else if v = 3 then 3 else 99)), F, G, zsg) := by
  obtain ⟨d, rfl⟩ := zds hd
  refine g_Tape_mostOf v _ ?_
  repeat' split
  all_goals rfl
theorem m_numbered {F1 : zM} {X : Nat} {w s a1 : Int} (e1 : F1 71 18 = n) (e2 : F1 71 42 = a1) (e3 : F1 84 = B) : zup (zup F1 82 X w) 83 X s 71 18 = n ∧ zup (zup F1 82 X w) 83 X s 71 42 = a1 ∧ zup (zup F1 82 X w) 83 X s 84 = B :=
  ⟨by rw [zup_row (by decide), zup_row (by decide)]; exact e1, by rw [zup_row (by decide), zup_row (by decide)]; exact e2, by rw [zup_row (by decide), zup_row (by decide)]; exact e3⟩
/-- a class heap past an act's letter, and the number after it -/
theorem s_lettered {x : Int} (h : F 46 1 = n) (hB : F 47 = B) : zup (zup F 46 7 (a + 1)) 46 8 0 46 1 = n ∧ zup (zup F 46 7 (a + 1)) 46 8 0 46 7 = a + 1 ∧ zup (zup F 46 7 (a + 1)) 46 8 0 46 8 = 0 ∧ zup (zup F 46 7 (a + 1)) 46 8 0 47 = B ∧ zFr1 x.toNat F (zup (zup F 46 7 (a + 1)) 46 8 0) :=
  ⟨by rw [zup_col (by decide), zup_col (by decide)]; exact h, by rw [zup_col (by decide), zup_eq], zup_eq, by rw [zup_row (by decide), zup_row (by decide)]; exact hB, (zFr1.rfl.u (Or.inl ⟨rfl, Or.inl rfl⟩)).u (Or.inl ⟨rfl, Or.inr rfl⟩)⟩
theorem m_lettered {x k : Int} (h : F 71 18 = n) (hB : F 84 = B) : zup (zup F 71 42 (a + 1)) 81 x.toNat k 71 18 = n ∧ zup (zup F 71 42 (a + 1)) 81 x.toNat k 71 42 = a + 1 ∧ zup (zup F 71 42 (a + 1)) 81 x.toNat k 81 x.toNat = k ∧ zup (zup F 71 42 (a + 1)) 81 x.toNat k 84 = B ∧ zFr2 x.toNat F (zup (zup F 71 42 (a + 1)) 81 x.toNat k) :=
  ⟨by rw [zup_row (by decide), zup_col (by decide)]; exact h, by rw [zup_row (by decide), zup_eq], zup_eq, by rw [zup_row (by decide), zup_row (by decide)]; exact hB, (zFr2.rfl.u (Or.inl ⟨rfl, rfl⟩)).u (Or.inr ⟨Or.inl rfl, rfl⟩)⟩
theorem a_act_go (hn : n ≤ 120) (ha : 0 ≤ a ∧ a ≤ n) {x : Int} (g72 : 0 ≤ x ∧ x < 72) (h0 : q_hr B n a = 103) : ∃ ok a' k m s, (a ≤ a' ∧ a' ≤ n) ∧ (ok = 0 ∨ ok = 1 ∧ q_aok k m s) ∧ zRd1 B n a x ok a' k m s ∧ zRd2 B n a x ok a' k m s := by
  have in1 : a < n := q_hr_in (B := B) (by rw [h0]; decide)
  obtain ⟨ok, v, w, a1, g1, g2, N1, N2⟩ := a_number (B := B) (n := n) (a := a + 1) hn (by omega) (mx := 63) (by decide)
  have fail : ok = 0 → ∃ ok a' k m s, (a ≤ a' ∧ a' ≤ n) ∧ (ok = 0 ∨ ok = 1 ∧ q_aok k m s) ∧ zRd1 B n a x ok a' k m s ∧ zRd2 B n a x ok a' k m s := by
    intro hok
    subst hok
    refine ⟨0, a1, 0, 0, 0, by omega, Or.inl rfl, fun d F G hd h1 h2 h3 => ?_, fun d F G hd h1 h2 h3 => ?_⟩
    · obtain ⟨d, rfl⟩ := zds (show 1 ≤ d by omega)
      obtain ⟨l1, l2, l3, l4, l5⟩ := s_lettered (a := a) (x := x) h1 h3
      obtain ⟨F1, f1, f2, f3, f4, f5⟩ := N1 d _ G (by omega) l1 l2 l4
      refine ⟨F1, g_Tape_readAct x _ ?_, f2, l5.n f3 f4, fun q => absurd q (by decide)⟩
      rw [s_here (by omega) hn ha.1 h1 h2 h3, zbI_some, s_actOf (by omega), zbI_some, h0, show (if ((103 : Int) = 103) then (0 : Int) else if ((103 : Int) = 111) then 3 else if ((103 : Int) = 112) then 2 else if ((103 : Int) = 116) then 1 else if ((103 : Int) = 119) then 4 else -1) = 0 by decide, if_neg (by decide), if_neg (by decide), h2, zadd_eq (by omega) (by omega), s_mostOf (by omega), zbI_some, show (if ((0 : Int) = 0) then (63 : Int) else if ((0 : Int) = 1) then 7 else if ((0 : Int) = 2) then 99 else if ((0 : Int) = 3) then 3 else 99) = 63 by decide, f1, zbI_some, if_pos rfl]
    · obtain ⟨d, rfl⟩ := zds (show 1 ≤ d by omega)
      obtain ⟨l1, l2, l3, l4, l5⟩ := m_lettered (a := a) (x := x) (k := 0) h1 h3
      obtain ⟨F1, f1, f2, f3, f4⟩ := N2 d _ G (by omega) l1 l2 l4
      refine ⟨zup (zup F1 82 x.toNat w) 83 x.toNat 0, g_M_reads x _ ?_, by rw [zup_row (by decide), zup_row (by decide)]; exact f2, ((l5.n f3 f4).u (Or.inr ⟨Or.inr (Or.inl rfl), rfl⟩)).u (Or.inr ⟨Or.inr (Or.inr rfl), rfl⟩), fun q => absurd q (by decide)⟩
      rw [m_here (by omega) hn ha.1 h1 h2 h3, zbI_some, h0, if_pos rfl, if_pos g72, h2, zadd_eq (by omega) (by omega), f1, zbI_some, if_pos g72, if_pos g72, if_pos g72, zup_eq]
      by_cases hw : w = -1
      · rw [if_pos hw]
      · have hdig : 48 ≤ q_hr B n a1 ∧ q_hr B n a1 ≤ 57 := by omega
        rw [if_neg hw, m_here (by omega) hn (by omega) (m_numbered ((f3 18 (by decide)).trans l1) f2 ((f4 84 (by decide)).trans l4)).1 (m_numbered ((f3 18 (by decide)).trans l1) f2 ((f4 84 (by decide)).trans l4)).2.1 (m_numbered ((f3 18 (by decide)).trans l1) f2 ((f4 84 (by decide)).trans l4)).2.2, zbI_some, if_neg (by omega)]
  rcases g2 with g2 | g2
  · exact fail g2.1
  · obtain ⟨rfl, rfl, hv⟩ := g2
    by_cases c : q_hr B n a1 = 59
    · have in2 : a1 < n := q_hr_in (B := B) (by rw [c]; decide)
      refine ⟨1, a1 + 1, 0, w, 0, by omega, Or.inr ⟨rfl, ⟨by omega, fun _ => by omega, fun q => absurd q (by decide), fun q => absurd q (by decide)⟩⟩, fun d F G hd h1 h2 h3 => ?_, fun d F G hd h1 h2 h3 => ?_⟩
      · obtain ⟨d, rfl⟩ := zds (show 1 ≤ d by omega)
        obtain ⟨l1, l2, l3, l4, l5⟩ := s_lettered (a := a) (x := x) h1 h3
        obtain ⟨F1, f1, f2, f3, f4, f5⟩ := N1 d _ G (by omega) l1 l2 l4
        refine ⟨zup (zup (zup (zup F1 46 7 (a1 + 1)) 49 x.toNat 0) 50 x.toNat w) 51 x.toNat 0, g_Tape_readAct x _ ?_, by rw [zup_row (by decide), zup_row (by decide), zup_row (by decide), zup_eq], ((((l5.n f3 f4).u (Or.inl ⟨rfl, Or.inl rfl⟩)).u (Or.inr ⟨Or.inl rfl, rfl⟩)).u (Or.inr ⟨Or.inr (Or.inl rfl), rfl⟩)).u (Or.inr ⟨Or.inr (Or.inr rfl), rfl⟩), fun _ => ⟨by rw [zup_row (by decide), zup_row (by decide), zup_eq], by rw [zup_row (by decide), zup_eq], zup_eq⟩⟩
        rw [s_here (by omega) hn ha.1 h1 h2 h3, zbI_some, s_actOf (by omega), zbI_some, h0, show (if ((103 : Int) = 103) then (0 : Int) else if ((103 : Int) = 111) then 3 else if ((103 : Int) = 112) then 2 else if ((103 : Int) = 116) then 1 else if ((103 : Int) = 119) then 4 else -1) = 0 by decide, if_neg (by decide), if_neg (by decide), h2, zadd_eq (by omega) (by omega), s_mostOf (by omega), zbI_some, show (if ((0 : Int) = 0) then (63 : Int) else if ((0 : Int) = 1) then 7 else if ((0 : Int) = 2) then 99 else if ((0 : Int) = 3) then 3 else 99) = 63 by decide, f1, zbI_some, if_neg (by decide), if_neg (by decide), s_here (by omega) hn (by omega) ((f3 1 (by decide) (by decide)).trans l1) f2 ((f4 47 (by decide)).trans l4), zbI_some, if_pos c, if_pos g72, if_pos g72, if_pos g72, f2, zadd_eq (by omega) (by omega), f5 rfl]
      · obtain ⟨d, rfl⟩ := zds (show 1 ≤ d by omega)
        obtain ⟨l1, l2, l3, l4, l5⟩ := m_lettered (a := a) (x := x) (k := 0) h1 h3
        obtain ⟨F1, f1, f2, f3, f4⟩ := N2 d _ G (by omega) l1 l2 l4
        refine ⟨zup (zup (zup F1 82 x.toNat w) 83 x.toNat 0) 71 42 (a1 + 1), g_M_reads x _ ?_, zup_eq, (((l5.n f3 f4).u (Or.inr ⟨Or.inr (Or.inl rfl), rfl⟩)).u (Or.inr ⟨Or.inr (Or.inr rfl), rfl⟩)).u (Or.inl ⟨rfl, rfl⟩), fun _ => ⟨by rw [zup_row (by decide), zup_row (by decide), zup_row (by decide), f4 81 (by decide)]; exact l3, by rw [zup_row (by decide), zup_row (by decide), zup_eq], by rw [zup_row (by decide), zup_eq]⟩⟩
        rw [m_here (by omega) hn ha.1 h1 h2 h3, zbI_some, h0, if_pos rfl, if_pos g72, h2, zadd_eq (by omega) (by omega), f1, zbI_some, if_pos g72, if_pos g72, if_pos g72, zup_eq, if_neg (by omega), m_here (by omega) hn (by omega) (m_numbered ((f3 18 (by decide)).trans l1) f2 ((f4 84 (by decide)).trans l4)).1 (m_numbered ((f3 18 (by decide)).trans l1) f2 ((f4 84 (by decide)).trans l4)).2.1 (m_numbered ((f3 18 (by decide)).trans l1) f2 ((f4 84 (by decide)).trans l4)).2.2, zbI_some, if_pos c, show zup (zup F1 82 x.toNat w) 83 x.toNat 0 71 42 = a1 by rw [zup_row (by decide), zup_row (by decide)]; exact f2]
        rw [zadd_eq (by omega) (by omega)]
    · refine ⟨0, a1, 0, 0, 0, by omega, Or.inl rfl, fun d F G hd h1 h2 h3 => ?_, fun d F G hd h1 h2 h3 => ?_⟩
      · obtain ⟨d, rfl⟩ := zds (show 1 ≤ d by omega)
        obtain ⟨l1, l2, l3, l4, l5⟩ := s_lettered (a := a) (x := x) h1 h3
        obtain ⟨F1, f1, f2, f3, f4, f5⟩ := N1 d _ G (by omega) l1 l2 l4
        refine ⟨F1, g_Tape_readAct x _ ?_, f2, l5.n f3 f4, fun q => absurd q (by decide)⟩
        rw [s_here (by omega) hn ha.1 h1 h2 h3, zbI_some, s_actOf (by omega), zbI_some, h0, show (if ((103 : Int) = 103) then (0 : Int) else if ((103 : Int) = 111) then 3 else if ((103 : Int) = 112) then 2 else if ((103 : Int) = 116) then 1 else if ((103 : Int) = 119) then 4 else -1) = 0 by decide, if_neg (by decide), if_neg (by decide), h2, zadd_eq (by omega) (by omega), s_mostOf (by omega), zbI_some, show (if ((0 : Int) = 0) then (63 : Int) else if ((0 : Int) = 1) then 7 else if ((0 : Int) = 2) then 99 else if ((0 : Int) = 3) then 3 else 99) = 63 by decide, f1, zbI_some, if_neg (by decide), if_neg (by decide), s_here (by omega) hn (by omega) ((f3 1 (by decide) (by decide)).trans l1) f2 ((f4 47 (by decide)).trans l4), zbI_some, if_neg c]
      · obtain ⟨d, rfl⟩ := zds (show 1 ≤ d by omega)
        obtain ⟨l1, l2, l3, l4, l5⟩ := m_lettered (a := a) (x := x) (k := 0) h1 h3
        obtain ⟨F1, f1, f2, f3, f4⟩ := N2 d _ G (by omega) l1 l2 l4
        refine ⟨zup (zup F1 82 x.toNat w) 83 x.toNat 0, g_M_reads x _ ?_, by rw [zup_row (by decide), zup_row (by decide)]; exact f2, ((l5.n f3 f4).u (Or.inr ⟨Or.inr (Or.inl rfl), rfl⟩)).u (Or.inr ⟨Or.inr (Or.inr rfl), rfl⟩), fun q => absurd q (by decide)⟩
        rw [m_here (by omega) hn ha.1 h1 h2 h3, zbI_some, h0, if_pos rfl, if_pos g72, h2, zadd_eq (by omega) (by omega), f1, zbI_some, if_pos g72, if_pos g72, if_pos g72, zup_eq, if_neg (by omega), m_here (by omega) hn (by omega) (m_numbered ((f3 18 (by decide)).trans l1) f2 ((f4 84 (by decide)).trans l4)).1 (m_numbered ((f3 18 (by decide)).trans l1) f2 ((f4 84 (by decide)).trans l4)).2.1 (m_numbered ((f3 18 (by decide)).trans l1) f2 ((f4 84 (by decide)).trans l4)).2.2, zbI_some, if_neg c]
theorem a_act_open (hn : n ≤ 120) (ha : 0 ≤ a ∧ a ≤ n) {x : Int} (g72 : 0 ≤ x ∧ x < 72) (h0 : q_hr B n a = 111) : ∃ ok a' k m s, (a ≤ a' ∧ a' ≤ n) ∧ (ok = 0 ∨ ok = 1 ∧ q_aok k m s) ∧ zRd1 B n a x ok a' k m s ∧ zRd2 B n a x ok a' k m s := by
  have in1 : a < n := q_hr_in (B := B) (by rw [h0]; decide)
  obtain ⟨ok, v, w, a1, g1, g2, N1, N2⟩ := a_number (B := B) (n := n) (a := a + 1) hn (by omega) (mx := 3) (by decide)
  have fail : ok = 0 → ∃ ok a' k m s, (a ≤ a' ∧ a' ≤ n) ∧ (ok = 0 ∨ ok = 1 ∧ q_aok k m s) ∧ zRd1 B n a x ok a' k m s ∧ zRd2 B n a x ok a' k m s := by
    intro hok
    subst hok
    refine ⟨0, a1, 0, 0, 0, by omega, Or.inl rfl, fun d F G hd h1 h2 h3 => ?_, fun d F G hd h1 h2 h3 => ?_⟩
    · obtain ⟨d, rfl⟩ := zds (show 1 ≤ d by omega)
      obtain ⟨l1, l2, l3, l4, l5⟩ := s_lettered (a := a) (x := x) h1 h3
      obtain ⟨F1, f1, f2, f3, f4, f5⟩ := N1 d _ G (by omega) l1 l2 l4
      refine ⟨F1, g_Tape_readAct x _ ?_, f2, l5.n f3 f4, fun q => absurd q (by decide)⟩
      rw [s_here (by omega) hn ha.1 h1 h2 h3, zbI_some, s_actOf (by omega), zbI_some, h0, show (if ((111 : Int) = 103) then (0 : Int) else if ((111 : Int) = 111) then 3 else if ((111 : Int) = 112) then 2 else if ((111 : Int) = 116) then 1 else if ((111 : Int) = 119) then 4 else -1) = 3 by decide, if_neg (by decide), if_neg (by decide), h2, zadd_eq (by omega) (by omega), s_mostOf (by omega), zbI_some, show (if ((3 : Int) = 0) then (63 : Int) else if ((3 : Int) = 1) then 7 else if ((3 : Int) = 2) then 99 else if ((3 : Int) = 3) then 3 else 99) = 3 by decide, f1, zbI_some, if_pos rfl]
    · obtain ⟨d, rfl⟩ := zds (show 1 ≤ d by omega)
      obtain ⟨l1, l2, l3, l4, l5⟩ := m_lettered (a := a) (x := x) (k := 3) h1 h3
      obtain ⟨F1, f1, f2, f3, f4⟩ := N2 d _ G (by omega) l1 l2 l4
      refine ⟨zup (zup F1 82 x.toNat w) 83 x.toNat 0, g_M_reads x _ ?_, by rw [zup_row (by decide), zup_row (by decide)]; exact f2, ((l5.n f3 f4).u (Or.inr ⟨Or.inr (Or.inl rfl), rfl⟩)).u (Or.inr ⟨Or.inr (Or.inr rfl), rfl⟩), fun q => absurd q (by decide)⟩
      rw [m_here (by omega) hn ha.1 h1 h2 h3, zbI_some, h0, if_neg (show ¬ (111 : Int) = 103 by decide), if_neg (show ¬ (111 : Int) = 116 by decide), if_neg (show ¬ (111 : Int) = 112 by decide), if_pos rfl, if_pos g72, h2, zadd_eq (by omega) (by omega), f1, zbI_some, if_pos g72, if_pos g72, if_pos g72, zup_eq]
      by_cases hw : w = -1
      · rw [if_pos hw]
      · have hdig : 48 ≤ q_hr B n a1 ∧ q_hr B n a1 ≤ 57 := by omega
        rw [if_neg hw, m_here (by omega) hn (by omega) (m_numbered ((f3 18 (by decide)).trans l1) f2 ((f4 84 (by decide)).trans l4)).1 (m_numbered ((f3 18 (by decide)).trans l1) f2 ((f4 84 (by decide)).trans l4)).2.1 (m_numbered ((f3 18 (by decide)).trans l1) f2 ((f4 84 (by decide)).trans l4)).2.2, zbI_some, if_neg (by omega)]
  rcases g2 with g2 | g2
  · exact fail g2.1
  · obtain ⟨rfl, rfl, hv⟩ := g2
    by_cases c : q_hr B n a1 = 59
    · have in2 : a1 < n := q_hr_in (B := B) (by rw [c]; decide)
      refine ⟨1, a1 + 1, 3, w, 0, by omega, Or.inr ⟨rfl, ⟨by omega, fun q => absurd q (by decide), fun q => absurd q (by decide), fun _ => by omega⟩⟩, fun d F G hd h1 h2 h3 => ?_, fun d F G hd h1 h2 h3 => ?_⟩
      · obtain ⟨d, rfl⟩ := zds (show 1 ≤ d by omega)
        obtain ⟨l1, l2, l3, l4, l5⟩ := s_lettered (a := a) (x := x) h1 h3
        obtain ⟨F1, f1, f2, f3, f4, f5⟩ := N1 d _ G (by omega) l1 l2 l4
        refine ⟨zup (zup (zup (zup F1 46 7 (a1 + 1)) 49 x.toNat 3) 50 x.toNat w) 51 x.toNat 0, g_Tape_readAct x _ ?_, by rw [zup_row (by decide), zup_row (by decide), zup_row (by decide), zup_eq], ((((l5.n f3 f4).u (Or.inl ⟨rfl, Or.inl rfl⟩)).u (Or.inr ⟨Or.inl rfl, rfl⟩)).u (Or.inr ⟨Or.inr (Or.inl rfl), rfl⟩)).u (Or.inr ⟨Or.inr (Or.inr rfl), rfl⟩), fun _ => ⟨by rw [zup_row (by decide), zup_row (by decide), zup_eq], by rw [zup_row (by decide), zup_eq], zup_eq⟩⟩
        rw [s_here (by omega) hn ha.1 h1 h2 h3, zbI_some, s_actOf (by omega), zbI_some, h0, show (if ((111 : Int) = 103) then (0 : Int) else if ((111 : Int) = 111) then 3 else if ((111 : Int) = 112) then 2 else if ((111 : Int) = 116) then 1 else if ((111 : Int) = 119) then 4 else -1) = 3 by decide, if_neg (by decide), if_neg (by decide), h2, zadd_eq (by omega) (by omega), s_mostOf (by omega), zbI_some, show (if ((3 : Int) = 0) then (63 : Int) else if ((3 : Int) = 1) then 7 else if ((3 : Int) = 2) then 99 else if ((3 : Int) = 3) then 3 else 99) = 3 by decide, f1, zbI_some, if_neg (by decide), if_neg (by decide), s_here (by omega) hn (by omega) ((f3 1 (by decide) (by decide)).trans l1) f2 ((f4 47 (by decide)).trans l4), zbI_some, if_pos c, if_pos g72, if_pos g72, if_pos g72, f2, zadd_eq (by omega) (by omega), f5 rfl]
      · obtain ⟨d, rfl⟩ := zds (show 1 ≤ d by omega)
        obtain ⟨l1, l2, l3, l4, l5⟩ := m_lettered (a := a) (x := x) (k := 3) h1 h3
        obtain ⟨F1, f1, f2, f3, f4⟩ := N2 d _ G (by omega) l1 l2 l4
        refine ⟨zup (zup (zup F1 82 x.toNat w) 83 x.toNat 0) 71 42 (a1 + 1), g_M_reads x _ ?_, zup_eq, (((l5.n f3 f4).u (Or.inr ⟨Or.inr (Or.inl rfl), rfl⟩)).u (Or.inr ⟨Or.inr (Or.inr rfl), rfl⟩)).u (Or.inl ⟨rfl, rfl⟩), fun _ => ⟨by rw [zup_row (by decide), zup_row (by decide), zup_row (by decide), f4 81 (by decide)]; exact l3, by rw [zup_row (by decide), zup_row (by decide), zup_eq], by rw [zup_row (by decide), zup_eq]⟩⟩
        rw [m_here (by omega) hn ha.1 h1 h2 h3, zbI_some, h0, if_neg (show ¬ (111 : Int) = 103 by decide), if_neg (show ¬ (111 : Int) = 116 by decide), if_neg (show ¬ (111 : Int) = 112 by decide), if_pos rfl, if_pos g72, h2, zadd_eq (by omega) (by omega), f1, zbI_some, if_pos g72, if_pos g72, if_pos g72, zup_eq, if_neg (by omega), m_here (by omega) hn (by omega) (m_numbered ((f3 18 (by decide)).trans l1) f2 ((f4 84 (by decide)).trans l4)).1 (m_numbered ((f3 18 (by decide)).trans l1) f2 ((f4 84 (by decide)).trans l4)).2.1 (m_numbered ((f3 18 (by decide)).trans l1) f2 ((f4 84 (by decide)).trans l4)).2.2, zbI_some, if_pos c, show zup (zup F1 82 x.toNat w) 83 x.toNat 0 71 42 = a1 by rw [zup_row (by decide), zup_row (by decide)]; exact f2]
        rw [zadd_eq (by omega) (by omega)]
    · refine ⟨0, a1, 0, 0, 0, by omega, Or.inl rfl, fun d F G hd h1 h2 h3 => ?_, fun d F G hd h1 h2 h3 => ?_⟩
      · obtain ⟨d, rfl⟩ := zds (show 1 ≤ d by omega)
        obtain ⟨l1, l2, l3, l4, l5⟩ := s_lettered (a := a) (x := x) h1 h3
        obtain ⟨F1, f1, f2, f3, f4, f5⟩ := N1 d _ G (by omega) l1 l2 l4
        refine ⟨F1, g_Tape_readAct x _ ?_, f2, l5.n f3 f4, fun q => absurd q (by decide)⟩
        rw [s_here (by omega) hn ha.1 h1 h2 h3, zbI_some, s_actOf (by omega), zbI_some, h0, show (if ((111 : Int) = 103) then (0 : Int) else if ((111 : Int) = 111) then 3 else if ((111 : Int) = 112) then 2 else if ((111 : Int) = 116) then 1 else if ((111 : Int) = 119) then 4 else -1) = 3 by decide, if_neg (by decide), if_neg (by decide), h2, zadd_eq (by omega) (by omega), s_mostOf (by omega), zbI_some, show (if ((3 : Int) = 0) then (63 : Int) else if ((3 : Int) = 1) then 7 else if ((3 : Int) = 2) then 99 else if ((3 : Int) = 3) then 3 else 99) = 3 by decide, f1, zbI_some, if_neg (by decide), if_neg (by decide), s_here (by omega) hn (by omega) ((f3 1 (by decide) (by decide)).trans l1) f2 ((f4 47 (by decide)).trans l4), zbI_some, if_neg c]
      · obtain ⟨d, rfl⟩ := zds (show 1 ≤ d by omega)
        obtain ⟨l1, l2, l3, l4, l5⟩ := m_lettered (a := a) (x := x) (k := 3) h1 h3
        obtain ⟨F1, f1, f2, f3, f4⟩ := N2 d _ G (by omega) l1 l2 l4
        refine ⟨zup (zup F1 82 x.toNat w) 83 x.toNat 0, g_M_reads x _ ?_, by rw [zup_row (by decide), zup_row (by decide)]; exact f2, ((l5.n f3 f4).u (Or.inr ⟨Or.inr (Or.inl rfl), rfl⟩)).u (Or.inr ⟨Or.inr (Or.inr rfl), rfl⟩), fun q => absurd q (by decide)⟩
        rw [m_here (by omega) hn ha.1 h1 h2 h3, zbI_some, h0, if_neg (show ¬ (111 : Int) = 103 by decide), if_neg (show ¬ (111 : Int) = 116 by decide), if_neg (show ¬ (111 : Int) = 112 by decide), if_pos rfl, if_pos g72, h2, zadd_eq (by omega) (by omega), f1, zbI_some, if_pos g72, if_pos g72, if_pos g72, zup_eq, if_neg (by omega), m_here (by omega) hn (by omega) (m_numbered ((f3 18 (by decide)).trans l1) f2 ((f4 84 (by decide)).trans l4)).1 (m_numbered ((f3 18 (by decide)).trans l1) f2 ((f4 84 (by decide)).trans l4)).2.1 (m_numbered ((f3 18 (by decide)).trans l1) f2 ((f4 84 (by decide)).trans l4)).2.2, zbI_some, if_neg c]
theorem a_act_wait (hn : n ≤ 120) (ha : 0 ≤ a ∧ a ≤ n) {x : Int} (g72 : 0 ≤ x ∧ x < 72) (h0 : q_hr B n a = 119) : ∃ ok a' k m s, (a ≤ a' ∧ a' ≤ n) ∧ (ok = 0 ∨ ok = 1 ∧ q_aok k m s) ∧ zRd1 B n a x ok a' k m s ∧ zRd2 B n a x ok a' k m s := by
  have in1 : a < n := q_hr_in (B := B) (by rw [h0]; decide)
  obtain ⟨ok, v, w, a1, g1, g2, N1, N2⟩ := a_number (B := B) (n := n) (a := a + 1) hn (by omega) (mx := 99) (by decide)
  have fail : ok = 0 → ∃ ok a' k m s, (a ≤ a' ∧ a' ≤ n) ∧ (ok = 0 ∨ ok = 1 ∧ q_aok k m s) ∧ zRd1 B n a x ok a' k m s ∧ zRd2 B n a x ok a' k m s := by
    intro hok
    subst hok
    refine ⟨0, a1, 0, 0, 0, by omega, Or.inl rfl, fun d F G hd h1 h2 h3 => ?_, fun d F G hd h1 h2 h3 => ?_⟩
    · obtain ⟨d, rfl⟩ := zds (show 1 ≤ d by omega)
      obtain ⟨l1, l2, l3, l4, l5⟩ := s_lettered (a := a) (x := x) h1 h3
      obtain ⟨F1, f1, f2, f3, f4, f5⟩ := N1 d _ G (by omega) l1 l2 l4
      refine ⟨F1, g_Tape_readAct x _ ?_, f2, l5.n f3 f4, fun q => absurd q (by decide)⟩
      rw [s_here (by omega) hn ha.1 h1 h2 h3, zbI_some, s_actOf (by omega), zbI_some, h0, show (if ((119 : Int) = 103) then (0 : Int) else if ((119 : Int) = 111) then 3 else if ((119 : Int) = 112) then 2 else if ((119 : Int) = 116) then 1 else if ((119 : Int) = 119) then 4 else -1) = 4 by decide, if_neg (by decide), if_neg (by decide), h2, zadd_eq (by omega) (by omega), s_mostOf (by omega), zbI_some, show (if ((4 : Int) = 0) then (63 : Int) else if ((4 : Int) = 1) then 7 else if ((4 : Int) = 2) then 99 else if ((4 : Int) = 3) then 3 else 99) = 99 by decide, f1, zbI_some, if_pos rfl]
    · obtain ⟨d, rfl⟩ := zds (show 1 ≤ d by omega)
      obtain ⟨l1, l2, l3, l4, l5⟩ := m_lettered (a := a) (x := x) (k := 4) h1 h3
      obtain ⟨F1, f1, f2, f3, f4⟩ := N2 d _ G (by omega) l1 l2 l4
      refine ⟨zup (zup F1 82 x.toNat w) 83 x.toNat 0, g_M_reads x _ ?_, by rw [zup_row (by decide), zup_row (by decide)]; exact f2, ((l5.n f3 f4).u (Or.inr ⟨Or.inr (Or.inl rfl), rfl⟩)).u (Or.inr ⟨Or.inr (Or.inr rfl), rfl⟩), fun q => absurd q (by decide)⟩
      rw [m_here (by omega) hn ha.1 h1 h2 h3, zbI_some, h0, if_neg (show ¬ (119 : Int) = 103 by decide), if_neg (show ¬ (119 : Int) = 116 by decide), if_neg (show ¬ (119 : Int) = 112 by decide), if_neg (show ¬ (119 : Int) = 111 by decide), if_pos rfl, if_pos g72, h2, zadd_eq (by omega) (by omega), f1, zbI_some, if_pos g72, if_pos g72, if_pos g72, zup_eq]
      by_cases hw : w = -1
      · rw [if_pos hw]
      · have hdig : 48 ≤ q_hr B n a1 ∧ q_hr B n a1 ≤ 57 := by omega
        rw [if_neg hw, m_here (by omega) hn (by omega) (m_numbered ((f3 18 (by decide)).trans l1) f2 ((f4 84 (by decide)).trans l4)).1 (m_numbered ((f3 18 (by decide)).trans l1) f2 ((f4 84 (by decide)).trans l4)).2.1 (m_numbered ((f3 18 (by decide)).trans l1) f2 ((f4 84 (by decide)).trans l4)).2.2, zbI_some, if_neg (by omega)]
  rcases g2 with g2 | g2
  · exact fail g2.1
  · obtain ⟨rfl, rfl, hv⟩ := g2
    by_cases c : q_hr B n a1 = 59
    · have in2 : a1 < n := q_hr_in (B := B) (by rw [c]; decide)
      refine ⟨1, a1 + 1, 4, w, 0, by omega, Or.inr ⟨rfl, ⟨by omega, fun q => absurd q (by decide), fun q => absurd q (by decide), fun q => absurd q (by decide)⟩⟩, fun d F G hd h1 h2 h3 => ?_, fun d F G hd h1 h2 h3 => ?_⟩
      · obtain ⟨d, rfl⟩ := zds (show 1 ≤ d by omega)
        obtain ⟨l1, l2, l3, l4, l5⟩ := s_lettered (a := a) (x := x) h1 h3
        obtain ⟨F1, f1, f2, f3, f4, f5⟩ := N1 d _ G (by omega) l1 l2 l4
        refine ⟨zup (zup (zup (zup F1 46 7 (a1 + 1)) 49 x.toNat 4) 50 x.toNat w) 51 x.toNat 0, g_Tape_readAct x _ ?_, by rw [zup_row (by decide), zup_row (by decide), zup_row (by decide), zup_eq], ((((l5.n f3 f4).u (Or.inl ⟨rfl, Or.inl rfl⟩)).u (Or.inr ⟨Or.inl rfl, rfl⟩)).u (Or.inr ⟨Or.inr (Or.inl rfl), rfl⟩)).u (Or.inr ⟨Or.inr (Or.inr rfl), rfl⟩), fun _ => ⟨by rw [zup_row (by decide), zup_row (by decide), zup_eq], by rw [zup_row (by decide), zup_eq], zup_eq⟩⟩
        rw [s_here (by omega) hn ha.1 h1 h2 h3, zbI_some, s_actOf (by omega), zbI_some, h0, show (if ((119 : Int) = 103) then (0 : Int) else if ((119 : Int) = 111) then 3 else if ((119 : Int) = 112) then 2 else if ((119 : Int) = 116) then 1 else if ((119 : Int) = 119) then 4 else -1) = 4 by decide, if_neg (by decide), if_neg (by decide), h2, zadd_eq (by omega) (by omega), s_mostOf (by omega), zbI_some, show (if ((4 : Int) = 0) then (63 : Int) else if ((4 : Int) = 1) then 7 else if ((4 : Int) = 2) then 99 else if ((4 : Int) = 3) then 3 else 99) = 99 by decide, f1, zbI_some, if_neg (by decide), if_neg (by decide), s_here (by omega) hn (by omega) ((f3 1 (by decide) (by decide)).trans l1) f2 ((f4 47 (by decide)).trans l4), zbI_some, if_pos c, if_pos g72, if_pos g72, if_pos g72, f2, zadd_eq (by omega) (by omega), f5 rfl]
      · obtain ⟨d, rfl⟩ := zds (show 1 ≤ d by omega)
        obtain ⟨l1, l2, l3, l4, l5⟩ := m_lettered (a := a) (x := x) (k := 4) h1 h3
        obtain ⟨F1, f1, f2, f3, f4⟩ := N2 d _ G (by omega) l1 l2 l4
        refine ⟨zup (zup (zup F1 82 x.toNat w) 83 x.toNat 0) 71 42 (a1 + 1), g_M_reads x _ ?_, zup_eq, (((l5.n f3 f4).u (Or.inr ⟨Or.inr (Or.inl rfl), rfl⟩)).u (Or.inr ⟨Or.inr (Or.inr rfl), rfl⟩)).u (Or.inl ⟨rfl, rfl⟩), fun _ => ⟨by rw [zup_row (by decide), zup_row (by decide), zup_row (by decide), f4 81 (by decide)]; exact l3, by rw [zup_row (by decide), zup_row (by decide), zup_eq], by rw [zup_row (by decide), zup_eq]⟩⟩
        rw [m_here (by omega) hn ha.1 h1 h2 h3, zbI_some, h0, if_neg (show ¬ (119 : Int) = 103 by decide), if_neg (show ¬ (119 : Int) = 116 by decide), if_neg (show ¬ (119 : Int) = 112 by decide), if_neg (show ¬ (119 : Int) = 111 by decide), if_pos rfl, if_pos g72, h2, zadd_eq (by omega) (by omega), f1, zbI_some, if_pos g72, if_pos g72, if_pos g72, zup_eq, if_neg (by omega), m_here (by omega) hn (by omega) (m_numbered ((f3 18 (by decide)).trans l1) f2 ((f4 84 (by decide)).trans l4)).1 (m_numbered ((f3 18 (by decide)).trans l1) f2 ((f4 84 (by decide)).trans l4)).2.1 (m_numbered ((f3 18 (by decide)).trans l1) f2 ((f4 84 (by decide)).trans l4)).2.2, zbI_some, if_pos c, show zup (zup F1 82 x.toNat w) 83 x.toNat 0 71 42 = a1 by rw [zup_row (by decide), zup_row (by decide)]; exact f2]
        rw [zadd_eq (by omega) (by omega)]
    · refine ⟨0, a1, 0, 0, 0, by omega, Or.inl rfl, fun d F G hd h1 h2 h3 => ?_, fun d F G hd h1 h2 h3 => ?_⟩
      · obtain ⟨d, rfl⟩ := zds (show 1 ≤ d by omega)
        obtain ⟨l1, l2, l3, l4, l5⟩ := s_lettered (a := a) (x := x) h1 h3
        obtain ⟨F1, f1, f2, f3, f4, f5⟩ := N1 d _ G (by omega) l1 l2 l4
        refine ⟨F1, g_Tape_readAct x _ ?_, f2, l5.n f3 f4, fun q => absurd q (by decide)⟩
        rw [s_here (by omega) hn ha.1 h1 h2 h3, zbI_some, s_actOf (by omega), zbI_some, h0, show (if ((119 : Int) = 103) then (0 : Int) else if ((119 : Int) = 111) then 3 else if ((119 : Int) = 112) then 2 else if ((119 : Int) = 116) then 1 else if ((119 : Int) = 119) then 4 else -1) = 4 by decide, if_neg (by decide), if_neg (by decide), h2, zadd_eq (by omega) (by omega), s_mostOf (by omega), zbI_some, show (if ((4 : Int) = 0) then (63 : Int) else if ((4 : Int) = 1) then 7 else if ((4 : Int) = 2) then 99 else if ((4 : Int) = 3) then 3 else 99) = 99 by decide, f1, zbI_some, if_neg (by decide), if_neg (by decide), s_here (by omega) hn (by omega) ((f3 1 (by decide) (by decide)).trans l1) f2 ((f4 47 (by decide)).trans l4), zbI_some, if_neg c]
      · obtain ⟨d, rfl⟩ := zds (show 1 ≤ d by omega)
        obtain ⟨l1, l2, l3, l4, l5⟩ := m_lettered (a := a) (x := x) (k := 4) h1 h3
        obtain ⟨F1, f1, f2, f3, f4⟩ := N2 d _ G (by omega) l1 l2 l4
        refine ⟨zup (zup F1 82 x.toNat w) 83 x.toNat 0, g_M_reads x _ ?_, by rw [zup_row (by decide), zup_row (by decide)]; exact f2, ((l5.n f3 f4).u (Or.inr ⟨Or.inr (Or.inl rfl), rfl⟩)).u (Or.inr ⟨Or.inr (Or.inr rfl), rfl⟩), fun q => absurd q (by decide)⟩
        rw [m_here (by omega) hn ha.1 h1 h2 h3, zbI_some, h0, if_neg (show ¬ (119 : Int) = 103 by decide), if_neg (show ¬ (119 : Int) = 116 by decide), if_neg (show ¬ (119 : Int) = 112 by decide), if_neg (show ¬ (119 : Int) = 111 by decide), if_pos rfl, if_pos g72, h2, zadd_eq (by omega) (by omega), f1, zbI_some, if_pos g72, if_pos g72, if_pos g72, zup_eq, if_neg (by omega), m_here (by omega) hn (by omega) (m_numbered ((f3 18 (by decide)).trans l1) f2 ((f4 84 (by decide)).trans l4)).1 (m_numbered ((f3 18 (by decide)).trans l1) f2 ((f4 84 (by decide)).trans l4)).2.1 (m_numbered ((f3 18 (by decide)).trans l1) f2 ((f4 84 (by decide)).trans l4)).2.2, zbI_some, if_neg c]
end
