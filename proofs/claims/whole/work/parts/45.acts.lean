/-! reading an act: put, take, and all of them (printed by wip/tpl/gen45.py) -/
section
variable {d : Nat} {F : zM} {G : zG} {B : Nat → Int} {n a : Int}
theorem a_act_put (hn : n ≤ 120) (ha : 0 ≤ a ∧ a ≤ n) {x : Int} (g72 : 0 ≤ x ∧ x < 72) (h0 : q_hr B n a = 112) : ∃ ok a' k m s, (a ≤ a' ∧ a' ≤ n) ∧ (ok = 0 ∨ ok = 1 ∧ q_aok k m s) ∧ zRd1 B n a x ok a' k m s ∧ zRd2 B n a x ok a' k m s := by
  have in1 : a < n := q_hr_in (B := B) (by rw [h0]; decide)
  by_cases c : q_hr B n (a + 1) = 59
  · have in2 : a + 1 < n := q_hr_in (B := B) (by rw [c]; decide)
    refine ⟨1, a + 1 + 1, 2, 0, 0, by omega, Or.inr ⟨rfl, by decide, fun q => absurd q (by decide), fun q => absurd q (by decide), fun q => absurd q (by decide)⟩, fun d F G hd h1 h2 h3 => ?_, fun d F G hd h1 h2 h3 => ?_⟩
    · obtain ⟨d, rfl⟩ := zds (show 1 ≤ d by omega)
      obtain ⟨l1, l2, l3, l4, l5⟩ := s_lettered (a := a) (x := x) h1 h3
      refine ⟨zup (zup (zup (zup (zup (zup F 46 7 (a + 1)) 46 8 0) 46 7 (a + 1 + 1)) 49 x.toNat 2) 50 x.toNat 0) 51 x.toNat 0, g_Tape_readAct x _ ?_, by rw [zup_row (by decide), zup_row (by decide), zup_row (by decide), zup_eq], (((l5.u (Or.inl ⟨rfl, Or.inl rfl⟩)).u (Or.inr ⟨Or.inl rfl, rfl⟩)).u (Or.inr ⟨Or.inr (Or.inl rfl), rfl⟩)).u (Or.inr ⟨Or.inr (Or.inr rfl), rfl⟩), fun _ => ⟨by rw [zup_row (by decide), zup_row (by decide), zup_eq], by rw [zup_row (by decide), zup_eq], zup_eq⟩⟩
      rw [s_here (by omega) hn ha.1 h1 h2 h3, zbI_some, s_actOf (by omega), zbI_some, h0, show (if ((112 : Int) = 103) then (0 : Int) else if ((112 : Int) = 111) then 3 else if ((112 : Int) = 112) then 2 else if ((112 : Int) = 116) then 1 else if ((112 : Int) = 119) then 4 else -1) = 2 by decide, if_neg (by decide), if_pos rfl, if_neg (by decide), h2, zadd_eq (by omega) (by omega), s_here (by omega) hn (by omega) l1 l2 l4, zbI_some, if_pos c, if_pos g72, if_pos g72, if_pos g72, l2, l3, zadd_eq (x := a + 1) (by omega) (by omega)]
    · obtain ⟨d, rfl⟩ := zds (show 1 ≤ d by omega)
      obtain ⟨l1, l2, l3, l4, l5⟩ := m_lettered (a := a) (x := x) (k := 2) h1 h3
      refine ⟨zup (zup (zup (zup (zup F 71 42 (a + 1)) 81 x.toNat 2) 82 x.toNat 0) 83 x.toNat 0) 71 42 (a + 1 + 1), g_M_reads x _ ?_, zup_eq, ((l5.u (Or.inr ⟨Or.inr (Or.inl rfl), rfl⟩)).u (Or.inr ⟨Or.inr (Or.inr rfl), rfl⟩)).u (Or.inl ⟨rfl, rfl⟩), fun _ => ⟨by rw [zup_row (by decide), zup_row (by decide), zup_row (by decide)]; exact l3, by rw [zup_row (by decide), zup_row (by decide), zup_eq], by rw [zup_row (by decide), zup_eq]⟩⟩
      rw [m_here (by omega) hn ha.1 h1 h2 h3, zbI_some, h0, if_neg (show ¬ (112 : Int) = 103 by decide), if_neg (show ¬ (112 : Int) = 116 by decide), if_pos rfl, if_pos g72, if_pos g72, if_pos g72, if_pos g72, zup_eq, if_neg (by decide), h2, zadd_eq (by omega) (by omega), m_here (by omega) hn (by omega) (m_numbered l1 l2 l4).1 (m_numbered l1 l2 l4).2.1 (m_numbered l1 l2 l4).2.2, zbI_some, if_pos c, (m_numbered l1 l2 l4).2.1, zadd_eq (x := a + 1) (by omega) (by omega)]
  · refine ⟨0, a + 1, 0, 0, 0, by omega, Or.inl rfl, fun d F G hd h1 h2 h3 => ?_, fun d F G hd h1 h2 h3 => ?_⟩
    · obtain ⟨d, rfl⟩ := zds (show 1 ≤ d by omega)
      obtain ⟨l1, l2, l3, l4, l5⟩ := s_lettered (a := a) (x := x) h1 h3
      refine ⟨zup (zup F 46 7 (a + 1)) 46 8 0, g_Tape_readAct x _ ?_, l2, l5, fun q => absurd q (by decide)⟩
      rw [s_here (by omega) hn ha.1 h1 h2 h3, zbI_some, s_actOf (by omega), zbI_some, h0, show (if ((112 : Int) = 103) then (0 : Int) else if ((112 : Int) = 111) then 3 else if ((112 : Int) = 112) then 2 else if ((112 : Int) = 116) then 1 else if ((112 : Int) = 119) then 4 else -1) = 2 by decide, if_neg (by decide), if_pos rfl, if_neg (by decide), h2, zadd_eq (by omega) (by omega), s_here (by omega) hn (by omega) l1 l2 l4, zbI_some, if_neg c]
    · obtain ⟨d, rfl⟩ := zds (show 1 ≤ d by omega)
      obtain ⟨l1, l2, l3, l4, l5⟩ := m_lettered (a := a) (x := x) (k := 2) h1 h3
      refine ⟨zup (zup (zup (zup F 71 42 (a + 1)) 81 x.toNat 2) 82 x.toNat 0) 83 x.toNat 0, g_M_reads x _ ?_, (m_numbered l1 l2 l4).2.1, (l5.u (Or.inr ⟨Or.inr (Or.inl rfl), rfl⟩)).u (Or.inr ⟨Or.inr (Or.inr rfl), rfl⟩), fun q => absurd q (by decide)⟩
      rw [m_here (by omega) hn ha.1 h1 h2 h3, zbI_some, h0, if_neg (show ¬ (112 : Int) = 103 by decide), if_neg (show ¬ (112 : Int) = 116 by decide), if_pos rfl, if_pos g72, if_pos g72, if_pos g72, if_pos g72, zup_eq, if_neg (by decide), h2, zadd_eq (by omega) (by omega), m_here (by omega) hn (by omega) (m_numbered l1 l2 l4).1 (m_numbered l1 l2 l4).2.1 (m_numbered l1 l2 l4).2.2, zbI_some, if_neg c]
theorem a_act_take (hn : n ≤ 120) (ha : 0 ≤ a ∧ a ≤ n) {x : Int} (g72 : 0 ≤ x ∧ x < 72) (h0 : q_hr B n a = 116) : ∃ ok a' k m s, (a ≤ a' ∧ a' ≤ n) ∧ (ok = 0 ∨ ok = 1 ∧ q_aok k m s) ∧ zRd1 B n a x ok a' k m s ∧ zRd2 B n a x ok a' k m s := by
  have in1 : a < n := q_hr_in (B := B) (by rw [h0]; decide)
  obtain ⟨ok, v, w, a1, g1, g2, N1, N2⟩ := a_number (B := B) (n := n) (a := a + 1) hn (by omega) (mx := 7) (by decide)
  have side : ∀ c s : Int, (c = 110 ∧ s = 0 ∨ c = 101 ∧ s = 1 ∨ c = 115 ∧ s = 2 ∨ c = 119 ∧ s = 3) → q_hr B n a1 = c → ok = 1 ∧ w = v ∧ 0 ≤ v ∧ v ≤ 7 → ∃ ok a' k m s, (a ≤ a' ∧ a' ≤ n) ∧ (ok = 0 ∨ ok = 1 ∧ q_aok k m s) ∧ zRd1 B n a x ok a' k m s ∧ zRd2 B n a x ok a' k m s := by
    intro c s hcs hc g2
    obtain ⟨rfl, rfl, hv⟩ := g2
    have in2 : a1 < n := q_hr_in (B := B) (by rw [hc]; omega)
    have hs : 0 ≤ s ∧ s < 4 := by omega
    have hside : (if c = 101 then (1 : Int) else if c = 110 then 0 else if c = 115 then 2 else if c = 119 then 3 else -1) = s := by
      rcases hcs with ⟨rfl, rfl⟩ | ⟨rfl, rfl⟩ | ⟨rfl, rfl⟩ | ⟨rfl, rfl⟩ <;> decide
    -- the class past its side
    have C : ∀ (d : Nat) (F : zM) (G : zG), 2 ≤ d → F 46 1 = n → F 46 7 = a → F 47 = B → ∃ F1 : zM, F1 46 1 = n ∧ F1 46 7 = a1 + 1 ∧ F1 47 = B ∧ F1 46 8 = w ∧ zFr1 x.toNat F F1 ∧ ∀ r : zQ, (zbI (zex d 221 [zR 46] (F1, G, zsg)) (fun v12 F12 G12 =>
                        if v12 = 59 then
                        if 0 ≤ x ∧ x < 72 then
                        if 0 ≤ x ∧ x < 72 then
                        if 0 ≤ x ∧ x < 72 then
                        some (some (zI 1), (zup (zup (zup (zup F12 46 7 (zadd (F12 46 7) 1)) 49 (Int.toNat x) 1) 50 (Int.toNat x) (F12 46 8)) 51 (Int.toNat x) s), G12, zsg)
                      else none
                      else none
                      else none
                      else
                        some (some (zI 0), F12, G12, zsg)) = some r) → zex (d + 1) 219 [zR 46, zI x] (F, G, zsg) = some r := by
      intro d F G hd h1 h2 h3
      obtain ⟨l1, l2, l3, l4, l5⟩ := s_lettered (a := a) (x := x) h1 h3
      obtain ⟨F1, f1, f2, f3, f4, f5⟩ := N1 d _ G (by omega) l1 l2 l4
      refine ⟨zup F1 46 7 (a1 + 1), by rw [zup_col (by decide), f3 1 (by decide) (by decide)]; exact l1, zup_eq, by rw [zup_row (by decide), f4 47 (by decide)]; exact l4, by rw [zup_col (by decide)]; exact f5 rfl, (l5.n f3 f4).u (Or.inl ⟨rfl, Or.inl rfl⟩), fun r hr => ?_⟩
      refine g_Tape_readAct x _ ?_
      rw [s_here (by omega) hn ha.1 h1 h2 h3, zbI_some, s_actOf (by omega), zbI_some, h0, show (if ((116 : Int) = 103) then (0 : Int) else if ((116 : Int) = 111) then 3 else if ((116 : Int) = 112) then 2 else if ((116 : Int) = 116) then 1 else if ((116 : Int) = 119) then 4 else -1) = 1 by decide, if_neg (by decide), if_neg (by decide), h2, zadd_eq (by omega) (by omega), s_mostOf (by omega), zbI_some, show (if ((1 : Int) = 0) then (63 : Int) else if ((1 : Int) = 1) then 7 else if ((1 : Int) = 2) then 99 else if ((1 : Int) = 3) then 3 else 99) = 7 by decide, f1, zbI_some, if_neg (by decide), if_pos rfl, s_here (by omega) hn (by omega) ((f3 1 (by decide) (by decide)).trans l1) f2 ((f4 47 (by decide)).trans l4), zbI_some, s_sideOf (by omega), zbI_some, hc, hside, if_neg (by omega), f2, zadd_eq (x := a1) (by omega) (by omega)]
      exact hr
    have M : ∀ (d : Nat) (F : zM) (G : zG), 2 ≤ d → F 71 18 = n → F 71 42 = a → F 84 = B → ∃ F1 : zM, F1 71 18 = n ∧ F1 71 42 = a1 + 1 ∧ F1 84 = B ∧ F1 81 x.toNat = 1 ∧ F1 82 x.toNat = w ∧ F1 83 x.toNat = s ∧ zFr2 x.toNat F F1 ∧ ∀ r : zQ, (zbI (zex d 99 [zR 71] (F1, G, zsg)) (fun v13 F13 G13 =>
                        if v13 = 59 then
                        some (some (zI 1), (zup F13 71 42 (zadd (F13 71 42) 1)), G13, zsg)
                      else
                        some (some (zI 0), F13, G13, zsg)) = some r) → zex (d + 1) 101 [zR 71, zI x] (F, G, zsg) = some r := by
      intro d F G hd h1 h2 h3
      obtain ⟨l1, l2, l3, l4, l5⟩ := m_lettered (a := a) (x := x) (k := 1) h1 h3
      obtain ⟨F1, f1, f2, f3, f4⟩ := N2 d _ G (by omega) l1 l2 l4
      refine ⟨zup (zup (zup (zup F1 82 x.toNat w) 83 x.toNat 0) 83 x.toNat s) 71 42 (a1 + 1), by rw [zup_col (by decide), zup_row (by decide), zup_row (by decide), zup_row (by decide), f3 18 (by decide)]; exact l1, zup_eq, by rw [zup_row (by decide), zup_row (by decide), zup_row (by decide), zup_row (by decide), f4 84 (by decide)]; exact l4, by rw [zup_row (by decide), zup_row (by decide), zup_row (by decide), zup_row (by decide), f4 81 (by decide)]; exact l3, by rw [zup_row (by decide), zup_row (by decide), zup_row (by decide), zup_eq], by rw [zup_row (by decide), zup_eq], ((((l5.n f3 f4).u (Or.inr ⟨Or.inr (Or.inl rfl), rfl⟩)).u (Or.inr ⟨Or.inr (Or.inr rfl), rfl⟩)).u (Or.inr ⟨Or.inr (Or.inr rfl), rfl⟩)).u (Or.inl ⟨rfl, rfl⟩), fun r hr => ?_⟩
      refine g_M_reads x _ ?_
      rw [m_here (by omega) hn ha.1 h1 h2 h3, zbI_some, h0, if_neg (show ¬ (116 : Int) = 103 by decide), if_pos rfl, if_pos g72, h2, zadd_eq (by omega) (by omega), f1, zbI_some, if_pos g72, if_pos g72, if_pos g72, zup_eq, if_neg (by omega), m_here (by omega) hn (by omega) (m_numbered ((f3 18 (by decide)).trans l1) f2 ((f4 84 (by decide)).trans l4)).1 (m_numbered ((f3 18 (by decide)).trans l1) f2 ((f4 84 (by decide)).trans l4)).2.1 (m_numbered ((f3 18 (by decide)).trans l1) f2 ((f4 84 (by decide)).trans l4)).2.2, zbI_some, hc]
      rcases hcs with ⟨rfl, rfl⟩ | ⟨rfl, rfl⟩ | ⟨rfl, rfl⟩ | ⟨rfl, rfl⟩
      · rw [if_pos rfl, if_pos g72, if_pos g72, zup_eq, if_neg (by decide), (m_numbered ((f3 18 (by decide)).trans l1) f2 ((f4 84 (by decide)).trans l4)).2.1, zadd_eq (x := a1) (by omega) (by omega)]
        exact hr
      · rw [if_neg (by decide), if_pos rfl, if_pos g72, if_pos g72, zup_eq, if_neg (by decide), (m_numbered ((f3 18 (by decide)).trans l1) f2 ((f4 84 (by decide)).trans l4)).2.1, zadd_eq (x := a1) (by omega) (by omega)]
        exact hr
      · rw [if_neg (by decide), if_neg (by decide), if_pos rfl, if_pos g72, if_pos g72, zup_eq, if_neg (by decide), (m_numbered ((f3 18 (by decide)).trans l1) f2 ((f4 84 (by decide)).trans l4)).2.1, zadd_eq (x := a1) (by omega) (by omega)]
        exact hr
      · rw [if_neg (by decide), if_neg (by decide), if_neg (by decide), if_pos rfl, if_pos g72, if_pos g72, zup_eq, if_neg (by decide), (m_numbered ((f3 18 (by decide)).trans l1) f2 ((f4 84 (by decide)).trans l4)).2.1, zadd_eq (x := a1) (by omega) (by omega)]
        exact hr
    by_cases c5 : q_hr B n (a1 + 1) = 59
    · have in3 : a1 + 1 < n := q_hr_in (B := B) (by rw [c5]; decide)
      refine ⟨1, a1 + 1 + 1, 1, w, s, by omega, Or.inr ⟨rfl, by decide, fun q => absurd q (by decide), fun _ => ⟨by omega, by omega⟩, fun q => absurd q (by decide)⟩, fun d F G hd h1 h2 h3 => ?_, fun d F G hd h1 h2 h3 => ?_⟩
      · obtain ⟨d, rfl⟩ := zds (show 1 ≤ d by omega)
        obtain ⟨F1, f1, f2, f3, f4, f5, f6⟩ := C d F G (by omega) h1 h2 h3
        refine ⟨zup (zup (zup (zup F1 46 7 (a1 + 1 + 1)) 49 x.toNat 1) 50 x.toNat w) 51 x.toNat s, f6 _ ?_, by rw [zup_row (by decide), zup_row (by decide), zup_row (by decide), zup_eq], (((f5.u (Or.inl ⟨rfl, Or.inl rfl⟩)).u (Or.inr ⟨Or.inl rfl, rfl⟩)).u (Or.inr ⟨Or.inr (Or.inl rfl), rfl⟩)).u (Or.inr ⟨Or.inr (Or.inr rfl), rfl⟩), fun _ => ⟨by rw [zup_row (by decide), zup_row (by decide), zup_eq], by rw [zup_row (by decide), zup_eq], zup_eq⟩⟩
        rw [s_here (by omega) hn (by omega) f1 f2 f3, zbI_some, if_pos c5, if_pos g72, if_pos g72, if_pos g72, f2, f4, zadd_eq (by omega) (by omega)]
      · obtain ⟨d, rfl⟩ := zds (show 1 ≤ d by omega)
        obtain ⟨F1, f1, f2, f3, f4, f5, f6, f7, f8⟩ := M d F G (by omega) h1 h2 h3
        refine ⟨zup F1 71 42 (a1 + 1 + 1), f8 _ ?_, zup_eq, f7.u (Or.inl ⟨rfl, rfl⟩), fun _ => ⟨by rw [zup_row (by decide)]; exact f4, by rw [zup_row (by decide)]; exact f5, by rw [zup_row (by decide)]; exact f6⟩⟩
        rw [m_here (by omega) hn (by omega) f1 f2 f3, zbI_some, if_pos c5, f2, zadd_eq (by omega) (by omega)]
    · refine ⟨0, a1 + 1, 0, 0, 0, by omega, Or.inl rfl, fun d F G hd h1 h2 h3 => ?_, fun d F G hd h1 h2 h3 => ?_⟩
      · obtain ⟨d, rfl⟩ := zds (show 1 ≤ d by omega)
        obtain ⟨F1, f1, f2, f3, f4, f5, f6⟩ := C d F G (by omega) h1 h2 h3
        refine ⟨F1, f6 _ ?_, f2, f5, fun q => absurd q (by decide)⟩
        rw [s_here (by omega) hn (by omega) f1 f2 f3, zbI_some, if_neg c5]
      · obtain ⟨d, rfl⟩ := zds (show 1 ≤ d by omega)
        obtain ⟨F1, f1, f2, f3, f4, f5, f6, f7, f8⟩ := M d F G (by omega) h1 h2 h3
        refine ⟨F1, f8 _ ?_, f2, f7, fun q => absurd q (by decide)⟩
        rw [m_here (by omega) hn (by omega) f1 f2 f3, zbI_some, if_neg c5]
  by_cases c : ok = 1 ∧ (q_hr B n a1 = 110 ∨ q_hr B n a1 = 101 ∨ q_hr B n a1 = 115 ∨ q_hr B n a1 = 119)
  · have g2 := g2.resolve_left (fun q => by omega)
    rcases c.2 with h | h | h | h
    · exact side 110 0 (by decide) h g2
    · exact side 101 1 (by decide) h g2
    · exact side 115 2 (by decide) h g2
    · exact side 119 3 (by decide) h g2
  · have notside : ¬ (q_hr B n a1 = 110 ∨ q_hr B n a1 = 101 ∨ q_hr B n a1 = 115 ∨ q_hr B n a1 = 119) ∨ w = -1 := by omega
    refine ⟨0, a1, 0, 0, 0, by omega, Or.inl rfl, fun d F G hd h1 h2 h3 => ?_, fun d F G hd h1 h2 h3 => ?_⟩
    · obtain ⟨d, rfl⟩ := zds (show 1 ≤ d by omega)
      obtain ⟨l1, l2, l3, l4, l5⟩ := s_lettered (a := a) (x := x) h1 h3
      obtain ⟨F1, f1, f2, f3, f4, f5⟩ := N1 d _ G (by omega) l1 l2 l4
      refine ⟨F1, g_Tape_readAct x _ ?_, f2, l5.n f3 f4, fun q => absurd q (by decide)⟩
      rw [s_here (by omega) hn ha.1 h1 h2 h3, zbI_some, s_actOf (by omega), zbI_some, h0, show (if ((116 : Int) = 103) then (0 : Int) else if ((116 : Int) = 111) then 3 else if ((116 : Int) = 112) then 2 else if ((116 : Int) = 116) then 1 else if ((116 : Int) = 119) then 4 else -1) = 1 by decide, if_neg (by decide), if_neg (by decide), h2, zadd_eq (by omega) (by omega), s_mostOf (by omega), zbI_some, show (if ((1 : Int) = 0) then (63 : Int) else if ((1 : Int) = 1) then 7 else if ((1 : Int) = 2) then 99 else if ((1 : Int) = 3) then 3 else 99) = 7 by decide, f1, zbI_some]
      rcases g2 with g2 | g2
      · rw [if_pos g2.1]
      · have e1 : ¬ q_hr B n a1 = 101 := by omega
        have e2 : ¬ q_hr B n a1 = 110 := by omega
        have e3 : ¬ q_hr B n a1 = 115 := by omega
        have e4 : ¬ q_hr B n a1 = 119 := by omega
        rw [if_neg (by omega), if_pos rfl, s_here (by omega) hn (by omega) ((f3 1 (by decide) (by decide)).trans l1) f2 ((f4 47 (by decide)).trans l4), zbI_some, s_sideOf (by omega), zbI_some, if_neg e1, if_neg e2, if_neg e3, if_neg e4, if_pos (by decide)]
    · obtain ⟨d, rfl⟩ := zds (show 1 ≤ d by omega)
      obtain ⟨l1, l2, l3, l4, l5⟩ := m_lettered (a := a) (x := x) (k := 1) h1 h3
      obtain ⟨F1, f1, f2, f3, f4⟩ := N2 d _ G (by omega) l1 l2 l4
      by_cases hw : w = -1
      · refine ⟨zup (zup F1 82 x.toNat w) 83 x.toNat 0, g_M_reads x _ ?_, (m_numbered ((f3 18 (by decide)).trans l1) f2 ((f4 84 (by decide)).trans l4)).2.1, ((l5.n f3 f4).u (Or.inr ⟨Or.inr (Or.inl rfl), rfl⟩)).u (Or.inr ⟨Or.inr (Or.inr rfl), rfl⟩), fun q => absurd q (by decide)⟩
        rw [m_here (by omega) hn ha.1 h1 h2 h3, zbI_some, h0, if_neg (show ¬ (116 : Int) = 103 by decide), if_pos rfl, if_pos g72, h2, zadd_eq (by omega) (by omega), f1, zbI_some, if_pos g72, if_pos g72, if_pos g72, zup_eq, if_pos hw]
      · have e1 : ¬ q_hr B n a1 = 101 := by omega
        have e2 : ¬ q_hr B n a1 = 110 := by omega
        have e3 : ¬ q_hr B n a1 = 115 := by omega
        have e4 : ¬ q_hr B n a1 = 119 := by omega
        refine ⟨zup (zup (zup F1 82 x.toNat w) 83 x.toNat 0) 83 x.toNat (-1), g_M_reads x _ ?_, by rw [zup_row (by decide)]; exact (m_numbered ((f3 18 (by decide)).trans l1) f2 ((f4 84 (by decide)).trans l4)).2.1, (((l5.n f3 f4).u (Or.inr ⟨Or.inr (Or.inl rfl), rfl⟩)).u (Or.inr ⟨Or.inr (Or.inr rfl), rfl⟩)).u (Or.inr ⟨Or.inr (Or.inr rfl), rfl⟩), fun q => absurd q (by decide)⟩
        rw [m_here (by omega) hn ha.1 h1 h2 h3, zbI_some, h0, if_neg (show ¬ (116 : Int) = 103 by decide), if_pos rfl, if_pos g72, h2, zadd_eq (by omega) (by omega), f1, zbI_some, if_pos g72, if_pos g72, if_pos g72, zup_eq, if_neg hw, m_here (by omega) hn (by omega) (m_numbered ((f3 18 (by decide)).trans l1) f2 ((f4 84 (by decide)).trans l4)).1 (m_numbered ((f3 18 (by decide)).trans l1) f2 ((f4 84 (by decide)).trans l4)).2.1 (m_numbered ((f3 18 (by decide)).trans l1) f2 ((f4 84 (by decide)).trans l4)).2.2, zbI_some, if_neg e2, if_neg e1, if_neg e3, if_neg e4, if_pos g72, if_pos g72, zup_eq, if_pos rfl]
theorem a_act (hn : n ≤ 120) (ha : 0 ≤ a ∧ a ≤ n) {x : Int} (g72 : 0 ≤ x ∧ x < 72) : ∃ ok a' k m s, (a ≤ a' ∧ a' ≤ n) ∧ (ok = 0 ∨ ok = 1 ∧ q_aok k m s) ∧ zRd1 B n a x ok a' k m s ∧ zRd2 B n a x ok a' k m s := by
  by_cases c1 : q_hr B n a = 103
  · exact a_act_go hn ha g72 c1
  · by_cases c2 : q_hr B n a = 111
    · exact a_act_open hn ha g72 c2
    · by_cases c3 : q_hr B n a = 112
      · exact a_act_put hn ha g72 c3
      · by_cases c4 : q_hr B n a = 116
        · exact a_act_take hn ha g72 c4
        · by_cases c5 : q_hr B n a = 119
          · exact a_act_wait hn ha g72 c5
          · refine ⟨0, a, 0, 0, 0, by omega, Or.inl rfl, fun d F G hd h1 h2 h3 => ⟨F, ?_, h2, zFr1.rfl, fun q => absurd q (by decide)⟩, fun d F G hd h1 h2 h3 => ⟨F, ?_, h2, zFr2.rfl, fun q => absurd q (by decide)⟩⟩
            · obtain ⟨d, rfl⟩ := zds (show 1 ≤ d by omega)
              refine g_Tape_readAct x _ ?_
              rw [s_here (by omega) hn ha.1 h1 h2 h3, zbI_some, s_actOf (by omega), zbI_some, if_neg c1, if_neg c2, if_neg c3, if_neg c4, if_neg c5, if_pos (by decide)]
            · obtain ⟨d, rfl⟩ := zds (show 1 ≤ d by omega)
              refine g_M_reads x _ ?_
              rw [m_here (by omega) hn ha.1 h1 h2 h3, zbI_some, if_neg c1, if_neg c4, if_neg c3, if_neg c2, if_neg c5]
end
