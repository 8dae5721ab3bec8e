/-! looking: both sides alike -/
section
variable {d : Nat} {F ρ : zM} {G : zG} {p : Nat → Int}
theorem zAsk.both {d c m : Nat} {as : List zV} {v : Int} (h1 : zex d c (zR 5 :: as) (F, G, zsg) = some (some (zI v), F, G, zsg)) (h2 : zex d m (zR 71 :: as) (F, G, zsg) = some (some (zI v), F, G, zsg)) : zAsk d c m as F G := ⟨v, F, G, F, h1, h2, zqc.rfl⟩
theorem a_kindTold (hd : 3 ≤ d) (k w what : Int) : zAsk d 16 57 [zI k, zI w, zI what] F G := by
  obtain ⟨d, rfl⟩ := zds (show 1 ≤ d by omega)
  by_cases c1 : 0 ≤ k ∧ k ≤ 5
  · by_cases c2 : 1 ≤ w ∧ w ≤ 2
    · by_cases c3 : 0 ≤ what ∧ what ≤ 3
      · have h4 : what = 0 ∨ what = 1 ∨ what = 2 ∨ what = 3 := by omega
        rcases h4 with rfl | rfl | rfl | rfl
        · refine zAsk.both (v := q_sides k) (g_C_kindTold k w 0 _ ?_) (g_M_kindTold k w 0 _ ?_)
          · rw [s_isKind (by omega), zbI_some, zp_t c1, if_neg (by decide), s_isWide (by omega), zbI_some, zp_t c2, if_neg (by decide), if_pos rfl, s_sidesOf (by omega) c1.1 c1.2, zbI_some]
          · rw [m_in (by omega), zbI_some, zp_t c1, if_neg (by decide), m_in (by omega), zbI_some, zp_t c2, if_neg (by decide), m_in (by omega), zbI_some, zp_t c3, if_neg (by decide), if_pos rfl, m_sidesOf (by omega), zbI_some]
        · refine zAsk.both (v := q_wt k w) (g_C_kindTold k w 1 _ ?_) (g_M_kindTold k w 1 _ ?_)
          · rw [s_isKind (by omega), zbI_some, zp_t c1, if_neg (by decide), s_isWide (by omega), zbI_some, zp_t c2, if_neg (by decide), if_neg (by decide), if_pos rfl, s_weightOf (by omega) (by omega) (by omega), zbI_some]
          · rw [m_in (by omega), zbI_some, zp_t c1, if_neg (by decide), m_in (by omega), zbI_some, zp_t c2, if_neg (by decide), m_in (by omega), zbI_some, zp_t c3, if_neg (by decide), if_neg (by decide), if_pos rfl, m_weightOf (by omega) (by omega) (by omega), zbI_some]
        · refine zAsk.both (v := zp (k = 3)) (g_C_kindTold k w 2 _ ?_) (g_M_kindTold k w 2 _ ?_)
          · rw [s_isKind (by omega), zbI_some, zp_t c1, if_neg (by decide), s_isWide (by omega), zbI_some, zp_t c2, if_neg (by decide), if_neg (by decide), if_neg (by decide), if_pos rfl, s_isKey (by omega), zbI_some]
            rcases zp_01 (k = 3) with h | h <;> rw [h] <;> rfl
          · rw [m_in (by omega), zbI_some, zp_t c1, if_neg (by decide), m_in (by omega), zbI_some, zp_t c2, if_neg (by decide), m_in (by omega), zbI_some, zp_t c3, if_neg (by decide), if_neg (by decide), if_neg (by decide), if_pos rfl]
            split
            · rename_i h; rw [zp_t h]
            · rename_i h; rw [zp_f h]
        · refine zAsk.both (v := zp (q_tup k)) (g_C_kindTold k w 3 _ ?_) (g_M_kindTold k w 3 _ ?_)
          · rw [s_isKind (by omega), zbI_some, zp_t c1, if_neg (by decide), s_isWide (by omega), zbI_some, zp_t c2, if_neg (by decide), if_neg (by decide), if_neg (by decide), if_neg (by decide), if_pos rfl, s_turnsUp (by omega) c1.1 c1.2, zbI_some]
            rcases zp_01 (q_tup k) with h | h <;> rw [h] <;> rfl
          · rw [m_in (by omega), zbI_some, zp_t c1, if_neg (by decide), m_in (by omega), zbI_some, zp_t c2, if_neg (by decide), m_in (by omega), zbI_some, zp_t c3, if_neg (by decide), if_neg (by decide), if_neg (by decide), if_neg (by decide), m_turnsUp (by omega), zbI_some]
            rcases zp_01 (q_tup k) with h | h <;> rw [h] <;> rfl
      · refine zAsk.both (v := -2) (g_C_kindTold k w what _ ?_) (g_M_kindTold k w what _ ?_)
        · rw [s_isKind (by omega), zbI_some, zp_t c1, if_neg (by decide), s_isWide (by omega), zbI_some, zp_t c2, if_neg (by decide), if_neg (by omega), if_neg (by omega), if_neg (by omega), if_neg (by omega)]
        · rw [m_in (by omega), zbI_some, zp_t c1, if_neg (by decide), m_in (by omega), zbI_some, zp_t c2, if_neg (by decide), m_in (by omega), zbI_some, zp_f c3, if_pos rfl]
    · refine zAsk.both (v := -2) (g_C_kindTold k w what _ ?_) (g_M_kindTold k w what _ ?_)
      · rw [s_isKind (by omega), zbI_some, zp_t c1, if_neg (by decide), s_isWide (by omega), zbI_some, zp_f c2, if_pos rfl]
      · rw [m_in (by omega), zbI_some, zp_t c1, if_neg (by decide), m_in (by omega), zbI_some, zp_f c2, if_pos rfl]
  · refine zAsk.both (v := -2) (g_C_kindTold k w what _ ?_) (g_M_kindTold k w what _ ?_)
    · rw [s_isKind (by omega), zbI_some, zp_f c1, if_pos rfl]
    · rw [m_in (by omega), zbI_some, zp_f c1, if_pos rfl]
theorem s_roomWeight (hd : 2 ≤ d) (hC : zCR ρ F G) (hV : zRv ρ) {t : Int} (h1 : 0 ≤ t) (h2 : t < 8) : zex d 192 [zR 6, zI t] (F, G, zsg) = some (some (zI (q_wt (ρ 78 t.toNat) (ρ 79 t.toNat))), F, G, zsg) := by
  obtain ⟨d, rfl⟩ := zds (Nat.le_of_lt hd)
  have hw := hV.2.2.2.2.1 t.toNat (by omega)
  refine g_Room_weightOf t _ ?_
  rw [if_pos ⟨h1, h2⟩, if_pos ⟨h1, h2⟩, hC.2.2.2.1, hC.2.2.2.2.1, s_weightOf (by omega) hw.1 hw.2, zbI_some]
theorem a_thingTold (hd : 3 ≤ d) (N : zNow ρ p F G) (t what : Int) : zAsk d 14 93 [zI t, zI what] F G := by
  obtain ⟨d, rfl⟩ := zds (show 1 ≤ d by omega)
  obtain ⟨hS, hC, hR, hp, hV, hP⟩ := N
  have hn8 := hV.1.2
  by_cases c1 : 0 ≤ t ∧ t < ρ 71 8
  · have h8 : 0 ≤ t ∧ t < 8 := by omega
    have e1 : F 12 t.toNat = p t.toNat := (hS.at h8.1 h8.2).1
    have e2 : F 13 t.toNat = p (8 + t.toNat) := (hS.at h8.1 h8.2).2.1
    have e3 : F 14 t.toNat = p (16 + t.toNat) := (hS.at h8.1 h8.2).2.2
    have hk := hV.2.2.2.1 t.toNat (by omega)
    have hw := hV.2.2.2.2.1 t.toNat (by omega)
    have f0 : zex d 43 [zR 5, zI t] (F, G, zsg) = some (some (zI 1), F, G, zsg) := by rw [s_isThing (by omega) hC, zp_t c1]
    have f1 : zex d 51 [zR 71, zI t] (F, G, zsg) = some (some (zI 1), F, G, zsg) := by rw [m_isThing (by omega) hR hV, zp_t c1]
    by_cases c2 : 0 ≤ what ∧ what ≤ 6
    · have h7 : what = 0 ∨ what = 1 ∨ what = 2 ∨ what = 3 ∨ what = 4 ∨ what = 5 ∨ what = 6 := by omega
      have z1 : zadd (zadd 0 (zmul 8 (zsub 1 1))) t = t := by rw [show zadd 0 (zmul 8 (zsub 1 1)) = 0 from rfl, zadd_eq (by omega) (by omega)]; omega
      have z2 : zadd (zadd 0 (zmul 8 (zsub 2 1))) t = 8 + t := by rw [show zadd 0 (zmul 8 (zsub 2 1)) = 8 from rfl, zadd_eq (by omega) (by omega)]
      have z3 : zadd (zadd 0 (zmul 8 (zsub 3 1))) t = 16 + t := by rw [show zadd 0 (zmul 8 (zsub 3 1)) = 16 from rfl, zadd_eq (by omega) (by omega)]
      rcases h7 with rfl | rfl | rfl | rfl | rfl | rfl | rfl
      · refine zAsk.both (v := ρ 78 t.toNat) (g_C_thingTold t 0 _ ?_) (g_M_thingTold t 0 _ ?_)
        · rw [f0, zbI_some, if_neg (by decide), if_pos rfl, if_pos h8, hC.2.2.2.1]
        · rw [f1, zbI_some, if_neg (by decide), if_pos rfl, if_pos h8, hR.2.2.2.2.2.2.1]
      · refine zAsk.both (v := p t.toNat) (g_C_thingTold t 1 _ ?_) (g_M_thingTold t 1 _ ?_)
        · rw [f0, zbI_some, if_neg (by decide), if_neg (by decide), if_pos rfl, if_pos h8, e1]
        · rw [f1, zbI_some, if_neg (by decide), if_neg (by decide), if_pos rfl, z1, if_pos (by omega), hp]
      · refine zAsk.both (v := p (8 + t.toNat)) (g_C_thingTold t 2 _ ?_) (g_M_thingTold t 2 _ ?_)
        · rw [f0, zbI_some, if_neg (by decide), if_neg (by decide), if_neg (by decide), if_pos rfl, if_pos h8, e2]
        · rw [f1, zbI_some, if_neg (by decide), if_neg (by decide), if_neg (by decide), if_pos rfl, z2, if_pos (by omega), hp, show (8 + t).toNat = 8 + t.toNat by omega]
      · refine zAsk.both (v := p (16 + t.toNat)) (g_C_thingTold t 3 _ ?_) (g_M_thingTold t 3 _ ?_)
        · rw [f0, zbI_some, if_neg (by decide), if_neg (by decide), if_neg (by decide), if_neg (by decide), if_pos rfl, if_pos h8, e3]
        · rw [f1, zbI_some, if_neg (by decide), if_neg (by decide), if_neg (by decide), if_neg (by decide), if_pos rfl, z3, if_pos (by omega), hp, show (16 + t).toNat = 16 + t.toNat by omega]
      · refine zAsk.both (v := q_sides (ρ 78 t.toNat)) (g_C_thingTold t 4 _ ?_) (g_M_thingTold t 4 _ ?_)
        · rw [f0, zbI_some, if_neg (by decide), if_neg (by decide), if_neg (by decide), if_neg (by decide), if_neg (by decide), if_pos rfl, if_pos h8, hC.2.2.2.1, s_sidesOf (by omega) hk.1 hk.2, zbI_some]
        · rw [f1, zbI_some, if_neg (by decide), if_neg (by decide), if_neg (by decide), if_neg (by decide), if_neg (by decide), if_pos rfl, if_pos h8, hR.2.2.2.2.2.2.1, m_sidesOf (by omega), zbI_some]
      · refine zAsk.both (v := q_wt (ρ 78 t.toNat) (ρ 79 t.toNat)) (g_C_thingTold t 5 _ ?_) (g_M_thingTold t 5 _ ?_)
        · rw [f0, zbI_some, if_neg (by decide), if_neg (by decide), if_neg (by decide), if_neg (by decide), if_neg (by decide), if_neg (by decide), if_pos rfl, s_roomWeight (by omega) hC hV h8.1 h8.2, zbI_some]
        · rw [f1, zbI_some, if_neg (by decide), if_neg (by decide), if_neg (by decide), if_neg (by decide), if_neg (by decide), if_neg (by decide), if_pos rfl, if_pos h8, if_pos h8, hR.2.2.2.2.2.2.1, hR.2.2.2.2.2.2.2, m_weightOf (by omega) hw.1 hw.2, zbI_some]
      · refine zAsk.both (v := ρ 79 t.toNat) (g_C_thingTold t 6 _ ?_) (g_M_thingTold t 6 _ ?_)
        · rw [f0, zbI_some, if_neg (by decide), if_neg (by decide), if_neg (by decide), if_neg (by decide), if_neg (by decide), if_neg (by decide), if_neg (by decide), if_pos rfl, if_pos h8, hC.2.2.2.2.1]
        · rw [f1, zbI_some, if_neg (by decide), if_neg (by decide), if_neg (by decide), if_neg (by decide), if_neg (by decide), if_neg (by decide), if_neg (by decide), if_pos rfl, if_pos h8, hR.2.2.2.2.2.2.2]
    · refine zAsk.both (v := -7) (g_C_thingTold t what _ ?_) (g_M_thingTold t what _ ?_)
      · rw [f0, zbI_some, if_neg (by decide), if_neg (by omega), if_neg (by omega), if_neg (by omega), if_neg (by omega), if_neg (by omega), if_neg (by omega), if_neg (by omega)]
      · rw [f1, zbI_some, if_neg (by decide), if_neg (by omega), if_neg (by omega), if_neg (by omega), if_neg (by omega), if_neg (by omega), if_neg (by omega), if_neg (by omega)]
  · refine zAsk.both (v := -5) (g_C_thingTold t what _ ?_) (g_M_thingTold t what _ ?_)
    · rw [s_isThing (by omega) hC, zp_f c1, zbI_some, if_pos rfl]
    · rw [m_isThing (by omega) hR hV, zp_f c1, zbI_some, if_pos rfl]
theorem a_handTold (hd : 3 ≤ d) (N : zNow ρ p F G) (h what : Int) : zAsk d 15 94 [zI h, zI what] F G := by
  obtain ⟨d, rfl⟩ := zds (show 1 ≤ d by omega)
  obtain ⟨hS, hC, hR, hp, hV, hP⟩ := N
  by_cases c1 : 0 ≤ h ∧ h ≤ 1
  · have hh : h = 0 ∨ h = 1 := by omega
    obtain ⟨e0, e1, e2, e3, e4, -, e5⟩ := hS.hn hh
    have e0 : F 15 h.toNat = p (28 + h.toNat) := e0
    have e1 : F 16 h.toNat = p (30 + h.toNat) := e1
    have e2 : F 17 h.toNat = p (32 + h.toNat) := e2
    have e3 : F 18 h.toNat = p (34 + h.toNat) := e3
    have e4 : F 19 h.toNat = p (36 + h.toNat) := e4
    have e5 : F 21 h.toNat = p (40 + h.toNat) := e5
    have f0 : zex d 41 [zI h] (F, G, zsg) = some (some (zI 1), F, G, zsg) := by rw [s_isHand (by omega), zp_t c1]
    have f1 : zex d 52 [zI h] (F, G, zsg) = some (some (zI 1), F, G, zsg) := by rw [m_isHand (by omega), zp_t c1]
    by_cases c2 : 0 ≤ what ∧ what ≤ 5
    · have h2 : 0 ≤ h ∧ h < 2 := by omega
      by_cases c5 : what = 5
      · subst c5
        refine zAsk.both (v := p (40 + h.toNat)) (g_C_handTold h 5 _ ?_) (g_M_handTold h 5 _ ?_)
        · rw [f0, zbI_some, if_neg (by decide), if_neg (by decide), if_neg (by decide), if_neg (by decide), if_neg (by decide), if_neg (by decide), if_pos rfl, if_pos h2, e5]
        · rw [f1, zbI_some, if_neg (by decide), if_pos rfl, zadd_eq (by omega) (by omega), if_pos (by omega), hp, show (40 + h).toNat = 40 + h.toNat by omega]
      · have c3 : 0 ≤ what ∧ what ≤ 4 := by omega
        have hm : zex (d + 1) 94 [zR 71, zI h, zI what] (F, G, zsg) = some (some (zI (p (28 + 2 * what.toNat + h.toNat))), F, G, zsg) := by
          refine g_M_handTold h what _ ?_
          rw [f1, zbI_some, if_neg (by decide), if_neg c5, m_in (by omega), zbI_some, zp_t c3, if_neg (by decide), zmul_eq (by omega) (by omega), zadd_eq (x := 28) (by omega) (by omega), zadd_eq (by omega) (by omega), if_pos (by omega), hp, show (28 + 2 * what + h).toNat = 28 + 2 * what.toNat + h.toNat by omega]
        have h5 : what = 0 ∨ what = 1 ∨ what = 2 ∨ what = 3 ∨ what = 4 := by omega
        refine zAsk.both (v := p (28 + 2 * what.toNat + h.toNat)) (g_C_handTold h what _ ?_) hm
        rw [f0, zbI_some, if_neg (by decide)]
        rcases h5 with rfl | rfl | rfl | rfl | rfl
        · rw [if_pos rfl, if_pos h2, e0]; rfl
        · rw [if_neg (by decide), if_pos rfl, if_pos h2, e1]; rfl
        · rw [if_neg (by decide), if_neg (by decide), if_pos rfl, if_pos h2, e2]; rfl
        · rw [if_neg (by decide), if_neg (by decide), if_neg (by decide), if_pos rfl, if_pos h2, e3]; rfl
        · rw [if_neg (by decide), if_neg (by decide), if_neg (by decide), if_neg (by decide), if_pos rfl, if_pos h2, e4]; rfl
    · refine zAsk.both (v := -7) (g_C_handTold h what _ ?_) (g_M_handTold h what _ ?_)
      · rw [f0, zbI_some, if_neg (by decide), if_neg (by omega), if_neg (by omega), if_neg (by omega), if_neg (by omega), if_neg (by omega), if_neg (by omega)]
      · rw [f1, zbI_some, if_neg (by decide), if_neg (by omega), m_in (by omega), zbI_some, zp_f (by omega), if_pos rfl]
  · refine zAsk.both (v := -5) (g_C_handTold h what _ ?_) (g_M_handTold h what _ ?_)
    · rw [s_isHand (by omega), zp_f c1, zbI_some, if_pos rfl]
    · rw [m_isHand (by omega), zp_f c1, zbI_some, if_pos rfl]
theorem a_cellTold (hd : 5 ≤ d) (N : zNow ρ p F G) (c : Int) : zAsk d 17 95 [zI c] F G := by
  obtain ⟨d, rfl⟩ := zds (show 1 ≤ d by omega)
  obtain ⟨hS, hC, hR, hp, hV, hP⟩ := N
  have e0 : F 15 0 = p 28 := (hS.2.2.1 0 (by omega)).1
  have e1 : F 15 1 = p 29 := (hS.2.2.1 1 (by omega)).1
  by_cases c1 : 0 ≤ c ∧ c < 64
  · refine zAsk.both (v := if ρ 75 c.toNat = 0 then (if zp (q_shut ρ p c) = 0 then (if p 28 = c then 100 else if p 29 = c then 101 else zfd (fun t => (t : Int) ≠ -1 ∧ q_lies ρ p t c) 0 (ρ 71 8).toNat) else -11) else -10) (g_C_cellTold c _ ?_) (g_M_cellTold c _ ?_)
    · rw [s_isCell (by omega), zbI_some, zp_t c1, if_neg (by decide), hC.2.2.2.2.2.2.2, s_has (by omega) c1.1 c1.2, zbI_some, zp_iff (zset_geti c1.1 c1.2), s_shutDoors_11 (by omega) hS hC hV, zbL_some, s_has (by omega) c1.1 c1.2, zbI_some, zp_iff (zset_geti c1.1 c1.2), e0, e1, s_leastThingIn (by omega) hS hC hV hP.1 c1.1 c1.2, zbI_some]
      by_cases c2 : ρ 75 c.toNat = 0
      · rw [if_pos c2, zp_f (fun q => q c2), if_pos rfl]
        repeat' split
        all_goals rfl
      · rw [if_neg c2, zp_t c2, if_neg (by decide)]
    · rw [m_isCell (by omega), zbI_some, zp_t c1, if_neg (by decide), if_pos c1, hR.2.2.2.1, m_isShut (by omega) hR hp hV, zbI_some, hp, m_thingIn (by omega) hR hp hV hP.1, zbI_some]
      repeat' split
      all_goals rfl
  · refine zAsk.both (v := -5) (g_C_cellTold c _ ?_) (g_M_cellTold c _ ?_)
    · rw [s_isCell (by omega), zbI_some, zp_f c1, if_pos rfl]
    · rw [m_isCell (by omega), zbI_some, zp_f c1, if_pos rfl]
theorem a_isOpen (hd : 3 ≤ d) (N : zNow ρ p F G) (e : Int) : zAsk d 18 96 [zI e] F G := by
  obtain ⟨d, rfl⟩ := zds (show 1 ≤ d by omega)
  obtain ⟨hS, hC, hR, hp, hV, hP⟩ := N
  have hD := hV.2.1
  by_cases c1 : 0 ≤ e ∧ e < ρ 71 5
  · obtain ⟨⟨o1, o2⟩, o3⟩ := hS.2.1
    have o3 := o3 e.toNat (by omega)
    refine zAsk.both (v := p (24 + e.toNat)) (g_C_isOpen e _ ?_) (g_M_isOpen e _ ?_)
    · rw [s_isDoor (by omega) hC, zbI_some, zp_t c1, if_neg (by decide)]
      have : zex d 199 [zR 11, zI e] (F, G, zsg) = some (some (zI (p (24 + e.toNat))), F, G, zsg) := by
        obtain ⟨d, rfl⟩ := zds (show 1 ≤ d by omega)
        refine g_Scene_isOpened_11 e _ ?_
        rw [o3, z_bit o1 (by omega) c1.1 (by omega)]
        cases (F 11 1).toNat.testBit e.toNat <;> rfl
      rw [this, zbI_some, o3]
      cases (F 11 1).toNat.testBit e.toNat <;> rfl
    · rw [hR.1, zsub_eq (by omega) (by omega), m_in (by omega), zbI_some, zp_t (by omega), if_neg (by decide), zadd_eq (by omega) (by omega), if_pos (by omega), hp, show (24 + e).toNat = 24 + e.toNat by omega]
  · refine zAsk.both (v := -1) (g_C_isOpen e _ ?_) (g_M_isOpen e _ ?_)
    · rw [s_isDoor (by omega) hC, zbI_some, zp_f c1, if_pos rfl]
    · rw [hR.1, zsub_eq (by omega) (by omega), m_in (by omega), zbI_some, zp_f (by omega), if_pos rfl]
theorem m_isUnder (hd : 1 ≤ d) {k o : Int} : zex d 135 [zI k, zI o] (F, G, zsg) = some (some (zI (zp (q_under k o))), F, G, zsg) := by
  obtain ⟨d, rfl⟩ := zds hd
  refine g_M_isUnder k o _ ?_
  unfold q_under
  repeat' split
  all_goals first | (exfalso; omega) | rw [zp_t (by omega)] | rw [zp_f (by omega)]
theorem a_taken (hd : 5 ≤ d) (N : zNow ρ p F G) (c k : Int) : zAsk d 40 136 [zI c, zI k] F G := by
  obtain ⟨d, rfl⟩ := zds (show 1 ≤ d by omega)
  obtain ⟨hS, hC, hR, hp, hV, hP⟩ := N
  have hn8 := hV.1
  by_cases c1 : 0 ≤ k ∧ k ≤ 5
  · by_cases c2 : 0 ≤ c ∧ c < 64
    · have hr := zfd_r (P := fun t => (t : Int) ≠ -1 ∧ q_lies ρ p t c) (m := (ρ 71 8).toNat) (k := 0)
      have hs : zex d 229 [zR 44, zR 11, zI c] (F, G, zsg) = _ := s_leastThingIn (by omega) hS hC hV hP.1 c2.1 c2.2
      have hm : zex d 59 [zR 71, zI c, zI (-1)] (F, G, zsg) = _ := m_thingIn (by omega) hR hp hV hP.1
      generalize zfd (fun t => (t : Int) ≠ -1 ∧ q_lies ρ p t c) 0 (ρ 71 8).toNat = t at hr hs hm
      by_cases c3 : t = -1
      · refine zAsk.both (v := if ρ 75 c.toNat = 0 then (if zp (q_shut ρ p c) = 0 then -11 else -13) else -13) (g_C_taken c k _ ?_) (g_M_taken c k _ ?_)
        · rw [s_isKind (by omega), zbI_some, zp_t c1, if_neg (by decide), s_isCell (by omega), zbI_some, zp_t c2, if_neg (by decide), hs, zbI_some, if_pos (by omega), s_shutDoors_11 (by omega) hS hC hV, zbL_some, hC.2.2.2.2.2.2.2, zlor_eq, zset_or, s_has (by omega) c2.1 c2.2, zbI_some, zp_iff (zset_geti c2.1 c2.2)]
          by_cases c4 : ρ 75 c.toNat = 0
          · rw [if_pos c4]
            by_cases c5 : q_shut ρ p c
            · rw [zp_t (Or.inr c5), zp_t c5, if_neg (by decide), if_neg (by decide)]
            · rw [zp_f (fun q => q.elim (fun q => q c4) c5), zp_f c5, if_pos rfl, if_pos rfl]
          · rw [if_neg c4, zp_t (Or.inl c4), if_neg (by decide)]
        · rw [m_in (by omega), zbI_some, zp_t c1, if_neg (by decide), m_isCell (by omega), zbI_some, zp_t c2, if_neg (by decide), hm, zbI_some, if_pos c3, if_pos c2, hR.2.2.2.1, m_isShut (by omega) hR hp hV, zbI_some]
          repeat' split
          all_goals rfl
      · have hk := hV.2.2.2.1 t.toNat (by omega)
        refine zAsk.both (v := if zp (q_under (ρ 78 t.toNat) k) = 0 then -13 else t) (g_C_taken c k _ ?_) (g_M_taken c k _ ?_)
        · rw [s_isKind (by omega), zbI_some, zp_t c1, if_neg (by decide), s_isCell (by omega), zbI_some, zp_t c2, if_neg (by decide), hs, zbI_some, if_neg (by omega), if_pos (by omega), hC.2.2.2.1, s_isOf (by omega) hk.1 hk.2 c1.1 c1.2, zbI_some]
          split <;> rfl
        · rw [m_in (by omega), zbI_some, zp_t c1, if_neg (by decide), m_isCell (by omega), zbI_some, zp_t c2, if_neg (by decide), hm, zbI_some, if_neg c3, if_pos (by omega), hR.2.2.2.2.2.2.1, m_isUnder (by omega), zbI_some]
          split <;> rfl
    · refine zAsk.both (v := -12) (g_C_taken c k _ ?_) (g_M_taken c k _ ?_)
      · rw [s_isKind (by omega), zbI_some, zp_t c1, if_neg (by decide), s_isCell (by omega), zbI_some, zp_f c2, if_pos rfl]
      · rw [m_in (by omega), zbI_some, zp_t c1, if_neg (by decide), m_isCell (by omega), zbI_some, zp_f c2, if_pos rfl]
  · refine zAsk.both (v := -2) (g_C_taken c k _ ?_) (g_M_taken c k _ ?_)
    · rw [s_isKind (by omega), zbI_some, zp_f c1, if_pos rfl]
    · rw [m_in (by omega), zbI_some, zp_f c1, if_pos rfl]
end
