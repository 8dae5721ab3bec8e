/-! walls out of a sheet -/
noncomputable def q_wok (ρ : zM) (p : Nat → Int) (c : Int) : Prop := (0 ≤ c ∧ c < 64) ∧ ¬ (zfd (fun t => (t : Int) ≠ -1 ∧ q_lies ρ p t c) 0 (ρ 71 8).toNat ≠ -1 ∨ p 28 = c ∨ p 29 = c)
section
variable {d : Nat} {F ρ ρ' : zM} {G : zG} {p p' : Nat → Int}
theorem zRv.wall (hV : zRv ρ) {c : Nat} {w : Int} (hw : w = 0 ∨ w = 1) : zRv (zup ρ 75 c w) := by
  unfold zRv
  rw [zup_row (by decide), zup_row (by decide), zup_row (by decide), zup_row (by decide), zup_row (by decide), zup_fn]
  refine ⟨hV.1, hV.2.1, hV.2.2.1, hV.2.2.2.1, hV.2.2.2.2.1, hV.2.2.2.2.2.1, hV.2.2.2.2.2.2.1, hV.2.2.2.2.2.2.2.1, fun x hx => ?_⟩
  by_cases h : x = c
  · rw [h, zu_eq]; exact hw
  · rw [zu_ne h]; exact hV.2.2.2.2.2.2.2.2 x hx
theorem zPv.wall (hP : zPv ρ p) {c : Nat} {w : Int} : zPv (zup ρ 75 c w) p := hP.room (Int.le_of_eq (by rw [zup_row (by decide)])) (Int.le_of_eq (by rw [zup_row (by decide)])) (fun t _ => by rw [zup_row (by decide)])
/-- one wall more, for each side by itself -/
theorem a_wall1 (hV : zRv ρ) (hP : zPv ρ p) (c : Int) : ∃ v ρ', (-3 ≤ v ∧ v ≤ 1) ∧ zRv ρ' ∧ zPv ρ' p ∧ (∀ r, r ≠ 75 → ρ' r = ρ r) ∧
    (∀ (d : Nat) (F : zM) (G : zG), 6 ≤ d → zSC 11 p F → zCR ρ F G → ∃ G', zex d 1 [zR 5, zI c, zI 1] (F, G, zsg) = some (some (zI v), F, G', zsg) ∧ zCR ρ' F G' ∧ (∀ r, r ≠ 6 → G' r = G r)) ∧
    (∀ (d : Nat) (F : zM) (G : zG), 6 ≤ d → F 72 = p → zMR ρ F → ∃ F', zex d 77 [zR 71, zI c, zI 1] (F, G, zsg) = some (some (zI v), F', G, zsg) ∧ zMR ρ' F' ∧ (∀ r, r ≠ 75 → F' r = F r)) := by
  by_cases c1 : 0 ≤ c ∧ c < 64
  · by_cases c3 : zfd (fun t => (t : Int) ≠ -1 ∧ q_lies ρ p t c) 0 (ρ 71 8).toNat ≠ -1 ∨ p 28 = c ∨ p 29 = c
    · refine ⟨-3, ρ, by decide, hV, hP, fun _ _ => rfl, fun d F G hd hS hC => ⟨G, ?_, hC, fun _ _ => rfl⟩, fun d F G hd hp hR => ⟨F, ?_, hR, fun _ _ => rfl⟩⟩
      · obtain ⟨d, rfl⟩ := zds (show 1 ≤ d by omega)
        refine g_C_wall c 1 _ ?_
        rw [s_isCell (by omega), zbI_some, zp_t c1, if_neg (by decide), if_neg (by decide), if_pos (by decide), if_pos (by decide), s_isThingOrHandIn (by omega) hS hC hV hP.1 c1.1 c1.2, zbI_some, zp_t c3, if_neg (by decide)]
      · obtain ⟨d, rfl⟩ := zds (show 1 ≤ d by omega)
        refine g_M_wall c 1 _ ?_
        rw [m_isCell (by omega), zbI_some, zp_t c1, if_neg (by decide), m_in (by omega), zbI_some, zp_t (by decide), if_neg (by decide), if_pos (by decide), m_thingIn (by omega) hR hp hV hP.1, zbI_some]
        by_cases h : zfd (fun t => (t : Int) ≠ -1 ∧ q_lies ρ p t c) 0 (ρ 71 8).toNat = -1
        · rw [if_pos h, m_isHandIn (by omega) hp, zbI_some, zp_t (c3.resolve_left (fun q => q h)), if_neg (by decide)]
        · rw [if_neg h]
    · refine ⟨zp (ρ 75 c.toNat ≠ 0), zup ρ 75 c.toNat 1, by rcases zp_01 (ρ 75 c.toNat ≠ 0) with h | h <;> omega, hV.wall (Or.inr (Eq.refl _)), hP.wall, fun r hr => zup_row hr, fun d F G hd hS hC => ⟨zug G 6 0 (zset (fun x => zu (ρ 75) c.toNat 1 x.toNat ≠ 0)), ?_, ?_, fun r hr => zug_row hr⟩, fun d F G hd hp hR => ⟨zup F 75 c.toNat 1, ?_, ?_, fun r hr => zup_row hr⟩⟩
      · have bG : G 6 0 = zset (fun c => ρ 75 c.toNat ≠ 0) := hC.2.2.2.2.2.2.2
        have set1 : zlor (G 6 0) (zlshl (BitVec.ofNat 64 1) c) = zset (fun x => zu (ρ 75) c.toNat 1 x.toNat ≠ 0) := by
          rw [bG, zset_bit c1.1 c1.2, zlor_eq, zset_or]
          refine zset_congr fun x h0 h1 => ?_
          by_cases h : x = c
          · subst h; rw [zu_eq]; exact ⟨fun _ => by decide, fun _ => Or.inr (Eq.refl _)⟩
          · rw [zu_ne (by omega)]; exact ⟨fun q => q.elim id (fun q => absurd q h), Or.inl⟩
        have hhas : ∀ d, 1 ≤ d → zex d 152 [zL (G 6 0), zI c] (F, G, zsg) = some (some (zI (zp (ρ 75 c.toNat ≠ 0))), F, G, zsg) := by
          intro d hd
          rw [bG, s_has hd c1.1 c1.2, zp_iff (zset_geti c1.1 c1.2)]
        obtain ⟨d, rfl⟩ := zds (show 1 ≤ d by omega)
        refine g_C_wall c 1 _ ?_
        rw [s_isCell (by omega), zbI_some, zp_t c1, if_neg (by decide), if_neg (by decide), if_pos (by decide), if_pos (by decide), s_isThingOrHandIn (by omega) hS hC hV hP.1 c1.1 c1.2, zbI_some, zp_f c3, if_pos (by decide), hhas d (by omega), zbI_some]
        rcases zp_01 (ρ 75 c.toNat ≠ 0) with h | h
        · rw [h, if_pos rfl, if_pos rfl, s_bit (by omega), zbL_some, set1]
        · rw [h, if_neg (by decide), if_pos rfl, s_bit (by omega), zbL_some, set1]
      · unfold zCR
        rw [zug_eq, zup_row (by decide), zup_row (by decide), zup_row (by decide), zup_row (by decide), zup_row (by decide), zup_fn]
        exact ⟨hC.1, hC.2.1, hC.2.2.1, hC.2.2.2.1, hC.2.2.2.2.1, hC.2.2.2.2.2.1, hC.2.2.2.2.2.2.1, Eq.refl _⟩
      · have h1 : zfd (fun t => (t : Int) ≠ -1 ∧ q_lies ρ p t c) 0 (ρ 71 8).toNat = -1 := Classical.byContradiction fun q => c3 (Or.inl q)
        have m75 : F 75 = ρ 75 := hR.2.2.2.1
        obtain ⟨d, rfl⟩ := zds (show 1 ≤ d by omega)
        refine g_M_wall c 1 _ ?_
        rw [m_isCell (by omega), zbI_some, zp_t c1, if_neg (by decide), m_in (by omega), zbI_some, zp_t (by decide), if_neg (by decide), if_pos (by decide), m_thingIn (by omega) hR hp hV hP.1, zbI_some, if_pos h1, m_isHandIn (by omega) hp, zbI_some, zp_f (fun q => c3 (Or.inr q)), if_pos (by decide), if_pos c1, m75]
        by_cases h : ρ 75 c.toNat = 0
        · rw [if_pos h, if_pos rfl, if_pos c1, zp_f (fun q => q h)]
        · rw [if_neg h, if_pos rfl, if_pos c1, zp_t h]
      · exact ⟨by rw [zup_row (by decide), zup_row (by decide)]; exact hR.1, by rw [zup_row (by decide), zup_row (by decide)]; exact hR.2.1, by rw [zup_row (by decide), zup_row (by decide)]; exact hR.2.2.1, by rw [zup_fn, zup_fn, hR.2.2.2.1], by rw [zup_row (by decide), zup_row (by decide)]; exact hR.2.2.2.2.1, by rw [zup_row (by decide), zup_row (by decide)]; exact hR.2.2.2.2.2.1, by rw [zup_row (by decide), zup_row (by decide)]; exact hR.2.2.2.2.2.2.1, by rw [zup_row (by decide), zup_row (by decide)]; exact hR.2.2.2.2.2.2.2⟩
  · refine ⟨-1, ρ, by decide, hV, hP, fun _ _ => rfl, fun d F G hd hS hC => ⟨G, ?_, hC, fun _ _ => rfl⟩, fun d F G hd hp hR => ⟨F, ?_, hR, fun _ _ => rfl⟩⟩
    · obtain ⟨d, rfl⟩ := zds (show 1 ≤ d by omega)
      refine g_C_wall c 1 _ ?_
      rw [s_isCell (by omega), zbI_some, zp_f c1, if_pos rfl]
    · obtain ⟨d, rfl⟩ := zds (show 1 ≤ d by omega)
      refine g_M_wall c 1 _ ?_
      rw [m_isCell (by omega), zbI_some, zp_f c1, if_pos rfl]
theorem zadd_over {x y : Int} (h1 : 2147483647 < x + y) (h2 : x + y ≤ 4294967295) : zadd x y < 0 := by
  unfold zadd
  rw [Int32.toInt_add, Int32.toInt_ofInt, Int32.toInt_ofInt]
  have e : ((x.bmod (2 ^ 32)) + (y.bmod (2 ^ 32))).bmod (2 ^ 32) = (x + y).bmod (2 ^ 32) := by simp
  have e2 : (x + y).bmod (2 ^ 32) = x + y - 4294967296 := by
    rw [Int.bmod_def]
    have : (x + y) % ((2 ^ 32 : Nat) : Int) = x + y := Int.emod_eq_of_lt (by omega) (by omega)
    rw [this, if_neg (by omega)]
    rfl
  have e3 : ((x.bmod (2 ^ 32)) + (y.bmod (2 ^ 32))).bmod (2 ^ 32) < 0 := by
    rw [e, e2]
    omega
  exact e3
theorem a_walls_loop (hd : 6 ≤ d) {s : Nat} (hs : s < 4) {k st : Int} (hst : -2147483648 ≤ st ∧ st ≤ 2147483647) {n : Nat} (hn : n ≤ 40) {sz : Int} (hsz : 0 ≤ sz ∧ sz ≤ 40) {B : Nat → Int} : ∀ (m i : Nat) (cnt : Int) (ρ : zM), i + m = n → 0 ≤ cnt ∧ cnt ≤ i → (st < 0 → i = 0) → zRv ρ → zPv ρ p → ∃ v ρ', zRv ρ' ∧ zPv ρ' p ∧ (∀ r, r ≠ 75 → ρ' r = ρ r) ∧
    (∀ (F : zM) (G : zG), zSC 11 p F → zCR ρ F G → F 69 s = sz → (∀ x : Nat, (x : Int) < sz → F 70 (40 * s + x) = B x) → ∃ G', zev zX0 d (39, 70, [zR 5, zI s, zI k, zI st, zI n, zI cnt, zI i, zR 0], [], F, G, zsg) = some (some (zI v), F, G', zsg) ∧ zCR ρ' F G' ∧ (∀ r, r ≠ 6 → G' r = G r)) ∧
    (∀ (F : zM) (G : zG), F 72 = p → zMR ρ F → F 97 s = sz → (∀ x : Nat, (x : Int) < sz → F 98 (40 * s + x) = B x) → ∃ F', zev zX0 d (134, 64, [zR 71, zI s, zI k, zI st, zI n, zI cnt, zI i, zR 0, zR 0], [], F, G, zsg) = some (some (zI v), F', G, zsg) ∧ zMR ρ' F' ∧ (∀ r, r ≠ 75 → F' r = F r)) := by
  have g4 : 0 ≤ (s : Int) ∧ (s : Int) < 4 := by omega
  intro m
  induction m with
  | zero =>
    intro i cnt ρ hi hc hst0 hV hP
    refine ⟨cnt, ρ, hV, hP, fun _ _ => rfl, fun F G hS hC h1 h2 => ⟨G, g_C_walls_70 s k st n cnt i _ ?_, hC, fun _ _ => rfl⟩, fun F G hp hR h1 h2 => ⟨F, g_M_walls_64 s k st n cnt i _ ?_, hR, fun _ _ => rfl⟩⟩
    · rw [if_neg (by omega)]
    · rw [if_neg (by omega)]
  | succ m ih =>
    intro i cnt ρ hi hc hst0 hV hP
    have him : (i : Int) < n := by omega
    have zm : zmul 1 (i : Int) = i := by rw [zmul_eq (by omega) (by omega)]; omega
    by_cases c1 : 0 ≤ st ∧ st + i < sz
    · obtain ⟨a, rfl⟩ := Int.eq_ofNat_of_zero_le c1.1
      have za : zadd (a : Int) i = ((a + i : Nat) : Int) := by rw [zadd_eq (by omega) (by omega)]; omega
      obtain ⟨z1, z2⟩ := z_cellat (s := s) (i := a + i) hs (by omega)
      have g160 : 0 ≤ ((40 * s + (a + i) : Nat) : Int) ∧ ((40 * s + (a + i) : Nat) : Int) < 160 := by omega
      obtain ⟨v1, ρ1, w1, w2, w3, w4, w5, w6⟩ := a_wall1 hV hP (B (a + i))
      have hc1 : zadd cnt 1 = cnt + 1 := zadd_eq (by omega) (by omega)
      have hc0 : zadd cnt 0 = cnt := by rw [zadd_eq (by omega) (by omega)]; omega
      obtain ⟨v, ρ', u1, u2, u3, u4, u5⟩ := ih (i + 1) (if v1 < 0 then cnt else cnt + 1) ρ1 (by omega) (by split <;> omega) (fun q => by omega) w2 w3
      refine ⟨v, ρ', u1, u2, fun r hr => by rw [u3 r hr, w4 r hr], fun F G hS hC h1 h2 => ?_, fun F G hp hR h1 h2 => ?_⟩
      · obtain ⟨G1, e1, e2, e3⟩ := w5 d F G hd hS hC
        obtain ⟨G2, f1, f2, f3⟩ := u4 F G1 hS e2 h1 h2
        have N : zex d 211 [zR 67, zI s, zI ((a + i : Nat) : Int)] (F, G, zsg) = some (some (zI (B (a + i))), F, G, zsg) := by
          obtain ⟨d, rfl⟩ := zds (show 1 ≤ d by omega)
          refine g_Sheets_numberAt _ _ _ ?_
          rw [z1, if_pos g160, Int.toNat_natCast, h2 _ (by omega)]
        refine ⟨G2, g_C_walls_70 s k a n cnt i _ ?_, f2, fun r hr => by rw [f3 r hr, e3 r hr]⟩
        rw [if_pos him, za, if_neg (by omega), if_pos g4, Int.toNat_natCast, h1, if_pos (by omega), N, zbI_some, e1, zbI_some, zadd_eq (x := (i : Int)) (by omega) (by omega), ← zcast1, hc1]
        by_cases c : v1 < 0
        · rw [if_pos c] at f1 ⊢
          exact f1
        · rw [if_neg c] at f1 ⊢
          exact f1
      · obtain ⟨F1, e1, e2, e3⟩ := w6 d F G hd hp hR
        obtain ⟨F2, f1, f2, f3⟩ := u5 F1 G (by rw [e3 72 (by decide)]; exact hp) e2 (by rw [e3 97 (by decide)]; exact h1) (by rw [e3 98 (by decide)]; exact h2)
        refine ⟨F2, g_M_walls_64 s k a n cnt i _ ?_, f2, fun r hr => by rw [f3 r hr, e3 r hr]⟩
        rw [if_pos him, if_neg (by omega), zm, za, if_neg (by omega), if_pos g4, Int.toNat_natCast, h1, zsub_eq (by omega) (by omega), if_neg (by omega), z2, if_pos g160, Int.toNat_natCast, h2 _ (by omega), e1, zbI_some, zadd_eq (x := (i : Int)) (by omega) (by omega), ← zcast1, hc1, hc0]
        by_cases c : v1 < 0
        · rw [if_pos c] at f1 ⊢
          exact f1
        · rw [if_neg c] at f1 ⊢
          exact f1
    · refine ⟨-12, ρ, hV, hP, fun _ _ => rfl, fun F G hS hC h1 h2 => ⟨G, g_C_walls_70 s k st n cnt i _ ?_, hC, fun _ _ => rfl⟩, fun F G hp hR h1 h2 => ⟨F, g_M_walls_64 s k st n cnt i _ ?_, hR, fun _ _ => rfl⟩⟩
      · rw [if_pos him]
        by_cases o : zadd st i < 0
        · rw [if_pos o]
        · rw [if_neg o, if_pos g4, Int.toNat_natCast, h1, if_neg]
          rcases Int.lt_or_le 2147483647 (st + i) with q | q
          · exact absurd (zadd_over q (by omega)) o
          · rw [zadd_eq (by omega) q] at o ⊢
            omega
      · rw [if_pos him, zm]
        by_cases o : st < 0
        · rw [if_pos o]
        · rw [if_neg o]
          rcases Int.lt_or_le 2147483647 (st + i) with q | q
          · rw [if_pos (by have := zadd_over q (by omega); omega)]
          · rw [zadd_eq (by omega) q, if_neg (by omega), if_pos g4, Int.toNat_natCast, h1, zsub_eq (by omega) (by omega), if_pos (by omega)]
end
