/-! the way told back from its end; way and step on both sides -/
noncomputable def q_as (T : Prop) (S : Int → Prop) (a : Int) (k : Nat) (c : Int) : Int := zfd (fun s => q_bes c s ≠ -1 ∧ q_L T S a k (q_bes c s)) 0 4
noncomputable def q_ahead (T : Prop) (S : Int → Prop) (a : Int) (k : Nat) (c : Int) : Int := q_bes c (q_as T S a k c)
/-- m steps back from a cell that is k far -/
noncomputable def q_back (T : Prop) (S : Int → Prop) (a : Int) : Nat → Nat → Int → Int
  | 0, _, c => c
  | _ + 1, 0, c => c
  | m + 1, k + 1, c => q_back T S a m k (q_ahead T S a k c)
section
variable {T : Prop} {S : Int → Prop} {a : Int}
theorem q_as_v {k : Nat} {c : Int} (h : q_L T S a (k + 1) c) : ∃ s : Nat, q_as T S a k c = s ∧ s < 4 ∧ q_bes c s ≠ -1 ∧ q_L T S a k (q_bes c s) ∧ ∀ r : Nat, r < s → ¬ (q_bes c r ≠ -1 ∧ q_L T S a k (q_bes c r)) := by
  obtain ⟨-, s, g1, -, g3, g4⟩ := q_L_pred h
  have h0 : 0 ≤ q_as T S a k c := by
    unfold q_as
    refine zfd_pos.mpr ⟨s.toNat, Nat.zero_le _, by omega, ?_⟩
    rw [Int.toNat_of_nonneg g1.1]
    exact ⟨g3, g4⟩
  obtain ⟨j, hj⟩ := Int.eq_ofNat_of_zero_le h0
  obtain ⟨-, h2, h3, h4⟩ := zfd_some (show zfd (fun s => q_bes c s ≠ -1 ∧ q_L T S a k (q_bes c s)) 0 4 = (j : Int) from hj)
  exact ⟨j, hj, by omega, h3.1, h3.2, fun r hr => h4 r (Nat.zero_le _) hr⟩
theorem q_ahead_L {k : Nat} {c : Int} (h : q_L T S a (k + 1) c) : q_L T S a k (q_ahead T S a k c) := by
  obtain ⟨s, h1, -, -, h2, -⟩ := q_as_v h
  unfold q_ahead
  rw [h1]
  exact h2
/-- what doesn't turn up stays in one row -/
theorem q_row (hT : ¬ T) (ha : 0 ≤ a ∧ a < 64) (hS : ∀ c, S c → 0 ≤ c ∧ c < 64) : ∀ {k : Nat} {c : Int}, q_B T S a k c → c / 8 = a / 8
  | 0, c, h => by rw [show c = a from h]
  | k + 1, c, h => by
    rcases h with h | ⟨h1, s, g1, g2, g3, g4⟩
    · exact q_row hT ha hS h
    · have hc := hS c h1
      have ih := q_row hT ha hS g4
      have hs : s % 2 = 1 := g2.elim (fun q => absurd q hT) id
      rcases z4 g1 with rfl | rfl | rfl | rfl
      · exact absurd hs (by decide)
      · rw [q_bes1 hc.1 hc.2] at g3 ih
        split at g3
        · rename_i g5
          rw [if_pos g5] at ih
          omega
        · exact absurd rfl g3
      · exact absurd hs (by decide)
      · rw [q_bes3 hc.1 hc.2] at g3 ih
        split at g3
        · rename_i g5
          rw [if_pos g5] at ih
          omega
        · exact absurd rfl g3
theorem q_side_may (ha : 0 ≤ a ∧ a < 64) (hS : ∀ c, S c → 0 ≤ c ∧ c < 64) {j k : Nat} {c s : Int} (hs : 0 ≤ s ∧ s < 4) (h1 : q_L T S a j c) (h2 : q_bes c s ≠ -1) (h3 : q_L T S a k (q_bes c s)) : T ∨ s % 2 = 1 := by
  rcases Classical.em T with hT | hT
  · exact Or.inl hT
  · right
    have hc := q_B_cell ha hS (q_L_B h1)
    have r1 := q_row hT ha hS (q_L_B h1)
    have r2 := q_row hT ha hS (q_L_B h3)
    rcases z4 hs with rfl | rfl | rfl | rfl
    · rw [q_bes0 hc.1 hc.2] at h2 r2
      split at h2
      · rename_i g5
        rw [if_pos g5] at r2
        omega
      · exact absurd rfl h2
    · decide
    · rw [q_bes2 hc.1 hc.2] at h2 r2
      split at h2
      · rename_i g5
        rw [if_pos g5] at r2
        omega
      · exact absurd rfl h2
    · decide
theorem q_back_L : ∀ {m k : Nat} {c : Int}, m ≤ k → q_L T S a k c → q_L T S a (k - m) (q_back T S a m k c)
  | 0, k, c, _, h => h
  | m + 1, 0, c, hm, _ => by omega
  | m + 1, k + 1, c, hm, h => by
    have := q_back_L (m := m) (k := k) (by omega) (q_ahead_L h)
    rw [show k + 1 - (m + 1) = k - m by omega]
    exact this
end
section
variable {d : Nat} {F ρ : zM} {G : zG} {p : Nat → Int} {T : Prop} {S : Int → Prop} {a : Int}
theorem s_cellAhead (hd : 3 ≤ d) (ha : 0 ≤ a ∧ a < 64) (hS : ∀ c, S c → 0 ≤ c ∧ c < 64) (hf : q_fl T S a F G) {k : Nat} {c : Int} (h : q_L T S a (k + 1) c) : zex d 237 [zR 44, zI c, zI k] (F, G, zsg) = some (some (zI (q_ahead T S a k c)), F, G, zsg) := by
  obtain ⟨d, rfl⟩ := zds (show 1 ≤ d by omega)
  obtain ⟨D, f1, f2, f3, f4, f5, f6, f7⟩ := hf
  have hk : k < D := by
    rcases Nat.lt_or_ge (k + 1) D with h1 | h1
    · omega
    · exact absurd h (f7 _ h1 c)
  have hk64 := q_L_64 ha hS h
  have hc := q_B_cell ha hS (q_L_B h)
  obtain ⟨s, hs1, hs2, hs3, hs4, hs5⟩ := q_as_v h
  have loop : ∀ m r : Nat, r + m = s → zev zX0 d (237, 2, [zR 44, zI c, zI k, zI r, zR 0], [], F, G, zsg) = some (some (zI (q_bes c s)), F, G, zsg) := by
    intro m
    induction m with
    | zero =>
      intro r hr
      have : r = s := by omega
      subst this
      refine g_Ways_cellAhead_2 c k r _ ?_
      have hb := q_bes_r c r
      rw [if_neg (by omega), s_beside (by omega) hc.1 hc.2, zbI_some, if_neg (by omega), if_pos (by omega), Int.toNat_natCast, f6 k hk, s_has (by omega) (by omega) (by omega), zbI_some, zp_iff (zset_geti (by omega) (by omega)), zp_t hs4, if_neg (by decide)]
    | succ m ih =>
      intro r hr
      have hn := ih (r + 1) (by omega)
      rw [zcast1] at hn
      refine g_Ways_cellAhead_2 c k r _ ?_
      have hb := q_bes_r c r
      have h5 := hs5 r (by omega)
      rw [if_neg (by omega), s_beside (by omega) hc.1 hc.2, zbI_some, zadd_eq (by omega) (by omega)]
      split
      · exact hn
      · rename_i e1
        rw [if_pos (by omega), Int.toNat_natCast, f6 k hk, s_has (by omega) (by omega) (by omega), zbI_some, zp_iff (zset_geti (by omega) (by omega)), zp_f (fun q => h5 ⟨by omega, q⟩), if_pos rfl]
        exact hn
  refine g_Ways_cellAhead c k _ ?_
  have := loop s 0 (by omega)
  rw [show ((0 : Nat) : Int) = 0 from rfl] at this
  unfold q_ahead
  rw [hs1]
  exact this
theorem s_cellOnWay (hd : 4 ≤ d) (ha : 0 ≤ a ∧ a < 64) (hS : ∀ c, S c → 0 ≤ c ∧ c < 64) (hf : q_fl T S a F G) {c i : Int} (h0 : 0 ≤ c) (h1 : c < 64) (hi : 0 ≤ i) (hfar : q_far T S a c ≠ -1) (hif : i ≤ q_far T S a c) : zex d 236 [zR 44, zI c, zI i] (F, G, zsg) = some (some (zI (q_back T S a (q_far T S a c - i).toNat (q_far T S a c).toNat c)), F, G, zsg) := by
  obtain ⟨d, rfl⟩ := zds (show 1 ≤ d by omega)
  have hr := q_far_r (T := T) (S := S) (a := a) (c := c)
  have hL := q_far_L hfar
  have loop : ∀ (m k : Nat) (x : Int), (k : Int) = i + m → k < 64 → q_L T S a k x → zev zX0 d (236, 9, [zR 44, zI c, zI i, zI x, zI k], [], F, G, zsg) = some (some (zI (q_back T S a m k x)), F, G, zsg) := by
    intro m
    induction m with
    | zero =>
      intro k x hk hk64 hL
      refine g_Ways_cellOnWay_9 c i x k _ ?_
      rw [if_neg (by omega)]
      cases k <;> rfl
    | succ m ih =>
      intro k x hk hk64 hL
      obtain ⟨k', rfl⟩ : ∃ k', k = k' + 1 := ⟨k - 1, by omega⟩
      have hx := q_B_cell ha hS (q_L_B hL)
      have hn := ih k' _ (by omega) (by omega) (q_ahead_L hL)
      refine g_Ways_cellOnWay_9 c i x ((k' + 1 : Nat) : Int) _ ?_
      rw [if_pos (by omega), if_neg (by omega), zsub_eq (by omega) (by omega), zadd_eq (by omega) (by omega), show ((k' + 1 : Nat) : Int) - 1 = (k' : Int) by omega, show ((k' + 1 : Nat) : Int) + -1 = (k' : Int) by omega, s_cellAhead (by omega) ha hS hf hL, zbI_some]
      exact hn
  refine g_Ways_cellOnWay c i _ ?_
  rw [s_farTo (by omega) ha hS h0 h1 hf, zbI_some]
  have := loop (q_far T S a c - i).toNat (q_far T S a c).toNat c (by omega) (by omega) hL
  rw [Int.toNat_of_nonneg (by omega)] at this
  exact this
theorem m_cellOn (hd : 3 ≤ d) (hR : zMR ρ F) (hp : F 72 = p) {h : Int} (hh : h = 0 ∨ h = 1) (hb : -1 ≤ p (30 + h.toNat) ∧ p (30 + h.toNat) < 8) (hTT : q_T ρ (p (30 + h.toNat)) ↔ T) (ha : 0 ≤ a ∧ a < 64) (hS : ∀ c, S c → 0 ≤ c ∧ c < 64) (hF : ∀ c : Nat, c < 64 → F 99 c = zfo (q_far T S a c)) {c i : Int} (h0 : 0 ≤ c) (h1 : c < 64) (hi : 0 ≤ i) (hfar : q_far T S a c ≠ -1) (hif : i ≤ q_far T S a c) :
    zex d 70 [zR 71, zI h, zI c, zI i] (F, G, zsg) = some (some (zI (q_back T S a (q_far T S a c - i).toNat (q_far T S a c).toNat c)), F, G, zsg) := by
  obtain ⟨d, rfl⟩ := zds (show 1 ≤ d by omega)
  have hr := q_far_r (T := T) (S := S) (a := a) (c := c)
  have hL := q_far_L hfar
  have hFi : ∀ x : Int, 0 ≤ x → x < 64 → F 99 x.toNat = zfo (q_far T S a x) := fun x x0 x1 => by
    rw [hF x.toNat (by omega), Int.toNat_of_nonneg x0]
  have hFL : ∀ (k : Nat) (x : Int), q_L T S a k x → F 99 x.toNat = k ∧ k < 64 := by
    intro k x hx
    have hxc := q_B_cell ha hS (q_L_B hx)
    have hk := q_L_64 ha hS hx
    rw [hFi x hxc.1 hxc.2, q_far_some hk hx]
    refine ⟨?_, hk⟩
    unfold zfo
    rw [if_neg (by omega)]
  have hFk : ∀ (k : Nat) (x : Int), k < 64 → 0 ≤ x → x < 64 → F 99 x.toNat = k → q_L T S a k x := by
    intro k x hk x0 x1 he
    rw [hFi x x0 x1] at he
    have hr2 := q_far_r (T := T) (S := S) (a := a) (c := x)
    unfold zfo at he
    split at he
    · omega
    · rename_i hne
      have := q_far_L hne
      rw [he, Int.toNat_natCast] at this
      exact this
  have loop : ∀ (m k : Nat) (x : Int), (k : Int) = i + m → k < 64 → q_L T S a k x → zev zX0 d (70, 14, [zR 71, zI h, zI c, zI i, zI (p (30 + h.toNat)), zI x, zR 0], [], F, G, zsg) = some (some (zI (q_back T S a m k x)), F, G, zsg) := by
    intro m
    induction m with
    | zero =>
      intro k x hk hk64 hL
      have hx := q_B_cell ha hS (q_L_B hL)
      refine g_M_cellOn_14 h c i _ x _ ?_
      rw [if_pos (by omega), (hFL k x hL).1, if_neg (by omega)]
      cases k <;> rfl
    | succ m ih =>
      intro k x hk hk64 hL
      obtain ⟨k', rfl⟩ : ∃ k', k = k' + 1 := ⟨k - 1, by omega⟩
      have hx := q_B_cell ha hS (q_L_B hL)
      have hn := ih k' _ (by omega) (by omega) (q_ahead_L hL)
      obtain ⟨s, hs1, hs2, hs3, hs4, hs5⟩ := q_as_v hL
      have inner : ∀ n r : Nat, r + n = s → zev zX0 d (70, 28, [zR 71, zI h, zI c, zI i, zI (p (30 + h.toNat)), zI x, zI r], [], F, G, zsg) = some (some (zI (q_back T S a m k' (q_ahead T S a k' x))), F, G, zsg) := by
        intro n
        induction n with
        | zero =>
          intro r hr
          have : r = s := by omega
          subst this
          have hm : q_may ρ (p (30 + h.toNat)) r := by
            rcases q_side_may ha hS (by omega) hL hs3 hs4 with q | q
            · rcases hTT.mpr q with q | q
              · exact Or.inl q
              · exact Or.inr (Or.inr q)
            · exact Or.inr (Or.inl q)
          have hb2 := q_bes_r x r
          refine g_M_cellOn_28 h c i _ x r _ ?_
          rw [m_maySide (by omega) hR hb (by omega), zbI_some, zp_t hm, if_neg (by decide), m_beside (by omega) hx.1 hx.2, zbI_some, if_neg hs3, m_beside (by omega) hx.1 hx.2, zbI_some, if_pos (by omega), if_pos (by omega), (hFL _ x hL).1, (hFL _ _ hs4).1, zsub_eq (by omega) (by omega), if_pos (by omega), m_beside (by omega) hx.1 hx.2, zbI_some]
          unfold q_ahead at hn
          rw [hs1] at hn
          unfold q_ahead
          rw [hs1]
          exact hn
        | succ n ihn =>
          intro r hr
          have hnx := ihn (r + 1) (by omega)
          rw [zcast1] at hnx
          have h5 := hs5 r (by omega)
          have hb2 := q_bes_r x r
          refine g_M_cellOn_28 h c i _ x r _ ?_
          rw [m_maySide (by omega) hR hb (by omega), zbI_some, m_beside (by omega) hx.1 hx.2, zadd_eq (by omega) (by omega)]
          split
          · exact hnx
          · rw [zbI_some]
            split
            · exact hnx
            · rename_i e2
              rw [m_beside (by omega) hx.1 hx.2, zbI_some, if_pos (by omega), (hFL _ x hL).1, zsub_eq (by omega) (by omega)]
              split
              · rename_i e3
                exact absurd ⟨e2, hFk k' _ (by omega) (by omega) (by omega) (by rw [e3]; omega)⟩ h5
              · exact hnx
      refine g_M_cellOn_14 h c i _ x _ ?_
      rw [if_pos (by omega), (hFL _ x hL).1, if_pos (by omega)]
      have := inner s 0 (by omega)
      rw [show ((0 : Nat) : Int) = 0 from rfl] at this
      exact this
  refine g_M_cellOn h c i _ ?_
  have e30 : (30 + h).toNat = 30 + h.toNat := by omega
  rw [zadd_eq (by omega) (by omega), if_pos (by omega), hp, e30]
  exact loop (q_far T S a c - i).toNat (q_far T S a c).toNat c (by omega) (by omega) hL
/-- what holds of a scene of the reference -/
def zHd (ρ : zM) (p : Nat → Int) : Prop := (∀ h : Nat, h < 2 → p (30 + h) ≠ -1 → p (8 + (p (30 + h)).toNat) = h ∧ p (28 + h) ≠ -1 ∧ (0 ≤ p (16 + (p (30 + h)).toNat) ∧ p (16 + (p (30 + h)).toNat) ≤ 3) ∧ p (p (30 + h)).toNat ≠ -1 ∧ p (p (30 + h)).toNat = q_heldAt (p (28 + h)) (p (16 + (p (30 + h)).toNat)) (ρ 79 (p (30 + h)).toNat)) ∧
  (∀ t h : Nat, t < 8 → h < 2 → p (8 + t) = h → p (30 + h) = t)
def zPv (ρ : zM) (p : Nat → Int) : Prop := zPa ρ p ∧ zHr p ∧ (∀ h : Nat, h < 2 → -1 ≤ p (30 + h) ∧ p (30 + h) < ρ 71 8) ∧ (∀ t : Nat, t < 8 → -1 ≤ p (8 + t) ∧ p (8 + t) ≤ 1) ∧ (∀ t : Nat, t < 8 → ρ 71 8 ≤ t → p t = -1 ∧ p (8 + t) = -1) ∧ (∀ e : Nat, e < 4 → p (24 + e) = 0 ∨ p (24 + e) = 1) ∧ (∀ e : Nat, e < 4 → ρ 71 5 ≤ e → p (24 + e) = 0) ∧ zHd ρ p
/-- the class's room and scene of now, and the reference's -/
def zNow (ρ : zM) (p : Nat → Int) (F : zM) (G : zG) : Prop := zSC 11 p F ∧ zCR ρ F G ∧ zMR ρ F ∧ F 72 = p ∧ zRv ρ ∧ zPv ρ p
/-- only what a question may write is changed -/
def zqc (F : zM) (G : zG) (F' : zM) (G' : zG) : Prop := (∀ r, r ≠ 44 → r ≠ 99 → r ≠ 100 → F' r = F r) ∧ (∀ r, r ≠ 44 → r ≠ 45 → G' r = G r)
theorem zqc.rfl {F : zM} {G : zG} : zqc F G F G := ⟨fun _ _ _ _ => Eq.refl _, fun _ _ _ => Eq.refl _⟩
theorem zqc.tr {F F' F'' : zM} {G G' G'' : zG} (h1 : zqc F G F' G') (h2 : zqc F' G' F'' G'') : zqc F G F'' G'' := ⟨fun r a b c => by rw [h2.1 r a b c, h1.1 r a b c], fun r a b => by rw [h2.2 r a b, h1.2 r a b]⟩
theorem zqc.c {F F' : zM} {G G' : zG} (h1 : ∀ r, r ≠ 44 → F' r = F r) (h2 : ∀ r, r ≠ 44 → r ≠ 45 → G' r = G r) : zqc F G F' G' := ⟨fun r a _ _ => h1 r a, h2⟩
theorem zqc.m {F F' : zM} {G : zG} (h1 : ∀ r, r ≠ 99 → r ≠ 100 → F' r = F r) : zqc F G F' G := ⟨fun r _ b c => h1 r b c, fun _ _ _ => Eq.refl _⟩
theorem zNow.q {F' : zM} {G' : zG} (h : zNow ρ p F G) (hq : zqc F G F' G') : zNow ρ p F' G' := by
  obtain ⟨h1, h2, h3, h4, h5, h6⟩ := h
  obtain ⟨q1, q2⟩ := hq
  have hr : ∀ r, r ≤ 43 → F' r = F r := fun r hr => q1 r (by omega) (by omega) (by omega)
  refine ⟨h1.fr (fun k hk => hr _ (by omega)), h2.fr (hr 6 (by decide)) (hr 7 (by decide)) (hr 8 (by decide)) (hr 9 (by decide)) (hr 10 (by decide)) (q2 6 (by decide) (by decide)), h3.fr (q1 71 (by decide) (by decide) (by decide)) (q1 75 (by decide) (by decide) (by decide)) (q1 76 (by decide) (by decide) (by decide)) (q1 77 (by decide) (by decide) (by decide)) (q1 78 (by decide) (by decide) (by decide)) (q1 79 (by decide) (by decide) (by decide)), ?_, h5, h6⟩
  rw [q1 72 (by decide) (by decide) (by decide)]
  exact h4
/-- both sides answer alike, and only what a question may write is changed -/
def zAsk (d : Nat) (c m : Nat) (as : List zV) (F : zM) (G : zG) : Prop := ∃ (v : Int) (F1 : zM) (G1 : zG) (F2 : zM), zex d c (zR 5 :: as) (F, G, zsg) = some (some (zI v), F1, G1, zsg) ∧ zex d m (zR 71 :: as) (F1, G1, zsg) = some (some (zI v), F2, G1, zsg) ∧ zqc F G F2 G1
abbrev n_held (p : Nat → Int) (h : Int) : Int := p (30 + h.toNat)
abbrev n_T (ρ : zM) (p : Nat → Int) (h : Int) : Prop := q_T ρ (p (30 + h.toNat))
abbrev n_S (ρ : zM) (p : Nat → Int) (h : Int) : Int → Prop := q_S ρ p h (q_but (p (30 + h.toNat))) (p (30 + h.toNat)) (p (16 + (p (30 + h.toNat)).toNat))
abbrev n_a (p : Nat → Int) (h : Int) : Int := p (28 + h.toNat)
theorem n_S_cell {h : Int} : ∀ c, n_S ρ p h c → 0 ≤ c ∧ c < 64 := q_S_cell
theorem zNow.flood (hd : 3 ≤ d) (N : zNow ρ p F G) {h : Int} (hh : h = 0 ∨ h = 1) (hc : p (28 + h.toNat) ≠ -1) : ∃ F' G', zex d 233 [zR 44, zR 11, zI h, zI 0] (F, G, zsg) = some (none, F', G', zsg) ∧ zqc F G F' G' ∧ (∀ r, r ≠ 44 → F' r = F r) ∧ q_fl (n_T ρ p h) (n_S ρ p h) (n_a p h) F' G' := by
  obtain ⟨h1, h2, h3, h4, h5, h6⟩ := N
  obtain ⟨F', G', e1, e2, e3, e4⟩ := s_floodFromHand_11 (W := 0) hd h1 h2 h5 h6.1 h6.2.1 hh hc (h6.2.2.1 _ (by omega)) (by decide)
  rw [q_bw0] at e4
  exact ⟨F', G', e1, zqc.c e2 e3, e2, e4⟩
theorem zNow.spread (hd : 5 ≤ d) (N : zNow ρ p F G) {h : Int} (hh : h = 0 ∨ h = 1) (hc : p (28 + h.toNat) ≠ -1) : ∃ F', zex d 67 [zR 71, zI h] (F, G, zsg) = some (none, F', G, zsg) ∧ zqc F G F' G ∧ (∀ r, r ≠ 99 → r ≠ 100 → F' r = F r) ∧ ∀ c : Nat, c < 64 → F' 99 c = zfo (q_far (n_T ρ p h) (n_S ρ p h) (n_a p h) c) := by
  obtain ⟨h1, h2, h3, h4, h5, h6⟩ := N
  have hr := h6.2.1 h.toNat (by omega)
  obtain ⟨F', e1, e2, e3⟩ := m_spreadsNow (G := G) hd h3 h4 h5 h6.1 hh (by omega) (h6.2.2.1 _ (by omega))
  exact ⟨F', e1, zqc.m e2, e2, e3⟩
theorem n_acell (N : zPv ρ p) {h : Int} (hh : h = 0 ∨ h = 1) (hc : p (28 + h.toNat) ≠ -1) : 0 ≤ n_a p h ∧ n_a p h < 64 := by
  have hr := N.2.1 h.toNat (by omega)
  unfold n_a
  omega
theorem zNow.pres (hd : 2 ≤ d) (N : zNow ρ p F G) {h : Int} : zex d 42 [zR 5, zI h] (F, G, zsg) = some (some (zI (zp ((0 ≤ h ∧ h ≤ 1) ∧ p (28 + h).toNat ≠ -1))), F, G, zsg) := s_isPresent hd N.1 (fun h hh => (N.2.2.2.2.2.2.1 h hh).1)
theorem zfo_1000 {x : Int} (h : -1 ≤ x ∧ x < 64) : zfo x = 1000 ↔ x = -1 := by
  unfold zfo
  split <;> omega
theorem zfo_eq {x : Int} (h : x ≠ -1) : zfo x = x := by
  unfold zfo
  rw [if_neg h]
theorem a_way (hd : 7 ≤ d) (N : zNow ρ p F G) (h c : Int) : zAsk d 10 69 [zI h, zI c] F G := by
  obtain ⟨d, rfl⟩ := zds (show 1 ≤ d by omega)
  by_cases c1 : (0 ≤ h ∧ h ≤ 1) ∧ p (28 + h).toNat ≠ -1
  · by_cases c2 : 0 ≤ c ∧ c < 64
    · have hh : h = 0 ∨ h = 1 := by omega
      have hc1 : p (28 + h.toNat) ≠ -1 := by rw [← show (28 + h).toNat = 28 + h.toNat by omega]; exact c1.2
      have ha := n_acell N.2.2.2.2.2 hh hc1
      obtain ⟨F1, G1, e1, e2, -, e3⟩ := N.flood (d := d) (by omega) hh hc1
      have N1 := N.q e2
      obtain ⟨F2, e4, e5, -, e6⟩ := N1.spread (d := d) (by omega) hh hc1
      have hr := q_far_r (T := n_T ρ p h) (S := n_S ρ p h) (a := n_a p h) (c := c)
      have hF2 : F2 99 c.toNat = zfo (q_far (n_T ρ p h) (n_S ρ p h) (n_a p h) c) := by rw [e6 _ (by omega), Int.toNat_of_nonneg c2.1]
      refine ⟨if q_far (n_T ρ p h) (n_S ρ p h) (n_a p h) c = -1 then -3 else q_far (n_T ρ p h) (n_S ρ p h) (n_a p h) c, F1, G1, F2, g_C_way h c _ ?_, g_M_way h c _ ?_, e2.tr e5⟩
      · rw [N.pres (by omega), zbI_some, zp_t c1, if_neg (by decide), s_isCell (by omega), zbI_some, zp_t c2, if_neg (by decide), e1, zbV_some, s_farTo (by omega) ha n_S_cell c2.1 c2.2 e3, zbI_some]
        by_cases hq : q_far (n_T ρ p h) (n_S ρ p h) (n_a p h) c = -1
        · rw [if_pos (by omega), if_pos hq]
        · rw [if_neg (by omega), if_neg hq]
      · rw [m_isThere (by omega) N1.2.2.2.1, zbI_some, zp_t c1, if_neg (by decide), m_isCell (by omega), zbI_some, zp_t c2, if_neg (by decide), e4, zbV_some, if_pos c2, hF2]
        by_cases hq : q_far (n_T ρ p h) (n_S ρ p h) (n_a p h) c = -1
        · rw [if_pos ((zfo_1000 hr).mpr hq), if_pos hq]
        · rw [if_neg (fun q => hq ((zfo_1000 hr).mp q)), if_pos c2, if_neg hq, zfo_eq hq]
    · refine ⟨-5, F, G, F, g_C_way h c _ ?_, g_M_way h c _ ?_, zqc.rfl⟩
      · rw [N.pres (by omega), zbI_some, zp_t c1, if_neg (by decide), s_isCell (by omega), zbI_some, zp_f c2, if_pos rfl]
      · rw [m_isThere (by omega) N.2.2.2.1, zbI_some, zp_t c1, if_neg (by decide), m_isCell (by omega), zbI_some, zp_f c2, if_pos rfl]
  · refine ⟨-5, F, G, F, g_C_way h c _ ?_, g_M_way h c _ ?_, zqc.rfl⟩
    · rw [N.pres (by omega), zbI_some, zp_f c1, if_pos rfl]
    · rw [m_isThere (by omega) N.2.2.2.1, zbI_some, zp_f c1, if_pos rfl]
theorem a_step (hd : 7 ≤ d) (N : zNow ρ p F G) (h c i : Int) : zAsk d 11 71 [zI h, zI c, zI i] F G := by
  obtain ⟨d, rfl⟩ := zds (show 1 ≤ d by omega)
  by_cases c1 : (0 ≤ h ∧ h ≤ 1) ∧ p (28 + h).toNat ≠ -1
  · by_cases c2 : 0 ≤ c ∧ c < 64
    · have hh : h = 0 ∨ h = 1 := by omega
      have hc1 : p (28 + h.toNat) ≠ -1 := by rw [← show (28 + h).toNat = 28 + h.toNat by omega]; exact c1.2
      have ha := n_acell N.2.2.2.2.2 hh hc1
      have hb := N.2.2.2.2.2.2.2.1 h.toNat (by omega)
      have hn8 := N.2.2.2.2.1.1.2
      obtain ⟨F1, G1, e1, e2, -, e3⟩ := N.flood (d := d) (by omega) hh hc1
      have N1 := N.q e2
      obtain ⟨F2, e4, e5, -, e6⟩ := N1.spread (d := d) (by omega) hh hc1
      have N2 := N1.q e5
      have hr := q_far_r (T := n_T ρ p h) (S := n_S ρ p h) (a := n_a p h) (c := c)
      have hF2 : F2 99 c.toNat = zfo (q_far (n_T ρ p h) (n_S ρ p h) (n_a p h) c) := by rw [e6 _ (by omega), Int.toNat_of_nonneg c2.1]
      by_cases hq : q_far (n_T ρ p h) (n_S ρ p h) (n_a p h) c = -1
      · refine ⟨-3, F1, G1, F2, g_C_step h c i _ ?_, g_M_step h c i _ ?_, e2.tr e5⟩
        · rw [N.pres (by omega), zbI_some, zp_t c1, if_neg (by decide), s_isCell (by omega), zbI_some, zp_t c2, if_neg (by decide), e1, zbV_some, s_farTo (by omega) ha n_S_cell c2.1 c2.2 e3, zbI_some, if_pos (by omega)]
        · rw [m_isThere (by omega) N1.2.2.2.1, zbI_some, zp_t c1, if_neg (by decide), m_isCell (by omega), zbI_some, zp_t c2, if_neg (by decide), e4, zbV_some, if_pos c2, hF2, if_pos ((zfo_1000 hr).mpr hq)]
      · by_cases hi : 0 ≤ i ∧ i ≤ q_far (n_T ρ p h) (n_S ρ p h) (n_a p h) c
        · refine ⟨q_back (n_T ρ p h) (n_S ρ p h) (n_a p h) (q_far (n_T ρ p h) (n_S ρ p h) (n_a p h) c - i).toNat (q_far (n_T ρ p h) (n_S ρ p h) (n_a p h) c).toNat c, F1, G1, F2, g_C_step h c i _ ?_, g_M_step h c i _ ?_, e2.tr e5⟩
          · rw [N.pres (by omega), zbI_some, zp_t c1, if_neg (by decide), s_isCell (by omega), zbI_some, zp_t c2, if_neg (by decide), e1, zbV_some, s_farTo (by omega) ha n_S_cell c2.1 c2.2 e3, zbI_some, if_neg (by omega), if_neg (by omega), if_neg (by omega), s_cellOnWay (by omega) ha n_S_cell e3 c2.1 c2.2 hi.1 hq hi.2, zbI_some]
          · rw [m_isThere (by omega) N1.2.2.2.1, zbI_some, zp_t c1, if_neg (by decide), m_isCell (by omega), zbI_some, zp_t c2, if_neg (by decide), e4, zbV_some, if_pos c2, hF2, if_neg (fun q => hq ((zfo_1000 hr).mp q)), if_pos c2, zfo_eq hq, m_in (by omega), zbI_some, zp_t hi, if_neg (by decide), m_cellOn (by omega) N2.2.2.1 N2.2.2.2.1 hh (by omega) Iff.rfl ha n_S_cell e6 c2.1 c2.2 hi.1 hq hi.2, zbI_some]
        · refine ⟨-3, F1, G1, F2, g_C_step h c i _ ?_, g_M_step h c i _ ?_, e2.tr e5⟩
          · rw [N.pres (by omega), zbI_some, zp_t c1, if_neg (by decide), s_isCell (by omega), zbI_some, zp_t c2, if_neg (by decide), e1, zbV_some, s_farTo (by omega) ha n_S_cell c2.1 c2.2 e3, zbI_some, if_neg (by omega)]
            split
            · rfl
            · rw [if_pos (by omega)]
          · rw [m_isThere (by omega) N1.2.2.2.1, zbI_some, zp_t c1, if_neg (by decide), m_isCell (by omega), zbI_some, zp_t c2, if_neg (by decide), e4, zbV_some, if_pos c2, hF2, if_neg (fun q => hq ((zfo_1000 hr).mp q)), if_pos c2, zfo_eq hq, m_in (by omega), zbI_some, zp_f hi, if_pos rfl]
    · refine ⟨-5, F, G, F, g_C_step h c i _ ?_, g_M_step h c i _ ?_, zqc.rfl⟩
      · rw [N.pres (by omega), zbI_some, zp_t c1, if_neg (by decide), s_isCell (by omega), zbI_some, zp_f c2, if_pos rfl]
      · rw [m_isThere (by omega) N.2.2.2.1, zbI_some, zp_t c1, if_neg (by decide), m_isCell (by omega), zbI_some, zp_f c2, if_pos rfl]
  · refine ⟨-5, F, G, F, g_C_step h c i _ ?_, g_M_step h c i _ ?_, zqc.rfl⟩
    · rw [N.pres (by omega), zbI_some, zp_f c1, if_pos rfl]
    · rw [m_isThere (by omega) N.2.2.2.1, zbI_some, zp_f c1, if_pos rfl]
end
