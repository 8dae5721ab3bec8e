/-! the reference's queue -/
def zu (f : Nat → Int) (x : Nat) (v : Int) : Nat → Int := fun c => if c = x then v else f c
theorem zu_eq {f : Nat → Int} {x : Nat} {v : Int} : zu f x v x = v := by simp [zu]
theorem zu_ne {f : Nat → Int} {x c : Nat} {v : Int} (h : c ≠ x) : zu f x v c = f c := by simp [zu, h]
theorem zup_fn {F : zM} {k j : Nat} {v : Int} : zup F k j v k = zu (F k) j v := by
  funext b
  simp [zup, zu]
def q_I (T : Prop) (S : Int → Prop) (a : Int) (i n : Nat) (s : Int) (f q : Nat → Int) : Prop :=
  1 ≤ n ∧ zct (fun c => f c ≠ 1000) 64 = n ∧ (∀ j, j < n → (0 ≤ q j ∧ q j < 64) ∧ 0 ≤ f (q j).toNat ∧ f (q j).toNat ≤ j) ∧
  (∀ c : Nat, c < 64 → f c ≠ 1000 → (∃ j, j < n ∧ q j = c) ∧ q_L T S a (f c).toNat c) ∧
  (∀ j k, j ≤ k → k < n → f (q j).toNat ≤ f (q k).toNat) ∧ (i < n → ∀ j, j < n → f (q j).toNat ≤ f (q i).toNat + 1) ∧
  (∀ (j : Nat) (r : Int), j < n → (j < i ∨ (j = i ∧ r < s)) → 0 ≤ r → r < 4 → (T ∨ r % 2 = 1) → q_bes (q j) r ≠ -1 → S (q_bes (q j) r) → f (q_bes (q j) r).toNat ≠ 1000) ∧
  (0 ≤ a ∧ a < 64) ∧ f a.toNat ≠ 1000
section
variable {T : Prop} {S : Int → Prop} {a : Int} {i n : Nat} {s : Int} {f q : Nat → Int}
theorem q_I_n (I : q_I T S a i n s f q) : n ≤ 64 := by
  have := zct_le (fun c => f c ≠ 1000) 64
  rw [I.2.1] at this
  exact this
theorem q_I_start (ha : 0 ≤ a ∧ a < 64) (h1 : ∀ c : Nat, c < 64 → c ≠ a.toNat → f c = 1000) (h2 : f a.toNat = 0) (h3 : q 0 = a) : q_I T S a 0 1 0 f q := by
  have hv : ∀ c : Nat, c < 64 → f c ≠ 1000 → c = a.toNat := fun c hc hf => by
    rcases Classical.em (c = a.toNat) with h | h
    · exact h
    · exact absurd (h1 c hc h) hf
  refine ⟨Nat.le_refl _, ?_, fun j hj => ?_, fun c hc hf => ?_, fun j k hjk hk => ?_, fun _ j hj => ?_, fun j r hj hp => ?_, ha, by rw [h2]; decide⟩
  · have := zct_add (P := fun _ => False) (Q := fun c => f c ≠ 1000) (x := a.toNat) (n := 64) (by omega) (fun q => q) (by show f a.toNat ≠ 1000; rw [h2]; decide) (fun c hc hne => ⟨fun q => q.elim, fun q => hne (hv c hc q)⟩)
    have h0 : ∀ n, zct (fun _ => False) n = 0 := by
      intro n
      induction n with
      | zero => rfl
      | succ n ih => rw [zct_f (fun q => q), ih]
    rw [h0] at this
    exact this
  · have : j = 0 := by omega
    subst this
    rw [h3, h2]
    exact ⟨ha, by decide, by decide⟩
  · have := hv c hc hf
    subst this
    refine ⟨⟨0, by decide, by rw [h3]; omega⟩, ?_⟩
    rw [h2]
    show ((a.toNat : Nat) : Int) = a
    omega
  · have h4 : j = 0 := by omega
    have h5 : k = 0 := by omega
    subst h4; subst h5
    exact Int.le_refl _
  · have h4 : j = 0 := by omega
    subst h4
    omega
  · intro r0
    exfalso
    omega
theorem q_I_skip (I : q_I T S a i n s f q) (h : (T ∨ s % 2 = 1) → q_bes (q i) s ≠ -1 → S (q_bes (q i) s) → f (q_bes (q i) s).toNat ≠ 1000) : q_I T S a i n (s + 1) f q := by
  obtain ⟨i1, i2, i3, i4, i5, i6, i7, i8⟩ := I
  refine ⟨i1, i2, i3, i4, i5, i6, fun j r hj hp g1 g2 g3 g4 g5 => ?_, i8⟩
  by_cases hr : j = i ∧ r = s
  · obtain ⟨rfl, rfl⟩ := hr
    exact h g3 g4 g5
  · exact i7 j r hj (by omega) g1 g2 g3 g4 g5
theorem q_I_next (I : q_I T S a i n 4 f q) : q_I T S a (i + 1) n 0 f q := by
  obtain ⟨i1, i2, i3, i4, i5, i6, i7, i8⟩ := I
  refine ⟨i1, i2, i3, i4, i5, fun hi j hj => ?_, fun j r hj hp g1 g2 g3 g4 g5 => ?_, i8⟩
  · have h1 := i6 (by omega) j hj
    have h2 := i5 i (i + 1) (by omega) hi
    omega
  · exact i7 j r hj (by omega) g1 g2 g3 g4 g5
theorem q_I_add (hS : ∀ c, S c → 0 ≤ c ∧ c < 64) (I : q_I T S a i n s f q) (hi : i < n) (hs : 0 ≤ s ∧ s < 4) (hm : T ∨ s % 2 = 1) (h1 : q_bes (q i) s ≠ -1) (h2 : f (q_bes (q i) s).toNat = 1000) (h3 : S (q_bes (q i) s)) :
    n < 64 ∧ q_I T S a i (n + 1) (s + 1) (zu f (q_bes (q i) s).toNat (f (q i).toNat + 1)) (zu q n (q_bes (q i) s)) := by
  have hn := q_I_n I
  obtain ⟨i1, i2, i3, i4, i5, i6, i7, i8, i9⟩ := I
  obtain ⟨⟨u1, u2⟩, u3, u4⟩ := i3 i hi
  obtain ⟨⟨b1, b2⟩, b3⟩ := q_bes_rev u1 u2 hs h1
  generalize hto : q_bes (q i) s = b at h1 h2 h3 b1 b2 b3 ⊢
  have hold : ∀ j, j < n → zu f b.toNat (f (q i).toNat + 1) (q j).toNat = f (q j).toNat := by
    intro j hj
    refine zu_ne fun e => ?_
    have := (i3 j hj).2.2
    rw [e, h2] at this
    omega
  have hq : ∀ j, j < n → zu q n b j = q j := fun j hj => zu_ne (by omega)
  have hvis : ∀ c : Nat, f c ≠ 1000 → zu f b.toNat (f (q i).toNat + 1) c ≠ 1000 := by
    intro c hc
    by_cases hcb : c = b.toNat
    · rw [hcb, zu_eq]; omega
    · rw [zu_ne hcb]; exact hc
  have hcnt : zct (fun c => zu f b.toNat (f (q i).toNat + 1) c ≠ 1000) 64 = n + 1 := by
    rw [← i2]
    refine zct_add (x := b.toNat) (by omega) (fun q => q h2) (by show zu f b.toNat _ b.toNat ≠ 1000; rw [zu_eq]; omega) (fun c hc hne => ?_)
    show _ ↔ zu f b.toNat _ c ≠ 1000
    rw [zu_ne hne]
  have hn64 : n < 64 := by
    have := zct_le (fun c => zu f b.toNat (f (q i).toNat + 1) c ≠ 1000) 64
    rw [hcnt] at this
    omega
  -- all that is no farther than the cell in hand is known
  have hin : q_L T S a (f (q i).toNat).toNat (q i) := by
    have := (i4 (q i).toNat (by omega) (by omega)).2
    rw [Int.toNat_of_nonneg u1] at this
    exact this
  have known : ∀ m : Nat, (m : Int) ≤ f (q i).toNat → ∀ c, q_B T S a m c → f c.toNat ≠ 1000 := by
    intro m
    induction m with
    | zero =>
      intro _ c hc
      rw [show c = a from hc]
      exact i9
    | succ m ih =>
      intro hm2 c hc
      rcases hc with hc | ⟨hc, r, g1, g2, g3, g4⟩
      · exact ih (by omega) c hc
      · have hcc := hS c hc
        obtain ⟨hx, hrev⟩ := q_bes_rev hcc.1 hcc.2 g1 g3
        have hxv := ih (by omega) _ g4
        obtain ⟨⟨j, hj, hqj⟩, hL⟩ := i4 _ (by omega) hxv
        rw [Int.toNat_of_nonneg hx.1] at hqj hL
        have hjf := (i3 j hj).2.1
        rw [hqj] at hjf
        have hle : f (q_bes c r).toNat ≤ m := by
          rcases Int.lt_or_le (m : Int) (f (q_bes c r).toNat) with h | h
          · exact absurd g4 (q_L_not (by omega) hL)
          · exact h
        have hji : j < i := by
          rcases Nat.lt_or_ge j i with h | h
          · exact h
          · have := i5 i j h hj
            rw [hqj] at this
            omega
        have hr4 : 0 ≤ (r + 2) % 4 ∧ (r + 2) % 4 < 4 := by omega
        have := i7 j ((r + 2) % 4) hj (Or.inl hji) hr4.1 hr4.2 (g2.imp id (fun h => by omega)) (by rw [hqj, hrev]; omega) (by rw [hqj, hrev]; exact hc)
        rw [hqj, hrev] at this
        exact this
  have hnew : q_L T S a ((f (q i).toNat + 1).toNat) b := by
    rw [show (f (q i).toNat + 1).toNat = (f (q i).toNat).toNat + 1 by omega]
    refine ⟨Or.inr ⟨h3, (s + 2) % 4, by omega, hm.imp id (fun h => by omega), by rw [b3]; omega, ?_⟩, fun hB => ?_⟩
    · rw [b3]; exact q_L_B hin
    · exact known _ (by omega) b hB h2
  refine ⟨hn64, by omega, hcnt, fun j hj => ?_, fun c hc hf => ?_, fun j k hjk hk => ?_, fun _ j hj => ?_, fun j r hj hp g1 g2 g3 g4 => ?_, i8, hvis _ i9⟩
  · by_cases hjn : j = n
    · subst hjn
      rw [zu_eq, zu_eq]
      exact ⟨⟨b1, b2⟩, by omega, by omega⟩
    · rw [hq j (by omega), hold j (by omega)]
      exact i3 j (by omega)
  · by_cases hcb : c = b.toNat
    · subst hcb
      rw [zu_eq]
      refine ⟨⟨n, by omega, by rw [zu_eq]; omega⟩, ?_⟩
      rw [Int.toNat_of_nonneg b1]
      exact hnew
    · rw [zu_ne hcb] at hf ⊢
      obtain ⟨⟨j, hj, hqj⟩, hL⟩ := i4 c hc hf
      exact ⟨⟨j, by omega, by rw [hq j hj]; exact hqj⟩, hL⟩
  · by_cases hkn : k = n
    · subst hkn
      by_cases hjn : j = k
      · subst hjn; exact Int.le_refl _
      · rw [zu_eq, zu_eq, hq j (by omega), hold j (by omega)]
        exact i6 hi j (by omega)
    · rw [hq j (by omega), hold j (by omega), hq k (by omega), hold k (by omega)]
      exact i5 j k hjk (by omega)
  · rw [hq i hi, hold i hi]
    by_cases hjn : j = n
    · subst hjn
      rw [zu_eq, zu_eq]
      omega
    · rw [hq j (by omega), hold j (by omega)]
      exact i6 hi j (by omega)
  · have hjn : j < n := by omega
    rw [hq j hjn] at g4 ⊢
    intro g5
    by_cases hjr : j = i ∧ r = s
    · obtain ⟨rfl, rfl⟩ := hjr
      rw [hto, zu_eq]
      omega
    · exact hvis _ (i7 j r hjn (by omega) g1 g2 g3 g4 g5)
def zfo (x : Int) : Int := if x = -1 then 1000 else x
theorem q_I_end (hS : ∀ c, S c → 0 ≤ c ∧ c < 64) (I : q_I T S a i n s f q) (hi : n ≤ i) : ∀ c : Nat, c < 64 → f c = zfo (q_far T S a c) := by
  have hn := q_I_n I
  obtain ⟨i1, i2, i3, i4, i5, i6, i7, i8, i9⟩ := I
  intro c hc
  by_cases hf : f c = 1000
  · have known : ∀ (m : Nat) (c : Int), q_B T S a m c → f c.toNat ≠ 1000 := by
      intro m
      induction m with
      | zero =>
        intro c hc
        rw [show c = a from hc]
        exact i9
      | succ m ih =>
        intro c hc
        rcases hc with hc | ⟨hc, r, g1, g2, g3, g4⟩
        · exact ih c hc
        · have hcc := hS c hc
          obtain ⟨hx, hrev⟩ := q_bes_rev hcc.1 hcc.2 g1 g3
          have hxv := ih _ g4
          obtain ⟨⟨j, hj, hqj⟩, hL⟩ := i4 _ (by omega) hxv
          rw [Int.toNat_of_nonneg hx.1] at hqj
          have hr4 : 0 ≤ (r + 2) % 4 ∧ (r + 2) % 4 < 4 := by omega
          have := i7 j ((r + 2) % 4) hj (Or.inl (by omega)) hr4.1 hr4.2 (g2.imp id (fun h => by omega)) (by rw [hqj, hrev]; omega) (by rw [hqj, hrev]; exact hc)
          rw [hqj, hrev] at this
          exact this
    rw [q_far_none (fun k hk => known k c hk (by rw [Int.toNat_natCast]; exact hf)), hf]
    rfl
  · obtain ⟨⟨j, hj, hqj⟩, hL⟩ := i4 c hc hf
    obtain ⟨-, h0, h1⟩ := i3 j hj
    rw [hqj, Int.toNat_natCast] at h0 h1
    rw [q_far_some (by omega) hL]
    unfold zfo
    rw [if_neg (by omega)]
    omega
end
section
variable {d : Nat} {F ρ : zM} {G : zG} {p : Nat → Int}
theorem m_spreads (hd : 4 ≤ d) (hR : zMR ρ F) (hp : F 72 = p) (hV : zRv ρ) (hA : zPa ρ p) {h a held side : Int} (hh : h = 0 ∨ h = 1) (ha : 0 ≤ a ∧ a < 64) (hb : -1 ≤ held ∧ held < ρ 71 8) :
    ∃ F', zex d 66 [zR 71, zI h, zI a, zI held, zI side] (F, G, zsg) = some (none, F', G, zsg) ∧ (∀ r, r ≠ 99 → r ≠ 100 → F' r = F r) ∧ ∀ c : Nat, c < 64 → F' 99 c = zfo (q_far (q_T ρ held) (q_S ρ p h (q_but held) held side) a c) := by
  obtain ⟨d, rfl⟩ := zds (show 1 ≤ d by omega)
  have hn8 := hV.1.2
  have hScell : ∀ c, q_S ρ p h (q_but held) held side c → 0 ≤ c ∧ c < 64 := q_S_cell
  have hmay : ∀ s : Int, q_may ρ held s ↔ (q_T ρ held ∨ s % 2 = 1) := by
    intro s
    unfold q_may q_T
    constructor
    · rintro (q | q | q)
      · exact Or.inl (Or.inl q)
      · exact Or.inr q
      · exact Or.inl (Or.inr q)
    · rintro ((q | q) | q)
      · exact Or.inl q
      · exact Or.inr (Or.inr q)
      · exact Or.inr (Or.inl q)
  generalize hTe : q_T ρ held = T at hmay ⊢
  generalize hSe : q_S ρ p h (q_but held) held side = S at hScell ⊢
  have hmr : ∀ {F' : zM}, (∀ r, r ≠ 99 → r ≠ 100 → F' r = F r) → zMR ρ F' ∧ F' 72 = p := by
    intro F' hF
    exact ⟨hR.fr (hF 71 (by decide) (by decide)) (hF 75 (by decide) (by decide)) (hF 76 (by decide) (by decide)) (hF 77 (by decide) (by decide)) (hF 78 (by decide) (by decide)) (hF 79 (by decide) (by decide)), by rw [hF 72 (by decide) (by decide)]; exact hp⟩
  -- a cell's four sides
  have inner : ∀ (m k i n : Nat) (F1 : zM) (K : zQ → Prop), k + m = 4 → (∀ r, r ≠ 99 → r ≠ 100 → F1 r = F r) → i < n → q_I T S a i n k (F1 99) (F1 100) →
      (∀ (n' : Nat) (F2 : zM), (∀ r, r ≠ 99 → r ≠ 100 → F2 r = F r) → n ≤ n' → q_I T S a (i + 1) n' 0 (F2 99) (F2 100) → ∃ r, zev zX0 d (66, 46, [zR 71, zI h, zI a, zI held, zI side, zI n', zI ((i : Int) + 1), zR 0, zR 0], [], F2, G, zsg) = some r ∧ K r) →
      ∃ r, zev zX0 d (66, 56, [zR 71, zI h, zI a, zI held, zI side, zI n, zI i, zI k, zR 0], [], F1, G, zsg) = some r ∧ K r := by
    intro m
    induction m with
    | zero =>
      intro k i n F1 K hk hF hi I kk
      have hk4 : k = 4 := by omega
      subst hk4
      obtain ⟨r, e1, e2⟩ := kk n F1 hF (Nat.le_refl _) (q_I_next I)
      refine ⟨r, g_M_spreads_56 h a held side n i _ r ?_, e2⟩
      have hn := q_I_n I
      rw [if_neg (by decide), zadd_eq (by omega) (by omega)]
      exact e1
    | succ m ih =>
      intro k i n F1 K hk hF hi I kk
      obtain ⟨hR1, hp1⟩ := hmr hF
      have hn := q_I_n I
      obtain ⟨⟨u1, u2⟩, u3, u4⟩ := I.2.2.1 i hi
      have hskip : ((T ∨ (k : Int) % 2 = 1) → q_bes (F1 100 i) k ≠ -1 → S (q_bes (F1 100 i) k) → F1 99 (q_bes (F1 100 i) k).toNat ≠ 1000) → ∃ r, zev zX0 d (66, 56, [zR 71, zI h, zI a, zI held, zI side, zI n, zI i, zI ((k : Int) + 1), zR 0], [], F1, G, zsg) = some r ∧ K r := by
        intro hs
        have := ih (k + 1) i n F1 K (by omega) hF hi (by rw [zcast1]; exact q_I_skip I hs) kk
        rw [zcast1] at this
        exact this
      by_cases c1 : q_may ρ held k
      · have hT1 := (hmay k).mp c1
        have hbr := q_bes_r (F1 100 i) k
        by_cases c2 : q_bes (F1 100 i) k = -1
        · obtain ⟨r, e1, e2⟩ := hskip (fun _ q => absurd c2 q)
          refine ⟨r, g_M_spreads_56 h a held side n i k r ?_, e2⟩
          rw [if_pos (by omega), m_maySide (by omega) hR1 (by omega) (by omega), zbI_some, zp_t c1, if_neg (by decide), if_pos (by omega), Int.toNat_natCast, m_beside (by omega) u1 u2, zbI_some, if_pos c2, zadd_eq (by omega) (by omega)]
          exact e1
        · by_cases c3 : F1 99 (q_bes (F1 100 i) k).toNat = 1000
          · by_cases c4 : q_stand ρ p h held side (q_bes (F1 100 i) k)
            · have c5 : S (q_bes (F1 100 i) k) := by rw [← hSe]; exact (q_stand_S (by omega) (by omega)).mp c4
              obtain ⟨hn64, I'⟩ := q_I_add hScell I hi (by omega) hT1 c2 c3 c5
              have := ih (k + 1) i (n + 1) (zup (zup F1 99 (q_bes (F1 100 i) k).toNat (F1 99 (F1 100 i).toNat + 1)) 100 n (q_bes (F1 100 i) k)) K (by omega) (fun r r1 r2 => by rw [zup_row r2, zup_row r1]; exact hF r r1 r2) (by omega)
                (by rw [zcast1, zup_row (show (99 : Nat) ≠ 100 by decide), zup_fn, zup_fn, zup_row (show (100 : Nat) ≠ 99 by decide)]; exact I')
                (fun n' F2 a1 a2 a3 => kk n' F2 a1 (by omega) a3)
              obtain ⟨r, e1, e2⟩ := this
              refine ⟨r, g_M_spreads_56 h a held side n i k r ?_, e2⟩
              rw [zcast1, zcast1] at e1
              rw [if_pos (by omega), m_maySide (by omega) hR1 (by omega) (by omega), zbI_some, zp_t c1, if_neg (by decide), if_pos (by omega), Int.toNat_natCast, m_beside (by omega) u1 u2, zbI_some, if_neg c2, if_pos (by omega), if_pos c3, m_stands (by omega) hR1 hp1 hV hA hh (by omega) (by omega) hb, zbI_some, zp_t c4, if_neg (by decide), if_pos (by omega), if_pos (by omega), if_pos (by omega), if_pos (by omega), Int.toNat_natCast, zadd_eq (x := (n : Int)) (by omega) (by omega), zadd_eq (x := (k : Int)) (by omega) (by omega), zadd_eq (by omega) (by omega)]
              exact e1
            · obtain ⟨r, e1, e2⟩ := hskip (fun _ _ q => absurd (by rw [← hSe] at q; exact (q_stand_S (by omega) (by omega)).mpr q) c4)
              refine ⟨r, g_M_spreads_56 h a held side n i k r ?_, e2⟩
              rw [if_pos (by omega), m_maySide (by omega) hR1 (by omega) (by omega), zbI_some, zp_t c1, if_neg (by decide), if_pos (by omega), Int.toNat_natCast, m_beside (by omega) u1 u2, zbI_some, if_neg c2, if_pos (by omega), if_pos c3, m_stands (by omega) hR1 hp1 hV hA hh (by omega) (by omega) hb, zbI_some, zp_f c4, if_pos rfl, zadd_eq (by omega) (by omega)]
              exact e1
          · obtain ⟨r, e1, e2⟩ := hskip (fun _ _ _ => c3)
            refine ⟨r, g_M_spreads_56 h a held side n i k r ?_, e2⟩
            rw [if_pos (by omega), m_maySide (by omega) hR1 (by omega) (by omega), zbI_some, zp_t c1, if_neg (by decide), if_pos (by omega), Int.toNat_natCast, m_beside (by omega) u1 u2, zbI_some, if_neg c2, if_pos (by omega), if_neg c3, zadd_eq (by omega) (by omega)]
            exact e1
      · obtain ⟨r, e1, e2⟩ := hskip (fun q => absurd ((hmay k).mpr q) c1)
        refine ⟨r, g_M_spreads_56 h a held side n i k r ?_, e2⟩
        rw [if_pos (by omega), m_maySide (by omega) hR1 (by omega) (by omega), zbI_some, zp_f c1, if_pos rfl, zadd_eq (by omega) (by omega)]
        exact e1
  have outer : ∀ (m i n : Nat) (F1 : zM), i + m = 65 → (∀ r, r ≠ 99 → r ≠ 100 → F1 r = F r) → i ≤ n → q_I T S a i n 0 (F1 99) (F1 100) →
      ∃ r, zev zX0 d (66, 46, [zR 71, zI h, zI a, zI held, zI side, zI n, zI i, zR 0, zR 0], [], F1, G, zsg) = some r ∧ ∃ F', r = (none, F', G, zsg) ∧ (∀ r, r ≠ 99 → r ≠ 100 → F' r = F r) ∧ ∀ c : Nat, c < 64 → F' 99 c = zfo (q_far T S a c) := by
    intro m
    induction m with
    | zero =>
      intro i n F1 hi hF hin I
      have hn := q_I_n I
      omega
    | succ m ih =>
      intro i n F1 hi hF hin I
      have hn := q_I_n I
      by_cases hlt : i < n
      · obtain ⟨r, e1, e2⟩ := inner 4 0 i n F1 (fun r => ∃ F', r = (none, F', G, zsg) ∧ (∀ r, r ≠ 99 → r ≠ 100 → F' r = F r) ∧ ∀ c : Nat, c < 64 → F' 99 c = zfo (q_far T S a c)) (by omega) hF hlt I
          (fun n' F2 a1 a2 a3 => by
            have := ih (i + 1) n' F2 (by omega) a1 (by omega) a3
            rw [zcast1] at this
            exact this)
        refine ⟨r, g_M_spreads_46 h a held side n i r ?_, e2⟩
        rw [if_pos (by omega)]
        exact e1
      · refine ⟨(none, F1, G, zsg), g_M_spreads_46 h a held side n i _ ?_, F1, rfl, hF, q_I_end hScell I (by omega)⟩
        rw [if_neg (by omega)]
  have clear : ∀ (m k : Nat) (F1 : zM), k + m = 64 → (∀ r, r ≠ 99 → r ≠ 100 → F1 r = F r) → (∀ c, c < k → F1 99 c = 1000) →
      ∃ F', zev zX0 d (66, 3, [zR 71, zI h, zI a, zI held, zI side, zI k, zR 0, zR 0, zR 0], [], F1, G, zsg) = some (none, F', G, zsg) ∧ (∀ r, r ≠ 99 → r ≠ 100 → F' r = F r) ∧ ∀ c : Nat, c < 64 → F' 99 c = zfo (q_far T S a c) := by
    intro m
    induction m with
    | zero =>
      intro k F1 hk hF hc
      have hI : q_I T S a 0 1 0 ((zup (zup F1 99 a.toNat 0) 100 0 a) 99) ((zup (zup F1 99 a.toNat 0) 100 0 a) 100) := by
        rw [zup_row (show (99 : Nat) ≠ 100 by decide), zup_fn, zup_fn, zup_row (show (100 : Nat) ≠ 99 by decide)]
        exact q_I_start ha (fun c h1 h2 => by rw [zu_ne h2]; exact hc c (by omega)) zu_eq zu_eq
      obtain ⟨r, e1, F', rfl, e2, e3⟩ := outer 65 0 1 (zup (zup F1 99 a.toNat 0) 100 0 a) (by omega) (fun r r1 r2 => by rw [zup_row r2, zup_row r1]; exact hF r r1 r2) (by omega) hI
      refine ⟨F', g_M_spreads_3 h a held side k _ ?_, e2, e3⟩
      rw [if_neg (by omega), if_pos (by omega)]
      exact e1
    | succ m ih =>
      intro k F1 hk hF hc
      obtain ⟨F', e1, e2, e3⟩ := ih (k + 1) (zup F1 99 k 1000) (by omega) (fun r r1 r2 => by rw [zup_row r1]; exact hF r r1 r2) (fun c hck => by
        rw [zup_fn]
        by_cases h1 : c = k
        · subst h1; exact zu_eq
        · rw [zu_ne h1]; exact hc c (by omega))
      refine ⟨F', g_M_spreads_3 h a held side k _ ?_, e2, e3⟩
      rw [zcast1] at e1
      rw [if_pos (by omega), if_pos (by omega), zadd_eq (by omega) (by omega), Int.toNat_natCast]
      exact e1
  obtain ⟨F', e1, e2, e3⟩ := clear 64 0 F (by omega) (fun _ _ _ => rfl) (fun c hc => by omega)
  exact ⟨F', g_M_spreads h a held side _ e1, e2, e3⟩
theorem m_spreadsNow (hd : 5 ≤ d) (hR : zMR ρ F) (hp : F 72 = p) (hV : zRv ρ) (hA : zPa ρ p) {h : Int} (hh : h = 0 ∨ h = 1) (ha : 0 ≤ p (28 + h.toNat) ∧ p (28 + h.toNat) < 64) (hb : -1 ≤ p (30 + h.toNat) ∧ p (30 + h.toNat) < ρ 71 8) :
    ∃ F', zex d 67 [zR 71, zI h] (F, G, zsg) = some (none, F', G, zsg) ∧ (∀ r, r ≠ 99 → r ≠ 100 → F' r = F r) ∧ ∀ c : Nat, c < 64 → F' 99 c = zfo (q_far (q_T ρ (p (30 + h.toNat))) (q_S ρ p h (q_but (p (30 + h.toNat))) (p (30 + h.toNat)) (p (16 + (p (30 + h.toNat)).toNat))) (p (28 + h.toNat)) c) := by
  obtain ⟨d, rfl⟩ := zds (show 1 ≤ d by omega)
  have hn8 := hV.1.2
  have e30 : (30 + h).toNat = 30 + h.toNat := by omega
  have e28 : (28 + h).toNat = 28 + h.toNat := by omega
  by_cases hq : p (30 + h.toNat) = -1
  · obtain ⟨F', e1, e2, e3⟩ := m_spreads (d := d) (G := G) (by omega) hR hp hV hA hh ha hb (side := -1)
    refine ⟨F', g_M_spreadsNow h _ ?_, e2, fun c hc => ?_⟩
    · rw [zadd_eq (by omega) (by omega), zadd_eq (by omega) (by omega), hp, e30, e28, if_pos (by omega), if_pos (by omega), if_pos hq, e1, zbV_some]
    · rw [e3 c hc]
      have : q_S ρ p h (q_but (p (30 + h.toNat))) (p (30 + h.toNat)) (-1) = q_S ρ p h (q_but (p (30 + h.toNat))) (p (30 + h.toNat)) (p (16 + (p (30 + h.toNat)).toNat)) := by
        funext c
        unfold q_S
        rw [hq]
        simp
      rw [this]
  · obtain ⟨F', e1, e2, e3⟩ := m_spreads (d := d) (G := G) (by omega) hR hp hV hA hh ha hb (side := p (16 + (p (30 + h.toNat)).toNat))
    refine ⟨F', g_M_spreadsNow h _ ?_, e2, e3⟩
    have e16 : (16 + p (30 + h.toNat)).toNat = 16 + (p (30 + h.toNat)).toNat := by omega
    rw [zadd_eq (x := 30) (by omega) (by omega), zadd_eq (x := 28) (by omega) (by omega), hp, e30, e28, if_pos (by omega), if_pos (by omega), if_neg hq, zadd_eq (by omega) (by omega), e16, if_pos (by omega), e1, zbV_some]
end
