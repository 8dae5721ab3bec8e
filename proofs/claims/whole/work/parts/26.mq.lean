/-! the room and the scene in pure words; what the reference's questions come to -/
def zMR (ρ F : zM) : Prop := F 71 5 = ρ 71 5 ∧ F 71 8 = ρ 71 8 ∧ F 71 11 = ρ 71 11 ∧ F 75 = ρ 75 ∧ F 76 = ρ 76 ∧ F 77 = ρ 77 ∧ F 78 = ρ 78 ∧ F 79 = ρ 79
theorem zMR.fr {ρ F F' : zM} (h : zMR ρ F) (h1 : F' 71 = F 71) (h2 : F' 75 = F 75) (h3 : F' 76 = F 76) (h4 : F' 77 = F 77) (h5 : F' 78 = F 78) (h6 : F' 79 = F 79) : zMR ρ F' := by
  unfold zMR
  rw [h1, h2, h3, h4, h5, h6]
  exact h
def zRv (ρ : zM) : Prop := (0 ≤ ρ 71 8 ∧ ρ 71 8 ≤ 8) ∧ (0 ≤ ρ 71 5 ∧ ρ 71 5 ≤ 4) ∧ (1 ≤ ρ 71 11 ∧ ρ 71 11 ≤ 99) ∧ (∀ t : Nat, t < 8 → 0 ≤ ρ 78 t ∧ ρ 78 t ≤ 5) ∧ (∀ t : Nat, t < 8 → 0 ≤ ρ 79 t ∧ ρ 79 t ≤ 2) ∧ (∀ t : Nat, (t : Int) < ρ 71 8 → 1 ≤ ρ 79 t) ∧ (∀ e : Nat, e < 4 → 0 ≤ ρ 76 e ∧ ρ 76 e < 64) ∧ (∀ e : Nat, e < 4 → -1 ≤ ρ 77 e ∧ ρ 77 e < 8) ∧ (∀ c : Nat, c < 64 → ρ 75 c = 0 ∨ ρ 75 c = 1)
/-- things lie in the room, in one row -/
def zPa (ρ : zM) (p : Nat → Int) : Prop := ∀ t : Nat, t < 8 → p t = -1 ∨ (0 ≤ p t ∧ p t < 64 ∧ p t % 8 + ρ 79 t ≤ 8)
theorem zPa.r {ρ : zM} {p : Nat → Int} (h : zPa ρ p) {t : Nat} (ht : t < 8) : -1 ≤ p t ∧ p t < 64 := by
  rcases h t ht with h1 | h1 <;> omega
def q_shut (ρ : zM) (p : Nat → Int) (c : Int) : Prop := ∃ e : Nat, (e : Int) < ρ 71 5 ∧ ρ 76 e = c ∧ p (24 + e) = 0
def q_lies (ρ : zM) (p : Nat → Int) (t : Nat) (c : Int) : Prop := p t ≠ -1 ∧ p t ≤ c ∧ c < p t + ρ 79 t
/-- what isn't free for a hand (another number: for none), as if some things weren't there -/
def q_tk (ρ : zM) (p : Nat → Int) (h : Int) (X : Nat → Prop) (c : Int) : Prop := ρ 75 c.toNat ≠ 0 ∨ q_shut ρ p c ∨ (∃ t : Nat, (t : Int) < ρ 71 8 ∧ ¬ X t ∧ q_lies ρ p t c) ∨ (∃ g : Nat, g < 2 ∧ (g : Int) ≠ h ∧ p (28 + g) = c)
abbrev q_but (b : Int) : Nat → Prop := fun t => (t : Int) = b
def q_stand (ρ : zM) (p : Nat → Int) (h held side c : Int) : Prop := ¬ q_tk ρ p h (q_but held) c ∧ (held ≠ -1 → q_heldAt c side (ρ 79 held.toNat) ≠ -1 ∧ ∀ k : Nat, (k : Int) < ρ 79 held.toNat → ¬ q_tk ρ p h (q_but held) (q_heldAt c side (ρ 79 held.toNat) + k))
def q_may (ρ : zM) (held s : Int) : Prop := held = -1 ∨ s % 2 = 1 ∨ q_tup (ρ 78 held.toNat)
/-- the least of m numbers from k on of which it holds -/
noncomputable def zfd (P : Nat → Prop) : Nat → Nat → Int
  | _, 0 => -1
  | k, m + 1 => @ite _ (P k) (Classical.propDecidable _) (k : Int) (zfd P (k + 1) m)
theorem zfd_t {P : Nat → Prop} {k m : Nat} (h : P k) : zfd P k (m + 1) = k := by simp only [zfd]; rw [if_pos h]
theorem zfd_f {P : Nat → Prop} {k m : Nat} (h : ¬ P k) : zfd P k (m + 1) = zfd P (k + 1) m := by simp only [zfd]; rw [if_neg h]
theorem zfd_none {P : Nat → Prop} : ∀ {m k : Nat}, zfd P k m = -1 ↔ ∀ t, k ≤ t → t < k + m → ¬ P t
  | 0, k => ⟨fun _ t h1 h2 => by omega, fun _ => rfl⟩
  | m + 1, k => by
    rcases Classical.em (P k) with h | h
    · rw [zfd_t h]
      exact ⟨fun e => by omega, fun e => absurd h (e k (Nat.le_refl _) (by omega))⟩
    · rw [zfd_f h, zfd_none]
      constructor
      · intro e t h1 h2
        by_cases ht : t = k
        · subst ht; exact h
        · exact e t (by omega) (by omega)
      · intro e t h1 h2
        exact e t (by omega) (by omega)
theorem zfd_some {P : Nat → Prop} : ∀ {m k t : Nat}, zfd P k m = (t : Int) → k ≤ t ∧ t < k + m ∧ P t ∧ ∀ u, k ≤ u → u < t → ¬ P u
  | 0, k, t => fun e => by simp only [zfd] at e; omega
  | m + 1, k, t => by
    rcases Classical.em (P k) with h | h
    · rw [zfd_t h]
      intro e
      have : k = t := by omega
      subst this
      exact ⟨Nat.le_refl _, by omega, h, fun u h1 h2 => by omega⟩
    · rw [zfd_f h]
      intro e
      obtain ⟨h1, h2, h3, h4⟩ := zfd_some e
      refine ⟨by omega, by omega, h3, fun u u1 u2 => ?_⟩
      by_cases hu : u = k
      · subst hu; exact h
      · exact h4 u (by omega) u2
theorem zfd_r {P : Nat → Prop} : ∀ {m k : Nat}, -1 ≤ zfd P k m ∧ zfd P k m < k + m
  | 0, k => by simp only [zfd]; omega
  | m + 1, k => by
    rcases Classical.em (P k) with h | h
    · rw [zfd_t h]; omega
    · rw [zfd_f h]
      have := zfd_r (P := P) (m := m) (k := k + 1)
      omega
theorem zfd_congr {P Q : Nat → Prop} : ∀ {m k : Nat}, (∀ t, k ≤ t → t < k + m → (P t ↔ Q t)) → zfd P k m = zfd Q k m
  | 0, _ => fun _ => rfl
  | m + 1, k => fun e => by
    have ih := zfd_congr (P := P) (Q := Q) (m := m) (k := k + 1) (fun t h1 h2 => e t (by omega) (by omega))
    have hk := e k (Nat.le_refl _) (by omega)
    rcases Classical.em (P k) with h | h
    · rw [zfd_t h, zfd_t (hk.mp h)]
    · rw [zfd_f h, zfd_f (fun q => h (hk.mpr q)), ih]
theorem zfd_pos {P : Nat → Prop} {m k : Nat} : 0 ≤ zfd P k m ↔ ∃ t, k ≤ t ∧ t < k + m ∧ P t := by
  have hr := zfd_r (P := P) (m := m) (k := k)
  constructor
  · intro h
    obtain ⟨t, ht⟩ := Int.eq_ofNat_of_zero_le h
    obtain ⟨h1, h2, h3, -⟩ := zfd_some ht
    exact ⟨t, h1, h2, h3⟩
  · rintro ⟨t, h1, h2, h3⟩
    rcases Classical.em (zfd P k m = -1) with h | h
    · exact absurd h3 (zfd_none.mp h t h1 h2)
    · omega
theorem zE_step {Q : Nat → Prop} {k : Nat} (h : ¬ Q k) : (∃ e, k + 1 ≤ e ∧ Q e) ↔ (∃ e, k ≤ e ∧ Q e) := by
  constructor
  · rintro ⟨e, h1, h2⟩
    exact ⟨e, by omega, h2⟩
  · rintro ⟨e, h1, h2⟩
    by_cases he : e = k
    · subst he; exact absurd h2 h
    · exact ⟨e, by omega, h2⟩
theorem zA_step {Q : Nat → Prop} {k : Nat} (h : Q k) : (∀ e, k + 1 ≤ e → Q e) ↔ (∀ e, k ≤ e → Q e) := by
  constructor
  · intro g e h1
    by_cases he : e = k
    · subst he; exact h
    · exact g e (by omega)
  · intro g e h1
    exact g e (by omega)
theorem zcast1 (k : Nat) : ((k + 1 : Nat) : Int) = (k : Int) + 1 := by omega
theorem q_heldAt_v {c s w : Int} (hw : 1 ≤ w) (h : q_heldAt c s w ≠ -1) : 0 ≤ q_heldAt c s w ∧ q_heldAt c s w < 64 ∧ q_heldAt c s w % 8 + w ≤ 8 := by
  unfold q_heldAt at *
  split
  · rename_i h1
    rw [if_pos h1] at h
    omega
  · rename_i h1
    rw [if_neg h1] at h
    exact absurd rfl h
section
variable {d : Nat} {F ρ : zM} {G : zG} {p : Nat → Int}
theorem m_in (hd : 1 ≤ d) {x a b : Int} : zex d 49 [zI x, zI a, zI b] (F, G, zsg) = some (some (zI (zp (a ≤ x ∧ x ≤ b))), F, G, zsg) := by
  obtain ⟨d, rfl⟩ := zds hd
  refine g_M_in x a b _ ?_
  repeat' split
  all_goals first | rw [zp_t (by omega)] | rw [zp_f (by omega)]
theorem m_isCell (hd : 2 ≤ d) {c : Int} : zex d 50 [zI c] (F, G, zsg) = some (some (zI (zp (0 ≤ c ∧ c < 64))), F, G, zsg) := by
  obtain ⟨d, rfl⟩ := zds (Nat.le_of_lt hd)
  refine g_M_isCell c _ ?_
  rw [m_in (by omega), zbI_some, if_pos (zp_01 _), zp_iff (show (0 ≤ c ∧ c ≤ 63) ↔ (0 ≤ c ∧ c < 64) by omega)]
theorem m_isThing (hd : 2 ≤ d) (hR : zMR ρ F) (hV : zRv ρ) {t : Int} : zex d 51 [zR 71, zI t] (F, G, zsg) = some (some (zI (zp (0 ≤ t ∧ t < ρ 71 8))), F, G, zsg) := by
  obtain ⟨d, rfl⟩ := zds (Nat.le_of_lt hd)
  refine g_M_isThing t _ ?_
  have h1 := hV.1
  rw [hR.2.1, zsub_eq (by omega) (by omega), m_in (by omega), zbI_some, if_pos (zp_01 _), zp_iff (show (0 ≤ t ∧ t ≤ ρ 71 8 - 1) ↔ (0 ≤ t ∧ t < ρ 71 8) by omega)]
theorem m_isHand (hd : 2 ≤ d) {c : Int} : zex d 52 [zI c] (F, G, zsg) = some (some (zI (zp (0 ≤ c ∧ c ≤ 1))), F, G, zsg) := by
  obtain ⟨d, rfl⟩ := zds (Nat.le_of_lt hd)
  refine g_M_isHand c _ ?_
  rw [m_in (by omega), zbI_some, if_pos (zp_01 _)]
theorem m_beside (hd : 1 ≤ d) {c s : Int} (h1 : 0 ≤ c) (h2 : c < 64) : zex d 53 [zI c, zI s] (F, G, zsg) = some (some (zI (q_bes c s)), F, G, zsg) := by
  obtain ⟨d, rfl⟩ := zds hd
  refine g_M_beside c s _ ?_
  rw [zrem_eq h1 (by omega) (by omega) (by omega), zadd_eq (by omega) (by omega), zadd_eq (by omega) (by omega), zsub_eq (by omega) (by omega), zsub_eq (by omega) (by omega)]
  unfold q_bes q_at
  split
  · split
    · rw [if_neg (by omega)]
    · rw [if_pos (by omega)]; congr 4; omega
  · split
    · split
      · rw [if_pos (by omega)]; congr 4; omega
      · rw [if_neg (by omega)]
    · split
      · split
        · rw [if_pos (by omega)]; congr 4; omega
        · rw [if_neg (by omega)]
      · split
        · rw [if_pos (by omega)]; congr 4; omega
        · rw [if_neg (by omega)]
theorem m_sidesOf (hd : 1 ≤ d) {k : Int} : zex d 54 [zI k] (F, G, zsg) = some (some (zI (q_sides k)), F, G, zsg) := by
  obtain ⟨d, rfl⟩ := zds hd
  refine g_M_sidesOf k _ ?_
  unfold q_sides
  repeat' split
  all_goals first | rfl | omega
theorem m_weightOf (hd : 1 ≤ d) {k w : Int} (h1 : 0 ≤ w) (h2 : w ≤ 2) : zex d 55 [zI k, zI w] (F, G, zsg) = some (some (zI (q_wt k w)), F, G, zsg) := by
  obtain ⟨d, rfl⟩ := zds hd
  refine g_M_weightOf k w _ ?_
  have e1 : zmul 2 w = 2 * w := zmul_eq (by omega) (by omega)
  rw [e1, zadd_eq (by omega) (by omega), zmul_eq (by omega) (by omega), zsub_eq (by omega) (by omega)]
  unfold q_wt
  repeat' split
  all_goals first | rfl | omega
theorem m_turnsUp (hd : 1 ≤ d) {k : Int} : zex d 56 [zI k] (F, G, zsg) = some (some (zI (zp (q_tup k))), F, G, zsg) := by
  obtain ⟨d, rfl⟩ := zds hd
  refine g_M_turnsUp k _ ?_
  unfold q_tup
  repeat' split
  all_goals first | rw [zp_t (by omega)] | rw [zp_f (by omega)]
theorem m_isShut (hd : 1 ≤ d) (hR : zMR ρ F) (hp : F 72 = p) (hV : zRv ρ) {c : Int} : zex d 58 [zR 71, zI c] (F, G, zsg) = some (some (zI (zp (q_shut ρ p c))), F, G, zsg) := by
  obtain ⟨d, rfl⟩ := zds hd
  obtain ⟨r1, r2, r3, r4, r5, r6, r7, r8⟩ := hR
  have hD := hV.2.1
  have loop : ∀ m k : Nat, (k : Int) + m = ρ 71 5 → zev zX0 d (58, 2, [zR 71, zI c, zI k], [], F, G, zsg) = some (some (zI (zp (∃ e : Nat, k ≤ e ∧ (e : Int) < ρ 71 5 ∧ ρ 76 e = c ∧ p (24 + e) = 0))), F, G, zsg) := by
    intro m
    induction m with
    | zero =>
      intro k hk
      refine g_M_isShut_2 c k _ ?_
      rw [r1, if_neg (by omega), zp_f]
      rintro ⟨e, h1, h2, -⟩
      omega
    | succ m ih =>
      intro k hk
      refine g_M_isShut_2 c k _ ?_
      have hn := ih (k + 1) (by omega)
      rw [zcast1] at hn
      rw [r1, if_pos (by omega), if_pos (by omega), r5, hp, zadd_eq (x := (24 : Int)) (by omega) (by omega), zadd_eq (y := (1 : Int)) (by omega) (by omega), show (24 + (k : Int)).toNat = 24 + k by omega, Int.toNat_natCast, if_pos (show 0 ≤ 24 + (k : Int) ∧ 24 + (k : Int) < 43 by omega)]
      split
      · rename_i h1
        split
        · rename_i h2
          rw [zp_t ⟨k, Nat.le_refl _, by omega, h1, h2⟩]
        · rename_i h2
          rw [hn, zp_iff (zE_step (fun q => h2 q.2.2))]
      · rename_i h1
        rw [hn, zp_iff (zE_step (fun q => h1 q.2.1))]
  refine g_M_isShut c _ ?_
  have := loop (ρ 71 5).toNat 0 (by omega)
  rw [show ((0 : Nat) : Int) = 0 from rfl] at this
  rw [this, zp_iff]
  unfold q_shut
  exact ⟨fun ⟨e, _, h⟩ => ⟨e, h⟩, fun ⟨e, h⟩ => ⟨e, Nat.zero_le _, h⟩⟩
theorem m_thingIn (hd : 1 ≤ d) (hR : zMR ρ F) (hp : F 72 = p) (hV : zRv ρ) (hA : zPa ρ p) {c b : Int} : zex d 59 [zR 71, zI c, zI b] (F, G, zsg) = some (some (zI (zfd (fun t => (t : Int) ≠ b ∧ q_lies ρ p t c) 0 (ρ 71 8).toNat)), F, G, zsg) := by
  obtain ⟨d, rfl⟩ := zds hd
  obtain ⟨r1, r2, r3, r4, r5, r6, r7, r8⟩ := hR
  have hT := hV.1
  have loop : ∀ m k : Nat, (k : Int) + m = ρ 71 8 → zev zX0 d (59, 2, [zR 71, zI c, zI b, zI k, zR 0], [], F, G, zsg) = some (some (zI (zfd (fun t => (t : Int) ≠ b ∧ q_lies ρ p t c) k m)), F, G, zsg) := by
    intro m
    induction m with
    | zero =>
      intro k hk
      refine g_M_thingIn_2 c b k _ ?_
      rw [r2, if_neg (by omega)]
      rfl
    | succ m ih =>
      intro k hk
      refine g_M_thingIn_2 c b k _ ?_
      have hn := ih (k + 1) (by omega)
      rw [zcast1] at hn
      have hk8 : k < 8 := by omega
      have ha := hA.r hk8
      have hw := hV.2.2.2.2.1 k hk8
      rw [r2, if_pos (by omega), r8, hp, zadd_eq (x := (0 : Int)) (by omega) (by omega), zadd_eq (y := (1 : Int)) (by omega) (by omega), Int.zero_add, Int.toNat_natCast, if_pos (by omega), zadd_eq (by omega) (by omega)]
      split
      · rename_i h1
        rw [hn, zfd_f (fun q => q.1 h1)]
      · rename_i h1
        split
        · rename_i h2
          rw [hn, zfd_f (fun q => q.2.1 h2)]
        · rename_i h2
          split
          · rename_i h3
            rw [hn, zfd_f (fun q => by have := q.2.2.1; omega)]
          · rename_i h3
            rw [if_pos (by omega)]
            split
            · rename_i h4
              rw [zfd_t ⟨h1, h2, by omega, h4⟩]
            · rename_i h4
              rw [hn, zfd_f (fun q => h4 q.2.2.2)]
  refine g_M_thingIn c b _ ?_
  have := loop (ρ 71 8).toNat 0 (by omega)
  rw [show ((0 : Nat) : Int) = 0 from rfl] at this
  exact this
theorem q_thing_none (hV : zRv ρ) {c b : Int} : zfd (fun t => (t : Int) ≠ b ∧ q_lies ρ p t c) 0 (ρ 71 8).toNat = -1 ↔ ¬ ∃ t : Nat, (t : Int) < ρ 71 8 ∧ ¬ q_but b t ∧ q_lies ρ p t c := by
  rw [zfd_none]
  have := hV.1
  constructor
  · rintro h ⟨t, h1, h2, h3⟩
    exact h t (Nat.zero_le _) (by omega) ⟨h2, h3⟩
  · intro h t h1 h2 h3
    exact h ⟨t, by omega, h3⟩
theorem q_hand_o {h c : Int} (hh : h = 0 ∨ h = 1) : (∃ g : Nat, g < 2 ∧ (g : Int) ≠ h ∧ p (28 + g) = c) ↔ p (29 - h).toNat = c := by
  constructor
  · rintro ⟨g, h1, h2, h3⟩
    rw [← h3]
    congr 1
    omega
  · intro h1
    refine ⟨(1 - h).toNat, by omega, by omega, ?_⟩
    rw [← h1]
    congr 1
    omega
theorem m_isFree (hd : 2 ≤ d) (hR : zMR ρ F) (hp : F 72 = p) (hV : zRv ρ) (hA : zPa ρ p) {h c b : Int} (hh : h = 0 ∨ h = 1) (h1 : 0 ≤ c) (h2 : c < 64) : zex d 60 [zR 71, zI h, zI c, zI b] (F, G, zsg) = some (some (zI (zp (¬ q_tk ρ p h (q_but b) c))), F, G, zsg) := by
  obtain ⟨d, rfl⟩ := zds (Nat.le_of_lt hd)
  refine g_M_isFree h c b _ ?_
  rw [if_pos ⟨h1, h2⟩, m_isShut (by omega) hR hp hV, zbI_some, m_thingIn (by omega) hR hp hV hA, zbI_some, hp, hR.2.2.2.1, zsub_eq (by omega) (by omega), if_pos (show 0 ≤ 29 - h ∧ 29 - h < 43 by omega)]
  unfold q_tk
  rw [q_hand_o hh]
  split
  · rename_i e1
    split
    · rename_i e2
      rw [zp_0] at e2
      split
      · rename_i e3
        rw [q_thing_none hV] at e3
        split
        · rename_i e4
          rw [zp_f (fun q => q (Or.inr (Or.inr (Or.inr e4))))]
        · rename_i e4
          rw [zp_t]
          rintro (q | q | q | q)
          · exact q e1
          · exact e2 q
          · exact e3 q
          · exact e4 q
      · rename_i e3
        rw [q_thing_none hV] at e3
        rw [zp_f (fun q => e3 (fun r => q (Or.inr (Or.inr (Or.inl r)))))]
    · rename_i e2
      rw [zp_0] at e2
      rw [zp_f (fun q => e2 (fun r => q (Or.inr (Or.inl r))))]
  · rename_i e1
    rw [zp_f (fun q => q (Or.inl e1))]
theorem m_heldAt (hd : 2 ≤ d) {c s w : Int} (h1 : 0 ≤ c) (h2 : c < 64) (h3 : 0 ≤ w) (h4 : w ≤ 2) : zex d 63 [zI c, zI s, zI w] (F, G, zsg) = some (some (zI (q_heldAt c s w)), F, G, zsg) := by
  obtain ⟨d, rfl⟩ := zds (Nat.le_of_lt hd)
  have e1 : zex d 61 [zI c, zI s, zI w] (F, G, zsg) = some (some (zI (c % 8 + q_ex s w)), F, G, zsg) := by
    obtain ⟨d, rfl⟩ := zds (show 1 ≤ d by omega)
    refine g_M_firstX c s w _ ?_
    rw [zrem_eq h1 (by omega) (by omega) (by omega), zsub_eq (by omega) (by omega), zadd_eq (by omega) (by omega)]
    unfold q_ex
    repeat' split
    all_goals (congr 4 <;> omega)
  have e2 : zex d 62 [zI c, zI s] (F, G, zsg) = some (some (zI (c / 8 + q_sy s)), F, G, zsg) := by
    obtain ⟨d, rfl⟩ := zds (show 1 ≤ d by omega)
    refine g_M_rowY c s _ ?_
    rw [zdiv_eq h1 (by omega) (by omega) (by omega), zsub_eq (by omega) (by omega), zadd_eq (by omega) (by omega)]
    unfold q_sy
    repeat' split
    all_goals (congr 4 <;> omega)
  refine g_M_heldAt c s w _ ?_
  have h5 := q_ex_r s h3 h4
  have h6 := q_sy_r s
  rw [e1, zbI_some, e2, zbI_some, zadd_eq (by omega) (by omega)]
  unfold q_heldAt
  split
  · rw [if_neg (by omega)]
  · split
    · rw [if_neg (by omega)]
    · split
      · rw [if_neg (by omega)]
      · split
        · rw [if_pos (by omega), zmul_eq (by omega) (by omega), zadd_eq (by omega) (by omega)]
        · rw [if_neg (by omega)]
theorem m_stands (hd : 3 ≤ d) (hR : zMR ρ F) (hp : F 72 = p) (hV : zRv ρ) (hA : zPa ρ p) {h c b s : Int} (hh : h = 0 ∨ h = 1) (h1 : 0 ≤ c) (h2 : c < 64) (hb : -1 ≤ b ∧ b < ρ 71 8) : zex d 64 [zR 71, zI h, zI c, zI b, zI s] (F, G, zsg) = some (some (zI (zp (q_stand ρ p h b s c))), F, G, zsg) := by
  obtain ⟨d, rfl⟩ := zds (show 1 ≤ d by omega)
  refine g_M_stands h c b s _ ?_
  rw [m_isFree (by omega) hR hp hV hA hh h1 h2, zbI_some]
  unfold q_stand
  split
  · rename_i e1
    rw [zp_0] at e1
    rw [zp_f (fun q => e1 q.1)]
  · rename_i e1
    rw [zp_0, Classical.not_not] at e1
    split
    · rename_i e2
      rw [zp_t ⟨e1, fun q => absurd e2 q⟩]
    · rename_i e2
      have hn8 := hV.1.2
      have hw := hV.2.2.2.2.1 b.toNat (by omega)
      have hw1 := hV.2.2.2.2.2.1 b.toNat (by omega)
      rw [if_pos (by omega), hR.2.2.2.2.2.2.2, m_heldAt (by omega) h1 h2 hw.1 hw.2, zbI_some]
      split
      · rename_i e3
        rw [zp_f (fun q => (q.2 e2).1 e3)]
      · rename_i e3
        have hv := q_heldAt_v hw1 e3
        generalize q_heldAt c s (ρ 79 b.toNat) = f at e3 hv ⊢
        have loop : ∀ m k : Nat, (k : Int) + m = ρ 79 b.toNat → zev zX0 d (64, 44, [zR 71, zI h, zI c, zI b, zI s, zI f, zI k], [], F, G, zsg) = some (some (zI (zp (∀ e : Nat, k ≤ e → (e : Int) < ρ 79 b.toNat → ¬ q_tk ρ p h (q_but b) (f + e)))), F, G, zsg) := by
          intro m
          induction m with
          | zero =>
            intro k hk
            refine g_M_stands_44 h c b s f k _ ?_
            rw [if_pos (by omega), hR.2.2.2.2.2.2.2, if_neg (by omega), zp_t]
            intro e q1 q2
            omega
          | succ m ih =>
            intro k hk
            refine g_M_stands_44 h c b s f k _ ?_
            have hn := ih (k + 1) (by omega)
            rw [zcast1] at hn
            rw [if_pos (by omega), hR.2.2.2.2.2.2.2, if_pos (by omega), zadd_eq (by omega) (by omega), zadd_eq (by omega) (by omega), m_isFree (by omega) hR hp hV hA hh (by omega) (by omega), zbI_some]
            split
            · rename_i e4
              rw [zp_0] at e4
              rw [zp_f (fun q => e4 (q k (Nat.le_refl _) (by omega)))]
            · rename_i e4
              rw [zp_0, Classical.not_not] at e4
              rw [hn, zp_iff (zA_step (Q := fun e => (e : Int) < ρ 79 b.toNat → ¬ q_tk ρ p h (q_but b) (f + e)) (fun _ => e4))]
        have := loop (ρ 79 b.toNat).toNat 0 (by omega)
        rw [show ((0 : Nat) : Int) = 0 from rfl] at this
        rw [this, zp_iff]
        exact ⟨fun q => ⟨e1, fun _ => ⟨e3, fun k hk => q k (Nat.zero_le _) hk⟩⟩, fun q k _ hk => (q.2 e2).2 k hk⟩
theorem m_maySide (hd : 2 ≤ d) (hR : zMR ρ F) {b s : Int} (hb : -1 ≤ b ∧ b < 8) (hs : 0 ≤ s ∧ s < 8) : zex d 65 [zR 71, zI b, zI s] (F, G, zsg) = some (some (zI (zp (q_may ρ b s))), F, G, zsg) := by
  obtain ⟨d, rfl⟩ := zds (Nat.le_of_lt hd)
  refine g_M_maySide b s _ ?_
  unfold q_may
  rw [zrem_eq (by omega) (by omega) (by omega) (by omega)]
  split
  · rename_i e1
    rw [zp_t (Or.inl e1)]
  · rename_i e1
    split
    · rename_i e2
      rw [zp_t (Or.inr (Or.inl e2))]
    · rename_i e2
      rw [if_pos (by omega), hR.2.2.2.2.2.2.1, m_turnsUp (by omega), zbI_some]
      split
      · rename_i e3
        rw [zp_0] at e3
        rw [zp_f]
        rintro (q | q | q)
        · exact e1 q
        · exact e2 q
        · exact e3 q
      · rename_i e3
        rw [zp_0, Classical.not_not] at e3
        rw [zp_t (Or.inr (Or.inr e3))]
theorem m_isThere (hd : 3 ≤ d) (hp : F 72 = p) {h : Int} : zex d 68 [zR 71, zI h] (F, G, zsg) = some (some (zI (zp ((0 ≤ h ∧ h ≤ 1) ∧ p (28 + h).toNat ≠ -1))), F, G, zsg) := by
  obtain ⟨d, rfl⟩ := zds (show 1 ≤ d by omega)
  refine g_M_isThere h _ ?_
  rw [m_isHand (by omega), zbI_some]
  split
  · rename_i e1
    rw [zp_0] at e1
    rw [zp_f (fun q => e1 q.1)]
  · rename_i e1
    rw [zp_0, Classical.not_not] at e1
    rw [zadd_eq (by omega) (by omega), if_pos (by omega), hp]
    split
    · rename_i e2
      rw [zp_f (fun q => q.2 e2)]
    · rename_i e2
      rw [zp_t ⟨e1, e2⟩]
theorem m_isHandIn (hd : 1 ≤ d) (hp : F 72 = p) {c : Int} : zex d 76 [zR 71, zI c] (F, G, zsg) = some (some (zI (zp (p 28 = c ∨ p 29 = c))), F, G, zsg) := by
  obtain ⟨d, rfl⟩ := zds hd
  refine g_M_isHandIn c _ ?_
  rw [hp]
  split
  · rename_i e1
    rw [zp_t (Or.inl e1)]
  · rename_i e1
    split
    · rename_i e2
      rw [zp_t (Or.inr e2)]
    · rename_i e2
      rw [zp_f (fun q => q.elim e1 e2)]
theorem q_hand_b {c : Int} : (∃ g : Nat, g < 2 ∧ (g : Int) ≠ -1 ∧ p (28 + g) = c) ↔ (p 28 = c ∨ p 29 = c) := by
  constructor
  · rintro ⟨g, h1, h2, h3⟩
    have : g = 0 ∨ g = 1 := by omega
    rcases this with rfl | rfl
    · exact Or.inl h3
    · exact Or.inr h3
  · rintro (h | h)
    · exact ⟨0, by decide, by decide, h⟩
    · exact ⟨1, by decide, by decide, h⟩
/-- a thing, so wide, can lie there -/
def q_can (ρ : zM) (p : Nat → Int) (b w c : Int) : Prop := c % 8 + w ≤ 8 ∧ ∀ k : Nat, (k : Int) < w → ¬ q_tk ρ p (-1) (q_but b) (c + k)
theorem m_canLie (hd : 2 ≤ d) (hR : zMR ρ F) (hp : F 72 = p) (hV : zRv ρ) (hA : zPa ρ p) {b w c : Int} (h1 : 0 ≤ c) (h2 : c < 64) (h3 : 1 ≤ w) (h4 : w ≤ 2) : zex d 79 [zR 71, zI b, zI w, zI c] (F, G, zsg) = some (some (zI (zp (q_can ρ p b w c))), F, G, zsg) := by
  obtain ⟨d, rfl⟩ := zds (Nat.le_of_lt hd)
  refine g_M_canLie b w c _ ?_
  rw [zrem_eq h1 (by omega) (by omega) (by omega), zadd_eq (by omega) (by omega)]
  unfold q_can
  split
  · rw [zp_f (fun q => by have := q.1; omega)]
  · rename_i e1
    have loop : ∀ m k : Nat, (k : Int) + m = w → zev zX0 d (79, 16, [zR 71, zI b, zI w, zI c, zI k], [], F, G, zsg) = some (some (zI (zp (∀ e : Nat, k ≤ e → (e : Int) < w → ¬ q_tk ρ p (-1) (q_but b) (c + e)))), F, G, zsg) := by
      intro m
      induction m with
      | zero =>
        intro k hk
        refine g_M_canLie_16 b w c k _ ?_
        rw [if_neg (by omega), zp_t]
        intro e q1 q2
        omega
      | succ m ih =>
        intro k hk
        refine g_M_canLie_16 b w c k _ ?_
        have hn := ih (k + 1) (by omega)
        rw [zcast1] at hn
        have hno : ∀ {P : Prop}, ¬ P → (P ↔ ¬ q_tk ρ p (-1) (q_but b) (c + k)) → zp (∀ e : Nat, k ≤ e → (e : Int) < w → ¬ q_tk ρ p (-1) (q_but b) (c + e)) = 0 := by
          intro P h1 h2
          exact zp_f (fun q => h1 (h2.mpr (q k (Nat.le_refl _) (by omega))))
        rw [if_pos (by omega), zadd_eq (x := c) (by omega) (by omega), zadd_eq (by omega) (by omega), if_pos (by omega), hR.2.2.2.1, m_isShut (by omega) hR hp hV, zbI_some, m_thingIn (by omega) hR hp hV hA, zbI_some, m_isHandIn (by omega) hp, zbI_some]
        have hk2 : ∀ q : ¬ ¬ q_tk ρ p (-1) (q_but b) (c + k), zp (∀ e : Nat, k ≤ e → (e : Int) < w → ¬ q_tk ρ p (-1) (q_but b) (c + e)) = 0 := fun q => zp_f (fun r => q (r k (Nat.le_refl _) (by omega)))
        split
        · rename_i f1
          split
          · rename_i f2
            rw [zp_0] at f2
            split
            · rename_i f3
              rw [q_thing_none hV] at f3
              split
              · rename_i f4
                rw [zp_0] at f4
                rw [hn, zp_iff (zA_step (Q := fun e => (e : Int) < w → ¬ q_tk ρ p (-1) (q_but b) (c + e)) (fun _ => ?_))]
                unfold q_tk
                rw [q_hand_b]
                rintro (q | q | q | q)
                · exact q f1
                · exact f2 q
                · exact f3 q
                · exact f4 q
              · rename_i f4
                rw [zp_0, Classical.not_not] at f4
                rw [hk2]
                unfold q_tk
                rw [q_hand_b]
                exact fun q => q (Or.inr (Or.inr (Or.inr f4)))
            · rename_i f3
              rw [q_thing_none hV, Classical.not_not] at f3
              rw [hk2]
              exact fun q => q (Or.inr (Or.inr (Or.inl f3)))
          · rename_i f2
            rw [zp_0, Classical.not_not] at f2
            rw [hk2]
            exact fun q => q (Or.inr (Or.inl f2))
        · rename_i f1
          rw [hk2]
          exact fun q => q (Or.inl f1)
    have := loop w.toNat 0 (by omega)
    rw [show ((0 : Nat) : Int) = 0 from rfl] at this
    rw [this, zp_iff]
    exact ⟨fun q => ⟨by omega, fun k hk => q k (Nat.zero_le _) hk⟩, fun q k _ hk => q.2 k hk⟩
end
