/-! ways in pure words: cells beside, what is come to in so many steps, how far -/
theorem q_bes0 {c : Int} (h1 : 0 ≤ c) (h2 : c < 64) : q_bes c 0 = if 8 ≤ c then c - 8 else -1 := by
  unfold q_bes q_at
  rw [if_pos rfl]
  repeat' split
  all_goals omega
theorem q_bes1 {c : Int} (h1 : 0 ≤ c) (h2 : c < 64) : q_bes c 1 = if c % 8 < 7 then c + 1 else -1 := by
  unfold q_bes q_at
  rw [if_neg (by decide), if_pos rfl]
  repeat' split
  all_goals omega
theorem q_bes2 {c : Int} (h1 : 0 ≤ c) (h2 : c < 64) : q_bes c 2 = if c < 56 then c + 8 else -1 := by
  unfold q_bes q_at
  rw [if_neg (by decide), if_neg (by decide), if_pos rfl]
  repeat' split
  all_goals omega
theorem q_bes3 {c : Int} (h1 : 0 ≤ c) (h2 : c < 64) : q_bes c 3 = if 0 < c % 8 then c - 1 else -1 := by
  unfold q_bes q_at
  rw [if_neg (by decide), if_neg (by decide), if_neg (by decide)]
  repeat' split
  all_goals omega
theorem z4 {s : Int} (h : 0 ≤ s ∧ s < 4) : s = 0 ∨ s = 1 ∨ s = 2 ∨ s = 3 := by omega
theorem q_bes_rev {c s : Int} (h1 : 0 ≤ c) (h2 : c < 64) (hs : 0 ≤ s ∧ s < 4) (h : q_bes c s ≠ -1) : (0 ≤ q_bes c s ∧ q_bes c s < 64) ∧ q_bes (q_bes c s) ((s + 2) % 4) = c := by
  rcases z4 hs with rfl | rfl | rfl | rfl
  · rw [q_bes0 h1 h2] at h ⊢
    split at h
    · rename_i g
      rw [if_pos g]
      refine ⟨by omega, ?_⟩
      show q_bes (c - 8) 2 = c
      rw [q_bes2 (by omega) (by omega), if_pos (by omega)]
      omega
    · exact absurd rfl h
  · rw [q_bes1 h1 h2] at h ⊢
    split at h
    · rename_i g
      rw [if_pos g]
      refine ⟨by omega, ?_⟩
      show q_bes (c + 1) 3 = c
      rw [q_bes3 (by omega) (by omega), if_pos (by omega)]
      omega
    · exact absurd rfl h
  · rw [q_bes2 h1 h2] at h ⊢
    split at h
    · rename_i g
      rw [if_pos g]
      refine ⟨by omega, ?_⟩
      show q_bes (c + 8) 0 = c
      rw [q_bes0 (by omega) (by omega), if_pos (by omega)]
      omega
    · exact absurd rfl h
  · rw [q_bes3 h1 h2] at h ⊢
    split at h
    · rename_i g
      rw [if_pos g]
      refine ⟨by omega, ?_⟩
      show q_bes (c - 1) 1 = c
      rw [q_bes1 (by omega) (by omega), if_pos (by omega)]
      omega
    · exact absurd rfl h
/-- beside a cell of a set (a step north or south only with what turns up) -/
def q_adj (T : Prop) (P : Int → Prop) (c : Int) : Prop := ∃ s : Int, (0 ≤ s ∧ s < 4) ∧ (T ∨ s % 2 = 1) ∧ q_bes c s ≠ -1 ∧ P (q_bes c s)
def q_B (T : Prop) (S : Int → Prop) (a : Int) : Nat → Int → Prop
  | 0, c => c = a
  | k + 1, c => q_B T S a k c ∨ (S c ∧ q_adj T (q_B T S a k) c)
def q_L (T : Prop) (S : Int → Prop) (a : Int) : Nat → Int → Prop
  | 0, c => c = a
  | k + 1, c => q_B T S a (k + 1) c ∧ ¬ q_B T S a k c
noncomputable def q_far (T : Prop) (S : Int → Prop) (a c : Int) : Int := zfd (fun k => q_L T S a k c) 0 64
section
variable {T : Prop} {S : Int → Prop} {a : Int}
theorem q_adj_mono {P Q : Int → Prop} {c : Int} (h : ∀ u, P u → Q u) : q_adj T P c → q_adj T Q c := fun ⟨s, h1, h2, h3, h4⟩ => ⟨s, h1, h2, h3, h _ h4⟩
theorem q_B_succ {k : Nat} {c : Int} (h : q_B T S a k c) : q_B T S a (k + 1) c := Or.inl h
theorem q_B_mono {j k : Nat} (hjk : j ≤ k) {c : Int} (h : q_B T S a j c) : q_B T S a k c := by
  induction hjk with
  | refl => exact h
  | step _ ih => exact q_B_succ ih
theorem q_L_B {k : Nat} {c : Int} (h : q_L T S a k c) : q_B T S a k c := by
  cases k with
  | zero => exact h
  | succ k => exact h.1
theorem q_L_not {j k : Nat} (hjk : j < k) {c : Int} (h : q_L T S a k c) : ¬ q_B T S a j c := by
  cases k with
  | zero => omega
  | succ k => exact fun q => h.2 (q_B_mono (by omega) q)
theorem q_L_uniq {j k : Nat} {c : Int} (h1 : q_L T S a j c) (h2 : q_L T S a k c) : j = k := by
  rcases Nat.lt_trichotomy j k with h | h | h
  · exact absurd (q_L_B h1) (q_L_not h h2)
  · exact h
  · exact absurd (q_L_B h2) (q_L_not h h1)
theorem q_B_L {k : Nat} {c : Int} (h : q_B T S a k c) : ∃ j, j ≤ k ∧ q_L T S a j c := by
  induction k with
  | zero => exact ⟨0, Nat.le_refl _, h⟩
  | succ k ih =>
    rcases Classical.em (q_B T S a k c) with h1 | h1
    · obtain ⟨j, h2, h3⟩ := ih h1
      exact ⟨j, by omega, h3⟩
    · exact ⟨k + 1, Nat.le_refl _, h, h1⟩
theorem q_B_cell (ha : 0 ≤ a ∧ a < 64) (hS : ∀ c, S c → 0 ≤ c ∧ c < 64) : ∀ {k : Nat} {c : Int}, q_B T S a k c → 0 ≤ c ∧ c < 64
  | 0, c, h => by rw [show c = a from h]; exact ha
  | k + 1, c, h => by
    rcases h with h | h
    · exact q_B_cell ha hS h
    · exact hS c h.1
theorem q_far_some {c : Int} {k : Nat} (hk : k < 64) (h : q_L T S a k c) : q_far T S a c = k := by
  unfold q_far
  have h1 : 0 ≤ zfd (fun k => q_L T S a k c) 0 64 := zfd_pos.mpr ⟨k, Nat.zero_le _, by omega, h⟩
  obtain ⟨j, hj⟩ := Int.eq_ofNat_of_zero_le h1
  obtain ⟨-, -, h2, -⟩ := zfd_some hj
  rw [hj, q_L_uniq h2 h]
theorem q_far_none {c : Int} (h : ∀ k, ¬ q_B T S a k c) : q_far T S a c = -1 := zfd_none.mpr fun k _ _ q => h k (q_L_B q)
theorem q_far_r {c : Int} : -1 ≤ q_far T S a c ∧ q_far T S a c < 64 := by
  have := zfd_r (P := fun k => q_L T S a k c) (m := 64) (k := 0)
  unfold q_far
  omega
theorem q_far_L {c : Int} (h : q_far T S a c ≠ -1) : q_L T S a (q_far T S a c).toNat c := by
  have hr := q_far_r (T := T) (S := S) (a := a) (c := c)
  obtain ⟨j, hj⟩ := Int.eq_ofNat_of_zero_le (show 0 ≤ q_far T S a c by omega)
  have h1 := zfd_some (show zfd (fun k => q_L T S a k c) 0 64 = (j : Int) from hj)
  rw [hj]
  exact h1.2.2.1
end
/-- how many numbers below n are so -/
noncomputable def zct (P : Nat → Prop) : Nat → Nat
  | 0 => 0
  | n + 1 => zct P n + @ite _ (P n) (Classical.propDecidable _) 1 0
theorem zct_t {P : Nat → Prop} {n : Nat} (h : P n) : zct P (n + 1) = zct P n + 1 := by simp only [zct]; rw [if_pos h]
theorem zct_f {P : Nat → Prop} {n : Nat} (h : ¬ P n) : zct P (n + 1) = zct P n := by simp only [zct]; rw [if_neg h]; rfl
theorem zct_le (P : Nat → Prop) : ∀ n, zct P n ≤ n
  | 0 => Nat.le_refl _
  | n + 1 => by
    have := zct_le P n
    rcases Classical.em (P n) with h | h
    · rw [zct_t h]; omega
    · rw [zct_f h]; omega
theorem zct_congr {P Q : Nat → Prop} : ∀ {n : Nat}, (∀ c, c < n → (P c ↔ Q c)) → zct P n = zct Q n
  | 0, _ => rfl
  | n + 1, h => by
    have ih := zct_congr (n := n) (fun c hc => h c (by omega))
    rcases Classical.em (P n) with h1 | h1
    · rw [zct_t h1, zct_t ((h n (by omega)).mp h1), ih]
    · rw [zct_f h1, zct_f (fun q => h1 ((h n (by omega)).mpr q)), ih]
theorem zct_add {P Q : Nat → Prop} {x : Nat} : ∀ {n : Nat}, x < n → ¬ P x → Q x → (∀ c, c < n → c ≠ x → (P c ↔ Q c)) → zct Q n = zct P n + 1
  | 0, h, _, _, _ => by omega
  | n + 1, hx, h1, h2, h => by
    by_cases hn : x = n
    · subst hn
      rw [zct_t h2, zct_f h1, zct_congr (P := P) (Q := Q) (fun c hc => h c (by omega) (by omega))]
    · have ih := zct_add (n := n) (by omega) h1 h2 (fun c hc hne => h c (by omega) hne)
      rcases Classical.em (P n) with h3 | h3
      · rw [zct_t h3, zct_t ((h n (by omega) (fun e => hn e.symm)).mp h3), ih]
      · rw [zct_f h3, zct_f (fun q => h3 ((h n (by omega) (fun e => hn e.symm)).mpr q)), ih]
theorem zct_mono {P Q : Nat → Prop} : ∀ {n : Nat}, (∀ c, c < n → P c → Q c) → zct P n ≤ zct Q n
  | 0, _ => Nat.le_refl _
  | n + 1, h => by
    have ih := zct_mono (n := n) (fun c hc => h c (by omega))
    rcases Classical.em (P n) with h1 | h1
    · rw [zct_t h1, zct_t (h n (by omega) h1)]; omega
    · rw [zct_f h1]
      rcases Classical.em (Q n) with h2 | h2
      · rw [zct_t h2]; omega
      · rw [zct_f h2]; exact ih
theorem zct_lt {P Q : Nat → Prop} {x : Nat} {n : Nat} (hx : x < n) (h1 : ¬ P x) (h2 : Q x) (h : ∀ c, c < n → P c → Q c) : zct P n < zct Q n := by
  have e := zct_add (P := P) (Q := fun c => P c ∨ c = x) hx h1 (Or.inr rfl) (fun c _ hne => ⟨fun q => Or.inl q, fun q => q.elim id (fun q => absurd q hne)⟩)
  have m := zct_mono (P := fun c => P c ∨ c = x) (Q := Q) (n := n) (fun c hc q => q.elim (h c hc) (fun q => by subst q; exact h2))
  omega
section
variable {T : Prop} {S : Int → Prop} {a : Int}
/-- ahead of a cell that is k + 1 far lies one that is k far -/
theorem q_L_pred {k : Nat} {c : Int} (h : q_L T S a (k + 1) c) : S c ∧ q_adj T (q_L T S a k) c := by
  obtain ⟨h1, h2⟩ := h
  rcases h1 with h1 | ⟨h1, s, g1, g2, g3, g4⟩
  · exact absurd h1 h2
  · refine ⟨h1, s, g1, g2, g3, ?_⟩
    cases k with
    | zero => exact g4
    | succ k =>
      refine ⟨g4, fun q => h2 ?_⟩
      exact Or.inr ⟨h1, s, g1, g2, g3, q⟩
theorem q_L_down (ha : 0 ≤ a ∧ a < 64) (hS : ∀ c, S c → 0 ≤ c ∧ c < 64) {k : Nat} {c : Int} (h : q_L T S a k c) : ∀ j, j ≤ k → ∃ u, (0 ≤ u ∧ u < 64) ∧ q_L T S a j u := by
  induction k generalizing c with
  | zero => intro j hj; exact ⟨c, q_B_cell ha hS (q_L_B h), by rw [show j = 0 by omega]; exact h⟩
  | succ k ih =>
    intro j hj
    by_cases hjk : j = k + 1
    · subst hjk; exact ⟨c, q_B_cell ha hS (q_L_B h), h⟩
    · obtain ⟨-, s, -, -, -, g⟩ := q_L_pred h
      exact ih g j (by omega)
theorem q_L_64 (ha : 0 ≤ a ∧ a < 64) (hS : ∀ c, S c → 0 ≤ c ∧ c < 64) {k : Nat} {c : Int} (h : q_L T S a k c) : k < 64 := by
  rcases Nat.lt_or_ge k 64 with hk | hk
  · exact hk
  · exfalso
    have key : ∀ j, j ≤ 64 → j + 1 ≤ zct (fun x => q_B T S a j (x : Int)) 64 := by
      intro j
      induction j with
      | zero =>
        intro _
        have := zct_lt (P := fun _ => False) (Q := fun x => q_B T S a 0 (x : Int)) (x := a.toNat) (n := 64) (by omega) (fun q => q) (show ((a.toNat : Nat) : Int) = a by omega) (fun _ _ q => q.elim)
        omega
      | succ j ih =>
        intro hj
        have h1 := ih (by omega)
        obtain ⟨u, hu, h2, h3⟩ := q_L_down ha hS h (j + 1) (by omega)
        have h2' : q_B T S a (j + 1) ((u.toNat : Nat) : Int) := by rw [Int.toNat_of_nonneg hu.1]; exact h2
        have h3' : ¬ q_B T S a j ((u.toNat : Nat) : Int) := by rw [Int.toNat_of_nonneg hu.1]; exact h3
        have := zct_lt (P := fun x => q_B T S a j (x : Int)) (Q := fun x => q_B T S a (j + 1) (x : Int)) (x := u.toNat) (n := 64) (by omega) h3' h2' (fun c _ q => q_B_succ q)
        omega
    have h1 := key 64 (Nat.le_refl _)
    have h2 := zct_le (fun x => q_B T S a 64 (x : Int)) 64
    omega
theorem q_far_iff (ha : 0 ≤ a ∧ a < 64) (hS : ∀ c, S c → 0 ≤ c ∧ c < 64) {c : Int} : q_far T S a c ≠ -1 ↔ ∃ k, q_B T S a k c := by
  constructor
  · intro h
    exact ⟨_, q_L_B (q_far_L h)⟩
  · rintro ⟨k, h⟩ e
    obtain ⟨j, -, h1⟩ := q_B_L h
    have h2 := q_L_64 ha hS h1
    rw [q_far_some h2 h1] at e
    omega
theorem q_far_eq (ha : 0 ≤ a ∧ a < 64) (hS : ∀ c, S c → 0 ≤ c ∧ c < 64) {c : Int} {k : Nat} : q_far T S a c = k ↔ q_L T S a k c := by
  constructor
  · intro h
    have := q_far_L (T := T) (S := S) (a := a) (c := c) (by omega)
    rw [h, Int.toNat_natCast] at this
    exact this
  · intro h
    exact q_far_some (q_L_64 ha hS h) h
theorem q_far_start : q_far T S a a = 0 := q_far_some (k := 0) (by decide) rfl
end
