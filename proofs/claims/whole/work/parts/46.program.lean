/-! reading a program: both sides alike -/
def zPf1 (z : Nat) (F F' : zM) : Prop := (∀ j, j ≠ 7 → j ≠ 8 → F' 46 j = F 46 j) ∧ (∀ r, r ≠ 46 → r ≠ 49 → r ≠ 50 → r ≠ 51 → F' r = F r) ∧ (∀ j, j < z → F' 49 j = F 49 j ∧ F' 50 j = F 50 j ∧ F' 51 j = F 51 j)
def zPf2 (z : Nat) (F F' : zM) : Prop := (∀ j, j ≠ 42 → F' 71 j = F 71 j) ∧ (∀ r, r ≠ 71 → r ≠ 81 → r ≠ 82 → r ≠ 83 → F' r = F r) ∧ (∀ j, j < z → F' 81 j = F 81 j ∧ F' 82 j = F 82 j ∧ F' 83 j = F 83 j)
theorem zPf1.step {z : Nat} {F F1 F2 : zM} (h1 : zFr1 z F F1) (h2 : zPf1 (z + 1) F1 F2) : zPf1 z F F2 :=
  ⟨fun j a b => by rw [h2.1 j a b, h1.1 j a b], fun r a b c e => by rw [h2.2.1 r a b c e, h1.2.1 r a b c e], fun j hj => by
    have e1 := h2.2.2 j (by omega)
    have e2 := h1.2.2 j (by omega)
    exact ⟨e1.1.trans e2.1, e1.2.1.trans e2.2.1, e1.2.2.trans e2.2.2⟩⟩
theorem zPf2.step {z : Nat} {F F1 F2 : zM} (h1 : zFr2 z F F1) (h2 : zPf2 (z + 1) F1 F2) : zPf2 z F F2 :=
  ⟨fun j a => by rw [h2.1 j a, h1.1 j a], fun r a b c e => by rw [h2.2.1 r a b c e, h1.2.1 r a b c e], fun j hj => by
    have e1 := h2.2.2 j (by omega)
    have e2 := h1.2.2 j (by omega)
    exact ⟨e1.1.trans e2.1, e1.2.1.trans e2.2.1, e1.2.2.trans e2.2.2⟩⟩
def zPg1 (B : Nat → Int) (n : Int) (q l : Nat) (a ok ok' : Int) (l' : Nat) (a' : Int) (A N S : Nat → Int) : Prop := ∀ (d : Nat) (F : zM) (G : zG), 4 ≤ d → F 46 1 = n → F 46 2 = q → F 46 7 = a → F 47 = B → ∃ F', zev zX0 d (218, 9, [zR 46, zI l, zI ok], [], F, G, zsg) = (if ok' = 1 ∧ ¬ a' < n then some (some (zI (-1)), zup (zup (zup F' 46 1 0) 46 2 (q + 1)) 48 q l', G, zsg) else some (some (zI a'), zup F' 46 1 0, G, zsg)) ∧ zPf1 (12 * q + l) F F' ∧ (ok' = 1 → ∀ i, l ≤ i → i < l' → F' 49 (12 * q + i) = A i ∧ F' 50 (12 * q + i) = N i ∧ F' 51 (12 * q + i) = S i)
def zPg2 (B : Nat → Int) (n : Int) (q l : Nat) (a ok ok' : Int) (l' : Nat) (a' : Int) (A N S : Nat → Int) : Prop := ∀ (d : Nat) (F : zM) (G : zG), 4 ≤ d → F 71 18 = n → F 71 12 = q → F 71 42 = a → F 84 = B → ∃ F', zev zX0 d (102, 21, [zR 71, zI l, zI ok], [], F, G, zsg) = (if ok' = 1 ∧ ¬ a' < n then some (some (zI q), zup (zup (zup F' 71 18 0) 80 q l') 71 12 (q + 1), G, zsg) else some (some (zI (-100 - a')), zup F' 71 18 0, G, zsg)) ∧ zPf2 (12 * q + l) F F' ∧ (ok' = 1 → ∀ i, l ≤ i → i < l' → F' 81 (12 * q + i) = A i ∧ F' 82 (12 * q + i) = N i ∧ F' 83 (12 * q + i) = S i)
theorem s_placeOf {d : Nat} {F : zM} {G : zG} (hd : 1 ≤ d) {q l : Nat} (hq : q < 6) (hl : l < 13) : zex d 216 [zI q, zI l] (F, G, zsg) = some (some (zI ((12 * q + l : Nat) : Int)), F, G, zsg) := by
  obtain ⟨d, rfl⟩ := zds hd
  refine g_Tape_placeOf q l _ ?_
  rw [zmul_eq (by omega) (by omega), zadd_eq (by omega) (by omega), show (q : Int) * 12 + l = ((12 * q + l : Nat) : Int) by omega]
theorem a_prog {B : Nat → Int} {n : Int} {q : Nat} (hn : n ≤ 120) (hq : q < 6) : ∀ (m l : Nat) (a ok : Int), l + m = 12 → 0 ≤ a ∧ a ≤ n → ok = 0 ∨ ok = 1 → (l = 0 → ok = 1) → ∃ ok' l' a' A N S, (l ≤ l' ∧ l' ≤ 12) ∧ (ok' = 0 ∨ ok' = 1) ∧ (ok = 0 → ok' = 0) ∧ (a ≤ a' ∧ a' ≤ n) ∧ (ok' = 1 → ∀ i : Nat, l ≤ i → i < l' → q_aok (A i) (N i) (S i)) ∧ zPg1 B n q l a ok ok' l' a' A N S ∧ zPg2 B n q l a ok ok' l' a' A N S := by
  intro m
  -- the loop ends here
  have ends : ∀ (l : Nat) (a ok : Int), l ≤ 12 → 0 ≤ a ∧ a ≤ n → ok = 0 ∨ ok = 1 → (ok = 0 ∨ l = 12 ∨ (l ≠ 0 ∧ ¬ a < n)) → ∃ ok' l' a' A N S, (l ≤ l' ∧ l' ≤ 12) ∧ (ok' = 0 ∨ ok' = 1) ∧ (ok = 0 → ok' = 0) ∧ (a ≤ a' ∧ a' ≤ n) ∧ (ok' = 1 → ∀ i : Nat, l ≤ i → i < l' → q_aok (A i) (N i) (S i)) ∧ zPg1 B n q l a ok ok' l' a' A N S ∧ zPg2 B n q l a ok ok' l' a' A N S := by
    intro l a ok hl ha hok hend
    refine ⟨ok, l, a, fun _ => 0, fun _ => 0, fun _ => 0, by omega, hok, fun q => q, by omega, fun _ i h1 h2 => by omega, fun d F G hd h1 h2 h3 h4 => ⟨F, ?_, ⟨fun _ _ _ => rfl, fun _ _ _ _ _ => rfl, fun _ _ => ⟨rfl, rfl, rfl⟩⟩, fun _ i h1 h2 => by omega⟩, fun d F G hd h1 h2 h3 h4 => ⟨F, ?_, ⟨fun _ _ => rfl, fun _ _ _ _ _ => rfl, fun _ _ => ⟨rfl, rfl, rfl⟩⟩, fun _ i h1 h2 => by omega⟩⟩
    · have g6 : 0 ≤ (q : Int) ∧ (q : Int) < 6 := by omega
      by_cases c0 : ok = 0
      · rw [if_neg (by omega)]
        refine g_Tape_readProgram_9 l ok _ ?_
        rw [if_pos c0, if_pos c0, h3]
      · have zq : zadd (q : Int) 1 = q + 1 := zadd_eq (by omega) (by omega)
        by_cases c : a < n
        · have hl12 : ¬ (l : Int) < 12 := by omega
          rw [if_neg (by omega)]
          refine g_Tape_readProgram_9 l ok _ ?_
          rw [if_neg c0, if_neg hl12, if_neg c0, if_pos (by rw [h3, h1]; exact c), h3]
        · rw [if_pos (by omega)]
          refine g_Tape_readProgram_9 l ok _ ?_
          by_cases c12 : (l : Int) < 12
          · rw [if_neg c0, if_pos c12, if_neg (by omega), if_neg (by rw [h3, h1]; exact c), if_neg c0, if_neg (by rw [h3, h1]; exact c), h2, if_pos g6, Int.toNat_natCast, zq]
          · rw [if_neg c0, if_neg c12, if_neg c0, if_neg (by rw [h3, h1]; exact c), h2, if_pos g6, Int.toNat_natCast, zq]
    · have g6 : 0 ≤ (q : Int) ∧ (q : Int) < 6 := by omega
      have z100 : zsub (-100) a = -100 - a := zsub_eq (by omega) (by omega)
      by_cases c0 : ok = 0
      · rw [if_neg (by omega)]
        refine g_M_program_21 l ok _ ?_
        rw [if_pos c0, if_pos c0, h3, z100]
      · have zq : zadd (q : Int) 1 = q + 1 := zadd_eq (by omega) (by omega)
        have zq1 : zsub ((q : Int) + 1) 1 = q := by rw [zsub_eq (by omega) (by omega)]; omega
        by_cases c : a < n
        · have hl12 : ¬ (l : Int) < 12 := by omega
          rw [if_neg (by omega)]
          refine g_M_program_21 l ok _ ?_
          rw [if_neg c0, if_neg hl12, if_neg c0, if_neg (by rw [h3, h1]; omega), h3, z100]
        · rw [if_pos (by omega)]
          refine g_M_program_21 l ok _ ?_
          by_cases c12 : (l : Int) < 12
          · rw [if_neg c0, if_pos c12, if_neg (by omega), if_neg (by rw [h3, h1]; exact c), if_neg c0, if_pos (by rw [h3, h1]; omega), h2, if_pos g6, Int.toNat_natCast, zq, zq1]
          · rw [if_neg c0, if_neg c12, if_neg c0, if_pos (by rw [h3, h1]; omega), h2, if_pos g6, Int.toNat_natCast, zq, zq1]
  induction m with
  | zero => exact fun l a ok hl ha hok _ => ends l a ok (by omega) ha hok (Or.inr (Or.inl (by omega)))
  | succ m ih =>
    intro l a ok hl ha hok hok0
    by_cases hend : ok = 0 ∨ l = 12 ∨ (l ≠ 0 ∧ ¬ a < n)
    · exact ends l a ok (by omega) ha hok hend
    · have hok1 : ok = 1 := by omega
      subst hok1
      obtain ⟨ok1, a1, k, w, s, g1, g2, R1, R2⟩ := a_act (B := B) hn ha (x := ((12 * q + l : Nat) : Int)) (by omega)
      obtain ⟨ok', l', a', A, N, S, i1, i2, i2b, i3, i4, P1, P2⟩ := ih (l + 1) a1 ok1 (by omega) (by omega) (by omega) (fun q => by omega)
      have hx : ((12 * q + l : Nat) : Int).toNat = 12 * q + l := Int.toNat_natCast _
      have hl0 : (l : Int) < 12 := by omega
      have again : ∀ i : Nat, l ≤ i → i < l' → i ≠ l → l + 1 ≤ i := fun i h1 _ h3 => by omega
      have z1 : zadd (l : Int) 1 = ((l + 1 : Nat) : Int) := by rw [zadd_eq (by omega) (by omega)]; omega
      refine ⟨ok', l', a', zu A l k, zu N l w, zu S l s, by omega, i2, fun q => absurd q (by decide), by omega, fun h i h1 h2 => ?_, fun d F G hd h1 h2 h3 h4 => ?_, fun d F G hd h1 h2 h3 h4 => ?_⟩
      · by_cases hi : i = l
        · subst hi
          rw [zu_eq, zu_eq, zu_eq]
          exact (g2.resolve_left (fun q => by have := i2b q; omega)).2
        · rw [zu_ne hi, zu_ne hi, zu_ne hi]
          exact i4 h i (again i h1 h2 hi) h2
      · obtain ⟨F1, f1, f2, f3, f4⟩ := R1 d F G (by omega) h1 h3 h4
        rw [hx] at f3 f4
        obtain ⟨F2, e1, e2, e3⟩ := P1 d F1 G hd (by rw [f3.1 1 (by decide) (by decide)]; exact h1) (by rw [f3.1 2 (by decide) (by decide)]; exact h2) f2 (by rw [f3.2.1 47 (by decide) (by decide) (by decide) (by decide)]; exact h4)
        have hE2 : ∃ r, zev zX0 d (218, 9, [zR 46, zI ((l + 1 : Nat) : Int), zI ok1], [], F1, G, zsg) = some r := by
          rw [e1]
          split
          · exact ⟨_, rfl⟩
          · exact ⟨_, rfl⟩
        refine ⟨F2, ?_, zPf1.step f3 e2, fun h i h1 h2 => ?_⟩
        · obtain ⟨r, hr⟩ := hE2
          rw [← e1, hr]
          refine g_Tape_readProgram_9 l 1 _ ?_
          by_cases c : (l : Int) = 0
          · rw [if_neg (by decide), if_pos hl0, if_pos c, h2, s_placeOf (by omega) hq (by omega), zbI_some, f1, zbI_some, z1]
            exact hr
          · have hp : F 46 7 < F 46 1 := by rw [h3, h1]; omega
            rw [if_neg (by decide), if_pos hl0, if_neg c, if_pos hp, h2, s_placeOf (by omega) hq (by omega), zbI_some, f1, zbI_some, z1]
            exact hr
        · by_cases hi : i = l
          · subst hi
            rw [zu_eq, zu_eq, zu_eq]
            have h6 := e2.2.2 (12 * q + i) (by omega)
            have h7 := f4 (g2.resolve_left (fun q => by have := i2b q; omega)).1
            exact ⟨h6.1.trans h7.1, h6.2.1.trans h7.2.1, h6.2.2.trans h7.2.2⟩
          · rw [zu_ne hi, zu_ne hi, zu_ne hi]
            exact e3 h i (again i h1 h2 hi) h2
      · obtain ⟨F1, f1, f2, f3, f4⟩ := R2 d F G (by omega) h1 h3 h4
        rw [hx] at f3 f4
        obtain ⟨F2, e1, e2, e3⟩ := P2 d F1 G hd (by rw [f3.1 18 (by decide)]; exact h1) (by rw [f3.1 12 (by decide)]; exact h2) f2 (by rw [f3.2.1 84 (by decide) (by decide) (by decide) (by decide)]; exact h4)
        have hE2 : ∃ r, zev zX0 d (102, 21, [zR 71, zI ((l + 1 : Nat) : Int), zI ok1], [], F1, G, zsg) = some r := by
          rw [e1]
          split
          · exact ⟨_, rfl⟩
          · exact ⟨_, rfl⟩
        refine ⟨F2, ?_, zPf2.step f3 e2, fun h i h1 h2 => ?_⟩
        · obtain ⟨r, hr⟩ := hE2
          rw [← e1, hr]
          refine g_M_program_21 l 1 _ ?_
          have hxx : zadd (zmul 12 (F 71 12)) l = ((12 * q + l : Nat) : Int) := by
            rw [h2, zmul_eq (by omega) (by omega), zadd_eq (by omega) (by omega)]; omega
          by_cases c : (l : Int) = 0
          · rw [if_neg (by decide), if_pos hl0, if_pos c, hxx, f1, zbI_some, z1]
            exact hr
          · have hp : F 71 42 < F 71 18 := by rw [h3, h1]; omega
            rw [if_neg (by decide), if_pos hl0, if_neg c, if_pos hp, hxx, f1, zbI_some, z1]
            exact hr
        · by_cases hi : i = l
          · subst hi
            rw [zu_eq, zu_eq, zu_eq]
            have h6 := e2.2.2 (12 * q + i) (by omega)
            have h7 := f4 (g2.resolve_left (fun q => by have := i2b q; omega)).1
            exact ⟨h6.1.trans h7.1, h6.2.1.trans h7.2.1, h6.2.2.trans h7.2.2⟩
          · rw [zu_ne hi, zu_ne hi, zu_ne hi]
            exact e3 h i (again i h1 h2 hi) h2
