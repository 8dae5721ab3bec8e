/-! the common part of two numbers -/
section
variable {d : Nat} {F ρ ρ' : zM} {G : zG} {p p' : Nat → Int}
theorem z_remn {a b : Nat} (ha : a ≤ 1000) (hb : 0 < b) (hb2 : b ≤ 1000) : zrem (a : Int) (b : Int) = ((a % b : Nat) : Int) := by
  rw [zrem_eq (by omega) (by omega) (by omega) (by omega)]
  rfl
theorem m_gcd {l1 l2 l3 l4 l5 l6 l7 : Int} {r : zQ} : ∀ (b a : Nat), a ≤ 1000 → b ≤ 1000 → zev zX0 d (128, 219, [zR 71, zI l1, zI l2, zI l3, zI l4, zI l5, zI l6, zI l7, zI (Nat.gcd b a), zI 0, zR 0], [], F, G, zsg) = some r → zev zX0 d (128, 219, [zR 71, zI l1, zI l2, zI l3, zI l4, zI l5, zI l6, zI l7, zI a, zI b, zR 0], [], F, G, zsg) = some r := by
  intro b
  induction b using Nat.strongRecOn with
  | _ b ih =>
    intro a ha hb h
    by_cases c : b = 0
    · subst c
      rw [Nat.gcd_zero_left] at h
      exact h
    · refine g_M_cases_219 l1 l2 l3 l4 l5 l6 l7 a b _ ?_
      rw [if_neg (by omega), if_neg (by omega), z_remn ha (by omega) hb]
      refine ih (a % b) (Nat.mod_lt _ (by omega)) b hb (by have := Nat.mod_lt a (show 0 < b by omega); omega) ?_
      rw [← Nat.gcd_rec]
      exact h
theorem s_max (hd : 1 ≤ d) {a b : Int} : zex d 244 [zI a, zI b] (F, G, zsg) = some (some (zI (if a < b then b else a)), F, G, zsg) := by
  obtain ⟨d, rfl⟩ := zds hd
  refine g_Math_max a b _ ?_
  split <;> rfl
theorem z_half {r b : Nat} (hr : 0 < r) (h : r < b) : 2 * (b % r) < b := by
  have h1 := Nat.mod_lt b hr
  have h2 := Nat.div_add_mod b r
  have h3 : 1 ≤ b / r := Nat.div_pos (by omega) hr
  have h4 : r * 1 ≤ r * (b / r) := Nat.mul_le_mul_left r h3
  omega
theorem s_common (hd : 1 ≤ d) : ∀ (n i a b : Nat), a ≤ 1000 → b ≤ 1000 → b < 2 ^ n → i + 2 * n + 1 ≤ 100 → zev zX0 d (169, 12, [zR 64, zI a, zI b, zI i, zR 0], [], F, G, zsg) = some (some (zI (if (Nat.gcd a b : Int) < 1 then 1 else (Nat.gcd a b : Int))), F, G, zsg)
  | 0, i, a, b, ha, hb, h1, h2 => by
    have : b = 0 := by simpa using h1
    subst this
    refine g_Chances_commonPart_12 a _ i _ ?_
    rw [if_pos (by omega), if_pos (by rfl), s_max hd, zbI_some, Nat.gcd_zero_right]
  | n + 1, i, a, b, ha, hb, h1, h2 => by
    by_cases c : b = 0
    · subst c
      refine g_Chances_commonPart_12 a _ i _ ?_
      rw [if_pos (by omega), if_pos (by rfl), s_max hd, zbI_some, Nat.gcd_zero_right]
    · have hr := Nat.mod_lt a (show 0 < b by omega)
      refine g_Chances_commonPart_12 a b i _ ?_
      rw [if_pos (by omega), if_neg (by omega), if_neg (by omega), z_remn ha (by omega) hb, zadd_eq (by omega) (by omega), ← zcast1]
      by_cases c2 : a % b = 0
      · rw [c2]
        refine g_Chances_commonPart_12 b _ _ _ ?_
        have e : Nat.gcd a b = b := by rw [Nat.gcd_comm, Nat.gcd_rec, c2, Nat.gcd_zero_left]
        rw [if_pos (by omega), if_pos (by rfl), s_max hd, zbI_some, e]
      · refine g_Chances_commonPart_12 b _ _ _ ?_
        rw [if_pos (by omega), if_neg (by omega), if_neg (by omega), z_remn hb (by omega) (by omega), zadd_eq (by omega) (by omega), ← zcast1]
        have hh := z_half (show 0 < a % b by omega) hr
        have e : Nat.gcd a b = Nat.gcd (a % b) (b % (a % b)) := by rw [Nat.gcd_comm a b, Nat.gcd_rec b a, Nat.gcd_rec (a % b) b, Nat.gcd_comm]
        rw [e]
        exact s_common hd n (i + 1 + 1) (a % b) (b % (a % b)) (by omega) (by omega) (by rw [Nat.pow_succ] at h1; omega) (by omega)
end
