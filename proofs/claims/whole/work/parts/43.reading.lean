/-! reading programs: both sides alike (printed by wip/tpl/gen43.py) -/
def q_hr (B : Nat → Int) (n at' : Int) : Int := if at' < n then B at'.toNat else -1
def zNm1 (B : Nat → Int) (n mx a ok v a' : Int) : Prop := ∀ (d : Nat) (F : zM) (G : zG), 2 ≤ d → F 46 1 = n → F 46 7 = a → F 47 = B → ∃ F', zex d 220 [zR 46, zI mx] (F, G, zsg) = some (some (zI ok), F', G, zsg) ∧ F' 46 7 = a' ∧ (∀ j, j ≠ 7 → j ≠ 8 → F' 46 j = F 46 j) ∧ (∀ r, r ≠ 46 → F' r = F r) ∧ (ok = 1 → F' 46 8 = v)
def zNm2 (B : Nat → Int) (n mx a w a' : Int) : Prop := ∀ (d : Nat) (F : zM) (G : zG), 2 ≤ d → F 71 18 = n → F 71 42 = a → F 84 = B → ∃ F', zex d 100 [zR 71, zI mx] (F, G, zsg) = some (some (zI w), F', G, zsg) ∧ F' 71 42 = a' ∧ (∀ j, j ≠ 42 → F' 71 j = F 71 j) ∧ (∀ r, r ≠ 71 → F' r = F r)
section
variable {d : Nat} {F : zM} {G : zG} {B : Nat → Int} {n a : Int}
theorem s_here (hd : 1 ≤ d) (hn : n ≤ 120) (ha : 0 ≤ a) (h1 : F 46 1 = n) (h2 : F 46 7 = a) (h3 : F 47 = B) : zex d 221 [zR 46] (F, G, zsg) = some (some (zI (q_hr B n a)), F, G, zsg) := by
  obtain ⟨d, rfl⟩ := zds hd
  refine g_Tape_here _ ?_
  rw [h1, h2, h3]
  unfold q_hr
  by_cases h : a < n
  · have g : 0 ≤ a ∧ a < 120 := by omega
    rw [if_pos h, if_pos g, if_pos h]
  · rw [if_neg h, if_neg h]
theorem m_here (hd : 1 ≤ d) (hn : n ≤ 120) (ha : 0 ≤ a) (h1 : F 71 18 = n) (h2 : F 71 42 = a) (h3 : F 84 = B) : zex d 99 [zR 71] (F, G, zsg) = some (some (zI (q_hr B n a)), F, G, zsg) := by
  obtain ⟨d, rfl⟩ := zds hd
  refine g_M_here _ ?_
  rw [h1, h2, h3]
  unfold q_hr
  by_cases h : a < n
  · have g : 0 ≤ a ∧ a < 120 := by omega
    rw [if_pos h, if_pos g, if_pos h]
  · rw [if_neg h, if_neg h]
theorem q_hr_in (h : q_hr B n a ≠ -1) : a < n := by
  unfold q_hr at h
  split at h
  · assumption
  · exact absurd rfl h
theorem s_digit_t (hd : 1 ≤ d) {v : Int} (h : 48 ≤ v ∧ v ≤ 57) : zex d 222 [zI v] (F, G, zsg) = some (some (zI (v - 48)), F, G, zsg) := by
  obtain ⟨d, rfl⟩ := zds hd
  refine g_Tape_digitOf v _ ?_
  rw [if_neg (by omega), if_neg (by omega), zsub_eq (by omega) (by omega)]
theorem s_digit_f (hd : 1 ≤ d) {v : Int} (h : ¬ (48 ≤ v ∧ v ≤ 57)) : zex d 222 [zI v] (F, G, zsg) = some (some (zI (-1)), F, G, zsg) := by
  obtain ⟨d, rfl⟩ := zds hd
  refine g_Tape_digitOf v _ ?_
  split
  · rfl
  · rw [if_pos (by omega)]
theorem a_number (hn : n ≤ 120) (ha : 0 ≤ a ∧ a ≤ n) {mx : Int} (hm : 0 ≤ mx ∧ mx ≤ 99) : ∃ ok v w a', (a ≤ a' ∧ a' ≤ n) ∧ (ok = 0 ∧ (w = -1 ∨ (0 ≤ w ∧ 48 ≤ q_hr B n a' ∧ q_hr B n a' ≤ 57)) ∨ ok = 1 ∧ w = v ∧ 0 ≤ v ∧ v ≤ mx) ∧ zNm1 B n mx a ok v a' ∧ zNm2 B n mx a w a' := by
  by_cases c1 : 48 ≤ q_hr B n a ∧ q_hr B n a ≤ 57
  · have in1 : a < n := q_hr_in (show q_hr B n a ≠ -1 by omega)
    by_cases c2 : mx < q_hr B n a - 48
    · refine ⟨0, 0, -1, a, by omega, Or.inl ⟨rfl, Or.inl rfl⟩, fun d F G hd h1 h2 h3 => ⟨F, ?_, h2, fun _ _ _ => rfl, fun _ _ => rfl, fun q => absurd q (by decide)⟩, fun d F G hd h1 h2 h3 => ⟨F, ?_, h2, fun _ _ => rfl, fun _ _ => rfl⟩⟩
      · obtain ⟨d, rfl⟩ := zds (show 1 ≤ d by omega)
        refine g_Tape_readNumber mx _ ?_
        rw [s_here (by omega) hn ha.1 h1 h2 h3, zbI_some, s_digit_t (by omega) c1, zbI_some, if_neg (by omega), if_pos c2]
      · obtain ⟨d, rfl⟩ := zds (show 1 ≤ d by omega)
        refine g_M_number mx _ (g_M_number_4 mx 0 0 _ ?_)
        rw [if_pos (by decide), m_here (by omega) hn ha.1 h1 h2 h3, zbI_some, m_in (by omega), zbI_some, zp_t c1, if_neg (by decide), m_here (by omega) hn ha.1 h1 h2 h3, zbI_some, zmul_eq (by omega) (by omega), zadd_eq (by omega) (by omega), zsub_eq (by omega) (by omega), if_pos (by omega), if_pos rfl]
    · have c1' : 0 ≤ q_hr B n a - 48 ∧ q_hr B n a - 48 ≤ 9 := by omega
      generalize hv : q_hr B n a - 48 = v0 at c2 c1'
      have step1 : ∀ (d : Nat) (F : zM) (G : zG) (r : zQ), 1 ≤ d → F 46 1 = n → F 46 7 = a → F 47 = B → (zbI (zex d 221 [zR 46] (zup (zup F 46 8 v0) 46 7 (a + 1), G, zsg)) (fun v3 F3 G3 =>
          zbI (zex d 222 [zI v3] (F3, G3, zsg)) (fun v4 F4 G4 =>
            if v4 < 0 then
              some (some (zI 1), F4, G4, zsg)
            else
              if mx < (zadd (zmul (F4 46 8) 10) v4) then
                some (some (zI 0), F4, G4, zsg)
              else
                some (some (zI 1), (zup (zup F4 46 8 (zadd (zmul (F4 46 8) 10) v4)) 46 7 (zadd (F4 46 7) 1)), G4, zsg))) = some r) → zex (d + 1) 220 [zR 46, zI mx] (F, G, zsg) = some r := by
        intro d F G r hd h1 h2 h3 hr
        refine g_Tape_readNumber mx _ ?_
        rw [s_here (by omega) hn ha.1 h1 h2 h3, zbI_some, s_digit_t (by omega) c1, zbI_some, if_neg (by omega), hv, if_neg c2, h2, zadd_eq (by omega) (by omega)]
        exact hr
      have step2 : ∀ (d : Nat) (F : zM) (G : zG) (r : zQ), 1 ≤ d → F 71 18 = n → F 71 42 = a → F 84 = B → zev zX0 d (100, 4, [zR 71, zI mx, zI v0, zI 1], [], zup F 71 42 (a + 1), G, zsg) = some r → zex (d + 1) 100 [zR 71, zI mx] (F, G, zsg) = some r := by
        intro d F G r hd h1 h2 h3 hr
        refine g_M_number mx _ (g_M_number_4 mx 0 0 _ ?_)
        rw [if_pos (by decide), m_here (by omega) hn ha.1 h1 h2 h3, zbI_some, m_in (by omega), zbI_some, zp_t c1, if_neg (by decide), m_here (by omega) hn ha.1 h1 h2 h3, zbI_some, zmul_eq (by omega) (by omega), zadd_eq (by omega) (by omega), zsub_eq (by omega) (by omega), if_neg (by omega), m_here (by omega) hn ha.1 h1 h2 h3, zbI_some, zadd_eq (by omega) (by omega), zsub_eq (by omega) (by omega), h2, zadd_eq (by omega) (by omega), zadd_eq (by omega) (by omega), show 10 * (0 : Int) + q_hr B n a - 48 = v0 by omega]
        exact hr
      have f1 : ∀ F : zM, F 46 1 = n → zup (zup F 46 8 v0) 46 7 (a + 1) 46 1 = n := fun F h => by rw [zup_col (by decide), zup_col (by decide)]; exact h
      have f7 : ∀ F : zM, zup (zup F 46 8 v0) 46 7 (a + 1) 46 7 = a + 1 := fun F => zup_eq
      have f8 : ∀ F : zM, zup (zup F 46 8 v0) 46 7 (a + 1) 46 8 = v0 := fun F => by rw [zup_col (by decide), zup_eq]
      have f47 : ∀ F : zM, F 47 = B → zup (zup F 46 8 v0) 46 7 (a + 1) 47 = B := fun F h => by rw [zup_row (by decide), zup_row (by decide)]; exact h
      have fj : ∀ F : zM, ∀ j, j ≠ 7 → j ≠ 8 → zup (zup F 46 8 v0) 46 7 (a + 1) 46 j = F 46 j := fun F j h7 h8 => by rw [zup_col h7, zup_col h8]
      have fr : ∀ F : zM, ∀ r, r ≠ 46 → zup (zup F 46 8 v0) 46 7 (a + 1) r = F r := fun F r h7 => by rw [zup_row h7, zup_row h7]
      have k18 : ∀ F : zM, F 71 18 = n → zup F 71 42 (a + 1) 71 18 = n := fun F h => by rw [zup_col (by decide)]; exact h
      have k42 : ∀ F : zM, zup F 71 42 (a + 1) 71 42 = a + 1 := fun F => zup_eq
      have k84 : ∀ F : zM, F 84 = B → zup F 71 42 (a + 1) 84 = B := fun F h => by rw [zup_row (by decide)]; exact h
      by_cases c3 : 48 ≤ q_hr B n (a + 1) ∧ q_hr B n (a + 1) ≤ 57
      · have in2 : a + 1 < n := q_hr_in (show q_hr B n (a + 1) ≠ -1 by omega)
        have c3' : 0 ≤ q_hr B n (a + 1) - 48 ∧ q_hr B n (a + 1) - 48 ≤ 9 := by omega
        by_cases c4 : mx < v0 * 10 + (q_hr B n (a + 1) - 48)
        · refine ⟨0, 0, v0, a + 1, by omega, Or.inl ⟨rfl, Or.inr ⟨by omega, c3⟩⟩, fun d F G hd h1 h2 h3 => ⟨zup (zup F 46 8 v0) 46 7 (a + 1), ?_, f7 F, fj F, fr F, fun q => absurd q (by decide)⟩, fun d F G hd h1 h2 h3 => ⟨zup F 71 42 (a + 1), ?_, k42 F, fun j hj => zup_col hj, fun r hr => zup_row hr⟩⟩
          · obtain ⟨d, rfl⟩ := zds (show 1 ≤ d by omega)
            refine step1 d F G _ (by omega) h1 h2 h3 ?_
            rw [s_here (by omega) hn (by omega) (f1 F h1) (f7 F) (f47 F h3), zbI_some, s_digit_t (by omega) c3, zbI_some, if_neg (by omega), f8, zmul_eq (by omega) (by omega), zadd_eq (by omega) (by omega), if_pos c4]
          · obtain ⟨d, rfl⟩ := zds (show 1 ≤ d by omega)
            refine step2 d F G _ (by omega) h1 h2 h3 (g_M_number_4 mx v0 1 _ ?_)
            rw [if_pos (by decide), m_here (by omega) hn (by omega) (k18 F h1) (k42 F) (k84 F h3), zbI_some, m_in (by omega), zbI_some, zp_t c3, if_neg (by decide), m_here (by omega) hn (by omega) (k18 F h1) (k42 F) (k84 F h3), zbI_some, zmul_eq (by omega) (by omega), zadd_eq (by omega) (by omega), zsub_eq (by omega) (by omega), if_pos (by omega), if_neg (by decide)]
        · refine ⟨1, v0 * 10 + (q_hr B n (a + 1) - 48), v0 * 10 + (q_hr B n (a + 1) - 48), a + 2, by omega, Or.inr ⟨rfl, rfl, by omega, by omega⟩, fun d F G hd h1 h2 h3 => ⟨zup (zup (zup (zup F 46 8 v0) 46 7 (a + 1)) 46 8 (v0 * 10 + (q_hr B n (a + 1) - 48))) 46 7 (a + 2), ?_, zup_eq, fun j h7 h8 => by rw [zup_col h7, zup_col h8, fj F j h7 h8], fun r hr => by rw [zup_row hr, zup_row hr, fr F r hr], fun _ => by rw [zup_col (by decide), zup_eq]⟩, fun d F G hd h1 h2 h3 => ⟨zup (zup F 71 42 (a + 1)) 71 42 (a + 2), ?_, zup_eq, fun j hj => by rw [zup_col hj, zup_col hj], fun r hr => by rw [zup_row hr, zup_row hr]⟩⟩
          · obtain ⟨d, rfl⟩ := zds (show 1 ≤ d by omega)
            refine step1 d F G _ (by omega) h1 h2 h3 ?_
            rw [s_here (by omega) hn (by omega) (f1 F h1) (f7 F) (f47 F h3), zbI_some, s_digit_t (by omega) c3, zbI_some, if_neg (by omega), f8, f7, zmul_eq (by omega) (by omega), zadd_eq (x := v0 * 10) (by omega) (by omega), if_neg c4, zadd_eq (by omega) (by omega), show a + 1 + 1 = a + 2 by omega]
          · obtain ⟨d, rfl⟩ := zds (show 1 ≤ d by omega)
            refine step2 d F G _ (by omega) h1 h2 h3 (g_M_number_4 mx v0 1 _ ?_)
            rw [if_pos (by decide), m_here (by omega) hn (by omega) (k18 F h1) (k42 F) (k84 F h3), zbI_some, m_in (by omega), zbI_some, zp_t c3, if_neg (by decide), m_here (by omega) hn (by omega) (k18 F h1) (k42 F) (k84 F h3), zbI_some, zmul_eq (by omega) (by omega), zadd_eq (by omega) (by omega), zsub_eq (by omega) (by omega), if_neg (by omega), m_here (by omega) hn (by omega) (k18 F h1) (k42 F) (k84 F h3), zbI_some, zadd_eq (x := 10 * v0) (by omega) (by omega), zsub_eq (by omega) (by omega), k42, zadd_eq (by omega) (by omega), zadd_eq (by omega) (by omega), show a + 1 + 1 = a + 2 by omega, show (1 : Int) + 1 = 2 by decide, show 10 * v0 + q_hr B n (a + 1) - 48 = v0 * 10 + (q_hr B n (a + 1) - 48) by omega]
            refine g_M_number_4 mx _ 2 _ ?_
            rw [if_neg (by decide), if_neg (by decide)]
      · refine ⟨1, v0, v0, a + 1, by omega, Or.inr ⟨rfl, rfl, by omega, by omega⟩, fun d F G hd h1 h2 h3 => ⟨zup (zup F 46 8 v0) 46 7 (a + 1), ?_, f7 F, fj F, fr F, fun _ => f8 F⟩, fun d F G hd h1 h2 h3 => ⟨zup F 71 42 (a + 1), ?_, k42 F, fun j hj => zup_col hj, fun r hr => zup_row hr⟩⟩
        · obtain ⟨d, rfl⟩ := zds (show 1 ≤ d by omega)
          refine step1 d F G _ (by omega) h1 h2 h3 ?_
          rw [s_here (by omega) hn (by omega) (f1 F h1) (f7 F) (f47 F h3), zbI_some, s_digit_f (by omega) c3, zbI_some, if_pos (by omega)]
        · obtain ⟨d, rfl⟩ := zds (show 1 ≤ d by omega)
          refine step2 d F G _ (by omega) h1 h2 h3 (g_M_number_4 mx v0 1 _ ?_)
          rw [if_pos (by decide), m_here (by omega) hn (by omega) (k18 F h1) (k42 F) (k84 F h3), zbI_some, m_in (by omega), zbI_some, zp_f c3, if_pos rfl, if_neg (by decide)]
  · refine ⟨0, 0, -1, a, by omega, Or.inl ⟨rfl, Or.inl rfl⟩, fun d F G hd h1 h2 h3 => ⟨F, ?_, h2, fun _ _ _ => rfl, fun _ _ => rfl, fun q => absurd q (by decide)⟩, fun d F G hd h1 h2 h3 => ⟨F, ?_, h2, fun _ _ => rfl, fun _ _ => rfl⟩⟩
    · obtain ⟨d, rfl⟩ := zds (show 1 ≤ d by omega)
      refine g_Tape_readNumber mx _ ?_
      rw [s_here (by omega) hn ha.1 h1 h2 h3, zbI_some, s_digit_f (by omega) c1, zbI_some, if_pos (by omega)]
    · obtain ⟨d, rfl⟩ := zds (show 1 ≤ d by omega)
      refine g_M_number mx _ (g_M_number_4 mx 0 0 _ ?_)
      rw [if_pos (by decide), m_here (by omega) hn ha.1 h1 h2 h3, zbI_some, m_in (by omega), zbI_some, zp_f c1, if_pos rfl, if_pos rfl]
end
