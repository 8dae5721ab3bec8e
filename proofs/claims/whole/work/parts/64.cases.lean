/-! cases: both sides alike -/
/-- a program of F played from q -/
noncomputable def q_pl (ρ F : zM) (h : Int) (k : Nat) (q : Nat → Int) : Int × Int × (Nat → Int) := q_plays ρ h (fun j => F 81 (12 * k + j)) (fun j => F 82 (12 * k + j)) (fun j => F 83 (12 * k + j)) (F 80 k).toNat 0 q
section
variable {d : Nat} {F ρ ρ' : zM} {G : zG} {p p' q : Nat → Int}
theorem q_pl_ok (hV : zRv ρ) (T : zTp F) {h : Int} (hh : h = 0 ∨ h = 1) {k : Nat} (hk : (k : Int) < F 71 12) (hP : zPv ρ q) (hN : zNO ρ q) : zPv ρ (q_pl ρ F h k q).2.2 ∧ zNO ρ (q_pl ρ F h k q).2.2 ∧ (∀ j, 34 ≤ j → (q_pl ρ F h k q).2.2 j = q j) ∧ ((q_pl ρ F h k q).1 = -1 ∧ (q_pl ρ F h k q).2.1 = 0 ∨ 0 ≤ (q_pl ρ F h k q).1 ∧ (q_pl ρ F h k q).2.1 ≠ 0) := by
  obtain ⟨u1, u2⟩ := T.2.2.2.2.2.2.2 k hk
  exact q_plays_ok hV hh _ 0 q hP hN (fun j _ hj => (u2 j (by omega)).2.2.2)
theorem s_pl (hd : 6 ≤ d) (hV : zRv ρ) (T : zTp F) (hC : zCR ρ F G) {h : Int} (hh : h = 0 ∨ h = 1) {k : Nat} (hk : (k : Int) < F 71 12) (hS : zSC 22 q F) (hP : zPv ρ q) (hN : zNO ρ q) : ∃ F' G', zex d 143 [zR 52, zR 22, zI h, zI k] (F, G, zsg) = some (some (zI (q_pl ρ F h k q).2.1), F', G', zsg) ∧ zSC 22 (q_pl ρ F h k q).2.2 F' ∧ (∀ r, r ≠ 44 → r ≠ 52 → (r < 22 ∨ 32 < r) → F' r = F r) ∧ (∀ r, r ≠ 44 → r ≠ 45 → G' r = G r) := by
  obtain ⟨d, rfl⟩ := zds (show 1 ≤ d by omega)
  obtain ⟨t1, t2, t3, t4, t5, t6, t7, t8⟩ := T
  obtain ⟨u1, u2⟩ := t8 k hk
  have eF : ∀ r, r ≠ 52 → zup F 52 3 (-1) r = F r := fun r r1 => zup_row r1
  obtain ⟨F2, G2, f1, f2, f3, f4, f5⟩ := s_plays (d := d) (k := k) (A := fun j => F 81 (12 * k + j)) (N := fun j => F 82 (12 * k + j)) (S := fun j => F 83 (12 * k + j)) (by omega) hV hh (by omega) (F 80 k).toNat 0 q (zup F 52 3 (-1)) G (hS.fr (fun j hj => zup_row (by omega))) (hC.fr (eF 6 (by decide)) (eF 7 (by decide)) (eF 8 (by decide)) (eF 9 (by decide)) (eF 10 (by decide)) rfl) hP hN (by omega) (by rw [eF 48 (by decide), t7]; omega) zup_eq (fun j _ hj => by
    rw [eF 49 (by decide), eF 50 (by decide), eF 51 (by decide)]
    have := u2 j (by omega)
    exact ⟨this.2.2.2, this.1, this.2.1, this.2.2.1⟩)
  exact ⟨F2, G2, g_Acts_playAll h k _ f1, f2, fun r r1 r2 r3 => by rw [f4 r r1 r2 r3, eF r r2], f5⟩
theorem m_pl (hd : 8 ≤ d) (hV : zRv ρ) (T : zTp F) (hR : zMR ρ F) {h : Int} (hh : h = 0 ∨ h = 1) {k : Nat} (hk : (k : Int) < F 71 12) (hp : F 72 = q) (hP : zPv ρ q) (hN : zNO ρ q) : ∃ F', zex d 106 [zR 71, zI h, zI k] (F, G, zsg) = some (some (zI (q_pl ρ F h k q).1), F', G, zsg) ∧ F' 72 = (q_pl ρ F h k q).2.2 ∧ (∀ r, r ≠ 71 → r ≠ 72 → r ≠ 99 → r ≠ 100 → F' r = F r) ∧ (∀ j, j ≠ 43 → F' 71 j = F 71 j) := by
  obtain ⟨d, rfl⟩ := zds (show 1 ≤ d by omega)
  obtain ⟨t1, t2, t3, t4, t5, t6, t7, t8⟩ := T
  obtain ⟨u1, u2⟩ := t8 k hk
  obtain ⟨F5, j1, j2, j3, j4, j5⟩ := m_plays (d := d) (k := k) (G := G) (A := fun j => F 81 (12 * k + j)) (N := fun j => F 82 (12 * k + j)) (S := fun j => F 83 (12 * k + j)) (by omega) hV hh (by omega) (F 80 k).toNat 0 q F hp hR hP hN (by omega) (by omega) (fun j _ hj => ⟨(u2 j (by omega)).2.2.2, rfl, rfl, rfl⟩)
  exact ⟨F5, g_M_plays h k _ j1, j2, j4, j5⟩
/-- where a case can be laid -/
def q_lay (ρ : zM) (p : Nat → Int) (t : Nat) (c : Int) : Prop := p (8 + t) = -1 ∧ q_can ρ p t (ρ 79 t) c
theorem q_lay_ok (hV : zRv ρ) (hP : zPv ρ p) (hN : zNO ρ p) {t : Nat} (ht : (t : Int) < ρ 71 8) {c : Int} (hc : 0 ≤ c ∧ c < 64) (hl : q_lay ρ p t c) : zPv ρ (zu p t c) ∧ zNO ρ (zu p t c) := ⟨hP.lay hV ht hc hl.1 hl.2.1, zNO.lay hV hP hN ht hl.2⟩
end
