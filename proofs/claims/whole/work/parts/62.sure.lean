/-! sure again, and where a case can be laid -/
section
variable {d : Nat} {F ρ ρ' : zM} {G : zG} {p p' : Nat → Int}
theorem a_sure (hd : 1 ≤ d) (A : zAll ρ p F G) : zStep d 32 127 [] F G := by
  obtain ⟨d, rfl⟩ := zds (show 1 ≤ d by omega)
  obtain ⟨nn, a2, a3, a4, a5, a6, a7, ⟨c1, c2, c3, c4, c5, c6⟩, a9⟩ := A
  have h : zch [64] [33] F (zup (zup F 64 4 0) 71 33 0) := by
    refine ⟨fun r hr h71 => ?_, fun j hj => ?_⟩
    · simp only [List.mem_cons, List.not_mem_nil, or_false] at hr
      rw [zup_row h71, zup_row hr]
    · simp only [List.mem_cons, List.not_mem_nil, or_false] at hj
      rw [zup_col hj, zup_row (by decide)]
  refine ⟨F 71 33, zup F 64 4 0, G, zup (zup F 64 4 0) 71 33 0, G, g_C_sure _ (by rw [c1]), g_M_sure _ (by rw [zup_row (by decide)]), ρ, p, nn.ch h ⟨rfl, trivial⟩, a2, a3.ch h, a4.ch h, a5.ch h, a6.ch h, a7.ch h ⟨rfl, rfl⟩, ⟨?_, ?_, ?_, ?_, ?_, ?_⟩, a9.ch h⟩
  · rw [zup_eq, zup_row (by decide), zup_eq]
  · rw [zup_eq]; decide
  · intro q
    rw [zup_eq] at q
    exact absurd q (by decide)
  · rw [h.1 65 (by decide) (by decide), h.1 94 (by decide) (by decide)]; exact c4
  · rw [h.1 66 (by decide) (by decide), h.1 95 (by decide) (by decide)]; exact c5
  · intro i q
    rw [zup_eq] at q
    omega
/-- a thing that no hand holds laid elsewhere -/
theorem zPv.lay (hV : zRv ρ) (hP : zPv ρ p) {t : Nat} {c : Int} (ht : (t : Int) < ρ 71 8) (hc : 0 ≤ c ∧ c < 64) (hh : p (8 + t) = -1) (hq : c % 8 + ρ 79 t ≤ 8) : zPv ρ (zu p t c) := by
  obtain ⟨p1, p2, p3, p4, p5, p6, p7, p8, p9⟩ := hP
  have hn8 := hV.1
  have q8 : ∀ j, j ≠ t → zu p t c j = p j := fun j hj => zu_ne hj
  refine ⟨fun u h8 => ?_, fun g hg => by rw [q8 _ (by omega)]; exact p2 g hg, fun g hg => by rw [q8 _ (by omega)]; exact p3 g hg, fun u h8 => by rw [q8 _ (by omega)]; exact p4 u h8, fun u h8 h9 => by rw [q8 _ (by omega), q8 _ (by omega)]; exact p5 u h8 h9, fun x hx => by rw [q8 _ (by omega)]; exact p6 x hx, fun x hx h9 => by rw [q8 _ (by omega)]; exact p7 x hx h9, fun g hg hne => ?_, fun u g h8 hg h9 => by rw [q8 _ (by omega)] at h9 ⊢; exact p9 u g h8 hg h9⟩
  · by_cases h : u = t
    · rw [h, zu_eq]; exact Or.inr ⟨hc.1, hc.2, hq⟩
    · rw [q8 u h]; exact p1 u h8
  · rw [q8 (30 + g) (by omega)] at hne ⊢
    have hb2 := p3 g hg
    have hdg := p8 g hg hne
    have hnt : (p (30 + g)).toNat ≠ t := by
      intro q
      rw [q, hh] at hdg
      have := hdg.1
      omega
    rw [q8 _ (by omega), q8 _ (by omega), q8 _ (by omega), q8 _ hnt]
    exact hdg
theorem zNO.lay (hV : zRv ρ) (hP : zPv ρ p) (hN : zNO ρ p) {t : Nat} {c : Int} (ht : (t : Int) < ρ 71 8) (hq : q_can ρ p t (ρ 79 t) c) : zNO ρ (zu p t c) := by
  have hn8 := hV.1
  have hw := hV.2.2.2.2.2.1 t ht
  have hw2 := hV.2.2.2.2.1 t (by omega)
  have apart : ∀ u : Nat, u < 8 → u ≠ t → p u ≠ -1 → c + ρ 79 t ≤ p u ∨ p u + ρ 79 u ≤ c := by
    intro u hu hne hpu
    have hun : (u : Int) < ρ 71 8 := by
      rcases Int.lt_or_le (u : Int) (ρ 71 8) with q | q
      · exact q
      · exact absurd (hP.2.2.2.2.1 u hu q).1 hpu
    have hwu1 := hV.2.2.2.2.2.1 u hun
    have no : ∀ k : Nat, (k : Int) < ρ 79 t → ¬ (p u ≤ c + k ∧ c + k < p u + ρ 79 u) := fun k hk q => hq.2 k hk (Or.inr (Or.inr (Or.inl ⟨u, hun, fun q2 => hne (by have : (u : Int) = t := q2; omega), hpu, q.1, q.2⟩)))
    have h0 := no 0 (by omega)
    rcases Int.lt_or_le c (p u) with q | q
    · rcases Int.lt_or_le (p u) (c + ρ 79 t) with q2 | q2
      · have := no (p u - c).toNat (by omega)
        omega
      · exact Or.inl q2
    · omega
  intro a u h8 h9 hne
  by_cases e1 : a = t
  · have e2 : u ≠ t := fun q => hne (e1.trans q.symm)
    rw [e1, zu_eq, zu_ne e2]
    exact fun _ q => apart u h9 e2 q
  · by_cases e2 : u = t
    · rw [e2, zu_eq, zu_ne e1]
      exact fun q _ => (apart a h8 e1 q).symm
    · rw [zu_ne e1, zu_ne e2]
      exact hN a u h8 h9 hne
theorem s_canLay (hd : 4 ≤ d) (hS : zSC 11 p F) (hC : zCR ρ F G) (hV : zRv ρ) (hP : zPv ρ p) {t : Nat} (ht : (t : Int) < ρ 71 8) (h5 : F 64 5 = t) {c : Int} (hc : 0 ≤ c ∧ c < 64) : zex d 166 [zR 64, zR 11, zI c] (F, G, zsg) = some (some (zI (zp (p (8 + t) = -1 ∧ q_can ρ p t (ρ 79 t) c))), F, G, zsg) := by
  obtain ⟨d, rfl⟩ := zds (show 1 ≤ d by omega)
  have hn8 := hV.1
  have hw := hV.2.2.2.2.2.1 t ht
  have hw2 := hV.2.2.2.2.1 t (by omega)
  have g8 : 0 ≤ (t : Int) ∧ (t : Int) < 8 := by omega
  have f13 : F 13 t = p (8 + t) := (hS.1 t (by omega)).2.1
  have hb := hP.2.2.2.1 t (by omega)
  refine g_Chances_canLay c _ ?_
  rw [h5, if_pos g8, Int.toNat_natCast, f13]
  by_cases c1 : p (8 + t) = -1
  · rw [if_pos (by omega), if_pos g8, hC.2.2.2.2.1, s_canLie (by omega) hS hC hV hP.1 hP.2.1 (by omega) hc.1 hc.2 hw hw2.2, zbI_some]
    by_cases c2 : q_can ρ p t (ρ 79 t) c
    · rw [zp_t c2, if_neg (by decide), zp_t ⟨c1, c2⟩]
    · rw [zp_f c2, if_pos rfl, zp_f (fun q => c2 q.2)]
  · rw [if_neg (by omega), zp_f (fun q => c1 q.1)]
end
