/-! running: a step, many steps, a method at a depth of calls; what it comes to is the limit over the number of steps -/
def zlst6 (l : List Int) : Nat × (Nat → Int) := (l.length, fun j => l.getD j 0)
/-- what can be read but isn't made by the system: the script (1; where the first number at 0 is 1), SIDES (2), ABOVE (3), TURNS_UP (4) -/
def zX (f L : Nat) (xs : Nat → Int) : Nat → Nat × (Nat → Int) := fun a =>
  if a = 0 then (f, fun _ => 0) else if a = 1 then (L, xs) else if a = 2 then zlst6 [15, 10, 13, 15, 10, 5] else if a = 3 then zlst6 [-1, 0, 0, 0, 1, 2] else if a = 4 then zlst6 [1, 1, 0, 1, 1, 0] else (0, fun _ => 0)
def zX0 : Nat → Nat × (Nat → Int) := zX 0 0 (fun _ => 0)
def zstc (X : Nat → Nat × (Nat → Int)) (cal : zcal) (y pc : Nat) (ls st : List zV) (h : zH) : zT := match zlook pc (zcode y) with
  | some (i, w, ps, n) => zop i X cal w ps y n ls st h
  | none => none
def zstp (X : Nat → Nat × (Nat → Int)) (cal : zcal) (c : zC) : zT := zstc X cal c.1 c.2.1 c.2.2.1 c.2.2.2.1 c.2.2.2.2
def zrun (X : Nat → Nat × (Nat → Int)) (cal : zcal) : Nat → zC → Option zQ
  | 0, _ => none
  | n + 1, c => match zstp X cal c with
    | some (.inl c') => zrun X cal n c'
    | some (.inr r) => some r
    | none => none
def zmany (X : Nat → Nat × (Nat → Int)) (cal : zcal) : Nat → Nat → Nat → List zV → List zV → zH → Option zC
  | 0, y, pc, ls, st, h => some (y, pc, ls, st, h)
  | n + 1, y, pc, ls, st, h => match zstc X cal y pc ls st h with
    | some (.inl (y, pc, ls, st, h)) => zmany X cal n y pc ls st h
    | some (.inr _) => none
    | none => none
theorem zrun_mono {X : Nat → Nat × (Nat → Int)} {cal : zcal} (n : Nat) : ∀ (c : zC) (k : Nat) (r : zQ), zrun X cal n c = some r → zrun X cal (n + k) c = some r := by
  induction n with
  | zero => intro c k r h; cases h
  | succ n ih =>
    intro c k r h
    rw [show n + 1 + k = (n + k) + 1 by omega]
    simp only [zrun] at h ⊢
    split at h
    · exact ih _ _ _ h
    · exact h
    · cases h
noncomputable def zlim (f : Nat → Option zQ) : Option zQ := @dite _ (∃ n r, f n = some r) (Classical.propDecidable _) (fun h => some h.choose_spec.choose) (fun _ => none)
theorem zlim_some {f : Nat → Option zQ} {r : zQ} (h : zlim f = some r) : ∃ n, f n = some r := by
  unfold zlim at h
  split at h
  · rename_i hh
    have := hh.choose_spec.choose_spec
    cases h
    exact ⟨_, this⟩
  · cases h
theorem zlim_of {f : Nat → Option zQ} (hm : ∀ n k r, f n = some r → f (n + k) = some r) {n : Nat} {r : zQ} (h : f n = some r) : zlim f = some r := by
  have hex : ∃ n r, f n = some r := ⟨n, r, h⟩
  have h1 : zlim f = some hex.choose_spec.choose := by
    unfold zlim
    rw [dif_pos hex]
  have h2 := hex.choose_spec.choose_spec
  have h3 := hm _ hex.choose _ h
  have h4 := hm _ n _ h2
  rw [Nat.add_comm] at h3
  rw [h3] at h4
  rw [h1, Option.some.inj h4]
def zexp : List zV → List zV
  | [] => []
  | .inr (.inl x) :: l => .inr (.inl x) :: zR 0 :: zexp l
  | v :: l => v :: zexp l
def zent (y : Nat) (a : List zV) (h : zH) : zC := (y, 0, zexp a ++ List.replicate (zpl.getD y 0 - (zexp a).length) (zR 0), [], h)
noncomputable def zex : Nat → zcal
  | 0 => fun _ _ _ => none
  | d + 1 => fun y a h => if (zexp a).length ≤ zpl.getD y 0 then zlim (fun n => zrun zX0 (zex d) n (zent y a h)) else none
noncomputable def zev (X : Nat → Nat × (Nat → Int)) (d : Nat) (c : zC) : Option zQ := zlim (fun n => zrun X (zex d) n c)
theorem zev_some {X : Nat → Nat × (Nat → Int)} {d : Nat} {c : zC} {r : zQ} : zev X d c = some r ↔ ∃ n, zrun X (zex d) n c = some r :=
  ⟨zlim_some, fun ⟨_, h⟩ => zlim_of (fun n k r h => zrun_mono n c k r h) h⟩
def zle (a b : Option zQ) : Prop := ∀ r, a = some r → b = some r
section
variable {X : Nat → Nat × (Nat → Int)} {d : Nat}
theorem zev_step {c c' : zC} (h : zstp X (zex d) c = some (.inl c')) : zev X d c = zev X d c' := by
  apply Option.ext
  intro r
  rw [zev_some, zev_some]
  constructor
  · rintro ⟨n, hn⟩
    cases n with
    | zero => cases hn
    | succ n => exact ⟨n, by simpa only [zrun, h] using hn⟩
  · rintro ⟨n, hn⟩
    exact ⟨n + 1, by simpa only [zrun, h] using hn⟩
theorem zev_ret {c : zC} {r : zQ} (h : zstp X (zex d) c = some (.inr r)) : zev X d c = some r := zev_some.mpr ⟨1, by simp only [zrun, h]⟩
theorem zev_many (k : Nat) : ∀ {y pc : Nat} {ls st : List zV} {h : zH} {c' : zC}, zmany X (zex d) k y pc ls st h = some c' → zev X d (y, pc, ls, st, h) = zev X d c' := by
  induction k with
  | zero => intro y pc ls st h c' e; cases e; rfl
  | succ k ih =>
    intro y pc ls st h c' e
    simp only [zmany] at e
    split at e
    · rename_i y1 pc1 ls1 st1 h1 e1
      rw [zev_step (c := (y, pc, ls, st, h)) (c' := (y1, pc1, ls1, st1, h1)) e1]
      exact ih e
    · cases e
    · cases e
theorem zle_rfl {a : Option zQ} : zle a a := fun _ h => h
theorem zle_none {b : Option zQ} : zle none b := fun _ h => by cases h
theorem zle_many {T : Option zQ} {y pc : Nat} {ls st : List zV} {h : zH} (k : Nat) (c' : zC) (e : zmany X (zex d) k y pc ls st h = some c') (g : zle T (zev X d c')) : zle T (zev X d (y, pc, ls, st, h)) := by
  rw [zev_many k e]; exact g
theorem zle_ret {y pc : Nat} {ls st : List zV} {h : zH} {r : zQ} (e : zstc X (zex d) y pc ls st h = some (.inr r)) : zle (some r) (zev X d (y, pc, ls, st, h)) := by
  rw [zev_ret (c := (y, pc, ls, st, h)) e]; exact zle_rfl
theorem zle_if {P : Prop} [Decidable P] {A B T : Option zQ} (h1 : P → zle A T) (h2 : ¬ P → zle B T) : zle (if P then A else B) T := by
  by_cases h : P
  · rw [if_pos h]; exact h1 h
  · rw [if_neg h]; exact h2 h
end
section
variable {X : Nat → Nat × (Nat → Int)} {d : Nat} {A B : Option zQ} {m t e : Nat} {x y : Int} {ls st : List zV} {h : zH}
theorem zle_eq (h1 : x = y → zle A (zev X d (m, t, ls, st, h))) (h2 : ¬ x = y → zle B (zev X d (m, e, ls, st, h))) : zle (if x = y then A else B) (zev X d (m, (bif zcmp .eq x y then t else e), ls, st, h)) :=
  zle_if (fun g => by simpa [zcmp, g] using h1 g) (fun g => by simpa [zcmp, g] using h2 g)
theorem zle_ne (h1 : x = y → zle A (zev X d (m, e, ls, st, h))) (h2 : ¬ x = y → zle B (zev X d (m, t, ls, st, h))) : zle (if x = y then A else B) (zev X d (m, (bif zcmp .ne x y then t else e), ls, st, h)) :=
  zle_if (fun g => by simpa [zcmp, g] using h1 g) (fun g => by simpa [zcmp, g] using h2 g)
theorem zle_lt (h1 : x < y → zle A (zev X d (m, t, ls, st, h))) (h2 : ¬ x < y → zle B (zev X d (m, e, ls, st, h))) : zle (if x < y then A else B) (zev X d (m, (bif zcmp .lt x y then t else e), ls, st, h)) :=
  zle_if (fun g => by simpa [zcmp, g] using h1 g) (fun g => by simpa [zcmp, g] using h2 g)
theorem zle_ge (h1 : x < y → zle A (zev X d (m, e, ls, st, h))) (h2 : ¬ x < y → zle B (zev X d (m, t, ls, st, h))) : zle (if x < y then A else B) (zev X d (m, (bif zcmp .ge x y then t else e), ls, st, h)) :=
  zle_if (fun g => by simpa [zcmp, Int.not_le.mpr g] using h1 g) (fun g => by simpa [zcmp, Int.not_lt.mp g] using h2 g)
theorem zle_gt (h1 : y < x → zle A (zev X d (m, t, ls, st, h))) (h2 : ¬ y < x → zle B (zev X d (m, e, ls, st, h))) : zle (if y < x then A else B) (zev X d (m, (bif zcmp .gt x y then t else e), ls, st, h)) :=
  zle_if (fun g => by simpa [zcmp, g] using h1 g) (fun g => by simpa [zcmp, g] using h2 g)
theorem zle_le (h1 : y < x → zle A (zev X d (m, e, ls, st, h))) (h2 : ¬ y < x → zle B (zev X d (m, t, ls, st, h))) : zle (if y < x then A else B) (zev X d (m, (bif zcmp .le x y then t else e), ls, st, h)) :=
  zle_if (fun g => by simpa [zcmp, Int.not_le.mpr g] using h1 g) (fun g => by simpa [zcmp, Int.not_lt.mp g] using h2 g)
theorem zle_sw {ps : List (Int × Nat)} (h1 : x = y → zle A (zev X d (m, t, ls, st, h))) (h2 : ¬ x = y → zle B (zev X d (m, zsw x ps e, ls, st, h))) : zle (if x = y then A else B) (zev X d (m, zsw x ((y, t) :: ps) e, ls, st, h)) :=
  zle_if (fun g => by simpa [zsw, g] using h1 g) (fun g => by simpa [zsw, g] using h2 g)
end
/-! guarded steps: array reads and stores at an index that isn't a number, a divisor, calls -/
section
variable {X : Nat → Nat × (Nat → Int)} {d : Nat} {A : Option zQ} {m pc a n t e : Nat} {i x k : Int} {ls st : List zV} {F : zM} {G : zG} {S : zS}
theorem zle_ald (hi : zlook pc (zcode m) = some (.iaload, [], [], e)) (ha : zarr (F, G, S) a 0 = some n) (hk : k = (n : Int)) (g : 0 ≤ i ∧ i < k → zle A (zev X d (m, e, ls, zI (F a i.toNat) :: st, F, G, S))) : zle (if 0 ≤ i ∧ i < k then A else none) (zev X d (m, pc, ls, zI i :: zR a :: st, F, G, S)) := by
  subst hk
  refine zle_if (fun g1 => ?_) (fun _ => zle_none)
  have h5 : ¬ a < 5 := fun h => by simp [zarr, h] at ha
  rw [zev_step (c' := (m, e, ls, zI (F a i.toNat) :: st, F, G, S)) (by simp only [zstp, zstc, hi, zop, zo_ald, if_neg h5, ha, if_pos g1])]
  exact g g1
theorem zle_bld (hi : zlook pc (zcode m) = some (.baload, [], [], e)) (ha : zarr (F, G, S) a 1 = some n) (hk : k = (n : Int)) (g : 0 ≤ i ∧ i < k → zle A (zev X d (m, e, ls, zI (F a i.toNat) :: st, F, G, S))) : zle (if 0 ≤ i ∧ i < k then A else none) (zev X d (m, pc, ls, zI i :: zR a :: st, F, G, S)) := by
  subst hk
  refine zle_if (fun g1 => ?_) (fun _ => zle_none)
  have h5 : ¬ a < 5 := fun h => by simp [zarr, h] at ha
  rw [zev_step (c' := (m, e, ls, zI (F a i.toNat) :: st, F, G, S)) (by simp only [zstp, zstc, hi, zop, zo_ald, if_neg h5, ha, if_pos g1])]
  exact g g1
/-- a read of what isn't made by the system -/
theorem zle_xld (hi : zlook pc (zcode m) = some (.iaload, [], [], e)) (ha : 1 ≤ a ∧ a < 5) (hn : (X a).1 = n) (hk : k = (n : Int)) (g : 0 ≤ i ∧ i < k → zle A (zev X d (m, e, ls, zI ((X a).2 i.toNat) :: st, F, G, S))) : zle (if 0 ≤ i ∧ i < k then A else none) (zev X d (m, pc, ls, zI i :: zR a :: st, F, G, S)) := by
  subst hk
  subst hn
  refine zle_if (fun g1 => ?_) (fun _ => zle_none)
  rw [zev_step (c' := (m, e, ls, zI ((X a).2 i.toNat) :: st, F, G, S)) (by simp [zstp, zstc, hi, zop, zo_ald, ha.1, ha.2, g1.1, g1.2])]
  exact g g1
theorem zle_lld (hi : zlook pc (zcode m) = some (.laload, [], [], e)) (ha : zarr (F, G, S) a 2 = some n) (hk : k = (n : Int)) (g : 0 ≤ i ∧ i < k → zle A (zev X d (m, e, ls, zL (G a i.toNat) :: st, F, G, S))) : zle (if 0 ≤ i ∧ i < k then A else none) (zev X d (m, pc, ls, zI i :: zR a :: st, F, G, S)) := by
  subst hk
  refine zle_if (fun g1 => ?_) (fun _ => zle_none)
  rw [zev_step (c' := (m, e, ls, zL (G a i.toNat) :: st, F, G, S)) (by simp only [zstp, zstc, hi, zop, zo_lld, ha, if_pos g1])]
  exact g g1
theorem zle_ast (hi : zlook pc (zcode m) = some (.iastore, [], [], e)) (ha : zarr (F, G, S) a 0 = some n) (hk : k = (n : Int)) (g : 0 ≤ i ∧ i < k → zle A (zev X d (m, e, ls, st, zup F a i.toNat x, G, S))) : zle (if 0 ≤ i ∧ i < k then A else none) (zev X d (m, pc, ls, zI x :: zI i :: zR a :: st, F, G, S)) := by
  subst hk
  refine zle_if (fun g1 => ?_) (fun _ => zle_none)
  rw [zev_step (c' := (m, e, ls, st, zup F a i.toNat x, G, S)) (by simp [zstp, zstc, hi, zop, zo_ast, ha, g1.1, g1.2])]
  exact g g1
theorem zle_bst (hi : zlook pc (zcode m) = some (.bastore, [], [], e)) (ha : zarr (F, G, S) a 1 = some n) (hk : k = (n : Int)) (hx : x = 0 ∨ x = 1) (g : 0 ≤ i ∧ i < k → zle A (zev X d (m, e, ls, st, zup F a i.toNat x, G, S))) : zle (if 0 ≤ i ∧ i < k then A else none) (zev X d (m, pc, ls, zI x :: zI i :: zR a :: st, F, G, S)) := by
  subst hk
  refine zle_if (fun g1 => ?_) (fun _ => zle_none)
  rw [zev_step (c' := (m, e, ls, st, zup F a i.toNat x, G, S)) (by simp [zstp, zstc, hi, zop, zo_ast, ha, g1.1, g1.2, hx])]
  exact g g1
theorem zle_lst {b : BitVec 64} (hi : zlook pc (zcode m) = some (.lastore, [], [], e)) (ha : zarr (F, G, S) a 2 = some n) (hk : k = (n : Int)) (g : 0 ≤ i ∧ i < k → zle A (zev X d (m, e, ls, st, F, zug G a i.toNat b, S))) : zle (if 0 ≤ i ∧ i < k then A else none) (zev X d (m, pc, ls, zL b :: zI i :: zR a :: st, F, G, S)) := by
  subst hk
  refine zle_if (fun g1 => ?_) (fun _ => zle_none)
  rw [zev_step (c' := (m, e, ls, st, F, zug G a i.toNat b, S)) (by simp [zstp, zstc, hi, zop, zo_lst, ha, g1.1, g1.2])]
  exact g g1
theorem zle_div {y : Int} (hi : zlook pc (zcode m) = some (.idiv, [], [], e)) (g : ¬ y = 0 → zle A (zev X d (m, e, ls, zI (zdiv x y) :: st, F, G, S))) : zle (if y = 0 then none else A) (zev X d (m, pc, ls, zI y :: zI x :: st, F, G, S)) := by
  refine zle_if (fun _ => zle_none) (fun g1 => ?_)
  rw [zev_step (c' := (m, e, ls, zI (zdiv x y) :: st, F, G, S)) (by simp [zstp, zstc, hi, zop, zo_binD, g1])]
  exact g g1
theorem zle_rem {y : Int} (hi : zlook pc (zcode m) = some (.irem, [], [], e)) (g : ¬ y = 0 → zle A (zev X d (m, e, ls, zI (zrem x y) :: st, F, G, S))) : zle (if y = 0 then none else A) (zev X d (m, pc, ls, zI y :: zI x :: st, F, G, S)) := by
  refine zle_if (fun _ => zle_none) (fun g1 => ?_)
  rw [zev_step (c' := (m, e, ls, zI (zrem x y) :: st, F, G, S)) (by simp [zstp, zstc, hi, zop, zo_binD, g1])]
  exact g g1
theorem zle_retg (hi : zlook pc (zcode m) = some (.ireturn, [1], [], e)) : zle (if x = 0 ∨ x = 1 then some (some (zI x), F, G, S) else none) (zev X d (m, pc, ls, [zI x], F, G, S)) := by
  refine zle_if (fun g1 => ?_) (fun _ => zle_none)
  refine zle_ret ?_
  rcases g1 with g1 | g1 <;> simp [zstc, hi, zop, zo_iret, g1]
theorem zle_cpy {a0 n0 n1 : Nat} {sp dp k : Int} (hi : zlook pc (zcode m) = some (.invokestatic t, [5], [], e)) (ha0 : zarr (F, G, S) a0 0 = some n0) (ha1 : zarr (F, G, S) a 0 = some n1) (hz : zcat st ≤ 8) (hS : S.length = 96) (g : zle A (zev X d (m, e, ls, st, zcpy F a0 sp.toNat a dp.toNat k.toNat, G, S))) :
    zle (if 0 ≤ sp ∧ 0 ≤ dp ∧ 0 ≤ k ∧ sp.toNat + k.toNat ≤ n0 ∧ dp.toNat + k.toNat ≤ n1 then A else none) (zev X d (m, pc, ls, zI k :: zI dp :: zR a :: zI sp :: zR a0 :: st, F, G, S)) := by
  refine zle_if (fun g1 => ?_) (fun _ => zle_none)
  obtain ⟨g1, g2, g3, g4, g5⟩ := g1
  rw [zev_step (c' := (m, e, ls, st, zcpy F a0 sp.toNat a dp.toNat k.toNat, G, S)) (by simp [zstp, zstc, hi, zop, zo_call, ha0, ha1, hz, hS, g1, g2, g3, g4, g5])]
  exact g
end
