/-! the cells as both constructors leave them (printed by wip/gen/gen_sg.py); calls, and what follows them -/
def zsg : zS := [(3, 12, [6, 11, 22, 33, 0, 44, 46, 52, 53, 60, 64, 67]), (4, 8, [0, 0, 0, 7, 8, 0, 9, 10]), (0, 8, []), (0, 8, []), (0, 4, []), (0, 4, []), (5, 12, [0, 0, 12, 13, 14, 15, 16, 17, 18, 19, 20, 21]), (0, 8, []), (0, 8, []), (0, 8, []), (0, 2, []), (0, 2, []), (0, 2, []), (0, 2, []), (0, 2, []), (0, 2, []), (0, 2, []), (5, 12, [0, 0, 23, 24, 25, 26, 27, 28, 29, 30, 31, 32]), (0, 8, []), (0, 8, []), (0, 8, []), (0, 2, []), (0, 2, []), (0, 2, []), (0, 2, []), (0, 2, []), (0, 2, []), (0, 2, []), (5, 12, [0, 0, 34, 35, 36, 37, 38, 39, 40, 41, 42, 43]), (0, 8, []), (0, 8, []), (0, 8, []), (0, 2, []), (0, 2, []), (0, 2, []), (0, 2, []), (0, 2, []), (0, 2, []), (0, 2, []), (6, 6, [6, 45, 0, 0, 0, 0]), (2, 64, []), (7, 9, [47, 0, 0, 48, 49, 50, 51, 0, 0]), (0, 120, []), (0, 6, []), (0, 72, []), (0, 72, []), (0, 72, []), (8, 4, [6, 44, 46, 0]), (9, 8, [0, 0, 54, 55, 56, 57, 58, 59]), (0, 12, []), (0, 12, []), (0, 12, []), (0, 12, []), (0, 12, []), (2, 12, []), (10, 15, [6, 44, 53, 22, 61, 0, 0, 0, 0, 0, 0, 0, 0, 62, 63]), (0, 5, []), (0, 6, []), (0, 6, []), (11, 12, [6, 44, 52, 22, 0, 0, 65, 66, 0, 0, 0, 0]), (0, 6, []), (0, 6, []), (12, 3, [68, 69, 70]), (0, 4, []), (0, 4, []), (0, 160, []), (13, 48, [72, 73, 74, 0, 75, 0, 76, 77, 0, 78, 79, 0, 0, 80, 81, 82, 83, 84, 0, 0, 85, 86, 87, 0, 0, 88, 89, 90, 91, 92, 93, 0, 0, 0, 0, 94, 95, 96, 97, 98, 99, 100, 0, 0, 0, 0, 0, 0]), (0, 43, []), (0, 43, []), (0, 43, []), (1, 64, []), (0, 4, []), (0, 4, []), (0, 8, []), (0, 8, []), (0, 6, []), (0, 72, []), (0, 72, []), (0, 72, []), (0, 120, []), (0, 2, []), (0, 2, []), (0, 2, []), (0, 12, []), (0, 12, []), (0, 12, []), (0, 12, []), (0, 12, []), (2, 12, []), (0, 6, []), (0, 6, []), (0, 4, []), (0, 4, []), (0, 160, []), (0, 64, []), (0, 64, [])]
def zbI (q : Option zQ) (k : Int → zM → zG → Option zQ) : Option zQ := match q with
  | some (some (.inl v), F, G, s) => if s = zsg then k v F G else none
  | _ => none
def zbL (q : Option zQ) (k : BitVec 64 → zM → zG → Option zQ) : Option zQ := match q with
  | some (some (.inr (.inl v)), F, G, s) => if s = zsg then k v F G else none
  | _ => none
def zbV (q : Option zQ) (k : zM → zG → Option zQ) : Option zQ := match q with
  | some (none, F, G, s) => if s = zsg then k F G else none
  | _ => none
theorem zbI_some {v : Int} {F : zM} {G : zG} {k : Int → zM → zG → Option zQ} : zbI (some (some (zI v), F, G, zsg)) k = k v F G := by simp [zbI]
theorem zbL_some {v : BitVec 64} {F : zM} {G : zG} {k : BitVec 64 → zM → zG → Option zQ} : zbL (some (some (zL v), F, G, zsg)) k = k v F G := by simp [zbL]
theorem zbV_some {F : zM} {G : zG} {k : zM → zG → Option zQ} : zbV (some (none, F, G, zsg)) k = k F G := by simp [zbV]
def zargs (w : List Nat) (st : List zV) (h : zH) : Option (Nat × List zV × List zV) := match w with
  | [k, c, n, ci] => bif Nat.ble n st.length && (Nat.ble (zcat (st.drop n)) 8 && zrcv h k ci (st.take n).reverse) then some (c, (st.take n).reverse, st.drop n) else none
  | _ => none
def zarg (m pc : Nat) (st : List zV) (h : zH) : Option (Nat × Nat × List zV × List zV) := match zlook pc (zcode m) with
  | some (.invokestatic _, w, _, n) => (zargs w st h).map fun q => (n, q)
  | some (.invokevirtual _, w, _, n) => (zargs w st h).map fun q => (n, q)
  | some (.invokespecial _, w, _, n) => (zargs w st h).map fun q => (n, q)
  | _ => none
theorem zargs_call {X : Nat → Nat × (Nat → Int)} {cal : zcal} {w : List Nat} {ps : List (Int × Nat)} {st r as : List zV} {h : zH} {c y pc : Nat} {ls : List zV} (e : zargs w st h = some (c, as, r)) : zo_call X cal w ps y pc ls st h = zback y pc ls r (cal c as h) := by
  unfold zargs at e
  split at e
  · rename_i k c' n ci
    cases hb : Nat.ble n st.length && (Nat.ble (zcat (st.drop n)) 8 && zrcv h k ci (st.take n).reverse) with
    | false => rw [hb] at e; cases e
    | true =>
      rw [hb] at e
      simp only [Bool.and_eq_true, Nat.ble_eq] at hb
      simp only [cond_true, Option.some.injEq, Prod.mk.injEq] at e
      obtain ⟨rfl, rfl, rfl⟩ := e
      simp only [zo_call, hb, and_self, if_true]
  · cases e
theorem zarg_stp {X : Nat → Nat × (Nat → Int)} {cal : zcal} {m pc : Nat} {ls st r as : List zV} {h : zH} {c n : Nat} (e : zarg m pc st h = some (n, c, as, r)) : zstp X cal (m, pc, ls, st, h) = zback m n ls r (cal c as h) := by
  have key : ∀ {w : List Nat} {ps : List (Int × Nat)} {n' : Nat}, (zargs w st h).map (fun q => (n', q)) = some (n, c, as, r) → zo_call X cal w ps m n' ls st h = zback m n ls r (cal c as h) := by
    intro w ps n' e
    cases hz : zargs w st h with
    | none => rw [hz] at e; cases e
    | some q =>
      rw [hz] at e
      cases e
      exact zargs_call hz
  unfold zarg at e
  split at e
  · rename_i hl
    simp only [zstp, zstc, hl, zop]
    exact key e
  · rename_i hl
    simp only [zstp, zstc, hl, zop]
    exact key e
  · rename_i hl
    simp only [zstp, zstc, hl, zop]
    exact key e
  · cases e
section
variable {X : Nat → Nat × (Nat → Int)} {d m pc c n : Nat} {ls st r as : List zV} {F : zM} {G : zG}
theorem zle_I {k : Int → zM → zG → Option zQ} (e : zarg m pc st (F, G, zsg) = some (n, c, as, r)) (g : ∀ (v : Int) (F1 : zM) (G1 : zG), zle (k v F1 G1) (zev X d (m, n, ls, zI v :: r, F1, G1, zsg))) : zle (zbI (zex d c as (F, G, zsg)) k) (zev X d (m, pc, ls, st, F, G, zsg)) := by
  intro q hq
  unfold zbI at hq
  split at hq
  · rename_i v F1 G1 s hz
    by_cases hs : s = zsg
    · rw [if_pos hs] at hq
      subst hs
      rw [zev_step (c' := (m, n, ls, zI v :: r, F1, G1, zsg)) (by rw [zarg_stp e, hz]; rfl)]
      exact g v F1 G1 q hq
    · rw [if_neg hs] at hq; cases hq
  · cases hq
theorem zle_L {k : BitVec 64 → zM → zG → Option zQ} (e : zarg m pc st (F, G, zsg) = some (n, c, as, r)) (g : ∀ (v : BitVec 64) (F1 : zM) (G1 : zG), zle (k v F1 G1) (zev X d (m, n, ls, zL v :: r, F1, G1, zsg))) : zle (zbL (zex d c as (F, G, zsg)) k) (zev X d (m, pc, ls, st, F, G, zsg)) := by
  intro q hq
  unfold zbL at hq
  split at hq
  · rename_i v F1 G1 s hz
    by_cases hs : s = zsg
    · rw [if_pos hs] at hq
      subst hs
      rw [zev_step (c' := (m, n, ls, zL v :: r, F1, G1, zsg)) (by rw [zarg_stp e, hz]; rfl)]
      exact g v F1 G1 q hq
    · rw [if_neg hs] at hq; cases hq
  · cases hq
theorem zle_V {k : zM → zG → Option zQ} (e : zarg m pc st (F, G, zsg) = some (n, c, as, r)) (g : ∀ (F1 : zM) (G1 : zG), zle (k F1 G1) (zev X d (m, n, ls, r, F1, G1, zsg))) : zle (zbV (zex d c as (F, G, zsg)) k) (zev X d (m, pc, ls, st, F, G, zsg)) := by
  intro q hq
  unfold zbV at hq
  split at hq
  · rename_i F1 G1 s hz
    by_cases hs : s = zsg
    · rw [if_pos hs] at hq
      subst hs
      rw [zev_step (c' := (m, n, ls, r, F1, G1, zsg)) (by rw [zarg_stp e, hz]; rfl)]
      exact g F1 G1 q hq
    · rw [if_neg hs] at hq; cases hq
  · cases hq
end
theorem zle_ent {T : Option zQ} {d y : Nat} {as ls : List zV} {h : zH} (g : zle T (zev zX0 d (y, 0, ls, [], h))) (e : zent y as h = (y, 0, ls, [], h) := by rfl) (hl : Nat.ble (zexp as).length (zpl.getD y 0) = true := by rfl) : zle T (zex (d + 1) y as h) := by
  show zle T (if (zexp as).length ≤ zpl.getD y 0 then zev zX0 d (zent y as h) else none)
  rw [if_pos (Nat.le_of_ble_eq_true hl), e]; exact g
