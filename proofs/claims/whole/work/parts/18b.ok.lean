/-! values stay in range -/
def zCok (cal : zcal) : Prop := ∀ (y : Nat) (a : List zV) (h : zH) (r : Option zV) (h' : zH), zhok h → (∀ v ∈ a, zok v) → cal y a h = some (r, h') → zhok h' ∧ ∀ v, r = some v → zok v
def zVok (l : List zV) : Prop := ∀ v ∈ l, zok v
theorem zVok_nil : zVok [] := fun v h => by cases h
theorem zVok_cons {v : zV} {l : List zV} : zVok (v :: l) ↔ zok v ∧ zVok l := by
  constructor
  · intro h
    exact ⟨h v List.mem_cons_self, fun u hu => h u (List.mem_cons_of_mem _ hu)⟩
  · rintro ⟨h1, h2⟩ u hu
    rcases List.mem_cons.mp hu with h3 | h3
    · rw [h3]; exact h1
    · exact h2 u h3
theorem zVok_get {l : List zV} {i : Nat} {v : zV} (h : zVok l) (e : l[i]? = some v) : zok v := h v (List.mem_of_getElem? e)
theorem zhok_up {F : zM} {g : zG × zS} {k j : Nat} {v : Int} (h : zhok (F, g)) (hv : zin v) : zhok (zup F k j v, g) := zup_ok h hv
theorem zhok_cpy {F : zM} {g : zG × zS} {a b c d n : Nat} (h : zhok (F, g)) : zhok (zcpy F a b c d n, g) := by
  intro x y
  show zin (zcpy F a b c d n x y)
  unfold zcpy
  split
  · exact h _ _
  · exact h _ _
theorem zhok_g {F : zM} {g g' : zG × zS} (h : zhok (F, g)) : zhok (F, g') := h
theorem zVok_app {l m : List zV} (h1 : zVok l) (h2 : zVok m) : zVok (l ++ m) := by
  intro v hv
  rcases List.mem_append.mp hv with h | h
  · exact h1 v h
  · exact h2 v h
section
variable {X : Nat → Nat × (Nat → Int)} {cal : zcal} {w : List Nat} {ps : List (Int × Nat)} {y n : Nat} {ls st : List zV} {h : zH} {k' : zC}
theorem zop_ok (hX : zEok X) (hc : zCok cal) {i : Instr} {pc : Nat} {q : zq} (hl : zlnk y pc q i w ps = true) (o1 : zVok ls) (o2 : zVok st) (o3 : zhok h) (hs : zop i X cal w ps y n ls st h = some (.inl k')) : zVok k'.2.2.1 ∧ zVok k'.2.2.2.1 ∧ zhok k'.2.2.2.2 := by
  have cst : ∀ {v : Int}, zin v → zo_cst X cal w ps y n ls st h = some (.inl k') → ps = [(v, 0)] → zVok k'.2.2.1 ∧ zVok k'.2.2.2.1 ∧ zhok k'.2.2.2.2 := by
    intro v hv hs hp
    subst hp
    simp only [zo_cst] at hs
    cases hs
    exact ⟨o1, zVok_cons.mpr ⟨hv, o2⟩, o3⟩
  have calls : zo_call X cal w ps y n ls st h = some (.inl k') → zVok k'.2.2.1 ∧ zVok k'.2.2.2.1 ∧ zhok k'.2.2.2.2 := by
    intro hs
    simp only [zo_call] at hs
    split at hs
    · split at hs
      · obtain ⟨r, h', hv, rfl⟩ := zback_spec hs
        obtain ⟨g1, g2⟩ := hc _ _ _ _ _ o3 (fun v hv => o2 v (List.mem_of_mem_take (List.mem_reverse.mp hv))) hv
        refine ⟨o1, zVok_app ?_ (fun v hv => o2 v (List.mem_of_mem_drop hv)), g1⟩
        cases r with
        | none => exact zVok_nil
        | some v => exact zVok_cons.mpr ⟨g2 v rfl, zVok_nil⟩
      · cases hs
    · split at hs
      · split at hs
        · cases hs
          exact ⟨o1, (zVok_cons.mp o2).2, o3⟩
        · cases hs
      · cases hs
    · split at hs
      · split at hs
        · split at hs
          · cases hs
            exact ⟨o1, (zVok_cons.mp (zVok_cons.mp (zVok_cons.mp (zVok_cons.mp (zVok_cons.mp o2).2).2).2).2).2, zhok_cpy o3⟩
          · cases hs
        · cases hs
      · cases hs
    · cases hs
  cases i
  case iconst k => exact cst (zin_toInt _) hs (of_decide_eq_true hl)
  case bipush k => exact cst (zin_toInt _) hs (of_decide_eq_true hl)
  case sipush k => exact cst (zin_toInt _) hs (of_decide_eq_true hl)
  case invokestatic => exact calls hs
  case invokevirtual => exact calls hs
  case invokespecial => exact calls hs
  case iload_n | iload | lload_n | lload | aload_n | aload | iinc =>
    simp only [zop, zo_ldi, zo_ldl, zo_lda, zo_inc] at hs
    split at hs
    · rename_i hv
      cases hs
      first
        | exact ⟨o1, zVok_cons.mpr ⟨zVok_get o1 hv, o2⟩, o3⟩
        | exact ⟨zset_ok (zinv_ok o1) (zin_toInt _), o2, o3⟩
    · cases hs
  case istore_n | istore | lstore_n | lstore | astore_n | astore =>
    simp only [zop, zo_sti, zo_stl, zo_sta] at hs
    split at hs
    · split at hs
      · cases hs
        obtain ⟨p1, p2⟩ := zVok_cons.mp o2
        first
          | exact ⟨zset_ok (zinv_ok o1) p1, p2, o3⟩
          | exact ⟨zset_ok (zset_ok (zinv_ok o1) p1) trivial, p2, o3⟩
      · cases hs
    · cases hs
  case iaload | baload =>
    simp only [zop, zo_ald] at hs
    split at hs
    · obtain ⟨p1, p2⟩ := zVok_cons.mp o2
      obtain ⟨p3, p4⟩ := zVok_cons.mp p2
      split at hs
      · split at hs
        · cases hs
          exact ⟨o1, zVok_cons.mpr ⟨hX.1 _ _, p4⟩, o3⟩
        · cases hs
      · split at hs
        · split at hs
          · cases hs
            exact ⟨o1, zVok_cons.mpr ⟨o3 _ _, p4⟩, o3⟩
          · cases hs
        · cases hs
    · cases hs
  case arraylength =>
    simp only [zop, zo_len] at hs
    split at hs
    · split at hs
      · rename_i hc2
        cases hs
        refine ⟨o1, zVok_cons.mpr ⟨?_, (zVok_cons.mp o2).2⟩, o3⟩
        have := hX.2.1 hc2.2
        rw [hc2.1]
        constructor <;> omega
      · cases hs
    · cases hs
  case iastore | bastore | lastore =>
    simp only [zop, zo_ast, zo_lst] at hs
    split at hs
    · obtain ⟨p1, p2⟩ := zVok_cons.mp o2
      obtain ⟨p3, p4⟩ := zVok_cons.mp p2
      obtain ⟨p5, p6⟩ := zVok_cons.mp p4
      split at hs
      · split at hs
        · cases hs
          first
            | exact ⟨o1, p6, zup_ok o3 p1⟩
            | exact ⟨o1, p6, o3⟩
        · cases hs
      · cases hs
    · cases hs
  case getfield =>
    simp only [zop, zo_gf] at hs
    split at hs
    · obtain ⟨p1, p2⟩ := zVok_cons.mp o2
      split at hs
      · split at hs
        · split at hs
          · split at hs
            · cases hs
              exact ⟨o1, zVok_cons.mpr ⟨trivial, p2⟩, o3⟩
            · cases hs
          · split at hs
            · cases hs
              exact ⟨o1, zVok_cons.mpr ⟨trivial, p2⟩, o3⟩
            · cases hs
              exact ⟨o1, zVok_cons.mpr ⟨o3 _ _, p2⟩, o3⟩
        · cases hs
      · cases hs
    · cases hs
  case putfield =>
    simp only [zop, zo_pf] at hs
    split at hs
    · obtain ⟨p1, p2⟩ := zVok_cons.mp o2
      obtain ⟨p3, p4⟩ := zVok_cons.mp p2
      split at hs
      · split at hs
        · split at hs
          · split at hs
            · cases hs
              exact ⟨o1, p4, zup_ok o3 p1⟩
            · cases hs
          · split at hs
            · cases hs
              exact ⟨o1, p4, o3⟩
            · cases hs
          · split at hs
            · cases hs
              exact ⟨o1, p4, o3⟩
            · cases hs
        · cases hs
      · cases hs
    · cases hs
  case newarray | new =>
    simp only [zop, zo_mka, zo_mko] at hs
    split at hs
    · split at hs
      · cases hs
        first
          | exact ⟨o1, zVok_cons.mpr ⟨trivial, (zVok_cons.mp o2).2⟩, zclr_ok o3⟩
          | exact ⟨o1, zVok_cons.mpr ⟨trivial, o2⟩, zclr_ok o3⟩
      · cases hs
    · cases hs
  all_goals first
    | (exfalso; simp [zop, zo_no] at hs; done)
    | (simp only [zop, zo_bin, zo_binD, zo_uni, zo_lbin, zo_lsh, zo_i2l, zo_l2i, zo_lcmp, zo_lcst, zo_ldc, zo_ifc, zo_icm, zo_got, zo_swi, zo_lld, zo_gs, zo_dup, zo_dup_x1, zo_dup2, zo_iret, zo_lret, zo_vret] at hs
       repeat' (split at hs)
       all_goals first
         | (cases hs; done)
         | (cases hs
            simp only [zVok_cons] at o2 ⊢
            first
              | exact ⟨o1, ⟨zin_toInt _, o2.2.2⟩, o3⟩
              | exact ⟨o1, ⟨zin_toInt _, o2.2⟩, o3⟩
              | exact ⟨o1, ⟨trivial, o2.2.2⟩, o3⟩
              | exact ⟨o1, ⟨trivial, o2.2⟩, o3⟩
              | exact ⟨o1, ⟨trivial, o2⟩, o3⟩
              | exact ⟨o1, o2.2.2, o3⟩
              | exact ⟨o1, o2.2, o3⟩
              | exact ⟨o1, o2, o3⟩
              | exact ⟨o1, ⟨o2.1, o2.1, o2.2⟩, o3⟩
              | exact ⟨o1, ⟨o2.1, o2.2.1, o2.1, o2.2.2⟩, o3⟩
              | exact ⟨o1, ⟨o2.1, o2.2.1, o2.1, o2.2.1, o2.2.2⟩, o3⟩))
theorem zop_end_ok {i : Instr} {r : Option zV} {h' : zH} (o2 : zVok st) (o3 : zhok h) (hs : zop i X cal w ps y n ls st h = some (.inr (r, h'))) : zhok h' ∧ ∀ v, r = some v → zok v := by
  cases i
  all_goals first
    | (exfalso; simp [zop, zo_no] at hs; done)
    | (simp only [zop, zo_bin, zo_binD, zo_uni, zo_lbin, zo_lsh, zo_i2l, zo_l2i, zo_lcmp, zo_cst, zo_lcst, zo_ldc, zo_ldi, zo_ldl, zo_lda, zo_sti, zo_sta, zo_stl, zo_inc, zo_ifc, zo_icm, zo_got, zo_swi, zo_ald, zo_lld, zo_ast, zo_lst, zo_len, zo_gf, zo_pf, zo_gs, zo_mka, zo_mko, zo_dup, zo_dup_x1, zo_dup2, zo_call, zback, zo_iret, zo_lret, zo_vret] at hs
       repeat' (split at hs)
       all_goals first
         | (cases hs; done)
         | (cases hs
            refine ⟨o3, fun v hv => ?_⟩
            first
              | (cases hv; done)
              | (cases hv; exact o2 _ List.mem_cons_self)))
end
theorem zrun_ok {X : Nat → Nat × (Nat → Int)} {cal : zcal} (hX : zEok X) (hc : zCok cal) {y : Nat} {q : zq} (hq : zmt[y]? = some q) (hm : zMono cal) (n : Nat) : ∀ (c : zC) (r : Option zV) (h' : zH), c.1 = y → zVok c.2.2.1 → zVok c.2.2.2.1 → zhok c.2.2.2.2 → zrun X cal n c = some (r, h') → zhok h' ∧ ∀ v, r = some v → zok v := by
  induction n with
  | zero => intro c r h' _ _ _ _ h; cases h
  | succ n ih =>
    intro c r h' hy o1 o2 o3 h
    simp only [zrun] at h
    split at h
    · rename_i c' hc'
      unfold zstp zstc at hc'
      split at hc'
      · rename_i i w ps nn hl
        rw [hy] at hl hc'
        obtain ⟨-, -, hk⟩ := zchk_of (zk_at y q hq) hl
        obtain ⟨p1, p2, p3⟩ := zop_ok hX hc hk o1 o2 o3 hc'
        exact ih c' r h' (zop_mono hm hc').1 p1 p2 p3 h
      · cases hc'
    · rename_i r' hc'
      cases h
      unfold zstp zstc at hc'
      split at hc'
      · exact zop_end_ok o2 o3 hc'
      · cases hc'
    · cases h
theorem zexp_ok : ∀ {a : List zV}, zVok a → zVok (zexp a)
  | [], _ => zVok_nil
  | .inl x :: l, h => zVok_cons.mpr ⟨(zVok_cons.mp h).1, zexp_ok (zVok_cons.mp h).2⟩
  | .inr (.inl x) :: l, h => zVok_cons.mpr ⟨trivial, zVok_cons.mpr ⟨trivial, zexp_ok (zVok_cons.mp h).2⟩⟩
  | .inr (.inr x) :: l, h => zVok_cons.mpr ⟨trivial, zexp_ok (zVok_cons.mp h).2⟩
theorem zEok_0 : zEok zX0 := by
  refine ⟨fun k j => ?_, fun h => ?_, fun _ => rfl, fun k _ => rfl⟩
  · have hz : zin 0 := ⟨by decide, by decide⟩
    have key : ∀ l : List Int, (∀ x ∈ l, zin x) → zin (l.getD j 0) := by
      intro l hl
      rw [List.getD_eq_getElem?_getD]
      cases hj : l[j]? with
      | none => exact hz
      | some x => exact hl x (List.mem_of_getElem? hj)
    unfold zX0 zX
    split
    · exact hz
    · split
      · exact hz
      · split
        · refine key _ (fun x hx => ?_)
          simp only [List.mem_cons, List.not_mem_nil, or_false] at hx
          unfold zin
          omega
        · split
          · refine key _ (fun x hx => ?_)
            simp only [List.mem_cons, List.not_mem_nil, or_false] at hx
            unfold zin
            omega
          · split
            · refine key _ (fun x hx => ?_)
              simp only [List.mem_cons, List.not_mem_nil, or_false] at hx
              unfold zin
              omega
            · exact hz
  · exact absurd h (by decide)
