/-! what a local that is nothing may be: anything (a loop's head is the same with more known) -/
def zwk : List zV → List zV → Prop
  | [], [] => True
  | a :: l, b :: m => (a = b ∨ a = zR 0) ∧ zwk l m
  | _, _ => False
theorem zwk_rfl : ∀ l, zwk l l
  | [] => trivial
  | _ :: l => ⟨Or.inl rfl, zwk_rfl l⟩
theorem zwk_len : ∀ {l m : List zV}, zwk l m → l.length = m.length
  | [], [], _ => rfl
  | _ :: l, _ :: m, h => by simp [zwk_len (l := l) (m := m) h.2]
theorem zwk_get : ∀ {l m : List zV} {i : Nat} {v : zV}, zwk l m → l[i]? = some v → v ≠ zR 0 → m[i]? = some v
  | [], [], i, v, _, h, _ => by simp at h
  | a :: l, b :: m, 0, v, h, e, hv => by
    simp only [List.getElem?_cons_zero, Option.some.injEq] at e ⊢
    rcases h.1 with h1 | h1
    · rw [← h1]; exact e
    · exact absurd (e ▸ h1) hv
  | a :: l, b :: m, i + 1, v, h, e, hv => by
    simp only [List.getElem?_cons_succ] at e ⊢
    exact zwk_get h.2 e hv
theorem zwk_set : ∀ {l m : List zV} (i : Nat) (v : zV), zwk l m → zwk (l.set i v) (m.set i v)
  | [], [], _, _, _ => trivial
  | _ :: _, _ :: _, 0, _, h => ⟨Or.inl rfl, h.2⟩
  | _ :: _, _ :: _, i + 1, v, h => ⟨h.1, zwk_set i v h.2⟩
theorem zwk_setr : ∀ {l m : List zV} (i : Nat) (v : zV), l[i]? = some (zR 0) → zwk l m → zwk l (m.set i v)
  | [], [], _, _, _, _ => trivial
  | a :: _, _ :: _, 0, v, e, h => by
    simp only [List.getElem?_cons_zero, Option.some.injEq] at e
    exact ⟨Or.inr e, h.2⟩
  | _ :: _, _ :: _, i + 1, v, e, h => ⟨h.1, zwk_setr i v (by simpa using e) h.2⟩
theorem zwk_inv {l m : List zV} (i : Nat) (h : zwk l m) : zwk (zinv i l) (zinv i m) := by
  cases i with
  | zero => exact h
  | succ i =>
    cases hl : l[i]? with
    | none =>
      have hm : m[i]? = none := by
        rw [List.getElem?_eq_none_iff] at hl ⊢
        rw [← zwk_len h]; exact hl
      simp only [zinv, hl, hm]
      exact h
    | some v =>
      by_cases hv : v = zR 0
      · subst hv
        have e1 : zinv (i + 1) l = l := by simp only [zinv, hl]
        rw [e1]
        simp only [zinv]
        split
        · exact zwk_setr i _ hl h
        · exact h
      · have hm := zwk_get h hl hv
        simp only [zinv, hl, hm]
        split
        · exact zwk_set i _ h
        · exact h
def zrl : zT → zT → Prop
  | none, _ => True
  | some (.inl c), some (.inl c') => c.1 = c'.1 ∧ c.2.1 = c'.2.1 ∧ zwk c.2.2.1 c'.2.2.1 ∧ c.2.2.2 = c'.2.2.2
  | some (.inr a), some (.inr b) => a = b
  | _, _ => False
section
variable {X : Nat → Nat × (Nat → Int)} {cal : zcal} {w : List Nat} {ps : List (Int × Nat)} {y n : Nat} {ls ls' st : List zV} {h : zH}
theorem zrl_ldi (i : Nat) (hw : zwk ls ls') : zrl (zo_ldi i X cal w ps y n ls st h) (zo_ldi i X cal w ps y n ls' st h) := by
  cases hl : ls[i]? with
  | none => simp only [zo_ldi, hl]; trivial
  | some v =>
    match v with
    | .inl x => simp only [zo_ldi, hl, zwk_get hw hl (by simp)]; exact ⟨rfl, rfl, hw, rfl⟩
    | .inr (.inl x) => simp only [zo_ldi, hl]; trivial
    | .inr (.inr x) => simp only [zo_ldi, hl]; trivial
theorem zrl_ldl (i : Nat) (hw : zwk ls ls') : zrl (zo_ldl i X cal w ps y n ls st h) (zo_ldl i X cal w ps y n ls' st h) := by
  cases hl : ls[i]? with
  | none => simp only [zo_ldl, hl]; trivial
  | some v =>
    match v with
    | .inl x => simp only [zo_ldl, hl]; trivial
    | .inr (.inl x) => simp only [zo_ldl, hl, zwk_get hw hl (by simp)]; exact ⟨rfl, rfl, hw, rfl⟩
    | .inr (.inr x) => simp only [zo_ldl, hl]; trivial
theorem zrl_lda (i : Nat) (hw : zwk ls ls') : zrl (zo_lda i X cal w ps y n ls st h) (zo_lda i X cal w ps y n ls' st h) := by
  cases hl : ls[i]? with
  | none => simp only [zo_lda, hl]; trivial
  | some v =>
    match v with
    | .inl x => simp only [zo_lda, hl]; trivial
    | .inr (.inl x) => simp only [zo_lda, hl]; trivial
    | .inr (.inr 0) => simp only [zo_lda, hl]; trivial
    | .inr (.inr (x + 1)) => simp only [zo_lda, hl, zwk_get hw hl (by simp)]; exact ⟨rfl, rfl, hw, rfl⟩
theorem zrl_inc (i : Nat) (k : Int) (hw : zwk ls ls') : zrl (zo_inc i k X cal w ps y n ls st h) (zo_inc i k X cal w ps y n ls' st h) := by
  cases hl : ls[i]? with
  | none => simp only [zo_inc, hl]; trivial
  | some v =>
    match v with
    | .inl x => simp only [zo_inc, hl, zwk_get hw hl (by simp)]; exact ⟨rfl, rfl, zwk_set _ _ (zwk_inv _ hw), rfl⟩
    | .inr (.inl x) => simp only [zo_inc, hl]; trivial
    | .inr (.inr x) => simp only [zo_inc, hl]; trivial
theorem zrl_sti (i : Nat) (hw : zwk ls ls') : zrl (zo_sti i X cal w ps y n ls st h) (zo_sti i X cal w ps y n ls' st h) := by
  simp only [zo_sti, ← zwk_len hw]
  split
  · split
    · exact ⟨rfl, rfl, zwk_set _ _ (zwk_inv _ hw), rfl⟩
    · trivial
  · trivial
theorem zrl_sta (i : Nat) (hw : zwk ls ls') : zrl (zo_sta i X cal w ps y n ls st h) (zo_sta i X cal w ps y n ls' st h) := by
  simp only [zo_sta, ← zwk_len hw]
  split
  · split
    · exact ⟨rfl, rfl, zwk_set _ _ (zwk_inv _ hw), rfl⟩
    · trivial
  · trivial
theorem zrl_stl (i : Nat) (hw : zwk ls ls') : zrl (zo_stl i X cal w ps y n ls st h) (zo_stl i X cal w ps y n ls' st h) := by
  simp only [zo_stl, ← zwk_len hw]
  split
  · split
    · exact ⟨rfl, rfl, zwk_set _ _ (zwk_set _ _ (zwk_inv _ hw)), rfl⟩
    · trivial
  · trivial
theorem zrl_op (i : Instr) (hw : zwk ls ls') : zrl (zop i X cal w ps y n ls st h) (zop i X cal w ps y n ls' st h) := by
  cases i
  case iload_n => exact zrl_ldi (X := X) (cal := cal) (w := w) (ps := ps) _ hw
  case iload => exact zrl_ldi (X := X) (cal := cal) (w := w) (ps := ps) _ hw
  case lload_n => exact zrl_ldl (X := X) (cal := cal) (w := w) (ps := ps) _ hw
  case lload => exact zrl_ldl (X := X) (cal := cal) (w := w) (ps := ps) _ hw
  case aload_n => exact zrl_lda (X := X) (cal := cal) (w := w) (ps := ps) _ hw
  case aload => exact zrl_lda (X := X) (cal := cal) (w := w) (ps := ps) _ hw
  case istore_n => exact zrl_sti (X := X) (cal := cal) (w := w) (ps := ps) _ hw
  case istore => exact zrl_sti (X := X) (cal := cal) (w := w) (ps := ps) _ hw
  case lstore_n => exact zrl_stl (X := X) (cal := cal) (w := w) (ps := ps) _ hw
  case lstore => exact zrl_stl (X := X) (cal := cal) (w := w) (ps := ps) _ hw
  case astore_n => exact zrl_sta (X := X) (cal := cal) (w := w) (ps := ps) _ hw
  case astore => exact zrl_sta (X := X) (cal := cal) (w := w) (ps := ps) _ hw
  case iinc => exact zrl_inc (X := X) (cal := cal) (w := w) (ps := ps) _ _ hw
  all_goals first
    | exact trivial
    | (simp only [zop, zo_bin, zo_binD, zo_uni, zo_lbin, zo_lsh, zo_i2l, zo_l2i, zo_lcmp, zo_cst, zo_lcst, zo_ldc, zo_ifc, zo_icm, zo_got, zo_swi, zo_ald, zo_lld, zo_ast, zo_lst, zo_len, zo_gf, zo_pf, zo_gs, zo_mka, zo_mko, zo_dup, zo_dup_x1, zo_dup2, zo_call, zback, zo_iret, zo_lret, zo_vret]
       repeat' split
       all_goals first
         | exact trivial
         | exact ⟨rfl, rfl, hw, rfl⟩
         | rfl)
theorem zwk_run : ∀ (k : Nat) (y pc : Nat) (ls ls' st : List zV) (h : zH) (r : zQ), zwk ls ls' → zrun X cal k (y, pc, ls, st, h) = some r → zrun X cal k (y, pc, ls', st, h) = some r := by
  intro k
  induction k with
  | zero => intro y pc ls ls' st h r _ e; cases e
  | succ k ih =>
    intro y pc ls ls' st h r hw e
    have hs : zrl (zstp X cal (y, pc, ls, st, h)) (zstp X cal (y, pc, ls', st, h)) := by
      simp only [zstp, zstc]
      split
      · exact zrl_op _ hw
      · trivial
    simp only [zrun] at e ⊢
    split at e
    · rename_i c' hc
      rw [hc] at hs
      match hc2 : zstp X cal (y, pc, ls', st, h), hs with
      | some (.inl c2), hs =>
        obtain ⟨y1, pc1, l1, st1, h1⟩ := c'
        obtain ⟨y2, pc2, l2, st2, h2⟩ := c2
        obtain ⟨e1, e2, e3, e4⟩ := hs
        simp only at e1 e2 e3 e4
        subst e1; subst e2
        obtain ⟨rfl, rfl⟩ := Prod.mk.inj e4
        exact ih _ _ _ _ _ _ _ e3 e
    · rename_i r' hc
      rw [hc] at hs
      match hc2 : zstp X cal (y, pc, ls', st, h), hs with
      | some (.inr r2), hs =>
        cases e
        exact congrArg some hs.symm
    · cases e
end
theorem zle_wk {X : Nat → Nat × (Nat → Int)} {d y pc : Nat} {ls ls' st : List zV} {h : zH} (hw : zwk ls ls') : zle (zev X d (y, pc, ls, st, h)) (zev X d (y, pc, ls', st, h)) := by
  intro r hr
  obtain ⟨n, hn⟩ := zev_some.mp hr
  exact zev_some.mpr ⟨n, zwk_run n y pc ls ls' st h r hw hn⟩
