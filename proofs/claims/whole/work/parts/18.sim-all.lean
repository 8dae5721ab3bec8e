/-! all steps together -/
def zMono (cal : zcal) : Prop := ∀ (y : Nat) (a : List zV) (h : zH) (r : Option zV) (h' : zH), cal y a h = some (r, h') → h.2.2.length ≤ h'.2.2.length ∧ zsl h ≤ zsl h'
theorem zsl_set {h : zH} {k : Nat} {q : Nat × Nat × List Nat} {F : zM} {G : zG} {t : Nat} {rs : List Nat} (hq : h.2.2[k]? = some q) : zsl (F, G, h.2.2.set k (t, q.2.1, rs)) = zsl h := by
  unfold zsl
  have hh : (h.2.2.set k (t, q.2.1, rs)).map (fun q => q.2.1) = h.2.2.map (fun q => q.2.1) := by
    rw [List.map_set]
    refine (zset_same ?_).symm
    rw [List.getElem?_map, hq]; rfl
  show ((h.2.2.set k _).map _).sum = _
  rw [hh]
theorem zop_mono {X : Nat → Nat × (Nat → Int)} {cal : zcal} (hm : zMono cal) {i : Instr} {w : List Nat} {ps : List (Int × Nat)} {y n : Nat} {ls st : List zV} {h : zH} {k' : zC} (hs : zop i X cal w ps y n ls st h = some (.inl k')) : k'.1 = y ∧ h.2.2.length ≤ k'.2.2.2.2.2.2.length ∧ zsl h ≤ zsl k'.2.2.2.2 := by
  have key : ∀ {o : zT} {v : List zV} {pc : Nat} {l : List zV} {F : zM} {G : zG}, o = some (.inl (y, pc, l, v, F, G, h.2.2)) → o = some (.inl k') → k'.1 = y ∧ h.2.2.length ≤ k'.2.2.2.2.2.2.length ∧ zsl h ≤ zsl k'.2.2.2.2 := by
    intro o v pc l F G h1 h2
    rw [h1] at h2
    cases h2
    exact ⟨rfl, Nat.le_refl _, Nat.le_refl _⟩
  cases i
  case invokestatic | invokevirtual | invokespecial =>
    simp only [zop, zo_call] at hs
    split at hs
    · split at hs
      · obtain ⟨r, h', hv, rfl⟩ := zback_spec hs
        exact ⟨rfl, hm _ _ _ _ _ hv⟩
      · cases hs
    · split at hs
      · split at hs
        · exact key rfl hs
        · cases hs
      · cases hs
    · split at hs
      · split at hs
        · split at hs
          · exact key rfl hs
          · cases hs
        · cases hs
      · cases hs
    · cases hs
  case newarray =>
    simp only [zop, zo_mka] at hs
    split at hs
    · split at hs
      · cases hs
        refine ⟨rfl, by simp, ?_⟩
        rw [zsl_mka]
        exact Nat.le_add_right _ _
      · cases hs
    · cases hs
  case new =>
    simp only [zop, zo_mko] at hs
    split at hs
    · split at hs
      · cases hs
        refine ⟨rfl, by simp, ?_⟩
        rw [zsl_mko]
        exact Nat.le_add_right _ _
      · cases hs
    · cases hs
  case putfield =>
    simp only [zop, zo_pf] at hs
    split at hs
    · split at hs
      · rename_i q0 hz
        obtain ⟨k, rfl, hq⟩ := zobj_spec hz
        split at hs
        · split at hs
          · split at hs
            · exact key rfl hs
            · cases hs
          · split at hs
            · exact key rfl hs
            · cases hs
          · split at hs
            · cases hs
              refine ⟨rfl, by simp, ?_⟩
              exact Nat.le_of_eq (zsl_set hq).symm
            · cases hs
        · cases hs
      · cases hs
    · cases hs
  all_goals first
    | (exfalso; simp [zop, zo_no] at hs; done)
    | (simp only [zop, zo_bin, zo_binD, zo_uni, zo_lbin, zo_lsh, zo_i2l, zo_l2i, zo_lcmp, zo_cst, zo_lcst, zo_ldc, zo_ldi, zo_ldl, zo_lda, zo_sti, zo_sta, zo_stl, zo_inc, zo_ifc, zo_icm, zo_got, zo_swi, zo_ald, zo_lld, zo_ast, zo_lst, zo_len, zo_gf, zo_gs, zo_dup, zo_dup_x1, zo_dup2, zo_iret, zo_lret, zo_vret] at hs
       repeat' (split at hs)
       all_goals first
         | exact key rfl hs
         | (cases hs; done))
theorem zrun_mono2 {X : Nat → Nat × (Nat → Int)} {cal : zcal} (hm : zMono cal) (n : Nat) : ∀ (c : zC) (r : Option zV) (h' : zH), zrun X cal n c = some (r, h') → c.2.2.2.2.2.2.length ≤ h'.2.2.length ∧ zsl c.2.2.2.2 ≤ zsl h' := by
  induction n with
  | zero => intro c r h' h; cases h
  | succ n ih =>
    intro c r h' h
    simp only [zrun] at h
    split at h
    · rename_i c' hc
      have h1 := ih c' r h' h
      unfold zstp zstc at hc
      split at hc
      · have h2 := zop_mono hm hc
        exact ⟨Nat.le_trans h2.2.1 h1.1, Nat.le_trans h2.2.2 h1.2⟩
      · cases hc
    · rename_i r' hc
      cases h
      unfold zstp zstc at hc
      split at hc
      · rename_i i w ps nn hl
        have : c.2.2.2.2 = h' := by
          revert hc
          generalize c.2.2.2.2 = hh
          intro hc
          cases i <;> first
            | (exfalso; simp [zop, zo_no] at hc; done)
            | (simp only [zop, zo_bin, zo_binD, zo_uni, zo_lbin, zo_lsh, zo_i2l, zo_l2i, zo_lcmp, zo_cst, zo_lcst, zo_ldc, zo_ldi, zo_ldl, zo_lda, zo_sti, zo_sta, zo_stl, zo_inc, zo_ifc, zo_icm, zo_got, zo_swi, zo_ald, zo_lld, zo_ast, zo_lst, zo_len, zo_gf, zo_pf, zo_gs, zo_mka, zo_mko, zo_dup, zo_dup_x1, zo_dup2, zo_call, zback, zo_iret, zo_lret, zo_vret] at hc
               repeat' (split at hc)
               all_goals first
                 | (cases hc; rfl)
                 | (cases hc; done))
        rw [this]
        exact ⟨Nat.le_refl _, Nat.le_refl _⟩
      · cases hc
    · cases h
theorem zex_mono : ∀ d, zMono (zex d)
  | 0 => fun y a h r h' e => by cases e
  | d + 1 => fun y a h r h' e => by
    have e' : (if (zexp a).length ≤ zpl.getD y 0 then zlim (fun n => zrun zX0 (zex d) n (zent y a h)) else none) = some (r, h') := e
    split at e'
    · obtain ⟨n, hn⟩ := zlim_some e'
      exact zrun_mono2 (zex_mono d) n _ _ _ hn
    · cases e'
