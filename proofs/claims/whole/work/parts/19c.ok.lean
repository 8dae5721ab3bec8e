/-! every method keeps its contract, by induction on the depth of calls -/
theorem zcode_out {y : Nat} (h : 245 ≤ y) : zcode y = [] := by
  have hb : Nat.ble y 244 = false := by
    cases hc : Nat.ble y 244 with
    | false => rfl
    | true => exact absurd (Nat.le_of_ble_eq_true hc) (by omega)
  unfold zcode
  rw [hb]
  rfl
theorem zex_ok : ∀ d, zCok (zex d)
  | 0 => fun y a h r h' _ _ e => by cases e
  | d + 1 => fun y a h r h' oh oa e => by
    have e' : (if (zexp a).length ≤ zpl.getD y 0 then zlim (fun n => zrun zX0 (zex d) n (zent y a h)) else none) = some (r, h') := e
    split at e'
    · obtain ⟨n, hn⟩ := zlim_some e'
      have hl : zVok (zent y a h).2.2.1 := zVok_app (zexp_ok oa) (fun v hv => by rw [(List.mem_replicate.mp hv).2]; trivial)
      cases hq : zmt[y]? with
      | some q => exact zrun_ok zEok_0 (zex_ok d) hq (zex_mono d) n _ r h' rfl hl zVok_nil oh hn
      | none =>
        exfalso
        have hy : 245 ≤ y := by rw [← zl_len.1]; exact List.getElem?_eq_none_iff.mp hq
        cases n with
        | zero => cases hn
        | succ n =>
          simp [zrun, zstp, zstc, zent, zcode_out hy, zlook] at hn
    · cases e'
theorem zexp_args {base : Nat} {Xa : Nat → Nat} : ∀ (a : List zV) (i j : Nat) (v : zV), (zexp a)[j]? = some v → v ≠ zR 0 → (i + j, zcv base Xa v) ∈ lv_args i (a.map (zcv base Xa))
  | [], _, _, _, h, _ => by simp [zexp] at h
  | .inl x :: l, i, 0, v, h, _ => by
    simp only [zexp, List.getElem?_cons_zero, Option.some.injEq] at h
    subst h
    exact List.mem_cons_self
  | .inl x :: l, i, j + 1, v, h, hv => by
    simp only [zexp, List.getElem?_cons_succ] at h
    have := zexp_args (base := base) (Xa := Xa) l (i + 1) j v h hv
    rw [show i + (j + 1) = i + 1 + j by omega]
    exact List.mem_cons_of_mem _ this
  | .inr (.inl x) :: l, i, 0, v, h, _ => by
    simp only [zexp, List.getElem?_cons_zero, Option.some.injEq] at h
    subst h
    exact List.mem_cons_self
  | .inr (.inl x) :: l, i, 1, v, h, hv => by
    simp only [zexp, List.getElem?_cons_succ, List.getElem?_cons_zero, Option.some.injEq] at h
    exact absurd h.symm hv
  | .inr (.inl x) :: l, i, j + 2, v, h, hv => by
    simp only [zexp, List.getElem?_cons_succ] at h
    have := zexp_args (base := base) (Xa := Xa) l (i + 2) j v h hv
    rw [show i + (j + 2) = i + 2 + j by omega]
    exact List.mem_cons_of_mem _ this
  | .inr (.inr 0) :: l, i, 0, v, h, hv => by
    simp only [zexp, List.getElem?_cons_zero, Option.some.injEq] at h
    exact absurd h.symm hv
  | .inr (.inr (k + 1)) :: l, i, 0, v, h, _ => by
    simp only [zexp, List.getElem?_cons_zero, Option.some.injEq] at h
    subst h
    exact List.mem_cons_self
  | .inr (.inr 0) :: l, i, j + 1, v, h, hv => by
    simp only [zexp, List.getElem?_cons_succ] at h
    have := zexp_args (base := base) (Xa := Xa) l (i + 1) j v h hv
    rw [show i + (j + 1) = i + 1 + j by omega]
    exact List.mem_cons_of_mem _ this
  | .inr (.inr (k + 1)) :: l, i, j + 1, v, h, hv => by
    simp only [zexp, List.getElem?_cons_succ] at h
    have := zexp_args (base := base) (Xa := Xa) l (i + 1) j v h hv
    rw [show i + (j + 1) = i + 1 + j by omega]
    exact List.mem_cons_of_mem _ this
theorem zexp_len {base : Nat} {Xa : Nat → Nat} : ∀ (a : List zV), (lg_sl (a.map (zcv base Xa))).length = (zexp a).length
  | [] => rfl
  | .inl x :: l => by
    have := zexp_len (base := base) (Xa := Xa) l
    simp only [lg_sl, List.map_cons, List.flatMap_cons, List.length_append, zexp, List.length_cons] at this ⊢
    rw [this, if_neg (show ¬ (zcv base Xa (Sum.inl x)).category = 2 by show ¬ (1 : Nat) = 2; decide)]
    simp only [List.length_singleton]; omega
  | .inr (.inl x) :: l => by
    have := zexp_len (base := base) (Xa := Xa) l
    simp only [lg_sl, List.map_cons, List.flatMap_cons, List.length_append, zexp, List.length_cons] at this ⊢
    rw [this, if_pos (show (zcv base Xa (Sum.inr (Sum.inl x))).category = 2 from rfl)]
    simp only [List.length_cons, List.length_nil]; omega
  | .inr (.inr 0) :: l => by
    have := zexp_len (base := base) (Xa := Xa) l
    simp only [lg_sl, List.map_cons, List.flatMap_cons, List.length_append, zexp, List.length_cons] at this ⊢
    rw [this, if_neg (show ¬ (zcv base Xa (Sum.inr (Sum.inr 0))).category = 2 by show ¬ (1 : Nat) = 2; decide)]
    simp only [List.length_singleton]; omega
  | .inr (.inr (k + 1)) :: l => by
    have := zexp_len (base := base) (Xa := Xa) l
    simp only [lg_sl, List.map_cons, List.flatMap_cons, List.length_append, zexp, List.length_cons] at this ⊢
    rw [this, if_neg (show ¬ (zcv base Xa (Sum.inr (Sum.inr (k + 1)))).category = 2 by show ¬ (1 : Nat) = 2; decide)]
    simp only [List.length_singleton]; omega
theorem zpl_at {y : Nat} {q : zq} (h : zmt[y]? = some q) : zpl.getD y 0 = q.2.2.1 := by
  rw [zl_len.2.2, List.getD_eq_getElem?_getD, List.getElem?_map, h]
  rfl
theorem zVal_ret {base : Nat} {Xa : Nat → Nat} {x : Int} : ((some (zI x) : Option zV).map (zcv base Xa)).toList = [Value.int (Int32.ofInt x)] := rfl
theorem zOK_zex (l : Launch) : ∀ d, zOK l d (zex d)
  | 0 => fun y q hq hy a h r h' oh oa e => by cases e
  | d + 1 => fun y q hq hy a h r h' oh oa e => by
    have ih := zOK_zex l d
    obtain ⟨ok1, ok2⟩ := zex_ok (d + 1) y a h r h' oh oa e
    obtain ⟨m1, m2⟩ := zex_mono (d + 1) y a h r h' e
    refine ⟨ok1, ok2, m1, m2, fun D cA base Xa => ?_⟩
    have e' : (if (zexp a).length ≤ zpl.getD y 0 then zlim (fun n => zrun zX0 (zex d) n (zent y a h)) else none) = some (r, h') := e
    split at e'
    · rename_i hfit
      obtain ⟨n, hn⟩ := zlim_some e'
      have hpl := zpl_at hq
      have hc : y < 245 := by rw [← zl_len.1]; exact (List.getElem?_eq_some_iff.mp hq).1
      have hqd : zmt.getD y zmd = q := Option.some.inj ((zmt_at hc zmd).symm.trans hq)
      have h13 := zl_not13 hc hy
      rw [hqd] at h13
      obtain ⟨w1, w2, w3, w4, w5, w6⟩ := zcw_at hq h13
      refine va_MetF (cc := q.2.1) (maxL := q.2.2.1) (ret := q.2.2.2.1) w2 rfl ?_
      intro p e s m args below meth c s₁ B hml hv
      obtain ⟨rfl, hSt⟩ := hv
      have hx := B.exec
      have hb := B.bytes
      have hr := B.returns
      have hlocks := B.notSynchronized
      have hts0 := atoms_spec (ws := zwy q) B.pre
      have hown : s.vm.findClass (zon q.2.2.2.2) = some m.cls := by rw [w6]; exact findClass_of_methodNamed B.named
      have hnm : q.1.name = "<init>" → meth.name = "<init>" := fun hi => (name_of_methodNamed B.named B.method).1.trans hi
      obtain ⟨hP, hK, hsz, hxt, hnw, hbs⟩ := hSt
      have C : zCtx p s m (a.map (zcv base Xa)).toArray meth c D cA base Xa zX0 y q q.2.2.1 := ⟨hx, hb, hml, hown, fun w hw => hts0 w (List.mem_cons_of_mem _ hw), zk_at y q hq, hK, hxt, hnw, zEok_0, hbs, hnm⟩
      have hW := zsim (l := l) (e := e) (below := below) (R := (headSpec (zwy q) (zroom (d + 1) h h')).room) (n0 := h.2.2.length) (s0 := zsl h) (Q := MQ below (zQc D cA base Xa r h') (a.map (zcv base Xa)).toArray s (h'.2.2.length - h.2.2.length) (zsl h' - zsl h) (fun x => base ≤ x)) C ih (zex_mono d) ⟨Nat.le_refl _, Nat.le_refl _⟩ (r := r) (h' := h') ⟨Nat.le_refl _, Nat.le_refl _⟩ ?_ n (zent y a h) rfl hn
      · have hlen : (zexp a).length ≤ q.2.2.1 := by rw [← hpl]; exact hfit
        have hent := lv_entry (a.map (zcv base Xa)) (n := q.2.2.1) (by rw [zexp_len]; exact hlen)
        rw [lg_entry_eq]
        have hW2 := hW ⟨zVok_app (zexp_ok oa) (fun v hv => by rw [(List.mem_replicate.mp hv).2]; trivial), zVok_nil, oh, Nat.le_refl _, Nat.le_refl _, by
          show (zexp a ++ List.replicate (zpl.getD y 0 - (zexp a).length) (zR 0)).length = _
          rw [List.length_append, List.length_replicate, hpl]; omega⟩ s.heap [] _ ⟨hP, hsz, va_S.rf⟩ (lv_less hent (fun z hz => by
            obtain ⟨v, h1, h2, h3⟩ := zlp_mem.mp hz
            have h1' : (zexp a ++ List.replicate (zpl.getD y 0 - (zexp a).length) (zR 0))[z.1]? = some v := h1
            by_cases hlt : z.1 < (zexp a).length
            · rw [List.getElem?_append_left hlt] at h1'
              have := zexp_args (base := base) (Xa := Xa) a 0 z.1 v h1' h2
              rw [Nat.zero_add, ← h3] at this
              exact this
            · rw [List.getElem?_append_right (by omega), List.getElem?_replicate] at h1'
              split at h1'
              · exact absurd (Option.some.inj h1').symm h2
              · cases h1'))
        have hz1 : (zent y a h).2.2.2.2.2.2.length - h.2.2.length = 0 := Nat.sub_self _
        have hz2 : zsl (zent y a h).2.2.2.2 - zsl h = 0 := Nat.sub_self _
        rw [hz1, hz2] at hW2
        exact hW2
      · intro i pc lsc H locs hd he hrel oh' or'
        have fin : ∀ (o : Outcome), o = .returned (r.map (zcv base Xa)) → ∀ t : State, t.heap = H → s.WarmedH t.vm → zQc D cA base Xa r h' (a.map (zcv base Xa)).toArray s o t := by
          intro o ho t ht hw
          exact ⟨⟨ho, zSt_of C hrel ht hw⟩, hrel.2.2.F ht⟩
        rcases he with ⟨rfl, x, rfl, h1 | ⟨h1, h2⟩⟩ | ⟨rfl, b, rfl, h1⟩ | ⟨rfl, rfl, h1⟩
        · exact W.iret (v := Int32.ofInt x) hx hb (hr.trans h1) (fin _ rfl) hrel.2.2.2.2 hd
        · refine W.zret (v := Int32.ofInt x) (ty := .boolean) hx hb (hr.trans h1) ?_ (fin _ rfl) hrel.2.2.2.2 hd
          rcases h2 with rfl | rfl <;> rfl
        · exact W.lret (v := Int64.ofBitVec b) hx hb (hr.trans h1) (fin _ rfl) hrel.2.2.2.2 hd
        · exact W.vret hx hb (hr.trans h1) (fin _ rfl) hrel.2.2.2.2 hd
    · cases e'
