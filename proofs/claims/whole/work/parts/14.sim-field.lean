/-! fields, statics, new cells, arraycopy -/
theorem zce_obj {base : Nat} {Xa : Nat → Nat} {cA : Nat → ClassId} {h : zH} {ci N a : Nat} {rs : List Nat} : zce base Xa cA h (3 + ci, N, rs) a = .inr (ci, (List.range N).map (zfv base Xa h a ci rs)) := by
  rw [Nat.add_comm]; rfl
theorem zrange_at {N j : Nat} {f : Nat → Value} (hj : j < N) : ((List.range N).map f)[j]? = some (f j) := by
  rw [List.getElem?_map, List.getElem?_range hj]; rfl
theorem zrange_set {N j : Nat} {f f' : Nat → Value} {v : Value} (hj : j < N) (h1 : f' j = v) (h2 : ∀ i, i ≠ j → f' i = f i) : (List.range N).map f' = ((List.range N).map f).set j v := by
  apply List.ext_getElem?
  intro i
  by_cases hi : i = j
  · subst hi
    rw [List.getElem?_set_self (by simpa using hj), zrange_at hj, h1]
  · rw [List.getElem?_set_ne (Ne.symm hi), List.getElem?_map, List.getElem?_map]
    cases h9 : (List.range N)[i]? with
    | none => rfl
    | some x =>
      have hx : x = i := by
        rw [List.getElem?_eq_some_iff] at h9
        obtain ⟨h10, h11⟩ := h9
        rw [List.getElem_range] at h11
        exact h11.symm
      subst hx
      simp [h2 x hi]
theorem zcd_of {ci j : Nat} (hc : ci < 11) (hj : j < znf ci) : parseFieldDescriptor (zTf ci j).2.2.1 = some (zty ci j) ∧ ztk (zty ci j) = ztag ci j ∧ (zTf ci j).1 = zon ci ∧ ∀ i, i < znf ci → j ≠ i → (zTf ci j).2.1 ≠ (zTf ci i).2.1 := by
  have h1 := List.all_eq_true.mp zl_CD ci (List.mem_range.mpr hc)
  unfold zcd at h1
  have h2 := List.all_eq_true.mp h1 j (List.mem_range.mpr hj)
  simp only [Bool.and_eq_true, decide_eq_true_eq, List.all_eq_true, Bool.or_eq_true] at h2
  obtain ⟨⟨⟨a1, a2⟩, a3⟩, a4⟩ := h2
  refine ⟨a1, Nat.eq_of_beq_eq_true a2, a3, fun i hi hne => ?_⟩
  rcases a4 i (List.mem_range.mpr hi) with h3 | h3
  · exact absurd (Nat.eq_of_beq_eq_true h3) hne
  · exact h3
theorem zin_ws {ci : Nat} (hc : ci < 11) : ∀ w ∈ u_ws (zon ci) (zTf ci) (znf ci), w ∈ zws0 := by
  intro w hw
  refine zws0_t (zl_in ci hc w hw) ?_
  obtain ⟨k, -, rfl⟩ := List.mem_map.mp hw
  unfold u_lay
  split <;> rfl
theorem zft_of {own k ci j : Nat} (h : zFT.any (fun r => Nat.beq r.1 own && Nat.beq r.2.1 k && Nat.beq r.2.2.1 ci && Nat.beq r.2.2.2.1 j) = true) : Jvm.Cond.fieldLink (zon own) k (zTf ci j).1 (zTf ci j).2.1 (zTf ci j).2.2.1 ∈ zws0 := by
  simp only [List.any_eq_true, Bool.and_eq_true] at h
  obtain ⟨r, hr, ⟨⟨h1, h2⟩, h3⟩, h4⟩ := h
  have h5 := List.all_eq_true.mp zl_FT r hr
  unfold zft at h5
  have h6 := of_decide_eq_true h5
  rw [Nat.eq_of_beq_eq_true h1, Nat.eq_of_beq_eq_true h2, Nat.eq_of_beq_eq_true h3, Nat.eq_of_beq_eq_true h4] at h6
  exact zws0_t (List.mem_of_getElem? h6) rfl
theorem z_blt {a b : Nat} (h : Nat.blt a b = true) : a < b := Nat.le_of_ble_eq_true h
section
variable {p : Program} {l : Launch} {e : Env} {R : Room} {s : State} {m : MethodId} {args : Array Value} {below : List Frame} {meth : Method} {c : Code} {Q : State → Prop}
variable {D : va_G} {cA : Nat → ClassId} {base : Nat} {Xa : Nat → Nat} {E : Nat → Nat × (Nat → Int)} {y : Nat} {q : zq} {nL n0 s0 : Nat} {cal : zcal} {pc n : Nat} {ls st : List zV} {h : zH} {w : List Nat} {ps : List (Int × Nat)} {k' : zC}
theorem zs_getfield {z : Nat} (C : zCtx p s m args meth c D cA base Xa E y q nL) (hd : decode q.2.1 pc = .ok (.getfield z, zlen (.getfield z) w)) (hn : zterm (.getfield z) = true ∨ n = pc + zlen (.getfield z) w) (hl : zlnk y pc q (.getfield z) w ps = true) (he : zo_gf E cal w ps y n ls st h = some (.inl k')) (hW : zW p l e R s m args below meth c Q D cA base Xa nL n0 s0 k') : zW p l e R s m args below meth c Q D cA base Xa nL n0 s0 (y, pc, ls, st, h) := by
  obtain ⟨hx, hb, hml, hown, hts, hall, hK, hxt, hnw, hE, hbs, hnm⟩ := C
  have hn' : n = pc + 3 := by
    rcases hn with hn | hn
    · cases hn
    · exact hn
  subst hn'
  simp only [zo_gf] at he
  split at he
  · rename_i ci j t a r
    simp only [zlnk, Bool.and_eq_true] at hl
    obtain ⟨⟨⟨l1, l2⟩, l3⟩, l4⟩ := hl
    have hci := z_blt l4
    have hjN := z_blt l3
    have htag : t = ztag ci j := Nat.eq_of_beq_eq_true l2
    split at he
    · rename_i q0 hz
      obtain ⟨k, rfl, hq⟩ := zobj_spec hz
      split at he
      · rename_i hj
        intro ok H locs lsc hr hlv
        obtain ⟨o1, o2, o3⟩ := ok
        have o2r : ∀ v ∈ r, zok v := fun v hv => o2 v (List.mem_cons_of_mem _ hv)
        have key : ∀ v : zV, zok v → zfv base Xa h (k + 5) ci q0.2 j = zcv base Xa v → (some (Sum.inl (y, pc + 3, ls, v :: r, h)) : zT) = some (Sum.inl k') → W p l e R s m args below meth c H locs (h.2.2.length - n0) (zsl h - s0) Q (F0 m pc lsc (zcv base Xa (.inr (.inr (k + 5))) :: r.map (zcv base Xa))) := by
          intro v hv1 hv2 he2
          cases he2
          rw [zcv_cell]
          have hcell := zws_cell (base := base) (Xa := Xa) (cA := cA) hq
          rw [zce_obj] at hcell
          refine va_get (v := zcv base Xa v) hx hb hts (zin_ws hci) hown hK hr.1 k hcell (zl_cl ci hci) j hjN (hts _ (zft_of l1)) (fun _ h9 => h9) (by rw [zrange_at hj, hv2]) hd ?_
          refine hW ⟨o1, fun v2 h2 => ?_, o3⟩ H locs lsc hr hlv
          rcases List.mem_cons.mp h2 with h3 | h3
          · rw [h3]; exact hv1
          · exact o2r v2 h3
        split at he
        · rename_i ht
          split at he
          · rename_i z0 hz0
            refine key (.inr (.inr z0)) trivial ?_ he
            unfold zfv
            rw [if_pos (by omega), List.getD_eq_getElem?_getD, hz0]
            rfl
          · cases he
        · rename_i ht
          split at he
          · rename_i ht2
            refine key (.inr (.inl (h.2.1 (k + 5) j))) trivial ?_ he
            unfold zfv
            rw [if_neg (by omega), if_pos (by omega)]
            rfl
          · rename_i ht2
            refine key (.inl (h.1 (k + 5) j)) (o3.1 _ _) ?_ he
            unfold zfv
            rw [if_neg (by omega), if_neg (by omega)]
            rfl
      · cases he
    · cases he
  · cases he
/-- a store to a field, with the heap's size -/
theorem z_put {H : Heap} {locs : List Loc} {cells slots ci j k z own : Nat} {fs : List Value} {v : Value} {rest : List Value} {lsc : Array Slot} (hx : p.tables.exec = Jvm.exec) (hb : c.code = q.2.1) (hown : s.vm.findClass (zon own) = some m.cls) (hts : ∀ w ∈ zws0, w.before args s = true) (hK : va_K D zcl (ztys cA) s)
    (hat : va_at D zcl (base + k, .inr (ci, fs)) H) (hci : ci < 11) (hj : j < znf ci) (hjf : j < fs.length) (hlk : Jvm.Cond.fieldLink (zon own) z (zTf ci j).1 (zTf ci j).2.1 (zTf ci j).2.2.1 ∈ zws0) (hfin : (zTf ci j).2.2.2 = false ∨ (meth.name = "<init>" ∧ ci = own))
    (hn : narrow (zty ci j) v = v) (hfit : fits (zty ci j) v = true) (hd : decode q.2.1 pc = .ok (.putfield z, 3))
    (kk : ∀ (H' : Heap) (x : Nat), va_at D zcl (base + k, .inr (ci, fs.set j v)) H' → H'.size = H.size → (∀ x : Nat, x ≠ base + k → H'[x]? = H[x]?) → W p l e R s m args below meth c H' (locs ++ [⟨base + k, x⟩]) cells slots Q (F0 m (pc + 3) lsc rest)) :
    W p l e R s m args below meth c H locs cells slots Q (F0 m pc lsc (v :: .ref (base + k) :: rest)) := by
  have hc := zl_cl ci hci
  have hin := zin_ws hci
  obtain ⟨hpd, -, hdecl, -⟩ := zcd_of hci hj
  have hap := va_apart (own := zon own) hts hin (zty ci) (fun i hi => (zcd_of hci hi).1) (fun a ha b hb2 hne => (zcd_of hci ha).2.2.2 b hb2 hne) hK hc
  obtain ⟨r, h1, cell, q1, q2, q3, q4⟩ := hat
  have hr : r = (zon ci, zTf ci, znf ci) := Option.some.inj (h1.symm.trans hc)
  subst hr
  obtain ⟨hS, hfc, kC, hkC, hkind⟩ := hK.1 ci _ hc
  obtain ⟨cf, kf, fi, f, hi, hsl⟩ := hS j hj
  have hlay := hts _ (hin _ (u_in_lay hj))
  unfold u_lay at hlay
  have hst := (u_facts hfc hkC (u_lays hts hin hj) hi).1
  have hend : ∀ H' : Heap, H'[base + k]? = some (cell.setSlot f.slot v) → H'.size = H.size → (∀ x : Nat, x ≠ base + k → H'[x]? = H[x]?) → W p l e R s m args below meth c H' (locs ++ [⟨base + k, f.slot⟩]) cells slots Q (F0 m (pc + 3) lsc rest) := by
    intro H' e1 e2 e3
    rw [hsl] at e1
    exact kk H' f.slot ⟨_, hc, t_OB.to (V := updV (vp_V fs) j v) ⟨_, e1, q2, q3, t_set q4 hap hj v⟩ (fun i _ => vp_updV_set hjf v i)⟩ e2 e3
  by_cases hfn : (zTf ci j).2.2.2 = true
  · rw [if_pos hfn] at hlay
    obtain ⟨hin2, hco⟩ : meth.name = "<init>" ∧ ci = own := by
      rcases hfin with hf | hf
      · rw [hf] at hfn; cases hfn
      · exact hf
    subst hco
    have hcf : m.cls = cf := by
      obtain ⟨_, _, c', _, _, _, -, -, hf', -, -, -, hown2, -⟩ := Cond.laysFinal_spec hlay
      have e1 : c' = cf := by have := hi.symm.trans hf'; simp at this; exact this.1.symm
      rw [hdecl] at hown2
      rw [← e1]; exact Option.some.inj (hown.symm.trans hown2)
    have h6 := u_fits hfc hkC hkind (Or.inr hlay) hi hpd hn hfit
    exact W.putFinK hx hb hown (hts _ hlk) hi hst hcf hin2 (by rw [q2]; exact h6) q1 q3 (by rw [hsl]; exact k2_hasslot (q4 j hj)) rfl rfl hd hend
  · rw [if_neg hfn] at hlay
    have h6 := u_store hfc hkC hkind hlay hi hpd hn hfit
    exact W.putK hx hb (f := f) ⟨hown, hts _ hlk, ⟨_, _, _, hi⟩, hst⟩ (by rw [q2]; exact h6) q1 q3 (by rw [hsl]; exact k2_hasslot (q4 j hj)) rfl rfl hd hend
theorem ztk_int {ty : FieldType} (h : ztk ty = 0) : ty = .int := by cases ty <;> first | rfl | cases h
theorem ztk_bool {ty : FieldType} (h : ztk ty = 1) : ty = .boolean := by cases ty <;> first | rfl | cases h
theorem ztk_long {ty : FieldType} (h : ztk ty = 2) : ty = .long := by cases ty <;> first | rfl | cases h
theorem ztk_ref {ty : FieldType} (h : ztk ty = 3) (a : Nat) : narrow ty (.ref a) = .ref a ∧ fits ty (.ref a) = true := by cases ty <;> first | exact ⟨rfl, rfl⟩ | cases h
theorem ztk_int' {ty : FieldType} {t : Nat} (h1 : t = 0) (h2 : ztk ty = t) : ty = .int := ztk_int (h2.trans h1)
theorem ztk_bool' {ty : FieldType} {t : Nat} (h1 : t = 1) (h2 : ztk ty = t) : ty = .boolean := ztk_bool (h2.trans h1)
theorem ztk_long' {ty : FieldType} {t : Nat} (h1 : t = 2) (h2 : ztk ty = t) : ty = .long := ztk_long (h2.trans h1)
theorem zs_putfield {z : Nat} (C : zCtx p s m args meth c D cA base Xa E y q nL) (hd : decode q.2.1 pc = .ok (.putfield z, zlen (.putfield z) w)) (hn : zterm (.putfield z) = true ∨ n = pc + zlen (.putfield z) w) (hl : zlnk y pc q (.putfield z) w ps = true) (he : zo_pf E cal w ps y n ls st h = some (.inl k')) (hW : zW p l e R s m args below meth c Q D cA base Xa nL n0 s0 k') : zW p l e R s m args below meth c Q D cA base Xa nL n0 s0 (y, pc, ls, st, h) := by
  obtain ⟨hx, hb, hml, hown, hts, hall, hK, hxt, hnw, hE, hbs, hnm⟩ := C
  have hn' : n = pc + 3 := by
    rcases hn with hn | hn
    · cases hn
    · exact hn
  subst hn'
  simp only [zo_pf] at he
  split at he
  · rename_i ci j t v a r
    simp only [zlnk, Bool.and_eq_true, Bool.or_eq_true, decide_eq_true_eq, Bool.not_eq_true'] at hl
    obtain ⟨⟨⟨⟨l1, l2⟩, l3⟩, l4⟩, l5⟩ := hl
    have hci := z_blt l4
    have hjN := z_blt l3
    have htag : t = ztag ci j := Nat.eq_of_beq_eq_true l2
    obtain ⟨-, htk, -, -⟩ := zcd_of hci hjN
    have hfin : (zTf ci j).2.2.2 = false ∨ (meth.name = "<init>" ∧ ci = q.2.2.2.2) := l5.imp id (fun h => ⟨hnm h.1, Nat.eq_of_beq_eq_true h.2⟩)
    split at he
    · rename_i q0 hz
      obtain ⟨k, rfl, hq⟩ := zobj_spec hz
      split at he
      · rename_i hj
        intro ok H locs lsc hr hlv
        obtain ⟨o1, o2, o3⟩ := ok
        have o2r : ∀ v ∈ r, zok v := fun v hv => o2 v (List.mem_cons_of_mem _ (List.mem_cons_of_mem _ hv))
        have hat0 := hr.1 k _ (zws_cell hq)
        rw [zce_obj] at hat0
        have hjf : j < ((List.range q0.1).map (zfv base Xa h (k + 5) ci q0.2)).length := by simpa using hj
        have hlk := zft_of l1
        split at he
        · rename_i x
          have ox : zin x := o2 _ List.mem_cons_self
          split at he
          · rename_i hc
            cases he
            show W p l e R s m args below meth c H locs _ _ Q (F0 m pc lsc (zcv base Xa (.inl x) :: zcv base Xa (.inr (.inr (k + 5))) :: r.map (zcv base Xa)))
            rw [zcv_cell]
            have hnf : narrow (zty ci j) (zcv base Xa (.inl x)) = zcv base Xa (.inl x) ∧ fits (zty ci j) (zcv base Xa (.inl x)) = true := by
              rcases hc with hc | ⟨hc, hc2⟩
              · rw [ztk_int' hc (htk.trans htag.symm)]; exact ⟨rfl, rfl⟩
              · rw [ztk_bool' hc (htk.trans htag.symm)]
                rcases hc2 with rfl | rfl <;> exact ⟨rfl, rfl⟩
            refine z_put hx hb hown hts hK hat0 hci hjN hjf hlk hfin hnf.1 hnf.2 hd fun H1 xx e1 z1 oq => ?_
            refine hW ⟨o1, o2r, zup_ok o3.1 ox, o3.2.1, o3.2.2.1, o3.2.2.2⟩ H1 _ lsc ?_ hlv
            refine zRel_put hr hq (zset_same hq) ?_ (fun j t hj ht => zce_far (zup_far (by omega)) (fun _ => rfl)) e1 z1 oq
            rw [zce_obj]
            congr 2
            refine zrange_set hj ?_ (fun i hi => ?_)
            · unfold zfv
              rw [if_neg (by omega), if_neg (by omega)]
              simp [zup, zcv]
            · unfold zfv
              simp [zup, hi]
          · cases he
        · rename_i x
          split at he
          · rename_i hc
            cases he
            show W p l e R s m args below meth c H locs _ _ Q (F0 m pc lsc (zcv base Xa (.inr (.inl x)) :: zcv base Xa (.inr (.inr (k + 5))) :: r.map (zcv base Xa)))
            rw [zcv_cell]
            have hnf : narrow (zty ci j) (zcv base Xa (.inr (.inl x))) = zcv base Xa (.inr (.inl x)) ∧ fits (zty ci j) (zcv base Xa (.inr (.inl x))) = true := by
              rw [ztk_long' hc (htk.trans htag.symm)]; exact ⟨rfl, rfl⟩
            refine z_put hx hb hown hts hK hat0 hci hjN hjf hlk hfin hnf.1 hnf.2 hd fun H1 xx e1 z1 oq => ?_
            refine hW ⟨o1, o2r, o3.1, o3.2.1, o3.2.2.1, o3.2.2.2⟩ H1 _ lsc ?_ hlv
            refine zRel_put hr hq (zset_same hq) ?_ (fun j t hj ht => zce_far (fun _ => rfl) (zug_far (by omega))) e1 z1 oq
            rw [zce_obj]
            congr 2
            refine zrange_set hj ?_ (fun i hi => ?_)
            · unfold zfv
              rw [if_neg (by omega), if_pos (by omega)]
              simp [zug, zcv]
            · unfold zfv
              simp [zug, hi]
          · cases he
        · rename_i x
          split at he
          · rename_i hc
            obtain ⟨hc1, hc2, hc3, hjr⟩ := hc
            cases he
            obtain ⟨x', rfl⟩ : ∃ x', x = x' + 1 := ⟨x - 1, by omega⟩
            show W p l e R s m args below meth c H locs _ _ Q (F0 m pc lsc (zcv base Xa (.inr (.inr (x' + 1))) :: zcv base Xa (.inr (.inr (k + 5))) :: r.map (zcv base Xa)))
            rw [zcv_cell]
            have hnf := ztk_ref (ty := zty ci j) (by omega) (zadr base Xa (x' + 1))
            refine z_put hx hb hown hts hK hat0 hci hjN hjf hlk hfin hnf.1 hnf.2 hd fun H1 xx e1 z1 oq => ?_
            have hlen : (h.2.2.set (k + 5 - 5) (3 + ci, q0.1, q0.2.set j (x' + 1))).length = h.2.2.length := List.length_set
            have hsl : zsl (h.1, h.2.1, h.2.2.set (k + 5 - 5) (3 + ci, q0.1, q0.2.set j (x' + 1))) = zsl h := by
              unfold zsl
              have hh : (h.2.2.set k (3 + ci, q0.1, q0.2.set j (x' + 1))).map (fun q => q.2.1) = h.2.2.map (fun q => q.2.1) := by
                rw [List.map_set]
                refine (zset_same ?_).symm
                rw [List.getElem?_map, hq]; rfl
              show ((h.2.2.set k _).map _).sum = _
              rw [hh]
            have hh := hW ⟨o1, o2r, o3.1, by rw [hlen]; exact o3.2.1, by rw [hsl]; exact o3.2.2.1, o3.2.2.2⟩ H1 (locs ++ [⟨base + k, xx⟩]) lsc ?_ hlv
            · simp only [hlen, hsl] at hh
              exact hh
            · refine zRel_put hr hq (r' := (3 + ci, q0.1, q0.2.set j (x' + 1))) rfl ?_ (fun j t hj ht => zce_far (fun _ => rfl) (fun _ => rfl)) e1 z1 oq
              rw [zce_obj]
              congr 2
              refine zrange_set hj ?_ (fun i hi => ?_)
              · unfold zfv
                rw [if_pos (by omega), List.getD_eq_getElem?_getD, List.getElem?_set_self hjr]
                rfl
              · unfold zfv
                rw [List.getD_eq_getElem?_getD, List.getD_eq_getElem?_getD, List.getElem?_set_ne (Ne.symm hi)]
          · cases he
      · cases he
    · cases he
  · cases he
end
