/-! the three kinds of calls -/
theorem zback_spec {y n : Nat} {ls r : List zV} {o : Option zQ} {k' : zC} (h : zback y n ls r o = some (.inl k')) : ∃ (v : Option zV) (h' : zH), o = some (v, h') ∧ k' = (y, n, ls, v.toList ++ r, h') := by
  unfold zback at h
  split at h
  · cases h; exact ⟨_, _, rfl, rfl⟩
  · cases h; exact ⟨_, _, rfl, rfl⟩
  · cases h
theorem zpar_spec {d : String} {n : Nat} (h : Nat.beq n (zpar d) = true) (hs : (parseMethodDescriptor d).isSome = true) : (parseMethodDescriptor d).map (fun d => d.parameters.length) = some n := by
  have h1 := Nat.eq_of_beq_eq_true h
  unfold zpar at h1
  cases hp : parseMethodDescriptor d with
  | none => rw [hp] at hs; cases hs
  | some q => rw [hp] at h1; simp [h1]
/-- what the tables say of a call -/
theorem zmt_of {own k c kd : Nat} (h : zMT.any (fun r => Nat.beq r.1 own && Nat.beq r.2.1 k && Nat.beq r.2.2.1 c && Nat.beq r.2.2.2.1 kd) = true) : c < 245 ∧ c ≠ 242 ∧ Jvm.Cond.initialized (zmn c).cls ∈ lw_tbl ∧
    (kd = 0 → Jvm.Cond.methodLink (zon own) k (zmn c) ∈ lw_tbl ∧ Jvm.Cond.static (zmn c) ∈ lw_tbl) ∧
    (kd = 1 → Jvm.Cond.methodLink (zon own) k (zmn c) ∈ lw_tbl ∧ Jvm.Cond.instanceMethod (zmn c) ∈ lw_tbl ∧ Jvm.Cond.selects (zmn c).cls (zmn c) (zmn c) ∈ lw_tbl) ∧
    (kd = 2 → Jvm.Cond.methodLink (zon own) k (zmn c) ∈ lw_tbl ∧ Jvm.Cond.instanceMethod (zmn c) ∈ lw_tbl) ∧
    (kd = 3 → Jvm.Cond.methodLinkNest (zon own) k (zmn c) "HandsAndWays" ∈ lw_tbl ∧ Jvm.Cond.instanceMethod (zmn c) ∈ lw_tbl) := by
  simp only [List.any_eq_true, Bool.and_eq_true] at h
  obtain ⟨⟨x1, x2, x3, x4, x5, x6, x7, x8⟩, hr, ⟨⟨h1, h2⟩, h3⟩, h4⟩ := h
  have e1 : x1 = own := Nat.eq_of_beq_eq_true h1
  have e2 : x2 = k := Nat.eq_of_beq_eq_true h2
  have e3 : x3 = c := Nat.eq_of_beq_eq_true h3
  have e4 : x4 = kd := Nat.eq_of_beq_eq_true h4
  subst e1; subst e2; subst e3; subst e4
  have h5 := List.all_eq_true.mp zl_MT _ hr
  unfold zmw at h5
  simp only [Bool.and_eq_true, Bool.or_eq_true, decide_eq_true_eq] at h5
  obtain ⟨⟨⟨⟨a1, a2⟩, a3⟩, a4⟩, a5⟩ := h5
  refine ⟨?_, ?_, List.mem_of_getElem? a4, ?_, ?_, ?_, ?_⟩
  · rcases a5 with a5 | a5
    · have := z_blt a5; omega
    · exact z_blt a5.2
  · rcases a5 with a5 | a5
    · have := z_blt a5; omega
    · have := z_blt a5.1; omega
  · rintro rfl; exact ⟨List.mem_of_getElem? a1, List.mem_of_getElem? a2⟩
  · rintro rfl; exact ⟨List.mem_of_getElem? a1, List.mem_of_getElem? a2, List.mem_of_getElem? (of_decide_eq_true a3)⟩
  · rintro rfl; exact ⟨List.mem_of_getElem? a1, List.mem_of_getElem? a2⟩
  · rintro rfl; exact ⟨List.mem_of_getElem? a1, List.mem_of_getElem? a2⟩
section
variable {p : Program} {l : Launch} {e : Env} {R : Room} {s : State} {m : MethodId} {args : Array Value} {below : List Frame} {meth : Method} {c : Code} {Q : State → Prop}
variable {D : va_G} {cA : Nat → ClassId} {base : Nat} {Xa : Nat → Nat} {E : Nat → Nat × (Nat → Int)} {y : Nat} {q : zq} {nL n0 s0 d : Nat} {cal : zcal} {pc n : Nat} {ls st : List zV} {h : zH} {w : List Nat} {ps : List (Int × Nat)} {k' : zC}
/-- a call that the abstract machine does, whatever its kind -/
theorem z_call {kd cc na ci z : Nat} (C : zCtx p s m args meth c D cA base Xa E y q nL) (hcal : zOK l d cal) (hR : d + 1 ≤ R.frames ∧ 64 * (d + 1) ≤ R.locals) (hcc : cc < 245 ∧ cc ≠ 242)
    (he : zo_call E cal [kd, cc, na, ci] ps y (pc + 3) ls st h = some (.inl k')) (hB : k'.2.2.2.2.2.2.length - n0 ≤ R.cells ∧ zsl k'.2.2.2.2 - s0 ≤ R.slots) (hW : zW p l e R s m args below meth c Q D cA base Xa nL n0 s0 k')
    (hrun : ∀ (A : List zV) (r : Option zV) (h' : zH) (H : Heap) (locs : List Loc) (lsc : Array Slot), A = (st.take na).reverse → na ≤ st.length → zrcv h kd ci A = true → zRel s D cA base Xa h H locs → lsc.size = nL → zcat (st.drop na) ≤ 8 →
      (h.2.2.length - n0 + (h'.2.2.length - h.2.2.length) ≤ R.cells ∧ zsl h - s0 + (zsl h' - zsl h) ≤ R.slots) →
      Met l (zmn cc) (zwy (zmt.getD cc zmd)) (zroom d h h') (zPc D cA base Xa A h) (zQc D cA base Xa r h') (h'.2.2.length - h.2.2.length) (zsl h' - zsl h) (fun x => base ≤ x) →
      ∃ a, va_Run p l e R s m args below meth c H locs (h.2.2.length - n0) (zsl h - s0) (h'.2.2.length - h.2.2.length) (zsl h' - zsl h) (F0 m pc lsc (st.map (zcv base Xa))) ((st.drop na).map (zcv base Xa)) (zQc D cA base Xa r h' a) (fun x => base ≤ x)) :
    zW p l e R s m args below meth c Q D cA base Xa nL n0 s0 (y, pc, ls, st, h) := by
  simp only [zo_call] at he
  split at he
  · rename_i hc
    obtain ⟨hc1, hc2, hc3⟩ := hc
    obtain ⟨r, h', hv, rfl⟩ := zback_spec he
    intro ok H locs lsc hr hlv
    obtain ⟨o1, o2, o3⟩ := ok
    have oA : ∀ v ∈ (st.take na).reverse, zok v := fun v hv => o2 v (List.mem_of_mem_take (List.mem_reverse.mp hv))
    obtain ⟨g1, g2, g3, g4, g5⟩ := hcal cc _ (zmt_at hcc.1 zmd) hcc.2 _ h r h' o3.1 oA hv
    have hn0 : n0 ≤ h.2.2.length := o3.2.1
    have hs0 : s0 ≤ zsl h := o3.2.2.1
    have hB1 : h.2.2.length - n0 + (h'.2.2.length - h.2.2.length) ≤ R.cells ∧ zsl h - s0 + (zsl h' - zsl h) ≤ R.slots := by
      have b1 := hB.1
      have b2 := hB.2
      simp only at b1 b2
      constructor <;> omega
    obtain ⟨a, hrun⟩ := hrun _ r h' H locs lsc rfl hc1 hc3 hr hlv.1 hc2 hB1 (g5 D cA base Xa)
    refine z_after hr hrun fun H1 locs1 hrel => ?_
    have hh := hW ⟨o1, fun v hv => ?_, g1, (Nat.le_trans hn0 g3 : n0 ≤ h'.2.2.length), (Nat.le_trans hs0 g4 : s0 ≤ zsl h'), o3.2.2.2⟩ H1 locs1 lsc hrel hlv
    · rw [show h.2.2.length - n0 + (h'.2.2.length - h.2.2.length) = h'.2.2.length - n0 by omega, show zsl h - s0 + (zsl h' - zsl h) = zsl h' - s0 by omega]
      rw [show (r.map (zcv base Xa)).toList ++ (st.drop na).map (zcv base Xa) = (r.toList ++ st.drop na).map (zcv base Xa) by cases r <;> simp]
      exact hh
    · rcases List.mem_append.mp hv with h1 | h1
      · cases r with
        | none => cases h1
        | some v' =>
          have : v = v' := by simpa using h1
          subst this
          exact g2 _ rfl
      · exact o2 v (List.mem_of_mem_drop h1)
  · cases he
theorem zst_split {A : List zV} {na : Nat} (hA : A = (st.take na).reverse) : st.map (zcv base Xa) = (A.map (zcv base Xa)).reverse ++ (st.drop na).map (zcv base Xa) := by
  subst hA
  rw [List.map_reverse, List.reverse_reverse, ← List.map_append, List.take_append_drop]
theorem zrm {lsc : Array Slot} {x : List Value} {k : List zV} (h : zcat k ≤ 8) : 2 * (F0 m pc lsc x).monitorRoom + ((k.map (zcv base Xa)).map fun v => v.category).sum ≤ 8 := lv_room (by rw [zcat_sum]; exact h)
theorem zs_static {z cc na ci : Nat} (C : zCtx p s m args meth c D cA base Xa E y q nL) (hcal : zOK l d cal) (hR : d + 1 ≤ R.frames ∧ 64 * (d + 1) ≤ R.locals) (hd : decode q.2.1 pc = .ok (.invokestatic z, 3)) (hl : zlnk y pc q (.invokestatic z) [0, cc, na, ci] ps = true)
    (he : zo_call E cal [0, cc, na, ci] ps y (pc + 3) ls st h = some (.inl k')) (hB : k'.2.2.2.2.2.2.length - n0 ≤ R.cells ∧ zsl k'.2.2.2.2 - s0 ≤ R.slots) (hW : zW p l e R s m args below meth c Q D cA base Xa nL n0 s0 k') : zW p l e R s m args below meth c Q D cA base Xa nL n0 s0 (y, pc, ls, st, h) := by
  simp only [zlnk, Bool.and_eq_true] at hl
  obtain ⟨⟨-, l1⟩, l2⟩ := hl
  obtain ⟨t1, t2, t3, t4, -⟩ := zmt_of l1
  obtain ⟨t4, t5⟩ := t4 rfl
  refine z_call (z := z) C hcal hR ⟨t1, t2⟩ he hB hW ?_
  intro A r h' H locs lsc hA hna hrc hr hsz hz hB1 hM
  obtain ⟨w1, w2, w3, w4, w5, w6⟩ := zcw_at (zmt_at t1 zmd) (zl_not13 t1 t2)
  have C' := C
  obtain ⟨hx, hb, hml, hown, hts, hall, hK, hxt, hnw, hE, hbs, hnm⟩ := C
  have hq : zmt.getD cc q = zmt.getD cc zmd := Option.some.inj ((zmt_at t1 q).symm.trans (zmt_at t1 zmd))
  rw [hq] at l2
  have hpar := zpar_spec l2 (List.all_eq_true.mp zl_PD _ (List.mem_of_getElem? (zmt_at t1 zmd)))
  refine ⟨_, va_runS (As := A.map (zcv base Xa)) ⟨hx, hb, hml, hown, hts⟩ hM ⟨callB_of na hts (zgood w1) rfl rfl rfl (hts _ (zws0_of t3 rfl)) (hts _ (zws0_of t4 rfl)) ⟨w3, w4, hpar⟩ ⟨hR.1, by show 8 + (_ + 11) + 64 * d ≤ R.locals; have := hR.2; omega⟩, hts _ (zws0_of t5 rfl)⟩ ⟨zPc_blind, fun U hU hw => ⟨rfl, zSt_of C' hr hU hw⟩⟩ rfl (by subst hA; simp [hna]) hsz (zst_split hA) (zrm hz) hd hB1⟩
theorem zrcv_spec {kd ci : Nat} {A : List zV} (hk : kd ≠ 0) (h1 : zrcv h kd ci A = true) : ∃ (k : Nat) (as : List zV) (q : Nat × List Nat), A = .inr (.inr (k + 5)) :: as ∧ h.2.2[k]? = some (3 + ci, q.1, q.2) := by
  unfold zrcv at h1
  split at h1
  · exact absurd rfl hk
  · split at h1
    · rename_i a as
      cases hz : zobj h a ci with
      | none => rw [hz] at h1; cases h1
      | some q =>
        obtain ⟨k, rfl, hq⟩ := zobj_spec hz
        exact ⟨k, as, q, rfl, hq⟩
    · cases h1
theorem zs_virtual {z cc na ci : Nat} (C : zCtx p s m args meth c D cA base Xa E y q nL) (hcal : zOK l d cal) (hR : d + 1 ≤ R.frames ∧ 64 * (d + 1) ≤ R.locals) (hd : decode q.2.1 pc = .ok (.invokevirtual z, 3)) (hl : zlnk y pc q (.invokevirtual z) [1, cc, na, ci] ps = true)
    (he : zo_call E cal [1, cc, na, ci] ps y (pc + 3) ls st h = some (.inl k')) (hB : k'.2.2.2.2.2.2.length - n0 ≤ R.cells ∧ zsl k'.2.2.2.2 - s0 ≤ R.slots) (hW : zW p l e R s m args below meth c Q D cA base Xa nL n0 s0 k') : zW p l e R s m args below meth c Q D cA base Xa nL n0 s0 (y, pc, ls, st, h) := by
  simp only [zlnk, Bool.and_eq_true] at hl
  obtain ⟨⟨⟨⟨-, l1⟩, l2⟩, l3⟩, l4⟩ := hl
  obtain ⟨t1, t2, t3, -, t4, -⟩ := zmt_of l1
  obtain ⟨t4, t5, t6⟩ := t4 rfl
  refine z_call (z := z) C hcal hR ⟨t1, t2⟩ he hB hW ?_
  intro A r h' H locs lsc hA hna hrc hr hsz hz hB1 hM
  obtain ⟨w1, w2, w3, w4, w5, w6⟩ := zcw_at (zmt_at t1 zmd) (zl_not13 t1 t2)
  have C' := C
  obtain ⟨hx, hb, hml, hown, hts, hall, hK, hxt, hnw, hE, hbs, hnm⟩ := C
  have hq : zmt.getD cc q = zmt.getD cc zmd := Option.some.inj ((zmt_at t1 q).symm.trans (zmt_at t1 zmd))
  rw [hq] at l2 l3
  have hci : ci = (zmt.getD cc zmd).2.2.2.2 := Nat.eq_of_beq_eq_true l3
  obtain ⟨k, as, q1, hA2, hq1⟩ := zrcv_spec (by decide) hrc
  have hAl : A.length = na := by subst hA; simp [hna]
  have hasl : na = as.length + 1 := by rw [← hAl, hA2]; rfl
  have hpar := zpar_spec (n := as.length) (d := (zmn cc).desc) (by have := Nat.eq_of_beq_eq_true l2; rw [hasl] at this; rw [show zpar (zmn cc).desc = as.length from (Nat.succ.inj this).symm]; exact Nat.beq_refl _) (List.all_eq_true.mp zl_PD _ (List.mem_of_getElem? (zmt_at t1 zmd)))
  have hcell := zws_cell (base := base) (Xa := Xa) (cA := cA) hq1
  rw [zce_obj] at hcell
  have hAm : A.map (zcv base Xa) = .ref (base + k) :: as.map (zcv base Xa) := by rw [hA2, List.map_cons, zcv_cell]
  have hcls : (zmn cc).cls = zon ci := by rw [hci]; exact w6.symm
  refine ⟨_, va_runV (C := zon ci) (b := base + k) (As := as.map (zcv base Xa)) ⟨hx, hb, hml, hown, hts⟩ hM ⟨callB_of as.length hts (zgood w1) rfl rfl rfl (hts _ (zws0_of t3 rfl)) (hts _ (zws0_of t4 rfl)) ⟨w3, w4, hpar⟩ ⟨hR.1, by show 8 + (_ + 11) + 64 * d ≤ R.locals; have := hR.2; omega⟩, hts _ (zws0_of t5 rfl), by rw [← hcls]; exact hts _ (zws0_of t6 rfl)⟩ ⟨zPc_blind, va_recv hK hr.1 (zl_cl ci (z_blt l4)) hcell, fun U hU hw => ⟨by rw [hAm], zSt_of C' hr hU hw⟩⟩ rfl (by simp) hsz ?_ (zrm hz) hd hB1⟩
  show st.map (zcv base Xa) = _
  rw [zst_split (base := base) (Xa := Xa) hA, hAm]
  simp
theorem zs_special {z kd cc na ci : Nat} (C : zCtx p s m args meth c D cA base Xa E y q nL) (hcal : zOK l d cal) (hR : d + 1 ≤ R.frames ∧ 64 * (d + 1) ≤ R.locals) (hd : decode q.2.1 pc = .ok (.invokespecial z, 3)) (hl : zlnk y pc q (.invokespecial z) [kd, cc, na, ci] ps = true)
    (he : zo_call E cal [kd, cc, na, ci] ps y (pc + 3) ls st h = some (.inl k')) (hB : k'.2.2.2.2.2.2.length - n0 ≤ R.cells ∧ zsl k'.2.2.2.2 - s0 ≤ R.slots) (hW : zW p l e R s m args below meth c Q D cA base Xa nL n0 s0 k') : zW p l e R s m args below meth c Q D cA base Xa nL n0 s0 (y, pc, ls, st, h) := by
  simp only [zlnk, Bool.and_eq_true, Bool.or_eq_true, decide_eq_true_eq] at hl
  obtain ⟨⟨⟨⟨l0, l1⟩, l2⟩, l3⟩, l4⟩ := hl
  obtain ⟨t1, t2, t3, -, -, t4, t5⟩ := zmt_of l1
  refine z_call (z := z) C hcal hR ⟨t1, t2⟩ he hB hW ?_
  intro A r h' H locs lsc hA hna hrc hr hsz hz hB1 hM
  obtain ⟨w1, w2, w3, w4, w5, w6⟩ := zcw_at (zmt_at t1 zmd) (zl_not13 t1 t2)
  have C' := C
  obtain ⟨hx, hb, hml, hown, hts, hall, hK, hxt, hnw, hE, hbs, hnm⟩ := C
  have hq : zmt.getD cc q = zmt.getD cc zmd := Option.some.inj ((zmt_at t1 q).symm.trans (zmt_at t1 zmd))
  rw [hq] at l2 l3 l4
  have hkd : kd = 2 ∨ kd = 3 := l0.imp (fun h => Nat.eq_of_beq_eq_true h) (fun h => Nat.eq_of_beq_eq_true h)
  obtain ⟨k, as, q1, hA2, hq1⟩ := zrcv_spec (by omega) hrc
  have hAl : A.length = na := by subst hA; simp [hna]
  have hasl : na = as.length + 1 := by rw [← hAl, hA2]; rfl
  have hpar := zpar_spec (n := as.length) (d := (zmn cc).desc) (by have := Nat.eq_of_beq_eq_true l2; rw [hasl] at this; rw [show zpar (zmn cc).desc = as.length from (Nat.succ.inj this).symm]; exact Nat.beq_refl _) (List.all_eq_true.mp zl_PD _ (List.mem_of_getElem? (zmt_at t1 zmd)))
  have hAm : A.map (zcv base Xa) = .ref (base + k) :: as.map (zcv base Xa) := by rw [hA2, List.map_cons, zcv_cell]
  have hw : zwy (zmt.getD cc zmd) = Jvm.Cond.code (zmn cc) (zmt.getD cc zmd).2.1 (zmt.getD cc zmd).2.2.1 none :: zws0 := by rw [← l4]; rfl
  have hlo : 8 + ((zmt.getD cc zmd).2.2.1 + 11) + (zroom d h h').locals ≤ R.locals := by
    show 8 + (_ + 11) + 64 * d ≤ R.locals
    have := hR.2
    omega
  have hst : st.map (zcv base Xa) = (as.map (zcv base Xa)).reverse ++ .ref (base + k) :: (st.drop na).map (zcv base Xa) := by
    rw [zst_split (base := base) (Xa := Xa) hA, hAm]
    simp
  rcases hkd with rfl | rfl
  · obtain ⟨t4, t5⟩ := t4 rfl
    exact ⟨_, va_runI (b := base + k) (As := as.map (zcv base Xa)) ⟨hx, hb, hml, hown, hts⟩ hM ⟨callB_of as.length hts (zgood w1) hw rfl rfl (hts _ (zws0_of t3 rfl)) (hts _ (zws0_of t4 rfl)) ⟨w3, w4, hpar⟩ ⟨hR.1, hlo⟩, l3, hts _ (zws0_of t5 rfl)⟩ ⟨zPc_blind, fun U hU hw => ⟨by rw [hAm], zSt_of C' hr hU hw⟩⟩ rfl (by simp) hsz hst (zrm hz) hd hB1⟩
  · obtain ⟨t4, t5⟩ := t5 rfl
    exact ⟨_, va_runIN (host := "HandsAndWays") (b := base + k) (As := as.map (zcv base Xa)) ⟨hx, hb, hml, hown, hts⟩ hM ⟨va_cnB as.length hts (zgood w1) hw rfl rfl (hnw _ _ _ t4) (hts _ (zws0_of t3 rfl)) ⟨w3, w4, hpar⟩ ⟨hR.1, hlo⟩, l3, hts _ (zws0_of t5 rfl)⟩ ⟨zPc_blind, fun U hU hw => ⟨by rw [hAm], zSt_of C' hr hU hw⟩⟩ rfl (by simp) hsz hst (zrm hz) hd hB1⟩
end
