/-! calls -/
set_option maxRecDepth 100000 in
theorem zl_PD : zmt.all (fun q => (parseMethodDescriptor q.1.desc).isSome) = true := by decide +kernel
def zPc (D : va_G) (cA : Nat → ClassId) (base : Nat) (Xa : Nat → Nat) (a : List zV) (h : zH) : Array Value → State → Prop := va_Pc (a.map (zcv base Xa)) (zSt D cA base Xa zX0 h)
def zQc (D : va_G) (cA : Nat → ClassId) (base : Nat) (Xa : Nat → Nat) (r : Option zV) (h' : zH) : Array Value → State → Outcome → State → Prop := fun _ st o t => (o = .returned (r.map (zcv base Xa)) ∧ zSt D cA base Xa zX0 h' t) ∧ va_F (fun q => base ≤ q) st t
def zroom (d : Nat) (h h' : zH) : Room := { frames := d, cells := h'.2.2.length - h.2.2.length, slots := zsl h' - zsl h, locals := 64 * d }
abbrev zwy (q : zq) : List Jvm.Cond := .code q.1 q.2.1 q.2.2.1 q.2.2.2.1 :: zws0
/-- calls of this kind keep their contracts, with d frames -/
def zOK (l : Launch) (d : Nat) (cal : zcal) : Prop := ∀ (y : Nat) (q : zq), zmt[y]? = some q → y ≠ 242 → ∀ (a : List zV) (h : zH) (r : Option zV) (h' : zH), zhok h → (∀ v ∈ a, zok v) → cal y a h = some (r, h') →
  zhok h' ∧ (∀ v, r = some v → zok v) ∧ h.2.2.length ≤ h'.2.2.length ∧ zsl h ≤ zsl h' ∧ ∀ (D : va_G) (cA : Nat → ClassId) (base : Nat) (Xa : Nat → Nat),
    Met l q.1 (zwy q) (zroom d h h') (zPc D cA base Xa a h) (zQc D cA base Xa r h') (h'.2.2.length - h.2.2.length) (zsl h' - zsl h) (fun x => base ≤ x)
theorem zSt_calling {D : va_G} {cA : Nat → ClassId} {base : Nat} {Xa : Nat → Nat} {E : Nat → Nat × (Nat → Int)} {h : zH} {U V : State} (hh : V.heap = U.heap) (hv : V.vm = U.vm) (H : zSt D cA base Xa E h U) : zSt D cA base Xa E h V := by
  obtain ⟨h1, h2, h3, ⟨⟨h4, h4x⟩, h5, h6⟩, h7, h8⟩ := H
  have ha : U.vm.Alike V.vm := by rw [hv]; exact Vm.Alike.refl _
  refine ⟨by rw [hh]; exact h1, h2.moved ha, by rw [hh]; exact h3, ⟨⟨fun k a b c => ?_, fun h0 => ?_⟩, h5, fun k a b => ?_⟩, fun o k y hy => ?_, by rw [hh]; exact h8⟩
  · rw [hh]; exact (h4 k a b c).moved ha
  · rw [hh]; exact (h4x h0).moved ha
  · rw [hh]; exact (h6 k a b).moved ha
  · exact va_Nw.same rfl hv.symm (h7 o k y hy)
theorem zPc_blind {D : va_G} {cA : Nat → ClassId} {base : Nat} {Xa : Nat → Nat} {a : List zV} {h : zH} : FrameBlind (zPc D cA base Xa a h) := fun _ U g mk hq => ⟨hq.1, zSt_calling (U := U) rfl rfl hq.2⟩
theorem zmt_at {c : Nat} (hc : c < 245) (d : zq) : zmt[c]? = some (zmt.getD c d) := by
  have h1 : c < zmt.length := by rw [zl_len.1]; exact hc
  rw [List.getD_eq_getElem?_getD, List.getElem?_eq_getElem h1]
  rfl
theorem zcw_at {c : Nat} {q : zq} (hq : zmt[c]? = some q) (hc : q.2.2.2.2 ≠ 13) : Jvm.Cond.code q.1 q.2.1 q.2.2.1 q.2.2.2.1 ∈ zws0 ∧ plainFor q.1 = true ∧ q.1.cls ≠ "java/lang/invoke/MethodHandle" ∧ q.1.cls ≠ "java/lang/invoke/VarHandle" ∧ q.2.2.1 ≤ 40 ∧ zon q.2.2.2.2 = q.1.cls := by
  have h1 : c < zmt.length := (List.getElem?_eq_some_iff.mp hq).1
  have h2 : c < zpos.length := by rw [zl_len.2.1]; rw [zl_len.1] at h1; exact h1
  have hz : (zmt.zip zpos)[c]? = some (q, zpos[c]) := by
    rw [List.getElem?_zip_eq_some]
    exact ⟨hq, List.getElem?_eq_getElem h2⟩
  have h3 := List.all_eq_true.mp zl_CW _ (List.mem_of_getElem? hz)
  unfold zcw at h3
  simp only [Bool.or_eq_true, Bool.and_eq_true, decide_eq_true_eq] at h3
  rcases h3 with h3 | h3
  · exact absurd (Nat.eq_of_beq_eq_true h3) hc
  · obtain ⟨⟨⟨⟨⟨a1, a2⟩, a3⟩, a4⟩, a5⟩, a6⟩ := h3
    exact ⟨zws0_t (List.mem_of_getElem? a1) rfl, a2, a3, a4, Nat.le_of_ble_eq_true a5, a6⟩
set_option maxRecDepth 100000 in
theorem zl_13 : (List.range 245).all (fun c => Nat.beq c 242 || !Nat.beq ((zmt.getD c zmd).2.2.2.2) 13) = true := by decide +kernel
theorem zl_not13 {c : Nat} (hc : c < 245) (h2 : c ≠ 242) : (zmt.getD c zmd).2.2.2.2 ≠ 13 := by
  have h1 := List.all_eq_true.mp zl_13 c (List.mem_range.mpr hc)
  simp only [Bool.or_eq_true, Bool.not_eq_true'] at h1
  rcases h1 with h1 | h1
  · exact absurd (Nat.eq_of_beq_eq_true h1) h2
  · intro h3
    rw [h3] at h1
    cases h1
theorem zgood {q : zq} (h : Jvm.Cond.code q.1 q.2.1 q.2.2.1 q.2.2.2.1 ∈ zws0) : GoodIn zws0 (zwy q) := by
  intro w hw
  rcases List.mem_cons.mp hw with h1 | h1
  · subst h1; exact ⟨h, (zws0_in h).2⟩
  · exact ⟨h1, (zws0_in h1).2⟩
section
variable {p : Program} {l : Launch} {e : Env} {R : Room} {s : State} {m : MethodId} {args : Array Value} {below : List Frame} {meth : Method} {c : Code} {Q : State → Prop}
variable {D : va_G} {cA : Nat → ClassId} {base : Nat} {Xa : Nat → Nat} {E : Nat → Nat × (Nat → Int)} {y : Nat} {q : zq} {nL n0 s0 : Nat} {cal : zcal} {pc n : Nat} {ls st : List zV} {h : zH} {w : List Nat} {ps : List (Int × Nat)} {k' : zC}
/-- what a callee may take for granted -/
theorem zSt_of (C : zCtx p s m args meth c D cA base Xa E y q nL) {H : Heap} {locs : List Loc} (hr : zRel s D cA base Xa h H locs) {U : State} (hU : U.heap = H) (hw : s.WarmedH U.vm) : zSt D cA base Xa zX0 h U := by
  obtain ⟨hx, hb, hml, hown, hts, hall, hK, hxt, hnw, hE, hbs, hnm⟩ := C
  obtain ⟨⟨h4, h4x⟩, h5, h6⟩ := hxt
  refine ⟨by rw [hU]; exact hr.1, hK.moved hw.alike, by rw [hU]; exact hr.2.1, ⟨⟨fun k a b c9 => ?_, fun h0 => absurd h0 (by decide)⟩, h5, fun k a b => ?_⟩, fun o k y hy => va_Nw.warmM hw (hnw o k y hy), by rw [hU]; exact Nat.le_trans hbs hr.2.2.1⟩
  · by_cases hk : k = 1
    · exact absurd (c9 hk) (by decide)
    · have hE2 := hE.2.2.2 k (by omega)
      rw [hU, ← hE2]
      have hX := h4 k a b (fun h9 => absurd h9 hk)
      have hb2 := h5 k a b
      exact (hX.kept (hr.2.2.2.1 _ (by omega) (by show ¬ base ≤ Xa k; omega))).moved hw.alike
  · rw [hU]
    exact ((h6 k a b).kept (fun x h1 h2 => hr.2.2.2.1 x h1 h2)).moved hw.alike
/-- behind a call -/
theorem z_after {H : Heap} {locs : List Loc} {lsc : Array Slot} {st0 rest : List Value} {r : Option zV} {h' : zH} {a : Array Value} {mc ms : Nat} {cells slots : Nat} (hr : zRel s D cA base Xa h H locs) (hrun : va_Run p l e R s m args below meth c H locs cells slots mc ms (F0 m pc lsc st0) rest (zQc D cA base Xa r h' a) (fun x => base ≤ x))
    (kk : ∀ (H1 : Heap) (locs1 : List Loc), zRel s D cA base Xa h' H1 locs1 → W p l e R s m args below meth c H1 locs1 (cells + mc) (slots + ms) Q (F0 m (pc + 3) lsc ((r.map (zcv base Xa)).toList ++ rest))) : W p l e R s m args below meth c H locs cells slots Q (F0 m pc lsc st0) := by
  intro T hT X
  obtain ⟨v, st₀, t, T', L, h0, X', hL, e1, e2, ⟨⟨hv, hSt⟩, hz, hk⟩, step⟩ := hrun T hT X
  have hv' : v = r.map (zcv base Xa) := by cases hv; rfl
  subst hv'
  rw [h0] at hz hk
  have hrel : zRel s D cA base Xa h' T'.heap (locs ++ L) := by
    rw [e1]
    refine ⟨hSt.1, hSt.2.2.1, ⟨Nat.le_trans hr.2.2.1 hz, fun x h1 h2 => ?_, fun x hx => ?_⟩⟩
    · rw [hk x (Nat.lt_of_lt_of_le h1 hr.2.2.1) h2]
      exact hr.2.2.2.1 x h1 h2
    · rcases List.mem_append.mp hx with h1 | h1
      · exact hr.2.2.2.2 x h1
      · exact hL x h1
  obtain ⟨t2, a1, b1⟩ := kk T'.heap (locs ++ L) hrel T' rfl X'
  exact ⟨t2, step t2 a1, b1⟩
end
