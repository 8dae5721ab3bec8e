/-! new objects -/
section
variable {p : Program} {l : Launch} {e : Env} {R : Room} {s : State} {m : MethodId} {args : Array Value} {below : List Frame} {meth : Method} {c : Code} {Q : State → Prop}
variable {D : va_G} {cA : Nat → ClassId} {base : Nat} {Xa : Nat → Nat} {E : Nat → Nat × (Nat → Int)} {y : Nat} {q : zq} {nL n0 s0 : Nat} {cal : zcal} {pc n : Nat} {ls st : List zV} {h : zH} {w : List Nat} {ps : List (Int × Nat)} {k' : zC}
theorem zsl_mko {h : zH} {ci N : Nat} : zsl (zclr h.1 (h.2.2.length + 5), zclg h.2.1 (h.2.2.length + 5), h.2.2 ++ [(3 + ci, N, List.replicate N 0)]) = zsl h + N := zsl_push (q := (3 + ci, N, List.replicate N 0)) rfl
theorem zs_new {z : Nat} (C : zCtx p s m args meth c D cA base Xa E y q nL) (hd : decode q.2.1 pc = .ok (.new z, zlen (.new z) w)) (hn : zterm (.new z) = true ∨ n = pc + zlen (.new z) w) (hl : zlnk y pc q (.new z) w ps = true) (he : zo_mko E cal w ps y n ls st h = some (.inl k'))
    (hB : k'.2.2.2.2.2.2.length - n0 ≤ R.cells ∧ zsl k'.2.2.2.2 - s0 ≤ R.slots) (hW : zW p l e R s m args below meth c Q D cA base Xa nL n0 s0 k') : zW p l e R s m args below meth c Q D cA base Xa nL n0 s0 (y, pc, ls, st, h) := by
  obtain ⟨hx, hb, hml, hown, hts, hall, hK, hxt, hnw, hE, hbs, hnm⟩ := C
  have hn' : n = pc + 3 := by
    rcases hn with hn | hn
    · cases hn
    · exact hn
  subst hn'
  simp only [zo_mko] at he
  split at he
  · rename_i ci ln
    split at he
    · rename_i hc3
      intro ok H locs lsc hr hlv
      obtain ⟨o1, o2, o3, o4, o5, o6⟩ := ok
      have o4 : n0 ≤ h.2.2.length := o4
      have o5 : s0 ≤ zsl h := o5
      simp only [zlnk, List.any_eq_true, Bool.and_eq_true] at hl
      obtain ⟨⟨r, hr1, ⟨h1, h2⟩, h3⟩, h4⟩ := hl
      have hln : ln = znf ci := Nat.eq_of_beq_eq_true h4
      subst hln
      have h5 := List.all_eq_true.mp zl_NT r hr1
      unfold znt at h5
      simp only [Bool.and_eq_true, decide_eq_true_eq] at h5
      rw [Nat.eq_of_beq_eq_true h1, Nat.eq_of_beq_eq_true h2, Nat.eq_of_beq_eq_true h3] at h5
      obtain ⟨⟨⟨h6, h7⟩, h8⟩, h9⟩ := h5
      have hci := z_blt h9
      cases he
      have hB1 : h.2.2.length - n0 + 1 ≤ R.cells := by
        have h1 : (h.2.2 ++ [(3 + ci, znf ci, List.replicate (znf ci) 0)]).length - n0 ≤ R.cells := hB.1
        rw [List.length_append, List.length_singleton] at h1
        omega
      have hB2 : zsl h - s0 + znf ci ≤ R.slots := by
        have h2 : zsl (zclr h.1 (h.2.2.length + 5), zclg h.2.1 (h.2.2.length + 5), h.2.2 ++ [(3 + ci, znf ci, List.replicate (znf ci) 0)]) - s0 ≤ R.slots := hB.2
        rw [zsl_mko] at h2
        omega
      have hKn := hK.1 ci _ (zl_cl ci hci)
      refine W.newcK hx hb hown (hts _ (zws0_t (List.mem_of_getElem? h6) rfl)) (hts _ (zws0_t (List.mem_of_getElem? h7) rfl)) (hts _ (zws0_t (List.mem_of_getElem? h8) rfl)) rfl hd hB1 hB2 hKn.2.1 (hr.2.1 hc3) fun H1 kC hkC e1 z1 o1' => ?_
      have hrel : zRel s D cA base Xa (zclr h.1 (h.2.2.length + 5), zclg h.2.1 (h.2.2.length + 5), h.2.2 ++ [(3 + ci, znf ci, List.replicate (znf ci) 0)]) H1 locs := by
        refine zRel_new hr hc3 rfl (fun j t' ht' => ?_) ?_ z1 o1'
        · have hj : j < h.2.2.length := (List.getElem?_eq_some_iff.mp ht').1
          exact zce_far (zclr_far (by omega)) (zclg_far (by omega))
        · rw [zce_obj]
          refine ⟨_, zl_cl ci hci, (u_born (zty ci) (fun w hw => hts w hw) (zin_ws hci) hKn hkC e1 (fun i hi => (zcd_of hci hi).1)).to (fun j hj => ?_)⟩
          rw [zdef (base := base) (Xa := Xa) (h := (zclr h.1 (h.2.2.length + 5), zclg h.2.1 (h.2.2.length + 5), h.2.2 ++ [(3 + ci, znf ci, List.replicate (znf ci) 0)])) (a := h.2.2.length + 5) (N := znf ci) hci hj (by simp [zclr]) (by simp [zclg])]
          show _ = vp_V _ j
          unfold vp_V
          rw [List.getD_eq_getElem?_getD, zrange_at hj]
          rfl
      have hok : zokc nL n0 s0 ls (.inr (.inr (h.2.2.length + 5)) :: st) (zclr h.1 (h.2.2.length + 5), zclg h.2.1 (h.2.2.length + 5), h.2.2 ++ [(3 + ci, znf ci, List.replicate (znf ci) 0)]) := by
        refine ⟨o1, fun v hv => ?_, zclr_ok o3, ?_, ?_, o6⟩
        · rcases List.mem_cons.mp hv with h1 | h1
          · rw [h1]; trivial
          · exact o2 v h1
        · show n0 ≤ (h.2.2 ++ [(3 + ci, znf ci, List.replicate (znf ci) 0)]).length
          rw [List.length_append]; omega
        · rw [zsl_mko]; omega
      have hh := hW hok H1 locs lsc hrel hlv
      have e1 : (h.2.2 ++ [(3 + ci, znf ci, List.replicate (znf ci) 0)]).length - n0 = h.2.2.length - n0 + 1 := by
        rw [List.length_append, List.length_singleton]; omega
      have e2 : zsl (zclr h.1 (h.2.2.length + 5), zclg h.2.1 (h.2.2.length + 5), h.2.2 ++ [(3 + ci, znf ci, List.replicate (znf ci) 0)]) - s0 = zsl h - s0 + znf ci := by
        rw [zsl_mko]; omega
      simp only [List.map_cons, zcv_cell, e1, e2] at hh
      exact hh
    · cases he
  · cases he
end
