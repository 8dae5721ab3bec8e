/-! statics, new cells, Object's own constructor, arraycopy -/
set_option maxRecDepth 100000 in
theorem ztag_lt : (List.range 11).all (fun ci => (List.range (znf ci)).all (fun j => Nat.blt (ztag ci j) 4)) = true := by decide +kernel
theorem ztag_4 {ci j : Nat} (hc : ci < 11) (hj : j < znf ci) : ztag ci j < 4 := z_blt (List.all_eq_true.mp (List.all_eq_true.mp ztag_lt ci (List.mem_range.mpr hc)) j (List.mem_range.mpr hj))
theorem zdef {base : Nat} {Xa : Nat → Nat} {h : zH} {ci j a N : Nat} (hc : ci < 11) (hj : j < znf ci) (h1 : h.1 a j = 0) (h2 : h.2.1 a j = 0) : defaultValue (zty ci j) = zfv base Xa h a ci (List.replicate N 0) j := by
  obtain ⟨-, htk, -, -⟩ := zcd_of hc hj
  have ht := ztag_4 hc hj
  have hrep : (List.replicate N 0).getD j 0 = 0 := by
    rw [List.getD_eq_getElem?_getD, List.getElem?_replicate]
    split <;> rfl
  have e0 : Int32.ofInt 0 = 0 := rfl
  have e1 : Int64.ofBitVec 0 = 0 := rfl
  unfold zfv
  rw [hrep, h1, h2, e0, e1]
  generalize zty ci j = ty at htk
  generalize ztag ci j = t at htk ht
  subst htk
  cases ty <;> simp [defaultValue, ztk, zcv] at ht ⊢
section
variable {p : Program} {l : Launch} {e : Env} {R : Room} {s : State} {m : MethodId} {args : Array Value} {below : List Frame} {meth : Method} {c : Code} {Q : State → Prop}
variable {D : va_G} {cA : Nat → ClassId} {base : Nat} {Xa : Nat → Nat} {E : Nat → Nat × (Nat → Int)} {y : Nat} {q : zq} {nL n0 s0 : Nat} {cal : zcal} {pc n : Nat} {ls st : List zV} {h : zH} {w : List Nat} {ps : List (Int × Nat)} {k' : zC}
theorem zs_getstatic {z : Nat} (C : zCtx p s m args meth c D cA base Xa E y q nL) (hd : decode q.2.1 pc = .ok (.getstatic z, zlen (.getstatic z) w)) (hn : zterm (.getstatic z) = true ∨ n = pc + zlen (.getstatic z) w) (hl : zlnk y pc q (.getstatic z) w ps = true) (he : zo_gs E cal w ps y n ls st h = some (.inl k')) (hW : zW p l e R s m args below meth c Q D cA base Xa nL n0 s0 k') : zW p l e R s m args below meth c Q D cA base Xa nL n0 s0 (y, pc, ls, st, h) := by
  obtain ⟨hx, hb, hml, hown, hts, hall, hK, hxt, hnw, hE, hbs, hnm⟩ := C
  have hn' : n = pc + 3 := by
    rcases hn with hn | hn
    · cases hn
    · exact hn
  subst hn'
  simp only [zo_gs] at he
  split at he
  · rename_i k
    split at he
    · rename_i hk
      cases he
      simp only [zlnk, List.any_eq_true, Bool.and_eq_true] at hl
      obtain ⟨r, hr, ⟨h1, h2⟩, h3⟩ := hl
      have h5 := List.all_eq_true.mp zl_GT r hr
      unfold zgt at h5
      simp only [Bool.and_eq_true, decide_eq_true_eq] at h5
      have h6 := h5.1.1
      rw [Nat.eq_of_beq_eq_true h1, Nat.eq_of_beq_eq_true h2, Nat.eq_of_beq_eq_true h3] at h6
      intro ok H locs lsc hr hlv
      obtain ⟨o1, o2, o3⟩ := ok
      have hh := hW ⟨o1, fun v hv => ?_, o3⟩ H locs lsc hr hlv
      · refine va_gets hx hb (hxt.2.2 k hk.1 hk.2) hr.2.2 hown (hts _ (zws0_t (List.mem_of_getElem? h6) rfl)) (fun _ h9 => h9) hd ?_
        rw [← zcv_ext base Xa (by omega) hk.2]
        exact hh
      · rcases List.mem_cons.mp hv with h1 | h1
        · rw [h1]; trivial
        · exact o2 v h1
    · cases he
  · cases he
theorem zclr_far {F : zM} {k a : Nat} (hk : a ≠ k) : ∀ b, zclr F k a b = F a b := fun b => by simp [zclr, hk]
theorem zclg_far {F : zG} {k a : Nat} (hk : a ≠ k) : ∀ b, zclg F k a b = F a b := fun b => by simp [zclg, hk]
theorem zclr_ok {F : zM} {k : Nat} (h : ∀ a b, zin (F a b)) : ∀ a b, zin (zclr F k a b) := by
  intro a b
  unfold zclr
  split
  · constructor <;> omega
  · exact h a b
/-- one cell was made -/
theorem zRel_new {h' : zH} {H H' : Heap} {locs : List Loc} {r : Nat × Nat × List Nat} (hr : zRel s D cA base Xa h H locs) (hl : h.2.2.length < 96) (hs : h'.2.2 = h.2.2 ++ [r])
    (hf : ∀ j t, h.2.2[j]? = some t → zce base Xa cA h' t (j + 5) = zce base Xa cA h t (j + 5)) (hat : va_at D zcl (base + h.2.2.length, zce base Xa cA h' r (h.2.2.length + 5)) H') (hsz : H'.size = base + h.2.2.length + 1) (ho : ∀ x : Nat, x < base + h.2.2.length → H'[x]? = H[x]?) : zRel s D cA base Xa h' H' locs := by
  obtain ⟨hP, hS1, hS⟩ := hr
  have hsz0 := hS1 hl
  refine ⟨?_, fun _ => by rw [hsz, hs]; simp; omega, ⟨by have := hS.1; omega, fun x h1 h2 => ?_, hS.2.2⟩⟩
  · rw [zws_push hs hf]
    refine (hP.kept (fun k x hx => ho x.1 (by rw [← hsz0]; exact (hP k x hx).lt))).app (fun k x hx => ?_)
    have hz : k < 1 := (List.getElem?_eq_some_iff.mp hx).1
    rw [show k = 0 by omega] at hx
    cases hx
    exact hat
  · rw [ho x (by have := hS.1; omega)]
    exact hS.2.1 x h1 h2
theorem zs_newarray {z : ArrayType} (C : zCtx p s m args meth c D cA base Xa E y q nL) (hd : decode q.2.1 pc = .ok (.newarray z, zlen (.newarray z) w)) (hn : zterm (.newarray z) = true ∨ n = pc + zlen (.newarray z) w) (hl : zlnk y pc q (.newarray z) w ps = true) (he : zo_mka E cal w ps y n ls st h = some (.inl k'))
    (hB : k'.2.2.2.2.2.2.length - n0 ≤ R.cells ∧ zsl k'.2.2.2.2 - s0 ≤ R.slots) (hW : zW p l e R s m args below meth c Q D cA base Xa nL n0 s0 k') : zW p l e R s m args below meth c Q D cA base Xa nL n0 s0 (y, pc, ls, st, h) := by
  obtain ⟨hx, hb, hml, hown, hts, hall, hK, hxt, hnw, hE, hbs, hnm⟩ := C
  have hn' : n = pc + 2 := by
    rcases hn with hn | hn
    · cases hn
    · exact hn
  subst hn'
  simp only [zo_mka] at he
  split at he
  · rename_i t ln r
    split at he
    · rename_i hc
      obtain ⟨hc1, hc2, hc3, hc4⟩ := hc
      intro ok H locs lsc hr hlv
      obtain ⟨o1, o2, o3⟩ := ok
      have oln : zin ln := o2 _ List.mem_cons_self
      have o2r : ∀ v ∈ r, zok v := fun v hv => o2 v (List.mem_cons_of_mem _ hv)
      have hsl := zsl_push (h := h) (h' := (zclr h.1 (h.2.2.length + 5), zclg h.2.1 (h.2.2.length + 5), h.2.2 ++ [(t, ln.toNat, [])])) rfl
      have hs0 := o3.2.2.1
      have hn0 := o3.2.1
      have hneg : ¬ Int32.ofInt ln < 0 := by
        rw [show (0 : Int32) = Int32.ofInt 0 from rfl, z_ofInt_lt oln (by constructor <;> omega)]; omega
      cases he
      have hB1 : h.2.2.length - n0 + 1 ≤ R.cells := by have := hB.1; simp at this; omega
      have hB2 : zsl h - s0 + ln.toNat ≤ R.slots := by
        have := hB.2
        simp only [hsl] at this
        omega
      have hfin : ∀ (H1 : Heap) (cN : ClassId) (vd : Value), vp_cell cN (ln.toNat, (match t with
          | 0 => (.inl (fun _ => 0) : (Nat → Int32) ⊕ (Nat → Int64) ⊕ (Nat → UInt32) ⊕ (Nat → UInt64) ⊕ (Nat → Option Nat))
          | 1 => .inl (fun _ => 0)
          | _ => .inr (.inl (fun _ => 0)))) = arrV cN ln.toNat (fun _ => vd) → cN = cA t → H1[base + h.2.2.length]? = some (arrV cN ln.toNat (fun _ => vd)) → H1.size = base + h.2.2.length + 1 → (∀ x, x < base + h.2.2.length → H1[x]? = H[x]?) →
          W p l e R s m args below meth c H1 locs (h.2.2.length - n0 + 1) (zsl h - s0 + ln.toNat) Q (F0 m (pc + 2) lsc (.ref (base + h.2.2.length) :: r.map (zcv base Xa))) := by
        intro H1 cN vd hv hcN e1 z1 o1'
        subst hcN
        have hrel : zRel s D cA base Xa (zclr h.1 (h.2.2.length + 5), zclg h.2.1 (h.2.2.length + 5), h.2.2 ++ [(t, ln.toNat, [])]) H1 locs := by
          refine zRel_new hr hc3 rfl (fun j t' ht' => ?_) ?_ z1 o1'
          · have hj : j < h.2.2.length := (List.getElem?_eq_some_iff.mp ht').1
            exact zce_far (zclr_far (by omega)) (zclg_far (by omega))
          · have e0 : (fun j => Int32.ofInt (zclr h.1 (h.2.2.length + 5) (h.2.2.length + 5) j)) = fun _ => (0 : Int32) := by funext j; simp [zclr]
            have e2 : (fun j => Int64.ofBitVec (zclg h.2.1 (h.2.2.length + 5) (h.2.2.length + 5) j)) = fun _ => (0 : Int64) := by funext j; simp [zclg]
            have ht3 : t = 0 ∨ t = 1 ∨ t = 2 := by omega
            rcases ht3 with rfl | rfl | rfl
            · show H1[base + h.2.2.length]? = some (vp_cell (cA 0) (ln.toNat, .inl (fun j => Int32.ofInt (zclr h.1 (h.2.2.length + 5) (h.2.2.length + 5) j))))
              rw [e0, e1]
              exact congrArg some hv.symm
            · show H1[base + h.2.2.length]? = some (vp_cell (cA 1) (ln.toNat, .inl (fun j => Int32.ofInt (zclr h.1 (h.2.2.length + 5) (h.2.2.length + 5) j))))
              rw [e0, e1]
              exact congrArg some hv.symm
            · show H1[base + h.2.2.length]? = some (vp_cell (cA 2) (ln.toNat, .inr (.inl (fun j => Int64.ofBitVec (zclg h.2.1 (h.2.2.length + 5) (h.2.2.length + 5) j)))))
              rw [e2, e1]
              exact congrArg some hv.symm
        have hh := hW ⟨o1, fun v hv => ?_, zclr_ok o3.1, by simp; omega, by rw [hsl]; omega, o3.2.2.2⟩ H1 locs lsc hrel hlv
        · simp only [List.map_cons, zcv_cell, hsl, List.length_append, List.length_singleton] at hh
          rw [show h.2.2.length - n0 + 1 = h.2.2.length + 1 - n0 by omega, show zsl h - s0 + ln.toNat = zsl h + ln.toNat - s0 by omega]
          exact hh
        · rcases List.mem_cons.mp hv with h1 | h1
          · rw [h1]; trivial
          · exact o2r v h1
      have hsz := hr.2.1 hc3
      have hlz : ∀ {b : Nat}, b ≤ 8 → ln.toNat * b ≤ 536870912 := by
        intro b hb8
        exact Nat.le_trans (Nat.mul_le_mul (show ln.toNat ≤ 1000 by omega) hb8) (Nat.le_of_ble_eq_true rfl)
      match z, hl, hd with
      | .int, hl, hd =>
        have hw : t = 0 := by simpa [zlnk] using hl
        subst hw
        refine va_newaK hx hb (atype := .int) (hts _ (zws0_t zl_AR.1 rfl)) rfl hd rfl hneg (z_nat oln) (hlz (by decide)) hB1 hB2 hsz fun H1 cN e1 z1 o1' hAr hNm => ?_
        exact hfin H1 cN (.int 0) rfl (Option.some.inj (hNm.symm.trans (hK.2 0 _ rfl).2)) e1 z1 o1'
      | .boolean, hl, hd =>
        have hw : t = 1 := by simpa [zlnk] using hl
        subst hw
        refine va_newaK hx hb (atype := .boolean) (hts _ (zws0_t zl_AR.2.1 rfl)) rfl hd rfl hneg (z_nat oln) (hlz (by decide)) hB1 hB2 hsz fun H1 cN e1 z1 o1' hAr hNm => ?_
        exact hfin H1 cN (.int 0) rfl (Option.some.inj (hNm.symm.trans (hK.2 1 _ rfl).2)) e1 z1 o1'
      | .long, hl, hd =>
        have hw : t = 2 := by simpa [zlnk] using hl
        subst hw
        refine va_newaK hx hb (atype := .long) (hts _ (zws0_t zl_AR.2.2 rfl)) rfl hd rfl hneg (z_nat oln) (hlz (by decide)) hB1 hB2 hsz fun H1 cN e1 z1 o1' hAr hNm => ?_
        exact hfin H1 cN (.long 0) rfl (Option.some.inj (hNm.symm.trans (hK.2 2 _ rfl).2)) e1 z1 o1'
      | .char, hl, _ => cases hl
      | .float, hl, _ => cases hl
      | .double, hl, _ => cases hl
      | .byte, hl, _ => cases hl
      | .short, hl, _ => cases hl
    · cases he
  · cases he
theorem zs_new {z : Nat} (C : zCtx p s m args meth c D cA base Xa E y q nL) (hd : decode q.2.1 pc = .ok (.new z, zlen (.new z) w)) (hn : zterm (.new z) = true ∨ n = pc + zlen (.new z) w) (hl : zlnk y pc q (.new z) w ps = true) (he : zo_mko E cal w ps y n ls st h = some (.inl k'))
    (hB : k'.2.2.2.2.2.2.length - n0 ≤ R.cells ∧ zsl k'.2.2.2.2 - s0 ≤ R.slots) (hW : zW p l e R s m args below meth c Q D cA base Xa nL n0 s0 k') : zW p l e R s m args below meth c Q D cA base Xa nL n0 s0 (y, pc, ls, st, h) := by
  obtain ⟨hx, hb, hml, hown, hts, hall, hK, hxt, hnw, hE, hbs, hnm⟩ := C
  have hn' : n = pc + 3 := by
    rcases hn with hn | hn
    · cases hn
    · exact hn
  subst hn'
  simp only [zo_mko] at he
  split at he
  · rename_i ci ln
    split at he
    · rename_i hc3
      intro ok H locs lsc hr hlv
      obtain ⟨o1, o2, o3⟩ := ok
      simp only [zlnk, List.any_eq_true, Bool.and_eq_true] at hl
      obtain ⟨⟨r, hr1, ⟨h1, h2⟩, h3⟩, h4⟩ := hl
      have hln : ln = znf ci := Nat.eq_of_beq_eq_true h4
      subst hln
      have h5 := List.all_eq_true.mp zl_NT r hr1
      unfold znt at h5
      simp only [Bool.and_eq_true, decide_eq_true_eq] at h5
      rw [Nat.eq_of_beq_eq_true h1, Nat.eq_of_beq_eq_true h2, Nat.eq_of_beq_eq_true h3] at h5
      obtain ⟨⟨⟨h6, h7⟩, h8⟩, h9⟩ := h5
      have hci := z_blt h9
      have hsl := zsl_push (h := h) (h' := (zclr h.1 (h.2.2.length + 5), zclg h.2.1 (h.2.2.length + 5), h.2.2 ++ [(3 + ci, znf ci, List.replicate (znf ci) 0)])) rfl
      have hs0 := o3.2.2.1
      have hn0 := o3.2.1
      cases he
      have hB1 : h.2.2.length - n0 + 1 ≤ R.cells := by have := hB.1; simp at this; omega
      have hB2 : zsl h - s0 + znf ci ≤ R.slots := by
        have := hB.2
        simp only [hsl] at this
        omega
      have hKn := hK.1 ci _ (zl_cl ci hci)
      refine W.newcK hx hb hown (hts _ (zws0_t (List.mem_of_getElem? h6) rfl)) (hts _ (zws0_t (List.mem_of_getElem? h7) rfl)) (hts _ (zws0_t (List.mem_of_getElem? h8) rfl)) rfl hd hB1 hB2 hKn.2.1 (hr.2.1 hc3) fun H1 kC hkC e1 z1 o1' => ?_
      have hrel : zRel s D cA base Xa (zclr h.1 (h.2.2.length + 5), zclg h.2.1 (h.2.2.length + 5), h.2.2 ++ [(3 + ci, znf ci, List.replicate (znf ci) 0)]) H1 locs := by
        refine zRel_new hr hc3 rfl (fun j t' ht' => ?_) ?_ z1 o1'
        · have hj : j < h.2.2.length := (List.getElem?_eq_some_iff.mp ht').1
          exact zce_far (zclr_far (by omega)) (zclg_far (by omega))
        · rw [zce_obj]
          refine ⟨_, zl_cl ci hci, (u_born (zty ci) hts (zin_ws hci) hKn hkC e1 (fun i hi => (zcd_of hci hi).1)).to (fun j hj => ?_)⟩
          rw [zdef (base := base) (Xa := Xa) (h := (zclr h.1 (h.2.2.length + 5), zclg h.2.1 (h.2.2.length + 5), h.2.2 ++ [(3 + ci, znf ci, List.replicate (znf ci) 0)])) (a := h.2.2.length + 5) (N := znf ci) hci hj (by simp [zclr]) (by simp [zclg])]
          show _ = vp_V _ j
          unfold vp_V
          rw [List.getD_eq_getElem?_getD, zrange_at hj]
          rfl
      have hh := hW ⟨o1, fun v hv => ?_, zclr_ok o3.1, by simp; omega, by rw [hsl]; omega, o3.2.2.2⟩ H1 locs lsc hrel hlv
      · simp only [List.map_cons, zcv_cell, hsl, List.length_append, List.length_singleton] at hh
        show W p l e R s m args below meth c H1 locs (h.2.2.length - n0 + 1) (zsl h - s0 + znf ci) Q (F0 m (pc + 3) lsc (.ref (base + h.2.2.length) :: st.map (zcv base Xa)))
        rw [show h.2.2.length - n0 + 1 = h.2.2.length + 1 - n0 by omega, show zsl h - s0 + znf ci = zsl h + znf ci - s0 by omega]
        exact hh
      · rcases List.mem_cons.mp hv with h1 | h1
        · rw [h1]; trivial
        · exact o2 v h1
    · cases he
  · cases he
end
