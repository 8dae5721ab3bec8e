/-! statics, new cells, Object's own constructor, arraycopy -/
set_option maxRecDepth 100000 in
theorem ztag_lt : (List.range 11).all (fun ci => (List.range (znf ci)).all (fun j => Nat.blt (ztag ci j) 4)) = true := by decide +kernel
theorem ztag_4 {ci j : Nat} (hc : ci < 11) (hj : j < znf ci) : ztag ci j < 4 := z_blt (List.all_eq_true.mp (List.all_eq_true.mp ztag_lt ci (List.mem_range.mpr hc)) j (List.mem_range.mpr hj))
theorem zdef {base : Nat} {Xa : Nat → Nat} {h : zH} {ci j a N : Nat} (hc : ci < 11) (hj : j < znf ci) (h1 : h.1 a j = 0) (h2 : h.2.1 a j = 0) : defaultValue (zty ci j) = zfv base Xa h a ci (List.replicate N 0) j := by
  obtain ⟨-, htk, -, -⟩ := zcd_of hc hj
  have ht := ztag_4 hc hj
  have hrep : (List.replicate N 0).getD j 0 = 0 := by
    rw [List.getD_eq_getElem?_getD, List.getElem?_replicate]
    split <;> rfl
  have e0 : Int32.ofInt 0 = 0 := rfl
  have e1 : Int64.ofBitVec 0 = 0 := rfl
  unfold zfv
  rw [hrep, h1, h2, e0, e1]
  generalize zty ci j = ty at htk
  generalize ztag ci j = t at htk ht
  subst htk
  cases ty <;> simp [defaultValue, ztk, zcv] at ht ⊢
section
variable {p : Program} {l : Launch} {e : Env} {R : Room} {s : State} {m : MethodId} {args : Array Value} {below : List Frame} {meth : Method} {c : Code} {Q : State → Prop}
variable {D : va_G} {cA : Nat → ClassId} {base : Nat} {Xa : Nat → Nat} {E : Nat → Nat × (Nat → Int)} {y : Nat} {q : zq} {nL n0 s0 : Nat} {cal : zcal} {pc n : Nat} {ls st : List zV} {h : zH} {w : List Nat} {ps : List (Int × Nat)} {k' : zC}
theorem zs_getstatic {z : Nat} (C : zCtx p s m args meth c D cA base Xa E y q nL) (hd : decode q.2.1 pc = .ok (.getstatic z, zlen (.getstatic z) w)) (hn : zterm (.getstatic z) = true ∨ n = pc + zlen (.getstatic z) w) (hl : zlnk y pc q (.getstatic z) w ps = true) (he : zo_gs E cal w ps y n ls st h = some (.inl k')) (hW : zW p l e R s m args below meth c Q D cA base Xa nL n0 s0 k') : zW p l e R s m args below meth c Q D cA base Xa nL n0 s0 (y, pc, ls, st, h) := by
  obtain ⟨hx, hb, hml, hown, hts, hall, hK, hxt, hnw, hE, hbs, hnm⟩ := C
  have hn' : n = pc + 3 := by
    rcases hn with hn | hn
    · cases hn
    · exact hn
  subst hn'
  simp only [zo_gs] at he
  split at he
  · rename_i k
    split at he
    · rename_i hk
      cases he
      simp only [zlnk, List.any_eq_true, Bool.and_eq_true] at hl
      obtain ⟨r, hr, ⟨h1, h2⟩, h3⟩ := hl
      have h5 := List.all_eq_true.mp zl_GT r hr
      unfold zgt at h5
      simp only [Bool.and_eq_true, decide_eq_true_eq] at h5
      have h6 := h5.1.1
      rw [Nat.eq_of_beq_eq_true h1, Nat.eq_of_beq_eq_true h2, Nat.eq_of_beq_eq_true h3] at h6
      intro ok H locs lsc hr hlv
      obtain ⟨o1, o2, o3⟩ := ok
      have hh := hW ⟨o1, fun v hv => ?_, o3⟩ H locs lsc hr hlv
      · refine va_gets hx hb (hxt.2.2 k hk.1 hk.2) hr.2.2 hown (hts _ (zws0_t (List.mem_of_getElem? h6) rfl)) (fun _ h9 => h9) hd ?_
        rw [← zcv_ext base Xa (by omega) hk.2]
        exact hh
      · rcases List.mem_cons.mp hv with h1 | h1
        · rw [h1]; trivial
        · exact o2 v h1
    · cases he
  · cases he
theorem zclr_far {F : zM} {k a : Nat} (hk : a ≠ k) : ∀ b, zclr F k a b = F a b := fun b => by simp [zclr, hk]
theorem zclg_far {F : zG} {k a : Nat} (hk : a ≠ k) : ∀ b, zclg F k a b = F a b := fun b => by simp [zclg, hk]
theorem zclr_ok {F : zM} {k : Nat} (h : ∀ a b, zin (F a b)) : ∀ a b, zin (zclr F k a b) := by
  intro a b
  unfold zclr
  split
  · constructor <;> omega
  · exact h a b
/-- one cell was made -/
theorem zRel_new {h' : zH} {H H' : Heap} {locs : List Loc} {r : Nat × Nat × List Nat} (hr : zRel s D cA base Xa h H locs) (hl : h.2.2.length < 96) (hs : h'.2.2 = h.2.2 ++ [r])
    (hf : ∀ j t, h.2.2[j]? = some t → zce base Xa cA h' t (j + 5) = zce base Xa cA h t (j + 5)) (hat : va_at D zcl (base + h.2.2.length, zce base Xa cA h' r (h.2.2.length + 5)) H') (hsz : H'.size = base + h.2.2.length + 1) (ho : ∀ x : Nat, x < base + h.2.2.length → H'[x]? = H[x]?) : zRel s D cA base Xa h' H' locs := by
  obtain ⟨hP, hS1, hS⟩ := hr
  have hsz0 := hS1 hl
  refine ⟨?_, fun _ => by rw [hsz, hs]; simp; omega, ⟨by have := hS.1; omega, fun x h1 h2 => ?_, hS.2.2⟩⟩
  · rw [zws_push hs hf]
    refine (hP.kept (fun k x hx => ho x.1 (by rw [← hsz0]; exact (hP k x hx).lt))).app (fun k x hx => ?_)
    have hz : k < 1 := (List.getElem?_eq_some_iff.mp hx).1
    rw [show k = 0 by omega] at hx
    cases hx
    exact hat
  · rw [ho x (by have := hS.1; omega)]
    exact hS.2.1 x h1 h2
theorem zsl_mka {h : zH} {t : Nat} {ln : Int} : zsl (zclr h.1 (h.2.2.length + 5), zclg h.2.1 (h.2.2.length + 5), h.2.2 ++ [(t, ln.toNat, [])]) = zsl h + ln.toNat := zsl_push (q := (t, ln.toNat, [])) rfl
/-- behind the making of an array -/
theorem zs_mka_fin {t : Nat} {ln : Int} {r : List zV} {H : Heap} {locs : List Loc} {lsc : Array Slot} {H1 : Heap} (o1 : ∀ v ∈ ls, zok v) (o2 : ∀ v ∈ r, zok v) (o3 : zhok h) (o4 : n0 ≤ h.2.2.length) (o5 : s0 ≤ zsl h) (o6 : ls.length = nL) (hc3 : h.2.2.length < 96) (hr : zRel s D cA base Xa h H locs) (hlv : lv_has lsc nL (zlp base Xa ls))
    (hW : zW p l e R s m args below meth c Q D cA base Xa nL n0 s0 (y, n, ls, .inr (.inr (h.2.2.length + 5)) :: r, (zclr h.1 (h.2.2.length + 5), zclg h.2.1 (h.2.2.length + 5), h.2.2 ++ [(t, ln.toNat, [])])))
    (hat : va_at D zcl (base + h.2.2.length, zce base Xa cA (zclr h.1 (h.2.2.length + 5), zclg h.2.1 (h.2.2.length + 5), h.2.2 ++ [(t, ln.toNat, [])]) (t, ln.toNat, []) (h.2.2.length + 5)) H1) (z1 : H1.size = base + h.2.2.length + 1) (o1' : ∀ x, x < base + h.2.2.length → H1[x]? = H[x]?) :
    W p l e R s m args below meth c H1 locs (h.2.2.length - n0 + 1) (zsl h - s0 + ln.toNat) Q (F0 m n lsc (.ref (base + h.2.2.length) :: r.map (zcv base Xa))) := by
  have hrel : zRel s D cA base Xa (zclr h.1 (h.2.2.length + 5), zclg h.2.1 (h.2.2.length + 5), h.2.2 ++ [(t, ln.toNat, [])]) H1 locs := by
    refine zRel_new hr hc3 rfl (fun j t' ht' => ?_) hat z1 o1'
    have hj : j < h.2.2.length := (List.getElem?_eq_some_iff.mp ht').1
    exact zce_far (zclr_far (by omega)) (zclg_far (by omega))
  have hok : zokc nL n0 s0 ls (.inr (.inr (h.2.2.length + 5)) :: r) (zclr h.1 (h.2.2.length + 5), zclg h.2.1 (h.2.2.length + 5), h.2.2 ++ [(t, ln.toNat, [])]) := by
    refine ⟨o1, fun v hv => ?_, zclr_ok o3, ?_, ?_, o6⟩
    · rcases List.mem_cons.mp hv with h1 | h1
      · rw [h1]; trivial
      · exact o2 v h1
    · show n0 ≤ (h.2.2 ++ [(t, ln.toNat, [])]).length
      rw [List.length_append]; omega
    · rw [zsl_mka]; omega
  have hh := hW hok H1 locs lsc hrel hlv
  have e1 : (h.2.2 ++ [(t, ln.toNat, ([] : List Nat))]).length - n0 = h.2.2.length - n0 + 1 := by
    rw [List.length_append, List.length_singleton]; omega
  have e2 : zsl (zclr h.1 (h.2.2.length + 5), zclg h.2.1 (h.2.2.length + 5), h.2.2 ++ [(t, ln.toNat, [])]) - s0 = zsl h - s0 + ln.toNat := by
    rw [zsl_mka]; omega
  simp only [List.map_cons, zcv_cell, e1, e2] at hh
  exact hh
theorem z_mul {a b : Nat} (ha : a ≤ 1000) (hb : b ≤ 8) : a * b ≤ 536870912 := Nat.le_trans (Nat.mul_le_mul ha hb) (Nat.le_of_ble_eq_true rfl)
theorem z_cli {F : zM} {k : Nat} : (fun j => Int32.ofInt (zclr F k k j)) = fun _ => (0 : Int32) := by
  funext j
  unfold zclr
  rw [if_pos rfl]
  rfl
theorem z_clg {F : zG} {k : Nat} : (fun j => Int64.ofBitVec (zclg F k k j)) = fun _ => (0 : Int64) := by
  funext j
  unfold zclg
  rw [if_pos rfl]
  rfl
theorem zs_newarray_int (C : zCtx p s m args meth c D cA base Xa E y q nL) (hd : decode q.2.1 pc = .ok (.newarray .int, 2)) (he : zo_mka E cal [0] ps y (pc + 2) ls st h = some (.inl k'))
    (hB : k'.2.2.2.2.2.2.length - n0 ≤ R.cells ∧ zsl k'.2.2.2.2 - s0 ≤ R.slots) (hW : zW p l e R s m args below meth c Q D cA base Xa nL n0 s0 k') : zW p l e R s m args below meth c Q D cA base Xa nL n0 s0 (y, pc, ls, st, h) := by
  obtain ⟨hx, hb, hml, hown, hts, hall, hK, hxt, hnw, hE, hbs, hnm⟩ := C
  simp only [zo_mka] at he
  split at he
  · rename_i t ln r heq
    cases heq
    split at he
    · rename_i hc
      obtain ⟨hc1, hc2, hc3, hc4⟩ := hc
      cases he
      intro ok H locs lsc hr hlv
      obtain ⟨o1, o2, o3, o4, o5, o6⟩ := ok
      have o4 : n0 ≤ h.2.2.length := o4
      have o5 : s0 ≤ zsl h := o5
      have oln : zin ln := o2 _ List.mem_cons_self
      have hneg : ¬ Int32.ofInt ln < 0 := by
        rw [show (0 : Int32) = Int32.ofInt 0 from rfl, z_ofInt_lt oln (by constructor <;> omega)]; omega
      have hB1 : h.2.2.length - n0 + 1 ≤ R.cells := by
        have h1 : (h.2.2 ++ [(0, ln.toNat, ([] : List Nat))]).length - n0 ≤ R.cells := hB.1
        rw [List.length_append, List.length_singleton] at h1
        omega
      have hB2 : zsl h - s0 + ln.toNat ≤ R.slots := by
        have h1 := hB.2
        have h2 : zsl (zclr h.1 (h.2.2.length + 5), zclg h.2.1 (h.2.2.length + 5), h.2.2 ++ [(0, ln.toNat, [])]) - s0 ≤ R.slots := h1
        rw [zsl_mka] at h2
        omega
      refine va_newaK hx hb (atype := .int) (hts _ (zws0_t zl_AR.1 rfl)) rfl hd rfl hneg (z_nat oln) (z_mul (by omega) (by decide)) hB1 hB2 (hr.2.1 hc3) fun H1 cN e1 z1 o1' hAr hNm => ?_
      have hcN : cN = cA 0 := Option.some.inj (hNm.symm.trans (hK.2 0 _ rfl).2)
      subst hcN
      refine zs_mka_fin o1 (fun v hv => o2 v (List.mem_cons_of_mem _ hv)) o3 o4 o5 o6 hc3 hr hlv hW ?_ z1 o1'
      show H1[base + h.2.2.length]? = some (vp_cell (cA 0) (ln.toNat, .inl (fun j => Int32.ofInt (zclr h.1 (h.2.2.length + 5) (h.2.2.length + 5) j))))
      rw [z_cli, e1]
      rfl
    · cases he
  · rename_i hno
    cases he
theorem zs_newarray_boolean (C : zCtx p s m args meth c D cA base Xa E y q nL) (hd : decode q.2.1 pc = .ok (.newarray .boolean, 2)) (he : zo_mka E cal [1] ps y (pc + 2) ls st h = some (.inl k'))
    (hB : k'.2.2.2.2.2.2.length - n0 ≤ R.cells ∧ zsl k'.2.2.2.2 - s0 ≤ R.slots) (hW : zW p l e R s m args below meth c Q D cA base Xa nL n0 s0 k') : zW p l e R s m args below meth c Q D cA base Xa nL n0 s0 (y, pc, ls, st, h) := by
  obtain ⟨hx, hb, hml, hown, hts, hall, hK, hxt, hnw, hE, hbs, hnm⟩ := C
  simp only [zo_mka] at he
  split at he
  · rename_i t ln r heq
    cases heq
    split at he
    · rename_i hc
      obtain ⟨hc1, hc2, hc3, hc4⟩ := hc
      cases he
      intro ok H locs lsc hr hlv
      obtain ⟨o1, o2, o3, o4, o5, o6⟩ := ok
      have o4 : n0 ≤ h.2.2.length := o4
      have o5 : s0 ≤ zsl h := o5
      have oln : zin ln := o2 _ List.mem_cons_self
      have hneg : ¬ Int32.ofInt ln < 0 := by
        rw [show (0 : Int32) = Int32.ofInt 0 from rfl, z_ofInt_lt oln (by constructor <;> omega)]; omega
      have hB1 : h.2.2.length - n0 + 1 ≤ R.cells := by
        have h1 : (h.2.2 ++ [(1, ln.toNat, ([] : List Nat))]).length - n0 ≤ R.cells := hB.1
        rw [List.length_append, List.length_singleton] at h1
        omega
      have hB2 : zsl h - s0 + ln.toNat ≤ R.slots := by
        have h1 := hB.2
        have h2 : zsl (zclr h.1 (h.2.2.length + 5), zclg h.2.1 (h.2.2.length + 5), h.2.2 ++ [(1, ln.toNat, [])]) - s0 ≤ R.slots := h1
        rw [zsl_mka] at h2
        omega
      refine va_newaK hx hb (atype := .boolean) (hts _ (zws0_t zl_AR.2.1 rfl)) rfl hd rfl hneg (z_nat oln) (z_mul (by omega) (by decide)) hB1 hB2 (hr.2.1 hc3) fun H1 cN e1 z1 o1' hAr hNm => ?_
      have hcN : cN = cA 1 := Option.some.inj (hNm.symm.trans (hK.2 1 _ rfl).2)
      subst hcN
      refine zs_mka_fin o1 (fun v hv => o2 v (List.mem_cons_of_mem _ hv)) o3 o4 o5 o6 hc3 hr hlv hW ?_ z1 o1'
      show H1[base + h.2.2.length]? = some (vp_cell (cA 1) (ln.toNat, .inl (fun j => Int32.ofInt (zclr h.1 (h.2.2.length + 5) (h.2.2.length + 5) j))))
      rw [z_cli, e1]
      rfl
    · cases he
  · rename_i hno
    cases he
theorem zs_newarray_long (C : zCtx p s m args meth c D cA base Xa E y q nL) (hd : decode q.2.1 pc = .ok (.newarray .long, 2)) (he : zo_mka E cal [2] ps y (pc + 2) ls st h = some (.inl k'))
    (hB : k'.2.2.2.2.2.2.length - n0 ≤ R.cells ∧ zsl k'.2.2.2.2 - s0 ≤ R.slots) (hW : zW p l e R s m args below meth c Q D cA base Xa nL n0 s0 k') : zW p l e R s m args below meth c Q D cA base Xa nL n0 s0 (y, pc, ls, st, h) := by
  obtain ⟨hx, hb, hml, hown, hts, hall, hK, hxt, hnw, hE, hbs, hnm⟩ := C
  simp only [zo_mka] at he
  split at he
  · rename_i t ln r heq
    cases heq
    split at he
    · rename_i hc
      obtain ⟨hc1, hc2, hc3, hc4⟩ := hc
      cases he
      intro ok H locs lsc hr hlv
      obtain ⟨o1, o2, o3, o4, o5, o6⟩ := ok
      have o4 : n0 ≤ h.2.2.length := o4
      have o5 : s0 ≤ zsl h := o5
      have oln : zin ln := o2 _ List.mem_cons_self
      have hneg : ¬ Int32.ofInt ln < 0 := by
        rw [show (0 : Int32) = Int32.ofInt 0 from rfl, z_ofInt_lt oln (by constructor <;> omega)]; omega
      have hB1 : h.2.2.length - n0 + 1 ≤ R.cells := by
        have h1 : (h.2.2 ++ [(2, ln.toNat, ([] : List Nat))]).length - n0 ≤ R.cells := hB.1
        rw [List.length_append, List.length_singleton] at h1
        omega
      have hB2 : zsl h - s0 + ln.toNat ≤ R.slots := by
        have h1 := hB.2
        have h2 : zsl (zclr h.1 (h.2.2.length + 5), zclg h.2.1 (h.2.2.length + 5), h.2.2 ++ [(2, ln.toNat, [])]) - s0 ≤ R.slots := h1
        rw [zsl_mka] at h2
        omega
      refine va_newaK hx hb (atype := .long) (hts _ (zws0_t zl_AR.2.2 rfl)) rfl hd rfl hneg (z_nat oln) (z_mul (by omega) (by decide)) hB1 hB2 (hr.2.1 hc3) fun H1 cN e1 z1 o1' hAr hNm => ?_
      have hcN : cN = cA 2 := Option.some.inj (hNm.symm.trans (hK.2 2 _ rfl).2)
      subst hcN
      refine zs_mka_fin o1 (fun v hv => o2 v (List.mem_cons_of_mem _ hv)) o3 o4 o5 o6 hc3 hr hlv hW ?_ z1 o1'
      show H1[base + h.2.2.length]? = some (vp_cell (cA 2) (ln.toNat, .inr (.inl (fun j => Int64.ofBitVec (zclg h.2.1 (h.2.2.length + 5) (h.2.2.length + 5) j)))))
      rw [z_clg, e1]
      rfl
    · cases he
  · rename_i hno
    cases he
theorem zs_newarray {z : ArrayType} (C : zCtx p s m args meth c D cA base Xa E y q nL) (hd : decode q.2.1 pc = .ok (.newarray z, zlen (.newarray z) w)) (hn : zterm (.newarray z) = true ∨ n = pc + zlen (.newarray z) w) (hl : zlnk y pc q (.newarray z) w ps = true) (he : zo_mka E cal w ps y n ls st h = some (.inl k'))
    (hB : k'.2.2.2.2.2.2.length - n0 ≤ R.cells ∧ zsl k'.2.2.2.2 - s0 ≤ R.slots) (hW : zW p l e R s m args below meth c Q D cA base Xa nL n0 s0 k') : zW p l e R s m args below meth c Q D cA base Xa nL n0 s0 (y, pc, ls, st, h) := by
  have hn' : n = pc + 2 := by
    rcases hn with hn | hn
    · cases hn
    · exact hn
  subst hn'
  cases z
  case int =>
    have hw : w = [0] := of_decide_eq_true hl
    subst hw
    exact zs_newarray_int C hd he hB hW
  case boolean =>
    have hw : w = [1] := of_decide_eq_true hl
    subst hw
    exact zs_newarray_boolean C hd he hB hW
  case long =>
    have hw : w = [2] := of_decide_eq_true hl
    subst hw
    exact zs_newarray_long C hd he hB hW
  all_goals exact absurd hl (by simp [zlnk])
end
