/-! every step, and a whole run; the methods' contracts by induction on the depth of calls -/
section
variable {p : Program} {l : Launch} {e : Env} {R : Room} {s : State} {m : MethodId} {args : Array Value} {below : List Frame} {meth : Method} {c : Code} {Q : State → Prop}
variable {D : va_G} {cA : Nat → ClassId} {base : Nat} {Xa : Nat → Nat} {E : Nat → Nat × (Nat → Int)} {y : Nat} {q : zq} {nL n0 s0 d : Nat} {cal : zcal} {pc n : Nat} {ls st : List zV} {h : zH} {w : List Nat} {ps : List (Int × Nat)} {k' : zC}
theorem zs_objinit {z : Nat} (C : zCtx p s m args meth c D cA base Xa E y q nL) (hR : d + 1 ≤ R.frames ∧ 64 * (d + 1) ≤ R.locals) (hd : decode q.2.1 pc = .ok (.invokespecial z, 3)) (hl : zlnk y pc q (.invokespecial z) [4] ps = true)
    (he : zo_call E cal [4] ps y (pc + 3) ls st h = some (.inl k')) (hW : zW p l e R s m args below meth c Q D cA base Xa nL n0 s0 k') : zW p l e R s m args below meth c Q D cA base Xa nL n0 s0 (y, pc, ls, st, h) := by
  obtain ⟨hx, hb, hml, hown, hts, hall, hK, hxt, hnw, hE, hbs, hnm⟩ := C
  simp only [zo_call] at he
  split at he
  · rename_i a r
    split at he
    · rename_i hc
      cases he
      simp only [zlnk, List.any_eq_true, Bool.and_eq_true] at hl
      obtain ⟨⟨x1, x2, x3⟩, hr1, h1, h2⟩ := hl
      have e1 : x1 = q.2.2.2.2 := Nat.eq_of_beq_eq_true h1
      have e2 : x2 = z := Nat.eq_of_beq_eq_true h2
      subst e1; subst e2
      have h5 := of_decide_eq_true (List.all_eq_true.mp zl_OT _ hr1)
      obtain ⟨k, rfl⟩ : ∃ k, a = k + 5 := ⟨a - 5, by omega⟩
      intro ok H locs lsc hr hlv
      obtain ⟨o1, o2, o3⟩ := ok
      show W p l e R s m args below meth c H locs _ _ Q (F0 m pc lsc (zcv base Xa (.inr (.inr (k + 5))) :: r.map (zcv base Xa)))
      rw [zcv_cell]
      refine W.objInit hx hb hown (hts _ (zws0_t (List.mem_of_getElem? h5) rfl)) (hts _ (zws0_t zl_OI.1 rfl)) (hts _ (zws0_t zl_OI.2 rfl)) rfl (hlv.1.trans hml.symm) rfl hd (by omega) ?_ ?_
      · have := zcat_sum (base := base) (Xa := Xa) r
        show 2 * 0 + _ + 12 ≤ R.locals
        omega
      · exact hW ⟨o1, fun v hv => o2 v (List.mem_cons_of_mem _ hv), o3⟩ H locs lsc hr hlv
    · cases he
  · cases he
theorem zs_copy {z : Nat} (C : zCtx p s m args meth c D cA base Xa E y q nL) (hR : d + 1 ≤ R.frames ∧ 64 * (d + 1) ≤ R.locals) (hd : decode q.2.1 pc = .ok (.invokestatic z, 3)) (hl : zlnk y pc q (.invokestatic z) [5] ps = true)
    (he : zo_call E cal [5] ps y (pc + 3) ls st h = some (.inl k')) (hW : zW p l e R s m args below meth c Q D cA base Xa nL n0 s0 k') : zW p l e R s m args below meth c Q D cA base Xa nL n0 s0 (y, pc, ls, st, h) := by
  obtain ⟨hx, hb, hml, hown, hts, hall, hK, hxt, hnw, hE, hbs, hnm⟩ := C
  simp only [zo_call] at he
  split at he
  · rename_i k dp a1 sp a0 r
    split at he
    · rename_i l0 l1 hz0 hz1
      split at he
      · rename_i hc
        obtain ⟨c1, c2, c3, c4, c5, c6, c7⟩ := hc
        cases he
        simp only [zlnk, List.any_eq_true, Bool.and_eq_true] at hl
        obtain ⟨⟨x1, x2, x3⟩, hr1, h1, h2⟩ := hl
        have e1 : x1 = q.2.2.2.2 := Nat.eq_of_beq_eq_true h1
        have e2 : x2 = z := Nat.eq_of_beq_eq_true h2
        subst e1; subst e2
        have h5 := of_decide_eq_true (List.all_eq_true.mp zl_AT _ hr1)
        obtain ⟨k0, r0, rfl, hq0⟩ := zarr_spec hz0
        obtain ⟨k1, r1, rfl, hq1⟩ := zarr_spec hz1
        intro ok H locs lsc hr hlv
        obtain ⟨o1, o2, o3⟩ := ok
        have ok_ : zin k := o2 _ List.mem_cons_self
        have odp : zin dp := o2 _ (List.mem_cons_of_mem _ List.mem_cons_self)
        have osp : zin sp := o2 _ (List.mem_cons_of_mem _ (List.mem_cons_of_mem _ (List.mem_cons_of_mem _ List.mem_cons_self)))
        have neg : ∀ {x : Int}, zin x → 0 ≤ x → ¬ Int32.ofInt x < 0 := by
          intro x hx0 hx1
          rw [show (0 : Int32) = Int32.ofInt 0 from rfl, z_ofInt_lt hx0 (by constructor <;> omega)]
          omega
        show W p l e R s m args below meth c H locs _ _ Q (F0 m pc lsc (zcv base Xa (.inl k) :: zcv base Xa (.inl dp) :: zcv base Xa (.inr (.inr (k1 + 5))) :: zcv base Xa (.inl sp) :: zcv base Xa (.inr (.inr (k0 + 5))) :: r.map (zcv base Xa)))
        rw [zcv_cell, zcv_cell]
        refine va_copyi hx hb (hml.trans hlv.1.symm) hown (hts _ (zws0_t (List.mem_of_getElem? h5) rfl)) (hts _ (zws0_t zl_AC.1 rfl)) (hts _ (zws0_t zl_AC.2.1 rfl)) (hts _ (zws0_t zl_AC.2.2 rfl)) hK hr.1 (zws_D base Xa cA h) hr.2.2 k0 k1 0 0 (zws_cell hq0) (zws_cell hq1) rfl rfl rfl (neg osp c1) (neg odp c2) (neg ok_ c3) (by rw [z_nat osp, z_nat ok_]; exact c4) (by rw [z_nat odp, z_nat ok_]; exact c5) (fun _ _ => rfl) (by omega) ?_ hd ?_
        · have := zcat_sum (base := base) (Xa := Xa) r
          have h9 : nativeFrameWords "java/lang/System" "arraycopy" 5 = 7 := by decide
          rw [h9]
          omega
        · intro H1 locs1 hP1 hD1 hS1
          refine hW ⟨o1, fun v hv => o2 v (List.mem_cons_of_mem _ (List.mem_cons_of_mem _ (List.mem_cons_of_mem _ (List.mem_cons_of_mem _ (List.mem_cons_of_mem _ hv))))), ?_, o3.2.1, o3.2.2.1, o3.2.2.2⟩ H1 locs1 lsc ⟨?_, fun h96 => absurd (show h.2.2.length < 96 from h96) (by omega), hS1⟩ hlv
          · intro a b
            show zin (zcpy h.1 (k0 + 5) sp.toNat (k1 + 5) dp.toNat k.toNat a b)
            unfold zcpy
            split
            · exact o3.1 _ _
            · exact o3.1 _ _
          · have hset := zws_same (base := base) (Xa := Xa) (cA := cA) (h := h) (h' := (zcpy h.1 (k0 + 5) sp.toNat (k1 + 5) dp.toNat k.toNat, h.2)) (e := .inl (cA 0, l1, .inl (va_cpy (fun j => Int32.ofInt (h.1 (k0 + 5) j)) (fun j => Int32.ofInt (h.1 (k1 + 5) j)) sp.toNat dp.toNat k.toNat))) hq1 rfl ?_ ?_
            · rw [← hset]
              rw [z_nat osp, z_nat odp, z_nat ok_] at hP1
              exact hP1
            · show (Sum.inl (cA 0, l1, Sum.inl (fun j => Int32.ofInt (zcpy h.1 (k0 + 5) sp.toNat (k1 + 5) dp.toNat k.toNat (k1 + 5) j))) : va_E) = _
              congr 4
              funext j
              unfold zcpy va_cpy
              by_cases hj : dp.toNat ≤ j ∧ j < dp.toNat + k.toNat
              · rw [if_pos (show k1 + 5 = k1 + 5 ∧ dp.toNat ≤ j ∧ j < dp.toNat + k.toNat from ⟨rfl, hj⟩), if_pos hj]
              · rw [if_neg (show ¬ (k1 + 5 = k1 + 5 ∧ dp.toNat ≤ j ∧ j < dp.toNat + k.toNat) from fun q => hj q.2), if_neg hj]
            · intro j t hj ht
              refine zce_far (fun b => ?_) (fun _ => rfl)
              show zcpy h.1 (k0 + 5) sp.toNat (k1 + 5) dp.toNat k.toNat (j + 5) b = _
              unfold zcpy
              rw [if_neg (fun h9 => hj (by omega))]
      · cases he
    · cases he
  · cases he
theorem zs_table {dd lo hi : Int} {os : Array Int} (C : zCtx p s m args meth c D cA base Xa E y q nL) (hd : decode q.2.1 pc = .ok (.tableswitch dd lo hi os, zlen (.tableswitch dd lo hi os) w)) (hl : zlnk y pc q (.tableswitch dd lo hi os) w ps = true) (he : zo_swi E cal w ps y n ls st h = some (.inl k')) (hW : zW p l e R s m args below meth c Q D cA base Xa nL n0 s0 k') : zW p l e R s m args below meth c Q D cA base Xa nL n0 s0 (y, pc, ls, st, h) := by
  obtain ⟨hx, hb, hml, hown, hts, hall, hK, hxt, hnw, hE, hbs, hnm⟩ := C
  simp only [zo_swi] at he
  split at he
  · rename_i z0 t x r
    cases he
    simp only [zlnk, Bool.and_eq_true, decide_eq_true_eq, List.all_eq_true] at hl
    obtain ⟨⟨⟨h1, h2⟩, h3⟩, h4⟩ := hl
    intro ok H locs lsc hr hlv
    obtain ⟨o1, o2, o3⟩ := ok
    have ox : zin x := o2 _ List.mem_cons_self
    have hh := hW ⟨o1, fun v hv => o2 v (List.mem_cons_of_mem _ hv), o3⟩ H locs lsc hr hlv
    have hsw : ∀ (os : List Int) (lo : Int), zsw x (ztb pc lo os) t = if x < lo ∨ lo + os.length ≤ x then t else ((pc : Int) + os.getD (x - lo).toNat 0).toNat := by
      intro os
      induction os with
      | nil => intro lo; simp [ztb, zsw]; omega
      | cons o os ih =>
        intro lo
        simp only [ztb, zsw]
        by_cases hxl : x = lo
        · subst hxl
          rw [if_pos rfl, if_neg (by simp; omega)]
          simp
        · rw [if_neg hxl, ih]
          by_cases hc : x < lo ∨ lo + (os.length + 1 : Nat) ≤ x
          · rw [if_pos (by omega), if_pos (by simpa using hc)]
          · rw [if_neg (by omega), if_neg (by simpa using hc)]
            rw [show (x - lo).toNat = (x - (lo + 1)).toNat + 1 by omega]
            simp
    subst h2
    rw [hsw] at hh
    have hlen : (os.toList.length : Int) = hi - lo + 1 := by simpa using h3
    show W p l e R s m args below meth c H locs _ _ Q (F0 m pc lsc (.int (Int32.ofInt x) :: r.map (zcv base Xa)))
    by_cases hc : x < lo ∨ lo + os.toList.length ≤ x
    · rw [if_pos hc] at hh
      exact lv_tableOut hx hb hd (by rw [zin_eq ox]; omega) h1 hh
    · rw [if_neg hc] at hh
      have hi2 : (x - lo).toNat < os.toList.length := by omega
      have hget : os.toList.getD (x - lo).toNat 0 = os.toList[(x - lo).toNat] := by
        rw [List.getD_eq_getElem?_getD, List.getElem?_eq_getElem hi2]; rfl
      rw [hget] at hh
      refine lv_tableIn (off := os.toList[(x - lo).toNat]) hx hb hd (by rw [zin_eq ox]; omega) (by rw [zin_eq ox]; omega) ?_ ?_ hh
      · rw [zin_eq ox, ← Array.getElem?_toList, List.getElem?_eq_getElem hi2]
      · have h5 := h4 _ (List.getElem_mem hi2)
        have h6 : 0 ≤ (pc : Int) + os.toList[(x - lo).toNat] := by simpa using h5
        show (pc : Int) + os.toList[(x - lo).toNat] = (((pc : Int) + os.toList[(x - lo).toNat]).toNat : Int)
        omega
  · cases he
theorem zs_lookup {dd : Int} {os : Array (Int × Int)} (C : zCtx p s m args meth c D cA base Xa E y q nL) (hd : decode q.2.1 pc = .ok (.lookupswitch dd os, zlen (.lookupswitch dd os) w)) (hl : zlnk y pc q (.lookupswitch dd os) w ps = true) (he : zo_swi E cal w ps y n ls st h = some (.inl k')) (hW : zW p l e R s m args below meth c Q D cA base Xa nL n0 s0 k') : zW p l e R s m args below meth c Q D cA base Xa nL n0 s0 (y, pc, ls, st, h) := by
  obtain ⟨hx, hb, hml, hown, hts, hall, hK, hxt, hnw, hE, hbs, hnm⟩ := C
  simp only [zo_swi] at he
  split at he
  · rename_i z0 t x r
    cases he
    simp only [zlnk, Bool.and_eq_true, decide_eq_true_eq] at hl
    obtain ⟨⟨⟨h1, h2⟩, h3⟩, h4⟩ := hl
    intro ok H locs lsc hr hlv
    obtain ⟨o1, o2, o3⟩ := ok
    have ox : zin x := o2 _ List.mem_cons_self
    have hh := hW ⟨o1, fun v hv => o2 v (List.mem_cons_of_mem _ hv), o3⟩ H locs lsc hr hlv
    have hsw : ∀ (l : List (Int × Int)), (∀ o ∈ l, 0 ≤ (pc : Int) + o.2) → (pc : Int) + Op.lookupswitch.offset l dd x = (zsw x (l.map (fun o => (o.1, ((pc : Int) + o.2).toNat))) t : Int) := by
      intro l
      induction l with
      | nil => intro _; simpa [zsw, Op.lookupswitch.offset] using h1
      | cons o l ih =>
        intro hall2
        obtain ⟨a, b⟩ := o
        rw [Op.lookupswitch.offset_cons]
        simp only [List.map_cons, zsw]
        by_cases hxa : x = a
        · rw [if_pos hxa.symm, if_pos hxa]
          have := hall2 _ List.mem_cons_self
          simp only at this
          omega
        · rw [if_neg (fun q => hxa q.symm), if_neg hxa]
          exact ih (fun o ho => hall2 o (List.mem_cons_of_mem _ ho))
    subst h2
    show W p l e R s m args below meth c H locs _ _ Q (F0 m pc lsc (.int (Int32.ofInt x) :: r.map (zcv base Xa)))
    refine lv_lookup hx hb hd h4 rfl ?_ hh
    rw [zin_eq ox]
    exact hsw os.toList (fun o ho => of_decide_eq_true (List.all_eq_true.mp h3 o ho))
  · cases he
theorem zstep (C : zCtx p s m args meth c D cA base Xa E y q nL) (hcal : zOK l d cal) (hR : d + 1 ≤ R.frames ∧ 64 * (d + 1) ≤ R.locals) (hs0 : zstc E cal y pc ls st h = some (.inl k')) (hB : k'.2.2.2.2.2.2.length - n0 ≤ R.cells ∧ zsl k'.2.2.2.2 - s0 ≤ R.slots)
    (hW : zW p l e R s m args below meth c Q D cA base Xa nL n0 s0 k') : zW p l e R s m args below meth c Q D cA base Xa nL n0 s0 (y, pc, ls, st, h) := by
  unfold zstc at hs0
  split at hs0
  · rename_i i w ps n hl
    obtain ⟨hd, hn, hk⟩ := zchk_of C.2.2.2.2.2.1 hl
    have hs := hs0
    clear hs0
    cases i
    case iadd => exact zs_iadd (cal := cal) C hd hn hk hs hW
    case isub => exact zs_isub (cal := cal) C hd hn hk hs hW
    case imul => exact zs_imul (cal := cal) C hd hn hk hs hW
    case iand => exact zs_iand (cal := cal) C hd hn hk hs hW
    case ior => exact zs_ior (cal := cal) C hd hn hk hs hW
    case ishl => exact zs_ishl (cal := cal) C hd hn hk hs hW
    case ishr => exact zs_ishr (cal := cal) C hd hn hk hs hW
    case idiv => exact zs_idiv (cal := cal) C hd hn hk hs hW
    case irem => exact zs_irem (cal := cal) C hd hn hk hs hW
    case ineg => exact zs_ineg (cal := cal) C hd hn hk hs hW
    case i2b => exact zs_i2b (cal := cal) C hd hn hk hs hW
    case i2s => exact zs_i2s (cal := cal) C hd hn hk hs hW
    case ladd => exact zs_ladd (cal := cal) C hd hn hk hs hW
    case lsub => exact zs_lsub (cal := cal) C hd hn hk hs hW
    case land => exact zs_land (cal := cal) C hd hn hk hs hW
    case lor => exact zs_lor (cal := cal) C hd hn hk hs hW
    case lxor => exact zs_lxor (cal := cal) C hd hn hk hs hW
    case i2l => exact zs_i2l (cal := cal) C hd hn hk hs hW
    case l2i => exact zs_l2i (cal := cal) C hd hn hk hs hW
    case lcmp => exact zs_lcmp (cal := cal) C hd hn hk hs hW
    case dup => exact zs_dup (cal := cal) C hd hn hk hs hW
    case dup_x1 => exact zs_dup_x1 (cal := cal) C hd hn hk hs hW
    case dup2 => exact zs_dup2 (cal := cal) C hd hn hk hs hW
    case lshl => exact zs_lshl (cal := cal) C hd hn hk hs hW
    case lshr => exact zs_lshr (cal := cal) C hd hn hk hs hW
    case lushr => exact zs_lushr (cal := cal) C hd hn hk hs hW
    case iconst => exact zs_iconst (cal := cal) C hd hn hk hs hW
    case bipush => exact zs_bipush (cal := cal) C hd hn hk hs hW
    case sipush => exact zs_sipush (cal := cal) C hd hn hk hs hW
    case lconst => exact zs_lconst (cal := cal) C hd hn hk hs hW
    case iload_n => exact zs_iload_n (cal := cal) C hd hn hk hs hW
    case iload => exact zs_iload (cal := cal) C hd hn hk hs hW
    case lload_n => exact zs_lload_n (cal := cal) C hd hn hk hs hW
    case lload => exact zs_lload (cal := cal) C hd hn hk hs hW
    case aload_n => exact zs_aload_n (cal := cal) C hd hn hk hs hW
    case aload => exact zs_aload (cal := cal) C hd hn hk hs hW
    case istore_n => exact zs_istore_n (cal := cal) C hd hn hk hs hW
    case istore => exact zs_istore (cal := cal) C hd hn hk hs hW
    case lstore_n => exact zs_lstore_n (cal := cal) C hd hn hk hs hW
    case lstore => exact zs_lstore (cal := cal) C hd hn hk hs hW
    case astore_n => exact zs_astore_n (cal := cal) C hd hn hk hs hW
    case astore => exact zs_astore (cal := cal) C hd hn hk hs hW
    case iinc => exact zs_iinc (cal := cal) C hd hn hk hs hW
    case goto => exact zs_goto (cal := cal) C hd hn hk hs hW
    case ldc2_w => exact zs_ldc2 (cal := cal) C hd hn hk hs hW
    case iaload => exact zs_iaload (cal := cal) (ps := ps) C hd hn hs hW
    case baload => exact zs_baload (cal := cal) (ps := ps) C hd hn hs hW
    case laload => exact zs_laload (cal := cal) (ps := ps) C hd hn hs hW
    case iastore => exact zs_iastore (cal := cal) (ps := ps) C hd hn hs hW
    case bastore => exact zs_bastore (cal := cal) (ps := ps) C hd hn hs hW
    case lastore => exact zs_lastore (cal := cal) (ps := ps) C hd hn hs hW
    case arraylength => exact zs_alen (cal := cal) (ps := ps) C hd hn hs hW
    case getfield => exact zs_getfield (cal := cal) C hd hn hk hs hW
    case putfield => exact zs_putfield (cal := cal) C hd hn hk hs hW
    case getstatic => exact zs_getstatic (cal := cal) C hd hn hk hs hW
    case newarray => exact zs_newarray (cal := cal) C hd hn hk hs hB hW
    case new => exact zs_new (cal := cal) C hd hn hk hs hB hW
    case ifCond cnd _ =>
      cases cnd
      · exact zs_if_eq (cal := cal) C hd hn hk hs hW
      · exact zs_if_ne (cal := cal) C hd hn hk hs hW
      · exact zs_if_lt (cal := cal) C hd hn hk hs hW
      · exact zs_if_ge (cal := cal) C hd hn hk hs hW
      · exact zs_if_gt (cal := cal) C hd hn hk hs hW
      · exact zs_if_le (cal := cal) C hd hn hk hs hW
    case if_icmp cnd _ =>
      cases cnd
      · exact zs_icmp_eq (cal := cal) C hd hn hk hs hW
      · exact zs_icmp_ne (cal := cal) C hd hn hk hs hW
      · exact zs_icmp_lt (cal := cal) C hd hn hk hs hW
      · exact zs_icmp_ge (cal := cal) C hd hn hk hs hW
      · exact zs_icmp_gt (cal := cal) C hd hn hk hs hW
      · exact zs_icmp_le (cal := cal) C hd hn hk hs hW
    case tableswitch => exact zs_table (cal := cal) (n := n) C hd hk hs hW
    case lookupswitch => exact zs_lookup (cal := cal) (n := n) C hd hk hs hW
    case invokestatic z =>
      have hn' : n = pc + 3 := by
        rcases hn with hn | hn
        · cases hn
        · exact hn
      subst hn'
      have hk0 := hk
      simp only [zlnk] at hk
      split at hk
      · rename_i z0 cc na ci
        simp only [Bool.and_eq_true] at hk
        have hz : z0 = 0 := Nat.eq_of_beq_eq_true hk.1.1
        subst hz
        exact zs_static (cal := cal) C hcal hR hd hk0 hs hB hW
      · exact zs_copy (cal := cal) C hR hd hk0 hs hW
      · cases hk
    case invokevirtual z =>
      have hn' : n = pc + 3 := by
        rcases hn with hn | hn
        · cases hn
        · exact hn
      subst hn'
      have hk0 := hk
      simp only [zlnk] at hk
      split at hk
      · rename_i z0 cc na ci
        simp only [Bool.and_eq_true] at hk
        have hz : z0 = 1 := Nat.eq_of_beq_eq_true hk.1.1.1.1
        subst hz
        exact zs_virtual (cal := cal) C hcal hR hd hk0 hs hB hW
      · cases hk
    case invokespecial z =>
      have hn' : n = pc + 3 := by
        rcases hn with hn | hn
        · cases hn
        · exact hn
      subst hn'
      have hk0 := hk
      simp only [zlnk] at hk
      split at hk
      · exact zs_special (cal := cal) C hcal hR hd hk0 hs hB hW
      · exact zs_objinit (cal := cal) C hR hd hk0 hs hW
      · cases hk
    case ireturn => exfalso; revert hs; simp only [zop, zo_iret]; repeat' split <;> simp
    case lreturn => exfalso; revert hs; simp only [zop, zo_lret]; repeat' split <;> simp
    case return_ => exfalso; revert hs; simp only [zop, zo_vret]; repeat' split <;> simp
    all_goals (exfalso; simp [zop, zo_no] at hs; done)
  · cases hs0
/-- how a method may end -/
def zend (q : zq) (i : Instr) (r : Option zV) : Prop := (i = .ireturn ∧ ∃ x, r = some (.inl x) ∧ (q.2.2.2.1 = some .int ∨ (q.2.2.2.1 = some .boolean ∧ (x = 0 ∨ x = 1)))) ∨ (i = .lreturn ∧ ∃ b, r = some (.inr (.inl b)) ∧ q.2.2.2.1 = some .long) ∨ (i = .return_ ∧ r = none ∧ q.2.2.2.1 = none)
theorem zstc_end {r : Option zV} {h' : zH} (C : zCtx p s m args meth c D cA base Xa E y q nL) (hs0 : zstc E cal y pc ls st h = some (.inr (r, h'))) : h' = h ∧ st = r.toList ∧ ∃ i, decode q.2.1 pc = .ok (i, 1) ∧ zend q i r := by
  unfold zstc at hs0
  split at hs0
  · rename_i i w ps n hl
    obtain ⟨hd, hn, hk⟩ := zchk_of C.2.2.2.2.2.1 hl
    have hs := hs0
    clear hs0
    cases i
    case ireturn =>
      simp only [zop, zo_iret] at hs
      split at hs
      · rename_i t x
        split at hs
        · rename_i hc
          cases hs
          refine ⟨rfl, rfl, _, hd, Or.inl ⟨rfl, x, rfl, ?_⟩⟩
          simp only [zlnk, Bool.or_eq_true, Bool.and_eq_true, decide_eq_true_eq] at hk
          rcases hk with hk | hk
          · exact Or.inl hk.2
          · have ht : t = 1 := Nat.eq_of_beq_eq_true hk.1
            refine Or.inr ⟨hk.2, ?_⟩
            rcases hc with hc | hc | hc
            · omega
            · exact Or.inl hc
            · exact Or.inr hc
        · cases hs
      · cases hs
    case lreturn =>
      simp only [zop, zo_lret] at hs
      split at hs
      · rename_i x
        cases hs
        exact ⟨rfl, rfl, _, hd, Or.inr (Or.inl ⟨rfl, x, rfl, of_decide_eq_true hk⟩)⟩
      · cases hs
    case return_ =>
      simp only [zop, zo_vret] at hs
      split at hs
      · cases hs
        exact ⟨rfl, rfl, _, hd, Or.inr (Or.inr ⟨rfl, rfl, of_decide_eq_true hk⟩)⟩
      · cases hs
    all_goals first
      | (exfalso; simp [zop, zo_no] at hs; done)
      | (exfalso
         simp only [zop, zo_bin, zo_binD, zo_uni, zo_lbin, zo_lsh, zo_i2l, zo_l2i, zo_lcmp, zo_cst, zo_lcst, zo_ldc, zo_ldi, zo_ldl, zo_lda, zo_sti, zo_sta, zo_stl, zo_inc, zo_ifc, zo_icm, zo_got, zo_swi, zo_ald, zo_lld, zo_ast, zo_lst, zo_len, zo_gf, zo_pf, zo_gs, zo_mka, zo_mko, zo_dup, zo_dup_x1, zo_dup2, zo_call, zback] at hs
         repeat' (split at hs)
         all_goals (cases hs; done))
  · cases hs0
/-- a run of the abstract machine is a run of the machine -/
theorem zsim (C : zCtx p s m args meth c D cA base Xa E y q nL) (hcal : zOK l d cal) (hm : zMono cal) (hR : d + 1 ≤ R.frames ∧ 64 * (d + 1) ≤ R.locals) {r : Option zV} {h' : zH} (hB : h'.2.2.length - n0 ≤ R.cells ∧ zsl h' - s0 ≤ R.slots)
    (hfin : ∀ (i : Instr) (pc : Nat) (lsc : Array Slot) (H : Heap) (locs : List Loc), decode q.2.1 pc = .ok (i, 1) → zend q i r → zRel s D cA base Xa h' H locs → zhok h' → (∀ v, r = some v → zok v) →
      W p l e R s m args below meth c H locs (h'.2.2.length - n0) (zsl h' - s0) Q (F0 m pc lsc ((r.map (zcv base Xa)).toList))) :
    ∀ (k : Nat) (cf : zC), cf.1 = y → zrun E cal k cf = some (r, h') → zW p l e R s m args below meth c Q D cA base Xa nL n0 s0 cf := by
  intro k
  induction k with
  | zero => intro cf _ hr; cases hr
  | succ k ih =>
    intro cf hy hr
    obtain ⟨y1, pc, ls, st, h⟩ := cf
    simp only at hy
    subst hy
    simp only [zrun] at hr
    split at hr
    · rename_i c' hc
      have hc1 : zstc E cal y1 pc ls st h = some (.inl c') := hc
      have hy1 : c'.1 = y1 := by
        unfold zstc at hc1
        split at hc1
        · exact (zop_mono hm hc1).1
        · cases hc1
      have hlen := zrun_mono2 hm k c' r h' hr
      exact zstep C hcal hR hc1 ⟨by omega, by omega⟩ (ih c' hy1 hr)
    · rename_i r' hc
      cases hr
      obtain ⟨rfl, rfl, i, hd, he⟩ := zstc_end C (show zstc E cal y1 pc ls st h = some (.inr (r, h')) from hc)
      intro ok H locs lsc hrel hlv
      obtain ⟨o1, o2, o3⟩ := ok
      have := hfin i pc lsc H locs hd he hrel o3.1 (fun v hv => o2 v (by rw [hv]; exact List.mem_cons_self))
      rw [show (r.map (zcv base Xa)).toList = r.toList.map (zcv base Xa) by cases r <;> rfl] at this
      exact this
    · cases hr
end
