/-! printed by wip/gen/gen_sim2.py: steps that touch neither the heap nor calls -/
section
variable {p : Program} {l : Launch} {e : Env} {R : Room} {s : State} {m : MethodId} {args : Array Value} {below : List Frame} {meth : Method} {c : Code} {Q : State → Prop}
variable {D : va_G} {cA : Nat → ClassId} {base : Nat} {Xa : Nat → Nat} {E : Nat → Nat × (Nat → Int)} {y : Nat} {q : zq} {nL n0 s0 : Nat} {cal : zcal} {pc n : Nat} {ls st : List zV} {h : zH} {w : List Nat} {ps : List (Int × Nat)} {k' : zC}
theorem zs_iadd  (C : zCtx p s m args meth c D cA base Xa E y q nL) (hd : decode q.2.1 pc = .ok (.iadd, zlen (.iadd) w)) (hn : zterm (.iadd) = true ∨ n = pc + zlen (.iadd) w) (hl : zlnk y pc q (.iadd) w ps = true) (he : zo_bin zadd E cal w ps y n ls st h = some (.inl k')) (hW : zW p l e R s m args below meth c Q D cA base Xa nL n0 s0 k') : zW p l e R s m args below meth c Q D cA base Xa nL n0 s0 (y, pc, ls, st, h) := by
  obtain ⟨hx, hb, hml, hown, hts, hall, hK, hxt, hnw, hE, hbs, hnm⟩ := C
  have hn' : n = pc + 1 := by
    rcases hn with hn | hn
    · cases hn
    · exact hn
  subst hn'
  simp only [zo_bin] at he
  split at he
  · rename_i b a r
    cases he
    intro ok H locs lsc hr hlv
    obtain ⟨o1, o2, o3⟩ := ok
    refine lv_iadd hx hb hd ?_
    have hh := hW ⟨o1, fun v hv => ?_, o3⟩ H locs lsc hr hlv
    · simp only [List.map_cons, zcv, z_cadd] at hh
      exact hh
    · rcases List.mem_cons.mp hv with h1 | h1
      · rw [h1]; exact zin_toInt _
      · exact o2 v (List.mem_cons_of_mem _ (List.mem_cons_of_mem _ h1))
  · cases he
theorem zs_isub  (C : zCtx p s m args meth c D cA base Xa E y q nL) (hd : decode q.2.1 pc = .ok (.isub, zlen (.isub) w)) (hn : zterm (.isub) = true ∨ n = pc + zlen (.isub) w) (hl : zlnk y pc q (.isub) w ps = true) (he : zo_bin zsub E cal w ps y n ls st h = some (.inl k')) (hW : zW p l e R s m args below meth c Q D cA base Xa nL n0 s0 k') : zW p l e R s m args below meth c Q D cA base Xa nL n0 s0 (y, pc, ls, st, h) := by
  obtain ⟨hx, hb, hml, hown, hts, hall, hK, hxt, hnw, hE, hbs, hnm⟩ := C
  have hn' : n = pc + 1 := by
    rcases hn with hn | hn
    · cases hn
    · exact hn
  subst hn'
  simp only [zo_bin] at he
  split at he
  · rename_i b a r
    cases he
    intro ok H locs lsc hr hlv
    obtain ⟨o1, o2, o3⟩ := ok
    refine lv_isub hx hb hd ?_
    have hh := hW ⟨o1, fun v hv => ?_, o3⟩ H locs lsc hr hlv
    · simp only [List.map_cons, zcv, z_csub] at hh
      exact hh
    · rcases List.mem_cons.mp hv with h1 | h1
      · rw [h1]; exact zin_toInt _
      · exact o2 v (List.mem_cons_of_mem _ (List.mem_cons_of_mem _ h1))
  · cases he
theorem zs_imul  (C : zCtx p s m args meth c D cA base Xa E y q nL) (hd : decode q.2.1 pc = .ok (.imul, zlen (.imul) w)) (hn : zterm (.imul) = true ∨ n = pc + zlen (.imul) w) (hl : zlnk y pc q (.imul) w ps = true) (he : zo_bin zmul E cal w ps y n ls st h = some (.inl k')) (hW : zW p l e R s m args below meth c Q D cA base Xa nL n0 s0 k') : zW p l e R s m args below meth c Q D cA base Xa nL n0 s0 (y, pc, ls, st, h) := by
  obtain ⟨hx, hb, hml, hown, hts, hall, hK, hxt, hnw, hE, hbs, hnm⟩ := C
  have hn' : n = pc + 1 := by
    rcases hn with hn | hn
    · cases hn
    · exact hn
  subst hn'
  simp only [zo_bin] at he
  split at he
  · rename_i b a r
    cases he
    intro ok H locs lsc hr hlv
    obtain ⟨o1, o2, o3⟩ := ok
    refine lv_imul hx hb hd ?_
    have hh := hW ⟨o1, fun v hv => ?_, o3⟩ H locs lsc hr hlv
    · simp only [List.map_cons, zcv, z_cmul] at hh
      exact hh
    · rcases List.mem_cons.mp hv with h1 | h1
      · rw [h1]; exact zin_toInt _
      · exact o2 v (List.mem_cons_of_mem _ (List.mem_cons_of_mem _ h1))
  · cases he
theorem zs_iand  (C : zCtx p s m args meth c D cA base Xa E y q nL) (hd : decode q.2.1 pc = .ok (.iand, zlen (.iand) w)) (hn : zterm (.iand) = true ∨ n = pc + zlen (.iand) w) (hl : zlnk y pc q (.iand) w ps = true) (he : zo_bin zand E cal w ps y n ls st h = some (.inl k')) (hW : zW p l e R s m args below meth c Q D cA base Xa nL n0 s0 k') : zW p l e R s m args below meth c Q D cA base Xa nL n0 s0 (y, pc, ls, st, h) := by
  obtain ⟨hx, hb, hml, hown, hts, hall, hK, hxt, hnw, hE, hbs, hnm⟩ := C
  have hn' : n = pc + 1 := by
    rcases hn with hn | hn
    · cases hn
    · exact hn
  subst hn'
  simp only [zo_bin] at he
  split at he
  · rename_i b a r
    cases he
    intro ok H locs lsc hr hlv
    obtain ⟨o1, o2, o3⟩ := ok
    refine lv_iand hx hb hd ?_
    have hh := hW ⟨o1, fun v hv => ?_, o3⟩ H locs lsc hr hlv
    · simp only [List.map_cons, zcv, z_cand] at hh
      exact hh
    · rcases List.mem_cons.mp hv with h1 | h1
      · rw [h1]; exact zin_toInt _
      · exact o2 v (List.mem_cons_of_mem _ (List.mem_cons_of_mem _ h1))
  · cases he
theorem zs_ior  (C : zCtx p s m args meth c D cA base Xa E y q nL) (hd : decode q.2.1 pc = .ok (.ior, zlen (.ior) w)) (hn : zterm (.ior) = true ∨ n = pc + zlen (.ior) w) (hl : zlnk y pc q (.ior) w ps = true) (he : zo_bin zor E cal w ps y n ls st h = some (.inl k')) (hW : zW p l e R s m args below meth c Q D cA base Xa nL n0 s0 k') : zW p l e R s m args below meth c Q D cA base Xa nL n0 s0 (y, pc, ls, st, h) := by
  obtain ⟨hx, hb, hml, hown, hts, hall, hK, hxt, hnw, hE, hbs, hnm⟩ := C
  have hn' : n = pc + 1 := by
    rcases hn with hn | hn
    · cases hn
    · exact hn
  subst hn'
  simp only [zo_bin] at he
  split at he
  · rename_i b a r
    cases he
    intro ok H locs lsc hr hlv
    obtain ⟨o1, o2, o3⟩ := ok
    refine lv_ior hx hb hd ?_
    have hh := hW ⟨o1, fun v hv => ?_, o3⟩ H locs lsc hr hlv
    · simp only [List.map_cons, zcv, z_cor] at hh
      exact hh
    · rcases List.mem_cons.mp hv with h1 | h1
      · rw [h1]; exact zin_toInt _
      · exact o2 v (List.mem_cons_of_mem _ (List.mem_cons_of_mem _ h1))
  · cases he
theorem zs_ishl  (C : zCtx p s m args meth c D cA base Xa E y q nL) (hd : decode q.2.1 pc = .ok (.ishl, zlen (.ishl) w)) (hn : zterm (.ishl) = true ∨ n = pc + zlen (.ishl) w) (hl : zlnk y pc q (.ishl) w ps = true) (he : zo_bin zshl E cal w ps y n ls st h = some (.inl k')) (hW : zW p l e R s m args below meth c Q D cA base Xa nL n0 s0 k') : zW p l e R s m args below meth c Q D cA base Xa nL n0 s0 (y, pc, ls, st, h) := by
  obtain ⟨hx, hb, hml, hown, hts, hall, hK, hxt, hnw, hE, hbs, hnm⟩ := C
  have hn' : n = pc + 1 := by
    rcases hn with hn | hn
    · cases hn
    · exact hn
  subst hn'
  simp only [zo_bin] at he
  split at he
  · rename_i b a r
    cases he
    intro ok H locs lsc hr hlv
    obtain ⟨o1, o2, o3⟩ := ok
    refine lv_ishl hx hb hd ?_
    have hh := hW ⟨o1, fun v hv => ?_, o3⟩ H locs lsc hr hlv
    · simp only [List.map_cons, zcv, z_cshl] at hh
      exact hh
    · rcases List.mem_cons.mp hv with h1 | h1
      · rw [h1]; exact zin_toInt _
      · exact o2 v (List.mem_cons_of_mem _ (List.mem_cons_of_mem _ h1))
  · cases he
theorem zs_ishr  (C : zCtx p s m args meth c D cA base Xa E y q nL) (hd : decode q.2.1 pc = .ok (.ishr, zlen (.ishr) w)) (hn : zterm (.ishr) = true ∨ n = pc + zlen (.ishr) w) (hl : zlnk y pc q (.ishr) w ps = true) (he : zo_bin zshr E cal w ps y n ls st h = some (.inl k')) (hW : zW p l e R s m args below meth c Q D cA base Xa nL n0 s0 k') : zW p l e R s m args below meth c Q D cA base Xa nL n0 s0 (y, pc, ls, st, h) := by
  obtain ⟨hx, hb, hml, hown, hts, hall, hK, hxt, hnw, hE, hbs, hnm⟩ := C
  have hn' : n = pc + 1 := by
    rcases hn with hn | hn
    · cases hn
    · exact hn
  subst hn'
  simp only [zo_bin] at he
  split at he
  · rename_i b a r
    cases he
    intro ok H locs lsc hr hlv
    obtain ⟨o1, o2, o3⟩ := ok
    refine lv_ishr hx hb hd ?_
    have hh := hW ⟨o1, fun v hv => ?_, o3⟩ H locs lsc hr hlv
    · simp only [List.map_cons, zcv, z_cshr] at hh
      exact hh
    · rcases List.mem_cons.mp hv with h1 | h1
      · rw [h1]; exact zin_toInt _
      · exact o2 v (List.mem_cons_of_mem _ (List.mem_cons_of_mem _ h1))
  · cases he
theorem zs_idiv  (C : zCtx p s m args meth c D cA base Xa E y q nL) (hd : decode q.2.1 pc = .ok (.idiv, zlen (.idiv) w)) (hn : zterm (.idiv) = true ∨ n = pc + zlen (.idiv) w) (hl : zlnk y pc q (.idiv) w ps = true) (he : zo_binD zdiv E cal w ps y n ls st h = some (.inl k')) (hW : zW p l e R s m args below meth c Q D cA base Xa nL n0 s0 k') : zW p l e R s m args below meth c Q D cA base Xa nL n0 s0 (y, pc, ls, st, h) := by
  obtain ⟨hx, hb, hml, hown, hts, hall, hK, hxt, hnw, hE, hbs, hnm⟩ := C
  have hn' : n = pc + 1 := by
    rcases hn with hn | hn
    · cases hn
    · exact hn
  subst hn'
  simp only [zo_binD] at he
  split at he
  · rename_i b a r
    split at he
    · cases he
    · rename_i hb0
      cases he
      intro ok H locs lsc hr hlv
      obtain ⟨o1, o2, o3⟩ := ok
      have ob : zin b := o2 _ List.mem_cons_self
      refine lv_idiv hx hb hd (fun q0 => hb0 ((z_ofInt_inj ob (by constructor <;> omega)).mp q0)) ?_
      have hh := hW ⟨o1, fun v hv => ?_, o3⟩ H locs lsc hr hlv
      · simp only [List.map_cons, zcv, z_cdiv] at hh
        exact hh
      · rcases List.mem_cons.mp hv with h1 | h1
        · rw [h1]; exact zin_toInt _
        · exact o2 v (List.mem_cons_of_mem _ (List.mem_cons_of_mem _ h1))
  · cases he
theorem zs_irem  (C : zCtx p s m args meth c D cA base Xa E y q nL) (hd : decode q.2.1 pc = .ok (.irem, zlen (.irem) w)) (hn : zterm (.irem) = true ∨ n = pc + zlen (.irem) w) (hl : zlnk y pc q (.irem) w ps = true) (he : zo_binD zrem E cal w ps y n ls st h = some (.inl k')) (hW : zW p l e R s m args below meth c Q D cA base Xa nL n0 s0 k') : zW p l e R s m args below meth c Q D cA base Xa nL n0 s0 (y, pc, ls, st, h) := by
  obtain ⟨hx, hb, hml, hown, hts, hall, hK, hxt, hnw, hE, hbs, hnm⟩ := C
  have hn' : n = pc + 1 := by
    rcases hn with hn | hn
    · cases hn
    · exact hn
  subst hn'
  simp only [zo_binD] at he
  split at he
  · rename_i b a r
    split at he
    · cases he
    · rename_i hb0
      cases he
      intro ok H locs lsc hr hlv
      obtain ⟨o1, o2, o3⟩ := ok
      have ob : zin b := o2 _ List.mem_cons_self
      refine lv_irem hx hb hd (fun q0 => hb0 ((z_ofInt_inj ob (by constructor <;> omega)).mp q0)) ?_
      have hh := hW ⟨o1, fun v hv => ?_, o3⟩ H locs lsc hr hlv
      · simp only [List.map_cons, zcv, z_crem] at hh
        exact hh
      · rcases List.mem_cons.mp hv with h1 | h1
        · rw [h1]; exact zin_toInt _
        · exact o2 v (List.mem_cons_of_mem _ (List.mem_cons_of_mem _ h1))
  · cases he
theorem zs_ineg  (C : zCtx p s m args meth c D cA base Xa E y q nL) (hd : decode q.2.1 pc = .ok (.ineg, zlen (.ineg) w)) (hn : zterm (.ineg) = true ∨ n = pc + zlen (.ineg) w) (hl : zlnk y pc q (.ineg) w ps = true) (he : zo_uni zneg E cal w ps y n ls st h = some (.inl k')) (hW : zW p l e R s m args below meth c Q D cA base Xa nL n0 s0 k') : zW p l e R s m args below meth c Q D cA base Xa nL n0 s0 (y, pc, ls, st, h) := by
  obtain ⟨hx, hb, hml, hown, hts, hall, hK, hxt, hnw, hE, hbs, hnm⟩ := C
  have hn' : n = pc + 1 := by
    rcases hn with hn | hn
    · cases hn
    · exact hn
  subst hn'
  simp only [zo_uni] at he
  split at he
  · rename_i a r
    cases he
    intro ok H locs lsc hr hlv
    obtain ⟨o1, o2, o3⟩ := ok
    refine lv_ineg hx hb hd ?_
    have hh := hW ⟨o1, fun v hv => ?_, o3⟩ H locs lsc hr hlv
    · simp only [List.map_cons, zcv, z_cneg] at hh
      exact hh
    · rcases List.mem_cons.mp hv with h1 | h1
      · rw [h1]; exact zin_toInt _
      · exact o2 v (List.mem_cons_of_mem _ h1)
  · cases he
theorem zs_i2b  (C : zCtx p s m args meth c D cA base Xa E y q nL) (hd : decode q.2.1 pc = .ok (.i2b, zlen (.i2b) w)) (hn : zterm (.i2b) = true ∨ n = pc + zlen (.i2b) w) (hl : zlnk y pc q (.i2b) w ps = true) (he : zo_uni zi2b E cal w ps y n ls st h = some (.inl k')) (hW : zW p l e R s m args below meth c Q D cA base Xa nL n0 s0 k') : zW p l e R s m args below meth c Q D cA base Xa nL n0 s0 (y, pc, ls, st, h) := by
  obtain ⟨hx, hb, hml, hown, hts, hall, hK, hxt, hnw, hE, hbs, hnm⟩ := C
  have hn' : n = pc + 1 := by
    rcases hn with hn | hn
    · cases hn
    · exact hn
  subst hn'
  simp only [zo_uni] at he
  split at he
  · rename_i a r
    cases he
    intro ok H locs lsc hr hlv
    obtain ⟨o1, o2, o3⟩ := ok
    refine lv_i2b hx hb hd (v := Int32.ofInt (zi2b a)) (z_ci2b a).symm ?_
    have hh := hW ⟨o1, fun v hv => ?_, o3⟩ H locs lsc hr hlv
    · simp only [List.map_cons, zcv] at hh
      exact hh
    · rcases List.mem_cons.mp hv with h1 | h1
      · rw [h1]; exact zin_toInt _
      · exact o2 v (List.mem_cons_of_mem _ h1)
  · cases he
theorem zs_i2s  (C : zCtx p s m args meth c D cA base Xa E y q nL) (hd : decode q.2.1 pc = .ok (.i2s, zlen (.i2s) w)) (hn : zterm (.i2s) = true ∨ n = pc + zlen (.i2s) w) (hl : zlnk y pc q (.i2s) w ps = true) (he : zo_uni zi2s E cal w ps y n ls st h = some (.inl k')) (hW : zW p l e R s m args below meth c Q D cA base Xa nL n0 s0 k') : zW p l e R s m args below meth c Q D cA base Xa nL n0 s0 (y, pc, ls, st, h) := by
  obtain ⟨hx, hb, hml, hown, hts, hall, hK, hxt, hnw, hE, hbs, hnm⟩ := C
  have hn' : n = pc + 1 := by
    rcases hn with hn | hn
    · cases hn
    · exact hn
  subst hn'
  simp only [zo_uni] at he
  split at he
  · rename_i a r
    cases he
    intro ok H locs lsc hr hlv
    obtain ⟨o1, o2, o3⟩ := ok
    refine lv_i2s hx hb hd (v := Int32.ofInt (zi2s a)) (z_ci2s a).symm ?_
    have hh := hW ⟨o1, fun v hv => ?_, o3⟩ H locs lsc hr hlv
    · simp only [List.map_cons, zcv] at hh
      exact hh
    · rcases List.mem_cons.mp hv with h1 | h1
      · rw [h1]; exact zin_toInt _
      · exact o2 v (List.mem_cons_of_mem _ h1)
  · cases he
theorem zs_ladd  (C : zCtx p s m args meth c D cA base Xa E y q nL) (hd : decode q.2.1 pc = .ok (.ladd, zlen (.ladd) w)) (hn : zterm (.ladd) = true ∨ n = pc + zlen (.ladd) w) (hl : zlnk y pc q (.ladd) w ps = true) (he : zo_lbin zladd E cal w ps y n ls st h = some (.inl k')) (hW : zW p l e R s m args below meth c Q D cA base Xa nL n0 s0 k') : zW p l e R s m args below meth c Q D cA base Xa nL n0 s0 (y, pc, ls, st, h) := by
  obtain ⟨hx, hb, hml, hown, hts, hall, hK, hxt, hnw, hE, hbs, hnm⟩ := C
  have hn' : n = pc + 1 := by
    rcases hn with hn | hn
    · cases hn
    · exact hn
  subst hn'
  simp only [zo_lbin] at he
  split at he
  · rename_i b a r
    cases he
    intro ok H locs lsc hr hlv
    obtain ⟨o1, o2, o3⟩ := ok
    refine lv_ladd hx hb hd ?_
    refine hW ⟨o1, fun v hv => ?_, o3⟩ H locs lsc hr hlv
    rcases List.mem_cons.mp hv with h1 | h1
    · rw [h1]; trivial
    · exact o2 v (List.mem_cons_of_mem _ (List.mem_cons_of_mem _ h1))
  · cases he
theorem zs_lsub  (C : zCtx p s m args meth c D cA base Xa E y q nL) (hd : decode q.2.1 pc = .ok (.lsub, zlen (.lsub) w)) (hn : zterm (.lsub) = true ∨ n = pc + zlen (.lsub) w) (hl : zlnk y pc q (.lsub) w ps = true) (he : zo_lbin zlsub E cal w ps y n ls st h = some (.inl k')) (hW : zW p l e R s m args below meth c Q D cA base Xa nL n0 s0 k') : zW p l e R s m args below meth c Q D cA base Xa nL n0 s0 (y, pc, ls, st, h) := by
  obtain ⟨hx, hb, hml, hown, hts, hall, hK, hxt, hnw, hE, hbs, hnm⟩ := C
  have hn' : n = pc + 1 := by
    rcases hn with hn | hn
    · cases hn
    · exact hn
  subst hn'
  simp only [zo_lbin] at he
  split at he
  · rename_i b a r
    cases he
    intro ok H locs lsc hr hlv
    obtain ⟨o1, o2, o3⟩ := ok
    refine lv_lsub hx hb hd ?_
    refine hW ⟨o1, fun v hv => ?_, o3⟩ H locs lsc hr hlv
    rcases List.mem_cons.mp hv with h1 | h1
    · rw [h1]; trivial
    · exact o2 v (List.mem_cons_of_mem _ (List.mem_cons_of_mem _ h1))
  · cases he
theorem zs_land  (C : zCtx p s m args meth c D cA base Xa E y q nL) (hd : decode q.2.1 pc = .ok (.land, zlen (.land) w)) (hn : zterm (.land) = true ∨ n = pc + zlen (.land) w) (hl : zlnk y pc q (.land) w ps = true) (he : zo_lbin zland E cal w ps y n ls st h = some (.inl k')) (hW : zW p l e R s m args below meth c Q D cA base Xa nL n0 s0 k') : zW p l e R s m args below meth c Q D cA base Xa nL n0 s0 (y, pc, ls, st, h) := by
  obtain ⟨hx, hb, hml, hown, hts, hall, hK, hxt, hnw, hE, hbs, hnm⟩ := C
  have hn' : n = pc + 1 := by
    rcases hn with hn | hn
    · cases hn
    · exact hn
  subst hn'
  simp only [zo_lbin] at he
  split at he
  · rename_i b a r
    cases he
    intro ok H locs lsc hr hlv
    obtain ⟨o1, o2, o3⟩ := ok
    refine lv_land hx hb hd ?_
    refine hW ⟨o1, fun v hv => ?_, o3⟩ H locs lsc hr hlv
    rcases List.mem_cons.mp hv with h1 | h1
    · rw [h1]; trivial
    · exact o2 v (List.mem_cons_of_mem _ (List.mem_cons_of_mem _ h1))
  · cases he
theorem zs_lor  (C : zCtx p s m args meth c D cA base Xa E y q nL) (hd : decode q.2.1 pc = .ok (.lor, zlen (.lor) w)) (hn : zterm (.lor) = true ∨ n = pc + zlen (.lor) w) (hl : zlnk y pc q (.lor) w ps = true) (he : zo_lbin zlor E cal w ps y n ls st h = some (.inl k')) (hW : zW p l e R s m args below meth c Q D cA base Xa nL n0 s0 k') : zW p l e R s m args below meth c Q D cA base Xa nL n0 s0 (y, pc, ls, st, h) := by
  obtain ⟨hx, hb, hml, hown, hts, hall, hK, hxt, hnw, hE, hbs, hnm⟩ := C
  have hn' : n = pc + 1 := by
    rcases hn with hn | hn
    · cases hn
    · exact hn
  subst hn'
  simp only [zo_lbin] at he
  split at he
  · rename_i b a r
    cases he
    intro ok H locs lsc hr hlv
    obtain ⟨o1, o2, o3⟩ := ok
    refine lv_lor hx hb hd ?_
    refine hW ⟨o1, fun v hv => ?_, o3⟩ H locs lsc hr hlv
    rcases List.mem_cons.mp hv with h1 | h1
    · rw [h1]; trivial
    · exact o2 v (List.mem_cons_of_mem _ (List.mem_cons_of_mem _ h1))
  · cases he
theorem zs_lxor  (C : zCtx p s m args meth c D cA base Xa E y q nL) (hd : decode q.2.1 pc = .ok (.lxor, zlen (.lxor) w)) (hn : zterm (.lxor) = true ∨ n = pc + zlen (.lxor) w) (hl : zlnk y pc q (.lxor) w ps = true) (he : zo_lbin zlxor E cal w ps y n ls st h = some (.inl k')) (hW : zW p l e R s m args below meth c Q D cA base Xa nL n0 s0 k') : zW p l e R s m args below meth c Q D cA base Xa nL n0 s0 (y, pc, ls, st, h) := by
  obtain ⟨hx, hb, hml, hown, hts, hall, hK, hxt, hnw, hE, hbs, hnm⟩ := C
  have hn' : n = pc + 1 := by
    rcases hn with hn | hn
    · cases hn
    · exact hn
  subst hn'
  simp only [zo_lbin] at he
  split at he
  · rename_i b a r
    cases he
    intro ok H locs lsc hr hlv
    obtain ⟨o1, o2, o3⟩ := ok
    refine lv_lxor hx hb hd ?_
    refine hW ⟨o1, fun v hv => ?_, o3⟩ H locs lsc hr hlv
    rcases List.mem_cons.mp hv with h1 | h1
    · rw [h1]; trivial
    · exact o2 v (List.mem_cons_of_mem _ (List.mem_cons_of_mem _ h1))
  · cases he
theorem zs_lshl  (C : zCtx p s m args meth c D cA base Xa E y q nL) (hd : decode q.2.1 pc = .ok (.lshl, zlen (.lshl) w)) (hn : zterm (.lshl) = true ∨ n = pc + zlen (.lshl) w) (hl : zlnk y pc q (.lshl) w ps = true) (he : zo_lsh zlshl E cal w ps y n ls st h = some (.inl k')) (hW : zW p l e R s m args below meth c Q D cA base Xa nL n0 s0 k') : zW p l e R s m args below meth c Q D cA base Xa nL n0 s0 (y, pc, ls, st, h) := by
  obtain ⟨hx, hb, hml, hown, hts, hall, hK, hxt, hnw, hE, hbs, hnm⟩ := C
  have hn' : n = pc + 1 := by
    rcases hn with hn | hn
    · cases hn
    · exact hn
  subst hn'
  simp only [zo_lsh] at he
  split at he
  · rename_i b a r
    cases he
    intro ok H locs lsc hr hlv
    obtain ⟨o1, o2, o3⟩ := ok
    refine lv_lshl hx hb hd rfl ?_
    refine hW ⟨o1, fun v hv => ?_, o3⟩ H locs lsc hr hlv
    rcases List.mem_cons.mp hv with h1 | h1
    · rw [h1]; trivial
    · exact o2 v (List.mem_cons_of_mem _ (List.mem_cons_of_mem _ h1))
  · cases he
theorem zs_lshr  (C : zCtx p s m args meth c D cA base Xa E y q nL) (hd : decode q.2.1 pc = .ok (.lshr, zlen (.lshr) w)) (hn : zterm (.lshr) = true ∨ n = pc + zlen (.lshr) w) (hl : zlnk y pc q (.lshr) w ps = true) (he : zo_lsh zlshr E cal w ps y n ls st h = some (.inl k')) (hW : zW p l e R s m args below meth c Q D cA base Xa nL n0 s0 k') : zW p l e R s m args below meth c Q D cA base Xa nL n0 s0 (y, pc, ls, st, h) := by
  obtain ⟨hx, hb, hml, hown, hts, hall, hK, hxt, hnw, hE, hbs, hnm⟩ := C
  have hn' : n = pc + 1 := by
    rcases hn with hn | hn
    · cases hn
    · exact hn
  subst hn'
  simp only [zo_lsh] at he
  split at he
  · rename_i b a r
    cases he
    intro ok H locs lsc hr hlv
    obtain ⟨o1, o2, o3⟩ := ok
    refine lv_lshr hx hb hd rfl ?_
    refine hW ⟨o1, fun v hv => ?_, o3⟩ H locs lsc hr hlv
    rcases List.mem_cons.mp hv with h1 | h1
    · rw [h1]; trivial
    · exact o2 v (List.mem_cons_of_mem _ (List.mem_cons_of_mem _ h1))
  · cases he
theorem zs_lushr  (C : zCtx p s m args meth c D cA base Xa E y q nL) (hd : decode q.2.1 pc = .ok (.lushr, zlen (.lushr) w)) (hn : zterm (.lushr) = true ∨ n = pc + zlen (.lushr) w) (hl : zlnk y pc q (.lushr) w ps = true) (he : zo_lsh zlushr E cal w ps y n ls st h = some (.inl k')) (hW : zW p l e R s m args below meth c Q D cA base Xa nL n0 s0 k') : zW p l e R s m args below meth c Q D cA base Xa nL n0 s0 (y, pc, ls, st, h) := by
  obtain ⟨hx, hb, hml, hown, hts, hall, hK, hxt, hnw, hE, hbs, hnm⟩ := C
  have hn' : n = pc + 1 := by
    rcases hn with hn | hn
    · cases hn
    · exact hn
  subst hn'
  simp only [zo_lsh] at he
  split at he
  · rename_i b a r
    cases he
    intro ok H locs lsc hr hlv
    obtain ⟨o1, o2, o3⟩ := ok
    refine lv_lushr hx hb hd rfl ?_
    refine hW ⟨o1, fun v hv => ?_, o3⟩ H locs lsc hr hlv
    rcases List.mem_cons.mp hv with h1 | h1
    · rw [h1]; trivial
    · exact o2 v (List.mem_cons_of_mem _ (List.mem_cons_of_mem _ h1))
  · cases he
theorem zs_i2l  (C : zCtx p s m args meth c D cA base Xa E y q nL) (hd : decode q.2.1 pc = .ok (.i2l, zlen (.i2l) w)) (hn : zterm (.i2l) = true ∨ n = pc + zlen (.i2l) w) (hl : zlnk y pc q (.i2l) w ps = true) (he : zo_i2l E cal w ps y n ls st h = some (.inl k')) (hW : zW p l e R s m args below meth c Q D cA base Xa nL n0 s0 k') : zW p l e R s m args below meth c Q D cA base Xa nL n0 s0 (y, pc, ls, st, h) := by
  obtain ⟨hx, hb, hml, hown, hts, hall, hK, hxt, hnw, hE, hbs, hnm⟩ := C
  have hn' : n = pc + 1 := by
    rcases hn with hn | hn
    · cases hn
    · exact hn
  subst hn'
  simp only [zo_i2l] at he
  split at he
  · rename_i a r
    cases he
    intro ok H locs lsc hr hlv
    obtain ⟨o1, o2, o3⟩ := ok
    refine lv_i2l hx hb hd rfl ?_
    refine hW ⟨o1, fun v hv => ?_, o3⟩ H locs lsc hr hlv
    rcases List.mem_cons.mp hv with h1 | h1
    · rw [h1]; trivial
    · exact o2 v (List.mem_cons_of_mem _ h1)
  · cases he
theorem zs_l2i  (C : zCtx p s m args meth c D cA base Xa E y q nL) (hd : decode q.2.1 pc = .ok (.l2i, zlen (.l2i) w)) (hn : zterm (.l2i) = true ∨ n = pc + zlen (.l2i) w) (hl : zlnk y pc q (.l2i) w ps = true) (he : zo_l2i E cal w ps y n ls st h = some (.inl k')) (hW : zW p l e R s m args below meth c Q D cA base Xa nL n0 s0 k') : zW p l e R s m args below meth c Q D cA base Xa nL n0 s0 (y, pc, ls, st, h) := by
  obtain ⟨hx, hb, hml, hown, hts, hall, hK, hxt, hnw, hE, hbs, hnm⟩ := C
  have hn' : n = pc + 1 := by
    rcases hn with hn | hn
    · cases hn
    · exact hn
  subst hn'
  simp only [zo_l2i] at he
  split at he
  · rename_i a r
    cases he
    intro ok H locs lsc hr hlv
    obtain ⟨o1, o2, o3⟩ := ok
    refine lv_l2i hx hb hd (v := Int32.ofInt (zl2i a)) (z_cl2i a).symm ?_
    refine hW ⟨o1, fun v hv => ?_, o3⟩ H locs lsc hr hlv
    rcases List.mem_cons.mp hv with h1 | h1
    · rw [h1]; exact zin_toInt _
    · exact o2 v (List.mem_cons_of_mem _ h1)
  · cases he
theorem zs_lcmp  (C : zCtx p s m args meth c D cA base Xa E y q nL) (hd : decode q.2.1 pc = .ok (.lcmp, zlen (.lcmp) w)) (hn : zterm (.lcmp) = true ∨ n = pc + zlen (.lcmp) w) (hl : zlnk y pc q (.lcmp) w ps = true) (he : zo_lcmp E cal w ps y n ls st h = some (.inl k')) (hW : zW p l e R s m args below meth c Q D cA base Xa nL n0 s0 k') : zW p l e R s m args below meth c Q D cA base Xa nL n0 s0 (y, pc, ls, st, h) := by
  obtain ⟨hx, hb, hml, hown, hts, hall, hK, hxt, hnw, hE, hbs, hnm⟩ := C
  have hn' : n = pc + 1 := by
    rcases hn with hn | hn
    · cases hn
    · exact hn
  subst hn'
  simp only [zo_lcmp] at he
  split at he
  · rename_i b a r
    cases he
    intro ok H locs lsc hr hlv
    obtain ⟨o1, o2, o3⟩ := ok
    refine W.lcmp hx hb hd ?_
    have hh := hW ⟨o1, fun v hv => ?_, o3⟩ H locs lsc hr hlv
    · simp only [List.map_cons, zcv, z_clcmp] at hh
      exact hh
    · rcases List.mem_cons.mp hv with h1 | h1
      · rw [h1]; exact zin_toInt _
      · exact o2 v (List.mem_cons_of_mem _ (List.mem_cons_of_mem _ h1))
  · cases he
theorem zs_iconst {z : Int} (C : zCtx p s m args meth c D cA base Xa E y q nL) (hd : decode q.2.1 pc = .ok (.iconst z, zlen (.iconst z) w)) (hn : zterm (.iconst z) = true ∨ n = pc + zlen (.iconst z) w) (hl : zlnk y pc q (.iconst z) w ps = true) (he : zo_cst E cal w ps y n ls st h = some (.inl k')) (hW : zW p l e R s m args below meth c Q D cA base Xa nL n0 s0 k') : zW p l e R s m args below meth c Q D cA base Xa nL n0 s0 (y, pc, ls, st, h) := by
  obtain ⟨hx, hb, hml, hown, hts, hall, hK, hxt, hnw, hE, hbs, hnm⟩ := C
  have hn' : n = pc + 1 := by
    rcases hn with hn | hn
    · cases hn
    · exact hn
  subst hn'
  have hp : ps = [((Int32.ofInt z).toInt, 0)] := of_decide_eq_true hl
  subst hp
  simp only [zo_cst] at he
  cases he
  intro ok H locs lsc hr hlv
  obtain ⟨o1, o2, o3⟩ := ok
  refine lv_iconst (v := Int32.ofInt ((Int32.ofInt z).toInt)) hx hb hd (Int32.ofInt_toInt _).symm ?_
  refine hW ⟨o1, fun v hv => ?_, o3⟩ H locs lsc hr hlv
  rcases List.mem_cons.mp hv with h1 | h1
  · rw [h1]; exact zin_toInt _
  · exact o2 v h1
theorem zs_bipush {z : Int} (C : zCtx p s m args meth c D cA base Xa E y q nL) (hd : decode q.2.1 pc = .ok (.bipush z, zlen (.bipush z) w)) (hn : zterm (.bipush z) = true ∨ n = pc + zlen (.bipush z) w) (hl : zlnk y pc q (.bipush z) w ps = true) (he : zo_cst E cal w ps y n ls st h = some (.inl k')) (hW : zW p l e R s m args below meth c Q D cA base Xa nL n0 s0 k') : zW p l e R s m args below meth c Q D cA base Xa nL n0 s0 (y, pc, ls, st, h) := by
  obtain ⟨hx, hb, hml, hown, hts, hall, hK, hxt, hnw, hE, hbs, hnm⟩ := C
  have hn' : n = pc + 2 := by
    rcases hn with hn | hn
    · cases hn
    · exact hn
  subst hn'
  have hp : ps = [(((Int8.ofInt z).toInt32).toInt, 0)] := of_decide_eq_true hl
  subst hp
  simp only [zo_cst] at he
  cases he
  intro ok H locs lsc hr hlv
  obtain ⟨o1, o2, o3⟩ := ok
  refine lv_bipush (v := Int32.ofInt (((Int8.ofInt z).toInt32).toInt)) hx hb hd (Int32.ofInt_toInt _).symm ?_
  refine hW ⟨o1, fun v hv => ?_, o3⟩ H locs lsc hr hlv
  rcases List.mem_cons.mp hv with h1 | h1
  · rw [h1]; exact zin_toInt _
  · exact o2 v h1
theorem zs_sipush {z : Int} (C : zCtx p s m args meth c D cA base Xa E y q nL) (hd : decode q.2.1 pc = .ok (.sipush z, zlen (.sipush z) w)) (hn : zterm (.sipush z) = true ∨ n = pc + zlen (.sipush z) w) (hl : zlnk y pc q (.sipush z) w ps = true) (he : zo_cst E cal w ps y n ls st h = some (.inl k')) (hW : zW p l e R s m args below meth c Q D cA base Xa nL n0 s0 k') : zW p l e R s m args below meth c Q D cA base Xa nL n0 s0 (y, pc, ls, st, h) := by
  obtain ⟨hx, hb, hml, hown, hts, hall, hK, hxt, hnw, hE, hbs, hnm⟩ := C
  have hn' : n = pc + 3 := by
    rcases hn with hn | hn
    · cases hn
    · exact hn
  subst hn'
  have hp : ps = [(((Int16.ofInt z).toInt32).toInt, 0)] := of_decide_eq_true hl
  subst hp
  simp only [zo_cst] at he
  cases he
  intro ok H locs lsc hr hlv
  obtain ⟨o1, o2, o3⟩ := ok
  refine lv_sipush (v := Int32.ofInt (((Int16.ofInt z).toInt32).toInt)) hx hb hd (Int32.ofInt_toInt _).symm ?_
  refine hW ⟨o1, fun v hv => ?_, o3⟩ H locs lsc hr hlv
  rcases List.mem_cons.mp hv with h1 | h1
  · rw [h1]; exact zin_toInt _
  · exact o2 v h1
theorem zs_lconst {z : Fin 2} (C : zCtx p s m args meth c D cA base Xa E y q nL) (hd : decode q.2.1 pc = .ok (.lconst z, zlen (.lconst z) w)) (hn : zterm (.lconst z) = true ∨ n = pc + zlen (.lconst z) w) (hl : zlnk y pc q (.lconst z) w ps = true) (he : zo_lcst z.val E cal w ps y n ls st h = some (.inl k')) (hW : zW p l e R s m args below meth c Q D cA base Xa nL n0 s0 k') : zW p l e R s m args below meth c Q D cA base Xa nL n0 s0 (y, pc, ls, st, h) := by
  obtain ⟨hx, hb, hml, hown, hts, hall, hK, hxt, hnw, hE, hbs, hnm⟩ := C
  have hn' : n = pc + 1 := by
    rcases hn with hn | hn
    · cases hn
    · exact hn
  subst hn'
  simp only [zo_lcst] at he
  cases he
  intro ok H locs lsc hr hlv
  obtain ⟨o1, o2, o3⟩ := ok
  refine lv_lconst (v := Int64.ofBitVec (BitVec.ofNat 64 z.val)) hx hb hd rfl ?_
  refine hW ⟨o1, fun v hv => ?_, o3⟩ H locs lsc hr hlv
  rcases List.mem_cons.mp hv with h1 | h1
  · rw [h1]; trivial
  · exact o2 v h1
theorem zs_ldc2 {z : Nat} (C : zCtx p s m args meth c D cA base Xa E y q nL) (hd : decode q.2.1 pc = .ok (.ldc2_w z, zlen (.ldc2_w z) w)) (hn : zterm (.ldc2_w z) = true ∨ n = pc + zlen (.ldc2_w z) w) (hl : zlnk y pc q (.ldc2_w z) w ps = true) (he : zo_ldc E cal w ps y n ls st h = some (.inl k')) (hW : zW p l e R s m args below meth c Q D cA base Xa nL n0 s0 k') : zW p l e R s m args below meth c Q D cA base Xa nL n0 s0 (y, pc, ls, st, h) := by
  obtain ⟨hx, hb, hml, hown, hts, hall, hK, hxt, hnw, hE, hbs, hnm⟩ := C
  have hn' : n = pc + 3 := by
    rcases hn with hn | hn
    · cases hn
    · exact hn
  subst hn'
  simp only [zo_ldc] at he
  split at he
  · rename_i v0
    cases he
    simp only [zlnk, List.any_eq_true, Bool.and_eq_true, decide_eq_true_eq] at hl
    obtain ⟨r, hr1, ⟨hr2, hr3⟩, hr4⟩ := hl
    have hk := List.all_eq_true.mp zl_KT r hr1
    unfold zkt at hk
    have hk := of_decide_eq_true hk
    rw [Nat.eq_of_beq_eq_true hr2, Nat.eq_of_beq_eq_true hr3, hr4] at hk
    intro ok H locs lsc hr hlv
    obtain ⟨o1, o2, o3⟩ := ok
    refine lv_ldc2 (v := Int64.ofBitVec (BitVec.ofInt 64 v0.1)) hx hb hown (hts _ (zws0_t (List.mem_of_getElem? hk) rfl)) hd ?_
    refine hW ⟨o1, fun v hv => ?_, o3⟩ H locs lsc hr hlv
    rcases List.mem_cons.mp hv with h1 | h1
    · rw [h1]; trivial
    · exact o2 v h1
  · cases he
theorem zs_iload_n {z : Fin 4} (C : zCtx p s m args meth c D cA base Xa E y q nL) (hd : decode q.2.1 pc = .ok (.iload_n z, zlen (.iload_n z) w)) (hn : zterm (.iload_n z) = true ∨ n = pc + zlen (.iload_n z) w) (hl : zlnk y pc q (.iload_n z) w ps = true) (he : zo_ldi z.val E cal w ps y n ls st h = some (.inl k')) (hW : zW p l e R s m args below meth c Q D cA base Xa nL n0 s0 k') : zW p l e R s m args below meth c Q D cA base Xa nL n0 s0 (y, pc, ls, st, h) := by
  obtain ⟨hx, hb, hml, hown, hts, hall, hK, hxt, hnw, hE, hbs, hnm⟩ := C
  have hn' : n = pc + 1 := by
    rcases hn with hn | hn
    · cases hn
    · exact hn
  subst hn'
  simp only [zo_ldi] at he
  split at he
  · rename_i x hx0
    cases he
    intro ok H locs lsc hr hlv
    obtain ⟨o1, o2, o3⟩ := ok
    have hv0 := hlv.2.2 (z.val, _) (zlp_mem.mpr ⟨_, hx0, (by intro q0; cases q0), rfl⟩)
    refine lv_iload_n hx hb hd rfl hv0 ?_
    refine hW ⟨o1, fun v hv => ?_, o3⟩ H locs lsc hr hlv
    rcases List.mem_cons.mp hv with h1 | h1
    · rw [h1]; exact o1 _ (List.mem_of_getElem? hx0)
    · exact o2 v h1
  · cases he
theorem zs_iload {z : Nat} (C : zCtx p s m args meth c D cA base Xa E y q nL) (hd : decode q.2.1 pc = .ok (.iload z, zlen (.iload z) w)) (hn : zterm (.iload z) = true ∨ n = pc + zlen (.iload z) w) (hl : zlnk y pc q (.iload z) w ps = true) (he : zo_ldi z E cal w ps y n ls st h = some (.inl k')) (hW : zW p l e R s m args below meth c Q D cA base Xa nL n0 s0 k') : zW p l e R s m args below meth c Q D cA base Xa nL n0 s0 (y, pc, ls, st, h) := by
  obtain ⟨hx, hb, hml, hown, hts, hall, hK, hxt, hnw, hE, hbs, hnm⟩ := C
  have hn' : n = pc + 2 := by
    rcases hn with hn | hn
    · cases hn
    · exact hn
  subst hn'
  simp only [zo_ldi] at he
  split at he
  · rename_i x hx0
    cases he
    intro ok H locs lsc hr hlv
    obtain ⟨o1, o2, o3⟩ := ok
    have hv0 := hlv.2.2 (z, _) (zlp_mem.mpr ⟨_, hx0, (by intro q0; cases q0), rfl⟩)
    refine lv_iload hx hb hd hv0 ?_
    refine hW ⟨o1, fun v hv => ?_, o3⟩ H locs lsc hr hlv
    rcases List.mem_cons.mp hv with h1 | h1
    · rw [h1]; exact o1 _ (List.mem_of_getElem? hx0)
    · exact o2 v h1
  · cases he
theorem zs_lload_n {z : Fin 4} (C : zCtx p s m args meth c D cA base Xa E y q nL) (hd : decode q.2.1 pc = .ok (.lload_n z, zlen (.lload_n z) w)) (hn : zterm (.lload_n z) = true ∨ n = pc + zlen (.lload_n z) w) (hl : zlnk y pc q (.lload_n z) w ps = true) (he : zo_ldl z.val E cal w ps y n ls st h = some (.inl k')) (hW : zW p l e R s m args below meth c Q D cA base Xa nL n0 s0 k') : zW p l e R s m args below meth c Q D cA base Xa nL n0 s0 (y, pc, ls, st, h) := by
  obtain ⟨hx, hb, hml, hown, hts, hall, hK, hxt, hnw, hE, hbs, hnm⟩ := C
  have hn' : n = pc + 1 := by
    rcases hn with hn | hn
    · cases hn
    · exact hn
  subst hn'
  simp only [zo_ldl] at he
  split at he
  · rename_i x hx0
    cases he
    intro ok H locs lsc hr hlv
    obtain ⟨o1, o2, o3⟩ := ok
    have hv0 := hlv.2.2 (z.val, _) (zlp_mem.mpr ⟨_, hx0, (by intro q0; cases q0), rfl⟩)
    refine lv_lload_n hx hb hd rfl hv0 ?_
    refine hW ⟨o1, fun v hv => ?_, o3⟩ H locs lsc hr hlv
    rcases List.mem_cons.mp hv with h1 | h1
    · rw [h1]; exact o1 _ (List.mem_of_getElem? hx0)
    · exact o2 v h1
  · cases he
theorem zs_lload {z : Nat} (C : zCtx p s m args meth c D cA base Xa E y q nL) (hd : decode q.2.1 pc = .ok (.lload z, zlen (.lload z) w)) (hn : zterm (.lload z) = true ∨ n = pc + zlen (.lload z) w) (hl : zlnk y pc q (.lload z) w ps = true) (he : zo_ldl z E cal w ps y n ls st h = some (.inl k')) (hW : zW p l e R s m args below meth c Q D cA base Xa nL n0 s0 k') : zW p l e R s m args below meth c Q D cA base Xa nL n0 s0 (y, pc, ls, st, h) := by
  obtain ⟨hx, hb, hml, hown, hts, hall, hK, hxt, hnw, hE, hbs, hnm⟩ := C
  have hn' : n = pc + 2 := by
    rcases hn with hn | hn
    · cases hn
    · exact hn
  subst hn'
  simp only [zo_ldl] at he
  split at he
  · rename_i x hx0
    cases he
    intro ok H locs lsc hr hlv
    obtain ⟨o1, o2, o3⟩ := ok
    have hv0 := hlv.2.2 (z, _) (zlp_mem.mpr ⟨_, hx0, (by intro q0; cases q0), rfl⟩)
    refine lv_lload hx hb hd hv0 ?_
    refine hW ⟨o1, fun v hv => ?_, o3⟩ H locs lsc hr hlv
    rcases List.mem_cons.mp hv with h1 | h1
    · rw [h1]; exact o1 _ (List.mem_of_getElem? hx0)
    · exact o2 v h1
  · cases he
theorem zs_aload_n {z : Fin 4} (C : zCtx p s m args meth c D cA base Xa E y q nL) (hd : decode q.2.1 pc = .ok (.aload_n z, zlen (.aload_n z) w)) (hn : zterm (.aload_n z) = true ∨ n = pc + zlen (.aload_n z) w) (hl : zlnk y pc q (.aload_n z) w ps = true) (he : zo_lda z.val E cal w ps y n ls st h = some (.inl k')) (hW : zW p l e R s m args below meth c Q D cA base Xa nL n0 s0 k') : zW p l e R s m args below meth c Q D cA base Xa nL n0 s0 (y, pc, ls, st, h) := by
  obtain ⟨hx, hb, hml, hown, hts, hall, hK, hxt, hnw, hE, hbs, hnm⟩ := C
  have hn' : n = pc + 1 := by
    rcases hn with hn | hn
    · cases hn
    · exact hn
  subst hn'
  simp only [zo_lda] at he
  split at he
  · rename_i x hx0
    cases he
    intro ok H locs lsc hr hlv
    obtain ⟨o1, o2, o3⟩ := ok
    have hv0 := hlv.2.2 (z.val, _) (zlp_mem.mpr ⟨_, hx0, (by intro q0; cases q0), rfl⟩)
    refine lv_aload_n hx hb hd rfl hv0 ?_
    refine hW ⟨o1, fun v hv => ?_, o3⟩ H locs lsc hr hlv
    rcases List.mem_cons.mp hv with h1 | h1
    · rw [h1]; exact o1 _ (List.mem_of_getElem? hx0)
    · exact o2 v h1
  · cases he
theorem zs_aload {z : Nat} (C : zCtx p s m args meth c D cA base Xa E y q nL) (hd : decode q.2.1 pc = .ok (.aload z, zlen (.aload z) w)) (hn : zterm (.aload z) = true ∨ n = pc + zlen (.aload z) w) (hl : zlnk y pc q (.aload z) w ps = true) (he : zo_lda z E cal w ps y n ls st h = some (.inl k')) (hW : zW p l e R s m args below meth c Q D cA base Xa nL n0 s0 k') : zW p l e R s m args below meth c Q D cA base Xa nL n0 s0 (y, pc, ls, st, h) := by
  obtain ⟨hx, hb, hml, hown, hts, hall, hK, hxt, hnw, hE, hbs, hnm⟩ := C
  have hn' : n = pc + 2 := by
    rcases hn with hn | hn
    · cases hn
    · exact hn
  subst hn'
  simp only [zo_lda] at he
  split at he
  · rename_i x hx0
    cases he
    intro ok H locs lsc hr hlv
    obtain ⟨o1, o2, o3⟩ := ok
    have hv0 := hlv.2.2 (z, _) (zlp_mem.mpr ⟨_, hx0, (by intro q0; cases q0), rfl⟩)
    refine lv_aload hx hb hd hv0 ?_
    refine hW ⟨o1, fun v hv => ?_, o3⟩ H locs lsc hr hlv
    rcases List.mem_cons.mp hv with h1 | h1
    · rw [h1]; exact o1 _ (List.mem_of_getElem? hx0)
    · exact o2 v h1
  · cases he
theorem zs_istore_n {z : Fin 4} (C : zCtx p s m args meth c D cA base Xa E y q nL) (hd : decode q.2.1 pc = .ok (.istore_n z, zlen (.istore_n z) w)) (hn : zterm (.istore_n z) = true ∨ n = pc + zlen (.istore_n z) w) (hl : zlnk y pc q (.istore_n z) w ps = true) (he : zo_sti z.val E cal w ps y n ls st h = some (.inl k')) (hW : zW p l e R s m args below meth c Q D cA base Xa nL n0 s0 k') : zW p l e R s m args below meth c Q D cA base Xa nL n0 s0 (y, pc, ls, st, h) := by
  obtain ⟨hx, hb, hml, hown, hts, hall, hK, hxt, hnw, hE, hbs, hnm⟩ := C
  have hn' : n = pc + 1 := by
    rcases hn with hn | hn
    · cases hn
    · exact hn
  subst hn'
  simp only [zo_sti] at he
  split at he
  · rename_i x r
    split at he
    · rename_i hi
      cases he
      intro ok H locs lsc hr hlv
      obtain ⟨o1, o2, o3⟩ := ok
      have hlen : ls.length = nL := o3.2.2.2
      refine lv_istore_n hx hb hd rfl hlv (by rw [← hlen]; exact hi) rfl (fun ls' hlv' => ?_)
      refine hW ⟨zset_ok (zinv_ok o1) (o2 _ List.mem_cons_self), fun v hv => o2 v (List.mem_cons_of_mem _ hv), o3.1, o3.2.1, o3.2.2.1, by simp [zinv_len, hlen]⟩ H locs ls' hr (lv_less hlv' zlp_set1)
    · cases he
  · cases he
theorem zs_istore {z : Nat} (C : zCtx p s m args meth c D cA base Xa E y q nL) (hd : decode q.2.1 pc = .ok (.istore z, zlen (.istore z) w)) (hn : zterm (.istore z) = true ∨ n = pc + zlen (.istore z) w) (hl : zlnk y pc q (.istore z) w ps = true) (he : zo_sti z E cal w ps y n ls st h = some (.inl k')) (hW : zW p l e R s m args below meth c Q D cA base Xa nL n0 s0 k') : zW p l e R s m args below meth c Q D cA base Xa nL n0 s0 (y, pc, ls, st, h) := by
  obtain ⟨hx, hb, hml, hown, hts, hall, hK, hxt, hnw, hE, hbs, hnm⟩ := C
  have hn' : n = pc + 2 := by
    rcases hn with hn | hn
    · cases hn
    · exact hn
  subst hn'
  simp only [zo_sti] at he
  split at he
  · rename_i x r
    split at he
    · rename_i hi
      cases he
      intro ok H locs lsc hr hlv
      obtain ⟨o1, o2, o3⟩ := ok
      have hlen : ls.length = nL := o3.2.2.2
      refine lv_istore hx hb hd hlv (by rw [← hlen]; exact hi) rfl (fun ls' hlv' => ?_)
      refine hW ⟨zset_ok (zinv_ok o1) (o2 _ List.mem_cons_self), fun v hv => o2 v (List.mem_cons_of_mem _ hv), o3.1, o3.2.1, o3.2.2.1, by simp [zinv_len, hlen]⟩ H locs ls' hr (lv_less hlv' zlp_set1)
    · cases he
  · cases he
theorem zs_lstore_n {z : Fin 4} (C : zCtx p s m args meth c D cA base Xa E y q nL) (hd : decode q.2.1 pc = .ok (.lstore_n z, zlen (.lstore_n z) w)) (hn : zterm (.lstore_n z) = true ∨ n = pc + zlen (.lstore_n z) w) (hl : zlnk y pc q (.lstore_n z) w ps = true) (he : zo_stl z.val E cal w ps y n ls st h = some (.inl k')) (hW : zW p l e R s m args below meth c Q D cA base Xa nL n0 s0 k') : zW p l e R s m args below meth c Q D cA base Xa nL n0 s0 (y, pc, ls, st, h) := by
  obtain ⟨hx, hb, hml, hown, hts, hall, hK, hxt, hnw, hE, hbs, hnm⟩ := C
  have hn' : n = pc + 1 := by
    rcases hn with hn | hn
    · cases hn
    · exact hn
  subst hn'
  simp only [zo_stl] at he
  split at he
  · rename_i x r
    split at he
    · rename_i hi
      cases he
      intro ok H locs lsc hr hlv
      obtain ⟨o1, o2, o3⟩ := ok
      have hlen : ls.length = nL := o3.2.2.2
      refine lv_lstore_n hx hb hd rfl hlv (by rw [← hlen]; exact hi) rfl (fun ls' hlv' => ?_)
      refine hW ⟨zset_ok (zset_ok (zinv_ok o1) (u := zL x) trivial) (u := zR 0) trivial, fun v hv => o2 v (List.mem_cons_of_mem _ hv), o3.1, o3.2.1, o3.2.2.1, by simp [zinv_len, hlen]⟩ H locs ls' hr (lv_less hlv' zlp_set2)
    · cases he
  · cases he
theorem zs_lstore {z : Nat} (C : zCtx p s m args meth c D cA base Xa E y q nL) (hd : decode q.2.1 pc = .ok (.lstore z, zlen (.lstore z) w)) (hn : zterm (.lstore z) = true ∨ n = pc + zlen (.lstore z) w) (hl : zlnk y pc q (.lstore z) w ps = true) (he : zo_stl z E cal w ps y n ls st h = some (.inl k')) (hW : zW p l e R s m args below meth c Q D cA base Xa nL n0 s0 k') : zW p l e R s m args below meth c Q D cA base Xa nL n0 s0 (y, pc, ls, st, h) := by
  obtain ⟨hx, hb, hml, hown, hts, hall, hK, hxt, hnw, hE, hbs, hnm⟩ := C
  have hn' : n = pc + 2 := by
    rcases hn with hn | hn
    · cases hn
    · exact hn
  subst hn'
  simp only [zo_stl] at he
  split at he
  · rename_i x r
    split at he
    · rename_i hi
      cases he
      intro ok H locs lsc hr hlv
      obtain ⟨o1, o2, o3⟩ := ok
      have hlen : ls.length = nL := o3.2.2.2
      refine lv_lstore hx hb hd hlv (by rw [← hlen]; exact hi) rfl (fun ls' hlv' => ?_)
      refine hW ⟨zset_ok (zset_ok (zinv_ok o1) (u := zL x) trivial) (u := zR 0) trivial, fun v hv => o2 v (List.mem_cons_of_mem _ hv), o3.1, o3.2.1, o3.2.2.1, by simp [zinv_len, hlen]⟩ H locs ls' hr (lv_less hlv' zlp_set2)
    · cases he
  · cases he
theorem zs_astore_n {z : Fin 4} (C : zCtx p s m args meth c D cA base Xa E y q nL) (hd : decode q.2.1 pc = .ok (.astore_n z, zlen (.astore_n z) w)) (hn : zterm (.astore_n z) = true ∨ n = pc + zlen (.astore_n z) w) (hl : zlnk y pc q (.astore_n z) w ps = true) (he : zo_sta z.val E cal w ps y n ls st h = some (.inl k')) (hW : zW p l e R s m args below meth c Q D cA base Xa nL n0 s0 k') : zW p l e R s m args below meth c Q D cA base Xa nL n0 s0 (y, pc, ls, st, h) := by
  obtain ⟨hx, hb, hml, hown, hts, hall, hK, hxt, hnw, hE, hbs, hnm⟩ := C
  have hn' : n = pc + 1 := by
    rcases hn with hn | hn
    · cases hn
    · exact hn
  subst hn'
  simp only [zo_sta] at he
  split at he
  · rename_i x r
    split at he
    · rename_i hi
      cases he
      intro ok H locs lsc hr hlv
      obtain ⟨o1, o2, o3⟩ := ok
      have hlen : ls.length = nL := o3.2.2.2
      refine lv_astore_n hx hb hd rfl hlv (by rw [← hlen]; exact hi) rfl (fun ls' hlv' => ?_)
      refine hW ⟨zset_ok (zinv_ok o1) (o2 _ List.mem_cons_self), fun v hv => o2 v (List.mem_cons_of_mem _ hv), o3.1, o3.2.1, o3.2.2.1, by simp [zinv_len, hlen]⟩ H locs ls' hr (lv_less hlv' zlp_set1)
    · cases he
  · cases he
theorem zs_astore {z : Nat} (C : zCtx p s m args meth c D cA base Xa E y q nL) (hd : decode q.2.1 pc = .ok (.astore z, zlen (.astore z) w)) (hn : zterm (.astore z) = true ∨ n = pc + zlen (.astore z) w) (hl : zlnk y pc q (.astore z) w ps = true) (he : zo_sta z E cal w ps y n ls st h = some (.inl k')) (hW : zW p l e R s m args below meth c Q D cA base Xa nL n0 s0 k') : zW p l e R s m args below meth c Q D cA base Xa nL n0 s0 (y, pc, ls, st, h) := by
  obtain ⟨hx, hb, hml, hown, hts, hall, hK, hxt, hnw, hE, hbs, hnm⟩ := C
  have hn' : n = pc + 2 := by
    rcases hn with hn | hn
    · cases hn
    · exact hn
  subst hn'
  simp only [zo_sta] at he
  split at he
  · rename_i x r
    split at he
    · rename_i hi
      cases he
      intro ok H locs lsc hr hlv
      obtain ⟨o1, o2, o3⟩ := ok
      have hlen : ls.length = nL := o3.2.2.2
      refine lv_astore hx hb hd hlv (by rw [← hlen]; exact hi) rfl (fun ls' hlv' => ?_)
      refine hW ⟨zset_ok (zinv_ok o1) (o2 _ List.mem_cons_self), fun v hv => o2 v (List.mem_cons_of_mem _ hv), o3.1, o3.2.1, o3.2.2.1, by simp [zinv_len, hlen]⟩ H locs ls' hr (lv_less hlv' zlp_set1)
    · cases he
  · cases he
theorem zs_iinc {z : Nat} {k0 : Int} (C : zCtx p s m args meth c D cA base Xa E y q nL) (hd : decode q.2.1 pc = .ok (.iinc z k0, zlen (.iinc z k0) w)) (hn : zterm (.iinc z k0) = true ∨ n = pc + zlen (.iinc z k0) w) (hl : zlnk y pc q (.iinc z k0) w ps = true) (he : zo_inc z k0 E cal w ps y n ls st h = some (.inl k')) (hW : zW p l e R s m args below meth c Q D cA base Xa nL n0 s0 k') : zW p l e R s m args below meth c Q D cA base Xa nL n0 s0 (y, pc, ls, st, h) := by
  obtain ⟨hx, hb, hml, hown, hts, hall, hK, hxt, hnw, hE, hbs, hnm⟩ := C
  have hn' : n = pc + 3 := by
    rcases hn with hn | hn
    · cases hn
    · exact hn
  subst hn'
  simp only [zo_inc] at he
  split at he
  · rename_i x hx0
    cases he
    intro ok H locs lsc hr hlv
    obtain ⟨o1, o2, o3⟩ := ok
    have hlen : ls.length = nL := o3.2.2.2
    obtain ⟨kk, hkk⟩ := List.getElem?_of_mem (zlp_mem.mpr ⟨_, hx0, (by intro q0; cases q0), rfl⟩ : (z, zcv base Xa (.inl x)) ∈ zlp base Xa ls)
    refine lv_iinc (v := Int32.ofInt (zadd x k0)) hx hb hd hlv (k := kk) hkk (z_cadd x k0).symm (by rw [← hlen]; exact (List.getElem?_eq_some_iff.mp hx0).1) rfl (fun ls' hlv' => ?_)
    exact hW ⟨zset_ok (zinv_ok o1) (zin_toInt _), o2, o3.1, o3.2.1, o3.2.2.1, by simp [zinv_len, hlen]⟩ H locs ls' hr (lv_less hlv' zlp_set1)
  · cases he
theorem zs_dup  (C : zCtx p s m args meth c D cA base Xa E y q nL) (hd : decode q.2.1 pc = .ok (.dup, zlen (.dup) w)) (hn : zterm (.dup) = true ∨ n = pc + zlen (.dup) w) (hl : zlnk y pc q (.dup) w ps = true) (he : zo_dup E cal w ps y n ls st h = some (.inl k')) (hW : zW p l e R s m args below meth c Q D cA base Xa nL n0 s0 k') : zW p l e R s m args below meth c Q D cA base Xa nL n0 s0 (y, pc, ls, st, h) := by
  obtain ⟨hx, hb, hml, hown, hts, hall, hK, hxt, hnw, hE, hbs, hnm⟩ := C
  have hn' : n = pc + 1 := by
    rcases hn with hn | hn
    · cases hn
    · exact hn
  subst hn'
  simp only [zo_dup] at he
  split at he
  · rename_i v0 r
    split at he
    · rename_i hz
      cases he
      intro ok H locs lsc hr hlv
      obtain ⟨o1, o2, o3⟩ := ok
      refine lv_dup hx hb hd (zone_cat hz) ?_
      refine hW ⟨o1, fun v hv => ?_, o3⟩ H locs lsc hr hlv
      rcases List.mem_cons.mp hv with h1 | h1
      · rw [h1]; exact o2 _ List.mem_cons_self
      · exact o2 v h1
    · cases he
  · cases he
theorem zs_dup_x1  (C : zCtx p s m args meth c D cA base Xa E y q nL) (hd : decode q.2.1 pc = .ok (.dup_x1, zlen (.dup_x1) w)) (hn : zterm (.dup_x1) = true ∨ n = pc + zlen (.dup_x1) w) (hl : zlnk y pc q (.dup_x1) w ps = true) (he : zo_dup_x1 E cal w ps y n ls st h = some (.inl k')) (hW : zW p l e R s m args below meth c Q D cA base Xa nL n0 s0 k') : zW p l e R s m args below meth c Q D cA base Xa nL n0 s0 (y, pc, ls, st, h) := by
  obtain ⟨hx, hb, hml, hown, hts, hall, hK, hxt, hnw, hE, hbs, hnm⟩ := C
  have hn' : n = pc + 1 := by
    rcases hn with hn | hn
    · cases hn
    · exact hn
  subst hn'
  simp only [zo_dup_x1] at he
  split at he
  · rename_i v0 u0 r
    split at he
    · rename_i hz
      cases he
      intro ok H locs lsc hr hlv
      obtain ⟨o1, o2, o3⟩ := ok
      refine lv_dup_x1 hx hb hd (zone_cat hz.1) (zone_cat hz.2) ?_
      refine hW ⟨o1, fun v hv => ?_, o3⟩ H locs lsc hr hlv
      have h0 := o2 v0 List.mem_cons_self
      have h1 := o2 u0 (List.mem_cons_of_mem _ List.mem_cons_self)
      simp only [List.mem_cons] at hv
      rcases hv with h2 | h2 | h2 | h2
      · rw [h2]; exact h0
      · rw [h2]; exact h1
      · rw [h2]; exact h0
      · exact o2 v (List.mem_cons_of_mem _ (List.mem_cons_of_mem _ h2))
    · cases he
  · cases he
theorem zs_dup2  (C : zCtx p s m args meth c D cA base Xa E y q nL) (hd : decode q.2.1 pc = .ok (.dup2, zlen (.dup2) w)) (hn : zterm (.dup2) = true ∨ n = pc + zlen (.dup2) w) (hl : zlnk y pc q (.dup2) w ps = true) (he : zo_dup2 E cal w ps y n ls st h = some (.inl k')) (hW : zW p l e R s m args below meth c Q D cA base Xa nL n0 s0 k') : zW p l e R s m args below meth c Q D cA base Xa nL n0 s0 (y, pc, ls, st, h) := by
  obtain ⟨hx, hb, hml, hown, hts, hall, hK, hxt, hnw, hE, hbs, hnm⟩ := C
  have hn' : n = pc + 1 := by
    rcases hn with hn | hn
    · cases hn
    · exact hn
  subst hn'
  simp only [zo_dup2] at he
  split at he
  · rename_i v0 u0 r
    split at he
    · rename_i hz
      cases he
      intro ok H locs lsc hr hlv
      obtain ⟨o1, o2, o3⟩ := ok
      refine lv_dup2_11 hx hb hd (zone_cat hz.1) (zone_cat hz.2) ?_
      refine hW ⟨o1, fun v hv => ?_, o3⟩ H locs lsc hr hlv
      have h0 := o2 v0 List.mem_cons_self
      have h1 := o2 u0 (List.mem_cons_of_mem _ List.mem_cons_self)
      simp only [List.mem_cons] at hv
      rcases hv with h2 | h2 | h2 | h2 | h2
      · rw [h2]; exact h0
      · rw [h2]; exact h1
      · rw [h2]; exact h0
      · rw [h2]; exact h1
      · exact o2 v (List.mem_cons_of_mem _ (List.mem_cons_of_mem _ h2))
    · cases he
  · cases he
theorem zs_if_eq {o0 : Int} (C : zCtx p s m args meth c D cA base Xa E y q nL) (hd : decode q.2.1 pc = .ok (.ifCond .eq o0, zlen (.ifCond .eq o0) w)) (hn : zterm (.ifCond .eq o0) = true ∨ n = pc + zlen (.ifCond .eq o0) w) (hl : zlnk y pc q (.ifCond .eq o0) w ps = true) (he : zo_ifc .eq E cal w ps y n ls st h = some (.inl k')) (hW : zW p l e R s m args below meth c Q D cA base Xa nL n0 s0 k') : zW p l e R s m args below meth c Q D cA base Xa nL n0 s0 (y, pc, ls, st, h) := by
  obtain ⟨hx, hb, hml, hown, hts, hall, hK, hxt, hnw, hE, hbs, hnm⟩ := C
  have hn' : n = pc + 3 := by
    rcases hn with hn | hn
    · cases hn
    · exact hn
  subst hn'
  simp only [zo_ifc] at he
  split at he
  · rename_i t x r
    have ht : (pc : Int) + o0 = (t : Int) := of_decide_eq_true hl
    cases he
    intro ok H locs lsc hr hlv
    obtain ⟨o1, o2, o3⟩ := ok
    have ox := (o2 _ List.mem_cons_self : zin x)
    have oy := (by constructor <;> omega : zin 0)
    have hh := hW ⟨o1, fun v hv => o2 v (List.mem_cons_of_mem _ hv), o3⟩ H locs lsc hr hlv
    refine lv_if_eq hx hb hd ht (fun g => ?_) (fun g => ?_)
    · rw [show zcmp .eq x 0 = true from decide_eq_true ((z_ofInt_inj ox oy).mp g)] at hh
      exact hh
    · rw [show zcmp .eq x 0 = false from decide_eq_false (fun q0 => g ((z_ofInt_inj ox oy).mpr q0))] at hh
      exact hh
  · cases he
theorem zs_icmp_eq {o0 : Int} (C : zCtx p s m args meth c D cA base Xa E y q nL) (hd : decode q.2.1 pc = .ok (.if_icmp .eq o0, zlen (.if_icmp .eq o0) w)) (hn : zterm (.if_icmp .eq o0) = true ∨ n = pc + zlen (.if_icmp .eq o0) w) (hl : zlnk y pc q (.if_icmp .eq o0) w ps = true) (he : zo_icm .eq E cal w ps y n ls st h = some (.inl k')) (hW : zW p l e R s m args below meth c Q D cA base Xa nL n0 s0 k') : zW p l e R s m args below meth c Q D cA base Xa nL n0 s0 (y, pc, ls, st, h) := by
  obtain ⟨hx, hb, hml, hown, hts, hall, hK, hxt, hnw, hE, hbs, hnm⟩ := C
  have hn' : n = pc + 3 := by
    rcases hn with hn | hn
    · cases hn
    · exact hn
  subst hn'
  simp only [zo_icm] at he
  split at he
  · rename_i t b x r
    have ht : (pc : Int) + o0 = (t : Int) := of_decide_eq_true hl
    cases he
    intro ok H locs lsc hr hlv
    obtain ⟨o1, o2, o3⟩ := ok
    have ox := (o2 _ (List.mem_cons_of_mem _ List.mem_cons_self) : zin x)
    have oy := (o2 _ List.mem_cons_self : zin b)
    have hh := hW ⟨o1, fun v hv => o2 v (List.mem_cons_of_mem _ (List.mem_cons_of_mem _ hv)), o3⟩ H locs lsc hr hlv
    refine lv_icmp_eq hx hb hd ht (fun g => ?_) (fun g => ?_)
    · rw [show zcmp .eq x b = true from decide_eq_true ((z_ofInt_inj ox oy).mp g)] at hh
      exact hh
    · rw [show zcmp .eq x b = false from decide_eq_false (fun q0 => g ((z_ofInt_inj ox oy).mpr q0))] at hh
      exact hh
  · cases he
theorem zs_if_ne {o0 : Int} (C : zCtx p s m args meth c D cA base Xa E y q nL) (hd : decode q.2.1 pc = .ok (.ifCond .ne o0, zlen (.ifCond .ne o0) w)) (hn : zterm (.ifCond .ne o0) = true ∨ n = pc + zlen (.ifCond .ne o0) w) (hl : zlnk y pc q (.ifCond .ne o0) w ps = true) (he : zo_ifc .ne E cal w ps y n ls st h = some (.inl k')) (hW : zW p l e R s m args below meth c Q D cA base Xa nL n0 s0 k') : zW p l e R s m args below meth c Q D cA base Xa nL n0 s0 (y, pc, ls, st, h) := by
  obtain ⟨hx, hb, hml, hown, hts, hall, hK, hxt, hnw, hE, hbs, hnm⟩ := C
  have hn' : n = pc + 3 := by
    rcases hn with hn | hn
    · cases hn
    · exact hn
  subst hn'
  simp only [zo_ifc] at he
  split at he
  · rename_i t x r
    have ht : (pc : Int) + o0 = (t : Int) := of_decide_eq_true hl
    cases he
    intro ok H locs lsc hr hlv
    obtain ⟨o1, o2, o3⟩ := ok
    have ox := (o2 _ List.mem_cons_self : zin x)
    have oy := (by constructor <;> omega : zin 0)
    have hh := hW ⟨o1, fun v hv => o2 v (List.mem_cons_of_mem _ hv), o3⟩ H locs lsc hr hlv
    refine lv_if_ne hx hb hd ht (fun g => ?_) (fun g => ?_)
    · rw [show zcmp .ne x 0 = true from decide_eq_true (fun q0 => g ((z_ofInt_inj ox oy).mpr q0))] at hh
      exact hh
    · rw [show zcmp .ne x 0 = false from decide_eq_false (fun q0 => q0 ((z_ofInt_inj ox oy).mp g))] at hh
      exact hh
  · cases he
theorem zs_icmp_ne {o0 : Int} (C : zCtx p s m args meth c D cA base Xa E y q nL) (hd : decode q.2.1 pc = .ok (.if_icmp .ne o0, zlen (.if_icmp .ne o0) w)) (hn : zterm (.if_icmp .ne o0) = true ∨ n = pc + zlen (.if_icmp .ne o0) w) (hl : zlnk y pc q (.if_icmp .ne o0) w ps = true) (he : zo_icm .ne E cal w ps y n ls st h = some (.inl k')) (hW : zW p l e R s m args below meth c Q D cA base Xa nL n0 s0 k') : zW p l e R s m args below meth c Q D cA base Xa nL n0 s0 (y, pc, ls, st, h) := by
  obtain ⟨hx, hb, hml, hown, hts, hall, hK, hxt, hnw, hE, hbs, hnm⟩ := C
  have hn' : n = pc + 3 := by
    rcases hn with hn | hn
    · cases hn
    · exact hn
  subst hn'
  simp only [zo_icm] at he
  split at he
  · rename_i t b x r
    have ht : (pc : Int) + o0 = (t : Int) := of_decide_eq_true hl
    cases he
    intro ok H locs lsc hr hlv
    obtain ⟨o1, o2, o3⟩ := ok
    have ox := (o2 _ (List.mem_cons_of_mem _ List.mem_cons_self) : zin x)
    have oy := (o2 _ List.mem_cons_self : zin b)
    have hh := hW ⟨o1, fun v hv => o2 v (List.mem_cons_of_mem _ (List.mem_cons_of_mem _ hv)), o3⟩ H locs lsc hr hlv
    refine lv_icmp_ne hx hb hd ht (fun g => ?_) (fun g => ?_)
    · rw [show zcmp .ne x b = true from decide_eq_true (fun q0 => g ((z_ofInt_inj ox oy).mpr q0))] at hh
      exact hh
    · rw [show zcmp .ne x b = false from decide_eq_false (fun q0 => q0 ((z_ofInt_inj ox oy).mp g))] at hh
      exact hh
  · cases he
theorem zs_if_lt {o0 : Int} (C : zCtx p s m args meth c D cA base Xa E y q nL) (hd : decode q.2.1 pc = .ok (.ifCond .lt o0, zlen (.ifCond .lt o0) w)) (hn : zterm (.ifCond .lt o0) = true ∨ n = pc + zlen (.ifCond .lt o0) w) (hl : zlnk y pc q (.ifCond .lt o0) w ps = true) (he : zo_ifc .lt E cal w ps y n ls st h = some (.inl k')) (hW : zW p l e R s m args below meth c Q D cA base Xa nL n0 s0 k') : zW p l e R s m args below meth c Q D cA base Xa nL n0 s0 (y, pc, ls, st, h) := by
  obtain ⟨hx, hb, hml, hown, hts, hall, hK, hxt, hnw, hE, hbs, hnm⟩ := C
  have hn' : n = pc + 3 := by
    rcases hn with hn | hn
    · cases hn
    · exact hn
  subst hn'
  simp only [zo_ifc] at he
  split at he
  · rename_i t x r
    have ht : (pc : Int) + o0 = (t : Int) := of_decide_eq_true hl
    cases he
    intro ok H locs lsc hr hlv
    obtain ⟨o1, o2, o3⟩ := ok
    have ox := (o2 _ List.mem_cons_self : zin x)
    have oy := (by constructor <;> omega : zin 0)
    have hh := hW ⟨o1, fun v hv => o2 v (List.mem_cons_of_mem _ hv), o3⟩ H locs lsc hr hlv
    refine lv_if_lt hx hb hd ht (fun g => ?_) (fun g => ?_)
    · rw [show zcmp .lt x 0 = true from decide_eq_true ((z_ofInt_lt ox oy).mp g)] at hh
      exact hh
    · rw [show zcmp .lt x 0 = false from decide_eq_false (fun q0 => g ((z_ofInt_lt ox oy).mpr q0))] at hh
      exact hh
  · cases he
theorem zs_icmp_lt {o0 : Int} (C : zCtx p s m args meth c D cA base Xa E y q nL) (hd : decode q.2.1 pc = .ok (.if_icmp .lt o0, zlen (.if_icmp .lt o0) w)) (hn : zterm (.if_icmp .lt o0) = true ∨ n = pc + zlen (.if_icmp .lt o0) w) (hl : zlnk y pc q (.if_icmp .lt o0) w ps = true) (he : zo_icm .lt E cal w ps y n ls st h = some (.inl k')) (hW : zW p l e R s m args below meth c Q D cA base Xa nL n0 s0 k') : zW p l e R s m args below meth c Q D cA base Xa nL n0 s0 (y, pc, ls, st, h) := by
  obtain ⟨hx, hb, hml, hown, hts, hall, hK, hxt, hnw, hE, hbs, hnm⟩ := C
  have hn' : n = pc + 3 := by
    rcases hn with hn | hn
    · cases hn
    · exact hn
  subst hn'
  simp only [zo_icm] at he
  split at he
  · rename_i t b x r
    have ht : (pc : Int) + o0 = (t : Int) := of_decide_eq_true hl
    cases he
    intro ok H locs lsc hr hlv
    obtain ⟨o1, o2, o3⟩ := ok
    have ox := (o2 _ (List.mem_cons_of_mem _ List.mem_cons_self) : zin x)
    have oy := (o2 _ List.mem_cons_self : zin b)
    have hh := hW ⟨o1, fun v hv => o2 v (List.mem_cons_of_mem _ (List.mem_cons_of_mem _ hv)), o3⟩ H locs lsc hr hlv
    refine lv_icmp_lt hx hb hd ht (fun g => ?_) (fun g => ?_)
    · rw [show zcmp .lt x b = true from decide_eq_true ((z_ofInt_lt ox oy).mp g)] at hh
      exact hh
    · rw [show zcmp .lt x b = false from decide_eq_false (fun q0 => g ((z_ofInt_lt ox oy).mpr q0))] at hh
      exact hh
  · cases he
theorem zs_if_ge {o0 : Int} (C : zCtx p s m args meth c D cA base Xa E y q nL) (hd : decode q.2.1 pc = .ok (.ifCond .ge o0, zlen (.ifCond .ge o0) w)) (hn : zterm (.ifCond .ge o0) = true ∨ n = pc + zlen (.ifCond .ge o0) w) (hl : zlnk y pc q (.ifCond .ge o0) w ps = true) (he : zo_ifc .ge E cal w ps y n ls st h = some (.inl k')) (hW : zW p l e R s m args below meth c Q D cA base Xa nL n0 s0 k') : zW p l e R s m args below meth c Q D cA base Xa nL n0 s0 (y, pc, ls, st, h) := by
  obtain ⟨hx, hb, hml, hown, hts, hall, hK, hxt, hnw, hE, hbs, hnm⟩ := C
  have hn' : n = pc + 3 := by
    rcases hn with hn | hn
    · cases hn
    · exact hn
  subst hn'
  simp only [zo_ifc] at he
  split at he
  · rename_i t x r
    have ht : (pc : Int) + o0 = (t : Int) := of_decide_eq_true hl
    cases he
    intro ok H locs lsc hr hlv
    obtain ⟨o1, o2, o3⟩ := ok
    have ox := (o2 _ List.mem_cons_self : zin x)
    have oy := (by constructor <;> omega : zin 0)
    have hh := hW ⟨o1, fun v hv => o2 v (List.mem_cons_of_mem _ hv), o3⟩ H locs lsc hr hlv
    refine lv_if_ge hx hb hd ht (fun g => ?_) (fun g => ?_)
    · rw [show zcmp .ge x 0 = true from decide_eq_true ((z_ofInt_le oy ox).mp g)] at hh
      exact hh
    · rw [show zcmp .ge x 0 = false from decide_eq_false (fun q0 => g ((z_ofInt_le oy ox).mpr q0))] at hh
      exact hh
  · cases he
theorem zs_icmp_ge {o0 : Int} (C : zCtx p s m args meth c D cA base Xa E y q nL) (hd : decode q.2.1 pc = .ok (.if_icmp .ge o0, zlen (.if_icmp .ge o0) w)) (hn : zterm (.if_icmp .ge o0) = true ∨ n = pc + zlen (.if_icmp .ge o0) w) (hl : zlnk y pc q (.if_icmp .ge o0) w ps = true) (he : zo_icm .ge E cal w ps y n ls st h = some (.inl k')) (hW : zW p l e R s m args below meth c Q D cA base Xa nL n0 s0 k') : zW p l e R s m args below meth c Q D cA base Xa nL n0 s0 (y, pc, ls, st, h) := by
  obtain ⟨hx, hb, hml, hown, hts, hall, hK, hxt, hnw, hE, hbs, hnm⟩ := C
  have hn' : n = pc + 3 := by
    rcases hn with hn | hn
    · cases hn
    · exact hn
  subst hn'
  simp only [zo_icm] at he
  split at he
  · rename_i t b x r
    have ht : (pc : Int) + o0 = (t : Int) := of_decide_eq_true hl
    cases he
    intro ok H locs lsc hr hlv
    obtain ⟨o1, o2, o3⟩ := ok
    have ox := (o2 _ (List.mem_cons_of_mem _ List.mem_cons_self) : zin x)
    have oy := (o2 _ List.mem_cons_self : zin b)
    have hh := hW ⟨o1, fun v hv => o2 v (List.mem_cons_of_mem _ (List.mem_cons_of_mem _ hv)), o3⟩ H locs lsc hr hlv
    refine lv_icmp_ge hx hb hd ht (fun g => ?_) (fun g => ?_)
    · rw [show zcmp .ge x b = true from decide_eq_true ((z_ofInt_le oy ox).mp g)] at hh
      exact hh
    · rw [show zcmp .ge x b = false from decide_eq_false (fun q0 => g ((z_ofInt_le oy ox).mpr q0))] at hh
      exact hh
  · cases he
theorem zs_if_gt {o0 : Int} (C : zCtx p s m args meth c D cA base Xa E y q nL) (hd : decode q.2.1 pc = .ok (.ifCond .gt o0, zlen (.ifCond .gt o0) w)) (hn : zterm (.ifCond .gt o0) = true ∨ n = pc + zlen (.ifCond .gt o0) w) (hl : zlnk y pc q (.ifCond .gt o0) w ps = true) (he : zo_ifc .gt E cal w ps y n ls st h = some (.inl k')) (hW : zW p l e R s m args below meth c Q D cA base Xa nL n0 s0 k') : zW p l e R s m args below meth c Q D cA base Xa nL n0 s0 (y, pc, ls, st, h) := by
  obtain ⟨hx, hb, hml, hown, hts, hall, hK, hxt, hnw, hE, hbs, hnm⟩ := C
  have hn' : n = pc + 3 := by
    rcases hn with hn | hn
    · cases hn
    · exact hn
  subst hn'
  simp only [zo_ifc] at he
  split at he
  · rename_i t x r
    have ht : (pc : Int) + o0 = (t : Int) := of_decide_eq_true hl
    cases he
    intro ok H locs lsc hr hlv
    obtain ⟨o1, o2, o3⟩ := ok
    have ox := (o2 _ List.mem_cons_self : zin x)
    have oy := (by constructor <;> omega : zin 0)
    have hh := hW ⟨o1, fun v hv => o2 v (List.mem_cons_of_mem _ hv), o3⟩ H locs lsc hr hlv
    refine lv_if_gt hx hb hd ht (fun g => ?_) (fun g => ?_)
    · rw [show zcmp .gt x 0 = true from decide_eq_true ((z_ofInt_lt oy ox).mp g)] at hh
      exact hh
    · rw [show zcmp .gt x 0 = false from decide_eq_false (fun q0 => g ((z_ofInt_lt oy ox).mpr q0))] at hh
      exact hh
  · cases he
theorem zs_icmp_gt {o0 : Int} (C : zCtx p s m args meth c D cA base Xa E y q nL) (hd : decode q.2.1 pc = .ok (.if_icmp .gt o0, zlen (.if_icmp .gt o0) w)) (hn : zterm (.if_icmp .gt o0) = true ∨ n = pc + zlen (.if_icmp .gt o0) w) (hl : zlnk y pc q (.if_icmp .gt o0) w ps = true) (he : zo_icm .gt E cal w ps y n ls st h = some (.inl k')) (hW : zW p l e R s m args below meth c Q D cA base Xa nL n0 s0 k') : zW p l e R s m args below meth c Q D cA base Xa nL n0 s0 (y, pc, ls, st, h) := by
  obtain ⟨hx, hb, hml, hown, hts, hall, hK, hxt, hnw, hE, hbs, hnm⟩ := C
  have hn' : n = pc + 3 := by
    rcases hn with hn | hn
    · cases hn
    · exact hn
  subst hn'
  simp only [zo_icm] at he
  split at he
  · rename_i t b x r
    have ht : (pc : Int) + o0 = (t : Int) := of_decide_eq_true hl
    cases he
    intro ok H locs lsc hr hlv
    obtain ⟨o1, o2, o3⟩ := ok
    have ox := (o2 _ (List.mem_cons_of_mem _ List.mem_cons_self) : zin x)
    have oy := (o2 _ List.mem_cons_self : zin b)
    have hh := hW ⟨o1, fun v hv => o2 v (List.mem_cons_of_mem _ (List.mem_cons_of_mem _ hv)), o3⟩ H locs lsc hr hlv
    refine lv_icmp_gt hx hb hd ht (fun g => ?_) (fun g => ?_)
    · rw [show zcmp .gt x b = true from decide_eq_true ((z_ofInt_lt oy ox).mp g)] at hh
      exact hh
    · rw [show zcmp .gt x b = false from decide_eq_false (fun q0 => g ((z_ofInt_lt oy ox).mpr q0))] at hh
      exact hh
  · cases he
theorem zs_if_le {o0 : Int} (C : zCtx p s m args meth c D cA base Xa E y q nL) (hd : decode q.2.1 pc = .ok (.ifCond .le o0, zlen (.ifCond .le o0) w)) (hn : zterm (.ifCond .le o0) = true ∨ n = pc + zlen (.ifCond .le o0) w) (hl : zlnk y pc q (.ifCond .le o0) w ps = true) (he : zo_ifc .le E cal w ps y n ls st h = some (.inl k')) (hW : zW p l e R s m args below meth c Q D cA base Xa nL n0 s0 k') : zW p l e R s m args below meth c Q D cA base Xa nL n0 s0 (y, pc, ls, st, h) := by
  obtain ⟨hx, hb, hml, hown, hts, hall, hK, hxt, hnw, hE, hbs, hnm⟩ := C
  have hn' : n = pc + 3 := by
    rcases hn with hn | hn
    · cases hn
    · exact hn
  subst hn'
  simp only [zo_ifc] at he
  split at he
  · rename_i t x r
    have ht : (pc : Int) + o0 = (t : Int) := of_decide_eq_true hl
    cases he
    intro ok H locs lsc hr hlv
    obtain ⟨o1, o2, o3⟩ := ok
    have ox := (o2 _ List.mem_cons_self : zin x)
    have oy := (by constructor <;> omega : zin 0)
    have hh := hW ⟨o1, fun v hv => o2 v (List.mem_cons_of_mem _ hv), o3⟩ H locs lsc hr hlv
    refine lv_if_le hx hb hd ht (fun g => ?_) (fun g => ?_)
    · rw [show zcmp .le x 0 = true from decide_eq_true ((z_ofInt_le ox oy).mp g)] at hh
      exact hh
    · rw [show zcmp .le x 0 = false from decide_eq_false (fun q0 => g ((z_ofInt_le ox oy).mpr q0))] at hh
      exact hh
  · cases he
theorem zs_icmp_le {o0 : Int} (C : zCtx p s m args meth c D cA base Xa E y q nL) (hd : decode q.2.1 pc = .ok (.if_icmp .le o0, zlen (.if_icmp .le o0) w)) (hn : zterm (.if_icmp .le o0) = true ∨ n = pc + zlen (.if_icmp .le o0) w) (hl : zlnk y pc q (.if_icmp .le o0) w ps = true) (he : zo_icm .le E cal w ps y n ls st h = some (.inl k')) (hW : zW p l e R s m args below meth c Q D cA base Xa nL n0 s0 k') : zW p l e R s m args below meth c Q D cA base Xa nL n0 s0 (y, pc, ls, st, h) := by
  obtain ⟨hx, hb, hml, hown, hts, hall, hK, hxt, hnw, hE, hbs, hnm⟩ := C
  have hn' : n = pc + 3 := by
    rcases hn with hn | hn
    · cases hn
    · exact hn
  subst hn'
  simp only [zo_icm] at he
  split at he
  · rename_i t b x r
    have ht : (pc : Int) + o0 = (t : Int) := of_decide_eq_true hl
    cases he
    intro ok H locs lsc hr hlv
    obtain ⟨o1, o2, o3⟩ := ok
    have ox := (o2 _ (List.mem_cons_of_mem _ List.mem_cons_self) : zin x)
    have oy := (o2 _ List.mem_cons_self : zin b)
    have hh := hW ⟨o1, fun v hv => o2 v (List.mem_cons_of_mem _ (List.mem_cons_of_mem _ hv)), o3⟩ H locs lsc hr hlv
    refine lv_icmp_le hx hb hd ht (fun g => ?_) (fun g => ?_)
    · rw [show zcmp .le x b = true from decide_eq_true ((z_ofInt_le ox oy).mp g)] at hh
      exact hh
    · rw [show zcmp .le x b = false from decide_eq_false (fun q0 => g ((z_ofInt_le ox oy).mpr q0))] at hh
      exact hh
  · cases he
theorem zs_goto {o0 : Int} (C : zCtx p s m args meth c D cA base Xa E y q nL) (hd : decode q.2.1 pc = .ok (.goto o0, zlen (.goto o0) w)) (hn : zterm (.goto o0) = true ∨ n = pc + zlen (.goto o0) w) (hl : zlnk y pc q (.goto o0) w ps = true) (he : zo_got E cal w ps y n ls st h = some (.inl k')) (hW : zW p l e R s m args below meth c Q D cA base Xa nL n0 s0 k') : zW p l e R s m args below meth c Q D cA base Xa nL n0 s0 (y, pc, ls, st, h) := by
  obtain ⟨hx, hb, hml, hown, hts, hall, hK, hxt, hnw, hE, hbs, hnm⟩ := C
  simp only [zo_got] at he
  split at he
  · rename_i t
    have ht : (pc : Int) + o0 = (t : Int) := of_decide_eq_true hl
    cases he
    intro ok H locs lsc hr hlv
    exact lv_goto hx hb hd ht (hW ok H locs lsc hr hlv)
  · cases he
end
