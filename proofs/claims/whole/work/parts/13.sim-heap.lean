/-! steps that touch the heap -/
theorem zarr_spec {h : zH} {a t l : Nat} (e : zarr h a t = some l) : ∃ k r, a = k + 5 ∧ h.2.2[k]? = some (t, l, r) := by
  unfold zarr at e
  split at e
  · cases e
  · rename_i ha
    split at e
    · rename_i q hq
      split at e
      · rename_i ht
        cases e
        obtain ⟨t', l', r⟩ := q
        simp only at ht
        subst ht
        exact ⟨a - 5, r, by omega, hq⟩
      · cases e
    · cases e
theorem zobj_spec {h : zH} {a ci : Nat} {q : Nat × List Nat} (e : zobj h a ci = some q) : ∃ k, a = k + 5 ∧ h.2.2[k]? = some (3 + ci, q.1, q.2) := by
  unfold zobj at e
  split at e
  · cases e
  · rename_i ha
    split at e
    · rename_i q' hq
      split at e
      · rename_i ht
        cases e
        obtain ⟨t', l'⟩ := q'
        simp only at ht
        subst ht
        exact ⟨a - 5, by omega, hq⟩
      · cases e
    · cases e
theorem zcv_cell (base : Nat) (Xa : Nat → Nat) (k : Nat) : zcv base Xa (.inr (.inr (k + 5))) = .ref (base + k) := by
  show Value.ref (zadr base Xa (k + 4 + 1)) = _
  unfold zadr
  rw [if_neg (by omega)]
  congr 1
theorem zcv_ext (base : Nat) (Xa : Nat → Nat) {a : Nat} (h1 : 1 ≤ a) (h2 : a < 5) : zcv base Xa (.inr (.inr a)) = .ref (Xa a) := by
  obtain ⟨k, rfl⟩ : ∃ k, a = k + 1 := ⟨a - 1, by omega⟩
  show Value.ref (zadr base Xa (k + 1)) = _
  unfold zadr
  rw [if_pos h2]
theorem zws_cell {base : Nat} {Xa : Nat → Nat} {cA : Nat → ClassId} {h : zH} {k : Nat} {q : Nat × Nat × List Nat} (hq : h.2.2[k]? = some q) : (zws base Xa cA h)[k]? = some (base + k, zce base Xa cA h q (k + 5)) := by
  rw [zws_at, hq]; rfl
section
variable {p : Program} {l : Launch} {e : Env} {R : Room} {s : State} {m : MethodId} {args : Array Value} {below : List Frame} {meth : Method} {c : Code} {Q : State → Prop}
variable {D : va_G} {cA : Nat → ClassId} {base : Nat} {Xa : Nat → Nat} {E : Nat → Nat × (Nat → Int)} {y : Nat} {q : zq} {nL n0 s0 : Nat} {cal : zcal} {pc n : Nat} {ls st : List zV} {h : zH} {w : List Nat} {ps : List (Int × Nat)} {k' : zC}
/-- one cell was written -/
theorem zRel_put {h' : zH} {H H' : Heap} {locs : List Loc} {k j : Nat} {r r' : Nat × Nat × List Nat} {el : va_E} (hr : zRel s D cA base Xa h H locs) (hq : h.2.2[k]? = some r) (hs : h'.2.2 = h.2.2.set k r') (hz : zce base Xa cA h' r' (k + 5) = el)
    (hf : ∀ j t, j ≠ k → h.2.2[j]? = some t → zce base Xa cA h' t (j + 5) = zce base Xa cA h t (j + 5)) (hat : va_at D zcl (base + k, el) H') (hsz : H'.size = H.size) (ho : ∀ x : Nat, x ≠ base + k → H'[x]? = H[x]?) :
    zRel s D cA base Xa h' H' (locs ++ [⟨base + k, j⟩]) := by
  obtain ⟨hP, hS1, hS⟩ := hr
  refine ⟨?_, fun hl => ?_, hS.put hsz ho (Nat.le_add_right _ _)⟩
  · rw [← zws_set hq hs hz hf]
    exact hP.set (zws_D base Xa cA h) (zws_cell hq) hat ho
  · have : h'.2.2.length = h.2.2.length := by rw [hs, List.length_set]
    rw [hsz, this]
    exact hS1 (by rw [← this]; exact hl)
theorem zset_same {α : Type} {σ : List α} {k : Nat} {r : α} (hq : σ[k]? = some r) : σ = σ.set k r := by
  apply List.ext_getElem?
  intro j
  by_cases hj : j = k
  · subst hj
    rw [List.getElem?_set_self (List.getElem?_eq_some_iff.mp hq).1, hq]
  · rw [List.getElem?_set_ne (Ne.symm hj)]
theorem zup_far {F : zM} {k a j : Nat} {v : Int} (hk : a ≠ k) : ∀ b, zup F k j v a b = F a b := fun b => by simp [zup, hk]
theorem zug_far {F : zG} {k a j : Nat} {v : BitVec 64} (hk : a ≠ k) : ∀ b, zug F k j v a b = F a b := fun b => by simp [zug, hk]
theorem zup_ok {F : zM} {k j : Nat} {v : Int} (h : ∀ a b, zin (F a b)) (hv : zin v) : ∀ a b, zin (zup F k j v a b) := by
  intro a b
  unfold zup
  split
  · exact hv
  · exact h a b
theorem z_upd {F : zM} {k j : Nat} {v : Int} : (fun b => Int32.ofInt (zup F k j v k b)) = upd (fun b => Int32.ofInt (F k b)) j (Int32.ofInt v) := by
  funext b
  unfold zup upd
  by_cases hb : b = j <;> simp [hb]
theorem z_updL {F : zG} {k j : Nat} {v : BitVec 64} : (fun b => Int64.ofBitVec (zug F k j v k b)) = vp_updL (fun b => Int64.ofBitVec (F k b)) j (Int64.ofBitVec v) := by
  funext b
  unfold zug vp_updL
  by_cases hb : b = j <;> simp [hb]
theorem zs_iaload (C : zCtx p s m args meth c D cA base Xa E y q nL) (hd : decode q.2.1 pc = .ok (.iaload, zlen (.iaload) w)) (hn : zterm (.iaload) = true ∨ n = pc + zlen (.iaload) w) (he : zo_ald 0 E cal w ps y n ls st h = some (.inl k')) (hW : zW p l e R s m args below meth c Q D cA base Xa nL n0 s0 k') : zW p l e R s m args below meth c Q D cA base Xa nL n0 s0 (y, pc, ls, st, h) := by
  obtain ⟨hx, hb, hml, hown, hts, hall, hK, hxt, hnw, hE, hbs, hnm⟩ := C
  have hn' : n = pc + 1 := by
    rcases hn with hn | hn
    · cases hn
    · exact hn
  subst hn'
  simp only [zo_ald] at he
  split at he
  · rename_i i a r
    intro ok H locs lsc hr hlv
    obtain ⟨o1, o2, o3⟩ := ok
    have oi : zin i := o2 _ List.mem_cons_self
    have o2r : ∀ v ∈ r, zok v := fun v hv => o2 v (List.mem_cons_of_mem _ (List.mem_cons_of_mem _ hv))
    split at he
    · rename_i ha5
      split at he
      · rename_i hc
        obtain ⟨-, h1a, hi0, hi1⟩ := hc
        cases he
        have hE1 : a = 1 → (E 0).1 = 1 := by
          intro ha
          subst ha
          by_cases hz : (E 0).1 = 1
          · exact hz
          · rw [hE.2.2.1 hz] at hi1
            omega
        have hX := hxt.1.1 a h1a ha5 hE1
        have hXb := hxt.2.1 a h1a ha5
        have hh := hW ⟨o1, fun v hv => ?_, o3⟩ H locs lsc hr hlv
        · show W p l e R s m args below meth c H locs _ _ Q (F0 m pc lsc (zcv base Xa (.inl i) :: zcv base Xa (.inr (.inr a)) :: r.map (zcv base Xa)))
          rw [zcv_ext base Xa h1a ha5]
          refine zXw.ld hx hb hX (by omega) (by show ¬ base ≤ Xa a; omega) hr.2.2 (z_vp_in oi hi0 hi1) hd ?_
          simp only [z_nat oi]
          exact hh
        · rcases List.mem_cons.mp hv with h1 | h1
          · rw [h1]; exact hE.1 a _
          · exact o2r v h1
      · cases he
    · split at he
      · rename_i ln hz
        split at he
        · rename_i hc
          cases he
          obtain ⟨k, rr, rfl, hq⟩ := zarr_spec hz
          have hh := hW ⟨o1, fun v hv => ?_, o3⟩ H locs lsc hr hlv
          · show W p l e R s m args below meth c H locs _ _ Q (F0 m pc lsc (zcv base Xa (.inl i) :: zcv base Xa (.inr (.inr (k + 5))) :: r.map (zcv base Xa)))
            rw [zcv_cell]
            refine va_iald hx hb hK hr.1 k 0 (zws_cell hq) rfl (z_vp_in oi hc.1 hc.2) hd ?_
            rw [z_nat oi]
            exact hh
          · rcases List.mem_cons.mp hv with h1 | h1
            · rw [h1]; exact o3.1 _ _
            · exact o2r v h1
        · cases he
      · cases he
  · cases he
theorem zs_baload (C : zCtx p s m args meth c D cA base Xa E y q nL) (hd : decode q.2.1 pc = .ok (.baload, zlen (.baload) w)) (hn : zterm (.baload) = true ∨ n = pc + zlen (.baload) w) (he : zo_ald 1 E cal w ps y n ls st h = some (.inl k')) (hW : zW p l e R s m args below meth c Q D cA base Xa nL n0 s0 k') : zW p l e R s m args below meth c Q D cA base Xa nL n0 s0 (y, pc, ls, st, h) := by
  obtain ⟨hx, hb, hml, hown, hts, hall, hK, hxt, hnw, hE, hbs, hnm⟩ := C
  have hn' : n = pc + 1 := by
    rcases hn with hn | hn
    · cases hn
    · exact hn
  subst hn'
  simp only [zo_ald] at he
  split at he
  · rename_i i a r
    intro ok H locs lsc hr hlv
    obtain ⟨o1, o2, o3⟩ := ok
    have oi : zin i := o2 _ List.mem_cons_self
    have o2r : ∀ v ∈ r, zok v := fun v hv => o2 v (List.mem_cons_of_mem _ (List.mem_cons_of_mem _ hv))
    split at he
    · split at he
      · rename_i hc
        exact absurd hc.1 (by decide)
      · cases he
    · split at he
      · rename_i ln hz
        split at he
        · rename_i hc
          cases he
          obtain ⟨k, rr, rfl, hq⟩ := zarr_spec hz
          have hh := hW ⟨o1, fun v hv => ?_, o3⟩ H locs lsc hr hlv
          · show W p l e R s m args below meth c H locs _ _ Q (F0 m pc lsc (zcv base Xa (.inl i) :: zcv base Xa (.inr (.inr (k + 5))) :: r.map (zcv base Xa)))
            rw [zcv_cell]
            refine va_zald hx hb hK hr.1 k 1 (zws_cell hq) rfl (z_vp_in oi hc.1 hc.2) hd ?_
            rw [z_nat oi]
            exact hh
          · rcases List.mem_cons.mp hv with h1 | h1
            · rw [h1]; exact o3.1 _ _
            · exact o2r v h1
        · cases he
      · cases he
  · cases he
theorem zs_laload (C : zCtx p s m args meth c D cA base Xa E y q nL) (hd : decode q.2.1 pc = .ok (.laload, zlen (.laload) w)) (hn : zterm (.laload) = true ∨ n = pc + zlen (.laload) w) (he : zo_lld E cal w ps y n ls st h = some (.inl k')) (hW : zW p l e R s m args below meth c Q D cA base Xa nL n0 s0 k') : zW p l e R s m args below meth c Q D cA base Xa nL n0 s0 (y, pc, ls, st, h) := by
  obtain ⟨hx, hb, hml, hown, hts, hall, hK, hxt, hnw, hE, hbs, hnm⟩ := C
  have hn' : n = pc + 1 := by
    rcases hn with hn | hn
    · cases hn
    · exact hn
  subst hn'
  simp only [zo_lld] at he
  split at he
  · rename_i i a r
    intro ok H locs lsc hr hlv
    obtain ⟨o1, o2, o3⟩ := ok
    have oi : zin i := o2 _ List.mem_cons_self
    have o2r : ∀ v ∈ r, zok v := fun v hv => o2 v (List.mem_cons_of_mem _ (List.mem_cons_of_mem _ hv))
    split at he
    · rename_i ln hz
      split at he
      · rename_i hc
        cases he
        obtain ⟨k, rr, rfl, hq⟩ := zarr_spec hz
        have hh := hW ⟨o1, fun v hv => ?_, o3⟩ H locs lsc hr hlv
        · show W p l e R s m args below meth c H locs _ _ Q (F0 m pc lsc (zcv base Xa (.inl i) :: zcv base Xa (.inr (.inr (k + 5))) :: r.map (zcv base Xa)))
          rw [zcv_cell]
          refine va_lald hx hb hK hr.1 k 2 (zws_cell hq) rfl (z_vp_in oi hc.1 hc.2) hd ?_
          rw [z_nat oi]
          exact hh
        · rcases List.mem_cons.mp hv with h1 | h1
          · rw [h1]; trivial
          · exact o2r v h1
      · cases he
    · cases he
  · cases he
theorem zs_iastore (C : zCtx p s m args meth c D cA base Xa E y q nL) (hd : decode q.2.1 pc = .ok (.iastore, zlen (.iastore) w)) (hn : zterm (.iastore) = true ∨ n = pc + zlen (.iastore) w) (he : zo_ast 0 E cal w ps y n ls st h = some (.inl k')) (hW : zW p l e R s m args below meth c Q D cA base Xa nL n0 s0 k') : zW p l e R s m args below meth c Q D cA base Xa nL n0 s0 (y, pc, ls, st, h) := by
  obtain ⟨hx, hb, hml, hown, hts, hall, hK, hxt, hnw, hE, hbs, hnm⟩ := C
  have hn' : n = pc + 1 := by
    rcases hn with hn | hn
    · cases hn
    · exact hn
  subst hn'
  simp only [zo_ast] at he
  split at he
  · rename_i x i a r
    intro ok H locs lsc hr hlv
    obtain ⟨o1, o2, o3⟩ := ok
    have ox : zin x := o2 _ List.mem_cons_self
    have oi : zin i := o2 _ (List.mem_cons_of_mem _ List.mem_cons_self)
    have o2r : ∀ v ∈ r, zok v := fun v hv => o2 v (List.mem_cons_of_mem _ (List.mem_cons_of_mem _ (List.mem_cons_of_mem _ hv)))
    split at he
    · rename_i ln hz
      split at he
      · rename_i hc
        cases he
        obtain ⟨k, rr, rfl, hq⟩ := zarr_spec hz
        show W p l e R s m args below meth c H locs _ _ Q (F0 m pc lsc (zcv base Xa (.inl x) :: zcv base Xa (.inl i) :: zcv base Xa (.inr (.inr (k + 5))) :: r.map (zcv base Xa)))
        rw [zcv_cell]
        have hcell : H[base + k]? = some (vp_cell (cA 0) (ln, .inl (fun j => Int32.ofInt (h.1 (k + 5) j)))) := hr.1 k _ (zws_cell hq)
        have hin := z_vp_in oi hc.1 hc.2.1
        refine W.iast hx hb hcell ((hK.2 0 _ rfl).1 ln (fun j => .int (Int32.ofInt (h.1 (k + 5) j)))) (fun q => by cases q) (by show ¬ (_ < 0 ∨ (arrV _ _ _).slots.size ≤ _); rw [arrV_size]; exact hin) rfl rfl hd fun H1 e1 z1 oq => ?_
        refine hW ⟨o1, o2r, zup_ok o3.1 ox, o3.2.1, o3.2.2.1, o3.2.2.2⟩ H1 _ lsc ?_ hlv
        refine zRel_put hr hq (zset_same hq) rfl (fun j t hj ht => zce_far (zup_far (by omega)) (fun _ => rfl)) ?_ z1 oq
        show H1[base + k]? = some (vp_cell (cA 0) (ln, .inl (fun j => Int32.ofInt (zup h.1 (k + 5) i.toNat x (k + 5) j))))
        rw [e1, z_upd, vp_cell_i, vp_cell_i, arrV_store, z_nat oi]
        congr 2
        funext b
        by_cases hb2 : b = i.toNat
        · subst hb2
          simp [updV, upd]
        · simp [updV, upd, hb2]
      · cases he
    · cases he
  · cases he
theorem zs_bastore (C : zCtx p s m args meth c D cA base Xa E y q nL) (hd : decode q.2.1 pc = .ok (.bastore, zlen (.bastore) w)) (hn : zterm (.bastore) = true ∨ n = pc + zlen (.bastore) w) (he : zo_ast 1 E cal w ps y n ls st h = some (.inl k')) (hW : zW p l e R s m args below meth c Q D cA base Xa nL n0 s0 k') : zW p l e R s m args below meth c Q D cA base Xa nL n0 s0 (y, pc, ls, st, h) := by
  obtain ⟨hx, hb, hml, hown, hts, hall, hK, hxt, hnw, hE, hbs, hnm⟩ := C
  have hn' : n = pc + 1 := by
    rcases hn with hn | hn
    · cases hn
    · exact hn
  subst hn'
  simp only [zo_ast] at he
  split at he
  · rename_i x i a r
    intro ok H locs lsc hr hlv
    obtain ⟨o1, o2, o3⟩ := ok
    have ox : zin x := o2 _ List.mem_cons_self
    have oi : zin i := o2 _ (List.mem_cons_of_mem _ List.mem_cons_self)
    have o2r : ∀ v ∈ r, zok v := fun v hv => o2 v (List.mem_cons_of_mem _ (List.mem_cons_of_mem _ (List.mem_cons_of_mem _ hv)))
    split at he
    · rename_i ln hz
      split at he
      · rename_i hc
        cases he
        obtain ⟨k, rr, rfl, hq⟩ := zarr_spec hz
        have hx01 := hc.2.2 trivial
        show W p l e R s m args below meth c H locs _ _ Q (F0 m pc lsc (zcv base Xa (.inl x) :: zcv base Xa (.inl i) :: zcv base Xa (.inr (.inr (k + 5))) :: r.map (zcv base Xa)))
        rw [zcv_cell]
        have hcell : H[base + k]? = some (vp_cell (cA 1) (ln, .inl (fun j => Int32.ofInt (h.1 (k + 5) j)))) := hr.1 k _ (zws_cell hq)
        have hin := z_vp_in oi hc.1 hc.2.1
        refine W.zast hx hb hcell ((hK.2 1 _ rfl).1 ln (fun j => .int (Int32.ofInt (h.1 (k + 5) j)))) (fun q => by cases q) (by show ¬ (_ < 0 ∨ (arrV _ _ _).slots.size ≤ _); rw [arrV_size]; exact hin) rfl rfl hd fun H1 e1 z1 oq => ?_
        refine hW ⟨o1, o2r, zup_ok o3.1 ox, o3.2.1, o3.2.2.1, o3.2.2.2⟩ H1 _ lsc ?_ hlv
        refine zRel_put hr hq (zset_same hq) rfl (fun j t hj ht => zce_far (zup_far (by omega)) (fun _ => rfl)) ?_ z1 oq
        show H1[base + k]? = some (vp_cell (cA 1) (ln, .inl (fun j => Int32.ofInt (zup h.1 (k + 5) i.toNat x (k + 5) j))))
        have hnar : narrow .boolean (.int (Int32.ofInt x)) = .int (Int32.ofInt x) := by rcases hx01 with rfl | rfl <;> rfl
        rw [e1, hnar, z_upd, vp_cell_i, vp_cell_i, arrV_store, z_nat oi]
        congr 2
        funext b
        by_cases hb2 : b = i.toNat
        · subst hb2
          simp [updV, upd]
        · simp [updV, upd, hb2]
      · cases he
    · cases he
  · cases he
theorem zs_lastore (C : zCtx p s m args meth c D cA base Xa E y q nL) (hd : decode q.2.1 pc = .ok (.lastore, zlen (.lastore) w)) (hn : zterm (.lastore) = true ∨ n = pc + zlen (.lastore) w) (he : zo_lst E cal w ps y n ls st h = some (.inl k')) (hW : zW p l e R s m args below meth c Q D cA base Xa nL n0 s0 k') : zW p l e R s m args below meth c Q D cA base Xa nL n0 s0 (y, pc, ls, st, h) := by
  obtain ⟨hx, hb, hml, hown, hts, hall, hK, hxt, hnw, hE, hbs, hnm⟩ := C
  have hn' : n = pc + 1 := by
    rcases hn with hn | hn
    · cases hn
    · exact hn
  subst hn'
  simp only [zo_lst] at he
  split at he
  · rename_i x i a r
    intro ok H locs lsc hr hlv
    obtain ⟨o1, o2, o3⟩ := ok
    have oi : zin i := o2 _ (List.mem_cons_of_mem _ List.mem_cons_self)
    have o2r : ∀ v ∈ r, zok v := fun v hv => o2 v (List.mem_cons_of_mem _ (List.mem_cons_of_mem _ (List.mem_cons_of_mem _ hv)))
    split at he
    · rename_i ln hz
      split at he
      · rename_i hc
        cases he
        obtain ⟨k, rr, rfl, hq⟩ := zarr_spec hz
        show W p l e R s m args below meth c H locs _ _ Q (F0 m pc lsc (zcv base Xa (.inr (.inl x)) :: zcv base Xa (.inl i) :: zcv base Xa (.inr (.inr (k + 5))) :: r.map (zcv base Xa)))
        rw [zcv_cell]
        have hcell : H[base + k]? = some (vp_cell (cA 2) (ln, .inr (.inl (fun j => Int64.ofBitVec (h.2.1 (k + 5) j))))) := hr.1 k _ (zws_cell hq)
        have hin := z_vp_in oi hc.1 hc.2
        refine W.last hx hb hcell ((hK.2 2 _ rfl).1 ln (fun j => .long (Int64.ofBitVec (h.2.1 (k + 5) j)))) (fun q => by cases q) (by show ¬ (_ < 0 ∨ (arrV _ _ _).slots.size ≤ _); rw [arrV_size]; exact hin) rfl rfl hd fun H1 e1 z1 oq => ?_
        refine hW ⟨o1, o2r, o3.1, o3.2.1, o3.2.2.1, o3.2.2.2⟩ H1 _ lsc ?_ hlv
        refine zRel_put hr hq (zset_same hq) rfl (fun j t hj ht => zce_far (fun _ => rfl) (zug_far (by omega))) ?_ z1 oq
        show H1[base + k]? = some (vp_cell (cA 2) (ln, .inr (.inl (fun j => Int64.ofBitVec (zug h.2.1 (k + 5) i.toNat x (k + 5) j)))))
        rw [e1, z_updL, vp_cell_l, vp_cell_l, arrV_store, z_nat oi]
        congr 2
        funext b
        by_cases hb2 : b = i.toNat
        · subst hb2
          simp [updV, vp_updL]
        · simp [updV, vp_updL, hb2]
      · cases he
    · cases he
  · cases he
theorem zs_alen (C : zCtx p s m args meth c D cA base Xa E y q nL) (hd : decode q.2.1 pc = .ok (.arraylength, zlen (.arraylength) w)) (hn : zterm (.arraylength) = true ∨ n = pc + zlen (.arraylength) w) (he : zo_len E cal w ps y n ls st h = some (.inl k')) (hW : zW p l e R s m args below meth c Q D cA base Xa nL n0 s0 k') : zW p l e R s m args below meth c Q D cA base Xa nL n0 s0 (y, pc, ls, st, h) := by
  obtain ⟨hx, hb, hml, hown, hts, hall, hK, hxt, hnw, hE, hbs, hnm⟩ := C
  have hn' : n = pc + 1 := by
    rcases hn with hn | hn
    · cases hn
    · exact hn
  subst hn'
  simp only [zo_len] at he
  split at he
  · rename_i a r
    split at he
    · rename_i hc
      obtain ⟨rfl, hE0⟩ := hc
      cases he
      intro ok H locs lsc hr hlv
      obtain ⟨o1, o2, o3⟩ := ok
      have hX := hxt.1.2 hE0
      have hXb := hxt.2.1 1 (by omega) (by omega)
      have hlt := hE.2.1 hE0
      have hh := hW ⟨o1, fun v hv => ?_, o3⟩ H locs lsc hr hlv
      · show W p l e R s m args below meth c H locs _ _ Q (F0 m pc lsc (zcv base Xa (.inr (.inr 1)) :: r.map (zcv base Xa)))
        rw [zcv_ext base Xa (by omega) (by omega)]
        refine va_slen hx hb hX (by omega) (by show ¬ base ≤ Xa 1; omega) hr.2.2 hd ?_
        exact hh
      · rcases List.mem_cons.mp hv with h1 | h1
        · rw [h1]; show zin _; constructor <;> omega
        · exact o2 v (List.mem_cons_of_mem _ h1)
    · cases he
  · cases he
end
