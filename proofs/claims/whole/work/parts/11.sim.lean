/-! printed by wip/gen/gen_sim.py: a step of the abstract machine, over the kit's rows -/
theorem z_cadd (a b : Int) : Int32.ofInt (zadd a b) = Int32.ofInt a + Int32.ofInt b := Int32.ofInt_toInt _
theorem z_csub (a b : Int) : Int32.ofInt (zsub a b) = Int32.ofInt a - Int32.ofInt b := Int32.ofInt_toInt _
theorem z_cmul (a b : Int) : Int32.ofInt (zmul a b) = Int32.ofInt a * Int32.ofInt b := Int32.ofInt_toInt _
theorem z_cdiv (a b : Int) : Int32.ofInt (zdiv a b) = Int32.ofInt a / Int32.ofInt b := Int32.ofInt_toInt _
theorem z_crem (a b : Int) : Int32.ofInt (zrem a b) = Int32.ofInt a - Int32.ofInt a / Int32.ofInt b * Int32.ofInt b := Int32.ofInt_toInt _
theorem z_cand (a b : Int) : Int32.ofInt (zand a b) = Int32.ofInt a &&& Int32.ofInt b := Int32.ofInt_toInt _
theorem z_cor (a b : Int) : Int32.ofInt (zor a b) = Int32.ofInt a ||| Int32.ofInt b := Int32.ofInt_toInt _
theorem z_cshl (a b : Int) : Int32.ofInt (zshl a b) = Int32.ofInt a <<< (Int32.ofInt b &&& 31) := Int32.ofInt_toInt _
theorem z_cshr (a b : Int) : Int32.ofInt (zshr a b) = Int32.ofInt a >>> (Int32.ofInt b &&& 31) := Int32.ofInt_toInt _
theorem z_cneg (a : Int) : Int32.ofInt (zneg a) = -(Int32.ofInt a) := Int32.ofInt_toInt _
theorem z_ci2b (a : Int) : Int32.ofInt (zi2b a) = (Int32.ofInt a).toInt8.toInt32 := Int32.ofInt_toInt _
theorem z_ci2s (a : Int) : Int32.ofInt (zi2s a) = (Int32.ofInt a).toInt16.toInt32 := Int32.ofInt_toInt _
theorem z_cl2i (a : BitVec 64) : Int32.ofInt (zl2i a) = (Int64.ofBitVec a).toInt32 := Int32.ofInt_toInt _
theorem z_clcmp (a b : BitVec 64) : Int32.ofInt (zlcmp a b) = lg_cmp (Int64.ofBitVec a) (Int64.ofBitVec b) := Int32.ofInt_toInt _
def zlp (base : Nat) (Xa : Nat → Nat) (ls : List zV) : List (Nat × Value) := ls.zipIdx.filterMap (fun q => if q.1 = zR 0 then none else some (q.2, zcv base Xa q.1))
theorem zlp_mem {base : Nat} {Xa : Nat → Nat} {ls : List zV} {q : Nat × Value} : q ∈ zlp base Xa ls ↔ ∃ v, ls[q.1]? = some v ∧ v ≠ zR 0 ∧ q.2 = zcv base Xa v := by
  unfold zlp
  rw [List.mem_filterMap]
  constructor
  · rintro ⟨⟨v, i⟩, hm, he⟩
    rw [List.mem_zipIdx_iff_getElem?] at hm
    by_cases hv : v = zR 0
    · simp [hv] at he
    · simp only [hv, if_false, Option.some.injEq] at he
      subst he
      exact ⟨v, hm, hv, rfl⟩
  · rintro ⟨v, h1, h2, h3⟩
    refine ⟨(v, q.1), List.mem_zipIdx_iff_getElem?.mpr h1, ?_⟩
    simp only [h2, if_false, ← h3]
theorem zcv_cat1 {base : Nat} {Xa : Nat → Nat} {v : zV} (h : ∀ x, v ≠ zL x) : (zcv base Xa v).category = 1 := by
  match v with
  | .inl _ => rfl
  | .inr (.inl x) => exact absurd rfl (h x)
  | .inr (.inr 0) => rfl
  | .inr (.inr (k + 1)) => rfl
theorem zone_cat {base : Nat} {Xa : Nat → Nat} {v : zV} (h : zone v = true) : (zcv base Xa v).category = 1 := zcv_cat1 (fun x e => by subst e; cases h)
theorem zcat_sum {base : Nat} {Xa : Nat → Nat} : ∀ (l : List zV), ((l.map (zcv base Xa)).map fun v => v.category).sum = zcat l
  | [] => rfl
  | .inl x :: l => by simp only [List.map_cons, List.sum_cons, zcat_sum l, zcat]; rfl
  | .inr (.inl x) :: l => by simp only [List.map_cons, List.sum_cons, zcat_sum l, zcat]; rfl
  | .inr (.inr 0) :: l => by simp only [List.map_cons, List.sum_cons, zcat_sum l, zcat]; rfl
  | .inr (.inr (k + 1)) :: l => by simp only [List.map_cons, List.sum_cons, zcat_sum l, zcat]; rfl
theorem zinv_at {i j : Nat} {ls : List zV} {u : zV} (h : (zinv i ls)[j]? = some u) (hu : u ≠ zR 0) : ls[j]? = some u ∧ ¬ (j + 1 = i ∧ ∃ x, u = zL x) := by
  cases i with
  | zero => exact ⟨h, fun q => by omega⟩
  | succ i =>
    simp only [zinv] at h
    split at h
    · rename_i x hx
      by_cases hj : j = i
      · subst hj
        rw [List.getElem?_set_self (List.getElem?_eq_some_iff.mp hx).1] at h
        cases h
        exact absurd rfl hu
      · rw [List.getElem?_set_ne (Ne.symm hj)] at h
        exact ⟨h, fun q => hj (by omega)⟩
    · rename_i hx
      refine ⟨h, fun q => ?_⟩
      obtain ⟨q1, x, q2⟩ := q
      have : j = i := by omega
      subst this
      subst q2
      exact hx x h
theorem zinv_len (i : Nat) (ls : List zV) : (zinv i ls).length = ls.length := by
  cases i with
  | zero => rfl
  | succ i =>
    simp only [zinv]
    split <;> simp
theorem zinv_ok {i : Nat} {ls : List zV} (h : ∀ v ∈ ls, zok v) : ∀ v ∈ zinv i ls, zok v := by
  cases i with
  | zero => exact h
  | succ i =>
    simp only [zinv]
    split
    · intro v hv
      rcases List.mem_or_eq_of_mem_set hv with h1 | h1
      · exact h v h1
      · subst h1; trivial
    · exact h
theorem zset_ok {i : Nat} {ls : List zV} {u : zV} (h : ∀ v ∈ ls, zok v) (hu : zok u) : ∀ v ∈ ls.set i u, zok v := by
  intro v hv
  rcases List.mem_or_eq_of_mem_set hv with h1 | h1
  · exact h v h1
  · subst h1; exact hu
theorem lv_less {ls : Array Slot} {n : Nat} {l l' : List (Nat × Value)} (h : lv_has ls n l) (hs : ∀ q ∈ l', q ∈ l) : lv_has ls n l' := ⟨h.1, h.2.1, fun q hq => h.2.2 q (hs q hq)⟩
/-- a store of one place -/
theorem zlp_set1 {base : Nat} {Xa : Nat → Nat} {ls : List zV} {i : Nat} {v : zV} : ∀ q ∈ zlp base Xa ((zinv i ls).set i v), q ∈ (i, zcv base Xa v) :: (zlp base Xa ls).filter (fun q => !(q.1 == i) && !(q.1 + 1 == i && q.2.category == 2)) := by
  intro q hq
  obtain ⟨u, h1, h2, h3⟩ := zlp_mem.mp hq
  by_cases hj : q.1 = i
  · have hl : i < (zinv i ls).length := by
      have h9 := (List.getElem?_eq_some_iff.mp h1).1
      rw [List.length_set] at h9
      omega
    rw [hj, List.getElem?_set_self hl] at h1
    cases h1
    rw [← hj, ← h3]
    exact List.mem_cons_self
  · rw [List.getElem?_set_ne (Ne.symm hj)] at h1
    obtain ⟨g1, g2⟩ := zinv_at h1 h2
    refine List.mem_cons_of_mem _ (List.mem_filter.mpr ⟨zlp_mem.mpr ⟨u, g1, h2, h3⟩, ?_⟩)
    have hb : ¬ (q.1 + 1 = i ∧ q.2.category = 2) := by
      rintro ⟨e1, e2⟩
      refine g2 ⟨e1, ?_⟩
      match u, h3 with
      | .inl _, h3 => rw [h3] at e2; cases e2
      | .inr (.inl x), _ => exact ⟨x, rfl⟩
      | .inr (.inr 0), h3 => rw [h3] at e2; cases e2
      | .inr (.inr (k + 1)), h3 => rw [h3] at e2; cases e2
    simp only [Bool.and_eq_true, Bool.not_eq_true', beq_eq_false_iff_ne, ne_eq, Bool.and_eq_false_iff]
    refine ⟨hj, ?_⟩
    by_cases e1 : q.1 + 1 = i
    · exact Or.inr (fun e2 => hb ⟨e1, e2⟩)
    · exact Or.inl e1
/-- a store of two places -/
theorem zlp_set2 {base : Nat} {Xa : Nat → Nat} {ls : List zV} {i : Nat} {x : BitVec 64} : ∀ q ∈ zlp base Xa (((zinv i ls).set i (zL x)).set (i + 1) (zR 0)), q ∈ (i, zcv base Xa (zL x)) :: (zlp base Xa ls).filter (fun q => !(q.1 == i) && (!(q.1 == i + 1) && !(q.1 + 1 == i && q.2.category == 2))) := by
  intro q hq
  obtain ⟨u, h1, h2, h3⟩ := zlp_mem.mp hq
  have hne : q.1 ≠ i + 1 := by
    intro e
    have hl := (List.getElem?_eq_some_iff.mp h1).1
    rw [List.length_set] at hl
    rw [e] at hl h1
    rw [List.getElem?_set_self hl] at h1
    cases h1
    exact h2 rfl
  rw [List.getElem?_set_ne (Ne.symm hne)] at h1
  have hm := zlp_set1 (base := base) (Xa := Xa) q (zlp_mem.mpr ⟨u, h1, h2, h3⟩)
  rcases List.mem_cons.mp hm with h | h
  · rw [h]; exact List.mem_cons_self
  · obtain ⟨g1, g2⟩ := List.mem_filter.mp h
    refine List.mem_cons_of_mem _ (List.mem_filter.mpr ⟨g1, ?_⟩)
    simp only [Bool.and_eq_true, Bool.not_eq_true', beq_eq_false_iff_ne, ne_eq] at g2 ⊢
    exact ⟨g2.1, hne, g2.2⟩
section
variable {p : Program} {l : Launch} {e : Env} {R : Room} {s : State} {m : MethodId} {args : Array Value} {below : List Frame} {meth : Method} {c : Code} {Q : State → Prop}
variable (p l e R s m args below meth c Q)
def zRel (D : va_G) (cA : Nat → ClassId) (base : Nat) (Xa : Nat → Nat) (h : zH) (H : Heap) (locs : List Loc) : Prop :=
  va_P D zcl (zws base Xa cA h) H ∧ (h.2.2.length < 96 → H.size = base + h.2.2.length) ∧ va_S (fun q => base ≤ q) s.heap H locs
def zokc (nL n0 s0 : Nat) (ls st : List zV) (h : zH) : Prop := (∀ v ∈ ls, zok v) ∧ (∀ v ∈ st, zok v) ∧ zhok h ∧ n0 ≤ h.2.2.length ∧ s0 ≤ zsl h ∧ ls.length = nL
/-- from here the machine comes to its end -/
def zW (D : va_G) (cA : Nat → ClassId) (base : Nat) (Xa : Nat → Nat) (nL n0 s0 : Nat) (k : zC) : Prop := zokc nL n0 s0 k.2.2.1 k.2.2.2.1 k.2.2.2.2 →
  ∀ (H : Heap) (locs : List Loc) (lsc : Array Slot), zRel s D cA base Xa k.2.2.2.2 H locs → lv_has lsc nL (zlp base Xa k.2.2.1) →
    W p l e R s m args below meth c H locs (k.2.2.2.2.2.2.length - n0) (zsl k.2.2.2.2 - s0) Q (F0 m k.2.1 lsc (k.2.2.2.1.map (zcv base Xa)))
/-- what stands fast while a method's body runs -/
def zCtx (D : va_G) (cA : Nat → ClassId) (base : Nat) (Xa : Nat → Nat) (E : Nat → Nat × (Nat → Int)) (y : Nat) (q : zq) (nL : Nat) : Prop :=
  p.tables.exec = Jvm.exec ∧ c.code = q.2.1 ∧ c.maxLocals = nL ∧ s.vm.findClass (zon q.2.2.2.2) = some m.cls ∧ (∀ w ∈ zws0, w.before args s = true) ∧ (zcode y).all (zchk y q) = true ∧ va_K D zcl (ztys cA) s ∧
  zxt base Xa E s s.heap ∧ znw s ∧ zEok E ∧ base ≤ s.heap.size ∧ (q.1.name = "<init>" → meth.name = "<init>")
end
theorem zlook_mem {pc : Nat} : ∀ {l : List (Nat × zE)} {e : zE}, zlook pc l = some e → (pc, e) ∈ l
  | [], _, h => by cases h
  | r :: l, e, h => by
    unfold zlook at h
    cases hb : Nat.beq r.1 pc with
    | true =>
      rw [hb] at h
      cases h
      have : r.1 = pc := Nat.eq_of_beq_eq_true hb
      subst this
      exact List.mem_cons_self
    | false =>
      rw [hb] at h
      exact List.mem_cons_of_mem _ (zlook_mem h)
theorem zchk_of {y pc : Nat} {q : zq} (hall : (zcode y).all (zchk y q) = true) {i : Instr} {w : List Nat} {ps : List (Int × Nat)} {n : Nat} (h : zlook pc (zcode y) = some (i, w, ps, n)) :
    decode q.2.1 pc = .ok (i, zlen i w) ∧ (zterm i = true ∨ n = pc + zlen i w) ∧ zlnk y pc q i w ps = true := by
  have := List.all_eq_true.mp hall _ (zlook_mem h)
  unfold zchk at this
  simp only [Bool.and_eq_true, Bool.or_eq_true, decide_eq_true_eq] at this
  exact ⟨this.1.1, this.1.2.imp id (fun h => Nat.eq_of_beq_eq_true h), this.2⟩
