/-! the abstract heap as a world of the kit's -/
def zin (x : Int) : Prop := -2147483648 ≤ x ∧ x ≤ 2147483647
def zok : zV → Prop
  | .inl x => zin x
  | _ => True
def zhok (h : zH) : Prop := ∀ k j, zin (h.1 k j)
theorem zin_toInt (v : Int32) : zin v.toInt := by
  have h1 : -2 ^ 31 ≤ v.toInt := Int32.le_toInt v
  have h2 : v.toInt < 2 ^ 31 := Int32.toInt_lt v
  constructor <;> omega
theorem zin_eq {x : Int} (h : zin x) : (Int32.ofInt x).toInt = x := by
  obtain ⟨h1, h2⟩ := h
  rw [Int32.toInt_ofInt]
  show x.bmod 4294967296 = x
  exact Int.bmod_eq_of_le (by omega) (by omega)
theorem z_ofInt_inj {x y : Int} (hx : zin x) (hy : zin y) : Int32.ofInt x = Int32.ofInt y ↔ x = y := by
  constructor
  · intro h
    rw [← zin_eq hx, ← zin_eq hy, h]
  · rintro rfl; rfl
theorem z_ofInt_lt {x y : Int} (hx : zin x) (hy : zin y) : Int32.ofInt x < Int32.ofInt y ↔ x < y := by
  rw [Int32.lt_iff_toInt_lt, zin_eq hx, zin_eq hy]
theorem z_ofInt_le {x y : Int} (hx : zin x) (hy : zin y) : Int32.ofInt x ≤ Int32.ofInt y ↔ x ≤ y := by
  rw [Int32.le_iff_toInt_le, zin_eq hx, zin_eq hy]
theorem z_nat {x : Int} (hx : zin x) : (Int32.ofInt x).toNatClampNeg = x.toNat := by
  show (Int32.ofInt x).toInt.toNat = x.toNat
  rw [zin_eq hx]
theorem z_vp_in {i : Int} {n : Nat} (hi : zin i) (h1 : 0 ≤ i) (h2 : i < n) : vp_in (Int32.ofInt i) n := by
  intro h
  rcases h with h | h
  · rw [show (0 : Int32) = Int32.ofInt 0 from rfl, z_ofInt_lt hi (by constructor <;> omega)] at h
    omega
  · rw [z_nat hi] at h
    omega
/-- where a cell is -/
def zadr (base : Nat) (Xa : Nat → Nat) (k : Nat) : Nat := if k < 5 then Xa k else base + (k - 5)
def zcv (base : Nat) (Xa : Nat → Nat) : zV → Value
  | .inl x => .int (Int32.ofInt x)
  | .inr (.inl b) => .long (Int64.ofBitVec b)
  | .inr (.inr 0) => .null
  | .inr (.inr (k + 1)) => .ref (zadr base Xa (k + 1))
def zfv (base : Nat) (Xa : Nat → Nat) (h : zH) (a ci : Nat) (rs : List Nat) (j : Nat) : Value :=
  if ztag ci j = 3 then zcv base Xa (zR (rs.getD j 0)) else if ztag ci j = 2 then .long (Int64.ofBitVec (h.2.1 a j)) else .int (Int32.ofInt (h.1 a j))
def zce (base : Nat) (Xa : Nat → Nat) (cA : Nat → ClassId) (h : zH) (q : Nat × Nat × List Nat) (a : Nat) : va_E := match q.1 with
  | 0 => .inl (cA 0, q.2.1, .inl (fun j => Int32.ofInt (h.1 a j)))
  | 1 => .inl (cA 1, q.2.1, .inl (fun j => Int32.ofInt (h.1 a j)))
  | 2 => .inl (cA 2, q.2.1, .inr (.inl (fun j => Int64.ofBitVec (h.2.1 a j))))
  | t + 3 => .inr (t, (List.range q.2.1).map (zfv base Xa h a t q.2.2))
def zws (base : Nat) (Xa : Nat → Nat) (cA : Nat → ClassId) (h : zH) : va_W := h.2.2.zipIdx.map (fun q => (base + q.2, zce base Xa cA h q.1 (q.2 + 5)))
theorem zws_at (base : Nat) (Xa : Nat → Nat) (cA : Nat → ClassId) (h : zH) (k : Nat) : (zws base Xa cA h)[k]? = (h.2.2[k]?).map fun q => (base + k, zce base Xa cA h q (k + 5)) := by
  unfold zws
  rw [List.getElem?_map, List.getElem?_zipIdx]
  cases h.2.2[k]? <;> simp
theorem zws_len (base : Nat) (Xa : Nat → Nat) (cA : Nat → ClassId) (h : zH) : (zws base Xa cA h).length = h.2.2.length := by simp [zws]
theorem zws_D (base : Nat) (Xa : Nat → Nat) (cA : Nat → ClassId) (h : zH) : va_D (fun q => base ≤ q) (zws base Xa cA h) := by
  refine ⟨fun i j p q hi hj e => ?_, fun k q hk => ?_⟩
  · rw [zws_at] at hi hj
    cases h1 : h.2.2[i]? <;> rw [h1] at hi <;> cases hi
    cases h2 : h.2.2[j]? <;> rw [h2] at hj <;> cases hj
    simp only at e
    omega
  · rw [zws_at] at hk
    cases h1 : h.2.2[k]? <;> rw [h1] at hk <;> cases hk
    show base ≤ base + k
    omega
/-- one cell changes -/
theorem zws_set {base : Nat} {Xa : Nat → Nat} {cA : Nat → ClassId} {h h' : zH} {k : Nat} {q q' : Nat × Nat × List Nat} {e : va_E} (hq : h.2.2[k]? = some q) (hs : h'.2.2 = h.2.2.set k q') (he : zce base Xa cA h' q' (k + 5) = e)
    (hr : ∀ j r, j ≠ k → h.2.2[j]? = some r → zce base Xa cA h' r (j + 5) = zce base Xa cA h r (j + 5)) : (zws base Xa cA h).set k (base + k, e) = zws base Xa cA h' := by
  have hl := (List.getElem?_eq_some_iff.mp hq).1
  apply List.ext_getElem?
  intro j
  rw [zws_at, hs]
  by_cases hj : j = k
  · subst hj
    rw [List.getElem?_set_self (by rw [zws_len]; exact hl), List.getElem?_set_self hl]
    simp [he]
  · rw [List.getElem?_set_ne (Ne.symm hj), List.getElem?_set_ne (Ne.symm hj), zws_at]
    cases h1 : h.2.2[j]? with
    | none => rfl
    | some r => simp [hr j r hj h1]
theorem zws_same {base : Nat} {Xa : Nat → Nat} {cA : Nat → ClassId} {h h' : zH} {k : Nat} {q : Nat × Nat × List Nat} {e : va_E} (hq : h.2.2[k]? = some q) (hs : h'.2.2 = h.2.2) (he : zce base Xa cA h' q (k + 5) = e)
    (hr : ∀ j r, j ≠ k → h.2.2[j]? = some r → zce base Xa cA h' r (j + 5) = zce base Xa cA h r (j + 5)) : (zws base Xa cA h).set k (base + k, e) = zws base Xa cA h' := by
  refine zws_set (q' := q) hq ?_ he hr
  rw [hs]
  apply List.ext_getElem?
  intro j
  by_cases hj : j = k
  · subst hj
    rw [List.getElem?_set_self (List.getElem?_eq_some_iff.mp hq).1, hq]
  · rw [List.getElem?_set_ne (Ne.symm hj)]
theorem zce_far {base : Nat} {Xa : Nat → Nat} {cA : Nat → ClassId} {h h' : zH} {r : Nat × Nat × List Nat} {a : Nat} (h1 : ∀ j, h'.1 a j = h.1 a j) (h2 : ∀ j, h'.2.1 a j = h.2.1 a j) : zce base Xa cA h' r a = zce base Xa cA h r a := by
  unfold zce
  have e1 : (fun j => Int32.ofInt (h'.1 a j)) = (fun j => Int32.ofInt (h.1 a j)) := by funext j; rw [h1]
  have e2 : (fun j => Int64.ofBitVec (h'.2.1 a j)) = (fun j => Int64.ofBitVec (h.2.1 a j)) := by funext j; rw [h2]
  split
  · rw [e1]
  · rw [e1]
  · rw [e2]
  · rename_i t _
    have e3 : zfv base Xa h' a t r.2.2 = zfv base Xa h a t r.2.2 := by
      funext j
      unfold zfv
      rw [h1, h2]
    rw [e3]
theorem zws_push {base : Nat} {Xa : Nat → Nat} {cA : Nat → ClassId} {h h' : zH} {q : Nat × Nat × List Nat} (hs : h'.2.2 = h.2.2 ++ [q])
    (hr : ∀ j r, h.2.2[j]? = some r → zce base Xa cA h' r (j + 5) = zce base Xa cA h r (j + 5)) : zws base Xa cA h' = zws base Xa cA h ++ [(base + h.2.2.length, zce base Xa cA h' q (h.2.2.length + 5))] := by
  apply List.ext_getElem?
  intro j
  rw [zws_at, hs]
  rcases Nat.lt_trichotomy j h.2.2.length with hj | hj | hj
  · rw [List.getElem?_append_left hj, List.getElem?_append_left (by rw [zws_len]; exact hj), zws_at]
    cases h1 : h.2.2[j]? with
    | none => rfl
    | some r => simp [hr j r h1]
  · subst hj
    rw [List.getElem?_append_right (Nat.le_refl _), List.getElem?_append_right (by rw [zws_len]; exact Nat.le_refl _)]
    simp [zws_len]
  · rw [List.getElem?_eq_none (by simp; omega), List.getElem?_eq_none (by simp [zws_len]; omega)]
    rfl
def zsl (h : zH) : Nat := (h.2.2.map (fun q => q.2.1)).sum
theorem zsl_same {h h' : zH} (e : h'.2.2 = h.2.2) : zsl h' = zsl h := by unfold zsl; rw [e]
theorem zsl_push {h h' : zH} {q : Nat × Nat × List Nat} (e : h'.2.2 = h.2.2 ++ [q]) : zsl h' = zsl h + q.2.1 := by
  unfold zsl; rw [e]; simp
/-- the types of the arrays -/
def ztys (cA : Nat → ClassId) : List (ClassId × FieldType) := [(cA 0, .int), (cA 1, .boolean), (cA 2, .long)]
/-- an array that is only read, as far as it is read -/
def zXw (b L : Nat) (xs : Nat → Int32) (U : State) (H : Heap) : Prop := ∃ scr : Cell, H[b]? = some scr ∧ U.isArrayOf scr .int ∧ scr.vm ≠ .unknown ∧ L ≤ scr.slots.size ∧ ∀ j : Nat, j < L → scr.slots[j]? = some (.int (xs j))
theorem zXw.of {b L : Nat} {xs : Nat → Int32} {U : State} {H : Heap} (h : va_X b L xs U H) : zXw b L xs U H := by
  obtain ⟨scr, h1, h2, h3, h4, h5⟩ := h
  exact ⟨scr, h1, h2, h3, Nat.le_of_eq h4.symm, h5⟩
theorem zXw.kept {b L : Nat} {xs : Nat → Int32} {U : State} {H H1 : Heap} (h : zXw b L xs U H) (hq : H1[b]? = H[b]?) : zXw b L xs U H1 := by
  obtain ⟨scr, h1, h2⟩ := h
  exact ⟨scr, by rw [hq]; exact h1, h2⟩
theorem zXw.moved {b L : Nat} {xs : Nat → Int32} {u U : State} {H : Heap} (hvm : u.vm.Alike U.vm) (h : zXw b L xs u H) : zXw b L xs U H := by
  obtain ⟨scr, h1, h2, h3⟩ := h
  exact ⟨scr, h1, State.isArrayOf_alike hvm h2, h3⟩
section
variable {p : Program} {l : Launch} {e : Env} {R : Room} {s : State} {m : MethodId} {args : Array Value} {below : List Frame} {meth : Method} {c : Code} {H : Heap} {locs : List Loc} {cells slots : Nat} {Q : State → Prop}
variable {cc : ByteArray} {pc : Nat} {ls : Array Slot} {rest : List Value} {A : Nat → Prop} {H0 : Heap}
theorem zXw.ld (hexec : p.tables.exec = Jvm.exec) (hb : c.code = cc) {b L : Nat} {xs : Nat → Int32} (hX : zXw b L xs s H0) (hbl : b < H0.size) (hbA : ¬ A b) (hS : va_S A H0 H locs) {i : Int32} (hin : vp_in i L) (hdg : decode cc pc = .ok (.iaload, 1))
    (kk : W p l e R s m args below meth c H locs cells slots Q (F0 m (pc + 1) ls (.int (xs i.toNatClampNeg) :: rest))) : W p l e R s m args below meth c H locs cells slots Q (F0 m pc ls (.int i :: .ref b :: rest)) := by
  obtain ⟨scr, h1, h2, h3, h4, h5⟩ := hX
  have hlt : i.toNatClampNeg < L := Nat.not_le.mp fun q => hin (Or.inr q)
  exact W.iald (v := .int (xs i.toNatClampNeg)) hexec hb (by rw [hS.2.1 b hbl hbA]; exact h1) h2 h3 (fun q => hin (q.imp id (fun q => Nat.le_trans h4 q))) (h5 _ hlt) rfl rfl hdg kk
end
/-- what is read from outside -/
def zxt (base : Nat) (Xa : Nat → Nat) (E : Nat → Nat × (Nat → Int)) (U : State) (H : Heap) : Prop :=
  ((∀ k, 1 ≤ k → k < 5 → (k = 1 → (E 0).1 = 1) → zXw (Xa k) (E k).1 (fun j => Int32.ofInt ((E k).2 j)) U H) ∧ ((E 0).1 = 1 → va_X (Xa 1) (E 1).1 (fun j => Int32.ofInt ((E 1).2 j)) U H)) ∧ (∀ k, 1 ≤ k → k < 5 → Xa k < base) ∧
  (∀ k, 2 ≤ k → k < 5 → va_Z "HandsAndWays$Kinds" (zsn k) "[I" (.ref (Xa k)) (fun q => base ≤ q) U H)
def zEok (E : Nat → Nat × (Nat → Int)) : Prop := (∀ k j, zin ((E k).2 j)) ∧ ((E 0).1 = 1 → (E 1).1 < 2147483648) ∧ ((E 0).1 ≠ 1 → (E 1).1 = 0) ∧ (∀ k, 2 ≤ k → E k = zX0 k)
/-- nest mates' links -/
def znw (U : State) : Prop := ∀ o k y, Jvm.Cond.methodLinkNest o k y "HandsAndWays" ∈ lw_tbl → va_Nw (.methodLinkNest o k y "HandsAndWays") U
/-- a state holds the abstract heap -/
def zSt (D : va_G) (cA : Nat → ClassId) (base : Nat) (Xa : Nat → Nat) (E : Nat → Nat × (Nat → Int)) (h : zH) (U : State) : Prop :=
  va_P D zcl (zws base Xa cA h) U.heap ∧ va_K D zcl (ztys cA) U ∧ (h.2.2.length < 96 → U.heap.size = base + h.2.2.length) ∧ zxt base Xa E U U.heap ∧ znw U ∧ base ≤ U.heap.size
