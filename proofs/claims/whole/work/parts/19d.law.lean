/-! the law's start: a run of the abstract machine from an empty heap is a run of the law -/
set_option maxRecDepth 100000 in
theorem zl_all11 : (List.range 11).all (fun ci => zNT.any (fun r => Nat.beq r.2.2.1 ci)) = true := by decide +kernel
theorem zinst {args : Array Value} {s : State} (hts : ∀ w ∈ lw_tbl, w.before args s = true) (ci : Nat) (h : ci < 11) : ∃ (cC : ClassId) (iS : Nat → Nat), u_Kn s (zon ci) (zTf ci) (znf ci) cC iS := by
  have h1 := List.all_eq_true.mp zl_all11 ci (List.mem_range.mpr h)
  obtain ⟨r, hr, hb⟩ := List.any_eq_true.mp h1
  have h5 := List.all_eq_true.mp zl_NT r hr
  unfold znt at h5
  simp only [Bool.and_eq_true, decide_eq_true_eq] at h5
  rw [Nat.eq_of_beq_eq_true hb] at h5
  have h6 := h5.1.1.2
  exact u_known hts (fun w hw => List.mem_append_right _ (zl_in ci h w hw)) (hts _ (List.mem_append_right _ (List.mem_of_getElem? h6)))
theorem zarrs {args : Array Value} {s : State} {ty : FieldType} (hc : ∀ C, ty ≠ .object C) (h : (Cond.arrayClass ty).before args s = true) : ∃ cA : ClassId, ArrOfT s cA ty ∧ s.vm.findClass ("[" ++ ty.toString) = some cA := by
  obtain ⟨cA, kA, comp, h1, h2, h3⟩ := Cond.arrayClass_spec h
  exact ⟨cA, fun n z => ⟨fun k h => (by cases h), kA, h2, comp, h3⟩, h1⟩
/-- a table of six numbers that is said at the start -/
theorem zstat {args : Array Value} {s : State} {n : String} {v0 v1 v2 v3 v4 v5 : Int32} (hl : (Cond.laysStatic "HandsAndWays$Kinds" n "[I").before args s = true) (hini : (Cond.initialized "HandsAndWays$Kinds").before args s = true)
    (harr : (Cond.arrayOf (.static "HandsAndWays$Kinds" n "[I") .int).before args s = true) (hlen : (Cond.eq (.length (.static "HandsAndWays$Kinds" n "[I")) (.int 6)).before args s = true)
    (h0 : (Cond.eq (.elem (.static "HandsAndWays$Kinds" n "[I") (.int 0)) (.int v0)).before args s = true) (h1 : (Cond.eq (.elem (.static "HandsAndWays$Kinds" n "[I") (.int 1)) (.int v1)).before args s = true)
    (h2 : (Cond.eq (.elem (.static "HandsAndWays$Kinds" n "[I") (.int 2)) (.int v2)).before args s = true) (h3 : (Cond.eq (.elem (.static "HandsAndWays$Kinds" n "[I") (.int 3)) (.int v3)).before args s = true)
    (h4 : (Cond.eq (.elem (.static "HandsAndWays$Kinds" n "[I") (.int 4)) (.int v4)).before args s = true) (h5 : (Cond.eq (.elem (.static "HandsAndWays$Kinds" n "[I") (.int 5)) (.int v5)).before args s = true) :
    ∃ t : Nat, t < s.heap.size ∧ va_Z "HandsAndWays$Kinds" n "[I" (.ref t) (fun q => s.heap.size ≤ q) s s.heap ∧ zXw t 6 (fun j => [v0, v1, v2, v3, v4, v5].getD j 0) s s.heap := by
  have hA : ∀ a : Nat, a < s.heap.size → ¬ (fun q => s.heap.size ≤ q) a := fun a h q => by have : s.heap.size ≤ a := q; omega
  obtain ⟨t, ht, cell, c1, c2, c3, c4, c5, c6, c7⟩ := va_Tof (N := 6) (f := fun j => .int ([v0, v1, v2, v3, v4, v5].getD j 0)) (A := fun q => s.heap.size ≤ q) (by decide) harr (va_eqt hlen) (fun j hj => by
    have hj6 : j = 0 ∨ j = 1 ∨ j = 2 ∨ j = 3 ∨ j = 4 ∨ j = 5 := by omega
    rcases hj6 with rfl | rfl | rfl | rfl | rfl | rfl
    · exact va_eqt h0
    · exact va_eqt h1
    · exact va_eqt h2
    · exact va_eqt h3
    · exact va_eqt h4
    · exact va_eqt h5) hA
  exact ⟨t, (Array.getElem?_eq_some_iff.mp c1).1, va_Zref hl hini ht hA, cell, c1, c2, c3, c4, c6⟩
def zlaw (L : Nat) (xs : Nat → Int) : Prop := ∃ (n : Nat) (h' : zH), zrun (zX 1 L xs) (zex 40) n (242, 0, [zR 1, zR 0, zR 0, zR 0], [], (fun _ _ => 0), (fun _ _ => 0), []) = some (some (zI 1), h') ∧ Nat.ble h'.2.2.length 600000 = true ∧ Nat.ble (zsl h') 7302249 = true
set_option maxRecDepth 100000 in
theorem zlaw_start {p : Program} {e : Env} {s : State} {m : MethodId} {below : List Frame} {meth : Method} {c : Code} (l : Launch) {b L : Nat} {xs : Nat → Int32} (hL : L ≤ 3072) (C0 : lw_At p s m meth c b L xs) (hz : zlaw L (fun j => (xs j).toInt)) : W p l e room_1 s m #[Value.ref b] below meth c s.heap [] 0 0 (lw_Z below #[Value.ref b] s) (entryFrame m ([Value.ref b] : List Value).toArray 4) := by
  obtain ⟨hx, hb, hr, hml, hown, hts, hX, hbl, hlocks, hgv⟩ := C0
  obtain ⟨n, h', hn, hb1, hb2⟩ := hz
  have hs := flat_of_before _ hgv
  have hKn : ∀ ci, ∃ (q : ClassId × (Nat → Nat)), ci < 11 → u_Kn s (zon ci) (zTf ci) (znf ci) q.1 q.2 := by
    intro ci
    by_cases h : ci < 11
    · obtain ⟨cC, iS, hk⟩ := zinst hts ci h
      exact ⟨(cC, iS), fun _ => hk⟩
    · exact ⟨(0, fun _ => 0), fun h9 => absurd h9 h⟩
  have tw : ∀ {w : Jvm.Cond}, w ∈ tables_1 → w.before #[Value.ref b] s = true := fun hw => hts _ (List.mem_append_right _ hw)
  obtain ⟨a0, a0a, a0b⟩ := zarrs (fun C h => by cases h) (tw zl_AR.1)
  obtain ⟨a1, a1a, a1b⟩ := zarrs (fun C h => by cases h) (tw zl_AR.2.1)
  obtain ⟨a2, a2a, a2b⟩ := zarrs (fun C h => by cases h) (tw zl_AR.2.2)
  obtain ⟨t2, s2a, s2b, s2c⟩ := zstat (n := "SIDES") (v0 := 15) (v1 := 10) (v2 := 13) (v3 := 15) (v4 := 10) (v5 := 5) (tw zl_LS.1) (tw zl_LS.2.2.2) (hs _ (by decide +kernel)) (hs _ (by decide +kernel)) (hs _ (by decide +kernel)) (hs _ (by decide +kernel)) (hs _ (by decide +kernel)) (hs _ (by decide +kernel)) (hs _ (by decide +kernel)) (hs _ (by decide +kernel))
  obtain ⟨t3, s3a, s3b, s3c⟩ := zstat (n := "ABOVE") (v0 := -1) (v1 := 0) (v2 := 0) (v3 := 0) (v4 := 1) (v5 := 2) (tw zl_LS.2.1) (tw zl_LS.2.2.2) (hs _ (by decide +kernel)) (hs _ (by decide +kernel)) (hs _ (by decide +kernel)) (hs _ (by decide +kernel)) (hs _ (by decide +kernel)) (hs _ (by decide +kernel)) (hs _ (by decide +kernel)) (hs _ (by decide +kernel))
  obtain ⟨t4, s4a, s4b, s4c⟩ := zstat (n := "TURNS_UP") (v0 := 1) (v1 := 1) (v2 := 0) (v3 := 1) (v4 := 1) (v5 := 0) (tw zl_LS.2.2.1) (tw zl_LS.2.2.2) (hs _ (by decide +kernel)) (hs _ (by decide +kernel)) (hs _ (by decide +kernel)) (hs _ (by decide +kernel)) (hs _ (by decide +kernel)) (hs _ (by decide +kernel)) (hs _ (by decide +kernel)) (hs _ (by decide +kernel))
  let Xa : Nat → Nat := fun k => if k = 1 then b else if k = 2 then t2 else if k = 3 then t3 else t4
  let cA : Nat → ClassId := fun k => if k = 0 then a0 else if k = 1 then a1 else a2
  let D : va_G := (fun ci => (Classical.choose (hKn ci)).1, fun ci => (Classical.choose (hKn ci)).2)
  let E := zX 1 L (fun j => (xs j).toInt)
  have hXL : L < 2147483648 := by omega
  have hE : zEok E := by
    refine ⟨fun k j => ?_, fun _ => hXL, fun h => absurd rfl h, fun k hk => ?_⟩
    · by_cases hk : k = 1
      · subst hk
        exact zin_toInt _
      · by_cases hk0 : k = 0
        · subst hk0
          exact (⟨by decide, by decide⟩ : zin 0)
        · have : E k = zX0 k := by
            show zX 1 L _ k = zX 0 0 _ k
            simp only [zX, if_neg hk0, if_neg hk]
          rw [this]
          exact zEok_0.1 k j
    · show zX 1 L _ k = zX 0 0 _ k
      have hk0 : ¬ k = 0 := by omega
      have hk1 : ¬ k = 1 := by omega
      simp only [zX, if_neg hk0, if_neg hk1]
  have hxs : (fun j => Int32.ofInt ((E 1).2 j)) = xs := by
    funext j
    show Int32.ofInt (xs j).toInt = xs j
    exact Int32.ofInt_toInt _
  have hK : va_K D zcl (ztys cA) s := by
    refine ⟨fun ci q hq => ?_, fun k q hq => ?_⟩
    · have hci : ci < 11 := (List.getElem?_eq_some_iff.mp hq).1
      rw [zl_cl ci hci] at hq
      cases hq
      exact Classical.choose_spec (hKn ci) hci
    · have hk : k < 3 := (List.getElem?_eq_some_iff.mp hq).1
      have hk3 : k = 0 ∨ k = 1 ∨ k = 2 := by omega
      rcases hk3 with rfl | rfl | rfl
      · cases hq; exact ⟨a0a, a0b⟩
      · cases hq; exact ⟨a1a, a1b⟩
      · cases hq; exact ⟨a2a, a2b⟩
  have hxt : zxt s.heap.size Xa E s s.heap := by
    refine ⟨⟨fun k h1 h2 _ => ?_, fun _ => by rw [hxs]; exact hX⟩, fun k h1 h2 => ?_, fun k h1 h2 => ?_⟩
    · have hk : k = 1 ∨ k = 2 ∨ k = 3 ∨ k = 4 := by omega
      rcases hk with rfl | rfl | rfl | rfl
      · rw [hxs]; exact zXw.of hX
      · obtain ⟨cell, c1, c2, c3, c4, c5⟩ := s2c
        refine ⟨cell, c1, c2, c3, c4, fun j hj => ?_⟩
        rw [c5 j hj]
        have hj6 : j = 0 ∨ j = 1 ∨ j = 2 ∨ j = 3 ∨ j = 4 ∨ j = 5 := by have : j < 6 := hj; omega
        rcases hj6 with rfl | rfl | rfl | rfl | rfl | rfl <;> rfl
      · obtain ⟨cell, c1, c2, c3, c4, c5⟩ := s3c
        refine ⟨cell, c1, c2, c3, c4, fun j hj => ?_⟩
        rw [c5 j hj]
        have hj6 : j = 0 ∨ j = 1 ∨ j = 2 ∨ j = 3 ∨ j = 4 ∨ j = 5 := by have : j < 6 := hj; omega
        rcases hj6 with rfl | rfl | rfl | rfl | rfl | rfl <;> rfl
      · obtain ⟨cell, c1, c2, c3, c4, c5⟩ := s4c
        refine ⟨cell, c1, c2, c3, c4, fun j hj => ?_⟩
        rw [c5 j hj]
        have hj6 : j = 0 ∨ j = 1 ∨ j = 2 ∨ j = 3 ∨ j = 4 ∨ j = 5 := by have : j < 6 := hj; omega
        rcases hj6 with rfl | rfl | rfl | rfl | rfl | rfl <;> rfl
    · have hk : k = 1 ∨ k = 2 ∨ k = 3 ∨ k = 4 := by omega
      rcases hk with rfl | rfl | rfl | rfl
      · exact hbl
      · exact s2a
      · exact s3a
      · exact s4a
    · have hk : k = 2 ∨ k = 3 ∨ k = 4 := by omega
      rcases hk with rfl | rfl | rfl
      · exact s2b
      · exact s3b
      · exact s4b
  have hnw : znw s := fun o k y hy => va_tabs rfl rfl (hts _ hy)
  have hzmt : zmt[242]? = some zm_242 := rfl
  have C : zCtx p s m #[Value.ref b] meth c D cA s.heap.size Xa E 242 zm_242 4 := ⟨hx, hb, hml, hown, fun w hw => hts w (zws0_in hw).1, zk_at 242 zm_242 hzmt, hK, hxt, hnw, hE, Nat.le_refl _, fun h9 => absurd h9 (by decide)⟩
  have hW := zsim (l := l) (e := e) (below := below) (R := room_1) (d := 40) (n0 := 0) (s0 := 0) (Q := lw_Z below #[Value.ref b] s) C (zOK_zex l 40) (zex_mono 40) ⟨by decide, by decide⟩ (r := some (zI 1)) (h' := h') ⟨Nat.le_of_ble_eq_true hb1, Nat.le_of_ble_eq_true hb2⟩ ?_ n _ rfl hn
  · have hent := lv_entry ([Value.ref b]) (n := 4) (Nat.le_of_ble_eq_true rfl)
    rw [lg_entry_eq]
    refine hW ⟨fun v hv => ?_, zVok_nil, fun _ _ => (⟨by decide, by decide⟩ : zin 0), Nat.le_refl _, Nat.zero_le _, rfl⟩ s.heap [] _ ⟨fun k q hk => ?_, fun _ => rfl, va_S.rf⟩ (lv_less hent (fun z hz => ?_))
    · simp only [List.mem_cons, List.not_mem_nil, or_false] at hv
      rcases hv with rfl | rfl | rfl | rfl <;> trivial
    · cases hk
    · obtain ⟨v, h1, h2, h3⟩ := zlp_mem.mp hz
      have hz4 : z.1 < 4 := (List.getElem?_eq_some_iff.mp h1).1
      have hz5 : z.1 = 0 ∨ z.1 = 1 ∨ z.1 = 2 ∨ z.1 = 3 := by omega
      obtain ⟨z1, z2⟩ := z
      simp only at h1 h3 hz5
      rcases hz5 with rfl | rfl | rfl | rfl
      · cases h1
        rw [h3, zcv_ext _ _ (by decide) (by decide)]
        exact List.mem_cons_self
      · cases h1; exact absurd rfl h2
      · cases h1; exact absurd rfl h2
      · cases h1; exact absurd rfl h2
  · intro i pc lsc H locs hd he hrel oh' or'
    have hi : i = .ireturn := by
      rcases he with ⟨h1, _⟩ | ⟨_, x, h1, _⟩ | ⟨_, h1, _⟩
      · exact h1
      · cases h1
      · cases h1
    subst hi
    exact va_forget hrel.2.2.2.2 (W.widen (k := 600000) (n := 7302249) (by rw [Nat.sub_zero]; exact Nat.le_of_ble_eq_true hb1) (by rw [Nat.sub_zero]; exact Nat.le_of_ble_eq_true hb2) (lw_ret hx hb hr hlocks hd))
