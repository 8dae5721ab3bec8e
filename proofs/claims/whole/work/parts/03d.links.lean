/-! printed by wip/gen/gen_links.py: the links are words of the tables; all checks in one -/
theorem zdrop_all {α : Type} (l : List α) (k n : Nat) (f : α → Bool) : (l.drop k).all f = (((l.drop k).take n).all f && (l.drop (k + n)).all f) := by
  rw [← List.drop_drop, ← List.all_append, List.take_append_drop]
def zon (k : Nat) : String := zown.getD k ""
abbrev zq : Type := MethodName × ByteArray × Nat × Option FieldType × Nat
def zft (r : Nat × Nat × Nat × Nat × Nat) : Bool := decide (tables_1[r.2.2.2.2]? = some (Jvm.Cond.fieldLink (zon r.1) r.2.1 (zTf r.2.2.1 r.2.2.2.1).1 (zTf r.2.2.1 r.2.2.2.1).2.1 (zTf r.2.2.1 r.2.2.2.1).2.2.1))
set_option maxRecDepth 100000 in
theorem zl_FT : zFT.all zft = true := by decide +kernel
def zmd : zq := zm_0
def zmn (c : Nat) : MethodName := (zmt.getD c zmd).1
def zmw (r : Nat × Nat × Nat × Nat × Nat × Nat × Nat × Nat) : Bool := decide (lw_tbl[r.2.2.2.2.1]? = some (match r.2.2.2.1 with
    | 3 => Jvm.Cond.methodLinkNest (zon r.1) r.2.1 (zmn r.2.2.1) "HandsAndWays"
    | _ => Jvm.Cond.methodLink (zon r.1) r.2.1 (zmn r.2.2.1)))
  && decide (lw_tbl[r.2.2.2.2.2.1]? = some (match r.2.2.2.1 with
    | 0 => Jvm.Cond.static (zmn r.2.2.1)
    | _ => Jvm.Cond.instanceMethod (zmn r.2.2.1)))
  && (match r.2.2.2.1 with
    | 1 => decide (lw_tbl[r.2.2.2.2.2.2.1]? = some (Jvm.Cond.selects (zmn r.2.2.1).cls (zmn r.2.2.1) (zmn r.2.2.1)))
    | _ => true)
  && decide (lw_tbl[r.2.2.2.2.2.2.2]? = some (Jvm.Cond.initialized (zmn r.2.2.1).cls))
  && (Nat.blt r.2.2.1 242 || Nat.blt 242 r.2.2.1 && Nat.blt r.2.2.1 245)
set_option maxRecDepth 100000 in
theorem zl_MT_0 : ((zMT.drop 0).take 15).all zmw = true := by decide +kernel
set_option maxRecDepth 100000 in
theorem zl_MT_15 : ((zMT.drop 15).take 15).all zmw = true := by decide +kernel
set_option maxRecDepth 100000 in
theorem zl_MT_30 : ((zMT.drop 30).take 15).all zmw = true := by decide +kernel
set_option maxRecDepth 100000 in
theorem zl_MT_45 : ((zMT.drop 45).take 15).all zmw = true := by decide +kernel
set_option maxRecDepth 100000 in
theorem zl_MT_60 : ((zMT.drop 60).take 15).all zmw = true := by decide +kernel
set_option maxRecDepth 100000 in
theorem zl_MT_75 : ((zMT.drop 75).take 15).all zmw = true := by decide +kernel
set_option maxRecDepth 100000 in
theorem zl_MT_90 : ((zMT.drop 90).take 15).all zmw = true := by decide +kernel
set_option maxRecDepth 100000 in
theorem zl_MT_105 : ((zMT.drop 105).take 15).all zmw = true := by decide +kernel
set_option maxRecDepth 100000 in
theorem zl_MT_120 : ((zMT.drop 120).take 15).all zmw = true := by decide +kernel
set_option maxRecDepth 100000 in
theorem zl_MT_135 : ((zMT.drop 135).take 15).all zmw = true := by decide +kernel
set_option maxRecDepth 100000 in
theorem zl_MT_150 : ((zMT.drop 150).take 15).all zmw = true := by decide +kernel
set_option maxRecDepth 100000 in
theorem zl_MT_165 : ((zMT.drop 165).take 15).all zmw = true := by decide +kernel
set_option maxRecDepth 100000 in
theorem zl_MT_180 : ((zMT.drop 180).take 15).all zmw = true := by decide +kernel
set_option maxRecDepth 100000 in
theorem zl_MT_195 : ((zMT.drop 195).take 15).all zmw = true := by decide +kernel
set_option maxRecDepth 100000 in
theorem zl_MT_210 : ((zMT.drop 210).take 15).all zmw = true := by decide +kernel
set_option maxRecDepth 100000 in
theorem zl_MT_225 : ((zMT.drop 225).take 15).all zmw = true := by decide +kernel
set_option maxRecDepth 100000 in
theorem zl_MT_240 : ((zMT.drop 240).take 15).all zmw = true := by decide +kernel
set_option maxRecDepth 100000 in
theorem zl_MT_255 : ((zMT.drop 255).take 15).all zmw = true := by decide +kernel
set_option maxRecDepth 100000 in
theorem zl_MT_270 : ((zMT.drop 270).take 15).all zmw = true := by decide +kernel
theorem zl_MT_e285 : (zMT.drop 285).all zmw = true := by rw [show zMT.drop 285 = [] from List.drop_eq_nil_of_le (by decide +kernel)]; rfl
theorem zl_MT_e270 : (zMT.drop 270).all zmw = true := by rw [zdrop_all zMT 270 15 zmw, zl_MT_270, zl_MT_e285]; rfl
theorem zl_MT_e255 : (zMT.drop 255).all zmw = true := by rw [zdrop_all zMT 255 15 zmw, zl_MT_255, zl_MT_e270]; rfl
theorem zl_MT_e240 : (zMT.drop 240).all zmw = true := by rw [zdrop_all zMT 240 15 zmw, zl_MT_240, zl_MT_e255]; rfl
theorem zl_MT_e225 : (zMT.drop 225).all zmw = true := by rw [zdrop_all zMT 225 15 zmw, zl_MT_225, zl_MT_e240]; rfl
theorem zl_MT_e210 : (zMT.drop 210).all zmw = true := by rw [zdrop_all zMT 210 15 zmw, zl_MT_210, zl_MT_e225]; rfl
theorem zl_MT_e195 : (zMT.drop 195).all zmw = true := by rw [zdrop_all zMT 195 15 zmw, zl_MT_195, zl_MT_e210]; rfl
theorem zl_MT_e180 : (zMT.drop 180).all zmw = true := by rw [zdrop_all zMT 180 15 zmw, zl_MT_180, zl_MT_e195]; rfl
theorem zl_MT_e165 : (zMT.drop 165).all zmw = true := by rw [zdrop_all zMT 165 15 zmw, zl_MT_165, zl_MT_e180]; rfl
theorem zl_MT_e150 : (zMT.drop 150).all zmw = true := by rw [zdrop_all zMT 150 15 zmw, zl_MT_150, zl_MT_e165]; rfl
theorem zl_MT_e135 : (zMT.drop 135).all zmw = true := by rw [zdrop_all zMT 135 15 zmw, zl_MT_135, zl_MT_e150]; rfl
theorem zl_MT_e120 : (zMT.drop 120).all zmw = true := by rw [zdrop_all zMT 120 15 zmw, zl_MT_120, zl_MT_e135]; rfl
theorem zl_MT_e105 : (zMT.drop 105).all zmw = true := by rw [zdrop_all zMT 105 15 zmw, zl_MT_105, zl_MT_e120]; rfl
theorem zl_MT_e90 : (zMT.drop 90).all zmw = true := by rw [zdrop_all zMT 90 15 zmw, zl_MT_90, zl_MT_e105]; rfl
theorem zl_MT_e75 : (zMT.drop 75).all zmw = true := by rw [zdrop_all zMT 75 15 zmw, zl_MT_75, zl_MT_e90]; rfl
theorem zl_MT_e60 : (zMT.drop 60).all zmw = true := by rw [zdrop_all zMT 60 15 zmw, zl_MT_60, zl_MT_e75]; rfl
theorem zl_MT_e45 : (zMT.drop 45).all zmw = true := by rw [zdrop_all zMT 45 15 zmw, zl_MT_45, zl_MT_e60]; rfl
theorem zl_MT_e30 : (zMT.drop 30).all zmw = true := by rw [zdrop_all zMT 30 15 zmw, zl_MT_30, zl_MT_e45]; rfl
theorem zl_MT_e15 : (zMT.drop 15).all zmw = true := by rw [zdrop_all zMT 15 15 zmw, zl_MT_15, zl_MT_e30]; rfl
theorem zl_MT_e0 : (zMT.drop 0).all zmw = true := by rw [zdrop_all zMT 0 15 zmw, zl_MT_0, zl_MT_e15]; rfl
theorem zl_MT : zMT.all zmw = true := zl_MT_e0
def znt (r : Nat × Nat × Nat × Nat × Nat × Nat) : Bool := decide (tables_1[r.2.2.2.1]? = some (Jvm.Cond.classLink (zon r.1) r.2.1 (zon r.2.2.1))) && decide (tables_1[r.2.2.2.2.1]? = some (Jvm.Cond.instantiable (zon r.2.2.1) (znf r.2.2.1))) && decide (tables_1[r.2.2.2.2.2]? = some (Jvm.Cond.initialized (zon r.2.2.1))) && Nat.blt r.2.2.1 11
set_option maxRecDepth 100000 in
theorem zl_NT : zNT.all znt = true := by decide +kernel
def zot (r : Nat × Nat × Nat) : Bool := decide (tables_1[r.2.2]? = some (Jvm.Cond.methodLink (zon r.1) r.2.1 Lib.objectInit))
set_option maxRecDepth 100000 in
theorem zl_OT : zOT.all zot = true := by decide +kernel
set_option maxRecDepth 100000 in
theorem zl_OI : Jvm.Cond.instanceMethod Lib.objectInit ∈ tables_1 ∧ Jvm.Cond.code Lib.objectInit ⟨#[0xb1]⟩ 1 none ∈ tables_1 := ⟨List.mem_of_getElem? (i := 23) (by decide +kernel), List.mem_of_getElem? (i := 24) (by decide +kernel)⟩
def zat (r : Nat × Nat × Nat) : Bool := decide (tables_1[r.2.2]? = some (Jvm.Cond.methodLink (zon r.1) r.2.1 arraycopyName))
set_option maxRecDepth 100000 in
theorem zl_AT : zAT.all zat = true := by decide +kernel
set_option maxRecDepth 100000 in
theorem zl_AC : Jvm.Cond.native arraycopyName ∈ tables_1 ∧ Jvm.Cond.static arraycopyName ∈ tables_1 ∧ Jvm.Cond.initialized "java/lang/System" ∈ tables_1 := ⟨by decide +kernel, by decide +kernel, by decide +kernel⟩
def zsn (k : Nat) : String := if k = 2 then "SIDES" else if k = 3 then "ABOVE" else "TURNS_UP"
def zgt (r : Nat × Nat × Nat × Nat) : Bool := decide (tables_1[r.2.2.2]? = some (Jvm.Cond.fieldLink (zon r.1) r.2.1 "HandsAndWays$Kinds" (zsn r.2.2.1) "[I")) && Nat.ble 2 r.2.2.1 && Nat.blt r.2.2.1 5
set_option maxRecDepth 100000 in
theorem zl_GT : zGT.all zgt = true := by decide +kernel
def zkt (r : Nat × Nat × Int × Nat) : Bool := decide (tables_1[r.2.2.2]? = some (Jvm.Cond.constantLong (zon r.1) r.2.1 (Int64.ofInt r.2.2.1)))
set_option maxRecDepth 100000 in
theorem zl_KT : zKT.all zkt = true := by decide +kernel
set_option maxRecDepth 100000 in
theorem zl_AR : Jvm.Cond.arrayClass .int ∈ tables_1 ∧ Jvm.Cond.arrayClass .boolean ∈ tables_1 ∧ Jvm.Cond.arrayClass .long ∈ tables_1 := ⟨List.mem_of_getElem? (i := 81) (by decide +kernel), List.mem_of_getElem? (i := 1178) (by decide +kernel), List.mem_of_getElem? (i := 179) (by decide +kernel)⟩
set_option maxRecDepth 100000 in
theorem zl_LS : Jvm.Cond.laysStatic "HandsAndWays$Kinds" "SIDES" "[I" ∈ tables_1 ∧ Jvm.Cond.laysStatic "HandsAndWays$Kinds" "ABOVE" "[I" ∈ tables_1 ∧ Jvm.Cond.laysStatic "HandsAndWays$Kinds" "TURNS_UP" "[I" ∈ tables_1 ∧ Jvm.Cond.initialized "HandsAndWays$Kinds" ∈ tables_1 := ⟨List.mem_of_getElem? (i := 581) (by decide +kernel), List.mem_of_getElem? (i := 1026) (by decide +kernel), List.mem_of_getElem? (i := 545) (by decide +kernel), by decide +kernel⟩
/-- a method's code is a word of the tables (but the law's) -/
def zcw (r : zq × Nat) : Bool := Nat.beq r.1.2.2.2.2 13 || (decide (tables_1[r.2]? = some (Jvm.Cond.code r.1.1 r.1.2.1 r.1.2.2.1 r.1.2.2.2.1)) && decide (plainFor r.1.1 = true) && decide (r.1.1.cls ≠ "java/lang/invoke/MethodHandle") && decide (r.1.1.cls ≠ "java/lang/invoke/VarHandle") && Nat.ble r.1.2.2.1 40 && decide (zon r.1.2.2.2.2 = r.1.1.cls))
set_option maxRecDepth 100000 in
theorem zl_CW_0 : (((zmt.zip zpos).drop 0).take 15).all zcw = true := by decide +kernel
set_option maxRecDepth 100000 in
theorem zl_CW_15 : (((zmt.zip zpos).drop 15).take 15).all zcw = true := by decide +kernel
set_option maxRecDepth 100000 in
theorem zl_CW_30 : (((zmt.zip zpos).drop 30).take 15).all zcw = true := by decide +kernel
set_option maxRecDepth 100000 in
theorem zl_CW_45 : (((zmt.zip zpos).drop 45).take 15).all zcw = true := by decide +kernel
set_option maxRecDepth 100000 in
theorem zl_CW_60 : (((zmt.zip zpos).drop 60).take 15).all zcw = true := by decide +kernel
set_option maxRecDepth 100000 in
theorem zl_CW_75 : (((zmt.zip zpos).drop 75).take 15).all zcw = true := by decide +kernel
set_option maxRecDepth 100000 in
theorem zl_CW_90 : (((zmt.zip zpos).drop 90).take 15).all zcw = true := by decide +kernel
set_option maxRecDepth 100000 in
theorem zl_CW_105 : (((zmt.zip zpos).drop 105).take 15).all zcw = true := by decide +kernel
set_option maxRecDepth 100000 in
theorem zl_CW_120 : (((zmt.zip zpos).drop 120).take 15).all zcw = true := by decide +kernel
set_option maxRecDepth 100000 in
theorem zl_CW_135 : (((zmt.zip zpos).drop 135).take 15).all zcw = true := by decide +kernel
set_option maxRecDepth 100000 in
theorem zl_CW_150 : (((zmt.zip zpos).drop 150).take 15).all zcw = true := by decide +kernel
set_option maxRecDepth 100000 in
theorem zl_CW_165 : (((zmt.zip zpos).drop 165).take 15).all zcw = true := by decide +kernel
set_option maxRecDepth 100000 in
theorem zl_CW_180 : (((zmt.zip zpos).drop 180).take 15).all zcw = true := by decide +kernel
set_option maxRecDepth 100000 in
theorem zl_CW_195 : (((zmt.zip zpos).drop 195).take 15).all zcw = true := by decide +kernel
set_option maxRecDepth 100000 in
theorem zl_CW_210 : (((zmt.zip zpos).drop 210).take 15).all zcw = true := by decide +kernel
set_option maxRecDepth 100000 in
theorem zl_CW_225 : (((zmt.zip zpos).drop 225).take 15).all zcw = true := by decide +kernel
set_option maxRecDepth 100000 in
theorem zl_CW_240 : (((zmt.zip zpos).drop 240).take 15).all zcw = true := by decide +kernel
theorem zl_CW_e255 : ((zmt.zip zpos).drop 255).all zcw = true := by rw [show (zmt.zip zpos).drop 255 = [] from List.drop_eq_nil_of_le (by decide +kernel)]; rfl
theorem zl_CW_e240 : ((zmt.zip zpos).drop 240).all zcw = true := by rw [zdrop_all (zmt.zip zpos) 240 15 zcw, zl_CW_240, zl_CW_e255]; rfl
theorem zl_CW_e225 : ((zmt.zip zpos).drop 225).all zcw = true := by rw [zdrop_all (zmt.zip zpos) 225 15 zcw, zl_CW_225, zl_CW_e240]; rfl
theorem zl_CW_e210 : ((zmt.zip zpos).drop 210).all zcw = true := by rw [zdrop_all (zmt.zip zpos) 210 15 zcw, zl_CW_210, zl_CW_e225]; rfl
theorem zl_CW_e195 : ((zmt.zip zpos).drop 195).all zcw = true := by rw [zdrop_all (zmt.zip zpos) 195 15 zcw, zl_CW_195, zl_CW_e210]; rfl
theorem zl_CW_e180 : ((zmt.zip zpos).drop 180).all zcw = true := by rw [zdrop_all (zmt.zip zpos) 180 15 zcw, zl_CW_180, zl_CW_e195]; rfl
theorem zl_CW_e165 : ((zmt.zip zpos).drop 165).all zcw = true := by rw [zdrop_all (zmt.zip zpos) 165 15 zcw, zl_CW_165, zl_CW_e180]; rfl
theorem zl_CW_e150 : ((zmt.zip zpos).drop 150).all zcw = true := by rw [zdrop_all (zmt.zip zpos) 150 15 zcw, zl_CW_150, zl_CW_e165]; rfl
theorem zl_CW_e135 : ((zmt.zip zpos).drop 135).all zcw = true := by rw [zdrop_all (zmt.zip zpos) 135 15 zcw, zl_CW_135, zl_CW_e150]; rfl
theorem zl_CW_e120 : ((zmt.zip zpos).drop 120).all zcw = true := by rw [zdrop_all (zmt.zip zpos) 120 15 zcw, zl_CW_120, zl_CW_e135]; rfl
theorem zl_CW_e105 : ((zmt.zip zpos).drop 105).all zcw = true := by rw [zdrop_all (zmt.zip zpos) 105 15 zcw, zl_CW_105, zl_CW_e120]; rfl
theorem zl_CW_e90 : ((zmt.zip zpos).drop 90).all zcw = true := by rw [zdrop_all (zmt.zip zpos) 90 15 zcw, zl_CW_90, zl_CW_e105]; rfl
theorem zl_CW_e75 : ((zmt.zip zpos).drop 75).all zcw = true := by rw [zdrop_all (zmt.zip zpos) 75 15 zcw, zl_CW_75, zl_CW_e90]; rfl
theorem zl_CW_e60 : ((zmt.zip zpos).drop 60).all zcw = true := by rw [zdrop_all (zmt.zip zpos) 60 15 zcw, zl_CW_60, zl_CW_e75]; rfl
theorem zl_CW_e45 : ((zmt.zip zpos).drop 45).all zcw = true := by rw [zdrop_all (zmt.zip zpos) 45 15 zcw, zl_CW_45, zl_CW_e60]; rfl
theorem zl_CW_e30 : ((zmt.zip zpos).drop 30).all zcw = true := by rw [zdrop_all (zmt.zip zpos) 30 15 zcw, zl_CW_30, zl_CW_e45]; rfl
theorem zl_CW_e15 : ((zmt.zip zpos).drop 15).all zcw = true := by rw [zdrop_all (zmt.zip zpos) 15 15 zcw, zl_CW_15, zl_CW_e30]; rfl
theorem zl_CW_e0 : ((zmt.zip zpos).drop 0).all zcw = true := by rw [zdrop_all (zmt.zip zpos) 0 15 zcw, zl_CW_0, zl_CW_e15]; rfl
theorem zl_CW : (zmt.zip zpos).all zcw = true := zl_CW_e0
set_option maxRecDepth 100000 in
theorem zl_len : zmt.length = 245 ∧ zpos.length = 245 ∧ zpl = zmt.map (fun q => q.2.2.1) := by decide +kernel
/-- every word of the tables is one that calls keep -/
def zgd (w : Jvm.Cond) : Bool := (w.onTables && w.keeps) || (match w with
  | .arrayClass _ => true
  | _ => false)
/-- the words that a call hands on -/
def zws0 : List Jvm.Cond := lw_tbl.filter zgd
theorem zws0_in {w : Jvm.Cond} (h : w ∈ zws0) : w ∈ lw_tbl ∧ ((w.onTables && w.keeps) = true ∨ ∃ ty, w = .arrayClass ty) := by
  obtain ⟨h1, h2⟩ := List.mem_filter.mp h
  refine ⟨h1, ?_⟩
  unfold zgd at h2
  rcases Bool.or_eq_true_iff.mp h2 with h3 | h3
  · exact Or.inl h3
  · split at h3
    · exact Or.inr ⟨_, rfl⟩
    · cases h3
theorem zws0_of {w : Jvm.Cond} (h : w ∈ lw_tbl) (hg : zgd w = true) : w ∈ zws0 := List.mem_filter.mpr ⟨h, hg⟩
theorem zws0_t {w : Jvm.Cond} (h : w ∈ tables_1) (hg : zgd w = true) : w ∈ zws0 := zws0_of (List.mem_append_right _ h) hg
/-- the classes -/
def zty (ci k : Nat) : FieldType := (parseFieldDescriptor (zTf ci k).2.2.1).getD .int
def ztk (ty : FieldType) : Nat := match ty with
  | .int => 0
  | .boolean => 1
  | .long => 2
  | .object _ => 3
  | .array _ => 3
  | _ => 9
def zcd (ci : Nat) : Bool := (List.range (znf ci)).all (fun k => decide (parseFieldDescriptor (zTf ci k).2.2.1 = some (zty ci k)) && Nat.beq (ztk (zty ci k)) (ztag ci k) && decide ((zTf ci k).1 = zon ci)
  && (List.range (znf ci)).all (fun j => Nat.beq k j || decide ((zTf ci k).2.1 ≠ (zTf ci j).2.1)))
set_option maxRecDepth 100000 in
theorem zl_CD : (List.range 11).all zcd = true := by decide +kernel
set_option maxRecDepth 100000 in
theorem zl_in_0 : ∀ w ∈ u_ws (zon 0) (zTf 0) (znf 0), w ∈ tables_1 := by decide +kernel
set_option maxRecDepth 100000 in
theorem zl_in_1 : ∀ w ∈ u_ws (zon 1) (zTf 1) (znf 1), w ∈ tables_1 := by decide +kernel
set_option maxRecDepth 100000 in
theorem zl_in_2 : ∀ w ∈ u_ws (zon 2) (zTf 2) (znf 2), w ∈ tables_1 := by decide +kernel
set_option maxRecDepth 100000 in
theorem zl_in_3 : ∀ w ∈ u_ws (zon 3) (zTf 3) (znf 3), w ∈ tables_1 := by decide +kernel
set_option maxRecDepth 100000 in
theorem zl_in_4 : ∀ w ∈ u_ws (zon 4) (zTf 4) (znf 4), w ∈ tables_1 := by decide +kernel
set_option maxRecDepth 100000 in
theorem zl_in_5 : ∀ w ∈ u_ws (zon 5) (zTf 5) (znf 5), w ∈ tables_1 := by decide +kernel
set_option maxRecDepth 100000 in
theorem zl_in_6 : ∀ w ∈ u_ws (zon 6) (zTf 6) (znf 6), w ∈ tables_1 := by decide +kernel
set_option maxRecDepth 100000 in
theorem zl_in_7 : ∀ w ∈ u_ws (zon 7) (zTf 7) (znf 7), w ∈ tables_1 := by decide +kernel
set_option maxRecDepth 100000 in
theorem zl_in_8 : ∀ w ∈ u_ws (zon 8) (zTf 8) (znf 8), w ∈ tables_1 := by decide +kernel
set_option maxRecDepth 100000 in
theorem zl_in_9 : ∀ w ∈ u_ws (zon 9) (zTf 9) (znf 9), w ∈ tables_1 := by decide +kernel
set_option maxRecDepth 100000 in
theorem zl_in_10 : ∀ w ∈ u_ws (zon 10) (zTf 10) (znf 10), w ∈ tables_1 := by decide +kernel
theorem zl_in (ci : Nat) (h : ci < 11) : ∀ w ∈ u_ws (zon ci) (zTf ci) (znf ci), w ∈ tables_1 := by
  match ci, h with
  | 0, _ => exact zl_in_0
  | 1, _ => exact zl_in_1
  | 2, _ => exact zl_in_2
  | 3, _ => exact zl_in_3
  | 4, _ => exact zl_in_4
  | 5, _ => exact zl_in_5
  | 6, _ => exact zl_in_6
  | 7, _ => exact zl_in_7
  | 8, _ => exact zl_in_8
  | 9, _ => exact zl_in_9
  | 10, _ => exact zl_in_10
theorem zl_cl (ci : Nat) (h : ci < 11) : zcl[ci]? = some (zon ci, zTf ci, znf ci) := by
  match ci, h with
  | 0, _ => rfl
  | 1, _ => rfl
  | 2, _ => rfl
  | 3, _ => rfl
  | 4, _ => rfl
  | 5, _ => rfl
  | 6, _ => rfl
  | 7, _ => rfl
  | 8, _ => rfl
  | 9, _ => rfl
  | 10, _ => rfl
def zallp : Nat → List zq → Prop
  | _, [] => True
  | k, q :: l => (zcode k).all (zchk k q) = true ∧ zallp (k + 1) l
theorem zallp_at : ∀ (l : List zq) (k j : Nat) (q : zq), zallp k l → l[j]? = some q → (zcode (k + j)).all (zchk (k + j) q) = true
  | [], _, _, _, _, h => by simp at h
  | a :: l, k, 0, q, hp, h => by
    simp only [List.getElem?_cons_zero, Option.some.injEq] at h
    subst h
    exact hp.1
  | a :: l, k, j + 1, q, hp, h => by
    have := zallp_at l (k + 1) j q hp.2 (by simpa using h)
    rwa [Nat.add_assoc, Nat.add_comm 1 j] at this
set_option maxRecDepth 100000 in
theorem zka_210 : zallp 210 (zmt.drop 210) := ⟨zk_210, zk_211, zk_212, zk_213, zk_214, zk_215, zk_216, zk_217, zk_218, zk_219, zk_220, zk_221, zk_222, zk_223, zk_224, zk_225, zk_226, zk_227, zk_228, zk_229, zk_230, zk_231, zk_232, zk_233, zk_234, zk_235, zk_236, zk_237, zk_238, zk_239, zk_240, zk_241, zk_242, zk_243, zk_244, trivial⟩
set_option maxRecDepth 100000 in
theorem zka_175 : zallp 175 (zmt.drop 175) := ⟨zk_175, zk_176, zk_177, zk_178, zk_179, zk_180, zk_181, zk_182, zk_183, zk_184, zk_185, zk_186, zk_187, zk_188, zk_189, zk_190, zk_191, zk_192, zk_193, zk_194, zk_195, zk_196, zk_197, zk_198, zk_199, zk_200, zk_201, zk_202, zk_203, zk_204, zk_205, zk_206, zk_207, zk_208, zk_209, zka_210⟩
set_option maxRecDepth 100000 in
theorem zka_140 : zallp 140 (zmt.drop 140) := ⟨zk_140, zk_141, zk_142, zk_143, zk_144, zk_145, zk_146, zk_147, zk_148, zk_149, zk_150, zk_151, zk_152, zk_153, zk_154, zk_155, zk_156, zk_157, zk_158, zk_159, zk_160, zk_161, zk_162, zk_163, zk_164, zk_165, zk_166, zk_167, zk_168, zk_169, zk_170, zk_171, zk_172, zk_173, zk_174, zka_175⟩
set_option maxRecDepth 100000 in
theorem zka_105 : zallp 105 (zmt.drop 105) := ⟨zk_105, zk_106, zk_107, zk_108, zk_109, zk_110, zk_111, zk_112, zk_113, zk_114, zk_115, zk_116, zk_117, zk_118, zk_119, zk_120, zk_121, zk_122, zk_123, zk_124, zk_125, zk_126, zk_127, zk_128, zk_129, zk_130, zk_131, zk_132, zk_133, zk_134, zk_135, zk_136, zk_137, zk_138, zk_139, zka_140⟩
set_option maxRecDepth 100000 in
theorem zka_70 : zallp 70 (zmt.drop 70) := ⟨zk_70, zk_71, zk_72, zk_73, zk_74, zk_75, zk_76, zk_77, zk_78, zk_79, zk_80, zk_81, zk_82, zk_83, zk_84, zk_85, zk_86, zk_87, zk_88, zk_89, zk_90, zk_91, zk_92, zk_93, zk_94, zk_95, zk_96, zk_97, zk_98, zk_99, zk_100, zk_101, zk_102, zk_103, zk_104, zka_105⟩
set_option maxRecDepth 100000 in
theorem zka_35 : zallp 35 (zmt.drop 35) := ⟨zk_35, zk_36, zk_37, zk_38, zk_39, zk_40, zk_41, zk_42, zk_43, zk_44, zk_45, zk_46, zk_47, zk_48, zk_49, zk_50, zk_51, zk_52, zk_53, zk_54, zk_55, zk_56, zk_57, zk_58, zk_59, zk_60, zk_61, zk_62, zk_63, zk_64, zk_65, zk_66, zk_67, zk_68, zk_69, zka_70⟩
set_option maxRecDepth 100000 in
theorem zka_0 : zallp 0 (zmt.drop 0) := ⟨zk_0, zk_1, zk_2, zk_3, zk_4, zk_5, zk_6, zk_7, zk_8, zk_9, zk_10, zk_11, zk_12, zk_13, zk_14, zk_15, zk_16, zk_17, zk_18, zk_19, zk_20, zk_21, zk_22, zk_23, zk_24, zk_25, zk_26, zk_27, zk_28, zk_29, zk_30, zk_31, zk_32, zk_33, zk_34, zka_35⟩
theorem zk_at (y : Nat) (q : zq) (h : zmt[y]? = some q) : (zcode y).all (zchk y q) = true := by
  have := zallp_at zmt 0 y q zka_0 h
  rwa [Nat.zero_add] at this
