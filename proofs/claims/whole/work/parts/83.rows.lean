/-! printed by wip/gen/gen_start.py: the cells when both are made -/
def zI0 : zM := c_Model_71 (zclr (c_Class_5 (zclr (fun _ _ => 0) 5)) 71)
def zJ0 : zG := e_Model_71 (zclg (e_Class_5 (zclg (fun _ _ => 0) 5)) 71)
theorem zI0_5 : zI0 5 = zrw [(4, 0)] := by
  unfold zI0
  rw [c_Model_71_o (by decide), zclr_row (by decide), c_Class_5_5, zclr_at]
  try rfl
theorem zI0_6 : zI0 6 = zrw [(5, 0), (2, 0), (1, 8)] := by
  unfold zI0
  rw [c_Model_71_o (by decide), zclr_row (by decide), c_Class_5_6]
  try rfl
theorem zI0_7 : zI0 7 = zrw [] := by
  unfold zI0
  rw [c_Model_71_o (by decide), zclr_row (by decide), c_Class_5_7]
theorem zI0_8 : zI0 8 = zrw [] := by
  unfold zI0
  rw [c_Model_71_o (by decide), zclr_row (by decide), c_Class_5_8]
theorem zI0_9 : zI0 9 = zrw [] := by
  unfold zI0
  rw [c_Model_71_o (by decide), zclr_row (by decide), c_Class_5_9]
theorem zI0_10 : zI0 10 = zrw [] := by
  unfold zI0
  rw [c_Model_71_o (by decide), zclr_row (by decide), c_Class_5_10]
theorem zI0_11 : zI0 11 = zrw [(1, 0), (0, 0)] := by
  unfold zI0
  rw [c_Model_71_o (by decide), zclr_row (by decide), c_Class_5_11]
  try rfl
theorem zI0_12 : zI0 12 = zrw [(7, (-1)), (6, (-1)), (5, (-1)), (4, (-1)), (3, (-1)), (2, (-1)), (1, (-1)), (0, (-1))] := by
  unfold zI0
  rw [c_Model_71_o (by decide), zclr_row (by decide), c_Class_5_12]
  try rfl
theorem zI0_13 : zI0 13 = zrw [(7, (-1)), (6, (-1)), (5, (-1)), (4, (-1)), (3, (-1)), (2, (-1)), (1, (-1)), (0, (-1))] := by
  unfold zI0
  rw [c_Model_71_o (by decide), zclr_row (by decide), c_Class_5_13]
  try rfl
theorem zI0_14 : zI0 14 = zrw [(7, (-1)), (6, (-1)), (5, (-1)), (4, (-1)), (3, (-1)), (2, (-1)), (1, (-1)), (0, (-1))] := by
  unfold zI0
  rw [c_Model_71_o (by decide), zclr_row (by decide), c_Class_5_14]
  try rfl
theorem zI0_15 : zI0 15 = zrw [(1, (-1)), (0, (-1))] := by
  unfold zI0
  rw [c_Model_71_o (by decide), zclr_row (by decide), c_Class_5_15]
  try rfl
theorem zI0_16 : zI0 16 = zrw [(1, (-1)), (0, (-1))] := by
  unfold zI0
  rw [c_Model_71_o (by decide), zclr_row (by decide), c_Class_5_16]
  try rfl
theorem zI0_17 : zI0 17 = zrw [] := by
  unfold zI0
  rw [c_Model_71_o (by decide), zclr_row (by decide), c_Class_5_17]
theorem zI0_18 : zI0 18 = zrw [(1, (-1)), (0, (-1))] := by
  unfold zI0
  rw [c_Model_71_o (by decide), zclr_row (by decide), c_Class_5_18]
  try rfl
theorem zI0_19 : zI0 19 = zrw [] := by
  unfold zI0
  rw [c_Model_71_o (by decide), zclr_row (by decide), c_Class_5_19]
theorem zI0_20 : zI0 20 = zrw [] := by
  unfold zI0
  rw [c_Model_71_o (by decide), zclr_row (by decide), c_Class_5_20]
theorem zI0_21 : zI0 21 = zrw [] := by
  unfold zI0
  rw [c_Model_71_o (by decide), zclr_row (by decide), c_Class_5_21]
theorem zI0_22 : zI0 22 = zrw [(1, 0), (0, 0)] := by
  unfold zI0
  rw [c_Model_71_o (by decide), zclr_row (by decide), c_Class_5_22]
  try rfl
theorem zI0_23 : zI0 23 = zrw [(7, (-1)), (6, (-1)), (5, (-1)), (4, (-1)), (3, (-1)), (2, (-1)), (1, (-1)), (0, (-1))] := by
  unfold zI0
  rw [c_Model_71_o (by decide), zclr_row (by decide), c_Class_5_23]
  try rfl
theorem zI0_24 : zI0 24 = zrw [(7, (-1)), (6, (-1)), (5, (-1)), (4, (-1)), (3, (-1)), (2, (-1)), (1, (-1)), (0, (-1))] := by
  unfold zI0
  rw [c_Model_71_o (by decide), zclr_row (by decide), c_Class_5_24]
  try rfl
theorem zI0_25 : zI0 25 = zrw [(7, (-1)), (6, (-1)), (5, (-1)), (4, (-1)), (3, (-1)), (2, (-1)), (1, (-1)), (0, (-1))] := by
  unfold zI0
  rw [c_Model_71_o (by decide), zclr_row (by decide), c_Class_5_25]
  try rfl
theorem zI0_26 : zI0 26 = zrw [(1, (-1)), (0, (-1))] := by
  unfold zI0
  rw [c_Model_71_o (by decide), zclr_row (by decide), c_Class_5_26]
  try rfl
theorem zI0_27 : zI0 27 = zrw [(1, (-1)), (0, (-1))] := by
  unfold zI0
  rw [c_Model_71_o (by decide), zclr_row (by decide), c_Class_5_27]
  try rfl
theorem zI0_28 : zI0 28 = zrw [] := by
  unfold zI0
  rw [c_Model_71_o (by decide), zclr_row (by decide), c_Class_5_28]
theorem zI0_29 : zI0 29 = zrw [(1, (-1)), (0, (-1))] := by
  unfold zI0
  rw [c_Model_71_o (by decide), zclr_row (by decide), c_Class_5_29]
  try rfl
theorem zI0_30 : zI0 30 = zrw [] := by
  unfold zI0
  rw [c_Model_71_o (by decide), zclr_row (by decide), c_Class_5_30]
theorem zI0_31 : zI0 31 = zrw [] := by
  unfold zI0
  rw [c_Model_71_o (by decide), zclr_row (by decide), c_Class_5_31]
theorem zI0_32 : zI0 32 = zrw [] := by
  unfold zI0
  rw [c_Model_71_o (by decide), zclr_row (by decide), c_Class_5_32]
theorem zI0_33 : zI0 33 = zrw [(1, 0), (0, 0)] := by
  unfold zI0
  rw [c_Model_71_o (by decide), zclr_row (by decide), c_Class_5_33]
  try rfl
theorem zI0_34 : zI0 34 = zrw [(7, (-1)), (6, (-1)), (5, (-1)), (4, (-1)), (3, (-1)), (2, (-1)), (1, (-1)), (0, (-1))] := by
  unfold zI0
  rw [c_Model_71_o (by decide), zclr_row (by decide), c_Class_5_34]
  try rfl
theorem zI0_35 : zI0 35 = zrw [(7, (-1)), (6, (-1)), (5, (-1)), (4, (-1)), (3, (-1)), (2, (-1)), (1, (-1)), (0, (-1))] := by
  unfold zI0
  rw [c_Model_71_o (by decide), zclr_row (by decide), c_Class_5_35]
  try rfl
theorem zI0_36 : zI0 36 = zrw [(7, (-1)), (6, (-1)), (5, (-1)), (4, (-1)), (3, (-1)), (2, (-1)), (1, (-1)), (0, (-1))] := by
  unfold zI0
  rw [c_Model_71_o (by decide), zclr_row (by decide), c_Class_5_36]
  try rfl
theorem zI0_37 : zI0 37 = zrw [(1, (-1)), (0, (-1))] := by
  unfold zI0
  rw [c_Model_71_o (by decide), zclr_row (by decide), c_Class_5_37]
  try rfl
theorem zI0_38 : zI0 38 = zrw [(1, (-1)), (0, (-1))] := by
  unfold zI0
  rw [c_Model_71_o (by decide), zclr_row (by decide), c_Class_5_38]
  try rfl
theorem zI0_39 : zI0 39 = zrw [] := by
  unfold zI0
  rw [c_Model_71_o (by decide), zclr_row (by decide), c_Class_5_39]
theorem zI0_40 : zI0 40 = zrw [(1, (-1)), (0, (-1))] := by
  unfold zI0
  rw [c_Model_71_o (by decide), zclr_row (by decide), c_Class_5_40]
  try rfl
theorem zI0_41 : zI0 41 = zrw [] := by
  unfold zI0
  rw [c_Model_71_o (by decide), zclr_row (by decide), c_Class_5_41]
theorem zI0_42 : zI0 42 = zrw [] := by
  unfold zI0
  rw [c_Model_71_o (by decide), zclr_row (by decide), c_Class_5_42]
theorem zI0_43 : zI0 43 = zrw [] := by
  unfold zI0
  rw [c_Model_71_o (by decide), zclr_row (by decide), c_Class_5_43]
theorem zI0_44 : zI0 44 = zrw [(4, 1), (2, 0)] := by
  unfold zI0
  rw [c_Model_71_o (by decide), zclr_row (by decide), c_Class_5_44]
  try rfl
theorem zI0_45 : zI0 45 = zrw [] := by
  unfold zI0
  rw [c_Model_71_o (by decide), zclr_row (by decide), c_Class_5_45]
theorem zI0_46 : zI0 46 = zrw [(8, 0), (7, 0), (2, 0), (1, 0)] := by
  unfold zI0
  rw [c_Model_71_o (by decide), zclr_row (by decide), c_Class_5_46]
  try rfl
theorem zI0_47 : zI0 47 = zrw [] := by
  unfold zI0
  rw [c_Model_71_o (by decide), zclr_row (by decide), c_Class_5_47]
theorem zI0_48 : zI0 48 = zrw [] := by
  unfold zI0
  rw [c_Model_71_o (by decide), zclr_row (by decide), c_Class_5_48]
theorem zI0_49 : zI0 49 = zrw [] := by
  unfold zI0
  rw [c_Model_71_o (by decide), zclr_row (by decide), c_Class_5_49]
theorem zI0_50 : zI0 50 = zrw [] := by
  unfold zI0
  rw [c_Model_71_o (by decide), zclr_row (by decide), c_Class_5_50]
theorem zI0_51 : zI0 51 = zrw [] := by
  unfold zI0
  rw [c_Model_71_o (by decide), zclr_row (by decide), c_Class_5_51]
theorem zI0_52 : zI0 52 = zrw [(3, (-1))] := by
  unfold zI0
  rw [c_Model_71_o (by decide), zclr_row (by decide), c_Class_5_52]
  try rfl
theorem zI0_53 : zI0 53 = zrw [(1, 0), (0, 0)] := by
  unfold zI0
  rw [c_Model_71_o (by decide), zclr_row (by decide), c_Class_5_53]
  try rfl
theorem zI0_54 : zI0 54 = zrw [] := by
  unfold zI0
  rw [c_Model_71_o (by decide), zclr_row (by decide), c_Class_5_54]
theorem zI0_55 : zI0 55 = zrw [] := by
  unfold zI0
  rw [c_Model_71_o (by decide), zclr_row (by decide), c_Class_5_55]
theorem zI0_56 : zI0 56 = zrw [] := by
  unfold zI0
  rw [c_Model_71_o (by decide), zclr_row (by decide), c_Class_5_56]
theorem zI0_57 : zI0 57 = zrw [] := by
  unfold zI0
  rw [c_Model_71_o (by decide), zclr_row (by decide), c_Class_5_57]
theorem zI0_58 : zI0 58 = zrw [] := by
  unfold zI0
  rw [c_Model_71_o (by decide), zclr_row (by decide), c_Class_5_58]
theorem zI0_59 : zI0 59 = zrw [] := by
  unfold zI0
  rw [c_Model_71_o (by decide), zclr_row (by decide), c_Class_5_59]
theorem zI0_60 : zI0 60 = zrw [(12, 0), (11, 0), (10, 0), (9, 0), (8, 0), (7, 0), (6, 0), (5, 0)] := by
  unfold zI0
  rw [c_Model_71_o (by decide), zclr_row (by decide), c_Class_5_60]
  try rfl
theorem zI0_61 : zI0 61 = zrw [] := by
  unfold zI0
  rw [c_Model_71_o (by decide), zclr_row (by decide), c_Class_5_61]
theorem zI0_62 : zI0 62 = zrw [] := by
  unfold zI0
  rw [c_Model_71_o (by decide), zclr_row (by decide), c_Class_5_62]
theorem zI0_63 : zI0 63 = zrw [] := by
  unfold zI0
  rw [c_Model_71_o (by decide), zclr_row (by decide), c_Class_5_63]
theorem zI0_64 : zI0 64 = zrw [(11, 0), (10, 0), (9, 0), (8, 0), (5, (-1)), (4, 0)] := by
  unfold zI0
  rw [c_Model_71_o (by decide), zclr_row (by decide), c_Class_5_64]
  try rfl
theorem zI0_65 : zI0 65 = zrw [] := by
  unfold zI0
  rw [c_Model_71_o (by decide), zclr_row (by decide), c_Class_5_65]
theorem zI0_66 : zI0 66 = zrw [] := by
  unfold zI0
  rw [c_Model_71_o (by decide), zclr_row (by decide), c_Class_5_66]
theorem zI0_67 : zI0 67 = zrw [] := by
  unfold zI0
  rw [c_Model_71_o (by decide), zclr_row (by decide), c_Class_5_67]
theorem zI0_68 : zI0 68 = zrw [(3, (-1)), (2, (-1)), (1, (-1)), (0, (-1))] := by
  unfold zI0
  rw [c_Model_71_o (by decide), zclr_row (by decide), c_Class_5_68]
  try rfl
theorem zI0_69 : zI0 69 = zrw [] := by
  unfold zI0
  rw [c_Model_71_o (by decide), zclr_row (by decide), c_Class_5_69]
theorem zI0_70 : zI0 70 = zrw [] := by
  unfold zI0
  rw [c_Model_71_o (by decide), zclr_row (by decide), c_Class_5_70]
theorem zI0_71 : zI0 71 = zrw [(11, 8)] := by
  unfold zI0
  rw [c_Model_71_71, zclr_at]
  try rfl
theorem zI0_72 : zI0 72 = zrw [(35, (-1)), (31, (-1)), (29, (-1)), (34, (-1)), (30, (-1)), (28, (-1)), (23, (-1)), (22, (-1)), (21, (-1)), (20, (-1)), (19, (-1)), (18, (-1)), (17, (-1)), (16, (-1)), (15, (-1)), (14, (-1)), (13, (-1)), (12, (-1)), (11, (-1)), (10, (-1)), (9, (-1)), (8, (-1)), (7, (-1)), (6, (-1)), (5, (-1)), (4, (-1)), (3, (-1)), (2, (-1)), (1, (-1)), (0, (-1))] := by
  unfold zI0
  rw [c_Model_71_72]
  try rfl
theorem zI0_73 : zI0 73 = zrw [] := by
  unfold zI0
  rw [c_Model_71_73]
theorem zI0_74 : zI0 74 = zrw [] := by
  unfold zI0
  rw [c_Model_71_74]
theorem zI0_75 : zI0 75 = zrw [] := by
  unfold zI0
  rw [c_Model_71_75]
theorem zI0_76 : zI0 76 = zrw [] := by
  unfold zI0
  rw [c_Model_71_76]
theorem zI0_77 : zI0 77 = zrw [] := by
  unfold zI0
  rw [c_Model_71_77]
theorem zI0_78 : zI0 78 = zrw [] := by
  unfold zI0
  rw [c_Model_71_78]
theorem zI0_79 : zI0 79 = zrw [] := by
  unfold zI0
  rw [c_Model_71_79]
theorem zI0_80 : zI0 80 = zrw [] := by
  unfold zI0
  rw [c_Model_71_80]
theorem zI0_81 : zI0 81 = zrw [] := by
  unfold zI0
  rw [c_Model_71_81]
theorem zI0_82 : zI0 82 = zrw [] := by
  unfold zI0
  rw [c_Model_71_82]
theorem zI0_83 : zI0 83 = zrw [] := by
  unfold zI0
  rw [c_Model_71_83]
theorem zI0_84 : zI0 84 = zrw [] := by
  unfold zI0
  rw [c_Model_71_84]
theorem zI0_85 : zI0 85 = zrw [] := by
  unfold zI0
  rw [c_Model_71_85]
theorem zI0_86 : zI0 86 = zrw [] := by
  unfold zI0
  rw [c_Model_71_86]
theorem zI0_87 : zI0 87 = zrw [] := by
  unfold zI0
  rw [c_Model_71_87]
theorem zI0_88 : zI0 88 = zrw [] := by
  unfold zI0
  rw [c_Model_71_88]
theorem zI0_89 : zI0 89 = zrw [] := by
  unfold zI0
  rw [c_Model_71_89]
theorem zI0_90 : zI0 90 = zrw [] := by
  unfold zI0
  rw [c_Model_71_90]
theorem zI0_91 : zI0 91 = zrw [] := by
  unfold zI0
  rw [c_Model_71_91]
theorem zI0_92 : zI0 92 = zrw [] := by
  unfold zI0
  rw [c_Model_71_92]
theorem zI0_93 : zI0 93 = zrw [] := by
  unfold zI0
  rw [c_Model_71_93]
theorem zI0_94 : zI0 94 = zrw [] := by
  unfold zI0
  rw [c_Model_71_94]
theorem zI0_95 : zI0 95 = zrw [] := by
  unfold zI0
  rw [c_Model_71_95]
theorem zI0_96 : zI0 96 = zrw [(3, (-1)), (2, (-1)), (1, (-1)), (0, (-1))] := by
  unfold zI0
  rw [c_Model_71_96]
  try rfl
theorem zI0_97 : zI0 97 = zrw [] := by
  unfold zI0
  rw [c_Model_71_97]
theorem zI0_98 : zI0 98 = zrw [] := by
  unfold zI0
  rw [c_Model_71_98]
theorem zI0_99 : zI0 99 = zrw [] := by
  unfold zI0
  rw [c_Model_71_99]
theorem zI0_100 : zI0 100 = zrw [] := by
  unfold zI0
  rw [c_Model_71_100]
theorem zclg_0 {k : Nat} : zclg (fun _ _ => (BitVec.ofNat 64 0)) k = fun _ _ => (BitVec.ofNat 64 0) := by
  funext a b
  unfold zclg
  split <;> rfl
theorem zug_0 {k j : Nat} : zug (fun _ _ => (BitVec.ofNat 64 0)) k j (BitVec.ofNat 64 0) = fun _ _ => (BitVec.ofNat 64 0) := by
  funext a b
  unfold zug
  split <;> rfl
theorem e_Room_6_0 : e_Room_6 (fun _ _ => (BitVec.ofNat 64 0)) = fun _ _ => (BitVec.ofNat 64 0) := by
  unfold e_Room_6
  simp only [zclg_0, zug_0]
theorem e_Scene_11_0 : e_Scene_11 (fun _ _ => (BitVec.ofNat 64 0)) = fun _ _ => (BitVec.ofNat 64 0) := by
  unfold e_Scene_11
  simp only [zclg_0, zug_0]
theorem e_Scene_22_0 : e_Scene_22 (fun _ _ => (BitVec.ofNat 64 0)) = fun _ _ => (BitVec.ofNat 64 0) := by
  unfold e_Scene_22
  simp only [zclg_0, zug_0]
theorem e_Scene_33_0 : e_Scene_33 (fun _ _ => (BitVec.ofNat 64 0)) = fun _ _ => (BitVec.ofNat 64 0) := by
  unfold e_Scene_33
  simp only [zclg_0, zug_0]
theorem e_Ways_44_0 : e_Ways_44 (fun _ _ => (BitVec.ofNat 64 0)) = fun _ _ => (BitVec.ofNat 64 0) := by
  unfold e_Ways_44
  simp only [zclg_0, zug_0]
theorem e_Tape_46_0 : e_Tape_46 (fun _ _ => (BitVec.ofNat 64 0)) = fun _ _ => (BitVec.ofNat 64 0) := by
  unfold e_Tape_46
  simp only [zclg_0, zug_0]
theorem e_Acts_52_0 : e_Acts_52 (fun _ _ => (BitVec.ofNat 64 0)) = fun _ _ => (BitVec.ofNat 64 0) := by
  unfold e_Acts_52
  simp only [zclg_0, zug_0]
theorem e_Rules_53_0 : e_Rules_53 (fun _ _ => (BitVec.ofNat 64 0)) = fun _ _ => (BitVec.ofNat 64 0) := by
  unfold e_Rules_53
  simp only [zclg_0, zug_0]
theorem e_Planner_60_0 : e_Planner_60 (fun _ _ => (BitVec.ofNat 64 0)) = fun _ _ => (BitVec.ofNat 64 0) := by
  unfold e_Planner_60
  simp only [zclg_0, zug_0]
theorem e_Chances_64_0 : e_Chances_64 (fun _ _ => (BitVec.ofNat 64 0)) = fun _ _ => (BitVec.ofNat 64 0) := by
  unfold e_Chances_64
  simp only [zclg_0, zug_0]
theorem e_Sheets_67_0 : e_Sheets_67 (fun _ _ => (BitVec.ofNat 64 0)) = fun _ _ => (BitVec.ofNat 64 0) := by
  unfold e_Sheets_67
  simp only [zclg_0, zug_0]
theorem e_Class_5_0 : e_Class_5 (fun _ _ => (BitVec.ofNat 64 0)) = fun _ _ => (BitVec.ofNat 64 0) := by
  unfold e_Class_5
  simp only [zclg_0, zug_0, e_Room_6_0, e_Scene_11_0, e_Scene_22_0, e_Scene_33_0, e_Ways_44_0, e_Tape_46_0, e_Acts_52_0, e_Rules_53_0, e_Planner_60_0, e_Chances_64_0, e_Sheets_67_0]
theorem e_Model_71_0 : e_Model_71 (fun _ _ => (BitVec.ofNat 64 0)) = fun _ _ => (BitVec.ofNat 64 0) := by
  unfold e_Model_71
  simp only [zclg_0, zug_0]
theorem zJ0_0 : zJ0 = fun _ _ => (BitVec.ofNat 64 0) := by
  unfold zJ0
  show e_Model_71 (zclg (e_Class_5 (zclg (fun _ _ => (BitVec.ofNat 64 0)) 5)) 71) = _
  rw [zclg_0, e_Class_5_0, zclg_0, e_Model_71_0]
set_option maxRecDepth 20000 in
/-- the law's start: both are made -/
theorem g_W_0 {d L : Nat} {xs : Nat → Int} (hd : 2 ≤ d) : zle (zev (zX 1 L xs) d (242, 18, [zR 1, zR 5, zR 71, zI 0], [], zI0, zJ0, zsg)) (zev (zX 1 L xs) d (242, 0, [zR 1, zR 0, zR 0, zR 0], [], (fun _ _ => 0), (fun _ _ => 0), [])) := by
  refine zle_many 2 (242, 4, [zR 1, zR 0, zR 0, zR 0], [zR 5, zR 5], zclr (fun _ _ => 0) 5, zclg (fun _ _ => 0) 5, zs_0) rfl ?_
  refine zle_VS rfl (i_Class_5 (by omega)) ?_
  refine zle_many 3 (242, 12, [zR 1, zR 5, zR 0, zR 0], [zR 71, zR 71], zclr (c_Class_5 (zclr (fun _ _ => 0) 5)) 71, zclg (e_Class_5 (zclg (fun _ _ => 0) 5)) 71, zs_54) rfl ?_
  refine zle_VS rfl (i_Model_71 (by omega)) ?_
  refine zle_many 3 (242, 18, [zR 1, zR 5, zR 71, zI 0], [], zI0, zJ0, zsg) rfl ?_
  exact zle_rfl
