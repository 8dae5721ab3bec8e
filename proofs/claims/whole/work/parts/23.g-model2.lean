/-! printed by wip/gen/gen_all.py: what each method does from its entry and from each loop's head (a tree of tests, calls and ends), and that the code does so -/
set_option maxRecDepth 20000 in
theorem g_M_handTold {d : Nat} {F : zM} {G : zG} (a1 : Int) (a2 : Int) : zle (
  zbI (zex d 52 [zI a1] (F, G, zsg)) (fun v1 F1 G1 =>
  if v1 = 0 then
    some (some (zI (-5)), F1, G1, zsg)
  else
    if a2 = 5 then
      if 0 ≤ (zadd 40 a1) ∧ (zadd 40 a1) < 43 then
        some (some (zI (F1 72 (Int.toNat (zadd 40 a1)))), F1, G1, zsg)
      else none
    else
      zbI (zex d 49 [zI a2, zI 0, zI 4] (F1, G1, zsg)) (fun v2 F2 G2 =>
        if v2 = 0 then
          some (some (zI (-7)), F2, G2, zsg)
        else
          if 0 ≤ (zadd (zadd 28 (zmul 2 a2)) a1) ∧ (zadd (zadd 28 (zmul 2 a2)) a1) < 43 then
            some (some (zI (F2 72 (Int.toNat (zadd (zadd 28 (zmul 2 a2)) a1)))), F2, G2, zsg)
          else none))) (zex (d + 1) 94 [zR 71, zI a1, zI a2] (F, G, zsg)) := by
  refine zle_ent (ls := [zR 71, zI a1, zI a2]) ?_
  refine zle_many 1 (94, 1, [zR 71, zI a1, zI a2], [zI a1], F, G, zsg) rfl ?_
  refine zle_I rfl (fun v1 F1 G1 => ?_)
  refine zle_many 1 (94, (bif zcmp .ne v1 0 then 10 else 7), [zR 71, zI a1, zI a2], [], F1, G1, zsg) rfl ?_
  refine zle_ne (fun _ => ?_) (fun _ => ?_)
  · refine zle_many 1 (94, 9, [zR 71, zI a1, zI a2], [zI (-5)], F1, G1, zsg) rfl ?_
    exact zle_ret rfl
  · refine zle_many 3 (94, (bif zcmp .ne a2 5 then 27 else 15), [zR 71, zI a1, zI a2], [], F1, G1, zsg) rfl ?_
    refine zle_ne (fun _ => ?_) (fun _ => ?_)
    · refine zle_many 5 (94, 23, [zR 71, zI a1, zI a2], [zI (zadd 40 a1), zR 72], F1, G1, zsg) rfl ?_
      refine zle_ald rfl rfl rfl (fun _ => ?_)
      refine zle_many 1 (94, 54, [zR 71, zI a1, zI a2], [zI (F1 72 (Int.toNat (zadd 40 a1)))], F1, G1, zsg) rfl ?_
      exact zle_ret rfl
    · refine zle_many 3 (94, 30, [zR 71, zI a1, zI a2], [zI 4, zI 0, zI a2], F1, G1, zsg) rfl ?_
      refine zle_I rfl (fun v2 F2 G2 => ?_)
      refine zle_many 1 (94, (bif zcmp .eq v2 0 then 52 else 36), [zR 71, zI a1, zI a2], [], F2, G2, zsg) rfl ?_
      refine zle_eq (fun _ => ?_) (fun _ => ?_)
      · refine zle_many 1 (94, 54, [zR 71, zI a1, zI a2], [zI (-7)], F2, G2, zsg) rfl ?_
        exact zle_ret rfl
      · refine zle_many 9 (94, 48, [zR 71, zI a1, zI a2], [zI (zadd (zadd 28 (zmul 2 a2)) a1), zR 72], F2, G2, zsg) rfl ?_
        refine zle_ald rfl rfl rfl (fun _ => ?_)
        refine zle_many 1 (94, 54, [zR 71, zI a1, zI a2], [zI (F2 72 (Int.toNat (zadd (zadd 28 (zmul 2 a2)) a1)))], F2, G2, zsg) rfl ?_
        exact zle_ret rfl
set_option maxRecDepth 20000 in
theorem g_M_cellTold {d : Nat} {F : zM} {G : zG} (a1 : Int) : zle (
  zbI (zex d 50 [zI a1] (F, G, zsg)) (fun v1 F1 G1 =>
  if v1 = 0 then
    some (some (zI (-5)), F1, G1, zsg)
  else
    if 0 ≤ a1 ∧ a1 < 64 then
      if (F1 75 (Int.toNat a1)) = 0 then
        zbI (zex d 58 [zR 71, zI a1] (F1, G1, zsg)) (fun v2 F2 G2 =>
          if v2 = 0 then
            if (F2 72 28) = a1 then
              some (some (zI 100), F2, G2, zsg)
            else
              if (F2 72 29) = a1 then
                some (some (zI 101), F2, G2, zsg)
              else
                zbI (zex d 59 [zR 71, zI a1, zI (-1)] (F2, G2, zsg)) (fun v3 F3 G3 =>
                  some (some (zI v3), F3, G3, zsg))
          else
            some (some (zI (-11)), F2, G2, zsg))
      else
        some (some (zI (-10)), F1, G1, zsg)
    else none)) (zex (d + 1) 95 [zR 71, zI a1] (F, G, zsg)) := by
  refine zle_ent (ls := [zR 71, zI a1]) ?_
  refine zle_many 1 (95, 1, [zR 71, zI a1], [zI a1], F, G, zsg) rfl ?_
  refine zle_I rfl (fun v1 F1 G1 => ?_)
  refine zle_many 1 (95, (bif zcmp .ne v1 0 then 10 else 7), [zR 71, zI a1], [], F1, G1, zsg) rfl ?_
  refine zle_ne (fun _ => ?_) (fun _ => ?_)
  · refine zle_many 1 (95, 9, [zR 71, zI a1], [zI (-5)], F1, G1, zsg) rfl ?_
    exact zle_ret rfl
  · refine zle_many 3 (95, 15, [zR 71, zI a1], [zI a1, zR 75], F1, G1, zsg) rfl ?_
    refine zle_bld rfl rfl rfl (fun _ => ?_)
    refine zle_many 1 (95, (bif zcmp .eq (F1 75 (Int.toNat a1)) 0 then 22 else 19), [zR 71, zI a1], [], F1, G1, zsg) rfl ?_
    refine zle_eq (fun _ => ?_) (fun _ => ?_)
    · refine zle_many 2 (95, 24, [zR 71, zI a1], [zI a1, zR 71], F1, G1, zsg) rfl ?_
      refine zle_I rfl (fun v2 F2 G2 => ?_)
      refine zle_many 1 (95, (bif zcmp .eq v2 0 then 33 else 30), [zR 71, zI a1], [], F2, G2, zsg) rfl ?_
      refine zle_eq (fun _ => ?_) (fun _ => ?_)
      · refine zle_many 6 (95, (bif zcmp .ne (F2 72 28) a1 then 49 else 44), [zR 71, zI a1], [], F2, G2, zsg) rfl ?_
        refine zle_ne (fun _ => ?_) (fun _ => ?_)
        · refine zle_many 2 (95, 71, [zR 71, zI a1], [zI 100], F2, G2, zsg) rfl ?_
          exact zle_ret rfl
        · refine zle_many 6 (95, (bif zcmp .ne (F2 72 29) a1 then 65 else 60), [zR 71, zI a1], [], F2, G2, zsg) rfl ?_
          refine zle_ne (fun _ => ?_) (fun _ => ?_)
          · refine zle_many 2 (95, 71, [zR 71, zI a1], [zI 101], F2, G2, zsg) rfl ?_
            exact zle_ret rfl
          · refine zle_many 3 (95, 68, [zR 71, zI a1], [zI (-1), zI a1, zR 71], F2, G2, zsg) rfl ?_
            refine zle_I rfl (fun v3 F3 G3 => ?_)
            exact zle_ret rfl
      · refine zle_many 1 (95, 32, [zR 71, zI a1], [zI (-11)], F2, G2, zsg) rfl ?_
        exact zle_ret rfl
    · refine zle_many 1 (95, 21, [zR 71, zI a1], [zI (-10)], F1, G1, zsg) rfl ?_
      exact zle_ret rfl
set_option maxRecDepth 20000 in
theorem g_M_isOpen {d : Nat} {F : zM} {G : zG} (a1 : Int) : zle (
  zbI (zex d 49 [zI a1, zI 0, zI (zsub (F 71 5) 1)] (F, G, zsg)) (fun v1 F1 G1 =>
  if v1 = 0 then
    some (some (zI (-1)), F1, G1, zsg)
  else
    if 0 ≤ (zadd 24 a1) ∧ (zadd 24 a1) < 43 then
      some (some (zI (F1 72 (Int.toNat (zadd 24 a1)))), F1, G1, zsg)
    else none)) (zex (d + 1) 96 [zR 71, zI a1] (F, G, zsg)) := by
  refine zle_ent (ls := [zR 71, zI a1]) ?_
  refine zle_many 6 (96, 8, [zR 71, zI a1], [zI (zsub (F 71 5) 1), zI 0, zI a1], F, G, zsg) rfl ?_
  refine zle_I rfl (fun v1 F1 G1 => ?_)
  refine zle_many 1 (96, (bif zcmp .eq v1 0 then 26 else 14), [zR 71, zI a1], [], F1, G1, zsg) rfl ?_
  refine zle_eq (fun _ => ?_) (fun _ => ?_)
  · refine zle_many 1 (96, 27, [zR 71, zI a1], [zI (-1)], F1, G1, zsg) rfl ?_
    exact zle_ret rfl
  · refine zle_many 5 (96, 22, [zR 71, zI a1], [zI (zadd 24 a1), zR 72], F1, G1, zsg) rfl ?_
    refine zle_ald rfl rfl rfl (fun _ => ?_)
    refine zle_many 1 (96, 27, [zR 71, zI a1], [zI (F1 72 (Int.toNat (zadd 24 a1)))], F1, G1, zsg) rfl ?_
    exact zle_ret rfl
set_option maxRecDepth 20000 in
theorem g_M_count {d : Nat} {F : zM} {G : zG} (a1 : Int) : zle (
  if a1 = 0 then
  some (some (zI (F 72 42)), F, G, zsg)
else
if a1 = 1 then
  some (some (zI (F 71 8)), F, G, zsg)
else
if a1 = 2 then
  some (some (zI (F 71 5)), F, G, zsg)
else
if a1 = 3 then
  some (some (zI (F 71 12)), F, G, zsg)
else
if a1 = 4 then
  some (some (zI (F 71 18)), F, G, zsg)
else
if a1 = 5 then
  some (some (zI (F 71 11)), F, G, zsg)
else
if a1 = 6 then
  some (some (zI (F 71 33)), F, G, zsg)
else
if a1 = 7 then
  some (some (zI (F 71 24)), F, G, zsg)
else
some (some (zI (-2)), F, G, zsg)) (zex (d + 1) 97 [zR 71, zI a1] (F, G, zsg)) := by
  refine zle_ent (ls := [zR 71, zI a1]) ?_
  refine zle_many 2 (97, zsw a1 [(0, 48), (1, 56), (2, 61), (3, 66), (4, 71), (5, 76), (6, 81), (7, 86)] 91, [zR 71, zI a1], [], F, G, zsg) rfl ?_
  refine zle_sw (fun _ => ?_) (fun _ => ?_)
  · refine zle_many 4 (97, 55, [zR 71, zI a1], [zI (F 72 42)], F, G, zsg) rfl ?_
    exact zle_ret rfl
  · refine zle_sw (fun _ => ?_) (fun _ => ?_)
    · refine zle_many 2 (97, 60, [zR 71, zI a1], [zI (F 71 8)], F, G, zsg) rfl ?_
      exact zle_ret rfl
    · refine zle_sw (fun _ => ?_) (fun _ => ?_)
      · refine zle_many 2 (97, 65, [zR 71, zI a1], [zI (F 71 5)], F, G, zsg) rfl ?_
        exact zle_ret rfl
      · refine zle_sw (fun _ => ?_) (fun _ => ?_)
        · refine zle_many 2 (97, 70, [zR 71, zI a1], [zI (F 71 12)], F, G, zsg) rfl ?_
          exact zle_ret rfl
        · refine zle_sw (fun _ => ?_) (fun _ => ?_)
          · refine zle_many 2 (97, 75, [zR 71, zI a1], [zI (F 71 18)], F, G, zsg) rfl ?_
            exact zle_ret rfl
          · refine zle_sw (fun _ => ?_) (fun _ => ?_)
            · refine zle_many 2 (97, 80, [zR 71, zI a1], [zI (F 71 11)], F, G, zsg) rfl ?_
              exact zle_ret rfl
            · refine zle_sw (fun _ => ?_) (fun _ => ?_)
              · refine zle_many 2 (97, 85, [zR 71, zI a1], [zI (F 71 33)], F, G, zsg) rfl ?_
                exact zle_ret rfl
              · refine zle_sw (fun _ => ?_) (fun _ => ?_)
                · refine zle_many 2 (97, 90, [zR 71, zI a1], [zI (F 71 24)], F, G, zsg) rfl ?_
                  exact zle_ret rfl
                · refine zle_many 1 (97, 93, [zR 71, zI a1], [zI (-2)], F, G, zsg) rfl ?_
                  exact zle_ret rfl
set_option maxRecDepth 20000 in
theorem g_M_feed {d : Nat} {F : zM} {G : zG} (a1 : BitVec 64) (a2 : Int) : zle (
  zbI (zex d 49 [zI a2, zI 1, zI 8] (F, G, zsg)) (fun v1 F1 G1 =>
  if v1 = 0 then
    some (some (zI (-2)), F1, G1, zsg)
  else
    if 120 < (zadd (F1 71 18) a2) then
      some (some (zI (-4)), F1, G1, zsg)
    else
      zev zX0 d (98, 32, [zR 71, zL a1, zR 0, zI a2, zI (zsub a2 1)], [], F1, G1, zsg))) (zex (d + 1) 98 [zR 71, zL a1, zI a2] (F, G, zsg)) := by
  refine zle_ent (ls := [zR 71, zL a1, zR 0, zI a2, zR 0]) ?_
  refine zle_many 3 (98, 4, [zR 71, zL a1, zR 0, zI a2, zR 0], [zI 8, zI 1, zI a2], F, G, zsg) rfl ?_
  refine zle_I rfl (fun v1 F1 G1 => ?_)
  refine zle_many 1 (98, (bif zcmp .ne v1 0 then 13 else 10), [zR 71, zL a1, zR 0, zI a2, zR 0], [], F1, G1, zsg) rfl ?_
  refine zle_ne (fun _ => ?_) (fun _ => ?_)
  · refine zle_many 1 (98, 12, [zR 71, zL a1, zR 0, zI a2, zR 0], [zI (-2)], F1, G1, zsg) rfl ?_
    exact zle_ret rfl
  · refine zle_many 6 (98, (bif zcmp .le (zadd (F1 71 18) a2) 120 then 27 else 24), [zR 71, zL a1, zR 0, zI a2, zR 0], [], F1, G1, zsg) rfl ?_
    refine zle_le (fun _ => ?_) (fun _ => ?_)
    · refine zle_many 1 (98, 26, [zR 71, zL a1, zR 0, zI a2, zR 0], [zI (-4)], F1, G1, zsg) rfl ?_
      exact zle_ret rfl
    · refine zle_many 4 (98, 32, [zR 71, zL a1, zR 0, zI a2, zI (zsub a2 1)], [], F1, G1, zsg) rfl ?_
      exact zle_rfl
set_option maxRecDepth 20000 in
theorem g_M_feed_32 {d : Nat} {F : zM} {G : zG} (l1 : BitVec 64) (l3 : Int) (l4 : Int) : zle (
  if l4 < 0 then
  some (some (zI (F 71 18)), F, G, zsg)
else
  if 0 ≤ (F 71 18) ∧ (F 71 18) < 120 then
    zev zX0 d (98, 32, [zR 71, zL l1, zR 0, zI l3, zI (zadd l4 (-1))], [], (zup (zup F 84 (Int.toNat (F 71 18)) (zl2i (zland (zlshr l1 (zmul 8 l4)) (BitVec.ofInt 64 (255))))) 71 18 (zadd (F 71 18) 1)), G, zsg)
  else none) (zev zX0 d (98, 32, [zR 71, zL l1, zR 0, zI l3, zI l4], [], F, G, zsg)) := by
  refine zle_many 2 (98, (bif zcmp .lt l4 0 then 74 else 37), [zR 71, zL l1, zR 0, zI l3, zI l4], [], F, G, zsg) rfl ?_
  refine zle_lt (fun _ => ?_) (fun _ => ?_)
  · refine zle_many 2 (98, 78, [zR 71, zL l1, zR 0, zI l3, zI l4], [zI (F 71 18)], F, G, zsg) rfl ?_
    exact zle_ret rfl
  · refine zle_many 12 (98, 57, [zR 71, zL l1, zR 0, zI l3, zI l4], [zI (zl2i (zland (zlshr l1 (zmul 8 l4)) (BitVec.ofInt 64 (255)))), zI (F 71 18), zR 84], F, G, zsg) rfl ?_
    refine zle_ast rfl rfl rfl (fun _ => ?_)
    refine zle_many 8 (98, 32, [zR 71, zL l1, zR 0, zI l3, zI (zadd l4 (-1))], [], (zup (zup F 84 (Int.toNat (F 71 18)) (zl2i (zland (zlshr l1 (zmul 8 l4)) (BitVec.ofInt 64 (255))))) 71 18 (zadd (F 71 18) 1)), G, zsg) rfl ?_
    exact zle_rfl
set_option maxRecDepth 20000 in
theorem g_M_here {d : Nat} {F : zM} {G : zG}  : zle (
  if (F 71 42) < (F 71 18) then
  if 0 ≤ (F 71 42) ∧ (F 71 42) < 120 then
    some (some (zI (F 84 (Int.toNat (F 71 42)))), F, G, zsg)
  else none
else
  some (some (zI (-1)), F, G, zsg)) (zex (d + 1) 99 [zR 71] (F, G, zsg)) := by
  refine zle_ent (ls := [zR 71]) ?_
  refine zle_many 5 (99, (bif zcmp .ge (F 71 42) (F 71 18) then 23 else 11), [zR 71], [], F, G, zsg) rfl ?_
  refine zle_ge (fun _ => ?_) (fun _ => ?_)
  · refine zle_many 4 (99, 19, [zR 71], [zI (F 71 42), zR 84], F, G, zsg) rfl ?_
    refine zle_ald rfl rfl rfl (fun _ => ?_)
    refine zle_many 1 (99, 24, [zR 71], [zI (F 84 (Int.toNat (F 71 42)))], F, G, zsg) rfl ?_
    exact zle_ret rfl
  · refine zle_many 1 (99, 24, [zR 71], [zI (-1)], F, G, zsg) rfl ?_
    exact zle_ret rfl
set_option maxRecDepth 20000 in
theorem g_M_number {d : Nat} {F : zM} {G : zG} (a1 : Int) : zle (
  zev zX0 d (100, 4, [zR 71, zI a1, zI 0, zI 0], [], F, G, zsg)) (zex (d + 1) 100 [zR 71, zI a1] (F, G, zsg)) := by
  refine zle_ent (ls := [zR 71, zI a1, zR 0, zR 0]) ?_
  refine zle_many 4 (100, 4, [zR 71, zI a1, zI 0, zI 0], [], F, G, zsg) rfl ?_
  exact zle_rfl
set_option maxRecDepth 20000 in
theorem g_M_number_4 {d : Nat} {F : zM} {G : zG} (l1 : Int) (l2 : Int) (l3 : Int) : zle (
  if l3 < 2 then
  zbI (zex d 99 [zR 71] (F, G, zsg)) (fun v1 F1 G1 =>
    zbI (zex d 49 [zI v1, zI 48, zI 57] (F1, G1, zsg)) (fun v2 F2 G2 =>
      if v2 = 0 then
        if l3 = 0 then
          some (some (zI (-1)), F2, G2, zsg)
        else
          some (some (zI l2), F2, G2, zsg)
      else
        zbI (zex d 99 [zR 71] (F2, G2, zsg)) (fun v3 F3 G3 =>
          if l1 < (zsub (zadd (zmul 10 l2) v3) 48) then
            if l3 = 0 then
              some (some (zI (-1)), F3, G3, zsg)
            else
              some (some (zI l2), F3, G3, zsg)
          else
            zbI (zex d 99 [zR 71] (F3, G3, zsg)) (fun v4 F4 G4 =>
              zev zX0 d (100, 4, [zR 71, zI l1, zI (zsub (zadd (zmul 10 l2) v4) 48), zI (zadd l3 1)], [], (zup F4 71 42 (zadd (F4 71 42) 1)), G4, zsg)))))
else
  if l3 = 0 then
    some (some (zI (-1)), F, G, zsg)
  else
    some (some (zI l2), F, G, zsg)) (zev zX0 d (100, 4, [zR 71, zI l1, zI l2, zI l3], [], F, G, zsg)) := by
  refine zle_many 3 (100, (bif zcmp .ge l3 2 then 68 else 9), [zR 71, zI l1, zI l2, zI l3], [], F, G, zsg) rfl ?_
  refine zle_ge (fun _ => ?_) (fun _ => ?_)
  · refine zle_many 1 (100, 10, [zR 71, zI l1, zI l2, zI l3], [zR 71], F, G, zsg) rfl ?_
    refine zle_I rfl (fun v1 F1 G1 => ?_)
    refine zle_many 2 (100, 17, [zR 71, zI l1, zI l2, zI l3], [zI 57, zI 48, zI v1], F1, G1, zsg) rfl ?_
    refine zle_I rfl (fun v2 F2 G2 => ?_)
    refine zle_many 1 (100, (bif zcmp .eq v2 0 then 68 else 23), [zR 71, zI l1, zI l2, zI l3], [], F2, G2, zsg) rfl ?_
    refine zle_eq (fun _ => ?_) (fun _ => ?_)
    · refine zle_many 2 (100, (bif zcmp .ne l3 0 then 76 else 72), [zR 71, zI l1, zI l2, zI l3], [], F2, G2, zsg) rfl ?_
      refine zle_ne (fun _ => ?_) (fun _ => ?_)
      · refine zle_many 2 (100, 77, [zR 71, zI l1, zI l2, zI l3], [zI (-1)], F2, G2, zsg) rfl ?_
        exact zle_ret rfl
      · refine zle_many 1 (100, 77, [zR 71, zI l1, zI l2, zI l3], [zI l2], F2, G2, zsg) rfl ?_
        exact zle_ret rfl
    · refine zle_many 4 (100, 28, [zR 71, zI l1, zI l2, zI l3], [zR 71, zI (zmul 10 l2)], F2, G2, zsg) rfl ?_
      refine zle_I rfl (fun v3 F3 G3 => ?_)
      refine zle_many 5 (100, (bif zcmp .gt (zsub (zadd (zmul 10 l2) v3) 48) l1 then 68 else 39), [zR 71, zI l1, zI l2, zI l3], [], F3, G3, zsg) rfl ?_
      refine zle_gt (fun _ => ?_) (fun _ => ?_)
      · refine zle_many 2 (100, (bif zcmp .ne l3 0 then 76 else 72), [zR 71, zI l1, zI l2, zI l3], [], F3, G3, zsg) rfl ?_
        refine zle_ne (fun _ => ?_) (fun _ => ?_)
        · refine zle_many 2 (100, 77, [zR 71, zI l1, zI l2, zI l3], [zI (-1)], F3, G3, zsg) rfl ?_
          exact zle_ret rfl
        · refine zle_many 1 (100, 77, [zR 71, zI l1, zI l2, zI l3], [zI l2], F3, G3, zsg) rfl ?_
          exact zle_ret rfl
      · refine zle_many 4 (100, 44, [zR 71, zI l1, zI l2, zI l3], [zR 71, zI (zmul 10 l2)], F3, G3, zsg) rfl ?_
        refine zle_I rfl (fun v4 F4 G4 => ?_)
        refine zle_many 12 (100, 4, [zR 71, zI l1, zI (zsub (zadd (zmul 10 l2) v4) 48), zI (zadd l3 1)], [], (zup F4 71 42 (zadd (F4 71 42) 1)), G4, zsg) rfl ?_
        exact zle_rfl
  · refine zle_many 2 (100, (bif zcmp .ne l3 0 then 76 else 72), [zR 71, zI l1, zI l2, zI l3], [], F, G, zsg) rfl ?_
    refine zle_ne (fun _ => ?_) (fun _ => ?_)
    · refine zle_many 2 (100, 77, [zR 71, zI l1, zI l2, zI l3], [zI (-1)], F, G, zsg) rfl ?_
      exact zle_ret rfl
    · refine zle_many 1 (100, 77, [zR 71, zI l1, zI l2, zI l3], [zI l2], F, G, zsg) rfl ?_
      exact zle_ret rfl
set_option maxRecDepth 20000 in
theorem g_M_reads {d : Nat} {F : zM} {G : zG} (a1 : Int) : zle (
  zbI (zex d 99 [zR 71] (F, G, zsg)) (fun v1 F1 G1 =>
  if v1 = 103 then
    if 0 ≤ a1 ∧ a1 < 72 then
      zbI (zex d 100 [zR 71, zI 63] ((zup (zup F1 71 42 (zadd (F1 71 42) 1)) 81 (Int.toNat a1) 0), G1, zsg)) (fun v14 F14 G14 =>
        if 0 ≤ a1 ∧ a1 < 72 then
          if 0 ≤ a1 ∧ a1 < 72 then
            if 0 ≤ a1 ∧ a1 < 72 then
              if ((zup F14 82 (Int.toNat a1) v14) 82 (Int.toNat a1)) = (-1) then
                some (some (zI 0), (zup (zup F14 82 (Int.toNat a1) v14) 83 (Int.toNat a1) 0), G14, zsg)
              else
                zbI (zex d 99 [zR 71] ((zup (zup F14 82 (Int.toNat a1) v14) 83 (Int.toNat a1) 0), G14, zsg)) (fun v15 F15 G15 =>
                  if v15 = 59 then
                    some (some (zI 1), (zup F15 71 42 (zadd (F15 71 42) 1)), G15, zsg)
                  else
                    some (some (zI 0), F15, G15, zsg))
            else none
          else none
        else none)
    else none
  else
    if v1 = 116 then
      if 0 ≤ a1 ∧ a1 < 72 then
        zbI (zex d 100 [zR 71, zI 7] ((zup (zup F1 71 42 (zadd (F1 71 42) 1)) 81 (Int.toNat a1) 1), G1, zsg)) (fun v7 F7 G7 =>
          if 0 ≤ a1 ∧ a1 < 72 then
            if 0 ≤ a1 ∧ a1 < 72 then
              if 0 ≤ a1 ∧ a1 < 72 then
                if ((zup F7 82 (Int.toNat a1) v7) 82 (Int.toNat a1)) = (-1) then
                  some (some (zI 0), (zup (zup F7 82 (Int.toNat a1) v7) 83 (Int.toNat a1) 0), G7, zsg)
                else
                  zbI (zex d 99 [zR 71] ((zup (zup F7 82 (Int.toNat a1) v7) 83 (Int.toNat a1) 0), G7, zsg)) (fun v8 F8 G8 =>
                    if v8 = 110 then
                      if 0 ≤ a1 ∧ a1 < 72 then
                        if 0 ≤ a1 ∧ a1 < 72 then
                        if ((zup F8 83 (Int.toNat a1) 0) 83 (Int.toNat a1)) = (-1) then
                        some (some (zI 0), (zup F8 83 (Int.toNat a1) 0), G8, zsg)
                      else
                        zbI (zex d 99 [zR 71] ((zup (zup F8 83 (Int.toNat a1) 0) 71 42 (zadd (F8 71 42) 1)), G8, zsg)) (fun v13 F13 G13 =>
                        if v13 = 59 then
                        some (some (zI 1), (zup F13 71 42 (zadd (F13 71 42) 1)), G13, zsg)
                      else
                        some (some (zI 0), F13, G13, zsg))
                      else none
                      else none
                    else
                      if v8 = 101 then
                        if 0 ≤ a1 ∧ a1 < 72 then
                        if 0 ≤ a1 ∧ a1 < 72 then
                        if ((zup F8 83 (Int.toNat a1) 1) 83 (Int.toNat a1)) = (-1) then
                        some (some (zI 0), (zup F8 83 (Int.toNat a1) 1), G8, zsg)
                      else
                        zbI (zex d 99 [zR 71] ((zup (zup F8 83 (Int.toNat a1) 1) 71 42 (zadd (F8 71 42) 1)), G8, zsg)) (fun v12 F12 G12 =>
                        if v12 = 59 then
                        some (some (zI 1), (zup F12 71 42 (zadd (F12 71 42) 1)), G12, zsg)
                      else
                        some (some (zI 0), F12, G12, zsg))
                      else none
                      else none
                      else
                        if v8 = 115 then
                        if 0 ≤ a1 ∧ a1 < 72 then
                        if 0 ≤ a1 ∧ a1 < 72 then
                        if ((zup F8 83 (Int.toNat a1) 2) 83 (Int.toNat a1)) = (-1) then
                        some (some (zI 0), (zup F8 83 (Int.toNat a1) 2), G8, zsg)
                      else
                        zbI (zex d 99 [zR 71] ((zup (zup F8 83 (Int.toNat a1) 2) 71 42 (zadd (F8 71 42) 1)), G8, zsg)) (fun v11 F11 G11 =>
                        if v11 = 59 then
                        some (some (zI 1), (zup F11 71 42 (zadd (F11 71 42) 1)), G11, zsg)
                      else
                        some (some (zI 0), F11, G11, zsg))
                      else none
                      else none
                      else
                        if v8 = 119 then
                        if 0 ≤ a1 ∧ a1 < 72 then
                        if 0 ≤ a1 ∧ a1 < 72 then
                        if ((zup F8 83 (Int.toNat a1) 3) 83 (Int.toNat a1)) = (-1) then
                        some (some (zI 0), (zup F8 83 (Int.toNat a1) 3), G8, zsg)
                      else
                        zbI (zex d 99 [zR 71] ((zup (zup F8 83 (Int.toNat a1) 3) 71 42 (zadd (F8 71 42) 1)), G8, zsg)) (fun v10 F10 G10 =>
                        if v10 = 59 then
                        some (some (zI 1), (zup F10 71 42 (zadd (F10 71 42) 1)), G10, zsg)
                      else
                        some (some (zI 0), F10, G10, zsg))
                      else none
                      else none
                      else
                        if 0 ≤ a1 ∧ a1 < 72 then
                        if 0 ≤ a1 ∧ a1 < 72 then
                        if ((zup F8 83 (Int.toNat a1) (-1)) 83 (Int.toNat a1)) = (-1) then
                        some (some (zI 0), (zup F8 83 (Int.toNat a1) (-1)), G8, zsg)
                      else
                        zbI (zex d 99 [zR 71] ((zup (zup F8 83 (Int.toNat a1) (-1)) 71 42 (zadd (F8 71 42) 1)), G8, zsg)) (fun v9 F9 G9 =>
                        if v9 = 59 then
                        some (some (zI 1), (zup F9 71 42 (zadd (F9 71 42) 1)), G9, zsg)
                      else
                        some (some (zI 0), F9, G9, zsg))
                      else none
                      else none)
              else none
            else none
          else none)
      else none
    else
      if v1 = 112 then
        if 0 ≤ a1 ∧ a1 < 72 then
          if 0 ≤ a1 ∧ a1 < 72 then
            if 0 ≤ a1 ∧ a1 < 72 then
              if 0 ≤ a1 ∧ a1 < 72 then
                if ((zup (zup (zup F1 71 42 (zadd (F1 71 42) 1)) 81 (Int.toNat a1) 2) 82 (Int.toNat a1) 0) 82 (Int.toNat a1)) = (-1) then
                  some (some (zI 0), (zup (zup (zup (zup F1 71 42 (zadd (F1 71 42) 1)) 81 (Int.toNat a1) 2) 82 (Int.toNat a1) 0) 83 (Int.toNat a1) 0), G1, zsg)
                else
                  zbI (zex d 99 [zR 71] ((zup (zup (zup (zup F1 71 42 (zadd (F1 71 42) 1)) 81 (Int.toNat a1) 2) 82 (Int.toNat a1) 0) 83 (Int.toNat a1) 0), G1, zsg)) (fun v6 F6 G6 =>
                    if v6 = 59 then
                      some (some (zI 1), (zup F6 71 42 (zadd (F6 71 42) 1)), G6, zsg)
                    else
                      some (some (zI 0), F6, G6, zsg))
              else none
            else none
          else none
        else none
      else
        if v1 = 111 then
          if 0 ≤ a1 ∧ a1 < 72 then
            zbI (zex d 100 [zR 71, zI 3] ((zup (zup F1 71 42 (zadd (F1 71 42) 1)) 81 (Int.toNat a1) 3), G1, zsg)) (fun v4 F4 G4 =>
              if 0 ≤ a1 ∧ a1 < 72 then
                if 0 ≤ a1 ∧ a1 < 72 then
                  if 0 ≤ a1 ∧ a1 < 72 then
                    if ((zup F4 82 (Int.toNat a1) v4) 82 (Int.toNat a1)) = (-1) then
                      some (some (zI 0), (zup (zup F4 82 (Int.toNat a1) v4) 83 (Int.toNat a1) 0), G4, zsg)
                    else
                      zbI (zex d 99 [zR 71] ((zup (zup F4 82 (Int.toNat a1) v4) 83 (Int.toNat a1) 0), G4, zsg)) (fun v5 F5 G5 =>
                        if v5 = 59 then
                        some (some (zI 1), (zup F5 71 42 (zadd (F5 71 42) 1)), G5, zsg)
                      else
                        some (some (zI 0), F5, G5, zsg))
                  else none
                else none
              else none)
          else none
        else
          if v1 = 119 then
            if 0 ≤ a1 ∧ a1 < 72 then
              zbI (zex d 100 [zR 71, zI 99] ((zup (zup F1 71 42 (zadd (F1 71 42) 1)) 81 (Int.toNat a1) 4), G1, zsg)) (fun v2 F2 G2 =>
                if 0 ≤ a1 ∧ a1 < 72 then
                  if 0 ≤ a1 ∧ a1 < 72 then
                    if 0 ≤ a1 ∧ a1 < 72 then
                      if ((zup F2 82 (Int.toNat a1) v2) 82 (Int.toNat a1)) = (-1) then
                        some (some (zI 0), (zup (zup F2 82 (Int.toNat a1) v2) 83 (Int.toNat a1) 0), G2, zsg)
                      else
                        zbI (zex d 99 [zR 71] ((zup (zup F2 82 (Int.toNat a1) v2) 83 (Int.toNat a1) 0), G2, zsg)) (fun v3 F3 G3 =>
                        if v3 = 59 then
                        some (some (zI 1), (zup F3 71 42 (zadd (F3 71 42) 1)), G3, zsg)
                      else
                        some (some (zI 0), F3, G3, zsg))
                    else none
                  else none
                else none)
            else none
          else
            some (some (zI 0), F1, G1, zsg))) (zex (d + 1) 101 [zR 71, zI a1] (F, G, zsg)) := by
  refine zle_ent (ls := [zR 71, zI a1, zR 0, zR 0, zR 0]) ?_
  refine zle_many 1 (101, 1, [zR 71, zI a1, zR 0, zR 0, zR 0], [zR 71], F, G, zsg) rfl ?_
  refine zle_I rfl (fun v1 F1 G1 => ?_)
  refine zle_many 4 (101, (bif zcmp .ne v1 103 then 15 else 11), [zR 71, zI a1, zI v1, zR 0, zR 0], [], F1, G1, zsg) rfl ?_
  refine zle_ne (fun _ => ?_) (fun _ => ?_)
  · refine zle_many 16 (101, 80, [zR 71, zI a1, zI v1, zI 0, zR 0], [zI 0, zI a1, zR 81], (zup F1 71 42 (zadd (F1 71 42) 1)), G1, zsg) rfl ?_
    refine zle_ast rfl rfl rfl (fun _ => ?_)
    refine zle_many 11 (101, 126, [zR 71, zI a1, zI v1, zI 0, zR 0], [zI 63, zR 71, zI a1, zR 82], (zup (zup F1 71 42 (zadd (F1 71 42) 1)) 81 (Int.toNat a1) 0), G1, zsg) rfl ?_
    refine zle_I rfl (fun v14 F14 G14 => ?_)
    refine zle_ast rfl rfl rfl (fun _ => ?_)
    refine zle_many 4 (101, 136, [zR 71, zI a1, zI v1, zI 0, zR 0], [zI 0, zI a1, zR 83], (zup F14 82 (Int.toNat a1) v14), G14, zsg) rfl ?_
    refine zle_ast rfl rfl rfl (fun _ => ?_)
    refine zle_many 3 (101, 142, [zR 71, zI a1, zI v1, zI 0, zR 0], [zI a1, zR 82], (zup (zup F14 82 (Int.toNat a1) v14) 83 (Int.toNat a1) 0), G14, zsg) rfl ?_
    refine zle_ald rfl rfl rfl (fun _ => ?_)
    refine zle_many 0 (101, 143, [zR 71, zI a1, zI v1, zI 0, zR 0], [zI ((zup F14 82 (Int.toNat a1) v14) 82 (Int.toNat a1))], (zup (zup F14 82 (Int.toNat a1) v14) 83 (Int.toNat a1) 0), G14, zsg) rfl ?_
    refine zle_many 2 (101, (bif zcmp .ne ((zup F14 82 (Int.toNat a1) v14) 82 (Int.toNat a1)) (-1) then 149 else 147), [zR 71, zI a1, zI v1, zI 0, zR 0], [], (zup (zup F14 82 (Int.toNat a1) v14) 83 (Int.toNat a1) 0), G14, zsg) rfl ?_
    refine zle_ne (fun _ => ?_) (fun _ => ?_)
    · refine zle_many 1 (101, 148, [zR 71, zI a1, zI v1, zI 0, zR 0], [zI 0], (zup (zup F14 82 (Int.toNat a1) v14) 83 (Int.toNat a1) 0), G14, zsg) rfl ?_
      exact zle_ret rfl
    · refine zle_many 4 (101, 234, [zR 71, zI a1, zI v1, zI 0, zR 0], [zR 71], (zup (zup F14 82 (Int.toNat a1) v14) 83 (Int.toNat a1) 0), G14, zsg) rfl ?_
      refine zle_I rfl (fun v15 F15 G15 => ?_)
      refine zle_many 2 (101, (bif zcmp .eq v15 59 then 244 else 242), [zR 71, zI a1, zI v1, zI 0, zR 0], [], F15, G15, zsg) rfl ?_
      refine zle_eq (fun _ => ?_) (fun _ => ?_)
      · refine zle_many 7 (101, 255, [zR 71, zI a1, zI v1, zI 0, zR 0], [zI 1], (zup F15 71 42 (zadd (F15 71 42) 1)), G15, zsg) rfl ?_
        exact zle_ret rfl
      · refine zle_many 1 (101, 243, [zR 71, zI a1, zI v1, zI 0, zR 0], [zI 0], F15, G15, zsg) rfl ?_
        exact zle_ret rfl
  · refine zle_many 3 (101, (bif zcmp .ne v1 116 then 25 else 21), [zR 71, zI a1, zI v1, zR 0, zR 0], [], F1, G1, zsg) rfl ?_
    refine zle_ne (fun _ => ?_) (fun _ => ?_)
    · refine zle_many 16 (101, 80, [zR 71, zI a1, zI v1, zI 1, zR 0], [zI 1, zI a1, zR 81], (zup F1 71 42 (zadd (F1 71 42) 1)), G1, zsg) rfl ?_
      refine zle_ast rfl rfl rfl (fun _ => ?_)
      refine zle_many 14 (101, 126, [zR 71, zI a1, zI v1, zI 1, zR 0], [zI 7, zR 71, zI a1, zR 82], (zup (zup F1 71 42 (zadd (F1 71 42) 1)) 81 (Int.toNat a1) 1), G1, zsg) rfl ?_
      refine zle_I rfl (fun v7 F7 G7 => ?_)
      refine zle_ast rfl rfl rfl (fun _ => ?_)
      refine zle_many 4 (101, 136, [zR 71, zI a1, zI v1, zI 1, zR 0], [zI 0, zI a1, zR 83], (zup F7 82 (Int.toNat a1) v7), G7, zsg) rfl ?_
      refine zle_ast rfl rfl rfl (fun _ => ?_)
      refine zle_many 3 (101, 142, [zR 71, zI a1, zI v1, zI 1, zR 0], [zI a1, zR 82], (zup (zup F7 82 (Int.toNat a1) v7) 83 (Int.toNat a1) 0), G7, zsg) rfl ?_
      refine zle_ald rfl rfl rfl (fun _ => ?_)
      refine zle_many 0 (101, 143, [zR 71, zI a1, zI v1, zI 1, zR 0], [zI ((zup F7 82 (Int.toNat a1) v7) 82 (Int.toNat a1))], (zup (zup F7 82 (Int.toNat a1) v7) 83 (Int.toNat a1) 0), G7, zsg) rfl ?_
      refine zle_many 2 (101, (bif zcmp .ne ((zup F7 82 (Int.toNat a1) v7) 82 (Int.toNat a1)) (-1) then 149 else 147), [zR 71, zI a1, zI v1, zI 1, zR 0], [], (zup (zup F7 82 (Int.toNat a1) v7) 83 (Int.toNat a1) 0), G7, zsg) rfl ?_
      refine zle_ne (fun _ => ?_) (fun _ => ?_)
      · refine zle_many 1 (101, 148, [zR 71, zI a1, zI v1, zI 1, zR 0], [zI 0], (zup (zup F7 82 (Int.toNat a1) v7) 83 (Int.toNat a1) 0), G7, zsg) rfl ?_
        exact zle_ret rfl
      · refine zle_many 4 (101, 155, [zR 71, zI a1, zI v1, zI 1, zR 0], [zR 71], (zup (zup F7 82 (Int.toNat a1) v7) 83 (Int.toNat a1) 0), G7, zsg) rfl ?_
        refine zle_I rfl (fun v8 F8 G8 => ?_)
        refine zle_many 7 (101, (bif zcmp .ne v8 110 then 176 else 172), [zR 71, zI a1, zI v1, zI 1, zI v8], [zI a1, zR 83], F8, G8, zsg) rfl ?_
        refine zle_ne (fun _ => ?_) (fun _ => ?_)
        · refine zle_many 2 (101, 210, [zR 71, zI a1, zI v1, zI 1, zI v8], [zI 0, zI a1, zR 83], F8, G8, zsg) rfl ?_
          refine zle_ast rfl rfl rfl (fun _ => ?_)
          refine zle_many 3 (101, 216, [zR 71, zI a1, zI v1, zI 1, zI v8], [zI a1, zR 83], (zup F8 83 (Int.toNat a1) 0), G8, zsg) rfl ?_
          refine zle_ald rfl rfl rfl (fun _ => ?_)
          refine zle_many 2 (101, (bif zcmp .ne ((zup F8 83 (Int.toNat a1) 0) 83 (Int.toNat a1)) (-1) then 223 else 221), [zR 71, zI a1, zI v1, zI 1, zI v8], [], (zup F8 83 (Int.toNat a1) 0), G8, zsg) rfl ?_
          refine zle_ne (fun _ => ?_) (fun _ => ?_)
          · refine zle_many 1 (101, 222, [zR 71, zI a1, zI v1, zI 1, zI v8], [zI 0], (zup F8 83 (Int.toNat a1) 0), G8, zsg) rfl ?_
            exact zle_ret rfl
          · refine zle_many 7 (101, 234, [zR 71, zI a1, zI v1, zI 1, zI v8], [zR 71], (zup (zup F8 83 (Int.toNat a1) 0) 71 42 (zadd (F8 71 42) 1)), G8, zsg) rfl ?_
            refine zle_I rfl (fun v13 F13 G13 => ?_)
            refine zle_many 2 (101, (bif zcmp .eq v13 59 then 244 else 242), [zR 71, zI a1, zI v1, zI 1, zI v8], [], F13, G13, zsg) rfl ?_
            refine zle_eq (fun _ => ?_) (fun _ => ?_)
            · refine zle_many 7 (101, 255, [zR 71, zI a1, zI v1, zI 1, zI v8], [zI 1], (zup F13 71 42 (zadd (F13 71 42) 1)), G13, zsg) rfl ?_
              exact zle_ret rfl
            · refine zle_many 1 (101, 243, [zR 71, zI a1, zI v1, zI 1, zI v8], [zI 0], F13, G13, zsg) rfl ?_
              exact zle_ret rfl
        · refine zle_many 3 (101, (bif zcmp .ne v8 101 then 187 else 183), [zR 71, zI a1, zI v1, zI 1, zI v8], [zI a1, zR 83], F8, G8, zsg) rfl ?_
          refine zle_ne (fun _ => ?_) (fun _ => ?_)
          · refine zle_many 2 (101, 210, [zR 71, zI a1, zI v1, zI 1, zI v8], [zI 1, zI a1, zR 83], F8, G8, zsg) rfl ?_
            refine zle_ast rfl rfl rfl (fun _ => ?_)
            refine zle_many 3 (101, 216, [zR 71, zI a1, zI v1, zI 1, zI v8], [zI a1, zR 83], (zup F8 83 (Int.toNat a1) 1), G8, zsg) rfl ?_
            refine zle_ald rfl rfl rfl (fun _ => ?_)
            refine zle_many 2 (101, (bif zcmp .ne ((zup F8 83 (Int.toNat a1) 1) 83 (Int.toNat a1)) (-1) then 223 else 221), [zR 71, zI a1, zI v1, zI 1, zI v8], [], (zup F8 83 (Int.toNat a1) 1), G8, zsg) rfl ?_
            refine zle_ne (fun _ => ?_) (fun _ => ?_)
            · refine zle_many 1 (101, 222, [zR 71, zI a1, zI v1, zI 1, zI v8], [zI 0], (zup F8 83 (Int.toNat a1) 1), G8, zsg) rfl ?_
              exact zle_ret rfl
            · refine zle_many 7 (101, 234, [zR 71, zI a1, zI v1, zI 1, zI v8], [zR 71], (zup (zup F8 83 (Int.toNat a1) 1) 71 42 (zadd (F8 71 42) 1)), G8, zsg) rfl ?_
              refine zle_I rfl (fun v12 F12 G12 => ?_)
              refine zle_many 2 (101, (bif zcmp .eq v12 59 then 244 else 242), [zR 71, zI a1, zI v1, zI 1, zI v8], [], F12, G12, zsg) rfl ?_
              refine zle_eq (fun _ => ?_) (fun _ => ?_)
              · refine zle_many 7 (101, 255, [zR 71, zI a1, zI v1, zI 1, zI v8], [zI 1], (zup F12 71 42 (zadd (F12 71 42) 1)), G12, zsg) rfl ?_
                exact zle_ret rfl
              · refine zle_many 1 (101, 243, [zR 71, zI a1, zI v1, zI 1, zI v8], [zI 0], F12, G12, zsg) rfl ?_
                exact zle_ret rfl
          · refine zle_many 3 (101, (bif zcmp .ne v8 115 then 198 else 194), [zR 71, zI a1, zI v1, zI 1, zI v8], [zI a1, zR 83], F8, G8, zsg) rfl ?_
            refine zle_ne (fun _ => ?_) (fun _ => ?_)
            · refine zle_many 2 (101, 210, [zR 71, zI a1, zI v1, zI 1, zI v8], [zI 2, zI a1, zR 83], F8, G8, zsg) rfl ?_
              refine zle_ast rfl rfl rfl (fun _ => ?_)
              refine zle_many 3 (101, 216, [zR 71, zI a1, zI v1, zI 1, zI v8], [zI a1, zR 83], (zup F8 83 (Int.toNat a1) 2), G8, zsg) rfl ?_
              refine zle_ald rfl rfl rfl (fun _ => ?_)
              refine zle_many 2 (101, (bif zcmp .ne ((zup F8 83 (Int.toNat a1) 2) 83 (Int.toNat a1)) (-1) then 223 else 221), [zR 71, zI a1, zI v1, zI 1, zI v8], [], (zup F8 83 (Int.toNat a1) 2), G8, zsg) rfl ?_
              refine zle_ne (fun _ => ?_) (fun _ => ?_)
              · refine zle_many 1 (101, 222, [zR 71, zI a1, zI v1, zI 1, zI v8], [zI 0], (zup F8 83 (Int.toNat a1) 2), G8, zsg) rfl ?_
                exact zle_ret rfl
              · refine zle_many 7 (101, 234, [zR 71, zI a1, zI v1, zI 1, zI v8], [zR 71], (zup (zup F8 83 (Int.toNat a1) 2) 71 42 (zadd (F8 71 42) 1)), G8, zsg) rfl ?_
                refine zle_I rfl (fun v11 F11 G11 => ?_)
                refine zle_many 2 (101, (bif zcmp .eq v11 59 then 244 else 242), [zR 71, zI a1, zI v1, zI 1, zI v8], [], F11, G11, zsg) rfl ?_
                refine zle_eq (fun _ => ?_) (fun _ => ?_)
                · refine zle_many 7 (101, 255, [zR 71, zI a1, zI v1, zI 1, zI v8], [zI 1], (zup F11 71 42 (zadd (F11 71 42) 1)), G11, zsg) rfl ?_
                  exact zle_ret rfl
                · refine zle_many 1 (101, 243, [zR 71, zI a1, zI v1, zI 1, zI v8], [zI 0], F11, G11, zsg) rfl ?_
                  exact zle_ret rfl
            · refine zle_many 3 (101, (bif zcmp .ne v8 119 then 209 else 205), [zR 71, zI a1, zI v1, zI 1, zI v8], [zI a1, zR 83], F8, G8, zsg) rfl ?_
              refine zle_ne (fun _ => ?_) (fun _ => ?_)
              · refine zle_many 2 (101, 210, [zR 71, zI a1, zI v1, zI 1, zI v8], [zI 3, zI a1, zR 83], F8, G8, zsg) rfl ?_
                refine zle_ast rfl rfl rfl (fun _ => ?_)
                refine zle_many 3 (101, 216, [zR 71, zI a1, zI v1, zI 1, zI v8], [zI a1, zR 83], (zup F8 83 (Int.toNat a1) 3), G8, zsg) rfl ?_
                refine zle_ald rfl rfl rfl (fun _ => ?_)
                refine zle_many 2 (101, (bif zcmp .ne ((zup F8 83 (Int.toNat a1) 3) 83 (Int.toNat a1)) (-1) then 223 else 221), [zR 71, zI a1, zI v1, zI 1, zI v8], [], (zup F8 83 (Int.toNat a1) 3), G8, zsg) rfl ?_
                refine zle_ne (fun _ => ?_) (fun _ => ?_)
                · refine zle_many 1 (101, 222, [zR 71, zI a1, zI v1, zI 1, zI v8], [zI 0], (zup F8 83 (Int.toNat a1) 3), G8, zsg) rfl ?_
                  exact zle_ret rfl
                · refine zle_many 7 (101, 234, [zR 71, zI a1, zI v1, zI 1, zI v8], [zR 71], (zup (zup F8 83 (Int.toNat a1) 3) 71 42 (zadd (F8 71 42) 1)), G8, zsg) rfl ?_
                  refine zle_I rfl (fun v10 F10 G10 => ?_)
                  refine zle_many 2 (101, (bif zcmp .eq v10 59 then 244 else 242), [zR 71, zI a1, zI v1, zI 1, zI v8], [], F10, G10, zsg) rfl ?_
                  refine zle_eq (fun _ => ?_) (fun _ => ?_)
                  · refine zle_many 7 (101, 255, [zR 71, zI a1, zI v1, zI 1, zI v8], [zI 1], (zup F10 71 42 (zadd (F10 71 42) 1)), G10, zsg) rfl ?_
                    exact zle_ret rfl
                  · refine zle_many 1 (101, 243, [zR 71, zI a1, zI v1, zI 1, zI v8], [zI 0], F10, G10, zsg) rfl ?_
                    exact zle_ret rfl
              · refine zle_many 1 (101, 210, [zR 71, zI a1, zI v1, zI 1, zI v8], [zI (-1), zI a1, zR 83], F8, G8, zsg) rfl ?_
                refine zle_ast rfl rfl rfl (fun _ => ?_)
                refine zle_many 3 (101, 216, [zR 71, zI a1, zI v1, zI 1, zI v8], [zI a1, zR 83], (zup F8 83 (Int.toNat a1) (-1)), G8, zsg) rfl ?_
                refine zle_ald rfl rfl rfl (fun _ => ?_)
                refine zle_many 2 (101, (bif zcmp .ne ((zup F8 83 (Int.toNat a1) (-1)) 83 (Int.toNat a1)) (-1) then 223 else 221), [zR 71, zI a1, zI v1, zI 1, zI v8], [], (zup F8 83 (Int.toNat a1) (-1)), G8, zsg) rfl ?_
                refine zle_ne (fun _ => ?_) (fun _ => ?_)
                · refine zle_many 1 (101, 222, [zR 71, zI a1, zI v1, zI 1, zI v8], [zI 0], (zup F8 83 (Int.toNat a1) (-1)), G8, zsg) rfl ?_
                  exact zle_ret rfl
                · refine zle_many 7 (101, 234, [zR 71, zI a1, zI v1, zI 1, zI v8], [zR 71], (zup (zup F8 83 (Int.toNat a1) (-1)) 71 42 (zadd (F8 71 42) 1)), G8, zsg) rfl ?_
                  refine zle_I rfl (fun v9 F9 G9 => ?_)
                  refine zle_many 2 (101, (bif zcmp .eq v9 59 then 244 else 242), [zR 71, zI a1, zI v1, zI 1, zI v8], [], F9, G9, zsg) rfl ?_
                  refine zle_eq (fun _ => ?_) (fun _ => ?_)
                  · refine zle_many 7 (101, 255, [zR 71, zI a1, zI v1, zI 1, zI v8], [zI 1], (zup F9 71 42 (zadd (F9 71 42) 1)), G9, zsg) rfl ?_
                    exact zle_ret rfl
                  · refine zle_many 1 (101, 243, [zR 71, zI a1, zI v1, zI 1, zI v8], [zI 0], F9, G9, zsg) rfl ?_
                    exact zle_ret rfl
    · refine zle_many 3 (101, (bif zcmp .ne v1 112 then 35 else 31), [zR 71, zI a1, zI v1, zR 0, zR 0], [], F1, G1, zsg) rfl ?_
      refine zle_ne (fun _ => ?_) (fun _ => ?_)
      · refine zle_many 16 (101, 80, [zR 71, zI a1, zI v1, zI 2, zR 0], [zI 2, zI a1, zR 81], (zup F1 71 42 (zadd (F1 71 42) 1)), G1, zsg) rfl ?_
        refine zle_ast rfl rfl rfl (fun _ => ?_)
        refine zle_many 8 (101, 129, [zR 71, zI a1, zI v1, zI 2, zR 0], [zI 0, zI a1, zR 82], (zup (zup F1 71 42 (zadd (F1 71 42) 1)) 81 (Int.toNat a1) 2), G1, zsg) rfl ?_
        refine zle_ast rfl rfl rfl (fun _ => ?_)
        refine zle_many 4 (101, 136, [zR 71, zI a1, zI v1, zI 2, zR 0], [zI 0, zI a1, zR 83], (zup (zup (zup F1 71 42 (zadd (F1 71 42) 1)) 81 (Int.toNat a1) 2) 82 (Int.toNat a1) 0), G1, zsg) rfl ?_
        refine zle_ast rfl rfl rfl (fun _ => ?_)
        refine zle_many 3 (101, 142, [zR 71, zI a1, zI v1, zI 2, zR 0], [zI a1, zR 82], (zup (zup (zup (zup F1 71 42 (zadd (F1 71 42) 1)) 81 (Int.toNat a1) 2) 82 (Int.toNat a1) 0) 83 (Int.toNat a1) 0), G1, zsg) rfl ?_
        refine zle_ald rfl rfl rfl (fun _ => ?_)
        refine zle_many 0 (101, 143, [zR 71, zI a1, zI v1, zI 2, zR 0], [zI ((zup (zup (zup F1 71 42 (zadd (F1 71 42) 1)) 81 (Int.toNat a1) 2) 82 (Int.toNat a1) 0) 82 (Int.toNat a1))], (zup (zup (zup (zup F1 71 42 (zadd (F1 71 42) 1)) 81 (Int.toNat a1) 2) 82 (Int.toNat a1) 0) 83 (Int.toNat a1) 0), G1, zsg) rfl ?_
        refine zle_many 2 (101, (bif zcmp .ne ((zup (zup (zup F1 71 42 (zadd (F1 71 42) 1)) 81 (Int.toNat a1) 2) 82 (Int.toNat a1) 0) 82 (Int.toNat a1)) (-1) then 149 else 147), [zR 71, zI a1, zI v1, zI 2, zR 0], [], (zup (zup (zup (zup F1 71 42 (zadd (F1 71 42) 1)) 81 (Int.toNat a1) 2) 82 (Int.toNat a1) 0) 83 (Int.toNat a1) 0), G1, zsg) rfl ?_
        refine zle_ne (fun _ => ?_) (fun _ => ?_)
        · refine zle_many 1 (101, 148, [zR 71, zI a1, zI v1, zI 2, zR 0], [zI 0], (zup (zup (zup (zup F1 71 42 (zadd (F1 71 42) 1)) 81 (Int.toNat a1) 2) 82 (Int.toNat a1) 0) 83 (Int.toNat a1) 0), G1, zsg) rfl ?_
          exact zle_ret rfl
        · refine zle_many 4 (101, 234, [zR 71, zI a1, zI v1, zI 2, zR 0], [zR 71], (zup (zup (zup (zup F1 71 42 (zadd (F1 71 42) 1)) 81 (Int.toNat a1) 2) 82 (Int.toNat a1) 0) 83 (Int.toNat a1) 0), G1, zsg) rfl ?_
          refine zle_I rfl (fun v6 F6 G6 => ?_)
          refine zle_many 2 (101, (bif zcmp .eq v6 59 then 244 else 242), [zR 71, zI a1, zI v1, zI 2, zR 0], [], F6, G6, zsg) rfl ?_
          refine zle_eq (fun _ => ?_) (fun _ => ?_)
          · refine zle_many 7 (101, 255, [zR 71, zI a1, zI v1, zI 2, zR 0], [zI 1], (zup F6 71 42 (zadd (F6 71 42) 1)), G6, zsg) rfl ?_
            exact zle_ret rfl
          · refine zle_many 1 (101, 243, [zR 71, zI a1, zI v1, zI 2, zR 0], [zI 0], F6, G6, zsg) rfl ?_
            exact zle_ret rfl
      · refine zle_many 3 (101, (bif zcmp .ne v1 111 then 45 else 41), [zR 71, zI a1, zI v1, zR 0, zR 0], [], F1, G1, zsg) rfl ?_
        refine zle_ne (fun _ => ?_) (fun _ => ?_)
        · refine zle_many 16 (101, 80, [zR 71, zI a1, zI v1, zI 3, zR 0], [zI 3, zI a1, zR 81], (zup F1 71 42 (zadd (F1 71 42) 1)), G1, zsg) rfl ?_
          refine zle_ast rfl rfl rfl (fun _ => ?_)
          refine zle_many 17 (101, 126, [zR 71, zI a1, zI v1, zI 3, zR 0], [zI 3, zR 71, zI a1, zR 82], (zup (zup F1 71 42 (zadd (F1 71 42) 1)) 81 (Int.toNat a1) 3), G1, zsg) rfl ?_
          refine zle_I rfl (fun v4 F4 G4 => ?_)
          refine zle_ast rfl rfl rfl (fun _ => ?_)
          refine zle_many 4 (101, 136, [zR 71, zI a1, zI v1, zI 3, zR 0], [zI 0, zI a1, zR 83], (zup F4 82 (Int.toNat a1) v4), G4, zsg) rfl ?_
          refine zle_ast rfl rfl rfl (fun _ => ?_)
          refine zle_many 3 (101, 142, [zR 71, zI a1, zI v1, zI 3, zR 0], [zI a1, zR 82], (zup (zup F4 82 (Int.toNat a1) v4) 83 (Int.toNat a1) 0), G4, zsg) rfl ?_
          refine zle_ald rfl rfl rfl (fun _ => ?_)
          refine zle_many 0 (101, 143, [zR 71, zI a1, zI v1, zI 3, zR 0], [zI ((zup F4 82 (Int.toNat a1) v4) 82 (Int.toNat a1))], (zup (zup F4 82 (Int.toNat a1) v4) 83 (Int.toNat a1) 0), G4, zsg) rfl ?_
          refine zle_many 2 (101, (bif zcmp .ne ((zup F4 82 (Int.toNat a1) v4) 82 (Int.toNat a1)) (-1) then 149 else 147), [zR 71, zI a1, zI v1, zI 3, zR 0], [], (zup (zup F4 82 (Int.toNat a1) v4) 83 (Int.toNat a1) 0), G4, zsg) rfl ?_
          refine zle_ne (fun _ => ?_) (fun _ => ?_)
          · refine zle_many 1 (101, 148, [zR 71, zI a1, zI v1, zI 3, zR 0], [zI 0], (zup (zup F4 82 (Int.toNat a1) v4) 83 (Int.toNat a1) 0), G4, zsg) rfl ?_
            exact zle_ret rfl
          · refine zle_many 4 (101, 234, [zR 71, zI a1, zI v1, zI 3, zR 0], [zR 71], (zup (zup F4 82 (Int.toNat a1) v4) 83 (Int.toNat a1) 0), G4, zsg) rfl ?_
            refine zle_I rfl (fun v5 F5 G5 => ?_)
            refine zle_many 2 (101, (bif zcmp .eq v5 59 then 244 else 242), [zR 71, zI a1, zI v1, zI 3, zR 0], [], F5, G5, zsg) rfl ?_
            refine zle_eq (fun _ => ?_) (fun _ => ?_)
            · refine zle_many 7 (101, 255, [zR 71, zI a1, zI v1, zI 3, zR 0], [zI 1], (zup F5 71 42 (zadd (F5 71 42) 1)), G5, zsg) rfl ?_
              exact zle_ret rfl
            · refine zle_many 1 (101, 243, [zR 71, zI a1, zI v1, zI 3, zR 0], [zI 0], F5, G5, zsg) rfl ?_
              exact zle_ret rfl
        · refine zle_many 3 (101, (bif zcmp .ne v1 119 then 55 else 51), [zR 71, zI a1, zI v1, zR 0, zR 0], [], F1, G1, zsg) rfl ?_
          refine zle_ne (fun _ => ?_) (fun _ => ?_)
          · refine zle_many 16 (101, 80, [zR 71, zI a1, zI v1, zI 4, zR 0], [zI 4, zI a1, zR 81], (zup F1 71 42 (zadd (F1 71 42) 1)), G1, zsg) rfl ?_
            refine zle_ast rfl rfl rfl (fun _ => ?_)
            refine zle_many 16 (101, 126, [zR 71, zI a1, zI v1, zI 4, zR 0], [zI 99, zR 71, zI a1, zR 82], (zup (zup F1 71 42 (zadd (F1 71 42) 1)) 81 (Int.toNat a1) 4), G1, zsg) rfl ?_
            refine zle_I rfl (fun v2 F2 G2 => ?_)
            refine zle_ast rfl rfl rfl (fun _ => ?_)
            refine zle_many 4 (101, 136, [zR 71, zI a1, zI v1, zI 4, zR 0], [zI 0, zI a1, zR 83], (zup F2 82 (Int.toNat a1) v2), G2, zsg) rfl ?_
            refine zle_ast rfl rfl rfl (fun _ => ?_)
            refine zle_many 3 (101, 142, [zR 71, zI a1, zI v1, zI 4, zR 0], [zI a1, zR 82], (zup (zup F2 82 (Int.toNat a1) v2) 83 (Int.toNat a1) 0), G2, zsg) rfl ?_
            refine zle_ald rfl rfl rfl (fun _ => ?_)
            refine zle_many 0 (101, 143, [zR 71, zI a1, zI v1, zI 4, zR 0], [zI ((zup F2 82 (Int.toNat a1) v2) 82 (Int.toNat a1))], (zup (zup F2 82 (Int.toNat a1) v2) 83 (Int.toNat a1) 0), G2, zsg) rfl ?_
            refine zle_many 2 (101, (bif zcmp .ne ((zup F2 82 (Int.toNat a1) v2) 82 (Int.toNat a1)) (-1) then 149 else 147), [zR 71, zI a1, zI v1, zI 4, zR 0], [], (zup (zup F2 82 (Int.toNat a1) v2) 83 (Int.toNat a1) 0), G2, zsg) rfl ?_
            refine zle_ne (fun _ => ?_) (fun _ => ?_)
            · refine zle_many 1 (101, 148, [zR 71, zI a1, zI v1, zI 4, zR 0], [zI 0], (zup (zup F2 82 (Int.toNat a1) v2) 83 (Int.toNat a1) 0), G2, zsg) rfl ?_
              exact zle_ret rfl
            · refine zle_many 4 (101, 234, [zR 71, zI a1, zI v1, zI 4, zR 0], [zR 71], (zup (zup F2 82 (Int.toNat a1) v2) 83 (Int.toNat a1) 0), G2, zsg) rfl ?_
              refine zle_I rfl (fun v3 F3 G3 => ?_)
              refine zle_many 2 (101, (bif zcmp .eq v3 59 then 244 else 242), [zR 71, zI a1, zI v1, zI 4, zR 0], [], F3, G3, zsg) rfl ?_
              refine zle_eq (fun _ => ?_) (fun _ => ?_)
              · refine zle_many 7 (101, 255, [zR 71, zI a1, zI v1, zI 4, zR 0], [zI 1], (zup F3 71 42 (zadd (F3 71 42) 1)), G3, zsg) rfl ?_
                exact zle_ret rfl
              · refine zle_many 1 (101, 243, [zR 71, zI a1, zI v1, zI 4, zR 0], [zI 0], F3, G3, zsg) rfl ?_
                exact zle_ret rfl
          · refine zle_many 6 (101, 63, [zR 71, zI a1, zI v1, zI (-1), zR 0], [zI 0], F1, G1, zsg) rfl ?_
            exact zle_ret rfl
set_option maxRecDepth 20000 in
theorem g_M_program {d : Nat} {F : zM} {G : zG}  : zle (
  if (F 71 12) = 6 then
  some (some (zI (-4)), F, G, zsg)
else
  zev zX0 d (102, 21, [zR 71, zI 0, zI 1], [], (zup F 71 42 0), G, zsg)) (zex (d + 1) 102 [zR 71] (F, G, zsg)) := by
  refine zle_ent (ls := [zR 71, zR 0, zR 0]) ?_
  refine zle_many 4 (102, (bif zcmp .ne (F 71 12) 6 then 12 else 9), [zR 71, zR 0, zR 0], [], F, G, zsg) rfl ?_
  refine zle_ne (fun _ => ?_) (fun _ => ?_)
  · refine zle_many 1 (102, 11, [zR 71, zR 0, zR 0], [zI (-4)], F, G, zsg) rfl ?_
    exact zle_ret rfl
  · refine zle_many 7 (102, 21, [zR 71, zI 0, zI 1], [], (zup F 71 42 0), G, zsg) rfl ?_
    exact zle_rfl
set_option maxRecDepth 20000 in
theorem g_M_program_21 {d : Nat} {F : zM} {G : zG} (l1 : Int) (l2 : Int) : zle (
  if l2 = 0 then
  if l2 = 0 then
    some (some (zI (zsub (-100) (F 71 42))), (zup F 71 18 0), G, zsg)
  else
    if (F 71 42) = (F 71 18) then
      if 0 ≤ (F 71 12) ∧ (F 71 12) < 6 then
        some (some (zI (zsub (zadd (F 71 12) 1) 1)), (zup (zup (zup F 71 18 0) 80 (Int.toNat (F 71 12)) l1) 71 12 (zadd (F 71 12) 1)), G, zsg)
      else none
    else
      some (some (zI (zsub (-100) (F 71 42))), (zup F 71 18 0), G, zsg)
else
  if l1 < 12 then
    if l1 = 0 then
      zbI (zex d 101 [zR 71, zI (zadd (zmul 12 (F 71 12)) l1)] (F, G, zsg)) (fun v1 F1 G1 =>
        zev zX0 d (102, 21, [zR 71, zI (zadd l1 1), zI v1], [], F1, G1, zsg))
    else
      if (F 71 42) < (F 71 18) then
        zbI (zex d 101 [zR 71, zI (zadd (zmul 12 (F 71 12)) l1)] (F, G, zsg)) (fun v2 F2 G2 =>
          zev zX0 d (102, 21, [zR 71, zI (zadd l1 1), zI v2], [], F2, G2, zsg))
      else
        if l2 = 0 then
          some (some (zI (zsub (-100) (F 71 42))), (zup F 71 18 0), G, zsg)
        else
          if (F 71 42) = (F 71 18) then
            if 0 ≤ (F 71 12) ∧ (F 71 12) < 6 then
              some (some (zI (zsub (zadd (F 71 12) 1) 1)), (zup (zup (zup F 71 18 0) 80 (Int.toNat (F 71 12)) l1) 71 12 (zadd (F 71 12) 1)), G, zsg)
            else none
          else
            some (some (zI (zsub (-100) (F 71 42))), (zup F 71 18 0), G, zsg)
  else
    if l2 = 0 then
      some (some (zI (zsub (-100) (F 71 42))), (zup F 71 18 0), G, zsg)
    else
      if (F 71 42) = (F 71 18) then
        if 0 ≤ (F 71 12) ∧ (F 71 12) < 6 then
          some (some (zI (zsub (zadd (F 71 12) 1) 1)), (zup (zup (zup F 71 18 0) 80 (Int.toNat (F 71 12)) l1) 71 12 (zadd (F 71 12) 1)), G, zsg)
        else none
      else
        some (some (zI (zsub (-100) (F 71 42))), (zup F 71 18 0), G, zsg)) (zev zX0 d (102, 21, [zR 71, zI l1, zI l2], [], F, G, zsg)) := by
  refine zle_many 2 (102, (bif zcmp .eq l2 0 then 66 else 25), [zR 71, zI l1, zI l2], [], F, G, zsg) rfl ?_
  refine zle_eq (fun _ => ?_) (fun _ => ?_)
  · refine zle_many 2 (102, (bif zcmp .eq l2 0 then 85 else 70), [zR 71, zI l1, zI l2], [], F, G, zsg) rfl ?_
    refine zle_eq (fun _ => ?_) (fun _ => ?_)
    · refine zle_many 11 (102, 103, [zR 71, zI l1, zI 0], [zI (zsub (-100) (F 71 42))], (zup F 71 18 0), G, zsg) rfl ?_
      exact zle_ret rfl
    · refine zle_many 5 (102, (bif zcmp .ne (F 71 42) (F 71 18) then 85 else 81), [zR 71, zI l1, zI l2], [], F, G, zsg) rfl ?_
      refine zle_ne (fun _ => ?_) (fun _ => ?_)
      · refine zle_many 13 (102, 113, [zR 71, zI l1, zI 1], [zI l1, zI (F 71 12), zR 80], (zup F 71 18 0), G, zsg) rfl ?_
        refine zle_ast rfl rfl rfl (fun _ => ?_)
        refine zle_many 10 (102, 130, [zR 71, zI l1, zI 1], [zI (zsub (zadd (F 71 12) 1) 1)], (zup (zup (zup F 71 18 0) 80 (Int.toNat (F 71 12)) l1) 71 12 (zadd (F 71 12) 1)), G, zsg) rfl ?_
        exact zle_ret rfl
      · refine zle_many 11 (102, 103, [zR 71, zI l1, zI 0], [zI (zsub (-100) (F 71 42))], (zup F 71 18 0), G, zsg) rfl ?_
        exact zle_ret rfl
  · refine zle_many 3 (102, (bif zcmp .ge l1 12 then 66 else 31), [zR 71, zI l1, zI l2], [], F, G, zsg) rfl ?_
    refine zle_ge (fun _ => ?_) (fun _ => ?_)
    · refine zle_many 2 (102, (bif zcmp .eq l1 0 then 46 else 35), [zR 71, zI l1, zI l2], [], F, G, zsg) rfl ?_
      refine zle_eq (fun _ => ?_) (fun _ => ?_)
      · refine zle_many 7 (102, 56, [zR 71, zI l1, zI l2], [zI (zadd (zmul 12 (F 71 12)) l1), zR 71], F, G, zsg) rfl ?_
        refine zle_I rfl (fun v1 F1 G1 => ?_)
        refine zle_many 3 (102, 21, [zR 71, zI (zadd l1 1), zI v1], [], F1, G1, zsg) rfl ?_
        exact zle_rfl
      · refine zle_many 5 (102, (bif zcmp .ge (F 71 42) (F 71 18) then 66 else 46), [zR 71, zI l1, zI l2], [], F, G, zsg) rfl ?_
        refine zle_ge (fun _ => ?_) (fun _ => ?_)
        · refine zle_many 7 (102, 56, [zR 71, zI l1, zI l2], [zI (zadd (zmul 12 (F 71 12)) l1), zR 71], F, G, zsg) rfl ?_
          refine zle_I rfl (fun v2 F2 G2 => ?_)
          refine zle_many 3 (102, 21, [zR 71, zI (zadd l1 1), zI v2], [], F2, G2, zsg) rfl ?_
          exact zle_rfl
        · refine zle_many 2 (102, (bif zcmp .eq l2 0 then 85 else 70), [zR 71, zI l1, zI l2], [], F, G, zsg) rfl ?_
          refine zle_eq (fun _ => ?_) (fun _ => ?_)
          · refine zle_many 11 (102, 103, [zR 71, zI l1, zI 0], [zI (zsub (-100) (F 71 42))], (zup F 71 18 0), G, zsg) rfl ?_
            exact zle_ret rfl
          · refine zle_many 5 (102, (bif zcmp .ne (F 71 42) (F 71 18) then 85 else 81), [zR 71, zI l1, zI l2], [], F, G, zsg) rfl ?_
            refine zle_ne (fun _ => ?_) (fun _ => ?_)
            · refine zle_many 13 (102, 113, [zR 71, zI l1, zI 1], [zI l1, zI (F 71 12), zR 80], (zup F 71 18 0), G, zsg) rfl ?_
              refine zle_ast rfl rfl rfl (fun _ => ?_)
              refine zle_many 10 (102, 130, [zR 71, zI l1, zI 1], [zI (zsub (zadd (F 71 12) 1) 1)], (zup (zup (zup F 71 18 0) 80 (Int.toNat (F 71 12)) l1) 71 12 (zadd (F 71 12) 1)), G, zsg) rfl ?_
              exact zle_ret rfl
            · refine zle_many 11 (102, 103, [zR 71, zI l1, zI 0], [zI (zsub (-100) (F 71 42))], (zup F 71 18 0), G, zsg) rfl ?_
              exact zle_ret rfl
    · refine zle_many 2 (102, (bif zcmp .eq l2 0 then 85 else 70), [zR 71, zI l1, zI l2], [], F, G, zsg) rfl ?_
      refine zle_eq (fun _ => ?_) (fun _ => ?_)
      · refine zle_many 11 (102, 103, [zR 71, zI l1, zI 0], [zI (zsub (-100) (F 71 42))], (zup F 71 18 0), G, zsg) rfl ?_
        exact zle_ret rfl
      · refine zle_many 5 (102, (bif zcmp .ne (F 71 42) (F 71 18) then 85 else 81), [zR 71, zI l1, zI l2], [], F, G, zsg) rfl ?_
        refine zle_ne (fun _ => ?_) (fun _ => ?_)
        · refine zle_many 13 (102, 113, [zR 71, zI l1, zI 1], [zI l1, zI (F 71 12), zR 80], (zup F 71 18 0), G, zsg) rfl ?_
          refine zle_ast rfl rfl rfl (fun _ => ?_)
          refine zle_many 10 (102, 130, [zR 71, zI l1, zI 1], [zI (zsub (zadd (F 71 12) 1) 1)], (zup (zup (zup F 71 18 0) 80 (Int.toNat (F 71 12)) l1) 71 12 (zadd (F 71 12) 1)), G, zsg) rfl ?_
          exact zle_ret rfl
        · refine zle_many 11 (102, 103, [zR 71, zI l1, zI 0], [zI (zsub (-100) (F 71 42))], (zup F 71 18 0), G, zsg) rfl ?_
          exact zle_ret rfl
set_option maxRecDepth 20000 in
theorem g_M_isProgram {d : Nat} {F : zM} {G : zG} (a1 : Int) : zle (
  zbI (zex d 49 [zI a1, zI 0, zI (zsub (F 71 12) 1)] (F, G, zsg)) (fun v1 F1 G1 =>
  if v1 = 0 ∨ v1 = 1 then some (some (zI v1), F1, G1, zsg) else none)) (zex (d + 1) 103 [zR 71, zI a1] (F, G, zsg)) := by
  refine zle_ent (ls := [zR 71, zI a1]) ?_
  refine zle_many 6 (103, 8, [zR 71, zI a1], [zI (zsub (F 71 12) 1), zI 0, zI a1], F, G, zsg) rfl ?_
  refine zle_I rfl (fun v1 F1 G1 => ?_)
  exact zle_retg rfl
set_option maxRecDepth 20000 in
theorem g_M_actTold {d : Nat} {F : zM} {G : zG} (a1 : Int) (a2 : Int) (a3 : Int) : zle (
  zbI (zex d 103 [zR 71, zI a1] (F, G, zsg)) (fun v1 F1 G1 =>
  if v1 = 0 then
    some (some (zI (-5)), F1, G1, zsg)
  else
    if a3 = 3 then
      if 0 ≤ a1 ∧ a1 < 6 then
        some (some (zI (F1 80 (Int.toNat a1))), F1, G1, zsg)
      else none
    else
      if 0 ≤ a1 ∧ a1 < 6 then
        zbI (zex d 49 [zI a2, zI 0, zI (zsub (F1 80 (Int.toNat a1)) 1)] (F1, G1, zsg)) (fun v2 F2 G2 =>
          if v2 = 0 then
            some (some (zI (-7)), F2, G2, zsg)
          else
            if a3 = 0 then
              if 0 ≤ (zadd (zmul 12 a1) a2) ∧ (zadd (zmul 12 a1) a2) < 72 then
                some (some (zI (F2 81 (Int.toNat (zadd (zmul 12 a1) a2)))), F2, G2, zsg)
              else none
            else
              if a3 = 1 then
                if 0 ≤ (zadd (zmul 12 a1) a2) ∧ (zadd (zmul 12 a1) a2) < 72 then
                  some (some (zI (F2 82 (Int.toNat (zadd (zmul 12 a1) a2)))), F2, G2, zsg)
                else none
              else
                if a3 = 2 then
                  if 0 ≤ (zadd (zmul 12 a1) a2) ∧ (zadd (zmul 12 a1) a2) < 72 then
                    some (some (zI (F2 83 (Int.toNat (zadd (zmul 12 a1) a2)))), F2, G2, zsg)
                  else none
                else
                  some (some (zI (-7)), F2, G2, zsg))
      else none)) (zex (d + 1) 104 [zR 71, zI a1, zI a2, zI a3] (F, G, zsg)) := by
  refine zle_ent (ls := [zR 71, zI a1, zI a2, zI a3, zR 0]) ?_
  refine zle_many 2 (104, 2, [zR 71, zI a1, zI a2, zI a3, zR 0], [zI a1, zR 71], F, G, zsg) rfl ?_
  refine zle_I rfl (fun v1 F1 G1 => ?_)
  refine zle_many 1 (104, (bif zcmp .ne v1 0 then 11 else 8), [zR 71, zI a1, zI a2, zI a3, zR 0], [], F1, G1, zsg) rfl ?_
  refine zle_ne (fun _ => ?_) (fun _ => ?_)
  · refine zle_many 1 (104, 10, [zR 71, zI a1, zI a2, zI a3, zR 0], [zI (-5)], F1, G1, zsg) rfl ?_
    exact zle_ret rfl
  · refine zle_many 3 (104, (bif zcmp .ne a3 3 then 23 else 16), [zR 71, zI a1, zI a2, zI a3, zR 0], [], F1, G1, zsg) rfl ?_
    refine zle_ne (fun _ => ?_) (fun _ => ?_)
    · refine zle_many 3 (104, 21, [zR 71, zI a1, zI a2, zI a3, zR 0], [zI a1, zR 80], F1, G1, zsg) rfl ?_
      refine zle_ald rfl rfl rfl (fun _ => ?_)
      exact zle_ret rfl
    · refine zle_many 5 (104, 30, [zR 71, zI a1, zI a2, zI a3, zR 0], [zI a1, zR 80, zI 0, zI a2], F1, G1, zsg) rfl ?_
      refine zle_ald rfl rfl rfl (fun _ => ?_)
      refine zle_many 2 (104, 33, [zR 71, zI a1, zI a2, zI a3, zR 0], [zI (zsub (F1 80 (Int.toNat a1)) 1), zI 0, zI a2], F1, G1, zsg) rfl ?_
      refine zle_I rfl (fun v2 F2 G2 => ?_)
      refine zle_many 1 (104, (bif zcmp .ne v2 0 then 42 else 39), [zR 71, zI a1, zI a2, zI a3, zR 0], [], F2, G2, zsg) rfl ?_
      refine zle_ne (fun _ => ?_) (fun _ => ?_)
      · refine zle_many 1 (104, 41, [zR 71, zI a1, zI a2, zI a3, zR 0], [zI (-7)], F2, G2, zsg) rfl ?_
        exact zle_ret rfl
      · refine zle_many 8 (104, (bif zcmp .ne a3 0 then 64 else 54), [zR 71, zI a1, zI a2, zI a3, zI (zadd (zmul 12 a1) a2)], [], F2, G2, zsg) rfl ?_
        refine zle_ne (fun _ => ?_) (fun _ => ?_)
        · refine zle_many 3 (104, 60, [zR 71, zI a1, zI a2, zI a3, zI (zadd (zmul 12 a1) a2)], [zI (zadd (zmul 12 a1) a2), zR 81], F2, G2, zsg) rfl ?_
          refine zle_ald rfl rfl rfl (fun _ => ?_)
          refine zle_many 1 (104, 96, [zR 71, zI a1, zI a2, zI a3, zI (zadd (zmul 12 a1) a2)], [zI (F2 81 (Int.toNat (zadd (zmul 12 a1) a2)))], F2, G2, zsg) rfl ?_
          exact zle_ret rfl
        · refine zle_many 3 (104, (bif zcmp .ne a3 1 then 79 else 69), [zR 71, zI a1, zI a2, zI a3, zI (zadd (zmul 12 a1) a2)], [], F2, G2, zsg) rfl ?_
          refine zle_ne (fun _ => ?_) (fun _ => ?_)
          · refine zle_many 3 (104, 75, [zR 71, zI a1, zI a2, zI a3, zI (zadd (zmul 12 a1) a2)], [zI (zadd (zmul 12 a1) a2), zR 82], F2, G2, zsg) rfl ?_
            refine zle_ald rfl rfl rfl (fun _ => ?_)
            refine zle_many 1 (104, 96, [zR 71, zI a1, zI a2, zI a3, zI (zadd (zmul 12 a1) a2)], [zI (F2 82 (Int.toNat (zadd (zmul 12 a1) a2)))], F2, G2, zsg) rfl ?_
            exact zle_ret rfl
          · refine zle_many 3 (104, (bif zcmp .ne a3 2 then 94 else 84), [zR 71, zI a1, zI a2, zI a3, zI (zadd (zmul 12 a1) a2)], [], F2, G2, zsg) rfl ?_
            refine zle_ne (fun _ => ?_) (fun _ => ?_)
            · refine zle_many 3 (104, 90, [zR 71, zI a1, zI a2, zI a3, zI (zadd (zmul 12 a1) a2)], [zI (zadd (zmul 12 a1) a2), zR 83], F2, G2, zsg) rfl ?_
              refine zle_ald rfl rfl rfl (fun _ => ?_)
              refine zle_many 1 (104, 96, [zR 71, zI a1, zI a2, zI a3, zI (zadd (zmul 12 a1) a2)], [zI (F2 83 (Int.toNat (zadd (zmul 12 a1) a2)))], F2, G2, zsg) rfl ?_
              exact zle_ret rfl
            · refine zle_many 1 (104, 96, [zR 71, zI a1, zI a2, zI a3, zI (zadd (zmul 12 a1) a2)], [zI (-7)], F2, G2, zsg) rfl ?_
              exact zle_ret rfl
set_option maxRecDepth 20000 in
theorem g_M_does {d : Nat} {F : zM} {G : zG} (a1 : Int) (a2 : Int) : zle (
  if 0 ≤ a2 ∧ a2 < 72 then
  if (F 81 (Int.toNat a2)) = 0 then
    if 0 ≤ a2 ∧ a2 < 72 then
      zbI (zex d 84 [zR 71, zI a1, zI (F 82 (Int.toNat a2))] (F, G, zsg)) (fun v4 F4 G4 =>
        some (some (zI v4), F4, G4, zsg))
    else none
  else
  if (F 81 (Int.toNat a2)) = 1 then
    if 0 ≤ a2 ∧ a2 < 72 then
      if 0 ≤ a2 ∧ a2 < 72 then
        zbI (zex d 85 [zR 71, zI a1, zI (F 82 (Int.toNat a2)), zI (F 83 (Int.toNat a2))] (F, G, zsg)) (fun v3 F3 G3 =>
          some (some (zI v3), F3, G3, zsg))
      else none
    else none
  else
  if (F 81 (Int.toNat a2)) = 2 then
    zbI (zex d 86 [zR 71, zI a1] (F, G, zsg)) (fun v2 F2 G2 =>
      some (some (zI v2), F2, G2, zsg))
  else
  if (F 81 (Int.toNat a2)) = 3 then
    if 0 ≤ a2 ∧ a2 < 72 then
      zbI (zex d 87 [zR 71, zI a1, zI (F 82 (Int.toNat a2))] (F, G, zsg)) (fun v1 F1 G1 =>
        some (some (zI v1), F1, G1, zsg))
    else none
  else
  some (some (zI 0), F, G, zsg)
else none) (zex (d + 1) 105 [zR 71, zI a1, zI a2] (F, G, zsg)) := by
  refine zle_ent (ls := [zR 71, zI a1, zI a2]) ?_
  refine zle_many 3 (105, 5, [zR 71, zI a1, zI a2], [zI a2, zR 81], F, G, zsg) rfl ?_
  refine zle_ald rfl rfl rfl (fun _ => ?_)
  refine zle_many 1 (105, zsw (F 81 (Int.toNat a2)) [(0, 36), (1, 48), (2, 66), (3, 72)] 84, [zR 71, zI a1, zI a2], [], F, G, zsg) rfl ?_
  refine zle_sw (fun _ => ?_) (fun _ => ?_)
  · refine zle_many 5 (105, 43, [zR 71, zI a1, zI a2], [zI a2, zR 82, zI a1, zR 71], F, G, zsg) rfl ?_
    refine zle_ald rfl rfl rfl (fun _ => ?_)
    refine zle_I rfl (fun v4 F4 G4 => ?_)
    exact zle_ret rfl
  · refine zle_sw (fun _ => ?_) (fun _ => ?_)
    · refine zle_many 5 (105, 55, [zR 71, zI a1, zI a2], [zI a2, zR 82, zI a1, zR 71], F, G, zsg) rfl ?_
      refine zle_ald rfl rfl rfl (fun _ => ?_)
      refine zle_many 3 (105, 61, [zR 71, zI a1, zI a2], [zI a2, zR 83, zI (F 82 (Int.toNat a2)), zI a1, zR 71], F, G, zsg) rfl ?_
      refine zle_ald rfl rfl rfl (fun _ => ?_)
      refine zle_I rfl (fun v3 F3 G3 => ?_)
      exact zle_ret rfl
    · refine zle_sw (fun _ => ?_) (fun _ => ?_)
      · refine zle_many 2 (105, 68, [zR 71, zI a1, zI a2], [zI a1, zR 71], F, G, zsg) rfl ?_
        refine zle_I rfl (fun v2 F2 G2 => ?_)
        exact zle_ret rfl
      · refine zle_sw (fun _ => ?_) (fun _ => ?_)
        · refine zle_many 5 (105, 79, [zR 71, zI a1, zI a2], [zI a2, zR 82, zI a1, zR 71], F, G, zsg) rfl ?_
          refine zle_ald rfl rfl rfl (fun _ => ?_)
          refine zle_I rfl (fun v1 F1 G1 => ?_)
          exact zle_ret rfl
        · refine zle_many 1 (105, 85, [zR 71, zI a1, zI a2], [zI 0], F, G, zsg) rfl ?_
          exact zle_ret rfl
set_option maxRecDepth 20000 in
theorem g_M_plays {d : Nat} {F : zM} {G : zG} (a1 : Int) (a2 : Int) : zle (
  zev zX0 d (106, 2, [zR 71, zI a1, zI a2, zI 0], [], F, G, zsg)) (zex (d + 1) 106 [zR 71, zI a1, zI a2] (F, G, zsg)) := by
  refine zle_ent (ls := [zR 71, zI a1, zI a2, zR 0]) ?_
  refine zle_many 2 (106, 2, [zR 71, zI a1, zI a2, zI 0], [], F, G, zsg) rfl ?_
  exact zle_rfl
set_option maxRecDepth 20000 in
theorem g_M_plays_2 {d : Nat} {F : zM} {G : zG} (l1 : Int) (l2 : Int) (l3 : Int) : zle (
  if 0 ≤ l2 ∧ l2 < 6 then
  if l3 < (F 80 (Int.toNat l2)) then
    zbI (zex d 105 [zR 71, zI l1, zI (zadd (zmul 12 l2) l3)] (F, G, zsg)) (fun v1 F1 G1 =>
      if v1 = 0 then
        zev zX0 d (106, 2, [zR 71, zI l1, zI l2, zI (zadd l3 1)], [], (zup F1 71 43 v1), G1, zsg)
      else
        some (some (zI l3), (zup F1 71 43 v1), G1, zsg))
  else
    some (some (zI (-1)), F, G, zsg)
else none) (zev zX0 d (106, 2, [zR 71, zI l1, zI l2, zI l3], [], F, G, zsg)) := by
  refine zle_many 4 (106, 8, [zR 71, zI l1, zI l2, zI l3], [zI l2, zR 80, zI l3], F, G, zsg) rfl ?_
  refine zle_ald rfl rfl rfl (fun _ => ?_)
  refine zle_many 1 (106, (bif zcmp .ge l3 (F 80 (Int.toNat l2)) then 42 else 12), [zR 71, zI l1, zI l2, zI l3], [], F, G, zsg) rfl ?_
  refine zle_ge (fun _ => ?_) (fun _ => ?_)
  · refine zle_many 8 (106, 21, [zR 71, zI l1, zI l2, zI l3], [zI (zadd (zmul 12 l2) l3), zI l1, zR 71, zR 71], F, G, zsg) rfl ?_
    refine zle_I rfl (fun v1 F1 G1 => ?_)
    refine zle_many 4 (106, (bif zcmp .eq v1 0 then 36 else 34), [zR 71, zI l1, zI l2, zI l3], [], (zup F1 71 43 v1), G1, zsg) rfl ?_
    refine zle_eq (fun _ => ?_) (fun _ => ?_)
    · refine zle_many 2 (106, 2, [zR 71, zI l1, zI l2, zI (zadd l3 1)], [], (zup F1 71 43 v1), G1, zsg) rfl ?_
      exact zle_rfl
    · refine zle_many 1 (106, 35, [zR 71, zI l1, zI l2, zI l3], [zI l3], (zup F1 71 43 v1), G1, zsg) rfl ?_
      exact zle_ret rfl
  · refine zle_many 1 (106, 43, [zR 71, zI l1, zI l2, zI l3], [zI (-1)], F, G, zsg) rfl ?_
    exact zle_ret rfl
set_option maxRecDepth 20000 in
theorem g_M_lays {d : Nat} {F : zM} {G : zG} (a1 : Int) : zle (
  zev zX0 d (107, 2, [zR 71, zI a1, zI 0], [], F, G, zsg)) (zex (d + 1) 107 [zR 71, zI a1] (F, G, zsg)) := by
  refine zle_ent (ls := [zR 71, zI a1, zR 0]) ?_
  refine zle_many 2 (107, 2, [zR 71, zI a1, zI 0], [], F, G, zsg) rfl ?_
  exact zle_rfl
set_option maxRecDepth 20000 in
theorem g_M_lays_2 {d : Nat} {F : zM} {G : zG} (l1 : Int) (l2 : Int) : zle (
  if l2 < 43 then
  if l1 = 0 then
    if 0 ≤ l2 ∧ l2 < 43 then
      if 0 ≤ l2 ∧ l2 < 43 then
        zev zX0 d (107, 2, [zR 71, zI l1, zI (zadd l2 1)], [], (zup F 73 (Int.toNat l2) (F 72 (Int.toNat l2))), G, zsg)
      else none
    else none
  else
    if 0 ≤ l2 ∧ l2 < 43 then
      if 0 ≤ l2 ∧ l2 < 43 then
        zev zX0 d (107, 2, [zR 71, zI l1, zI (zadd l2 1)], [], (zup F 72 (Int.toNat l2) (F 73 (Int.toNat l2))), G, zsg)
      else none
    else none
else
  some (none, F, G, zsg)) (zev zX0 d (107, 2, [zR 71, zI l1, zI l2], [], F, G, zsg)) := by
  refine zle_many 3 (107, (bif zcmp .ge l2 43 then 45 else 8), [zR 71, zI l1, zI l2], [], F, G, zsg) rfl ?_
  refine zle_ge (fun _ => ?_) (fun _ => ?_)
  · refine zle_many 2 (107, (bif zcmp .eq l1 0 then 27 else 12), [zR 71, zI l1, zI l2], [], F, G, zsg) rfl ?_
    refine zle_eq (fun _ => ?_) (fun _ => ?_)
    · refine zle_many 6 (107, 37, [zR 71, zI l1, zI l2], [zI l2, zR 72, zI l2, zR 73], F, G, zsg) rfl ?_
      refine zle_ald rfl rfl rfl (fun _ => ?_)
      refine zle_ast rfl rfl rfl (fun _ => ?_)
      refine zle_many 2 (107, 2, [zR 71, zI l1, zI (zadd l2 1)], [], (zup F 73 (Int.toNat l2) (F 72 (Int.toNat l2))), G, zsg) rfl ?_
      exact zle_rfl
    · refine zle_many 6 (107, 22, [zR 71, zI l1, zI l2], [zI l2, zR 73, zI l2, zR 72], F, G, zsg) rfl ?_
      refine zle_ald rfl rfl rfl (fun _ => ?_)
      refine zle_ast rfl rfl rfl (fun _ => ?_)
      refine zle_many 3 (107, 2, [zR 71, zI l1, zI (zadd l2 1)], [], (zup F 72 (Int.toNat l2) (F 73 (Int.toNat l2))), G, zsg) rfl ?_
      exact zle_rfl
  · exact zle_ret rfl
set_option maxRecDepth 20000 in
theorem g_M_judge {d : Nat} {F : zM} {G : zG} (a1 : Int) (a2 : Int) (a3 : Int) : zle (
  zbI (zex d 52 [zI a1] (F, G, zsg)) (fun v1 F1 G1 =>
  if v1 = 0 then
    some (some (zI (-5)), F1, G1, zsg)
  else
    zbI (zex d 103 [zR 71, zI a2] (F1, G1, zsg)) (fun v2 F2 G2 =>
      if v2 = 0 then
        some (some (zI (-5)), F2, G2, zsg)
      else
        zbI (zex d 49 [zI a3, zI (-1), zI 2] (F2, G2, zsg)) (fun v3 F3 G3 =>
          if v3 = 0 then
            some (some (zI (-7)), F3, G3, zsg)
          else
            zbV (zex d 107 [zR 71, zI 0] (F3, G3, zsg)) (fun F4 G4 =>
              zbI (zex d 106 [zR 71, zI a1, zI a2] (F4, G4, zsg)) (fun v5 F5 G5 =>
                if 0 ≤ (zadd 32 a1) ∧ (zadd 32 a1) < 43 then
                  if 0 ≤ (zadd 32 a1) ∧ (zadd 32 a1) < 43 then
                    if 0 ≤ (zadd 28 a1) ∧ (zadd 28 a1) < 43 then
                      zbV (zex d 107 [zR 71, zI 1] (F5, G5, zsg)) (fun F6 G6 =>
                        if a3 = (-1) then
                        some (some (zI v5), F6, G6, zsg)
                      else
                        if a3 = 0 then
                        if v5 = (-1) then
                        some (some (zI 0), F6, G6, zsg)
                      else
                        some (some (zI (F6 71 43)), F6, G6, zsg)
                      else
                        if a3 = 1 then
                        some (some (zI (zsub (F5 72 (Int.toNat (zadd 32 a1))) (F5 73 (Int.toNat (zadd 32 a1))))), F6, G6, zsg)
                      else
                        some (some (zI (F5 72 (Int.toNat (zadd 28 a1)))), F6, G6, zsg))
                    else none
                  else none
                else none)))))) (zex (d + 1) 108 [zR 71, zI a1, zI a2, zI a3] (F, G, zsg)) := by
  refine zle_ent (ls := [zR 71, zI a1, zI a2, zI a3, zR 0, zR 0, zR 0]) ?_
  refine zle_many 1 (108, 1, [zR 71, zI a1, zI a2, zI a3, zR 0, zR 0, zR 0], [zI a1], F, G, zsg) rfl ?_
  refine zle_I rfl (fun v1 F1 G1 => ?_)
  refine zle_many 1 (108, (bif zcmp .eq v1 0 then 15 else 7), [zR 71, zI a1, zI a2, zI a3, zR 0, zR 0, zR 0], [], F1, G1, zsg) rfl ?_
  refine zle_eq (fun _ => ?_) (fun _ => ?_)
  · refine zle_many 1 (108, 17, [zR 71, zI a1, zI a2, zI a3, zR 0, zR 0, zR 0], [zI (-5)], F1, G1, zsg) rfl ?_
    exact zle_ret rfl
  · refine zle_many 2 (108, 9, [zR 71, zI a1, zI a2, zI a3, zR 0, zR 0, zR 0], [zI a2, zR 71], F1, G1, zsg) rfl ?_
    refine zle_I rfl (fun v2 F2 G2 => ?_)
    refine zle_many 1 (108, (bif zcmp .ne v2 0 then 18 else 15), [zR 71, zI a1, zI a2, zI a3, zR 0, zR 0, zR 0], [], F2, G2, zsg) rfl ?_
    refine zle_ne (fun _ => ?_) (fun _ => ?_)
    · refine zle_many 1 (108, 17, [zR 71, zI a1, zI a2, zI a3, zR 0, zR 0, zR 0], [zI (-5)], F2, G2, zsg) rfl ?_
      exact zle_ret rfl
    · refine zle_many 3 (108, 21, [zR 71, zI a1, zI a2, zI a3, zR 0, zR 0, zR 0], [zI 2, zI (-1), zI a3], F2, G2, zsg) rfl ?_
      refine zle_I rfl (fun v3 F3 G3 => ?_)
      refine zle_many 1 (108, (bif zcmp .ne v3 0 then 30 else 27), [zR 71, zI a1, zI a2, zI a3, zR 0, zR 0, zR 0], [], F3, G3, zsg) rfl ?_
      refine zle_ne (fun _ => ?_) (fun _ => ?_)
      · refine zle_many 1 (108, 29, [zR 71, zI a1, zI a2, zI a3, zR 0, zR 0, zR 0], [zI (-7)], F3, G3, zsg) rfl ?_
        exact zle_ret rfl
      · refine zle_many 2 (108, 32, [zR 71, zI a1, zI a2, zI a3, zR 0, zR 0, zR 0], [zI 0, zR 71], F3, G3, zsg) rfl ?_
        refine zle_V rfl (fun F4 G4 => ?_)
        refine zle_many 3 (108, 38, [zR 71, zI a1, zI a2, zI a3, zR 0, zR 0, zR 0], [zI a2, zI a1, zR 71], F4, G4, zsg) rfl ?_
        refine zle_I rfl (fun v5 F5 G5 => ?_)
        refine zle_many 6 (108, 51, [zR 71, zI a1, zI a2, zI a3, zI v5, zR 0, zR 0], [zI (zadd 32 a1), zR 72], F5, G5, zsg) rfl ?_
        refine zle_ald rfl rfl rfl (fun _ => ?_)
        refine zle_many 5 (108, 60, [zR 71, zI a1, zI a2, zI a3, zI v5, zR 0, zR 0], [zI (zadd 32 a1), zR 73, zI (F5 72 (Int.toNat (zadd 32 a1)))], F5, G5, zsg) rfl ?_
        refine zle_ald rfl rfl rfl (fun _ => ?_)
        refine zle_many 7 (108, 72, [zR 71, zI a1, zI a2, zI a3, zI v5, zI (zsub (F5 72 (Int.toNat (zadd 32 a1))) (F5 73 (Int.toNat (zadd 32 a1)))), zR 0], [zI (zadd 28 a1), zR 72], F5, G5, zsg) rfl ?_
        refine zle_ald rfl rfl rfl (fun _ => ?_)
        refine zle_many 3 (108, 77, [zR 71, zI a1, zI a2, zI a3, zI v5, zI (zsub (F5 72 (Int.toNat (zadd 32 a1))) (F5 73 (Int.toNat (zadd 32 a1)))), zI (F5 72 (Int.toNat (zadd 28 a1)))], [zI 1, zR 71], F5, G5, zsg) rfl ?_
        refine zle_V rfl (fun F6 G6 => ?_)
        refine zle_many 3 (108, (bif zcmp .ne a3 (-1) then 90 else 85), [zR 71, zI a1, zI a2, zI a3, zI v5, zI (zsub (F5 72 (Int.toNat (zadd 32 a1))) (F5 73 (Int.toNat (zadd 32 a1)))), zI (F5 72 (Int.toNat (zadd 28 a1)))], [], F6, G6, zsg) rfl ?_
        refine zle_ne (fun _ => ?_) (fun _ => ?_)
        · refine zle_many 2 (108, 123, [zR 71, zI a1, zI a2, zI a3, zI v5, zI (zsub (F5 72 (Int.toNat (zadd 32 a1))) (F5 73 (Int.toNat (zadd 32 a1)))), zI (F5 72 (Int.toNat (zadd 28 a1)))], [zI v5], F6, G6, zsg) rfl ?_
          exact zle_ret rfl
        · refine zle_many 2 (108, (bif zcmp .ne a3 0 then 111 else 94), [zR 71, zI a1, zI a2, zI a3, zI v5, zI (zsub (F5 72 (Int.toNat (zadd 32 a1))) (F5 73 (Int.toNat (zadd 32 a1)))), zI (F5 72 (Int.toNat (zadd 28 a1)))], [], F6, G6, zsg) rfl ?_
          refine zle_ne (fun _ => ?_) (fun _ => ?_)
          · refine zle_many 3 (108, (bif zcmp .ne v5 (-1) then 104 else 100), [zR 71, zI a1, zI a2, zI a3, zI v5, zI (zsub (F5 72 (Int.toNat (zadd 32 a1))) (F5 73 (Int.toNat (zadd 32 a1)))), zI (F5 72 (Int.toNat (zadd 28 a1)))], [], F6, G6, zsg) rfl ?_
            refine zle_ne (fun _ => ?_) (fun _ => ?_)
            · refine zle_many 2 (108, 123, [zR 71, zI a1, zI a2, zI a3, zI v5, zI (zsub (F5 72 (Int.toNat (zadd 32 a1))) (F5 73 (Int.toNat (zadd 32 a1)))), zI (F5 72 (Int.toNat (zadd 28 a1)))], [zI 0], F6, G6, zsg) rfl ?_
              exact zle_ret rfl
            · refine zle_many 3 (108, 123, [zR 71, zI a1, zI a2, zI a3, zI v5, zI (zsub (F5 72 (Int.toNat (zadd 32 a1))) (F5 73 (Int.toNat (zadd 32 a1)))), zI (F5 72 (Int.toNat (zadd 28 a1)))], [zI (F6 71 43)], F6, G6, zsg) rfl ?_
              exact zle_ret rfl
          · refine zle_many 3 (108, (bif zcmp .ne a3 1 then 121 else 116), [zR 71, zI a1, zI a2, zI a3, zI v5, zI (zsub (F5 72 (Int.toNat (zadd 32 a1))) (F5 73 (Int.toNat (zadd 32 a1)))), zI (F5 72 (Int.toNat (zadd 28 a1)))], [], F6, G6, zsg) rfl ?_
            refine zle_ne (fun _ => ?_) (fun _ => ?_)
            · refine zle_many 2 (108, 123, [zR 71, zI a1, zI a2, zI a3, zI v5, zI (zsub (F5 72 (Int.toNat (zadd 32 a1))) (F5 73 (Int.toNat (zadd 32 a1)))), zI (F5 72 (Int.toNat (zadd 28 a1)))], [zI (zsub (F5 72 (Int.toNat (zadd 32 a1))) (F5 73 (Int.toNat (zadd 32 a1))))], F6, G6, zsg) rfl ?_
              exact zle_ret rfl
            · refine zle_many 1 (108, 123, [zR 71, zI a1, zI a2, zI a3, zI v5, zI (zsub (F5 72 (Int.toNat (zadd 32 a1))) (F5 73 (Int.toNat (zadd 32 a1)))), zI (F5 72 (Int.toNat (zadd 28 a1)))], [zI (F5 72 (Int.toNat (zadd 28 a1)))], F6, G6, zsg) rfl ?_
              exact zle_ret rfl
set_option maxRecDepth 20000 in
theorem g_M_play {d : Nat} {F : zM} {G : zG} (a1 : Int) (a2 : Int) : zle (
  zbI (zex d 52 [zI a1] (F, G, zsg)) (fun v1 F1 G1 =>
  if v1 = 0 then
    some (some (zI (-5)), F1, G1, zsg)
  else
    zbI (zex d 103 [zR 71, zI a2] (F1, G1, zsg)) (fun v2 F2 G2 =>
      if v2 = 0 then
        some (some (zI (-5)), F2, G2, zsg)
      else
        zbV (zex d 107 [zR 71, zI 0] (F2, G2, zsg)) (fun F3 G3 =>
          zbI (zex d 106 [zR 71, zI a1, zI a2] (F3, G3, zsg)) (fun v4 F4 G4 =>
            if v4 = (-1) then
              if 0 ≤ (zadd 32 a1) ∧ (zadd 32 a1) < 43 then
                some (some (zI (F4 72 (Int.toNat (zadd 32 a1)))), F4, G4, zsg)
              else none
            else
              zbV (zex d 107 [zR 71, zI 1] (F4, G4, zsg)) (fun F5 G5 =>
                some (some (zI (zsub (-10) (F5 71 43))), F5, G5, zsg))))))) (zex (d + 1) 109 [zR 71, zI a1, zI a2] (F, G, zsg)) := by
  refine zle_ent (ls := [zR 71, zI a1, zI a2]) ?_
  refine zle_many 1 (109, 1, [zR 71, zI a1, zI a2], [zI a1], F, G, zsg) rfl ?_
  refine zle_I rfl (fun v1 F1 G1 => ?_)
  refine zle_many 1 (109, (bif zcmp .eq v1 0 then 15 else 7), [zR 71, zI a1, zI a2], [], F1, G1, zsg) rfl ?_
  refine zle_eq (fun _ => ?_) (fun _ => ?_)
  · refine zle_many 1 (109, 17, [zR 71, zI a1, zI a2], [zI (-5)], F1, G1, zsg) rfl ?_
    exact zle_ret rfl
  · refine zle_many 2 (109, 9, [zR 71, zI a1, zI a2], [zI a2, zR 71], F1, G1, zsg) rfl ?_
    refine zle_I rfl (fun v2 F2 G2 => ?_)
    refine zle_many 1 (109, (bif zcmp .ne v2 0 then 18 else 15), [zR 71, zI a1, zI a2], [], F2, G2, zsg) rfl ?_
    refine zle_ne (fun _ => ?_) (fun _ => ?_)
    · refine zle_many 1 (109, 17, [zR 71, zI a1, zI a2], [zI (-5)], F2, G2, zsg) rfl ?_
      exact zle_ret rfl
    · refine zle_many 2 (109, 20, [zR 71, zI a1, zI a2], [zI 0, zR 71], F2, G2, zsg) rfl ?_
      refine zle_V rfl (fun F3 G3 => ?_)
      refine zle_many 3 (109, 26, [zR 71, zI a1, zI a2], [zI a2, zI a1, zR 71], F3, G3, zsg) rfl ?_
      refine zle_I rfl (fun v4 F4 G4 => ?_)
      refine zle_many 2 (109, (bif zcmp .eq v4 (-1) then 46 else 33), [zR 71, zI a1, zI a2], [], F4, G4, zsg) rfl ?_
      refine zle_eq (fun _ => ?_) (fun _ => ?_)
      · refine zle_many 5 (109, 54, [zR 71, zI a1, zI a2], [zI (zadd 32 a1), zR 72], F4, G4, zsg) rfl ?_
        refine zle_ald rfl rfl rfl (fun _ => ?_)
        exact zle_ret rfl
      · refine zle_many 2 (109, 35, [zR 71, zI a1, zI a2], [zI 1, zR 71], F4, G4, zsg) rfl ?_
        refine zle_V rfl (fun F5 G5 => ?_)
        refine zle_many 4 (109, 45, [zR 71, zI a1, zI a2], [zI (zsub (-10) (F5 71 43))], F5, G5, zsg) rfl ?_
        exact zle_ret rfl
set_option maxRecDepth 20000 in
theorem g_M_start {d : Nat} {F : zM} {G : zG} (a1 : Int) (a2 : Int) : zle (
  zbI (zex d 52 [zI a1] (F, G, zsg)) (fun v1 F1 G1 =>
  if v1 = 0 then
    some (some (zI (-5)), F1, G1, zsg)
  else
    zbI (zex d 103 [zR 71, zI a2] (F1, G1, zsg)) (fun v2 F2 G2 =>
      if v2 = 0 then
        some (some (zI (-5)), F2, G2, zsg)
      else
        if 0 ≤ (zadd 34 a1) ∧ (zadd 34 a1) < 43 then
          if (F2 72 (Int.toNat (zadd 34 a1))) = (-1) then
            if 0 ≤ (zadd 34 a1) ∧ (zadd 34 a1) < 43 then
              if 0 ≤ (zadd 36 a1) ∧ (zadd 36 a1) < 43 then
                if 0 ≤ (zadd 38 a1) ∧ (zadd 38 a1) < 43 then
                  if 0 ≤ (zadd 40 a1) ∧ (zadd 40 a1) < 43 then
                    some (some (zI a2), (zup (zup (zup (zup F2 72 (Int.toNat (zadd 34 a1)) a2) 72 (Int.toNat (zadd 36 a1)) 0) 72 (Int.toNat (zadd 38 a1)) 0) 72 (Int.toNat (zadd 40 a1)) 0), G2, zsg)
                  else none
                else none
              else none
            else none
          else
            some (some (zI (-3)), F2, G2, zsg)
        else none))) (zex (d + 1) 110 [zR 71, zI a1, zI a2] (F, G, zsg)) := by
  refine zle_ent (ls := [zR 71, zI a1, zI a2]) ?_
  refine zle_many 1 (110, 1, [zR 71, zI a1, zI a2], [zI a1], F, G, zsg) rfl ?_
  refine zle_I rfl (fun v1 F1 G1 => ?_)
  refine zle_many 1 (110, (bif zcmp .eq v1 0 then 15 else 7), [zR 71, zI a1, zI a2], [], F1, G1, zsg) rfl ?_
  refine zle_eq (fun _ => ?_) (fun _ => ?_)
  · refine zle_many 1 (110, 17, [zR 71, zI a1, zI a2], [zI (-5)], F1, G1, zsg) rfl ?_
    exact zle_ret rfl
  · refine zle_many 2 (110, 9, [zR 71, zI a1, zI a2], [zI a2, zR 71], F1, G1, zsg) rfl ?_
    refine zle_I rfl (fun v2 F2 G2 => ?_)
    refine zle_many 1 (110, (bif zcmp .ne v2 0 then 18 else 15), [zR 71, zI a1, zI a2], [], F2, G2, zsg) rfl ?_
    refine zle_ne (fun _ => ?_) (fun _ => ?_)
    · refine zle_many 1 (110, 17, [zR 71, zI a1, zI a2], [zI (-5)], F2, G2, zsg) rfl ?_
      exact zle_ret rfl
    · refine zle_many 5 (110, 26, [zR 71, zI a1, zI a2], [zI (zadd 34 a1), zR 72], F2, G2, zsg) rfl ?_
      refine zle_ald rfl rfl rfl (fun _ => ?_)
      refine zle_many 2 (110, (bif zcmp .eq (F2 72 (Int.toNat (zadd 34 a1))) (-1) then 34 else 31), [zR 71, zI a1, zI a2], [], F2, G2, zsg) rfl ?_
      refine zle_eq (fun _ => ?_) (fun _ => ?_)
      · refine zle_many 6 (110, 43, [zR 71, zI a1, zI a2], [zI a2, zI (zadd 34 a1), zR 72], F2, G2, zsg) rfl ?_
        refine zle_ast rfl rfl rfl (fun _ => ?_)
        refine zle_many 6 (110, 53, [zR 71, zI a1, zI a2], [zI 0, zI (zadd 36 a1), zR 72], (zup F2 72 (Int.toNat (zadd 34 a1)) a2), G2, zsg) rfl ?_
        refine zle_ast rfl rfl rfl (fun _ => ?_)
        refine zle_many 6 (110, 63, [zR 71, zI a1, zI a2], [zI 0, zI (zadd 38 a1), zR 72], (zup (zup F2 72 (Int.toNat (zadd 34 a1)) a2) 72 (Int.toNat (zadd 36 a1)) 0), G2, zsg) rfl ?_
        refine zle_ast rfl rfl rfl (fun _ => ?_)
        refine zle_many 6 (110, 73, [zR 71, zI a1, zI a2], [zI 0, zI (zadd 40 a1), zR 72], (zup (zup (zup F2 72 (Int.toNat (zadd 34 a1)) a2) 72 (Int.toNat (zadd 36 a1)) 0) 72 (Int.toNat (zadd 38 a1)) 0), G2, zsg) rfl ?_
        refine zle_ast rfl rfl rfl (fun _ => ?_)
        refine zle_many 1 (110, 75, [zR 71, zI a1, zI a2], [zI a2], (zup (zup (zup (zup F2 72 (Int.toNat (zadd 34 a1)) a2) 72 (Int.toNat (zadd 36 a1)) 0) 72 (Int.toNat (zadd 38 a1)) 0) 72 (Int.toNat (zadd 40 a1)) 0), G2, zsg) rfl ?_
        exact zle_ret rfl
      · refine zle_many 1 (110, 33, [zR 71, zI a1, zI a2], [zI (-3)], F2, G2, zsg) rfl ?_
        exact zle_ret rfl
set_option maxRecDepth 20000 in
theorem g_M_steps {d : Nat} {F : zM} {G : zG} (a1 : Int) (a2 : Int) : zle (
  if 0 ≤ (zadd 28 a1) ∧ (zadd 28 a1) < 43 then
  if (F 72 (Int.toNat (zadd 28 a1))) = (-1) then
    some (some (zI 0), F, G, zsg)
  else
    zbV (zex d 67 [zR 71, zI a1] (F, G, zsg)) (fun F1 G1 =>
      if 0 ≤ a2 ∧ a2 < 64 then
        if (F1 99 (Int.toNat a2)) = 1000 then
          some (some (zI 0), F1, G1, zsg)
        else
          zbI (zex d 70 [zR 71, zI a1, zI a2, zI 1] (F1, G1, zsg)) (fun v2 F2 G2 =>
            zbV (zex d 83 [zR 71, zI a1, zI v2] (F2, G2, zsg)) (fun F3 G3 =>
              if 0 ≤ (zadd 32 a1) ∧ (zadd 32 a1) < 43 then
                if 0 ≤ (zadd 32 a1) ∧ (zadd 32 a1) < 43 then
                  some (some (zI 1), (zup F3 72 (Int.toNat (zadd 32 a1)) (zadd (F3 72 (Int.toNat (zadd 32 a1))) 1)), G3, zsg)
                else none
              else none))
      else none)
else none) (zex (d + 1) 111 [zR 71, zI a1, zI a2] (F, G, zsg)) := by
  refine zle_ent (ls := [zR 71, zI a1, zI a2]) ?_
  refine zle_many 5 (111, 8, [zR 71, zI a1, zI a2], [zI (zadd 28 a1), zR 72], F, G, zsg) rfl ?_
  refine zle_ald rfl rfl rfl (fun _ => ?_)
  refine zle_many 2 (111, (bif zcmp .ne (F 72 (Int.toNat (zadd 28 a1))) (-1) then 15 else 13), [zR 71, zI a1, zI a2], [], F, G, zsg) rfl ?_
  refine zle_ne (fun _ => ?_) (fun _ => ?_)
  · refine zle_many 1 (111, 14, [zR 71, zI a1, zI a2], [zI 0], F, G, zsg) rfl ?_
    exact zle_ret rfl
  · refine zle_many 2 (111, 17, [zR 71, zI a1, zI a2], [zI a1, zR 71], F, G, zsg) rfl ?_
    refine zle_V rfl (fun F1 G1 => ?_)
    refine zle_many 3 (111, 25, [zR 71, zI a1, zI a2], [zI a2, zR 99], F1, G1, zsg) rfl ?_
    refine zle_ald rfl rfl rfl (fun _ => ?_)
    refine zle_many 2 (111, (bif zcmp .ne (F1 99 (Int.toNat a2)) 1000 then 34 else 32), [zR 71, zI a1, zI a2], [], F1, G1, zsg) rfl ?_
    refine zle_ne (fun _ => ?_) (fun _ => ?_)
    · refine zle_many 1 (111, 33, [zR 71, zI a1, zI a2], [zI 0], F1, G1, zsg) rfl ?_
      exact zle_ret rfl
    · refine zle_many 6 (111, 40, [zR 71, zI a1, zI a2], [zI 1, zI a2, zI a1, zR 71, zI a1, zR 71], F1, G1, zsg) rfl ?_
      refine zle_I rfl (fun v2 F2 G2 => ?_)
      refine zle_V rfl (fun F3 G3 => ?_)
      refine zle_many 6 (111, 55, [zR 71, zI a1, zI a2], [zI (zadd 32 a1), zR 72, zI (zadd 32 a1), zR 72], F3, G3, zsg) rfl ?_
      refine zle_ald rfl rfl rfl (fun _ => ?_)
      refine zle_many 2 (111, 58, [zR 71, zI a1, zI a2], [zI (zadd (F3 72 (Int.toNat (zadd 32 a1))) 1), zI (zadd 32 a1), zR 72], F3, G3, zsg) rfl ?_
      refine zle_ast rfl rfl rfl (fun _ => ?_)
      refine zle_many 1 (111, 60, [zR 71, zI a1, zI a2], [zI 1], (zup F3 72 (Int.toNat (zadd 32 a1)) (zadd (F3 72 (Int.toNat (zadd 32 a1))) 1)), G3, zsg) rfl ?_
      exact zle_ret rfl
set_option maxRecDepth 20000 in
theorem g_M_ticks {d : Nat} {F : zM} {G : zG} (a1 : Int) : zle (
  if 0 ≤ (zadd 34 a1) ∧ (zadd 34 a1) < 43 then
  if 0 ≤ (zadd 36 a1) ∧ (zadd 36 a1) < 43 then
    if 0 ≤ (F 72 (Int.toNat (zadd 34 a1))) ∧ (F 72 (Int.toNat (zadd 34 a1))) < 6 then
      if (F 72 (Int.toNat (zadd 36 a1))) = (F 80 (Int.toNat (F 72 (Int.toNat (zadd 34 a1))))) then
        if 0 ≤ (zadd 34 a1) ∧ (zadd 34 a1) < 43 then
          some (none, (zup F 72 (Int.toNat (zadd 34 a1)) (-1)), G, zsg)
        else none
      else
        if 0 ≤ (zadd 36 a1) ∧ (zadd 36 a1) < 43 then
          if 0 ≤ (zadd (zmul 12 (F 72 (Int.toNat (zadd 34 a1)))) (F 72 (Int.toNat (zadd 36 a1)))) ∧ (zadd (zmul 12 (F 72 (Int.toNat (zadd 34 a1)))) (F 72 (Int.toNat (zadd 36 a1)))) < 72 then
            if (F 81 (Int.toNat (zadd (zmul 12 (F 72 (Int.toNat (zadd 34 a1)))) (F 72 (Int.toNat (zadd 36 a1)))))) = 4 then
              if 0 ≤ (zadd 38 a1) ∧ (zadd 38 a1) < 43 then
                if 0 ≤ (zadd 38 a1) ∧ (zadd 38 a1) < 43 then
                  if 0 ≤ (zadd 38 a1) ∧ (zadd 38 a1) < 43 then
                    if 0 ≤ (zadd (zmul 12 (F 72 (Int.toNat (zadd 34 a1)))) (F 72 (Int.toNat (zadd 36 a1)))) ∧ (zadd (zmul 12 (F 72 (Int.toNat (zadd 34 a1)))) (F 72 (Int.toNat (zadd 36 a1)))) < 72 then
                      if ((zup F 72 (Int.toNat (zadd 38 a1)) (zadd (F 72 (Int.toNat (zadd 38 a1))) 1)) 72 (Int.toNat (zadd 38 a1))) < (F 82 (Int.toNat (zadd (zmul 12 (F 72 (Int.toNat (zadd 34 a1)))) (F 72 (Int.toNat (zadd 36 a1)))))) then
                        if 0 ≤ (zadd 40 a1) ∧ (zadd 40 a1) < 43 then
                        if 0 ≤ (zadd 40 a1) ∧ (zadd 40 a1) < 43 then
                        some (none, (zup (zup F 72 (Int.toNat (zadd 38 a1)) (zadd (F 72 (Int.toNat (zadd 38 a1))) 1)) 72 (Int.toNat (zadd 40 a1)) (zadd ((zup F 72 (Int.toNat (zadd 38 a1)) (zadd (F 72 (Int.toNat (zadd 38 a1))) 1)) 72 (Int.toNat (zadd 40 a1))) 0)), G, zsg)
                      else none
                      else none
                      else
                        if 0 ≤ (zadd 40 a1) ∧ (zadd 40 a1) < 43 then
                        if 0 ≤ (zadd 40 a1) ∧ (zadd 40 a1) < 43 then
                        if 0 ≤ (zadd 36 a1) ∧ (zadd 36 a1) < 43 then
                        if 0 ≤ (zadd 36 a1) ∧ (zadd 36 a1) < 43 then
                        if 0 ≤ (zadd 38 a1) ∧ (zadd 38 a1) < 43 then
                        if 0 ≤ (zadd 40 a1) ∧ (zadd 40 a1) < 43 then
                        some (none, (zup (zup (zup (zup (zup F 72 (Int.toNat (zadd 38 a1)) (zadd (F 72 (Int.toNat (zadd 38 a1))) 1)) 72 (Int.toNat (zadd 40 a1)) (zadd ((zup F 72 (Int.toNat (zadd 38 a1)) (zadd (F 72 (Int.toNat (zadd 38 a1))) 1)) 72 (Int.toNat (zadd 40 a1))) 0)) 72 (Int.toNat (zadd 36 a1)) (zadd ((zup (zup F 72 (Int.toNat (zadd 38 a1)) (zadd (F 72 (Int.toNat (zadd 38 a1))) 1)) 72 (Int.toNat (zadd 40 a1)) (zadd ((zup F 72 (Int.toNat (zadd 38 a1)) (zadd (F 72 (Int.toNat (zadd 38 a1))) 1)) 72 (Int.toNat (zadd 40 a1))) 0)) 72 (Int.toNat (zadd 36 a1))) 1)) 72 (Int.toNat (zadd 38 a1)) 0) 72 (Int.toNat (zadd 40 a1)) 0), G, zsg)
                      else none
                      else none
                      else none
                      else none
                      else none
                      else none
                    else none
                  else none
                else none
              else none
            else
              if 0 ≤ (zadd (zmul 12 (F 72 (Int.toNat (zadd 34 a1)))) (F 72 (Int.toNat (zadd 36 a1)))) ∧ (zadd (zmul 12 (F 72 (Int.toNat (zadd 34 a1)))) (F 72 (Int.toNat (zadd 36 a1)))) < 72 then
                if (F 81 (Int.toNat (zadd (zmul 12 (F 72 (Int.toNat (zadd 34 a1)))) (F 72 (Int.toNat (zadd 36 a1)))))) = 0 then
                  if 0 ≤ (zadd 28 a1) ∧ (zadd 28 a1) < 43 then
                    if 0 ≤ (zadd (zmul 12 (F 72 (Int.toNat (zadd 34 a1)))) (F 72 (Int.toNat (zadd 36 a1)))) ∧ (zadd (zmul 12 (F 72 (Int.toNat (zadd 34 a1)))) (F 72 (Int.toNat (zadd 36 a1)))) < 72 then
                      if (F 72 (Int.toNat (zadd 28 a1))) = (F 82 (Int.toNat (zadd (zmul 12 (F 72 (Int.toNat (zadd 34 a1)))) (F 72 (Int.toNat (zadd 36 a1)))))) then
                        if 0 ≤ (zadd 28 a1) ∧ (zadd 28 a1) < 43 then
                        if 0 ≤ (zadd (zmul 12 (F 72 (Int.toNat (zadd 34 a1)))) (F 72 (Int.toNat (zadd 36 a1)))) ∧ (zadd (zmul 12 (F 72 (Int.toNat (zadd 34 a1)))) (F 72 (Int.toNat (zadd 36 a1)))) < 72 then
                        if (F 72 (Int.toNat (zadd 28 a1))) = (F 82 (Int.toNat (zadd (zmul 12 (F 72 (Int.toNat (zadd 34 a1)))) (F 72 (Int.toNat (zadd 36 a1)))))) then
                        if 0 ≤ (zadd 40 a1) ∧ (zadd 40 a1) < 43 then
                        if 0 ≤ (zadd 40 a1) ∧ (zadd 40 a1) < 43 then
                        if 0 ≤ (zadd 40 a1) ∧ (zadd 40 a1) < 43 then
                        if 0 ≤ (zadd 36 a1) ∧ (zadd 36 a1) < 43 then
                        if 0 ≤ (zadd 36 a1) ∧ (zadd 36 a1) < 43 then
                        if 0 ≤ (zadd 38 a1) ∧ (zadd 38 a1) < 43 then
                        if 0 ≤ (zadd 40 a1) ∧ (zadd 40 a1) < 43 then
                        some (none, (zup (zup (zup (zup (zup F 72 (Int.toNat (zadd 40 a1)) 0) 72 (Int.toNat (zadd 40 a1)) (zadd ((zup F 72 (Int.toNat (zadd 40 a1)) 0) 72 (Int.toNat (zadd 40 a1))) 0)) 72 (Int.toNat (zadd 36 a1)) (zadd ((zup (zup F 72 (Int.toNat (zadd 40 a1)) 0) 72 (Int.toNat (zadd 40 a1)) (zadd ((zup F 72 (Int.toNat (zadd 40 a1)) 0) 72 (Int.toNat (zadd 40 a1))) 0)) 72 (Int.toNat (zadd 36 a1))) 1)) 72 (Int.toNat (zadd 38 a1)) 0) 72 (Int.toNat (zadd 40 a1)) 0), G, zsg)
                      else none
                      else none
                      else none
                      else none
                      else none
                      else none
                      else none
                      else
                        if 0 ≤ (zadd 40 a1) ∧ (zadd 40 a1) < 43 then
                        if 0 ≤ (zadd 40 a1) ∧ (zadd 40 a1) < 43 then
                        if 0 ≤ (zadd 40 a1) ∧ (zadd 40 a1) < 43 then
                        some (none, (zup (zup F 72 (Int.toNat (zadd 40 a1)) 0) 72 (Int.toNat (zadd 40 a1)) (zadd ((zup F 72 (Int.toNat (zadd 40 a1)) 0) 72 (Int.toNat (zadd 40 a1))) 0)), G, zsg)
                      else none
                      else none
                      else none
                      else none
                      else none
                      else
                        if 0 ≤ (zadd (zmul 12 (F 72 (Int.toNat (zadd 34 a1)))) (F 72 (Int.toNat (zadd 36 a1)))) ∧ (zadd (zmul 12 (F 72 (Int.toNat (zadd 34 a1)))) (F 72 (Int.toNat (zadd 36 a1)))) < 72 then
                        zbI (zex d 111 [zR 71, zI a1, zI (F 82 (Int.toNat (zadd (zmul 12 (F 72 (Int.toNat (zadd 34 a1)))) (F 72 (Int.toNat (zadd 36 a1))))))] (F, G, zsg)) (fun v2 F2 G2 =>
                        if v2 = 0 then
                        if 0 ≤ (zadd 28 a1) ∧ (zadd 28 a1) < 43 then
                        if 0 ≤ (zadd (zmul 12 (F 72 (Int.toNat (zadd 34 a1)))) (F 72 (Int.toNat (zadd 36 a1)))) ∧ (zadd (zmul 12 (F 72 (Int.toNat (zadd 34 a1)))) (F 72 (Int.toNat (zadd 36 a1)))) < 72 then
                        if (F2 72 (Int.toNat (zadd 28 a1))) = (F2 82 (Int.toNat (zadd (zmul 12 (F 72 (Int.toNat (zadd 34 a1)))) (F 72 (Int.toNat (zadd 36 a1)))))) then
                        if 0 ≤ (zadd 40 a1) ∧ (zadd 40 a1) < 43 then
                        if 0 ≤ (zadd 40 a1) ∧ (zadd 40 a1) < 43 then
                        if 0 ≤ (zadd 40 a1) ∧ (zadd 40 a1) < 43 then
                        if 0 ≤ (zadd 40 a1) ∧ (zadd 40 a1) < 43 then
                        if 0 ≤ (zadd 36 a1) ∧ (zadd 36 a1) < 43 then
                        if 0 ≤ (zadd 36 a1) ∧ (zadd 36 a1) < 43 then
                        if 0 ≤ (zadd 38 a1) ∧ (zadd 38 a1) < 43 then
                        if 0 ≤ (zadd 40 a1) ∧ (zadd 40 a1) < 43 then
                        some (none, (zup (zup (zup (zup (zup F2 72 (Int.toNat (zadd 40 a1)) (F2 72 (Int.toNat (zadd 40 a1)))) 72 (Int.toNat (zadd 40 a1)) (zadd ((zup F2 72 (Int.toNat (zadd 40 a1)) (F2 72 (Int.toNat (zadd 40 a1)))) 72 (Int.toNat (zadd 40 a1))) 1)) 72 (Int.toNat (zadd 36 a1)) (zadd ((zup (zup F2 72 (Int.toNat (zadd 40 a1)) (F2 72 (Int.toNat (zadd 40 a1)))) 72 (Int.toNat (zadd 40 a1)) (zadd ((zup F2 72 (Int.toNat (zadd 40 a1)) (F2 72 (Int.toNat (zadd 40 a1)))) 72 (Int.toNat (zadd 40 a1))) 1)) 72 (Int.toNat (zadd 36 a1))) 1)) 72 (Int.toNat (zadd 38 a1)) 0) 72 (Int.toNat (zadd 40 a1)) 0), G2, zsg)
                      else none
                      else none
                      else none
                      else none
                      else none
                      else none
                      else none
                      else none
                      else
                        if 0 ≤ (zadd 40 a1) ∧ (zadd 40 a1) < 43 then
                        if 0 ≤ (zadd 40 a1) ∧ (zadd 40 a1) < 43 then
                        if 0 ≤ (zadd 40 a1) ∧ (zadd 40 a1) < 43 then
                        if 0 ≤ (zadd 40 a1) ∧ (zadd 40 a1) < 43 then
                        some (none, (zup (zup F2 72 (Int.toNat (zadd 40 a1)) (F2 72 (Int.toNat (zadd 40 a1)))) 72 (Int.toNat (zadd 40 a1)) (zadd ((zup F2 72 (Int.toNat (zadd 40 a1)) (F2 72 (Int.toNat (zadd 40 a1)))) 72 (Int.toNat (zadd 40 a1))) 1)), G2, zsg)
                      else none
                      else none
                      else none
                      else none
                      else none
                      else none
                      else
                        if 0 ≤ (zadd 28 a1) ∧ (zadd 28 a1) < 43 then
                        if 0 ≤ (zadd (zmul 12 (F 72 (Int.toNat (zadd 34 a1)))) (F 72 (Int.toNat (zadd 36 a1)))) ∧ (zadd (zmul 12 (F 72 (Int.toNat (zadd 34 a1)))) (F 72 (Int.toNat (zadd 36 a1)))) < 72 then
                        if (F2 72 (Int.toNat (zadd 28 a1))) = (F2 82 (Int.toNat (zadd (zmul 12 (F 72 (Int.toNat (zadd 34 a1)))) (F 72 (Int.toNat (zadd 36 a1)))))) then
                        if 0 ≤ (zadd 40 a1) ∧ (zadd 40 a1) < 43 then
                        if 0 ≤ (zadd 40 a1) ∧ (zadd 40 a1) < 43 then
                        if 0 ≤ (zadd 40 a1) ∧ (zadd 40 a1) < 43 then
                        if 0 ≤ (zadd 36 a1) ∧ (zadd 36 a1) < 43 then
                        if 0 ≤ (zadd 36 a1) ∧ (zadd 36 a1) < 43 then
                        if 0 ≤ (zadd 38 a1) ∧ (zadd 38 a1) < 43 then
                        if 0 ≤ (zadd 40 a1) ∧ (zadd 40 a1) < 43 then
                        some (none, (zup (zup (zup (zup (zup F2 72 (Int.toNat (zadd 40 a1)) 0) 72 (Int.toNat (zadd 40 a1)) (zadd ((zup F2 72 (Int.toNat (zadd 40 a1)) 0) 72 (Int.toNat (zadd 40 a1))) 0)) 72 (Int.toNat (zadd 36 a1)) (zadd ((zup (zup F2 72 (Int.toNat (zadd 40 a1)) 0) 72 (Int.toNat (zadd 40 a1)) (zadd ((zup F2 72 (Int.toNat (zadd 40 a1)) 0) 72 (Int.toNat (zadd 40 a1))) 0)) 72 (Int.toNat (zadd 36 a1))) 1)) 72 (Int.toNat (zadd 38 a1)) 0) 72 (Int.toNat (zadd 40 a1)) 0), G2, zsg)
                      else none
                      else none
                      else none
                      else none
                      else none
                      else none
                      else none
                      else
                        if 0 ≤ (zadd 40 a1) ∧ (zadd 40 a1) < 43 then
                        if 0 ≤ (zadd 40 a1) ∧ (zadd 40 a1) < 43 then
                        if 0 ≤ (zadd 40 a1) ∧ (zadd 40 a1) < 43 then
                        some (none, (zup (zup F2 72 (Int.toNat (zadd 40 a1)) 0) 72 (Int.toNat (zadd 40 a1)) (zadd ((zup F2 72 (Int.toNat (zadd 40 a1)) 0) 72 (Int.toNat (zadd 40 a1))) 0)), G2, zsg)
                      else none
                      else none
                      else none
                      else none
                      else none)
                      else none
                    else none
                  else none
                else
                  zbI (zex d 105 [zR 71, zI a1, zI (zadd (zmul 12 (F 72 (Int.toNat (zadd 34 a1)))) (F 72 (Int.toNat (zadd 36 a1))))] (F, G, zsg)) (fun v1 F1 G1 =>
                    if v1 = 0 then
                      if 0 ≤ (zadd 40 a1) ∧ (zadd 40 a1) < 43 then
                        if 0 ≤ (zadd 40 a1) ∧ (zadd 40 a1) < 43 then
                        if 0 ≤ (zadd 36 a1) ∧ (zadd 36 a1) < 43 then
                        if 0 ≤ (zadd 36 a1) ∧ (zadd 36 a1) < 43 then
                        if 0 ≤ (zadd 38 a1) ∧ (zadd 38 a1) < 43 then
                        if 0 ≤ (zadd 40 a1) ∧ (zadd 40 a1) < 43 then
                        some (none, (zup (zup (zup (zup F1 72 (Int.toNat (zadd 40 a1)) (zadd (F1 72 (Int.toNat (zadd 40 a1))) 0)) 72 (Int.toNat (zadd 36 a1)) (zadd ((zup F1 72 (Int.toNat (zadd 40 a1)) (zadd (F1 72 (Int.toNat (zadd 40 a1))) 0)) 72 (Int.toNat (zadd 36 a1))) 1)) 72 (Int.toNat (zadd 38 a1)) 0) 72 (Int.toNat (zadd 40 a1)) 0), G1, zsg)
                      else none
                      else none
                      else none
                      else none
                      else none
                      else none
                    else
                      if 0 ≤ (zadd 40 a1) ∧ (zadd 40 a1) < 43 then
                        if 0 ≤ (zadd 40 a1) ∧ (zadd 40 a1) < 43 then
                        some (none, (zup F1 72 (Int.toNat (zadd 40 a1)) (zadd (F1 72 (Int.toNat (zadd 40 a1))) 1)), G1, zsg)
                      else none
                      else none)
              else none
          else none
        else none
    else none
  else none
else none) (zex (d + 1) 112 [zR 71, zI a1] (F, G, zsg)) := by
  refine zle_ent (ls := [zR 71, zI a1, zR 0, zR 0, zR 0, zR 0]) ?_
  refine zle_many 5 (112, 8, [zR 71, zI a1, zR 0, zR 0, zR 0, zR 0], [zI (zadd 34 a1), zR 72], F, G, zsg) rfl ?_
  refine zle_ald rfl rfl rfl (fun _ => ?_)
  refine zle_many 6 (112, 18, [zR 71, zI a1, zI (F 72 (Int.toNat (zadd 34 a1))), zR 0, zR 0, zR 0], [zI (zadd 36 a1), zR 72], F, G, zsg) rfl ?_
  refine zle_ald rfl rfl rfl (fun _ => ?_)
  refine zle_many 3 (112, 24, [zR 71, zI a1, zI (F 72 (Int.toNat (zadd 34 a1))), zR 0, zR 0, zR 0], [zI (F 72 (Int.toNat (zadd 34 a1))), zR 80, zI (F 72 (Int.toNat (zadd 36 a1)))], F, G, zsg) rfl ?_
  refine zle_ald rfl rfl rfl (fun _ => ?_)
  refine zle_many 1 (112, (bif zcmp .ne (F 72 (Int.toNat (zadd 36 a1))) (F 80 (Int.toNat (F 72 (Int.toNat (zadd 34 a1))))) then 39 else 28), [zR 71, zI a1, zI (F 72 (Int.toNat (zadd 34 a1))), zR 0, zR 0, zR 0], [], F, G, zsg) rfl ?_
  refine zle_ne (fun _ => ?_) (fun _ => ?_)
  · refine zle_many 6 (112, 37, [zR 71, zI a1, zI (F 72 (Int.toNat (zadd 34 a1))), zR 0, zR 0, zR 0], [zI (-1), zI (zadd 34 a1), zR 72], F, G, zsg) rfl ?_
    refine zle_ast rfl rfl rfl (fun _ => ?_)
    exact zle_ret rfl
  · refine zle_many 8 (112, 51, [zR 71, zI a1, zI (F 72 (Int.toNat (zadd 34 a1))), zR 0, zR 0, zR 0], [zI (zadd 36 a1), zR 72, zI (zmul 12 (F 72 (Int.toNat (zadd 34 a1))))], F, G, zsg) rfl ?_
    refine zle_ald rfl rfl rfl (fun _ => ?_)
    refine zle_many 9 (112, 65, [zR 71, zI a1, zI (F 72 (Int.toNat (zadd 34 a1))), zI (zadd (zmul 12 (F 72 (Int.toNat (zadd 34 a1)))) (F 72 (Int.toNat (zadd 36 a1)))), zI 0, zI 0], [zI (zadd (zmul 12 (F 72 (Int.toNat (zadd 34 a1)))) (F 72 (Int.toNat (zadd 36 a1)))), zR 81], F, G, zsg) rfl ?_
    refine zle_ald rfl rfl rfl (fun _ => ?_)
    refine zle_many 2 (112, (bif zcmp .ne (F 81 (Int.toNat (zadd (zmul 12 (F 72 (Int.toNat (zadd 34 a1)))) (F 72 (Int.toNat (zadd 36 a1)))))) 4 then 111 else 70), [zR 71, zI a1, zI (F 72 (Int.toNat (zadd 34 a1))), zI (zadd (zmul 12 (F 72 (Int.toNat (zadd 34 a1)))) (F 72 (Int.toNat (zadd 36 a1)))), zI 0, zI 0], [], F, G, zsg) rfl ?_
    refine zle_ne (fun _ => ?_) (fun _ => ?_)
    · refine zle_many 6 (112, 79, [zR 71, zI a1, zI (F 72 (Int.toNat (zadd 34 a1))), zI (zadd (zmul 12 (F 72 (Int.toNat (zadd 34 a1)))) (F 72 (Int.toNat (zadd 36 a1)))), zI 0, zI 0], [zI (zadd 38 a1), zR 72, zI (zadd 38 a1), zR 72], F, G, zsg) rfl ?_
      refine zle_ald rfl rfl rfl (fun _ => ?_)
      refine zle_many 2 (112, 82, [zR 71, zI a1, zI (F 72 (Int.toNat (zadd 34 a1))), zI (zadd (zmul 12 (F 72 (Int.toNat (zadd 34 a1)))) (F 72 (Int.toNat (zadd 36 a1)))), zI 0, zI 0], [zI (zadd (F 72 (Int.toNat (zadd 38 a1))) 1), zI (zadd 38 a1), zR 72], F, G, zsg) rfl ?_
      refine zle_ast rfl rfl rfl (fun _ => ?_)
      refine zle_many 5 (112, 91, [zR 71, zI a1, zI (F 72 (Int.toNat (zadd 34 a1))), zI (zadd (zmul 12 (F 72 (Int.toNat (zadd 34 a1)))) (F 72 (Int.toNat (zadd 36 a1)))), zI 0, zI 0], [zI (zadd 38 a1), zR 72], (zup F 72 (Int.toNat (zadd 38 a1)) (zadd (F 72 (Int.toNat (zadd 38 a1))) 1)), G, zsg) rfl ?_
      refine zle_ald rfl rfl rfl (fun _ => ?_)
      refine zle_many 3 (112, 97, [zR 71, zI a1, zI (F 72 (Int.toNat (zadd 34 a1))), zI (zadd (zmul 12 (F 72 (Int.toNat (zadd 34 a1)))) (F 72 (Int.toNat (zadd 36 a1)))), zI 0, zI 0], [zI (zadd (zmul 12 (F 72 (Int.toNat (zadd 34 a1)))) (F 72 (Int.toNat (zadd 36 a1)))), zR 82, zI ((zup F 72 (Int.toNat (zadd 38 a1)) (zadd (F 72 (Int.toNat (zadd 38 a1))) 1)) 72 (Int.toNat (zadd 38 a1)))], (zup F 72 (Int.toNat (zadd 38 a1)) (zadd (F 72 (Int.toNat (zadd 38 a1))) 1)), G, zsg) rfl ?_
      refine zle_ald rfl rfl rfl (fun _ => ?_)
      refine zle_many 0 (112, 98, [zR 71, zI a1, zI (F 72 (Int.toNat (zadd 34 a1))), zI (zadd (zmul 12 (F 72 (Int.toNat (zadd 34 a1)))) (F 72 (Int.toNat (zadd 36 a1)))), zI 0, zI 0], [zI (F 82 (Int.toNat (zadd (zmul 12 (F 72 (Int.toNat (zadd 34 a1)))) (F 72 (Int.toNat (zadd 36 a1)))))), zI ((zup F 72 (Int.toNat (zadd 38 a1)) (zadd (F 72 (Int.toNat (zadd 38 a1))) 1)) 72 (Int.toNat (zadd 38 a1)))], (zup F 72 (Int.toNat (zadd 38 a1)) (zadd (F 72 (Int.toNat (zadd 38 a1))) 1)), G, zsg) rfl ?_
      refine zle_many 1 (112, (bif zcmp .lt ((zup F 72 (Int.toNat (zadd 38 a1)) (zadd (F 72 (Int.toNat (zadd 38 a1))) 1)) 72 (Int.toNat (zadd 38 a1))) (F 82 (Int.toNat (zadd (zmul 12 (F 72 (Int.toNat (zadd 34 a1)))) (F 72 (Int.toNat (zadd 36 a1)))))) then 105 else 101), [zR 71, zI a1, zI (F 72 (Int.toNat (zadd 34 a1))), zI (zadd (zmul 12 (F 72 (Int.toNat (zadd 34 a1)))) (F 72 (Int.toNat (zadd 36 a1)))), zI 0, zI 0], [], (zup F 72 (Int.toNat (zadd 38 a1)) (zadd (F 72 (Int.toNat (zadd 38 a1))) 1)), G, zsg) rfl ?_
      refine zle_lt (fun _ => ?_) (fun _ => ?_)
      · refine zle_many 9 (112, 251, [zR 71, zI a1, zI (F 72 (Int.toNat (zadd 34 a1))), zI (zadd (zmul 12 (F 72 (Int.toNat (zadd 34 a1)))) (F 72 (Int.toNat (zadd 36 a1)))), zI 0, zI 0], [zI (zadd 40 a1), zR 72, zI (zadd 40 a1), zR 72], (zup F 72 (Int.toNat (zadd 38 a1)) (zadd (F 72 (Int.toNat (zadd 38 a1))) 1)), G, zsg) rfl ?_
        refine zle_ald rfl rfl rfl (fun _ => ?_)
        refine zle_many 4 (112, 263, [zR 71, zI a1, zI (F 72 (Int.toNat (zadd 34 a1))), zI (zadd (zmul 12 (F 72 (Int.toNat (zadd 34 a1)))) (F 72 (Int.toNat (zadd 36 a1)))), zI 0, zI 0], [zI (zadd ((zup F 72 (Int.toNat (zadd 38 a1)) (zadd (F 72 (Int.toNat (zadd 38 a1))) 1)) 72 (Int.toNat (zadd 40 a1))) 0), zI (zadd 40 a1), zR 72], (zup F 72 (Int.toNat (zadd 38 a1)) (zadd (F 72 (Int.toNat (zadd 38 a1))) 1)), G, zsg) rfl ?_
        refine zle_ast rfl rfl rfl (fun _ => ?_)
        refine zle_many 2 (112, 302, [zR 71, zI a1, zI (F 72 (Int.toNat (zadd 34 a1))), zI (zadd (zmul 12 (F 72 (Int.toNat (zadd 34 a1)))) (F 72 (Int.toNat (zadd 36 a1)))), zI 0, zI 0], [], (zup (zup F 72 (Int.toNat (zadd 38 a1)) (zadd (F 72 (Int.toNat (zadd 38 a1))) 1)) 72 (Int.toNat (zadd 40 a1)) (zadd ((zup F 72 (Int.toNat (zadd 38 a1)) (zadd (F 72 (Int.toNat (zadd 38 a1))) 1)) 72 (Int.toNat (zadd 40 a1))) 0)), G, zsg) rfl ?_
        exact zle_ret rfl
      · refine zle_many 10 (112, 251, [zR 71, zI a1, zI (F 72 (Int.toNat (zadd 34 a1))), zI (zadd (zmul 12 (F 72 (Int.toNat (zadd 34 a1)))) (F 72 (Int.toNat (zadd 36 a1)))), zI 1, zI 0], [zI (zadd 40 a1), zR 72, zI (zadd 40 a1), zR 72], (zup F 72 (Int.toNat (zadd 38 a1)) (zadd (F 72 (Int.toNat (zadd 38 a1))) 1)), G, zsg) rfl ?_
        refine zle_ald rfl rfl rfl (fun _ => ?_)
        refine zle_many 4 (112, 263, [zR 71, zI a1, zI (F 72 (Int.toNat (zadd 34 a1))), zI (zadd (zmul 12 (F 72 (Int.toNat (zadd 34 a1)))) (F 72 (Int.toNat (zadd 36 a1)))), zI 1, zI 0], [zI (zadd ((zup F 72 (Int.toNat (zadd 38 a1)) (zadd (F 72 (Int.toNat (zadd 38 a1))) 1)) 72 (Int.toNat (zadd 40 a1))) 0), zI (zadd 40 a1), zR 72], (zup F 72 (Int.toNat (zadd 38 a1)) (zadd (F 72 (Int.toNat (zadd 38 a1))) 1)), G, zsg) rfl ?_
        refine zle_ast rfl rfl rfl (fun _ => ?_)
        refine zle_many 8 (112, 278, [zR 71, zI a1, zI (F 72 (Int.toNat (zadd 34 a1))), zI (zadd (zmul 12 (F 72 (Int.toNat (zadd 34 a1)))) (F 72 (Int.toNat (zadd 36 a1)))), zI 1, zI 0], [zI (zadd 36 a1), zR 72, zI (zadd 36 a1), zR 72], (zup (zup F 72 (Int.toNat (zadd 38 a1)) (zadd (F 72 (Int.toNat (zadd 38 a1))) 1)) 72 (Int.toNat (zadd 40 a1)) (zadd ((zup F 72 (Int.toNat (zadd 38 a1)) (zadd (F 72 (Int.toNat (zadd 38 a1))) 1)) 72 (Int.toNat (zadd 40 a1))) 0)), G, zsg) rfl ?_
        refine zle_ald rfl rfl rfl (fun _ => ?_)
        refine zle_many 2 (112, 281, [zR 71, zI a1, zI (F 72 (Int.toNat (zadd 34 a1))), zI (zadd (zmul 12 (F 72 (Int.toNat (zadd 34 a1)))) (F 72 (Int.toNat (zadd 36 a1)))), zI 1, zI 0], [zI (zadd ((zup (zup F 72 (Int.toNat (zadd 38 a1)) (zadd (F 72 (Int.toNat (zadd 38 a1))) 1)) 72 (Int.toNat (zadd 40 a1)) (zadd ((zup F 72 (Int.toNat (zadd 38 a1)) (zadd (F 72 (Int.toNat (zadd 38 a1))) 1)) 72 (Int.toNat (zadd 40 a1))) 0)) 72 (Int.toNat (zadd 36 a1))) 1), zI (zadd 36 a1), zR 72], (zup (zup F 72 (Int.toNat (zadd 38 a1)) (zadd (F 72 (Int.toNat (zadd 38 a1))) 1)) 72 (Int.toNat (zadd 40 a1)) (zadd ((zup F 72 (Int.toNat (zadd 38 a1)) (zadd (F 72 (Int.toNat (zadd 38 a1))) 1)) 72 (Int.toNat (zadd 40 a1))) 0)), G, zsg) rfl ?_
        refine zle_ast rfl rfl rfl (fun _ => ?_)
        refine zle_many 6 (112, 291, [zR 71, zI a1, zI (F 72 (Int.toNat (zadd 34 a1))), zI (zadd (zmul 12 (F 72 (Int.toNat (zadd 34 a1)))) (F 72 (Int.toNat (zadd 36 a1)))), zI 1, zI 0], [zI 0, zI (zadd 38 a1), zR 72], (zup (zup (zup F 72 (Int.toNat (zadd 38 a1)) (zadd (F 72 (Int.toNat (zadd 38 a1))) 1)) 72 (Int.toNat (zadd 40 a1)) (zadd ((zup F 72 (Int.toNat (zadd 38 a1)) (zadd (F 72 (Int.toNat (zadd 38 a1))) 1)) 72 (Int.toNat (zadd 40 a1))) 0)) 72 (Int.toNat (zadd 36 a1)) (zadd ((zup (zup F 72 (Int.toNat (zadd 38 a1)) (zadd (F 72 (Int.toNat (zadd 38 a1))) 1)) 72 (Int.toNat (zadd 40 a1)) (zadd ((zup F 72 (Int.toNat (zadd 38 a1)) (zadd (F 72 (Int.toNat (zadd 38 a1))) 1)) 72 (Int.toNat (zadd 40 a1))) 0)) 72 (Int.toNat (zadd 36 a1))) 1)), G, zsg) rfl ?_
        refine zle_ast rfl rfl rfl (fun _ => ?_)
        refine zle_many 6 (112, 301, [zR 71, zI a1, zI (F 72 (Int.toNat (zadd 34 a1))), zI (zadd (zmul 12 (F 72 (Int.toNat (zadd 34 a1)))) (F 72 (Int.toNat (zadd 36 a1)))), zI 1, zI 0], [zI 0, zI (zadd 40 a1), zR 72], (zup (zup (zup (zup F 72 (Int.toNat (zadd 38 a1)) (zadd (F 72 (Int.toNat (zadd 38 a1))) 1)) 72 (Int.toNat (zadd 40 a1)) (zadd ((zup F 72 (Int.toNat (zadd 38 a1)) (zadd (F 72 (Int.toNat (zadd 38 a1))) 1)) 72 (Int.toNat (zadd 40 a1))) 0)) 72 (Int.toNat (zadd 36 a1)) (zadd ((zup (zup F 72 (Int.toNat (zadd 38 a1)) (zadd (F 72 (Int.toNat (zadd 38 a1))) 1)) 72 (Int.toNat (zadd 40 a1)) (zadd ((zup F 72 (Int.toNat (zadd 38 a1)) (zadd (F 72 (Int.toNat (zadd 38 a1))) 1)) 72 (Int.toNat (zadd 40 a1))) 0)) 72 (Int.toNat (zadd 36 a1))) 1)) 72 (Int.toNat (zadd 38 a1)) 0), G, zsg) rfl ?_
        refine zle_ast rfl rfl rfl (fun _ => ?_)
        exact zle_ret rfl
    · refine zle_many 3 (112, 116, [zR 71, zI a1, zI (F 72 (Int.toNat (zadd 34 a1))), zI (zadd (zmul 12 (F 72 (Int.toNat (zadd 34 a1)))) (F 72 (Int.toNat (zadd 36 a1)))), zI 0, zI 0], [zI (zadd (zmul 12 (F 72 (Int.toNat (zadd 34 a1)))) (F 72 (Int.toNat (zadd 36 a1)))), zR 81], F, G, zsg) rfl ?_
      refine zle_ald rfl rfl rfl (fun _ => ?_)
      refine zle_many 1 (112, (bif zcmp .ne (F 81 (Int.toNat (zadd (zmul 12 (F 72 (Int.toNat (zadd 34 a1)))) (F 72 (Int.toNat (zadd 36 a1)))))) 0 then 214 else 120), [zR 71, zI a1, zI (F 72 (Int.toNat (zadd 34 a1))), zI (zadd (zmul 12 (F 72 (Int.toNat (zadd 34 a1)))) (F 72 (Int.toNat (zadd 36 a1)))), zI 0, zI 0], [], F, G, zsg) rfl ?_
      refine zle_ne (fun _ => ?_) (fun _ => ?_)
      · refine zle_many 5 (112, 128, [zR 71, zI a1, zI (F 72 (Int.toNat (zadd 34 a1))), zI (zadd (zmul 12 (F 72 (Int.toNat (zadd 34 a1)))) (F 72 (Int.toNat (zadd 36 a1)))), zI 0, zI 0], [zI (zadd 28 a1), zR 72], F, G, zsg) rfl ?_
        refine zle_ald rfl rfl rfl (fun _ => ?_)
        refine zle_many 3 (112, 134, [zR 71, zI a1, zI (F 72 (Int.toNat (zadd 34 a1))), zI (zadd (zmul 12 (F 72 (Int.toNat (zadd 34 a1)))) (F 72 (Int.toNat (zadd 36 a1)))), zI 0, zI 0], [zI (zadd (zmul 12 (F 72 (Int.toNat (zadd 34 a1)))) (F 72 (Int.toNat (zadd 36 a1)))), zR 82, zI (F 72 (Int.toNat (zadd 28 a1)))], F, G, zsg) rfl ?_
        refine zle_ald rfl rfl rfl (fun _ => ?_)
        refine zle_many 1 (112, (bif zcmp .eq (F 72 (Int.toNat (zadd 28 a1))) (F 82 (Int.toNat (zadd (zmul 12 (F 72 (Int.toNat (zadd 34 a1)))) (F 72 (Int.toNat (zadd 36 a1)))))) then 156 else 138), [zR 71, zI a1, zI (F 72 (Int.toNat (zadd 34 a1))), zI (zadd (zmul 12 (F 72 (Int.toNat (zadd 34 a1)))) (F 72 (Int.toNat (zadd 36 a1)))), zI 0, zI 0], [], F, G, zsg) rfl ?_
        refine zle_eq (fun _ => ?_) (fun _ => ?_)
        · refine zle_many 7 (112, 167, [zR 71, zI a1, zI (F 72 (Int.toNat (zadd 34 a1))), zI (zadd (zmul 12 (F 72 (Int.toNat (zadd 34 a1)))) (F 72 (Int.toNat (zadd 36 a1)))), zI 0, zI 0], [zI (zadd 28 a1), zR 72], F, G, zsg) rfl ?_
          refine zle_ald rfl rfl rfl (fun _ => ?_)
          refine zle_many 3 (112, 173, [zR 71, zI a1, zI (F 72 (Int.toNat (zadd 34 a1))), zI (zadd (zmul 12 (F 72 (Int.toNat (zadd 34 a1)))) (F 72 (Int.toNat (zadd 36 a1)))), zI 0, zI 0], [zI (zadd (zmul 12 (F 72 (Int.toNat (zadd 34 a1)))) (F 72 (Int.toNat (zadd 36 a1)))), zR 82, zI (F 72 (Int.toNat (zadd 28 a1)))], F, G, zsg) rfl ?_
          refine zle_ald rfl rfl rfl (fun _ => ?_)
          refine zle_many 1 (112, (bif zcmp .ne (F 72 (Int.toNat (zadd 28 a1))) (F 82 (Int.toNat (zadd (zmul 12 (F 72 (Int.toNat (zadd 34 a1)))) (F 72 (Int.toNat (zadd 36 a1)))))) then 181 else 177), [zR 71, zI a1, zI (F 72 (Int.toNat (zadd 34 a1))), zI (zadd (zmul 12 (F 72 (Int.toNat (zadd 34 a1)))) (F 72 (Int.toNat (zadd 36 a1)))), zI 0, zI 0], [], F, G, zsg) rfl ?_
          refine zle_ne (fun _ => ?_) (fun _ => ?_)
          · refine zle_many 11 (112, 210, [zR 71, zI a1, zI (F 72 (Int.toNat (zadd 34 a1))), zI (zadd (zmul 12 (F 72 (Int.toNat (zadd 34 a1)))) (F 72 (Int.toNat (zadd 36 a1)))), zI 1, zI 0], [zI 0, zI (zadd 40 a1), zR 72], F, G, zsg) rfl ?_
            refine zle_ast rfl rfl rfl (fun _ => ?_)
            refine zle_many 7 (112, 251, [zR 71, zI a1, zI (F 72 (Int.toNat (zadd 34 a1))), zI (zadd (zmul 12 (F 72 (Int.toNat (zadd 34 a1)))) (F 72 (Int.toNat (zadd 36 a1)))), zI 1, zI 0], [zI (zadd 40 a1), zR 72, zI (zadd 40 a1), zR 72], (zup F 72 (Int.toNat (zadd 40 a1)) 0), G, zsg) rfl ?_
            refine zle_ald rfl rfl rfl (fun _ => ?_)
            refine zle_many 4 (112, 263, [zR 71, zI a1, zI (F 72 (Int.toNat (zadd 34 a1))), zI (zadd (zmul 12 (F 72 (Int.toNat (zadd 34 a1)))) (F 72 (Int.toNat (zadd 36 a1)))), zI 1, zI 0], [zI (zadd ((zup F 72 (Int.toNat (zadd 40 a1)) 0) 72 (Int.toNat (zadd 40 a1))) 0), zI (zadd 40 a1), zR 72], (zup F 72 (Int.toNat (zadd 40 a1)) 0), G, zsg) rfl ?_
            refine zle_ast rfl rfl rfl (fun _ => ?_)
            refine zle_many 8 (112, 278, [zR 71, zI a1, zI (F 72 (Int.toNat (zadd 34 a1))), zI (zadd (zmul 12 (F 72 (Int.toNat (zadd 34 a1)))) (F 72 (Int.toNat (zadd 36 a1)))), zI 1, zI 0], [zI (zadd 36 a1), zR 72, zI (zadd 36 a1), zR 72], (zup (zup F 72 (Int.toNat (zadd 40 a1)) 0) 72 (Int.toNat (zadd 40 a1)) (zadd ((zup F 72 (Int.toNat (zadd 40 a1)) 0) 72 (Int.toNat (zadd 40 a1))) 0)), G, zsg) rfl ?_
            refine zle_ald rfl rfl rfl (fun _ => ?_)
            refine zle_many 2 (112, 281, [zR 71, zI a1, zI (F 72 (Int.toNat (zadd 34 a1))), zI (zadd (zmul 12 (F 72 (Int.toNat (zadd 34 a1)))) (F 72 (Int.toNat (zadd 36 a1)))), zI 1, zI 0], [zI (zadd ((zup (zup F 72 (Int.toNat (zadd 40 a1)) 0) 72 (Int.toNat (zadd 40 a1)) (zadd ((zup F 72 (Int.toNat (zadd 40 a1)) 0) 72 (Int.toNat (zadd 40 a1))) 0)) 72 (Int.toNat (zadd 36 a1))) 1), zI (zadd 36 a1), zR 72], (zup (zup F 72 (Int.toNat (zadd 40 a1)) 0) 72 (Int.toNat (zadd 40 a1)) (zadd ((zup F 72 (Int.toNat (zadd 40 a1)) 0) 72 (Int.toNat (zadd 40 a1))) 0)), G, zsg) rfl ?_
            refine zle_ast rfl rfl rfl (fun _ => ?_)
            refine zle_many 6 (112, 291, [zR 71, zI a1, zI (F 72 (Int.toNat (zadd 34 a1))), zI (zadd (zmul 12 (F 72 (Int.toNat (zadd 34 a1)))) (F 72 (Int.toNat (zadd 36 a1)))), zI 1, zI 0], [zI 0, zI (zadd 38 a1), zR 72], (zup (zup (zup F 72 (Int.toNat (zadd 40 a1)) 0) 72 (Int.toNat (zadd 40 a1)) (zadd ((zup F 72 (Int.toNat (zadd 40 a1)) 0) 72 (Int.toNat (zadd 40 a1))) 0)) 72 (Int.toNat (zadd 36 a1)) (zadd ((zup (zup F 72 (Int.toNat (zadd 40 a1)) 0) 72 (Int.toNat (zadd 40 a1)) (zadd ((zup F 72 (Int.toNat (zadd 40 a1)) 0) 72 (Int.toNat (zadd 40 a1))) 0)) 72 (Int.toNat (zadd 36 a1))) 1)), G, zsg) rfl ?_
            refine zle_ast rfl rfl rfl (fun _ => ?_)
            refine zle_many 6 (112, 301, [zR 71, zI a1, zI (F 72 (Int.toNat (zadd 34 a1))), zI (zadd (zmul 12 (F 72 (Int.toNat (zadd 34 a1)))) (F 72 (Int.toNat (zadd 36 a1)))), zI 1, zI 0], [zI 0, zI (zadd 40 a1), zR 72], (zup (zup (zup (zup F 72 (Int.toNat (zadd 40 a1)) 0) 72 (Int.toNat (zadd 40 a1)) (zadd ((zup F 72 (Int.toNat (zadd 40 a1)) 0) 72 (Int.toNat (zadd 40 a1))) 0)) 72 (Int.toNat (zadd 36 a1)) (zadd ((zup (zup F 72 (Int.toNat (zadd 40 a1)) 0) 72 (Int.toNat (zadd 40 a1)) (zadd ((zup F 72 (Int.toNat (zadd 40 a1)) 0) 72 (Int.toNat (zadd 40 a1))) 0)) 72 (Int.toNat (zadd 36 a1))) 1)) 72 (Int.toNat (zadd 38 a1)) 0), G, zsg) rfl ?_
            refine zle_ast rfl rfl rfl (fun _ => ?_)
            exact zle_ret rfl
          · refine zle_many 10 (112, 210, [zR 71, zI a1, zI (F 72 (Int.toNat (zadd 34 a1))), zI (zadd (zmul 12 (F 72 (Int.toNat (zadd 34 a1)))) (F 72 (Int.toNat (zadd 36 a1)))), zI 0, zI 0], [zI 0, zI (zadd 40 a1), zR 72], F, G, zsg) rfl ?_
            refine zle_ast rfl rfl rfl (fun _ => ?_)
            refine zle_many 7 (112, 251, [zR 71, zI a1, zI (F 72 (Int.toNat (zadd 34 a1))), zI (zadd (zmul 12 (F 72 (Int.toNat (zadd 34 a1)))) (F 72 (Int.toNat (zadd 36 a1)))), zI 0, zI 0], [zI (zadd 40 a1), zR 72, zI (zadd 40 a1), zR 72], (zup F 72 (Int.toNat (zadd 40 a1)) 0), G, zsg) rfl ?_
            refine zle_ald rfl rfl rfl (fun _ => ?_)
            refine zle_many 4 (112, 263, [zR 71, zI a1, zI (F 72 (Int.toNat (zadd 34 a1))), zI (zadd (zmul 12 (F 72 (Int.toNat (zadd 34 a1)))) (F 72 (Int.toNat (zadd 36 a1)))), zI 0, zI 0], [zI (zadd ((zup F 72 (Int.toNat (zadd 40 a1)) 0) 72 (Int.toNat (zadd 40 a1))) 0), zI (zadd 40 a1), zR 72], (zup F 72 (Int.toNat (zadd 40 a1)) 0), G, zsg) rfl ?_
            refine zle_ast rfl rfl rfl (fun _ => ?_)
            refine zle_many 2 (112, 302, [zR 71, zI a1, zI (F 72 (Int.toNat (zadd 34 a1))), zI (zadd (zmul 12 (F 72 (Int.toNat (zadd 34 a1)))) (F 72 (Int.toNat (zadd 36 a1)))), zI 0, zI 0], [], (zup (zup F 72 (Int.toNat (zadd 40 a1)) 0) 72 (Int.toNat (zadd 40 a1)) (zadd ((zup F 72 (Int.toNat (zadd 40 a1)) 0) 72 (Int.toNat (zadd 40 a1))) 0)), G, zsg) rfl ?_
            exact zle_ret rfl
        · refine zle_many 5 (112, 145, [zR 71, zI a1, zI (F 72 (Int.toNat (zadd 34 a1))), zI (zadd (zmul 12 (F 72 (Int.toNat (zadd 34 a1)))) (F 72 (Int.toNat (zadd 36 a1)))), zI 0, zI 0], [zI (zadd (zmul 12 (F 72 (Int.toNat (zadd 34 a1)))) (F 72 (Int.toNat (zadd 36 a1)))), zR 82, zI a1, zR 71], F, G, zsg) rfl ?_
          refine zle_ald rfl rfl rfl (fun _ => ?_)
          refine zle_I rfl (fun v2 F2 G2 => ?_)
          refine zle_many 1 (112, (bif zcmp .ne v2 0 then 156 else 152), [zR 71, zI a1, zI (F 72 (Int.toNat (zadd 34 a1))), zI (zadd (zmul 12 (F 72 (Int.toNat (zadd 34 a1)))) (F 72 (Int.toNat (zadd 36 a1)))), zI 0, zI 0], [], F2, G2, zsg) rfl ?_
          refine zle_ne (fun _ => ?_) (fun _ => ?_)
          · refine zle_many 8 (112, 167, [zR 71, zI a1, zI (F 72 (Int.toNat (zadd 34 a1))), zI (zadd (zmul 12 (F 72 (Int.toNat (zadd 34 a1)))) (F 72 (Int.toNat (zadd 36 a1)))), zI 0, zI 1], [zI (zadd 28 a1), zR 72], F2, G2, zsg) rfl ?_
            refine zle_ald rfl rfl rfl (fun _ => ?_)
            refine zle_many 3 (112, 173, [zR 71, zI a1, zI (F 72 (Int.toNat (zadd 34 a1))), zI (zadd (zmul 12 (F 72 (Int.toNat (zadd 34 a1)))) (F 72 (Int.toNat (zadd 36 a1)))), zI 0, zI 1], [zI (zadd (zmul 12 (F 72 (Int.toNat (zadd 34 a1)))) (F 72 (Int.toNat (zadd 36 a1)))), zR 82, zI (F2 72 (Int.toNat (zadd 28 a1)))], F2, G2, zsg) rfl ?_
            refine zle_ald rfl rfl rfl (fun _ => ?_)
            refine zle_many 1 (112, (bif zcmp .ne (F2 72 (Int.toNat (zadd 28 a1))) (F2 82 (Int.toNat (zadd (zmul 12 (F 72 (Int.toNat (zadd 34 a1)))) (F 72 (Int.toNat (zadd 36 a1)))))) then 181 else 177), [zR 71, zI a1, zI (F 72 (Int.toNat (zadd 34 a1))), zI (zadd (zmul 12 (F 72 (Int.toNat (zadd 34 a1)))) (F 72 (Int.toNat (zadd 36 a1)))), zI 0, zI 1], [], F2, G2, zsg) rfl ?_
            refine zle_ne (fun _ => ?_) (fun _ => ?_)
            · refine zle_many 15 (112, 205, [zR 71, zI a1, zI (F 72 (Int.toNat (zadd 34 a1))), zI (zadd (zmul 12 (F 72 (Int.toNat (zadd 34 a1)))) (F 72 (Int.toNat (zadd 36 a1)))), zI 1, zI 1], [zI (zadd 40 a1), zR 72, zI (zadd 40 a1), zR 72], F2, G2, zsg) rfl ?_
              refine zle_ald rfl rfl rfl (fun _ => ?_)
              refine zle_many 1 (112, 210, [zR 71, zI a1, zI (F 72 (Int.toNat (zadd 34 a1))), zI (zadd (zmul 12 (F 72 (Int.toNat (zadd 34 a1)))) (F 72 (Int.toNat (zadd 36 a1)))), zI 1, zI 1], [zI (F2 72 (Int.toNat (zadd 40 a1))), zI (zadd 40 a1), zR 72], F2, G2, zsg) rfl ?_
              refine zle_ast rfl rfl rfl (fun _ => ?_)
              refine zle_many 7 (112, 251, [zR 71, zI a1, zI (F 72 (Int.toNat (zadd 34 a1))), zI (zadd (zmul 12 (F 72 (Int.toNat (zadd 34 a1)))) (F 72 (Int.toNat (zadd 36 a1)))), zI 1, zI 1], [zI (zadd 40 a1), zR 72, zI (zadd 40 a1), zR 72], (zup F2 72 (Int.toNat (zadd 40 a1)) (F2 72 (Int.toNat (zadd 40 a1)))), G2, zsg) rfl ?_
              refine zle_ald rfl rfl rfl (fun _ => ?_)
              refine zle_many 5 (112, 263, [zR 71, zI a1, zI (F 72 (Int.toNat (zadd 34 a1))), zI (zadd (zmul 12 (F 72 (Int.toNat (zadd 34 a1)))) (F 72 (Int.toNat (zadd 36 a1)))), zI 1, zI 1], [zI (zadd ((zup F2 72 (Int.toNat (zadd 40 a1)) (F2 72 (Int.toNat (zadd 40 a1)))) 72 (Int.toNat (zadd 40 a1))) 1), zI (zadd 40 a1), zR 72], (zup F2 72 (Int.toNat (zadd 40 a1)) (F2 72 (Int.toNat (zadd 40 a1)))), G2, zsg) rfl ?_
              refine zle_ast rfl rfl rfl (fun _ => ?_)
              refine zle_many 8 (112, 278, [zR 71, zI a1, zI (F 72 (Int.toNat (zadd 34 a1))), zI (zadd (zmul 12 (F 72 (Int.toNat (zadd 34 a1)))) (F 72 (Int.toNat (zadd 36 a1)))), zI 1, zI 1], [zI (zadd 36 a1), zR 72, zI (zadd 36 a1), zR 72], (zup (zup F2 72 (Int.toNat (zadd 40 a1)) (F2 72 (Int.toNat (zadd 40 a1)))) 72 (Int.toNat (zadd 40 a1)) (zadd ((zup F2 72 (Int.toNat (zadd 40 a1)) (F2 72 (Int.toNat (zadd 40 a1)))) 72 (Int.toNat (zadd 40 a1))) 1)), G2, zsg) rfl ?_
              refine zle_ald rfl rfl rfl (fun _ => ?_)
              refine zle_many 2 (112, 281, [zR 71, zI a1, zI (F 72 (Int.toNat (zadd 34 a1))), zI (zadd (zmul 12 (F 72 (Int.toNat (zadd 34 a1)))) (F 72 (Int.toNat (zadd 36 a1)))), zI 1, zI 1], [zI (zadd ((zup (zup F2 72 (Int.toNat (zadd 40 a1)) (F2 72 (Int.toNat (zadd 40 a1)))) 72 (Int.toNat (zadd 40 a1)) (zadd ((zup F2 72 (Int.toNat (zadd 40 a1)) (F2 72 (Int.toNat (zadd 40 a1)))) 72 (Int.toNat (zadd 40 a1))) 1)) 72 (Int.toNat (zadd 36 a1))) 1), zI (zadd 36 a1), zR 72], (zup (zup F2 72 (Int.toNat (zadd 40 a1)) (F2 72 (Int.toNat (zadd 40 a1)))) 72 (Int.toNat (zadd 40 a1)) (zadd ((zup F2 72 (Int.toNat (zadd 40 a1)) (F2 72 (Int.toNat (zadd 40 a1)))) 72 (Int.toNat (zadd 40 a1))) 1)), G2, zsg) rfl ?_
              refine zle_ast rfl rfl rfl (fun _ => ?_)
              refine zle_many 6 (112, 291, [zR 71, zI a1, zI (F 72 (Int.toNat (zadd 34 a1))), zI (zadd (zmul 12 (F 72 (Int.toNat (zadd 34 a1)))) (F 72 (Int.toNat (zadd 36 a1)))), zI 1, zI 1], [zI 0, zI (zadd 38 a1), zR 72], (zup (zup (zup F2 72 (Int.toNat (zadd 40 a1)) (F2 72 (Int.toNat (zadd 40 a1)))) 72 (Int.toNat (zadd 40 a1)) (zadd ((zup F2 72 (Int.toNat (zadd 40 a1)) (F2 72 (Int.toNat (zadd 40 a1)))) 72 (Int.toNat (zadd 40 a1))) 1)) 72 (Int.toNat (zadd 36 a1)) (zadd ((zup (zup F2 72 (Int.toNat (zadd 40 a1)) (F2 72 (Int.toNat (zadd 40 a1)))) 72 (Int.toNat (zadd 40 a1)) (zadd ((zup F2 72 (Int.toNat (zadd 40 a1)) (F2 72 (Int.toNat (zadd 40 a1)))) 72 (Int.toNat (zadd 40 a1))) 1)) 72 (Int.toNat (zadd 36 a1))) 1)), G2, zsg) rfl ?_
              refine zle_ast rfl rfl rfl (fun _ => ?_)
              refine zle_many 6 (112, 301, [zR 71, zI a1, zI (F 72 (Int.toNat (zadd 34 a1))), zI (zadd (zmul 12 (F 72 (Int.toNat (zadd 34 a1)))) (F 72 (Int.toNat (zadd 36 a1)))), zI 1, zI 1], [zI 0, zI (zadd 40 a1), zR 72], (zup (zup (zup (zup F2 72 (Int.toNat (zadd 40 a1)) (F2 72 (Int.toNat (zadd 40 a1)))) 72 (Int.toNat (zadd 40 a1)) (zadd ((zup F2 72 (Int.toNat (zadd 40 a1)) (F2 72 (Int.toNat (zadd 40 a1)))) 72 (Int.toNat (zadd 40 a1))) 1)) 72 (Int.toNat (zadd 36 a1)) (zadd ((zup (zup F2 72 (Int.toNat (zadd 40 a1)) (F2 72 (Int.toNat (zadd 40 a1)))) 72 (Int.toNat (zadd 40 a1)) (zadd ((zup F2 72 (Int.toNat (zadd 40 a1)) (F2 72 (Int.toNat (zadd 40 a1)))) 72 (Int.toNat (zadd 40 a1))) 1)) 72 (Int.toNat (zadd 36 a1))) 1)) 72 (Int.toNat (zadd 38 a1)) 0), G2, zsg) rfl ?_
              refine zle_ast rfl rfl rfl (fun _ => ?_)
              exact zle_ret rfl
            · refine zle_many 14 (112, 205, [zR 71, zI a1, zI (F 72 (Int.toNat (zadd 34 a1))), zI (zadd (zmul 12 (F 72 (Int.toNat (zadd 34 a1)))) (F 72 (Int.toNat (zadd 36 a1)))), zI 0, zI 1], [zI (zadd 40 a1), zR 72, zI (zadd 40 a1), zR 72], F2, G2, zsg) rfl ?_
              refine zle_ald rfl rfl rfl (fun _ => ?_)
              refine zle_many 1 (112, 210, [zR 71, zI a1, zI (F 72 (Int.toNat (zadd 34 a1))), zI (zadd (zmul 12 (F 72 (Int.toNat (zadd 34 a1)))) (F 72 (Int.toNat (zadd 36 a1)))), zI 0, zI 1], [zI (F2 72 (Int.toNat (zadd 40 a1))), zI (zadd 40 a1), zR 72], F2, G2, zsg) rfl ?_
              refine zle_ast rfl rfl rfl (fun _ => ?_)
              refine zle_many 7 (112, 251, [zR 71, zI a1, zI (F 72 (Int.toNat (zadd 34 a1))), zI (zadd (zmul 12 (F 72 (Int.toNat (zadd 34 a1)))) (F 72 (Int.toNat (zadd 36 a1)))), zI 0, zI 1], [zI (zadd 40 a1), zR 72, zI (zadd 40 a1), zR 72], (zup F2 72 (Int.toNat (zadd 40 a1)) (F2 72 (Int.toNat (zadd 40 a1)))), G2, zsg) rfl ?_
              refine zle_ald rfl rfl rfl (fun _ => ?_)
              refine zle_many 5 (112, 263, [zR 71, zI a1, zI (F 72 (Int.toNat (zadd 34 a1))), zI (zadd (zmul 12 (F 72 (Int.toNat (zadd 34 a1)))) (F 72 (Int.toNat (zadd 36 a1)))), zI 0, zI 1], [zI (zadd ((zup F2 72 (Int.toNat (zadd 40 a1)) (F2 72 (Int.toNat (zadd 40 a1)))) 72 (Int.toNat (zadd 40 a1))) 1), zI (zadd 40 a1), zR 72], (zup F2 72 (Int.toNat (zadd 40 a1)) (F2 72 (Int.toNat (zadd 40 a1)))), G2, zsg) rfl ?_
              refine zle_ast rfl rfl rfl (fun _ => ?_)
              refine zle_many 2 (112, 302, [zR 71, zI a1, zI (F 72 (Int.toNat (zadd 34 a1))), zI (zadd (zmul 12 (F 72 (Int.toNat (zadd 34 a1)))) (F 72 (Int.toNat (zadd 36 a1)))), zI 0, zI 1], [], (zup (zup F2 72 (Int.toNat (zadd 40 a1)) (F2 72 (Int.toNat (zadd 40 a1)))) 72 (Int.toNat (zadd 40 a1)) (zadd ((zup F2 72 (Int.toNat (zadd 40 a1)) (F2 72 (Int.toNat (zadd 40 a1)))) 72 (Int.toNat (zadd 40 a1))) 1)), G2, zsg) rfl ?_
              exact zle_ret rfl
          · refine zle_many 7 (112, 167, [zR 71, zI a1, zI (F 72 (Int.toNat (zadd 34 a1))), zI (zadd (zmul 12 (F 72 (Int.toNat (zadd 34 a1)))) (F 72 (Int.toNat (zadd 36 a1)))), zI 0, zI 0], [zI (zadd 28 a1), zR 72], F2, G2, zsg) rfl ?_
            refine zle_ald rfl rfl rfl (fun _ => ?_)
            refine zle_many 3 (112, 173, [zR 71, zI a1, zI (F 72 (Int.toNat (zadd 34 a1))), zI (zadd (zmul 12 (F 72 (Int.toNat (zadd 34 a1)))) (F 72 (Int.toNat (zadd 36 a1)))), zI 0, zI 0], [zI (zadd (zmul 12 (F 72 (Int.toNat (zadd 34 a1)))) (F 72 (Int.toNat (zadd 36 a1)))), zR 82, zI (F2 72 (Int.toNat (zadd 28 a1)))], F2, G2, zsg) rfl ?_
            refine zle_ald rfl rfl rfl (fun _ => ?_)
            refine zle_many 1 (112, (bif zcmp .ne (F2 72 (Int.toNat (zadd 28 a1))) (F2 82 (Int.toNat (zadd (zmul 12 (F 72 (Int.toNat (zadd 34 a1)))) (F 72 (Int.toNat (zadd 36 a1)))))) then 181 else 177), [zR 71, zI a1, zI (F 72 (Int.toNat (zadd 34 a1))), zI (zadd (zmul 12 (F 72 (Int.toNat (zadd 34 a1)))) (F 72 (Int.toNat (zadd 36 a1)))), zI 0, zI 0], [], F2, G2, zsg) rfl ?_
            refine zle_ne (fun _ => ?_) (fun _ => ?_)
            · refine zle_many 11 (112, 210, [zR 71, zI a1, zI (F 72 (Int.toNat (zadd 34 a1))), zI (zadd (zmul 12 (F 72 (Int.toNat (zadd 34 a1)))) (F 72 (Int.toNat (zadd 36 a1)))), zI 1, zI 0], [zI 0, zI (zadd 40 a1), zR 72], F2, G2, zsg) rfl ?_
              refine zle_ast rfl rfl rfl (fun _ => ?_)
              refine zle_many 7 (112, 251, [zR 71, zI a1, zI (F 72 (Int.toNat (zadd 34 a1))), zI (zadd (zmul 12 (F 72 (Int.toNat (zadd 34 a1)))) (F 72 (Int.toNat (zadd 36 a1)))), zI 1, zI 0], [zI (zadd 40 a1), zR 72, zI (zadd 40 a1), zR 72], (zup F2 72 (Int.toNat (zadd 40 a1)) 0), G2, zsg) rfl ?_
              refine zle_ald rfl rfl rfl (fun _ => ?_)
              refine zle_many 4 (112, 263, [zR 71, zI a1, zI (F 72 (Int.toNat (zadd 34 a1))), zI (zadd (zmul 12 (F 72 (Int.toNat (zadd 34 a1)))) (F 72 (Int.toNat (zadd 36 a1)))), zI 1, zI 0], [zI (zadd ((zup F2 72 (Int.toNat (zadd 40 a1)) 0) 72 (Int.toNat (zadd 40 a1))) 0), zI (zadd 40 a1), zR 72], (zup F2 72 (Int.toNat (zadd 40 a1)) 0), G2, zsg) rfl ?_
              refine zle_ast rfl rfl rfl (fun _ => ?_)
              refine zle_many 8 (112, 278, [zR 71, zI a1, zI (F 72 (Int.toNat (zadd 34 a1))), zI (zadd (zmul 12 (F 72 (Int.toNat (zadd 34 a1)))) (F 72 (Int.toNat (zadd 36 a1)))), zI 1, zI 0], [zI (zadd 36 a1), zR 72, zI (zadd 36 a1), zR 72], (zup (zup F2 72 (Int.toNat (zadd 40 a1)) 0) 72 (Int.toNat (zadd 40 a1)) (zadd ((zup F2 72 (Int.toNat (zadd 40 a1)) 0) 72 (Int.toNat (zadd 40 a1))) 0)), G2, zsg) rfl ?_
              refine zle_ald rfl rfl rfl (fun _ => ?_)
              refine zle_many 2 (112, 281, [zR 71, zI a1, zI (F 72 (Int.toNat (zadd 34 a1))), zI (zadd (zmul 12 (F 72 (Int.toNat (zadd 34 a1)))) (F 72 (Int.toNat (zadd 36 a1)))), zI 1, zI 0], [zI (zadd ((zup (zup F2 72 (Int.toNat (zadd 40 a1)) 0) 72 (Int.toNat (zadd 40 a1)) (zadd ((zup F2 72 (Int.toNat (zadd 40 a1)) 0) 72 (Int.toNat (zadd 40 a1))) 0)) 72 (Int.toNat (zadd 36 a1))) 1), zI (zadd 36 a1), zR 72], (zup (zup F2 72 (Int.toNat (zadd 40 a1)) 0) 72 (Int.toNat (zadd 40 a1)) (zadd ((zup F2 72 (Int.toNat (zadd 40 a1)) 0) 72 (Int.toNat (zadd 40 a1))) 0)), G2, zsg) rfl ?_
              refine zle_ast rfl rfl rfl (fun _ => ?_)
              refine zle_many 6 (112, 291, [zR 71, zI a1, zI (F 72 (Int.toNat (zadd 34 a1))), zI (zadd (zmul 12 (F 72 (Int.toNat (zadd 34 a1)))) (F 72 (Int.toNat (zadd 36 a1)))), zI 1, zI 0], [zI 0, zI (zadd 38 a1), zR 72], (zup (zup (zup F2 72 (Int.toNat (zadd 40 a1)) 0) 72 (Int.toNat (zadd 40 a1)) (zadd ((zup F2 72 (Int.toNat (zadd 40 a1)) 0) 72 (Int.toNat (zadd 40 a1))) 0)) 72 (Int.toNat (zadd 36 a1)) (zadd ((zup (zup F2 72 (Int.toNat (zadd 40 a1)) 0) 72 (Int.toNat (zadd 40 a1)) (zadd ((zup F2 72 (Int.toNat (zadd 40 a1)) 0) 72 (Int.toNat (zadd 40 a1))) 0)) 72 (Int.toNat (zadd 36 a1))) 1)), G2, zsg) rfl ?_
              refine zle_ast rfl rfl rfl (fun _ => ?_)
              refine zle_many 6 (112, 301, [zR 71, zI a1, zI (F 72 (Int.toNat (zadd 34 a1))), zI (zadd (zmul 12 (F 72 (Int.toNat (zadd 34 a1)))) (F 72 (Int.toNat (zadd 36 a1)))), zI 1, zI 0], [zI 0, zI (zadd 40 a1), zR 72], (zup (zup (zup (zup F2 72 (Int.toNat (zadd 40 a1)) 0) 72 (Int.toNat (zadd 40 a1)) (zadd ((zup F2 72 (Int.toNat (zadd 40 a1)) 0) 72 (Int.toNat (zadd 40 a1))) 0)) 72 (Int.toNat (zadd 36 a1)) (zadd ((zup (zup F2 72 (Int.toNat (zadd 40 a1)) 0) 72 (Int.toNat (zadd 40 a1)) (zadd ((zup F2 72 (Int.toNat (zadd 40 a1)) 0) 72 (Int.toNat (zadd 40 a1))) 0)) 72 (Int.toNat (zadd 36 a1))) 1)) 72 (Int.toNat (zadd 38 a1)) 0), G2, zsg) rfl ?_
              refine zle_ast rfl rfl rfl (fun _ => ?_)
              exact zle_ret rfl
            · refine zle_many 10 (112, 210, [zR 71, zI a1, zI (F 72 (Int.toNat (zadd 34 a1))), zI (zadd (zmul 12 (F 72 (Int.toNat (zadd 34 a1)))) (F 72 (Int.toNat (zadd 36 a1)))), zI 0, zI 0], [zI 0, zI (zadd 40 a1), zR 72], F2, G2, zsg) rfl ?_
              refine zle_ast rfl rfl rfl (fun _ => ?_)
              refine zle_many 7 (112, 251, [zR 71, zI a1, zI (F 72 (Int.toNat (zadd 34 a1))), zI (zadd (zmul 12 (F 72 (Int.toNat (zadd 34 a1)))) (F 72 (Int.toNat (zadd 36 a1)))), zI 0, zI 0], [zI (zadd 40 a1), zR 72, zI (zadd 40 a1), zR 72], (zup F2 72 (Int.toNat (zadd 40 a1)) 0), G2, zsg) rfl ?_
              refine zle_ald rfl rfl rfl (fun _ => ?_)
              refine zle_many 4 (112, 263, [zR 71, zI a1, zI (F 72 (Int.toNat (zadd 34 a1))), zI (zadd (zmul 12 (F 72 (Int.toNat (zadd 34 a1)))) (F 72 (Int.toNat (zadd 36 a1)))), zI 0, zI 0], [zI (zadd ((zup F2 72 (Int.toNat (zadd 40 a1)) 0) 72 (Int.toNat (zadd 40 a1))) 0), zI (zadd 40 a1), zR 72], (zup F2 72 (Int.toNat (zadd 40 a1)) 0), G2, zsg) rfl ?_
              refine zle_ast rfl rfl rfl (fun _ => ?_)
              refine zle_many 2 (112, 302, [zR 71, zI a1, zI (F 72 (Int.toNat (zadd 34 a1))), zI (zadd (zmul 12 (F 72 (Int.toNat (zadd 34 a1)))) (F 72 (Int.toNat (zadd 36 a1)))), zI 0, zI 0], [], (zup (zup F2 72 (Int.toNat (zadd 40 a1)) 0) 72 (Int.toNat (zadd 40 a1)) (zadd ((zup F2 72 (Int.toNat (zadd 40 a1)) 0) 72 (Int.toNat (zadd 40 a1))) 0)), G2, zsg) rfl ?_
              exact zle_ret rfl
      · refine zle_many 3 (112, 217, [zR 71, zI a1, zI (F 72 (Int.toNat (zadd 34 a1))), zI (zadd (zmul 12 (F 72 (Int.toNat (zadd 34 a1)))) (F 72 (Int.toNat (zadd 36 a1)))), zI 0, zI 0], [zI (zadd (zmul 12 (F 72 (Int.toNat (zadd 34 a1)))) (F 72 (Int.toNat (zadd 36 a1)))), zI a1, zR 71], F, G, zsg) rfl ?_
        refine zle_I rfl (fun v1 F1 G1 => ?_)
        refine zle_many 1 (112, (bif zcmp .ne v1 0 then 227 else 223), [zR 71, zI a1, zI (F 72 (Int.toNat (zadd 34 a1))), zI (zadd (zmul 12 (F 72 (Int.toNat (zadd 34 a1)))) (F 72 (Int.toNat (zadd 36 a1)))), zI 0, zI 0], [], F1, G1, zsg) rfl ?_
        refine zle_ne (fun _ => ?_) (fun _ => ?_)
        · refine zle_many 13 (112, 251, [zR 71, zI a1, zI (F 72 (Int.toNat (zadd 34 a1))), zI (zadd (zmul 12 (F 72 (Int.toNat (zadd 34 a1)))) (F 72 (Int.toNat (zadd 36 a1)))), zI 1, zI 0], [zI (zadd 40 a1), zR 72, zI (zadd 40 a1), zR 72], F1, G1, zsg) rfl ?_
          refine zle_ald rfl rfl rfl (fun _ => ?_)
          refine zle_many 4 (112, 263, [zR 71, zI a1, zI (F 72 (Int.toNat (zadd 34 a1))), zI (zadd (zmul 12 (F 72 (Int.toNat (zadd 34 a1)))) (F 72 (Int.toNat (zadd 36 a1)))), zI 1, zI 0], [zI (zadd (F1 72 (Int.toNat (zadd 40 a1))) 0), zI (zadd 40 a1), zR 72], F1, G1, zsg) rfl ?_
          refine zle_ast rfl rfl rfl (fun _ => ?_)
          refine zle_many 8 (112, 278, [zR 71, zI a1, zI (F 72 (Int.toNat (zadd 34 a1))), zI (zadd (zmul 12 (F 72 (Int.toNat (zadd 34 a1)))) (F 72 (Int.toNat (zadd 36 a1)))), zI 1, zI 0], [zI (zadd 36 a1), zR 72, zI (zadd 36 a1), zR 72], (zup F1 72 (Int.toNat (zadd 40 a1)) (zadd (F1 72 (Int.toNat (zadd 40 a1))) 0)), G1, zsg) rfl ?_
          refine zle_ald rfl rfl rfl (fun _ => ?_)
          refine zle_many 2 (112, 281, [zR 71, zI a1, zI (F 72 (Int.toNat (zadd 34 a1))), zI (zadd (zmul 12 (F 72 (Int.toNat (zadd 34 a1)))) (F 72 (Int.toNat (zadd 36 a1)))), zI 1, zI 0], [zI (zadd ((zup F1 72 (Int.toNat (zadd 40 a1)) (zadd (F1 72 (Int.toNat (zadd 40 a1))) 0)) 72 (Int.toNat (zadd 36 a1))) 1), zI (zadd 36 a1), zR 72], (zup F1 72 (Int.toNat (zadd 40 a1)) (zadd (F1 72 (Int.toNat (zadd 40 a1))) 0)), G1, zsg) rfl ?_
          refine zle_ast rfl rfl rfl (fun _ => ?_)
          refine zle_many 6 (112, 291, [zR 71, zI a1, zI (F 72 (Int.toNat (zadd 34 a1))), zI (zadd (zmul 12 (F 72 (Int.toNat (zadd 34 a1)))) (F 72 (Int.toNat (zadd 36 a1)))), zI 1, zI 0], [zI 0, zI (zadd 38 a1), zR 72], (zup (zup F1 72 (Int.toNat (zadd 40 a1)) (zadd (F1 72 (Int.toNat (zadd 40 a1))) 0)) 72 (Int.toNat (zadd 36 a1)) (zadd ((zup F1 72 (Int.toNat (zadd 40 a1)) (zadd (F1 72 (Int.toNat (zadd 40 a1))) 0)) 72 (Int.toNat (zadd 36 a1))) 1)), G1, zsg) rfl ?_
          refine zle_ast rfl rfl rfl (fun _ => ?_)
          refine zle_many 6 (112, 301, [zR 71, zI a1, zI (F 72 (Int.toNat (zadd 34 a1))), zI (zadd (zmul 12 (F 72 (Int.toNat (zadd 34 a1)))) (F 72 (Int.toNat (zadd 36 a1)))), zI 1, zI 0], [zI 0, zI (zadd 40 a1), zR 72], (zup (zup (zup F1 72 (Int.toNat (zadd 40 a1)) (zadd (F1 72 (Int.toNat (zadd 40 a1))) 0)) 72 (Int.toNat (zadd 36 a1)) (zadd ((zup F1 72 (Int.toNat (zadd 40 a1)) (zadd (F1 72 (Int.toNat (zadd 40 a1))) 0)) 72 (Int.toNat (zadd 36 a1))) 1)) 72 (Int.toNat (zadd 38 a1)) 0), G1, zsg) rfl ?_
          refine zle_ast rfl rfl rfl (fun _ => ?_)
          exact zle_ret rfl
        · refine zle_many 13 (112, 251, [zR 71, zI a1, zI (F 72 (Int.toNat (zadd 34 a1))), zI (zadd (zmul 12 (F 72 (Int.toNat (zadd 34 a1)))) (F 72 (Int.toNat (zadd 36 a1)))), zI 0, zI 1], [zI (zadd 40 a1), zR 72, zI (zadd 40 a1), zR 72], F1, G1, zsg) rfl ?_
          refine zle_ald rfl rfl rfl (fun _ => ?_)
          refine zle_many 5 (112, 263, [zR 71, zI a1, zI (F 72 (Int.toNat (zadd 34 a1))), zI (zadd (zmul 12 (F 72 (Int.toNat (zadd 34 a1)))) (F 72 (Int.toNat (zadd 36 a1)))), zI 0, zI 1], [zI (zadd (F1 72 (Int.toNat (zadd 40 a1))) 1), zI (zadd 40 a1), zR 72], F1, G1, zsg) rfl ?_
          refine zle_ast rfl rfl rfl (fun _ => ?_)
          refine zle_many 2 (112, 302, [zR 71, zI a1, zI (F 72 (Int.toNat (zadd 34 a1))), zI (zadd (zmul 12 (F 72 (Int.toNat (zadd 34 a1)))) (F 72 (Int.toNat (zadd 36 a1)))), zI 0, zI 1], [], (zup F1 72 (Int.toNat (zadd 40 a1)) (zadd (F1 72 (Int.toNat (zadd 40 a1))) 1)), G1, zsg) rfl ?_
          exact zle_ret rfl
set_option maxRecDepth 20000 in
theorem g_M_run {d : Nat} {F : zM} {G : zG} (a1 : Int) : zle (
  zbI (zex d 49 [zI a1, zI 1, zI 100] (F, G, zsg)) (fun v1 F1 G1 =>
  if v1 = 0 then
    some (some (zI (-2)), F1, G1, zsg)
  else
    if 5000 < (zadd (F1 72 42) a1) then
      some (some (zI (-4)), F1, G1, zsg)
    else
      zev zX0 d (113, 33, [zR 71, zI a1, zI 0, zR 0], [], F1, G1, zsg))) (zex (d + 1) 113 [zR 71, zI a1] (F, G, zsg)) := by
  refine zle_ent (ls := [zR 71, zI a1, zR 0, zR 0]) ?_
  refine zle_many 3 (113, 4, [zR 71, zI a1, zR 0, zR 0], [zI 100, zI 1, zI a1], F, G, zsg) rfl ?_
  refine zle_I rfl (fun v1 F1 G1 => ?_)
  refine zle_many 1 (113, (bif zcmp .ne v1 0 then 13 else 10), [zR 71, zI a1, zR 0, zR 0], [], F1, G1, zsg) rfl ?_
  refine zle_ne (fun _ => ?_) (fun _ => ?_)
  · refine zle_many 1 (113, 12, [zR 71, zI a1, zR 0, zR 0], [zI (-2)], F1, G1, zsg) rfl ?_
    exact zle_ret rfl
  · refine zle_many 8 (113, (bif zcmp .le (zadd (F1 72 42) a1) 5000 then 31 else 28), [zR 71, zI a1, zR 0, zR 0], [], F1, G1, zsg) rfl ?_
    refine zle_le (fun _ => ?_) (fun _ => ?_)
    · refine zle_many 1 (113, 30, [zR 71, zI a1, zR 0, zR 0], [zI (-4)], F1, G1, zsg) rfl ?_
      exact zle_ret rfl
    · refine zle_many 2 (113, 33, [zR 71, zI a1, zI 0, zR 0], [], F1, G1, zsg) rfl ?_
      exact zle_rfl
set_option maxRecDepth 20000 in
theorem g_M_run_33 {d : Nat} {F : zM} {G : zG} (l1 : Int) (l2 : Int) : zle (
  if l2 < l1 then
  zev zX0 d (113, 40, [zR 71, zI l1, zI l2, zI 0], [], F, G, zsg)
else
  some (some (zI (F 72 42)), F, G, zsg)) (zev zX0 d (113, 33, [zR 71, zI l1, zI l2, zR 0], [], F, G, zsg)) := by
  refine zle_many 3 (113, (bif zcmp .ge l2 l1 then 86 else 38), [zR 71, zI l1, zI l2, zR 0], [], F, G, zsg) rfl ?_
  refine zle_ge (fun _ => ?_) (fun _ => ?_)
  · refine zle_many 2 (113, 40, [zR 71, zI l1, zI l2, zI 0], [], F, G, zsg) rfl ?_
    exact zle_rfl
  · refine zle_many 4 (113, 93, [zR 71, zI l1, zI l2, zR 0], [zI (F 72 42)], F, G, zsg) rfl ?_
    exact zle_ret rfl
set_option maxRecDepth 20000 in
theorem g_M_run_40 {d : Nat} {F : zM} {G : zG} (l1 : Int) (l2 : Int) (l3 : Int) : zle (
  if l3 < 2 then
  if 0 ≤ (zadd 34 l3) ∧ (zadd 34 l3) < 43 then
    if (F 72 (Int.toNat (zadd 34 l3))) = (-1) then
      zev zX0 d (113, 40, [zR 71, zI l1, zI l2, zI (zadd l3 1)], [], F, G, zsg)
    else
      zbV (zex d 112 [zR 71, zI l3] (F, G, zsg)) (fun F1 G1 =>
        zev zX0 d (113, 40, [zR 71, zI l1, zI l2, zI (zadd l3 1)], [], F1, G1, zsg))
  else none
else
  zev zX0 d (113, 33, [zR 71, zI l1, zI (zadd l2 1), zR 0], [], (zup F 72 42 (zadd (F 72 42) 1)), G, zsg)) (zev zX0 d (113, 40, [zR 71, zI l1, zI l2, zI l3], [], F, G, zsg)) := by
  refine zle_many 3 (113, (bif zcmp .ge l3 2 then 69 else 45), [zR 71, zI l1, zI l2, zI l3], [], F, G, zsg) rfl ?_
  refine zle_ge (fun _ => ?_) (fun _ => ?_)
  · refine zle_many 5 (113, 53, [zR 71, zI l1, zI l2, zI l3], [zI (zadd 34 l3), zR 72], F, G, zsg) rfl ?_
    refine zle_ald rfl rfl rfl (fun _ => ?_)
    refine zle_many 2 (113, (bif zcmp .eq (F 72 (Int.toNat (zadd 34 l3))) (-1) then 63 else 58), [zR 71, zI l1, zI l2, zI l3], [], F, G, zsg) rfl ?_
    refine zle_eq (fun _ => ?_) (fun _ => ?_)
    · refine zle_many 2 (113, 40, [zR 71, zI l1, zI l2, zI (zadd l3 1)], [], F, G, zsg) rfl ?_
      exact zle_rfl
    · refine zle_many 2 (113, 60, [zR 71, zI l1, zI l2, zI l3], [zI l3, zR 71], F, G, zsg) rfl ?_
      refine zle_V rfl (fun F1 G1 => ?_)
      refine zle_many 2 (113, 40, [zR 71, zI l1, zI l2, zI (zadd l3 1)], [], F1, G1, zsg) rfl ?_
      exact zle_rfl
  · refine zle_many 10 (113, 33, [zR 71, zI l1, zI (zadd l2 1), zI l3], [], (zup F 72 42 (zadd (F 72 42) 1)), G, zsg) rfl ?_
    exact zle_wk ⟨Or.inl rfl, Or.inl rfl, Or.inl rfl, Or.inr rfl, trivial⟩
set_option maxRecDepth 20000 in
theorem g_M_hangs {d : Nat} {F : zM} {G : zG} (a1 : Int) : zle (
  zbI (zex d 49 [zI a1, zI 1, zI 99] (F, G, zsg)) (fun v1 F1 G1 =>
  if v1 = 0 then
    some (some (zI (-2)), F1, G1, zsg)
  else
    if (F1 72 34) = (-1) then
      some (some (zI 0), F1, G1, zsg)
    else
      if (F1 72 35) = (-1) then
        some (some (zI 0), F1, G1, zsg)
      else
        if (F1 72 40) < a1 then
          some (some (zI 0), F1, G1, zsg)
        else
          if (F1 72 41) < a1 then
            some (some (zI 0), F1, G1, zsg)
          else
            some (some (zI 1), F1, G1, zsg))) (zex (d + 1) 114 [zR 71, zI a1] (F, G, zsg)) := by
  refine zle_ent (ls := [zR 71, zI a1]) ?_
  refine zle_many 3 (114, 4, [zR 71, zI a1], [zI 99, zI 1, zI a1], F, G, zsg) rfl ?_
  refine zle_I rfl (fun v1 F1 G1 => ?_)
  refine zle_many 1 (114, (bif zcmp .ne v1 0 then 13 else 10), [zR 71, zI a1], [], F1, G1, zsg) rfl ?_
  refine zle_ne (fun _ => ?_) (fun _ => ?_)
  · refine zle_many 1 (114, 12, [zR 71, zI a1], [zI (-2)], F1, G1, zsg) rfl ?_
    exact zle_ret rfl
  · refine zle_many 6 (114, (bif zcmp .eq (F1 72 34) (-1) then 61 else 24), [zR 71, zI a1], [], F1, G1, zsg) rfl ?_
    refine zle_eq (fun _ => ?_) (fun _ => ?_)
    · refine zle_many 1 (114, 62, [zR 71, zI a1], [zI 0], F1, G1, zsg) rfl ?_
      exact zle_ret rfl
    · refine zle_many 6 (114, (bif zcmp .eq (F1 72 35) (-1) then 61 else 35), [zR 71, zI a1], [], F1, G1, zsg) rfl ?_
      refine zle_eq (fun _ => ?_) (fun _ => ?_)
      · refine zle_many 1 (114, 62, [zR 71, zI a1], [zI 0], F1, G1, zsg) rfl ?_
        exact zle_ret rfl
      · refine zle_many 6 (114, (bif zcmp .lt (F1 72 40) a1 then 61 else 46), [zR 71, zI a1], [], F1, G1, zsg) rfl ?_
        refine zle_lt (fun _ => ?_) (fun _ => ?_)
        · refine zle_many 1 (114, 62, [zR 71, zI a1], [zI 0], F1, G1, zsg) rfl ?_
          exact zle_ret rfl
        · refine zle_many 6 (114, (bif zcmp .lt (F1 72 41) a1 then 61 else 57), [zR 71, zI a1], [], F1, G1, zsg) rfl ?_
          refine zle_lt (fun _ => ?_) (fun _ => ?_)
          · refine zle_many 1 (114, 62, [zR 71, zI a1], [zI 0], F1, G1, zsg) rfl ?_
            exact zle_ret rfl
          · refine zle_many 2 (114, 62, [zR 71, zI a1], [zI 1], F1, G1, zsg) rfl ?_
            exact zle_ret rfl
set_option maxRecDepth 20000 in
theorem g_M_handFor {d : Nat} {F : zM} {G : zG} (a0 : Int) (a1 : Int) (a2 : Int) : zle (
  if a1 = 1 then
  if a1 = 0 then
    zbI (zex d 49 [zI (zadd (zrem a0 8) a2), zI 0, zI 7] (F, G, zsg)) (fun v17 F17 G17 =>
      if v17 = 0 then
        some (some (zI (-1)), F17, G17, zsg)
      else
        zbI (zex d 49 [zI (zadd (zdiv a0 8) (-1)), zI 0, zI 7] (F17, G17, zsg)) (fun v18 F18 G18 =>
          if v18 = 0 then
            some (some (zI (-1)), F18, G18, zsg)
          else
            some (some (zI (zadd (zmul 8 (zadd (zdiv a0 8) (-1))) (zadd (zrem a0 8) a2))), F18, G18, zsg)))
  else
    if a1 = 2 then
      zbI (zex d 49 [zI (zadd (zrem a0 8) a2), zI 0, zI 7] (F, G, zsg)) (fun v15 F15 G15 =>
        if v15 = 0 then
          some (some (zI (-1)), F15, G15, zsg)
        else
          zbI (zex d 49 [zI (zadd (zdiv a0 8) 1), zI 0, zI 7] (F15, G15, zsg)) (fun v16 F16 G16 =>
            if v16 = 0 then
              some (some (zI (-1)), F16, G16, zsg)
            else
              some (some (zI (zadd (zmul 8 (zadd (zdiv a0 8) 1)) (zadd (zrem a0 8) a2))), F16, G16, zsg)))
    else
      zbI (zex d 49 [zI (zadd (zrem a0 8) a2), zI 0, zI 7] (F, G, zsg)) (fun v13 F13 G13 =>
        if v13 = 0 then
          some (some (zI (-1)), F13, G13, zsg)
        else
          zbI (zex d 49 [zI (zadd (zdiv a0 8) 0), zI 0, zI 7] (F13, G13, zsg)) (fun v14 F14 G14 =>
            if v14 = 0 then
              some (some (zI (-1)), F14, G14, zsg)
            else
              some (some (zI (zadd (zmul 8 (zadd (zdiv a0 8) 0)) (zadd (zrem a0 8) a2))), F14, G14, zsg)))
else
  if a1 = 3 then
    if a1 = 0 then
      zbI (zex d 49 [zI (zadd (zrem a0 8) (-1)), zI 0, zI 7] (F, G, zsg)) (fun v11 F11 G11 =>
        if v11 = 0 then
          some (some (zI (-1)), F11, G11, zsg)
        else
          zbI (zex d 49 [zI (zadd (zdiv a0 8) (-1)), zI 0, zI 7] (F11, G11, zsg)) (fun v12 F12 G12 =>
            if v12 = 0 then
              some (some (zI (-1)), F12, G12, zsg)
            else
              some (some (zI (zadd (zmul 8 (zadd (zdiv a0 8) (-1))) (zadd (zrem a0 8) (-1)))), F12, G12, zsg)))
    else
      if a1 = 2 then
        zbI (zex d 49 [zI (zadd (zrem a0 8) (-1)), zI 0, zI 7] (F, G, zsg)) (fun v9 F9 G9 =>
          if v9 = 0 then
            some (some (zI (-1)), F9, G9, zsg)
          else
            zbI (zex d 49 [zI (zadd (zdiv a0 8) 1), zI 0, zI 7] (F9, G9, zsg)) (fun v10 F10 G10 =>
              if v10 = 0 then
                some (some (zI (-1)), F10, G10, zsg)
              else
                some (some (zI (zadd (zmul 8 (zadd (zdiv a0 8) 1)) (zadd (zrem a0 8) (-1)))), F10, G10, zsg)))
      else
        zbI (zex d 49 [zI (zadd (zrem a0 8) (-1)), zI 0, zI 7] (F, G, zsg)) (fun v7 F7 G7 =>
          if v7 = 0 then
            some (some (zI (-1)), F7, G7, zsg)
          else
            zbI (zex d 49 [zI (zadd (zdiv a0 8) 0), zI 0, zI 7] (F7, G7, zsg)) (fun v8 F8 G8 =>
              if v8 = 0 then
                some (some (zI (-1)), F8, G8, zsg)
              else
                some (some (zI (zadd (zmul 8 (zadd (zdiv a0 8) 0)) (zadd (zrem a0 8) (-1)))), F8, G8, zsg)))
  else
    if a1 = 0 then
      zbI (zex d 49 [zI (zadd (zrem a0 8) 0), zI 0, zI 7] (F, G, zsg)) (fun v5 F5 G5 =>
        if v5 = 0 then
          some (some (zI (-1)), F5, G5, zsg)
        else
          zbI (zex d 49 [zI (zadd (zdiv a0 8) (-1)), zI 0, zI 7] (F5, G5, zsg)) (fun v6 F6 G6 =>
            if v6 = 0 then
              some (some (zI (-1)), F6, G6, zsg)
            else
              some (some (zI (zadd (zmul 8 (zadd (zdiv a0 8) (-1))) (zadd (zrem a0 8) 0))), F6, G6, zsg)))
    else
      if a1 = 2 then
        zbI (zex d 49 [zI (zadd (zrem a0 8) 0), zI 0, zI 7] (F, G, zsg)) (fun v3 F3 G3 =>
          if v3 = 0 then
            some (some (zI (-1)), F3, G3, zsg)
          else
            zbI (zex d 49 [zI (zadd (zdiv a0 8) 1), zI 0, zI 7] (F3, G3, zsg)) (fun v4 F4 G4 =>
              if v4 = 0 then
                some (some (zI (-1)), F4, G4, zsg)
              else
                some (some (zI (zadd (zmul 8 (zadd (zdiv a0 8) 1)) (zadd (zrem a0 8) 0))), F4, G4, zsg)))
      else
        zbI (zex d 49 [zI (zadd (zrem a0 8) 0), zI 0, zI 7] (F, G, zsg)) (fun v1 F1 G1 =>
          if v1 = 0 then
            some (some (zI (-1)), F1, G1, zsg)
          else
            zbI (zex d 49 [zI (zadd (zdiv a0 8) 0), zI 0, zI 7] (F1, G1, zsg)) (fun v2 F2 G2 =>
              if v2 = 0 then
                some (some (zI (-1)), F2, G2, zsg)
              else
                some (some (zI (zadd (zmul 8 (zadd (zdiv a0 8) 0)) (zadd (zrem a0 8) 0))), F2, G2, zsg)))) (zex (d + 1) 115 [zI a0, zI a1, zI a2] (F, G, zsg)) := by
  refine zle_ent (ls := [zI a0, zI a1, zI a2, zR 0, zR 0]) ?_
  refine zle_many 6 (115, (bif zcmp .ne a1 1 then 13 else 9), [zI a0, zI a1, zI a2, zR 0, zR 0], [zI (zrem a0 8)], F, G, zsg) rfl ?_
  refine zle_ne (fun _ => ?_) (fun _ => ?_)
  · refine zle_many 9 (115, (bif zcmp .ne a1 0 then 37 else 33), [zI a0, zI a1, zI a2, zI (zadd (zrem a0 8) a2), zR 0], [zI (zdiv a0 8)], F, G, zsg) rfl ?_
    refine zle_ne (fun _ => ?_) (fun _ => ?_)
    · refine zle_many 7 (115, 54, [zI a0, zI a1, zI a2, zI (zadd (zrem a0 8) a2), zI (zadd (zdiv a0 8) (-1))], [zI 7, zI 0, zI (zadd (zrem a0 8) a2)], F, G, zsg) rfl ?_
      refine zle_I rfl (fun v17 F17 G17 => ?_)
      refine zle_many 1 (115, (bif zcmp .eq v17 0 then 81 else 60), [zI a0, zI a1, zI a2, zI (zadd (zrem a0 8) a2), zI (zadd (zdiv a0 8) (-1))], [], F17, G17, zsg) rfl ?_
      refine zle_eq (fun _ => ?_) (fun _ => ?_)
      · refine zle_many 1 (115, 82, [zI a0, zI a1, zI a2, zI (zadd (zrem a0 8) a2), zI (zadd (zdiv a0 8) (-1))], [zI (-1)], F17, G17, zsg) rfl ?_
        exact zle_ret rfl
      · refine zle_many 3 (115, 65, [zI a0, zI a1, zI a2, zI (zadd (zrem a0 8) a2), zI (zadd (zdiv a0 8) (-1))], [zI 7, zI 0, zI (zadd (zdiv a0 8) (-1))], F17, G17, zsg) rfl ?_
        refine zle_I rfl (fun v18 F18 G18 => ?_)
        refine zle_many 1 (115, (bif zcmp .eq v18 0 then 81 else 71), [zI a0, zI a1, zI a2, zI (zadd (zrem a0 8) a2), zI (zadd (zdiv a0 8) (-1))], [], F18, G18, zsg) rfl ?_
        refine zle_eq (fun _ => ?_) (fun _ => ?_)
        · refine zle_many 1 (115, 82, [zI a0, zI a1, zI a2, zI (zadd (zrem a0 8) a2), zI (zadd (zdiv a0 8) (-1))], [zI (-1)], F18, G18, zsg) rfl ?_
          exact zle_ret rfl
        · refine zle_many 6 (115, 82, [zI a0, zI a1, zI a2, zI (zadd (zrem a0 8) a2), zI (zadd (zdiv a0 8) (-1))], [zI (zadd (zmul 8 (zadd (zdiv a0 8) (-1))) (zadd (zrem a0 8) a2))], F18, G18, zsg) rfl ?_
          exact zle_ret rfl
    · refine zle_many 3 (115, (bif zcmp .ne a1 2 then 46 else 42), [zI a0, zI a1, zI a2, zI (zadd (zrem a0 8) a2), zR 0], [zI (zdiv a0 8)], F, G, zsg) rfl ?_
      refine zle_ne (fun _ => ?_) (fun _ => ?_)
      · refine zle_many 7 (115, 54, [zI a0, zI a1, zI a2, zI (zadd (zrem a0 8) a2), zI (zadd (zdiv a0 8) 1)], [zI 7, zI 0, zI (zadd (zrem a0 8) a2)], F, G, zsg) rfl ?_
        refine zle_I rfl (fun v15 F15 G15 => ?_)
        refine zle_many 1 (115, (bif zcmp .eq v15 0 then 81 else 60), [zI a0, zI a1, zI a2, zI (zadd (zrem a0 8) a2), zI (zadd (zdiv a0 8) 1)], [], F15, G15, zsg) rfl ?_
        refine zle_eq (fun _ => ?_) (fun _ => ?_)
        · refine zle_many 1 (115, 82, [zI a0, zI a1, zI a2, zI (zadd (zrem a0 8) a2), zI (zadd (zdiv a0 8) 1)], [zI (-1)], F15, G15, zsg) rfl ?_
          exact zle_ret rfl
        · refine zle_many 3 (115, 65, [zI a0, zI a1, zI a2, zI (zadd (zrem a0 8) a2), zI (zadd (zdiv a0 8) 1)], [zI 7, zI 0, zI (zadd (zdiv a0 8) 1)], F15, G15, zsg) rfl ?_
          refine zle_I rfl (fun v16 F16 G16 => ?_)
          refine zle_many 1 (115, (bif zcmp .eq v16 0 then 81 else 71), [zI a0, zI a1, zI a2, zI (zadd (zrem a0 8) a2), zI (zadd (zdiv a0 8) 1)], [], F16, G16, zsg) rfl ?_
          refine zle_eq (fun _ => ?_) (fun _ => ?_)
          · refine zle_many 1 (115, 82, [zI a0, zI a1, zI a2, zI (zadd (zrem a0 8) a2), zI (zadd (zdiv a0 8) 1)], [zI (-1)], F16, G16, zsg) rfl ?_
            exact zle_ret rfl
          · refine zle_many 6 (115, 82, [zI a0, zI a1, zI a2, zI (zadd (zrem a0 8) a2), zI (zadd (zdiv a0 8) 1)], [zI (zadd (zmul 8 (zadd (zdiv a0 8) 1)) (zadd (zrem a0 8) a2))], F16, G16, zsg) rfl ?_
            exact zle_ret rfl
      · refine zle_many 6 (115, 54, [zI a0, zI a1, zI a2, zI (zadd (zrem a0 8) a2), zI (zadd (zdiv a0 8) 0)], [zI 7, zI 0, zI (zadd (zrem a0 8) a2)], F, G, zsg) rfl ?_
        refine zle_I rfl (fun v13 F13 G13 => ?_)
        refine zle_many 1 (115, (bif zcmp .eq v13 0 then 81 else 60), [zI a0, zI a1, zI a2, zI (zadd (zrem a0 8) a2), zI (zadd (zdiv a0 8) 0)], [], F13, G13, zsg) rfl ?_
        refine zle_eq (fun _ => ?_) (fun _ => ?_)
        · refine zle_many 1 (115, 82, [zI a0, zI a1, zI a2, zI (zadd (zrem a0 8) a2), zI (zadd (zdiv a0 8) 0)], [zI (-1)], F13, G13, zsg) rfl ?_
          exact zle_ret rfl
        · refine zle_many 3 (115, 65, [zI a0, zI a1, zI a2, zI (zadd (zrem a0 8) a2), zI (zadd (zdiv a0 8) 0)], [zI 7, zI 0, zI (zadd (zdiv a0 8) 0)], F13, G13, zsg) rfl ?_
          refine zle_I rfl (fun v14 F14 G14 => ?_)
          refine zle_many 1 (115, (bif zcmp .eq v14 0 then 81 else 71), [zI a0, zI a1, zI a2, zI (zadd (zrem a0 8) a2), zI (zadd (zdiv a0 8) 0)], [], F14, G14, zsg) rfl ?_
          refine zle_eq (fun _ => ?_) (fun _ => ?_)
          · refine zle_many 1 (115, 82, [zI a0, zI a1, zI a2, zI (zadd (zrem a0 8) a2), zI (zadd (zdiv a0 8) 0)], [zI (-1)], F14, G14, zsg) rfl ?_
            exact zle_ret rfl
          · refine zle_many 6 (115, 82, [zI a0, zI a1, zI a2, zI (zadd (zrem a0 8) a2), zI (zadd (zdiv a0 8) 0)], [zI (zadd (zmul 8 (zadd (zdiv a0 8) 0)) (zadd (zrem a0 8) a2))], F14, G14, zsg) rfl ?_
            exact zle_ret rfl
  · refine zle_many 3 (115, (bif zcmp .ne a1 3 then 22 else 18), [zI a0, zI a1, zI a2, zR 0, zR 0], [zI (zrem a0 8)], F, G, zsg) rfl ?_
    refine zle_ne (fun _ => ?_) (fun _ => ?_)
    · refine zle_many 9 (115, (bif zcmp .ne a1 0 then 37 else 33), [zI a0, zI a1, zI a2, zI (zadd (zrem a0 8) (-1)), zR 0], [zI (zdiv a0 8)], F, G, zsg) rfl ?_
      refine zle_ne (fun _ => ?_) (fun _ => ?_)
      · refine zle_many 7 (115, 54, [zI a0, zI a1, zI a2, zI (zadd (zrem a0 8) (-1)), zI (zadd (zdiv a0 8) (-1))], [zI 7, zI 0, zI (zadd (zrem a0 8) (-1))], F, G, zsg) rfl ?_
        refine zle_I rfl (fun v11 F11 G11 => ?_)
        refine zle_many 1 (115, (bif zcmp .eq v11 0 then 81 else 60), [zI a0, zI a1, zI a2, zI (zadd (zrem a0 8) (-1)), zI (zadd (zdiv a0 8) (-1))], [], F11, G11, zsg) rfl ?_
        refine zle_eq (fun _ => ?_) (fun _ => ?_)
        · refine zle_many 1 (115, 82, [zI a0, zI a1, zI a2, zI (zadd (zrem a0 8) (-1)), zI (zadd (zdiv a0 8) (-1))], [zI (-1)], F11, G11, zsg) rfl ?_
          exact zle_ret rfl
        · refine zle_many 3 (115, 65, [zI a0, zI a1, zI a2, zI (zadd (zrem a0 8) (-1)), zI (zadd (zdiv a0 8) (-1))], [zI 7, zI 0, zI (zadd (zdiv a0 8) (-1))], F11, G11, zsg) rfl ?_
          refine zle_I rfl (fun v12 F12 G12 => ?_)
          refine zle_many 1 (115, (bif zcmp .eq v12 0 then 81 else 71), [zI a0, zI a1, zI a2, zI (zadd (zrem a0 8) (-1)), zI (zadd (zdiv a0 8) (-1))], [], F12, G12, zsg) rfl ?_
          refine zle_eq (fun _ => ?_) (fun _ => ?_)
          · refine zle_many 1 (115, 82, [zI a0, zI a1, zI a2, zI (zadd (zrem a0 8) (-1)), zI (zadd (zdiv a0 8) (-1))], [zI (-1)], F12, G12, zsg) rfl ?_
            exact zle_ret rfl
          · refine zle_many 6 (115, 82, [zI a0, zI a1, zI a2, zI (zadd (zrem a0 8) (-1)), zI (zadd (zdiv a0 8) (-1))], [zI (zadd (zmul 8 (zadd (zdiv a0 8) (-1))) (zadd (zrem a0 8) (-1)))], F12, G12, zsg) rfl ?_
            exact zle_ret rfl
      · refine zle_many 3 (115, (bif zcmp .ne a1 2 then 46 else 42), [zI a0, zI a1, zI a2, zI (zadd (zrem a0 8) (-1)), zR 0], [zI (zdiv a0 8)], F, G, zsg) rfl ?_
        refine zle_ne (fun _ => ?_) (fun _ => ?_)
        · refine zle_many 7 (115, 54, [zI a0, zI a1, zI a2, zI (zadd (zrem a0 8) (-1)), zI (zadd (zdiv a0 8) 1)], [zI 7, zI 0, zI (zadd (zrem a0 8) (-1))], F, G, zsg) rfl ?_
          refine zle_I rfl (fun v9 F9 G9 => ?_)
          refine zle_many 1 (115, (bif zcmp .eq v9 0 then 81 else 60), [zI a0, zI a1, zI a2, zI (zadd (zrem a0 8) (-1)), zI (zadd (zdiv a0 8) 1)], [], F9, G9, zsg) rfl ?_
          refine zle_eq (fun _ => ?_) (fun _ => ?_)
          · refine zle_many 1 (115, 82, [zI a0, zI a1, zI a2, zI (zadd (zrem a0 8) (-1)), zI (zadd (zdiv a0 8) 1)], [zI (-1)], F9, G9, zsg) rfl ?_
            exact zle_ret rfl
          · refine zle_many 3 (115, 65, [zI a0, zI a1, zI a2, zI (zadd (zrem a0 8) (-1)), zI (zadd (zdiv a0 8) 1)], [zI 7, zI 0, zI (zadd (zdiv a0 8) 1)], F9, G9, zsg) rfl ?_
            refine zle_I rfl (fun v10 F10 G10 => ?_)
            refine zle_many 1 (115, (bif zcmp .eq v10 0 then 81 else 71), [zI a0, zI a1, zI a2, zI (zadd (zrem a0 8) (-1)), zI (zadd (zdiv a0 8) 1)], [], F10, G10, zsg) rfl ?_
            refine zle_eq (fun _ => ?_) (fun _ => ?_)
            · refine zle_many 1 (115, 82, [zI a0, zI a1, zI a2, zI (zadd (zrem a0 8) (-1)), zI (zadd (zdiv a0 8) 1)], [zI (-1)], F10, G10, zsg) rfl ?_
              exact zle_ret rfl
            · refine zle_many 6 (115, 82, [zI a0, zI a1, zI a2, zI (zadd (zrem a0 8) (-1)), zI (zadd (zdiv a0 8) 1)], [zI (zadd (zmul 8 (zadd (zdiv a0 8) 1)) (zadd (zrem a0 8) (-1)))], F10, G10, zsg) rfl ?_
              exact zle_ret rfl
        · refine zle_many 6 (115, 54, [zI a0, zI a1, zI a2, zI (zadd (zrem a0 8) (-1)), zI (zadd (zdiv a0 8) 0)], [zI 7, zI 0, zI (zadd (zrem a0 8) (-1))], F, G, zsg) rfl ?_
          refine zle_I rfl (fun v7 F7 G7 => ?_)
          refine zle_many 1 (115, (bif zcmp .eq v7 0 then 81 else 60), [zI a0, zI a1, zI a2, zI (zadd (zrem a0 8) (-1)), zI (zadd (zdiv a0 8) 0)], [], F7, G7, zsg) rfl ?_
          refine zle_eq (fun _ => ?_) (fun _ => ?_)
          · refine zle_many 1 (115, 82, [zI a0, zI a1, zI a2, zI (zadd (zrem a0 8) (-1)), zI (zadd (zdiv a0 8) 0)], [zI (-1)], F7, G7, zsg) rfl ?_
            exact zle_ret rfl
          · refine zle_many 3 (115, 65, [zI a0, zI a1, zI a2, zI (zadd (zrem a0 8) (-1)), zI (zadd (zdiv a0 8) 0)], [zI 7, zI 0, zI (zadd (zdiv a0 8) 0)], F7, G7, zsg) rfl ?_
            refine zle_I rfl (fun v8 F8 G8 => ?_)
            refine zle_many 1 (115, (bif zcmp .eq v8 0 then 81 else 71), [zI a0, zI a1, zI a2, zI (zadd (zrem a0 8) (-1)), zI (zadd (zdiv a0 8) 0)], [], F8, G8, zsg) rfl ?_
            refine zle_eq (fun _ => ?_) (fun _ => ?_)
            · refine zle_many 1 (115, 82, [zI a0, zI a1, zI a2, zI (zadd (zrem a0 8) (-1)), zI (zadd (zdiv a0 8) 0)], [zI (-1)], F8, G8, zsg) rfl ?_
              exact zle_ret rfl
            · refine zle_many 6 (115, 82, [zI a0, zI a1, zI a2, zI (zadd (zrem a0 8) (-1)), zI (zadd (zdiv a0 8) 0)], [zI (zadd (zmul 8 (zadd (zdiv a0 8) 0)) (zadd (zrem a0 8) (-1)))], F8, G8, zsg) rfl ?_
              exact zle_ret rfl
    · refine zle_many 8 (115, (bif zcmp .ne a1 0 then 37 else 33), [zI a0, zI a1, zI a2, zI (zadd (zrem a0 8) 0), zR 0], [zI (zdiv a0 8)], F, G, zsg) rfl ?_
      refine zle_ne (fun _ => ?_) (fun _ => ?_)
      · refine zle_many 7 (115, 54, [zI a0, zI a1, zI a2, zI (zadd (zrem a0 8) 0), zI (zadd (zdiv a0 8) (-1))], [zI 7, zI 0, zI (zadd (zrem a0 8) 0)], F, G, zsg) rfl ?_
        refine zle_I rfl (fun v5 F5 G5 => ?_)
        refine zle_many 1 (115, (bif zcmp .eq v5 0 then 81 else 60), [zI a0, zI a1, zI a2, zI (zadd (zrem a0 8) 0), zI (zadd (zdiv a0 8) (-1))], [], F5, G5, zsg) rfl ?_
        refine zle_eq (fun _ => ?_) (fun _ => ?_)
        · refine zle_many 1 (115, 82, [zI a0, zI a1, zI a2, zI (zadd (zrem a0 8) 0), zI (zadd (zdiv a0 8) (-1))], [zI (-1)], F5, G5, zsg) rfl ?_
          exact zle_ret rfl
        · refine zle_many 3 (115, 65, [zI a0, zI a1, zI a2, zI (zadd (zrem a0 8) 0), zI (zadd (zdiv a0 8) (-1))], [zI 7, zI 0, zI (zadd (zdiv a0 8) (-1))], F5, G5, zsg) rfl ?_
          refine zle_I rfl (fun v6 F6 G6 => ?_)
          refine zle_many 1 (115, (bif zcmp .eq v6 0 then 81 else 71), [zI a0, zI a1, zI a2, zI (zadd (zrem a0 8) 0), zI (zadd (zdiv a0 8) (-1))], [], F6, G6, zsg) rfl ?_
          refine zle_eq (fun _ => ?_) (fun _ => ?_)
          · refine zle_many 1 (115, 82, [zI a0, zI a1, zI a2, zI (zadd (zrem a0 8) 0), zI (zadd (zdiv a0 8) (-1))], [zI (-1)], F6, G6, zsg) rfl ?_
            exact zle_ret rfl
          · refine zle_many 6 (115, 82, [zI a0, zI a1, zI a2, zI (zadd (zrem a0 8) 0), zI (zadd (zdiv a0 8) (-1))], [zI (zadd (zmul 8 (zadd (zdiv a0 8) (-1))) (zadd (zrem a0 8) 0))], F6, G6, zsg) rfl ?_
            exact zle_ret rfl
      · refine zle_many 3 (115, (bif zcmp .ne a1 2 then 46 else 42), [zI a0, zI a1, zI a2, zI (zadd (zrem a0 8) 0), zR 0], [zI (zdiv a0 8)], F, G, zsg) rfl ?_
        refine zle_ne (fun _ => ?_) (fun _ => ?_)
        · refine zle_many 7 (115, 54, [zI a0, zI a1, zI a2, zI (zadd (zrem a0 8) 0), zI (zadd (zdiv a0 8) 1)], [zI 7, zI 0, zI (zadd (zrem a0 8) 0)], F, G, zsg) rfl ?_
          refine zle_I rfl (fun v3 F3 G3 => ?_)
          refine zle_many 1 (115, (bif zcmp .eq v3 0 then 81 else 60), [zI a0, zI a1, zI a2, zI (zadd (zrem a0 8) 0), zI (zadd (zdiv a0 8) 1)], [], F3, G3, zsg) rfl ?_
          refine zle_eq (fun _ => ?_) (fun _ => ?_)
          · refine zle_many 1 (115, 82, [zI a0, zI a1, zI a2, zI (zadd (zrem a0 8) 0), zI (zadd (zdiv a0 8) 1)], [zI (-1)], F3, G3, zsg) rfl ?_
            exact zle_ret rfl
          · refine zle_many 3 (115, 65, [zI a0, zI a1, zI a2, zI (zadd (zrem a0 8) 0), zI (zadd (zdiv a0 8) 1)], [zI 7, zI 0, zI (zadd (zdiv a0 8) 1)], F3, G3, zsg) rfl ?_
            refine zle_I rfl (fun v4 F4 G4 => ?_)
            refine zle_many 1 (115, (bif zcmp .eq v4 0 then 81 else 71), [zI a0, zI a1, zI a2, zI (zadd (zrem a0 8) 0), zI (zadd (zdiv a0 8) 1)], [], F4, G4, zsg) rfl ?_
            refine zle_eq (fun _ => ?_) (fun _ => ?_)
            · refine zle_many 1 (115, 82, [zI a0, zI a1, zI a2, zI (zadd (zrem a0 8) 0), zI (zadd (zdiv a0 8) 1)], [zI (-1)], F4, G4, zsg) rfl ?_
              exact zle_ret rfl
            · refine zle_many 6 (115, 82, [zI a0, zI a1, zI a2, zI (zadd (zrem a0 8) 0), zI (zadd (zdiv a0 8) 1)], [zI (zadd (zmul 8 (zadd (zdiv a0 8) 1)) (zadd (zrem a0 8) 0))], F4, G4, zsg) rfl ?_
              exact zle_ret rfl
        · refine zle_many 6 (115, 54, [zI a0, zI a1, zI a2, zI (zadd (zrem a0 8) 0), zI (zadd (zdiv a0 8) 0)], [zI 7, zI 0, zI (zadd (zrem a0 8) 0)], F, G, zsg) rfl ?_
          refine zle_I rfl (fun v1 F1 G1 => ?_)
          refine zle_many 1 (115, (bif zcmp .eq v1 0 then 81 else 60), [zI a0, zI a1, zI a2, zI (zadd (zrem a0 8) 0), zI (zadd (zdiv a0 8) 0)], [], F1, G1, zsg) rfl ?_
          refine zle_eq (fun _ => ?_) (fun _ => ?_)
          · refine zle_many 1 (115, 82, [zI a0, zI a1, zI a2, zI (zadd (zrem a0 8) 0), zI (zadd (zdiv a0 8) 0)], [zI (-1)], F1, G1, zsg) rfl ?_
            exact zle_ret rfl
          · refine zle_many 3 (115, 65, [zI a0, zI a1, zI a2, zI (zadd (zrem a0 8) 0), zI (zadd (zdiv a0 8) 0)], [zI 7, zI 0, zI (zadd (zdiv a0 8) 0)], F1, G1, zsg) rfl ?_
            refine zle_I rfl (fun v2 F2 G2 => ?_)
            refine zle_many 1 (115, (bif zcmp .eq v2 0 then 81 else 71), [zI a0, zI a1, zI a2, zI (zadd (zrem a0 8) 0), zI (zadd (zdiv a0 8) 0)], [], F2, G2, zsg) rfl ?_
            refine zle_eq (fun _ => ?_) (fun _ => ?_)
            · refine zle_many 1 (115, 82, [zI a0, zI a1, zI a2, zI (zadd (zrem a0 8) 0), zI (zadd (zdiv a0 8) 0)], [zI (-1)], F2, G2, zsg) rfl ?_
              exact zle_ret rfl
            · refine zle_many 6 (115, 82, [zI a0, zI a1, zI a2, zI (zadd (zrem a0 8) 0), zI (zadd (zdiv a0 8) 0)], [zI (zadd (zmul 8 (zadd (zdiv a0 8) 0)) (zadd (zrem a0 8) 0))], F2, G2, zsg) rfl ?_
              exact zle_ret rfl
set_option maxRecDepth 20000 in
theorem g_M_moveFar {d : Nat} {F : zM} {G : zG} (a1 : Int) (a2 : Int) (a3 : Int) (a4 : Int) : zle (
  if 0 ≤ (zadd 0 a2) ∧ (zadd 0 a2) < 43 then
  if (F 72 (Int.toNat (zadd 0 a2))) = (-1) then
    some (some (zI (-1)), (zup F 71 32 (zadd (F 71 32) 1)), G, zsg)
  else
    if 0 ≤ a2 ∧ a2 < 8 then
      zbI (zex d 54 [zI (F 78 (Int.toNat a2))] ((zup F 71 32 (zadd (F 71 32) 1)), G, zsg)) (fun v1 F1 G1 =>
        if (zand (zshr v1 a3) 1) = 0 then
          some (some (zI (-1)), F1, G1, zsg)
        else
          if 0 ≤ a2 ∧ a2 < 8 then
            if 0 ≤ a2 ∧ a2 < 8 then
              zbI (zex d 55 [zI (F1 78 (Int.toNat a2)), zI (F1 79 (Int.toNat a2))] (F1, G1, zsg)) (fun v2 F2 G2 =>
                if (F2 71 11) < v2 then
                  some (some (zI (-1)), F2, G2, zsg)
                else
                  if 0 ≤ a2 ∧ a2 < 8 then
                    if 8 < (zadd (zrem a4 8) (F2 79 (Int.toNat a2))) then
                      some (some (zI (-1)), F2, G2, zsg)
                    else
                      if 0 ≤ (zadd 0 a2) ∧ (zadd 0 a2) < 43 then
                        if 0 ≤ a2 ∧ a2 < 8 then
                        zbI (zex d 115 [zI (F2 72 (Int.toNat (zadd 0 a2))), zI a3, zI (F2 79 (Int.toNat a2))] (F2, G2, zsg)) (fun v3 F3 G3 =>
                        if 0 ≤ a2 ∧ a2 < 8 then
                        zbI (zex d 115 [zI a4, zI a3, zI (F3 79 (Int.toNat a2))] (F3, G3, zsg)) (fun v4 F4 G4 =>
                        if v3 = (-1) then
                        some (some (zI (-1)), F4, G4, zsg)
                      else
                        if v4 = (-1) then
                        some (some (zI (-1)), F4, G4, zsg)
                      else
                        if 0 ≤ (zadd 28 a1) ∧ (zadd 28 a1) < 43 then
                        zbV (zex d 66 [zR 71, zI a1, zI (F4 72 (Int.toNat (zadd 28 a1))), zI (-1), zI (-1)] (F4, G4, zsg)) (fun F5 G5 =>
                        if 0 ≤ v3 ∧ v3 < 64 then
                        if (F5 99 (Int.toNat v3)) = 1000 then
                        some (some (zI (-1)), F5, G5, zsg)
                      else
                        zbV (zex d 66 [zR 71, zI a1, zI v3, zI a2, zI a3] (F5, G5, zsg)) (fun F6 G6 =>
                        if 0 ≤ v4 ∧ v4 < 64 then
                        if (F6 99 (Int.toNat v4)) = 1000 then
                        some (some (zI (-1)), F6, G6, zsg)
                      else
                        if 0 ≤ v4 ∧ v4 < 64 then
                        some (some (zI (zadd (F5 99 (Int.toNat v3)) (F6 99 (Int.toNat v4)))), F6, G6, zsg)
                      else none
                      else none)
                      else none)
                      else none)
                      else none)
                      else none
                      else none
                  else none)
            else none
          else none)
    else none
else none) (zex (d + 1) 116 [zR 71, zI a1, zI a2, zI a3, zI a4] (F, G, zsg)) := by
  refine zle_ent (ls := [zR 71, zI a1, zI a2, zI a3, zI a4, zR 0, zR 0, zR 0]) ?_
  refine zle_many 11 (116, 17, [zR 71, zI a1, zI a2, zI a3, zI a4, zR 0, zR 0, zR 0], [zI (zadd 0 a2), zR 72], (zup F 71 32 (zadd (F 71 32) 1)), G, zsg) rfl ?_
  refine zle_ald rfl rfl rfl (fun _ => ?_)
  refine zle_many 0 (116, 18, [zR 71, zI a1, zI a2, zI a3, zI a4, zR 0, zR 0, zR 0], [zI (F 72 (Int.toNat (zadd 0 a2)))], (zup F 71 32 (zadd (F 71 32) 1)), G, zsg) rfl ?_
  refine zle_many 2 (116, (bif zcmp .eq (F 72 (Int.toNat (zadd 0 a2))) (-1) then 77 else 22), [zR 71, zI a1, zI a2, zI a3, zI a4, zR 0, zR 0, zR 0], [], (zup F 71 32 (zadd (F 71 32) 1)), G, zsg) rfl ?_
  refine zle_eq (fun _ => ?_) (fun _ => ?_)
  · refine zle_many 1 (116, 78, [zR 71, zI a1, zI a2, zI a3, zI a4, zR 0, zR 0, zR 0], [zI (-1)], (zup F 71 32 (zadd (F 71 32) 1)), G, zsg) rfl ?_
    exact zle_ret rfl
  · refine zle_many 3 (116, 27, [zR 71, zI a1, zI a2, zI a3, zI a4, zR 0, zR 0, zR 0], [zI a2, zR 78], (zup F 71 32 (zadd (F 71 32) 1)), G, zsg) rfl ?_
    refine zle_ald rfl rfl rfl (fun _ => ?_)
    refine zle_many 0 (116, 28, [zR 71, zI a1, zI a2, zI a3, zI a4, zR 0, zR 0, zR 0], [zI (F 78 (Int.toNat a2))], (zup F 71 32 (zadd (F 71 32) 1)), G, zsg) rfl ?_
    refine zle_I rfl (fun v1 F1 G1 => ?_)
    refine zle_many 5 (116, (bif zcmp .eq (zand (zshr v1 a3) 1) 0 then 77 else 38), [zR 71, zI a1, zI a2, zI a3, zI a4, zR 0, zR 0, zR 0], [], F1, G1, zsg) rfl ?_
    refine zle_eq (fun _ => ?_) (fun _ => ?_)
    · refine zle_many 1 (116, 78, [zR 71, zI a1, zI a2, zI a3, zI a4, zR 0, zR 0, zR 0], [zI (-1)], F1, G1, zsg) rfl ?_
      exact zle_ret rfl
    · refine zle_many 3 (116, 43, [zR 71, zI a1, zI a2, zI a3, zI a4, zR 0, zR 0, zR 0], [zI a2, zR 78], F1, G1, zsg) rfl ?_
      refine zle_ald rfl rfl rfl (fun _ => ?_)
      refine zle_many 3 (116, 49, [zR 71, zI a1, zI a2, zI a3, zI a4, zR 0, zR 0, zR 0], [zI a2, zR 79, zI (F1 78 (Int.toNat a2))], F1, G1, zsg) rfl ?_
      refine zle_ald rfl rfl rfl (fun _ => ?_)
      refine zle_I rfl (fun v2 F2 G2 => ?_)
      refine zle_many 3 (116, (bif zcmp .gt v2 (F2 71 11) then 77 else 60), [zR 71, zI a1, zI a2, zI a3, zI a4, zR 0, zR 0, zR 0], [], F2, G2, zsg) rfl ?_
      refine zle_gt (fun _ => ?_) (fun _ => ?_)
      · refine zle_many 1 (116, 78, [zR 71, zI a1, zI a2, zI a3, zI a4, zR 0, zR 0, zR 0], [zI (-1)], F2, G2, zsg) rfl ?_
        exact zle_ret rfl
      · refine zle_many 6 (116, 70, [zR 71, zI a1, zI a2, zI a3, zI a4, zR 0, zR 0, zR 0], [zI a2, zR 79, zI (zrem a4 8)], F2, G2, zsg) rfl ?_
        refine zle_ald rfl rfl rfl (fun _ => ?_)
        refine zle_many 3 (116, (bif zcmp .le (zadd (zrem a4 8) (F2 79 (Int.toNat a2))) 8 then 79 else 77), [zR 71, zI a1, zI a2, zI a3, zI a4, zR 0, zR 0, zR 0], [], F2, G2, zsg) rfl ?_
        refine zle_le (fun _ => ?_) (fun _ => ?_)
        · refine zle_many 1 (116, 78, [zR 71, zI a1, zI a2, zI a3, zI a4, zR 0, zR 0, zR 0], [zI (-1)], F2, G2, zsg) rfl ?_
          exact zle_ret rfl
        · refine zle_many 5 (116, 86, [zR 71, zI a1, zI a2, zI a3, zI a4, zR 0, zR 0, zR 0], [zI (zadd 0 a2), zR 72], F2, G2, zsg) rfl ?_
          refine zle_ald rfl rfl rfl (fun _ => ?_)
          refine zle_many 4 (116, 93, [zR 71, zI a1, zI a2, zI a3, zI a4, zR 0, zR 0, zR 0], [zI a2, zR 79, zI a3, zI (F2 72 (Int.toNat (zadd 0 a2)))], F2, G2, zsg) rfl ?_
          refine zle_ald rfl rfl rfl (fun _ => ?_)
          refine zle_I rfl (fun v3 F3 G3 => ?_)
          refine zle_many 6 (116, 107, [zR 71, zI a1, zI a2, zI a3, zI a4, zI v3, zR 0, zR 0], [zI a2, zR 79, zI a3, zI a4], F3, G3, zsg) rfl ?_
          refine zle_ald rfl rfl rfl (fun _ => ?_)
          refine zle_I rfl (fun v4 F4 G4 => ?_)
          refine zle_many 4 (116, (bif zcmp .eq v3 (-1) then 125 else 119), [zR 71, zI a1, zI a2, zI a3, zI a4, zI v3, zI v4, zR 0], [], F4, G4, zsg) rfl ?_
          refine zle_eq (fun _ => ?_) (fun _ => ?_)
          · refine zle_many 1 (116, 126, [zR 71, zI a1, zI a2, zI a3, zI a4, zI v3, zI v4, zR 0], [zI (-1)], F4, G4, zsg) rfl ?_
            exact zle_ret rfl
          · refine zle_many 3 (116, (bif zcmp .ne v4 (-1) then 127 else 125), [zR 71, zI a1, zI a2, zI a3, zI a4, zI v3, zI v4, zR 0], [], F4, G4, zsg) rfl ?_
            refine zle_ne (fun _ => ?_) (fun _ => ?_)
            · refine zle_many 1 (116, 126, [zR 71, zI a1, zI a2, zI a3, zI a4, zI v3, zI v4, zR 0], [zI (-1)], F4, G4, zsg) rfl ?_
              exact zle_ret rfl
            · refine zle_many 7 (116, 137, [zR 71, zI a1, zI a2, zI a3, zI a4, zI v3, zI v4, zR 0], [zI (zadd 28 a1), zR 72, zI a1, zR 71], F4, G4, zsg) rfl ?_
              refine zle_ald rfl rfl rfl (fun _ => ?_)
              refine zle_many 2 (116, 140, [zR 71, zI a1, zI a2, zI a3, zI a4, zI v3, zI v4, zR 0], [zI (-1), zI (-1), zI (F4 72 (Int.toNat (zadd 28 a1))), zI a1, zR 71], F4, G4, zsg) rfl ?_
              refine zle_V rfl (fun F5 G5 => ?_)
              refine zle_many 3 (116, 149, [zR 71, zI a1, zI a2, zI a3, zI a4, zI v3, zI v4, zR 0], [zI v3, zR 99], F5, G5, zsg) rfl ?_
              refine zle_ald rfl rfl rfl (fun _ => ?_)
              refine zle_many 4 (116, (bif zcmp .ne (F5 99 (Int.toNat v3)) 1000 then 162 else 160), [zR 71, zI a1, zI a2, zI a3, zI a4, zI v3, zI v4, zI (F5 99 (Int.toNat v3))], [], F5, G5, zsg) rfl ?_
              refine zle_ne (fun _ => ?_) (fun _ => ?_)
              · refine zle_many 1 (116, 161, [zR 71, zI a1, zI a2, zI a3, zI a4, zI v3, zI v4, zI (F5 99 (Int.toNat v3))], [zI (-1)], F5, G5, zsg) rfl ?_
                exact zle_ret rfl
              · refine zle_many 5 (116, 168, [zR 71, zI a1, zI a2, zI a3, zI a4, zI v3, zI v4, zI (F5 99 (Int.toNat v3))], [zI a3, zI a2, zI v3, zI a1, zR 71], F5, G5, zsg) rfl ?_
                refine zle_V rfl (fun F6 G6 => ?_)
                refine zle_many 3 (116, 177, [zR 71, zI a1, zI a2, zI a3, zI a4, zI v3, zI v4, zI (F5 99 (Int.toNat v3))], [zI v4, zR 99], F6, G6, zsg) rfl ?_
                refine zle_ald rfl rfl rfl (fun _ => ?_)
                refine zle_many 2 (116, (bif zcmp .ne (F6 99 (Int.toNat v4)) 1000 then 188 else 184), [zR 71, zI a1, zI a2, zI a3, zI a4, zI v3, zI v4, zI (F5 99 (Int.toNat v3))], [], F6, G6, zsg) rfl ?_
                refine zle_ne (fun _ => ?_) (fun _ => ?_)
                · refine zle_many 2 (116, 198, [zR 71, zI a1, zI a2, zI a3, zI a4, zI v3, zI v4, zI (F5 99 (Int.toNat v3))], [zI (-1)], F6, G6, zsg) rfl ?_
                  exact zle_ret rfl
                · refine zle_many 4 (116, 196, [zR 71, zI a1, zI a2, zI a3, zI a4, zI v3, zI v4, zI (F5 99 (Int.toNat v3))], [zI v4, zR 99, zI (F5 99 (Int.toNat v3))], F6, G6, zsg) rfl ?_
                  refine zle_ald rfl rfl rfl (fun _ => ?_)
                  refine zle_many 1 (116, 198, [zR 71, zI a1, zI a2, zI a3, zI a4, zI v3, zI v4, zI (F5 99 (Int.toNat v3))], [zI (zadd (F5 99 (Int.toNat v3)) (F6 99 (Int.toNat v4)))], F6, G6, zsg) rfl ?_
                  exact zle_ret rfl
set_option maxRecDepth 20000 in
theorem g_M_takenBut {d : Nat} {F : zM} {G : zG} (a1 : Int) (a2 : Int) : zle (
  zev zX0 d (117, 5, [zR 71, zI a1, zI a2, zL (BitVec.ofNat 64 0), zR 0, zI 0], [], F, G, zsg)) (zex (d + 1) 117 [zR 71, zI a1, zI a2] (F, G, zsg)) := by
  refine zle_ent (ls := [zR 71, zI a1, zI a2, zR 0, zR 0, zR 0]) ?_
  refine zle_many 4 (117, 5, [zR 71, zI a1, zI a2, zL (BitVec.ofNat 64 0), zR 0, zI 0], [], F, G, zsg) rfl ?_
  exact zle_rfl
set_option maxRecDepth 20000 in
theorem g_M_takenBut_5 {d : Nat} {F : zM} {G : zG} (l1 : Int) (l2 : Int) (l3 : BitVec 64) (l5 : Int) : zle (
  if l5 < 64 then
  zbI (zex d 60 [zR 71, zI l1, zI l5, zI l2] (F, G, zsg)) (fun v1 F1 G1 =>
    if v1 = 0 then
      zev zX0 d (117, 5, [zR 71, zI l1, zI l2, zL (zlor l3 (zlshl (BitVec.ofNat 64 1) l5)), zR 0, zI (zadd l5 1)], [], F1, G1, zsg)
    else
      zev zX0 d (117, 5, [zR 71, zI l1, zI l2, zL (zlor l3 (BitVec.ofNat 64 0)), zR 0, zI (zadd l5 1)], [], F1, G1, zsg))
else
  some (some (zL l3), F, G, zsg)) (zev zX0 d (117, 5, [zR 71, zI l1, zI l2, zL l3, zR 0, zI l5], [], F, G, zsg)) := by
  refine zle_many 3 (117, (bif zcmp .ge l5 64 then 40 else 12), [zR 71, zI l1, zI l2, zL l3, zR 0, zI l5], [], F, G, zsg) rfl ?_
  refine zle_ge (fun _ => ?_) (fun _ => ?_)
  · refine zle_many 5 (117, 18, [zR 71, zI l1, zI l2, zL l3, zR 0, zI l5], [zI l2, zI l5, zI l1, zR 71, zL l3], F, G, zsg) rfl ?_
    refine zle_I rfl (fun v1 F1 G1 => ?_)
    refine zle_many 1 (117, (bif zcmp .eq v1 0 then 28 else 24), [zR 71, zI l1, zI l2, zL l3, zR 0, zI l5], [zL l3], F1, G1, zsg) rfl ?_
    refine zle_eq (fun _ => ?_) (fun _ => ?_)
    · refine zle_many 7 (117, 5, [zR 71, zI l1, zI l2, zL (zlor l3 (zlshl (BitVec.ofNat 64 1) l5)), zR 0, zI (zadd l5 1)], [], F1, G1, zsg) rfl ?_
      exact zle_rfl
    · refine zle_many 6 (117, 5, [zR 71, zI l1, zI l2, zL (zlor l3 (BitVec.ofNat 64 0)), zR 0, zI (zadd l5 1)], [], F1, G1, zsg) rfl ?_
      exact zle_rfl
  · refine zle_many 1 (117, 41, [zR 71, zI l1, zI l2, zL l3, zR 0, zI l5], [zL l3], F, G, zsg) rfl ?_
    exact zle_ret rfl
set_option maxRecDepth 20000 in
theorem g_M_isRuled {d : Nat} {F : zM} {G : zG} (a1 : Int) (a2 : Int) (a3 : Int) : zle (
  zev zX0 d (118, 3, [zR 71, zI a1, zI a2, zI a3, zI 0, zR 0], [], F, G, zsg)) (zex (d + 1) 118 [zR 71, zI a1, zI a2, zI a3] (F, G, zsg)) := by
  refine zle_ent (ls := [zR 71, zI a1, zI a2, zI a3, zR 0, zR 0]) ?_
  refine zle_many 2 (118, 3, [zR 71, zI a1, zI a2, zI a3, zI 0, zR 0], [], F, G, zsg) rfl ?_
  exact zle_rfl
set_option maxRecDepth 20000 in
theorem g_M_isRuled_3 {d : Nat} {F : zM} {G : zG} (l1 : Int) (l2 : Int) (l3 : Int) (l4 : Int) : zle (
  if l4 < (F 71 24) then
  if 0 ≤ l4 ∧ l4 < 12 then
    if (F 88 (Int.toNat l4)) = l2 then
      if 0 ≤ l4 ∧ l4 < 12 then
        if (F 89 (Int.toNat l4)) = l3 then
          if 0 ≤ l4 ∧ l4 < 12 then
            if 0 ≤ (zadd 0 l2) ∧ (zadd 0 l2) < 43 then
              if (F 90 (Int.toNat l4)) = (F 72 (Int.toNat (zadd 0 l2))) then
                if 0 ≤ l4 ∧ l4 < 12 then
                  if 0 ≤ (zadd 28 l1) ∧ (zadd 28 l1) < 43 then
                    if (F 91 (Int.toNat l4)) = (F 72 (Int.toNat (zadd 28 l1))) then
                      if 0 ≤ l4 ∧ l4 < 12 then
                        if (F 92 (Int.toNat l4)) = (F 71 11) then
                        if 0 ≤ l4 ∧ l4 < 12 then
                        zbL (zex d 117 [zR 71, zI l1, zI l2] (F, G, zsg)) (fun v1 F1 G1 =>
                        if (zlcmp (G 93 (Int.toNat l4)) v1) = 0 then
                        some (some (zI 1), (zup F1 71 31 (zadd (F1 71 31) 1)), G1, zsg)
                      else
                        zev zX0 d (118, 3, [zR 71, zI l1, zI l2, zI l3, zI (zadd l4 1), zR 0], [], F1, G1, zsg))
                      else none
                      else
                        zev zX0 d (118, 3, [zR 71, zI l1, zI l2, zI l3, zI (zadd l4 1), zR 0], [], F, G, zsg)
                      else none
                    else
                      zev zX0 d (118, 3, [zR 71, zI l1, zI l2, zI l3, zI (zadd l4 1), zR 0], [], F, G, zsg)
                  else none
                else none
              else
                zev zX0 d (118, 3, [zR 71, zI l1, zI l2, zI l3, zI (zadd l4 1), zR 0], [], F, G, zsg)
            else none
          else none
        else
          zev zX0 d (118, 3, [zR 71, zI l1, zI l2, zI l3, zI (zadd l4 1), zR 0], [], F, G, zsg)
      else none
    else
      zev zX0 d (118, 3, [zR 71, zI l1, zI l2, zI l3, zI (zadd l4 1), zR 0], [], F, G, zsg)
  else none
else
  some (some (zI 0), F, G, zsg)) (zev zX0 d (118, 3, [zR 71, zI l1, zI l2, zI l3, zI l4, zR 0], [], F, G, zsg)) := by
  refine zle_many 4 (118, (bif zcmp .ge l4 (F 71 24) then 132 else 12), [zR 71, zI l1, zI l2, zI l3, zI l4, zR 0], [], F, G, zsg) rfl ?_
  refine zle_ge (fun _ => ?_) (fun _ => ?_)
  · refine zle_many 3 (118, 18, [zR 71, zI l1, zI l2, zI l3, zI l4, zR 0], [zI l4, zR 88], F, G, zsg) rfl ?_
    refine zle_ald rfl rfl rfl (fun _ => ?_)
    refine zle_many 2 (118, (bif zcmp .ne (F 88 (Int.toNat l4)) l2 then 89 else 23), [zR 71, zI l1, zI l2, zI l3, zI l4, zR 0], [], F, G, zsg) rfl ?_
    refine zle_ne (fun _ => ?_) (fun _ => ?_)
    · refine zle_many 3 (118, 29, [zR 71, zI l1, zI l2, zI l3, zI l4, zR 0], [zI l4, zR 89], F, G, zsg) rfl ?_
      refine zle_ald rfl rfl rfl (fun _ => ?_)
      refine zle_many 2 (118, (bif zcmp .ne (F 89 (Int.toNat l4)) l3 then 89 else 34), [zR 71, zI l1, zI l2, zI l3, zI l4, zR 0], [], F, G, zsg) rfl ?_
      refine zle_ne (fun _ => ?_) (fun _ => ?_)
      · refine zle_many 3 (118, 40, [zR 71, zI l1, zI l2, zI l3, zI l4, zR 0], [zI l4, zR 90], F, G, zsg) rfl ?_
        refine zle_ald rfl rfl rfl (fun _ => ?_)
        refine zle_many 5 (118, 48, [zR 71, zI l1, zI l2, zI l3, zI l4, zR 0], [zI (zadd 0 l2), zR 72, zI (F 90 (Int.toNat l4))], F, G, zsg) rfl ?_
        refine zle_ald rfl rfl rfl (fun _ => ?_)
        refine zle_many 1 (118, (bif zcmp .ne (F 90 (Int.toNat l4)) (F 72 (Int.toNat (zadd 0 l2))) then 89 else 52), [zR 71, zI l1, zI l2, zI l3, zI l4, zR 0], [], F, G, zsg) rfl ?_
        refine zle_ne (fun _ => ?_) (fun _ => ?_)
        · refine zle_many 3 (118, 58, [zR 71, zI l1, zI l2, zI l3, zI l4, zR 0], [zI l4, zR 91], F, G, zsg) rfl ?_
          refine zle_ald rfl rfl rfl (fun _ => ?_)
          refine zle_many 5 (118, 67, [zR 71, zI l1, zI l2, zI l3, zI l4, zR 0], [zI (zadd 28 l1), zR 72, zI (F 91 (Int.toNat l4))], F, G, zsg) rfl ?_
          refine zle_ald rfl rfl rfl (fun _ => ?_)
          refine zle_many 1 (118, (bif zcmp .ne (F 91 (Int.toNat l4)) (F 72 (Int.toNat (zadd 28 l1))) then 89 else 71), [zR 71, zI l1, zI l2, zI l3, zI l4, zR 0], [], F, G, zsg) rfl ?_
          refine zle_ne (fun _ => ?_) (fun _ => ?_)
          · refine zle_many 3 (118, 77, [zR 71, zI l1, zI l2, zI l3, zI l4, zR 0], [zI l4, zR 92], F, G, zsg) rfl ?_
            refine zle_ald rfl rfl rfl (fun _ => ?_)
            refine zle_many 3 (118, (bif zcmp .ne (F 92 (Int.toNat l4)) (F 71 11) then 89 else 85), [zR 71, zI l1, zI l2, zI l3, zI l4, zR 0], [], F, G, zsg) rfl ?_
            refine zle_ne (fun _ => ?_) (fun _ => ?_)
            · refine zle_many 8 (118, 103, [zR 71, zI l1, zI l2, zI l3, zI l4, zI 1], [zI l4, zR 93], F, G, zsg) rfl ?_
              refine zle_lld rfl rfl rfl (fun _ => ?_)
              refine zle_many 3 (118, 107, [zR 71, zI l1, zI l2, zI l3, zI l4, zI 1], [zI l2, zI l1, zR 71, zL (G 93 (Int.toNat l4))], F, G, zsg) rfl ?_
              refine zle_L rfl (fun v1 F1 G1 => ?_)
              refine zle_many 2 (118, (bif zcmp .ne (zlcmp (G 93 (Int.toNat l4)) v1) 0 then 126 else 114), [zR 71, zI l1, zI l2, zI l3, zI l4, zI 1], [], F1, G1, zsg) rfl ?_
              refine zle_ne (fun _ => ?_) (fun _ => ?_)
              · refine zle_many 7 (118, 125, [zR 71, zI l1, zI l2, zI l3, zI l4, zI 1], [zI 1], (zup F1 71 31 (zadd (F1 71 31) 1)), G1, zsg) rfl ?_
                exact zle_ret rfl
              · refine zle_many 2 (118, 3, [zR 71, zI l1, zI l2, zI l3, zI (zadd l4 1), zI 1], [], F1, G1, zsg) rfl ?_
                exact zle_wk ⟨Or.inl rfl, Or.inl rfl, Or.inl rfl, Or.inl rfl, Or.inl rfl, Or.inr rfl, trivial⟩
            · refine zle_many 6 (118, 3, [zR 71, zI l1, zI l2, zI l3, zI (zadd l4 1), zI 0], [], F, G, zsg) rfl ?_
              exact zle_wk ⟨Or.inl rfl, Or.inl rfl, Or.inl rfl, Or.inl rfl, Or.inl rfl, Or.inr rfl, trivial⟩
          · refine zle_many 6 (118, 3, [zR 71, zI l1, zI l2, zI l3, zI (zadd l4 1), zI 0], [], F, G, zsg) rfl ?_
            exact zle_wk ⟨Or.inl rfl, Or.inl rfl, Or.inl rfl, Or.inl rfl, Or.inl rfl, Or.inr rfl, trivial⟩
        · refine zle_many 6 (118, 3, [zR 71, zI l1, zI l2, zI l3, zI (zadd l4 1), zI 0], [], F, G, zsg) rfl ?_
          exact zle_wk ⟨Or.inl rfl, Or.inl rfl, Or.inl rfl, Or.inl rfl, Or.inl rfl, Or.inr rfl, trivial⟩
      · refine zle_many 6 (118, 3, [zR 71, zI l1, zI l2, zI l3, zI (zadd l4 1), zI 0], [], F, G, zsg) rfl ?_
        exact zle_wk ⟨Or.inl rfl, Or.inl rfl, Or.inl rfl, Or.inl rfl, Or.inl rfl, Or.inr rfl, trivial⟩
    · refine zle_many 6 (118, 3, [zR 71, zI l1, zI l2, zI l3, zI (zadd l4 1), zI 0], [], F, G, zsg) rfl ?_
      exact zle_wk ⟨Or.inl rfl, Or.inl rfl, Or.inl rfl, Or.inl rfl, Or.inl rfl, Or.inr rfl, trivial⟩
  · refine zle_many 1 (118, 133, [zR 71, zI l1, zI l2, zI l3, zI l4, zR 0], [zI 0], F, G, zsg) rfl ?_
    exact zle_ret rfl
set_option maxRecDepth 20000 in
theorem g_M_learns {d : Nat} {F : zM} {G : zG} (a1 : Int) (a2 : Int) (a3 : Int) : zle (
  if (F 71 24) < 12 then
  if 0 ≤ (F 71 24) ∧ (F 71 24) < 12 then
    if 0 ≤ (F 71 24) ∧ (F 71 24) < 12 then
      if 0 ≤ (zadd 0 a2) ∧ (zadd 0 a2) < 43 then
        if 0 ≤ (F 71 24) ∧ (F 71 24) < 12 then
          if 0 ≤ (zadd 28 a1) ∧ (zadd 28 a1) < 43 then
            if 0 ≤ (F 71 24) ∧ (F 71 24) < 12 then
              if 0 ≤ (F 71 24) ∧ (F 71 24) < 12 then
                zbL (zex d 117 [zR 71, zI a1, zI a2] ((zup (zup (zup (zup (zup F 88 (Int.toNat (F 71 24)) a2) 89 (Int.toNat (F 71 24)) a3) 90 (Int.toNat (F 71 24)) (F 72 (Int.toNat (zadd 0 a2)))) 91 (Int.toNat (F 71 24)) (F 72 (Int.toNat (zadd 28 a1)))) 92 (Int.toNat (F 71 24)) (F 71 11)), G, zsg)) (fun v1 F1 G1 =>
                  if 0 ≤ (F 71 24) ∧ (F 71 24) < 12 then
                    some (none, (zup F1 71 24 (zadd (F1 71 24) 1)), (zug G1 93 (Int.toNat (F 71 24)) v1), zsg)
                  else none)
              else none
            else none
          else none
        else none
      else none
    else none
  else none
else
  some (none, F, G, zsg)) (zex (d + 1) 119 [zR 71, zI a1, zI a2, zI a3] (F, G, zsg)) := by
  refine zle_ent (ls := [zR 71, zI a1, zI a2, zI a3]) ?_
  refine zle_many 4 (119, (bif zcmp .ge (F 71 24) 12 then 102 else 9), [zR 71, zI a1, zI a2, zI a3], [], F, G, zsg) rfl ?_
  refine zle_ge (fun _ => ?_) (fun _ => ?_)
  · refine zle_many 5 (119, 18, [zR 71, zI a1, zI a2, zI a3], [zI a2, zI (F 71 24), zR 88], F, G, zsg) rfl ?_
    refine zle_ast rfl rfl rfl (fun _ => ?_)
    refine zle_many 5 (119, 28, [zR 71, zI a1, zI a2, zI a3], [zI a3, zI (F 71 24), zR 89], (zup F 88 (Int.toNat (F 71 24)) a2), G, zsg) rfl ?_
    refine zle_ast rfl rfl rfl (fun _ => ?_)
    refine zle_many 9 (119, 44, [zR 71, zI a1, zI a2, zI a3], [zI (zadd 0 a2), zR 72, zI (F 71 24), zR 90], (zup (zup F 88 (Int.toNat (F 71 24)) a2) 89 (Int.toNat (F 71 24)) a3), G, zsg) rfl ?_
    refine zle_ald rfl rfl rfl (fun _ => ?_)
    refine zle_many 0 (119, 45, [zR 71, zI a1, zI a2, zI a3], [zI (F 72 (Int.toNat (zadd 0 a2))), zI (F 71 24), zR 90], (zup (zup F 88 (Int.toNat (F 71 24)) a2) 89 (Int.toNat (F 71 24)) a3), G, zsg) rfl ?_
    refine zle_ast rfl rfl rfl (fun _ => ?_)
    refine zle_many 9 (119, 62, [zR 71, zI a1, zI a2, zI a3], [zI (zadd 28 a1), zR 72, zI (F 71 24), zR 91], (zup (zup (zup F 88 (Int.toNat (F 71 24)) a2) 89 (Int.toNat (F 71 24)) a3) 90 (Int.toNat (F 71 24)) (F 72 (Int.toNat (zadd 0 a2)))), G, zsg) rfl ?_
    refine zle_ald rfl rfl rfl (fun _ => ?_)
    refine zle_many 0 (119, 63, [zR 71, zI a1, zI a2, zI a3], [zI (F 72 (Int.toNat (zadd 28 a1))), zI (F 71 24), zR 91], (zup (zup (zup F 88 (Int.toNat (F 71 24)) a2) 89 (Int.toNat (F 71 24)) a3) 90 (Int.toNat (F 71 24)) (F 72 (Int.toNat (zadd 0 a2)))), G, zsg) rfl ?_
    refine zle_ast rfl rfl rfl (fun _ => ?_)
    refine zle_many 6 (119, 76, [zR 71, zI a1, zI a2, zI a3], [zI (F 71 11), zI (F 71 24), zR 92], (zup (zup (zup (zup F 88 (Int.toNat (F 71 24)) a2) 89 (Int.toNat (F 71 24)) a3) 90 (Int.toNat (F 71 24)) (F 72 (Int.toNat (zadd 0 a2)))) 91 (Int.toNat (F 71 24)) (F 72 (Int.toNat (zadd 28 a1)))), G, zsg) rfl ?_
    refine zle_ast rfl rfl rfl (fun _ => ?_)
    refine zle_many 7 (119, 88, [zR 71, zI a1, zI a2, zI a3], [zI a2, zI a1, zR 71, zI (F 71 24), zR 93], (zup (zup (zup (zup (zup F 88 (Int.toNat (F 71 24)) a2) 89 (Int.toNat (F 71 24)) a3) 90 (Int.toNat (F 71 24)) (F 72 (Int.toNat (zadd 0 a2)))) 91 (Int.toNat (F 71 24)) (F 72 (Int.toNat (zadd 28 a1)))) 92 (Int.toNat (F 71 24)) (F 71 11)), G, zsg) rfl ?_
    refine zle_L rfl (fun v1 F1 G1 => ?_)
    refine zle_lst rfl rfl rfl (fun _ => ?_)
    refine zle_many 6 (119, 102, [zR 71, zI a1, zI a2, zI a3], [], (zup F1 71 24 (zadd (F1 71 24) 1)), (zug G1 93 (Int.toNat (F 71 24)) v1), zsg) rfl ?_
    exact zle_ret rfl
  · exact zle_ret rfl
set_option maxRecDepth 20000 in
theorem g_M_asksAim {d : Nat} {F : zM} {G : zG} (a1 : Int) (a2 : Int) (a3 : Int) : zle (
  zbI (zex d 118 [zR 71, zI a1, zI a2, zI a3] (F, G, zsg)) (fun v1 F1 G1 =>
  if v1 = 0 then
    zev zX0 d (120, 17, [zR 71, zI a1, zI a2, zI a3, zI 0, zI 0, zR 0], [], F1, G1, zsg)
  else
    some (none, F1, G1, zsg))) (zex (d + 1) 120 [zR 71, zI a1, zI a2, zI a3] (F, G, zsg)) := by
  refine zle_ent (ls := [zR 71, zI a1, zI a2, zI a3, zR 0, zR 0, zR 0]) ?_
  refine zle_many 4 (120, 4, [zR 71, zI a1, zI a2, zI a3, zR 0, zR 0, zR 0], [zI a3, zI a2, zI a1, zR 71], F, G, zsg) rfl ?_
  refine zle_I rfl (fun v1 F1 G1 => ?_)
  refine zle_many 1 (120, (bif zcmp .eq v1 0 then 11 else 10), [zR 71, zI a1, zI a2, zI a3, zR 0, zR 0, zR 0], [], F1, G1, zsg) rfl ?_
  refine zle_eq (fun _ => ?_) (fun _ => ?_)
  · refine zle_many 4 (120, 17, [zR 71, zI a1, zI a2, zI a3, zI 0, zI 0, zR 0], [], F1, G1, zsg) rfl ?_
    exact zle_rfl
  · exact zle_ret rfl
set_option maxRecDepth 20000 in
theorem g_M_asksAim_17 {d : Nat} {F : zM} {G : zG} (l1 : Int) (l2 : Int) (l3 : Int) (l4 : Int) (l5 : Int) : zle (
  if l5 < 4 then
  zbI (zex d 116 [zR 71, zI l1, zI l2, zI l5, zI l3] (F, G, zsg)) (fun v2 F2 G2 =>
    if l4 = 0 then
      if v2 = (-1) then
        if v2 = (-1) then
          zev zX0 d (120, 17, [zR 71, zI l1, zI l2, zI l3, zI 0, zI (zadd l5 1), zR 0], [], F2, G2, zsg)
        else
          if (F2 71 23) = (-1) then
            if (F2 71 44) = (-1) then
              zev zX0 d (120, 17, [zR 71, zI l1, zI l2, zI l3, zI 0, zI (zadd l5 1), zR 0], [], (zup (zup (zup (zup (zup (zup F2 71 23 (zadd (F2 71 47) v2)) 71 19 0) 85 0 l2) 86 0 l5) 87 0 l3) 71 19 (zadd 0 1)), G2, zsg)
            else
              zev zX0 d (120, 17, [zR 71, zI l1, zI l2, zI l3, zI 0, zI (zadd l5 1), zR 0], [], (zup (zup (zup (zup (zup (zup (zup (zup (zup (zup F2 71 23 (zadd (F2 71 47) v2)) 71 19 0) 85 0 (F2 71 44)) 86 0 (F2 71 45)) 87 0 (F2 71 46)) 71 19 1) 85 1 l2) 86 1 l5) 87 1 l3) 71 19 (zadd 1 1)), G2, zsg)
          else
            if (zadd (F2 71 47) v2) < (F2 71 23) then
              if (F2 71 44) = (-1) then
                zev zX0 d (120, 17, [zR 71, zI l1, zI l2, zI l3, zI 0, zI (zadd l5 1), zR 0], [], (zup (zup (zup (zup (zup (zup F2 71 23 (zadd (F2 71 47) v2)) 71 19 0) 85 0 l2) 86 0 l5) 87 0 l3) 71 19 (zadd 0 1)), G2, zsg)
              else
                zev zX0 d (120, 17, [zR 71, zI l1, zI l2, zI l3, zI 0, zI (zadd l5 1), zR 0], [], (zup (zup (zup (zup (zup (zup (zup (zup (zup (zup F2 71 23 (zadd (F2 71 47) v2)) 71 19 0) 85 0 (F2 71 44)) 86 0 (F2 71 45)) 87 0 (F2 71 46)) 71 19 1) 85 1 l2) 86 1 l5) 87 1 l3) 71 19 (zadd 1 1)), G2, zsg)
            else
              zev zX0 d (120, 17, [zR 71, zI l1, zI l2, zI l3, zI 0, zI (zadd l5 1), zR 0], [], F2, G2, zsg)
      else
        if v2 = (-1) then
          zev zX0 d (120, 17, [zR 71, zI l1, zI l2, zI l3, zI 1, zI (zadd l5 1), zR 0], [], F2, G2, zsg)
        else
          if (F2 71 23) = (-1) then
            if (F2 71 44) = (-1) then
              zev zX0 d (120, 17, [zR 71, zI l1, zI l2, zI l3, zI 1, zI (zadd l5 1), zR 0], [], (zup (zup (zup (zup (zup (zup F2 71 23 (zadd (F2 71 47) v2)) 71 19 0) 85 0 l2) 86 0 l5) 87 0 l3) 71 19 (zadd 0 1)), G2, zsg)
            else
              zev zX0 d (120, 17, [zR 71, zI l1, zI l2, zI l3, zI 1, zI (zadd l5 1), zR 0], [], (zup (zup (zup (zup (zup (zup (zup (zup (zup (zup F2 71 23 (zadd (F2 71 47) v2)) 71 19 0) 85 0 (F2 71 44)) 86 0 (F2 71 45)) 87 0 (F2 71 46)) 71 19 1) 85 1 l2) 86 1 l5) 87 1 l3) 71 19 (zadd 1 1)), G2, zsg)
          else
            if (zadd (F2 71 47) v2) < (F2 71 23) then
              if (F2 71 44) = (-1) then
                zev zX0 d (120, 17, [zR 71, zI l1, zI l2, zI l3, zI 1, zI (zadd l5 1), zR 0], [], (zup (zup (zup (zup (zup (zup F2 71 23 (zadd (F2 71 47) v2)) 71 19 0) 85 0 l2) 86 0 l5) 87 0 l3) 71 19 (zadd 0 1)), G2, zsg)
              else
                zev zX0 d (120, 17, [zR 71, zI l1, zI l2, zI l3, zI 1, zI (zadd l5 1), zR 0], [], (zup (zup (zup (zup (zup (zup (zup (zup (zup (zup F2 71 23 (zadd (F2 71 47) v2)) 71 19 0) 85 0 (F2 71 44)) 86 0 (F2 71 45)) 87 0 (F2 71 46)) 71 19 1) 85 1 l2) 86 1 l5) 87 1 l3) 71 19 (zadd 1 1)), G2, zsg)
            else
              zev zX0 d (120, 17, [zR 71, zI l1, zI l2, zI l3, zI 1, zI (zadd l5 1), zR 0], [], F2, G2, zsg)
    else
      if v2 = (-1) then
        zev zX0 d (120, 17, [zR 71, zI l1, zI l2, zI l3, zI 1, zI (zadd l5 1), zR 0], [], F2, G2, zsg)
      else
        if (F2 71 23) = (-1) then
          if (F2 71 44) = (-1) then
            zev zX0 d (120, 17, [zR 71, zI l1, zI l2, zI l3, zI 1, zI (zadd l5 1), zR 0], [], (zup (zup (zup (zup (zup (zup F2 71 23 (zadd (F2 71 47) v2)) 71 19 0) 85 0 l2) 86 0 l5) 87 0 l3) 71 19 (zadd 0 1)), G2, zsg)
          else
            zev zX0 d (120, 17, [zR 71, zI l1, zI l2, zI l3, zI 1, zI (zadd l5 1), zR 0], [], (zup (zup (zup (zup (zup (zup (zup (zup (zup (zup F2 71 23 (zadd (F2 71 47) v2)) 71 19 0) 85 0 (F2 71 44)) 86 0 (F2 71 45)) 87 0 (F2 71 46)) 71 19 1) 85 1 l2) 86 1 l5) 87 1 l3) 71 19 (zadd 1 1)), G2, zsg)
        else
          if (zadd (F2 71 47) v2) < (F2 71 23) then
            if (F2 71 44) = (-1) then
              zev zX0 d (120, 17, [zR 71, zI l1, zI l2, zI l3, zI 1, zI (zadd l5 1), zR 0], [], (zup (zup (zup (zup (zup (zup F2 71 23 (zadd (F2 71 47) v2)) 71 19 0) 85 0 l2) 86 0 l5) 87 0 l3) 71 19 (zadd 0 1)), G2, zsg)
            else
              zev zX0 d (120, 17, [zR 71, zI l1, zI l2, zI l3, zI 1, zI (zadd l5 1), zR 0], [], (zup (zup (zup (zup (zup (zup (zup (zup (zup (zup F2 71 23 (zadd (F2 71 47) v2)) 71 19 0) 85 0 (F2 71 44)) 86 0 (F2 71 45)) 87 0 (F2 71 46)) 71 19 1) 85 1 l2) 86 1 l5) 87 1 l3) 71 19 (zadd 1 1)), G2, zsg)
          else
            zev zX0 d (120, 17, [zR 71, zI l1, zI l2, zI l3, zI 1, zI (zadd l5 1), zR 0], [], F2, G2, zsg))
else
  if l4 = 0 then
    zbV (zex d 119 [zR 71, zI l1, zI l2, zI l3] (F, G, zsg)) (fun F1 G1 =>
      some (none, F1, G1, zsg))
  else
    some (none, F, G, zsg)) (zev zX0 d (120, 17, [zR 71, zI l1, zI l2, zI l3, zI l4, zI l5, zR 0], [], F, G, zsg)) := by
  refine zle_many 3 (120, (bif zcmp .ge l5 4 then 186 else 23), [zR 71, zI l1, zI l2, zI l3, zI l4, zI l5, zR 0], [], F, G, zsg) rfl ?_
  refine zle_ge (fun _ => ?_) (fun _ => ?_)
  · refine zle_many 5 (120, 29, [zR 71, zI l1, zI l2, zI l3, zI l4, zI l5, zR 0], [zI l3, zI l5, zI l2, zI l1, zR 71], F, G, zsg) rfl ?_
    refine zle_I rfl (fun v2 F2 G2 => ?_)
    refine zle_many 3 (120, (bif zcmp .ne l4 0 then 45 else 39), [zR 71, zI l1, zI l2, zI l3, zI l4, zI l5, zI v2], [], F2, G2, zsg) rfl ?_
    refine zle_ne (fun _ => ?_) (fun _ => ?_)
    · refine zle_many 3 (120, (bif zcmp .eq v2 (-1) then 49 else 45), [zR 71, zI l1, zI l2, zI l3, zI l4, zI l5, zI v2], [], F2, G2, zsg) rfl ?_
      refine zle_eq (fun _ => ?_) (fun _ => ?_)
      · refine zle_many 5 (120, (bif zcmp .eq v2 (-1) then 180 else 58), [zR 71, zI l1, zI l2, zI l3, zI 0, zI l5, zI v2], [], F2, G2, zsg) rfl ?_
        refine zle_eq (fun _ => ?_) (fun _ => ?_)
        · refine zle_many 2 (120, 17, [zR 71, zI l1, zI l2, zI l3, zI 0, zI (zadd l5 1), zI v2], [], F2, G2, zsg) rfl ?_
          exact zle_wk ⟨Or.inl rfl, Or.inl rfl, Or.inl rfl, Or.inl rfl, Or.inl rfl, Or.inl rfl, Or.inr rfl, trivial⟩
        · refine zle_many 4 (120, (bif zcmp .eq (F2 71 23) (-1) then 80 else 66), [zR 71, zI l1, zI l2, zI l3, zI 0, zI l5, zI v2], [], F2, G2, zsg) rfl ?_
          refine zle_eq (fun _ => ?_) (fun _ => ?_)
          · refine zle_many 13 (120, (bif zcmp .eq (F2 71 44) (-1) then 139 else 104), [zR 71, zI l1, zI l2, zI l3, zI 0, zI l5, zI v2], [], (zup (zup F2 71 23 (zadd (F2 71 47) v2)) 71 19 0), G2, zsg) rfl ?_
            refine zle_eq (fun _ => ?_) (fun _ => ?_)
            · refine zle_many 26 (120, 17, [zR 71, zI l1, zI l2, zI l3, zI 0, zI (zadd l5 1), zI v2], [], (zup (zup (zup (zup (zup (zup F2 71 23 (zadd (F2 71 47) v2)) 71 19 0) 85 0 l2) 86 0 l5) 87 0 l3) 71 19 (zadd 0 1)), G2, zsg) rfl ?_
              exact zle_wk ⟨Or.inl rfl, Or.inl rfl, Or.inl rfl, Or.inl rfl, Or.inl rfl, Or.inl rfl, Or.inr rfl, trivial⟩
            · refine zle_many 47 (120, 17, [zR 71, zI l1, zI l2, zI l3, zI 0, zI (zadd l5 1), zI v2], [], (zup (zup (zup (zup (zup (zup (zup (zup (zup (zup F2 71 23 (zadd (F2 71 47) v2)) 71 19 0) 85 0 (F2 71 44)) 86 0 (F2 71 45)) 87 0 (F2 71 46)) 71 19 1) 85 1 l2) 86 1 l5) 87 1 l3) 71 19 (zadd 1 1)), G2, zsg) rfl ?_
              exact zle_wk ⟨Or.inl rfl, Or.inl rfl, Or.inl rfl, Or.inl rfl, Or.inl rfl, Or.inl rfl, Or.inr rfl, trivial⟩
          · refine zle_many 7 (120, (bif zcmp .ge (zadd (F2 71 47) v2) (F2 71 23) then 180 else 80), [zR 71, zI l1, zI l2, zI l3, zI 0, zI l5, zI v2], [], F2, G2, zsg) rfl ?_
            refine zle_ge (fun _ => ?_) (fun _ => ?_)
            · refine zle_many 13 (120, (bif zcmp .eq (F2 71 44) (-1) then 139 else 104), [zR 71, zI l1, zI l2, zI l3, zI 0, zI l5, zI v2], [], (zup (zup F2 71 23 (zadd (F2 71 47) v2)) 71 19 0), G2, zsg) rfl ?_
              refine zle_eq (fun _ => ?_) (fun _ => ?_)
              · refine zle_many 26 (120, 17, [zR 71, zI l1, zI l2, zI l3, zI 0, zI (zadd l5 1), zI v2], [], (zup (zup (zup (zup (zup (zup F2 71 23 (zadd (F2 71 47) v2)) 71 19 0) 85 0 l2) 86 0 l5) 87 0 l3) 71 19 (zadd 0 1)), G2, zsg) rfl ?_
                exact zle_wk ⟨Or.inl rfl, Or.inl rfl, Or.inl rfl, Or.inl rfl, Or.inl rfl, Or.inl rfl, Or.inr rfl, trivial⟩
              · refine zle_many 47 (120, 17, [zR 71, zI l1, zI l2, zI l3, zI 0, zI (zadd l5 1), zI v2], [], (zup (zup (zup (zup (zup (zup (zup (zup (zup (zup F2 71 23 (zadd (F2 71 47) v2)) 71 19 0) 85 0 (F2 71 44)) 86 0 (F2 71 45)) 87 0 (F2 71 46)) 71 19 1) 85 1 l2) 86 1 l5) 87 1 l3) 71 19 (zadd 1 1)), G2, zsg) rfl ?_
                exact zle_wk ⟨Or.inl rfl, Or.inl rfl, Or.inl rfl, Or.inl rfl, Or.inl rfl, Or.inl rfl, Or.inr rfl, trivial⟩
            · refine zle_many 2 (120, 17, [zR 71, zI l1, zI l2, zI l3, zI 0, zI (zadd l5 1), zI v2], [], F2, G2, zsg) rfl ?_
              exact zle_wk ⟨Or.inl rfl, Or.inl rfl, Or.inl rfl, Or.inl rfl, Or.inl rfl, Or.inl rfl, Or.inr rfl, trivial⟩
      · refine zle_many 6 (120, (bif zcmp .eq v2 (-1) then 180 else 58), [zR 71, zI l1, zI l2, zI l3, zI 1, zI l5, zI v2], [], F2, G2, zsg) rfl ?_
        refine zle_eq (fun _ => ?_) (fun _ => ?_)
        · refine zle_many 2 (120, 17, [zR 71, zI l1, zI l2, zI l3, zI 1, zI (zadd l5 1), zI v2], [], F2, G2, zsg) rfl ?_
          exact zle_wk ⟨Or.inl rfl, Or.inl rfl, Or.inl rfl, Or.inl rfl, Or.inl rfl, Or.inl rfl, Or.inr rfl, trivial⟩
        · refine zle_many 4 (120, (bif zcmp .eq (F2 71 23) (-1) then 80 else 66), [zR 71, zI l1, zI l2, zI l3, zI 1, zI l5, zI v2], [], F2, G2, zsg) rfl ?_
          refine zle_eq (fun _ => ?_) (fun _ => ?_)
          · refine zle_many 13 (120, (bif zcmp .eq (F2 71 44) (-1) then 139 else 104), [zR 71, zI l1, zI l2, zI l3, zI 1, zI l5, zI v2], [], (zup (zup F2 71 23 (zadd (F2 71 47) v2)) 71 19 0), G2, zsg) rfl ?_
            refine zle_eq (fun _ => ?_) (fun _ => ?_)
            · refine zle_many 26 (120, 17, [zR 71, zI l1, zI l2, zI l3, zI 1, zI (zadd l5 1), zI v2], [], (zup (zup (zup (zup (zup (zup F2 71 23 (zadd (F2 71 47) v2)) 71 19 0) 85 0 l2) 86 0 l5) 87 0 l3) 71 19 (zadd 0 1)), G2, zsg) rfl ?_
              exact zle_wk ⟨Or.inl rfl, Or.inl rfl, Or.inl rfl, Or.inl rfl, Or.inl rfl, Or.inl rfl, Or.inr rfl, trivial⟩
            · refine zle_many 47 (120, 17, [zR 71, zI l1, zI l2, zI l3, zI 1, zI (zadd l5 1), zI v2], [], (zup (zup (zup (zup (zup (zup (zup (zup (zup (zup F2 71 23 (zadd (F2 71 47) v2)) 71 19 0) 85 0 (F2 71 44)) 86 0 (F2 71 45)) 87 0 (F2 71 46)) 71 19 1) 85 1 l2) 86 1 l5) 87 1 l3) 71 19 (zadd 1 1)), G2, zsg) rfl ?_
              exact zle_wk ⟨Or.inl rfl, Or.inl rfl, Or.inl rfl, Or.inl rfl, Or.inl rfl, Or.inl rfl, Or.inr rfl, trivial⟩
          · refine zle_many 7 (120, (bif zcmp .ge (zadd (F2 71 47) v2) (F2 71 23) then 180 else 80), [zR 71, zI l1, zI l2, zI l3, zI 1, zI l5, zI v2], [], F2, G2, zsg) rfl ?_
            refine zle_ge (fun _ => ?_) (fun _ => ?_)
            · refine zle_many 13 (120, (bif zcmp .eq (F2 71 44) (-1) then 139 else 104), [zR 71, zI l1, zI l2, zI l3, zI 1, zI l5, zI v2], [], (zup (zup F2 71 23 (zadd (F2 71 47) v2)) 71 19 0), G2, zsg) rfl ?_
              refine zle_eq (fun _ => ?_) (fun _ => ?_)
              · refine zle_many 26 (120, 17, [zR 71, zI l1, zI l2, zI l3, zI 1, zI (zadd l5 1), zI v2], [], (zup (zup (zup (zup (zup (zup F2 71 23 (zadd (F2 71 47) v2)) 71 19 0) 85 0 l2) 86 0 l5) 87 0 l3) 71 19 (zadd 0 1)), G2, zsg) rfl ?_
                exact zle_wk ⟨Or.inl rfl, Or.inl rfl, Or.inl rfl, Or.inl rfl, Or.inl rfl, Or.inl rfl, Or.inr rfl, trivial⟩
              · refine zle_many 47 (120, 17, [zR 71, zI l1, zI l2, zI l3, zI 1, zI (zadd l5 1), zI v2], [], (zup (zup (zup (zup (zup (zup (zup (zup (zup (zup F2 71 23 (zadd (F2 71 47) v2)) 71 19 0) 85 0 (F2 71 44)) 86 0 (F2 71 45)) 87 0 (F2 71 46)) 71 19 1) 85 1 l2) 86 1 l5) 87 1 l3) 71 19 (zadd 1 1)), G2, zsg) rfl ?_
                exact zle_wk ⟨Or.inl rfl, Or.inl rfl, Or.inl rfl, Or.inl rfl, Or.inl rfl, Or.inl rfl, Or.inr rfl, trivial⟩
            · refine zle_many 2 (120, 17, [zR 71, zI l1, zI l2, zI l3, zI 1, zI (zadd l5 1), zI v2], [], F2, G2, zsg) rfl ?_
              exact zle_wk ⟨Or.inl rfl, Or.inl rfl, Or.inl rfl, Or.inl rfl, Or.inl rfl, Or.inl rfl, Or.inr rfl, trivial⟩
    · refine zle_many 6 (120, (bif zcmp .eq v2 (-1) then 180 else 58), [zR 71, zI l1, zI l2, zI l3, zI 1, zI l5, zI v2], [], F2, G2, zsg) rfl ?_
      refine zle_eq (fun _ => ?_) (fun _ => ?_)
      · refine zle_many 2 (120, 17, [zR 71, zI l1, zI l2, zI l3, zI 1, zI (zadd l5 1), zI v2], [], F2, G2, zsg) rfl ?_
        exact zle_wk ⟨Or.inl rfl, Or.inl rfl, Or.inl rfl, Or.inl rfl, Or.inl rfl, Or.inl rfl, Or.inr rfl, trivial⟩
      · refine zle_many 4 (120, (bif zcmp .eq (F2 71 23) (-1) then 80 else 66), [zR 71, zI l1, zI l2, zI l3, zI 1, zI l5, zI v2], [], F2, G2, zsg) rfl ?_
        refine zle_eq (fun _ => ?_) (fun _ => ?_)
        · refine zle_many 13 (120, (bif zcmp .eq (F2 71 44) (-1) then 139 else 104), [zR 71, zI l1, zI l2, zI l3, zI 1, zI l5, zI v2], [], (zup (zup F2 71 23 (zadd (F2 71 47) v2)) 71 19 0), G2, zsg) rfl ?_
          refine zle_eq (fun _ => ?_) (fun _ => ?_)
          · refine zle_many 26 (120, 17, [zR 71, zI l1, zI l2, zI l3, zI 1, zI (zadd l5 1), zI v2], [], (zup (zup (zup (zup (zup (zup F2 71 23 (zadd (F2 71 47) v2)) 71 19 0) 85 0 l2) 86 0 l5) 87 0 l3) 71 19 (zadd 0 1)), G2, zsg) rfl ?_
            exact zle_wk ⟨Or.inl rfl, Or.inl rfl, Or.inl rfl, Or.inl rfl, Or.inl rfl, Or.inl rfl, Or.inr rfl, trivial⟩
          · refine zle_many 47 (120, 17, [zR 71, zI l1, zI l2, zI l3, zI 1, zI (zadd l5 1), zI v2], [], (zup (zup (zup (zup (zup (zup (zup (zup (zup (zup F2 71 23 (zadd (F2 71 47) v2)) 71 19 0) 85 0 (F2 71 44)) 86 0 (F2 71 45)) 87 0 (F2 71 46)) 71 19 1) 85 1 l2) 86 1 l5) 87 1 l3) 71 19 (zadd 1 1)), G2, zsg) rfl ?_
            exact zle_wk ⟨Or.inl rfl, Or.inl rfl, Or.inl rfl, Or.inl rfl, Or.inl rfl, Or.inl rfl, Or.inr rfl, trivial⟩
        · refine zle_many 7 (120, (bif zcmp .ge (zadd (F2 71 47) v2) (F2 71 23) then 180 else 80), [zR 71, zI l1, zI l2, zI l3, zI 1, zI l5, zI v2], [], F2, G2, zsg) rfl ?_
          refine zle_ge (fun _ => ?_) (fun _ => ?_)
          · refine zle_many 13 (120, (bif zcmp .eq (F2 71 44) (-1) then 139 else 104), [zR 71, zI l1, zI l2, zI l3, zI 1, zI l5, zI v2], [], (zup (zup F2 71 23 (zadd (F2 71 47) v2)) 71 19 0), G2, zsg) rfl ?_
            refine zle_eq (fun _ => ?_) (fun _ => ?_)
            · refine zle_many 26 (120, 17, [zR 71, zI l1, zI l2, zI l3, zI 1, zI (zadd l5 1), zI v2], [], (zup (zup (zup (zup (zup (zup F2 71 23 (zadd (F2 71 47) v2)) 71 19 0) 85 0 l2) 86 0 l5) 87 0 l3) 71 19 (zadd 0 1)), G2, zsg) rfl ?_
              exact zle_wk ⟨Or.inl rfl, Or.inl rfl, Or.inl rfl, Or.inl rfl, Or.inl rfl, Or.inl rfl, Or.inr rfl, trivial⟩
            · refine zle_many 47 (120, 17, [zR 71, zI l1, zI l2, zI l3, zI 1, zI (zadd l5 1), zI v2], [], (zup (zup (zup (zup (zup (zup (zup (zup (zup (zup F2 71 23 (zadd (F2 71 47) v2)) 71 19 0) 85 0 (F2 71 44)) 86 0 (F2 71 45)) 87 0 (F2 71 46)) 71 19 1) 85 1 l2) 86 1 l5) 87 1 l3) 71 19 (zadd 1 1)), G2, zsg) rfl ?_
              exact zle_wk ⟨Or.inl rfl, Or.inl rfl, Or.inl rfl, Or.inl rfl, Or.inl rfl, Or.inl rfl, Or.inr rfl, trivial⟩
          · refine zle_many 2 (120, 17, [zR 71, zI l1, zI l2, zI l3, zI 1, zI (zadd l5 1), zI v2], [], F2, G2, zsg) rfl ?_
            exact zle_wk ⟨Or.inl rfl, Or.inl rfl, Or.inl rfl, Or.inl rfl, Or.inl rfl, Or.inl rfl, Or.inr rfl, trivial⟩
  · refine zle_many 2 (120, (bif zcmp .ne l4 0 then 198 else 191), [zR 71, zI l1, zI l2, zI l3, zI l4, zI l5, zR 0], [], F, G, zsg) rfl ?_
    refine zle_ne (fun _ => ?_) (fun _ => ?_)
    · refine zle_many 4 (120, 195, [zR 71, zI l1, zI l2, zI l3, zI l4, zI l5, zR 0], [zI l3, zI l2, zI l1, zR 71], F, G, zsg) rfl ?_
      refine zle_V rfl (fun F1 G1 => ?_)
      exact zle_ret rfl
    · exact zle_ret rfl
set_option maxRecDepth 20000 in
theorem g_M_asksOther {d : Nat} {F : zM} {G : zG} (a1 : Int) (a2 : Int) (a3 : Int) (a4 : Int) (a5 : Int) : zle (
  zbI (zex d 118 [zR 71, zI a1, zI a2, zI a3] (F, G, zsg)) (fun v1 F1 G1 =>
  if v1 = 0 then
    if 0 ≤ (zadd 0 a2) ∧ (zadd 0 a2) < 43 then
      if 0 ≤ (zadd 28 a1) ∧ (zadd 28 a1) < 43 then
        zev zX0 d (121, 38, [zR 71, zI a1, zI a2, zI a3, zI a4, zI a5, zI 0, zI (F1 72 (Int.toNat (zadd 0 a2))), zI (F1 72 (Int.toNat (zadd 28 a1))), zI 0, zR 0], [], F1, G1, zsg)
      else none
    else none
  else
    some (none, F1, G1, zsg))) (zex (d + 1) 121 [zR 71, zI a1, zI a2, zI a3, zI a4, zI a5] (F, G, zsg)) := by
  refine zle_ent (ls := [zR 71, zI a1, zI a2, zI a3, zI a4, zI a5, zR 0, zR 0, zR 0, zR 0, zR 0]) ?_
  refine zle_many 4 (121, 4, [zR 71, zI a1, zI a2, zI a3, zI a4, zI a5, zR 0, zR 0, zR 0, zR 0, zR 0], [zI a3, zI a2, zI a1, zR 71], F, G, zsg) rfl ?_
  refine zle_I rfl (fun v1 F1 G1 => ?_)
  refine zle_many 1 (121, (bif zcmp .eq v1 0 then 11 else 10), [zR 71, zI a1, zI a2, zI a3, zI a4, zI a5, zR 0, zR 0, zR 0, zR 0, zR 0], [], F1, G1, zsg) rfl ?_
  refine zle_eq (fun _ => ?_) (fun _ => ?_)
  · refine zle_many 7 (121, 21, [zR 71, zI a1, zI a2, zI a3, zI a4, zI a5, zI 0, zR 0, zR 0, zR 0, zR 0], [zI (zadd 0 a2), zR 72], F1, G1, zsg) rfl ?_
    refine zle_ald rfl rfl rfl (fun _ => ?_)
    refine zle_many 6 (121, 32, [zR 71, zI a1, zI a2, zI a3, zI a4, zI a5, zI 0, zI (F1 72 (Int.toNat (zadd 0 a2))), zR 0, zR 0, zR 0], [zI (zadd 28 a1), zR 72], F1, G1, zsg) rfl ?_
    refine zle_ald rfl rfl rfl (fun _ => ?_)
    refine zle_many 3 (121, 38, [zR 71, zI a1, zI a2, zI a3, zI a4, zI a5, zI 0, zI (F1 72 (Int.toNat (zadd 0 a2))), zI (F1 72 (Int.toNat (zadd 28 a1))), zI 0, zR 0], [], F1, G1, zsg) rfl ?_
    exact zle_rfl
  · exact zle_ret rfl
set_option maxRecDepth 20000 in
theorem g_M_asksOther_38 {d : Nat} {F : zM} {G : zG} (l1 : Int) (l2 : Int) (l3 : Int) (l4 : Int) (l5 : Int) (l6 : Int) (l7 : Int) (l8 : Int) (l9 : Int) : zle (
  if l9 < 4 then
  zbI (zex d 116 [zR 71, zI l1, zI l2, zI l9, zI l3] (F, G, zsg)) (fun v2 F2 G2 =>
    if l6 = 0 then
      if v2 = (-1) then
        if v2 = (-1) then
          zev zX0 d (121, 38, [zR 71, zI l1, zI l2, zI l3, zI l4, zI l5, zI 0, zI l7, zI l8, zI (zadd l9 1), zR 0], [], F2, G2, zsg)
        else
          if 0 ≤ (zadd 0 l2) ∧ (zadd 0 l2) < 43 then
            if 0 ≤ l2 ∧ l2 < 8 then
              zbI (zex d 115 [zI l3, zI l9, zI (F2 79 (Int.toNat l2))] ((zup F2 72 (Int.toNat (zadd 0 l2)) l3), G2, zsg)) (fun v5 F5 G5 =>
                if 0 ≤ (zadd 28 l1) ∧ (zadd 28 l1) < 43 then
                  zbV (zex d 120 [zR 71, zI l1, zI l4, zI l5] ((zup (zup (zup (zup (zup F5 72 (Int.toNat (zadd 28 l1)) v5) 71 44 l2) 71 45 l9) 71 46 l3) 71 47 v2), G5, zsg)) (fun F6 G6 =>
                    if 0 ≤ (zadd 0 l2) ∧ (zadd 0 l2) < 43 then
                      if 0 ≤ (zadd 28 l1) ∧ (zadd 28 l1) < 43 then
                        zev zX0 d (121, 38, [zR 71, zI l1, zI l2, zI l3, zI l4, zI l5, zI 0, zI l7, zI l8, zI (zadd l9 1), zR 0], [], (zup (zup (zup (zup F6 72 (Int.toNat (zadd 0 l2)) l7) 72 (Int.toNat (zadd 28 l1)) l8) 71 44 (-1)) 71 47 0), G6, zsg)
                      else none
                    else none)
                else none)
            else none
          else none
      else
        if v2 = (-1) then
          zev zX0 d (121, 38, [zR 71, zI l1, zI l2, zI l3, zI l4, zI l5, zI 1, zI l7, zI l8, zI (zadd l9 1), zR 0], [], F2, G2, zsg)
        else
          if 0 ≤ (zadd 0 l2) ∧ (zadd 0 l2) < 43 then
            if 0 ≤ l2 ∧ l2 < 8 then
              zbI (zex d 115 [zI l3, zI l9, zI (F2 79 (Int.toNat l2))] ((zup F2 72 (Int.toNat (zadd 0 l2)) l3), G2, zsg)) (fun v7 F7 G7 =>
                if 0 ≤ (zadd 28 l1) ∧ (zadd 28 l1) < 43 then
                  zbV (zex d 120 [zR 71, zI l1, zI l4, zI l5] ((zup (zup (zup (zup (zup F7 72 (Int.toNat (zadd 28 l1)) v7) 71 44 l2) 71 45 l9) 71 46 l3) 71 47 v2), G7, zsg)) (fun F8 G8 =>
                    if 0 ≤ (zadd 0 l2) ∧ (zadd 0 l2) < 43 then
                      if 0 ≤ (zadd 28 l1) ∧ (zadd 28 l1) < 43 then
                        zev zX0 d (121, 38, [zR 71, zI l1, zI l2, zI l3, zI l4, zI l5, zI 1, zI l7, zI l8, zI (zadd l9 1), zR 0], [], (zup (zup (zup (zup F8 72 (Int.toNat (zadd 0 l2)) l7) 72 (Int.toNat (zadd 28 l1)) l8) 71 44 (-1)) 71 47 0), G8, zsg)
                      else none
                    else none)
                else none)
            else none
          else none
    else
      if v2 = (-1) then
        zev zX0 d (121, 38, [zR 71, zI l1, zI l2, zI l3, zI l4, zI l5, zI 1, zI l7, zI l8, zI (zadd l9 1), zR 0], [], F2, G2, zsg)
      else
        if 0 ≤ (zadd 0 l2) ∧ (zadd 0 l2) < 43 then
          if 0 ≤ l2 ∧ l2 < 8 then
            zbI (zex d 115 [zI l3, zI l9, zI (F2 79 (Int.toNat l2))] ((zup F2 72 (Int.toNat (zadd 0 l2)) l3), G2, zsg)) (fun v3 F3 G3 =>
              if 0 ≤ (zadd 28 l1) ∧ (zadd 28 l1) < 43 then
                zbV (zex d 120 [zR 71, zI l1, zI l4, zI l5] ((zup (zup (zup (zup (zup F3 72 (Int.toNat (zadd 28 l1)) v3) 71 44 l2) 71 45 l9) 71 46 l3) 71 47 v2), G3, zsg)) (fun F4 G4 =>
                  if 0 ≤ (zadd 0 l2) ∧ (zadd 0 l2) < 43 then
                    if 0 ≤ (zadd 28 l1) ∧ (zadd 28 l1) < 43 then
                      zev zX0 d (121, 38, [zR 71, zI l1, zI l2, zI l3, zI l4, zI l5, zI 1, zI l7, zI l8, zI (zadd l9 1), zR 0], [], (zup (zup (zup (zup F4 72 (Int.toNat (zadd 0 l2)) l7) 72 (Int.toNat (zadd 28 l1)) l8) 71 44 (-1)) 71 47 0), G4, zsg)
                    else none
                  else none)
              else none)
          else none
        else none)
else
  if l6 = 0 then
    zbV (zex d 119 [zR 71, zI l1, zI l2, zI l3] (F, G, zsg)) (fun F1 G1 =>
      some (none, F1, G1, zsg))
  else
    some (none, F, G, zsg)) (zev zX0 d (121, 38, [zR 71, zI l1, zI l2, zI l3, zI l4, zI l5, zI l6, zI l7, zI l8, zI l9, zR 0], [], F, G, zsg)) := by
  refine zle_many 3 (121, (bif zcmp .ge l9 4 then 177 else 44), [zR 71, zI l1, zI l2, zI l3, zI l4, zI l5, zI l6, zI l7, zI l8, zI l9, zR 0], [], F, G, zsg) rfl ?_
  refine zle_ge (fun _ => ?_) (fun _ => ?_)
  · refine zle_many 5 (121, 50, [zR 71, zI l1, zI l2, zI l3, zI l4, zI l5, zI l6, zI l7, zI l8, zI l9, zR 0], [zI l3, zI l9, zI l2, zI l1, zR 71], F, G, zsg) rfl ?_
    refine zle_I rfl (fun v2 F2 G2 => ?_)
    refine zle_many 3 (121, (bif zcmp .ne l6 0 then 66 else 60), [zR 71, zI l1, zI l2, zI l3, zI l4, zI l5, zI l6, zI l7, zI l8, zI l9, zI v2], [], F2, G2, zsg) rfl ?_
    refine zle_ne (fun _ => ?_) (fun _ => ?_)
    · refine zle_many 3 (121, (bif zcmp .eq v2 (-1) then 70 else 66), [zR 71, zI l1, zI l2, zI l3, zI l4, zI l5, zI l6, zI l7, zI l8, zI l9, zI v2], [], F2, G2, zsg) rfl ?_
      refine zle_eq (fun _ => ?_) (fun _ => ?_)
      · refine zle_many 5 (121, (bif zcmp .eq v2 (-1) then 171 else 79), [zR 71, zI l1, zI l2, zI l3, zI l4, zI l5, zI 0, zI l7, zI l8, zI l9, zI v2], [], F2, G2, zsg) rfl ?_
        refine zle_eq (fun _ => ?_) (fun _ => ?_)
        · refine zle_many 2 (121, 38, [zR 71, zI l1, zI l2, zI l3, zI l4, zI l5, zI 0, zI l7, zI l8, zI (zadd l9 1), zI v2], [], F2, G2, zsg) rfl ?_
          exact zle_wk ⟨Or.inl rfl, Or.inl rfl, Or.inl rfl, Or.inl rfl, Or.inl rfl, Or.inl rfl, Or.inl rfl, Or.inl rfl, Or.inl rfl, Or.inl rfl, Or.inr rfl, trivial⟩
        · refine zle_many 6 (121, 87, [zR 71, zI l1, zI l2, zI l3, zI l4, zI l5, zI 0, zI l7, zI l8, zI l9, zI v2], [zI l3, zI (zadd 0 l2), zR 72], F2, G2, zsg) rfl ?_
          refine zle_ast rfl rfl rfl (fun _ => ?_)
          refine zle_many 10 (121, 104, [zR 71, zI l1, zI l2, zI l3, zI l4, zI l5, zI 0, zI l7, zI l8, zI l9, zI v2], [zI l2, zR 79, zI l9, zI l3, zI (zadd 28 l1), zR 72], (zup F2 72 (Int.toNat (zadd 0 l2)) l3), G2, zsg) rfl ?_
          refine zle_ald rfl rfl rfl (fun _ => ?_)
          refine zle_many 0 (121, 105, [zR 71, zI l1, zI l2, zI l3, zI l4, zI l5, zI 0, zI l7, zI l8, zI l9, zI v2], [zI (F2 79 (Int.toNat l2)), zI l9, zI l3, zI (zadd 28 l1), zR 72], (zup F2 72 (Int.toNat (zadd 0 l2)) l3), G2, zsg) rfl ?_
          refine zle_I rfl (fun v5 F5 G5 => ?_)
          refine zle_ast rfl rfl rfl (fun _ => ?_)
          refine zle_many 16 (121, 137, [zR 71, zI l1, zI l2, zI l3, zI l4, zI l5, zI 0, zI l7, zI l8, zI l9, zI v2], [zI l5, zI l4, zI l1, zR 71], (zup (zup (zup (zup (zup F5 72 (Int.toNat (zadd 28 l1)) v5) 71 44 l2) 71 45 l9) 71 46 l3) 71 47 v2), G5, zsg) rfl ?_
          refine zle_V rfl (fun F6 G6 => ?_)
          refine zle_many 6 (121, 149, [zR 71, zI l1, zI l2, zI l3, zI l4, zI l5, zI 0, zI l7, zI l8, zI l9, zI v2], [zI l7, zI (zadd 0 l2), zR 72], F6, G6, zsg) rfl ?_
          refine zle_ast rfl rfl rfl (fun _ => ?_)
          refine zle_many 6 (121, 160, [zR 71, zI l1, zI l2, zI l3, zI l4, zI l5, zI 0, zI l7, zI l8, zI l9, zI v2], [zI l8, zI (zadd 28 l1), zR 72], (zup F6 72 (Int.toNat (zadd 0 l2)) l7), G6, zsg) rfl ?_
          refine zle_ast rfl rfl rfl (fun _ => ?_)
          refine zle_many 8 (121, 38, [zR 71, zI l1, zI l2, zI l3, zI l4, zI l5, zI 0, zI l7, zI l8, zI (zadd l9 1), zI v2], [], (zup (zup (zup (zup F6 72 (Int.toNat (zadd 0 l2)) l7) 72 (Int.toNat (zadd 28 l1)) l8) 71 44 (-1)) 71 47 0), G6, zsg) rfl ?_
          exact zle_wk ⟨Or.inl rfl, Or.inl rfl, Or.inl rfl, Or.inl rfl, Or.inl rfl, Or.inl rfl, Or.inl rfl, Or.inl rfl, Or.inl rfl, Or.inl rfl, Or.inr rfl, trivial⟩
      · refine zle_many 6 (121, (bif zcmp .eq v2 (-1) then 171 else 79), [zR 71, zI l1, zI l2, zI l3, zI l4, zI l5, zI 1, zI l7, zI l8, zI l9, zI v2], [], F2, G2, zsg) rfl ?_
        refine zle_eq (fun _ => ?_) (fun _ => ?_)
        · refine zle_many 2 (121, 38, [zR 71, zI l1, zI l2, zI l3, zI l4, zI l5, zI 1, zI l7, zI l8, zI (zadd l9 1), zI v2], [], F2, G2, zsg) rfl ?_
          exact zle_wk ⟨Or.inl rfl, Or.inl rfl, Or.inl rfl, Or.inl rfl, Or.inl rfl, Or.inl rfl, Or.inl rfl, Or.inl rfl, Or.inl rfl, Or.inl rfl, Or.inr rfl, trivial⟩
        · refine zle_many 6 (121, 87, [zR 71, zI l1, zI l2, zI l3, zI l4, zI l5, zI 1, zI l7, zI l8, zI l9, zI v2], [zI l3, zI (zadd 0 l2), zR 72], F2, G2, zsg) rfl ?_
          refine zle_ast rfl rfl rfl (fun _ => ?_)
          refine zle_many 10 (121, 104, [zR 71, zI l1, zI l2, zI l3, zI l4, zI l5, zI 1, zI l7, zI l8, zI l9, zI v2], [zI l2, zR 79, zI l9, zI l3, zI (zadd 28 l1), zR 72], (zup F2 72 (Int.toNat (zadd 0 l2)) l3), G2, zsg) rfl ?_
          refine zle_ald rfl rfl rfl (fun _ => ?_)
          refine zle_many 0 (121, 105, [zR 71, zI l1, zI l2, zI l3, zI l4, zI l5, zI 1, zI l7, zI l8, zI l9, zI v2], [zI (F2 79 (Int.toNat l2)), zI l9, zI l3, zI (zadd 28 l1), zR 72], (zup F2 72 (Int.toNat (zadd 0 l2)) l3), G2, zsg) rfl ?_
          refine zle_I rfl (fun v7 F7 G7 => ?_)
          refine zle_ast rfl rfl rfl (fun _ => ?_)
          refine zle_many 16 (121, 137, [zR 71, zI l1, zI l2, zI l3, zI l4, zI l5, zI 1, zI l7, zI l8, zI l9, zI v2], [zI l5, zI l4, zI l1, zR 71], (zup (zup (zup (zup (zup F7 72 (Int.toNat (zadd 28 l1)) v7) 71 44 l2) 71 45 l9) 71 46 l3) 71 47 v2), G7, zsg) rfl ?_
          refine zle_V rfl (fun F8 G8 => ?_)
          refine zle_many 6 (121, 149, [zR 71, zI l1, zI l2, zI l3, zI l4, zI l5, zI 1, zI l7, zI l8, zI l9, zI v2], [zI l7, zI (zadd 0 l2), zR 72], F8, G8, zsg) rfl ?_
          refine zle_ast rfl rfl rfl (fun _ => ?_)
          refine zle_many 6 (121, 160, [zR 71, zI l1, zI l2, zI l3, zI l4, zI l5, zI 1, zI l7, zI l8, zI l9, zI v2], [zI l8, zI (zadd 28 l1), zR 72], (zup F8 72 (Int.toNat (zadd 0 l2)) l7), G8, zsg) rfl ?_
          refine zle_ast rfl rfl rfl (fun _ => ?_)
          refine zle_many 8 (121, 38, [zR 71, zI l1, zI l2, zI l3, zI l4, zI l5, zI 1, zI l7, zI l8, zI (zadd l9 1), zI v2], [], (zup (zup (zup (zup F8 72 (Int.toNat (zadd 0 l2)) l7) 72 (Int.toNat (zadd 28 l1)) l8) 71 44 (-1)) 71 47 0), G8, zsg) rfl ?_
          exact zle_wk ⟨Or.inl rfl, Or.inl rfl, Or.inl rfl, Or.inl rfl, Or.inl rfl, Or.inl rfl, Or.inl rfl, Or.inl rfl, Or.inl rfl, Or.inl rfl, Or.inr rfl, trivial⟩
    · refine zle_many 6 (121, (bif zcmp .eq v2 (-1) then 171 else 79), [zR 71, zI l1, zI l2, zI l3, zI l4, zI l5, zI 1, zI l7, zI l8, zI l9, zI v2], [], F2, G2, zsg) rfl ?_
      refine zle_eq (fun _ => ?_) (fun _ => ?_)
      · refine zle_many 2 (121, 38, [zR 71, zI l1, zI l2, zI l3, zI l4, zI l5, zI 1, zI l7, zI l8, zI (zadd l9 1), zI v2], [], F2, G2, zsg) rfl ?_
        exact zle_wk ⟨Or.inl rfl, Or.inl rfl, Or.inl rfl, Or.inl rfl, Or.inl rfl, Or.inl rfl, Or.inl rfl, Or.inl rfl, Or.inl rfl, Or.inl rfl, Or.inr rfl, trivial⟩
      · refine zle_many 6 (121, 87, [zR 71, zI l1, zI l2, zI l3, zI l4, zI l5, zI 1, zI l7, zI l8, zI l9, zI v2], [zI l3, zI (zadd 0 l2), zR 72], F2, G2, zsg) rfl ?_
        refine zle_ast rfl rfl rfl (fun _ => ?_)
        refine zle_many 10 (121, 104, [zR 71, zI l1, zI l2, zI l3, zI l4, zI l5, zI 1, zI l7, zI l8, zI l9, zI v2], [zI l2, zR 79, zI l9, zI l3, zI (zadd 28 l1), zR 72], (zup F2 72 (Int.toNat (zadd 0 l2)) l3), G2, zsg) rfl ?_
        refine zle_ald rfl rfl rfl (fun _ => ?_)
        refine zle_many 0 (121, 105, [zR 71, zI l1, zI l2, zI l3, zI l4, zI l5, zI 1, zI l7, zI l8, zI l9, zI v2], [zI (F2 79 (Int.toNat l2)), zI l9, zI l3, zI (zadd 28 l1), zR 72], (zup F2 72 (Int.toNat (zadd 0 l2)) l3), G2, zsg) rfl ?_
        refine zle_I rfl (fun v3 F3 G3 => ?_)
        refine zle_ast rfl rfl rfl (fun _ => ?_)
        refine zle_many 16 (121, 137, [zR 71, zI l1, zI l2, zI l3, zI l4, zI l5, zI 1, zI l7, zI l8, zI l9, zI v2], [zI l5, zI l4, zI l1, zR 71], (zup (zup (zup (zup (zup F3 72 (Int.toNat (zadd 28 l1)) v3) 71 44 l2) 71 45 l9) 71 46 l3) 71 47 v2), G3, zsg) rfl ?_
        refine zle_V rfl (fun F4 G4 => ?_)
        refine zle_many 6 (121, 149, [zR 71, zI l1, zI l2, zI l3, zI l4, zI l5, zI 1, zI l7, zI l8, zI l9, zI v2], [zI l7, zI (zadd 0 l2), zR 72], F4, G4, zsg) rfl ?_
        refine zle_ast rfl rfl rfl (fun _ => ?_)
        refine zle_many 6 (121, 160, [zR 71, zI l1, zI l2, zI l3, zI l4, zI l5, zI 1, zI l7, zI l8, zI l9, zI v2], [zI l8, zI (zadd 28 l1), zR 72], (zup F4 72 (Int.toNat (zadd 0 l2)) l7), G4, zsg) rfl ?_
        refine zle_ast rfl rfl rfl (fun _ => ?_)
        refine zle_many 8 (121, 38, [zR 71, zI l1, zI l2, zI l3, zI l4, zI l5, zI 1, zI l7, zI l8, zI (zadd l9 1), zI v2], [], (zup (zup (zup (zup F4 72 (Int.toNat (zadd 0 l2)) l7) 72 (Int.toNat (zadd 28 l1)) l8) 71 44 (-1)) 71 47 0), G4, zsg) rfl ?_
        exact zle_wk ⟨Or.inl rfl, Or.inl rfl, Or.inl rfl, Or.inl rfl, Or.inl rfl, Or.inl rfl, Or.inl rfl, Or.inl rfl, Or.inl rfl, Or.inl rfl, Or.inr rfl, trivial⟩
  · refine zle_many 2 (121, (bif zcmp .ne l6 0 then 189 else 182), [zR 71, zI l1, zI l2, zI l3, zI l4, zI l5, zI l6, zI l7, zI l8, zI l9, zR 0], [], F, G, zsg) rfl ?_
    refine zle_ne (fun _ => ?_) (fun _ => ?_)
    · refine zle_many 4 (121, 186, [zR 71, zI l1, zI l2, zI l3, zI l4, zI l5, zI l6, zI l7, zI l8, zI l9, zR 0], [zI l3, zI l2, zI l1, zR 71], F, G, zsg) rfl ?_
      refine zle_V rfl (fun F1 G1 => ?_)
      exact zle_ret rfl
    · exact zle_ret rfl
set_option maxRecDepth 20000 in
theorem g_M_seeks {d : Nat} {F : zM} {G : zG} (a1 : Int) (a2 : Int) (a3 : Int) (a4 : Int) (a5 : Int) (a6 : Int) : zle (
  zev zX0 d (122, 3, [zR 71, zI a1, zI a2, zI a3, zI a4, zI a5, zI a6, zI 0, zR 0, zR 0], [], F, G, zsg)) (zex (d + 1) 122 [zR 71, zI a1, zI a2, zI a3, zI a4, zI a5, zI a6] (F, G, zsg)) := by
  refine zle_ent (ls := [zR 71, zI a1, zI a2, zI a3, zI a4, zI a5, zI a6, zR 0, zR 0, zR 0]) ?_
  refine zle_many 2 (122, 3, [zR 71, zI a1, zI a2, zI a3, zI a4, zI a5, zI a6, zI 0, zR 0, zR 0], [], F, G, zsg) rfl ?_
  exact zle_rfl
set_option maxRecDepth 20000 in
theorem g_M_seeks_3 {d : Nat} {F : zM} {G : zG} (l1 : Int) (l2 : Int) (l3 : Int) (l4 : Int) (l5 : Int) (l6 : Int) (l7 : Int) : zle (
  if l7 < (F 71 8) then
  if l7 = l2 then
    zbV (zex d 120 [zR 71, zI l1, zI l2, zI l3] (F, G, zsg)) (fun F1 G1 =>
      zev zX0 d (122, 3, [zR 71, zI l1, zI l2, zI l3, zI l4, zI l5, zI l6, zI (zadd l7 1), zR 0, zR 0], [], F1, G1, zsg))
  else
    if l6 = 0 then
      zev zX0 d (122, 3, [zR 71, zI l1, zI l2, zI l3, zI l4, zI l5, zI l6, zI (zadd l7 1), zR 0, zR 0], [], F, G, zsg)
    else
      if (zand (zshr l4 l7) 1) = 1 then
        if 0 ≤ (zadd 0 l7) ∧ (zadd 0 l7) < 43 then
          if (F 72 (Int.toNat (zadd 0 l7))) = (-1) then
            zev zX0 d (122, 3, [zR 71, zI l1, zI l2, zI l3, zI l4, zI l5, zI l6, zI (zadd l7 1), zR 0, zR 0], [], F, G, zsg)
          else
            if 0 ≤ (zadd 8 l7) ∧ (zadd 8 l7) < 43 then
              if (F 72 (Int.toNat (zadd 8 l7))) = (-1) then
                zev zX0 d (122, 74, [zR 71, zI l1, zI l2, zI l3, zI l4, zI l5, zI l6, zI l7, zI 0, zR 0], [], F, G, zsg)
              else
                zev zX0 d (122, 3, [zR 71, zI l1, zI l2, zI l3, zI l4, zI l5, zI l6, zI (zadd l7 1), zR 0, zR 0], [], F, G, zsg)
            else none
        else none
      else
        zev zX0 d (122, 3, [zR 71, zI l1, zI l2, zI l3, zI l4, zI l5, zI l6, zI (zadd l7 1), zR 0, zR 0], [], F, G, zsg)
else
  some (none, F, G, zsg)) (zev zX0 d (122, 3, [zR 71, zI l1, zI l2, zI l3, zI l4, zI l5, zI l6, zI l7, zR 0, zR 0], [], F, G, zsg)) := by
  refine zle_many 4 (122, (bif zcmp .ge l7 (F 71 8) then 138 else 12), [zR 71, zI l1, zI l2, zI l3, zI l4, zI l5, zI l6, zI l7, zR 0, zR 0], [], F, G, zsg) rfl ?_
  refine zle_ge (fun _ => ?_) (fun _ => ?_)
  · refine zle_many 3 (122, (bif zcmp .ne l7 l2 then 28 else 18), [zR 71, zI l1, zI l2, zI l3, zI l4, zI l5, zI l6, zI l7, zR 0, zR 0], [], F, G, zsg) rfl ?_
    refine zle_ne (fun _ => ?_) (fun _ => ?_)
    · refine zle_many 4 (122, 22, [zR 71, zI l1, zI l2, zI l3, zI l4, zI l5, zI l6, zI l7, zR 0, zR 0], [zI l3, zI l2, zI l1, zR 71], F, G, zsg) rfl ?_
      refine zle_V rfl (fun F1 G1 => ?_)
      refine zle_many 3 (122, 3, [zR 71, zI l1, zI l2, zI l3, zI l4, zI l5, zI l6, zI (zadd l7 1), zR 0, zR 0], [], F1, G1, zsg) rfl ?_
      exact zle_rfl
    · refine zle_many 2 (122, (bif zcmp .eq l6 0 then 132 else 33), [zR 71, zI l1, zI l2, zI l3, zI l4, zI l5, zI l6, zI l7, zR 0, zR 0], [], F, G, zsg) rfl ?_
      refine zle_eq (fun _ => ?_) (fun _ => ?_)
      · refine zle_many 2 (122, 3, [zR 71, zI l1, zI l2, zI l3, zI l4, zI l5, zI l6, zI (zadd l7 1), zR 0, zR 0], [], F, G, zsg) rfl ?_
        exact zle_rfl
      · refine zle_many 7 (122, (bif zcmp .ne (zand (zshr l4 l7) 1) 1 then 132 else 44), [zR 71, zI l1, zI l2, zI l3, zI l4, zI l5, zI l6, zI l7, zR 0, zR 0], [], F, G, zsg) rfl ?_
        refine zle_ne (fun _ => ?_) (fun _ => ?_)
        · refine zle_many 5 (122, 52, [zR 71, zI l1, zI l2, zI l3, zI l4, zI l5, zI l6, zI l7, zR 0, zR 0], [zI (zadd 0 l7), zR 72], F, G, zsg) rfl ?_
          refine zle_ald rfl rfl rfl (fun _ => ?_)
          refine zle_many 2 (122, (bif zcmp .eq (F 72 (Int.toNat (zadd 0 l7))) (-1) then 132 else 57), [zR 71, zI l1, zI l2, zI l3, zI l4, zI l5, zI l6, zI l7, zR 0, zR 0], [], F, G, zsg) rfl ?_
          refine zle_eq (fun _ => ?_) (fun _ => ?_)
          · refine zle_many 2 (122, 3, [zR 71, zI l1, zI l2, zI l3, zI l4, zI l5, zI l6, zI (zadd l7 1), zR 0, zR 0], [], F, G, zsg) rfl ?_
            exact zle_rfl
          · refine zle_many 5 (122, 66, [zR 71, zI l1, zI l2, zI l3, zI l4, zI l5, zI l6, zI l7, zR 0, zR 0], [zI (zadd 8 l7), zR 72], F, G, zsg) rfl ?_
            refine zle_ald rfl rfl rfl (fun _ => ?_)
            refine zle_many 2 (122, (bif zcmp .ne (F 72 (Int.toNat (zadd 8 l7))) (-1) then 132 else 71), [zR 71, zI l1, zI l2, zI l3, zI l4, zI l5, zI l6, zI l7, zR 0, zR 0], [], F, G, zsg) rfl ?_
            refine zle_ne (fun _ => ?_) (fun _ => ?_)
            · refine zle_many 2 (122, 74, [zR 71, zI l1, zI l2, zI l3, zI l4, zI l5, zI l6, zI l7, zI 0, zR 0], [], F, G, zsg) rfl ?_
              exact zle_rfl
            · refine zle_many 2 (122, 3, [zR 71, zI l1, zI l2, zI l3, zI l4, zI l5, zI l6, zI (zadd l7 1), zR 0, zR 0], [], F, G, zsg) rfl ?_
              exact zle_rfl
        · refine zle_many 2 (122, 3, [zR 71, zI l1, zI l2, zI l3, zI l4, zI l5, zI l6, zI (zadd l7 1), zR 0, zR 0], [], F, G, zsg) rfl ?_
          exact zle_rfl
  · exact zle_ret rfl
set_option maxRecDepth 20000 in
theorem g_M_seeks_74 {d : Nat} {F : zM} {G : zG} (l1 : Int) (l2 : Int) (l3 : Int) (l4 : Int) (l5 : Int) (l6 : Int) (l7 : Int) (l8 : Int) : zle (
  if 0 ≤ l5 ∧ l5 < 4 then
  if l8 < (F 97 (Int.toNat l5)) then
    if 0 ≤ (zadd (zmul 40 l5) l8) ∧ (zadd (zmul 40 l5) l8) < 160 then
      if 0 ≤ (zadd 0 l7) ∧ (zadd 0 l7) < 43 then
        if (F 72 (Int.toNat (zadd 0 l7))) = (F 98 (Int.toNat (zadd (zmul 40 l5) l8))) then
          zev zX0 d (122, 74, [zR 71, zI l1, zI l2, zI l3, zI l4, zI l5, zI l6, zI l7, zI (zadd l8 1), zR 0], [], F, G, zsg)
        else
          zbV (zex d 121 [zR 71, zI l1, zI l7, zI (F 98 (Int.toNat (zadd (zmul 40 l5) l8))), zI l2, zI l3] (F, G, zsg)) (fun F1 G1 =>
            zev zX0 d (122, 74, [zR 71, zI l1, zI l2, zI l3, zI l4, zI l5, zI l6, zI l7, zI (zadd l8 1), zR 0], [], F1, G1, zsg))
      else none
    else none
  else
    zev zX0 d (122, 3, [zR 71, zI l1, zI l2, zI l3, zI l4, zI l5, zI l6, zI (zadd l7 1), zR 0, zR 0], [], F, G, zsg)
else none) (zev zX0 d (122, 74, [zR 71, zI l1, zI l2, zI l3, zI l4, zI l5, zI l6, zI l7, zI l8, zR 0], [], F, G, zsg)) := by
  refine zle_many 4 (122, 82, [zR 71, zI l1, zI l2, zI l3, zI l4, zI l5, zI l6, zI l7, zI l8, zR 0], [zI l5, zR 97, zI l8], F, G, zsg) rfl ?_
  refine zle_ald rfl rfl rfl (fun _ => ?_)
  refine zle_many 1 (122, (bif zcmp .ge l8 (F 97 (Int.toNat l5)) then 132 else 86), [zR 71, zI l1, zI l2, zI l3, zI l4, zI l5, zI l6, zI l7, zI l8, zR 0], [], F, G, zsg) rfl ?_
  refine zle_ge (fun _ => ?_) (fun _ => ?_)
  · refine zle_many 7 (122, 98, [zR 71, zI l1, zI l2, zI l3, zI l4, zI l5, zI l6, zI l7, zI l8, zR 0], [zI (zadd (zmul 40 l5) l8), zR 98], F, G, zsg) rfl ?_
    refine zle_ald rfl rfl rfl (fun _ => ?_)
    refine zle_many 6 (122, 109, [zR 71, zI l1, zI l2, zI l3, zI l4, zI l5, zI l6, zI l7, zI l8, zI (F 98 (Int.toNat (zadd (zmul 40 l5) l8)))], [zI (zadd 0 l7), zR 72], F, G, zsg) rfl ?_
    refine zle_ald rfl rfl rfl (fun _ => ?_)
    refine zle_many 2 (122, (bif zcmp .eq (F 72 (Int.toNat (zadd 0 l7))) (F 98 (Int.toNat (zadd (zmul 40 l5) l8))) then 126 else 115), [zR 71, zI l1, zI l2, zI l3, zI l4, zI l5, zI l6, zI l7, zI l8, zI (F 98 (Int.toNat (zadd (zmul 40 l5) l8)))], [], F, G, zsg) rfl ?_
    refine zle_eq (fun _ => ?_) (fun _ => ?_)
    · refine zle_many 2 (122, 74, [zR 71, zI l1, zI l2, zI l3, zI l4, zI l5, zI l6, zI l7, zI (zadd l8 1), zI (F 98 (Int.toNat (zadd (zmul 40 l5) l8)))], [], F, G, zsg) rfl ?_
      exact zle_wk ⟨Or.inl rfl, Or.inl rfl, Or.inl rfl, Or.inl rfl, Or.inl rfl, Or.inl rfl, Or.inl rfl, Or.inl rfl, Or.inl rfl, Or.inr rfl, trivial⟩
    · refine zle_many 6 (122, 123, [zR 71, zI l1, zI l2, zI l3, zI l4, zI l5, zI l6, zI l7, zI l8, zI (F 98 (Int.toNat (zadd (zmul 40 l5) l8)))], [zI l3, zI l2, zI (F 98 (Int.toNat (zadd (zmul 40 l5) l8))), zI l7, zI l1, zR 71], F, G, zsg) rfl ?_
      refine zle_V rfl (fun F1 G1 => ?_)
      refine zle_many 2 (122, 74, [zR 71, zI l1, zI l2, zI l3, zI l4, zI l5, zI l6, zI l7, zI (zadd l8 1), zI (F 98 (Int.toNat (zadd (zmul 40 l5) l8)))], [], F1, G1, zsg) rfl ?_
      exact zle_wk ⟨Or.inl rfl, Or.inl rfl, Or.inl rfl, Or.inl rfl, Or.inl rfl, Or.inl rfl, Or.inl rfl, Or.inl rfl, Or.inl rfl, Or.inr rfl, trivial⟩
  · refine zle_many 2 (122, 3, [zR 71, zI l1, zI l2, zI l3, zI l4, zI l5, zI l6, zI (zadd l7 1), zI l8, zR 0], [], F, G, zsg) rfl ?_
    exact zle_wk ⟨Or.inl rfl, Or.inl rfl, Or.inl rfl, Or.inl rfl, Or.inl rfl, Or.inl rfl, Or.inl rfl, Or.inl rfl, Or.inr rfl, Or.inl rfl, trivial⟩
set_option maxRecDepth 20000 in
theorem g_M_plan {d : Nat} {F : zM} {G : zG} (a1 : Int) (a2 : Int) (a3 : Int) (a4 : Int) (a5 : Int) : zle (
  zbI (zex d 68 [zR 71, zI a1] (F, G, zsg)) (fun v1 F1 G1 =>
  if v1 = 0 then
    some (some (zI (-5)), F1, G1, zsg)
  else
    zbI (zex d 51 [zR 71, zI a2] (F1, G1, zsg)) (fun v2 F2 G2 =>
      if v2 = 0 then
        some (some (zI (-5)), F2, G2, zsg)
      else
        zbI (zex d 50 [zI a3] (F2, G2, zsg)) (fun v3 F3 G3 =>
          if v3 = 0 then
            some (some (zI (-5)), F3, G3, zsg)
          else
            zbI (zex d 49 [zI a5, zI 0, zI 3] (F3, G3, zsg)) (fun v4 F4 G4 =>
              if v4 = 0 then
                some (some (zI (-5)), F4, G4, zsg)
              else
                if 0 ≤ a5 ∧ a5 < 4 then
                  if (F4 96 (Int.toNat a5)) = (-1) then
                    some (some (zI (-11)), F4, G4, zsg)
                  else
                    if 0 ≤ a5 ∧ a5 < 4 then
                      if 5 < (F4 97 (Int.toNat a5)) then
                        zev zX0 d (123, 83, [zR 71, zI a1, zI a2, zI a3, zI a4, zI a5, zI 0, zI 0], [], F4, G4, zsg)
                      else
                        zbI (zex d 49 [zI a4, zI 0, zI 255] (F4, G4, zsg)) (fun v5 F5 G5 =>
                        if v5 = 0 then
                        zev zX0 d (123, 83, [zR 71, zI a1, zI a2, zI a3, zI a4, zI a5, zI 0, zI 0], [], F5, G5, zsg)
                      else
                        zev zX0 d (123, 83, [zR 71, zI a1, zI a2, zI a3, zI a4, zI a5, zI 1, zI 0], [], F5, G5, zsg))
                    else none
                else none))))) (zex (d + 1) 123 [zR 71, zI a1, zI a2, zI a3, zI a4, zI a5] (F, G, zsg)) := by
  refine zle_ent (ls := [zR 71, zI a1, zI a2, zI a3, zI a4, zI a5, zR 0, zR 0]) ?_
  refine zle_many 2 (123, 2, [zR 71, zI a1, zI a2, zI a3, zI a4, zI a5, zR 0, zR 0], [zI a1, zR 71], F, G, zsg) rfl ?_
  refine zle_I rfl (fun v1 F1 G1 => ?_)
  refine zle_many 1 (123, (bif zcmp .eq v1 0 then 33 else 8), [zR 71, zI a1, zI a2, zI a3, zI a4, zI a5, zR 0, zR 0], [], F1, G1, zsg) rfl ?_
  refine zle_eq (fun _ => ?_) (fun _ => ?_)
  · refine zle_many 1 (123, 35, [zR 71, zI a1, zI a2, zI a3, zI a4, zI a5, zR 0, zR 0], [zI (-5)], F1, G1, zsg) rfl ?_
    exact zle_ret rfl
  · refine zle_many 2 (123, 10, [zR 71, zI a1, zI a2, zI a3, zI a4, zI a5, zR 0, zR 0], [zI a2, zR 71], F1, G1, zsg) rfl ?_
    refine zle_I rfl (fun v2 F2 G2 => ?_)
    refine zle_many 1 (123, (bif zcmp .eq v2 0 then 33 else 16), [zR 71, zI a1, zI a2, zI a3, zI a4, zI a5, zR 0, zR 0], [], F2, G2, zsg) rfl ?_
    refine zle_eq (fun _ => ?_) (fun _ => ?_)
    · refine zle_many 1 (123, 35, [zR 71, zI a1, zI a2, zI a3, zI a4, zI a5, zR 0, zR 0], [zI (-5)], F2, G2, zsg) rfl ?_
      exact zle_ret rfl
    · refine zle_many 1 (123, 17, [zR 71, zI a1, zI a2, zI a3, zI a4, zI a5, zR 0, zR 0], [zI a3], F2, G2, zsg) rfl ?_
      refine zle_I rfl (fun v3 F3 G3 => ?_)
      refine zle_many 1 (123, (bif zcmp .eq v3 0 then 33 else 23), [zR 71, zI a1, zI a2, zI a3, zI a4, zI a5, zR 0, zR 0], [], F3, G3, zsg) rfl ?_
      refine zle_eq (fun _ => ?_) (fun _ => ?_)
      · refine zle_many 1 (123, 35, [zR 71, zI a1, zI a2, zI a3, zI a4, zI a5, zR 0, zR 0], [zI (-5)], F3, G3, zsg) rfl ?_
        exact zle_ret rfl
      · refine zle_many 3 (123, 27, [zR 71, zI a1, zI a2, zI a3, zI a4, zI a5, zR 0, zR 0], [zI 3, zI 0, zI a5], F3, G3, zsg) rfl ?_
        refine zle_I rfl (fun v4 F4 G4 => ?_)
        refine zle_many 1 (123, (bif zcmp .ne v4 0 then 36 else 33), [zR 71, zI a1, zI a2, zI a3, zI a4, zI a5, zR 0, zR 0], [], F4, G4, zsg) rfl ?_
        refine zle_ne (fun _ => ?_) (fun _ => ?_)
        · refine zle_many 1 (123, 35, [zR 71, zI a1, zI a2, zI a3, zI a4, zI a5, zR 0, zR 0], [zI (-5)], F4, G4, zsg) rfl ?_
          exact zle_ret rfl
        · refine zle_many 3 (123, 42, [zR 71, zI a1, zI a2, zI a3, zI a4, zI a5, zR 0, zR 0], [zI a5, zR 96], F4, G4, zsg) rfl ?_
          refine zle_ald rfl rfl rfl (fun _ => ?_)
          refine zle_many 2 (123, (bif zcmp .ne (F4 96 (Int.toNat a5)) (-1) then 50 else 47), [zR 71, zI a1, zI a2, zI a3, zI a4, zI a5, zR 0, zR 0], [], F4, G4, zsg) rfl ?_
          refine zle_ne (fun _ => ?_) (fun _ => ?_)
          · refine zle_many 1 (123, 49, [zR 71, zI a1, zI a2, zI a3, zI a4, zI a5, zR 0, zR 0], [zI (-11)], F4, G4, zsg) rfl ?_
            exact zle_ret rfl
          · refine zle_many 3 (123, 56, [zR 71, zI a1, zI a2, zI a3, zI a4, zI a5, zR 0, zR 0], [zI a5, zR 97], F4, G4, zsg) rfl ?_
            refine zle_ald rfl rfl rfl (fun _ => ?_)
            refine zle_many 2 (123, (bif zcmp .gt (F4 97 (Int.toNat a5)) 5 then 77 else 61), [zR 71, zI a1, zI a2, zI a3, zI a4, zI a5, zR 0, zR 0], [], F4, G4, zsg) rfl ?_
            refine zle_gt (fun _ => ?_) (fun _ => ?_)
            · refine zle_many 4 (123, 83, [zR 71, zI a1, zI a2, zI a3, zI a4, zI a5, zI 0, zI 0], [], F4, G4, zsg) rfl ?_
              exact zle_rfl
            · refine zle_many 3 (123, 67, [zR 71, zI a1, zI a2, zI a3, zI a4, zI a5, zR 0, zR 0], [zI 255, zI 0, zI a4], F4, G4, zsg) rfl ?_
              refine zle_I rfl (fun v5 F5 G5 => ?_)
              refine zle_many 1 (123, (bif zcmp .eq v5 0 then 77 else 73), [zR 71, zI a1, zI a2, zI a3, zI a4, zI a5, zR 0, zR 0], [], F5, G5, zsg) rfl ?_
              refine zle_eq (fun _ => ?_) (fun _ => ?_)
              · refine zle_many 4 (123, 83, [zR 71, zI a1, zI a2, zI a3, zI a4, zI a5, zI 0, zI 0], [], F5, G5, zsg) rfl ?_
                exact zle_rfl
              · refine zle_many 5 (123, 83, [zR 71, zI a1, zI a2, zI a3, zI a4, zI a5, zI 1, zI 0], [], F5, G5, zsg) rfl ?_
                exact zle_rfl
set_option maxRecDepth 20000 in
theorem g_M_plan_83 {d : Nat} {F : zM} {G : zG} (l1 : Int) (l2 : Int) (l3 : Int) (l4 : Int) (l5 : Int) (l6 : Int) (l7 : Int) : zle (
  if 0 ≤ l5 ∧ l5 < 4 then
  if l7 < (F 97 (Int.toNat l5)) then
    if l6 = 0 then
      if l6 = 0 then
        some (some (zI (-2)), F, G, zsg)
      else
        if 0 ≤ (zadd 0 l2) ∧ (zadd 0 l2) < 43 then
          if (F 72 (Int.toNat (zadd 0 l2))) = l3 then
            some (some (zI 0), (zup (zup (zup (zup F 71 19 0) 71 32 0) 71 23 (-1)) 71 23 0), G, zsg)
          else
            if 0 ≤ (zadd 30 l1) ∧ (zadd 30 l1) < 43 then
              if (F 72 (Int.toNat (zadd 30 l1))) = (-1) then
                if 0 ≤ (zadd 8 l2) ∧ (zadd 8 l2) < 43 then
                  if (F 72 (Int.toNat (zadd 8 l2))) = (-1) then
                    zbV (zex d 122 [zR 71, zI l1, zI l2, zI l3, zI l4, zI l5, zI 0] ((zup (zup (zup (zup (zup F 71 19 0) 71 32 0) 71 23 (-1)) 71 44 (-1)) 71 47 0), G, zsg)) (fun F3 G3 =>
                      if (F3 71 23) = (-1) then
                        zbV (zex d 122 [zR 71, zI l1, zI l2, zI l3, zI l4, zI l5, zI 1] (F3, G3, zsg)) (fun F4 G4 =>
                        if (F4 71 23) = (-1) then
                        some (some (zI (-3)), F4, G4, zsg)
                      else
                        some (some (zI (F4 71 19)), F4, G4, zsg))
                      else
                        if (F3 71 23) = (-1) then
                        some (some (zI (-3)), F3, G3, zsg)
                      else
                        some (some (zI (F3 71 19)), F3, G3, zsg))
                  else
                    some (some (zI (-6)), (zup (zup (zup F 71 19 0) 71 32 0) 71 23 (-1)), G, zsg)
                else none
              else
                some (some (zI (-6)), (zup (zup (zup F 71 19 0) 71 32 0) 71 23 (-1)), G, zsg)
            else none
        else none
    else
      if 0 ≤ (zadd (zmul 40 l5) l7) ∧ (zadd (zmul 40 l5) l7) < 160 then
        zbI (zex d 50 [zI (F 98 (Int.toNat (zadd (zmul 40 l5) l7)))] (F, G, zsg)) (fun v5 F5 G5 =>
          zev zX0 d (123, 83, [zR 71, zI l1, zI l2, zI l3, zI l4, zI l5, zI v5, zI (zadd l7 1)], [], F5, G5, zsg))
      else none
  else
    if l6 = 0 then
      some (some (zI (-2)), F, G, zsg)
    else
      if 0 ≤ (zadd 0 l2) ∧ (zadd 0 l2) < 43 then
        if (F 72 (Int.toNat (zadd 0 l2))) = l3 then
          some (some (zI 0), (zup (zup (zup (zup F 71 19 0) 71 32 0) 71 23 (-1)) 71 23 0), G, zsg)
        else
          if 0 ≤ (zadd 30 l1) ∧ (zadd 30 l1) < 43 then
            if (F 72 (Int.toNat (zadd 30 l1))) = (-1) then
              if 0 ≤ (zadd 8 l2) ∧ (zadd 8 l2) < 43 then
                if (F 72 (Int.toNat (zadd 8 l2))) = (-1) then
                  zbV (zex d 122 [zR 71, zI l1, zI l2, zI l3, zI l4, zI l5, zI 0] ((zup (zup (zup (zup (zup F 71 19 0) 71 32 0) 71 23 (-1)) 71 44 (-1)) 71 47 0), G, zsg)) (fun F1 G1 =>
                    if (F1 71 23) = (-1) then
                      zbV (zex d 122 [zR 71, zI l1, zI l2, zI l3, zI l4, zI l5, zI 1] (F1, G1, zsg)) (fun F2 G2 =>
                        if (F2 71 23) = (-1) then
                        some (some (zI (-3)), F2, G2, zsg)
                      else
                        some (some (zI (F2 71 19)), F2, G2, zsg))
                    else
                      if (F1 71 23) = (-1) then
                        some (some (zI (-3)), F1, G1, zsg)
                      else
                        some (some (zI (F1 71 19)), F1, G1, zsg))
                else
                  some (some (zI (-6)), (zup (zup (zup F 71 19 0) 71 32 0) 71 23 (-1)), G, zsg)
              else none
            else
              some (some (zI (-6)), (zup (zup (zup F 71 19 0) 71 32 0) 71 23 (-1)), G, zsg)
          else none
      else none
else none) (zev zX0 d (123, 83, [zR 71, zI l1, zI l2, zI l3, zI l4, zI l5, zI l6, zI l7], [], F, G, zsg)) := by
  refine zle_many 4 (123, 91, [zR 71, zI l1, zI l2, zI l3, zI l4, zI l5, zI l6, zI l7], [zI l5, zR 97, zI l7], F, G, zsg) rfl ?_
  refine zle_ald rfl rfl rfl (fun _ => ?_)
  refine zle_many 1 (123, (bif zcmp .ge l7 (F 97 (Int.toNat l5)) then 124 else 95), [zR 71, zI l1, zI l2, zI l3, zI l4, zI l5, zI l6, zI l7], [], F, G, zsg) rfl ?_
  refine zle_ge (fun _ => ?_) (fun _ => ?_)
  · refine zle_many 2 (123, (bif zcmp .eq l6 0 then 124 else 100), [zR 71, zI l1, zI l2, zI l3, zI l4, zI l5, zI l6, zI l7], [], F, G, zsg) rfl ?_
    refine zle_eq (fun _ => ?_) (fun _ => ?_)
    · refine zle_many 2 (123, (bif zcmp .ne l6 0 then 132 else 129), [zR 71, zI l1, zI l2, zI l3, zI l4, zI l5, zI l6, zI l7], [], F, G, zsg) rfl ?_
      refine zle_ne (fun _ => ?_) (fun _ => ?_)
      · refine zle_many 1 (123, 131, [zR 71, zI l1, zI l2, zI l3, zI l4, zI l5, zI l6, zI l7], [zI (-2)], F, G, zsg) rfl ?_
        exact zle_ret rfl
      · refine zle_many 14 (123, 154, [zR 71, zI l1, zI l2, zI l3, zI l4, zI l5, zI l6, zI l7], [zI (zadd 0 l2), zR 72], (zup (zup (zup F 71 19 0) 71 32 0) 71 23 (-1)), G, zsg) rfl ?_
        refine zle_ald rfl rfl rfl (fun _ => ?_)
        refine zle_many 0 (123, 155, [zR 71, zI l1, zI l2, zI l3, zI l4, zI l5, zI l6, zI l7], [zI (F 72 (Int.toNat (zadd 0 l2)))], (zup (zup (zup F 71 19 0) 71 32 0) 71 23 (-1)), G, zsg) rfl ?_
        refine zle_many 2 (123, (bif zcmp .ne (F 72 (Int.toNat (zadd 0 l2))) l3 then 166 else 159), [zR 71, zI l1, zI l2, zI l3, zI l4, zI l5, zI l6, zI l7], [], (zup (zup (zup F 71 19 0) 71 32 0) 71 23 (-1)), G, zsg) rfl ?_
        refine zle_ne (fun _ => ?_) (fun _ => ?_)
        · refine zle_many 4 (123, 165, [zR 71, zI l1, zI l2, zI l3, zI l4, zI l5, zI l6, zI l7], [zI 0], (zup (zup (zup (zup F 71 19 0) 71 32 0) 71 23 (-1)) 71 23 0), G, zsg) rfl ?_
          exact zle_ret rfl
        · refine zle_many 5 (123, 174, [zR 71, zI l1, zI l2, zI l3, zI l4, zI l5, zI l6, zI l7], [zI (zadd 30 l1), zR 72], (zup (zup (zup F 71 19 0) 71 32 0) 71 23 (-1)), G, zsg) rfl ?_
          refine zle_ald rfl rfl rfl (fun _ => ?_)
          refine zle_many 0 (123, 175, [zR 71, zI l1, zI l2, zI l3, zI l4, zI l5, zI l6, zI l7], [zI (F 72 (Int.toNat (zadd 30 l1)))], (zup (zup (zup F 71 19 0) 71 32 0) 71 23 (-1)), G, zsg) rfl ?_
          refine zle_many 2 (123, (bif zcmp .ne (F 72 (Int.toNat (zadd 30 l1))) (-1) then 192 else 179), [zR 71, zI l1, zI l2, zI l3, zI l4, zI l5, zI l6, zI l7], [], (zup (zup (zup F 71 19 0) 71 32 0) 71 23 (-1)), G, zsg) rfl ?_
          refine zle_ne (fun _ => ?_) (fun _ => ?_)
          · refine zle_many 5 (123, 187, [zR 71, zI l1, zI l2, zI l3, zI l4, zI l5, zI l6, zI l7], [zI (zadd 8 l2), zR 72], (zup (zup (zup F 71 19 0) 71 32 0) 71 23 (-1)), G, zsg) rfl ?_
            refine zle_ald rfl rfl rfl (fun _ => ?_)
            refine zle_many 0 (123, 188, [zR 71, zI l1, zI l2, zI l3, zI l4, zI l5, zI l6, zI l7], [zI (F 72 (Int.toNat (zadd 8 l2)))], (zup (zup (zup F 71 19 0) 71 32 0) 71 23 (-1)), G, zsg) rfl ?_
            refine zle_many 2 (123, (bif zcmp .eq (F 72 (Int.toNat (zadd 8 l2))) (-1) then 195 else 192), [zR 71, zI l1, zI l2, zI l3, zI l4, zI l5, zI l6, zI l7], [], (zup (zup (zup F 71 19 0) 71 32 0) 71 23 (-1)), G, zsg) rfl ?_
            refine zle_eq (fun _ => ?_) (fun _ => ?_)
            · refine zle_many 13 (123, 214, [zR 71, zI l1, zI l2, zI l3, zI l4, zI l5, zI l6, zI l7], [zI 0, zI l5, zI l4, zI l3, zI l2, zI l1, zR 71], (zup (zup (zup (zup (zup F 71 19 0) 71 32 0) 71 23 (-1)) 71 44 (-1)) 71 47 0), G, zsg) rfl ?_
              refine zle_V rfl (fun F3 G3 => ?_)
              refine zle_many 4 (123, (bif zcmp .ne (F3 71 23) (-1) then 237 else 225), [zR 71, zI l1, zI l2, zI l3, zI l4, zI l5, zI l6, zI l7], [], F3, G3, zsg) rfl ?_
              refine zle_ne (fun _ => ?_) (fun _ => ?_)
              · refine zle_many 7 (123, 234, [zR 71, zI l1, zI l2, zI l3, zI l4, zI l5, zI l6, zI l7], [zI 1, zI l5, zI l4, zI l3, zI l2, zI l1, zR 71], F3, G3, zsg) rfl ?_
                refine zle_V rfl (fun F4 G4 => ?_)
                refine zle_many 4 (123, (bif zcmp .ne (F4 71 23) (-1) then 250 else 245), [zR 71, zI l1, zI l2, zI l3, zI l4, zI l5, zI l6, zI l7], [], F4, G4, zsg) rfl ?_
                refine zle_ne (fun _ => ?_) (fun _ => ?_)
                · refine zle_many 2 (123, 254, [zR 71, zI l1, zI l2, zI l3, zI l4, zI l5, zI l6, zI l7], [zI (-3)], F4, G4, zsg) rfl ?_
                  exact zle_ret rfl
                · refine zle_many 2 (123, 254, [zR 71, zI l1, zI l2, zI l3, zI l4, zI l5, zI l6, zI l7], [zI (F4 71 19)], F4, G4, zsg) rfl ?_
                  exact zle_ret rfl
              · refine zle_many 4 (123, (bif zcmp .ne (F3 71 23) (-1) then 250 else 245), [zR 71, zI l1, zI l2, zI l3, zI l4, zI l5, zI l6, zI l7], [], F3, G3, zsg) rfl ?_
                refine zle_ne (fun _ => ?_) (fun _ => ?_)
                · refine zle_many 2 (123, 254, [zR 71, zI l1, zI l2, zI l3, zI l4, zI l5, zI l6, zI l7], [zI (-3)], F3, G3, zsg) rfl ?_
                  exact zle_ret rfl
                · refine zle_many 2 (123, 254, [zR 71, zI l1, zI l2, zI l3, zI l4, zI l5, zI l6, zI l7], [zI (F3 71 19)], F3, G3, zsg) rfl ?_
                  exact zle_ret rfl
            · refine zle_many 1 (123, 194, [zR 71, zI l1, zI l2, zI l3, zI l4, zI l5, zI l6, zI l7], [zI (-6)], (zup (zup (zup F 71 19 0) 71 32 0) 71 23 (-1)), G, zsg) rfl ?_
              exact zle_ret rfl
          · refine zle_many 1 (123, 194, [zR 71, zI l1, zI l2, zI l3, zI l4, zI l5, zI l6, zI l7], [zI (-6)], (zup (zup (zup F 71 19 0) 71 32 0) 71 23 (-1)), G, zsg) rfl ?_
            exact zle_ret rfl
    · refine zle_many 7 (123, 112, [zR 71, zI l1, zI l2, zI l3, zI l4, zI l5, zI l6, zI l7], [zI (zadd (zmul 40 l5) l7), zR 98], F, G, zsg) rfl ?_
      refine zle_ald rfl rfl rfl (fun _ => ?_)
      refine zle_I rfl (fun v5 F5 G5 => ?_)
      refine zle_many 3 (123, 83, [zR 71, zI l1, zI l2, zI l3, zI l4, zI l5, zI v5, zI (zadd l7 1)], [], F5, G5, zsg) rfl ?_
      exact zle_rfl
  · refine zle_many 2 (123, (bif zcmp .ne l6 0 then 132 else 129), [zR 71, zI l1, zI l2, zI l3, zI l4, zI l5, zI l6, zI l7], [], F, G, zsg) rfl ?_
    refine zle_ne (fun _ => ?_) (fun _ => ?_)
    · refine zle_many 1 (123, 131, [zR 71, zI l1, zI l2, zI l3, zI l4, zI l5, zI l6, zI l7], [zI (-2)], F, G, zsg) rfl ?_
      exact zle_ret rfl
    · refine zle_many 14 (123, 154, [zR 71, zI l1, zI l2, zI l3, zI l4, zI l5, zI l6, zI l7], [zI (zadd 0 l2), zR 72], (zup (zup (zup F 71 19 0) 71 32 0) 71 23 (-1)), G, zsg) rfl ?_
      refine zle_ald rfl rfl rfl (fun _ => ?_)
      refine zle_many 0 (123, 155, [zR 71, zI l1, zI l2, zI l3, zI l4, zI l5, zI l6, zI l7], [zI (F 72 (Int.toNat (zadd 0 l2)))], (zup (zup (zup F 71 19 0) 71 32 0) 71 23 (-1)), G, zsg) rfl ?_
      refine zle_many 2 (123, (bif zcmp .ne (F 72 (Int.toNat (zadd 0 l2))) l3 then 166 else 159), [zR 71, zI l1, zI l2, zI l3, zI l4, zI l5, zI l6, zI l7], [], (zup (zup (zup F 71 19 0) 71 32 0) 71 23 (-1)), G, zsg) rfl ?_
      refine zle_ne (fun _ => ?_) (fun _ => ?_)
      · refine zle_many 4 (123, 165, [zR 71, zI l1, zI l2, zI l3, zI l4, zI l5, zI l6, zI l7], [zI 0], (zup (zup (zup (zup F 71 19 0) 71 32 0) 71 23 (-1)) 71 23 0), G, zsg) rfl ?_
        exact zle_ret rfl
      · refine zle_many 5 (123, 174, [zR 71, zI l1, zI l2, zI l3, zI l4, zI l5, zI l6, zI l7], [zI (zadd 30 l1), zR 72], (zup (zup (zup F 71 19 0) 71 32 0) 71 23 (-1)), G, zsg) rfl ?_
        refine zle_ald rfl rfl rfl (fun _ => ?_)
        refine zle_many 0 (123, 175, [zR 71, zI l1, zI l2, zI l3, zI l4, zI l5, zI l6, zI l7], [zI (F 72 (Int.toNat (zadd 30 l1)))], (zup (zup (zup F 71 19 0) 71 32 0) 71 23 (-1)), G, zsg) rfl ?_
        refine zle_many 2 (123, (bif zcmp .ne (F 72 (Int.toNat (zadd 30 l1))) (-1) then 192 else 179), [zR 71, zI l1, zI l2, zI l3, zI l4, zI l5, zI l6, zI l7], [], (zup (zup (zup F 71 19 0) 71 32 0) 71 23 (-1)), G, zsg) rfl ?_
        refine zle_ne (fun _ => ?_) (fun _ => ?_)
        · refine zle_many 5 (123, 187, [zR 71, zI l1, zI l2, zI l3, zI l4, zI l5, zI l6, zI l7], [zI (zadd 8 l2), zR 72], (zup (zup (zup F 71 19 0) 71 32 0) 71 23 (-1)), G, zsg) rfl ?_
          refine zle_ald rfl rfl rfl (fun _ => ?_)
          refine zle_many 0 (123, 188, [zR 71, zI l1, zI l2, zI l3, zI l4, zI l5, zI l6, zI l7], [zI (F 72 (Int.toNat (zadd 8 l2)))], (zup (zup (zup F 71 19 0) 71 32 0) 71 23 (-1)), G, zsg) rfl ?_
          refine zle_many 2 (123, (bif zcmp .eq (F 72 (Int.toNat (zadd 8 l2))) (-1) then 195 else 192), [zR 71, zI l1, zI l2, zI l3, zI l4, zI l5, zI l6, zI l7], [], (zup (zup (zup F 71 19 0) 71 32 0) 71 23 (-1)), G, zsg) rfl ?_
          refine zle_eq (fun _ => ?_) (fun _ => ?_)
          · refine zle_many 13 (123, 214, [zR 71, zI l1, zI l2, zI l3, zI l4, zI l5, zI l6, zI l7], [zI 0, zI l5, zI l4, zI l3, zI l2, zI l1, zR 71], (zup (zup (zup (zup (zup F 71 19 0) 71 32 0) 71 23 (-1)) 71 44 (-1)) 71 47 0), G, zsg) rfl ?_
            refine zle_V rfl (fun F1 G1 => ?_)
            refine zle_many 4 (123, (bif zcmp .ne (F1 71 23) (-1) then 237 else 225), [zR 71, zI l1, zI l2, zI l3, zI l4, zI l5, zI l6, zI l7], [], F1, G1, zsg) rfl ?_
            refine zle_ne (fun _ => ?_) (fun _ => ?_)
            · refine zle_many 7 (123, 234, [zR 71, zI l1, zI l2, zI l3, zI l4, zI l5, zI l6, zI l7], [zI 1, zI l5, zI l4, zI l3, zI l2, zI l1, zR 71], F1, G1, zsg) rfl ?_
              refine zle_V rfl (fun F2 G2 => ?_)
              refine zle_many 4 (123, (bif zcmp .ne (F2 71 23) (-1) then 250 else 245), [zR 71, zI l1, zI l2, zI l3, zI l4, zI l5, zI l6, zI l7], [], F2, G2, zsg) rfl ?_
              refine zle_ne (fun _ => ?_) (fun _ => ?_)
              · refine zle_many 2 (123, 254, [zR 71, zI l1, zI l2, zI l3, zI l4, zI l5, zI l6, zI l7], [zI (-3)], F2, G2, zsg) rfl ?_
                exact zle_ret rfl
              · refine zle_many 2 (123, 254, [zR 71, zI l1, zI l2, zI l3, zI l4, zI l5, zI l6, zI l7], [zI (F2 71 19)], F2, G2, zsg) rfl ?_
                exact zle_ret rfl
            · refine zle_many 4 (123, (bif zcmp .ne (F1 71 23) (-1) then 250 else 245), [zR 71, zI l1, zI l2, zI l3, zI l4, zI l5, zI l6, zI l7], [], F1, G1, zsg) rfl ?_
              refine zle_ne (fun _ => ?_) (fun _ => ?_)
              · refine zle_many 2 (123, 254, [zR 71, zI l1, zI l2, zI l3, zI l4, zI l5, zI l6, zI l7], [zI (-3)], F1, G1, zsg) rfl ?_
                exact zle_ret rfl
              · refine zle_many 2 (123, 254, [zR 71, zI l1, zI l2, zI l3, zI l4, zI l5, zI l6, zI l7], [zI (F1 71 19)], F1, G1, zsg) rfl ?_
                exact zle_ret rfl
          · refine zle_many 1 (123, 194, [zR 71, zI l1, zI l2, zI l3, zI l4, zI l5, zI l6, zI l7], [zI (-6)], (zup (zup (zup F 71 19 0) 71 32 0) 71 23 (-1)), G, zsg) rfl ?_
            exact zle_ret rfl
        · refine zle_many 1 (123, 194, [zR 71, zI l1, zI l2, zI l3, zI l4, zI l5, zI l6, zI l7], [zI (-6)], (zup (zup (zup F 71 19 0) 71 32 0) 71 23 (-1)), G, zsg) rfl ?_
          exact zle_ret rfl
set_option maxRecDepth 20000 in
theorem g_M_planned {d : Nat} {F : zM} {G : zG} (a1 : Int) (a2 : Int) : zle (
  if a2 = 3 then
  if (F 71 23) = (-1) then
    some (some (zI (-3)), F, G, zsg)
  else
    some (some (zI (F 71 23)), F, G, zsg)
else
  zbI (zex d 49 [zI a1, zI 0, zI (zsub (F 71 19) 1)] (F, G, zsg)) (fun v1 F1 G1 =>
    if v1 = 0 then
      some (some (zI (-7)), F1, G1, zsg)
    else
      if a2 = 0 then
        if 0 ≤ a1 ∧ a1 < 2 then
          some (some (zI (F1 85 (Int.toNat a1))), F1, G1, zsg)
        else none
      else
        if a2 = 1 then
          if 0 ≤ a1 ∧ a1 < 2 then
            some (some (zI (F1 86 (Int.toNat a1))), F1, G1, zsg)
          else none
        else
          if a2 = 2 then
            if 0 ≤ a1 ∧ a1 < 2 then
              some (some (zI (F1 87 (Int.toNat a1))), F1, G1, zsg)
            else none
          else
            some (some (zI (-7)), F1, G1, zsg))) (zex (d + 1) 124 [zR 71, zI a1, zI a2] (F, G, zsg)) := by
  refine zle_ent (ls := [zR 71, zI a1, zI a2]) ?_
  refine zle_many 3 (124, (bif zcmp .ne a2 3 then 23 else 5), [zR 71, zI a1, zI a2], [], F, G, zsg) rfl ?_
  refine zle_ne (fun _ => ?_) (fun _ => ?_)
  · refine zle_many 4 (124, (bif zcmp .ne (F 71 23) (-1) then 18 else 13), [zR 71, zI a1, zI a2], [], F, G, zsg) rfl ?_
    refine zle_ne (fun _ => ?_) (fun _ => ?_)
    · refine zle_many 2 (124, 22, [zR 71, zI a1, zI a2], [zI (-3)], F, G, zsg) rfl ?_
      exact zle_ret rfl
    · refine zle_many 2 (124, 22, [zR 71, zI a1, zI a2], [zI (F 71 23)], F, G, zsg) rfl ?_
      exact zle_ret rfl
  · refine zle_many 6 (124, 31, [zR 71, zI a1, zI a2], [zI (zsub (F 71 19) 1), zI 0, zI a1], F, G, zsg) rfl ?_
    refine zle_I rfl (fun v1 F1 G1 => ?_)
    refine zle_many 1 (124, (bif zcmp .ne v1 0 then 40 else 37), [zR 71, zI a1, zI a2], [], F1, G1, zsg) rfl ?_
    refine zle_ne (fun _ => ?_) (fun _ => ?_)
    · refine zle_many 1 (124, 39, [zR 71, zI a1, zI a2], [zI (-7)], F1, G1, zsg) rfl ?_
      exact zle_ret rfl
    · refine zle_many 2 (124, (bif zcmp .ne a2 0 then 53 else 44), [zR 71, zI a1, zI a2], [], F1, G1, zsg) rfl ?_
      refine zle_ne (fun _ => ?_) (fun _ => ?_)
      · refine zle_many 3 (124, 49, [zR 71, zI a1, zI a2], [zI a1, zR 85], F1, G1, zsg) rfl ?_
        refine zle_ald rfl rfl rfl (fun _ => ?_)
        refine zle_many 1 (124, 83, [zR 71, zI a1, zI a2], [zI (F1 85 (Int.toNat a1))], F1, G1, zsg) rfl ?_
        exact zle_ret rfl
      · refine zle_many 3 (124, (bif zcmp .ne a2 1 then 67 else 58), [zR 71, zI a1, zI a2], [], F1, G1, zsg) rfl ?_
        refine zle_ne (fun _ => ?_) (fun _ => ?_)
        · refine zle_many 3 (124, 63, [zR 71, zI a1, zI a2], [zI a1, zR 86], F1, G1, zsg) rfl ?_
          refine zle_ald rfl rfl rfl (fun _ => ?_)
          refine zle_many 1 (124, 83, [zR 71, zI a1, zI a2], [zI (F1 86 (Int.toNat a1))], F1, G1, zsg) rfl ?_
          exact zle_ret rfl
        · refine zle_many 3 (124, (bif zcmp .ne a2 2 then 81 else 72), [zR 71, zI a1, zI a2], [], F1, G1, zsg) rfl ?_
          refine zle_ne (fun _ => ?_) (fun _ => ?_)
          · refine zle_many 3 (124, 77, [zR 71, zI a1, zI a2], [zI a1, zR 87], F1, G1, zsg) rfl ?_
            refine zle_ald rfl rfl rfl (fun _ => ?_)
            refine zle_many 1 (124, 83, [zR 71, zI a1, zI a2], [zI (F1 87 (Int.toNat a1))], F1, G1, zsg) rfl ?_
            exact zle_ret rfl
          · refine zle_many 1 (124, 83, [zR 71, zI a1, zI a2], [zI (-7)], F1, G1, zsg) rfl ?_
            exact zle_ret rfl
set_option maxRecDepth 20000 in
theorem g_M_learnt {d : Nat} {F : zM} {G : zG} (a1 : Int) : zle (
  if a1 = 0 then
  some (some (zI (F 71 24)), F, G, zsg)
else
  if a1 = 1 then
    some (some (zI (F 71 31)), F, G, zsg)
  else
    if a1 = 2 then
      some (some (zI (F 71 32)), F, G, zsg)
    else
      some (some (zI (-2)), F, G, zsg)) (zex (d + 1) 125 [zR 71, zI a1] (F, G, zsg)) := by
  refine zle_ent (ls := [zR 71, zI a1]) ?_
  refine zle_many 2 (125, (bif zcmp .ne a1 0 then 11 else 4), [zR 71, zI a1], [], F, G, zsg) rfl ?_
  refine zle_ne (fun _ => ?_) (fun _ => ?_)
  · refine zle_many 3 (125, 37, [zR 71, zI a1], [zI (F 71 24)], F, G, zsg) rfl ?_
    exact zle_ret rfl
  · refine zle_many 3 (125, (bif zcmp .ne a1 1 then 23 else 16), [zR 71, zI a1], [], F, G, zsg) rfl ?_
    refine zle_ne (fun _ => ?_) (fun _ => ?_)
    · refine zle_many 3 (125, 37, [zR 71, zI a1], [zI (F 71 31)], F, G, zsg) rfl ?_
      exact zle_ret rfl
    · refine zle_many 3 (125, (bif zcmp .ne a1 2 then 35 else 28), [zR 71, zI a1], [], F, G, zsg) rfl ?_
      refine zle_ne (fun _ => ?_) (fun _ => ?_)
      · refine zle_many 3 (125, 37, [zR 71, zI a1], [zI (F 71 32)], F, G, zsg) rfl ?_
        exact zle_ret rfl
      · refine zle_many 1 (125, 37, [zR 71, zI a1], [zI (-2)], F, G, zsg) rfl ?_
        exact zle_ret rfl
set_option maxRecDepth 20000 in
theorem g_M_maybe {d : Nat} {F : zM} {G : zG} (a1 : Int) (a2 : Int) (a3 : Int) : zle (
  zbI (zex d 51 [zR 71, zI a1] (F, G, zsg)) (fun v1 F1 G1 =>
  if v1 = 0 then
    some (some (zI (-1)), F1, G1, zsg)
  else
    zbI (zex d 50 [zI a2] (F1, G1, zsg)) (fun v2 F2 G2 =>
      if v2 = 0 then
        some (some (zI (-1)), F2, G2, zsg)
      else
        zbI (zex d 49 [zI a3, zI 1, zI 99] (F2, G2, zsg)) (fun v3 F3 G3 =>
          if v3 = 0 then
            some (some (zI (-2)), F3, G3, zsg)
          else
            if 0 < (F3 71 33) then
              if (F3 71 34) = a1 then
                if (F3 71 33) = 6 then
                  some (some (zI (-4)), F3, G3, zsg)
                else
                  if 0 ≤ (F3 71 33) ∧ (F3 71 33) < 6 then
                    if 0 ≤ (F3 71 33) ∧ (F3 71 33) < 6 then
                      some (some (zI (zsub (zadd (F3 71 33) 1) 1)), (zup (zup (zup (zup F3 71 34 a1) 94 (Int.toNat (F3 71 33)) a2) 95 (Int.toNat (F3 71 33)) a3) 71 33 (zadd (F3 71 33) 1)), G3, zsg)
                    else none
                  else none
              else
                some (some (zI (-3)), F3, G3, zsg)
            else
              if (F3 71 33) = 6 then
                some (some (zI (-4)), F3, G3, zsg)
              else
                if 0 ≤ (F3 71 33) ∧ (F3 71 33) < 6 then
                  if 0 ≤ (F3 71 33) ∧ (F3 71 33) < 6 then
                    some (some (zI (zsub (zadd (F3 71 33) 1) 1)), (zup (zup (zup (zup F3 71 34 a1) 94 (Int.toNat (F3 71 33)) a2) 95 (Int.toNat (F3 71 33)) a3) 71 33 (zadd (F3 71 33) 1)), G3, zsg)
                  else none
                else none)))) (zex (d + 1) 126 [zR 71, zI a1, zI a2, zI a3] (F, G, zsg)) := by
  refine zle_ent (ls := [zR 71, zI a1, zI a2, zI a3]) ?_
  refine zle_many 2 (126, 2, [zR 71, zI a1, zI a2, zI a3], [zI a1, zR 71], F, G, zsg) rfl ?_
  refine zle_I rfl (fun v1 F1 G1 => ?_)
  refine zle_many 1 (126, (bif zcmp .eq v1 0 then 15 else 8), [zR 71, zI a1, zI a2, zI a3], [], F1, G1, zsg) rfl ?_
  refine zle_eq (fun _ => ?_) (fun _ => ?_)
  · refine zle_many 1 (126, 16, [zR 71, zI a1, zI a2, zI a3], [zI (-1)], F1, G1, zsg) rfl ?_
    exact zle_ret rfl
  · refine zle_many 1 (126, 9, [zR 71, zI a1, zI a2, zI a3], [zI a2], F1, G1, zsg) rfl ?_
    refine zle_I rfl (fun v2 F2 G2 => ?_)
    refine zle_many 1 (126, (bif zcmp .ne v2 0 then 17 else 15), [zR 71, zI a1, zI a2, zI a3], [], F2, G2, zsg) rfl ?_
    refine zle_ne (fun _ => ?_) (fun _ => ?_)
    · refine zle_many 1 (126, 16, [zR 71, zI a1, zI a2, zI a3], [zI (-1)], F2, G2, zsg) rfl ?_
      exact zle_ret rfl
    · refine zle_many 3 (126, 21, [zR 71, zI a1, zI a2, zI a3], [zI 99, zI 1, zI a3], F2, G2, zsg) rfl ?_
      refine zle_I rfl (fun v3 F3 G3 => ?_)
      refine zle_many 1 (126, (bif zcmp .ne v3 0 then 30 else 27), [zR 71, zI a1, zI a2, zI a3], [], F3, G3, zsg) rfl ?_
      refine zle_ne (fun _ => ?_) (fun _ => ?_)
      · refine zle_many 1 (126, 29, [zR 71, zI a1, zI a2, zI a3], [zI (-2)], F3, G3, zsg) rfl ?_
        exact zle_ret rfl
      · refine zle_many 3 (126, (bif zcmp .le (F3 71 33) 0 then 48 else 37), [zR 71, zI a1, zI a2, zI a3], [], F3, G3, zsg) rfl ?_
        refine zle_le (fun _ => ?_) (fun _ => ?_)
        · refine zle_many 4 (126, (bif zcmp .eq (F3 71 34) a1 then 48 else 45), [zR 71, zI a1, zI a2, zI a3], [], F3, G3, zsg) rfl ?_
          refine zle_eq (fun _ => ?_) (fun _ => ?_)
          · refine zle_many 4 (126, (bif zcmp .ne (F3 71 33) 6 then 60 else 57), [zR 71, zI a1, zI a2, zI a3], [], F3, G3, zsg) rfl ?_
            refine zle_ne (fun _ => ?_) (fun _ => ?_)
            · refine zle_many 1 (126, 59, [zR 71, zI a1, zI a2, zI a3], [zI (-4)], F3, G3, zsg) rfl ?_
              exact zle_ret rfl
            · refine zle_many 8 (126, 74, [zR 71, zI a1, zI a2, zI a3], [zI a2, zI (F3 71 33), zR 94], (zup F3 71 34 a1), G3, zsg) rfl ?_
              refine zle_ast rfl rfl rfl (fun _ => ?_)
              refine zle_many 5 (126, 84, [zR 71, zI a1, zI a2, zI a3], [zI a3, zI (F3 71 33), zR 95], (zup (zup F3 71 34 a1) 94 (Int.toNat (F3 71 33)) a2), G3, zsg) rfl ?_
              refine zle_ast rfl rfl rfl (fun _ => ?_)
              refine zle_many 10 (126, 101, [zR 71, zI a1, zI a2, zI a3], [zI (zsub (zadd (F3 71 33) 1) 1)], (zup (zup (zup (zup F3 71 34 a1) 94 (Int.toNat (F3 71 33)) a2) 95 (Int.toNat (F3 71 33)) a3) 71 33 (zadd (F3 71 33) 1)), G3, zsg) rfl ?_
              exact zle_ret rfl
          · refine zle_many 1 (126, 47, [zR 71, zI a1, zI a2, zI a3], [zI (-3)], F3, G3, zsg) rfl ?_
            exact zle_ret rfl
        · refine zle_many 4 (126, (bif zcmp .ne (F3 71 33) 6 then 60 else 57), [zR 71, zI a1, zI a2, zI a3], [], F3, G3, zsg) rfl ?_
          refine zle_ne (fun _ => ?_) (fun _ => ?_)
          · refine zle_many 1 (126, 59, [zR 71, zI a1, zI a2, zI a3], [zI (-4)], F3, G3, zsg) rfl ?_
            exact zle_ret rfl
          · refine zle_many 8 (126, 74, [zR 71, zI a1, zI a2, zI a3], [zI a2, zI (F3 71 33), zR 94], (zup F3 71 34 a1), G3, zsg) rfl ?_
            refine zle_ast rfl rfl rfl (fun _ => ?_)
            refine zle_many 5 (126, 84, [zR 71, zI a1, zI a2, zI a3], [zI a3, zI (F3 71 33), zR 95], (zup (zup F3 71 34 a1) 94 (Int.toNat (F3 71 33)) a2), G3, zsg) rfl ?_
            refine zle_ast rfl rfl rfl (fun _ => ?_)
            refine zle_many 10 (126, 101, [zR 71, zI a1, zI a2, zI a3], [zI (zsub (zadd (F3 71 33) 1) 1)], (zup (zup (zup (zup F3 71 34 a1) 94 (Int.toNat (F3 71 33)) a2) 95 (Int.toNat (F3 71 33)) a3) 71 33 (zadd (F3 71 33) 1)), G3, zsg) rfl ?_
            exact zle_ret rfl
set_option maxRecDepth 20000 in
theorem g_M_sure {d : Nat} {F : zM} {G : zG}  : zle (
  some (some (zI (F 71 33)), (zup F 71 33 0), G, zsg)) (zex (d + 1) 127 [zR 71] (F, G, zsg)) := by
  refine zle_ent (ls := [zR 71, zR 0]) ?_
  refine zle_many 7 (127, 11, [zR 71, zI (F 71 33)], [zI (F 71 33)], (zup F 71 33 0), G, zsg) rfl ?_
  exact zle_ret rfl
set_option maxRecDepth 20000 in
theorem g_M_cases {d : Nat} {F : zM} {G : zG} (a1 : Int) (a2 : Int) (a3 : Int) : zle (
  zbI (zex d 52 [zI a1] (F, G, zsg)) (fun v1 F1 G1 =>
  if v1 = 0 then
    some (some (zI (-5)), F1, G1, zsg)
  else
    zbI (zex d 103 [zR 71, zI a2] (F1, G1, zsg)) (fun v2 F2 G2 =>
      if v2 = 0 then
        some (some (zI (-5)), F2, G2, zsg)
      else
        zbI (zex d 49 [zI a3, zI 0, zI 3] (F2, G2, zsg)) (fun v3 F3 G3 =>
          if v3 = 0 then
            some (some (zI (-2)), F3, G3, zsg)
          else
            zbV (zex d 107 [zR 71, zI 0] (F3, G3, zsg)) (fun F4 G4 =>
              zev zX0 d (128, 50, [zR 71, zI a1, zI a2, zI a3, zI 0, zI 0, zI 0, zI 0, zI 0, zR 0, zR 0], [], F4, G4, zsg)))))) (zex (d + 1) 128 [zR 71, zI a1, zI a2, zI a3] (F, G, zsg)) := by
  refine zle_ent (ls := [zR 71, zI a1, zI a2, zI a3, zR 0, zR 0, zR 0, zR 0, zR 0, zR 0, zR 0]) ?_
  refine zle_many 1 (128, 1, [zR 71, zI a1, zI a2, zI a3, zR 0, zR 0, zR 0, zR 0, zR 0, zR 0, zR 0], [zI a1], F, G, zsg) rfl ?_
  refine zle_I rfl (fun v1 F1 G1 => ?_)
  refine zle_many 1 (128, (bif zcmp .eq v1 0 then 15 else 7), [zR 71, zI a1, zI a2, zI a3, zR 0, zR 0, zR 0, zR 0, zR 0, zR 0, zR 0], [], F1, G1, zsg) rfl ?_
  refine zle_eq (fun _ => ?_) (fun _ => ?_)
  · refine zle_many 1 (128, 17, [zR 71, zI a1, zI a2, zI a3, zR 0, zR 0, zR 0, zR 0, zR 0, zR 0, zR 0], [zI (-5)], F1, G1, zsg) rfl ?_
    exact zle_ret rfl
  · refine zle_many 2 (128, 9, [zR 71, zI a1, zI a2, zI a3, zR 0, zR 0, zR 0, zR 0, zR 0, zR 0, zR 0], [zI a2, zR 71], F1, G1, zsg) rfl ?_
    refine zle_I rfl (fun v2 F2 G2 => ?_)
    refine zle_many 1 (128, (bif zcmp .ne v2 0 then 18 else 15), [zR 71, zI a1, zI a2, zI a3, zR 0, zR 0, zR 0, zR 0, zR 0, zR 0, zR 0], [], F2, G2, zsg) rfl ?_
    refine zle_ne (fun _ => ?_) (fun _ => ?_)
    · refine zle_many 1 (128, 17, [zR 71, zI a1, zI a2, zI a3, zR 0, zR 0, zR 0, zR 0, zR 0, zR 0, zR 0], [zI (-5)], F2, G2, zsg) rfl ?_
      exact zle_ret rfl
    · refine zle_many 3 (128, 21, [zR 71, zI a1, zI a2, zI a3, zR 0, zR 0, zR 0, zR 0, zR 0, zR 0, zR 0], [zI 3, zI 0, zI a3], F2, G2, zsg) rfl ?_
      refine zle_I rfl (fun v3 F3 G3 => ?_)
      refine zle_many 1 (128, (bif zcmp .ne v3 0 then 30 else 27), [zR 71, zI a1, zI a2, zI a3, zR 0, zR 0, zR 0, zR 0, zR 0, zR 0, zR 0], [], F3, G3, zsg) rfl ?_
      refine zle_ne (fun _ => ?_) (fun _ => ?_)
      · refine zle_many 1 (128, 29, [zR 71, zI a1, zI a2, zI a3, zR 0, zR 0, zR 0, zR 0, zR 0, zR 0, zR 0], [zI (-2)], F3, G3, zsg) rfl ?_
        exact zle_ret rfl
      · refine zle_many 10 (128, 44, [zR 71, zI a1, zI a2, zI a3, zI 0, zI 0, zI 0, zI 0, zR 0, zR 0, zR 0], [zI 0, zR 71], F3, G3, zsg) rfl ?_
        refine zle_V rfl (fun F4 G4 => ?_)
        refine zle_many 2 (128, 50, [zR 71, zI a1, zI a2, zI a3, zI 0, zI 0, zI 0, zI 0, zI 0, zR 0, zR 0], [], F4, G4, zsg) rfl ?_
        exact zle_rfl
set_option maxRecDepth 20000 in
theorem g_M_cases_50 {d : Nat} {F : zM} {G : zG} (l1 : Int) (l2 : Int) (l3 : Int) (l4 : Int) (l5 : Int) (l6 : Int) (l7 : Int) (l8 : Int) : zle (
  if l8 < (F 71 33) then
  if 0 ≤ l8 ∧ l8 < 6 then
    if 0 ≤ (zadd 8 (F 71 34)) ∧ (zadd 8 (F 71 34)) < 43 then
      if (F 72 (Int.toNat (zadd 8 (F 71 34)))) = (-1) then
        if 0 ≤ (F 71 34) ∧ (F 71 34) < 8 then
          if 0 ≤ l8 ∧ l8 < 6 then
            zbI (zex d 79 [zR 71, zI (F 71 34), zI (F 79 (Int.toNat (F 71 34))), zI (F 94 (Int.toNat l8))] (F, G, zsg)) (fun v1 F1 G1 =>
              if v1 = 0 then
                zev zX0 d (128, 50, [zR 71, zI l1, zI l2, zI l3, zI l4, zI l5, zI (zadd l6 (F 95 (Int.toNat l8))), zI l7, zI (zadd l8 1), zR 0, zR 0], [], F1, G1, zsg)
              else
                if 0 ≤ l8 ∧ l8 < 6 then
                  if 0 ≤ (zadd 0 (F1 71 34)) ∧ (zadd 0 (F1 71 34)) < 43 then
                    zbI (zex d 106 [zR 71, zI l1, zI l2] ((zup F1 72 (Int.toNat (zadd 0 (F1 71 34))) (F1 94 (Int.toNat l8))), G1, zsg)) (fun v2 F2 G2 =>
                      if v2 = (-1) then
                        if 0 ≤ l8 ∧ l8 < 6 then
                        if 0 ≤ (zadd 32 l1) ∧ (zadd 32 l1) < 43 then
                        if 0 ≤ (zadd 32 l1) ∧ (zadd 32 l1) < 43 then
                        if l7 < (zsub (F2 72 (Int.toNat (zadd 32 l1))) (F2 73 (Int.toNat (zadd 32 l1)))) then
                        zbV (zex d 107 [zR 71, zI 1] (F2, G2, zsg)) (fun F5 G5 =>
                        zev zX0 d (128, 50, [zR 71, zI l1, zI l2, zI l3, zI (zor l4 (zshl 1 l8)), zI (zadd l5 (F2 95 (Int.toNat l8))), zI (zadd l6 (F 95 (Int.toNat l8))), zI (zsub (F2 72 (Int.toNat (zadd 32 l1))) (F2 73 (Int.toNat (zadd 32 l1)))), zI (zadd l8 1), zR 0, zR 0], [], F5, G5, zsg))
                      else
                        zbV (zex d 107 [zR 71, zI 1] (F2, G2, zsg)) (fun F4 G4 =>
                        zev zX0 d (128, 50, [zR 71, zI l1, zI l2, zI l3, zI (zor l4 (zshl 1 l8)), zI (zadd l5 (F2 95 (Int.toNat l8))), zI (zadd l6 (F 95 (Int.toNat l8))), zI l7, zI (zadd l8 1), zR 0, zR 0], [], F4, G4, zsg))
                      else none
                      else none
                      else none
                      else
                        zbV (zex d 107 [zR 71, zI 1] (F2, G2, zsg)) (fun F3 G3 =>
                        zev zX0 d (128, 50, [zR 71, zI l1, zI l2, zI l3, zI l4, zI l5, zI (zadd l6 (F 95 (Int.toNat l8))), zI l7, zI (zadd l8 1), zR 0, zR 0], [], F3, G3, zsg)))
                  else none
                else none)
          else none
        else none
      else
        zev zX0 d (128, 50, [zR 71, zI l1, zI l2, zI l3, zI l4, zI l5, zI (zadd l6 (F 95 (Int.toNat l8))), zI l7, zI (zadd l8 1), zR 0, zR 0], [], F, G, zsg)
    else none
  else none
else
  zev zX0 d (128, 219, [zR 71, zI l1, zI l2, zI l3, zI l4, zI l5, zI l6, zI l7, zI l5, zI l6, zR 0], [], F, G, zsg)) (zev zX0 d (128, 50, [zR 71, zI l1, zI l2, zI l3, zI l4, zI l5, zI l6, zI l7, zI l8, zR 0, zR 0], [], F, G, zsg)) := by
  refine zle_many 4 (128, (bif zcmp .ge l8 (F 71 33) then 211 else 59), [zR 71, zI l1, zI l2, zI l3, zI l4, zI l5, zI l6, zI l7, zI l8, zR 0, zR 0], [], F, G, zsg) rfl ?_
  refine zle_ge (fun _ => ?_) (fun _ => ?_)
  · refine zle_many 4 (128, 67, [zR 71, zI l1, zI l2, zI l3, zI l4, zI l5, zI l6, zI l7, zI l8, zR 0, zR 0], [zI l8, zR 95, zI l6], F, G, zsg) rfl ?_
    refine zle_ald rfl rfl rfl (fun _ => ?_)
    refine zle_many 8 (128, 82, [zR 71, zI l1, zI l2, zI l3, zI l4, zI l5, zI (zadd l6 (F 95 (Int.toNat l8))), zI l7, zI l8, zR 0, zR 0], [zI (zadd 8 (F 71 34)), zR 72], F, G, zsg) rfl ?_
    refine zle_ald rfl rfl rfl (fun _ => ?_)
    refine zle_many 2 (128, (bif zcmp .ne (F 72 (Int.toNat (zadd 8 (F 71 34)))) (-1) then 205 else 87), [zR 71, zI l1, zI l2, zI l3, zI l4, zI l5, zI (zadd l6 (F 95 (Int.toNat l8))), zI l7, zI l8, zR 0, zR 0], [], F, G, zsg) rfl ?_
    refine zle_ne (fun _ => ?_) (fun _ => ?_)
    · refine zle_many 7 (128, 100, [zR 71, zI l1, zI l2, zI l3, zI l4, zI l5, zI (zadd l6 (F 95 (Int.toNat l8))), zI l7, zI l8, zR 0, zR 0], [zI (F 71 34), zR 79, zI (F 71 34), zR 71], F, G, zsg) rfl ?_
      refine zle_ald rfl rfl rfl (fun _ => ?_)
      refine zle_many 3 (128, 107, [zR 71, zI l1, zI l2, zI l3, zI l4, zI l5, zI (zadd l6 (F 95 (Int.toNat l8))), zI l7, zI l8, zR 0, zR 0], [zI l8, zR 94, zI (F 79 (Int.toNat (F 71 34))), zI (F 71 34), zR 71], F, G, zsg) rfl ?_
      refine zle_ald rfl rfl rfl (fun _ => ?_)
      refine zle_I rfl (fun v1 F1 G1 => ?_)
      refine zle_many 1 (128, (bif zcmp .eq v1 0 then 205 else 114), [zR 71, zI l1, zI l2, zI l3, zI l4, zI l5, zI (zadd l6 (F 95 (Int.toNat l8))), zI l7, zI l8, zR 0, zR 0], [], F1, G1, zsg) rfl ?_
      refine zle_eq (fun _ => ?_) (fun _ => ?_)
      · refine zle_many 2 (128, 50, [zR 71, zI l1, zI l2, zI l3, zI l4, zI l5, zI (zadd l6 (F 95 (Int.toNat l8))), zI l7, zI (zadd l8 1), zR 0, zR 0], [], F1, G1, zsg) rfl ?_
        exact zle_rfl
      · refine zle_many 9 (128, 130, [zR 71, zI l1, zI l2, zI l3, zI l4, zI l5, zI (zadd l6 (F 95 (Int.toNat l8))), zI l7, zI l8, zR 0, zR 0], [zI l8, zR 94, zI (zadd 0 (F1 71 34)), zR 72], F1, G1, zsg) rfl ?_
        refine zle_ald rfl rfl rfl (fun _ => ?_)
        refine zle_ast rfl rfl rfl (fun _ => ?_)
        refine zle_many 3 (128, 135, [zR 71, zI l1, zI l2, zI l3, zI l4, zI l5, zI (zadd l6 (F 95 (Int.toNat l8))), zI l7, zI l8, zR 0, zR 0], [zI l2, zI l1, zR 71], (zup F1 72 (Int.toNat (zadd 0 (F1 71 34))) (F1 94 (Int.toNat l8))), G1, zsg) rfl ?_
        refine zle_I rfl (fun v2 F2 G2 => ?_)
        refine zle_many 2 (128, (bif zcmp .ne v2 (-1) then 200 else 142), [zR 71, zI l1, zI l2, zI l3, zI l4, zI l5, zI (zadd l6 (F 95 (Int.toNat l8))), zI l7, zI l8, zR 0, zR 0], [], F2, G2, zsg) rfl ?_
        refine zle_ne (fun _ => ?_) (fun _ => ?_)
        · refine zle_many 10 (128, 159, [zR 71, zI l1, zI l2, zI l3, zI (zor l4 (zshl 1 l8)), zI l5, zI (zadd l6 (F 95 (Int.toNat l8))), zI l7, zI l8, zR 0, zR 0], [zI l8, zR 95, zI l5], F2, G2, zsg) rfl ?_
          refine zle_ald rfl rfl rfl (fun _ => ?_)
          refine zle_many 7 (128, 171, [zR 71, zI l1, zI l2, zI l3, zI (zor l4 (zshl 1 l8)), zI (zadd l5 (F2 95 (Int.toNat l8))), zI (zadd l6 (F 95 (Int.toNat l8))), zI l7, zI l8, zR 0, zR 0], [zI (zadd 32 l1), zR 72], F2, G2, zsg) rfl ?_
          refine zle_ald rfl rfl rfl (fun _ => ?_)
          refine zle_many 5 (128, 180, [zR 71, zI l1, zI l2, zI l3, zI (zor l4 (zshl 1 l8)), zI (zadd l5 (F2 95 (Int.toNat l8))), zI (zadd l6 (F 95 (Int.toNat l8))), zI l7, zI l8, zR 0, zR 0], [zI (zadd 32 l1), zR 73, zI (F2 72 (Int.toNat (zadd 32 l1)))], F2, G2, zsg) rfl ?_
          refine zle_ald rfl rfl rfl (fun _ => ?_)
          refine zle_many 5 (128, (bif zcmp .le (zsub (F2 72 (Int.toNat (zadd 32 l1))) (F2 73 (Int.toNat (zadd 32 l1)))) l7 then 196 else 191), [zR 71, zI l1, zI l2, zI l3, zI (zor l4 (zshl 1 l8)), zI (zadd l5 (F2 95 (Int.toNat l8))), zI (zadd l6 (F 95 (Int.toNat l8))), zI l7, zI l8, zI (zsub (F2 72 (Int.toNat (zadd 32 l1))) (F2 73 (Int.toNat (zadd 32 l1)))), zR 0], [], F2, G2, zsg) rfl ?_
          refine zle_le (fun _ => ?_) (fun _ => ?_)
          · refine zle_many 5 (128, 202, [zR 71, zI l1, zI l2, zI l3, zI (zor l4 (zshl 1 l8)), zI (zadd l5 (F2 95 (Int.toNat l8))), zI (zadd l6 (F 95 (Int.toNat l8))), zI (zsub (F2 72 (Int.toNat (zadd 32 l1))) (F2 73 (Int.toNat (zadd 32 l1)))), zI l8, zI (zsub (F2 72 (Int.toNat (zadd 32 l1))) (F2 73 (Int.toNat (zadd 32 l1)))), zR 0], [zI 1, zR 71], F2, G2, zsg) rfl ?_
            refine zle_V rfl (fun F5 G5 => ?_)
            refine zle_many 2 (128, 50, [zR 71, zI l1, zI l2, zI l3, zI (zor l4 (zshl 1 l8)), zI (zadd l5 (F2 95 (Int.toNat l8))), zI (zadd l6 (F 95 (Int.toNat l8))), zI (zsub (F2 72 (Int.toNat (zadd 32 l1))) (F2 73 (Int.toNat (zadd 32 l1)))), zI (zadd l8 1), zI (zsub (F2 72 (Int.toNat (zadd 32 l1))) (F2 73 (Int.toNat (zadd 32 l1)))), zR 0], [], F5, G5, zsg) rfl ?_
            exact zle_wk ⟨Or.inl rfl, Or.inl rfl, Or.inl rfl, Or.inl rfl, Or.inl rfl, Or.inl rfl, Or.inl rfl, Or.inl rfl, Or.inl rfl, Or.inr rfl, Or.inl rfl, trivial⟩
          · refine zle_many 4 (128, 202, [zR 71, zI l1, zI l2, zI l3, zI (zor l4 (zshl 1 l8)), zI (zadd l5 (F2 95 (Int.toNat l8))), zI (zadd l6 (F 95 (Int.toNat l8))), zI l7, zI l8, zI (zsub (F2 72 (Int.toNat (zadd 32 l1))) (F2 73 (Int.toNat (zadd 32 l1)))), zR 0], [zI 1, zR 71], F2, G2, zsg) rfl ?_
            refine zle_V rfl (fun F4 G4 => ?_)
            refine zle_many 2 (128, 50, [zR 71, zI l1, zI l2, zI l3, zI (zor l4 (zshl 1 l8)), zI (zadd l5 (F2 95 (Int.toNat l8))), zI (zadd l6 (F 95 (Int.toNat l8))), zI l7, zI (zadd l8 1), zI (zsub (F2 72 (Int.toNat (zadd 32 l1))) (F2 73 (Int.toNat (zadd 32 l1)))), zR 0], [], F4, G4, zsg) rfl ?_
            exact zle_wk ⟨Or.inl rfl, Or.inl rfl, Or.inl rfl, Or.inl rfl, Or.inl rfl, Or.inl rfl, Or.inl rfl, Or.inl rfl, Or.inl rfl, Or.inr rfl, Or.inl rfl, trivial⟩
        · refine zle_many 2 (128, 202, [zR 71, zI l1, zI l2, zI l3, zI l4, zI l5, zI (zadd l6 (F 95 (Int.toNat l8))), zI l7, zI l8, zR 0, zR 0], [zI 1, zR 71], F2, G2, zsg) rfl ?_
          refine zle_V rfl (fun F3 G3 => ?_)
          refine zle_many 2 (128, 50, [zR 71, zI l1, zI l2, zI l3, zI l4, zI l5, zI (zadd l6 (F 95 (Int.toNat l8))), zI l7, zI (zadd l8 1), zR 0, zR 0], [], F3, G3, zsg) rfl ?_
          exact zle_rfl
    · refine zle_many 2 (128, 50, [zR 71, zI l1, zI l2, zI l3, zI l4, zI l5, zI (zadd l6 (F 95 (Int.toNat l8))), zI l7, zI (zadd l8 1), zR 0, zR 0], [], F, G, zsg) rfl ?_
      exact zle_rfl
  · refine zle_many 4 (128, 219, [zR 71, zI l1, zI l2, zI l3, zI l4, zI l5, zI l6, zI l7, zI l5, zI l6, zR 0], [], F, G, zsg) rfl ?_
    exact zle_rfl
set_option maxRecDepth 20000 in
theorem g_M_cases_219 {d : Nat} {F : zM} {G : zG} (l1 : Int) (l2 : Int) (l3 : Int) (l4 : Int) (l5 : Int) (l6 : Int) (l7 : Int) (l8 : Int) (l9 : Int) : zle (
  if l9 = 0 then
  if l3 = 1 then
    if l6 = 0 then
      some (some (zI (zsub l3 1)), F, G, zsg)
    else
      if l3 = 1 then
        if l8 = 0 then none else
          some (some (zI (zdiv l5 l8)), F, G, zsg)
      else
        if l8 = 0 then none else
          some (some (zI (zdiv l6 l8)), F, G, zsg)
  else
    if l3 = 2 then
      if l6 = 0 then
        some (some (zI (zsub l3 1)), F, G, zsg)
      else
        if l3 = 1 then
          if l8 = 0 then none else
            some (some (zI (zdiv l5 l8)), F, G, zsg)
        else
          if l8 = 0 then none else
            some (some (zI (zdiv l6 l8)), F, G, zsg)
    else
      if l3 = 0 then
        some (some (zI l4), F, G, zsg)
      else
        some (some (zI l7), F, G, zsg)
else
  if l9 = 0 then none else
    zev zX0 d (128, 219, [zR 71, zI l1, zI l2, zI l3, zI l4, zI l5, zI l6, zI l7, zI l9, zI (zrem l8 l9), zR 0], [], F, G, zsg)) (zev zX0 d (128, 219, [zR 71, zI l1, zI l2, zI l3, zI l4, zI l5, zI l6, zI l7, zI l8, zI l9, zR 0], [], F, G, zsg)) := by
  refine zle_many 2 (128, (bif zcmp .eq l9 0 then 242 else 224), [zR 71, zI l1, zI l2, zI l3, zI l4, zI l5, zI l6, zI l7, zI l8, zI l9, zR 0], [], F, G, zsg) rfl ?_
  refine zle_eq (fun _ => ?_) (fun _ => ?_)
  · refine zle_many 3 (128, (bif zcmp .eq l3 1 then 252 else 247), [zR 71, zI l1, zI l2, zI l3, zI l4, zI l5, zI l6, zI l7, zI l8, zI l9, zR 0], [], F, G, zsg) rfl ?_
    refine zle_eq (fun _ => ?_) (fun _ => ?_)
    · refine zle_many 2 (128, (bif zcmp .ne l6 0 then 263 else 257), [zR 71, zI l1, zI l2, zI l3, zI l4, zI l5, zI l6, zI l7, zI l8, zI l9, zR 0], [], F, G, zsg) rfl ?_
      refine zle_ne (fun _ => ?_) (fun _ => ?_)
      · refine zle_many 4 (128, 278, [zR 71, zI l1, zI l2, zI l3, zI l4, zI l5, zI l6, zI l7, zI l8, zI l9, zR 0], [zI (zsub l3 1)], F, G, zsg) rfl ?_
        exact zle_ret rfl
      · refine zle_many 3 (128, (bif zcmp .ne l3 1 then 273 else 268), [zR 71, zI l1, zI l2, zI l3, zI l4, zI l5, zI l6, zI l7, zI l8, zI l9, zR 0], [], F, G, zsg) rfl ?_
        refine zle_ne (fun _ => ?_) (fun _ => ?_)
        · refine zle_many 3 (128, 277, [zR 71, zI l1, zI l2, zI l3, zI l4, zI l5, zI l6, zI l7, zI l8, zI l9, zR 0], [zI l8, zI l5], F, G, zsg) rfl ?_
          refine zle_div rfl (fun _ => ?_)
          exact zle_ret rfl
        · refine zle_many 2 (128, 277, [zR 71, zI l1, zI l2, zI l3, zI l4, zI l5, zI l6, zI l7, zI l8, zI l9, zR 0], [zI l8, zI l6], F, G, zsg) rfl ?_
          refine zle_div rfl (fun _ => ?_)
          exact zle_ret rfl
    · refine zle_many 3 (128, (bif zcmp .ne l3 2 then 279 else 252), [zR 71, zI l1, zI l2, zI l3, zI l4, zI l5, zI l6, zI l7, zI l8, zI l9, zR 0], [], F, G, zsg) rfl ?_
      refine zle_ne (fun _ => ?_) (fun _ => ?_)
      · refine zle_many 2 (128, (bif zcmp .ne l6 0 then 263 else 257), [zR 71, zI l1, zI l2, zI l3, zI l4, zI l5, zI l6, zI l7, zI l8, zI l9, zR 0], [], F, G, zsg) rfl ?_
        refine zle_ne (fun _ => ?_) (fun _ => ?_)
        · refine zle_many 4 (128, 278, [zR 71, zI l1, zI l2, zI l3, zI l4, zI l5, zI l6, zI l7, zI l8, zI l9, zR 0], [zI (zsub l3 1)], F, G, zsg) rfl ?_
          exact zle_ret rfl
        · refine zle_many 3 (128, (bif zcmp .ne l3 1 then 273 else 268), [zR 71, zI l1, zI l2, zI l3, zI l4, zI l5, zI l6, zI l7, zI l8, zI l9, zR 0], [], F, G, zsg) rfl ?_
          refine zle_ne (fun _ => ?_) (fun _ => ?_)
          · refine zle_many 3 (128, 277, [zR 71, zI l1, zI l2, zI l3, zI l4, zI l5, zI l6, zI l7, zI l8, zI l9, zR 0], [zI l8, zI l5], F, G, zsg) rfl ?_
            refine zle_div rfl (fun _ => ?_)
            exact zle_ret rfl
          · refine zle_many 2 (128, 277, [zR 71, zI l1, zI l2, zI l3, zI l4, zI l5, zI l6, zI l7, zI l8, zI l9, zR 0], [zI l8, zI l6], F, G, zsg) rfl ?_
            refine zle_div rfl (fun _ => ?_)
            exact zle_ret rfl
      · refine zle_many 2 (128, (bif zcmp .ne l3 0 then 288 else 283), [zR 71, zI l1, zI l2, zI l3, zI l4, zI l5, zI l6, zI l7, zI l8, zI l9, zR 0], [], F, G, zsg) rfl ?_
        refine zle_ne (fun _ => ?_) (fun _ => ?_)
        · refine zle_many 2 (128, 290, [zR 71, zI l1, zI l2, zI l3, zI l4, zI l5, zI l6, zI l7, zI l8, zI l9, zR 0], [zI l4], F, G, zsg) rfl ?_
          exact zle_ret rfl
        · refine zle_many 1 (128, 290, [zR 71, zI l1, zI l2, zI l3, zI l4, zI l5, zI l6, zI l7, zI l8, zI l9, zR 0], [zI l7], F, G, zsg) rfl ?_
          exact zle_ret rfl
  · refine zle_many 2 (128, 228, [zR 71, zI l1, zI l2, zI l3, zI l4, zI l5, zI l6, zI l7, zI l8, zI l9, zR 0], [zI l9, zI l8], F, G, zsg) rfl ?_
    refine zle_rem rfl (fun _ => ?_)
    refine zle_many 6 (128, 219, [zR 71, zI l1, zI l2, zI l3, zI l4, zI l5, zI l6, zI l7, zI l9, zI (zrem l8 l9), zI (zrem l8 l9)], [], F, G, zsg) rfl ?_
    exact zle_wk ⟨Or.inl rfl, Or.inl rfl, Or.inl rfl, Or.inl rfl, Or.inl rfl, Or.inl rfl, Or.inl rfl, Or.inl rfl, Or.inl rfl, Or.inl rfl, Or.inr rfl, trivial⟩
set_option maxRecDepth 20000 in
theorem g_M_image {d : Nat} {F : zM} {G : zG}  : zle (
  zev zX0 d (129, 2, [zR 71, zI 0], [], F, G, zsg)) (zex (d + 1) 129 [zR 71] (F, G, zsg)) := by
  refine zle_ent (ls := [zR 71, zR 0]) ?_
  refine zle_many 2 (129, 2, [zR 71, zI 0], [], F, G, zsg) rfl ?_
  exact zle_rfl
set_option maxRecDepth 20000 in
theorem g_M_image_2 {d : Nat} {F : zM} {G : zG} (l1 : Int) : zle (
  if l1 < 43 then
  if 0 ≤ l1 ∧ l1 < 43 then
    if 0 ≤ l1 ∧ l1 < 43 then
      zev zX0 d (129, 2, [zR 71, zI (zadd l1 1)], [], (zup F 74 (Int.toNat l1) (F 72 (Int.toNat l1))), G, zsg)
    else none
  else none
else
  some (some (zI (F 72 42)), (zup F 71 3 1), G, zsg)) (zev zX0 d (129, 2, [zR 71, zI l1], [], F, G, zsg)) := by
  refine zle_many 3 (129, (bif zcmp .ge l1 43 then 26 else 8), [zR 71, zI l1], [], F, G, zsg) rfl ?_
  refine zle_ge (fun _ => ?_) (fun _ => ?_)
  · refine zle_many 6 (129, 18, [zR 71, zI l1], [zI l1, zR 72, zI l1, zR 74], F, G, zsg) rfl ?_
    refine zle_ald rfl rfl rfl (fun _ => ?_)
    refine zle_ast rfl rfl rfl (fun _ => ?_)
    refine zle_many 2 (129, 2, [zR 71, zI (zadd l1 1)], [], (zup F 74 (Int.toNat l1) (F 72 (Int.toNat l1))), G, zsg) rfl ?_
    exact zle_rfl
  · refine zle_many 7 (129, 38, [zR 71, zI l1], [zI (F 72 42)], (zup F 71 3 1), G, zsg) rfl ?_
    exact zle_ret rfl
set_option maxRecDepth 20000 in
theorem g_M_back {d : Nat} {F : zM} {G : zG}  : zle (
  if (F 71 3) = 0 then
  some (some (zI (-3)), F, G, zsg)
else
  zev zX0 d (130, 12, [zR 71, zI 0], [], F, G, zsg)) (zex (d + 1) 130 [zR 71] (F, G, zsg)) := by
  refine zle_ent (ls := [zR 71, zR 0]) ?_
  refine zle_many 3 (130, (bif zcmp .ne (F 71 3) 0 then 10 else 7), [zR 71, zR 0], [], F, G, zsg) rfl ?_
  refine zle_ne (fun _ => ?_) (fun _ => ?_)
  · refine zle_many 1 (130, 9, [zR 71, zR 0], [zI (-3)], F, G, zsg) rfl ?_
    exact zle_ret rfl
  · refine zle_many 2 (130, 12, [zR 71, zI 0], [], F, G, zsg) rfl ?_
    exact zle_rfl
set_option maxRecDepth 20000 in
theorem g_M_back_12 {d : Nat} {F : zM} {G : zG} (l1 : Int) : zle (
  if l1 < 43 then
  if 0 ≤ l1 ∧ l1 < 43 then
    if 0 ≤ l1 ∧ l1 < 43 then
      zev zX0 d (130, 12, [zR 71, zI (zadd l1 1)], [], (zup F 72 (Int.toNat l1) (F 74 (Int.toNat l1))), G, zsg)
    else none
  else none
else
  some (some (zI (F 72 42)), F, G, zsg)) (zev zX0 d (130, 12, [zR 71, zI l1], [], F, G, zsg)) := by
  refine zle_many 3 (130, (bif zcmp .ge l1 43 then 36 else 18), [zR 71, zI l1], [], F, G, zsg) rfl ?_
  refine zle_ge (fun _ => ?_) (fun _ => ?_)
  · refine zle_many 6 (130, 28, [zR 71, zI l1], [zI l1, zR 74, zI l1, zR 72], F, G, zsg) rfl ?_
    refine zle_ald rfl rfl rfl (fun _ => ?_)
    refine zle_ast rfl rfl rfl (fun _ => ?_)
    refine zle_many 2 (130, 12, [zR 71, zI (zadd l1 1)], [], (zup F 72 (Int.toNat l1) (F 74 (Int.toNat l1))), G, zsg) rfl ?_
    exact zle_rfl
  · refine zle_many 4 (130, 43, [zR 71, zI l1], [zI (F 72 42)], F, G, zsg) rfl ?_
    exact zle_ret rfl
set_option maxRecDepth 20000 in
theorem g_M_sheet {d : Nat} {F : zM} {G : zG} (a1 : Int) (a2 : Int) (a3 : Int) : zle (
  zbI (zex d 49 [zI a1, zI 0, zI 3] (F, G, zsg)) (fun v1 F1 G1 =>
  if v1 = 0 then
    some (some (zI (-2)), F1, G1, zsg)
  else
    zbI (zex d 49 [zI a2, zI (-1), zI 2] (F1, G1, zsg)) (fun v2 F2 G2 =>
      if v2 = 0 then
        some (some (zI (-2)), F2, G2, zsg)
      else
        if a2 = (-1) then
          if a2 = (-1) then
            if 0 ≤ a1 ∧ a1 < 4 then
              if a2 = (-1) then
                if 0 ≤ a1 ∧ a1 < 4 then
                  zev zX0 d (131, 70, [zR 71, zI a1, zI a2, zI a3, zI 0], [], (zup (zup F2 96 (Int.toNat a1) a2) 97 (Int.toNat a1) 0), G2, zsg)
                else none
              else
                if 0 ≤ a1 ∧ a1 < 4 then
                  zev zX0 d (131, 70, [zR 71, zI a1, zI a2, zI a3, zI 0], [], (zup (zup F2 96 (Int.toNat a1) a2) 97 (Int.toNat a1) a3), G2, zsg)
                else none
            else none
          else
            if a3 < 0 then
              some (some (zI (-14)), F2, G2, zsg)
            else
              if 0 ≤ a1 ∧ a1 < 4 then
                if a2 = (-1) then
                  if 0 ≤ a1 ∧ a1 < 4 then
                    zev zX0 d (131, 70, [zR 71, zI a1, zI a2, zI a3, zI 0], [], (zup (zup F2 96 (Int.toNat a1) a2) 97 (Int.toNat a1) 0), G2, zsg)
                  else none
                else
                  if 0 ≤ a1 ∧ a1 < 4 then
                    zev zX0 d (131, 70, [zR 71, zI a1, zI a2, zI a3, zI 0], [], (zup (zup F2 96 (Int.toNat a1) a2) 97 (Int.toNat a1) a3), G2, zsg)
                  else none
              else none
        else
          if 40 < a3 then
            some (some (zI (-2)), F2, G2, zsg)
          else
            if a2 = (-1) then
              if 0 ≤ a1 ∧ a1 < 4 then
                if a2 = (-1) then
                  if 0 ≤ a1 ∧ a1 < 4 then
                    zev zX0 d (131, 70, [zR 71, zI a1, zI a2, zI a3, zI 0], [], (zup (zup F2 96 (Int.toNat a1) a2) 97 (Int.toNat a1) 0), G2, zsg)
                  else none
                else
                  if 0 ≤ a1 ∧ a1 < 4 then
                    zev zX0 d (131, 70, [zR 71, zI a1, zI a2, zI a3, zI 0], [], (zup (zup F2 96 (Int.toNat a1) a2) 97 (Int.toNat a1) a3), G2, zsg)
                  else none
              else none
            else
              if a3 < 0 then
                some (some (zI (-14)), F2, G2, zsg)
              else
                if 0 ≤ a1 ∧ a1 < 4 then
                  if a2 = (-1) then
                    if 0 ≤ a1 ∧ a1 < 4 then
                      zev zX0 d (131, 70, [zR 71, zI a1, zI a2, zI a3, zI 0], [], (zup (zup F2 96 (Int.toNat a1) a2) 97 (Int.toNat a1) 0), G2, zsg)
                    else none
                  else
                    if 0 ≤ a1 ∧ a1 < 4 then
                      zev zX0 d (131, 70, [zR 71, zI a1, zI a2, zI a3, zI 0], [], (zup (zup F2 96 (Int.toNat a1) a2) 97 (Int.toNat a1) a3), G2, zsg)
                    else none
                else none))) (zex (d + 1) 131 [zR 71, zI a1, zI a2, zI a3] (F, G, zsg)) := by
  refine zle_ent (ls := [zR 71, zI a1, zI a2, zI a3, zR 0]) ?_
  refine zle_many 3 (131, 3, [zR 71, zI a1, zI a2, zI a3, zR 0], [zI 3, zI 0, zI a1], F, G, zsg) rfl ?_
  refine zle_I rfl (fun v1 F1 G1 => ?_)
  refine zle_many 1 (131, (bif zcmp .eq v1 0 then 29 else 9), [zR 71, zI a1, zI a2, zI a3, zR 0], [], F1, G1, zsg) rfl ?_
  refine zle_eq (fun _ => ?_) (fun _ => ?_)
  · refine zle_many 1 (131, 31, [zR 71, zI a1, zI a2, zI a3, zR 0], [zI (-2)], F1, G1, zsg) rfl ?_
    exact zle_ret rfl
  · refine zle_many 3 (131, 12, [zR 71, zI a1, zI a2, zI a3, zR 0], [zI 2, zI (-1), zI a2], F1, G1, zsg) rfl ?_
    refine zle_I rfl (fun v2 F2 G2 => ?_)
    refine zle_many 1 (131, (bif zcmp .eq v2 0 then 29 else 18), [zR 71, zI a1, zI a2, zI a3, zR 0], [], F2, G2, zsg) rfl ?_
    refine zle_eq (fun _ => ?_) (fun _ => ?_)
    · refine zle_many 1 (131, 31, [zR 71, zI a1, zI a2, zI a3, zR 0], [zI (-2)], F2, G2, zsg) rfl ?_
      exact zle_ret rfl
    · refine zle_many 3 (131, (bif zcmp .eq a2 (-1) then 32 else 23), [zR 71, zI a1, zI a2, zI a3, zR 0], [], F2, G2, zsg) rfl ?_
      refine zle_eq (fun _ => ?_) (fun _ => ?_)
      · refine zle_many 3 (131, (bif zcmp .eq a2 (-1) then 44 else 37), [zR 71, zI a1, zI a2, zI a3, zR 0], [], F2, G2, zsg) rfl ?_
        refine zle_eq (fun _ => ?_) (fun _ => ?_)
        · refine zle_many 4 (131, 50, [zR 71, zI a1, zI a2, zI a3, zR 0], [zI a2, zI a1, zR 96], F2, G2, zsg) rfl ?_
          refine zle_ast rfl rfl rfl (fun _ => ?_)
          refine zle_many 6 (131, (bif zcmp .ne a2 (-1) then 65 else 61), [zR 71, zI a1, zI a2, zI a3, zR 0], [zI a1, zR 97], (zup F2 96 (Int.toNat a1) a2), G2, zsg) rfl ?_
          refine zle_ne (fun _ => ?_) (fun _ => ?_)
          · refine zle_many 2 (131, 66, [zR 71, zI a1, zI a2, zI a3, zR 0], [zI 0, zI a1, zR 97], (zup F2 96 (Int.toNat a1) a2), G2, zsg) rfl ?_
            refine zle_ast rfl rfl rfl (fun _ => ?_)
            refine zle_many 2 (131, 70, [zR 71, zI a1, zI a2, zI a3, zI 0], [], (zup (zup F2 96 (Int.toNat a1) a2) 97 (Int.toNat a1) 0), G2, zsg) rfl ?_
            exact zle_rfl
          · refine zle_many 1 (131, 66, [zR 71, zI a1, zI a2, zI a3, zR 0], [zI a3, zI a1, zR 97], (zup F2 96 (Int.toNat a1) a2), G2, zsg) rfl ?_
            refine zle_ast rfl rfl rfl (fun _ => ?_)
            refine zle_many 2 (131, 70, [zR 71, zI a1, zI a2, zI a3, zI 0], [], (zup (zup F2 96 (Int.toNat a1) a2) 97 (Int.toNat a1) a3), G2, zsg) rfl ?_
            exact zle_rfl
        · refine zle_many 2 (131, (bif zcmp .ge a3 0 then 44 else 41), [zR 71, zI a1, zI a2, zI a3, zR 0], [], F2, G2, zsg) rfl ?_
          refine zle_ge (fun _ => ?_) (fun _ => ?_)
          · refine zle_many 1 (131, 43, [zR 71, zI a1, zI a2, zI a3, zR 0], [zI (-14)], F2, G2, zsg) rfl ?_
            exact zle_ret rfl
          · refine zle_many 4 (131, 50, [zR 71, zI a1, zI a2, zI a3, zR 0], [zI a2, zI a1, zR 96], F2, G2, zsg) rfl ?_
            refine zle_ast rfl rfl rfl (fun _ => ?_)
            refine zle_many 6 (131, (bif zcmp .ne a2 (-1) then 65 else 61), [zR 71, zI a1, zI a2, zI a3, zR 0], [zI a1, zR 97], (zup F2 96 (Int.toNat a1) a2), G2, zsg) rfl ?_
            refine zle_ne (fun _ => ?_) (fun _ => ?_)
            · refine zle_many 2 (131, 66, [zR 71, zI a1, zI a2, zI a3, zR 0], [zI 0, zI a1, zR 97], (zup F2 96 (Int.toNat a1) a2), G2, zsg) rfl ?_
              refine zle_ast rfl rfl rfl (fun _ => ?_)
              refine zle_many 2 (131, 70, [zR 71, zI a1, zI a2, zI a3, zI 0], [], (zup (zup F2 96 (Int.toNat a1) a2) 97 (Int.toNat a1) 0), G2, zsg) rfl ?_
              exact zle_rfl
            · refine zle_many 1 (131, 66, [zR 71, zI a1, zI a2, zI a3, zR 0], [zI a3, zI a1, zR 97], (zup F2 96 (Int.toNat a1) a2), G2, zsg) rfl ?_
              refine zle_ast rfl rfl rfl (fun _ => ?_)
              refine zle_many 2 (131, 70, [zR 71, zI a1, zI a2, zI a3, zI 0], [], (zup (zup F2 96 (Int.toNat a1) a2) 97 (Int.toNat a1) a3), G2, zsg) rfl ?_
              exact zle_rfl
      · refine zle_many 3 (131, (bif zcmp .le a3 40 then 32 else 29), [zR 71, zI a1, zI a2, zI a3, zR 0], [], F2, G2, zsg) rfl ?_
        refine zle_le (fun _ => ?_) (fun _ => ?_)
        · refine zle_many 1 (131, 31, [zR 71, zI a1, zI a2, zI a3, zR 0], [zI (-2)], F2, G2, zsg) rfl ?_
          exact zle_ret rfl
        · refine zle_many 3 (131, (bif zcmp .eq a2 (-1) then 44 else 37), [zR 71, zI a1, zI a2, zI a3, zR 0], [], F2, G2, zsg) rfl ?_
          refine zle_eq (fun _ => ?_) (fun _ => ?_)
          · refine zle_many 4 (131, 50, [zR 71, zI a1, zI a2, zI a3, zR 0], [zI a2, zI a1, zR 96], F2, G2, zsg) rfl ?_
            refine zle_ast rfl rfl rfl (fun _ => ?_)
            refine zle_many 6 (131, (bif zcmp .ne a2 (-1) then 65 else 61), [zR 71, zI a1, zI a2, zI a3, zR 0], [zI a1, zR 97], (zup F2 96 (Int.toNat a1) a2), G2, zsg) rfl ?_
            refine zle_ne (fun _ => ?_) (fun _ => ?_)
            · refine zle_many 2 (131, 66, [zR 71, zI a1, zI a2, zI a3, zR 0], [zI 0, zI a1, zR 97], (zup F2 96 (Int.toNat a1) a2), G2, zsg) rfl ?_
              refine zle_ast rfl rfl rfl (fun _ => ?_)
              refine zle_many 2 (131, 70, [zR 71, zI a1, zI a2, zI a3, zI 0], [], (zup (zup F2 96 (Int.toNat a1) a2) 97 (Int.toNat a1) 0), G2, zsg) rfl ?_
              exact zle_rfl
            · refine zle_many 1 (131, 66, [zR 71, zI a1, zI a2, zI a3, zR 0], [zI a3, zI a1, zR 97], (zup F2 96 (Int.toNat a1) a2), G2, zsg) rfl ?_
              refine zle_ast rfl rfl rfl (fun _ => ?_)
              refine zle_many 2 (131, 70, [zR 71, zI a1, zI a2, zI a3, zI 0], [], (zup (zup F2 96 (Int.toNat a1) a2) 97 (Int.toNat a1) a3), G2, zsg) rfl ?_
              exact zle_rfl
          · refine zle_many 2 (131, (bif zcmp .ge a3 0 then 44 else 41), [zR 71, zI a1, zI a2, zI a3, zR 0], [], F2, G2, zsg) rfl ?_
            refine zle_ge (fun _ => ?_) (fun _ => ?_)
            · refine zle_many 1 (131, 43, [zR 71, zI a1, zI a2, zI a3, zR 0], [zI (-14)], F2, G2, zsg) rfl ?_
              exact zle_ret rfl
            · refine zle_many 4 (131, 50, [zR 71, zI a1, zI a2, zI a3, zR 0], [zI a2, zI a1, zR 96], F2, G2, zsg) rfl ?_
              refine zle_ast rfl rfl rfl (fun _ => ?_)
              refine zle_many 6 (131, (bif zcmp .ne a2 (-1) then 65 else 61), [zR 71, zI a1, zI a2, zI a3, zR 0], [zI a1, zR 97], (zup F2 96 (Int.toNat a1) a2), G2, zsg) rfl ?_
              refine zle_ne (fun _ => ?_) (fun _ => ?_)
              · refine zle_many 2 (131, 66, [zR 71, zI a1, zI a2, zI a3, zR 0], [zI 0, zI a1, zR 97], (zup F2 96 (Int.toNat a1) a2), G2, zsg) rfl ?_
                refine zle_ast rfl rfl rfl (fun _ => ?_)
                refine zle_many 2 (131, 70, [zR 71, zI a1, zI a2, zI a3, zI 0], [], (zup (zup F2 96 (Int.toNat a1) a2) 97 (Int.toNat a1) 0), G2, zsg) rfl ?_
                exact zle_rfl
              · refine zle_many 1 (131, 66, [zR 71, zI a1, zI a2, zI a3, zR 0], [zI a3, zI a1, zR 97], (zup F2 96 (Int.toNat a1) a2), G2, zsg) rfl ?_
                refine zle_ast rfl rfl rfl (fun _ => ?_)
                refine zle_many 2 (131, 70, [zR 71, zI a1, zI a2, zI a3, zI 0], [], (zup (zup F2 96 (Int.toNat a1) a2) 97 (Int.toNat a1) a3), G2, zsg) rfl ?_
                exact zle_rfl
set_option maxRecDepth 20000 in
theorem g_M_sheet_70 {d : Nat} {F : zM} {G : zG} (l1 : Int) (l2 : Int) (l3 : Int) (l4 : Int) : zle (
  if l4 < 40 then
  if 0 ≤ (zadd (zmul 40 l1) l4) ∧ (zadd (zmul 40 l1) l4) < 160 then
    zev zX0 d (131, 70, [zR 71, zI l1, zI l2, zI l3, zI (zadd l4 1)], [], (zup F 98 (Int.toNat (zadd (zmul 40 l1) l4)) 0), G, zsg)
  else none
else
  some (some (zI 1), F, G, zsg)) (zev zX0 d (131, 70, [zR 71, zI l1, zI l2, zI l3, zI l4], [], F, G, zsg)) := by
  refine zle_many 3 (131, (bif zcmp .ge l4 40 then 96 else 77), [zR 71, zI l1, zI l2, zI l3, zI l4], [], F, G, zsg) rfl ?_
  refine zle_ge (fun _ => ?_) (fun _ => ?_)
  · refine zle_many 8 (131, 89, [zR 71, zI l1, zI l2, zI l3, zI l4], [zI 0, zI (zadd (zmul 40 l1) l4), zR 98], F, G, zsg) rfl ?_
    refine zle_ast rfl rfl rfl (fun _ => ?_)
    refine zle_many 2 (131, 70, [zR 71, zI l1, zI l2, zI l3, zI (zadd l4 1)], [], (zup F 98 (Int.toNat (zadd (zmul 40 l1) l4)) 0), G, zsg) rfl ?_
    exact zle_rfl
  · refine zle_many 1 (131, 97, [zR 71, zI l1, zI l2, zI l3, zI l4], [zI 1], F, G, zsg) rfl ?_
    exact zle_ret rfl
set_option maxRecDepth 20000 in
theorem g_M_cell {d : Nat} {F : zM} {G : zG} (a1 : Int) (a2 : Int) (a3 : Int) : zle (
  zbI (zex d 49 [zI a1, zI 0, zI 3] (F, G, zsg)) (fun v1 F1 G1 =>
  if v1 = 0 then
    some (some (zI (-2)), F1, G1, zsg)
  else
    if 0 ≤ a1 ∧ a1 < 4 then
      if (F1 96 (Int.toNat a1)) = (-1) then
        some (some (zI (-11)), F1, G1, zsg)
      else
        if 0 ≤ a1 ∧ a1 < 4 then
          zbI (zex d 49 [zI a2, zI 0, zI (zsub (F1 97 (Int.toNat a1)) 1)] (F1, G1, zsg)) (fun v2 F2 G2 =>
            if v2 = 0 then
              some (some (zI (-12)), F2, G2, zsg)
            else
              if 0 ≤ a1 ∧ a1 < 4 then
                if (F2 96 (Int.toNat a1)) = 0 then
                  if 0 ≤ (zadd (zmul 40 a1) a2) ∧ (zadd (zmul 40 a1) a2) < 160 then
                    some (some (zI 1), (zup F2 98 (Int.toNat (zadd (zmul 40 a1) a2)) (zi2b a3)), G2, zsg)
                  else none
                else
                  if 0 ≤ a1 ∧ a1 < 4 then
                    if (F2 96 (Int.toNat a1)) = 1 then
                      if 0 ≤ (zadd (zmul 40 a1) a2) ∧ (zadd (zmul 40 a1) a2) < 160 then
                        some (some (zI 1), (zup F2 98 (Int.toNat (zadd (zmul 40 a1) a2)) (zi2s a3)), G2, zsg)
                      else none
                    else
                      if 0 ≤ (zadd (zmul 40 a1) a2) ∧ (zadd (zmul 40 a1) a2) < 160 then
                        some (some (zI 1), (zup F2 98 (Int.toNat (zadd (zmul 40 a1) a2)) a3), G2, zsg)
                      else none
                  else none
              else none)
        else none
    else none)) (zex (d + 1) 132 [zR 71, zI a1, zI a2, zI a3] (F, G, zsg)) := by
  refine zle_ent (ls := [zR 71, zI a1, zI a2, zI a3]) ?_
  refine zle_many 3 (132, 3, [zR 71, zI a1, zI a2, zI a3], [zI 3, zI 0, zI a1], F, G, zsg) rfl ?_
  refine zle_I rfl (fun v1 F1 G1 => ?_)
  refine zle_many 1 (132, (bif zcmp .ne v1 0 then 12 else 9), [zR 71, zI a1, zI a2, zI a3], [], F1, G1, zsg) rfl ?_
  refine zle_ne (fun _ => ?_) (fun _ => ?_)
  · refine zle_many 1 (132, 11, [zR 71, zI a1, zI a2, zI a3], [zI (-2)], F1, G1, zsg) rfl ?_
    exact zle_ret rfl
  · refine zle_many 3 (132, 17, [zR 71, zI a1, zI a2, zI a3], [zI a1, zR 96], F1, G1, zsg) rfl ?_
    refine zle_ald rfl rfl rfl (fun _ => ?_)
    refine zle_many 2 (132, (bif zcmp .ne (F1 96 (Int.toNat a1)) (-1) then 25 else 22), [zR 71, zI a1, zI a2, zI a3], [], F1, G1, zsg) rfl ?_
    refine zle_ne (fun _ => ?_) (fun _ => ?_)
    · refine zle_many 1 (132, 24, [zR 71, zI a1, zI a2, zI a3], [zI (-11)], F1, G1, zsg) rfl ?_
      exact zle_ret rfl
    · refine zle_many 5 (132, 32, [zR 71, zI a1, zI a2, zI a3], [zI a1, zR 97, zI 0, zI a2], F1, G1, zsg) rfl ?_
      refine zle_ald rfl rfl rfl (fun _ => ?_)
      refine zle_many 2 (132, 35, [zR 71, zI a1, zI a2, zI a3], [zI (zsub (F1 97 (Int.toNat a1)) 1), zI 0, zI a2], F1, G1, zsg) rfl ?_
      refine zle_I rfl (fun v2 F2 G2 => ?_)
      refine zle_many 1 (132, (bif zcmp .ne v2 0 then 44 else 41), [zR 71, zI a1, zI a2, zI a3], [], F2, G2, zsg) rfl ?_
      refine zle_ne (fun _ => ?_) (fun _ => ?_)
      · refine zle_many 1 (132, 43, [zR 71, zI a1, zI a2, zI a3], [zI (-12)], F2, G2, zsg) rfl ?_
        exact zle_ret rfl
      · refine zle_many 10 (132, 59, [zR 71, zI a1, zI a2, zI a3], [zI a1, zR 96, zI (zadd (zmul 40 a1) a2), zR 98], F2, G2, zsg) rfl ?_
        refine zle_ald rfl rfl rfl (fun _ => ?_)
        refine zle_many 1 (132, (bif zcmp .ne (F2 96 (Int.toNat a1)) 0 then 68 else 63), [zR 71, zI a1, zI a2, zI a3], [zI (zadd (zmul 40 a1) a2), zR 98], F2, G2, zsg) rfl ?_
        refine zle_ne (fun _ => ?_) (fun _ => ?_)
        · refine zle_many 3 (132, 84, [zR 71, zI a1, zI a2, zI a3], [zI (zi2b a3), zI (zadd (zmul 40 a1) a2), zR 98], F2, G2, zsg) rfl ?_
          refine zle_ast rfl rfl rfl (fun _ => ?_)
          refine zle_many 1 (132, 86, [zR 71, zI a1, zI a2, zI a3], [zI 1], (zup F2 98 (Int.toNat (zadd (zmul 40 a1) a2)) (zi2b a3)), G2, zsg) rfl ?_
          exact zle_ret rfl
        · refine zle_many 3 (132, 73, [zR 71, zI a1, zI a2, zI a3], [zI a1, zR 96, zI (zadd (zmul 40 a1) a2), zR 98], F2, G2, zsg) rfl ?_
          refine zle_ald rfl rfl rfl (fun _ => ?_)
          refine zle_many 2 (132, (bif zcmp .ne (F2 96 (Int.toNat a1)) 1 then 83 else 78), [zR 71, zI a1, zI a2, zI a3], [zI (zadd (zmul 40 a1) a2), zR 98], F2, G2, zsg) rfl ?_
          refine zle_ne (fun _ => ?_) (fun _ => ?_)
          · refine zle_many 3 (132, 84, [zR 71, zI a1, zI a2, zI a3], [zI (zi2s a3), zI (zadd (zmul 40 a1) a2), zR 98], F2, G2, zsg) rfl ?_
            refine zle_ast rfl rfl rfl (fun _ => ?_)
            refine zle_many 1 (132, 86, [zR 71, zI a1, zI a2, zI a3], [zI 1], (zup F2 98 (Int.toNat (zadd (zmul 40 a1) a2)) (zi2s a3)), G2, zsg) rfl ?_
            exact zle_ret rfl
          · refine zle_many 1 (132, 84, [zR 71, zI a1, zI a2, zI a3], [zI a3, zI (zadd (zmul 40 a1) a2), zR 98], F2, G2, zsg) rfl ?_
            refine zle_ast rfl rfl rfl (fun _ => ?_)
            refine zle_many 1 (132, 86, [zR 71, zI a1, zI a2, zI a3], [zI 1], (zup F2 98 (Int.toNat (zadd (zmul 40 a1) a2)) a3), G2, zsg) rfl ?_
            exact zle_ret rfl
set_option maxRecDepth 20000 in
theorem g_M_copy {d : Nat} {F : zM} {G : zG} (a1 : Int) (a2 : Int) (a3 : Int) (a4 : Int) (a5 : Int) : zle (
  zbI (zex d 49 [zI a1, zI 0, zI 3] (F, G, zsg)) (fun v1 F1 G1 =>
  if v1 = 0 then
    some (some (zI (-2)), F1, G1, zsg)
  else
    zbI (zex d 49 [zI a3, zI 0, zI 3] (F1, G1, zsg)) (fun v2 F2 G2 =>
      if v2 = 0 then
        some (some (zI (-2)), F2, G2, zsg)
      else
        if 0 ≤ a1 ∧ a1 < 4 then
          if (F2 96 (Int.toNat a1)) = (-1) then
            some (some (zI (-11)), F2, G2, zsg)
          else
            if 0 ≤ a3 ∧ a3 < 4 then
              if (F2 96 (Int.toNat a3)) = (-1) then
                some (some (zI (-11)), F2, G2, zsg)
              else
                if 0 ≤ a1 ∧ a1 < 4 then
                  if 0 ≤ a3 ∧ a3 < 4 then
                    if (F2 96 (Int.toNat a1)) = (F2 96 (Int.toNat a3)) then
                      if a5 < 0 then
                        some (some (zI (-12)), F2, G2, zsg)
                      else
                        if a2 < 0 then
                        some (some (zI (-12)), F2, G2, zsg)
                      else
                        if a4 < 0 then
                        some (some (zI (-12)), F2, G2, zsg)
                      else
                        if 0 ≤ a1 ∧ a1 < 4 then
                        if (F2 97 (Int.toNat a1)) < a2 then
                        some (some (zI (-12)), F2, G2, zsg)
                      else
                        if 0 ≤ a3 ∧ a3 < 4 then
                        if (F2 97 (Int.toNat a3)) < a4 then
                        some (some (zI (-12)), F2, G2, zsg)
                      else
                        if 0 ≤ a1 ∧ a1 < 4 then
                        if (zsub (F2 97 (Int.toNat a1)) a2) < a5 then
                        some (some (zI (-12)), F2, G2, zsg)
                      else
                        if 0 ≤ a3 ∧ a3 < 4 then
                        if (zsub (F2 97 (Int.toNat a3)) a4) < a5 then
                        some (some (zI (-12)), F2, G2, zsg)
                      else
                        zev zX0 d (133, 147, [zR 71, zI a1, zI a2, zI a3, zI a4, zI a5, zI (zadd (zmul 40 a1) a2), zI (zadd (zmul 40 a3) a4), zI 0, zR 0], [], F2, G2, zsg)
                      else none
                      else none
                      else none
                      else none
                    else
                      some (some (zI (-13)), F2, G2, zsg)
                  else none
                else none
            else none
        else none))) (zex (d + 1) 133 [zR 71, zI a1, zI a2, zI a3, zI a4, zI a5] (F, G, zsg)) := by
  refine zle_ent (ls := [zR 71, zI a1, zI a2, zI a3, zI a4, zI a5, zR 0, zR 0, zR 0, zR 0]) ?_
  refine zle_many 3 (133, 3, [zR 71, zI a1, zI a2, zI a3, zI a4, zI a5, zR 0, zR 0, zR 0, zR 0], [zI 3, zI 0, zI a1], F, G, zsg) rfl ?_
  refine zle_I rfl (fun v1 F1 G1 => ?_)
  refine zle_many 1 (133, (bif zcmp .eq v1 0 then 18 else 9), [zR 71, zI a1, zI a2, zI a3, zI a4, zI a5, zR 0, zR 0, zR 0, zR 0], [], F1, G1, zsg) rfl ?_
  refine zle_eq (fun _ => ?_) (fun _ => ?_)
  · refine zle_many 1 (133, 20, [zR 71, zI a1, zI a2, zI a3, zI a4, zI a5, zR 0, zR 0, zR 0, zR 0], [zI (-2)], F1, G1, zsg) rfl ?_
    exact zle_ret rfl
  · refine zle_many 3 (133, 12, [zR 71, zI a1, zI a2, zI a3, zI a4, zI a5, zR 0, zR 0, zR 0, zR 0], [zI 3, zI 0, zI a3], F1, G1, zsg) rfl ?_
    refine zle_I rfl (fun v2 F2 G2 => ?_)
    refine zle_many 1 (133, (bif zcmp .ne v2 0 then 21 else 18), [zR 71, zI a1, zI a2, zI a3, zI a4, zI a5, zR 0, zR 0, zR 0, zR 0], [], F2, G2, zsg) rfl ?_
    refine zle_ne (fun _ => ?_) (fun _ => ?_)
    · refine zle_many 1 (133, 20, [zR 71, zI a1, zI a2, zI a3, zI a4, zI a5, zR 0, zR 0, zR 0, zR 0], [zI (-2)], F2, G2, zsg) rfl ?_
      exact zle_ret rfl
    · refine zle_many 3 (133, 26, [zR 71, zI a1, zI a2, zI a3, zI a4, zI a5, zR 0, zR 0, zR 0, zR 0], [zI a1, zR 96], F2, G2, zsg) rfl ?_
      refine zle_ald rfl rfl rfl (fun _ => ?_)
      refine zle_many 2 (133, (bif zcmp .eq (F2 96 (Int.toNat a1)) (-1) then 41 else 31), [zR 71, zI a1, zI a2, zI a3, zI a4, zI a5, zR 0, zR 0, zR 0, zR 0], [], F2, G2, zsg) rfl ?_
      refine zle_eq (fun _ => ?_) (fun _ => ?_)
      · refine zle_many 1 (133, 43, [zR 71, zI a1, zI a2, zI a3, zI a4, zI a5, zR 0, zR 0, zR 0, zR 0], [zI (-11)], F2, G2, zsg) rfl ?_
        exact zle_ret rfl
      · refine zle_many 3 (133, 36, [zR 71, zI a1, zI a2, zI a3, zI a4, zI a5, zR 0, zR 0, zR 0, zR 0], [zI a3, zR 96], F2, G2, zsg) rfl ?_
        refine zle_ald rfl rfl rfl (fun _ => ?_)
        refine zle_many 2 (133, (bif zcmp .ne (F2 96 (Int.toNat a3)) (-1) then 44 else 41), [zR 71, zI a1, zI a2, zI a3, zI a4, zI a5, zR 0, zR 0, zR 0, zR 0], [], F2, G2, zsg) rfl ?_
        refine zle_ne (fun _ => ?_) (fun _ => ?_)
        · refine zle_many 1 (133, 43, [zR 71, zI a1, zI a2, zI a3, zI a4, zI a5, zR 0, zR 0, zR 0, zR 0], [zI (-11)], F2, G2, zsg) rfl ?_
          exact zle_ret rfl
        · refine zle_many 3 (133, 49, [zR 71, zI a1, zI a2, zI a3, zI a4, zI a5, zR 0, zR 0, zR 0, zR 0], [zI a1, zR 96], F2, G2, zsg) rfl ?_
          refine zle_ald rfl rfl rfl (fun _ => ?_)
          refine zle_many 3 (133, 55, [zR 71, zI a1, zI a2, zI a3, zI a4, zI a5, zR 0, zR 0, zR 0, zR 0], [zI a3, zR 96, zI (F2 96 (Int.toNat a1))], F2, G2, zsg) rfl ?_
          refine zle_ald rfl rfl rfl (fun _ => ?_)
          refine zle_many 1 (133, (bif zcmp .eq (F2 96 (Int.toNat a1)) (F2 96 (Int.toNat a3)) then 62 else 59), [zR 71, zI a1, zI a2, zI a3, zI a4, zI a5, zR 0, zR 0, zR 0, zR 0], [], F2, G2, zsg) rfl ?_
          refine zle_eq (fun _ => ?_) (fun _ => ?_)
          · refine zle_many 2 (133, (bif zcmp .lt a5 0 then 124 else 67), [zR 71, zI a1, zI a2, zI a3, zI a4, zI a5, zR 0, zR 0, zR 0, zR 0], [], F2, G2, zsg) rfl ?_
            refine zle_lt (fun _ => ?_) (fun _ => ?_)
            · refine zle_many 1 (133, 126, [zR 71, zI a1, zI a2, zI a3, zI a4, zI a5, zR 0, zR 0, zR 0, zR 0], [zI (-12)], F2, G2, zsg) rfl ?_
              exact zle_ret rfl
            · refine zle_many 2 (133, (bif zcmp .lt a2 0 then 124 else 71), [zR 71, zI a1, zI a2, zI a3, zI a4, zI a5, zR 0, zR 0, zR 0, zR 0], [], F2, G2, zsg) rfl ?_
              refine zle_lt (fun _ => ?_) (fun _ => ?_)
              · refine zle_many 1 (133, 126, [zR 71, zI a1, zI a2, zI a3, zI a4, zI a5, zR 0, zR 0, zR 0, zR 0], [zI (-12)], F2, G2, zsg) rfl ?_
                exact zle_ret rfl
              · refine zle_many 2 (133, (bif zcmp .lt a4 0 then 124 else 76), [zR 71, zI a1, zI a2, zI a3, zI a4, zI a5, zR 0, zR 0, zR 0, zR 0], [], F2, G2, zsg) rfl ?_
                refine zle_lt (fun _ => ?_) (fun _ => ?_)
                · refine zle_many 1 (133, 126, [zR 71, zI a1, zI a2, zI a3, zI a4, zI a5, zR 0, zR 0, zR 0, zR 0], [zI (-12)], F2, G2, zsg) rfl ?_
                  exact zle_ret rfl
                · refine zle_many 4 (133, 82, [zR 71, zI a1, zI a2, zI a3, zI a4, zI a5, zR 0, zR 0, zR 0, zR 0], [zI a1, zR 97, zI a2], F2, G2, zsg) rfl ?_
                  refine zle_ald rfl rfl rfl (fun _ => ?_)
                  refine zle_many 1 (133, (bif zcmp .gt a2 (F2 97 (Int.toNat a1)) then 124 else 86), [zR 71, zI a1, zI a2, zI a3, zI a4, zI a5, zR 0, zR 0, zR 0, zR 0], [], F2, G2, zsg) rfl ?_
                  refine zle_gt (fun _ => ?_) (fun _ => ?_)
                  · refine zle_many 1 (133, 126, [zR 71, zI a1, zI a2, zI a3, zI a4, zI a5, zR 0, zR 0, zR 0, zR 0], [zI (-12)], F2, G2, zsg) rfl ?_
                    exact zle_ret rfl
                  · refine zle_many 4 (133, 93, [zR 71, zI a1, zI a2, zI a3, zI a4, zI a5, zR 0, zR 0, zR 0, zR 0], [zI a3, zR 97, zI a4], F2, G2, zsg) rfl ?_
                    refine zle_ald rfl rfl rfl (fun _ => ?_)
                    refine zle_many 1 (133, (bif zcmp .gt a4 (F2 97 (Int.toNat a3)) then 124 else 97), [zR 71, zI a1, zI a2, zI a3, zI a4, zI a5, zR 0, zR 0, zR 0, zR 0], [], F2, G2, zsg) rfl ?_
                    refine zle_gt (fun _ => ?_) (fun _ => ?_)
                    · refine zle_many 1 (133, 126, [zR 71, zI a1, zI a2, zI a3, zI a4, zI a5, zR 0, zR 0, zR 0, zR 0], [zI (-12)], F2, G2, zsg) rfl ?_
                      exact zle_ret rfl
                    · refine zle_many 4 (133, 104, [zR 71, zI a1, zI a2, zI a3, zI a4, zI a5, zR 0, zR 0, zR 0, zR 0], [zI a1, zR 97, zI a5], F2, G2, zsg) rfl ?_
                      refine zle_ald rfl rfl rfl (fun _ => ?_)
                      refine zle_many 3 (133, (bif zcmp .gt a5 (zsub (F2 97 (Int.toNat a1)) a2) then 124 else 110), [zR 71, zI a1, zI a2, zI a3, zI a4, zI a5, zR 0, zR 0, zR 0, zR 0], [], F2, G2, zsg) rfl ?_
                      refine zle_gt (fun _ => ?_) (fun _ => ?_)
                      · refine zle_many 1 (133, 126, [zR 71, zI a1, zI a2, zI a3, zI a4, zI a5, zR 0, zR 0, zR 0, zR 0], [zI (-12)], F2, G2, zsg) rfl ?_
                        exact zle_ret rfl
                      · refine zle_many 4 (133, 117, [zR 71, zI a1, zI a2, zI a3, zI a4, zI a5, zR 0, zR 0, zR 0, zR 0], [zI a3, zR 97, zI a5], F2, G2, zsg) rfl ?_
                        refine zle_ald rfl rfl rfl (fun _ => ?_)
                        refine zle_many 3 (133, (bif zcmp .le a5 (zsub (F2 97 (Int.toNat a3)) a4) then 127 else 124), [zR 71, zI a1, zI a2, zI a3, zI a4, zI a5, zR 0, zR 0, zR 0, zR 0], [], F2, G2, zsg) rfl ?_
                        refine zle_le (fun _ => ?_) (fun _ => ?_)
                        · refine zle_many 1 (133, 126, [zR 71, zI a1, zI a2, zI a3, zI a4, zI a5, zR 0, zR 0, zR 0, zR 0], [zI (-12)], F2, G2, zsg) rfl ?_
                          exact zle_ret rfl
                        · refine zle_many 14 (133, 147, [zR 71, zI a1, zI a2, zI a3, zI a4, zI a5, zI (zadd (zmul 40 a1) a2), zI (zadd (zmul 40 a3) a4), zI 0, zR 0], [], F2, G2, zsg) rfl ?_
                          exact zle_rfl
          · refine zle_many 1 (133, 61, [zR 71, zI a1, zI a2, zI a3, zI a4, zI a5, zR 0, zR 0, zR 0, zR 0], [zI (-13)], F2, G2, zsg) rfl ?_
            exact zle_ret rfl
set_option maxRecDepth 20000 in
theorem g_M_copy_147 {d : Nat} {F : zM} {G : zG} (l1 : Int) (l2 : Int) (l3 : Int) (l4 : Int) (l5 : Int) (l6 : Int) (l7 : Int) (l8 : Int) : zle (
  if l8 < l5 then
  if l6 < l7 then
    if 0 ≤ (zadd l6 (zsub (zsub l5 1) l8)) ∧ (zadd l6 (zsub (zsub l5 1) l8)) < 160 then
      if 0 ≤ (zadd l7 (zsub (zsub l5 1) l8)) ∧ (zadd l7 (zsub (zsub l5 1) l8)) < 160 then
        zev zX0 d (133, 147, [zR 71, zI l1, zI l2, zI l3, zI l4, zI l5, zI l6, zI l7, zI (zadd l8 1), zR 0], [], (zup F 98 (Int.toNat (zadd l7 (zsub (zsub l5 1) l8))) (F 98 (Int.toNat (zadd l6 (zsub (zsub l5 1) l8))))), G, zsg)
      else none
    else none
  else
    if 0 ≤ (zadd l6 l8) ∧ (zadd l6 l8) < 160 then
      if 0 ≤ (zadd l7 l8) ∧ (zadd l7 l8) < 160 then
        zev zX0 d (133, 147, [zR 71, zI l1, zI l2, zI l3, zI l4, zI l5, zI l6, zI l7, zI (zadd l8 1), zR 0], [], (zup F 98 (Int.toNat (zadd l7 l8)) (F 98 (Int.toNat (zadd l6 l8)))), G, zsg)
      else none
    else none
else
  some (some (zI l5), F, G, zsg)) (zev zX0 d (133, 147, [zR 71, zI l1, zI l2, zI l3, zI l4, zI l5, zI l6, zI l7, zI l8, zR 0], [], F, G, zsg)) := by
  refine zle_many 3 (133, (bif zcmp .ge l8 l5 then 201 else 154), [zR 71, zI l1, zI l2, zI l3, zI l4, zI l5, zI l6, zI l7, zI l8, zR 0], [], F, G, zsg) rfl ?_
  refine zle_ge (fun _ => ?_) (fun _ => ?_)
  · refine zle_many 3 (133, (bif zcmp .ge l6 l7 then 171 else 161), [zR 71, zI l1, zI l2, zI l3, zI l4, zI l5, zI l6, zI l7, zI l8, zR 0], [], F, G, zsg) rfl ?_
    refine zle_ge (fun _ => ?_) (fun _ => ?_)
    · refine zle_many 17 (133, 193, [zR 71, zI l1, zI l2, zI l3, zI l4, zI l5, zI l6, zI l7, zI l8, zI (zsub (zsub l5 1) l8)], [zI (zadd l6 (zsub (zsub l5 1) l8)), zR 98, zI (zadd l7 (zsub (zsub l5 1) l8)), zR 98], F, G, zsg) rfl ?_
      refine zle_ald rfl rfl rfl (fun _ => ?_)
      refine zle_ast rfl rfl rfl (fun _ => ?_)
      refine zle_many 2 (133, 147, [zR 71, zI l1, zI l2, zI l3, zI l4, zI l5, zI l6, zI l7, zI (zadd l8 1), zI (zsub (zsub l5 1) l8)], [], (zup F 98 (Int.toNat (zadd l7 (zsub (zsub l5 1) l8))) (F 98 (Int.toNat (zadd l6 (zsub (zsub l5 1) l8))))), G, zsg) rfl ?_
      exact zle_wk ⟨Or.inl rfl, Or.inl rfl, Or.inl rfl, Or.inl rfl, Or.inl rfl, Or.inl rfl, Or.inl rfl, Or.inl rfl, Or.inl rfl, Or.inr rfl, trivial⟩
    · refine zle_many 12 (133, 193, [zR 71, zI l1, zI l2, zI l3, zI l4, zI l5, zI l6, zI l7, zI l8, zI l8], [zI (zadd l6 l8), zR 98, zI (zadd l7 l8), zR 98], F, G, zsg) rfl ?_
      refine zle_ald rfl rfl rfl (fun _ => ?_)
      refine zle_ast rfl rfl rfl (fun _ => ?_)
      refine zle_many 2 (133, 147, [zR 71, zI l1, zI l2, zI l3, zI l4, zI l5, zI l6, zI l7, zI (zadd l8 1), zI l8], [], (zup F 98 (Int.toNat (zadd l7 l8)) (F 98 (Int.toNat (zadd l6 l8)))), G, zsg) rfl ?_
      exact zle_wk ⟨Or.inl rfl, Or.inl rfl, Or.inl rfl, Or.inl rfl, Or.inl rfl, Or.inl rfl, Or.inl rfl, Or.inl rfl, Or.inl rfl, Or.inr rfl, trivial⟩
  · refine zle_many 1 (133, 203, [zR 71, zI l1, zI l2, zI l3, zI l4, zI l5, zI l6, zI l7, zI l8, zR 0], [zI l5], F, G, zsg) rfl ?_
    exact zle_ret rfl
set_option maxRecDepth 20000 in
theorem g_M_walls {d : Nat} {F : zM} {G : zG} (a1 : Int) (a2 : Int) (a3 : Int) (a4 : Int) : zle (
  zbI (zex d 49 [zI a1, zI 0, zI 3] (F, G, zsg)) (fun v1 F1 G1 =>
  if v1 = 0 then
    some (some (zI (-2)), F1, G1, zsg)
  else
    zbI (zex d 49 [zI a2, zI 0, zI 2] (F1, G1, zsg)) (fun v2 F2 G2 =>
      if v2 = 0 then
        some (some (zI (-2)), F2, G2, zsg)
      else
        zbI (zex d 49 [zI a4, zI 0, zI 40] (F2, G2, zsg)) (fun v3 F3 G3 =>
          if v3 = 0 then
            some (some (zI (-2)), F3, G3, zsg)
          else
            if 0 ≤ a1 ∧ a1 < 4 then
              if (F3 96 (Int.toNat a1)) = (-1) then
                some (some (zI (-11)), F3, G3, zsg)
              else
                if 0 ≤ a1 ∧ a1 < 4 then
                  if (F3 96 (Int.toNat a1)) = a2 then
                    zev zX0 d (134, 64, [zR 71, zI a1, zI a2, zI a3, zI a4, zI 0, zI 0, zR 0, zR 0], [], F3, G3, zsg)
                  else
                    some (some (zI (-13)), F3, G3, zsg)
                else none
            else none)))) (zex (d + 1) 134 [zR 71, zI a1, zI a2, zI a3, zI a4] (F, G, zsg)) := by
  refine zle_ent (ls := [zR 71, zI a1, zI a2, zI a3, zI a4, zR 0, zR 0, zR 0, zR 0]) ?_
  refine zle_many 3 (134, 3, [zR 71, zI a1, zI a2, zI a3, zI a4, zR 0, zR 0, zR 0, zR 0], [zI 3, zI 0, zI a1], F, G, zsg) rfl ?_
  refine zle_I rfl (fun v1 F1 G1 => ?_)
  refine zle_many 1 (134, (bif zcmp .eq v1 0 then 29 else 9), [zR 71, zI a1, zI a2, zI a3, zI a4, zR 0, zR 0, zR 0, zR 0], [], F1, G1, zsg) rfl ?_
  refine zle_eq (fun _ => ?_) (fun _ => ?_)
  · refine zle_many 1 (134, 31, [zR 71, zI a1, zI a2, zI a3, zI a4, zR 0, zR 0, zR 0, zR 0], [zI (-2)], F1, G1, zsg) rfl ?_
    exact zle_ret rfl
  · refine zle_many 3 (134, 12, [zR 71, zI a1, zI a2, zI a3, zI a4, zR 0, zR 0, zR 0, zR 0], [zI 2, zI 0, zI a2], F1, G1, zsg) rfl ?_
    refine zle_I rfl (fun v2 F2 G2 => ?_)
    refine zle_many 1 (134, (bif zcmp .eq v2 0 then 29 else 18), [zR 71, zI a1, zI a2, zI a3, zI a4, zR 0, zR 0, zR 0, zR 0], [], F2, G2, zsg) rfl ?_
    refine zle_eq (fun _ => ?_) (fun _ => ?_)
    · refine zle_many 1 (134, 31, [zR 71, zI a1, zI a2, zI a3, zI a4, zR 0, zR 0, zR 0, zR 0], [zI (-2)], F2, G2, zsg) rfl ?_
      exact zle_ret rfl
    · refine zle_many 3 (134, 23, [zR 71, zI a1, zI a2, zI a3, zI a4, zR 0, zR 0, zR 0, zR 0], [zI 40, zI 0, zI a4], F2, G2, zsg) rfl ?_
      refine zle_I rfl (fun v3 F3 G3 => ?_)
      refine zle_many 1 (134, (bif zcmp .ne v3 0 then 32 else 29), [zR 71, zI a1, zI a2, zI a3, zI a4, zR 0, zR 0, zR 0, zR 0], [], F3, G3, zsg) rfl ?_
      refine zle_ne (fun _ => ?_) (fun _ => ?_)
      · refine zle_many 1 (134, 31, [zR 71, zI a1, zI a2, zI a3, zI a4, zR 0, zR 0, zR 0, zR 0], [zI (-2)], F3, G3, zsg) rfl ?_
        exact zle_ret rfl
      · refine zle_many 3 (134, 37, [zR 71, zI a1, zI a2, zI a3, zI a4, zR 0, zR 0, zR 0, zR 0], [zI a1, zR 96], F3, G3, zsg) rfl ?_
        refine zle_ald rfl rfl rfl (fun _ => ?_)
        refine zle_many 2 (134, (bif zcmp .ne (F3 96 (Int.toNat a1)) (-1) then 45 else 42), [zR 71, zI a1, zI a2, zI a3, zI a4, zR 0, zR 0, zR 0, zR 0], [], F3, G3, zsg) rfl ?_
        refine zle_ne (fun _ => ?_) (fun _ => ?_)
        · refine zle_many 1 (134, 44, [zR 71, zI a1, zI a2, zI a3, zI a4, zR 0, zR 0, zR 0, zR 0], [zI (-11)], F3, G3, zsg) rfl ?_
          exact zle_ret rfl
        · refine zle_many 3 (134, 50, [zR 71, zI a1, zI a2, zI a3, zI a4, zR 0, zR 0, zR 0, zR 0], [zI a1, zR 96], F3, G3, zsg) rfl ?_
          refine zle_ald rfl rfl rfl (fun _ => ?_)
          refine zle_many 2 (134, (bif zcmp .eq (F3 96 (Int.toNat a1)) a2 then 58 else 55), [zR 71, zI a1, zI a2, zI a3, zI a4, zR 0, zR 0, zR 0, zR 0], [], F3, G3, zsg) rfl ?_
          refine zle_eq (fun _ => ?_) (fun _ => ?_)
          · refine zle_many 4 (134, 64, [zR 71, zI a1, zI a2, zI a3, zI a4, zI 0, zI 0, zR 0, zR 0], [], F3, G3, zsg) rfl ?_
            exact zle_rfl
          · refine zle_many 1 (134, 57, [zR 71, zI a1, zI a2, zI a3, zI a4, zR 0, zR 0, zR 0, zR 0], [zI (-13)], F3, G3, zsg) rfl ?_
            exact zle_ret rfl
set_option maxRecDepth 20000 in
theorem g_M_walls_64 {d : Nat} {F : zM} {G : zG} (l1 : Int) (l2 : Int) (l3 : Int) (l4 : Int) (l5 : Int) (l6 : Int) : zle (
  if l6 < l4 then
  if l3 < 0 then
    some (some (zI (-12)), F, G, zsg)
  else
    if (zadd l3 (zmul 1 l6)) < l3 then
      some (some (zI (-12)), F, G, zsg)
    else
      if 0 ≤ l1 ∧ l1 < 4 then
        if (zsub (F 97 (Int.toNat l1)) 1) < (zadd l3 (zmul 1 l6)) then
          some (some (zI (-12)), F, G, zsg)
        else
          if 0 ≤ (zadd (zmul 40 l1) (zadd l3 (zmul 1 l6))) ∧ (zadd (zmul 40 l1) (zadd l3 (zmul 1 l6))) < 160 then
            zbI (zex d 77 [zR 71, zI (F 98 (Int.toNat (zadd (zmul 40 l1) (zadd l3 (zmul 1 l6))))), zI 1] (F, G, zsg)) (fun v1 F1 G1 =>
              if v1 < 0 then
                zev zX0 d (134, 64, [zR 71, zI l1, zI l2, zI l3, zI l4, zI (zadd l5 0), zI (zadd l6 1), zR 0, zR 0], [], F1, G1, zsg)
              else
                zev zX0 d (134, 64, [zR 71, zI l1, zI l2, zI l3, zI l4, zI (zadd l5 1), zI (zadd l6 1), zR 0, zR 0], [], F1, G1, zsg))
          else none
      else none
else
  some (some (zI l5), F, G, zsg)) (zev zX0 d (134, 64, [zR 71, zI l1, zI l2, zI l3, zI l4, zI l5, zI l6, zR 0, zR 0], [], F, G, zsg)) := by
  refine zle_many 3 (134, (bif zcmp .ge l6 l4 then 145 else 71), [zR 71, zI l1, zI l2, zI l3, zI l4, zI l5, zI l6, zR 0, zR 0], [], F, G, zsg) rfl ?_
  refine zle_ge (fun _ => ?_) (fun _ => ?_)
  · refine zle_many 8 (134, (bif zcmp .lt l3 0 then 102 else 83), [zR 71, zI l1, zI l2, zI l3, zI l4, zI l5, zI l6, zI (zadd l3 (zmul 1 l6)), zR 0], [], F, G, zsg) rfl ?_
    refine zle_lt (fun _ => ?_) (fun _ => ?_)
    · refine zle_many 1 (134, 104, [zR 71, zI l1, zI l2, zI l3, zI l4, zI l5, zI l6, zI (zadd l3 (zmul 1 l6)), zR 0], [zI (-12)], F, G, zsg) rfl ?_
      exact zle_ret rfl
    · refine zle_many 3 (134, (bif zcmp .lt (zadd l3 (zmul 1 l6)) l3 then 102 else 89), [zR 71, zI l1, zI l2, zI l3, zI l4, zI l5, zI l6, zI (zadd l3 (zmul 1 l6)), zR 0], [], F, G, zsg) rfl ?_
      refine zle_lt (fun _ => ?_) (fun _ => ?_)
      · refine zle_many 1 (134, 104, [zR 71, zI l1, zI l2, zI l3, zI l4, zI l5, zI l6, zI (zadd l3 (zmul 1 l6)), zR 0], [zI (-12)], F, G, zsg) rfl ?_
        exact zle_ret rfl
      · refine zle_many 4 (134, 96, [zR 71, zI l1, zI l2, zI l3, zI l4, zI l5, zI l6, zI (zadd l3 (zmul 1 l6)), zR 0], [zI l1, zR 97, zI (zadd l3 (zmul 1 l6))], F, G, zsg) rfl ?_
        refine zle_ald rfl rfl rfl (fun _ => ?_)
        refine zle_many 3 (134, (bif zcmp .le (zadd l3 (zmul 1 l6)) (zsub (F 97 (Int.toNat l1)) 1) then 105 else 102), [zR 71, zI l1, zI l2, zI l3, zI l4, zI l5, zI l6, zI (zadd l3 (zmul 1 l6)), zR 0], [], F, G, zsg) rfl ?_
        refine zle_le (fun _ => ?_) (fun _ => ?_)
        · refine zle_many 1 (134, 104, [zR 71, zI l1, zI l2, zI l3, zI l4, zI l5, zI l6, zI (zadd l3 (zmul 1 l6)), zR 0], [zI (-12)], F, G, zsg) rfl ?_
          exact zle_ret rfl
        · refine zle_many 11 (134, 123, [zR 71, zI l1, zI l2, zI l3, zI l4, zI l5, zI l6, zI (zadd l3 (zmul 1 l6)), zI (zadd (zmul 40 l1) (zadd l3 (zmul 1 l6)))], [zI (zadd (zmul 40 l1) (zadd l3 (zmul 1 l6))), zR 98, zR 71, zI l5], F, G, zsg) rfl ?_
          refine zle_ald rfl rfl rfl (fun _ => ?_)
          refine zle_many 1 (134, 125, [zR 71, zI l1, zI l2, zI l3, zI l4, zI l5, zI l6, zI (zadd l3 (zmul 1 l6)), zI (zadd (zmul 40 l1) (zadd l3 (zmul 1 l6)))], [zI 1, zI (F 98 (Int.toNat (zadd (zmul 40 l1) (zadd l3 (zmul 1 l6))))), zR 71, zI l5], F, G, zsg) rfl ?_
          refine zle_I rfl (fun v1 F1 G1 => ?_)
          refine zle_many 1 (134, (bif zcmp .lt v1 0 then 135 else 131), [zR 71, zI l1, zI l2, zI l3, zI l4, zI l5, zI l6, zI (zadd l3 (zmul 1 l6)), zI (zadd (zmul 40 l1) (zadd l3 (zmul 1 l6)))], [zI l5], F1, G1, zsg) rfl ?_
          refine zle_lt (fun _ => ?_) (fun _ => ?_)
          · refine zle_many 5 (134, 64, [zR 71, zI l1, zI l2, zI l3, zI l4, zI (zadd l5 0), zI (zadd l6 1), zI (zadd l3 (zmul 1 l6)), zI (zadd (zmul 40 l1) (zadd l3 (zmul 1 l6)))], [], F1, G1, zsg) rfl ?_
            exact zle_wk ⟨Or.inl rfl, Or.inl rfl, Or.inl rfl, Or.inl rfl, Or.inl rfl, Or.inl rfl, Or.inl rfl, Or.inr rfl, Or.inr rfl, trivial⟩
          · refine zle_many 6 (134, 64, [zR 71, zI l1, zI l2, zI l3, zI l4, zI (zadd l5 1), zI (zadd l6 1), zI (zadd l3 (zmul 1 l6)), zI (zadd (zmul 40 l1) (zadd l3 (zmul 1 l6)))], [], F1, G1, zsg) rfl ?_
            exact zle_wk ⟨Or.inl rfl, Or.inl rfl, Or.inl rfl, Or.inl rfl, Or.inl rfl, Or.inl rfl, Or.inl rfl, Or.inr rfl, Or.inr rfl, trivial⟩
  · refine zle_many 1 (134, 147, [zR 71, zI l1, zI l2, zI l3, zI l4, zI l5, zI l6, zR 0, zR 0], [zI l5], F, G, zsg) rfl ?_
    exact zle_ret rfl
set_option maxRecDepth 20000 in
theorem g_M_isUnder {d : Nat} {F : zM} {G : zG} (a0 : Int) (a1 : Int) : zle (
  if a1 = 0 then
  some (some (zI 1), F, G, zsg)
else
  if a0 = a1 then
    some (some (zI 1), F, G, zsg)
  else
    if a1 = 1 then
      if a0 = 4 then
        some (some (zI 1), F, G, zsg)
      else
        if a1 = 2 then
          if a0 = 5 then
            some (some (zI 1), F, G, zsg)
          else
            some (some (zI 0), F, G, zsg)
        else
          some (some (zI 0), F, G, zsg)
    else
      if a1 = 2 then
        if a0 = 5 then
          some (some (zI 1), F, G, zsg)
        else
          some (some (zI 0), F, G, zsg)
      else
        some (some (zI 0), F, G, zsg)) (zex (d + 1) 135 [zI a0, zI a1] (F, G, zsg)) := by
  refine zle_ent (ls := [zI a0, zI a1]) ?_
  refine zle_many 2 (135, (bif zcmp .eq a1 0 then 29 else 4), [zI a0, zI a1], [], F, G, zsg) rfl ?_
  refine zle_eq (fun _ => ?_) (fun _ => ?_)
  · refine zle_many 2 (135, 34, [zI a0, zI a1], [zI 1], F, G, zsg) rfl ?_
    exact zle_ret rfl
  · refine zle_many 3 (135, (bif zcmp .eq a0 a1 then 29 else 9), [zI a0, zI a1], [], F, G, zsg) rfl ?_
    refine zle_eq (fun _ => ?_) (fun _ => ?_)
    · refine zle_many 2 (135, 34, [zI a0, zI a1], [zI 1], F, G, zsg) rfl ?_
      exact zle_ret rfl
    · refine zle_many 3 (135, (bif zcmp .ne a1 1 then 19 else 14), [zI a0, zI a1], [], F, G, zsg) rfl ?_
      refine zle_ne (fun _ => ?_) (fun _ => ?_)
      · refine zle_many 3 (135, (bif zcmp .eq a0 4 then 29 else 19), [zI a0, zI a1], [], F, G, zsg) rfl ?_
        refine zle_eq (fun _ => ?_) (fun _ => ?_)
        · refine zle_many 2 (135, 34, [zI a0, zI a1], [zI 1], F, G, zsg) rfl ?_
          exact zle_ret rfl
        · refine zle_many 3 (135, (bif zcmp .ne a1 2 then 33 else 24), [zI a0, zI a1], [], F, G, zsg) rfl ?_
          refine zle_ne (fun _ => ?_) (fun _ => ?_)
          · refine zle_many 3 (135, (bif zcmp .ne a0 5 then 33 else 29), [zI a0, zI a1], [], F, G, zsg) rfl ?_
            refine zle_ne (fun _ => ?_) (fun _ => ?_)
            · refine zle_many 2 (135, 34, [zI a0, zI a1], [zI 1], F, G, zsg) rfl ?_
              exact zle_ret rfl
            · refine zle_many 1 (135, 34, [zI a0, zI a1], [zI 0], F, G, zsg) rfl ?_
              exact zle_ret rfl
          · refine zle_many 1 (135, 34, [zI a0, zI a1], [zI 0], F, G, zsg) rfl ?_
            exact zle_ret rfl
      · refine zle_many 3 (135, (bif zcmp .ne a1 2 then 33 else 24), [zI a0, zI a1], [], F, G, zsg) rfl ?_
        refine zle_ne (fun _ => ?_) (fun _ => ?_)
        · refine zle_many 3 (135, (bif zcmp .ne a0 5 then 33 else 29), [zI a0, zI a1], [], F, G, zsg) rfl ?_
          refine zle_ne (fun _ => ?_) (fun _ => ?_)
          · refine zle_many 2 (135, 34, [zI a0, zI a1], [zI 1], F, G, zsg) rfl ?_
            exact zle_ret rfl
          · refine zle_many 1 (135, 34, [zI a0, zI a1], [zI 0], F, G, zsg) rfl ?_
            exact zle_ret rfl
        · refine zle_many 1 (135, 34, [zI a0, zI a1], [zI 0], F, G, zsg) rfl ?_
          exact zle_ret rfl
set_option maxRecDepth 20000 in
theorem g_M_taken {d : Nat} {F : zM} {G : zG} (a1 : Int) (a2 : Int) : zle (
  zbI (zex d 49 [zI a2, zI 0, zI 5] (F, G, zsg)) (fun v1 F1 G1 =>
  if v1 = 0 then
    some (some (zI (-2)), F1, G1, zsg)
  else
    zbI (zex d 50 [zI a1] (F1, G1, zsg)) (fun v2 F2 G2 =>
      if v2 = 0 then
        some (some (zI (-12)), F2, G2, zsg)
      else
        zbI (zex d 59 [zR 71, zI a1, zI (-1)] (F2, G2, zsg)) (fun v3 F3 G3 =>
          if v3 = (-1) then
            if 0 ≤ a1 ∧ a1 < 64 then
              if (F3 75 (Int.toNat a1)) = 0 then
                zbI (zex d 58 [zR 71, zI a1] (F3, G3, zsg)) (fun v5 F5 G5 =>
                  if v5 = 0 then
                    some (some (zI (-11)), F5, G5, zsg)
                  else
                    some (some (zI (-13)), F5, G5, zsg))
              else
                some (some (zI (-13)), F3, G3, zsg)
            else none
          else
            if 0 ≤ v3 ∧ v3 < 8 then
              zbI (zex d 135 [zI (F3 78 (Int.toNat v3)), zI a2] (F3, G3, zsg)) (fun v4 F4 G4 =>
                if v4 = 0 then
                  some (some (zI (-13)), F4, G4, zsg)
                else
                  some (some (zI v3), F4, G4, zsg))
            else none)))) (zex (d + 1) 136 [zR 71, zI a1, zI a2] (F, G, zsg)) := by
  refine zle_ent (ls := [zR 71, zI a1, zI a2, zR 0]) ?_
  refine zle_many 3 (136, 3, [zR 71, zI a1, zI a2, zR 0], [zI 5, zI 0, zI a2], F, G, zsg) rfl ?_
  refine zle_I rfl (fun v1 F1 G1 => ?_)
  refine zle_many 1 (136, (bif zcmp .ne v1 0 then 12 else 9), [zR 71, zI a1, zI a2, zR 0], [], F1, G1, zsg) rfl ?_
  refine zle_ne (fun _ => ?_) (fun _ => ?_)
  · refine zle_many 1 (136, 11, [zR 71, zI a1, zI a2, zR 0], [zI (-2)], F1, G1, zsg) rfl ?_
    exact zle_ret rfl
  · refine zle_many 1 (136, 13, [zR 71, zI a1, zI a2, zR 0], [zI a1], F1, G1, zsg) rfl ?_
    refine zle_I rfl (fun v2 F2 G2 => ?_)
    refine zle_many 1 (136, (bif zcmp .ne v2 0 then 22 else 19), [zR 71, zI a1, zI a2, zR 0], [], F2, G2, zsg) rfl ?_
    refine zle_ne (fun _ => ?_) (fun _ => ?_)
    · refine zle_many 1 (136, 21, [zR 71, zI a1, zI a2, zR 0], [zI (-12)], F2, G2, zsg) rfl ?_
      exact zle_ret rfl
    · refine zle_many 3 (136, 25, [zR 71, zI a1, zI a2, zR 0], [zI (-1), zI a1, zR 71], F2, G2, zsg) rfl ?_
      refine zle_I rfl (fun v3 F3 G3 => ?_)
      refine zle_many 4 (136, (bif zcmp .ne v3 (-1) then 59 else 34), [zR 71, zI a1, zI a2, zI v3], [], F3, G3, zsg) rfl ?_
      refine zle_ne (fun _ => ?_) (fun _ => ?_)
      · refine zle_many 3 (136, 39, [zR 71, zI a1, zI a2, zI v3], [zI a1, zR 75], F3, G3, zsg) rfl ?_
        refine zle_bld rfl rfl rfl (fun _ => ?_)
        refine zle_many 1 (136, (bif zcmp .ne (F3 75 (Int.toNat a1)) 0 then 51 else 43), [zR 71, zI a1, zI a2, zI v3], [], F3, G3, zsg) rfl ?_
        refine zle_ne (fun _ => ?_) (fun _ => ?_)
        · refine zle_many 2 (136, 45, [zR 71, zI a1, zI a2, zI v3], [zI a1, zR 71], F3, G3, zsg) rfl ?_
          refine zle_I rfl (fun v5 F5 G5 => ?_)
          refine zle_many 1 (136, (bif zcmp .eq v5 0 then 56 else 51), [zR 71, zI a1, zI a2, zI v3], [], F5, G5, zsg) rfl ?_
          refine zle_eq (fun _ => ?_) (fun _ => ?_)
          · refine zle_many 1 (136, 58, [zR 71, zI a1, zI a2, zI v3], [zI (-11)], F5, G5, zsg) rfl ?_
            exact zle_ret rfl
          · refine zle_many 2 (136, 58, [zR 71, zI a1, zI a2, zI v3], [zI (-13)], F5, G5, zsg) rfl ?_
            exact zle_ret rfl
        · refine zle_many 2 (136, 58, [zR 71, zI a1, zI a2, zI v3], [zI (-13)], F3, G3, zsg) rfl ?_
          exact zle_ret rfl
      · refine zle_many 3 (136, 64, [zR 71, zI a1, zI a2, zI v3], [zI v3, zR 78], F3, G3, zsg) rfl ?_
        refine zle_ald rfl rfl rfl (fun _ => ?_)
        refine zle_many 1 (136, 66, [zR 71, zI a1, zI a2, zI v3], [zI a2, zI (F3 78 (Int.toNat v3))], F3, G3, zsg) rfl ?_
        refine zle_I rfl (fun v4 F4 G4 => ?_)
        refine zle_many 1 (136, (bif zcmp .eq v4 0 then 76 else 72), [zR 71, zI a1, zI a2, zI v3], [], F4, G4, zsg) rfl ?_
        refine zle_eq (fun _ => ?_) (fun _ => ?_)
        · refine zle_many 1 (136, 78, [zR 71, zI a1, zI a2, zI v3], [zI (-13)], F4, G4, zsg) rfl ?_
          exact zle_ret rfl
        · refine zle_many 2 (136, 78, [zR 71, zI a1, zI a2, zI v3], [zI v3], F4, G4, zsg) rfl ?_
          exact zle_ret rfl
