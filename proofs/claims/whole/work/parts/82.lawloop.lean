/-! printed by wip/gen/gen_law.py: the law's loop -/
set_option maxRecDepth 20000 in
theorem g_W_18 {d L : Nat} {xs : Nat → Int} {F : zM} {G : zG} (i : Int) : zle (
  if (zsub (L : Int) 6) < i then
  some (some (zI 1), F, G, zsg)
else
  if 0 ≤ i ∧ i < L then
    if (zand (xs (Int.toNat i)) 63) = 0 then
      zev (zX 1 L xs) d (242, 208, [zR 1, zR 5, zR 71, zI i], [], F, G, zsg)
    else
    if (zand (xs (Int.toNat i)) 63) = 1 then
      zev (zX 1 L xs) d (242, 241, [zR 1, zR 5, zR 71, zI i], [], F, G, zsg)
    else
    if (zand (xs (Int.toNat i)) 63) = 2 then
      zev (zX 1 L xs) d (242, 274, [zR 1, zR 5, zR 71, zI i], [], F, G, zsg)
    else
    if (zand (xs (Int.toNat i)) 63) = 3 then
      zev (zX 1 L xs) d (242, 317, [zR 1, zR 5, zR 71, zI i], [], F, G, zsg)
    else
    if (zand (xs (Int.toNat i)) 63) = 4 then
      zev (zX 1 L xs) d (242, 350, [zR 1, zR 5, zR 71, zI i], [], F, G, zsg)
    else
    if (zand (xs (Int.toNat i)) 63) = 5 then
      zev (zX 1 L xs) d (242, 373, [zR 1, zR 5, zR 71, zI i], [], F, G, zsg)
    else
    if (zand (xs (Int.toNat i)) 63) = 6 then
      zev (zX 1 L xs) d (242, 406, [zR 1, zR 5, zR 71, zI i], [], F, G, zsg)
    else
    if (zand (xs (Int.toNat i)) 63) = 7 then
      zev (zX 1 L xs) d (242, 449, [zR 1, zR 5, zR 71, zI i], [], F, G, zsg)
    else
    if (zand (xs (Int.toNat i)) 63) = 8 then
      zev (zX 1 L xs) d (242, 472, [zR 1, zR 5, zR 71, zI i], [], F, G, zsg)
    else
    if (zand (xs (Int.toNat i)) 63) = 9 then
      zev (zX 1 L xs) d (242, 505, [zR 1, zR 5, zR 71, zI i], [], F, G, zsg)
    else
    if (zand (xs (Int.toNat i)) 63) = 10 then
      zev (zX 1 L xs) d (242, 538, [zR 1, zR 5, zR 71, zI i], [], F, G, zsg)
    else
    if (zand (xs (Int.toNat i)) 63) = 11 then
      zev (zX 1 L xs) d (242, 581, [zR 1, zR 5, zR 71, zI i], [], F, G, zsg)
    else
    if (zand (xs (Int.toNat i)) 63) = 12 then
      zev (zX 1 L xs) d (242, 614, [zR 1, zR 5, zR 71, zI i], [], F, G, zsg)
    else
    if (zand (xs (Int.toNat i)) 63) = 13 then
      zev (zX 1 L xs) d (242, 647, [zR 1, zR 5, zR 71, zI i], [], F, G, zsg)
    else
    if (zand (xs (Int.toNat i)) 63) = 14 then
      zev (zX 1 L xs) d (242, 680, [zR 1, zR 5, zR 71, zI i], [], F, G, zsg)
    else
    if (zand (xs (Int.toNat i)) 63) = 15 then
      zev (zX 1 L xs) d (242, 713, [zR 1, zR 5, zR 71, zI i], [], F, G, zsg)
    else
    if (zand (xs (Int.toNat i)) 63) = 16 then
      zev (zX 1 L xs) d (242, 756, [zR 1, zR 5, zR 71, zI i], [], F, G, zsg)
    else
    if (zand (xs (Int.toNat i)) 63) = 17 then
      zev (zX 1 L xs) d (242, 779, [zR 1, zR 5, zR 71, zI i], [], F, G, zsg)
    else
    if (zand (xs (Int.toNat i)) 63) = 18 then
      zev (zX 1 L xs) d (242, 802, [zR 1, zR 5, zR 71, zI i], [], F, G, zsg)
    else
    if (zand (xs (Int.toNat i)) 63) = 19 then
      zev (zX 1 L xs) d (242, 825, [zR 1, zR 5, zR 71, zI i], [], F, G, zsg)
    else
    if (zand (xs (Int.toNat i)) 63) = 20 then
      zev (zX 1 L xs) d (242, 888, [zR 1, zR 5, zR 71, zI i], [], F, G, zsg)
    else
    if (zand (xs (Int.toNat i)) 63) = 21 then
      zev (zX 1 L xs) d (242, 901, [zR 1, zR 5, zR 71, zI i], [], F, G, zsg)
    else
    if (zand (xs (Int.toNat i)) 63) = 22 then
      zev (zX 1 L xs) d (242, 944, [zR 1, zR 5, zR 71, zI i], [], F, G, zsg)
    else
    if (zand (xs (Int.toNat i)) 63) = 23 then
      zev (zX 1 L xs) d (242, 987, [zR 1, zR 5, zR 71, zI i], [], F, G, zsg)
    else
    if (zand (xs (Int.toNat i)) 63) = 24 then
      zev (zX 1 L xs) d (242, 1020, [zR 1, zR 5, zR 71, zI i], [], F, G, zsg)
    else
    if (zand (xs (Int.toNat i)) 63) = 25 then
      zev (zX 1 L xs) d (242, 1053, [zR 1, zR 5, zR 71, zI i], [], F, G, zsg)
    else
    if (zand (xs (Int.toNat i)) 63) = 26 then
      zev (zX 1 L xs) d (242, 1076, [zR 1, zR 5, zR 71, zI i], [], F, G, zsg)
    else
    if (zand (xs (Int.toNat i)) 63) = 27 then
      zev (zX 1 L xs) d (242, 1099, [zR 1, zR 5, zR 71, zI i], [], F, G, zsg)
    else
    if (zand (xs (Int.toNat i)) 63) = 28 then
      zev (zX 1 L xs) d (242, 1162, [zR 1, zR 5, zR 71, zI i], [], F, G, zsg)
    else
    if (zand (xs (Int.toNat i)) 63) = 29 then
      zev (zX 1 L xs) d (242, 1195, [zR 1, zR 5, zR 71, zI i], [], F, G, zsg)
    else
    if (zand (xs (Int.toNat i)) 63) = 30 then
      zev (zX 1 L xs) d (242, 1218, [zR 1, zR 5, zR 71, zI i], [], F, G, zsg)
    else
    if (zand (xs (Int.toNat i)) 63) = 31 then
      zev (zX 1 L xs) d (242, 1261, [zR 1, zR 5, zR 71, zI i], [], F, G, zsg)
    else
    if (zand (xs (Int.toNat i)) 63) = 32 then
      zev (zX 1 L xs) d (242, 1274, [zR 1, zR 5, zR 71, zI i], [], F, G, zsg)
    else
    if (zand (xs (Int.toNat i)) 63) = 33 then
      zev (zX 1 L xs) d (242, 1317, [zR 1, zR 5, zR 71, zI i], [], F, G, zsg)
    else
    if (zand (xs (Int.toNat i)) 63) = 34 then
      zev (zX 1 L xs) d (242, 1330, [zR 1, zR 5, zR 71, zI i], [], F, G, zsg)
    else
    if (zand (xs (Int.toNat i)) 63) = 35 then
      zev (zX 1 L xs) d (242, 1343, [zR 1, zR 5, zR 71, zI i], [], F, G, zsg)
    else
    if (zand (xs (Int.toNat i)) 63) = 36 then
      zev (zX 1 L xs) d (242, 1386, [zR 1, zR 5, zR 71, zI i], [], F, G, zsg)
    else
    if (zand (xs (Int.toNat i)) 63) = 37 then
      zev (zX 1 L xs) d (242, 1429, [zR 1, zR 5, zR 71, zI i], [], F, G, zsg)
    else
    if (zand (xs (Int.toNat i)) 63) = 38 then
      zev (zX 1 L xs) d (242, 1492, [zR 1, zR 5, zR 71, zI i], [], F, G, zsg)
    else
    if (zand (xs (Int.toNat i)) 63) = 39 then
      zev (zX 1 L xs) d (242, 1545, [zR 1, zR 5, zR 71, zI i], [], F, G, zsg)
    else
    zev (zX 1 L xs) d (242, 1578, [zR 1, zR 5, zR 71, zI i], [], F, G, zsg)
  else none) (zev (zX 1 L xs) d (242, 18, [zR 1, zR 5, zR 71, zI i], [], F, G, zsg)) := by
  refine zle_many 6 (242, (bif zcmp .gt i (zsub (L : Int) 6) then 1584 else 27), [zR 1, zR 5, zR 71, zI i], [], F, G, zsg) rfl ?_
  refine zle_gt (fun _ => ?_) (fun _ => ?_)
  · refine zle_many 1 (242, 1585, [zR 1, zR 5, zR 71, zI i], [zI 1], F, G, zsg) rfl ?_
    exact zle_ret rfl
  · refine zle_many 2 (242, 29, [zR 1, zR 5, zR 71, zI i], [zI i, zR 1], F, G, zsg) rfl ?_
    refine zle_xld rfl (by decide) rfl rfl (fun _ => ?_)
    refine zle_many 3 (242, zsw (zand (xs (Int.toNat i)) 63) [(0, 208), (1, 241), (2, 274), (3, 317), (4, 350), (5, 373), (6, 406), (7, 449), (8, 472), (9, 505), (10, 538), (11, 581), (12, 614), (13, 647), (14, 680), (15, 713), (16, 756), (17, 779), (18, 802), (19, 825), (20, 888), (21, 901), (22, 944), (23, 987), (24, 1020), (25, 1053), (26, 1076), (27, 1099), (28, 1162), (29, 1195), (30, 1218), (31, 1261), (32, 1274), (33, 1317), (34, 1330), (35, 1343), (36, 1386), (37, 1429), (38, 1492), (39, 1545)] 1578, [zR 1, zR 5, zR 71, zI i], [], F, G, zsg) rfl ?_
    refine zle_sw (fun _ => ?_) (fun _ => ?_)
    · exact zle_rfl
    · refine zle_sw (fun _ => ?_) (fun _ => ?_)
      · exact zle_rfl
      · refine zle_sw (fun _ => ?_) (fun _ => ?_)
        · exact zle_rfl
        · refine zle_sw (fun _ => ?_) (fun _ => ?_)
          · exact zle_rfl
          · refine zle_sw (fun _ => ?_) (fun _ => ?_)
            · exact zle_rfl
            · refine zle_sw (fun _ => ?_) (fun _ => ?_)
              · exact zle_rfl
              · refine zle_sw (fun _ => ?_) (fun _ => ?_)
                · exact zle_rfl
                · refine zle_sw (fun _ => ?_) (fun _ => ?_)
                  · exact zle_rfl
                  · refine zle_sw (fun _ => ?_) (fun _ => ?_)
                    · exact zle_rfl
                    · refine zle_sw (fun _ => ?_) (fun _ => ?_)
                      · exact zle_rfl
                      · refine zle_sw (fun _ => ?_) (fun _ => ?_)
                        · exact zle_rfl
                        · refine zle_sw (fun _ => ?_) (fun _ => ?_)
                          · exact zle_rfl
                          · refine zle_sw (fun _ => ?_) (fun _ => ?_)
                            · exact zle_rfl
                            · refine zle_sw (fun _ => ?_) (fun _ => ?_)
                              · exact zle_rfl
                              · refine zle_sw (fun _ => ?_) (fun _ => ?_)
                                · exact zle_rfl
                                · refine zle_sw (fun _ => ?_) (fun _ => ?_)
                                  · exact zle_rfl
                                  · refine zle_sw (fun _ => ?_) (fun _ => ?_)
                                    · exact zle_rfl
                                    · refine zle_sw (fun _ => ?_) (fun _ => ?_)
                                      · exact zle_rfl
                                      · refine zle_sw (fun _ => ?_) (fun _ => ?_)
                                        · exact zle_rfl
                                        · refine zle_sw (fun _ => ?_) (fun _ => ?_)
                                          · exact zle_rfl
                                          · refine zle_sw (fun _ => ?_) (fun _ => ?_)
                                            · exact zle_rfl
                                            · refine zle_sw (fun _ => ?_) (fun _ => ?_)
                                              · exact zle_rfl
                                              · refine zle_sw (fun _ => ?_) (fun _ => ?_)
                                                · exact zle_rfl
                                                · refine zle_sw (fun _ => ?_) (fun _ => ?_)
                                                  · exact zle_rfl
                                                  · refine zle_sw (fun _ => ?_) (fun _ => ?_)
                                                    · exact zle_rfl
                                                    · refine zle_sw (fun _ => ?_) (fun _ => ?_)
                                                      · exact zle_rfl
                                                      · refine zle_sw (fun _ => ?_) (fun _ => ?_)
                                                        · exact zle_rfl
                                                        · refine zle_sw (fun _ => ?_) (fun _ => ?_)
                                                          · exact zle_rfl
                                                          · refine zle_sw (fun _ => ?_) (fun _ => ?_)
                                                            · exact zle_rfl
                                                            · refine zle_sw (fun _ => ?_) (fun _ => ?_)
                                                              · exact zle_rfl
                                                              · refine zle_sw (fun _ => ?_) (fun _ => ?_)
                                                                · exact zle_rfl
                                                                · refine zle_sw (fun _ => ?_) (fun _ => ?_)
                                                                  · exact zle_rfl
                                                                  · refine zle_sw (fun _ => ?_) (fun _ => ?_)
                                                                    · exact zle_rfl
                                                                    · refine zle_sw (fun _ => ?_) (fun _ => ?_)
                                                                      · exact zle_rfl
                                                                      · refine zle_sw (fun _ => ?_) (fun _ => ?_)
                                                                        · exact zle_rfl
                                                                        · refine zle_sw (fun _ => ?_) (fun _ => ?_)
                                                                          · exact zle_rfl
                                                                          · refine zle_sw (fun _ => ?_) (fun _ => ?_)
                                                                            · exact zle_rfl
                                                                            · refine zle_sw (fun _ => ?_) (fun _ => ?_)
                                                                              · exact zle_rfl
                                                                              · refine zle_sw (fun _ => ?_) (fun _ => ?_)
                                                                                · exact zle_rfl
                                                                                · refine zle_sw (fun _ => ?_) (fun _ => ?_)
                                                                                  · exact zle_rfl
                                                                                  · exact zle_rfl
set_option maxRecDepth 20000 in
theorem g_W_208 {d L : Nat} {xs : Nat → Int} {F : zM} {G : zG} (i : Int) : zle (
  if 0 ≤ (zadd i 1) ∧ (zadd i 1) < L then
  if 0 ≤ (zadd i 2) ∧ (zadd i 2) < L then
    zbI (zex d 1 [zR 5, zI (xs (Int.toNat (zadd i 1))), zI (xs (Int.toNat (zadd i 2)))] (F, G, zsg)) (fun v1 F1 G1 =>
      if 0 ≤ (zadd i 1) ∧ (zadd i 1) < L then
        if 0 ≤ (zadd i 2) ∧ (zadd i 2) < L then
          zbI (zex d 77 [zR 71, zI (xs (Int.toNat (zadd i 1))), zI (xs (Int.toNat (zadd i 2)))] (F1, G1, zsg)) (fun v2 F2 G2 =>
            if v1 = v2 then
              zev (zX 1 L xs) d (242, 1578, [zR 1, zR 5, zR 71, zI i], [], F2, G2, zsg)
            else
              some (some (zI 0), F2, G2, zsg))
        else none
      else none)
  else none
else none) (zev (zX 1 L xs) d (242, 208, [zR 1, zR 5, zR 71, zI i], [], F, G, zsg)) := by
  refine zle_many 5 (242, 213, [zR 1, zR 5, zR 71, zI i], [zI (zadd i 1), zR 1, zR 5], F, G, zsg) rfl ?_
  refine zle_xld rfl (by decide) rfl rfl (fun _ => ?_)
  refine zle_many 4 (242, 218, [zR 1, zR 5, zR 71, zI i], [zI (zadd i 2), zR 1, zI (xs (Int.toNat (zadd i 1))), zR 5], F, G, zsg) rfl ?_
  refine zle_xld rfl (by decide) rfl rfl (fun _ => ?_)
  refine zle_I rfl (fun v1 F1 G1 => ?_)
  refine zle_many 5 (242, 227, [zR 1, zR 5, zR 71, zI i], [zI (zadd i 1), zR 1, zR 71, zI v1], F1, G1, zsg) rfl ?_
  refine zle_xld rfl (by decide) rfl rfl (fun _ => ?_)
  refine zle_many 4 (242, 232, [zR 1, zR 5, zR 71, zI i], [zI (zadd i 2), zR 1, zI (xs (Int.toNat (zadd i 1))), zR 71, zI v1], F1, G1, zsg) rfl ?_
  refine zle_xld rfl (by decide) rfl rfl (fun _ => ?_)
  refine zle_I rfl (fun v2 F2 G2 => ?_)
  refine zle_many 1 (242, (bif zcmp .eq v1 v2 then 1578 else 239), [zR 1, zR 5, zR 71, zI i], [], F2, G2, zsg) rfl ?_
  refine zle_eq (fun _ => ?_) (fun _ => ?_)
  · exact zle_rfl
  · refine zle_many 1 (242, 240, [zR 1, zR 5, zR 71, zI i], [zI 0], F2, G2, zsg) rfl ?_
    exact zle_ret rfl
set_option maxRecDepth 20000 in
theorem g_W_241 {d L : Nat} {xs : Nat → Int} {F : zM} {G : zG} (i : Int) : zle (
  if 0 ≤ (zadd i 1) ∧ (zadd i 1) < L then
  if 0 ≤ (zadd i 2) ∧ (zadd i 2) < L then
    zbI (zex d 2 [zR 5, zI (xs (Int.toNat (zadd i 1))), zI (xs (Int.toNat (zadd i 2)))] (F, G, zsg)) (fun v1 F1 G1 =>
      if 0 ≤ (zadd i 1) ∧ (zadd i 1) < L then
        if 0 ≤ (zadd i 2) ∧ (zadd i 2) < L then
          zbI (zex d 78 [zR 71, zI (xs (Int.toNat (zadd i 1))), zI (xs (Int.toNat (zadd i 2)))] (F1, G1, zsg)) (fun v2 F2 G2 =>
            if v1 = v2 then
              zev (zX 1 L xs) d (242, 1578, [zR 1, zR 5, zR 71, zI i], [], F2, G2, zsg)
            else
              some (some (zI 0), F2, G2, zsg))
        else none
      else none)
  else none
else none) (zev (zX 1 L xs) d (242, 241, [zR 1, zR 5, zR 71, zI i], [], F, G, zsg)) := by
  refine zle_many 5 (242, 246, [zR 1, zR 5, zR 71, zI i], [zI (zadd i 1), zR 1, zR 5], F, G, zsg) rfl ?_
  refine zle_xld rfl (by decide) rfl rfl (fun _ => ?_)
  refine zle_many 4 (242, 251, [zR 1, zR 5, zR 71, zI i], [zI (zadd i 2), zR 1, zI (xs (Int.toNat (zadd i 1))), zR 5], F, G, zsg) rfl ?_
  refine zle_xld rfl (by decide) rfl rfl (fun _ => ?_)
  refine zle_I rfl (fun v1 F1 G1 => ?_)
  refine zle_many 5 (242, 260, [zR 1, zR 5, zR 71, zI i], [zI (zadd i 1), zR 1, zR 71, zI v1], F1, G1, zsg) rfl ?_
  refine zle_xld rfl (by decide) rfl rfl (fun _ => ?_)
  refine zle_many 4 (242, 265, [zR 1, zR 5, zR 71, zI i], [zI (zadd i 2), zR 1, zI (xs (Int.toNat (zadd i 1))), zR 71, zI v1], F1, G1, zsg) rfl ?_
  refine zle_xld rfl (by decide) rfl rfl (fun _ => ?_)
  refine zle_I rfl (fun v2 F2 G2 => ?_)
  refine zle_many 1 (242, (bif zcmp .eq v1 v2 then 1578 else 272), [zR 1, zR 5, zR 71, zI i], [], F2, G2, zsg) rfl ?_
  refine zle_eq (fun _ => ?_) (fun _ => ?_)
  · exact zle_rfl
  · refine zle_many 1 (242, 273, [zR 1, zR 5, zR 71, zI i], [zI 0], F2, G2, zsg) rfl ?_
    exact zle_ret rfl
set_option maxRecDepth 20000 in
theorem g_W_274 {d L : Nat} {xs : Nat → Int} {F : zM} {G : zG} (i : Int) : zle (
  if 0 ≤ (zadd i 1) ∧ (zadd i 1) < L then
  if 0 ≤ (zadd i 2) ∧ (zadd i 2) < L then
    if 0 ≤ (zadd i 3) ∧ (zadd i 3) < L then
      zbI (zex d 3 [zR 5, zI (xs (Int.toNat (zadd i 1))), zI (xs (Int.toNat (zadd i 2))), zI (xs (Int.toNat (zadd i 3)))] (F, G, zsg)) (fun v1 F1 G1 =>
        if 0 ≤ (zadd i 1) ∧ (zadd i 1) < L then
          if 0 ≤ (zadd i 2) ∧ (zadd i 2) < L then
            if 0 ≤ (zadd i 3) ∧ (zadd i 3) < L then
              zbI (zex d 80 [zR 71, zI (xs (Int.toNat (zadd i 1))), zI (xs (Int.toNat (zadd i 2))), zI (xs (Int.toNat (zadd i 3)))] (F1, G1, zsg)) (fun v2 F2 G2 =>
                if v1 = v2 then
                  zev (zX 1 L xs) d (242, 1578, [zR 1, zR 5, zR 71, zI i], [], F2, G2, zsg)
                else
                  some (some (zI 0), F2, G2, zsg))
            else none
          else none
        else none)
    else none
  else none
else none) (zev (zX 1 L xs) d (242, 274, [zR 1, zR 5, zR 71, zI i], [], F, G, zsg)) := by
  refine zle_many 5 (242, 279, [zR 1, zR 5, zR 71, zI i], [zI (zadd i 1), zR 1, zR 5], F, G, zsg) rfl ?_
  refine zle_xld rfl (by decide) rfl rfl (fun _ => ?_)
  refine zle_many 4 (242, 284, [zR 1, zR 5, zR 71, zI i], [zI (zadd i 2), zR 1, zI (xs (Int.toNat (zadd i 1))), zR 5], F, G, zsg) rfl ?_
  refine zle_xld rfl (by decide) rfl rfl (fun _ => ?_)
  refine zle_many 4 (242, 289, [zR 1, zR 5, zR 71, zI i], [zI (zadd i 3), zR 1, zI (xs (Int.toNat (zadd i 2))), zI (xs (Int.toNat (zadd i 1))), zR 5], F, G, zsg) rfl ?_
  refine zle_xld rfl (by decide) rfl rfl (fun _ => ?_)
  refine zle_I rfl (fun v1 F1 G1 => ?_)
  refine zle_many 5 (242, 298, [zR 1, zR 5, zR 71, zI i], [zI (zadd i 1), zR 1, zR 71, zI v1], F1, G1, zsg) rfl ?_
  refine zle_xld rfl (by decide) rfl rfl (fun _ => ?_)
  refine zle_many 4 (242, 303, [zR 1, zR 5, zR 71, zI i], [zI (zadd i 2), zR 1, zI (xs (Int.toNat (zadd i 1))), zR 71, zI v1], F1, G1, zsg) rfl ?_
  refine zle_xld rfl (by decide) rfl rfl (fun _ => ?_)
  refine zle_many 4 (242, 308, [zR 1, zR 5, zR 71, zI i], [zI (zadd i 3), zR 1, zI (xs (Int.toNat (zadd i 2))), zI (xs (Int.toNat (zadd i 1))), zR 71, zI v1], F1, G1, zsg) rfl ?_
  refine zle_xld rfl (by decide) rfl rfl (fun _ => ?_)
  refine zle_I rfl (fun v2 F2 G2 => ?_)
  refine zle_many 1 (242, (bif zcmp .eq v1 v2 then 1578 else 315), [zR 1, zR 5, zR 71, zI i], [], F2, G2, zsg) rfl ?_
  refine zle_eq (fun _ => ?_) (fun _ => ?_)
  · exact zle_rfl
  · refine zle_many 1 (242, 316, [zR 1, zR 5, zR 71, zI i], [zI 0], F2, G2, zsg) rfl ?_
    exact zle_ret rfl
set_option maxRecDepth 20000 in
theorem g_W_317 {d L : Nat} {xs : Nat → Int} {F : zM} {G : zG} (i : Int) : zle (
  if 0 ≤ (zadd i 1) ∧ (zadd i 1) < L then
  if 0 ≤ (zadd i 2) ∧ (zadd i 2) < L then
    zbI (zex d 4 [zR 5, zI (xs (Int.toNat (zadd i 1))), zI (xs (Int.toNat (zadd i 2)))] (F, G, zsg)) (fun v1 F1 G1 =>
      if 0 ≤ (zadd i 1) ∧ (zadd i 1) < L then
        if 0 ≤ (zadd i 2) ∧ (zadd i 2) < L then
          zbI (zex d 81 [zR 71, zI (xs (Int.toNat (zadd i 1))), zI (xs (Int.toNat (zadd i 2)))] (F1, G1, zsg)) (fun v2 F2 G2 =>
            if v1 = v2 then
              zev (zX 1 L xs) d (242, 1578, [zR 1, zR 5, zR 71, zI i], [], F2, G2, zsg)
            else
              some (some (zI 0), F2, G2, zsg))
        else none
      else none)
  else none
else none) (zev (zX 1 L xs) d (242, 317, [zR 1, zR 5, zR 71, zI i], [], F, G, zsg)) := by
  refine zle_many 5 (242, 322, [zR 1, zR 5, zR 71, zI i], [zI (zadd i 1), zR 1, zR 5], F, G, zsg) rfl ?_
  refine zle_xld rfl (by decide) rfl rfl (fun _ => ?_)
  refine zle_many 4 (242, 327, [zR 1, zR 5, zR 71, zI i], [zI (zadd i 2), zR 1, zI (xs (Int.toNat (zadd i 1))), zR 5], F, G, zsg) rfl ?_
  refine zle_xld rfl (by decide) rfl rfl (fun _ => ?_)
  refine zle_I rfl (fun v1 F1 G1 => ?_)
  refine zle_many 5 (242, 336, [zR 1, zR 5, zR 71, zI i], [zI (zadd i 1), zR 1, zR 71, zI v1], F1, G1, zsg) rfl ?_
  refine zle_xld rfl (by decide) rfl rfl (fun _ => ?_)
  refine zle_many 4 (242, 341, [zR 1, zR 5, zR 71, zI i], [zI (zadd i 2), zR 1, zI (xs (Int.toNat (zadd i 1))), zR 71, zI v1], F1, G1, zsg) rfl ?_
  refine zle_xld rfl (by decide) rfl rfl (fun _ => ?_)
  refine zle_I rfl (fun v2 F2 G2 => ?_)
  refine zle_many 1 (242, (bif zcmp .eq v1 v2 then 1578 else 348), [zR 1, zR 5, zR 71, zI i], [], F2, G2, zsg) rfl ?_
  refine zle_eq (fun _ => ?_) (fun _ => ?_)
  · exact zle_rfl
  · refine zle_many 1 (242, 349, [zR 1, zR 5, zR 71, zI i], [zI 0], F2, G2, zsg) rfl ?_
    exact zle_ret rfl
set_option maxRecDepth 20000 in
theorem g_W_350 {d L : Nat} {xs : Nat → Int} {F : zM} {G : zG} (i : Int) : zle (
  if 0 ≤ (zadd i 1) ∧ (zadd i 1) < L then
  zbI (zex d 5 [zR 5, zI (xs (Int.toNat (zadd i 1)))] (F, G, zsg)) (fun v1 F1 G1 =>
    if 0 ≤ (zadd i 1) ∧ (zadd i 1) < L then
      zbI (zex d 82 [zR 71, zI (xs (Int.toNat (zadd i 1)))] (F1, G1, zsg)) (fun v2 F2 G2 =>
        if v1 = v2 then
          zev (zX 1 L xs) d (242, 1578, [zR 1, zR 5, zR 71, zI i], [], F2, G2, zsg)
        else
          some (some (zI 0), F2, G2, zsg))
    else none)
else none) (zev (zX 1 L xs) d (242, 350, [zR 1, zR 5, zR 71, zI i], [], F, G, zsg)) := by
  refine zle_many 5 (242, 355, [zR 1, zR 5, zR 71, zI i], [zI (zadd i 1), zR 1, zR 5], F, G, zsg) rfl ?_
  refine zle_xld rfl (by decide) rfl rfl (fun _ => ?_)
  refine zle_I rfl (fun v1 F1 G1 => ?_)
  refine zle_many 5 (242, 364, [zR 1, zR 5, zR 71, zI i], [zI (zadd i 1), zR 1, zR 71, zI v1], F1, G1, zsg) rfl ?_
  refine zle_xld rfl (by decide) rfl rfl (fun _ => ?_)
  refine zle_I rfl (fun v2 F2 G2 => ?_)
  refine zle_many 1 (242, (bif zcmp .eq v1 v2 then 1578 else 371), [zR 1, zR 5, zR 71, zI i], [], F2, G2, zsg) rfl ?_
  refine zle_eq (fun _ => ?_) (fun _ => ?_)
  · exact zle_rfl
  · refine zle_many 1 (242, 372, [zR 1, zR 5, zR 71, zI i], [zI 0], F2, G2, zsg) rfl ?_
    exact zle_ret rfl
set_option maxRecDepth 20000 in
theorem g_W_373 {d L : Nat} {xs : Nat → Int} {F : zM} {G : zG} (i : Int) : zle (
  if 0 ≤ (zadd i 1) ∧ (zadd i 1) < L then
  if 0 ≤ (zadd i 2) ∧ (zadd i 2) < L then
    zbI (zex d 6 [zR 5, zI (xs (Int.toNat (zadd i 1))), zI (xs (Int.toNat (zadd i 2)))] (F, G, zsg)) (fun v1 F1 G1 =>
      if 0 ≤ (zadd i 1) ∧ (zadd i 1) < L then
        if 0 ≤ (zadd i 2) ∧ (zadd i 2) < L then
          zbI (zex d 88 [zR 71, zI (xs (Int.toNat (zadd i 1))), zI (xs (Int.toNat (zadd i 2)))] (F1, G1, zsg)) (fun v2 F2 G2 =>
            if v1 = v2 then
              zev (zX 1 L xs) d (242, 1578, [zR 1, zR 5, zR 71, zI i], [], F2, G2, zsg)
            else
              some (some (zI 0), F2, G2, zsg))
        else none
      else none)
  else none
else none) (zev (zX 1 L xs) d (242, 373, [zR 1, zR 5, zR 71, zI i], [], F, G, zsg)) := by
  refine zle_many 5 (242, 378, [zR 1, zR 5, zR 71, zI i], [zI (zadd i 1), zR 1, zR 5], F, G, zsg) rfl ?_
  refine zle_xld rfl (by decide) rfl rfl (fun _ => ?_)
  refine zle_many 4 (242, 383, [zR 1, zR 5, zR 71, zI i], [zI (zadd i 2), zR 1, zI (xs (Int.toNat (zadd i 1))), zR 5], F, G, zsg) rfl ?_
  refine zle_xld rfl (by decide) rfl rfl (fun _ => ?_)
  refine zle_I rfl (fun v1 F1 G1 => ?_)
  refine zle_many 5 (242, 392, [zR 1, zR 5, zR 71, zI i], [zI (zadd i 1), zR 1, zR 71, zI v1], F1, G1, zsg) rfl ?_
  refine zle_xld rfl (by decide) rfl rfl (fun _ => ?_)
  refine zle_many 4 (242, 397, [zR 1, zR 5, zR 71, zI i], [zI (zadd i 2), zR 1, zI (xs (Int.toNat (zadd i 1))), zR 71, zI v1], F1, G1, zsg) rfl ?_
  refine zle_xld rfl (by decide) rfl rfl (fun _ => ?_)
  refine zle_I rfl (fun v2 F2 G2 => ?_)
  refine zle_many 1 (242, (bif zcmp .eq v1 v2 then 1578 else 404), [zR 1, zR 5, zR 71, zI i], [], F2, G2, zsg) rfl ?_
  refine zle_eq (fun _ => ?_) (fun _ => ?_)
  · exact zle_rfl
  · refine zle_many 1 (242, 405, [zR 1, zR 5, zR 71, zI i], [zI 0], F2, G2, zsg) rfl ?_
    exact zle_ret rfl
set_option maxRecDepth 20000 in
theorem g_W_406 {d L : Nat} {xs : Nat → Int} {F : zM} {G : zG} (i : Int) : zle (
  if 0 ≤ (zadd i 1) ∧ (zadd i 1) < L then
  if 0 ≤ (zadd i 2) ∧ (zadd i 2) < L then
    if 0 ≤ (zadd i 3) ∧ (zadd i 3) < L then
      zbI (zex d 7 [zR 5, zI (xs (Int.toNat (zadd i 1))), zI (xs (Int.toNat (zadd i 2))), zI (xs (Int.toNat (zadd i 3)))] (F, G, zsg)) (fun v1 F1 G1 =>
        if 0 ≤ (zadd i 1) ∧ (zadd i 1) < L then
          if 0 ≤ (zadd i 2) ∧ (zadd i 2) < L then
            if 0 ≤ (zadd i 3) ∧ (zadd i 3) < L then
              zbI (zex d 90 [zR 71, zI (xs (Int.toNat (zadd i 1))), zI (xs (Int.toNat (zadd i 2))), zI (xs (Int.toNat (zadd i 3)))] (F1, G1, zsg)) (fun v2 F2 G2 =>
                if v1 = v2 then
                  zev (zX 1 L xs) d (242, 1578, [zR 1, zR 5, zR 71, zI i], [], F2, G2, zsg)
                else
                  some (some (zI 0), F2, G2, zsg))
            else none
          else none
        else none)
    else none
  else none
else none) (zev (zX 1 L xs) d (242, 406, [zR 1, zR 5, zR 71, zI i], [], F, G, zsg)) := by
  refine zle_many 5 (242, 411, [zR 1, zR 5, zR 71, zI i], [zI (zadd i 1), zR 1, zR 5], F, G, zsg) rfl ?_
  refine zle_xld rfl (by decide) rfl rfl (fun _ => ?_)
  refine zle_many 4 (242, 416, [zR 1, zR 5, zR 71, zI i], [zI (zadd i 2), zR 1, zI (xs (Int.toNat (zadd i 1))), zR 5], F, G, zsg) rfl ?_
  refine zle_xld rfl (by decide) rfl rfl (fun _ => ?_)
  refine zle_many 4 (242, 421, [zR 1, zR 5, zR 71, zI i], [zI (zadd i 3), zR 1, zI (xs (Int.toNat (zadd i 2))), zI (xs (Int.toNat (zadd i 1))), zR 5], F, G, zsg) rfl ?_
  refine zle_xld rfl (by decide) rfl rfl (fun _ => ?_)
  refine zle_I rfl (fun v1 F1 G1 => ?_)
  refine zle_many 5 (242, 430, [zR 1, zR 5, zR 71, zI i], [zI (zadd i 1), zR 1, zR 71, zI v1], F1, G1, zsg) rfl ?_
  refine zle_xld rfl (by decide) rfl rfl (fun _ => ?_)
  refine zle_many 4 (242, 435, [zR 1, zR 5, zR 71, zI i], [zI (zadd i 2), zR 1, zI (xs (Int.toNat (zadd i 1))), zR 71, zI v1], F1, G1, zsg) rfl ?_
  refine zle_xld rfl (by decide) rfl rfl (fun _ => ?_)
  refine zle_many 4 (242, 440, [zR 1, zR 5, zR 71, zI i], [zI (zadd i 3), zR 1, zI (xs (Int.toNat (zadd i 2))), zI (xs (Int.toNat (zadd i 1))), zR 71, zI v1], F1, G1, zsg) rfl ?_
  refine zle_xld rfl (by decide) rfl rfl (fun _ => ?_)
  refine zle_I rfl (fun v2 F2 G2 => ?_)
  refine zle_many 1 (242, (bif zcmp .eq v1 v2 then 1578 else 447), [zR 1, zR 5, zR 71, zI i], [], F2, G2, zsg) rfl ?_
  refine zle_eq (fun _ => ?_) (fun _ => ?_)
  · exact zle_rfl
  · refine zle_many 1 (242, 448, [zR 1, zR 5, zR 71, zI i], [zI 0], F2, G2, zsg) rfl ?_
    exact zle_ret rfl
set_option maxRecDepth 20000 in
theorem g_W_449 {d L : Nat} {xs : Nat → Int} {F : zM} {G : zG} (i : Int) : zle (
  if 0 ≤ (zadd i 1) ∧ (zadd i 1) < L then
  zbI (zex d 8 [zR 5, zI (xs (Int.toNat (zadd i 1)))] (F, G, zsg)) (fun v1 F1 G1 =>
    if 0 ≤ (zadd i 1) ∧ (zadd i 1) < L then
      zbI (zex d 91 [zR 71, zI (xs (Int.toNat (zadd i 1)))] (F1, G1, zsg)) (fun v2 F2 G2 =>
        if v1 = v2 then
          zev (zX 1 L xs) d (242, 1578, [zR 1, zR 5, zR 71, zI i], [], F2, G2, zsg)
        else
          some (some (zI 0), F2, G2, zsg))
    else none)
else none) (zev (zX 1 L xs) d (242, 449, [zR 1, zR 5, zR 71, zI i], [], F, G, zsg)) := by
  refine zle_many 5 (242, 454, [zR 1, zR 5, zR 71, zI i], [zI (zadd i 1), zR 1, zR 5], F, G, zsg) rfl ?_
  refine zle_xld rfl (by decide) rfl rfl (fun _ => ?_)
  refine zle_I rfl (fun v1 F1 G1 => ?_)
  refine zle_many 5 (242, 463, [zR 1, zR 5, zR 71, zI i], [zI (zadd i 1), zR 1, zR 71, zI v1], F1, G1, zsg) rfl ?_
  refine zle_xld rfl (by decide) rfl rfl (fun _ => ?_)
  refine zle_I rfl (fun v2 F2 G2 => ?_)
  refine zle_many 1 (242, (bif zcmp .eq v1 v2 then 1578 else 470), [zR 1, zR 5, zR 71, zI i], [], F2, G2, zsg) rfl ?_
  refine zle_eq (fun _ => ?_) (fun _ => ?_)
  · exact zle_rfl
  · refine zle_many 1 (242, 471, [zR 1, zR 5, zR 71, zI i], [zI 0], F2, G2, zsg) rfl ?_
    exact zle_ret rfl
set_option maxRecDepth 20000 in
theorem g_W_472 {d L : Nat} {xs : Nat → Int} {F : zM} {G : zG} (i : Int) : zle (
  if 0 ≤ (zadd i 1) ∧ (zadd i 1) < L then
  if 0 ≤ (zadd i 2) ∧ (zadd i 2) < L then
    zbI (zex d 9 [zR 5, zI (xs (Int.toNat (zadd i 1))), zI (xs (Int.toNat (zadd i 2)))] (F, G, zsg)) (fun v1 F1 G1 =>
      if 0 ≤ (zadd i 1) ∧ (zadd i 1) < L then
        if 0 ≤ (zadd i 2) ∧ (zadd i 2) < L then
          zbI (zex d 92 [zR 71, zI (xs (Int.toNat (zadd i 1))), zI (xs (Int.toNat (zadd i 2)))] (F1, G1, zsg)) (fun v2 F2 G2 =>
            if v1 = v2 then
              zev (zX 1 L xs) d (242, 1578, [zR 1, zR 5, zR 71, zI i], [], F2, G2, zsg)
            else
              some (some (zI 0), F2, G2, zsg))
        else none
      else none)
  else none
else none) (zev (zX 1 L xs) d (242, 472, [zR 1, zR 5, zR 71, zI i], [], F, G, zsg)) := by
  refine zle_many 5 (242, 477, [zR 1, zR 5, zR 71, zI i], [zI (zadd i 1), zR 1, zR 5], F, G, zsg) rfl ?_
  refine zle_xld rfl (by decide) rfl rfl (fun _ => ?_)
  refine zle_many 4 (242, 482, [zR 1, zR 5, zR 71, zI i], [zI (zadd i 2), zR 1, zI (xs (Int.toNat (zadd i 1))), zR 5], F, G, zsg) rfl ?_
  refine zle_xld rfl (by decide) rfl rfl (fun _ => ?_)
  refine zle_I rfl (fun v1 F1 G1 => ?_)
  refine zle_many 5 (242, 491, [zR 1, zR 5, zR 71, zI i], [zI (zadd i 1), zR 1, zR 71, zI v1], F1, G1, zsg) rfl ?_
  refine zle_xld rfl (by decide) rfl rfl (fun _ => ?_)
  refine zle_many 4 (242, 496, [zR 1, zR 5, zR 71, zI i], [zI (zadd i 2), zR 1, zI (xs (Int.toNat (zadd i 1))), zR 71, zI v1], F1, G1, zsg) rfl ?_
  refine zle_xld rfl (by decide) rfl rfl (fun _ => ?_)
  refine zle_I rfl (fun v2 F2 G2 => ?_)
  refine zle_many 1 (242, (bif zcmp .eq v1 v2 then 1578 else 503), [zR 1, zR 5, zR 71, zI i], [], F2, G2, zsg) rfl ?_
  refine zle_eq (fun _ => ?_) (fun _ => ?_)
  · exact zle_rfl
  · refine zle_many 1 (242, 504, [zR 1, zR 5, zR 71, zI i], [zI 0], F2, G2, zsg) rfl ?_
    exact zle_ret rfl
set_option maxRecDepth 20000 in
theorem g_W_505 {d L : Nat} {xs : Nat → Int} {F : zM} {G : zG} (i : Int) : zle (
  if 0 ≤ (zadd i 1) ∧ (zadd i 1) < L then
  if 0 ≤ (zadd i 2) ∧ (zadd i 2) < L then
    zbI (zex d 10 [zR 5, zI (xs (Int.toNat (zadd i 1))), zI (xs (Int.toNat (zadd i 2)))] (F, G, zsg)) (fun v1 F1 G1 =>
      if 0 ≤ (zadd i 1) ∧ (zadd i 1) < L then
        if 0 ≤ (zadd i 2) ∧ (zadd i 2) < L then
          zbI (zex d 69 [zR 71, zI (xs (Int.toNat (zadd i 1))), zI (xs (Int.toNat (zadd i 2)))] (F1, G1, zsg)) (fun v2 F2 G2 =>
            if v1 = v2 then
              zev (zX 1 L xs) d (242, 1578, [zR 1, zR 5, zR 71, zI i], [], F2, G2, zsg)
            else
              some (some (zI 0), F2, G2, zsg))
        else none
      else none)
  else none
else none) (zev (zX 1 L xs) d (242, 505, [zR 1, zR 5, zR 71, zI i], [], F, G, zsg)) := by
  refine zle_many 5 (242, 510, [zR 1, zR 5, zR 71, zI i], [zI (zadd i 1), zR 1, zR 5], F, G, zsg) rfl ?_
  refine zle_xld rfl (by decide) rfl rfl (fun _ => ?_)
  refine zle_many 4 (242, 515, [zR 1, zR 5, zR 71, zI i], [zI (zadd i 2), zR 1, zI (xs (Int.toNat (zadd i 1))), zR 5], F, G, zsg) rfl ?_
  refine zle_xld rfl (by decide) rfl rfl (fun _ => ?_)
  refine zle_I rfl (fun v1 F1 G1 => ?_)
  refine zle_many 5 (242, 524, [zR 1, zR 5, zR 71, zI i], [zI (zadd i 1), zR 1, zR 71, zI v1], F1, G1, zsg) rfl ?_
  refine zle_xld rfl (by decide) rfl rfl (fun _ => ?_)
  refine zle_many 4 (242, 529, [zR 1, zR 5, zR 71, zI i], [zI (zadd i 2), zR 1, zI (xs (Int.toNat (zadd i 1))), zR 71, zI v1], F1, G1, zsg) rfl ?_
  refine zle_xld rfl (by decide) rfl rfl (fun _ => ?_)
  refine zle_I rfl (fun v2 F2 G2 => ?_)
  refine zle_many 1 (242, (bif zcmp .eq v1 v2 then 1578 else 536), [zR 1, zR 5, zR 71, zI i], [], F2, G2, zsg) rfl ?_
  refine zle_eq (fun _ => ?_) (fun _ => ?_)
  · exact zle_rfl
  · refine zle_many 1 (242, 537, [zR 1, zR 5, zR 71, zI i], [zI 0], F2, G2, zsg) rfl ?_
    exact zle_ret rfl
set_option maxRecDepth 20000 in
theorem g_W_538 {d L : Nat} {xs : Nat → Int} {F : zM} {G : zG} (i : Int) : zle (
  if 0 ≤ (zadd i 1) ∧ (zadd i 1) < L then
  if 0 ≤ (zadd i 2) ∧ (zadd i 2) < L then
    if 0 ≤ (zadd i 3) ∧ (zadd i 3) < L then
      zbI (zex d 11 [zR 5, zI (xs (Int.toNat (zadd i 1))), zI (xs (Int.toNat (zadd i 2))), zI (xs (Int.toNat (zadd i 3)))] (F, G, zsg)) (fun v1 F1 G1 =>
        if 0 ≤ (zadd i 1) ∧ (zadd i 1) < L then
          if 0 ≤ (zadd i 2) ∧ (zadd i 2) < L then
            if 0 ≤ (zadd i 3) ∧ (zadd i 3) < L then
              zbI (zex d 71 [zR 71, zI (xs (Int.toNat (zadd i 1))), zI (xs (Int.toNat (zadd i 2))), zI (xs (Int.toNat (zadd i 3)))] (F1, G1, zsg)) (fun v2 F2 G2 =>
                if v1 = v2 then
                  zev (zX 1 L xs) d (242, 1578, [zR 1, zR 5, zR 71, zI i], [], F2, G2, zsg)
                else
                  some (some (zI 0), F2, G2, zsg))
            else none
          else none
        else none)
    else none
  else none
else none) (zev (zX 1 L xs) d (242, 538, [zR 1, zR 5, zR 71, zI i], [], F, G, zsg)) := by
  refine zle_many 5 (242, 543, [zR 1, zR 5, zR 71, zI i], [zI (zadd i 1), zR 1, zR 5], F, G, zsg) rfl ?_
  refine zle_xld rfl (by decide) rfl rfl (fun _ => ?_)
  refine zle_many 4 (242, 548, [zR 1, zR 5, zR 71, zI i], [zI (zadd i 2), zR 1, zI (xs (Int.toNat (zadd i 1))), zR 5], F, G, zsg) rfl ?_
  refine zle_xld rfl (by decide) rfl rfl (fun _ => ?_)
  refine zle_many 4 (242, 553, [zR 1, zR 5, zR 71, zI i], [zI (zadd i 3), zR 1, zI (xs (Int.toNat (zadd i 2))), zI (xs (Int.toNat (zadd i 1))), zR 5], F, G, zsg) rfl ?_
  refine zle_xld rfl (by decide) rfl rfl (fun _ => ?_)
  refine zle_I rfl (fun v1 F1 G1 => ?_)
  refine zle_many 5 (242, 562, [zR 1, zR 5, zR 71, zI i], [zI (zadd i 1), zR 1, zR 71, zI v1], F1, G1, zsg) rfl ?_
  refine zle_xld rfl (by decide) rfl rfl (fun _ => ?_)
  refine zle_many 4 (242, 567, [zR 1, zR 5, zR 71, zI i], [zI (zadd i 2), zR 1, zI (xs (Int.toNat (zadd i 1))), zR 71, zI v1], F1, G1, zsg) rfl ?_
  refine zle_xld rfl (by decide) rfl rfl (fun _ => ?_)
  refine zle_many 4 (242, 572, [zR 1, zR 5, zR 71, zI i], [zI (zadd i 3), zR 1, zI (xs (Int.toNat (zadd i 2))), zI (xs (Int.toNat (zadd i 1))), zR 71, zI v1], F1, G1, zsg) rfl ?_
  refine zle_xld rfl (by decide) rfl rfl (fun _ => ?_)
  refine zle_I rfl (fun v2 F2 G2 => ?_)
  refine zle_many 1 (242, (bif zcmp .eq v1 v2 then 1578 else 579), [zR 1, zR 5, zR 71, zI i], [], F2, G2, zsg) rfl ?_
  refine zle_eq (fun _ => ?_) (fun _ => ?_)
  · exact zle_rfl
  · refine zle_many 1 (242, 580, [zR 1, zR 5, zR 71, zI i], [zI 0], F2, G2, zsg) rfl ?_
    exact zle_ret rfl
set_option maxRecDepth 20000 in
theorem g_W_581 {d L : Nat} {xs : Nat → Int} {F : zM} {G : zG} (i : Int) : zle (
  if 0 ≤ (zadd i 1) ∧ (zadd i 1) < L then
  if 0 ≤ (zadd i 2) ∧ (zadd i 2) < L then
    zbI (zex d 12 [zR 5, zI (xs (Int.toNat (zadd i 1))), zI (xs (Int.toNat (zadd i 2)))] (F, G, zsg)) (fun v1 F1 G1 =>
      if 0 ≤ (zadd i 1) ∧ (zadd i 1) < L then
        if 0 ≤ (zadd i 2) ∧ (zadd i 2) < L then
          zbI (zex d 74 [zR 71, zI (xs (Int.toNat (zadd i 1))), zI (xs (Int.toNat (zadd i 2)))] (F1, G1, zsg)) (fun v2 F2 G2 =>
            if v1 = v2 then
              zev (zX 1 L xs) d (242, 1578, [zR 1, zR 5, zR 71, zI i], [], F2, G2, zsg)
            else
              some (some (zI 0), F2, G2, zsg))
        else none
      else none)
  else none
else none) (zev (zX 1 L xs) d (242, 581, [zR 1, zR 5, zR 71, zI i], [], F, G, zsg)) := by
  refine zle_many 5 (242, 586, [zR 1, zR 5, zR 71, zI i], [zI (zadd i 1), zR 1, zR 5], F, G, zsg) rfl ?_
  refine zle_xld rfl (by decide) rfl rfl (fun _ => ?_)
  refine zle_many 4 (242, 591, [zR 1, zR 5, zR 71, zI i], [zI (zadd i 2), zR 1, zI (xs (Int.toNat (zadd i 1))), zR 5], F, G, zsg) rfl ?_
  refine zle_xld rfl (by decide) rfl rfl (fun _ => ?_)
  refine zle_I rfl (fun v1 F1 G1 => ?_)
  refine zle_many 5 (242, 600, [zR 1, zR 5, zR 71, zI i], [zI (zadd i 1), zR 1, zR 71, zI v1], F1, G1, zsg) rfl ?_
  refine zle_xld rfl (by decide) rfl rfl (fun _ => ?_)
  refine zle_many 4 (242, 605, [zR 1, zR 5, zR 71, zI i], [zI (zadd i 2), zR 1, zI (xs (Int.toNat (zadd i 1))), zR 71, zI v1], F1, G1, zsg) rfl ?_
  refine zle_xld rfl (by decide) rfl rfl (fun _ => ?_)
  refine zle_I rfl (fun v2 F2 G2 => ?_)
  refine zle_many 1 (242, (bif zcmp .eq v1 v2 then 1578 else 612), [zR 1, zR 5, zR 71, zI i], [], F2, G2, zsg) rfl ?_
  refine zle_eq (fun _ => ?_) (fun _ => ?_)
  · exact zle_rfl
  · refine zle_many 1 (242, 613, [zR 1, zR 5, zR 71, zI i], [zI 0], F2, G2, zsg) rfl ?_
    exact zle_ret rfl
set_option maxRecDepth 20000 in
theorem g_W_614 {d L : Nat} {xs : Nat → Int} {F : zM} {G : zG} (i : Int) : zle (
  if 0 ≤ (zadd i 1) ∧ (zadd i 1) < L then
  if 0 ≤ (zadd i 2) ∧ (zadd i 2) < L then
    zbI (zex d 13 [zR 5, zI (xs (Int.toNat (zadd i 1))), zI (xs (Int.toNat (zadd i 2)))] (F, G, zsg)) (fun v1 F1 G1 =>
      if 0 ≤ (zadd i 1) ∧ (zadd i 1) < L then
        if 0 ≤ (zadd i 2) ∧ (zadd i 2) < L then
          zbI (zex d 75 [zR 71, zI (xs (Int.toNat (zadd i 1))), zI (xs (Int.toNat (zadd i 2)))] (F1, G1, zsg)) (fun v2 F2 G2 =>
            if v1 = v2 then
              zev (zX 1 L xs) d (242, 1578, [zR 1, zR 5, zR 71, zI i], [], F2, G2, zsg)
            else
              some (some (zI 0), F2, G2, zsg))
        else none
      else none)
  else none
else none) (zev (zX 1 L xs) d (242, 614, [zR 1, zR 5, zR 71, zI i], [], F, G, zsg)) := by
  refine zle_many 5 (242, 619, [zR 1, zR 5, zR 71, zI i], [zI (zadd i 1), zR 1, zR 5], F, G, zsg) rfl ?_
  refine zle_xld rfl (by decide) rfl rfl (fun _ => ?_)
  refine zle_many 4 (242, 624, [zR 1, zR 5, zR 71, zI i], [zI (zadd i 2), zR 1, zI (xs (Int.toNat (zadd i 1))), zR 5], F, G, zsg) rfl ?_
  refine zle_xld rfl (by decide) rfl rfl (fun _ => ?_)
  refine zle_I rfl (fun v1 F1 G1 => ?_)
  refine zle_many 5 (242, 633, [zR 1, zR 5, zR 71, zI i], [zI (zadd i 1), zR 1, zR 71, zI v1], F1, G1, zsg) rfl ?_
  refine zle_xld rfl (by decide) rfl rfl (fun _ => ?_)
  refine zle_many 4 (242, 638, [zR 1, zR 5, zR 71, zI i], [zI (zadd i 2), zR 1, zI (xs (Int.toNat (zadd i 1))), zR 71, zI v1], F1, G1, zsg) rfl ?_
  refine zle_xld rfl (by decide) rfl rfl (fun _ => ?_)
  refine zle_I rfl (fun v2 F2 G2 => ?_)
  refine zle_many 1 (242, (bif zcmp .eq v1 v2 then 1578 else 645), [zR 1, zR 5, zR 71, zI i], [], F2, G2, zsg) rfl ?_
  refine zle_eq (fun _ => ?_) (fun _ => ?_)
  · exact zle_rfl
  · refine zle_many 1 (242, 646, [zR 1, zR 5, zR 71, zI i], [zI 0], F2, G2, zsg) rfl ?_
    exact zle_ret rfl
set_option maxRecDepth 20000 in
theorem g_W_647 {d L : Nat} {xs : Nat → Int} {F : zM} {G : zG} (i : Int) : zle (
  if 0 ≤ (zadd i 1) ∧ (zadd i 1) < L then
  if 0 ≤ (zadd i 2) ∧ (zadd i 2) < L then
    zbI (zex d 14 [zR 5, zI (xs (Int.toNat (zadd i 1))), zI (xs (Int.toNat (zadd i 2)))] (F, G, zsg)) (fun v1 F1 G1 =>
      if 0 ≤ (zadd i 1) ∧ (zadd i 1) < L then
        if 0 ≤ (zadd i 2) ∧ (zadd i 2) < L then
          zbI (zex d 93 [zR 71, zI (xs (Int.toNat (zadd i 1))), zI (xs (Int.toNat (zadd i 2)))] (F1, G1, zsg)) (fun v2 F2 G2 =>
            if v1 = v2 then
              zev (zX 1 L xs) d (242, 1578, [zR 1, zR 5, zR 71, zI i], [], F2, G2, zsg)
            else
              some (some (zI 0), F2, G2, zsg))
        else none
      else none)
  else none
else none) (zev (zX 1 L xs) d (242, 647, [zR 1, zR 5, zR 71, zI i], [], F, G, zsg)) := by
  refine zle_many 5 (242, 652, [zR 1, zR 5, zR 71, zI i], [zI (zadd i 1), zR 1, zR 5], F, G, zsg) rfl ?_
  refine zle_xld rfl (by decide) rfl rfl (fun _ => ?_)
  refine zle_many 4 (242, 657, [zR 1, zR 5, zR 71, zI i], [zI (zadd i 2), zR 1, zI (xs (Int.toNat (zadd i 1))), zR 5], F, G, zsg) rfl ?_
  refine zle_xld rfl (by decide) rfl rfl (fun _ => ?_)
  refine zle_I rfl (fun v1 F1 G1 => ?_)
  refine zle_many 5 (242, 666, [zR 1, zR 5, zR 71, zI i], [zI (zadd i 1), zR 1, zR 71, zI v1], F1, G1, zsg) rfl ?_
  refine zle_xld rfl (by decide) rfl rfl (fun _ => ?_)
  refine zle_many 4 (242, 671, [zR 1, zR 5, zR 71, zI i], [zI (zadd i 2), zR 1, zI (xs (Int.toNat (zadd i 1))), zR 71, zI v1], F1, G1, zsg) rfl ?_
  refine zle_xld rfl (by decide) rfl rfl (fun _ => ?_)
  refine zle_I rfl (fun v2 F2 G2 => ?_)
  refine zle_many 1 (242, (bif zcmp .eq v1 v2 then 1578 else 678), [zR 1, zR 5, zR 71, zI i], [], F2, G2, zsg) rfl ?_
  refine zle_eq (fun _ => ?_) (fun _ => ?_)
  · exact zle_rfl
  · refine zle_many 1 (242, 679, [zR 1, zR 5, zR 71, zI i], [zI 0], F2, G2, zsg) rfl ?_
    exact zle_ret rfl
set_option maxRecDepth 20000 in
theorem g_W_680 {d L : Nat} {xs : Nat → Int} {F : zM} {G : zG} (i : Int) : zle (
  if 0 ≤ (zadd i 1) ∧ (zadd i 1) < L then
  if 0 ≤ (zadd i 2) ∧ (zadd i 2) < L then
    zbI (zex d 15 [zR 5, zI (xs (Int.toNat (zadd i 1))), zI (xs (Int.toNat (zadd i 2)))] (F, G, zsg)) (fun v1 F1 G1 =>
      if 0 ≤ (zadd i 1) ∧ (zadd i 1) < L then
        if 0 ≤ (zadd i 2) ∧ (zadd i 2) < L then
          zbI (zex d 94 [zR 71, zI (xs (Int.toNat (zadd i 1))), zI (xs (Int.toNat (zadd i 2)))] (F1, G1, zsg)) (fun v2 F2 G2 =>
            if v1 = v2 then
              zev (zX 1 L xs) d (242, 1578, [zR 1, zR 5, zR 71, zI i], [], F2, G2, zsg)
            else
              some (some (zI 0), F2, G2, zsg))
        else none
      else none)
  else none
else none) (zev (zX 1 L xs) d (242, 680, [zR 1, zR 5, zR 71, zI i], [], F, G, zsg)) := by
  refine zle_many 5 (242, 685, [zR 1, zR 5, zR 71, zI i], [zI (zadd i 1), zR 1, zR 5], F, G, zsg) rfl ?_
  refine zle_xld rfl (by decide) rfl rfl (fun _ => ?_)
  refine zle_many 4 (242, 690, [zR 1, zR 5, zR 71, zI i], [zI (zadd i 2), zR 1, zI (xs (Int.toNat (zadd i 1))), zR 5], F, G, zsg) rfl ?_
  refine zle_xld rfl (by decide) rfl rfl (fun _ => ?_)
  refine zle_I rfl (fun v1 F1 G1 => ?_)
  refine zle_many 5 (242, 699, [zR 1, zR 5, zR 71, zI i], [zI (zadd i 1), zR 1, zR 71, zI v1], F1, G1, zsg) rfl ?_
  refine zle_xld rfl (by decide) rfl rfl (fun _ => ?_)
  refine zle_many 4 (242, 704, [zR 1, zR 5, zR 71, zI i], [zI (zadd i 2), zR 1, zI (xs (Int.toNat (zadd i 1))), zR 71, zI v1], F1, G1, zsg) rfl ?_
  refine zle_xld rfl (by decide) rfl rfl (fun _ => ?_)
  refine zle_I rfl (fun v2 F2 G2 => ?_)
  refine zle_many 1 (242, (bif zcmp .eq v1 v2 then 1578 else 711), [zR 1, zR 5, zR 71, zI i], [], F2, G2, zsg) rfl ?_
  refine zle_eq (fun _ => ?_) (fun _ => ?_)
  · exact zle_rfl
  · refine zle_many 1 (242, 712, [zR 1, zR 5, zR 71, zI i], [zI 0], F2, G2, zsg) rfl ?_
    exact zle_ret rfl
set_option maxRecDepth 20000 in
theorem g_W_713 {d L : Nat} {xs : Nat → Int} {F : zM} {G : zG} (i : Int) : zle (
  if 0 ≤ (zadd i 1) ∧ (zadd i 1) < L then
  if 0 ≤ (zadd i 2) ∧ (zadd i 2) < L then
    if 0 ≤ (zadd i 3) ∧ (zadd i 3) < L then
      zbI (zex d 16 [zR 5, zI (xs (Int.toNat (zadd i 1))), zI (xs (Int.toNat (zadd i 2))), zI (xs (Int.toNat (zadd i 3)))] (F, G, zsg)) (fun v1 F1 G1 =>
        if 0 ≤ (zadd i 1) ∧ (zadd i 1) < L then
          if 0 ≤ (zadd i 2) ∧ (zadd i 2) < L then
            if 0 ≤ (zadd i 3) ∧ (zadd i 3) < L then
              zbI (zex d 57 [zR 71, zI (xs (Int.toNat (zadd i 1))), zI (xs (Int.toNat (zadd i 2))), zI (xs (Int.toNat (zadd i 3)))] (F1, G1, zsg)) (fun v2 F2 G2 =>
                if v1 = v2 then
                  zev (zX 1 L xs) d (242, 1578, [zR 1, zR 5, zR 71, zI i], [], F2, G2, zsg)
                else
                  some (some (zI 0), F2, G2, zsg))
            else none
          else none
        else none)
    else none
  else none
else none) (zev (zX 1 L xs) d (242, 713, [zR 1, zR 5, zR 71, zI i], [], F, G, zsg)) := by
  refine zle_many 5 (242, 718, [zR 1, zR 5, zR 71, zI i], [zI (zadd i 1), zR 1, zR 5], F, G, zsg) rfl ?_
  refine zle_xld rfl (by decide) rfl rfl (fun _ => ?_)
  refine zle_many 4 (242, 723, [zR 1, zR 5, zR 71, zI i], [zI (zadd i 2), zR 1, zI (xs (Int.toNat (zadd i 1))), zR 5], F, G, zsg) rfl ?_
  refine zle_xld rfl (by decide) rfl rfl (fun _ => ?_)
  refine zle_many 4 (242, 728, [zR 1, zR 5, zR 71, zI i], [zI (zadd i 3), zR 1, zI (xs (Int.toNat (zadd i 2))), zI (xs (Int.toNat (zadd i 1))), zR 5], F, G, zsg) rfl ?_
  refine zle_xld rfl (by decide) rfl rfl (fun _ => ?_)
  refine zle_I rfl (fun v1 F1 G1 => ?_)
  refine zle_many 5 (242, 737, [zR 1, zR 5, zR 71, zI i], [zI (zadd i 1), zR 1, zR 71, zI v1], F1, G1, zsg) rfl ?_
  refine zle_xld rfl (by decide) rfl rfl (fun _ => ?_)
  refine zle_many 4 (242, 742, [zR 1, zR 5, zR 71, zI i], [zI (zadd i 2), zR 1, zI (xs (Int.toNat (zadd i 1))), zR 71, zI v1], F1, G1, zsg) rfl ?_
  refine zle_xld rfl (by decide) rfl rfl (fun _ => ?_)
  refine zle_many 4 (242, 747, [zR 1, zR 5, zR 71, zI i], [zI (zadd i 3), zR 1, zI (xs (Int.toNat (zadd i 2))), zI (xs (Int.toNat (zadd i 1))), zR 71, zI v1], F1, G1, zsg) rfl ?_
  refine zle_xld rfl (by decide) rfl rfl (fun _ => ?_)
  refine zle_I rfl (fun v2 F2 G2 => ?_)
  refine zle_many 1 (242, (bif zcmp .eq v1 v2 then 1578 else 754), [zR 1, zR 5, zR 71, zI i], [], F2, G2, zsg) rfl ?_
  refine zle_eq (fun _ => ?_) (fun _ => ?_)
  · exact zle_rfl
  · refine zle_many 1 (242, 755, [zR 1, zR 5, zR 71, zI i], [zI 0], F2, G2, zsg) rfl ?_
    exact zle_ret rfl
set_option maxRecDepth 20000 in
theorem g_W_756 {d L : Nat} {xs : Nat → Int} {F : zM} {G : zG} (i : Int) : zle (
  if 0 ≤ (zadd i 1) ∧ (zadd i 1) < L then
  zbI (zex d 17 [zR 5, zI (xs (Int.toNat (zadd i 1)))] (F, G, zsg)) (fun v1 F1 G1 =>
    if 0 ≤ (zadd i 1) ∧ (zadd i 1) < L then
      zbI (zex d 95 [zR 71, zI (xs (Int.toNat (zadd i 1)))] (F1, G1, zsg)) (fun v2 F2 G2 =>
        if v1 = v2 then
          zev (zX 1 L xs) d (242, 1578, [zR 1, zR 5, zR 71, zI i], [], F2, G2, zsg)
        else
          some (some (zI 0), F2, G2, zsg))
    else none)
else none) (zev (zX 1 L xs) d (242, 756, [zR 1, zR 5, zR 71, zI i], [], F, G, zsg)) := by
  refine zle_many 5 (242, 761, [zR 1, zR 5, zR 71, zI i], [zI (zadd i 1), zR 1, zR 5], F, G, zsg) rfl ?_
  refine zle_xld rfl (by decide) rfl rfl (fun _ => ?_)
  refine zle_I rfl (fun v1 F1 G1 => ?_)
  refine zle_many 5 (242, 770, [zR 1, zR 5, zR 71, zI i], [zI (zadd i 1), zR 1, zR 71, zI v1], F1, G1, zsg) rfl ?_
  refine zle_xld rfl (by decide) rfl rfl (fun _ => ?_)
  refine zle_I rfl (fun v2 F2 G2 => ?_)
  refine zle_many 1 (242, (bif zcmp .eq v1 v2 then 1578 else 777), [zR 1, zR 5, zR 71, zI i], [], F2, G2, zsg) rfl ?_
  refine zle_eq (fun _ => ?_) (fun _ => ?_)
  · exact zle_rfl
  · refine zle_many 1 (242, 778, [zR 1, zR 5, zR 71, zI i], [zI 0], F2, G2, zsg) rfl ?_
    exact zle_ret rfl
set_option maxRecDepth 20000 in
theorem g_W_779 {d L : Nat} {xs : Nat → Int} {F : zM} {G : zG} (i : Int) : zle (
  if 0 ≤ (zadd i 1) ∧ (zadd i 1) < L then
  zbI (zex d 18 [zR 5, zI (xs (Int.toNat (zadd i 1)))] (F, G, zsg)) (fun v1 F1 G1 =>
    if 0 ≤ (zadd i 1) ∧ (zadd i 1) < L then
      zbI (zex d 96 [zR 71, zI (xs (Int.toNat (zadd i 1)))] (F1, G1, zsg)) (fun v2 F2 G2 =>
        if v1 = v2 then
          zev (zX 1 L xs) d (242, 1578, [zR 1, zR 5, zR 71, zI i], [], F2, G2, zsg)
        else
          some (some (zI 0), F2, G2, zsg))
    else none)
else none) (zev (zX 1 L xs) d (242, 779, [zR 1, zR 5, zR 71, zI i], [], F, G, zsg)) := by
  refine zle_many 5 (242, 784, [zR 1, zR 5, zR 71, zI i], [zI (zadd i 1), zR 1, zR 5], F, G, zsg) rfl ?_
  refine zle_xld rfl (by decide) rfl rfl (fun _ => ?_)
  refine zle_I rfl (fun v1 F1 G1 => ?_)
  refine zle_many 5 (242, 793, [zR 1, zR 5, zR 71, zI i], [zI (zadd i 1), zR 1, zR 71, zI v1], F1, G1, zsg) rfl ?_
  refine zle_xld rfl (by decide) rfl rfl (fun _ => ?_)
  refine zle_I rfl (fun v2 F2 G2 => ?_)
  refine zle_many 1 (242, (bif zcmp .eq v1 v2 then 1578 else 800), [zR 1, zR 5, zR 71, zI i], [], F2, G2, zsg) rfl ?_
  refine zle_eq (fun _ => ?_) (fun _ => ?_)
  · exact zle_rfl
  · refine zle_many 1 (242, 801, [zR 1, zR 5, zR 71, zI i], [zI 0], F2, G2, zsg) rfl ?_
    exact zle_ret rfl
set_option maxRecDepth 20000 in
theorem g_W_802 {d L : Nat} {xs : Nat → Int} {F : zM} {G : zG} (i : Int) : zle (
  if 0 ≤ (zadd i 1) ∧ (zadd i 1) < L then
  zbI (zex d 19 [zR 5, zI (xs (Int.toNat (zadd i 1)))] (F, G, zsg)) (fun v1 F1 G1 =>
    if 0 ≤ (zadd i 1) ∧ (zadd i 1) < L then
      zbI (zex d 97 [zR 71, zI (xs (Int.toNat (zadd i 1)))] (F1, G1, zsg)) (fun v2 F2 G2 =>
        if v1 = v2 then
          zev (zX 1 L xs) d (242, 1578, [zR 1, zR 5, zR 71, zI i], [], F2, G2, zsg)
        else
          some (some (zI 0), F2, G2, zsg))
    else none)
else none) (zev (zX 1 L xs) d (242, 802, [zR 1, zR 5, zR 71, zI i], [], F, G, zsg)) := by
  refine zle_many 5 (242, 807, [zR 1, zR 5, zR 71, zI i], [zI (zadd i 1), zR 1, zR 5], F, G, zsg) rfl ?_
  refine zle_xld rfl (by decide) rfl rfl (fun _ => ?_)
  refine zle_I rfl (fun v1 F1 G1 => ?_)
  refine zle_many 5 (242, 816, [zR 1, zR 5, zR 71, zI i], [zI (zadd i 1), zR 1, zR 71, zI v1], F1, G1, zsg) rfl ?_
  refine zle_xld rfl (by decide) rfl rfl (fun _ => ?_)
  refine zle_I rfl (fun v2 F2 G2 => ?_)
  refine zle_many 1 (242, (bif zcmp .eq v1 v2 then 1578 else 823), [zR 1, zR 5, zR 71, zI i], [], F2, G2, zsg) rfl ?_
  refine zle_eq (fun _ => ?_) (fun _ => ?_)
  · exact zle_rfl
  · refine zle_many 1 (242, 824, [zR 1, zR 5, zR 71, zI i], [zI 0], F2, G2, zsg) rfl ?_
    exact zle_ret rfl
set_option maxRecDepth 20000 in
theorem g_W_825 {d L : Nat} {xs : Nat → Int} {F : zM} {G : zG} (i : Int) : zle (
  if 0 ≤ (zadd i 1) ∧ (zadd i 1) < L then
  if 0 ≤ (zadd i 2) ∧ (zadd i 2) < L then
    if 0 ≤ (zadd i 3) ∧ (zadd i 3) < L then
      zbI (zex d 20 [zR 5, zL (zlor (zlshl (zi2l (xs (Int.toNat (zadd i 1)))) 32) (zland (zi2l (xs (Int.toNat (zadd i 2)))) (BitVec.ofInt 64 (4294967295)))), zI (xs (Int.toNat (zadd i 3)))] (F, G, zsg)) (fun v1 F1 G1 =>
        if 0 ≤ (zadd i 1) ∧ (zadd i 1) < L then
          if 0 ≤ (zadd i 2) ∧ (zadd i 2) < L then
            if 0 ≤ (zadd i 3) ∧ (zadd i 3) < L then
              zbI (zex d 98 [zR 71, zL (zlor (zlshl (zi2l (xs (Int.toNat (zadd i 1)))) 32) (zland (zi2l (xs (Int.toNat (zadd i 2)))) (BitVec.ofInt 64 (4294967295)))), zI (xs (Int.toNat (zadd i 3)))] (F1, G1, zsg)) (fun v2 F2 G2 =>
                if v1 = v2 then
                  zev (zX 1 L xs) d (242, 1578, [zR 1, zR 5, zR 71, zI i], [], F2, G2, zsg)
                else
                  some (some (zI 0), F2, G2, zsg))
            else none
          else none
        else none)
    else none
  else none
else none) (zev (zX 1 L xs) d (242, 825, [zR 1, zR 5, zR 71, zI i], [], F, G, zsg)) := by
  refine zle_many 5 (242, 830, [zR 1, zR 5, zR 71, zI i], [zI (zadd i 1), zR 1, zR 5], F, G, zsg) rfl ?_
  refine zle_xld rfl (by decide) rfl rfl (fun _ => ?_)
  refine zle_many 7 (242, 839, [zR 1, zR 5, zR 71, zI i], [zI (zadd i 2), zR 1, zL (zlshl (zi2l (xs (Int.toNat (zadd i 1)))) 32), zR 5], F, G, zsg) rfl ?_
  refine zle_xld rfl (by decide) rfl rfl (fun _ => ?_)
  refine zle_many 8 (242, 850, [zR 1, zR 5, zR 71, zI i], [zI (zadd i 3), zR 1, zL (zlor (zlshl (zi2l (xs (Int.toNat (zadd i 1)))) 32) (zland (zi2l (xs (Int.toNat (zadd i 2)))) (BitVec.ofInt 64 (4294967295)))), zR 5], F, G, zsg) rfl ?_
  refine zle_xld rfl (by decide) rfl rfl (fun _ => ?_)
  refine zle_I rfl (fun v1 F1 G1 => ?_)
  refine zle_many 5 (242, 859, [zR 1, zR 5, zR 71, zI i], [zI (zadd i 1), zR 1, zR 71, zI v1], F1, G1, zsg) rfl ?_
  refine zle_xld rfl (by decide) rfl rfl (fun _ => ?_)
  refine zle_many 7 (242, 868, [zR 1, zR 5, zR 71, zI i], [zI (zadd i 2), zR 1, zL (zlshl (zi2l (xs (Int.toNat (zadd i 1)))) 32), zR 71, zI v1], F1, G1, zsg) rfl ?_
  refine zle_xld rfl (by decide) rfl rfl (fun _ => ?_)
  refine zle_many 8 (242, 879, [zR 1, zR 5, zR 71, zI i], [zI (zadd i 3), zR 1, zL (zlor (zlshl (zi2l (xs (Int.toNat (zadd i 1)))) 32) (zland (zi2l (xs (Int.toNat (zadd i 2)))) (BitVec.ofInt 64 (4294967295)))), zR 71, zI v1], F1, G1, zsg) rfl ?_
  refine zle_xld rfl (by decide) rfl rfl (fun _ => ?_)
  refine zle_I rfl (fun v2 F2 G2 => ?_)
  refine zle_many 1 (242, (bif zcmp .eq v1 v2 then 1578 else 886), [zR 1, zR 5, zR 71, zI i], [], F2, G2, zsg) rfl ?_
  refine zle_eq (fun _ => ?_) (fun _ => ?_)
  · exact zle_rfl
  · refine zle_many 1 (242, 887, [zR 1, zR 5, zR 71, zI i], [zI 0], F2, G2, zsg) rfl ?_
    exact zle_ret rfl
set_option maxRecDepth 20000 in
theorem g_W_888 {d L : Nat} {xs : Nat → Int} {F : zM} {G : zG} (i : Int) : zle (
  zbI (zex d 21 [zR 5] (F, G, zsg)) (fun v1 F1 G1 =>
  zbI (zex d 102 [zR 71] (F1, G1, zsg)) (fun v2 F2 G2 =>
    if v1 = v2 then
      zev (zX 1 L xs) d (242, 1578, [zR 1, zR 5, zR 71, zI i], [], F2, G2, zsg)
    else
      some (some (zI 0), F2, G2, zsg)))) (zev (zX 1 L xs) d (242, 888, [zR 1, zR 5, zR 71, zI i], [], F, G, zsg)) := by
  refine zle_many 1 (242, 889, [zR 1, zR 5, zR 71, zI i], [zR 5], F, G, zsg) rfl ?_
  refine zle_I rfl (fun v1 F1 G1 => ?_)
  refine zle_many 1 (242, 893, [zR 1, zR 5, zR 71, zI i], [zR 71, zI v1], F1, G1, zsg) rfl ?_
  refine zle_I rfl (fun v2 F2 G2 => ?_)
  refine zle_many 1 (242, (bif zcmp .eq v1 v2 then 1578 else 899), [zR 1, zR 5, zR 71, zI i], [], F2, G2, zsg) rfl ?_
  refine zle_eq (fun _ => ?_) (fun _ => ?_)
  · exact zle_rfl
  · refine zle_many 1 (242, 900, [zR 1, zR 5, zR 71, zI i], [zI 0], F2, G2, zsg) rfl ?_
    exact zle_ret rfl
set_option maxRecDepth 20000 in
theorem g_W_901 {d L : Nat} {xs : Nat → Int} {F : zM} {G : zG} (i : Int) : zle (
  if 0 ≤ (zadd i 1) ∧ (zadd i 1) < L then
  if 0 ≤ (zadd i 2) ∧ (zadd i 2) < L then
    if 0 ≤ (zadd i 3) ∧ (zadd i 3) < L then
      zbI (zex d 22 [zR 5, zI (xs (Int.toNat (zadd i 1))), zI (xs (Int.toNat (zadd i 2))), zI (xs (Int.toNat (zadd i 3)))] (F, G, zsg)) (fun v1 F1 G1 =>
        if 0 ≤ (zadd i 1) ∧ (zadd i 1) < L then
          if 0 ≤ (zadd i 2) ∧ (zadd i 2) < L then
            if 0 ≤ (zadd i 3) ∧ (zadd i 3) < L then
              zbI (zex d 104 [zR 71, zI (xs (Int.toNat (zadd i 1))), zI (xs (Int.toNat (zadd i 2))), zI (xs (Int.toNat (zadd i 3)))] (F1, G1, zsg)) (fun v2 F2 G2 =>
                if v1 = v2 then
                  zev (zX 1 L xs) d (242, 1578, [zR 1, zR 5, zR 71, zI i], [], F2, G2, zsg)
                else
                  some (some (zI 0), F2, G2, zsg))
            else none
          else none
        else none)
    else none
  else none
else none) (zev (zX 1 L xs) d (242, 901, [zR 1, zR 5, zR 71, zI i], [], F, G, zsg)) := by
  refine zle_many 5 (242, 906, [zR 1, zR 5, zR 71, zI i], [zI (zadd i 1), zR 1, zR 5], F, G, zsg) rfl ?_
  refine zle_xld rfl (by decide) rfl rfl (fun _ => ?_)
  refine zle_many 4 (242, 911, [zR 1, zR 5, zR 71, zI i], [zI (zadd i 2), zR 1, zI (xs (Int.toNat (zadd i 1))), zR 5], F, G, zsg) rfl ?_
  refine zle_xld rfl (by decide) rfl rfl (fun _ => ?_)
  refine zle_many 4 (242, 916, [zR 1, zR 5, zR 71, zI i], [zI (zadd i 3), zR 1, zI (xs (Int.toNat (zadd i 2))), zI (xs (Int.toNat (zadd i 1))), zR 5], F, G, zsg) rfl ?_
  refine zle_xld rfl (by decide) rfl rfl (fun _ => ?_)
  refine zle_I rfl (fun v1 F1 G1 => ?_)
  refine zle_many 5 (242, 925, [zR 1, zR 5, zR 71, zI i], [zI (zadd i 1), zR 1, zR 71, zI v1], F1, G1, zsg) rfl ?_
  refine zle_xld rfl (by decide) rfl rfl (fun _ => ?_)
  refine zle_many 4 (242, 930, [zR 1, zR 5, zR 71, zI i], [zI (zadd i 2), zR 1, zI (xs (Int.toNat (zadd i 1))), zR 71, zI v1], F1, G1, zsg) rfl ?_
  refine zle_xld rfl (by decide) rfl rfl (fun _ => ?_)
  refine zle_many 4 (242, 935, [zR 1, zR 5, zR 71, zI i], [zI (zadd i 3), zR 1, zI (xs (Int.toNat (zadd i 2))), zI (xs (Int.toNat (zadd i 1))), zR 71, zI v1], F1, G1, zsg) rfl ?_
  refine zle_xld rfl (by decide) rfl rfl (fun _ => ?_)
  refine zle_I rfl (fun v2 F2 G2 => ?_)
  refine zle_many 1 (242, (bif zcmp .eq v1 v2 then 1578 else 942), [zR 1, zR 5, zR 71, zI i], [], F2, G2, zsg) rfl ?_
  refine zle_eq (fun _ => ?_) (fun _ => ?_)
  · exact zle_rfl
  · refine zle_many 1 (242, 943, [zR 1, zR 5, zR 71, zI i], [zI 0], F2, G2, zsg) rfl ?_
    exact zle_ret rfl
set_option maxRecDepth 20000 in
theorem g_W_944 {d L : Nat} {xs : Nat → Int} {F : zM} {G : zG} (i : Int) : zle (
  if 0 ≤ (zadd i 1) ∧ (zadd i 1) < L then
  if 0 ≤ (zadd i 2) ∧ (zadd i 2) < L then
    if 0 ≤ (zadd i 3) ∧ (zadd i 3) < L then
      zbI (zex d 23 [zR 5, zI (xs (Int.toNat (zadd i 1))), zI (xs (Int.toNat (zadd i 2))), zI (xs (Int.toNat (zadd i 3)))] (F, G, zsg)) (fun v1 F1 G1 =>
        if 0 ≤ (zadd i 1) ∧ (zadd i 1) < L then
          if 0 ≤ (zadd i 2) ∧ (zadd i 2) < L then
            if 0 ≤ (zadd i 3) ∧ (zadd i 3) < L then
              zbI (zex d 108 [zR 71, zI (xs (Int.toNat (zadd i 1))), zI (xs (Int.toNat (zadd i 2))), zI (xs (Int.toNat (zadd i 3)))] (F1, G1, zsg)) (fun v2 F2 G2 =>
                if v1 = v2 then
                  zev (zX 1 L xs) d (242, 1578, [zR 1, zR 5, zR 71, zI i], [], F2, G2, zsg)
                else
                  some (some (zI 0), F2, G2, zsg))
            else none
          else none
        else none)
    else none
  else none
else none) (zev (zX 1 L xs) d (242, 944, [zR 1, zR 5, zR 71, zI i], [], F, G, zsg)) := by
  refine zle_many 5 (242, 949, [zR 1, zR 5, zR 71, zI i], [zI (zadd i 1), zR 1, zR 5], F, G, zsg) rfl ?_
  refine zle_xld rfl (by decide) rfl rfl (fun _ => ?_)
  refine zle_many 4 (242, 954, [zR 1, zR 5, zR 71, zI i], [zI (zadd i 2), zR 1, zI (xs (Int.toNat (zadd i 1))), zR 5], F, G, zsg) rfl ?_
  refine zle_xld rfl (by decide) rfl rfl (fun _ => ?_)
  refine zle_many 4 (242, 959, [zR 1, zR 5, zR 71, zI i], [zI (zadd i 3), zR 1, zI (xs (Int.toNat (zadd i 2))), zI (xs (Int.toNat (zadd i 1))), zR 5], F, G, zsg) rfl ?_
  refine zle_xld rfl (by decide) rfl rfl (fun _ => ?_)
  refine zle_I rfl (fun v1 F1 G1 => ?_)
  refine zle_many 5 (242, 968, [zR 1, zR 5, zR 71, zI i], [zI (zadd i 1), zR 1, zR 71, zI v1], F1, G1, zsg) rfl ?_
  refine zle_xld rfl (by decide) rfl rfl (fun _ => ?_)
  refine zle_many 4 (242, 973, [zR 1, zR 5, zR 71, zI i], [zI (zadd i 2), zR 1, zI (xs (Int.toNat (zadd i 1))), zR 71, zI v1], F1, G1, zsg) rfl ?_
  refine zle_xld rfl (by decide) rfl rfl (fun _ => ?_)
  refine zle_many 4 (242, 978, [zR 1, zR 5, zR 71, zI i], [zI (zadd i 3), zR 1, zI (xs (Int.toNat (zadd i 2))), zI (xs (Int.toNat (zadd i 1))), zR 71, zI v1], F1, G1, zsg) rfl ?_
  refine zle_xld rfl (by decide) rfl rfl (fun _ => ?_)
  refine zle_I rfl (fun v2 F2 G2 => ?_)
  refine zle_many 1 (242, (bif zcmp .eq v1 v2 then 1578 else 985), [zR 1, zR 5, zR 71, zI i], [], F2, G2, zsg) rfl ?_
  refine zle_eq (fun _ => ?_) (fun _ => ?_)
  · exact zle_rfl
  · refine zle_many 1 (242, 986, [zR 1, zR 5, zR 71, zI i], [zI 0], F2, G2, zsg) rfl ?_
    exact zle_ret rfl
set_option maxRecDepth 20000 in
theorem g_W_987 {d L : Nat} {xs : Nat → Int} {F : zM} {G : zG} (i : Int) : zle (
  if 0 ≤ (zadd i 1) ∧ (zadd i 1) < L then
  if 0 ≤ (zadd i 2) ∧ (zadd i 2) < L then
    zbI (zex d 24 [zR 5, zI (xs (Int.toNat (zadd i 1))), zI (xs (Int.toNat (zadd i 2)))] (F, G, zsg)) (fun v1 F1 G1 =>
      if 0 ≤ (zadd i 1) ∧ (zadd i 1) < L then
        if 0 ≤ (zadd i 2) ∧ (zadd i 2) < L then
          zbI (zex d 109 [zR 71, zI (xs (Int.toNat (zadd i 1))), zI (xs (Int.toNat (zadd i 2)))] (F1, G1, zsg)) (fun v2 F2 G2 =>
            if v1 = v2 then
              zev (zX 1 L xs) d (242, 1578, [zR 1, zR 5, zR 71, zI i], [], F2, G2, zsg)
            else
              some (some (zI 0), F2, G2, zsg))
        else none
      else none)
  else none
else none) (zev (zX 1 L xs) d (242, 987, [zR 1, zR 5, zR 71, zI i], [], F, G, zsg)) := by
  refine zle_many 5 (242, 992, [zR 1, zR 5, zR 71, zI i], [zI (zadd i 1), zR 1, zR 5], F, G, zsg) rfl ?_
  refine zle_xld rfl (by decide) rfl rfl (fun _ => ?_)
  refine zle_many 4 (242, 997, [zR 1, zR 5, zR 71, zI i], [zI (zadd i 2), zR 1, zI (xs (Int.toNat (zadd i 1))), zR 5], F, G, zsg) rfl ?_
  refine zle_xld rfl (by decide) rfl rfl (fun _ => ?_)
  refine zle_I rfl (fun v1 F1 G1 => ?_)
  refine zle_many 5 (242, 1006, [zR 1, zR 5, zR 71, zI i], [zI (zadd i 1), zR 1, zR 71, zI v1], F1, G1, zsg) rfl ?_
  refine zle_xld rfl (by decide) rfl rfl (fun _ => ?_)
  refine zle_many 4 (242, 1011, [zR 1, zR 5, zR 71, zI i], [zI (zadd i 2), zR 1, zI (xs (Int.toNat (zadd i 1))), zR 71, zI v1], F1, G1, zsg) rfl ?_
  refine zle_xld rfl (by decide) rfl rfl (fun _ => ?_)
  refine zle_I rfl (fun v2 F2 G2 => ?_)
  refine zle_many 1 (242, (bif zcmp .eq v1 v2 then 1578 else 1018), [zR 1, zR 5, zR 71, zI i], [], F2, G2, zsg) rfl ?_
  refine zle_eq (fun _ => ?_) (fun _ => ?_)
  · exact zle_rfl
  · refine zle_many 1 (242, 1019, [zR 1, zR 5, zR 71, zI i], [zI 0], F2, G2, zsg) rfl ?_
    exact zle_ret rfl
set_option maxRecDepth 20000 in
theorem g_W_1020 {d L : Nat} {xs : Nat → Int} {F : zM} {G : zG} (i : Int) : zle (
  if 0 ≤ (zadd i 1) ∧ (zadd i 1) < L then
  if 0 ≤ (zadd i 2) ∧ (zadd i 2) < L then
    zbI (zex d 25 [zR 5, zI (xs (Int.toNat (zadd i 1))), zI (xs (Int.toNat (zadd i 2)))] (F, G, zsg)) (fun v1 F1 G1 =>
      if 0 ≤ (zadd i 1) ∧ (zadd i 1) < L then
        if 0 ≤ (zadd i 2) ∧ (zadd i 2) < L then
          zbI (zex d 110 [zR 71, zI (xs (Int.toNat (zadd i 1))), zI (xs (Int.toNat (zadd i 2)))] (F1, G1, zsg)) (fun v2 F2 G2 =>
            if v1 = v2 then
              zev (zX 1 L xs) d (242, 1578, [zR 1, zR 5, zR 71, zI i], [], F2, G2, zsg)
            else
              some (some (zI 0), F2, G2, zsg))
        else none
      else none)
  else none
else none) (zev (zX 1 L xs) d (242, 1020, [zR 1, zR 5, zR 71, zI i], [], F, G, zsg)) := by
  refine zle_many 5 (242, 1025, [zR 1, zR 5, zR 71, zI i], [zI (zadd i 1), zR 1, zR 5], F, G, zsg) rfl ?_
  refine zle_xld rfl (by decide) rfl rfl (fun _ => ?_)
  refine zle_many 4 (242, 1030, [zR 1, zR 5, zR 71, zI i], [zI (zadd i 2), zR 1, zI (xs (Int.toNat (zadd i 1))), zR 5], F, G, zsg) rfl ?_
  refine zle_xld rfl (by decide) rfl rfl (fun _ => ?_)
  refine zle_I rfl (fun v1 F1 G1 => ?_)
  refine zle_many 5 (242, 1039, [zR 1, zR 5, zR 71, zI i], [zI (zadd i 1), zR 1, zR 71, zI v1], F1, G1, zsg) rfl ?_
  refine zle_xld rfl (by decide) rfl rfl (fun _ => ?_)
  refine zle_many 4 (242, 1044, [zR 1, zR 5, zR 71, zI i], [zI (zadd i 2), zR 1, zI (xs (Int.toNat (zadd i 1))), zR 71, zI v1], F1, G1, zsg) rfl ?_
  refine zle_xld rfl (by decide) rfl rfl (fun _ => ?_)
  refine zle_I rfl (fun v2 F2 G2 => ?_)
  refine zle_many 1 (242, (bif zcmp .eq v1 v2 then 1578 else 1051), [zR 1, zR 5, zR 71, zI i], [], F2, G2, zsg) rfl ?_
  refine zle_eq (fun _ => ?_) (fun _ => ?_)
  · exact zle_rfl
  · refine zle_many 1 (242, 1052, [zR 1, zR 5, zR 71, zI i], [zI 0], F2, G2, zsg) rfl ?_
    exact zle_ret rfl
set_option maxRecDepth 20000 in
theorem g_W_1053 {d L : Nat} {xs : Nat → Int} {F : zM} {G : zG} (i : Int) : zle (
  if 0 ≤ (zadd i 1) ∧ (zadd i 1) < L then
  zbI (zex d 26 [zR 5, zI (xs (Int.toNat (zadd i 1)))] (F, G, zsg)) (fun v1 F1 G1 =>
    if 0 ≤ (zadd i 1) ∧ (zadd i 1) < L then
      zbI (zex d 113 [zR 71, zI (xs (Int.toNat (zadd i 1)))] (F1, G1, zsg)) (fun v2 F2 G2 =>
        if v1 = v2 then
          zev (zX 1 L xs) d (242, 1578, [zR 1, zR 5, zR 71, zI i], [], F2, G2, zsg)
        else
          some (some (zI 0), F2, G2, zsg))
    else none)
else none) (zev (zX 1 L xs) d (242, 1053, [zR 1, zR 5, zR 71, zI i], [], F, G, zsg)) := by
  refine zle_many 5 (242, 1058, [zR 1, zR 5, zR 71, zI i], [zI (zadd i 1), zR 1, zR 5], F, G, zsg) rfl ?_
  refine zle_xld rfl (by decide) rfl rfl (fun _ => ?_)
  refine zle_I rfl (fun v1 F1 G1 => ?_)
  refine zle_many 5 (242, 1067, [zR 1, zR 5, zR 71, zI i], [zI (zadd i 1), zR 1, zR 71, zI v1], F1, G1, zsg) rfl ?_
  refine zle_xld rfl (by decide) rfl rfl (fun _ => ?_)
  refine zle_I rfl (fun v2 F2 G2 => ?_)
  refine zle_many 1 (242, (bif zcmp .eq v1 v2 then 1578 else 1074), [zR 1, zR 5, zR 71, zI i], [], F2, G2, zsg) rfl ?_
  refine zle_eq (fun _ => ?_) (fun _ => ?_)
  · exact zle_rfl
  · refine zle_many 1 (242, 1075, [zR 1, zR 5, zR 71, zI i], [zI 0], F2, G2, zsg) rfl ?_
    exact zle_ret rfl
set_option maxRecDepth 20000 in
theorem g_W_1076 {d L : Nat} {xs : Nat → Int} {F : zM} {G : zG} (i : Int) : zle (
  if 0 ≤ (zadd i 1) ∧ (zadd i 1) < L then
  zbI (zex d 27 [zR 5, zI (xs (Int.toNat (zadd i 1)))] (F, G, zsg)) (fun v1 F1 G1 =>
    if 0 ≤ (zadd i 1) ∧ (zadd i 1) < L then
      zbI (zex d 114 [zR 71, zI (xs (Int.toNat (zadd i 1)))] (F1, G1, zsg)) (fun v2 F2 G2 =>
        if v1 = v2 then
          zev (zX 1 L xs) d (242, 1578, [zR 1, zR 5, zR 71, zI i], [], F2, G2, zsg)
        else
          some (some (zI 0), F2, G2, zsg))
    else none)
else none) (zev (zX 1 L xs) d (242, 1076, [zR 1, zR 5, zR 71, zI i], [], F, G, zsg)) := by
  refine zle_many 5 (242, 1081, [zR 1, zR 5, zR 71, zI i], [zI (zadd i 1), zR 1, zR 5], F, G, zsg) rfl ?_
  refine zle_xld rfl (by decide) rfl rfl (fun _ => ?_)
  refine zle_I rfl (fun v1 F1 G1 => ?_)
  refine zle_many 5 (242, 1090, [zR 1, zR 5, zR 71, zI i], [zI (zadd i 1), zR 1, zR 71, zI v1], F1, G1, zsg) rfl ?_
  refine zle_xld rfl (by decide) rfl rfl (fun _ => ?_)
  refine zle_I rfl (fun v2 F2 G2 => ?_)
  refine zle_many 1 (242, (bif zcmp .eq v1 v2 then 1578 else 1097), [zR 1, zR 5, zR 71, zI i], [], F2, G2, zsg) rfl ?_
  refine zle_eq (fun _ => ?_) (fun _ => ?_)
  · exact zle_rfl
  · refine zle_many 1 (242, 1098, [zR 1, zR 5, zR 71, zI i], [zI 0], F2, G2, zsg) rfl ?_
    exact zle_ret rfl
set_option maxRecDepth 20000 in
theorem g_W_1099 {d L : Nat} {xs : Nat → Int} {F : zM} {G : zG} (i : Int) : zle (
  if 0 ≤ (zadd i 1) ∧ (zadd i 1) < L then
  if 0 ≤ (zadd i 2) ∧ (zadd i 2) < L then
    if 0 ≤ (zadd i 3) ∧ (zadd i 3) < L then
      if 0 ≤ (zadd i 4) ∧ (zadd i 4) < L then
        if 0 ≤ (zadd i 5) ∧ (zadd i 5) < L then
          zbI (zex d 28 [zR 5, zI (xs (Int.toNat (zadd i 1))), zI (xs (Int.toNat (zadd i 2))), zI (xs (Int.toNat (zadd i 3))), zI (xs (Int.toNat (zadd i 4))), zI (xs (Int.toNat (zadd i 5)))] (F, G, zsg)) (fun v1 F1 G1 =>
            if 0 ≤ (zadd i 1) ∧ (zadd i 1) < L then
              if 0 ≤ (zadd i 2) ∧ (zadd i 2) < L then
                if 0 ≤ (zadd i 3) ∧ (zadd i 3) < L then
                  if 0 ≤ (zadd i 4) ∧ (zadd i 4) < L then
                    if 0 ≤ (zadd i 5) ∧ (zadd i 5) < L then
                      zbI (zex d 123 [zR 71, zI (xs (Int.toNat (zadd i 1))), zI (xs (Int.toNat (zadd i 2))), zI (xs (Int.toNat (zadd i 3))), zI (xs (Int.toNat (zadd i 4))), zI (xs (Int.toNat (zadd i 5)))] (F1, G1, zsg)) (fun v2 F2 G2 =>
                        if v1 = v2 then
                        zev (zX 1 L xs) d (242, 1578, [zR 1, zR 5, zR 71, zI i], [], F2, G2, zsg)
                      else
                        some (some (zI 0), F2, G2, zsg))
                    else none
                  else none
                else none
              else none
            else none)
        else none
      else none
    else none
  else none
else none) (zev (zX 1 L xs) d (242, 1099, [zR 1, zR 5, zR 71, zI i], [], F, G, zsg)) := by
  refine zle_many 5 (242, 1104, [zR 1, zR 5, zR 71, zI i], [zI (zadd i 1), zR 1, zR 5], F, G, zsg) rfl ?_
  refine zle_xld rfl (by decide) rfl rfl (fun _ => ?_)
  refine zle_many 4 (242, 1109, [zR 1, zR 5, zR 71, zI i], [zI (zadd i 2), zR 1, zI (xs (Int.toNat (zadd i 1))), zR 5], F, G, zsg) rfl ?_
  refine zle_xld rfl (by decide) rfl rfl (fun _ => ?_)
  refine zle_many 4 (242, 1114, [zR 1, zR 5, zR 71, zI i], [zI (zadd i 3), zR 1, zI (xs (Int.toNat (zadd i 2))), zI (xs (Int.toNat (zadd i 1))), zR 5], F, G, zsg) rfl ?_
  refine zle_xld rfl (by decide) rfl rfl (fun _ => ?_)
  refine zle_many 4 (242, 1119, [zR 1, zR 5, zR 71, zI i], [zI (zadd i 4), zR 1, zI (xs (Int.toNat (zadd i 3))), zI (xs (Int.toNat (zadd i 2))), zI (xs (Int.toNat (zadd i 1))), zR 5], F, G, zsg) rfl ?_
  refine zle_xld rfl (by decide) rfl rfl (fun _ => ?_)
  refine zle_many 4 (242, 1124, [zR 1, zR 5, zR 71, zI i], [zI (zadd i 5), zR 1, zI (xs (Int.toNat (zadd i 4))), zI (xs (Int.toNat (zadd i 3))), zI (xs (Int.toNat (zadd i 2))), zI (xs (Int.toNat (zadd i 1))), zR 5], F, G, zsg) rfl ?_
  refine zle_xld rfl (by decide) rfl rfl (fun _ => ?_)
  refine zle_I rfl (fun v1 F1 G1 => ?_)
  refine zle_many 5 (242, 1133, [zR 1, zR 5, zR 71, zI i], [zI (zadd i 1), zR 1, zR 71, zI v1], F1, G1, zsg) rfl ?_
  refine zle_xld rfl (by decide) rfl rfl (fun _ => ?_)
  refine zle_many 4 (242, 1138, [zR 1, zR 5, zR 71, zI i], [zI (zadd i 2), zR 1, zI (xs (Int.toNat (zadd i 1))), zR 71, zI v1], F1, G1, zsg) rfl ?_
  refine zle_xld rfl (by decide) rfl rfl (fun _ => ?_)
  refine zle_many 4 (242, 1143, [zR 1, zR 5, zR 71, zI i], [zI (zadd i 3), zR 1, zI (xs (Int.toNat (zadd i 2))), zI (xs (Int.toNat (zadd i 1))), zR 71, zI v1], F1, G1, zsg) rfl ?_
  refine zle_xld rfl (by decide) rfl rfl (fun _ => ?_)
  refine zle_many 4 (242, 1148, [zR 1, zR 5, zR 71, zI i], [zI (zadd i 4), zR 1, zI (xs (Int.toNat (zadd i 3))), zI (xs (Int.toNat (zadd i 2))), zI (xs (Int.toNat (zadd i 1))), zR 71, zI v1], F1, G1, zsg) rfl ?_
  refine zle_xld rfl (by decide) rfl rfl (fun _ => ?_)
  refine zle_many 4 (242, 1153, [zR 1, zR 5, zR 71, zI i], [zI (zadd i 5), zR 1, zI (xs (Int.toNat (zadd i 4))), zI (xs (Int.toNat (zadd i 3))), zI (xs (Int.toNat (zadd i 2))), zI (xs (Int.toNat (zadd i 1))), zR 71, zI v1], F1, G1, zsg) rfl ?_
  refine zle_xld rfl (by decide) rfl rfl (fun _ => ?_)
  refine zle_I rfl (fun v2 F2 G2 => ?_)
  refine zle_many 1 (242, (bif zcmp .eq v1 v2 then 1578 else 1160), [zR 1, zR 5, zR 71, zI i], [], F2, G2, zsg) rfl ?_
  refine zle_eq (fun _ => ?_) (fun _ => ?_)
  · exact zle_rfl
  · refine zle_many 1 (242, 1161, [zR 1, zR 5, zR 71, zI i], [zI 0], F2, G2, zsg) rfl ?_
    exact zle_ret rfl
set_option maxRecDepth 20000 in
theorem g_W_1162 {d L : Nat} {xs : Nat → Int} {F : zM} {G : zG} (i : Int) : zle (
  if 0 ≤ (zadd i 1) ∧ (zadd i 1) < L then
  if 0 ≤ (zadd i 2) ∧ (zadd i 2) < L then
    zbI (zex d 29 [zR 5, zI (xs (Int.toNat (zadd i 1))), zI (xs (Int.toNat (zadd i 2)))] (F, G, zsg)) (fun v1 F1 G1 =>
      if 0 ≤ (zadd i 1) ∧ (zadd i 1) < L then
        if 0 ≤ (zadd i 2) ∧ (zadd i 2) < L then
          zbI (zex d 124 [zR 71, zI (xs (Int.toNat (zadd i 1))), zI (xs (Int.toNat (zadd i 2)))] (F1, G1, zsg)) (fun v2 F2 G2 =>
            if v1 = v2 then
              zev (zX 1 L xs) d (242, 1578, [zR 1, zR 5, zR 71, zI i], [], F2, G2, zsg)
            else
              some (some (zI 0), F2, G2, zsg))
        else none
      else none)
  else none
else none) (zev (zX 1 L xs) d (242, 1162, [zR 1, zR 5, zR 71, zI i], [], F, G, zsg)) := by
  refine zle_many 5 (242, 1167, [zR 1, zR 5, zR 71, zI i], [zI (zadd i 1), zR 1, zR 5], F, G, zsg) rfl ?_
  refine zle_xld rfl (by decide) rfl rfl (fun _ => ?_)
  refine zle_many 4 (242, 1172, [zR 1, zR 5, zR 71, zI i], [zI (zadd i 2), zR 1, zI (xs (Int.toNat (zadd i 1))), zR 5], F, G, zsg) rfl ?_
  refine zle_xld rfl (by decide) rfl rfl (fun _ => ?_)
  refine zle_I rfl (fun v1 F1 G1 => ?_)
  refine zle_many 5 (242, 1181, [zR 1, zR 5, zR 71, zI i], [zI (zadd i 1), zR 1, zR 71, zI v1], F1, G1, zsg) rfl ?_
  refine zle_xld rfl (by decide) rfl rfl (fun _ => ?_)
  refine zle_many 4 (242, 1186, [zR 1, zR 5, zR 71, zI i], [zI (zadd i 2), zR 1, zI (xs (Int.toNat (zadd i 1))), zR 71, zI v1], F1, G1, zsg) rfl ?_
  refine zle_xld rfl (by decide) rfl rfl (fun _ => ?_)
  refine zle_I rfl (fun v2 F2 G2 => ?_)
  refine zle_many 1 (242, (bif zcmp .eq v1 v2 then 1578 else 1193), [zR 1, zR 5, zR 71, zI i], [], F2, G2, zsg) rfl ?_
  refine zle_eq (fun _ => ?_) (fun _ => ?_)
  · exact zle_rfl
  · refine zle_many 1 (242, 1194, [zR 1, zR 5, zR 71, zI i], [zI 0], F2, G2, zsg) rfl ?_
    exact zle_ret rfl
set_option maxRecDepth 20000 in
theorem g_W_1195 {d L : Nat} {xs : Nat → Int} {F : zM} {G : zG} (i : Int) : zle (
  if 0 ≤ (zadd i 1) ∧ (zadd i 1) < L then
  zbI (zex d 30 [zR 5, zI (xs (Int.toNat (zadd i 1)))] (F, G, zsg)) (fun v1 F1 G1 =>
    if 0 ≤ (zadd i 1) ∧ (zadd i 1) < L then
      zbI (zex d 125 [zR 71, zI (xs (Int.toNat (zadd i 1)))] (F1, G1, zsg)) (fun v2 F2 G2 =>
        if v1 = v2 then
          zev (zX 1 L xs) d (242, 1578, [zR 1, zR 5, zR 71, zI i], [], F2, G2, zsg)
        else
          some (some (zI 0), F2, G2, zsg))
    else none)
else none) (zev (zX 1 L xs) d (242, 1195, [zR 1, zR 5, zR 71, zI i], [], F, G, zsg)) := by
  refine zle_many 5 (242, 1200, [zR 1, zR 5, zR 71, zI i], [zI (zadd i 1), zR 1, zR 5], F, G, zsg) rfl ?_
  refine zle_xld rfl (by decide) rfl rfl (fun _ => ?_)
  refine zle_I rfl (fun v1 F1 G1 => ?_)
  refine zle_many 5 (242, 1209, [zR 1, zR 5, zR 71, zI i], [zI (zadd i 1), zR 1, zR 71, zI v1], F1, G1, zsg) rfl ?_
  refine zle_xld rfl (by decide) rfl rfl (fun _ => ?_)
  refine zle_I rfl (fun v2 F2 G2 => ?_)
  refine zle_many 1 (242, (bif zcmp .eq v1 v2 then 1578 else 1216), [zR 1, zR 5, zR 71, zI i], [], F2, G2, zsg) rfl ?_
  refine zle_eq (fun _ => ?_) (fun _ => ?_)
  · exact zle_rfl
  · refine zle_many 1 (242, 1217, [zR 1, zR 5, zR 71, zI i], [zI 0], F2, G2, zsg) rfl ?_
    exact zle_ret rfl
set_option maxRecDepth 20000 in
theorem g_W_1218 {d L : Nat} {xs : Nat → Int} {F : zM} {G : zG} (i : Int) : zle (
  if 0 ≤ (zadd i 1) ∧ (zadd i 1) < L then
  if 0 ≤ (zadd i 2) ∧ (zadd i 2) < L then
    if 0 ≤ (zadd i 3) ∧ (zadd i 3) < L then
      zbI (zex d 31 [zR 5, zI (xs (Int.toNat (zadd i 1))), zI (xs (Int.toNat (zadd i 2))), zI (xs (Int.toNat (zadd i 3)))] (F, G, zsg)) (fun v1 F1 G1 =>
        if 0 ≤ (zadd i 1) ∧ (zadd i 1) < L then
          if 0 ≤ (zadd i 2) ∧ (zadd i 2) < L then
            if 0 ≤ (zadd i 3) ∧ (zadd i 3) < L then
              zbI (zex d 126 [zR 71, zI (xs (Int.toNat (zadd i 1))), zI (xs (Int.toNat (zadd i 2))), zI (xs (Int.toNat (zadd i 3)))] (F1, G1, zsg)) (fun v2 F2 G2 =>
                if v1 = v2 then
                  zev (zX 1 L xs) d (242, 1578, [zR 1, zR 5, zR 71, zI i], [], F2, G2, zsg)
                else
                  some (some (zI 0), F2, G2, zsg))
            else none
          else none
        else none)
    else none
  else none
else none) (zev (zX 1 L xs) d (242, 1218, [zR 1, zR 5, zR 71, zI i], [], F, G, zsg)) := by
  refine zle_many 5 (242, 1223, [zR 1, zR 5, zR 71, zI i], [zI (zadd i 1), zR 1, zR 5], F, G, zsg) rfl ?_
  refine zle_xld rfl (by decide) rfl rfl (fun _ => ?_)
  refine zle_many 4 (242, 1228, [zR 1, zR 5, zR 71, zI i], [zI (zadd i 2), zR 1, zI (xs (Int.toNat (zadd i 1))), zR 5], F, G, zsg) rfl ?_
  refine zle_xld rfl (by decide) rfl rfl (fun _ => ?_)
  refine zle_many 4 (242, 1233, [zR 1, zR 5, zR 71, zI i], [zI (zadd i 3), zR 1, zI (xs (Int.toNat (zadd i 2))), zI (xs (Int.toNat (zadd i 1))), zR 5], F, G, zsg) rfl ?_
  refine zle_xld rfl (by decide) rfl rfl (fun _ => ?_)
  refine zle_I rfl (fun v1 F1 G1 => ?_)
  refine zle_many 5 (242, 1242, [zR 1, zR 5, zR 71, zI i], [zI (zadd i 1), zR 1, zR 71, zI v1], F1, G1, zsg) rfl ?_
  refine zle_xld rfl (by decide) rfl rfl (fun _ => ?_)
  refine zle_many 4 (242, 1247, [zR 1, zR 5, zR 71, zI i], [zI (zadd i 2), zR 1, zI (xs (Int.toNat (zadd i 1))), zR 71, zI v1], F1, G1, zsg) rfl ?_
  refine zle_xld rfl (by decide) rfl rfl (fun _ => ?_)
  refine zle_many 4 (242, 1252, [zR 1, zR 5, zR 71, zI i], [zI (zadd i 3), zR 1, zI (xs (Int.toNat (zadd i 2))), zI (xs (Int.toNat (zadd i 1))), zR 71, zI v1], F1, G1, zsg) rfl ?_
  refine zle_xld rfl (by decide) rfl rfl (fun _ => ?_)
  refine zle_I rfl (fun v2 F2 G2 => ?_)
  refine zle_many 1 (242, (bif zcmp .eq v1 v2 then 1578 else 1259), [zR 1, zR 5, zR 71, zI i], [], F2, G2, zsg) rfl ?_
  refine zle_eq (fun _ => ?_) (fun _ => ?_)
  · exact zle_rfl
  · refine zle_many 1 (242, 1260, [zR 1, zR 5, zR 71, zI i], [zI 0], F2, G2, zsg) rfl ?_
    exact zle_ret rfl
set_option maxRecDepth 20000 in
theorem g_W_1261 {d L : Nat} {xs : Nat → Int} {F : zM} {G : zG} (i : Int) : zle (
  zbI (zex d 32 [zR 5] (F, G, zsg)) (fun v1 F1 G1 =>
  zbI (zex d 127 [zR 71] (F1, G1, zsg)) (fun v2 F2 G2 =>
    if v1 = v2 then
      zev (zX 1 L xs) d (242, 1578, [zR 1, zR 5, zR 71, zI i], [], F2, G2, zsg)
    else
      some (some (zI 0), F2, G2, zsg)))) (zev (zX 1 L xs) d (242, 1261, [zR 1, zR 5, zR 71, zI i], [], F, G, zsg)) := by
  refine zle_many 1 (242, 1262, [zR 1, zR 5, zR 71, zI i], [zR 5], F, G, zsg) rfl ?_
  refine zle_I rfl (fun v1 F1 G1 => ?_)
  refine zle_many 1 (242, 1266, [zR 1, zR 5, zR 71, zI i], [zR 71, zI v1], F1, G1, zsg) rfl ?_
  refine zle_I rfl (fun v2 F2 G2 => ?_)
  refine zle_many 1 (242, (bif zcmp .eq v1 v2 then 1578 else 1272), [zR 1, zR 5, zR 71, zI i], [], F2, G2, zsg) rfl ?_
  refine zle_eq (fun _ => ?_) (fun _ => ?_)
  · exact zle_rfl
  · refine zle_many 1 (242, 1273, [zR 1, zR 5, zR 71, zI i], [zI 0], F2, G2, zsg) rfl ?_
    exact zle_ret rfl
set_option maxRecDepth 20000 in
theorem g_W_1274 {d L : Nat} {xs : Nat → Int} {F : zM} {G : zG} (i : Int) : zle (
  if 0 ≤ (zadd i 1) ∧ (zadd i 1) < L then
  if 0 ≤ (zadd i 2) ∧ (zadd i 2) < L then
    if 0 ≤ (zadd i 3) ∧ (zadd i 3) < L then
      zbI (zex d 33 [zR 5, zI (xs (Int.toNat (zadd i 1))), zI (xs (Int.toNat (zadd i 2))), zI (xs (Int.toNat (zadd i 3)))] (F, G, zsg)) (fun v1 F1 G1 =>
        if 0 ≤ (zadd i 1) ∧ (zadd i 1) < L then
          if 0 ≤ (zadd i 2) ∧ (zadd i 2) < L then
            if 0 ≤ (zadd i 3) ∧ (zadd i 3) < L then
              zbI (zex d 128 [zR 71, zI (xs (Int.toNat (zadd i 1))), zI (xs (Int.toNat (zadd i 2))), zI (xs (Int.toNat (zadd i 3)))] (F1, G1, zsg)) (fun v2 F2 G2 =>
                if v1 = v2 then
                  zev (zX 1 L xs) d (242, 1578, [zR 1, zR 5, zR 71, zI i], [], F2, G2, zsg)
                else
                  some (some (zI 0), F2, G2, zsg))
            else none
          else none
        else none)
    else none
  else none
else none) (zev (zX 1 L xs) d (242, 1274, [zR 1, zR 5, zR 71, zI i], [], F, G, zsg)) := by
  refine zle_many 5 (242, 1279, [zR 1, zR 5, zR 71, zI i], [zI (zadd i 1), zR 1, zR 5], F, G, zsg) rfl ?_
  refine zle_xld rfl (by decide) rfl rfl (fun _ => ?_)
  refine zle_many 4 (242, 1284, [zR 1, zR 5, zR 71, zI i], [zI (zadd i 2), zR 1, zI (xs (Int.toNat (zadd i 1))), zR 5], F, G, zsg) rfl ?_
  refine zle_xld rfl (by decide) rfl rfl (fun _ => ?_)
  refine zle_many 4 (242, 1289, [zR 1, zR 5, zR 71, zI i], [zI (zadd i 3), zR 1, zI (xs (Int.toNat (zadd i 2))), zI (xs (Int.toNat (zadd i 1))), zR 5], F, G, zsg) rfl ?_
  refine zle_xld rfl (by decide) rfl rfl (fun _ => ?_)
  refine zle_I rfl (fun v1 F1 G1 => ?_)
  refine zle_many 5 (242, 1298, [zR 1, zR 5, zR 71, zI i], [zI (zadd i 1), zR 1, zR 71, zI v1], F1, G1, zsg) rfl ?_
  refine zle_xld rfl (by decide) rfl rfl (fun _ => ?_)
  refine zle_many 4 (242, 1303, [zR 1, zR 5, zR 71, zI i], [zI (zadd i 2), zR 1, zI (xs (Int.toNat (zadd i 1))), zR 71, zI v1], F1, G1, zsg) rfl ?_
  refine zle_xld rfl (by decide) rfl rfl (fun _ => ?_)
  refine zle_many 4 (242, 1308, [zR 1, zR 5, zR 71, zI i], [zI (zadd i 3), zR 1, zI (xs (Int.toNat (zadd i 2))), zI (xs (Int.toNat (zadd i 1))), zR 71, zI v1], F1, G1, zsg) rfl ?_
  refine zle_xld rfl (by decide) rfl rfl (fun _ => ?_)
  refine zle_I rfl (fun v2 F2 G2 => ?_)
  refine zle_many 1 (242, (bif zcmp .eq v1 v2 then 1578 else 1315), [zR 1, zR 5, zR 71, zI i], [], F2, G2, zsg) rfl ?_
  refine zle_eq (fun _ => ?_) (fun _ => ?_)
  · exact zle_rfl
  · refine zle_many 1 (242, 1316, [zR 1, zR 5, zR 71, zI i], [zI 0], F2, G2, zsg) rfl ?_
    exact zle_ret rfl
set_option maxRecDepth 20000 in
theorem g_W_1317 {d L : Nat} {xs : Nat → Int} {F : zM} {G : zG} (i : Int) : zle (
  zbI (zex d 34 [zR 5] (F, G, zsg)) (fun v1 F1 G1 =>
  zbI (zex d 129 [zR 71] (F1, G1, zsg)) (fun v2 F2 G2 =>
    if v1 = v2 then
      zev (zX 1 L xs) d (242, 1578, [zR 1, zR 5, zR 71, zI i], [], F2, G2, zsg)
    else
      some (some (zI 0), F2, G2, zsg)))) (zev (zX 1 L xs) d (242, 1317, [zR 1, zR 5, zR 71, zI i], [], F, G, zsg)) := by
  refine zle_many 1 (242, 1318, [zR 1, zR 5, zR 71, zI i], [zR 5], F, G, zsg) rfl ?_
  refine zle_I rfl (fun v1 F1 G1 => ?_)
  refine zle_many 1 (242, 1322, [zR 1, zR 5, zR 71, zI i], [zR 71, zI v1], F1, G1, zsg) rfl ?_
  refine zle_I rfl (fun v2 F2 G2 => ?_)
  refine zle_many 1 (242, (bif zcmp .eq v1 v2 then 1578 else 1328), [zR 1, zR 5, zR 71, zI i], [], F2, G2, zsg) rfl ?_
  refine zle_eq (fun _ => ?_) (fun _ => ?_)
  · exact zle_rfl
  · refine zle_many 1 (242, 1329, [zR 1, zR 5, zR 71, zI i], [zI 0], F2, G2, zsg) rfl ?_
    exact zle_ret rfl
set_option maxRecDepth 20000 in
theorem g_W_1330 {d L : Nat} {xs : Nat → Int} {F : zM} {G : zG} (i : Int) : zle (
  zbI (zex d 35 [zR 5] (F, G, zsg)) (fun v1 F1 G1 =>
  zbI (zex d 130 [zR 71] (F1, G1, zsg)) (fun v2 F2 G2 =>
    if v1 = v2 then
      zev (zX 1 L xs) d (242, 1578, [zR 1, zR 5, zR 71, zI i], [], F2, G2, zsg)
    else
      some (some (zI 0), F2, G2, zsg)))) (zev (zX 1 L xs) d (242, 1330, [zR 1, zR 5, zR 71, zI i], [], F, G, zsg)) := by
  refine zle_many 1 (242, 1331, [zR 1, zR 5, zR 71, zI i], [zR 5], F, G, zsg) rfl ?_
  refine zle_I rfl (fun v1 F1 G1 => ?_)
  refine zle_many 1 (242, 1335, [zR 1, zR 5, zR 71, zI i], [zR 71, zI v1], F1, G1, zsg) rfl ?_
  refine zle_I rfl (fun v2 F2 G2 => ?_)
  refine zle_many 1 (242, (bif zcmp .eq v1 v2 then 1578 else 1341), [zR 1, zR 5, zR 71, zI i], [], F2, G2, zsg) rfl ?_
  refine zle_eq (fun _ => ?_) (fun _ => ?_)
  · exact zle_rfl
  · refine zle_many 1 (242, 1342, [zR 1, zR 5, zR 71, zI i], [zI 0], F2, G2, zsg) rfl ?_
    exact zle_ret rfl
set_option maxRecDepth 20000 in
theorem g_W_1343 {d L : Nat} {xs : Nat → Int} {F : zM} {G : zG} (i : Int) : zle (
  if 0 ≤ (zadd i 1) ∧ (zadd i 1) < L then
  if 0 ≤ (zadd i 2) ∧ (zadd i 2) < L then
    if 0 ≤ (zadd i 3) ∧ (zadd i 3) < L then
      zbI (zex d 36 [zR 5, zI (xs (Int.toNat (zadd i 1))), zI (xs (Int.toNat (zadd i 2))), zI (xs (Int.toNat (zadd i 3)))] (F, G, zsg)) (fun v1 F1 G1 =>
        if 0 ≤ (zadd i 1) ∧ (zadd i 1) < L then
          if 0 ≤ (zadd i 2) ∧ (zadd i 2) < L then
            if 0 ≤ (zadd i 3) ∧ (zadd i 3) < L then
              zbI (zex d 131 [zR 71, zI (xs (Int.toNat (zadd i 1))), zI (xs (Int.toNat (zadd i 2))), zI (xs (Int.toNat (zadd i 3)))] (F1, G1, zsg)) (fun v2 F2 G2 =>
                if v1 = v2 then
                  zev (zX 1 L xs) d (242, 1578, [zR 1, zR 5, zR 71, zI i], [], F2, G2, zsg)
                else
                  some (some (zI 0), F2, G2, zsg))
            else none
          else none
        else none)
    else none
  else none
else none) (zev (zX 1 L xs) d (242, 1343, [zR 1, zR 5, zR 71, zI i], [], F, G, zsg)) := by
  refine zle_many 5 (242, 1348, [zR 1, zR 5, zR 71, zI i], [zI (zadd i 1), zR 1, zR 5], F, G, zsg) rfl ?_
  refine zle_xld rfl (by decide) rfl rfl (fun _ => ?_)
  refine zle_many 4 (242, 1353, [zR 1, zR 5, zR 71, zI i], [zI (zadd i 2), zR 1, zI (xs (Int.toNat (zadd i 1))), zR 5], F, G, zsg) rfl ?_
  refine zle_xld rfl (by decide) rfl rfl (fun _ => ?_)
  refine zle_many 4 (242, 1358, [zR 1, zR 5, zR 71, zI i], [zI (zadd i 3), zR 1, zI (xs (Int.toNat (zadd i 2))), zI (xs (Int.toNat (zadd i 1))), zR 5], F, G, zsg) rfl ?_
  refine zle_xld rfl (by decide) rfl rfl (fun _ => ?_)
  refine zle_I rfl (fun v1 F1 G1 => ?_)
  refine zle_many 5 (242, 1367, [zR 1, zR 5, zR 71, zI i], [zI (zadd i 1), zR 1, zR 71, zI v1], F1, G1, zsg) rfl ?_
  refine zle_xld rfl (by decide) rfl rfl (fun _ => ?_)
  refine zle_many 4 (242, 1372, [zR 1, zR 5, zR 71, zI i], [zI (zadd i 2), zR 1, zI (xs (Int.toNat (zadd i 1))), zR 71, zI v1], F1, G1, zsg) rfl ?_
  refine zle_xld rfl (by decide) rfl rfl (fun _ => ?_)
  refine zle_many 4 (242, 1377, [zR 1, zR 5, zR 71, zI i], [zI (zadd i 3), zR 1, zI (xs (Int.toNat (zadd i 2))), zI (xs (Int.toNat (zadd i 1))), zR 71, zI v1], F1, G1, zsg) rfl ?_
  refine zle_xld rfl (by decide) rfl rfl (fun _ => ?_)
  refine zle_I rfl (fun v2 F2 G2 => ?_)
  refine zle_many 1 (242, (bif zcmp .eq v1 v2 then 1578 else 1384), [zR 1, zR 5, zR 71, zI i], [], F2, G2, zsg) rfl ?_
  refine zle_eq (fun _ => ?_) (fun _ => ?_)
  · exact zle_rfl
  · refine zle_many 1 (242, 1385, [zR 1, zR 5, zR 71, zI i], [zI 0], F2, G2, zsg) rfl ?_
    exact zle_ret rfl
set_option maxRecDepth 20000 in
theorem g_W_1386 {d L : Nat} {xs : Nat → Int} {F : zM} {G : zG} (i : Int) : zle (
  if 0 ≤ (zadd i 1) ∧ (zadd i 1) < L then
  if 0 ≤ (zadd i 2) ∧ (zadd i 2) < L then
    if 0 ≤ (zadd i 3) ∧ (zadd i 3) < L then
      zbI (zex d 37 [zR 5, zI (xs (Int.toNat (zadd i 1))), zI (xs (Int.toNat (zadd i 2))), zI (xs (Int.toNat (zadd i 3)))] (F, G, zsg)) (fun v1 F1 G1 =>
        if 0 ≤ (zadd i 1) ∧ (zadd i 1) < L then
          if 0 ≤ (zadd i 2) ∧ (zadd i 2) < L then
            if 0 ≤ (zadd i 3) ∧ (zadd i 3) < L then
              zbI (zex d 132 [zR 71, zI (xs (Int.toNat (zadd i 1))), zI (xs (Int.toNat (zadd i 2))), zI (xs (Int.toNat (zadd i 3)))] (F1, G1, zsg)) (fun v2 F2 G2 =>
                if v1 = v2 then
                  zev (zX 1 L xs) d (242, 1578, [zR 1, zR 5, zR 71, zI i], [], F2, G2, zsg)
                else
                  some (some (zI 0), F2, G2, zsg))
            else none
          else none
        else none)
    else none
  else none
else none) (zev (zX 1 L xs) d (242, 1386, [zR 1, zR 5, zR 71, zI i], [], F, G, zsg)) := by
  refine zle_many 5 (242, 1391, [zR 1, zR 5, zR 71, zI i], [zI (zadd i 1), zR 1, zR 5], F, G, zsg) rfl ?_
  refine zle_xld rfl (by decide) rfl rfl (fun _ => ?_)
  refine zle_many 4 (242, 1396, [zR 1, zR 5, zR 71, zI i], [zI (zadd i 2), zR 1, zI (xs (Int.toNat (zadd i 1))), zR 5], F, G, zsg) rfl ?_
  refine zle_xld rfl (by decide) rfl rfl (fun _ => ?_)
  refine zle_many 4 (242, 1401, [zR 1, zR 5, zR 71, zI i], [zI (zadd i 3), zR 1, zI (xs (Int.toNat (zadd i 2))), zI (xs (Int.toNat (zadd i 1))), zR 5], F, G, zsg) rfl ?_
  refine zle_xld rfl (by decide) rfl rfl (fun _ => ?_)
  refine zle_I rfl (fun v1 F1 G1 => ?_)
  refine zle_many 5 (242, 1410, [zR 1, zR 5, zR 71, zI i], [zI (zadd i 1), zR 1, zR 71, zI v1], F1, G1, zsg) rfl ?_
  refine zle_xld rfl (by decide) rfl rfl (fun _ => ?_)
  refine zle_many 4 (242, 1415, [zR 1, zR 5, zR 71, zI i], [zI (zadd i 2), zR 1, zI (xs (Int.toNat (zadd i 1))), zR 71, zI v1], F1, G1, zsg) rfl ?_
  refine zle_xld rfl (by decide) rfl rfl (fun _ => ?_)
  refine zle_many 4 (242, 1420, [zR 1, zR 5, zR 71, zI i], [zI (zadd i 3), zR 1, zI (xs (Int.toNat (zadd i 2))), zI (xs (Int.toNat (zadd i 1))), zR 71, zI v1], F1, G1, zsg) rfl ?_
  refine zle_xld rfl (by decide) rfl rfl (fun _ => ?_)
  refine zle_I rfl (fun v2 F2 G2 => ?_)
  refine zle_many 1 (242, (bif zcmp .eq v1 v2 then 1578 else 1427), [zR 1, zR 5, zR 71, zI i], [], F2, G2, zsg) rfl ?_
  refine zle_eq (fun _ => ?_) (fun _ => ?_)
  · exact zle_rfl
  · refine zle_many 1 (242, 1428, [zR 1, zR 5, zR 71, zI i], [zI 0], F2, G2, zsg) rfl ?_
    exact zle_ret rfl
set_option maxRecDepth 20000 in
theorem g_W_1429 {d L : Nat} {xs : Nat → Int} {F : zM} {G : zG} (i : Int) : zle (
  if 0 ≤ (zadd i 1) ∧ (zadd i 1) < L then
  if 0 ≤ (zadd i 2) ∧ (zadd i 2) < L then
    if 0 ≤ (zadd i 3) ∧ (zadd i 3) < L then
      if 0 ≤ (zadd i 4) ∧ (zadd i 4) < L then
        if 0 ≤ (zadd i 5) ∧ (zadd i 5) < L then
          zbI (zex d 38 [zR 5, zI (xs (Int.toNat (zadd i 1))), zI (xs (Int.toNat (zadd i 2))), zI (xs (Int.toNat (zadd i 3))), zI (xs (Int.toNat (zadd i 4))), zI (xs (Int.toNat (zadd i 5)))] (F, G, zsg)) (fun v1 F1 G1 =>
            if 0 ≤ (zadd i 1) ∧ (zadd i 1) < L then
              if 0 ≤ (zadd i 2) ∧ (zadd i 2) < L then
                if 0 ≤ (zadd i 3) ∧ (zadd i 3) < L then
                  if 0 ≤ (zadd i 4) ∧ (zadd i 4) < L then
                    if 0 ≤ (zadd i 5) ∧ (zadd i 5) < L then
                      zbI (zex d 133 [zR 71, zI (xs (Int.toNat (zadd i 1))), zI (xs (Int.toNat (zadd i 2))), zI (xs (Int.toNat (zadd i 3))), zI (xs (Int.toNat (zadd i 4))), zI (xs (Int.toNat (zadd i 5)))] (F1, G1, zsg)) (fun v2 F2 G2 =>
                        if v1 = v2 then
                        zev (zX 1 L xs) d (242, 1578, [zR 1, zR 5, zR 71, zI i], [], F2, G2, zsg)
                      else
                        some (some (zI 0), F2, G2, zsg))
                    else none
                  else none
                else none
              else none
            else none)
        else none
      else none
    else none
  else none
else none) (zev (zX 1 L xs) d (242, 1429, [zR 1, zR 5, zR 71, zI i], [], F, G, zsg)) := by
  refine zle_many 5 (242, 1434, [zR 1, zR 5, zR 71, zI i], [zI (zadd i 1), zR 1, zR 5], F, G, zsg) rfl ?_
  refine zle_xld rfl (by decide) rfl rfl (fun _ => ?_)
  refine zle_many 4 (242, 1439, [zR 1, zR 5, zR 71, zI i], [zI (zadd i 2), zR 1, zI (xs (Int.toNat (zadd i 1))), zR 5], F, G, zsg) rfl ?_
  refine zle_xld rfl (by decide) rfl rfl (fun _ => ?_)
  refine zle_many 4 (242, 1444, [zR 1, zR 5, zR 71, zI i], [zI (zadd i 3), zR 1, zI (xs (Int.toNat (zadd i 2))), zI (xs (Int.toNat (zadd i 1))), zR 5], F, G, zsg) rfl ?_
  refine zle_xld rfl (by decide) rfl rfl (fun _ => ?_)
  refine zle_many 4 (242, 1449, [zR 1, zR 5, zR 71, zI i], [zI (zadd i 4), zR 1, zI (xs (Int.toNat (zadd i 3))), zI (xs (Int.toNat (zadd i 2))), zI (xs (Int.toNat (zadd i 1))), zR 5], F, G, zsg) rfl ?_
  refine zle_xld rfl (by decide) rfl rfl (fun _ => ?_)
  refine zle_many 4 (242, 1454, [zR 1, zR 5, zR 71, zI i], [zI (zadd i 5), zR 1, zI (xs (Int.toNat (zadd i 4))), zI (xs (Int.toNat (zadd i 3))), zI (xs (Int.toNat (zadd i 2))), zI (xs (Int.toNat (zadd i 1))), zR 5], F, G, zsg) rfl ?_
  refine zle_xld rfl (by decide) rfl rfl (fun _ => ?_)
  refine zle_I rfl (fun v1 F1 G1 => ?_)
  refine zle_many 5 (242, 1463, [zR 1, zR 5, zR 71, zI i], [zI (zadd i 1), zR 1, zR 71, zI v1], F1, G1, zsg) rfl ?_
  refine zle_xld rfl (by decide) rfl rfl (fun _ => ?_)
  refine zle_many 4 (242, 1468, [zR 1, zR 5, zR 71, zI i], [zI (zadd i 2), zR 1, zI (xs (Int.toNat (zadd i 1))), zR 71, zI v1], F1, G1, zsg) rfl ?_
  refine zle_xld rfl (by decide) rfl rfl (fun _ => ?_)
  refine zle_many 4 (242, 1473, [zR 1, zR 5, zR 71, zI i], [zI (zadd i 3), zR 1, zI (xs (Int.toNat (zadd i 2))), zI (xs (Int.toNat (zadd i 1))), zR 71, zI v1], F1, G1, zsg) rfl ?_
  refine zle_xld rfl (by decide) rfl rfl (fun _ => ?_)
  refine zle_many 4 (242, 1478, [zR 1, zR 5, zR 71, zI i], [zI (zadd i 4), zR 1, zI (xs (Int.toNat (zadd i 3))), zI (xs (Int.toNat (zadd i 2))), zI (xs (Int.toNat (zadd i 1))), zR 71, zI v1], F1, G1, zsg) rfl ?_
  refine zle_xld rfl (by decide) rfl rfl (fun _ => ?_)
  refine zle_many 4 (242, 1483, [zR 1, zR 5, zR 71, zI i], [zI (zadd i 5), zR 1, zI (xs (Int.toNat (zadd i 4))), zI (xs (Int.toNat (zadd i 3))), zI (xs (Int.toNat (zadd i 2))), zI (xs (Int.toNat (zadd i 1))), zR 71, zI v1], F1, G1, zsg) rfl ?_
  refine zle_xld rfl (by decide) rfl rfl (fun _ => ?_)
  refine zle_I rfl (fun v2 F2 G2 => ?_)
  refine zle_many 1 (242, (bif zcmp .eq v1 v2 then 1578 else 1490), [zR 1, zR 5, zR 71, zI i], [], F2, G2, zsg) rfl ?_
  refine zle_eq (fun _ => ?_) (fun _ => ?_)
  · exact zle_rfl
  · refine zle_many 1 (242, 1491, [zR 1, zR 5, zR 71, zI i], [zI 0], F2, G2, zsg) rfl ?_
    exact zle_ret rfl
set_option maxRecDepth 20000 in
theorem g_W_1492 {d L : Nat} {xs : Nat → Int} {F : zM} {G : zG} (i : Int) : zle (
  if 0 ≤ (zadd i 1) ∧ (zadd i 1) < L then
  if 0 ≤ (zadd i 2) ∧ (zadd i 2) < L then
    if 0 ≤ (zadd i 3) ∧ (zadd i 3) < L then
      if 0 ≤ (zadd i 4) ∧ (zadd i 4) < L then
        zbI (zex d 39 [zR 5, zI (xs (Int.toNat (zadd i 1))), zI (xs (Int.toNat (zadd i 2))), zI (xs (Int.toNat (zadd i 3))), zI (xs (Int.toNat (zadd i 4)))] (F, G, zsg)) (fun v1 F1 G1 =>
          if 0 ≤ (zadd i 1) ∧ (zadd i 1) < L then
            if 0 ≤ (zadd i 2) ∧ (zadd i 2) < L then
              if 0 ≤ (zadd i 3) ∧ (zadd i 3) < L then
                if 0 ≤ (zadd i 4) ∧ (zadd i 4) < L then
                  zbI (zex d 134 [zR 71, zI (xs (Int.toNat (zadd i 1))), zI (xs (Int.toNat (zadd i 2))), zI (xs (Int.toNat (zadd i 3))), zI (xs (Int.toNat (zadd i 4)))] (F1, G1, zsg)) (fun v2 F2 G2 =>
                    if v1 = v2 then
                      zev (zX 1 L xs) d (242, 1578, [zR 1, zR 5, zR 71, zI i], [], F2, G2, zsg)
                    else
                      some (some (zI 0), F2, G2, zsg))
                else none
              else none
            else none
          else none)
      else none
    else none
  else none
else none) (zev (zX 1 L xs) d (242, 1492, [zR 1, zR 5, zR 71, zI i], [], F, G, zsg)) := by
  refine zle_many 5 (242, 1497, [zR 1, zR 5, zR 71, zI i], [zI (zadd i 1), zR 1, zR 5], F, G, zsg) rfl ?_
  refine zle_xld rfl (by decide) rfl rfl (fun _ => ?_)
  refine zle_many 4 (242, 1502, [zR 1, zR 5, zR 71, zI i], [zI (zadd i 2), zR 1, zI (xs (Int.toNat (zadd i 1))), zR 5], F, G, zsg) rfl ?_
  refine zle_xld rfl (by decide) rfl rfl (fun _ => ?_)
  refine zle_many 4 (242, 1507, [zR 1, zR 5, zR 71, zI i], [zI (zadd i 3), zR 1, zI (xs (Int.toNat (zadd i 2))), zI (xs (Int.toNat (zadd i 1))), zR 5], F, G, zsg) rfl ?_
  refine zle_xld rfl (by decide) rfl rfl (fun _ => ?_)
  refine zle_many 4 (242, 1512, [zR 1, zR 5, zR 71, zI i], [zI (zadd i 4), zR 1, zI (xs (Int.toNat (zadd i 3))), zI (xs (Int.toNat (zadd i 2))), zI (xs (Int.toNat (zadd i 1))), zR 5], F, G, zsg) rfl ?_
  refine zle_xld rfl (by decide) rfl rfl (fun _ => ?_)
  refine zle_I rfl (fun v1 F1 G1 => ?_)
  refine zle_many 5 (242, 1521, [zR 1, zR 5, zR 71, zI i], [zI (zadd i 1), zR 1, zR 71, zI v1], F1, G1, zsg) rfl ?_
  refine zle_xld rfl (by decide) rfl rfl (fun _ => ?_)
  refine zle_many 4 (242, 1526, [zR 1, zR 5, zR 71, zI i], [zI (zadd i 2), zR 1, zI (xs (Int.toNat (zadd i 1))), zR 71, zI v1], F1, G1, zsg) rfl ?_
  refine zle_xld rfl (by decide) rfl rfl (fun _ => ?_)
  refine zle_many 4 (242, 1531, [zR 1, zR 5, zR 71, zI i], [zI (zadd i 3), zR 1, zI (xs (Int.toNat (zadd i 2))), zI (xs (Int.toNat (zadd i 1))), zR 71, zI v1], F1, G1, zsg) rfl ?_
  refine zle_xld rfl (by decide) rfl rfl (fun _ => ?_)
  refine zle_many 4 (242, 1536, [zR 1, zR 5, zR 71, zI i], [zI (zadd i 4), zR 1, zI (xs (Int.toNat (zadd i 3))), zI (xs (Int.toNat (zadd i 2))), zI (xs (Int.toNat (zadd i 1))), zR 71, zI v1], F1, G1, zsg) rfl ?_
  refine zle_xld rfl (by decide) rfl rfl (fun _ => ?_)
  refine zle_I rfl (fun v2 F2 G2 => ?_)
  refine zle_many 1 (242, (bif zcmp .eq v1 v2 then 1578 else 1543), [zR 1, zR 5, zR 71, zI i], [], F2, G2, zsg) rfl ?_
  refine zle_eq (fun _ => ?_) (fun _ => ?_)
  · exact zle_rfl
  · refine zle_many 1 (242, 1544, [zR 1, zR 5, zR 71, zI i], [zI 0], F2, G2, zsg) rfl ?_
    exact zle_ret rfl
set_option maxRecDepth 20000 in
theorem g_W_1545 {d L : Nat} {xs : Nat → Int} {F : zM} {G : zG} (i : Int) : zle (
  if 0 ≤ (zadd i 1) ∧ (zadd i 1) < L then
  if 0 ≤ (zadd i 2) ∧ (zadd i 2) < L then
    zbI (zex d 40 [zR 5, zI (xs (Int.toNat (zadd i 1))), zI (xs (Int.toNat (zadd i 2)))] (F, G, zsg)) (fun v1 F1 G1 =>
      if 0 ≤ (zadd i 1) ∧ (zadd i 1) < L then
        if 0 ≤ (zadd i 2) ∧ (zadd i 2) < L then
          zbI (zex d 136 [zR 71, zI (xs (Int.toNat (zadd i 1))), zI (xs (Int.toNat (zadd i 2)))] (F1, G1, zsg)) (fun v2 F2 G2 =>
            if v1 = v2 then
              zev (zX 1 L xs) d (242, 1578, [zR 1, zR 5, zR 71, zI i], [], F2, G2, zsg)
            else
              some (some (zI 0), F2, G2, zsg))
        else none
      else none)
  else none
else none) (zev (zX 1 L xs) d (242, 1545, [zR 1, zR 5, zR 71, zI i], [], F, G, zsg)) := by
  refine zle_many 5 (242, 1550, [zR 1, zR 5, zR 71, zI i], [zI (zadd i 1), zR 1, zR 5], F, G, zsg) rfl ?_
  refine zle_xld rfl (by decide) rfl rfl (fun _ => ?_)
  refine zle_many 4 (242, 1555, [zR 1, zR 5, zR 71, zI i], [zI (zadd i 2), zR 1, zI (xs (Int.toNat (zadd i 1))), zR 5], F, G, zsg) rfl ?_
  refine zle_xld rfl (by decide) rfl rfl (fun _ => ?_)
  refine zle_I rfl (fun v1 F1 G1 => ?_)
  refine zle_many 5 (242, 1564, [zR 1, zR 5, zR 71, zI i], [zI (zadd i 1), zR 1, zR 71, zI v1], F1, G1, zsg) rfl ?_
  refine zle_xld rfl (by decide) rfl rfl (fun _ => ?_)
  refine zle_many 4 (242, 1569, [zR 1, zR 5, zR 71, zI i], [zI (zadd i 2), zR 1, zI (xs (Int.toNat (zadd i 1))), zR 71, zI v1], F1, G1, zsg) rfl ?_
  refine zle_xld rfl (by decide) rfl rfl (fun _ => ?_)
  refine zle_I rfl (fun v2 F2 G2 => ?_)
  refine zle_many 1 (242, (bif zcmp .eq v1 v2 then 1578 else 1576), [zR 1, zR 5, zR 71, zI i], [], F2, G2, zsg) rfl ?_
  refine zle_eq (fun _ => ?_) (fun _ => ?_)
  · exact zle_rfl
  · refine zle_many 1 (242, 1577, [zR 1, zR 5, zR 71, zI i], [zI 0], F2, G2, zsg) rfl ?_
    exact zle_ret rfl
set_option maxRecDepth 20000 in
theorem g_W_1578 {d L : Nat} {xs : Nat → Int} {F : zM} {G : zG} (i : Int) : zle (
  zev (zX 1 L xs) d (242, 18, [zR 1, zR 5, zR 71, zI (zadd i 6)], [], F, G, zsg)) (zev (zX 1 L xs) d (242, 1578, [zR 1, zR 5, zR 71, zI i], [], F, G, zsg)) := by
  refine zle_many 2 (242, 18, [zR 1, zR 5, zR 71, zI (zadd i 6)], [], F, G, zsg) rfl ?_
  exact zle_rfl
