/-! printed by wip/gen/gen_all.py: what each method does from its entry and from each loop's head (a tree of tests, calls and ends), and that the code does so -/
set_option maxRecDepth 20000 in
theorem g_M_in {d : Nat} {F : zM} {G : zG} (a0 : Int) (a1 : Int) (a2 : Int) : zle (
  if a0 < a1 then
  some (some (zI 0), F, G, zsg)
else
  if a2 < a0 then
    some (some (zI 0), F, G, zsg)
  else
    some (some (zI 1), F, G, zsg)) (zex (d + 1) 49 [zI a0, zI a1, zI a2] (F, G, zsg)) := by
  refine zle_ent (ls := [zI a0, zI a1, zI a2]) ?_
  refine zle_many 3 (49, (bif zcmp .lt a0 a1 then 14 else 5), [zI a0, zI a1, zI a2], [], F, G, zsg) rfl ?_
  refine zle_lt (fun _ => ?_) (fun _ => ?_)
  · refine zle_many 1 (49, 15, [zI a0, zI a1, zI a2], [zI 0], F, G, zsg) rfl ?_
    exact zle_ret rfl
  · refine zle_many 3 (49, (bif zcmp .gt a0 a2 then 14 else 10), [zI a0, zI a1, zI a2], [], F, G, zsg) rfl ?_
    refine zle_gt (fun _ => ?_) (fun _ => ?_)
    · refine zle_many 1 (49, 15, [zI a0, zI a1, zI a2], [zI 0], F, G, zsg) rfl ?_
      exact zle_ret rfl
    · refine zle_many 2 (49, 15, [zI a0, zI a1, zI a2], [zI 1], F, G, zsg) rfl ?_
      exact zle_ret rfl
set_option maxRecDepth 20000 in
theorem g_M_isCell {d : Nat} {F : zM} {G : zG} (a0 : Int) : zle (
  zbI (zex d 49 [zI a0, zI 0, zI 63] (F, G, zsg)) (fun v1 F1 G1 =>
  if v1 = 0 ∨ v1 = 1 then some (some (zI v1), F1, G1, zsg) else none)) (zex (d + 1) 50 [zI a0] (F, G, zsg)) := by
  refine zle_ent (ls := [zI a0]) ?_
  refine zle_many 3 (50, 4, [zI a0], [zI 63, zI 0, zI a0], F, G, zsg) rfl ?_
  refine zle_I rfl (fun v1 F1 G1 => ?_)
  exact zle_retg rfl
set_option maxRecDepth 20000 in
theorem g_M_isThing {d : Nat} {F : zM} {G : zG} (a1 : Int) : zle (
  zbI (zex d 49 [zI a1, zI 0, zI (zsub (F 71 8) 1)] (F, G, zsg)) (fun v1 F1 G1 =>
  if v1 = 0 ∨ v1 = 1 then some (some (zI v1), F1, G1, zsg) else none)) (zex (d + 1) 51 [zR 71, zI a1] (F, G, zsg)) := by
  refine zle_ent (ls := [zR 71, zI a1]) ?_
  refine zle_many 6 (51, 8, [zR 71, zI a1], [zI (zsub (F 71 8) 1), zI 0, zI a1], F, G, zsg) rfl ?_
  refine zle_I rfl (fun v1 F1 G1 => ?_)
  exact zle_retg rfl
set_option maxRecDepth 20000 in
theorem g_M_isHand {d : Nat} {F : zM} {G : zG} (a0 : Int) : zle (
  zbI (zex d 49 [zI a0, zI 0, zI 1] (F, G, zsg)) (fun v1 F1 G1 =>
  if v1 = 0 ∨ v1 = 1 then some (some (zI v1), F1, G1, zsg) else none)) (zex (d + 1) 52 [zI a0] (F, G, zsg)) := by
  refine zle_ent (ls := [zI a0]) ?_
  refine zle_many 3 (52, 3, [zI a0], [zI 1, zI 0, zI a0], F, G, zsg) rfl ?_
  refine zle_I rfl (fun v1 F1 G1 => ?_)
  exact zle_retg rfl
set_option maxRecDepth 20000 in
theorem g_M_beside {d : Nat} {F : zM} {G : zG} (a0 : Int) (a1 : Int) : zle (
  if a1 = 0 then
  if a0 < 8 then
    some (some (zI (-1)), F, G, zsg)
  else
    some (some (zI (zsub a0 8)), F, G, zsg)
else
if a1 = 1 then
  if (zrem a0 8) < 7 then
    some (some (zI (zadd a0 1)), F, G, zsg)
  else
    some (some (zI (-1)), F, G, zsg)
else
if a1 = 2 then
  if a0 < 56 then
    some (some (zI (zadd a0 8)), F, G, zsg)
  else
    some (some (zI (-1)), F, G, zsg)
else
if 0 < (zrem a0 8) then
    some (some (zI (zsub a0 1)), F, G, zsg)
  else
    some (some (zI (-1)), F, G, zsg)) (zex (d + 1) 53 [zI a0, zI a1] (F, G, zsg)) := by
  refine zle_ent (ls := [zI a0, zI a1]) ?_
  refine zle_many 2 (53, zsw a1 [(0, 28), (1, 43), (2, 60)] 75, [zI a0, zI a1], [], F, G, zsg) rfl ?_
  refine zle_sw (fun _ => ?_) (fun _ => ?_)
  · refine zle_many 3 (53, (bif zcmp .lt a0 8 then 41 else 34), [zI a0, zI a1], [], F, G, zsg) rfl ?_
    refine zle_lt (fun _ => ?_) (fun _ => ?_)
    · refine zle_many 1 (53, 42, [zI a0, zI a1], [zI (-1)], F, G, zsg) rfl ?_
      exact zle_ret rfl
    · refine zle_many 4 (53, 42, [zI a0, zI a1], [zI (zsub a0 8)], F, G, zsg) rfl ?_
      exact zle_ret rfl
  · refine zle_sw (fun _ => ?_) (fun _ => ?_)
    · refine zle_many 5 (53, (bif zcmp .ge (zrem a0 8) 7 then 58 else 52), [zI a0, zI a1], [], F, G, zsg) rfl ?_
      refine zle_ge (fun _ => ?_) (fun _ => ?_)
      · refine zle_many 4 (53, 59, [zI a0, zI a1], [zI (zadd a0 1)], F, G, zsg) rfl ?_
        exact zle_ret rfl
      · refine zle_many 1 (53, 59, [zI a0, zI a1], [zI (-1)], F, G, zsg) rfl ?_
        exact zle_ret rfl
    · refine zle_sw (fun _ => ?_) (fun _ => ?_)
      · refine zle_many 3 (53, (bif zcmp .ge a0 56 then 73 else 66), [zI a0, zI a1], [], F, G, zsg) rfl ?_
        refine zle_ge (fun _ => ?_) (fun _ => ?_)
        · refine zle_many 4 (53, 74, [zI a0, zI a1], [zI (zadd a0 8)], F, G, zsg) rfl ?_
          exact zle_ret rfl
        · refine zle_many 1 (53, 74, [zI a0, zI a1], [zI (-1)], F, G, zsg) rfl ?_
          exact zle_ret rfl
      · refine zle_many 4 (53, (bif zcmp .le (zrem a0 8) 0 then 88 else 82), [zI a0, zI a1], [], F, G, zsg) rfl ?_
        refine zle_le (fun _ => ?_) (fun _ => ?_)
        · refine zle_many 4 (53, 89, [zI a0, zI a1], [zI (zsub a0 1)], F, G, zsg) rfl ?_
          exact zle_ret rfl
        · refine zle_many 1 (53, 89, [zI a0, zI a1], [zI (-1)], F, G, zsg) rfl ?_
          exact zle_ret rfl
set_option maxRecDepth 20000 in
theorem g_M_sidesOf {d : Nat} {F : zM} {G : zG} (a0 : Int) : zle (
  if a0 = 1 then
  some (some (zI 10), F, G, zsg)
else
  if a0 = 4 then
    some (some (zI 10), F, G, zsg)
  else
    if a0 = 2 then
      some (some (zI 13), F, G, zsg)
    else
      if a0 = 5 then
        some (some (zI 5), F, G, zsg)
      else
        some (some (zI 15), F, G, zsg)) (zex (d + 1) 54 [zI a0] (F, G, zsg)) := by
  refine zle_ent (ls := [zI a0]) ?_
  refine zle_many 3 (54, (bif zcmp .eq a0 1 then 10 else 5), [zI a0], [], F, G, zsg) rfl ?_
  refine zle_eq (fun _ => ?_) (fun _ => ?_)
  · refine zle_many 2 (54, 36, [zI a0], [zI 10], F, G, zsg) rfl ?_
    exact zle_ret rfl
  · refine zle_many 3 (54, (bif zcmp .ne a0 4 then 15 else 10), [zI a0], [], F, G, zsg) rfl ?_
    refine zle_ne (fun _ => ?_) (fun _ => ?_)
    · refine zle_many 2 (54, 36, [zI a0], [zI 10], F, G, zsg) rfl ?_
      exact zle_ret rfl
    · refine zle_many 3 (54, (bif zcmp .ne a0 2 then 25 else 20), [zI a0], [], F, G, zsg) rfl ?_
      refine zle_ne (fun _ => ?_) (fun _ => ?_)
      · refine zle_many 2 (54, 36, [zI a0], [zI 13], F, G, zsg) rfl ?_
        exact zle_ret rfl
      · refine zle_many 3 (54, (bif zcmp .ne a0 5 then 34 else 30), [zI a0], [], F, G, zsg) rfl ?_
        refine zle_ne (fun _ => ?_) (fun _ => ?_)
        · refine zle_many 2 (54, 36, [zI a0], [zI 5], F, G, zsg) rfl ?_
          exact zle_ret rfl
        · refine zle_many 1 (54, 36, [zI a0], [zI 15], F, G, zsg) rfl ?_
          exact zle_ret rfl
set_option maxRecDepth 20000 in
theorem g_M_weightOf {d : Nat} {F : zM} {G : zG} (a0 : Int) (a1 : Int) : zle (
  if a0 = 1 then
  some (some (zI (zadd (zmul 2 a1) 3)), F, G, zsg)
else
  if a0 = 3 then
    some (some (zI a1), F, G, zsg)
  else
    if a0 = 4 then
      some (some (zI (zmul 2 (zadd (zmul 2 a1) 3))), F, G, zsg)
    else
      if a0 = 5 then
        some (some (zI (zsub (zmul 2 a1) 1)), F, G, zsg)
      else
        some (some (zI (zmul 2 a1)), F, G, zsg)) (zex (d + 1) 55 [zI a0, zI a1] (F, G, zsg)) := by
  refine zle_ent (ls := [zI a0, zI a1]) ?_
  refine zle_many 3 (55, (bif zcmp .ne a0 1 then 13 else 5), [zI a0, zI a1], [], F, G, zsg) rfl ?_
  refine zle_ne (fun _ => ?_) (fun _ => ?_)
  · refine zle_many 6 (55, 53, [zI a0, zI a1], [zI (zadd (zmul 2 a1) 3)], F, G, zsg) rfl ?_
    exact zle_ret rfl
  · refine zle_many 3 (55, (bif zcmp .ne a0 3 then 22 else 18), [zI a0, zI a1], [], F, G, zsg) rfl ?_
    refine zle_ne (fun _ => ?_) (fun _ => ?_)
    · refine zle_many 2 (55, 53, [zI a0, zI a1], [zI a1], F, G, zsg) rfl ?_
      exact zle_ret rfl
    · refine zle_many 3 (55, (bif zcmp .ne a0 4 then 37 else 27), [zI a0, zI a1], [], F, G, zsg) rfl ?_
      refine zle_ne (fun _ => ?_) (fun _ => ?_)
      · refine zle_many 8 (55, 53, [zI a0, zI a1], [zI (zmul 2 (zadd (zmul 2 a1) 3))], F, G, zsg) rfl ?_
        exact zle_ret rfl
      · refine zle_many 3 (55, (bif zcmp .ne a0 5 then 50 else 42), [zI a0, zI a1], [], F, G, zsg) rfl ?_
        refine zle_ne (fun _ => ?_) (fun _ => ?_)
        · refine zle_many 6 (55, 53, [zI a0, zI a1], [zI (zsub (zmul 2 a1) 1)], F, G, zsg) rfl ?_
          exact zle_ret rfl
        · refine zle_many 3 (55, 53, [zI a0, zI a1], [zI (zmul 2 a1)], F, G, zsg) rfl ?_
          exact zle_ret rfl
set_option maxRecDepth 20000 in
theorem g_M_turnsUp {d : Nat} {F : zM} {G : zG} (a0 : Int) : zle (
  if a0 = 2 then
  some (some (zI 0), F, G, zsg)
else
  if a0 = 5 then
    some (some (zI 0), F, G, zsg)
  else
    some (some (zI 1), F, G, zsg)) (zex (d + 1) 56 [zI a0] (F, G, zsg)) := by
  refine zle_ent (ls := [zI a0]) ?_
  refine zle_many 3 (56, (bif zcmp .eq a0 2 then 14 else 5), [zI a0], [], F, G, zsg) rfl ?_
  refine zle_eq (fun _ => ?_) (fun _ => ?_)
  · refine zle_many 1 (56, 15, [zI a0], [zI 0], F, G, zsg) rfl ?_
    exact zle_ret rfl
  · refine zle_many 3 (56, (bif zcmp .eq a0 5 then 14 else 10), [zI a0], [], F, G, zsg) rfl ?_
    refine zle_eq (fun _ => ?_) (fun _ => ?_)
    · refine zle_many 1 (56, 15, [zI a0], [zI 0], F, G, zsg) rfl ?_
      exact zle_ret rfl
    · refine zle_many 2 (56, 15, [zI a0], [zI 1], F, G, zsg) rfl ?_
      exact zle_ret rfl
set_option maxRecDepth 20000 in
theorem g_M_kindTold {d : Nat} {F : zM} {G : zG} (a1 : Int) (a2 : Int) (a3 : Int) : zle (
  zbI (zex d 49 [zI a1, zI 0, zI 5] (F, G, zsg)) (fun v1 F1 G1 =>
  if v1 = 0 then
    some (some (zI (-2)), F1, G1, zsg)
  else
    zbI (zex d 49 [zI a2, zI 1, zI 2] (F1, G1, zsg)) (fun v2 F2 G2 =>
      if v2 = 0 then
        some (some (zI (-2)), F2, G2, zsg)
      else
        zbI (zex d 49 [zI a3, zI 0, zI 3] (F2, G2, zsg)) (fun v3 F3 G3 =>
          if v3 = 0 then
            some (some (zI (-2)), F3, G3, zsg)
          else
            if a3 = 0 then
              zbI (zex d 54 [zI a1] (F3, G3, zsg)) (fun v6 F6 G6 =>
                some (some (zI v6), F6, G6, zsg))
            else
              if a3 = 1 then
                zbI (zex d 55 [zI a1, zI a2] (F3, G3, zsg)) (fun v5 F5 G5 =>
                  some (some (zI v5), F5, G5, zsg))
              else
                if a3 = 2 then
                  if a1 = 3 then
                    some (some (zI 1), F3, G3, zsg)
                  else
                    some (some (zI 0), F3, G3, zsg)
                else
                  zbI (zex d 56 [zI a1] (F3, G3, zsg)) (fun v4 F4 G4 =>
                    if v4 = 0 then
                      some (some (zI 0), F4, G4, zsg)
                    else
                      some (some (zI 1), F4, G4, zsg)))))) (zex (d + 1) 57 [zR 71, zI a1, zI a2, zI a3] (F, G, zsg)) := by
  refine zle_ent (ls := [zR 71, zI a1, zI a2, zI a3]) ?_
  refine zle_many 3 (57, 3, [zR 71, zI a1, zI a2, zI a3], [zI 5, zI 0, zI a1], F, G, zsg) rfl ?_
  refine zle_I rfl (fun v1 F1 G1 => ?_)
  refine zle_many 1 (57, (bif zcmp .eq v1 0 then 27 else 9), [zR 71, zI a1, zI a2, zI a3], [], F1, G1, zsg) rfl ?_
  refine zle_eq (fun _ => ?_) (fun _ => ?_)
  · refine zle_many 1 (57, 29, [zR 71, zI a1, zI a2, zI a3], [zI (-2)], F1, G1, zsg) rfl ?_
    exact zle_ret rfl
  · refine zle_many 3 (57, 12, [zR 71, zI a1, zI a2, zI a3], [zI 2, zI 1, zI a2], F1, G1, zsg) rfl ?_
    refine zle_I rfl (fun v2 F2 G2 => ?_)
    refine zle_many 1 (57, (bif zcmp .eq v2 0 then 27 else 18), [zR 71, zI a1, zI a2, zI a3], [], F2, G2, zsg) rfl ?_
    refine zle_eq (fun _ => ?_) (fun _ => ?_)
    · refine zle_many 1 (57, 29, [zR 71, zI a1, zI a2, zI a3], [zI (-2)], F2, G2, zsg) rfl ?_
      exact zle_ret rfl
    · refine zle_many 3 (57, 21, [zR 71, zI a1, zI a2, zI a3], [zI 3, zI 0, zI a3], F2, G2, zsg) rfl ?_
      refine zle_I rfl (fun v3 F3 G3 => ?_)
      refine zle_many 1 (57, (bif zcmp .ne v3 0 then 30 else 27), [zR 71, zI a1, zI a2, zI a3], [], F3, G3, zsg) rfl ?_
      refine zle_ne (fun _ => ?_) (fun _ => ?_)
      · refine zle_many 1 (57, 29, [zR 71, zI a1, zI a2, zI a3], [zI (-2)], F3, G3, zsg) rfl ?_
        exact zle_ret rfl
      · refine zle_many 2 (57, (bif zcmp .ne a3 0 then 41 else 34), [zR 71, zI a1, zI a2, zI a3], [], F3, G3, zsg) rfl ?_
        refine zle_ne (fun _ => ?_) (fun _ => ?_)
        · refine zle_many 1 (57, 35, [zR 71, zI a1, zI a2, zI a3], [zI a1], F3, G3, zsg) rfl ?_
          refine zle_I rfl (fun v6 F6 G6 => ?_)
          refine zle_many 1 (57, 84, [zR 71, zI a1, zI a2, zI a3], [zI v6], F6, G6, zsg) rfl ?_
          exact zle_ret rfl
        · refine zle_many 3 (57, (bif zcmp .ne a3 1 then 54 else 46), [zR 71, zI a1, zI a2, zI a3], [], F3, G3, zsg) rfl ?_
          refine zle_ne (fun _ => ?_) (fun _ => ?_)
          · refine zle_many 2 (57, 48, [zR 71, zI a1, zI a2, zI a3], [zI a2, zI a1], F3, G3, zsg) rfl ?_
            refine zle_I rfl (fun v5 F5 G5 => ?_)
            refine zle_many 1 (57, 84, [zR 71, zI a1, zI a2, zI a3], [zI v5], F5, G5, zsg) rfl ?_
            exact zle_ret rfl
          · refine zle_many 3 (57, (bif zcmp .ne a3 2 then 72 else 59), [zR 71, zI a1, zI a2, zI a3], [], F3, G3, zsg) rfl ?_
            refine zle_ne (fun _ => ?_) (fun _ => ?_)
            · refine zle_many 3 (57, (bif zcmp .ne a1 3 then 68 else 64), [zR 71, zI a1, zI a2, zI a3], [], F3, G3, zsg) rfl ?_
              refine zle_ne (fun _ => ?_) (fun _ => ?_)
              · refine zle_many 2 (57, 84, [zR 71, zI a1, zI a2, zI a3], [zI 1], F3, G3, zsg) rfl ?_
                exact zle_ret rfl
              · refine zle_many 2 (57, 84, [zR 71, zI a1, zI a2, zI a3], [zI 0], F3, G3, zsg) rfl ?_
                exact zle_ret rfl
            · refine zle_many 1 (57, 73, [zR 71, zI a1, zI a2, zI a3], [zI a1], F3, G3, zsg) rfl ?_
              refine zle_I rfl (fun v4 F4 G4 => ?_)
              refine zle_many 1 (57, (bif zcmp .eq v4 0 then 83 else 79), [zR 71, zI a1, zI a2, zI a3], [], F4, G4, zsg) rfl ?_
              refine zle_eq (fun _ => ?_) (fun _ => ?_)
              · refine zle_many 1 (57, 84, [zR 71, zI a1, zI a2, zI a3], [zI 0], F4, G4, zsg) rfl ?_
                exact zle_ret rfl
              · refine zle_many 2 (57, 84, [zR 71, zI a1, zI a2, zI a3], [zI 1], F4, G4, zsg) rfl ?_
                exact zle_ret rfl
set_option maxRecDepth 20000 in
theorem g_M_isShut {d : Nat} {F : zM} {G : zG} (a1 : Int) : zle (
  zev zX0 d (58, 2, [zR 71, zI a1, zI 0], [], F, G, zsg)) (zex (d + 1) 58 [zR 71, zI a1] (F, G, zsg)) := by
  refine zle_ent (ls := [zR 71, zI a1, zR 0]) ?_
  refine zle_many 2 (58, 2, [zR 71, zI a1, zI 0], [], F, G, zsg) rfl ?_
  exact zle_rfl
set_option maxRecDepth 20000 in
theorem g_M_isShut_2 {d : Nat} {F : zM} {G : zG} (l1 : Int) (l2 : Int) : zle (
  if l2 < (F 71 5) then
  if 0 ≤ l2 ∧ l2 < 4 then
    if (F 76 (Int.toNat l2)) = l1 then
      if 0 ≤ (zadd 24 l2) ∧ (zadd 24 l2) < 43 then
        if (F 72 (Int.toNat (zadd 24 l2))) = 0 then
          some (some (zI 1), F, G, zsg)
        else
          zev zX0 d (58, 2, [zR 71, zI l1, zI (zadd l2 1)], [], F, G, zsg)
      else none
    else
      zev zX0 d (58, 2, [zR 71, zI l1, zI (zadd l2 1)], [], F, G, zsg)
  else none
else
  some (some (zI 0), F, G, zsg)) (zev zX0 d (58, 2, [zR 71, zI l1, zI l2], [], F, G, zsg)) := by
  refine zle_many 4 (58, (bif zcmp .ge l2 (F 71 5) then 40 else 10), [zR 71, zI l1, zI l2], [], F, G, zsg) rfl ?_
  refine zle_ge (fun _ => ?_) (fun _ => ?_)
  · refine zle_many 3 (58, 15, [zR 71, zI l1, zI l2], [zI l2, zR 76], F, G, zsg) rfl ?_
    refine zle_ald rfl rfl rfl (fun _ => ?_)
    refine zle_many 2 (58, (bif zcmp .ne (F 76 (Int.toNat l2)) l1 then 34 else 20), [zR 71, zI l1, zI l2], [], F, G, zsg) rfl ?_
    refine zle_ne (fun _ => ?_) (fun _ => ?_)
    · refine zle_many 5 (58, 28, [zR 71, zI l1, zI l2], [zI (zadd 24 l2), zR 72], F, G, zsg) rfl ?_
      refine zle_ald rfl rfl rfl (fun _ => ?_)
      refine zle_many 1 (58, (bif zcmp .ne (F 72 (Int.toNat (zadd 24 l2))) 0 then 34 else 32), [zR 71, zI l1, zI l2], [], F, G, zsg) rfl ?_
      refine zle_ne (fun _ => ?_) (fun _ => ?_)
      · refine zle_many 1 (58, 33, [zR 71, zI l1, zI l2], [zI 1], F, G, zsg) rfl ?_
        exact zle_ret rfl
      · refine zle_many 2 (58, 2, [zR 71, zI l1, zI (zadd l2 1)], [], F, G, zsg) rfl ?_
        exact zle_rfl
    · refine zle_many 2 (58, 2, [zR 71, zI l1, zI (zadd l2 1)], [], F, G, zsg) rfl ?_
      exact zle_rfl
  · refine zle_many 1 (58, 41, [zR 71, zI l1, zI l2], [zI 0], F, G, zsg) rfl ?_
    exact zle_ret rfl
set_option maxRecDepth 20000 in
theorem g_M_thingIn {d : Nat} {F : zM} {G : zG} (a1 : Int) (a2 : Int) : zle (
  zev zX0 d (59, 2, [zR 71, zI a1, zI a2, zI 0, zR 0], [], F, G, zsg)) (zex (d + 1) 59 [zR 71, zI a1, zI a2] (F, G, zsg)) := by
  refine zle_ent (ls := [zR 71, zI a1, zI a2, zR 0, zR 0]) ?_
  refine zle_many 2 (59, 2, [zR 71, zI a1, zI a2, zI 0, zR 0], [], F, G, zsg) rfl ?_
  exact zle_rfl
set_option maxRecDepth 20000 in
theorem g_M_thingIn_2 {d : Nat} {F : zM} {G : zG} (l1 : Int) (l2 : Int) (l3 : Int) : zle (
  if l3 < (F 71 8) then
  if 0 ≤ (zadd 0 l3) ∧ (zadd 0 l3) < 43 then
    if l3 = l2 then
      zev zX0 d (59, 2, [zR 71, zI l1, zI l2, zI (zadd l3 1), zR 0], [], F, G, zsg)
    else
      if (F 72 (Int.toNat (zadd 0 l3))) = (-1) then
        zev zX0 d (59, 2, [zR 71, zI l1, zI l2, zI (zadd l3 1), zR 0], [], F, G, zsg)
      else
        if l1 < (F 72 (Int.toNat (zadd 0 l3))) then
          zev zX0 d (59, 2, [zR 71, zI l1, zI l2, zI (zadd l3 1), zR 0], [], F, G, zsg)
        else
          if 0 ≤ l3 ∧ l3 < 8 then
            if l1 < (zadd (F 72 (Int.toNat (zadd 0 l3))) (F 79 (Int.toNat l3))) then
              some (some (zI l3), F, G, zsg)
            else
              zev zX0 d (59, 2, [zR 71, zI l1, zI l2, zI (zadd l3 1), zR 0], [], F, G, zsg)
          else none
  else none
else
  some (some (zI (-1)), F, G, zsg)) (zev zX0 d (59, 2, [zR 71, zI l1, zI l2, zI l3, zR 0], [], F, G, zsg)) := by
  refine zle_many 4 (59, (bif zcmp .ge l3 (F 71 8) then 58 else 10), [zR 71, zI l1, zI l2, zI l3, zR 0], [], F, G, zsg) rfl ?_
  refine zle_ge (fun _ => ?_) (fun _ => ?_)
  · refine zle_many 5 (59, 17, [zR 71, zI l1, zI l2, zI l3, zR 0], [zI (zadd 0 l3), zR 72], F, G, zsg) rfl ?_
    refine zle_ald rfl rfl rfl (fun _ => ?_)
    refine zle_many 4 (59, (bif zcmp .eq l3 l2 then 52 else 25), [zR 71, zI l1, zI l2, zI l3, zI (F 72 (Int.toNat (zadd 0 l3)))], [], F, G, zsg) rfl ?_
    refine zle_eq (fun _ => ?_) (fun _ => ?_)
    · refine zle_many 2 (59, 2, [zR 71, zI l1, zI l2, zI (zadd l3 1), zI (F 72 (Int.toNat (zadd 0 l3)))], [], F, G, zsg) rfl ?_
      exact zle_wk ⟨Or.inl rfl, Or.inl rfl, Or.inl rfl, Or.inl rfl, Or.inr rfl, trivial⟩
    · refine zle_many 3 (59, (bif zcmp .eq (F 72 (Int.toNat (zadd 0 l3))) (-1) then 52 else 31), [zR 71, zI l1, zI l2, zI l3, zI (F 72 (Int.toNat (zadd 0 l3)))], [], F, G, zsg) rfl ?_
      refine zle_eq (fun _ => ?_) (fun _ => ?_)
      · refine zle_many 2 (59, 2, [zR 71, zI l1, zI l2, zI (zadd l3 1), zI (F 72 (Int.toNat (zadd 0 l3)))], [], F, G, zsg) rfl ?_
        exact zle_wk ⟨Or.inl rfl, Or.inl rfl, Or.inl rfl, Or.inl rfl, Or.inr rfl, trivial⟩
      · refine zle_many 3 (59, (bif zcmp .lt l1 (F 72 (Int.toNat (zadd 0 l3))) then 52 else 37), [zR 71, zI l1, zI l2, zI l3, zI (F 72 (Int.toNat (zadd 0 l3)))], [], F, G, zsg) rfl ?_
        refine zle_lt (fun _ => ?_) (fun _ => ?_)
        · refine zle_many 2 (59, 2, [zR 71, zI l1, zI l2, zI (zadd l3 1), zI (F 72 (Int.toNat (zadd 0 l3)))], [], F, G, zsg) rfl ?_
          exact zle_wk ⟨Or.inl rfl, Or.inl rfl, Or.inl rfl, Or.inl rfl, Or.inr rfl, trivial⟩
        · refine zle_many 5 (59, 45, [zR 71, zI l1, zI l2, zI l3, zI (F 72 (Int.toNat (zadd 0 l3)))], [zI l3, zR 79, zI (F 72 (Int.toNat (zadd 0 l3))), zI l1], F, G, zsg) rfl ?_
          refine zle_ald rfl rfl rfl (fun _ => ?_)
          refine zle_many 2 (59, (bif zcmp .ge l1 (zadd (F 72 (Int.toNat (zadd 0 l3))) (F 79 (Int.toNat l3))) then 52 else 50), [zR 71, zI l1, zI l2, zI l3, zI (F 72 (Int.toNat (zadd 0 l3)))], [], F, G, zsg) rfl ?_
          refine zle_ge (fun _ => ?_) (fun _ => ?_)
          · refine zle_many 1 (59, 51, [zR 71, zI l1, zI l2, zI l3, zI (F 72 (Int.toNat (zadd 0 l3)))], [zI l3], F, G, zsg) rfl ?_
            exact zle_ret rfl
          · refine zle_many 2 (59, 2, [zR 71, zI l1, zI l2, zI (zadd l3 1), zI (F 72 (Int.toNat (zadd 0 l3)))], [], F, G, zsg) rfl ?_
            exact zle_wk ⟨Or.inl rfl, Or.inl rfl, Or.inl rfl, Or.inl rfl, Or.inr rfl, trivial⟩
  · refine zle_many 1 (59, 59, [zR 71, zI l1, zI l2, zI l3, zR 0], [zI (-1)], F, G, zsg) rfl ?_
    exact zle_ret rfl
set_option maxRecDepth 20000 in
theorem g_M_isFree {d : Nat} {F : zM} {G : zG} (a1 : Int) (a2 : Int) (a3 : Int) : zle (
  if 0 ≤ a2 ∧ a2 < 64 then
  if (F 75 (Int.toNat a2)) = 0 then
    zbI (zex d 58 [zR 71, zI a2] (F, G, zsg)) (fun v1 F1 G1 =>
      if v1 = 0 then
        zbI (zex d 59 [zR 71, zI a2, zI a3] (F1, G1, zsg)) (fun v2 F2 G2 =>
          if v2 = (-1) then
            if 0 ≤ (zsub 29 a1) ∧ (zsub 29 a1) < 43 then
              if (F2 72 (Int.toNat (zsub 29 a1))) = a2 then
                some (some (zI 0), F2, G2, zsg)
              else
                some (some (zI 1), F2, G2, zsg)
            else none
          else
            some (some (zI 0), F2, G2, zsg))
      else
        some (some (zI 0), F1, G1, zsg))
  else
    some (some (zI 0), F, G, zsg)
else none) (zex (d + 1) 60 [zR 71, zI a1, zI a2, zI a3] (F, G, zsg)) := by
  refine zle_ent (ls := [zR 71, zI a1, zI a2, zI a3]) ?_
  refine zle_many 3 (60, 5, [zR 71, zI a1, zI a2, zI a3], [zI a2, zR 75], F, G, zsg) rfl ?_
  refine zle_bld rfl rfl rfl (fun _ => ?_)
  refine zle_many 1 (60, (bif zcmp .ne (F 75 (Int.toNat a2)) 0 then 44 else 9), [zR 71, zI a1, zI a2, zI a3], [], F, G, zsg) rfl ?_
  refine zle_ne (fun _ => ?_) (fun _ => ?_)
  · refine zle_many 2 (60, 11, [zR 71, zI a1, zI a2, zI a3], [zI a2, zR 71], F, G, zsg) rfl ?_
    refine zle_I rfl (fun v1 F1 G1 => ?_)
    refine zle_many 1 (60, (bif zcmp .ne v1 0 then 44 else 17), [zR 71, zI a1, zI a2, zI a3], [], F1, G1, zsg) rfl ?_
    refine zle_ne (fun _ => ?_) (fun _ => ?_)
    · refine zle_many 3 (60, 20, [zR 71, zI a1, zI a2, zI a3], [zI a3, zI a2, zR 71], F1, G1, zsg) rfl ?_
      refine zle_I rfl (fun v2 F2 G2 => ?_)
      refine zle_many 2 (60, (bif zcmp .ne v2 (-1) then 44 else 27), [zR 71, zI a1, zI a2, zI a3], [], F2, G2, zsg) rfl ?_
      refine zle_ne (fun _ => ?_) (fun _ => ?_)
      · refine zle_many 5 (60, 35, [zR 71, zI a1, zI a2, zI a3], [zI (zsub 29 a1), zR 72], F2, G2, zsg) rfl ?_
        refine zle_ald rfl rfl rfl (fun _ => ?_)
        refine zle_many 2 (60, (bif zcmp .eq (F2 72 (Int.toNat (zsub 29 a1))) a2 then 44 else 40), [zR 71, zI a1, zI a2, zI a3], [], F2, G2, zsg) rfl ?_
        refine zle_eq (fun _ => ?_) (fun _ => ?_)
        · refine zle_many 1 (60, 45, [zR 71, zI a1, zI a2, zI a3], [zI 0], F2, G2, zsg) rfl ?_
          exact zle_ret rfl
        · refine zle_many 2 (60, 45, [zR 71, zI a1, zI a2, zI a3], [zI 1], F2, G2, zsg) rfl ?_
          exact zle_ret rfl
      · refine zle_many 1 (60, 45, [zR 71, zI a1, zI a2, zI a3], [zI 0], F2, G2, zsg) rfl ?_
        exact zle_ret rfl
    · refine zle_many 1 (60, 45, [zR 71, zI a1, zI a2, zI a3], [zI 0], F1, G1, zsg) rfl ?_
      exact zle_ret rfl
  · refine zle_many 1 (60, 45, [zR 71, zI a1, zI a2, zI a3], [zI 0], F, G, zsg) rfl ?_
    exact zle_ret rfl
set_option maxRecDepth 20000 in
theorem g_M_firstX {d : Nat} {F : zM} {G : zG} (a0 : Int) (a1 : Int) (a2 : Int) : zle (
  if a1 = 1 then
  some (some (zI (zsub (zrem a0 8) a2)), F, G, zsg)
else
  if a1 = 3 then
    some (some (zI (zadd (zrem a0 8) 1)), F, G, zsg)
  else
    some (some (zI (zrem a0 8)), F, G, zsg)) (zex (d + 1) 61 [zI a0, zI a1, zI a2] (F, G, zsg)) := by
  refine zle_ent (ls := [zI a0, zI a1, zI a2]) ?_
  refine zle_many 3 (61, (bif zcmp .ne a1 1 then 14 else 5), [zI a0, zI a1, zI a2], [], F, G, zsg) rfl ?_
  refine zle_ne (fun _ => ?_) (fun _ => ?_)
  · refine zle_many 6 (61, 32, [zI a0, zI a1, zI a2], [zI (zsub (zrem a0 8) a2)], F, G, zsg) rfl ?_
    exact zle_ret rfl
  · refine zle_many 3 (61, (bif zcmp .ne a1 3 then 28 else 19), [zI a0, zI a1, zI a2], [], F, G, zsg) rfl ?_
    refine zle_ne (fun _ => ?_) (fun _ => ?_)
    · refine zle_many 6 (61, 32, [zI a0, zI a1, zI a2], [zI (zadd (zrem a0 8) 1)], F, G, zsg) rfl ?_
      exact zle_ret rfl
    · refine zle_many 3 (61, 32, [zI a0, zI a1, zI a2], [zI (zrem a0 8)], F, G, zsg) rfl ?_
      exact zle_ret rfl
set_option maxRecDepth 20000 in
theorem g_M_rowY {d : Nat} {F : zM} {G : zG} (a0 : Int) (a1 : Int) : zle (
  if a1 = 0 then
  some (some (zI (zadd (zdiv a0 8) 1)), F, G, zsg)
else
  if a1 = 2 then
    some (some (zI (zsub (zdiv a0 8) 1)), F, G, zsg)
  else
    some (some (zI (zdiv a0 8)), F, G, zsg)) (zex (d + 1) 62 [zI a0, zI a1] (F, G, zsg)) := by
  refine zle_ent (ls := [zI a0, zI a1]) ?_
  refine zle_many 2 (62, (bif zcmp .ne a1 0 then 13 else 4), [zI a0, zI a1], [], F, G, zsg) rfl ?_
  refine zle_ne (fun _ => ?_) (fun _ => ?_)
  · refine zle_many 6 (62, 31, [zI a0, zI a1], [zI (zadd (zdiv a0 8) 1)], F, G, zsg) rfl ?_
    exact zle_ret rfl
  · refine zle_many 3 (62, (bif zcmp .ne a1 2 then 27 else 18), [zI a0, zI a1], [], F, G, zsg) rfl ?_
    refine zle_ne (fun _ => ?_) (fun _ => ?_)
    · refine zle_many 6 (62, 31, [zI a0, zI a1], [zI (zsub (zdiv a0 8) 1)], F, G, zsg) rfl ?_
      exact zle_ret rfl
    · refine zle_many 3 (62, 31, [zI a0, zI a1], [zI (zdiv a0 8)], F, G, zsg) rfl ?_
      exact zle_ret rfl
set_option maxRecDepth 20000 in
theorem g_M_heldAt {d : Nat} {F : zM} {G : zG} (a0 : Int) (a1 : Int) (a2 : Int) : zle (
  zbI (zex d 61 [zI a0, zI a1, zI a2] (F, G, zsg)) (fun v1 F1 G1 =>
  zbI (zex d 62 [zI a0, zI a1] (F1, G1, zsg)) (fun v2 F2 G2 =>
    if v1 < 0 then
      some (some (zI (-1)), F2, G2, zsg)
    else
      if 8 < (zadd v1 a2) then
        some (some (zI (-1)), F2, G2, zsg)
      else
        if v2 < 0 then
          some (some (zI (-1)), F2, G2, zsg)
        else
          if v2 < 8 then
            some (some (zI (zadd (zmul 8 v2) v1)), F2, G2, zsg)
          else
            some (some (zI (-1)), F2, G2, zsg)))) (zex (d + 1) 63 [zI a0, zI a1, zI a2] (F, G, zsg)) := by
  refine zle_ent (ls := [zI a0, zI a1, zI a2, zR 0, zR 0]) ?_
  refine zle_many 3 (63, 3, [zI a0, zI a1, zI a2, zR 0, zR 0], [zI a2, zI a1, zI a0], F, G, zsg) rfl ?_
  refine zle_I rfl (fun v1 F1 G1 => ?_)
  refine zle_many 3 (63, 9, [zI a0, zI a1, zI a2, zI v1, zR 0], [zI a1, zI a0], F1, G1, zsg) rfl ?_
  refine zle_I rfl (fun v2 F2 G2 => ?_)
  refine zle_many 3 (63, (bif zcmp .lt v1 0 then 48 else 18), [zI a0, zI a1, zI a2, zI v1, zI v2], [], F2, G2, zsg) rfl ?_
  refine zle_lt (fun _ => ?_) (fun _ => ?_)
  · refine zle_many 1 (63, 49, [zI a0, zI a1, zI a2, zI v1, zI v2], [zI (-1)], F2, G2, zsg) rfl ?_
    exact zle_ret rfl
  · refine zle_many 5 (63, (bif zcmp .gt (zadd v1 a2) 8 then 48 else 26), [zI a0, zI a1, zI a2, zI v1, zI v2], [], F2, G2, zsg) rfl ?_
    refine zle_gt (fun _ => ?_) (fun _ => ?_)
    · refine zle_many 1 (63, 49, [zI a0, zI a1, zI a2, zI v1, zI v2], [zI (-1)], F2, G2, zsg) rfl ?_
      exact zle_ret rfl
    · refine zle_many 2 (63, (bif zcmp .lt v2 0 then 48 else 31), [zI a0, zI a1, zI a2, zI v1, zI v2], [], F2, G2, zsg) rfl ?_
      refine zle_lt (fun _ => ?_) (fun _ => ?_)
      · refine zle_many 1 (63, 49, [zI a0, zI a1, zI a2, zI v1, zI v2], [zI (-1)], F2, G2, zsg) rfl ?_
        exact zle_ret rfl
      · refine zle_many 3 (63, (bif zcmp .ge v2 8 then 48 else 38), [zI a0, zI a1, zI a2, zI v1, zI v2], [], F2, G2, zsg) rfl ?_
        refine zle_ge (fun _ => ?_) (fun _ => ?_)
        · refine zle_many 6 (63, 49, [zI a0, zI a1, zI a2, zI v1, zI v2], [zI (zadd (zmul 8 v2) v1)], F2, G2, zsg) rfl ?_
          exact zle_ret rfl
        · refine zle_many 1 (63, 49, [zI a0, zI a1, zI a2, zI v1, zI v2], [zI (-1)], F2, G2, zsg) rfl ?_
          exact zle_ret rfl
set_option maxRecDepth 20000 in
theorem g_M_stands {d : Nat} {F : zM} {G : zG} (a1 : Int) (a2 : Int) (a3 : Int) (a4 : Int) : zle (
  zbI (zex d 60 [zR 71, zI a1, zI a2, zI a3] (F, G, zsg)) (fun v1 F1 G1 =>
  if v1 = 0 then
    some (some (zI 0), F1, G1, zsg)
  else
    if a3 = (-1) then
      some (some (zI 1), F1, G1, zsg)
    else
      if 0 ≤ a3 ∧ a3 < 8 then
        zbI (zex d 63 [zI a2, zI a4, zI (F1 79 (Int.toNat a3))] (F1, G1, zsg)) (fun v2 F2 G2 =>
          if v2 = (-1) then
            some (some (zI 0), F2, G2, zsg)
          else
            zev zX0 d (64, 44, [zR 71, zI a1, zI a2, zI a3, zI a4, zI v2, zI 0], [], F2, G2, zsg))
      else none)) (zex (d + 1) 64 [zR 71, zI a1, zI a2, zI a3, zI a4] (F, G, zsg)) := by
  refine zle_ent (ls := [zR 71, zI a1, zI a2, zI a3, zI a4, zR 0, zR 0]) ?_
  refine zle_many 4 (64, 4, [zR 71, zI a1, zI a2, zI a3, zI a4, zR 0, zR 0], [zI a3, zI a2, zI a1, zR 71], F, G, zsg) rfl ?_
  refine zle_I rfl (fun v1 F1 G1 => ?_)
  refine zle_many 1 (64, (bif zcmp .ne v1 0 then 12 else 10), [zR 71, zI a1, zI a2, zI a3, zI a4, zR 0, zR 0], [], F1, G1, zsg) rfl ?_
  refine zle_ne (fun _ => ?_) (fun _ => ?_)
  · refine zle_many 1 (64, 11, [zR 71, zI a1, zI a2, zI a3, zI a4, zR 0, zR 0], [zI 0], F1, G1, zsg) rfl ?_
    exact zle_ret rfl
  · refine zle_many 3 (64, (bif zcmp .ne a3 (-1) then 19 else 17), [zR 71, zI a1, zI a2, zI a3, zI a4, zR 0, zR 0], [], F1, G1, zsg) rfl ?_
    refine zle_ne (fun _ => ?_) (fun _ => ?_)
    · refine zle_many 1 (64, 18, [zR 71, zI a1, zI a2, zI a3, zI a4, zR 0, zR 0], [zI 1], F1, G1, zsg) rfl ?_
      exact zle_ret rfl
    · refine zle_many 5 (64, 27, [zR 71, zI a1, zI a2, zI a3, zI a4, zR 0, zR 0], [zI a3, zR 79, zI a4, zI a2], F1, G1, zsg) rfl ?_
      refine zle_ald rfl rfl rfl (fun _ => ?_)
      refine zle_I rfl (fun v2 F2 G2 => ?_)
      refine zle_many 4 (64, (bif zcmp .ne v2 (-1) then 41 else 39), [zR 71, zI a1, zI a2, zI a3, zI a4, zI v2, zR 0], [], F2, G2, zsg) rfl ?_
      refine zle_ne (fun _ => ?_) (fun _ => ?_)
      · refine zle_many 1 (64, 40, [zR 71, zI a1, zI a2, zI a3, zI a4, zI v2, zR 0], [zI 0], F2, G2, zsg) rfl ?_
        exact zle_ret rfl
      · refine zle_many 2 (64, 44, [zR 71, zI a1, zI a2, zI a3, zI a4, zI v2, zI 0], [], F2, G2, zsg) rfl ?_
        exact zle_rfl
set_option maxRecDepth 20000 in
theorem g_M_stands_44 {d : Nat} {F : zM} {G : zG} (l1 : Int) (l2 : Int) (l3 : Int) (l4 : Int) (l5 : Int) (l6 : Int) : zle (
  if 0 ≤ l3 ∧ l3 < 8 then
  if l6 < (F 79 (Int.toNat l3)) then
    zbI (zex d 60 [zR 71, zI l1, zI (zadd l5 l6), zI l3] (F, G, zsg)) (fun v1 F1 G1 =>
      if v1 = 0 then
        some (some (zI 0), F1, G1, zsg)
      else
        zev zX0 d (64, 44, [zR 71, zI l1, zI l2, zI l3, zI l4, zI l5, zI (zadd l6 1)], [], F1, G1, zsg))
  else
    some (some (zI 1), F, G, zsg)
else none) (zev zX0 d (64, 44, [zR 71, zI l1, zI l2, zI l3, zI l4, zI l5, zI l6], [], F, G, zsg)) := by
  refine zle_many 4 (64, 51, [zR 71, zI l1, zI l2, zI l3, zI l4, zI l5, zI l6], [zI l3, zR 79, zI l6], F, G, zsg) rfl ?_
  refine zle_ald rfl rfl rfl (fun _ => ?_)
  refine zle_many 1 (64, (bif zcmp .ge l6 (F 79 (Int.toNat l3)) then 77 else 55), [zR 71, zI l1, zI l2, zI l3, zI l4, zI l5, zI l6], [], F, G, zsg) rfl ?_
  refine zle_ge (fun _ => ?_) (fun _ => ?_)
  · refine zle_many 6 (64, 63, [zR 71, zI l1, zI l2, zI l3, zI l4, zI l5, zI l6], [zI l3, zI (zadd l5 l6), zI l1, zR 71], F, G, zsg) rfl ?_
    refine zle_I rfl (fun v1 F1 G1 => ?_)
    refine zle_many 1 (64, (bif zcmp .ne v1 0 then 71 else 69), [zR 71, zI l1, zI l2, zI l3, zI l4, zI l5, zI l6], [], F1, G1, zsg) rfl ?_
    refine zle_ne (fun _ => ?_) (fun _ => ?_)
    · refine zle_many 1 (64, 70, [zR 71, zI l1, zI l2, zI l3, zI l4, zI l5, zI l6], [zI 0], F1, G1, zsg) rfl ?_
      exact zle_ret rfl
    · refine zle_many 2 (64, 44, [zR 71, zI l1, zI l2, zI l3, zI l4, zI l5, zI (zadd l6 1)], [], F1, G1, zsg) rfl ?_
      exact zle_rfl
  · refine zle_many 1 (64, 78, [zR 71, zI l1, zI l2, zI l3, zI l4, zI l5, zI l6], [zI 1], F, G, zsg) rfl ?_
    exact zle_ret rfl
set_option maxRecDepth 20000 in
theorem g_M_maySide {d : Nat} {F : zM} {G : zG} (a1 : Int) (a2 : Int) : zle (
  if a1 = (-1) then
  some (some (zI 1), F, G, zsg)
else
  if (zrem a2 2) = 1 then
    some (some (zI 1), F, G, zsg)
  else
    if 0 ≤ a1 ∧ a1 < 8 then
      zbI (zex d 56 [zI (F 78 (Int.toNat a1))] (F, G, zsg)) (fun v1 F1 G1 =>
        if v1 = 0 then
          some (some (zI 0), F1, G1, zsg)
        else
          some (some (zI 1), F1, G1, zsg))
    else none) (zex (d + 1) 65 [zR 71, zI a1, zI a2] (F, G, zsg)) := by
  refine zle_ent (ls := [zR 71, zI a1, zI a2]) ?_
  refine zle_many 3 (65, (bif zcmp .eq a1 (-1) then 24 else 5), [zR 71, zI a1, zI a2], [], F, G, zsg) rfl ?_
  refine zle_eq (fun _ => ?_) (fun _ => ?_)
  · refine zle_many 2 (65, 29, [zR 71, zI a1, zI a2], [zI 1], F, G, zsg) rfl ?_
    exact zle_ret rfl
  · refine zle_many 5 (65, (bif zcmp .eq (zrem a2 2) 1 then 24 else 12), [zR 71, zI a1, zI a2], [], F, G, zsg) rfl ?_
    refine zle_eq (fun _ => ?_) (fun _ => ?_)
    · refine zle_many 2 (65, 29, [zR 71, zI a1, zI a2], [zI 1], F, G, zsg) rfl ?_
      exact zle_ret rfl
    · refine zle_many 3 (65, 17, [zR 71, zI a1, zI a2], [zI a1, zR 78], F, G, zsg) rfl ?_
      refine zle_ald rfl rfl rfl (fun _ => ?_)
      refine zle_I rfl (fun v1 F1 G1 => ?_)
      refine zle_many 1 (65, (bif zcmp .eq v1 0 then 28 else 24), [zR 71, zI a1, zI a2], [], F1, G1, zsg) rfl ?_
      refine zle_eq (fun _ => ?_) (fun _ => ?_)
      · refine zle_many 1 (65, 29, [zR 71, zI a1, zI a2], [zI 0], F1, G1, zsg) rfl ?_
        exact zle_ret rfl
      · refine zle_many 2 (65, 29, [zR 71, zI a1, zI a2], [zI 1], F1, G1, zsg) rfl ?_
        exact zle_ret rfl
set_option maxRecDepth 20000 in
theorem g_M_spreads {d : Nat} {F : zM} {G : zG} (a1 : Int) (a2 : Int) (a3 : Int) (a4 : Int) : zle (
  zev zX0 d (66, 3, [zR 71, zI a1, zI a2, zI a3, zI a4, zI 0, zR 0, zR 0, zR 0], [], F, G, zsg)) (zex (d + 1) 66 [zR 71, zI a1, zI a2, zI a3, zI a4] (F, G, zsg)) := by
  refine zle_ent (ls := [zR 71, zI a1, zI a2, zI a3, zI a4, zR 0, zR 0, zR 0, zR 0]) ?_
  refine zle_many 2 (66, 3, [zR 71, zI a1, zI a2, zI a3, zI a4, zI 0, zR 0, zR 0, zR 0], [], F, G, zsg) rfl ?_
  exact zle_rfl
set_option maxRecDepth 20000 in
theorem g_M_spreads_3 {d : Nat} {F : zM} {G : zG} (l1 : Int) (l2 : Int) (l3 : Int) (l4 : Int) (l5 : Int) : zle (
  if l5 < 64 then
  if 0 ≤ l5 ∧ l5 < 64 then
    zev zX0 d (66, 3, [zR 71, zI l1, zI l2, zI l3, zI l4, zI (zadd l5 1), zR 0, zR 0, zR 0], [], (zup F 99 (Int.toNat l5) 1000), G, zsg)
  else none
else
  if 0 ≤ l2 ∧ l2 < 64 then
    zev zX0 d (66, 46, [zR 71, zI l1, zI l2, zI l3, zI l4, zI 1, zI 0, zR 0, zR 0], [], (zup (zup F 99 (Int.toNat l2) 0) 100 0 l2), G, zsg)
  else none) (zev zX0 d (66, 3, [zR 71, zI l1, zI l2, zI l3, zI l4, zI l5, zR 0, zR 0, zR 0], [], F, G, zsg)) := by
  refine zle_many 3 (66, (bif zcmp .ge l5 64 then 26 else 10), [zR 71, zI l1, zI l2, zI l3, zI l4, zI l5, zR 0, zR 0, zR 0], [], F, G, zsg) rfl ?_
  refine zle_ge (fun _ => ?_) (fun _ => ?_)
  · refine zle_many 4 (66, 19, [zR 71, zI l1, zI l2, zI l3, zI l4, zI l5, zR 0, zR 0, zR 0], [zI 1000, zI l5, zR 99], F, G, zsg) rfl ?_
    refine zle_ast rfl rfl rfl (fun _ => ?_)
    refine zle_many 2 (66, 3, [zR 71, zI l1, zI l2, zI l3, zI l4, zI (zadd l5 1), zR 0, zR 0, zR 0], [], (zup F 99 (Int.toNat l5) 1000), G, zsg) rfl ?_
    exact zle_rfl
  · refine zle_many 4 (66, 32, [zR 71, zI l1, zI l2, zI l3, zI l4, zI l5, zR 0, zR 0, zR 0], [zI 0, zI l2, zR 99], F, G, zsg) rfl ?_
    refine zle_ast rfl rfl rfl (fun _ => ?_)
    refine zle_many 9 (66, 46, [zR 71, zI l1, zI l2, zI l3, zI l4, zI 1, zI 0, zR 0, zR 0], [], (zup (zup F 99 (Int.toNat l2) 0) 100 0 l2), G, zsg) rfl ?_
    exact zle_rfl
set_option maxRecDepth 20000 in
theorem g_M_spreads_46 {d : Nat} {F : zM} {G : zG} (l1 : Int) (l2 : Int) (l3 : Int) (l4 : Int) (l5 : Int) (l6 : Int) : zle (
  if l6 < l5 then
  zev zX0 d (66, 56, [zR 71, zI l1, zI l2, zI l3, zI l4, zI l5, zI l6, zI 0, zR 0], [], F, G, zsg)
else
  some (none, F, G, zsg)) (zev zX0 d (66, 46, [zR 71, zI l1, zI l2, zI l3, zI l4, zI l5, zI l6, zR 0, zR 0], [], F, G, zsg)) := by
  refine zle_many 3 (66, (bif zcmp .ge l6 l5 then 167 else 53), [zR 71, zI l1, zI l2, zI l3, zI l4, zI l5, zI l6, zR 0, zR 0], [], F, G, zsg) rfl ?_
  refine zle_ge (fun _ => ?_) (fun _ => ?_)
  · refine zle_many 2 (66, 56, [zR 71, zI l1, zI l2, zI l3, zI l4, zI l5, zI l6, zI 0, zR 0], [], F, G, zsg) rfl ?_
    exact zle_rfl
  · exact zle_ret rfl
set_option maxRecDepth 20000 in
theorem g_M_spreads_56 {d : Nat} {F : zM} {G : zG} (l1 : Int) (l2 : Int) (l3 : Int) (l4 : Int) (l5 : Int) (l6 : Int) (l7 : Int) : zle (
  if l7 < 4 then
  zbI (zex d 65 [zR 71, zI l3, zI l7] (F, G, zsg)) (fun v1 F1 G1 =>
    if v1 = 0 then
      zev zX0 d (66, 56, [zR 71, zI l1, zI l2, zI l3, zI l4, zI l5, zI l6, zI (zadd l7 1), zR 0], [], F1, G1, zsg)
    else
      if 0 ≤ l6 ∧ l6 < 64 then
        zbI (zex d 53 [zI (F1 100 (Int.toNat l6)), zI l7] (F1, G1, zsg)) (fun v2 F2 G2 =>
          if v2 = (-1) then
            zev zX0 d (66, 56, [zR 71, zI l1, zI l2, zI l3, zI l4, zI l5, zI l6, zI (zadd l7 1), zR 0], [], F2, G2, zsg)
          else
            if 0 ≤ v2 ∧ v2 < 64 then
              if (F2 99 (Int.toNat v2)) = 1000 then
                zbI (zex d 64 [zR 71, zI l1, zI v2, zI l3, zI l4] (F2, G2, zsg)) (fun v3 F3 G3 =>
                  if v3 = 0 then
                    zev zX0 d (66, 56, [zR 71, zI l1, zI l2, zI l3, zI l4, zI l5, zI l6, zI (zadd l7 1), zR 0], [], F3, G3, zsg)
                  else
                    if 0 ≤ l6 ∧ l6 < 64 then
                      if 0 ≤ (F3 100 (Int.toNat l6)) ∧ (F3 100 (Int.toNat l6)) < 64 then
                        if 0 ≤ v2 ∧ v2 < 64 then
                        if 0 ≤ l5 ∧ l5 < 64 then
                        zev zX0 d (66, 56, [zR 71, zI l1, zI l2, zI l3, zI l4, zI (zadd l5 1), zI l6, zI (zadd l7 1), zR 0], [], (zup (zup F3 99 (Int.toNat v2) (zadd (F3 99 (Int.toNat (F3 100 (Int.toNat l6)))) 1)) 100 (Int.toNat l5) v2), G3, zsg)
                      else none
                      else none
                      else none
                    else none)
              else
                zev zX0 d (66, 56, [zR 71, zI l1, zI l2, zI l3, zI l4, zI l5, zI l6, zI (zadd l7 1), zR 0], [], F2, G2, zsg)
            else none)
      else none)
else
  zev zX0 d (66, 46, [zR 71, zI l1, zI l2, zI l3, zI l4, zI l5, zI (zadd l6 1), zR 0, zR 0], [], F, G, zsg)) (zev zX0 d (66, 56, [zR 71, zI l1, zI l2, zI l3, zI l4, zI l5, zI l6, zI l7, zR 0], [], F, G, zsg)) := by
  refine zle_many 3 (66, (bif zcmp .ge l7 4 then 161 else 62), [zR 71, zI l1, zI l2, zI l3, zI l4, zI l5, zI l6, zI l7, zR 0], [], F, G, zsg) rfl ?_
  refine zle_ge (fun _ => ?_) (fun _ => ?_)
  · refine zle_many 3 (66, 66, [zR 71, zI l1, zI l2, zI l3, zI l4, zI l5, zI l6, zI l7, zR 0], [zI l7, zI l3, zR 71], F, G, zsg) rfl ?_
    refine zle_I rfl (fun v1 F1 G1 => ?_)
    refine zle_many 1 (66, (bif zcmp .eq v1 0 then 87 else 72), [zR 71, zI l1, zI l2, zI l3, zI l4, zI l5, zI l6, zI l7, zR 0], [], F1, G1, zsg) rfl ?_
    refine zle_eq (fun _ => ?_) (fun _ => ?_)
    · refine zle_many 7 (66, 56, [zR 71, zI l1, zI l2, zI l3, zI l4, zI l5, zI l6, zI (zadd l7 1), zI (-1)], [], F1, G1, zsg) rfl ?_
      exact zle_wk ⟨Or.inl rfl, Or.inl rfl, Or.inl rfl, Or.inl rfl, Or.inl rfl, Or.inl rfl, Or.inl rfl, Or.inl rfl, Or.inr rfl, trivial⟩
    · refine zle_many 3 (66, 78, [zR 71, zI l1, zI l2, zI l3, zI l4, zI l5, zI l6, zI l7, zR 0], [zI l6, zR 100], F1, G1, zsg) rfl ?_
      refine zle_ald rfl rfl rfl (fun _ => ?_)
      refine zle_many 1 (66, 81, [zR 71, zI l1, zI l2, zI l3, zI l4, zI l5, zI l6, zI l7, zR 0], [zI l7, zI (F1 100 (Int.toNat l6))], F1, G1, zsg) rfl ?_
      refine zle_I rfl (fun v2 F2 G2 => ?_)
      refine zle_many 5 (66, (bif zcmp .eq v2 (-1) then 155 else 96), [zR 71, zI l1, zI l2, zI l3, zI l4, zI l5, zI l6, zI l7, zI v2], [], F2, G2, zsg) rfl ?_
      refine zle_eq (fun _ => ?_) (fun _ => ?_)
      · refine zle_many 2 (66, 56, [zR 71, zI l1, zI l2, zI l3, zI l4, zI l5, zI l6, zI (zadd l7 1), zI v2], [], F2, G2, zsg) rfl ?_
        exact zle_wk ⟨Or.inl rfl, Or.inl rfl, Or.inl rfl, Or.inl rfl, Or.inl rfl, Or.inl rfl, Or.inl rfl, Or.inl rfl, Or.inr rfl, trivial⟩
      · refine zle_many 3 (66, 102, [zR 71, zI l1, zI l2, zI l3, zI l4, zI l5, zI l6, zI l7, zI v2], [zI v2, zR 99], F2, G2, zsg) rfl ?_
        refine zle_ald rfl rfl rfl (fun _ => ?_)
        refine zle_many 2 (66, (bif zcmp .ne (F2 99 (Int.toNat v2)) 1000 then 155 else 109), [zR 71, zI l1, zI l2, zI l3, zI l4, zI l5, zI l6, zI l7, zI v2], [], F2, G2, zsg) rfl ?_
        refine zle_ne (fun _ => ?_) (fun _ => ?_)
        · refine zle_many 5 (66, 116, [zR 71, zI l1, zI l2, zI l3, zI l4, zI l5, zI l6, zI l7, zI v2], [zI l4, zI l3, zI v2, zI l1, zR 71], F2, G2, zsg) rfl ?_
          refine zle_I rfl (fun v3 F3 G3 => ?_)
          refine zle_many 1 (66, (bif zcmp .eq v3 0 then 155 else 122), [zR 71, zI l1, zI l2, zI l3, zI l4, zI l5, zI l6, zI l7, zI v2], [], F3, G3, zsg) rfl ?_
          refine zle_eq (fun _ => ?_) (fun _ => ?_)
          · refine zle_many 2 (66, 56, [zR 71, zI l1, zI l2, zI l3, zI l4, zI l5, zI l6, zI (zadd l7 1), zI v2], [], F3, G3, zsg) rfl ?_
            exact zle_wk ⟨Or.inl rfl, Or.inl rfl, Or.inl rfl, Or.inl rfl, Or.inl rfl, Or.inl rfl, Or.inl rfl, Or.inl rfl, Or.inr rfl, trivial⟩
          · refine zle_many 8 (66, 138, [zR 71, zI l1, zI l2, zI l3, zI l4, zI l5, zI l6, zI l7, zI v2], [zI l6, zR 100, zR 99, zI v2, zR 99], F3, G3, zsg) rfl ?_
            refine zle_ald rfl rfl rfl (fun _ => ?_)
            refine zle_ald rfl rfl rfl (fun _ => ?_)
            refine zle_many 2 (66, 142, [zR 71, zI l1, zI l2, zI l3, zI l4, zI l5, zI l6, zI l7, zI v2], [zI (zadd (F3 99 (Int.toNat (F3 100 (Int.toNat l6)))) 1), zI v2, zR 99], F3, G3, zsg) rfl ?_
            refine zle_ast rfl rfl rfl (fun _ => ?_)
            refine zle_many 4 (66, 151, [zR 71, zI l1, zI l2, zI l3, zI l4, zI l5, zI l6, zI l7, zI v2], [zI v2, zI l5, zR 100], (zup F3 99 (Int.toNat v2) (zadd (F3 99 (Int.toNat (F3 100 (Int.toNat l6)))) 1)), G3, zsg) rfl ?_
            refine zle_ast rfl rfl rfl (fun _ => ?_)
            refine zle_many 3 (66, 56, [zR 71, zI l1, zI l2, zI l3, zI l4, zI (zadd l5 1), zI l6, zI (zadd l7 1), zI v2], [], (zup (zup F3 99 (Int.toNat v2) (zadd (F3 99 (Int.toNat (F3 100 (Int.toNat l6)))) 1)) 100 (Int.toNat l5) v2), G3, zsg) rfl ?_
            exact zle_wk ⟨Or.inl rfl, Or.inl rfl, Or.inl rfl, Or.inl rfl, Or.inl rfl, Or.inl rfl, Or.inl rfl, Or.inl rfl, Or.inr rfl, trivial⟩
        · refine zle_many 2 (66, 56, [zR 71, zI l1, zI l2, zI l3, zI l4, zI l5, zI l6, zI (zadd l7 1), zI v2], [], F2, G2, zsg) rfl ?_
          exact zle_wk ⟨Or.inl rfl, Or.inl rfl, Or.inl rfl, Or.inl rfl, Or.inl rfl, Or.inl rfl, Or.inl rfl, Or.inl rfl, Or.inr rfl, trivial⟩
  · refine zle_many 2 (66, 46, [zR 71, zI l1, zI l2, zI l3, zI l4, zI l5, zI (zadd l6 1), zI l7, zR 0], [], F, G, zsg) rfl ?_
    exact zle_wk ⟨Or.inl rfl, Or.inl rfl, Or.inl rfl, Or.inl rfl, Or.inl rfl, Or.inl rfl, Or.inl rfl, Or.inr rfl, Or.inl rfl, trivial⟩
set_option maxRecDepth 20000 in
theorem g_M_spreadsNow {d : Nat} {F : zM} {G : zG} (a1 : Int) : zle (
  if 0 ≤ (zadd 30 a1) ∧ (zadd 30 a1) < 43 then
  if 0 ≤ (zadd 28 a1) ∧ (zadd 28 a1) < 43 then
    if (F 72 (Int.toNat (zadd 30 a1))) = (-1) then
      zbV (zex d 66 [zR 71, zI a1, zI (F 72 (Int.toNat (zadd 28 a1))), zI (F 72 (Int.toNat (zadd 30 a1))), zI (-1)] (F, G, zsg)) (fun F2 G2 =>
        some (none, F2, G2, zsg))
    else
      if 0 ≤ (zadd 16 (F 72 (Int.toNat (zadd 30 a1)))) ∧ (zadd 16 (F 72 (Int.toNat (zadd 30 a1)))) < 43 then
        zbV (zex d 66 [zR 71, zI a1, zI (F 72 (Int.toNat (zadd 28 a1))), zI (F 72 (Int.toNat (zadd 30 a1))), zI (F 72 (Int.toNat (zadd 16 (F 72 (Int.toNat (zadd 30 a1))))))] (F, G, zsg)) (fun F1 G1 =>
          some (none, F1, G1, zsg))
      else none
  else none
else none) (zex (d + 1) 67 [zR 71, zI a1] (F, G, zsg)) := by
  refine zle_ent (ls := [zR 71, zI a1, zR 0]) ?_
  refine zle_many 5 (67, 8, [zR 71, zI a1, zR 0], [zI (zadd 30 a1), zR 72], F, G, zsg) rfl ?_
  refine zle_ald rfl rfl rfl (fun _ => ?_)
  refine zle_many 8 (67, 20, [zR 71, zI a1, zI (F 72 (Int.toNat (zadd 30 a1)))], [zI (zadd 28 a1), zR 72, zI a1, zR 71], F, G, zsg) rfl ?_
  refine zle_ald rfl rfl rfl (fun _ => ?_)
  refine zle_many 4 (67, (bif zcmp .ne (F 72 (Int.toNat (zadd 30 a1))) (-1) then 31 else 27), [zR 71, zI a1, zI (F 72 (Int.toNat (zadd 30 a1)))], [zI (F 72 (Int.toNat (zadd 30 a1))), zI (F 72 (Int.toNat (zadd 28 a1))), zI a1, zR 71], F, G, zsg) rfl ?_
  refine zle_ne (fun _ => ?_) (fun _ => ?_)
  · refine zle_many 2 (67, 40, [zR 71, zI a1, zI (F 72 (Int.toNat (zadd 30 a1)))], [zI (-1), zI (F 72 (Int.toNat (zadd 30 a1))), zI (F 72 (Int.toNat (zadd 28 a1))), zI a1, zR 71], F, G, zsg) rfl ?_
    refine zle_V rfl (fun F2 G2 => ?_)
    exact zle_ret rfl
  · refine zle_many 5 (67, 39, [zR 71, zI a1, zI (F 72 (Int.toNat (zadd 30 a1)))], [zI (zadd 16 (F 72 (Int.toNat (zadd 30 a1)))), zR 72, zI (F 72 (Int.toNat (zadd 30 a1))), zI (F 72 (Int.toNat (zadd 28 a1))), zI a1, zR 71], F, G, zsg) rfl ?_
    refine zle_ald rfl rfl rfl (fun _ => ?_)
    refine zle_V rfl (fun F1 G1 => ?_)
    exact zle_ret rfl
set_option maxRecDepth 20000 in
theorem g_M_isThere {d : Nat} {F : zM} {G : zG} (a1 : Int) : zle (
  zbI (zex d 52 [zI a1] (F, G, zsg)) (fun v1 F1 G1 =>
  if v1 = 0 then
    some (some (zI 0), F1, G1, zsg)
  else
    if 0 ≤ (zadd 28 a1) ∧ (zadd 28 a1) < 43 then
      if (F1 72 (Int.toNat (zadd 28 a1))) = (-1) then
        some (some (zI 0), F1, G1, zsg)
      else
        some (some (zI 1), F1, G1, zsg)
    else none)) (zex (d + 1) 68 [zR 71, zI a1] (F, G, zsg)) := by
  refine zle_ent (ls := [zR 71, zI a1]) ?_
  refine zle_many 1 (68, 1, [zR 71, zI a1], [zI a1], F, G, zsg) rfl ?_
  refine zle_I rfl (fun v1 F1 G1 => ?_)
  refine zle_many 1 (68, (bif zcmp .eq v1 0 then 24 else 7), [zR 71, zI a1], [], F1, G1, zsg) rfl ?_
  refine zle_eq (fun _ => ?_) (fun _ => ?_)
  · refine zle_many 1 (68, 25, [zR 71, zI a1], [zI 0], F1, G1, zsg) rfl ?_
    exact zle_ret rfl
  · refine zle_many 5 (68, 15, [zR 71, zI a1], [zI (zadd 28 a1), zR 72], F1, G1, zsg) rfl ?_
    refine zle_ald rfl rfl rfl (fun _ => ?_)
    refine zle_many 2 (68, (bif zcmp .eq (F1 72 (Int.toNat (zadd 28 a1))) (-1) then 24 else 20), [zR 71, zI a1], [], F1, G1, zsg) rfl ?_
    refine zle_eq (fun _ => ?_) (fun _ => ?_)
    · refine zle_many 1 (68, 25, [zR 71, zI a1], [zI 0], F1, G1, zsg) rfl ?_
      exact zle_ret rfl
    · refine zle_many 2 (68, 25, [zR 71, zI a1], [zI 1], F1, G1, zsg) rfl ?_
      exact zle_ret rfl
set_option maxRecDepth 20000 in
theorem g_M_way {d : Nat} {F : zM} {G : zG} (a1 : Int) (a2 : Int) : zle (
  zbI (zex d 68 [zR 71, zI a1] (F, G, zsg)) (fun v1 F1 G1 =>
  if v1 = 0 then
    some (some (zI (-5)), F1, G1, zsg)
  else
    zbI (zex d 50 [zI a2] (F1, G1, zsg)) (fun v2 F2 G2 =>
      if v2 = 0 then
        some (some (zI (-5)), F2, G2, zsg)
      else
        zbV (zex d 67 [zR 71, zI a1] (F2, G2, zsg)) (fun F3 G3 =>
          if 0 ≤ a2 ∧ a2 < 64 then
            if (F3 99 (Int.toNat a2)) = 1000 then
              some (some (zI (-3)), F3, G3, zsg)
            else
              if 0 ≤ a2 ∧ a2 < 64 then
                some (some (zI (F3 99 (Int.toNat a2))), F3, G3, zsg)
              else none
          else none)))) (zex (d + 1) 69 [zR 71, zI a1, zI a2] (F, G, zsg)) := by
  refine zle_ent (ls := [zR 71, zI a1, zI a2]) ?_
  refine zle_many 2 (69, 2, [zR 71, zI a1, zI a2], [zI a1, zR 71], F, G, zsg) rfl ?_
  refine zle_I rfl (fun v1 F1 G1 => ?_)
  refine zle_many 1 (69, (bif zcmp .eq v1 0 then 15 else 8), [zR 71, zI a1, zI a2], [], F1, G1, zsg) rfl ?_
  refine zle_eq (fun _ => ?_) (fun _ => ?_)
  · refine zle_many 1 (69, 17, [zR 71, zI a1, zI a2], [zI (-5)], F1, G1, zsg) rfl ?_
    exact zle_ret rfl
  · refine zle_many 1 (69, 9, [zR 71, zI a1, zI a2], [zI a2], F1, G1, zsg) rfl ?_
    refine zle_I rfl (fun v2 F2 G2 => ?_)
    refine zle_many 1 (69, (bif zcmp .ne v2 0 then 18 else 15), [zR 71, zI a1, zI a2], [], F2, G2, zsg) rfl ?_
    refine zle_ne (fun _ => ?_) (fun _ => ?_)
    · refine zle_many 1 (69, 17, [zR 71, zI a1, zI a2], [zI (-5)], F2, G2, zsg) rfl ?_
      exact zle_ret rfl
    · refine zle_many 2 (69, 20, [zR 71, zI a1, zI a2], [zI a1, zR 71], F2, G2, zsg) rfl ?_
      refine zle_V rfl (fun F3 G3 => ?_)
      refine zle_many 3 (69, 28, [zR 71, zI a1, zI a2], [zI a2, zR 99], F3, G3, zsg) rfl ?_
      refine zle_ald rfl rfl rfl (fun _ => ?_)
      refine zle_many 2 (69, (bif zcmp .ne (F3 99 (Int.toNat a2)) 1000 then 40 else 35), [zR 71, zI a1, zI a2], [], F3, G3, zsg) rfl ?_
      refine zle_ne (fun _ => ?_) (fun _ => ?_)
      · refine zle_many 2 (69, 46, [zR 71, zI a1, zI a2], [zI (-3)], F3, G3, zsg) rfl ?_
        exact zle_ret rfl
      · refine zle_many 3 (69, 45, [zR 71, zI a1, zI a2], [zI a2, zR 99], F3, G3, zsg) rfl ?_
        refine zle_ald rfl rfl rfl (fun _ => ?_)
        exact zle_ret rfl
set_option maxRecDepth 20000 in
theorem g_M_cellOn {d : Nat} {F : zM} {G : zG} (a1 : Int) (a2 : Int) (a3 : Int) : zle (
  if 0 ≤ (zadd 30 a1) ∧ (zadd 30 a1) < 43 then
  zev zX0 d (70, 14, [zR 71, zI a1, zI a2, zI a3, zI (F 72 (Int.toNat (zadd 30 a1))), zI a2, zR 0], [], F, G, zsg)
else none) (zex (d + 1) 70 [zR 71, zI a1, zI a2, zI a3] (F, G, zsg)) := by
  refine zle_ent (ls := [zR 71, zI a1, zI a2, zI a3, zR 0, zR 0, zR 0]) ?_
  refine zle_many 5 (70, 8, [zR 71, zI a1, zI a2, zI a3, zR 0, zR 0, zR 0], [zI (zadd 30 a1), zR 72], F, G, zsg) rfl ?_
  refine zle_ald rfl rfl rfl (fun _ => ?_)
  refine zle_many 3 (70, 14, [zR 71, zI a1, zI a2, zI a3, zI (F 72 (Int.toNat (zadd 30 a1))), zI a2, zR 0], [], F, G, zsg) rfl ?_
  exact zle_rfl
set_option maxRecDepth 20000 in
theorem g_M_cellOn_14 {d : Nat} {F : zM} {G : zG} (l1 : Int) (l2 : Int) (l3 : Int) (l4 : Int) (l5 : Int) : zle (
  if 0 ≤ l5 ∧ l5 < 64 then
  if l3 < (F 99 (Int.toNat l5)) then
    zev zX0 d (70, 28, [zR 71, zI l1, zI l2, zI l3, zI l4, zI l5, zI 0], [], F, G, zsg)
  else
    some (some (zI l5), F, G, zsg)
else none) (zev zX0 d (70, 14, [zR 71, zI l1, zI l2, zI l3, zI l4, zI l5, zR 0], [], F, G, zsg)) := by
  refine zle_many 3 (70, 20, [zR 71, zI l1, zI l2, zI l3, zI l4, zI l5, zR 0], [zI l5, zR 99], F, G, zsg) rfl ?_
  refine zle_ald rfl rfl rfl (fun _ => ?_)
  refine zle_many 2 (70, (bif zcmp .le (F 99 (Int.toNat l5)) l3 then 92 else 25), [zR 71, zI l1, zI l2, zI l3, zI l4, zI l5, zR 0], [], F, G, zsg) rfl ?_
  refine zle_le (fun _ => ?_) (fun _ => ?_)
  · refine zle_many 2 (70, 28, [zR 71, zI l1, zI l2, zI l3, zI l4, zI l5, zI 0], [], F, G, zsg) rfl ?_
    exact zle_rfl
  · refine zle_many 1 (70, 94, [zR 71, zI l1, zI l2, zI l3, zI l4, zI l5, zR 0], [zI l5], F, G, zsg) rfl ?_
    exact zle_ret rfl
set_option maxRecDepth 20000 in
theorem g_M_cellOn_28 {d : Nat} {F : zM} {G : zG} (l1 : Int) (l2 : Int) (l3 : Int) (l4 : Int) (l5 : Int) (l6 : Int) : zle (
  zbI (zex d 65 [zR 71, zI l4, zI l6] (F, G, zsg)) (fun v1 F1 G1 =>
  if v1 = 0 then
    zev zX0 d (70, 28, [zR 71, zI l1, zI l2, zI l3, zI l4, zI l5, zI (zadd l6 1)], [], F1, G1, zsg)
  else
    zbI (zex d 53 [zI l5, zI l6] (F1, G1, zsg)) (fun v2 F2 G2 =>
      if v2 = (-1) then
        zev zX0 d (70, 28, [zR 71, zI l1, zI l2, zI l3, zI l4, zI l5, zI (zadd l6 1)], [], F2, G2, zsg)
      else
        zbI (zex d 53 [zI l5, zI l6] (F2, G2, zsg)) (fun v3 F3 G3 =>
          if 0 ≤ v3 ∧ v3 < 64 then
            if 0 ≤ l5 ∧ l5 < 64 then
              if (F3 99 (Int.toNat v3)) = (zsub (F3 99 (Int.toNat l5)) 1) then
                zbI (zex d 53 [zI l5, zI l6] (F3, G3, zsg)) (fun v4 F4 G4 =>
                  zev zX0 d (70, 14, [zR 71, zI l1, zI l2, zI l3, zI l4, zI v4, zR 0], [], F4, G4, zsg))
              else
                zev zX0 d (70, 28, [zR 71, zI l1, zI l2, zI l3, zI l4, zI l5, zI (zadd l6 1)], [], F3, G3, zsg)
            else none
          else none)))) (zev zX0 d (70, 28, [zR 71, zI l1, zI l2, zI l3, zI l4, zI l5, zI l6], [], F, G, zsg)) := by
  refine zle_many 3 (70, 33, [zR 71, zI l1, zI l2, zI l3, zI l4, zI l5, zI l6], [zI l6, zI l4, zR 71], F, G, zsg) rfl ?_
  refine zle_I rfl (fun v1 F1 G1 => ?_)
  refine zle_many 1 (70, (bif zcmp .eq v1 0 then 74 else 39), [zR 71, zI l1, zI l2, zI l3, zI l4, zI l5, zI l6], [], F1, G1, zsg) rfl ?_
  refine zle_eq (fun _ => ?_) (fun _ => ?_)
  · refine zle_many 2 (70, 28, [zR 71, zI l1, zI l2, zI l3, zI l4, zI l5, zI (zadd l6 1)], [], F1, G1, zsg) rfl ?_
    exact zle_rfl
  · refine zle_many 2 (70, 43, [zR 71, zI l1, zI l2, zI l3, zI l4, zI l5, zI l6], [zI l6, zI l5], F1, G1, zsg) rfl ?_
    refine zle_I rfl (fun v2 F2 G2 => ?_)
    refine zle_many 2 (70, (bif zcmp .eq v2 (-1) then 74 else 50), [zR 71, zI l1, zI l2, zI l3, zI l4, zI l5, zI l6], [], F2, G2, zsg) rfl ?_
    refine zle_eq (fun _ => ?_) (fun _ => ?_)
    · refine zle_many 2 (70, 28, [zR 71, zI l1, zI l2, zI l3, zI l4, zI l5, zI (zadd l6 1)], [], F2, G2, zsg) rfl ?_
      exact zle_rfl
    · refine zle_many 4 (70, 58, [zR 71, zI l1, zI l2, zI l3, zI l4, zI l5, zI l6], [zI l6, zI l5, zR 99], F2, G2, zsg) rfl ?_
      refine zle_I rfl (fun v3 F3 G3 => ?_)
      refine zle_ald rfl rfl rfl (fun _ => ?_)
      refine zle_many 3 (70, 68, [zR 71, zI l1, zI l2, zI l3, zI l4, zI l5, zI l6], [zI l5, zR 99, zI (F3 99 (Int.toNat v3))], F3, G3, zsg) rfl ?_
      refine zle_ald rfl rfl rfl (fun _ => ?_)
      refine zle_many 3 (70, (bif zcmp .eq (F3 99 (Int.toNat v3)) (zsub (F3 99 (Int.toNat l5)) 1) then 80 else 74), [zR 71, zI l1, zI l2, zI l3, zI l4, zI l5, zI l6], [], F3, G3, zsg) rfl ?_
      refine zle_eq (fun _ => ?_) (fun _ => ?_)
      · refine zle_many 2 (70, 84, [zR 71, zI l1, zI l2, zI l3, zI l4, zI l5, zI l6], [zI l6, zI l5], F3, G3, zsg) rfl ?_
        refine zle_I rfl (fun v4 F4 G4 => ?_)
        refine zle_many 2 (70, 14, [zR 71, zI l1, zI l2, zI l3, zI l4, zI v4, zI l6], [], F4, G4, zsg) rfl ?_
        exact zle_wk ⟨Or.inl rfl, Or.inl rfl, Or.inl rfl, Or.inl rfl, Or.inl rfl, Or.inl rfl, Or.inr rfl, trivial⟩
      · refine zle_many 2 (70, 28, [zR 71, zI l1, zI l2, zI l3, zI l4, zI l5, zI (zadd l6 1)], [], F3, G3, zsg) rfl ?_
        exact zle_rfl
set_option maxRecDepth 20000 in
theorem g_M_step {d : Nat} {F : zM} {G : zG} (a1 : Int) (a2 : Int) (a3 : Int) : zle (
  zbI (zex d 68 [zR 71, zI a1] (F, G, zsg)) (fun v1 F1 G1 =>
  if v1 = 0 then
    some (some (zI (-5)), F1, G1, zsg)
  else
    zbI (zex d 50 [zI a2] (F1, G1, zsg)) (fun v2 F2 G2 =>
      if v2 = 0 then
        some (some (zI (-5)), F2, G2, zsg)
      else
        zbV (zex d 67 [zR 71, zI a1] (F2, G2, zsg)) (fun F3 G3 =>
          if 0 ≤ a2 ∧ a2 < 64 then
            if (F3 99 (Int.toNat a2)) = 1000 then
              some (some (zI (-3)), F3, G3, zsg)
            else
              if 0 ≤ a2 ∧ a2 < 64 then
                zbI (zex d 49 [zI a3, zI 0, zI (F3 99 (Int.toNat a2))] (F3, G3, zsg)) (fun v4 F4 G4 =>
                  if v4 = 0 then
                    some (some (zI (-3)), F4, G4, zsg)
                  else
                    zbI (zex d 70 [zR 71, zI a1, zI a2, zI a3] (F4, G4, zsg)) (fun v5 F5 G5 =>
                      some (some (zI v5), F5, G5, zsg)))
              else none
          else none)))) (zex (d + 1) 71 [zR 71, zI a1, zI a2, zI a3] (F, G, zsg)) := by
  refine zle_ent (ls := [zR 71, zI a1, zI a2, zI a3]) ?_
  refine zle_many 2 (71, 2, [zR 71, zI a1, zI a2, zI a3], [zI a1, zR 71], F, G, zsg) rfl ?_
  refine zle_I rfl (fun v1 F1 G1 => ?_)
  refine zle_many 1 (71, (bif zcmp .eq v1 0 then 15 else 8), [zR 71, zI a1, zI a2, zI a3], [], F1, G1, zsg) rfl ?_
  refine zle_eq (fun _ => ?_) (fun _ => ?_)
  · refine zle_many 1 (71, 17, [zR 71, zI a1, zI a2, zI a3], [zI (-5)], F1, G1, zsg) rfl ?_
    exact zle_ret rfl
  · refine zle_many 1 (71, 9, [zR 71, zI a1, zI a2, zI a3], [zI a2], F1, G1, zsg) rfl ?_
    refine zle_I rfl (fun v2 F2 G2 => ?_)
    refine zle_many 1 (71, (bif zcmp .ne v2 0 then 18 else 15), [zR 71, zI a1, zI a2, zI a3], [], F2, G2, zsg) rfl ?_
    refine zle_ne (fun _ => ?_) (fun _ => ?_)
    · refine zle_many 1 (71, 17, [zR 71, zI a1, zI a2, zI a3], [zI (-5)], F2, G2, zsg) rfl ?_
      exact zle_ret rfl
    · refine zle_many 2 (71, 20, [zR 71, zI a1, zI a2, zI a3], [zI a1, zR 71], F2, G2, zsg) rfl ?_
      refine zle_V rfl (fun F3 G3 => ?_)
      refine zle_many 3 (71, 28, [zR 71, zI a1, zI a2, zI a3], [zI a2, zR 99], F3, G3, zsg) rfl ?_
      refine zle_ald rfl rfl rfl (fun _ => ?_)
      refine zle_many 2 (71, (bif zcmp .eq (F3 99 (Int.toNat a2)) 1000 then 49 else 35), [zR 71, zI a1, zI a2, zI a3], [], F3, G3, zsg) rfl ?_
      refine zle_eq (fun _ => ?_) (fun _ => ?_)
      · refine zle_many 2 (71, 61, [zR 71, zI a1, zI a2, zI a3], [zI (-3)], F3, G3, zsg) rfl ?_
        exact zle_ret rfl
      · refine zle_many 5 (71, 42, [zR 71, zI a1, zI a2, zI a3], [zI a2, zR 99, zI 0, zI a3], F3, G3, zsg) rfl ?_
        refine zle_ald rfl rfl rfl (fun _ => ?_)
        refine zle_I rfl (fun v4 F4 G4 => ?_)
        refine zle_many 1 (71, (bif zcmp .ne v4 0 then 54 else 49), [zR 71, zI a1, zI a2, zI a3], [], F4, G4, zsg) rfl ?_
        refine zle_ne (fun _ => ?_) (fun _ => ?_)
        · refine zle_many 2 (71, 61, [zR 71, zI a1, zI a2, zI a3], [zI (-3)], F4, G4, zsg) rfl ?_
          exact zle_ret rfl
        · refine zle_many 4 (71, 58, [zR 71, zI a1, zI a2, zI a3], [zI a3, zI a2, zI a1, zR 71], F4, G4, zsg) rfl ?_
          refine zle_I rfl (fun v5 F5 G5 => ?_)
          exact zle_ret rfl
set_option maxRecDepth 20000 in
theorem g_M_barIn {d : Nat} {F : zM} {G : zG} (a1 : Int) (a2 : Int) (a3 : Int) : zle (
  zev zX0 d (72, 6, [zR 71, zI a1, zI a2, zI a3, zI 0, zI 0], [], F, G, zsg)) (zex (d + 1) 72 [zR 71, zI a1, zI a2, zI a3] (F, G, zsg)) := by
  refine zle_ent (ls := [zR 71, zI a1, zI a2, zI a3, zR 0, zR 0]) ?_
  refine zle_many 4 (72, 6, [zR 71, zI a1, zI a2, zI a3, zI 0, zI 0], [], F, G, zsg) rfl ?_
  exact zle_rfl
set_option maxRecDepth 20000 in
theorem g_M_barIn_6 {d : Nat} {F : zM} {G : zG} (l1 : Int) (l2 : Int) (l3 : Int) (l4 : Int) (l5 : Int) : zle (
  if l5 < (F 71 5) then
  if 0 ≤ l5 ∧ l5 < 4 then
    if (F 76 (Int.toNat l5)) = l2 then
      if 0 ≤ (zadd 24 l5) ∧ (zadd 24 l5) < 43 then
        if (F 72 (Int.toNat (zadd 24 l5))) = 0 then
          zev zX0 d (72, 6, [zR 71, zI l1, zI l2, zI l3, zI (zor l4 (zshl 256 l5)), zI (zadd l5 1)], [], F, G, zsg)
        else
          zev zX0 d (72, 6, [zR 71, zI l1, zI l2, zI l3, zI (zor l4 0), zI (zadd l5 1)], [], F, G, zsg)
      else none
    else
      zev zX0 d (72, 6, [zR 71, zI l1, zI l2, zI l3, zI (zor l4 0), zI (zadd l5 1)], [], F, G, zsg)
  else none
else
  zbI (zex d 59 [zR 71, zI l2, zI l3] (F, G, zsg)) (fun v1 F1 G1 =>
    if v1 = (-1) then
      if 0 ≤ (zsub 29 l1) ∧ (zsub 29 l1) < 43 then
        if (F1 72 (Int.toNat (zsub 29 l1))) = l2 then
          some (some (zI (zor (zor l4 0) 4096)), F1, G1, zsg)
        else
          some (some (zI (zor (zor l4 0) 0)), F1, G1, zsg)
      else none
    else
      if 0 ≤ (zsub 29 l1) ∧ (zsub 29 l1) < 43 then
        if (F1 72 (Int.toNat (zsub 29 l1))) = l2 then
          some (some (zI (zor (zor l4 (zshl 1 v1)) 4096)), F1, G1, zsg)
        else
          some (some (zI (zor (zor l4 (zshl 1 v1)) 0)), F1, G1, zsg)
      else none)) (zev zX0 d (72, 6, [zR 71, zI l1, zI l2, zI l3, zI l4, zI l5], [], F, G, zsg)) := by
  refine zle_many 4 (72, (bif zcmp .ge l5 (F 71 5) then 60 else 15), [zR 71, zI l1, zI l2, zI l3, zI l4, zI l5], [], F, G, zsg) rfl ?_
  refine zle_ge (fun _ => ?_) (fun _ => ?_)
  · refine zle_many 4 (72, 23, [zR 71, zI l1, zI l2, zI l3, zI l4, zI l5], [zI l5, zR 76, zI l4], F, G, zsg) rfl ?_
    refine zle_ald rfl rfl rfl (fun _ => ?_)
    refine zle_many 2 (72, (bif zcmp .ne (F 76 (Int.toNat l5)) l2 then 50 else 28), [zR 71, zI l1, zI l2, zI l3, zI l4, zI l5], [zI l4], F, G, zsg) rfl ?_
    refine zle_ne (fun _ => ?_) (fun _ => ?_)
    · refine zle_many 5 (72, 37, [zR 71, zI l1, zI l2, zI l3, zI l4, zI l5], [zI (zadd 24 l5), zR 72, zI l4], F, G, zsg) rfl ?_
      refine zle_ald rfl rfl rfl (fun _ => ?_)
      refine zle_many 1 (72, (bif zcmp .ne (F 72 (Int.toNat (zadd 24 l5))) 0 then 50 else 41), [zR 71, zI l1, zI l2, zI l3, zI l4, zI l5], [zI l4], F, G, zsg) rfl ?_
      refine zle_ne (fun _ => ?_) (fun _ => ?_)
      · refine zle_many 8 (72, 6, [zR 71, zI l1, zI l2, zI l3, zI (zor l4 (zshl 256 l5)), zI (zadd l5 1)], [], F, G, zsg) rfl ?_
        exact zle_rfl
      · refine zle_many 5 (72, 6, [zR 71, zI l1, zI l2, zI l3, zI (zor l4 0), zI (zadd l5 1)], [], F, G, zsg) rfl ?_
        exact zle_rfl
    · refine zle_many 5 (72, 6, [zR 71, zI l1, zI l2, zI l3, zI (zor l4 0), zI (zadd l5 1)], [], F, G, zsg) rfl ?_
      exact zle_rfl
  · refine zle_many 3 (72, 63, [zR 71, zI l1, zI l2, zI l3, zI l4, zI l5], [zI l3, zI l2, zR 71], F, G, zsg) rfl ?_
    refine zle_I rfl (fun v1 F1 G1 => ?_)
    refine zle_many 5 (72, (bif zcmp .ne v1 (-1) then 80 else 76), [zR 71, zI l1, zI l2, zI l3, zI l4, zI v1], [zI l4], F1, G1, zsg) rfl ?_
    refine zle_ne (fun _ => ?_) (fun _ => ?_)
    · refine zle_many 10 (72, 97, [zR 71, zI l1, zI l2, zI l3, zI (zor l4 0), zI v1], [zI (zsub 29 l1), zR 72, zI (zor l4 0)], F1, G1, zsg) rfl ?_
      refine zle_ald rfl rfl rfl (fun _ => ?_)
      refine zle_many 2 (72, (bif zcmp .ne (F1 72 (Int.toNat (zsub 29 l1))) l2 then 108 else 102), [zR 71, zI l1, zI l2, zI l3, zI (zor l4 0), zI v1], [zI (zor l4 0)], F1, G1, zsg) rfl ?_
      refine zle_ne (fun _ => ?_) (fun _ => ?_)
      · refine zle_many 3 (72, 110, [zR 71, zI l1, zI l2, zI l3, zI (zor l4 0), zI v1], [zI (zor (zor l4 0) 4096)], F1, G1, zsg) rfl ?_
        exact zle_ret rfl
      · refine zle_many 2 (72, 110, [zR 71, zI l1, zI l2, zI l3, zI (zor l4 0), zI v1], [zI (zor (zor l4 0) 0)], F1, G1, zsg) rfl ?_
        exact zle_ret rfl
    · refine zle_many 11 (72, 97, [zR 71, zI l1, zI l2, zI l3, zI (zor l4 (zshl 1 v1)), zI v1], [zI (zsub 29 l1), zR 72, zI (zor l4 (zshl 1 v1))], F1, G1, zsg) rfl ?_
      refine zle_ald rfl rfl rfl (fun _ => ?_)
      refine zle_many 2 (72, (bif zcmp .ne (F1 72 (Int.toNat (zsub 29 l1))) l2 then 108 else 102), [zR 71, zI l1, zI l2, zI l3, zI (zor l4 (zshl 1 v1)), zI v1], [zI (zor l4 (zshl 1 v1))], F1, G1, zsg) rfl ?_
      refine zle_ne (fun _ => ?_) (fun _ => ?_)
      · refine zle_many 3 (72, 110, [zR 71, zI l1, zI l2, zI l3, zI (zor l4 (zshl 1 v1)), zI v1], [zI (zor (zor l4 (zshl 1 v1)) 4096)], F1, G1, zsg) rfl ?_
        exact zle_ret rfl
      · refine zle_many 2 (72, 110, [zR 71, zI l1, zI l2, zI l3, zI (zor l4 (zshl 1 v1)), zI v1], [zI (zor (zor l4 (zshl 1 v1)) 0)], F1, G1, zsg) rfl ?_
        exact zle_ret rfl
set_option maxRecDepth 20000 in
theorem g_M_barsAt {d : Nat} {F : zM} {G : zG} (a1 : Int) (a2 : Int) (a3 : Int) : zle (
  if a3 = (-1) then
  zbI (zex d 64 [zR 71, zI a1, zI a2, zI a3, zI (-1)] (F, G, zsg)) (fun v5 F5 G5 =>
    if v5 = 0 then
      zbI (zex d 72 [zR 71, zI a1, zI a2, zI a3] (F5, G5, zsg)) (fun v6 F6 G6 =>
        if a3 = (-1) then
          some (some (zI v6), F6, G6, zsg)
        else
          if 0 ≤ (zadd 16 a3) ∧ (zadd 16 a3) < 43 then
            if 0 ≤ a3 ∧ a3 < 8 then
              zbI (zex d 61 [zI a2, zI (F6 72 (Int.toNat (zadd 16 a3))), zI (F6 79 (Int.toNat a3))] (F6, G6, zsg)) (fun v7 F7 G7 =>
                if 0 ≤ (zadd 16 a3) ∧ (zadd 16 a3) < 43 then
                  zbI (zex d 62 [zI a2, zI (F7 72 (Int.toNat (zadd 16 a3)))] (F7, G7, zsg)) (fun v8 F8 G8 =>
                    zev zX0 d (73, 83, [zR 71, zI a1, zI a2, zI a3, zI v6, zI v7, zI v8, zI 0], [], F8, G8, zsg))
                else none)
            else none
          else none)
    else
      some (some (zI 0), F5, G5, zsg))
else
  if 0 ≤ (zadd 16 a3) ∧ (zadd 16 a3) < 43 then
    zbI (zex d 64 [zR 71, zI a1, zI a2, zI a3, zI (F 72 (Int.toNat (zadd 16 a3)))] (F, G, zsg)) (fun v1 F1 G1 =>
      if v1 = 0 then
        zbI (zex d 72 [zR 71, zI a1, zI a2, zI a3] (F1, G1, zsg)) (fun v2 F2 G2 =>
          if a3 = (-1) then
            some (some (zI v2), F2, G2, zsg)
          else
            if 0 ≤ (zadd 16 a3) ∧ (zadd 16 a3) < 43 then
              if 0 ≤ a3 ∧ a3 < 8 then
                zbI (zex d 61 [zI a2, zI (F2 72 (Int.toNat (zadd 16 a3))), zI (F2 79 (Int.toNat a3))] (F2, G2, zsg)) (fun v3 F3 G3 =>
                  if 0 ≤ (zadd 16 a3) ∧ (zadd 16 a3) < 43 then
                    zbI (zex d 62 [zI a2, zI (F3 72 (Int.toNat (zadd 16 a3)))] (F3, G3, zsg)) (fun v4 F4 G4 =>
                      zev zX0 d (73, 83, [zR 71, zI a1, zI a2, zI a3, zI v2, zI v3, zI v4, zI 0], [], F4, G4, zsg))
                  else none)
              else none
            else none)
      else
        some (some (zI 0), F1, G1, zsg))
  else none) (zex (d + 1) 73 [zR 71, zI a1, zI a2, zI a3] (F, G, zsg)) := by
  refine zle_ent (ls := [zR 71, zI a1, zI a2, zI a3, zR 0, zR 0, zR 0, zR 0]) ?_
  refine zle_many 7 (73, (bif zcmp .ne a3 (-1) then 13 else 9), [zR 71, zI a1, zI a2, zI a3, zR 0, zR 0, zR 0, zR 0], [zI a3, zI a2, zI a1, zR 71], F, G, zsg) rfl ?_
  refine zle_ne (fun _ => ?_) (fun _ => ?_)
  · refine zle_many 2 (73, 22, [zR 71, zI a1, zI a2, zI a3, zR 0, zR 0, zR 0, zR 0], [zI (-1), zI a3, zI a2, zI a1, zR 71], F, G, zsg) rfl ?_
    refine zle_I rfl (fun v5 F5 G5 => ?_)
    refine zle_many 1 (73, (bif zcmp .eq v5 0 then 30 else 28), [zR 71, zI a1, zI a2, zI a3, zR 0, zR 0, zR 0, zR 0], [], F5, G5, zsg) rfl ?_
    refine zle_eq (fun _ => ?_) (fun _ => ?_)
    · refine zle_many 4 (73, 34, [zR 71, zI a1, zI a2, zI a3, zR 0, zR 0, zR 0, zR 0], [zI a3, zI a2, zI a1, zR 71], F5, G5, zsg) rfl ?_
      refine zle_I rfl (fun v6 F6 G6 => ?_)
      refine zle_many 4 (73, (bif zcmp .eq a3 (-1) then 151 else 44), [zR 71, zI a1, zI a2, zI a3, zI v6, zR 0, zR 0, zR 0], [], F6, G6, zsg) rfl ?_
      refine zle_eq (fun _ => ?_) (fun _ => ?_)
      · refine zle_many 1 (73, 153, [zR 71, zI a1, zI a2, zI a3, zI v6, zR 0, zR 0, zR 0], [zI v6], F6, G6, zsg) rfl ?_
        exact zle_ret rfl
      · refine zle_many 6 (73, 53, [zR 71, zI a1, zI a2, zI a3, zI v6, zR 0, zR 0, zR 0], [zI (zadd 16 a3), zR 72, zI a2], F6, G6, zsg) rfl ?_
        refine zle_ald rfl rfl rfl (fun _ => ?_)
        refine zle_many 3 (73, 59, [zR 71, zI a1, zI a2, zI a3, zI v6, zR 0, zR 0, zR 0], [zI a3, zR 79, zI (F6 72 (Int.toNat (zadd 16 a3))), zI a2], F6, G6, zsg) rfl ?_
        refine zle_ald rfl rfl rfl (fun _ => ?_)
        refine zle_I rfl (fun v7 F7 G7 => ?_)
        refine zle_many 7 (73, 74, [zR 71, zI a1, zI a2, zI a3, zI v6, zI v7, zR 0, zR 0], [zI (zadd 16 a3), zR 72, zI a2], F7, G7, zsg) rfl ?_
        refine zle_ald rfl rfl rfl (fun _ => ?_)
        refine zle_I rfl (fun v8 F8 G8 => ?_)
        refine zle_many 3 (73, 83, [zR 71, zI a1, zI a2, zI a3, zI v6, zI v7, zI v8, zI 0], [], F8, G8, zsg) rfl ?_
        exact zle_rfl
    · refine zle_many 1 (73, 29, [zR 71, zI a1, zI a2, zI a3, zR 0, zR 0, zR 0, zR 0], [zI 0], F5, G5, zsg) rfl ?_
      exact zle_ret rfl
  · refine zle_many 5 (73, 21, [zR 71, zI a1, zI a2, zI a3, zR 0, zR 0, zR 0, zR 0], [zI (zadd 16 a3), zR 72, zI a3, zI a2, zI a1, zR 71], F, G, zsg) rfl ?_
    refine zle_ald rfl rfl rfl (fun _ => ?_)
    refine zle_I rfl (fun v1 F1 G1 => ?_)
    refine zle_many 1 (73, (bif zcmp .eq v1 0 then 30 else 28), [zR 71, zI a1, zI a2, zI a3, zR 0, zR 0, zR 0, zR 0], [], F1, G1, zsg) rfl ?_
    refine zle_eq (fun _ => ?_) (fun _ => ?_)
    · refine zle_many 4 (73, 34, [zR 71, zI a1, zI a2, zI a3, zR 0, zR 0, zR 0, zR 0], [zI a3, zI a2, zI a1, zR 71], F1, G1, zsg) rfl ?_
      refine zle_I rfl (fun v2 F2 G2 => ?_)
      refine zle_many 4 (73, (bif zcmp .eq a3 (-1) then 151 else 44), [zR 71, zI a1, zI a2, zI a3, zI v2, zR 0, zR 0, zR 0], [], F2, G2, zsg) rfl ?_
      refine zle_eq (fun _ => ?_) (fun _ => ?_)
      · refine zle_many 1 (73, 153, [zR 71, zI a1, zI a2, zI a3, zI v2, zR 0, zR 0, zR 0], [zI v2], F2, G2, zsg) rfl ?_
        exact zle_ret rfl
      · refine zle_many 6 (73, 53, [zR 71, zI a1, zI a2, zI a3, zI v2, zR 0, zR 0, zR 0], [zI (zadd 16 a3), zR 72, zI a2], F2, G2, zsg) rfl ?_
        refine zle_ald rfl rfl rfl (fun _ => ?_)
        refine zle_many 3 (73, 59, [zR 71, zI a1, zI a2, zI a3, zI v2, zR 0, zR 0, zR 0], [zI a3, zR 79, zI (F2 72 (Int.toNat (zadd 16 a3))), zI a2], F2, G2, zsg) rfl ?_
        refine zle_ald rfl rfl rfl (fun _ => ?_)
        refine zle_I rfl (fun v3 F3 G3 => ?_)
        refine zle_many 7 (73, 74, [zR 71, zI a1, zI a2, zI a3, zI v2, zI v3, zR 0, zR 0], [zI (zadd 16 a3), zR 72, zI a2], F3, G3, zsg) rfl ?_
        refine zle_ald rfl rfl rfl (fun _ => ?_)
        refine zle_I rfl (fun v4 F4 G4 => ?_)
        refine zle_many 3 (73, 83, [zR 71, zI a1, zI a2, zI a3, zI v2, zI v3, zI v4, zI 0], [], F4, G4, zsg) rfl ?_
        exact zle_rfl
    · refine zle_many 1 (73, 29, [zR 71, zI a1, zI a2, zI a3, zR 0, zR 0, zR 0, zR 0], [zI 0], F1, G1, zsg) rfl ?_
      exact zle_ret rfl
set_option maxRecDepth 20000 in
theorem g_M_barsAt_83 {d : Nat} {F : zM} {G : zG} (l1 : Int) (l2 : Int) (l3 : Int) (l4 : Int) (l5 : Int) (l6 : Int) (l7 : Int) : zle (
  if 0 ≤ l3 ∧ l3 < 8 then
  if l7 < (F 79 (Int.toNat l3)) then
    zbI (zex d 49 [zI (zadd l5 l7), zI 0, zI 7] (F, G, zsg)) (fun v1 F1 G1 =>
      if v1 = 0 then
        zev zX0 d (73, 83, [zR 71, zI l1, zI l2, zI l3, zI (zor l4 0), zI l5, zI l6, zI (zadd l7 1)], [], F1, G1, zsg)
      else
        zbI (zex d 49 [zI l6, zI 0, zI 7] (F1, G1, zsg)) (fun v2 F2 G2 =>
          if v2 = 0 then
            zev zX0 d (73, 83, [zR 71, zI l1, zI l2, zI l3, zI (zor l4 0), zI l5, zI l6, zI (zadd l7 1)], [], F2, G2, zsg)
          else
            zbI (zex d 72 [zR 71, zI l1, zI (zadd (zadd (zmul 8 l6) l5) l7), zI l3] (F2, G2, zsg)) (fun v3 F3 G3 =>
              zev zX0 d (73, 83, [zR 71, zI l1, zI l2, zI l3, zI (zor l4 v3), zI l5, zI l6, zI (zadd l7 1)], [], F3, G3, zsg))))
  else
    some (some (zI l4), F, G, zsg)
else none) (zev zX0 d (73, 83, [zR 71, zI l1, zI l2, zI l3, zI l4, zI l5, zI l6, zI l7], [], F, G, zsg)) := by
  refine zle_many 4 (73, 90, [zR 71, zI l1, zI l2, zI l3, zI l4, zI l5, zI l6, zI l7], [zI l3, zR 79, zI l7], F, G, zsg) rfl ?_
  refine zle_ald rfl rfl rfl (fun _ => ?_)
  refine zle_many 1 (73, (bif zcmp .ge l7 (F 79 (Int.toNat l3)) then 151 else 94), [zR 71, zI l1, zI l2, zI l3, zI l4, zI l5, zI l6, zI l7], [], F, G, zsg) rfl ?_
  refine zle_ge (fun _ => ?_) (fun _ => ?_)
  · refine zle_many 6 (73, 104, [zR 71, zI l1, zI l2, zI l3, zI l4, zI l5, zI l6, zI l7], [zI 7, zI 0, zI (zadd l5 l7), zI l4], F, G, zsg) rfl ?_
    refine zle_I rfl (fun v1 F1 G1 => ?_)
    refine zle_many 1 (73, (bif zcmp .eq v1 0 then 141 else 110), [zR 71, zI l1, zI l2, zI l3, zI l4, zI l5, zI l6, zI l7], [zI l4], F1, G1, zsg) rfl ?_
    refine zle_eq (fun _ => ?_) (fun _ => ?_)
    · refine zle_many 5 (73, 83, [zR 71, zI l1, zI l2, zI l3, zI (zor l4 0), zI l5, zI l6, zI (zadd l7 1)], [], F1, G1, zsg) rfl ?_
      exact zle_rfl
    · refine zle_many 3 (73, 115, [zR 71, zI l1, zI l2, zI l3, zI l4, zI l5, zI l6, zI l7], [zI 7, zI 0, zI l6, zI l4], F1, G1, zsg) rfl ?_
      refine zle_I rfl (fun v2 F2 G2 => ?_)
      refine zle_many 1 (73, (bif zcmp .eq v2 0 then 141 else 121), [zR 71, zI l1, zI l2, zI l3, zI l4, zI l5, zI l6, zI l7], [zI l4], F2, G2, zsg) rfl ?_
      refine zle_eq (fun _ => ?_) (fun _ => ?_)
      · refine zle_many 5 (73, 83, [zR 71, zI l1, zI l2, zI l3, zI (zor l4 0), zI l5, zI l6, zI (zadd l7 1)], [], F2, G2, zsg) rfl ?_
        exact zle_rfl
      · refine zle_many 10 (73, 135, [zR 71, zI l1, zI l2, zI l3, zI l4, zI l5, zI l6, zI l7], [zI l3, zI (zadd (zadd (zmul 8 l6) l5) l7), zI l1, zR 71, zI l4], F2, G2, zsg) rfl ?_
        refine zle_I rfl (fun v3 F3 G3 => ?_)
        refine zle_many 5 (73, 83, [zR 71, zI l1, zI l2, zI l3, zI (zor l4 v3), zI l5, zI l6, zI (zadd l7 1)], [], F3, G3, zsg) rfl ?_
        exact zle_rfl
  · refine zle_many 1 (73, 153, [zR 71, zI l1, zI l2, zI l3, zI l4, zI l5, zI l6, zI l7], [zI l4], F, G, zsg) rfl ?_
    exact zle_ret rfl
set_option maxRecDepth 20000 in
theorem g_M_reached {d : Nat} {F : zM} {G : zG} (a1 : Int) (a2 : Int) : zle (
  zbI (zex d 68 [zR 71, zI a1] (F, G, zsg)) (fun v1 F1 G1 =>
  if v1 = 0 then
    some (some (zI (-5)), F1, G1, zsg)
  else
    zbI (zex d 49 [zI a2, zI 0, zI 1] (F1, G1, zsg)) (fun v2 F2 G2 =>
      if v2 = 0 then
        some (some (zI (-2)), F2, G2, zsg)
      else
        zbV (zex d 67 [zR 71, zI a1] (F2, G2, zsg)) (fun F3 G3 =>
          if 0 ≤ (zadd 30 a1) ∧ (zadd 30 a1) < 43 then
            zev zX0 d (74, 47, [zR 71, zI a1, zI a2, zI 0, zI 0, zI (F3 72 (Int.toNat (zadd 30 a1))), zI 0, zR 0, zR 0], [], F3, G3, zsg)
          else none)))) (zex (d + 1) 74 [zR 71, zI a1, zI a2] (F, G, zsg)) := by
  refine zle_ent (ls := [zR 71, zI a1, zI a2, zR 0, zR 0, zR 0, zR 0, zR 0, zR 0]) ?_
  refine zle_many 2 (74, 2, [zR 71, zI a1, zI a2, zR 0, zR 0, zR 0, zR 0, zR 0, zR 0], [zI a1, zR 71], F, G, zsg) rfl ?_
  refine zle_I rfl (fun v1 F1 G1 => ?_)
  refine zle_many 1 (74, (bif zcmp .ne v1 0 then 11 else 8), [zR 71, zI a1, zI a2, zR 0, zR 0, zR 0, zR 0, zR 0, zR 0], [], F1, G1, zsg) rfl ?_
  refine zle_ne (fun _ => ?_) (fun _ => ?_)
  · refine zle_many 1 (74, 10, [zR 71, zI a1, zI a2, zR 0, zR 0, zR 0, zR 0, zR 0, zR 0], [zI (-5)], F1, G1, zsg) rfl ?_
    exact zle_ret rfl
  · refine zle_many 3 (74, 14, [zR 71, zI a1, zI a2, zR 0, zR 0, zR 0, zR 0, zR 0, zR 0], [zI 1, zI 0, zI a2], F1, G1, zsg) rfl ?_
    refine zle_I rfl (fun v2 F2 G2 => ?_)
    refine zle_many 1 (74, (bif zcmp .ne v2 0 then 23 else 20), [zR 71, zI a1, zI a2, zR 0, zR 0, zR 0, zR 0, zR 0, zR 0], [], F2, G2, zsg) rfl ?_
    refine zle_ne (fun _ => ?_) (fun _ => ?_)
    · refine zle_many 1 (74, 22, [zR 71, zI a1, zI a2, zR 0, zR 0, zR 0, zR 0, zR 0, zR 0], [zI (-2)], F2, G2, zsg) rfl ?_
      exact zle_ret rfl
    · refine zle_many 2 (74, 25, [zR 71, zI a1, zI a2, zR 0, zR 0, zR 0, zR 0, zR 0, zR 0], [zI a1, zR 71], F2, G2, zsg) rfl ?_
      refine zle_V rfl (fun F3 G3 => ?_)
      refine zle_many 9 (74, 41, [zR 71, zI a1, zI a2, zI 0, zI 0, zR 0, zR 0, zR 0, zR 0], [zI (zadd 30 a1), zR 72], F3, G3, zsg) rfl ?_
      refine zle_ald rfl rfl rfl (fun _ => ?_)
      refine zle_many 3 (74, 47, [zR 71, zI a1, zI a2, zI 0, zI 0, zI (F3 72 (Int.toNat (zadd 30 a1))), zI 0, zR 0, zR 0], [], F3, G3, zsg) rfl ?_
      exact zle_rfl
set_option maxRecDepth 20000 in
theorem g_M_reached_47 {d : Nat} {F : zM} {G : zG} (l1 : Int) (l2 : Int) (l3 : Int) (l4 : Int) (l5 : Int) (l6 : Int) : zle (
  if l6 < 64 then
  if 0 ≤ l6 ∧ l6 < 64 then
    if (F 99 (Int.toNat l6)) < 1000 then
      zev zX0 d (74, 78, [zR 71, zI l1, zI l2, zI (zadd l3 1), zI l4, zI l5, zI l6, zI 0, zR 0], [], F, G, zsg)
    else
      zev zX0 d (74, 78, [zR 71, zI l1, zI l2, zI (zadd l3 0), zI l4, zI l5, zI l6, zI 0, zR 0], [], F, G, zsg)
  else none
else
  if l2 = 0 then
    some (some (zI l3), F, G, zsg)
  else
    some (some (zI l4), F, G, zsg)) (zev zX0 d (74, 47, [zR 71, zI l1, zI l2, zI l3, zI l4, zI l5, zI l6, zR 0, zR 0], [], F, G, zsg)) := by
  refine zle_many 3 (74, (bif zcmp .ge l6 64 then 162 else 54), [zR 71, zI l1, zI l2, zI l3, zI l4, zI l5, zI l6, zR 0, zR 0], [], F, G, zsg) rfl ?_
  refine zle_ge (fun _ => ?_) (fun _ => ?_)
  · refine zle_many 4 (74, 61, [zR 71, zI l1, zI l2, zI l3, zI l4, zI l5, zI l6, zR 0, zR 0], [zI l6, zR 99, zI l3], F, G, zsg) rfl ?_
    refine zle_ald rfl rfl rfl (fun _ => ?_)
    refine zle_many 2 (74, (bif zcmp .ge (F 99 (Int.toNat l6)) 1000 then 72 else 68), [zR 71, zI l1, zI l2, zI l3, zI l4, zI l5, zI l6, zR 0, zR 0], [zI l3], F, G, zsg) rfl ?_
    refine zle_ge (fun _ => ?_) (fun _ => ?_)
    · refine zle_many 6 (74, 78, [zR 71, zI l1, zI l2, zI (zadd l3 1), zI l4, zI l5, zI l6, zI 0, zR 0], [], F, G, zsg) rfl ?_
      exact zle_rfl
    · refine zle_many 5 (74, 78, [zR 71, zI l1, zI l2, zI (zadd l3 0), zI l4, zI l5, zI l6, zI 0, zR 0], [], F, G, zsg) rfl ?_
      exact zle_rfl
  · refine zle_many 2 (74, (bif zcmp .ne l2 0 then 170 else 166), [zR 71, zI l1, zI l2, zI l3, zI l4, zI l5, zI l6, zR 0, zR 0], [], F, G, zsg) rfl ?_
    refine zle_ne (fun _ => ?_) (fun _ => ?_)
    · refine zle_many 2 (74, 172, [zR 71, zI l1, zI l2, zI l3, zI l4, zI l5, zI l6, zR 0, zR 0], [zI l3], F, G, zsg) rfl ?_
      exact zle_ret rfl
    · refine zle_many 1 (74, 172, [zR 71, zI l1, zI l2, zI l3, zI l4, zI l5, zI l6, zR 0, zR 0], [zI l4], F, G, zsg) rfl ?_
      exact zle_ret rfl
set_option maxRecDepth 20000 in
theorem g_M_reached_78 {d : Nat} {F : zM} {G : zG} (l1 : Int) (l2 : Int) (l3 : Int) (l4 : Int) (l5 : Int) (l6 : Int) (l7 : Int) : zle (
  if l7 < 4 then
  if 0 ≤ l6 ∧ l6 < 64 then
    if (F 99 (Int.toNat l6)) < 1000 then
      if l2 = 1 then
        zbI (zex d 65 [zR 71, zI l5, zI l7] (F, G, zsg)) (fun v1 F1 G1 =>
          if v1 = 0 then
            zev zX0 d (74, 78, [zR 71, zI l1, zI l2, zI l3, zI (zor l4 0), zI l5, zI l6, zI (zadd l7 1), zR 0], [], F1, G1, zsg)
          else
            zbI (zex d 53 [zI l6, zI l7] (F1, G1, zsg)) (fun v2 F2 G2 =>
              if v2 = (-1) then
                zev zX0 d (74, 78, [zR 71, zI l1, zI l2, zI l3, zI (zor l4 0), zI l5, zI l6, zI (zadd l7 1), zR 0], [], F2, G2, zsg)
              else
                zbI (zex d 73 [zR 71, zI l1, zI v2, zI l5] (F2, G2, zsg)) (fun v3 F3 G3 =>
                  zev zX0 d (74, 78, [zR 71, zI l1, zI l2, zI l3, zI (zor l4 v3), zI l5, zI l6, zI (zadd l7 1), zR 0], [], F3, G3, zsg))))
      else
        zev zX0 d (74, 47, [zR 71, zI l1, zI l2, zI l3, zI l4, zI l5, zI (zadd l6 1), zR 0, zR 0], [], F, G, zsg)
    else
      zev zX0 d (74, 47, [zR 71, zI l1, zI l2, zI l3, zI l4, zI l5, zI (zadd l6 1), zR 0, zR 0], [], F, G, zsg)
  else none
else
  zev zX0 d (74, 47, [zR 71, zI l1, zI l2, zI l3, zI l4, zI l5, zI (zadd l6 1), zR 0, zR 0], [], F, G, zsg)) (zev zX0 d (74, 78, [zR 71, zI l1, zI l2, zI l3, zI l4, zI l5, zI l6, zI l7, zR 0], [], F, G, zsg)) := by
  refine zle_many 3 (74, (bif zcmp .ge l7 4 then 156 else 84), [zR 71, zI l1, zI l2, zI l3, zI l4, zI l5, zI l6, zI l7, zR 0], [], F, G, zsg) rfl ?_
  refine zle_ge (fun _ => ?_) (fun _ => ?_)
  · refine zle_many 3 (74, 90, [zR 71, zI l1, zI l2, zI l3, zI l4, zI l5, zI l6, zI l7, zR 0], [zI l6, zR 99], F, G, zsg) rfl ?_
    refine zle_ald rfl rfl rfl (fun _ => ?_)
    refine zle_many 2 (74, (bif zcmp .ge (F 99 (Int.toNat l6)) 1000 then 156 else 97), [zR 71, zI l1, zI l2, zI l3, zI l4, zI l5, zI l6, zI l7, zR 0], [], F, G, zsg) rfl ?_
    refine zle_ge (fun _ => ?_) (fun _ => ?_)
    · refine zle_many 3 (74, (bif zcmp .ne l2 1 then 156 else 102), [zR 71, zI l1, zI l2, zI l3, zI l4, zI l5, zI l6, zI l7, zR 0], [], F, G, zsg) rfl ?_
      refine zle_ne (fun _ => ?_) (fun _ => ?_)
      · refine zle_many 3 (74, 107, [zR 71, zI l1, zI l2, zI l3, zI l4, zI l5, zI l6, zI l7, zR 0], [zI l7, zI l5, zR 71], F, G, zsg) rfl ?_
        refine zle_I rfl (fun v1 F1 G1 => ?_)
        refine zle_many 1 (74, (bif zcmp .eq v1 0 then 123 else 113), [zR 71, zI l1, zI l2, zI l3, zI l4, zI l5, zI l6, zI l7, zR 0], [], F1, G1, zsg) rfl ?_
        refine zle_eq (fun _ => ?_) (fun _ => ?_)
        · refine zle_many 12 (74, 78, [zR 71, zI l1, zI l2, zI l3, zI (zor l4 0), zI l5, zI l6, zI (zadd l7 1), zI (-1)], [], F1, G1, zsg) rfl ?_
          exact zle_wk ⟨Or.inl rfl, Or.inl rfl, Or.inl rfl, Or.inl rfl, Or.inl rfl, Or.inl rfl, Or.inl rfl, Or.inl rfl, Or.inr rfl, trivial⟩
        · refine zle_many 2 (74, 117, [zR 71, zI l1, zI l2, zI l3, zI l4, zI l5, zI l6, zI l7, zR 0], [zI l7, zI l6], F1, G1, zsg) rfl ?_
          refine zle_I rfl (fun v2 F2 G2 => ?_)
          refine zle_many 6 (74, (bif zcmp .ne v2 (-1) then 138 else 134), [zR 71, zI l1, zI l2, zI l3, zI l4, zI l5, zI l6, zI l7, zI v2], [zI l4], F2, G2, zsg) rfl ?_
          refine zle_ne (fun _ => ?_) (fun _ => ?_)
          · refine zle_many 6 (74, 78, [zR 71, zI l1, zI l2, zI l3, zI (zor l4 0), zI l5, zI l6, zI (zadd l7 1), zI v2], [], F2, G2, zsg) rfl ?_
            exact zle_wk ⟨Or.inl rfl, Or.inl rfl, Or.inl rfl, Or.inl rfl, Or.inl rfl, Or.inl rfl, Or.inl rfl, Or.inl rfl, Or.inr rfl, trivial⟩
          · refine zle_many 4 (74, 144, [zR 71, zI l1, zI l2, zI l3, zI l4, zI l5, zI l6, zI l7, zI v2], [zI l5, zI v2, zI l1, zR 71, zI l4], F2, G2, zsg) rfl ?_
            refine zle_I rfl (fun v3 F3 G3 => ?_)
            refine zle_many 4 (74, 78, [zR 71, zI l1, zI l2, zI l3, zI (zor l4 v3), zI l5, zI l6, zI (zadd l7 1), zI v2], [], F3, G3, zsg) rfl ?_
            exact zle_wk ⟨Or.inl rfl, Or.inl rfl, Or.inl rfl, Or.inl rfl, Or.inl rfl, Or.inl rfl, Or.inl rfl, Or.inl rfl, Or.inr rfl, trivial⟩
      · refine zle_many 2 (74, 47, [zR 71, zI l1, zI l2, zI l3, zI l4, zI l5, zI (zadd l6 1), zI l7, zR 0], [], F, G, zsg) rfl ?_
        exact zle_wk ⟨Or.inl rfl, Or.inl rfl, Or.inl rfl, Or.inl rfl, Or.inl rfl, Or.inl rfl, Or.inl rfl, Or.inr rfl, Or.inl rfl, trivial⟩
    · refine zle_many 2 (74, 47, [zR 71, zI l1, zI l2, zI l3, zI l4, zI l5, zI (zadd l6 1), zI l7, zR 0], [], F, G, zsg) rfl ?_
      exact zle_wk ⟨Or.inl rfl, Or.inl rfl, Or.inl rfl, Or.inl rfl, Or.inl rfl, Or.inl rfl, Or.inl rfl, Or.inr rfl, Or.inl rfl, trivial⟩
  · refine zle_many 2 (74, 47, [zR 71, zI l1, zI l2, zI l3, zI l4, zI l5, zI (zadd l6 1), zI l7, zR 0], [], F, G, zsg) rfl ?_
    exact zle_wk ⟨Or.inl rfl, Or.inl rfl, Or.inl rfl, Or.inl rfl, Or.inl rfl, Or.inl rfl, Or.inl rfl, Or.inr rfl, Or.inl rfl, trivial⟩
set_option maxRecDepth 20000 in
theorem g_M_barred {d : Nat} {F : zM} {G : zG} (a1 : Int) (a2 : Int) : zle (
  zbI (zex d 68 [zR 71, zI a1] (F, G, zsg)) (fun v1 F1 G1 =>
  if v1 = 0 then
    some (some (zI (-5)), F1, G1, zsg)
  else
    zbI (zex d 50 [zI a2] (F1, G1, zsg)) (fun v2 F2 G2 =>
      if v2 = 0 then
        some (some (zI (-5)), F2, G2, zsg)
      else
        zbV (zex d 67 [zR 71, zI a1] (F2, G2, zsg)) (fun F3 G3 =>
          if 0 ≤ a2 ∧ a2 < 64 then
            if (F3 99 (Int.toNat a2)) < 1000 then
              zev zX0 d (75, 47, [zR 71, zI a1, zI a2, zI 0, zI 1, zI 0, zR 0], [], F3, G3, zsg)
            else
              zev zX0 d (75, 47, [zR 71, zI a1, zI a2, zI 0, zI 0, zI 0, zR 0], [], F3, G3, zsg)
          else none)))) (zex (d + 1) 75 [zR 71, zI a1, zI a2] (F, G, zsg)) := by
  refine zle_ent (ls := [zR 71, zI a1, zI a2, zR 0, zR 0, zR 0, zR 0]) ?_
  refine zle_many 2 (75, 2, [zR 71, zI a1, zI a2, zR 0, zR 0, zR 0, zR 0], [zI a1, zR 71], F, G, zsg) rfl ?_
  refine zle_I rfl (fun v1 F1 G1 => ?_)
  refine zle_many 1 (75, (bif zcmp .eq v1 0 then 15 else 8), [zR 71, zI a1, zI a2, zR 0, zR 0, zR 0, zR 0], [], F1, G1, zsg) rfl ?_
  refine zle_eq (fun _ => ?_) (fun _ => ?_)
  · refine zle_many 1 (75, 17, [zR 71, zI a1, zI a2, zR 0, zR 0, zR 0, zR 0], [zI (-5)], F1, G1, zsg) rfl ?_
    exact zle_ret rfl
  · refine zle_many 1 (75, 9, [zR 71, zI a1, zI a2, zR 0, zR 0, zR 0, zR 0], [zI a2], F1, G1, zsg) rfl ?_
    refine zle_I rfl (fun v2 F2 G2 => ?_)
    refine zle_many 1 (75, (bif zcmp .ne v2 0 then 18 else 15), [zR 71, zI a1, zI a2, zR 0, zR 0, zR 0, zR 0], [], F2, G2, zsg) rfl ?_
    refine zle_ne (fun _ => ?_) (fun _ => ?_)
    · refine zle_many 1 (75, 17, [zR 71, zI a1, zI a2, zR 0, zR 0, zR 0, zR 0], [zI (-5)], F2, G2, zsg) rfl ?_
      exact zle_ret rfl
    · refine zle_many 2 (75, 20, [zR 71, zI a1, zI a2, zR 0, zR 0, zR 0, zR 0], [zI a1, zR 71], F2, G2, zsg) rfl ?_
      refine zle_V rfl (fun F3 G3 => ?_)
      refine zle_many 5 (75, 30, [zR 71, zI a1, zI a2, zI 0, zR 0, zR 0, zR 0], [zI a2, zR 99], F3, G3, zsg) rfl ?_
      refine zle_ald rfl rfl rfl (fun _ => ?_)
      refine zle_many 2 (75, (bif zcmp .ge (F3 99 (Int.toNat a2)) 1000 then 41 else 37), [zR 71, zI a1, zI a2, zI 0, zR 0, zR 0, zR 0], [], F3, G3, zsg) rfl ?_
      refine zle_ge (fun _ => ?_) (fun _ => ?_)
      · refine zle_many 5 (75, 47, [zR 71, zI a1, zI a2, zI 0, zI 1, zI 0, zR 0], [], F3, G3, zsg) rfl ?_
        exact zle_rfl
      · refine zle_many 4 (75, 47, [zR 71, zI a1, zI a2, zI 0, zI 0, zI 0, zR 0], [], F3, G3, zsg) rfl ?_
        exact zle_rfl
set_option maxRecDepth 20000 in
theorem g_M_barred_47 {d : Nat} {F : zM} {G : zG} (l1 : Int) (l2 : Int) (l3 : Int) (l4 : Int) (l5 : Int) : zle (
  if l5 < (F 71 8) then
  if l4 = 0 then
    if 0 ≤ (zadd 8 l5) ∧ (zadd 8 l5) < 43 then
      if (F 72 (Int.toNat (zadd 8 l5))) = (-1) then
        if 0 ≤ (zadd 0 l5) ∧ (zadd 0 l5) < 43 then
          if (F 72 (Int.toNat (zadd 0 l5))) = (-1) then
            zev zX0 d (75, 47, [zR 71, zI l1, zI l2, zI l3, zI l4, zI (zadd l5 1), zR 0], [], F, G, zsg)
          else
            if 0 ≤ (zadd 0 l5) ∧ (zadd 0 l5) < 43 then
              if 0 ≤ (zadd 0 l5) ∧ (zadd 0 l5) < 43 then
                zbV (zex d 67 [zR 71, zI l1] ((zup F 72 (Int.toNat (zadd 0 l5)) (-1)), G, zsg)) (fun F1 G1 =>
                  if 0 ≤ l2 ∧ l2 < 64 then
                    if (F1 99 (Int.toNat l2)) < 1000 then
                      if 0 ≤ (zadd 0 l5) ∧ (zadd 0 l5) < 43 then
                        zev zX0 d (75, 47, [zR 71, zI l1, zI l2, zI (zor l3 (zshl 1 l5)), zI l4, zI (zadd l5 1), zR 0], [], (zup F1 72 (Int.toNat (zadd 0 l5)) (F 72 (Int.toNat (zadd 0 l5)))), G1, zsg)
                      else none
                    else
                      if 0 ≤ (zadd 0 l5) ∧ (zadd 0 l5) < 43 then
                        zev zX0 d (75, 47, [zR 71, zI l1, zI l2, zI (zor l3 0), zI l4, zI (zadd l5 1), zR 0], [], (zup F1 72 (Int.toNat (zadd 0 l5)) (F 72 (Int.toNat (zadd 0 l5)))), G1, zsg)
                      else none
                  else none)
              else none
            else none
        else none
      else
        zev zX0 d (75, 47, [zR 71, zI l1, zI l2, zI l3, zI l4, zI (zadd l5 1), zR 0], [], F, G, zsg)
    else none
  else
    some (some (zI l3), F, G, zsg)
else
  some (some (zI l3), F, G, zsg)) (zev zX0 d (75, 47, [zR 71, zI l1, zI l2, zI l3, zI l4, zI l5, zR 0], [], F, G, zsg)) := by
  refine zle_many 4 (75, (bif zcmp .ge l5 (F 71 8) then 154 else 56), [zR 71, zI l1, zI l2, zI l3, zI l4, zI l5, zR 0], [], F, G, zsg) rfl ?_
  refine zle_ge (fun _ => ?_) (fun _ => ?_)
  · refine zle_many 2 (75, (bif zcmp .ne l4 0 then 154 else 61), [zR 71, zI l1, zI l2, zI l3, zI l4, zI l5, zR 0], [], F, G, zsg) rfl ?_
    refine zle_ne (fun _ => ?_) (fun _ => ?_)
    · refine zle_many 5 (75, 70, [zR 71, zI l1, zI l2, zI l3, zI l4, zI l5, zR 0], [zI (zadd 8 l5), zR 72], F, G, zsg) rfl ?_
      refine zle_ald rfl rfl rfl (fun _ => ?_)
      refine zle_many 2 (75, (bif zcmp .ne (F 72 (Int.toNat (zadd 8 l5))) (-1) then 148 else 75), [zR 71, zI l1, zI l2, zI l3, zI l4, zI l5, zR 0], [], F, G, zsg) rfl ?_
      refine zle_ne (fun _ => ?_) (fun _ => ?_)
      · refine zle_many 5 (75, 83, [zR 71, zI l1, zI l2, zI l3, zI l4, zI l5, zR 0], [zI (zadd 0 l5), zR 72], F, G, zsg) rfl ?_
        refine zle_ald rfl rfl rfl (fun _ => ?_)
        refine zle_many 2 (75, (bif zcmp .eq (F 72 (Int.toNat (zadd 0 l5))) (-1) then 148 else 88), [zR 71, zI l1, zI l2, zI l3, zI l4, zI l5, zR 0], [], F, G, zsg) rfl ?_
        refine zle_eq (fun _ => ?_) (fun _ => ?_)
        · refine zle_many 2 (75, 47, [zR 71, zI l1, zI l2, zI l3, zI l4, zI (zadd l5 1), zR 0], [], F, G, zsg) rfl ?_
          exact zle_rfl
        · refine zle_many 5 (75, 96, [zR 71, zI l1, zI l2, zI l3, zI l4, zI l5, zR 0], [zI (zadd 0 l5), zR 72], F, G, zsg) rfl ?_
          refine zle_ald rfl rfl rfl (fun _ => ?_)
          refine zle_many 7 (75, 108, [zR 71, zI l1, zI l2, zI l3, zI l4, zI l5, zI (F 72 (Int.toNat (zadd 0 l5)))], [zI (-1), zI (zadd 0 l5), zR 72], F, G, zsg) rfl ?_
          refine zle_ast rfl rfl rfl (fun _ => ?_)
          refine zle_many 2 (75, 111, [zR 71, zI l1, zI l2, zI l3, zI l4, zI l5, zI (F 72 (Int.toNat (zadd 0 l5)))], [zI l1, zR 71], (zup F 72 (Int.toNat (zadd 0 l5)) (-1)), G, zsg) rfl ?_
          refine zle_V rfl (fun F1 G1 => ?_)
          refine zle_many 4 (75, 120, [zR 71, zI l1, zI l2, zI l3, zI l4, zI l5, zI (F 72 (Int.toNat (zadd 0 l5)))], [zI l2, zR 99, zI l3], F1, G1, zsg) rfl ?_
          refine zle_ald rfl rfl rfl (fun _ => ?_)
          refine zle_many 2 (75, (bif zcmp .ge (F1 99 (Int.toNat l2)) 1000 then 134 else 127), [zR 71, zI l1, zI l2, zI l3, zI l4, zI l5, zI (F 72 (Int.toNat (zadd 0 l5)))], [zI l3], F1, G1, zsg) rfl ?_
          refine zle_ge (fun _ => ?_) (fun _ => ?_)
          · refine zle_many 12 (75, 147, [zR 71, zI l1, zI l2, zI (zor l3 (zshl 1 l5)), zI l4, zI l5, zI (F 72 (Int.toNat (zadd 0 l5)))], [zI (F 72 (Int.toNat (zadd 0 l5))), zI (zadd 0 l5), zR 72], F1, G1, zsg) rfl ?_
            refine zle_ast rfl rfl rfl (fun _ => ?_)
            refine zle_many 2 (75, 47, [zR 71, zI l1, zI l2, zI (zor l3 (zshl 1 l5)), zI l4, zI (zadd l5 1), zI (F 72 (Int.toNat (zadd 0 l5)))], [], (zup F1 72 (Int.toNat (zadd 0 l5)) (F 72 (Int.toNat (zadd 0 l5)))), G1, zsg) rfl ?_
            exact zle_wk ⟨Or.inl rfl, Or.inl rfl, Or.inl rfl, Or.inl rfl, Or.inl rfl, Or.inl rfl, Or.inr rfl, trivial⟩
          · refine zle_many 9 (75, 147, [zR 71, zI l1, zI l2, zI (zor l3 0), zI l4, zI l5, zI (F 72 (Int.toNat (zadd 0 l5)))], [zI (F 72 (Int.toNat (zadd 0 l5))), zI (zadd 0 l5), zR 72], F1, G1, zsg) rfl ?_
            refine zle_ast rfl rfl rfl (fun _ => ?_)
            refine zle_many 2 (75, 47, [zR 71, zI l1, zI l2, zI (zor l3 0), zI l4, zI (zadd l5 1), zI (F 72 (Int.toNat (zadd 0 l5)))], [], (zup F1 72 (Int.toNat (zadd 0 l5)) (F 72 (Int.toNat (zadd 0 l5)))), G1, zsg) rfl ?_
            exact zle_wk ⟨Or.inl rfl, Or.inl rfl, Or.inl rfl, Or.inl rfl, Or.inl rfl, Or.inl rfl, Or.inr rfl, trivial⟩
      · refine zle_many 2 (75, 47, [zR 71, zI l1, zI l2, zI l3, zI l4, zI (zadd l5 1), zR 0], [], F, G, zsg) rfl ?_
        exact zle_rfl
    · refine zle_many 1 (75, 155, [zR 71, zI l1, zI l2, zI l3, zI l4, zI l5, zR 0], [zI l3], F, G, zsg) rfl ?_
      exact zle_ret rfl
  · refine zle_many 1 (75, 155, [zR 71, zI l1, zI l2, zI l3, zI l4, zI l5, zR 0], [zI l3], F, G, zsg) rfl ?_
    exact zle_ret rfl
set_option maxRecDepth 20000 in
theorem g_M_isHandIn {d : Nat} {F : zM} {G : zG} (a1 : Int) : zle (
  if (F 72 28) = a1 then
  some (some (zI 1), F, G, zsg)
else
  if (F 72 29) = a1 then
    some (some (zI 1), F, G, zsg)
  else
    some (some (zI 0), F, G, zsg)) (zex (d + 1) 76 [zR 71, zI a1] (F, G, zsg)) := by
  refine zle_ent (ls := [zR 71, zI a1]) ?_
  refine zle_many 6 (76, (bif zcmp .eq (F 72 28) a1 then 22 else 11), [zR 71, zI a1], [], F, G, zsg) rfl ?_
  refine zle_eq (fun _ => ?_) (fun _ => ?_)
  · refine zle_many 2 (76, 27, [zR 71, zI a1], [zI 1], F, G, zsg) rfl ?_
    exact zle_ret rfl
  · refine zle_many 6 (76, (bif zcmp .ne (F 72 29) a1 then 26 else 22), [zR 71, zI a1], [], F, G, zsg) rfl ?_
    refine zle_ne (fun _ => ?_) (fun _ => ?_)
    · refine zle_many 2 (76, 27, [zR 71, zI a1], [zI 1], F, G, zsg) rfl ?_
      exact zle_ret rfl
    · refine zle_many 1 (76, 27, [zR 71, zI a1], [zI 0], F, G, zsg) rfl ?_
      exact zle_ret rfl
set_option maxRecDepth 20000 in
theorem g_M_wall {d : Nat} {F : zM} {G : zG} (a1 : Int) (a2 : Int) : zle (
  zbI (zex d 50 [zI a1] (F, G, zsg)) (fun v1 F1 G1 =>
  if v1 = 0 then
    some (some (zI (-1)), F1, G1, zsg)
  else
    zbI (zex d 49 [zI a2, zI 0, zI 1] (F1, G1, zsg)) (fun v2 F2 G2 =>
      if v2 = 0 then
        some (some (zI (-2)), F2, G2, zsg)
      else
        if a2 = 1 then
          zbI (zex d 59 [zR 71, zI a1, zI (-1)] (F2, G2, zsg)) (fun v3 F3 G3 =>
            if v3 = (-1) then
              zbI (zex d 76 [zR 71, zI a1] (F3, G3, zsg)) (fun v4 F4 G4 =>
                if v4 = 0 then
                  if 0 ≤ a1 ∧ a1 < 64 then
                    if (F4 75 (Int.toNat a1)) = 0 then
                      if a2 = 1 then
                        if 0 ≤ a1 ∧ a1 < 64 then
                        some (some (zI 0), (zup F4 75 (Int.toNat a1) 1), G4, zsg)
                      else none
                      else
                        if 0 ≤ a1 ∧ a1 < 64 then
                        some (some (zI 0), (zup F4 75 (Int.toNat a1) 0), G4, zsg)
                      else none
                    else
                      if a2 = 1 then
                        if 0 ≤ a1 ∧ a1 < 64 then
                        some (some (zI 1), (zup F4 75 (Int.toNat a1) 1), G4, zsg)
                      else none
                      else
                        if 0 ≤ a1 ∧ a1 < 64 then
                        some (some (zI 1), (zup F4 75 (Int.toNat a1) 0), G4, zsg)
                      else none
                  else none
                else
                  some (some (zI (-3)), F4, G4, zsg))
            else
              some (some (zI (-3)), F3, G3, zsg))
        else
          if 0 ≤ a1 ∧ a1 < 64 then
            if (F2 75 (Int.toNat a1)) = 0 then
              if a2 = 1 then
                if 0 ≤ a1 ∧ a1 < 64 then
                  some (some (zI 0), (zup F2 75 (Int.toNat a1) 1), G2, zsg)
                else none
              else
                if 0 ≤ a1 ∧ a1 < 64 then
                  some (some (zI 0), (zup F2 75 (Int.toNat a1) 0), G2, zsg)
                else none
            else
              if a2 = 1 then
                if 0 ≤ a1 ∧ a1 < 64 then
                  some (some (zI 1), (zup F2 75 (Int.toNat a1) 1), G2, zsg)
                else none
              else
                if 0 ≤ a1 ∧ a1 < 64 then
                  some (some (zI 1), (zup F2 75 (Int.toNat a1) 0), G2, zsg)
                else none
          else none))) (zex (d + 1) 77 [zR 71, zI a1, zI a2] (F, G, zsg)) := by
  refine zle_ent (ls := [zR 71, zI a1, zI a2, zR 0]) ?_
  refine zle_many 1 (77, 1, [zR 71, zI a1, zI a2, zR 0], [zI a1], F, G, zsg) rfl ?_
  refine zle_I rfl (fun v1 F1 G1 => ?_)
  refine zle_many 1 (77, (bif zcmp .ne v1 0 then 9 else 7), [zR 71, zI a1, zI a2, zR 0], [], F1, G1, zsg) rfl ?_
  refine zle_ne (fun _ => ?_) (fun _ => ?_)
  · refine zle_many 1 (77, 8, [zR 71, zI a1, zI a2, zR 0], [zI (-1)], F1, G1, zsg) rfl ?_
    exact zle_ret rfl
  · refine zle_many 3 (77, 12, [zR 71, zI a1, zI a2, zR 0], [zI 1, zI 0, zI a2], F1, G1, zsg) rfl ?_
    refine zle_I rfl (fun v2 F2 G2 => ?_)
    refine zle_many 1 (77, (bif zcmp .ne v2 0 then 21 else 18), [zR 71, zI a1, zI a2, zR 0], [], F2, G2, zsg) rfl ?_
    refine zle_ne (fun _ => ?_) (fun _ => ?_)
    · refine zle_many 1 (77, 20, [zR 71, zI a1, zI a2, zR 0], [zI (-2)], F2, G2, zsg) rfl ?_
      exact zle_ret rfl
    · refine zle_many 3 (77, (bif zcmp .ne a2 1 then 47 else 26), [zR 71, zI a1, zI a2, zR 0], [], F2, G2, zsg) rfl ?_
      refine zle_ne (fun _ => ?_) (fun _ => ?_)
      · refine zle_many 3 (77, 29, [zR 71, zI a1, zI a2, zR 0], [zI (-1), zI a1, zR 71], F2, G2, zsg) rfl ?_
        refine zle_I rfl (fun v3 F3 G3 => ?_)
        refine zle_many 2 (77, (bif zcmp .ne v3 (-1) then 44 else 36), [zR 71, zI a1, zI a2, zR 0], [], F3, G3, zsg) rfl ?_
        refine zle_ne (fun _ => ?_) (fun _ => ?_)
        · refine zle_many 2 (77, 38, [zR 71, zI a1, zI a2, zR 0], [zI a1, zR 71], F3, G3, zsg) rfl ?_
          refine zle_I rfl (fun v4 F4 G4 => ?_)
          refine zle_many 1 (77, (bif zcmp .eq v4 0 then 47 else 44), [zR 71, zI a1, zI a2, zR 0], [], F4, G4, zsg) rfl ?_
          refine zle_eq (fun _ => ?_) (fun _ => ?_)
          · refine zle_many 3 (77, 52, [zR 71, zI a1, zI a2, zR 0], [zI a1, zR 75], F4, G4, zsg) rfl ?_
            refine zle_bld rfl rfl rfl (fun _ => ?_)
            refine zle_many 1 (77, (bif zcmp .eq (F4 75 (Int.toNat a1)) 0 then 60 else 56), [zR 71, zI a1, zI a2, zR 0], [], F4, G4, zsg) rfl ?_
            refine zle_eq (fun _ => ?_) (fun _ => ?_)
            · refine zle_many 8 (77, (bif zcmp .ne a2 1 then 76 else 72), [zR 71, zI a1, zI a2, zI 0], [zI a1, zR 75], F4, G4, zsg) rfl ?_
              refine zle_ne (fun _ => ?_) (fun _ => ?_)
              · refine zle_many 2 (77, 77, [zR 71, zI a1, zI a2, zI 0], [zI 1, zI a1, zR 75], F4, G4, zsg) rfl ?_
                refine zle_bst rfl rfl rfl (by decide) (fun _ => ?_)
                refine zle_many 1 (77, 79, [zR 71, zI a1, zI a2, zI 0], [zI 0], (zup F4 75 (Int.toNat a1) 1), G4, zsg) rfl ?_
                exact zle_ret rfl
              · refine zle_many 1 (77, 77, [zR 71, zI a1, zI a2, zI 0], [zI 0, zI a1, zR 75], F4, G4, zsg) rfl ?_
                refine zle_bst rfl rfl rfl (by decide) (fun _ => ?_)
                refine zle_many 1 (77, 79, [zR 71, zI a1, zI a2, zI 0], [zI 0], (zup F4 75 (Int.toNat a1) 0), G4, zsg) rfl ?_
                exact zle_ret rfl
            · refine zle_many 9 (77, (bif zcmp .ne a2 1 then 76 else 72), [zR 71, zI a1, zI a2, zI 1], [zI a1, zR 75], F4, G4, zsg) rfl ?_
              refine zle_ne (fun _ => ?_) (fun _ => ?_)
              · refine zle_many 2 (77, 77, [zR 71, zI a1, zI a2, zI 1], [zI 1, zI a1, zR 75], F4, G4, zsg) rfl ?_
                refine zle_bst rfl rfl rfl (by decide) (fun _ => ?_)
                refine zle_many 1 (77, 79, [zR 71, zI a1, zI a2, zI 1], [zI 1], (zup F4 75 (Int.toNat a1) 1), G4, zsg) rfl ?_
                exact zle_ret rfl
              · refine zle_many 1 (77, 77, [zR 71, zI a1, zI a2, zI 1], [zI 0, zI a1, zR 75], F4, G4, zsg) rfl ?_
                refine zle_bst rfl rfl rfl (by decide) (fun _ => ?_)
                refine zle_many 1 (77, 79, [zR 71, zI a1, zI a2, zI 1], [zI 1], (zup F4 75 (Int.toNat a1) 0), G4, zsg) rfl ?_
                exact zle_ret rfl
          · refine zle_many 1 (77, 46, [zR 71, zI a1, zI a2, zR 0], [zI (-3)], F4, G4, zsg) rfl ?_
            exact zle_ret rfl
        · refine zle_many 1 (77, 46, [zR 71, zI a1, zI a2, zR 0], [zI (-3)], F3, G3, zsg) rfl ?_
          exact zle_ret rfl
      · refine zle_many 3 (77, 52, [zR 71, zI a1, zI a2, zR 0], [zI a1, zR 75], F2, G2, zsg) rfl ?_
        refine zle_bld rfl rfl rfl (fun _ => ?_)
        refine zle_many 1 (77, (bif zcmp .eq (F2 75 (Int.toNat a1)) 0 then 60 else 56), [zR 71, zI a1, zI a2, zR 0], [], F2, G2, zsg) rfl ?_
        refine zle_eq (fun _ => ?_) (fun _ => ?_)
        · refine zle_many 8 (77, (bif zcmp .ne a2 1 then 76 else 72), [zR 71, zI a1, zI a2, zI 0], [zI a1, zR 75], F2, G2, zsg) rfl ?_
          refine zle_ne (fun _ => ?_) (fun _ => ?_)
          · refine zle_many 2 (77, 77, [zR 71, zI a1, zI a2, zI 0], [zI 1, zI a1, zR 75], F2, G2, zsg) rfl ?_
            refine zle_bst rfl rfl rfl (by decide) (fun _ => ?_)
            refine zle_many 1 (77, 79, [zR 71, zI a1, zI a2, zI 0], [zI 0], (zup F2 75 (Int.toNat a1) 1), G2, zsg) rfl ?_
            exact zle_ret rfl
          · refine zle_many 1 (77, 77, [zR 71, zI a1, zI a2, zI 0], [zI 0, zI a1, zR 75], F2, G2, zsg) rfl ?_
            refine zle_bst rfl rfl rfl (by decide) (fun _ => ?_)
            refine zle_many 1 (77, 79, [zR 71, zI a1, zI a2, zI 0], [zI 0], (zup F2 75 (Int.toNat a1) 0), G2, zsg) rfl ?_
            exact zle_ret rfl
        · refine zle_many 9 (77, (bif zcmp .ne a2 1 then 76 else 72), [zR 71, zI a1, zI a2, zI 1], [zI a1, zR 75], F2, G2, zsg) rfl ?_
          refine zle_ne (fun _ => ?_) (fun _ => ?_)
          · refine zle_many 2 (77, 77, [zR 71, zI a1, zI a2, zI 1], [zI 1, zI a1, zR 75], F2, G2, zsg) rfl ?_
            refine zle_bst rfl rfl rfl (by decide) (fun _ => ?_)
            refine zle_many 1 (77, 79, [zR 71, zI a1, zI a2, zI 1], [zI 1], (zup F2 75 (Int.toNat a1) 1), G2, zsg) rfl ?_
            exact zle_ret rfl
          · refine zle_many 1 (77, 77, [zR 71, zI a1, zI a2, zI 1], [zI 0, zI a1, zR 75], F2, G2, zsg) rfl ?_
            refine zle_bst rfl rfl rfl (by decide) (fun _ => ?_)
            refine zle_many 1 (77, 79, [zR 71, zI a1, zI a2, zI 1], [zI 1], (zup F2 75 (Int.toNat a1) 0), G2, zsg) rfl ?_
            exact zle_ret rfl
set_option maxRecDepth 20000 in
theorem g_M_door {d : Nat} {F : zM} {G : zG} (a1 : Int) (a2 : Int) : zle (
  zbI (zex d 50 [zI a1] (F, G, zsg)) (fun v1 F1 G1 =>
  if v1 = 0 then
    some (some (zI (-1)), F1, G1, zsg)
  else
    if a2 = (-1) then
      if a2 = (-1) then
        if 0 ≤ a1 ∧ a1 < 64 then
          if (F1 75 (Int.toNat a1)) = 0 then
            zbI (zex d 59 [zR 71, zI a1, zI (-1)] (F1, G1, zsg)) (fun v2 F2 G2 =>
              if v2 = (-1) then
                zbI (zex d 76 [zR 71, zI a1] (F2, G2, zsg)) (fun v3 F3 G3 =>
                  if v3 = 0 then
                    if (F3 71 5) = 4 then
                      some (some (zI (-4)), F3, G3, zsg)
                    else
                      if 0 ≤ (F3 71 5) ∧ (F3 71 5) < 4 then
                        if 0 ≤ (F3 71 5) ∧ (F3 71 5) < 4 then
                        if 0 ≤ (zadd 24 (F3 71 5)) ∧ (zadd 24 (F3 71 5)) < 43 then
                        some (some (zI (zsub (zadd (F3 71 5) 1) 1)), (zup (zup (zup (zup F3 76 (Int.toNat (F3 71 5)) a1) 77 (Int.toNat (F3 71 5)) a2) 72 (Int.toNat (zadd 24 (F3 71 5))) 0) 71 5 (zadd (F3 71 5) 1)), G3, zsg)
                      else none
                      else none
                      else none
                  else
                    some (some (zI (-3)), F3, G3, zsg))
              else
                some (some (zI (-3)), F2, G2, zsg))
          else
            some (some (zI (-3)), F1, G1, zsg)
        else none
      else
        if 0 ≤ a2 ∧ a2 < 8 then
          if (F1 78 (Int.toNat a2)) = 3 then
            if 0 ≤ a1 ∧ a1 < 64 then
              if (F1 75 (Int.toNat a1)) = 0 then
                zbI (zex d 59 [zR 71, zI a1, zI (-1)] (F1, G1, zsg)) (fun v4 F4 G4 =>
                  if v4 = (-1) then
                    zbI (zex d 76 [zR 71, zI a1] (F4, G4, zsg)) (fun v5 F5 G5 =>
                      if v5 = 0 then
                        if (F5 71 5) = 4 then
                        some (some (zI (-4)), F5, G5, zsg)
                      else
                        if 0 ≤ (F5 71 5) ∧ (F5 71 5) < 4 then
                        if 0 ≤ (F5 71 5) ∧ (F5 71 5) < 4 then
                        if 0 ≤ (zadd 24 (F5 71 5)) ∧ (zadd 24 (F5 71 5)) < 43 then
                        some (some (zI (zsub (zadd (F5 71 5) 1) 1)), (zup (zup (zup (zup F5 76 (Int.toNat (F5 71 5)) a1) 77 (Int.toNat (F5 71 5)) a2) 72 (Int.toNat (zadd 24 (F5 71 5))) 0) 71 5 (zadd (F5 71 5) 1)), G5, zsg)
                      else none
                      else none
                      else none
                      else
                        some (some (zI (-3)), F5, G5, zsg))
                  else
                    some (some (zI (-3)), F4, G4, zsg))
              else
                some (some (zI (-3)), F1, G1, zsg)
            else none
          else
            some (some (zI (-13)), F1, G1, zsg)
        else none
    else
      zbI (zex d 51 [zR 71, zI a2] (F1, G1, zsg)) (fun v6 F6 G6 =>
        if v6 = 0 then
          some (some (zI (-1)), F6, G6, zsg)
        else
          if a2 = (-1) then
            if 0 ≤ a1 ∧ a1 < 64 then
              if (F6 75 (Int.toNat a1)) = 0 then
                zbI (zex d 59 [zR 71, zI a1, zI (-1)] (F6, G6, zsg)) (fun v7 F7 G7 =>
                  if v7 = (-1) then
                    zbI (zex d 76 [zR 71, zI a1] (F7, G7, zsg)) (fun v8 F8 G8 =>
                      if v8 = 0 then
                        if (F8 71 5) = 4 then
                        some (some (zI (-4)), F8, G8, zsg)
                      else
                        if 0 ≤ (F8 71 5) ∧ (F8 71 5) < 4 then
                        if 0 ≤ (F8 71 5) ∧ (F8 71 5) < 4 then
                        if 0 ≤ (zadd 24 (F8 71 5)) ∧ (zadd 24 (F8 71 5)) < 43 then
                        some (some (zI (zsub (zadd (F8 71 5) 1) 1)), (zup (zup (zup (zup F8 76 (Int.toNat (F8 71 5)) a1) 77 (Int.toNat (F8 71 5)) a2) 72 (Int.toNat (zadd 24 (F8 71 5))) 0) 71 5 (zadd (F8 71 5) 1)), G8, zsg)
                      else none
                      else none
                      else none
                      else
                        some (some (zI (-3)), F8, G8, zsg))
                  else
                    some (some (zI (-3)), F7, G7, zsg))
              else
                some (some (zI (-3)), F6, G6, zsg)
            else none
          else
            if 0 ≤ a2 ∧ a2 < 8 then
              if (F6 78 (Int.toNat a2)) = 3 then
                if 0 ≤ a1 ∧ a1 < 64 then
                  if (F6 75 (Int.toNat a1)) = 0 then
                    zbI (zex d 59 [zR 71, zI a1, zI (-1)] (F6, G6, zsg)) (fun v9 F9 G9 =>
                      if v9 = (-1) then
                        zbI (zex d 76 [zR 71, zI a1] (F9, G9, zsg)) (fun v10 F10 G10 =>
                        if v10 = 0 then
                        if (F10 71 5) = 4 then
                        some (some (zI (-4)), F10, G10, zsg)
                      else
                        if 0 ≤ (F10 71 5) ∧ (F10 71 5) < 4 then
                        if 0 ≤ (F10 71 5) ∧ (F10 71 5) < 4 then
                        if 0 ≤ (zadd 24 (F10 71 5)) ∧ (zadd 24 (F10 71 5)) < 43 then
                        some (some (zI (zsub (zadd (F10 71 5) 1) 1)), (zup (zup (zup (zup F10 76 (Int.toNat (F10 71 5)) a1) 77 (Int.toNat (F10 71 5)) a2) 72 (Int.toNat (zadd 24 (F10 71 5))) 0) 71 5 (zadd (F10 71 5) 1)), G10, zsg)
                      else none
                      else none
                      else none
                      else
                        some (some (zI (-3)), F10, G10, zsg))
                      else
                        some (some (zI (-3)), F9, G9, zsg))
                  else
                    some (some (zI (-3)), F6, G6, zsg)
                else none
              else
                some (some (zI (-13)), F6, G6, zsg)
            else none))) (zex (d + 1) 78 [zR 71, zI a1, zI a2] (F, G, zsg)) := by
  refine zle_ent (ls := [zR 71, zI a1, zI a2]) ?_
  refine zle_many 1 (78, 1, [zR 71, zI a1, zI a2], [zI a1], F, G, zsg) rfl ?_
  refine zle_I rfl (fun v1 F1 G1 => ?_)
  refine zle_many 1 (78, (bif zcmp .eq v1 0 then 20 else 7), [zR 71, zI a1, zI a2], [], F1, G1, zsg) rfl ?_
  refine zle_eq (fun _ => ?_) (fun _ => ?_)
  · refine zle_many 1 (78, 21, [zR 71, zI a1, zI a2], [zI (-1)], F1, G1, zsg) rfl ?_
    exact zle_ret rfl
  · refine zle_many 3 (78, (bif zcmp .eq a2 (-1) then 22 else 12), [zR 71, zI a1, zI a2], [], F1, G1, zsg) rfl ?_
    refine zle_eq (fun _ => ?_) (fun _ => ?_)
    · refine zle_many 3 (78, (bif zcmp .eq a2 (-1) then 40 else 27), [zR 71, zI a1, zI a2], [], F1, G1, zsg) rfl ?_
      refine zle_eq (fun _ => ?_) (fun _ => ?_)
      · refine zle_many 3 (78, 45, [zR 71, zI a1, zI a2], [zI a1, zR 75], F1, G1, zsg) rfl ?_
        refine zle_bld rfl rfl rfl (fun _ => ?_)
        refine zle_many 1 (78, (bif zcmp .ne (F1 75 (Int.toNat a1)) 0 then 67 else 49), [zR 71, zI a1, zI a2], [], F1, G1, zsg) rfl ?_
        refine zle_ne (fun _ => ?_) (fun _ => ?_)
        · refine zle_many 3 (78, 52, [zR 71, zI a1, zI a2], [zI (-1), zI a1, zR 71], F1, G1, zsg) rfl ?_
          refine zle_I rfl (fun v2 F2 G2 => ?_)
          refine zle_many 2 (78, (bif zcmp .ne v2 (-1) then 67 else 59), [zR 71, zI a1, zI a2], [], F2, G2, zsg) rfl ?_
          refine zle_ne (fun _ => ?_) (fun _ => ?_)
          · refine zle_many 2 (78, 61, [zR 71, zI a1, zI a2], [zI a1, zR 71], F2, G2, zsg) rfl ?_
            refine zle_I rfl (fun v3 F3 G3 => ?_)
            refine zle_many 1 (78, (bif zcmp .eq v3 0 then 70 else 67), [zR 71, zI a1, zI a2], [], F3, G3, zsg) rfl ?_
            refine zle_eq (fun _ => ?_) (fun _ => ?_)
            · refine zle_many 4 (78, (bif zcmp .ne (F3 71 5) 4 then 81 else 78), [zR 71, zI a1, zI a2], [], F3, G3, zsg) rfl ?_
              refine zle_ne (fun _ => ?_) (fun _ => ?_)
              · refine zle_many 1 (78, 80, [zR 71, zI a1, zI a2], [zI (-4)], F3, G3, zsg) rfl ?_
                exact zle_ret rfl
              · refine zle_many 5 (78, 90, [zR 71, zI a1, zI a2], [zI a1, zI (F3 71 5), zR 76], F3, G3, zsg) rfl ?_
                refine zle_ast rfl rfl rfl (fun _ => ?_)
                refine zle_many 5 (78, 100, [zR 71, zI a1, zI a2], [zI a2, zI (F3 71 5), zR 77], (zup F3 76 (Int.toNat (F3 71 5)) a1), G3, zsg) rfl ?_
                refine zle_ast rfl rfl rfl (fun _ => ?_)
                refine zle_many 7 (78, 113, [zR 71, zI a1, zI a2], [zI 0, zI (zadd 24 (F3 71 5)), zR 72], (zup (zup F3 76 (Int.toNat (F3 71 5)) a1) 77 (Int.toNat (F3 71 5)) a2), G3, zsg) rfl ?_
                refine zle_ast rfl rfl rfl (fun _ => ?_)
                refine zle_many 10 (78, 130, [zR 71, zI a1, zI a2], [zI (zsub (zadd (F3 71 5) 1) 1)], (zup (zup (zup (zup F3 76 (Int.toNat (F3 71 5)) a1) 77 (Int.toNat (F3 71 5)) a2) 72 (Int.toNat (zadd 24 (F3 71 5))) 0) 71 5 (zadd (F3 71 5) 1)), G3, zsg) rfl ?_
                exact zle_ret rfl
            · refine zle_many 1 (78, 69, [zR 71, zI a1, zI a2], [zI (-3)], F3, G3, zsg) rfl ?_
              exact zle_ret rfl
          · refine zle_many 1 (78, 69, [zR 71, zI a1, zI a2], [zI (-3)], F2, G2, zsg) rfl ?_
            exact zle_ret rfl
        · refine zle_many 1 (78, 69, [zR 71, zI a1, zI a2], [zI (-3)], F1, G1, zsg) rfl ?_
          exact zle_ret rfl
      · refine zle_many 3 (78, 32, [zR 71, zI a1, zI a2], [zI a2, zR 78], F1, G1, zsg) rfl ?_
        refine zle_ald rfl rfl rfl (fun _ => ?_)
        refine zle_many 2 (78, (bif zcmp .eq (F1 78 (Int.toNat a2)) 3 then 40 else 37), [zR 71, zI a1, zI a2], [], F1, G1, zsg) rfl ?_
        refine zle_eq (fun _ => ?_) (fun _ => ?_)
        · refine zle_many 3 (78, 45, [zR 71, zI a1, zI a2], [zI a1, zR 75], F1, G1, zsg) rfl ?_
          refine zle_bld rfl rfl rfl (fun _ => ?_)
          refine zle_many 1 (78, (bif zcmp .ne (F1 75 (Int.toNat a1)) 0 then 67 else 49), [zR 71, zI a1, zI a2], [], F1, G1, zsg) rfl ?_
          refine zle_ne (fun _ => ?_) (fun _ => ?_)
          · refine zle_many 3 (78, 52, [zR 71, zI a1, zI a2], [zI (-1), zI a1, zR 71], F1, G1, zsg) rfl ?_
            refine zle_I rfl (fun v4 F4 G4 => ?_)
            refine zle_many 2 (78, (bif zcmp .ne v4 (-1) then 67 else 59), [zR 71, zI a1, zI a2], [], F4, G4, zsg) rfl ?_
            refine zle_ne (fun _ => ?_) (fun _ => ?_)
            · refine zle_many 2 (78, 61, [zR 71, zI a1, zI a2], [zI a1, zR 71], F4, G4, zsg) rfl ?_
              refine zle_I rfl (fun v5 F5 G5 => ?_)
              refine zle_many 1 (78, (bif zcmp .eq v5 0 then 70 else 67), [zR 71, zI a1, zI a2], [], F5, G5, zsg) rfl ?_
              refine zle_eq (fun _ => ?_) (fun _ => ?_)
              · refine zle_many 4 (78, (bif zcmp .ne (F5 71 5) 4 then 81 else 78), [zR 71, zI a1, zI a2], [], F5, G5, zsg) rfl ?_
                refine zle_ne (fun _ => ?_) (fun _ => ?_)
                · refine zle_many 1 (78, 80, [zR 71, zI a1, zI a2], [zI (-4)], F5, G5, zsg) rfl ?_
                  exact zle_ret rfl
                · refine zle_many 5 (78, 90, [zR 71, zI a1, zI a2], [zI a1, zI (F5 71 5), zR 76], F5, G5, zsg) rfl ?_
                  refine zle_ast rfl rfl rfl (fun _ => ?_)
                  refine zle_many 5 (78, 100, [zR 71, zI a1, zI a2], [zI a2, zI (F5 71 5), zR 77], (zup F5 76 (Int.toNat (F5 71 5)) a1), G5, zsg) rfl ?_
                  refine zle_ast rfl rfl rfl (fun _ => ?_)
                  refine zle_many 7 (78, 113, [zR 71, zI a1, zI a2], [zI 0, zI (zadd 24 (F5 71 5)), zR 72], (zup (zup F5 76 (Int.toNat (F5 71 5)) a1) 77 (Int.toNat (F5 71 5)) a2), G5, zsg) rfl ?_
                  refine zle_ast rfl rfl rfl (fun _ => ?_)
                  refine zle_many 10 (78, 130, [zR 71, zI a1, zI a2], [zI (zsub (zadd (F5 71 5) 1) 1)], (zup (zup (zup (zup F5 76 (Int.toNat (F5 71 5)) a1) 77 (Int.toNat (F5 71 5)) a2) 72 (Int.toNat (zadd 24 (F5 71 5))) 0) 71 5 (zadd (F5 71 5) 1)), G5, zsg) rfl ?_
                  exact zle_ret rfl
              · refine zle_many 1 (78, 69, [zR 71, zI a1, zI a2], [zI (-3)], F5, G5, zsg) rfl ?_
                exact zle_ret rfl
            · refine zle_many 1 (78, 69, [zR 71, zI a1, zI a2], [zI (-3)], F4, G4, zsg) rfl ?_
              exact zle_ret rfl
          · refine zle_many 1 (78, 69, [zR 71, zI a1, zI a2], [zI (-3)], F1, G1, zsg) rfl ?_
            exact zle_ret rfl
        · refine zle_many 1 (78, 39, [zR 71, zI a1, zI a2], [zI (-13)], F1, G1, zsg) rfl ?_
          exact zle_ret rfl
    · refine zle_many 2 (78, 14, [zR 71, zI a1, zI a2], [zI a2, zR 71], F1, G1, zsg) rfl ?_
      refine zle_I rfl (fun v6 F6 G6 => ?_)
      refine zle_many 1 (78, (bif zcmp .ne v6 0 then 22 else 20), [zR 71, zI a1, zI a2], [], F6, G6, zsg) rfl ?_
      refine zle_ne (fun _ => ?_) (fun _ => ?_)
      · refine zle_many 1 (78, 21, [zR 71, zI a1, zI a2], [zI (-1)], F6, G6, zsg) rfl ?_
        exact zle_ret rfl
      · refine zle_many 3 (78, (bif zcmp .eq a2 (-1) then 40 else 27), [zR 71, zI a1, zI a2], [], F6, G6, zsg) rfl ?_
        refine zle_eq (fun _ => ?_) (fun _ => ?_)
        · refine zle_many 3 (78, 45, [zR 71, zI a1, zI a2], [zI a1, zR 75], F6, G6, zsg) rfl ?_
          refine zle_bld rfl rfl rfl (fun _ => ?_)
          refine zle_many 1 (78, (bif zcmp .ne (F6 75 (Int.toNat a1)) 0 then 67 else 49), [zR 71, zI a1, zI a2], [], F6, G6, zsg) rfl ?_
          refine zle_ne (fun _ => ?_) (fun _ => ?_)
          · refine zle_many 3 (78, 52, [zR 71, zI a1, zI a2], [zI (-1), zI a1, zR 71], F6, G6, zsg) rfl ?_
            refine zle_I rfl (fun v7 F7 G7 => ?_)
            refine zle_many 2 (78, (bif zcmp .ne v7 (-1) then 67 else 59), [zR 71, zI a1, zI a2], [], F7, G7, zsg) rfl ?_
            refine zle_ne (fun _ => ?_) (fun _ => ?_)
            · refine zle_many 2 (78, 61, [zR 71, zI a1, zI a2], [zI a1, zR 71], F7, G7, zsg) rfl ?_
              refine zle_I rfl (fun v8 F8 G8 => ?_)
              refine zle_many 1 (78, (bif zcmp .eq v8 0 then 70 else 67), [zR 71, zI a1, zI a2], [], F8, G8, zsg) rfl ?_
              refine zle_eq (fun _ => ?_) (fun _ => ?_)
              · refine zle_many 4 (78, (bif zcmp .ne (F8 71 5) 4 then 81 else 78), [zR 71, zI a1, zI a2], [], F8, G8, zsg) rfl ?_
                refine zle_ne (fun _ => ?_) (fun _ => ?_)
                · refine zle_many 1 (78, 80, [zR 71, zI a1, zI a2], [zI (-4)], F8, G8, zsg) rfl ?_
                  exact zle_ret rfl
                · refine zle_many 5 (78, 90, [zR 71, zI a1, zI a2], [zI a1, zI (F8 71 5), zR 76], F8, G8, zsg) rfl ?_
                  refine zle_ast rfl rfl rfl (fun _ => ?_)
                  refine zle_many 5 (78, 100, [zR 71, zI a1, zI a2], [zI a2, zI (F8 71 5), zR 77], (zup F8 76 (Int.toNat (F8 71 5)) a1), G8, zsg) rfl ?_
                  refine zle_ast rfl rfl rfl (fun _ => ?_)
                  refine zle_many 7 (78, 113, [zR 71, zI a1, zI a2], [zI 0, zI (zadd 24 (F8 71 5)), zR 72], (zup (zup F8 76 (Int.toNat (F8 71 5)) a1) 77 (Int.toNat (F8 71 5)) a2), G8, zsg) rfl ?_
                  refine zle_ast rfl rfl rfl (fun _ => ?_)
                  refine zle_many 10 (78, 130, [zR 71, zI a1, zI a2], [zI (zsub (zadd (F8 71 5) 1) 1)], (zup (zup (zup (zup F8 76 (Int.toNat (F8 71 5)) a1) 77 (Int.toNat (F8 71 5)) a2) 72 (Int.toNat (zadd 24 (F8 71 5))) 0) 71 5 (zadd (F8 71 5) 1)), G8, zsg) rfl ?_
                  exact zle_ret rfl
              · refine zle_many 1 (78, 69, [zR 71, zI a1, zI a2], [zI (-3)], F8, G8, zsg) rfl ?_
                exact zle_ret rfl
            · refine zle_many 1 (78, 69, [zR 71, zI a1, zI a2], [zI (-3)], F7, G7, zsg) rfl ?_
              exact zle_ret rfl
          · refine zle_many 1 (78, 69, [zR 71, zI a1, zI a2], [zI (-3)], F6, G6, zsg) rfl ?_
            exact zle_ret rfl
        · refine zle_many 3 (78, 32, [zR 71, zI a1, zI a2], [zI a2, zR 78], F6, G6, zsg) rfl ?_
          refine zle_ald rfl rfl rfl (fun _ => ?_)
          refine zle_many 2 (78, (bif zcmp .eq (F6 78 (Int.toNat a2)) 3 then 40 else 37), [zR 71, zI a1, zI a2], [], F6, G6, zsg) rfl ?_
          refine zle_eq (fun _ => ?_) (fun _ => ?_)
          · refine zle_many 3 (78, 45, [zR 71, zI a1, zI a2], [zI a1, zR 75], F6, G6, zsg) rfl ?_
            refine zle_bld rfl rfl rfl (fun _ => ?_)
            refine zle_many 1 (78, (bif zcmp .ne (F6 75 (Int.toNat a1)) 0 then 67 else 49), [zR 71, zI a1, zI a2], [], F6, G6, zsg) rfl ?_
            refine zle_ne (fun _ => ?_) (fun _ => ?_)
            · refine zle_many 3 (78, 52, [zR 71, zI a1, zI a2], [zI (-1), zI a1, zR 71], F6, G6, zsg) rfl ?_
              refine zle_I rfl (fun v9 F9 G9 => ?_)
              refine zle_many 2 (78, (bif zcmp .ne v9 (-1) then 67 else 59), [zR 71, zI a1, zI a2], [], F9, G9, zsg) rfl ?_
              refine zle_ne (fun _ => ?_) (fun _ => ?_)
              · refine zle_many 2 (78, 61, [zR 71, zI a1, zI a2], [zI a1, zR 71], F9, G9, zsg) rfl ?_
                refine zle_I rfl (fun v10 F10 G10 => ?_)
                refine zle_many 1 (78, (bif zcmp .eq v10 0 then 70 else 67), [zR 71, zI a1, zI a2], [], F10, G10, zsg) rfl ?_
                refine zle_eq (fun _ => ?_) (fun _ => ?_)
                · refine zle_many 4 (78, (bif zcmp .ne (F10 71 5) 4 then 81 else 78), [zR 71, zI a1, zI a2], [], F10, G10, zsg) rfl ?_
                  refine zle_ne (fun _ => ?_) (fun _ => ?_)
                  · refine zle_many 1 (78, 80, [zR 71, zI a1, zI a2], [zI (-4)], F10, G10, zsg) rfl ?_
                    exact zle_ret rfl
                  · refine zle_many 5 (78, 90, [zR 71, zI a1, zI a2], [zI a1, zI (F10 71 5), zR 76], F10, G10, zsg) rfl ?_
                    refine zle_ast rfl rfl rfl (fun _ => ?_)
                    refine zle_many 5 (78, 100, [zR 71, zI a1, zI a2], [zI a2, zI (F10 71 5), zR 77], (zup F10 76 (Int.toNat (F10 71 5)) a1), G10, zsg) rfl ?_
                    refine zle_ast rfl rfl rfl (fun _ => ?_)
                    refine zle_many 7 (78, 113, [zR 71, zI a1, zI a2], [zI 0, zI (zadd 24 (F10 71 5)), zR 72], (zup (zup F10 76 (Int.toNat (F10 71 5)) a1) 77 (Int.toNat (F10 71 5)) a2), G10, zsg) rfl ?_
                    refine zle_ast rfl rfl rfl (fun _ => ?_)
                    refine zle_many 10 (78, 130, [zR 71, zI a1, zI a2], [zI (zsub (zadd (F10 71 5) 1) 1)], (zup (zup (zup (zup F10 76 (Int.toNat (F10 71 5)) a1) 77 (Int.toNat (F10 71 5)) a2) 72 (Int.toNat (zadd 24 (F10 71 5))) 0) 71 5 (zadd (F10 71 5) 1)), G10, zsg) rfl ?_
                    exact zle_ret rfl
                · refine zle_many 1 (78, 69, [zR 71, zI a1, zI a2], [zI (-3)], F10, G10, zsg) rfl ?_
                  exact zle_ret rfl
              · refine zle_many 1 (78, 69, [zR 71, zI a1, zI a2], [zI (-3)], F9, G9, zsg) rfl ?_
                exact zle_ret rfl
            · refine zle_many 1 (78, 69, [zR 71, zI a1, zI a2], [zI (-3)], F6, G6, zsg) rfl ?_
              exact zle_ret rfl
          · refine zle_many 1 (78, 39, [zR 71, zI a1, zI a2], [zI (-13)], F6, G6, zsg) rfl ?_
            exact zle_ret rfl
set_option maxRecDepth 20000 in
theorem g_M_canLie {d : Nat} {F : zM} {G : zG} (a1 : Int) (a2 : Int) (a3 : Int) : zle (
  if 8 < (zadd (zrem a3 8) a2) then
  some (some (zI 0), F, G, zsg)
else
  zev zX0 d (79, 16, [zR 71, zI a1, zI a2, zI a3, zI 0], [], F, G, zsg)) (zex (d + 1) 79 [zR 71, zI a1, zI a2, zI a3] (F, G, zsg)) := by
  refine zle_ent (ls := [zR 71, zI a1, zI a2, zI a3, zR 0]) ?_
  refine zle_many 7 (79, (bif zcmp .le (zadd (zrem a3 8) a2) 8 then 13 else 11), [zR 71, zI a1, zI a2, zI a3, zR 0], [], F, G, zsg) rfl ?_
  refine zle_le (fun _ => ?_) (fun _ => ?_)
  · refine zle_many 1 (79, 12, [zR 71, zI a1, zI a2, zI a3, zR 0], [zI 0], F, G, zsg) rfl ?_
    exact zle_ret rfl
  · refine zle_many 2 (79, 16, [zR 71, zI a1, zI a2, zI a3, zI 0], [], F, G, zsg) rfl ?_
    exact zle_rfl
set_option maxRecDepth 20000 in
theorem g_M_canLie_16 {d : Nat} {F : zM} {G : zG} (l1 : Int) (l2 : Int) (l3 : Int) (l4 : Int) : zle (
  if l4 < l2 then
  if 0 ≤ (zadd l3 l4) ∧ (zadd l3 l4) < 64 then
    if (F 75 (Int.toNat (zadd l3 l4))) = 0 then
      zbI (zex d 58 [zR 71, zI (zadd l3 l4)] (F, G, zsg)) (fun v1 F1 G1 =>
        if v1 = 0 then
          zbI (zex d 59 [zR 71, zI (zadd l3 l4), zI l1] (F1, G1, zsg)) (fun v2 F2 G2 =>
            if v2 = (-1) then
              zbI (zex d 76 [zR 71, zI (zadd l3 l4)] (F2, G2, zsg)) (fun v3 F3 G3 =>
                if v3 = 0 then
                  zev zX0 d (79, 16, [zR 71, zI l1, zI l2, zI l3, zI (zadd l4 1)], [], F3, G3, zsg)
                else
                  some (some (zI 0), F3, G3, zsg))
            else
              some (some (zI 0), F2, G2, zsg))
        else
          some (some (zI 0), F1, G1, zsg))
    else
      some (some (zI 0), F, G, zsg)
  else none
else
  some (some (zI 1), F, G, zsg)) (zev zX0 d (79, 16, [zR 71, zI l1, zI l2, zI l3, zI l4], [], F, G, zsg)) := by
  refine zle_many 3 (79, (bif zcmp .ge l4 l2 then 77 else 22), [zR 71, zI l1, zI l2, zI l3, zI l4], [], F, G, zsg) rfl ?_
  refine zle_ge (fun _ => ?_) (fun _ => ?_)
  · refine zle_many 5 (79, 30, [zR 71, zI l1, zI l2, zI l3, zI l4], [zI (zadd l3 l4), zR 75], F, G, zsg) rfl ?_
    refine zle_bld rfl rfl rfl (fun _ => ?_)
    refine zle_many 1 (79, (bif zcmp .ne (F 75 (Int.toNat (zadd l3 l4))) 0 then 69 else 34), [zR 71, zI l1, zI l2, zI l3, zI l4], [], F, G, zsg) rfl ?_
    refine zle_ne (fun _ => ?_) (fun _ => ?_)
    · refine zle_many 4 (79, 39, [zR 71, zI l1, zI l2, zI l3, zI l4], [zI (zadd l3 l4), zR 71], F, G, zsg) rfl ?_
      refine zle_I rfl (fun v1 F1 G1 => ?_)
      refine zle_many 1 (79, (bif zcmp .ne v1 0 then 69 else 45), [zR 71, zI l1, zI l2, zI l3, zI l4], [], F1, G1, zsg) rfl ?_
      refine zle_ne (fun _ => ?_) (fun _ => ?_)
      · refine zle_many 5 (79, 51, [zR 71, zI l1, zI l2, zI l3, zI l4], [zI l1, zI (zadd l3 l4), zR 71], F1, G1, zsg) rfl ?_
        refine zle_I rfl (fun v2 F2 G2 => ?_)
        refine zle_many 2 (79, (bif zcmp .ne v2 (-1) then 69 else 58), [zR 71, zI l1, zI l2, zI l3, zI l4], [], F2, G2, zsg) rfl ?_
        refine zle_ne (fun _ => ?_) (fun _ => ?_)
        · refine zle_many 4 (79, 63, [zR 71, zI l1, zI l2, zI l3, zI l4], [zI (zadd l3 l4), zR 71], F2, G2, zsg) rfl ?_
          refine zle_I rfl (fun v3 F3 G3 => ?_)
          refine zle_many 1 (79, (bif zcmp .eq v3 0 then 71 else 69), [zR 71, zI l1, zI l2, zI l3, zI l4], [], F3, G3, zsg) rfl ?_
          refine zle_eq (fun _ => ?_) (fun _ => ?_)
          · refine zle_many 2 (79, 16, [zR 71, zI l1, zI l2, zI l3, zI (zadd l4 1)], [], F3, G3, zsg) rfl ?_
            exact zle_rfl
          · refine zle_many 1 (79, 70, [zR 71, zI l1, zI l2, zI l3, zI l4], [zI 0], F3, G3, zsg) rfl ?_
            exact zle_ret rfl
        · refine zle_many 1 (79, 70, [zR 71, zI l1, zI l2, zI l3, zI l4], [zI 0], F2, G2, zsg) rfl ?_
          exact zle_ret rfl
      · refine zle_many 1 (79, 70, [zR 71, zI l1, zI l2, zI l3, zI l4], [zI 0], F1, G1, zsg) rfl ?_
        exact zle_ret rfl
    · refine zle_many 1 (79, 70, [zR 71, zI l1, zI l2, zI l3, zI l4], [zI 0], F, G, zsg) rfl ?_
      exact zle_ret rfl
  · refine zle_many 1 (79, 78, [zR 71, zI l1, zI l2, zI l3, zI l4], [zI 1], F, G, zsg) rfl ?_
    exact zle_ret rfl
set_option maxRecDepth 20000 in
theorem g_M_thing {d : Nat} {F : zM} {G : zG} (a1 : Int) (a2 : Int) (a3 : Int) : zle (
  zbI (zex d 50 [zI a3] (F, G, zsg)) (fun v1 F1 G1 =>
  if v1 = 0 then
    some (some (zI (-1)), F1, G1, zsg)
  else
    zbI (zex d 49 [zI a1, zI 0, zI 5] (F1, G1, zsg)) (fun v2 F2 G2 =>
      if v2 = 0 then
        some (some (zI (-2)), F2, G2, zsg)
      else
        zbI (zex d 49 [zI a2, zI 1, zI 2] (F2, G2, zsg)) (fun v3 F3 G3 =>
          if v3 = 0 then
            some (some (zI (-2)), F3, G3, zsg)
          else
            zbI (zex d 79 [zR 71, zI (-1), zI a2, zI a3] (F3, G3, zsg)) (fun v4 F4 G4 =>
              if v4 = 0 then
                some (some (zI (-3)), F4, G4, zsg)
              else
                if (F4 71 8) = 8 then
                  some (some (zI (-4)), F4, G4, zsg)
                else
                  if 0 ≤ (F4 71 8) ∧ (F4 71 8) < 8 then
                    if 0 ≤ (F4 71 8) ∧ (F4 71 8) < 8 then
                      if 0 ≤ (zadd 0 (F4 71 8)) ∧ (zadd 0 (F4 71 8)) < 43 then
                        some (some (zI (zsub (zadd (F4 71 8) 1) 1)), (zup (zup (zup (zup F4 78 (Int.toNat (F4 71 8)) a1) 79 (Int.toNat (F4 71 8)) a2) 72 (Int.toNat (zadd 0 (F4 71 8))) a3) 71 8 (zadd (F4 71 8) 1)), G4, zsg)
                      else none
                    else none
                  else none))))) (zex (d + 1) 80 [zR 71, zI a1, zI a2, zI a3] (F, G, zsg)) := by
  refine zle_ent (ls := [zR 71, zI a1, zI a2, zI a3]) ?_
  refine zle_many 1 (80, 1, [zR 71, zI a1, zI a2, zI a3], [zI a3], F, G, zsg) rfl ?_
  refine zle_I rfl (fun v1 F1 G1 => ?_)
  refine zle_many 1 (80, (bif zcmp .ne v1 0 then 9 else 7), [zR 71, zI a1, zI a2, zI a3], [], F1, G1, zsg) rfl ?_
  refine zle_ne (fun _ => ?_) (fun _ => ?_)
  · refine zle_many 1 (80, 8, [zR 71, zI a1, zI a2, zI a3], [zI (-1)], F1, G1, zsg) rfl ?_
    exact zle_ret rfl
  · refine zle_many 3 (80, 12, [zR 71, zI a1, zI a2, zI a3], [zI 5, zI 0, zI a1], F1, G1, zsg) rfl ?_
    refine zle_I rfl (fun v2 F2 G2 => ?_)
    refine zle_many 1 (80, (bif zcmp .eq v2 0 then 27 else 18), [zR 71, zI a1, zI a2, zI a3], [], F2, G2, zsg) rfl ?_
    refine zle_eq (fun _ => ?_) (fun _ => ?_)
    · refine zle_many 1 (80, 29, [zR 71, zI a1, zI a2, zI a3], [zI (-2)], F2, G2, zsg) rfl ?_
      exact zle_ret rfl
    · refine zle_many 3 (80, 21, [zR 71, zI a1, zI a2, zI a3], [zI 2, zI 1, zI a2], F2, G2, zsg) rfl ?_
      refine zle_I rfl (fun v3 F3 G3 => ?_)
      refine zle_many 1 (80, (bif zcmp .ne v3 0 then 30 else 27), [zR 71, zI a1, zI a2, zI a3], [], F3, G3, zsg) rfl ?_
      refine zle_ne (fun _ => ?_) (fun _ => ?_)
      · refine zle_many 1 (80, 29, [zR 71, zI a1, zI a2, zI a3], [zI (-2)], F3, G3, zsg) rfl ?_
        exact zle_ret rfl
      · refine zle_many 4 (80, 34, [zR 71, zI a1, zI a2, zI a3], [zI a3, zI a2, zI (-1), zR 71], F3, G3, zsg) rfl ?_
        refine zle_I rfl (fun v4 F4 G4 => ?_)
        refine zle_many 1 (80, (bif zcmp .ne v4 0 then 43 else 40), [zR 71, zI a1, zI a2, zI a3], [], F4, G4, zsg) rfl ?_
        refine zle_ne (fun _ => ?_) (fun _ => ?_)
        · refine zle_many 1 (80, 42, [zR 71, zI a1, zI a2, zI a3], [zI (-3)], F4, G4, zsg) rfl ?_
          exact zle_ret rfl
        · refine zle_many 4 (80, (bif zcmp .ne (F4 71 8) 8 then 55 else 52), [zR 71, zI a1, zI a2, zI a3], [], F4, G4, zsg) rfl ?_
          refine zle_ne (fun _ => ?_) (fun _ => ?_)
          · refine zle_many 1 (80, 54, [zR 71, zI a1, zI a2, zI a3], [zI (-4)], F4, G4, zsg) rfl ?_
            exact zle_ret rfl
          · refine zle_many 5 (80, 64, [zR 71, zI a1, zI a2, zI a3], [zI a1, zI (F4 71 8), zR 78], F4, G4, zsg) rfl ?_
            refine zle_ast rfl rfl rfl (fun _ => ?_)
            refine zle_many 5 (80, 74, [zR 71, zI a1, zI a2, zI a3], [zI a2, zI (F4 71 8), zR 79], (zup F4 78 (Int.toNat (F4 71 8)) a1), G4, zsg) rfl ?_
            refine zle_ast rfl rfl rfl (fun _ => ?_)
            refine zle_many 7 (80, 86, [zR 71, zI a1, zI a2, zI a3], [zI a3, zI (zadd 0 (F4 71 8)), zR 72], (zup (zup F4 78 (Int.toNat (F4 71 8)) a1) 79 (Int.toNat (F4 71 8)) a2), G4, zsg) rfl ?_
            refine zle_ast rfl rfl rfl (fun _ => ?_)
            refine zle_many 10 (80, 103, [zR 71, zI a1, zI a2, zI a3], [zI (zsub (zadd (F4 71 8) 1) 1)], (zup (zup (zup (zup F4 78 (Int.toNat (F4 71 8)) a1) 79 (Int.toNat (F4 71 8)) a2) 72 (Int.toNat (zadd 0 (F4 71 8))) a3) 71 8 (zadd (F4 71 8) 1)), G4, zsg) rfl ?_
            exact zle_ret rfl
set_option maxRecDepth 20000 in
theorem g_M_hand {d : Nat} {F : zM} {G : zG} (a1 : Int) (a2 : Int) : zle (
  zbI (zex d 52 [zI a1] (F, G, zsg)) (fun v1 F1 G1 =>
  if v1 = 0 then
    some (some (zI (-5)), F1, G1, zsg)
  else
    zbI (zex d 50 [zI a2] (F1, G1, zsg)) (fun v2 F2 G2 =>
      if v2 = 0 then
        some (some (zI (-5)), F2, G2, zsg)
      else
        if 0 ≤ (zadd 30 a1) ∧ (zadd 30 a1) < 43 then
          if (F2 72 (Int.toNat (zadd 30 a1))) = (-1) then
            zbI (zex d 60 [zR 71, zI a1, zI a2, zI (-1)] (F2, G2, zsg)) (fun v3 F3 G3 =>
              if v3 = 0 then
                some (some (zI (-3)), F3, G3, zsg)
              else
                if 0 ≤ (zadd 28 a1) ∧ (zadd 28 a1) < 43 then
                  if 0 ≤ (zadd 28 a1) ∧ (zadd 28 a1) < 43 then
                    some (some (zI (F3 72 (Int.toNat (zadd 28 a1)))), (zup F3 72 (Int.toNat (zadd 28 a1)) a2), G3, zsg)
                  else none
                else none)
          else
            some (some (zI (-3)), F2, G2, zsg)
        else none))) (zex (d + 1) 81 [zR 71, zI a1, zI a2] (F, G, zsg)) := by
  refine zle_ent (ls := [zR 71, zI a1, zI a2, zR 0]) ?_
  refine zle_many 1 (81, 1, [zR 71, zI a1, zI a2, zR 0], [zI a1], F, G, zsg) rfl ?_
  refine zle_I rfl (fun v1 F1 G1 => ?_)
  refine zle_many 1 (81, (bif zcmp .eq v1 0 then 14 else 7), [zR 71, zI a1, zI a2, zR 0], [], F1, G1, zsg) rfl ?_
  refine zle_eq (fun _ => ?_) (fun _ => ?_)
  · refine zle_many 1 (81, 16, [zR 71, zI a1, zI a2, zR 0], [zI (-5)], F1, G1, zsg) rfl ?_
    exact zle_ret rfl
  · refine zle_many 1 (81, 8, [zR 71, zI a1, zI a2, zR 0], [zI a2], F1, G1, zsg) rfl ?_
    refine zle_I rfl (fun v2 F2 G2 => ?_)
    refine zle_many 1 (81, (bif zcmp .ne v2 0 then 17 else 14), [zR 71, zI a1, zI a2, zR 0], [], F2, G2, zsg) rfl ?_
    refine zle_ne (fun _ => ?_) (fun _ => ?_)
    · refine zle_many 1 (81, 16, [zR 71, zI a1, zI a2, zR 0], [zI (-5)], F2, G2, zsg) rfl ?_
      exact zle_ret rfl
    · refine zle_many 5 (81, 25, [zR 71, zI a1, zI a2, zR 0], [zI (zadd 30 a1), zR 72], F2, G2, zsg) rfl ?_
      refine zle_ald rfl rfl rfl (fun _ => ?_)
      refine zle_many 2 (81, (bif zcmp .ne (F2 72 (Int.toNat (zadd 30 a1))) (-1) then 40 else 30), [zR 71, zI a1, zI a2, zR 0], [], F2, G2, zsg) rfl ?_
      refine zle_ne (fun _ => ?_) (fun _ => ?_)
      · refine zle_many 4 (81, 34, [zR 71, zI a1, zI a2, zR 0], [zI (-1), zI a2, zI a1, zR 71], F2, G2, zsg) rfl ?_
        refine zle_I rfl (fun v3 F3 G3 => ?_)
        refine zle_many 1 (81, (bif zcmp .ne v3 0 then 43 else 40), [zR 71, zI a1, zI a2, zR 0], [], F3, G3, zsg) rfl ?_
        refine zle_ne (fun _ => ?_) (fun _ => ?_)
        · refine zle_many 1 (81, 42, [zR 71, zI a1, zI a2, zR 0], [zI (-3)], F3, G3, zsg) rfl ?_
          exact zle_ret rfl
        · refine zle_many 5 (81, 51, [zR 71, zI a1, zI a2, zR 0], [zI (zadd 28 a1), zR 72], F3, G3, zsg) rfl ?_
          refine zle_ald rfl rfl rfl (fun _ => ?_)
          refine zle_many 7 (81, 62, [zR 71, zI a1, zI a2, zI (F3 72 (Int.toNat (zadd 28 a1)))], [zI a2, zI (zadd 28 a1), zR 72], F3, G3, zsg) rfl ?_
          refine zle_ast rfl rfl rfl (fun _ => ?_)
          refine zle_many 1 (81, 64, [zR 71, zI a1, zI a2, zI (F3 72 (Int.toNat (zadd 28 a1)))], [zI (F3 72 (Int.toNat (zadd 28 a1)))], (zup F3 72 (Int.toNat (zadd 28 a1)) a2), G3, zsg) rfl ?_
          exact zle_ret rfl
      · refine zle_many 1 (81, 42, [zR 71, zI a1, zI a2, zR 0], [zI (-3)], F2, G2, zsg) rfl ?_
        exact zle_ret rfl
set_option maxRecDepth 20000 in
theorem g_M_strong {d : Nat} {F : zM} {G : zG} (a1 : Int) : zle (
  zbI (zex d 49 [zI a1, zI 1, zI 99] (F, G, zsg)) (fun v1 F1 G1 =>
  if v1 = 0 then
    some (some (zI (-2)), F1, G1, zsg)
  else
    some (some (zI (F1 71 11)), (zup F1 71 11 a1), G1, zsg))) (zex (d + 1) 82 [zR 71, zI a1] (F, G, zsg)) := by
  refine zle_ent (ls := [zR 71, zI a1, zR 0]) ?_
  refine zle_many 3 (82, 4, [zR 71, zI a1, zR 0], [zI 99, zI 1, zI a1], F, G, zsg) rfl ?_
  refine zle_I rfl (fun v1 F1 G1 => ?_)
  refine zle_many 1 (82, (bif zcmp .ne v1 0 then 13 else 10), [zR 71, zI a1, zR 0], [], F1, G1, zsg) rfl ?_
  refine zle_ne (fun _ => ?_) (fun _ => ?_)
  · refine zle_many 1 (82, 12, [zR 71, zI a1, zR 0], [zI (-2)], F1, G1, zsg) rfl ?_
    exact zle_ret rfl
  · refine zle_many 7 (82, 24, [zR 71, zI a1, zI (F1 71 11)], [zI (F1 71 11)], (zup F1 71 11 a1), G1, zsg) rfl ?_
    exact zle_ret rfl
set_option maxRecDepth 20000 in
theorem g_M_comesTo {d : Nat} {F : zM} {G : zG} (a1 : Int) (a2 : Int) : zle (
  if 0 ≤ (zadd 28 a1) ∧ (zadd 28 a1) < 43 then
  if 0 ≤ (zadd 30 a1) ∧ (zadd 30 a1) < 43 then
    if ((zup F 72 (Int.toNat (zadd 28 a1)) a2) 72 (Int.toNat (zadd 30 a1))) = (-1) then
      some (none, (zup F 72 (Int.toNat (zadd 28 a1)) a2), G, zsg)
    else
      if 0 ≤ (zadd 16 ((zup F 72 (Int.toNat (zadd 28 a1)) a2) 72 (Int.toNat (zadd 30 a1)))) ∧ (zadd 16 ((zup F 72 (Int.toNat (zadd 28 a1)) a2) 72 (Int.toNat (zadd 30 a1)))) < 43 then
        if 0 ≤ ((zup F 72 (Int.toNat (zadd 28 a1)) a2) 72 (Int.toNat (zadd 30 a1))) ∧ ((zup F 72 (Int.toNat (zadd 28 a1)) a2) 72 (Int.toNat (zadd 30 a1))) < 8 then
          zbI (zex d 63 [zI a2, zI ((zup F 72 (Int.toNat (zadd 28 a1)) a2) 72 (Int.toNat (zadd 16 ((zup F 72 (Int.toNat (zadd 28 a1)) a2) 72 (Int.toNat (zadd 30 a1)))))), zI (F 79 (Int.toNat ((zup F 72 (Int.toNat (zadd 28 a1)) a2) 72 (Int.toNat (zadd 30 a1)))))] ((zup F 72 (Int.toNat (zadd 28 a1)) a2), G, zsg)) (fun v1 F1 G1 =>
            if 0 ≤ (zadd 0 ((zup F 72 (Int.toNat (zadd 28 a1)) a2) 72 (Int.toNat (zadd 30 a1)))) ∧ (zadd 0 ((zup F 72 (Int.toNat (zadd 28 a1)) a2) 72 (Int.toNat (zadd 30 a1)))) < 43 then
              some (none, (zup F1 72 (Int.toNat (zadd 0 ((zup F 72 (Int.toNat (zadd 28 a1)) a2) 72 (Int.toNat (zadd 30 a1))))) v1), G1, zsg)
            else none)
        else none
      else none
  else none
else none) (zex (d + 1) 83 [zR 71, zI a1, zI a2] (F, G, zsg)) := by
  refine zle_ent (ls := [zR 71, zI a1, zI a2, zR 0]) ?_
  refine zle_many 6 (83, 9, [zR 71, zI a1, zI a2, zR 0], [zI a2, zI (zadd 28 a1), zR 72], F, G, zsg) rfl ?_
  refine zle_ast rfl rfl rfl (fun _ => ?_)
  refine zle_many 5 (83, 18, [zR 71, zI a1, zI a2, zR 0], [zI (zadd 30 a1), zR 72], (zup F 72 (Int.toNat (zadd 28 a1)) a2), G, zsg) rfl ?_
  refine zle_ald rfl rfl rfl (fun _ => ?_)
  refine zle_many 4 (83, (bif zcmp .eq ((zup F 72 (Int.toNat (zadd 28 a1)) a2) 72 (Int.toNat (zadd 30 a1))) (-1) then 52 else 25), [zR 71, zI a1, zI a2, zI ((zup F 72 (Int.toNat (zadd 28 a1)) a2) 72 (Int.toNat (zadd 30 a1)))], [], (zup F 72 (Int.toNat (zadd 28 a1)) a2), G, zsg) rfl ?_
  refine zle_eq (fun _ => ?_) (fun _ => ?_)
  · exact zle_ret rfl
  · refine zle_many 11 (83, 41, [zR 71, zI a1, zI a2, zI ((zup F 72 (Int.toNat (zadd 28 a1)) a2) 72 (Int.toNat (zadd 30 a1)))], [zI (zadd 16 ((zup F 72 (Int.toNat (zadd 28 a1)) a2) 72 (Int.toNat (zadd 30 a1)))), zR 72, zI a2, zI (zadd 0 ((zup F 72 (Int.toNat (zadd 28 a1)) a2) 72 (Int.toNat (zadd 30 a1)))), zR 72], (zup F 72 (Int.toNat (zadd 28 a1)) a2), G, zsg) rfl ?_
    refine zle_ald rfl rfl rfl (fun _ => ?_)
    refine zle_many 3 (83, 47, [zR 71, zI a1, zI a2, zI ((zup F 72 (Int.toNat (zadd 28 a1)) a2) 72 (Int.toNat (zadd 30 a1)))], [zI ((zup F 72 (Int.toNat (zadd 28 a1)) a2) 72 (Int.toNat (zadd 30 a1))), zR 79, zI ((zup F 72 (Int.toNat (zadd 28 a1)) a2) 72 (Int.toNat (zadd 16 ((zup F 72 (Int.toNat (zadd 28 a1)) a2) 72 (Int.toNat (zadd 30 a1)))))), zI a2, zI (zadd 0 ((zup F 72 (Int.toNat (zadd 28 a1)) a2) 72 (Int.toNat (zadd 30 a1)))), zR 72], (zup F 72 (Int.toNat (zadd 28 a1)) a2), G, zsg) rfl ?_
    refine zle_ald rfl rfl rfl (fun _ => ?_)
    refine zle_many 0 (83, 48, [zR 71, zI a1, zI a2, zI ((zup F 72 (Int.toNat (zadd 28 a1)) a2) 72 (Int.toNat (zadd 30 a1)))], [zI (F 79 (Int.toNat ((zup F 72 (Int.toNat (zadd 28 a1)) a2) 72 (Int.toNat (zadd 30 a1))))), zI ((zup F 72 (Int.toNat (zadd 28 a1)) a2) 72 (Int.toNat (zadd 16 ((zup F 72 (Int.toNat (zadd 28 a1)) a2) 72 (Int.toNat (zadd 30 a1)))))), zI a2, zI (zadd 0 ((zup F 72 (Int.toNat (zadd 28 a1)) a2) 72 (Int.toNat (zadd 30 a1)))), zR 72], (zup F 72 (Int.toNat (zadd 28 a1)) a2), G, zsg) rfl ?_
    refine zle_I rfl (fun v1 F1 G1 => ?_)
    refine zle_ast rfl rfl rfl (fun _ => ?_)
    exact zle_ret rfl
set_option maxRecDepth 20000 in
theorem g_M_goes {d : Nat} {F : zM} {G : zG} (a1 : Int) (a2 : Int) : zle (
  if 0 ≤ (zadd 28 a1) ∧ (zadd 28 a1) < 43 then
  if (F 72 (Int.toNat (zadd 28 a1))) = (-1) then
    some (some (zI 1), F, G, zsg)
  else
    zbV (zex d 67 [zR 71, zI a1] (F, G, zsg)) (fun F1 G1 =>
      if 0 ≤ a2 ∧ a2 < 64 then
        if (F1 99 (Int.toNat a2)) = 1000 then
          some (some (zI 4), F1, G1, zsg)
        else
          if 0 ≤ (zadd 32 a1) ∧ (zadd 32 a1) < 43 then
            if 0 ≤ a2 ∧ a2 < 64 then
              if 0 ≤ (zadd 32 a1) ∧ (zadd 32 a1) < 43 then
                zbV (zex d 83 [zR 71, zI a1, zI a2] ((zup F1 72 (Int.toNat (zadd 32 a1)) (zadd (F1 72 (Int.toNat (zadd 32 a1))) (F1 99 (Int.toNat a2)))), G1, zsg)) (fun F2 G2 =>
                  some (some (zI 0), F2, G2, zsg))
              else none
            else none
          else none
      else none)
else none) (zex (d + 1) 84 [zR 71, zI a1, zI a2] (F, G, zsg)) := by
  refine zle_ent (ls := [zR 71, zI a1, zI a2]) ?_
  refine zle_many 5 (84, 8, [zR 71, zI a1, zI a2], [zI (zadd 28 a1), zR 72], F, G, zsg) rfl ?_
  refine zle_ald rfl rfl rfl (fun _ => ?_)
  refine zle_many 2 (84, (bif zcmp .ne (F 72 (Int.toNat (zadd 28 a1))) (-1) then 15 else 13), [zR 71, zI a1, zI a2], [], F, G, zsg) rfl ?_
  refine zle_ne (fun _ => ?_) (fun _ => ?_)
  · refine zle_many 1 (84, 14, [zR 71, zI a1, zI a2], [zI 1], F, G, zsg) rfl ?_
    exact zle_ret rfl
  · refine zle_many 2 (84, 17, [zR 71, zI a1, zI a2], [zI a1, zR 71], F, G, zsg) rfl ?_
    refine zle_V rfl (fun F1 G1 => ?_)
    refine zle_many 3 (84, 25, [zR 71, zI a1, zI a2], [zI a2, zR 99], F1, G1, zsg) rfl ?_
    refine zle_ald rfl rfl rfl (fun _ => ?_)
    refine zle_many 2 (84, (bif zcmp .ne (F1 99 (Int.toNat a2)) 1000 then 34 else 32), [zR 71, zI a1, zI a2], [], F1, G1, zsg) rfl ?_
    refine zle_ne (fun _ => ?_) (fun _ => ?_)
    · refine zle_many 1 (84, 33, [zR 71, zI a1, zI a2], [zI 4], F1, G1, zsg) rfl ?_
      exact zle_ret rfl
    · refine zle_many 6 (84, 43, [zR 71, zI a1, zI a2], [zI (zadd 32 a1), zR 72, zI (zadd 32 a1), zR 72], F1, G1, zsg) rfl ?_
      refine zle_ald rfl rfl rfl (fun _ => ?_)
      refine zle_many 3 (84, 49, [zR 71, zI a1, zI a2], [zI a2, zR 99, zI (F1 72 (Int.toNat (zadd 32 a1))), zI (zadd 32 a1), zR 72], F1, G1, zsg) rfl ?_
      refine zle_ald rfl rfl rfl (fun _ => ?_)
      refine zle_many 1 (84, 51, [zR 71, zI a1, zI a2], [zI (zadd (F1 72 (Int.toNat (zadd 32 a1))) (F1 99 (Int.toNat a2))), zI (zadd 32 a1), zR 72], F1, G1, zsg) rfl ?_
      refine zle_ast rfl rfl rfl (fun _ => ?_)
      refine zle_many 3 (84, 55, [zR 71, zI a1, zI a2], [zI a2, zI a1, zR 71], (zup F1 72 (Int.toNat (zadd 32 a1)) (zadd (F1 72 (Int.toNat (zadd 32 a1))) (F1 99 (Int.toNat a2)))), G1, zsg) rfl ?_
      refine zle_V rfl (fun F2 G2 => ?_)
      refine zle_many 1 (84, 59, [zR 71, zI a1, zI a2], [zI 0], F2, G2, zsg) rfl ?_
      exact zle_ret rfl
set_option maxRecDepth 20000 in
theorem g_M_takes {d : Nat} {F : zM} {G : zG} (a1 : Int) (a2 : Int) (a3 : Int) : zle (
  if 0 ≤ (zadd 28 a1) ∧ (zadd 28 a1) < 43 then
  if (F 72 (Int.toNat (zadd 28 a1))) = (-1) then
    some (some (zI 1), F, G, zsg)
  else
    if 0 ≤ (zadd 30 a1) ∧ (zadd 30 a1) < 43 then
      if (F 72 (Int.toNat (zadd 30 a1))) = (-1) then
        zbI (zex d 51 [zR 71, zI a2] (F, G, zsg)) (fun v1 F1 G1 =>
          if v1 = 0 then
            some (some (zI 1), F1, G1, zsg)
          else
            if 0 ≤ (zadd 0 a2) ∧ (zadd 0 a2) < 43 then
              if (F1 72 (Int.toNat (zadd 0 a2))) = (-1) then
                some (some (zI 1), F1, G1, zsg)
              else
                if 0 ≤ (zadd 8 a2) ∧ (zadd 8 a2) < 43 then
                  if (F1 72 (Int.toNat (zadd 8 a2))) = (-1) then
                    if 0 ≤ a2 ∧ a2 < 8 then
                      zbI (zex d 54 [zI (F1 78 (Int.toNat a2))] (F1, G1, zsg)) (fun v2 F2 G2 =>
                        if (zand (zshr v2 a3) 1) = 0 then
                        some (some (zI 2), F2, G2, zsg)
                      else
                        if 0 ≤ a2 ∧ a2 < 8 then
                        if 0 ≤ a2 ∧ a2 < 8 then
                        zbI (zex d 55 [zI (F2 78 (Int.toNat a2)), zI (F2 79 (Int.toNat a2))] (F2, G2, zsg)) (fun v3 F3 G3 =>
                        if (F3 71 11) < v3 then
                        some (some (zI 3), F3, G3, zsg)
                      else
                        if 0 ≤ (zadd 28 a1) ∧ (zadd 28 a1) < 43 then
                        if 0 ≤ a2 ∧ a2 < 8 then
                        zbI (zex d 63 [zI (F3 72 (Int.toNat (zadd 28 a1))), zI a3, zI (F3 79 (Int.toNat a2))] (F3, G3, zsg)) (fun v4 F4 G4 =>
                        if 0 ≤ (zadd 0 a2) ∧ (zadd 0 a2) < 43 then
                        if v4 = (F4 72 (Int.toNat (zadd 0 a2))) then
                        if 0 ≤ (zadd 8 a2) ∧ (zadd 8 a2) < 43 then
                        if 0 ≤ (zadd 16 a2) ∧ (zadd 16 a2) < 43 then
                        if 0 ≤ (zadd 30 a1) ∧ (zadd 30 a1) < 43 then
                        some (some (zI 0), (zup (zup (zup F4 72 (Int.toNat (zadd 8 a2)) a1) 72 (Int.toNat (zadd 16 a2)) a3) 72 (Int.toNat (zadd 30 a1)) a2), G4, zsg)
                      else none
                      else none
                      else none
                      else
                        some (some (zI 7), F4, G4, zsg)
                      else none)
                      else none
                      else none)
                      else none
                      else none)
                    else none
                  else
                    some (some (zI 1), F1, G1, zsg)
                else none
            else none)
      else
        some (some (zI 1), F, G, zsg)
    else none
else none) (zex (d + 1) 85 [zR 71, zI a1, zI a2, zI a3] (F, G, zsg)) := by
  refine zle_ent (ls := [zR 71, zI a1, zI a2, zI a3]) ?_
  refine zle_many 5 (85, 8, [zR 71, zI a1, zI a2, zI a3], [zI (zadd 28 a1), zR 72], F, G, zsg) rfl ?_
  refine zle_ald rfl rfl rfl (fun _ => ?_)
  refine zle_many 2 (85, (bif zcmp .eq (F 72 (Int.toNat (zadd 28 a1))) (-1) then 34 else 13), [zR 71, zI a1, zI a2, zI a3], [], F, G, zsg) rfl ?_
  refine zle_eq (fun _ => ?_) (fun _ => ?_)
  · refine zle_many 1 (85, 35, [zR 71, zI a1, zI a2, zI a3], [zI 1], F, G, zsg) rfl ?_
    exact zle_ret rfl
  · refine zle_many 5 (85, 21, [zR 71, zI a1, zI a2, zI a3], [zI (zadd 30 a1), zR 72], F, G, zsg) rfl ?_
    refine zle_ald rfl rfl rfl (fun _ => ?_)
    refine zle_many 2 (85, (bif zcmp .ne (F 72 (Int.toNat (zadd 30 a1))) (-1) then 34 else 26), [zR 71, zI a1, zI a2, zI a3], [], F, G, zsg) rfl ?_
    refine zle_ne (fun _ => ?_) (fun _ => ?_)
    · refine zle_many 2 (85, 28, [zR 71, zI a1, zI a2, zI a3], [zI a2, zR 71], F, G, zsg) rfl ?_
      refine zle_I rfl (fun v1 F1 G1 => ?_)
      refine zle_many 1 (85, (bif zcmp .ne v1 0 then 36 else 34), [zR 71, zI a1, zI a2, zI a3], [], F1, G1, zsg) rfl ?_
      refine zle_ne (fun _ => ?_) (fun _ => ?_)
      · refine zle_many 1 (85, 35, [zR 71, zI a1, zI a2, zI a3], [zI 1], F1, G1, zsg) rfl ?_
        exact zle_ret rfl
      · refine zle_many 5 (85, 43, [zR 71, zI a1, zI a2, zI a3], [zI (zadd 0 a2), zR 72], F1, G1, zsg) rfl ?_
        refine zle_ald rfl rfl rfl (fun _ => ?_)
        refine zle_many 2 (85, (bif zcmp .eq (F1 72 (Int.toNat (zadd 0 a2))) (-1) then 61 else 48), [zR 71, zI a1, zI a2, zI a3], [], F1, G1, zsg) rfl ?_
        refine zle_eq (fun _ => ?_) (fun _ => ?_)
        · refine zle_many 1 (85, 62, [zR 71, zI a1, zI a2, zI a3], [zI 1], F1, G1, zsg) rfl ?_
          exact zle_ret rfl
        · refine zle_many 5 (85, 56, [zR 71, zI a1, zI a2, zI a3], [zI (zadd 8 a2), zR 72], F1, G1, zsg) rfl ?_
          refine zle_ald rfl rfl rfl (fun _ => ?_)
          refine zle_many 2 (85, (bif zcmp .eq (F1 72 (Int.toNat (zadd 8 a2))) (-1) then 63 else 61), [zR 71, zI a1, zI a2, zI a3], [], F1, G1, zsg) rfl ?_
          refine zle_eq (fun _ => ?_) (fun _ => ?_)
          · refine zle_many 3 (85, 68, [zR 71, zI a1, zI a2, zI a3], [zI a2, zR 78], F1, G1, zsg) rfl ?_
            refine zle_ald rfl rfl rfl (fun _ => ?_)
            refine zle_I rfl (fun v2 F2 G2 => ?_)
            refine zle_many 5 (85, (bif zcmp .ne (zand (zshr v2 a3) 1) 0 then 81 else 79), [zR 71, zI a1, zI a2, zI a3], [], F2, G2, zsg) rfl ?_
            refine zle_ne (fun _ => ?_) (fun _ => ?_)
            · refine zle_many 1 (85, 80, [zR 71, zI a1, zI a2, zI a3], [zI 2], F2, G2, zsg) rfl ?_
              exact zle_ret rfl
            · refine zle_many 3 (85, 86, [zR 71, zI a1, zI a2, zI a3], [zI a2, zR 78], F2, G2, zsg) rfl ?_
              refine zle_ald rfl rfl rfl (fun _ => ?_)
              refine zle_many 3 (85, 92, [zR 71, zI a1, zI a2, zI a3], [zI a2, zR 79, zI (F2 78 (Int.toNat a2))], F2, G2, zsg) rfl ?_
              refine zle_ald rfl rfl rfl (fun _ => ?_)
              refine zle_I rfl (fun v3 F3 G3 => ?_)
              refine zle_many 3 (85, (bif zcmp .le v3 (F3 71 11) then 105 else 103), [zR 71, zI a1, zI a2, zI a3], [], F3, G3, zsg) rfl ?_
              refine zle_le (fun _ => ?_) (fun _ => ?_)
              · refine zle_many 1 (85, 104, [zR 71, zI a1, zI a2, zI a3], [zI 3], F3, G3, zsg) rfl ?_
                exact zle_ret rfl
              · refine zle_many 5 (85, 113, [zR 71, zI a1, zI a2, zI a3], [zI (zadd 28 a1), zR 72], F3, G3, zsg) rfl ?_
                refine zle_ald rfl rfl rfl (fun _ => ?_)
                refine zle_many 4 (85, 120, [zR 71, zI a1, zI a2, zI a3], [zI a2, zR 79, zI a3, zI (F3 72 (Int.toNat (zadd 28 a1)))], F3, G3, zsg) rfl ?_
                refine zle_ald rfl rfl rfl (fun _ => ?_)
                refine zle_I rfl (fun v4 F4 G4 => ?_)
                refine zle_many 5 (85, 131, [zR 71, zI a1, zI a2, zI a3], [zI (zadd 0 a2), zR 72, zI v4], F4, G4, zsg) rfl ?_
                refine zle_ald rfl rfl rfl (fun _ => ?_)
                refine zle_many 1 (85, (bif zcmp .eq v4 (F4 72 (Int.toNat (zadd 0 a2))) then 138 else 135), [zR 71, zI a1, zI a2, zI a3], [], F4, G4, zsg) rfl ?_
                refine zle_eq (fun _ => ?_) (fun _ => ?_)
                · refine zle_many 6 (85, 147, [zR 71, zI a1, zI a2, zI a3], [zI a1, zI (zadd 8 a2), zR 72], F4, G4, zsg) rfl ?_
                  refine zle_ast rfl rfl rfl (fun _ => ?_)
                  refine zle_many 6 (85, 157, [zR 71, zI a1, zI a2, zI a3], [zI a3, zI (zadd 16 a2), zR 72], (zup F4 72 (Int.toNat (zadd 8 a2)) a1), G4, zsg) rfl ?_
                  refine zle_ast rfl rfl rfl (fun _ => ?_)
                  refine zle_many 6 (85, 167, [zR 71, zI a1, zI a2, zI a3], [zI a2, zI (zadd 30 a1), zR 72], (zup (zup F4 72 (Int.toNat (zadd 8 a2)) a1) 72 (Int.toNat (zadd 16 a2)) a3), G4, zsg) rfl ?_
                  refine zle_ast rfl rfl rfl (fun _ => ?_)
                  refine zle_many 1 (85, 169, [zR 71, zI a1, zI a2, zI a3], [zI 0], (zup (zup (zup F4 72 (Int.toNat (zadd 8 a2)) a1) 72 (Int.toNat (zadd 16 a2)) a3) 72 (Int.toNat (zadd 30 a1)) a2), G4, zsg) rfl ?_
                  exact zle_ret rfl
                · refine zle_many 1 (85, 137, [zR 71, zI a1, zI a2, zI a3], [zI 7], F4, G4, zsg) rfl ?_
                  exact zle_ret rfl
          · refine zle_many 1 (85, 62, [zR 71, zI a1, zI a2, zI a3], [zI 1], F1, G1, zsg) rfl ?_
            exact zle_ret rfl
    · refine zle_many 1 (85, 35, [zR 71, zI a1, zI a2, zI a3], [zI 1], F, G, zsg) rfl ?_
      exact zle_ret rfl
set_option maxRecDepth 20000 in
theorem g_M_puts {d : Nat} {F : zM} {G : zG} (a1 : Int) : zle (
  if 0 ≤ (zadd 30 a1) ∧ (zadd 30 a1) < 43 then
  if 0 ≤ (zadd 28 a1) ∧ (zadd 28 a1) < 43 then
    if (F 72 (Int.toNat (zadd 28 a1))) = (-1) then
      some (some (zI 1), F, G, zsg)
    else
      if (F 72 (Int.toNat (zadd 30 a1))) = (-1) then
        some (some (zI 1), F, G, zsg)
      else
        if 0 ≤ (zadd 8 (F 72 (Int.toNat (zadd 30 a1)))) ∧ (zadd 8 (F 72 (Int.toNat (zadd 30 a1)))) < 43 then
          if 0 ≤ (zadd 16 (F 72 (Int.toNat (zadd 30 a1)))) ∧ (zadd 16 (F 72 (Int.toNat (zadd 30 a1)))) < 43 then
            if 0 ≤ (zadd 30 a1) ∧ (zadd 30 a1) < 43 then
              some (some (zI 0), (zup (zup (zup F 72 (Int.toNat (zadd 8 (F 72 (Int.toNat (zadd 30 a1))))) (-1)) 72 (Int.toNat (zadd 16 (F 72 (Int.toNat (zadd 30 a1))))) (-1)) 72 (Int.toNat (zadd 30 a1)) (-1)), G, zsg)
            else none
          else none
        else none
  else none
else none) (zex (d + 1) 86 [zR 71, zI a1] (F, G, zsg)) := by
  refine zle_ent (ls := [zR 71, zI a1, zR 0]) ?_
  refine zle_many 5 (86, 8, [zR 71, zI a1, zR 0], [zI (zadd 30 a1), zR 72], F, G, zsg) rfl ?_
  refine zle_ald rfl rfl rfl (fun _ => ?_)
  refine zle_many 6 (86, 18, [zR 71, zI a1, zI (F 72 (Int.toNat (zadd 30 a1)))], [zI (zadd 28 a1), zR 72], F, G, zsg) rfl ?_
  refine zle_ald rfl rfl rfl (fun _ => ?_)
  refine zle_many 2 (86, (bif zcmp .eq (F 72 (Int.toNat (zadd 28 a1))) (-1) then 28 else 23), [zR 71, zI a1, zI (F 72 (Int.toNat (zadd 30 a1)))], [], F, G, zsg) rfl ?_
  refine zle_eq (fun _ => ?_) (fun _ => ?_)
  · refine zle_many 1 (86, 29, [zR 71, zI a1, zI (F 72 (Int.toNat (zadd 30 a1)))], [zI 1], F, G, zsg) rfl ?_
    exact zle_ret rfl
  · refine zle_many 3 (86, (bif zcmp .ne (F 72 (Int.toNat (zadd 30 a1))) (-1) then 30 else 28), [zR 71, zI a1, zI (F 72 (Int.toNat (zadd 30 a1)))], [], F, G, zsg) rfl ?_
    refine zle_ne (fun _ => ?_) (fun _ => ?_)
    · refine zle_many 1 (86, 29, [zR 71, zI a1, zI (F 72 (Int.toNat (zadd 30 a1)))], [zI 1], F, G, zsg) rfl ?_
      exact zle_ret rfl
    · refine zle_many 6 (86, 39, [zR 71, zI a1, zI (F 72 (Int.toNat (zadd 30 a1)))], [zI (-1), zI (zadd 8 (F 72 (Int.toNat (zadd 30 a1)))), zR 72], F, G, zsg) rfl ?_
      refine zle_ast rfl rfl rfl (fun _ => ?_)
      refine zle_many 6 (86, 49, [zR 71, zI a1, zI (F 72 (Int.toNat (zadd 30 a1)))], [zI (-1), zI (zadd 16 (F 72 (Int.toNat (zadd 30 a1)))), zR 72], (zup F 72 (Int.toNat (zadd 8 (F 72 (Int.toNat (zadd 30 a1))))) (-1)), G, zsg) rfl ?_
      refine zle_ast rfl rfl rfl (fun _ => ?_)
      refine zle_many 6 (86, 59, [zR 71, zI a1, zI (F 72 (Int.toNat (zadd 30 a1)))], [zI (-1), zI (zadd 30 a1), zR 72], (zup (zup F 72 (Int.toNat (zadd 8 (F 72 (Int.toNat (zadd 30 a1))))) (-1)) 72 (Int.toNat (zadd 16 (F 72 (Int.toNat (zadd 30 a1))))) (-1)), G, zsg) rfl ?_
      refine zle_ast rfl rfl rfl (fun _ => ?_)
      refine zle_many 1 (86, 61, [zR 71, zI a1, zI (F 72 (Int.toNat (zadd 30 a1)))], [zI 0], (zup (zup (zup F 72 (Int.toNat (zadd 8 (F 72 (Int.toNat (zadd 30 a1))))) (-1)) 72 (Int.toNat (zadd 16 (F 72 (Int.toNat (zadd 30 a1))))) (-1)) 72 (Int.toNat (zadd 30 a1)) (-1)), G, zsg) rfl ?_
      exact zle_ret rfl
set_option maxRecDepth 20000 in
theorem g_M_opens {d : Nat} {F : zM} {G : zG} (a1 : Int) (a2 : Int) : zle (
  if 0 ≤ (zadd 28 a1) ∧ (zadd 28 a1) < 43 then
  if (F 72 (Int.toNat (zadd 28 a1))) = (-1) then
    some (some (zI 1), F, G, zsg)
  else
    zbI (zex d 49 [zI a2, zI 0, zI (zsub (F 71 5) 1)] (F, G, zsg)) (fun v1 F1 G1 =>
      if v1 = 0 then
        some (some (zI 5), F1, G1, zsg)
      else
        if 0 ≤ (zadd 24 a2) ∧ (zadd 24 a2) < 43 then
          if (F1 72 (Int.toNat (zadd 24 a2))) = 1 then
            some (some (zI 5), F1, G1, zsg)
          else
            zev zX0 d (87, 51, [zR 71, zI a1, zI a2, zI 0, zI 0], [], F1, G1, zsg)
        else none)
else none) (zex (d + 1) 87 [zR 71, zI a1, zI a2] (F, G, zsg)) := by
  refine zle_ent (ls := [zR 71, zI a1, zI a2, zR 0, zR 0]) ?_
  refine zle_many 5 (87, 8, [zR 71, zI a1, zI a2, zR 0, zR 0], [zI (zadd 28 a1), zR 72], F, G, zsg) rfl ?_
  refine zle_ald rfl rfl rfl (fun _ => ?_)
  refine zle_many 2 (87, (bif zcmp .ne (F 72 (Int.toNat (zadd 28 a1))) (-1) then 15 else 13), [zR 71, zI a1, zI a2, zR 0, zR 0], [], F, G, zsg) rfl ?_
  refine zle_ne (fun _ => ?_) (fun _ => ?_)
  · refine zle_many 1 (87, 14, [zR 71, zI a1, zI a2, zR 0, zR 0], [zI 1], F, G, zsg) rfl ?_
    exact zle_ret rfl
  · refine zle_many 6 (87, 23, [zR 71, zI a1, zI a2, zR 0, zR 0], [zI (zsub (F 71 5) 1), zI 0, zI a2], F, G, zsg) rfl ?_
    refine zle_I rfl (fun v1 F1 G1 => ?_)
    refine zle_many 1 (87, (bif zcmp .ne v1 0 then 31 else 29), [zR 71, zI a1, zI a2, zR 0, zR 0], [], F1, G1, zsg) rfl ?_
    refine zle_ne (fun _ => ?_) (fun _ => ?_)
    · refine zle_many 1 (87, 30, [zR 71, zI a1, zI a2, zR 0, zR 0], [zI 5], F1, G1, zsg) rfl ?_
      exact zle_ret rfl
    · refine zle_many 5 (87, 39, [zR 71, zI a1, zI a2, zR 0, zR 0], [zI (zadd 24 a2), zR 72], F1, G1, zsg) rfl ?_
      refine zle_ald rfl rfl rfl (fun _ => ?_)
      refine zle_many 2 (87, (bif zcmp .ne (F1 72 (Int.toNat (zadd 24 a2))) 1 then 46 else 44), [zR 71, zI a1, zI a2, zR 0, zR 0], [], F1, G1, zsg) rfl ?_
      refine zle_ne (fun _ => ?_) (fun _ => ?_)
      · refine zle_many 1 (87, 45, [zR 71, zI a1, zI a2, zR 0, zR 0], [zI 5], F1, G1, zsg) rfl ?_
        exact zle_ret rfl
      · refine zle_many 4 (87, 51, [zR 71, zI a1, zI a2, zI 0, zI 0], [], F1, G1, zsg) rfl ?_
        exact zle_rfl
set_option maxRecDepth 20000 in
theorem g_M_opens_51 {d : Nat} {F : zM} {G : zG} (l1 : Int) (l2 : Int) (l3 : Int) (l4 : Int) : zle (
  if l4 < 4 then
  if l3 = 0 then
    if 0 ≤ l2 ∧ l2 < 4 then
      zbI (zex d 53 [zI (F 76 (Int.toNat l2)), zI l4] (F, G, zsg)) (fun v1 F1 G1 =>
        if 0 ≤ (zadd 28 l1) ∧ (zadd 28 l1) < 43 then
          if v1 = (F1 72 (Int.toNat (zadd 28 l1))) then
            zev zX0 d (87, 51, [zR 71, zI l1, zI l2, zI 1, zI (zadd l4 1)], [], F1, G1, zsg)
          else
            zev zX0 d (87, 51, [zR 71, zI l1, zI l2, zI 0, zI (zadd l4 1)], [], F1, G1, zsg)
        else none)
    else none
  else
    zev zX0 d (87, 51, [zR 71, zI l1, zI l2, zI 1, zI (zadd l4 1)], [], F, G, zsg)
else
  if l3 = 0 then
    some (some (zI 7), F, G, zsg)
  else
    if 0 ≤ l2 ∧ l2 < 4 then
      if (F 77 (Int.toNat l2)) = (-1) then
        if 0 ≤ (zadd 24 l2) ∧ (zadd 24 l2) < 43 then
          some (some (zI 0), (zup F 72 (Int.toNat (zadd 24 l2)) 1), G, zsg)
        else none
      else
        if 0 ≤ (zadd 30 l1) ∧ (zadd 30 l1) < 43 then
          if 0 ≤ l2 ∧ l2 < 4 then
            if (F 72 (Int.toNat (zadd 30 l1))) = (F 77 (Int.toNat l2)) then
              if 0 ≤ (zadd 24 l2) ∧ (zadd 24 l2) < 43 then
                some (some (zI 0), (zup F 72 (Int.toNat (zadd 24 l2)) 1), G, zsg)
              else none
            else
              some (some (zI 6), F, G, zsg)
          else none
        else none
    else none) (zev zX0 d (87, 51, [zR 71, zI l1, zI l2, zI l3, zI l4], [], F, G, zsg)) := by
  refine zle_many 3 (87, (bif zcmp .ge l4 4 then 96 else 57), [zR 71, zI l1, zI l2, zI l3, zI l4], [], F, G, zsg) rfl ?_
  refine zle_ge (fun _ => ?_) (fun _ => ?_)
  · refine zle_many 2 (87, (bif zcmp .ne l3 0 then 84 else 61), [zR 71, zI l1, zI l2, zI l3, zI l4], [], F, G, zsg) rfl ?_
    refine zle_ne (fun _ => ?_) (fun _ => ?_)
    · refine zle_many 3 (87, 66, [zR 71, zI l1, zI l2, zI l3, zI l4], [zI l2, zR 76], F, G, zsg) rfl ?_
      refine zle_ald rfl rfl rfl (fun _ => ?_)
      refine zle_many 1 (87, 69, [zR 71, zI l1, zI l2, zI l3, zI l4], [zI l4, zI (F 76 (Int.toNat l2))], F, G, zsg) rfl ?_
      refine zle_I rfl (fun v1 F1 G1 => ?_)
      refine zle_many 5 (87, 80, [zR 71, zI l1, zI l2, zI l3, zI l4], [zI (zadd 28 l1), zR 72, zI v1], F1, G1, zsg) rfl ?_
      refine zle_ald rfl rfl rfl (fun _ => ?_)
      refine zle_many 1 (87, (bif zcmp .ne v1 (F1 72 (Int.toNat (zadd 28 l1))) then 88 else 84), [zR 71, zI l1, zI l2, zI l3, zI l4], [], F1, G1, zsg) rfl ?_
      refine zle_ne (fun _ => ?_) (fun _ => ?_)
      · refine zle_many 5 (87, 51, [zR 71, zI l1, zI l2, zI 1, zI (zadd l4 1)], [], F1, G1, zsg) rfl ?_
        exact zle_rfl
      · refine zle_many 4 (87, 51, [zR 71, zI l1, zI l2, zI 0, zI (zadd l4 1)], [], F1, G1, zsg) rfl ?_
        exact zle_rfl
    · refine zle_many 5 (87, 51, [zR 71, zI l1, zI l2, zI 1, zI (zadd l4 1)], [], F, G, zsg) rfl ?_
      exact zle_rfl
  · refine zle_many 2 (87, (bif zcmp .ne l3 0 then 103 else 100), [zR 71, zI l1, zI l2, zI l3, zI l4], [], F, G, zsg) rfl ?_
    refine zle_ne (fun _ => ?_) (fun _ => ?_)
    · refine zle_many 1 (87, 102, [zR 71, zI l1, zI l2, zI l3, zI l4], [zI 7], F, G, zsg) rfl ?_
      exact zle_ret rfl
    · refine zle_many 3 (87, 108, [zR 71, zI l1, zI l2, zI l3, zI l4], [zI l2, zR 77], F, G, zsg) rfl ?_
      refine zle_ald rfl rfl rfl (fun _ => ?_)
      refine zle_many 2 (87, (bif zcmp .eq (F 77 (Int.toNat l2)) (-1) then 134 else 113), [zR 71, zI l1, zI l2, zI l3, zI l4], [], F, G, zsg) rfl ?_
      refine zle_eq (fun _ => ?_) (fun _ => ?_)
      · refine zle_many 6 (87, 143, [zR 71, zI l1, zI l2, zI l3, zI l4], [zI 1, zI (zadd 24 l2), zR 72], F, G, zsg) rfl ?_
        refine zle_ast rfl rfl rfl (fun _ => ?_)
        refine zle_many 1 (87, 145, [zR 71, zI l1, zI l2, zI l3, zI l4], [zI 0], (zup F 72 (Int.toNat (zadd 24 l2)) 1), G, zsg) rfl ?_
        exact zle_ret rfl
      · refine zle_many 5 (87, 121, [zR 71, zI l1, zI l2, zI l3, zI l4], [zI (zadd 30 l1), zR 72], F, G, zsg) rfl ?_
        refine zle_ald rfl rfl rfl (fun _ => ?_)
        refine zle_many 3 (87, 127, [zR 71, zI l1, zI l2, zI l3, zI l4], [zI l2, zR 77, zI (F 72 (Int.toNat (zadd 30 l1)))], F, G, zsg) rfl ?_
        refine zle_ald rfl rfl rfl (fun _ => ?_)
        refine zle_many 1 (87, (bif zcmp .eq (F 72 (Int.toNat (zadd 30 l1))) (F 77 (Int.toNat l2)) then 134 else 131), [zR 71, zI l1, zI l2, zI l3, zI l4], [], F, G, zsg) rfl ?_
        refine zle_eq (fun _ => ?_) (fun _ => ?_)
        · refine zle_many 6 (87, 143, [zR 71, zI l1, zI l2, zI l3, zI l4], [zI 1, zI (zadd 24 l2), zR 72], F, G, zsg) rfl ?_
          refine zle_ast rfl rfl rfl (fun _ => ?_)
          refine zle_many 1 (87, 145, [zR 71, zI l1, zI l2, zI l3, zI l4], [zI 0], (zup F 72 (Int.toNat (zadd 24 l2)) 1), G, zsg) rfl ?_
          exact zle_ret rfl
        · refine zle_many 1 (87, 133, [zR 71, zI l1, zI l2, zI l3, zI l4], [zI 6], F, G, zsg) rfl ?_
          exact zle_ret rfl
set_option maxRecDepth 20000 in
theorem g_M_go {d : Nat} {F : zM} {G : zG} (a1 : Int) (a2 : Int) : zle (
  zbI (zex d 68 [zR 71, zI a1] (F, G, zsg)) (fun v1 F1 G1 =>
  if v1 = 0 then
    some (some (zI (-5)), F1, G1, zsg)
  else
    zbI (zex d 50 [zI a2] (F1, G1, zsg)) (fun v2 F2 G2 =>
      if v2 = 0 then
        some (some (zI (-5)), F2, G2, zsg)
      else
        if 0 ≤ (zadd 32 a1) ∧ (zadd 32 a1) < 43 then
          zbI (zex d 84 [zR 71, zI a1, zI a2] (F2, G2, zsg)) (fun v3 F3 G3 =>
            if v3 = 0 then
              if 0 ≤ (zadd 32 a1) ∧ (zadd 32 a1) < 43 then
                some (some (zI (zsub (F3 72 (Int.toNat (zadd 32 a1))) (F2 72 (Int.toNat (zadd 32 a1))))), F3, G3, zsg)
              else none
            else
              some (some (zI (zsub (-10) v3)), F3, G3, zsg))
        else none))) (zex (d + 1) 88 [zR 71, zI a1, zI a2] (F, G, zsg)) := by
  refine zle_ent (ls := [zR 71, zI a1, zI a2, zR 0, zR 0]) ?_
  refine zle_many 2 (88, 2, [zR 71, zI a1, zI a2, zR 0, zR 0], [zI a1, zR 71], F, G, zsg) rfl ?_
  refine zle_I rfl (fun v1 F1 G1 => ?_)
  refine zle_many 1 (88, (bif zcmp .eq v1 0 then 15 else 8), [zR 71, zI a1, zI a2, zR 0, zR 0], [], F1, G1, zsg) rfl ?_
  refine zle_eq (fun _ => ?_) (fun _ => ?_)
  · refine zle_many 1 (88, 17, [zR 71, zI a1, zI a2, zR 0, zR 0], [zI (-5)], F1, G1, zsg) rfl ?_
    exact zle_ret rfl
  · refine zle_many 1 (88, 9, [zR 71, zI a1, zI a2, zR 0, zR 0], [zI a2], F1, G1, zsg) rfl ?_
    refine zle_I rfl (fun v2 F2 G2 => ?_)
    refine zle_many 1 (88, (bif zcmp .ne v2 0 then 18 else 15), [zR 71, zI a1, zI a2, zR 0, zR 0], [], F2, G2, zsg) rfl ?_
    refine zle_ne (fun _ => ?_) (fun _ => ?_)
    · refine zle_many 1 (88, 17, [zR 71, zI a1, zI a2, zR 0, zR 0], [zI (-5)], F2, G2, zsg) rfl ?_
      exact zle_ret rfl
    · refine zle_many 5 (88, 26, [zR 71, zI a1, zI a2, zR 0, zR 0], [zI (zadd 32 a1), zR 72], F2, G2, zsg) rfl ?_
      refine zle_ald rfl rfl rfl (fun _ => ?_)
      refine zle_many 4 (88, 31, [zR 71, zI a1, zI a2, zI (F2 72 (Int.toNat (zadd 32 a1))), zR 0], [zI a2, zI a1, zR 71], F2, G2, zsg) rfl ?_
      refine zle_I rfl (fun v3 F3 G3 => ?_)
      refine zle_many 3 (88, (bif zcmp .ne v3 0 then 55 else 41), [zR 71, zI a1, zI a2, zI (F2 72 (Int.toNat (zadd 32 a1))), zI v3], [], F3, G3, zsg) rfl ?_
      refine zle_ne (fun _ => ?_) (fun _ => ?_)
      · refine zle_many 5 (88, 49, [zR 71, zI a1, zI a2, zI (F2 72 (Int.toNat (zadd 32 a1))), zI v3], [zI (zadd 32 a1), zR 72], F3, G3, zsg) rfl ?_
        refine zle_ald rfl rfl rfl (fun _ => ?_)
        refine zle_many 3 (88, 60, [zR 71, zI a1, zI a2, zI (F2 72 (Int.toNat (zadd 32 a1))), zI v3], [zI (zsub (F3 72 (Int.toNat (zadd 32 a1))) (F2 72 (Int.toNat (zadd 32 a1))))], F3, G3, zsg) rfl ?_
        exact zle_ret rfl
      · refine zle_many 3 (88, 60, [zR 71, zI a1, zI a2, zI (F2 72 (Int.toNat (zadd 32 a1))), zI v3], [zI (zsub (-10) v3)], F3, G3, zsg) rfl ?_
        exact zle_ret rfl
set_option maxRecDepth 20000 in
theorem g_M_told {d : Nat} {F : zM} {G : zG} (a0 : Int) : zle (
  if a0 = 0 then
  some (some (zI 0), F, G, zsg)
else
  some (some (zI (zsub (-10) a0)), F, G, zsg)) (zex (d + 1) 89 [zI a0] (F, G, zsg)) := by
  refine zle_ent (ls := [zI a0]) ?_
  refine zle_many 2 (89, (bif zcmp .ne a0 0 then 8 else 4), [zI a0], [], F, G, zsg) rfl ?_
  refine zle_ne (fun _ => ?_) (fun _ => ?_)
  · refine zle_many 2 (89, 12, [zI a0], [zI 0], F, G, zsg) rfl ?_
    exact zle_ret rfl
  · refine zle_many 3 (89, 12, [zI a0], [zI (zsub (-10) a0)], F, G, zsg) rfl ?_
    exact zle_ret rfl
set_option maxRecDepth 20000 in
theorem g_M_take {d : Nat} {F : zM} {G : zG} (a1 : Int) (a2 : Int) (a3 : Int) : zle (
  zbI (zex d 52 [zI a1] (F, G, zsg)) (fun v1 F1 G1 =>
  if v1 = 0 then
    some (some (zI (-5)), F1, G1, zsg)
  else
    zbI (zex d 51 [zR 71, zI a2] (F1, G1, zsg)) (fun v2 F2 G2 =>
      if v2 = 0 then
        some (some (zI (-5)), F2, G2, zsg)
      else
        zbI (zex d 49 [zI a3, zI 0, zI 3] (F2, G2, zsg)) (fun v3 F3 G3 =>
          if v3 = 0 then
            some (some (zI (-5)), F3, G3, zsg)
          else
            zbI (zex d 85 [zR 71, zI a1, zI a2, zI a3] (F3, G3, zsg)) (fun v4 F4 G4 =>
              zbI (zex d 89 [zI v4] (F4, G4, zsg)) (fun v5 F5 G5 =>
                some (some (zI v5), F5, G5, zsg))))))) (zex (d + 1) 90 [zR 71, zI a1, zI a2, zI a3] (F, G, zsg)) := by
  refine zle_ent (ls := [zR 71, zI a1, zI a2, zI a3]) ?_
  refine zle_many 1 (90, 1, [zR 71, zI a1, zI a2, zI a3], [zI a1], F, G, zsg) rfl ?_
  refine zle_I rfl (fun v1 F1 G1 => ?_)
  refine zle_many 1 (90, (bif zcmp .eq v1 0 then 37 else 7), [zR 71, zI a1, zI a2, zI a3], [], F1, G1, zsg) rfl ?_
  refine zle_eq (fun _ => ?_) (fun _ => ?_)
  · refine zle_many 1 (90, 39, [zR 71, zI a1, zI a2, zI a3], [zI (-5)], F1, G1, zsg) rfl ?_
    exact zle_ret rfl
  · refine zle_many 2 (90, 9, [zR 71, zI a1, zI a2, zI a3], [zI a2, zR 71], F1, G1, zsg) rfl ?_
    refine zle_I rfl (fun v2 F2 G2 => ?_)
    refine zle_many 1 (90, (bif zcmp .eq v2 0 then 37 else 15), [zR 71, zI a1, zI a2, zI a3], [], F2, G2, zsg) rfl ?_
    refine zle_eq (fun _ => ?_) (fun _ => ?_)
    · refine zle_many 1 (90, 39, [zR 71, zI a1, zI a2, zI a3], [zI (-5)], F2, G2, zsg) rfl ?_
      exact zle_ret rfl
    · refine zle_many 3 (90, 18, [zR 71, zI a1, zI a2, zI a3], [zI 3, zI 0, zI a3], F2, G2, zsg) rfl ?_
      refine zle_I rfl (fun v3 F3 G3 => ?_)
      refine zle_many 1 (90, (bif zcmp .eq v3 0 then 37 else 24), [zR 71, zI a1, zI a2, zI a3], [], F3, G3, zsg) rfl ?_
      refine zle_eq (fun _ => ?_) (fun _ => ?_)
      · refine zle_many 1 (90, 39, [zR 71, zI a1, zI a2, zI a3], [zI (-5)], F3, G3, zsg) rfl ?_
        exact zle_ret rfl
      · refine zle_many 4 (90, 28, [zR 71, zI a1, zI a2, zI a3], [zI a3, zI a2, zI a1, zR 71], F3, G3, zsg) rfl ?_
        refine zle_I rfl (fun v4 F4 G4 => ?_)
        refine zle_I rfl (fun v5 F5 G5 => ?_)
        refine zle_many 1 (90, 39, [zR 71, zI a1, zI a2, zI a3], [zI v5], F5, G5, zsg) rfl ?_
        exact zle_ret rfl
set_option maxRecDepth 20000 in
theorem g_M_put {d : Nat} {F : zM} {G : zG} (a1 : Int) : zle (
  zbI (zex d 52 [zI a1] (F, G, zsg)) (fun v1 F1 G1 =>
  if v1 = 0 then
    some (some (zI (-5)), F1, G1, zsg)
  else
    zbI (zex d 86 [zR 71, zI a1] (F1, G1, zsg)) (fun v2 F2 G2 =>
      zbI (zex d 89 [zI v2] (F2, G2, zsg)) (fun v3 F3 G3 =>
        some (some (zI v3), F3, G3, zsg))))) (zex (d + 1) 91 [zR 71, zI a1] (F, G, zsg)) := by
  refine zle_ent (ls := [zR 71, zI a1]) ?_
  refine zle_many 1 (91, 1, [zR 71, zI a1], [zI a1], F, G, zsg) rfl ?_
  refine zle_I rfl (fun v1 F1 G1 => ?_)
  refine zle_many 1 (91, (bif zcmp .eq v1 0 then 18 else 7), [zR 71, zI a1], [], F1, G1, zsg) rfl ?_
  refine zle_eq (fun _ => ?_) (fun _ => ?_)
  · refine zle_many 1 (91, 20, [zR 71, zI a1], [zI (-5)], F1, G1, zsg) rfl ?_
    exact zle_ret rfl
  · refine zle_many 2 (91, 9, [zR 71, zI a1], [zI a1, zR 71], F1, G1, zsg) rfl ?_
    refine zle_I rfl (fun v2 F2 G2 => ?_)
    refine zle_I rfl (fun v3 F3 G3 => ?_)
    refine zle_many 1 (91, 20, [zR 71, zI a1], [zI v3], F3, G3, zsg) rfl ?_
    exact zle_ret rfl
set_option maxRecDepth 20000 in
theorem g_M_open {d : Nat} {F : zM} {G : zG} (a1 : Int) (a2 : Int) : zle (
  zbI (zex d 52 [zI a1] (F, G, zsg)) (fun v1 F1 G1 =>
  if v1 = 0 then
    some (some (zI (-5)), F1, G1, zsg)
  else
    zbI (zex d 49 [zI a2, zI 0, zI (zsub (F1 71 5) 1)] (F1, G1, zsg)) (fun v2 F2 G2 =>
      if v2 = 0 then
        some (some (zI (-5)), F2, G2, zsg)
      else
        zbI (zex d 87 [zR 71, zI a1, zI a2] (F2, G2, zsg)) (fun v3 F3 G3 =>
          zbI (zex d 89 [zI v3] (F3, G3, zsg)) (fun v4 F4 G4 =>
            some (some (zI v4), F4, G4, zsg)))))) (zex (d + 1) 92 [zR 71, zI a1, zI a2] (F, G, zsg)) := by
  refine zle_ent (ls := [zR 71, zI a1, zI a2]) ?_
  refine zle_many 1 (92, 1, [zR 71, zI a1, zI a2], [zI a1], F, G, zsg) rfl ?_
  refine zle_I rfl (fun v1 F1 G1 => ?_)
  refine zle_many 1 (92, (bif zcmp .eq v1 0 then 33 else 7), [zR 71, zI a1, zI a2], [], F1, G1, zsg) rfl ?_
  refine zle_eq (fun _ => ?_) (fun _ => ?_)
  · refine zle_many 1 (92, 35, [zR 71, zI a1, zI a2], [zI (-5)], F1, G1, zsg) rfl ?_
    exact zle_ret rfl
  · refine zle_many 6 (92, 15, [zR 71, zI a1, zI a2], [zI (zsub (F1 71 5) 1), zI 0, zI a2], F1, G1, zsg) rfl ?_
    refine zle_I rfl (fun v2 F2 G2 => ?_)
    refine zle_many 1 (92, (bif zcmp .eq v2 0 then 33 else 21), [zR 71, zI a1, zI a2], [], F2, G2, zsg) rfl ?_
    refine zle_eq (fun _ => ?_) (fun _ => ?_)
    · refine zle_many 1 (92, 35, [zR 71, zI a1, zI a2], [zI (-5)], F2, G2, zsg) rfl ?_
      exact zle_ret rfl
    · refine zle_many 3 (92, 24, [zR 71, zI a1, zI a2], [zI a2, zI a1, zR 71], F2, G2, zsg) rfl ?_
      refine zle_I rfl (fun v3 F3 G3 => ?_)
      refine zle_I rfl (fun v4 F4 G4 => ?_)
      refine zle_many 1 (92, 35, [zR 71, zI a1, zI a2], [zI v4], F4, G4, zsg) rfl ?_
      exact zle_ret rfl
set_option maxRecDepth 20000 in
theorem g_M_thingTold {d : Nat} {F : zM} {G : zG} (a1 : Int) (a2 : Int) : zle (
  zbI (zex d 51 [zR 71, zI a1] (F, G, zsg)) (fun v1 F1 G1 =>
  if v1 = 0 then
    some (some (zI (-5)), F1, G1, zsg)
  else
    if a2 = 0 then
      if 0 ≤ a1 ∧ a1 < 8 then
        some (some (zI (F1 78 (Int.toNat a1))), F1, G1, zsg)
      else none
    else
    if a2 = 1 then
      if 0 ≤ (zadd (zadd 0 (zmul 8 (zsub a2 1))) a1) ∧ (zadd (zadd 0 (zmul 8 (zsub a2 1))) a1) < 43 then
        some (some (zI (F1 72 (Int.toNat (zadd (zadd 0 (zmul 8 (zsub a2 1))) a1)))), F1, G1, zsg)
      else none
    else
    if a2 = 2 then
      if 0 ≤ (zadd (zadd 0 (zmul 8 (zsub a2 1))) a1) ∧ (zadd (zadd 0 (zmul 8 (zsub a2 1))) a1) < 43 then
        some (some (zI (F1 72 (Int.toNat (zadd (zadd 0 (zmul 8 (zsub a2 1))) a1)))), F1, G1, zsg)
      else none
    else
    if a2 = 3 then
      if 0 ≤ (zadd (zadd 0 (zmul 8 (zsub a2 1))) a1) ∧ (zadd (zadd 0 (zmul 8 (zsub a2 1))) a1) < 43 then
        some (some (zI (F1 72 (Int.toNat (zadd (zadd 0 (zmul 8 (zsub a2 1))) a1)))), F1, G1, zsg)
      else none
    else
    if a2 = 4 then
      if 0 ≤ a1 ∧ a1 < 8 then
        zbI (zex d 54 [zI (F1 78 (Int.toNat a1))] (F1, G1, zsg)) (fun v3 F3 G3 =>
          some (some (zI v3), F3, G3, zsg))
      else none
    else
    if a2 = 5 then
      if 0 ≤ a1 ∧ a1 < 8 then
        if 0 ≤ a1 ∧ a1 < 8 then
          zbI (zex d 55 [zI (F1 78 (Int.toNat a1)), zI (F1 79 (Int.toNat a1))] (F1, G1, zsg)) (fun v2 F2 G2 =>
            some (some (zI v2), F2, G2, zsg))
        else none
      else none
    else
    if a2 = 6 then
      if 0 ≤ a1 ∧ a1 < 8 then
        some (some (zI (F1 79 (Int.toNat a1))), F1, G1, zsg)
      else none
    else
    some (some (zI (-7)), F1, G1, zsg))) (zex (d + 1) 93 [zR 71, zI a1, zI a2] (F, G, zsg)) := by
  refine zle_ent (ls := [zR 71, zI a1, zI a2]) ?_
  refine zle_many 2 (93, 2, [zR 71, zI a1, zI a2], [zI a1, zR 71], F, G, zsg) rfl ?_
  refine zle_I rfl (fun v1 F1 G1 => ?_)
  refine zle_many 1 (93, (bif zcmp .ne v1 0 then 11 else 8), [zR 71, zI a1, zI a2], [], F1, G1, zsg) rfl ?_
  refine zle_ne (fun _ => ?_) (fun _ => ?_)
  · refine zle_many 1 (93, 10, [zR 71, zI a1, zI a2], [zI (-5)], F1, G1, zsg) rfl ?_
    exact zle_ret rfl
  · refine zle_many 2 (93, zsw a2 [(0, 56), (1, 63), (2, 63), (3, 63), (4, 79), (5, 89), (6, 105)] 112, [zR 71, zI a1, zI a2], [], F1, G1, zsg) rfl ?_
    refine zle_sw (fun _ => ?_) (fun _ => ?_)
    · refine zle_many 3 (93, 61, [zR 71, zI a1, zI a2], [zI a1, zR 78], F1, G1, zsg) rfl ?_
      refine zle_ald rfl rfl rfl (fun _ => ?_)
      exact zle_ret rfl
    · refine zle_sw (fun _ => ?_) (fun _ => ?_)
      · refine zle_many 11 (93, 77, [zR 71, zI a1, zI a2], [zI (zadd (zadd 0 (zmul 8 (zsub a2 1))) a1), zR 72], F1, G1, zsg) rfl ?_
        refine zle_ald rfl rfl rfl (fun _ => ?_)
        exact zle_ret rfl
      · refine zle_sw (fun _ => ?_) (fun _ => ?_)
        · refine zle_many 11 (93, 77, [zR 71, zI a1, zI a2], [zI (zadd (zadd 0 (zmul 8 (zsub a2 1))) a1), zR 72], F1, G1, zsg) rfl ?_
          refine zle_ald rfl rfl rfl (fun _ => ?_)
          exact zle_ret rfl
        · refine zle_sw (fun _ => ?_) (fun _ => ?_)
          · refine zle_many 11 (93, 77, [zR 71, zI a1, zI a2], [zI (zadd (zadd 0 (zmul 8 (zsub a2 1))) a1), zR 72], F1, G1, zsg) rfl ?_
            refine zle_ald rfl rfl rfl (fun _ => ?_)
            exact zle_ret rfl
          · refine zle_sw (fun _ => ?_) (fun _ => ?_)
            · refine zle_many 3 (93, 84, [zR 71, zI a1, zI a2], [zI a1, zR 78], F1, G1, zsg) rfl ?_
              refine zle_ald rfl rfl rfl (fun _ => ?_)
              refine zle_I rfl (fun v3 F3 G3 => ?_)
              exact zle_ret rfl
            · refine zle_sw (fun _ => ?_) (fun _ => ?_)
              · refine zle_many 3 (93, 94, [zR 71, zI a1, zI a2], [zI a1, zR 78], F1, G1, zsg) rfl ?_
                refine zle_ald rfl rfl rfl (fun _ => ?_)
                refine zle_many 3 (93, 100, [zR 71, zI a1, zI a2], [zI a1, zR 79, zI (F1 78 (Int.toNat a1))], F1, G1, zsg) rfl ?_
                refine zle_ald rfl rfl rfl (fun _ => ?_)
                refine zle_I rfl (fun v2 F2 G2 => ?_)
                exact zle_ret rfl
              · refine zle_sw (fun _ => ?_) (fun _ => ?_)
                · refine zle_many 3 (93, 110, [zR 71, zI a1, zI a2], [zI a1, zR 79], F1, G1, zsg) rfl ?_
                  refine zle_ald rfl rfl rfl (fun _ => ?_)
                  exact zle_ret rfl
                · refine zle_many 1 (93, 114, [zR 71, zI a1, zI a2], [zI (-7)], F1, G1, zsg) rfl ?_
                  exact zle_ret rfl
