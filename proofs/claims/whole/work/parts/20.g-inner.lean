/-! printed by wip/gen/gen_all.py: what each method does from its entry and from each loop's head (a tree of tests, calls and ends), and that the code does so -/
set_option maxRecDepth 20000 in
theorem g_Acts_attempt_52_11 {d : Nat} {F : zM} {G : zG} (a2 : Int) (a3 : Int) (a4 : Int) (a5 : Int) : zle (
  if a3 = 4 then
  some (some (zI 0), F, G, zsg)
else
  if 0 ≤ a2 ∧ a2 < 2 then
    if (F 15 (Int.toNat a2)) < 0 then
      some (some (zI 1), F, G, zsg)
    else
      if a3 = 0 then
        zbI (zex d 139 [zR 52, zR 11, zI a2, zI a4] (F, G, zsg)) (fun v4 F4 G4 =>
          some (some (zI v4), F4, G4, zsg))
      else
      if a3 = 1 then
        zbI (zex d 140 [zR 52, zR 11, zI a2, zI a4, zI a5] (F, G, zsg)) (fun v3 F3 G3 =>
          some (some (zI v3), F3, G3, zsg))
      else
      if a3 = 2 then
        zbI (zex d 141 [zR 11, zI a2] (F, G, zsg)) (fun v2 F2 G2 =>
          some (some (zI v2), F2, G2, zsg))
      else
      zbI (zex d 142 [zR 52, zR 11, zI a2, zI a4] (F, G, zsg)) (fun v1 F1 G1 =>
          some (some (zI v1), F1, G1, zsg))
  else none) (zex (d + 1) 138 [zR 52, zR 11, zI a2, zI a3, zI a4, zI a5] (F, G, zsg)) := by
  refine zle_ent (ls := [zR 52, zR 11, zI a2, zI a3, zI a4, zI a5]) ?_
  refine zle_many 3 (138, (bif zcmp .ne a3 4 then 7 else 5), [zR 52, zR 11, zI a2, zI a3, zI a4, zI a5], [], F, G, zsg) rfl ?_
  refine zle_ne (fun _ => ?_) (fun _ => ?_)
  · refine zle_many 1 (138, 6, [zR 52, zR 11, zI a2, zI a3, zI a4, zI a5], [zI 0], F, G, zsg) rfl ?_
    exact zle_ret rfl
  · refine zle_many 3 (138, 12, [zR 52, zR 11, zI a2, zI a3, zI a4, zI a5], [zI a2, zR 15], F, G, zsg) rfl ?_
    refine zle_ald rfl rfl rfl (fun _ => ?_)
    refine zle_many 1 (138, (bif zcmp .ge (F 15 (Int.toNat a2)) 0 then 18 else 16), [zR 52, zR 11, zI a2, zI a3, zI a4, zI a5], [], F, G, zsg) rfl ?_
    refine zle_ge (fun _ => ?_) (fun _ => ?_)
    · refine zle_many 1 (138, 17, [zR 52, zR 11, zI a2, zI a3, zI a4, zI a5], [zI 1], F, G, zsg) rfl ?_
      exact zle_ret rfl
    · refine zle_many 2 (138, zsw a3 [(0, 44), (1, 53), (2, 64)] 70, [zR 52, zR 11, zI a2, zI a3, zI a4, zI a5], [], F, G, zsg) rfl ?_
      refine zle_sw (fun _ => ?_) (fun _ => ?_)
      · refine zle_many 4 (138, 49, [zR 52, zR 11, zI a2, zI a3, zI a4, zI a5], [zI a4, zI a2, zR 11, zR 52], F, G, zsg) rfl ?_
        refine zle_I rfl (fun v4 F4 G4 => ?_)
        exact zle_ret rfl
      · refine zle_sw (fun _ => ?_) (fun _ => ?_)
        · refine zle_many 5 (138, 60, [zR 52, zR 11, zI a2, zI a3, zI a4, zI a5], [zI a5, zI a4, zI a2, zR 11, zR 52], F, G, zsg) rfl ?_
          refine zle_I rfl (fun v3 F3 G3 => ?_)
          exact zle_ret rfl
        · refine zle_sw (fun _ => ?_) (fun _ => ?_)
          · refine zle_many 2 (138, 66, [zR 52, zR 11, zI a2, zI a3, zI a4, zI a5], [zI a2, zR 11], F, G, zsg) rfl ?_
            refine zle_I rfl (fun v2 F2 G2 => ?_)
            exact zle_ret rfl
          · refine zle_many 4 (138, 75, [zR 52, zR 11, zI a2, zI a3, zI a4, zI a5], [zI a4, zI a2, zR 11, zR 52], F, G, zsg) rfl ?_
            refine zle_I rfl (fun v1 F1 G1 => ?_)
            exact zle_ret rfl
set_option maxRecDepth 20000 in
theorem g_Acts_attempt_52_22 {d : Nat} {F : zM} {G : zG} (a2 : Int) (a3 : Int) (a4 : Int) (a5 : Int) : zle (
  if a3 = 4 then
  some (some (zI 0), F, G, zsg)
else
  if 0 ≤ a2 ∧ a2 < 2 then
    if (F 26 (Int.toNat a2)) < 0 then
      some (some (zI 1), F, G, zsg)
    else
      if a3 = 0 then
        zbI (zex d 139 [zR 52, zR 22, zI a2, zI a4] (F, G, zsg)) (fun v4 F4 G4 =>
          some (some (zI v4), F4, G4, zsg))
      else
      if a3 = 1 then
        zbI (zex d 140 [zR 52, zR 22, zI a2, zI a4, zI a5] (F, G, zsg)) (fun v3 F3 G3 =>
          some (some (zI v3), F3, G3, zsg))
      else
      if a3 = 2 then
        zbI (zex d 141 [zR 22, zI a2] (F, G, zsg)) (fun v2 F2 G2 =>
          some (some (zI v2), F2, G2, zsg))
      else
      zbI (zex d 142 [zR 52, zR 22, zI a2, zI a4] (F, G, zsg)) (fun v1 F1 G1 =>
          some (some (zI v1), F1, G1, zsg))
  else none) (zex (d + 1) 138 [zR 52, zR 22, zI a2, zI a3, zI a4, zI a5] (F, G, zsg)) := by
  refine zle_ent (ls := [zR 52, zR 22, zI a2, zI a3, zI a4, zI a5]) ?_
  refine zle_many 3 (138, (bif zcmp .ne a3 4 then 7 else 5), [zR 52, zR 22, zI a2, zI a3, zI a4, zI a5], [], F, G, zsg) rfl ?_
  refine zle_ne (fun _ => ?_) (fun _ => ?_)
  · refine zle_many 1 (138, 6, [zR 52, zR 22, zI a2, zI a3, zI a4, zI a5], [zI 0], F, G, zsg) rfl ?_
    exact zle_ret rfl
  · refine zle_many 3 (138, 12, [zR 52, zR 22, zI a2, zI a3, zI a4, zI a5], [zI a2, zR 26], F, G, zsg) rfl ?_
    refine zle_ald rfl rfl rfl (fun _ => ?_)
    refine zle_many 1 (138, (bif zcmp .ge (F 26 (Int.toNat a2)) 0 then 18 else 16), [zR 52, zR 22, zI a2, zI a3, zI a4, zI a5], [], F, G, zsg) rfl ?_
    refine zle_ge (fun _ => ?_) (fun _ => ?_)
    · refine zle_many 1 (138, 17, [zR 52, zR 22, zI a2, zI a3, zI a4, zI a5], [zI 1], F, G, zsg) rfl ?_
      exact zle_ret rfl
    · refine zle_many 2 (138, zsw a3 [(0, 44), (1, 53), (2, 64)] 70, [zR 52, zR 22, zI a2, zI a3, zI a4, zI a5], [], F, G, zsg) rfl ?_
      refine zle_sw (fun _ => ?_) (fun _ => ?_)
      · refine zle_many 4 (138, 49, [zR 52, zR 22, zI a2, zI a3, zI a4, zI a5], [zI a4, zI a2, zR 22, zR 52], F, G, zsg) rfl ?_
        refine zle_I rfl (fun v4 F4 G4 => ?_)
        exact zle_ret rfl
      · refine zle_sw (fun _ => ?_) (fun _ => ?_)
        · refine zle_many 5 (138, 60, [zR 52, zR 22, zI a2, zI a3, zI a4, zI a5], [zI a5, zI a4, zI a2, zR 22, zR 52], F, G, zsg) rfl ?_
          refine zle_I rfl (fun v3 F3 G3 => ?_)
          exact zle_ret rfl
        · refine zle_sw (fun _ => ?_) (fun _ => ?_)
          · refine zle_many 2 (138, 66, [zR 52, zR 22, zI a2, zI a3, zI a4, zI a5], [zI a2, zR 22], F, G, zsg) rfl ?_
            refine zle_I rfl (fun v2 F2 G2 => ?_)
            exact zle_ret rfl
          · refine zle_many 4 (138, 75, [zR 52, zR 22, zI a2, zI a3, zI a4, zI a5], [zI a4, zI a2, zR 22, zR 52], F, G, zsg) rfl ?_
            refine zle_I rfl (fun v1 F1 G1 => ?_)
            exact zle_ret rfl
set_option maxRecDepth 20000 in
theorem g_Acts_attemptGo_52_11 {d : Nat} {F : zM} {G : zG} (a2 : Int) (a3 : Int) : zle (
  zbV (zex d 233 [zR 44, zR 11, zI a2, zI 0] (F, G, zsg)) (fun F1 G1 =>
  zbI (zex d 235 [zR 44, zI a3] (F1, G1, zsg)) (fun v2 F2 G2 =>
    if v2 < 0 then
      some (some (zI 4), F2, G2, zsg)
    else
      zbV (zex d 202 [zR 11, zI a2, zI a3, zI v2] (F2, G2, zsg)) (fun F3 G3 =>
        some (some (zI 0), F3, G3, zsg))))) (zex (d + 1) 139 [zR 52, zR 11, zI a2, zI a3] (F, G, zsg)) := by
  refine zle_ent (ls := [zR 52, zR 11, zI a2, zI a3, zR 0]) ?_
  refine zle_many 5 (139, 7, [zR 52, zR 11, zI a2, zI a3, zR 0], [zI 0, zI a2, zR 11, zR 44], F, G, zsg) rfl ?_
  refine zle_V rfl (fun F1 G1 => ?_)
  refine zle_many 3 (139, 15, [zR 52, zR 11, zI a2, zI a3, zR 0], [zI a3, zR 44], F1, G1, zsg) rfl ?_
  refine zle_I rfl (fun v2 F2 G2 => ?_)
  refine zle_many 3 (139, (bif zcmp .ge v2 0 then 27 else 25), [zR 52, zR 11, zI a2, zI a3, zI v2], [], F2, G2, zsg) rfl ?_
  refine zle_ge (fun _ => ?_) (fun _ => ?_)
  · refine zle_many 1 (139, 26, [zR 52, zR 11, zI a2, zI a3, zI v2], [zI 4], F2, G2, zsg) rfl ?_
    exact zle_ret rfl
  · refine zle_many 4 (139, 32, [zR 52, zR 11, zI a2, zI a3, zI v2], [zI v2, zI a3, zI a2, zR 11], F2, G2, zsg) rfl ?_
    refine zle_V rfl (fun F3 G3 => ?_)
    refine zle_many 1 (139, 36, [zR 52, zR 11, zI a2, zI a3, zI v2], [zI 0], F3, G3, zsg) rfl ?_
    exact zle_ret rfl
set_option maxRecDepth 20000 in
theorem g_Acts_attemptGo_52_22 {d : Nat} {F : zM} {G : zG} (a2 : Int) (a3 : Int) : zle (
  zbV (zex d 233 [zR 44, zR 22, zI a2, zI 0] (F, G, zsg)) (fun F1 G1 =>
  zbI (zex d 235 [zR 44, zI a3] (F1, G1, zsg)) (fun v2 F2 G2 =>
    if v2 < 0 then
      some (some (zI 4), F2, G2, zsg)
    else
      zbV (zex d 202 [zR 22, zI a2, zI a3, zI v2] (F2, G2, zsg)) (fun F3 G3 =>
        some (some (zI 0), F3, G3, zsg))))) (zex (d + 1) 139 [zR 52, zR 22, zI a2, zI a3] (F, G, zsg)) := by
  refine zle_ent (ls := [zR 52, zR 22, zI a2, zI a3, zR 0]) ?_
  refine zle_many 5 (139, 7, [zR 52, zR 22, zI a2, zI a3, zR 0], [zI 0, zI a2, zR 22, zR 44], F, G, zsg) rfl ?_
  refine zle_V rfl (fun F1 G1 => ?_)
  refine zle_many 3 (139, 15, [zR 52, zR 22, zI a2, zI a3, zR 0], [zI a3, zR 44], F1, G1, zsg) rfl ?_
  refine zle_I rfl (fun v2 F2 G2 => ?_)
  refine zle_many 3 (139, (bif zcmp .ge v2 0 then 27 else 25), [zR 52, zR 22, zI a2, zI a3, zI v2], [], F2, G2, zsg) rfl ?_
  refine zle_ge (fun _ => ?_) (fun _ => ?_)
  · refine zle_many 1 (139, 26, [zR 52, zR 22, zI a2, zI a3, zI v2], [zI 4], F2, G2, zsg) rfl ?_
    exact zle_ret rfl
  · refine zle_many 4 (139, 32, [zR 52, zR 22, zI a2, zI a3, zI v2], [zI v2, zI a3, zI a2, zR 22], F2, G2, zsg) rfl ?_
    refine zle_V rfl (fun F3 G3 => ?_)
    refine zle_many 1 (139, 36, [zR 52, zR 22, zI a2, zI a3, zI v2], [zI 0], F3, G3, zsg) rfl ?_
    exact zle_ret rfl
set_option maxRecDepth 20000 in
theorem g_Acts_attemptTake_52_11 {d : Nat} {F : zM} {G : zG} (a2 : Int) (a3 : Int) (a4 : Int) : zle (
  if 0 ≤ a2 ∧ a2 < 2 then
  if (F 16 (Int.toNat a2)) < 0 then
    if a3 < (F 6 2) then
      zbI (zex d 200 [zR 11, zI a3] (F, G, zsg)) (fun v1 F1 G1 =>
        if v1 = 0 then
          some (some (zI 1), F1, G1, zsg)
        else
          if 0 ≤ a3 ∧ a3 < 8 then
            zbI (zex d 173 [zI (F1 7 (Int.toNat a3)), zI a4] (F1, G1, zsg)) (fun v2 F2 G2 =>
              if v2 = 0 then
                some (some (zI 2), F2, G2, zsg)
              else
                zbI (zex d 192 [zR 6, zI a3] (F2, G2, zsg)) (fun v3 F3 G3 =>
                  if (F3 6 1) < v3 then
                    some (some (zI 3), F3, G3, zsg)
                  else
                    if 0 ≤ a3 ∧ a3 < 8 then
                      if 0 ≤ a3 ∧ a3 < 8 then
                        zbI (zex d 162 [zI (F3 12 (Int.toNat a3)), zI (F3 8 (Int.toNat a3)), zI a4] (F3, G3, zsg)) (fun v4 F4 G4 =>
                        if 0 ≤ a2 ∧ a2 < 2 then
                        if v4 = (F4 15 (Int.toNat a2)) then
                        zbV (zex d 203 [zR 11, zI a2, zI a3, zI a4] (F4, G4, zsg)) (fun F5 G5 =>
                        some (some (zI 0), F5, G5, zsg))
                      else
                        some (some (zI 7), F4, G4, zsg)
                      else none)
                      else none
                    else none))
          else none)
    else
      some (some (zI 1), F, G, zsg)
  else
    some (some (zI 1), F, G, zsg)
else none) (zex (d + 1) 140 [zR 52, zR 11, zI a2, zI a3, zI a4] (F, G, zsg)) := by
  refine zle_ent (ls := [zR 52, zR 11, zI a2, zI a3, zI a4]) ?_
  refine zle_many 3 (140, 5, [zR 52, zR 11, zI a2, zI a3, zI a4], [zI a2, zR 16], F, G, zsg) rfl ?_
  refine zle_ald rfl rfl rfl (fun _ => ?_)
  refine zle_many 1 (140, (bif zcmp .ge (F 16 (Int.toNat a2)) 0 then 28 else 9), [zR 52, zR 11, zI a2, zI a3, zI a4], [], F, G, zsg) rfl ?_
  refine zle_ge (fun _ => ?_) (fun _ => ?_)
  · refine zle_many 5 (140, (bif zcmp .ge a3 (F 6 2) then 28 else 20), [zR 52, zR 11, zI a2, zI a3, zI a4], [], F, G, zsg) rfl ?_
    refine zle_ge (fun _ => ?_) (fun _ => ?_)
    · refine zle_many 2 (140, 22, [zR 52, zR 11, zI a2, zI a3, zI a4], [zI a3, zR 11], F, G, zsg) rfl ?_
      refine zle_I rfl (fun v1 F1 G1 => ?_)
      refine zle_many 1 (140, (bif zcmp .ne v1 0 then 30 else 28), [zR 52, zR 11, zI a2, zI a3, zI a4], [], F1, G1, zsg) rfl ?_
      refine zle_ne (fun _ => ?_) (fun _ => ?_)
      · refine zle_many 1 (140, 29, [zR 52, zR 11, zI a2, zI a3, zI a4], [zI 1], F1, G1, zsg) rfl ?_
        exact zle_ret rfl
      · refine zle_many 4 (140, 38, [zR 52, zR 11, zI a2, zI a3, zI a4], [zI a3, zR 7], F1, G1, zsg) rfl ?_
        refine zle_ald rfl rfl rfl (fun _ => ?_)
        refine zle_many 1 (140, 41, [zR 52, zR 11, zI a2, zI a3, zI a4], [zI a4, zI (F1 7 (Int.toNat a3))], F1, G1, zsg) rfl ?_
        refine zle_I rfl (fun v2 F2 G2 => ?_)
        refine zle_many 1 (140, (bif zcmp .ne v2 0 then 49 else 47), [zR 52, zR 11, zI a2, zI a3, zI a4], [], F2, G2, zsg) rfl ?_
        refine zle_ne (fun _ => ?_) (fun _ => ?_)
        · refine zle_many 1 (140, 48, [zR 52, zR 11, zI a2, zI a3, zI a4], [zI 2], F2, G2, zsg) rfl ?_
          exact zle_ret rfl
        · refine zle_many 3 (140, 54, [zR 52, zR 11, zI a2, zI a3, zI a4], [zI a3, zR 6], F2, G2, zsg) rfl ?_
          refine zle_I rfl (fun v3 F3 G3 => ?_)
          refine zle_many 4 (140, (bif zcmp .le v3 (F3 6 1) then 69 else 67), [zR 52, zR 11, zI a2, zI a3, zI a4], [], F3, G3, zsg) rfl ?_
          refine zle_le (fun _ => ?_) (fun _ => ?_)
          · refine zle_many 1 (140, 68, [zR 52, zR 11, zI a2, zI a3, zI a4], [zI 3], F3, G3, zsg) rfl ?_
            exact zle_ret rfl
          · refine zle_many 3 (140, 74, [zR 52, zR 11, zI a2, zI a3, zI a4], [zI a3, zR 12], F3, G3, zsg) rfl ?_
            refine zle_ald rfl rfl rfl (fun _ => ?_)
            refine zle_many 4 (140, 83, [zR 52, zR 11, zI a2, zI a3, zI a4], [zI a3, zR 8, zI (F3 12 (Int.toNat a3))], F3, G3, zsg) rfl ?_
            refine zle_ald rfl rfl rfl (fun _ => ?_)
            refine zle_many 1 (140, 86, [zR 52, zR 11, zI a2, zI a3, zI a4], [zI a4, zI (F3 8 (Int.toNat a3)), zI (F3 12 (Int.toNat a3))], F3, G3, zsg) rfl ?_
            refine zle_I rfl (fun v4 F4 G4 => ?_)
            refine zle_many 3 (140, 94, [zR 52, zR 11, zI a2, zI a3, zI a4], [zI a2, zR 15, zI v4], F4, G4, zsg) rfl ?_
            refine zle_ald rfl rfl rfl (fun _ => ?_)
            refine zle_many 1 (140, (bif zcmp .eq v4 (F4 15 (Int.toNat a2)) then 101 else 98), [zR 52, zR 11, zI a2, zI a3, zI a4], [], F4, G4, zsg) rfl ?_
            refine zle_eq (fun _ => ?_) (fun _ => ?_)
            · refine zle_many 4 (140, 106, [zR 52, zR 11, zI a2, zI a3, zI a4], [zI a4, zI a3, zI a2, zR 11], F4, G4, zsg) rfl ?_
              refine zle_V rfl (fun F5 G5 => ?_)
              refine zle_many 1 (140, 110, [zR 52, zR 11, zI a2, zI a3, zI a4], [zI 0], F5, G5, zsg) rfl ?_
              exact zle_ret rfl
            · refine zle_many 1 (140, 100, [zR 52, zR 11, zI a2, zI a3, zI a4], [zI 7], F4, G4, zsg) rfl ?_
              exact zle_ret rfl
    · refine zle_many 1 (140, 29, [zR 52, zR 11, zI a2, zI a3, zI a4], [zI 1], F, G, zsg) rfl ?_
      exact zle_ret rfl
  · refine zle_many 1 (140, 29, [zR 52, zR 11, zI a2, zI a3, zI a4], [zI 1], F, G, zsg) rfl ?_
    exact zle_ret rfl
set_option maxRecDepth 20000 in
theorem g_Acts_attemptTake_52_22 {d : Nat} {F : zM} {G : zG} (a2 : Int) (a3 : Int) (a4 : Int) : zle (
  if 0 ≤ a2 ∧ a2 < 2 then
  if (F 27 (Int.toNat a2)) < 0 then
    if a3 < (F 6 2) then
      zbI (zex d 200 [zR 22, zI a3] (F, G, zsg)) (fun v1 F1 G1 =>
        if v1 = 0 then
          some (some (zI 1), F1, G1, zsg)
        else
          if 0 ≤ a3 ∧ a3 < 8 then
            zbI (zex d 173 [zI (F1 7 (Int.toNat a3)), zI a4] (F1, G1, zsg)) (fun v2 F2 G2 =>
              if v2 = 0 then
                some (some (zI 2), F2, G2, zsg)
              else
                zbI (zex d 192 [zR 6, zI a3] (F2, G2, zsg)) (fun v3 F3 G3 =>
                  if (F3 6 1) < v3 then
                    some (some (zI 3), F3, G3, zsg)
                  else
                    if 0 ≤ a3 ∧ a3 < 8 then
                      if 0 ≤ a3 ∧ a3 < 8 then
                        zbI (zex d 162 [zI (F3 23 (Int.toNat a3)), zI (F3 8 (Int.toNat a3)), zI a4] (F3, G3, zsg)) (fun v4 F4 G4 =>
                        if 0 ≤ a2 ∧ a2 < 2 then
                        if v4 = (F4 26 (Int.toNat a2)) then
                        zbV (zex d 203 [zR 22, zI a2, zI a3, zI a4] (F4, G4, zsg)) (fun F5 G5 =>
                        some (some (zI 0), F5, G5, zsg))
                      else
                        some (some (zI 7), F4, G4, zsg)
                      else none)
                      else none
                    else none))
          else none)
    else
      some (some (zI 1), F, G, zsg)
  else
    some (some (zI 1), F, G, zsg)
else none) (zex (d + 1) 140 [zR 52, zR 22, zI a2, zI a3, zI a4] (F, G, zsg)) := by
  refine zle_ent (ls := [zR 52, zR 22, zI a2, zI a3, zI a4]) ?_
  refine zle_many 3 (140, 5, [zR 52, zR 22, zI a2, zI a3, zI a4], [zI a2, zR 27], F, G, zsg) rfl ?_
  refine zle_ald rfl rfl rfl (fun _ => ?_)
  refine zle_many 1 (140, (bif zcmp .ge (F 27 (Int.toNat a2)) 0 then 28 else 9), [zR 52, zR 22, zI a2, zI a3, zI a4], [], F, G, zsg) rfl ?_
  refine zle_ge (fun _ => ?_) (fun _ => ?_)
  · refine zle_many 5 (140, (bif zcmp .ge a3 (F 6 2) then 28 else 20), [zR 52, zR 22, zI a2, zI a3, zI a4], [], F, G, zsg) rfl ?_
    refine zle_ge (fun _ => ?_) (fun _ => ?_)
    · refine zle_many 2 (140, 22, [zR 52, zR 22, zI a2, zI a3, zI a4], [zI a3, zR 22], F, G, zsg) rfl ?_
      refine zle_I rfl (fun v1 F1 G1 => ?_)
      refine zle_many 1 (140, (bif zcmp .ne v1 0 then 30 else 28), [zR 52, zR 22, zI a2, zI a3, zI a4], [], F1, G1, zsg) rfl ?_
      refine zle_ne (fun _ => ?_) (fun _ => ?_)
      · refine zle_many 1 (140, 29, [zR 52, zR 22, zI a2, zI a3, zI a4], [zI 1], F1, G1, zsg) rfl ?_
        exact zle_ret rfl
      · refine zle_many 4 (140, 38, [zR 52, zR 22, zI a2, zI a3, zI a4], [zI a3, zR 7], F1, G1, zsg) rfl ?_
        refine zle_ald rfl rfl rfl (fun _ => ?_)
        refine zle_many 1 (140, 41, [zR 52, zR 22, zI a2, zI a3, zI a4], [zI a4, zI (F1 7 (Int.toNat a3))], F1, G1, zsg) rfl ?_
        refine zle_I rfl (fun v2 F2 G2 => ?_)
        refine zle_many 1 (140, (bif zcmp .ne v2 0 then 49 else 47), [zR 52, zR 22, zI a2, zI a3, zI a4], [], F2, G2, zsg) rfl ?_
        refine zle_ne (fun _ => ?_) (fun _ => ?_)
        · refine zle_many 1 (140, 48, [zR 52, zR 22, zI a2, zI a3, zI a4], [zI 2], F2, G2, zsg) rfl ?_
          exact zle_ret rfl
        · refine zle_many 3 (140, 54, [zR 52, zR 22, zI a2, zI a3, zI a4], [zI a3, zR 6], F2, G2, zsg) rfl ?_
          refine zle_I rfl (fun v3 F3 G3 => ?_)
          refine zle_many 4 (140, (bif zcmp .le v3 (F3 6 1) then 69 else 67), [zR 52, zR 22, zI a2, zI a3, zI a4], [], F3, G3, zsg) rfl ?_
          refine zle_le (fun _ => ?_) (fun _ => ?_)
          · refine zle_many 1 (140, 68, [zR 52, zR 22, zI a2, zI a3, zI a4], [zI 3], F3, G3, zsg) rfl ?_
            exact zle_ret rfl
          · refine zle_many 3 (140, 74, [zR 52, zR 22, zI a2, zI a3, zI a4], [zI a3, zR 23], F3, G3, zsg) rfl ?_
            refine zle_ald rfl rfl rfl (fun _ => ?_)
            refine zle_many 4 (140, 83, [zR 52, zR 22, zI a2, zI a3, zI a4], [zI a3, zR 8, zI (F3 23 (Int.toNat a3))], F3, G3, zsg) rfl ?_
            refine zle_ald rfl rfl rfl (fun _ => ?_)
            refine zle_many 1 (140, 86, [zR 52, zR 22, zI a2, zI a3, zI a4], [zI a4, zI (F3 8 (Int.toNat a3)), zI (F3 23 (Int.toNat a3))], F3, G3, zsg) rfl ?_
            refine zle_I rfl (fun v4 F4 G4 => ?_)
            refine zle_many 3 (140, 94, [zR 52, zR 22, zI a2, zI a3, zI a4], [zI a2, zR 26, zI v4], F4, G4, zsg) rfl ?_
            refine zle_ald rfl rfl rfl (fun _ => ?_)
            refine zle_many 1 (140, (bif zcmp .eq v4 (F4 26 (Int.toNat a2)) then 101 else 98), [zR 52, zR 22, zI a2, zI a3, zI a4], [], F4, G4, zsg) rfl ?_
            refine zle_eq (fun _ => ?_) (fun _ => ?_)
            · refine zle_many 4 (140, 106, [zR 52, zR 22, zI a2, zI a3, zI a4], [zI a4, zI a3, zI a2, zR 22], F4, G4, zsg) rfl ?_
              refine zle_V rfl (fun F5 G5 => ?_)
              refine zle_many 1 (140, 110, [zR 52, zR 22, zI a2, zI a3, zI a4], [zI 0], F5, G5, zsg) rfl ?_
              exact zle_ret rfl
            · refine zle_many 1 (140, 100, [zR 52, zR 22, zI a2, zI a3, zI a4], [zI 7], F4, G4, zsg) rfl ?_
              exact zle_ret rfl
    · refine zle_many 1 (140, 29, [zR 52, zR 22, zI a2, zI a3, zI a4], [zI 1], F, G, zsg) rfl ?_
      exact zle_ret rfl
  · refine zle_many 1 (140, 29, [zR 52, zR 22, zI a2, zI a3, zI a4], [zI 1], F, G, zsg) rfl ?_
    exact zle_ret rfl
set_option maxRecDepth 20000 in
theorem g_Acts_attemptPut_11 {d : Nat} {F : zM} {G : zG} (a1 : Int) : zle (
  if 0 ≤ a1 ∧ a1 < 2 then
  if (F 16 (Int.toNat a1)) < 0 then
    some (some (zI 1), F, G, zsg)
  else
    zbV (zex d 204 [zR 11, zI a1] (F, G, zsg)) (fun F1 G1 =>
      some (some (zI 0), F1, G1, zsg))
else none) (zex (d + 1) 141 [zR 11, zI a1] (F, G, zsg)) := by
  refine zle_ent (ls := [zR 11, zI a1]) ?_
  refine zle_many 3 (141, 5, [zR 11, zI a1], [zI a1, zR 16], F, G, zsg) rfl ?_
  refine zle_ald rfl rfl rfl (fun _ => ?_)
  refine zle_many 1 (141, (bif zcmp .ge (F 16 (Int.toNat a1)) 0 then 11 else 9), [zR 11, zI a1], [], F, G, zsg) rfl ?_
  refine zle_ge (fun _ => ?_) (fun _ => ?_)
  · refine zle_many 1 (141, 10, [zR 11, zI a1], [zI 1], F, G, zsg) rfl ?_
    exact zle_ret rfl
  · refine zle_many 2 (141, 13, [zR 11, zI a1], [zI a1, zR 11], F, G, zsg) rfl ?_
    refine zle_V rfl (fun F1 G1 => ?_)
    refine zle_many 1 (141, 17, [zR 11, zI a1], [zI 0], F1, G1, zsg) rfl ?_
    exact zle_ret rfl
set_option maxRecDepth 20000 in
theorem g_Acts_attemptPut_22 {d : Nat} {F : zM} {G : zG} (a1 : Int) : zle (
  if 0 ≤ a1 ∧ a1 < 2 then
  if (F 27 (Int.toNat a1)) < 0 then
    some (some (zI 1), F, G, zsg)
  else
    zbV (zex d 204 [zR 22, zI a1] (F, G, zsg)) (fun F1 G1 =>
      some (some (zI 0), F1, G1, zsg))
else none) (zex (d + 1) 141 [zR 22, zI a1] (F, G, zsg)) := by
  refine zle_ent (ls := [zR 22, zI a1]) ?_
  refine zle_many 3 (141, 5, [zR 22, zI a1], [zI a1, zR 27], F, G, zsg) rfl ?_
  refine zle_ald rfl rfl rfl (fun _ => ?_)
  refine zle_many 1 (141, (bif zcmp .ge (F 27 (Int.toNat a1)) 0 then 11 else 9), [zR 22, zI a1], [], F, G, zsg) rfl ?_
  refine zle_ge (fun _ => ?_) (fun _ => ?_)
  · refine zle_many 1 (141, 10, [zR 22, zI a1], [zI 1], F, G, zsg) rfl ?_
    exact zle_ret rfl
  · refine zle_many 2 (141, 13, [zR 22, zI a1], [zI a1, zR 22], F, G, zsg) rfl ?_
    refine zle_V rfl (fun F1 G1 => ?_)
    refine zle_many 1 (141, 17, [zR 22, zI a1], [zI 0], F1, G1, zsg) rfl ?_
    exact zle_ret rfl
set_option maxRecDepth 20000 in
theorem g_Acts_attemptOpen_52_11 {d : Nat} {F : zM} {G : zG} (a2 : Int) (a3 : Int) : zle (
  if a3 < (F 6 5) then
  zbI (zex d 199 [zR 11, zI a3] (F, G, zsg)) (fun v1 F1 G1 =>
    if v1 = 0 then
      if 0 ≤ a2 ∧ a2 < 2 then
        if 0 ≤ a3 ∧ a3 < 4 then
          zbI (zex d 155 [zI (F1 15 (Int.toNat a2)), zI (F1 9 (Int.toNat a3))] (F1, G1, zsg)) (fun v2 F2 G2 =>
            if v2 = 0 then
              some (some (zI 7), F2, G2, zsg)
            else
              if 0 ≤ a3 ∧ a3 < 4 then
                if (F2 10 (Int.toNat a3)) < 0 then
                  some (some (zI 0), (zup F2 11 1 (zor (F2 11 1) (zshl 1 a3))), G2, zsg)
                else
                  if 0 ≤ a2 ∧ a2 < 2 then
                    if (F2 16 (Int.toNat a2)) = (F2 10 (Int.toNat a3)) then
                      some (some (zI 0), (zup F2 11 1 (zor (F2 11 1) (zshl 1 a3))), G2, zsg)
                    else
                      some (some (zI 6), F2, G2, zsg)
                  else none
              else none)
        else none
      else none
    else
      some (some (zI 5), F1, G1, zsg))
else
  some (some (zI 5), F, G, zsg)) (zex (d + 1) 142 [zR 52, zR 11, zI a2, zI a3] (F, G, zsg)) := by
  refine zle_ent (ls := [zR 52, zR 11, zI a2, zI a3, zR 0]) ?_
  refine zle_many 5 (142, (bif zcmp .ge a3 (F 6 5) then 19 else 11), [zR 52, zR 11, zI a2, zI a3, zR 0], [], F, G, zsg) rfl ?_
  refine zle_ge (fun _ => ?_) (fun _ => ?_)
  · refine zle_many 2 (142, 13, [zR 52, zR 11, zI a2, zI a3, zR 0], [zI a3, zR 11], F, G, zsg) rfl ?_
    refine zle_I rfl (fun v1 F1 G1 => ?_)
    refine zle_many 1 (142, (bif zcmp .eq v1 0 then 21 else 19), [zR 52, zR 11, zI a2, zI a3, zR 0], [], F1, G1, zsg) rfl ?_
    refine zle_eq (fun _ => ?_) (fun _ => ?_)
    · refine zle_many 3 (142, 26, [zR 52, zR 11, zI a2, zI a3, zR 0], [zI a2, zR 15], F1, G1, zsg) rfl ?_
      refine zle_ald rfl rfl rfl (fun _ => ?_)
      refine zle_many 4 (142, 35, [zR 52, zR 11, zI a2, zI a3, zR 0], [zI a3, zR 9, zI (F1 15 (Int.toNat a2))], F1, G1, zsg) rfl ?_
      refine zle_ald rfl rfl rfl (fun _ => ?_)
      refine zle_I rfl (fun v2 F2 G2 => ?_)
      refine zle_many 1 (142, (bif zcmp .ne v2 0 then 45 else 42), [zR 52, zR 11, zI a2, zI a3, zR 0], [], F2, G2, zsg) rfl ?_
      refine zle_ne (fun _ => ?_) (fun _ => ?_)
      · refine zle_many 1 (142, 44, [zR 52, zR 11, zI a2, zI a3, zR 0], [zI 7], F2, G2, zsg) rfl ?_
        exact zle_ret rfl
      · refine zle_many 4 (142, 53, [zR 52, zR 11, zI a2, zI a3, zR 0], [zI a3, zR 10], F2, G2, zsg) rfl ?_
        refine zle_ald rfl rfl rfl (fun _ => ?_)
        refine zle_many 3 (142, (bif zcmp .lt (F2 10 (Int.toNat a3)) 0 then 75 else 61), [zR 52, zR 11, zI a2, zI a3, zI (F2 10 (Int.toNat a3))], [], F2, G2, zsg) rfl ?_
        refine zle_lt (fun _ => ?_) (fun _ => ?_)
        · refine zle_many 9 (142, 88, [zR 52, zR 11, zI a2, zI a3, zI (F2 10 (Int.toNat a3))], [zI 0], (zup F2 11 1 (zor (F2 11 1) (zshl 1 a3))), G2, zsg) rfl ?_
          exact zle_ret rfl
        · refine zle_many 3 (142, 66, [zR 52, zR 11, zI a2, zI a3, zI (F2 10 (Int.toNat a3))], [zI a2, zR 16], F2, G2, zsg) rfl ?_
          refine zle_ald rfl rfl rfl (fun _ => ?_)
          refine zle_many 2 (142, (bif zcmp .eq (F2 16 (Int.toNat a2)) (F2 10 (Int.toNat a3)) then 75 else 72), [zR 52, zR 11, zI a2, zI a3, zI (F2 10 (Int.toNat a3))], [], F2, G2, zsg) rfl ?_
          refine zle_eq (fun _ => ?_) (fun _ => ?_)
          · refine zle_many 9 (142, 88, [zR 52, zR 11, zI a2, zI a3, zI (F2 10 (Int.toNat a3))], [zI 0], (zup F2 11 1 (zor (F2 11 1) (zshl 1 a3))), G2, zsg) rfl ?_
            exact zle_ret rfl
          · refine zle_many 1 (142, 74, [zR 52, zR 11, zI a2, zI a3, zI (F2 10 (Int.toNat a3))], [zI 6], F2, G2, zsg) rfl ?_
            exact zle_ret rfl
    · refine zle_many 1 (142, 20, [zR 52, zR 11, zI a2, zI a3, zR 0], [zI 5], F1, G1, zsg) rfl ?_
      exact zle_ret rfl
  · refine zle_many 1 (142, 20, [zR 52, zR 11, zI a2, zI a3, zR 0], [zI 5], F, G, zsg) rfl ?_
    exact zle_ret rfl
set_option maxRecDepth 20000 in
theorem g_Acts_attemptOpen_52_22 {d : Nat} {F : zM} {G : zG} (a2 : Int) (a3 : Int) : zle (
  if a3 < (F 6 5) then
  zbI (zex d 199 [zR 22, zI a3] (F, G, zsg)) (fun v1 F1 G1 =>
    if v1 = 0 then
      if 0 ≤ a2 ∧ a2 < 2 then
        if 0 ≤ a3 ∧ a3 < 4 then
          zbI (zex d 155 [zI (F1 26 (Int.toNat a2)), zI (F1 9 (Int.toNat a3))] (F1, G1, zsg)) (fun v2 F2 G2 =>
            if v2 = 0 then
              some (some (zI 7), F2, G2, zsg)
            else
              if 0 ≤ a3 ∧ a3 < 4 then
                if (F2 10 (Int.toNat a3)) < 0 then
                  some (some (zI 0), (zup F2 22 1 (zor (F2 22 1) (zshl 1 a3))), G2, zsg)
                else
                  if 0 ≤ a2 ∧ a2 < 2 then
                    if (F2 27 (Int.toNat a2)) = (F2 10 (Int.toNat a3)) then
                      some (some (zI 0), (zup F2 22 1 (zor (F2 22 1) (zshl 1 a3))), G2, zsg)
                    else
                      some (some (zI 6), F2, G2, zsg)
                  else none
              else none)
        else none
      else none
    else
      some (some (zI 5), F1, G1, zsg))
else
  some (some (zI 5), F, G, zsg)) (zex (d + 1) 142 [zR 52, zR 22, zI a2, zI a3] (F, G, zsg)) := by
  refine zle_ent (ls := [zR 52, zR 22, zI a2, zI a3, zR 0]) ?_
  refine zle_many 5 (142, (bif zcmp .ge a3 (F 6 5) then 19 else 11), [zR 52, zR 22, zI a2, zI a3, zR 0], [], F, G, zsg) rfl ?_
  refine zle_ge (fun _ => ?_) (fun _ => ?_)
  · refine zle_many 2 (142, 13, [zR 52, zR 22, zI a2, zI a3, zR 0], [zI a3, zR 22], F, G, zsg) rfl ?_
    refine zle_I rfl (fun v1 F1 G1 => ?_)
    refine zle_many 1 (142, (bif zcmp .eq v1 0 then 21 else 19), [zR 52, zR 22, zI a2, zI a3, zR 0], [], F1, G1, zsg) rfl ?_
    refine zle_eq (fun _ => ?_) (fun _ => ?_)
    · refine zle_many 3 (142, 26, [zR 52, zR 22, zI a2, zI a3, zR 0], [zI a2, zR 26], F1, G1, zsg) rfl ?_
      refine zle_ald rfl rfl rfl (fun _ => ?_)
      refine zle_many 4 (142, 35, [zR 52, zR 22, zI a2, zI a3, zR 0], [zI a3, zR 9, zI (F1 26 (Int.toNat a2))], F1, G1, zsg) rfl ?_
      refine zle_ald rfl rfl rfl (fun _ => ?_)
      refine zle_I rfl (fun v2 F2 G2 => ?_)
      refine zle_many 1 (142, (bif zcmp .ne v2 0 then 45 else 42), [zR 52, zR 22, zI a2, zI a3, zR 0], [], F2, G2, zsg) rfl ?_
      refine zle_ne (fun _ => ?_) (fun _ => ?_)
      · refine zle_many 1 (142, 44, [zR 52, zR 22, zI a2, zI a3, zR 0], [zI 7], F2, G2, zsg) rfl ?_
        exact zle_ret rfl
      · refine zle_many 4 (142, 53, [zR 52, zR 22, zI a2, zI a3, zR 0], [zI a3, zR 10], F2, G2, zsg) rfl ?_
        refine zle_ald rfl rfl rfl (fun _ => ?_)
        refine zle_many 3 (142, (bif zcmp .lt (F2 10 (Int.toNat a3)) 0 then 75 else 61), [zR 52, zR 22, zI a2, zI a3, zI (F2 10 (Int.toNat a3))], [], F2, G2, zsg) rfl ?_
        refine zle_lt (fun _ => ?_) (fun _ => ?_)
        · refine zle_many 9 (142, 88, [zR 52, zR 22, zI a2, zI a3, zI (F2 10 (Int.toNat a3))], [zI 0], (zup F2 22 1 (zor (F2 22 1) (zshl 1 a3))), G2, zsg) rfl ?_
          exact zle_ret rfl
        · refine zle_many 3 (142, 66, [zR 52, zR 22, zI a2, zI a3, zI (F2 10 (Int.toNat a3))], [zI a2, zR 27], F2, G2, zsg) rfl ?_
          refine zle_ald rfl rfl rfl (fun _ => ?_)
          refine zle_many 2 (142, (bif zcmp .eq (F2 27 (Int.toNat a2)) (F2 10 (Int.toNat a3)) then 75 else 72), [zR 52, zR 22, zI a2, zI a3, zI (F2 10 (Int.toNat a3))], [], F2, G2, zsg) rfl ?_
          refine zle_eq (fun _ => ?_) (fun _ => ?_)
          · refine zle_many 9 (142, 88, [zR 52, zR 22, zI a2, zI a3, zI (F2 10 (Int.toNat a3))], [zI 0], (zup F2 22 1 (zor (F2 22 1) (zshl 1 a3))), G2, zsg) rfl ?_
            exact zle_ret rfl
          · refine zle_many 1 (142, 74, [zR 52, zR 22, zI a2, zI a3, zI (F2 10 (Int.toNat a3))], [zI 6], F2, G2, zsg) rfl ?_
            exact zle_ret rfl
    · refine zle_many 1 (142, 20, [zR 52, zR 22, zI a2, zI a3, zR 0], [zI 5], F1, G1, zsg) rfl ?_
      exact zle_ret rfl
  · refine zle_many 1 (142, 20, [zR 52, zR 22, zI a2, zI a3, zR 0], [zI 5], F, G, zsg) rfl ?_
    exact zle_ret rfl
set_option maxRecDepth 20000 in
theorem g_Acts_playAll {d : Nat} {F : zM} {G : zG} (a2 : Int) (a3 : Int) : zle (
  zev zX0 d (143, 8, [zR 52, zR 22, zI a2, zI a3, zI 0, zR 0, zR 0], [], (zup F 52 3 (-1)), G, zsg)) (zex (d + 1) 143 [zR 52, zR 22, zI a2, zI a3] (F, G, zsg)) := by
  refine zle_ent (ls := [zR 52, zR 22, zI a2, zI a3, zR 0, zR 0, zR 0]) ?_
  refine zle_many 5 (143, 8, [zR 52, zR 22, zI a2, zI a3, zI 0, zR 0, zR 0], [], (zup F 52 3 (-1)), G, zsg) rfl ?_
  exact zle_rfl
set_option maxRecDepth 20000 in
theorem g_Acts_playAll_8 {d : Nat} {F : zM} {G : zG} (l2 : Int) (l3 : Int) (l4 : Int) : zle (
  if 0 ≤ l3 ∧ l3 < 6 then
  if l4 < (F 48 (Int.toNat l3)) then
    zbI (zex d 216 [zI l3, zI l4] (F, G, zsg)) (fun v1 F1 G1 =>
      if 0 ≤ v1 ∧ v1 < 72 then
        if 0 ≤ v1 ∧ v1 < 72 then
          if 0 ≤ v1 ∧ v1 < 72 then
            zbI (zex d 138 [zR 52, zR 22, zI l2, zI (F1 49 (Int.toNat v1)), zI (F1 50 (Int.toNat v1)), zI (F1 51 (Int.toNat v1))] (F1, G1, zsg)) (fun v2 F2 G2 =>
              if v2 = 0 then
                zev zX0 d (143, 8, [zR 52, zR 22, zI l2, zI l3, zI (zadd l4 1), zR 0, zR 0], [], F2, G2, zsg)
              else
                some (some (zI v2), (zup F2 52 3 l4), G2, zsg))
          else none
        else none
      else none)
  else
    some (some (zI 0), F, G, zsg)
else none) (zev zX0 d (143, 8, [zR 52, zR 22, zI l2, zI l3, zI l4, zR 0, zR 0], [], F, G, zsg)) := by
  refine zle_many 5 (143, 18, [zR 52, zR 22, zI l2, zI l3, zI l4, zR 0, zR 0], [zI l3, zR 48, zI l4], F, G, zsg) rfl ?_
  refine zle_ald rfl rfl rfl (fun _ => ?_)
  refine zle_many 1 (143, (bif zcmp .ge l4 (F 48 (Int.toNat l3)) then 88 else 22), [zR 52, zR 22, zI l2, zI l3, zI l4, zR 0, zR 0], [], F, G, zsg) rfl ?_
  refine zle_ge (fun _ => ?_) (fun _ => ?_)
  · refine zle_many 2 (143, 25, [zR 52, zR 22, zI l2, zI l3, zI l4, zR 0, zR 0], [zI l4, zI l3], F, G, zsg) rfl ?_
    refine zle_I rfl (fun v1 F1 G1 => ?_)
    refine zle_many 8 (143, 42, [zR 52, zR 22, zI l2, zI l3, zI l4, zI v1, zR 0], [zI v1, zR 49, zI l2, zR 22, zR 52], F1, G1, zsg) rfl ?_
    refine zle_ald rfl rfl rfl (fun _ => ?_)
    refine zle_many 4 (143, 52, [zR 52, zR 22, zI l2, zI l3, zI l4, zI v1, zR 0], [zI v1, zR 50, zI (F1 49 (Int.toNat v1)), zI l2, zR 22, zR 52], F1, G1, zsg) rfl ?_
    refine zle_ald rfl rfl rfl (fun _ => ?_)
    refine zle_many 4 (143, 62, [zR 52, zR 22, zI l2, zI l3, zI l4, zI v1, zR 0], [zI v1, zR 51, zI (F1 50 (Int.toNat v1)), zI (F1 49 (Int.toNat v1)), zI l2, zR 22, zR 52], F1, G1, zsg) rfl ?_
    refine zle_ald rfl rfl rfl (fun _ => ?_)
    refine zle_I rfl (fun v2 F2 G2 => ?_)
    refine zle_many 3 (143, (bif zcmp .eq v2 0 then 82 else 73), [zR 52, zR 22, zI l2, zI l3, zI l4, zI v1, zI v2], [], F2, G2, zsg) rfl ?_
    refine zle_eq (fun _ => ?_) (fun _ => ?_)
    · refine zle_many 2 (143, 8, [zR 52, zR 22, zI l2, zI l3, zI (zadd l4 1), zI v1, zI v2], [], F2, G2, zsg) rfl ?_
      exact zle_wk ⟨Or.inl rfl, Or.inl rfl, Or.inl rfl, Or.inl rfl, Or.inl rfl, Or.inr rfl, Or.inr rfl, trivial⟩
    · refine zle_many 4 (143, 81, [zR 52, zR 22, zI l2, zI l3, zI l4, zI v1, zI v2], [zI v2], (zup F2 52 3 l4), G2, zsg) rfl ?_
      exact zle_ret rfl
  · refine zle_many 1 (143, 89, [zR 52, zR 22, zI l2, zI l3, zI l4, zR 0, zR 0], [zI 0], F, G, zsg) rfl ?_
    exact zle_ret rfl
set_option maxRecDepth 20000 in
theorem g_Acts_tickHand {d : Nat} {F : zM} {G : zG} (a2 : Int) : zle (
  if 0 ≤ a2 ∧ a2 < 2 then
  if (F 18 (Int.toNat a2)) < 0 then
    some (none, F, G, zsg)
  else
    if 0 ≤ a2 ∧ a2 < 2 then
      if 0 ≤ (F 18 (Int.toNat a2)) ∧ (F 18 (Int.toNat a2)) < 6 then
        if (F 19 (Int.toNat a2)) < (F 48 (Int.toNat (F 18 (Int.toNat a2)))) then
          zbI (zex d 216 [zI (F 18 (Int.toNat a2)), zI (F 19 (Int.toNat a2))] (F, G, zsg)) (fun v1 F1 G1 =>
            if 0 ≤ v1 ∧ v1 < 72 then
              if 0 ≤ v1 ∧ v1 < 72 then
                if (F1 49 (Int.toNat v1)) = 0 then
                  zbV (zex d 146 [zR 52, zR 11, zI a2, zI (F1 50 (Int.toNat v1))] (F1, G1, zsg)) (fun F5 G5 =>
                    some (none, F5, G5, zsg))
                else
                if (F1 49 (Int.toNat v1)) = 4 then
                  zbV (zex d 145 [zR 11, zI a2, zI (F1 50 (Int.toNat v1))] (F1, G1, zsg)) (fun F4 G4 =>
                    some (none, F4, G4, zsg))
                else
                if 0 ≤ v1 ∧ v1 < 72 then
                    zbI (zex d 138 [zR 52, zR 11, zI a2, zI (F1 49 (Int.toNat v1)), zI (F1 50 (Int.toNat v1)), zI (F1 51 (Int.toNat v1))] (F1, G1, zsg)) (fun v2 F2 G2 =>
                      zbV (zex d 148 [zR 11, zI a2, zI v2] (F2, G2, zsg)) (fun F3 G3 =>
                        some (none, F3, G3, zsg)))
                  else none
              else none
            else none)
        else
          if 0 ≤ a2 ∧ a2 < 2 then
            some (none, (zup F 18 (Int.toNat a2) (-1)), G, zsg)
          else none
      else none
    else none
else none) (zex (d + 1) 144 [zR 52, zR 11, zI a2] (F, G, zsg)) := by
  refine zle_ent (ls := [zR 52, zR 11, zI a2, zR 0, zR 0, zR 0, zR 0, zR 0]) ?_
  refine zle_many 3 (144, 5, [zR 52, zR 11, zI a2, zR 0, zR 0, zR 0, zR 0, zR 0], [zI a2, zR 18], F, G, zsg) rfl ?_
  refine zle_ald rfl rfl rfl (fun _ => ?_)
  refine zle_many 3 (144, (bif zcmp .ge (F 18 (Int.toNat a2)) 0 then 12 else 11), [zR 52, zR 11, zI a2, zI (F 18 (Int.toNat a2)), zR 0, zR 0, zR 0, zR 0], [], F, G, zsg) rfl ?_
  refine zle_ge (fun _ => ?_) (fun _ => ?_)
  · exact zle_ret rfl
  · refine zle_many 3 (144, 17, [zR 52, zR 11, zI a2, zI (F 18 (Int.toNat a2)), zR 0, zR 0, zR 0, zR 0], [zI a2, zR 19], F, G, zsg) rfl ?_
    refine zle_ald rfl rfl rfl (fun _ => ?_)
    refine zle_many 6 (144, 30, [zR 52, zR 11, zI a2, zI (F 18 (Int.toNat a2)), zI (F 19 (Int.toNat a2)), zR 0, zR 0, zR 0], [zI (F 18 (Int.toNat a2)), zR 48, zI (F 19 (Int.toNat a2))], F, G, zsg) rfl ?_
    refine zle_ald rfl rfl rfl (fun _ => ?_)
    refine zle_many 1 (144, (bif zcmp .lt (F 19 (Int.toNat a2)) (F 48 (Int.toNat (F 18 (Int.toNat a2)))) then 42 else 34), [zR 52, zR 11, zI a2, zI (F 18 (Int.toNat a2)), zI (F 19 (Int.toNat a2)), zR 0, zR 0, zR 0], [], F, G, zsg) rfl ?_
    refine zle_lt (fun _ => ?_) (fun _ => ?_)
    · refine zle_many 2 (144, 45, [zR 52, zR 11, zI a2, zI (F 18 (Int.toNat a2)), zI (F 19 (Int.toNat a2)), zR 0, zR 0, zR 0], [zI (F 19 (Int.toNat a2)), zI (F 18 (Int.toNat a2))], F, G, zsg) rfl ?_
      refine zle_I rfl (fun v1 F1 G1 => ?_)
      refine zle_many 5 (144, 59, [zR 52, zR 11, zI a2, zI (F 18 (Int.toNat a2)), zI (F 19 (Int.toNat a2)), zI v1, zR 0, zR 0], [zI v1, zR 49], F1, G1, zsg) rfl ?_
      refine zle_ald rfl rfl rfl (fun _ => ?_)
      refine zle_many 5 (144, 71, [zR 52, zR 11, zI a2, zI (F 18 (Int.toNat a2)), zI (F 19 (Int.toNat a2)), zI v1, zI (F1 49 (Int.toNat v1)), zR 0], [zI v1, zR 50], F1, G1, zsg) rfl ?_
      refine zle_ald rfl rfl rfl (fun _ => ?_)
      refine zle_many 3 (144, zsw (F1 49 (Int.toNat v1)) [(0, 114), (4, 104)] 125, [zR 52, zR 11, zI a2, zI (F 18 (Int.toNat a2)), zI (F 19 (Int.toNat a2)), zI v1, zI (F1 49 (Int.toNat v1)), zI (F1 50 (Int.toNat v1))], [], F1, G1, zsg) rfl ?_
      refine zle_sw (fun _ => ?_) (fun _ => ?_)
      · refine zle_many 4 (144, 119, [zR 52, zR 11, zI a2, zI (F 18 (Int.toNat a2)), zI (F 19 (Int.toNat a2)), zI v1, zI (F1 49 (Int.toNat v1)), zI (F1 50 (Int.toNat v1))], [zI (F1 50 (Int.toNat v1)), zI a2, zR 11, zR 52], F1, G1, zsg) rfl ?_
        refine zle_V rfl (fun F5 G5 => ?_)
        refine zle_many 1 (144, 150, [zR 52, zR 11, zI a2, zI (F 18 (Int.toNat a2)), zI (F 19 (Int.toNat a2)), zI v1, zI (F1 49 (Int.toNat v1)), zI (F1 50 (Int.toNat v1))], [], F5, G5, zsg) rfl ?_
        exact zle_ret rfl
      · refine zle_sw (fun _ => ?_) (fun _ => ?_)
        · refine zle_many 3 (144, 108, [zR 52, zR 11, zI a2, zI (F 18 (Int.toNat a2)), zI (F 19 (Int.toNat a2)), zI v1, zI (F1 49 (Int.toNat v1)), zI (F1 50 (Int.toNat v1))], [zI (F1 50 (Int.toNat v1)), zI a2, zR 11], F1, G1, zsg) rfl ?_
          refine zle_V rfl (fun F4 G4 => ?_)
          refine zle_many 1 (144, 150, [zR 52, zR 11, zI a2, zI (F 18 (Int.toNat a2)), zI (F 19 (Int.toNat a2)), zI v1, zI (F1 49 (Int.toNat v1)), zI (F1 50 (Int.toNat v1))], [], F4, G4, zsg) rfl ?_
          exact zle_ret rfl
        · refine zle_many 11 (144, 143, [zR 52, zR 11, zI a2, zI (F 18 (Int.toNat a2)), zI (F 19 (Int.toNat a2)), zI v1, zI (F1 49 (Int.toNat v1)), zI (F1 50 (Int.toNat v1))], [zI v1, zR 51, zI (F1 50 (Int.toNat v1)), zI (F1 49 (Int.toNat v1)), zI a2, zR 11, zR 52, zI a2, zR 11], F1, G1, zsg) rfl ?_
          refine zle_ald rfl rfl rfl (fun _ => ?_)
          refine zle_I rfl (fun v2 F2 G2 => ?_)
          refine zle_V rfl (fun F3 G3 => ?_)
          exact zle_ret rfl
    · refine zle_many 4 (144, 40, [zR 52, zR 11, zI a2, zI (F 18 (Int.toNat a2)), zI (F 19 (Int.toNat a2)), zR 0, zR 0, zR 0], [zI (-1), zI a2, zR 18], F, G, zsg) rfl ?_
      refine zle_ast rfl rfl rfl (fun _ => ?_)
      exact zle_ret rfl
set_option maxRecDepth 20000 in
theorem g_Acts_tickWait {d : Nat} {F : zM} {G : zG} (a1 : Int) (a2 : Int) : zle (
  if 0 ≤ a1 ∧ a1 < 2 then
  if 0 ≤ a1 ∧ a1 < 2 then
    if 0 ≤ a1 ∧ a1 < 2 then
      if ((zup F 20 (Int.toNat a1) (zadd (F 20 (Int.toNat a1)) 1)) 20 (Int.toNat a1)) < a2 then
        some (none, (zup F 20 (Int.toNat a1) (zadd (F 20 (Int.toNat a1)) 1)), G, zsg)
      else
        zbV (zex d 206 [zR 11, zI a1] ((zup F 20 (Int.toNat a1) (zadd (F 20 (Int.toNat a1)) 1)), G, zsg)) (fun F1 G1 =>
          some (none, F1, G1, zsg))
    else none
  else none
else none) (zex (d + 1) 145 [zR 11, zI a1, zI a2] (F, G, zsg)) := by
  refine zle_ent (ls := [zR 11, zI a1, zI a2]) ?_
  refine zle_many 4 (145, 6, [zR 11, zI a1, zI a2], [zI a1, zR 20, zI a1, zR 20], F, G, zsg) rfl ?_
  refine zle_ald rfl rfl rfl (fun _ => ?_)
  refine zle_many 2 (145, 9, [zR 11, zI a1, zI a2], [zI (zadd (F 20 (Int.toNat a1)) 1), zI a1, zR 20], F, G, zsg) rfl ?_
  refine zle_ast rfl rfl rfl (fun _ => ?_)
  refine zle_many 3 (145, 15, [zR 11, zI a1, zI a2], [zI a1, zR 20], (zup F 20 (Int.toNat a1) (zadd (F 20 (Int.toNat a1)) 1)), G, zsg) rfl ?_
  refine zle_ald rfl rfl rfl (fun _ => ?_)
  refine zle_many 2 (145, (bif zcmp .lt ((zup F 20 (Int.toNat a1) (zadd (F 20 (Int.toNat a1)) 1)) 20 (Int.toNat a1)) a2 then 25 else 20), [zR 11, zI a1, zI a2], [], (zup F 20 (Int.toNat a1) (zadd (F 20 (Int.toNat a1)) 1)), G, zsg) rfl ?_
  refine zle_lt (fun _ => ?_) (fun _ => ?_)
  · exact zle_ret rfl
  · refine zle_many 2 (145, 22, [zR 11, zI a1, zI a2], [zI a1, zR 11], (zup F 20 (Int.toNat a1) (zadd (F 20 (Int.toNat a1)) 1)), G, zsg) rfl ?_
    refine zle_V rfl (fun F1 G1 => ?_)
    exact zle_ret rfl
set_option maxRecDepth 20000 in
theorem g_Acts_tickGo {d : Nat} {F : zM} {G : zG} (a2 : Int) (a3 : Int) : zle (
  if 0 ≤ a2 ∧ a2 < 2 then
  if (F 15 (Int.toNat a2)) = a3 then
    zbV (zex d 206 [zR 11, zI a2] (F, G, zsg)) (fun F4 G4 =>
      some (none, F4, G4, zsg))
  else
    zbI (zex d 147 [zR 52, zR 11, zI a2, zI a3] (F, G, zsg)) (fun v1 F1 G1 =>
      if v1 < 0 then
        if 0 ≤ a2 ∧ a2 < 2 then
          if 0 ≤ a2 ∧ a2 < 2 then
            some (none, (zup F1 21 (Int.toNat a2) (zadd (F1 21 (Int.toNat a2)) 1)), G1, zsg)
          else none
        else none
      else
        zbV (zex d 202 [zR 11, zI a2, zI v1, zI 1] (F1, G1, zsg)) (fun F2 G2 =>
          if 0 ≤ a2 ∧ a2 < 2 then
            if v1 = a3 then
              zbV (zex d 206 [zR 11, zI a2] ((zup F2 21 (Int.toNat a2) 0), G2, zsg)) (fun F3 G3 =>
                some (none, F3, G3, zsg))
            else
              some (none, (zup F2 21 (Int.toNat a2) 0), G2, zsg)
          else none))
else none) (zex (d + 1) 146 [zR 52, zR 11, zI a2, zI a3] (F, G, zsg)) := by
  refine zle_ent (ls := [zR 52, zR 11, zI a2, zI a3, zR 0]) ?_
  refine zle_many 3 (146, 5, [zR 52, zR 11, zI a2, zI a3, zR 0], [zI a2, zR 15], F, G, zsg) rfl ?_
  refine zle_ald rfl rfl rfl (fun _ => ?_)
  refine zle_many 2 (146, (bif zcmp .ne (F 15 (Int.toNat a2)) a3 then 16 else 10), [zR 52, zR 11, zI a2, zI a3, zR 0], [], F, G, zsg) rfl ?_
  refine zle_ne (fun _ => ?_) (fun _ => ?_)
  · refine zle_many 2 (146, 12, [zR 52, zR 11, zI a2, zI a3, zR 0], [zI a2, zR 11], F, G, zsg) rfl ?_
    refine zle_V rfl (fun F4 G4 => ?_)
    exact zle_ret rfl
  · refine zle_many 4 (146, 20, [zR 52, zR 11, zI a2, zI a3, zR 0], [zI a3, zI a2, zR 11, zR 52], F, G, zsg) rfl ?_
    refine zle_I rfl (fun v1 F1 G1 => ?_)
    refine zle_many 3 (146, (bif zcmp .ge v1 0 then 41 else 30), [zR 52, zR 11, zI a2, zI a3, zI v1], [], F1, G1, zsg) rfl ?_
    refine zle_ge (fun _ => ?_) (fun _ => ?_)
    · refine zle_many 4 (146, 36, [zR 52, zR 11, zI a2, zI a3, zI v1], [zI a2, zR 21, zI a2, zR 21], F1, G1, zsg) rfl ?_
      refine zle_ald rfl rfl rfl (fun _ => ?_)
      refine zle_many 2 (146, 39, [zR 52, zR 11, zI a2, zI a3, zI v1], [zI (zadd (F1 21 (Int.toNat a2)) 1), zI a2, zR 21], F1, G1, zsg) rfl ?_
      refine zle_ast rfl rfl rfl (fun _ => ?_)
      exact zle_ret rfl
    · refine zle_many 4 (146, 46, [zR 52, zR 11, zI a2, zI a3, zI v1], [zI 1, zI v1, zI a2, zR 11], F1, G1, zsg) rfl ?_
      refine zle_V rfl (fun F2 G2 => ?_)
      refine zle_many 4 (146, 55, [zR 52, zR 11, zI a2, zI a3, zI v1], [zI 0, zI a2, zR 21], F2, G2, zsg) rfl ?_
      refine zle_ast rfl rfl rfl (fun _ => ?_)
      refine zle_many 3 (146, (bif zcmp .ne v1 a3 then 67 else 62), [zR 52, zR 11, zI a2, zI a3, zI v1], [], (zup F2 21 (Int.toNat a2) 0), G2, zsg) rfl ?_
      refine zle_ne (fun _ => ?_) (fun _ => ?_)
      · refine zle_many 2 (146, 64, [zR 52, zR 11, zI a2, zI a3, zI v1], [zI a2, zR 11], (zup F2 21 (Int.toNat a2) 0), G2, zsg) rfl ?_
        refine zle_V rfl (fun F3 G3 => ?_)
        exact zle_ret rfl
      · exact zle_ret rfl
set_option maxRecDepth 20000 in
theorem g_Acts_firstStep {d : Nat} {F : zM} {G : zG} (a2 : Int) (a3 : Int) : zle (
  if 0 ≤ a2 ∧ a2 < 2 then
  if (F 15 (Int.toNat a2)) < 0 then
    some (some (zI (-1)), F, G, zsg)
  else
    zbV (zex d 233 [zR 44, zR 11, zI a2, zI 0] (F, G, zsg)) (fun F1 G1 =>
      zbI (zex d 235 [zR 44, zI a3] (F1, G1, zsg)) (fun v2 F2 G2 =>
        if v2 < 0 then
          some (some (zI (-1)), F2, G2, zsg)
        else
          zbI (zex d 236 [zR 44, zI a3, zI 1] (F2, G2, zsg)) (fun v3 F3 G3 =>
            some (some (zI v3), F3, G3, zsg))))
else none) (zex (d + 1) 147 [zR 52, zR 11, zI a2, zI a3] (F, G, zsg)) := by
  refine zle_ent (ls := [zR 52, zR 11, zI a2, zI a3]) ?_
  refine zle_many 3 (147, 5, [zR 52, zR 11, zI a2, zI a3], [zI a2, zR 15], F, G, zsg) rfl ?_
  refine zle_ald rfl rfl rfl (fun _ => ?_)
  refine zle_many 1 (147, (bif zcmp .ge (F 15 (Int.toNat a2)) 0 then 11 else 9), [zR 52, zR 11, zI a2, zI a3], [], F, G, zsg) rfl ?_
  refine zle_ge (fun _ => ?_) (fun _ => ?_)
  · refine zle_many 1 (147, 10, [zR 52, zR 11, zI a2, zI a3], [zI (-1)], F, G, zsg) rfl ?_
    exact zle_ret rfl
  · refine zle_many 5 (147, 18, [zR 52, zR 11, zI a2, zI a3], [zI 0, zI a2, zR 11, zR 44], F, G, zsg) rfl ?_
    refine zle_V rfl (fun F1 G1 => ?_)
    refine zle_many 3 (147, 26, [zR 52, zR 11, zI a2, zI a3], [zI a3, zR 44], F1, G1, zsg) rfl ?_
    refine zle_I rfl (fun v2 F2 G2 => ?_)
    refine zle_many 1 (147, (bif zcmp .ge v2 0 then 36 else 32), [zR 52, zR 11, zI a2, zI a3], [], F2, G2, zsg) rfl ?_
    refine zle_ge (fun _ => ?_) (fun _ => ?_)
    · refine zle_many 2 (147, 45, [zR 52, zR 11, zI a2, zI a3], [zI (-1)], F2, G2, zsg) rfl ?_
      exact zle_ret rfl
    · refine zle_many 4 (147, 42, [zR 52, zR 11, zI a2, zI a3], [zI 1, zI a3, zR 44], F2, G2, zsg) rfl ?_
      refine zle_I rfl (fun v3 F3 G3 => ?_)
      exact zle_ret rfl
set_option maxRecDepth 20000 in
theorem g_Acts_tickOther {d : Nat} {F : zM} {G : zG} (a1 : Int) (a2 : Int) : zle (
  if a2 = 0 then
  zbV (zex d 206 [zR 11, zI a1] (F, G, zsg)) (fun F1 G1 =>
    some (none, F1, G1, zsg))
else
  if 0 ≤ a1 ∧ a1 < 2 then
    if 0 ≤ a1 ∧ a1 < 2 then
      some (none, (zup F 21 (Int.toNat a1) (zadd (F 21 (Int.toNat a1)) 1)), G, zsg)
    else none
  else none) (zex (d + 1) 148 [zR 11, zI a1, zI a2] (F, G, zsg)) := by
  refine zle_ent (ls := [zR 11, zI a1, zI a2]) ?_
  refine zle_many 2 (148, (bif zcmp .ne a2 0 then 12 else 4), [zR 11, zI a1, zI a2], [], F, G, zsg) rfl ?_
  refine zle_ne (fun _ => ?_) (fun _ => ?_)
  · refine zle_many 2 (148, 6, [zR 11, zI a1, zI a2], [zI a1, zR 11], F, G, zsg) rfl ?_
    refine zle_V rfl (fun F1 G1 => ?_)
    refine zle_many 1 (148, 22, [zR 11, zI a1, zI a2], [], F1, G1, zsg) rfl ?_
    exact zle_ret rfl
  · refine zle_many 4 (148, 18, [zR 11, zI a1, zI a2], [zI a1, zR 21, zI a1, zR 21], F, G, zsg) rfl ?_
    refine zle_ald rfl rfl rfl (fun _ => ?_)
    refine zle_many 2 (148, 21, [zR 11, zI a1, zI a2], [zI (zadd (F 21 (Int.toNat a1)) 1), zI a1, zR 21], F, G, zsg) rfl ?_
    refine zle_ast rfl rfl rfl (fun _ => ?_)
    exact zle_ret rfl
set_option maxRecDepth 20000 in
theorem g_Cells_isCell {d : Nat} {F : zM} {G : zG} (a0 : Int) : zle (
  if a0 < 0 then
  some (some (zI 0), F, G, zsg)
else
  if a0 < 64 then
    some (some (zI 1), F, G, zsg)
  else
    some (some (zI 0), F, G, zsg)) (zex (d + 1) 149 [zI a0] (F, G, zsg)) := by
  refine zle_ent (ls := [zI a0]) ?_
  refine zle_many 2 (149, (bif zcmp .lt a0 0 then 14 else 4), [zI a0], [], F, G, zsg) rfl ?_
  refine zle_lt (fun _ => ?_) (fun _ => ?_)
  · refine zle_many 1 (149, 15, [zI a0], [zI 0], F, G, zsg) rfl ?_
    exact zle_ret rfl
  · refine zle_many 3 (149, (bif zcmp .ge a0 64 then 14 else 10), [zI a0], [], F, G, zsg) rfl ?_
    refine zle_ge (fun _ => ?_) (fun _ => ?_)
    · refine zle_many 2 (149, 15, [zI a0], [zI 1], F, G, zsg) rfl ?_
      exact zle_ret rfl
    · refine zle_many 1 (149, 15, [zI a0], [zI 0], F, G, zsg) rfl ?_
      exact zle_ret rfl
set_option maxRecDepth 20000 in
theorem g_Cells_isSide {d : Nat} {F : zM} {G : zG} (a0 : Int) : zle (
  if a0 < 0 then
  some (some (zI 0), F, G, zsg)
else
  if 3 < a0 then
    some (some (zI 0), F, G, zsg)
  else
    some (some (zI 1), F, G, zsg)) (zex (d + 1) 150 [zI a0] (F, G, zsg)) := by
  refine zle_ent (ls := [zI a0]) ?_
  refine zle_many 2 (150, (bif zcmp .lt a0 0 then 13 else 4), [zI a0], [], F, G, zsg) rfl ?_
  refine zle_lt (fun _ => ?_) (fun _ => ?_)
  · refine zle_many 1 (150, 14, [zI a0], [zI 0], F, G, zsg) rfl ?_
    exact zle_ret rfl
  · refine zle_many 3 (150, (bif zcmp .gt a0 3 then 13 else 9), [zI a0], [], F, G, zsg) rfl ?_
    refine zle_gt (fun _ => ?_) (fun _ => ?_)
    · refine zle_many 1 (150, 14, [zI a0], [zI 0], F, G, zsg) rfl ?_
      exact zle_ret rfl
    · refine zle_many 2 (150, 14, [zI a0], [zI 1], F, G, zsg) rfl ?_
      exact zle_ret rfl
set_option maxRecDepth 20000 in
theorem g_Cells_bit {d : Nat} {F : zM} {G : zG} (a0 : Int) : zle (
  some (some (zL (zlshl (BitVec.ofNat 64 1) a0)), F, G, zsg)) (zex (d + 1) 151 [zI a0] (F, G, zsg)) := by
  refine zle_ent (ls := [zI a0]) ?_
  refine zle_many 3 (151, 3, [zI a0], [zL (zlshl (BitVec.ofNat 64 1) a0)], F, G, zsg) rfl ?_
  exact zle_ret rfl
set_option maxRecDepth 20000 in
theorem g_Cells_has {d : Nat} {F : zM} {G : zG} (a0 : BitVec 64) (a1 : Int) : zle (
  if (zlcmp (zland (zlushr a0 a1) (BitVec.ofNat 64 1)) (BitVec.ofNat 64 0)) = 0 then
  some (some (zI 0), F, G, zsg)
else
  some (some (zI 1), F, G, zsg)) (zex (d + 1) 152 [zL a0, zI a1] (F, G, zsg)) := by
  refine zle_ent (ls := [zL a0, zR 0, zI a1]) ?_
  refine zle_many 8 (152, (bif zcmp .eq (zlcmp (zland (zlushr a0 a1) (BitVec.ofNat 64 1)) (BitVec.ofNat 64 0)) 0 then 14 else 10), [zL a0, zR 0, zI a1], [], F, G, zsg) rfl ?_
  refine zle_eq (fun _ => ?_) (fun _ => ?_)
  · refine zle_many 1 (152, 15, [zL a0, zR 0, zI a1], [zI 0], F, G, zsg) rfl ?_
    exact zle_ret rfl
  · refine zle_many 2 (152, 15, [zL a0, zR 0, zI a1], [zI 1], F, G, zsg) rfl ?_
    exact zle_ret rfl
set_option maxRecDepth 20000 in
theorem g_Cells_at {d : Nat} {F : zM} {G : zG} (a0 : Int) (a1 : Int) : zle (
  if a0 < 0 then
  some (some (zI (-1)), F, G, zsg)
else
  if a0 < 8 then
    if a1 < 0 then
      some (some (zI (-1)), F, G, zsg)
    else
      if a1 < 8 then
        some (some (zI (zadd (zmul a1 8) a0)), F, G, zsg)
      else
        some (some (zI (-1)), F, G, zsg)
  else
    some (some (zI (-1)), F, G, zsg)) (zex (d + 1) 153 [zI a0, zI a1] (F, G, zsg)) := by
  refine zle_ent (ls := [zI a0, zI a1]) ?_
  refine zle_many 2 (153, (bif zcmp .lt a0 0 then 20 else 4), [zI a0, zI a1], [], F, G, zsg) rfl ?_
  refine zle_lt (fun _ => ?_) (fun _ => ?_)
  · refine zle_many 2 (153, 30, [zI a0, zI a1], [zI (-1)], F, G, zsg) rfl ?_
    exact zle_ret rfl
  · refine zle_many 3 (153, (bif zcmp .ge a0 8 then 20 else 10), [zI a0, zI a1], [], F, G, zsg) rfl ?_
    refine zle_ge (fun _ => ?_) (fun _ => ?_)
    · refine zle_many 2 (153, (bif zcmp .lt a1 0 then 20 else 14), [zI a0, zI a1], [], F, G, zsg) rfl ?_
      refine zle_lt (fun _ => ?_) (fun _ => ?_)
      · refine zle_many 2 (153, 30, [zI a0, zI a1], [zI (-1)], F, G, zsg) rfl ?_
        exact zle_ret rfl
      · refine zle_many 3 (153, (bif zcmp .lt a1 8 then 24 else 20), [zI a0, zI a1], [], F, G, zsg) rfl ?_
        refine zle_lt (fun _ => ?_) (fun _ => ?_)
        · refine zle_many 5 (153, 30, [zI a0, zI a1], [zI (zadd (zmul a1 8) a0)], F, G, zsg) rfl ?_
          exact zle_ret rfl
        · refine zle_many 2 (153, 30, [zI a0, zI a1], [zI (-1)], F, G, zsg) rfl ?_
          exact zle_ret rfl
    · refine zle_many 2 (153, 30, [zI a0, zI a1], [zI (-1)], F, G, zsg) rfl ?_
      exact zle_ret rfl
set_option maxRecDepth 20000 in
theorem g_Cells_beside {d : Nat} {F : zM} {G : zG} (a0 : Int) (a1 : Int) : zle (
  if a1 = 0 then
  zbI (zex d 153 [zI (zrem a0 8), zI (zsub (zdiv a0 8) 1)] (F, G, zsg)) (fun v4 F4 G4 =>
    some (some (zI v4), F4, G4, zsg))
else
if a1 = 1 then
  zbI (zex d 153 [zI (zadd (zrem a0 8) 1), zI (zdiv a0 8)] (F, G, zsg)) (fun v3 F3 G3 =>
    some (some (zI v3), F3, G3, zsg))
else
if a1 = 2 then
  zbI (zex d 153 [zI (zrem a0 8), zI (zadd (zdiv a0 8) 1)] (F, G, zsg)) (fun v2 F2 G2 =>
    some (some (zI v2), F2, G2, zsg))
else
zbI (zex d 153 [zI (zsub (zrem a0 8) 1), zI (zdiv a0 8)] (F, G, zsg)) (fun v1 F1 G1 =>
    some (some (zI v1), F1, G1, zsg))) (zex (d + 1) 154 [zI a0, zI a1] (F, G, zsg)) := by
  refine zle_ent (ls := [zI a0, zI a1, zR 0, zR 0]) ?_
  refine zle_many 10 (154, zsw a1 [(0, 36), (1, 44), (2, 52)] 60, [zI a0, zI a1, zI (zrem a0 8), zI (zdiv a0 8)], [], F, G, zsg) rfl ?_
  refine zle_sw (fun _ => ?_) (fun _ => ?_)
  · refine zle_many 4 (154, 40, [zI a0, zI a1, zI (zrem a0 8), zI (zdiv a0 8)], [zI (zsub (zdiv a0 8) 1), zI (zrem a0 8)], F, G, zsg) rfl ?_
    refine zle_I rfl (fun v4 F4 G4 => ?_)
    exact zle_ret rfl
  · refine zle_sw (fun _ => ?_) (fun _ => ?_)
    · refine zle_many 4 (154, 48, [zI a0, zI a1, zI (zrem a0 8), zI (zdiv a0 8)], [zI (zdiv a0 8), zI (zadd (zrem a0 8) 1)], F, G, zsg) rfl ?_
      refine zle_I rfl (fun v3 F3 G3 => ?_)
      exact zle_ret rfl
    · refine zle_sw (fun _ => ?_) (fun _ => ?_)
      · refine zle_many 4 (154, 56, [zI a0, zI a1, zI (zrem a0 8), zI (zdiv a0 8)], [zI (zadd (zdiv a0 8) 1), zI (zrem a0 8)], F, G, zsg) rfl ?_
        refine zle_I rfl (fun v2 F2 G2 => ?_)
        exact zle_ret rfl
      · refine zle_many 4 (154, 64, [zI a0, zI a1, zI (zrem a0 8), zI (zdiv a0 8)], [zI (zdiv a0 8), zI (zsub (zrem a0 8) 1)], F, G, zsg) rfl ?_
        refine zle_I rfl (fun v1 F1 G1 => ?_)
        exact zle_ret rfl
set_option maxRecDepth 20000 in
theorem g_Cells_areBeside {d : Nat} {F : zM} {G : zG} (a0 : Int) (a1 : Int) : zle (
  zev zX0 d (155, 2, [zI a0, zI a1, zI 0], [], F, G, zsg)) (zex (d + 1) 155 [zI a0, zI a1] (F, G, zsg)) := by
  refine zle_ent (ls := [zI a0, zI a1, zR 0]) ?_
  refine zle_many 2 (155, 2, [zI a0, zI a1, zI 0], [], F, G, zsg) rfl ?_
  exact zle_rfl
set_option maxRecDepth 20000 in
theorem g_Cells_areBeside_2 {d : Nat} {F : zM} {G : zG} (l0 : Int) (l1 : Int) (l2 : Int) : zle (
  if 3 < l2 then
  some (some (zI 0), F, G, zsg)
else
  zbI (zex d 154 [zI l0, zI l2] (F, G, zsg)) (fun v1 F1 G1 =>
    if v1 = l1 then
      some (some (zI 1), F1, G1, zsg)
    else
      zev zX0 d (155, 2, [zI l0, zI l1, zI (zadd l2 1)], [], F1, G1, zsg))) (zev zX0 d (155, 2, [zI l0, zI l1, zI l2], [], F, G, zsg)) := by
  refine zle_many 3 (155, (bif zcmp .gt l2 3 then 24 else 7), [zI l0, zI l1, zI l2], [], F, G, zsg) rfl ?_
  refine zle_gt (fun _ => ?_) (fun _ => ?_)
  · refine zle_many 1 (155, 25, [zI l0, zI l1, zI l2], [zI 0], F, G, zsg) rfl ?_
    exact zle_ret rfl
  · refine zle_many 2 (155, 9, [zI l0, zI l1, zI l2], [zI l2, zI l0], F, G, zsg) rfl ?_
    refine zle_I rfl (fun v1 F1 G1 => ?_)
    refine zle_many 2 (155, (bif zcmp .ne v1 l1 then 18 else 16), [zI l0, zI l1, zI l2], [], F1, G1, zsg) rfl ?_
    refine zle_ne (fun _ => ?_) (fun _ => ?_)
    · refine zle_many 1 (155, 17, [zI l0, zI l1, zI l2], [zI 1], F1, G1, zsg) rfl ?_
      exact zle_ret rfl
    · refine zle_many 2 (155, 2, [zI l0, zI l1, zI (zadd l2 1)], [], F1, G1, zsg) rfl ?_
      exact zle_rfl
set_option maxRecDepth 20000 in
theorem g_Cells_allBeside {d : Nat} {F : zM} {G : zG} (a0 : BitVec 64) (a1 : Int) : zle (
  if a1 = 0 then
  some (some (zL (zlor (zlshl (zland a0 (BitVec.ofInt 64 (9187201950435737471))) 1) (zlushr (zland a0 (BitVec.ofInt 64 (-72340172838076674))) 1))), F, G, zsg)
else
  some (some (zL (zlor (zlor (zlor (zlshl (zland a0 (BitVec.ofInt 64 (9187201950435737471))) 1) (zlushr (zland a0 (BitVec.ofInt 64 (-72340172838076674))) 1)) (zlshl a0 8)) (zlushr a0 8))), F, G, zsg)) (zex (d + 1) 156 [zL a0, zI a1] (F, G, zsg)) := by
  refine zle_ent (ls := [zL a0, zR 0, zI a1, zR 0, zR 0]) ?_
  refine zle_many 14 (156, (bif zcmp .eq a1 0 then 34 else 20), [zL a0, zR 0, zI a1, zL (zlor (zlshl (zland a0 (BitVec.ofInt 64 (9187201950435737471))) 1) (zlushr (zland a0 (BitVec.ofInt 64 (-72340172838076674))) 1)), zR 0], [], F, G, zsg) rfl ?_
  refine zle_eq (fun _ => ?_) (fun _ => ?_)
  · refine zle_many 1 (156, 35, [zL a0, zR 0, zI a1, zL (zlor (zlshl (zland a0 (BitVec.ofInt 64 (9187201950435737471))) 1) (zlushr (zland a0 (BitVec.ofInt 64 (-72340172838076674))) 1)), zR 0], [zL (zlor (zlshl (zland a0 (BitVec.ofInt 64 (9187201950435737471))) 1) (zlushr (zland a0 (BitVec.ofInt 64 (-72340172838076674))) 1))], F, G, zsg) rfl ?_
    exact zle_ret rfl
  · refine zle_many 10 (156, 35, [zL a0, zR 0, zI a1, zL (zlor (zlshl (zland a0 (BitVec.ofInt 64 (9187201950435737471))) 1) (zlushr (zland a0 (BitVec.ofInt 64 (-72340172838076674))) 1)), zR 0], [zL (zlor (zlor (zlor (zlshl (zland a0 (BitVec.ofInt 64 (9187201950435737471))) 1) (zlushr (zland a0 (BitVec.ofInt 64 (-72340172838076674))) 1)) (zlshl a0 8)) (zlushr a0 8))], F, G, zsg) rfl ?_
    exact zle_ret rfl
set_option maxRecDepth 20000 in
theorem g_Cells_shifted {d : Nat} {F : zM} {G : zG} (a0 : BitVec 64) (a1 : Int) (a2 : Int) : zle (
  if 0 < a2 then
  if a2 < 0 then
    zev zX0 d (157, 28, [zL a0, zR 0, zI a1, zI a2, zL (zlushr (zlshl a0 8) 8), zR 0, zI 0], [], F, G, zsg)
  else
    zev zX0 d (157, 28, [zL a0, zR 0, zI a1, zI a2, zL (zlshl a0 8), zR 0, zI 0], [], F, G, zsg)
else
  if a2 < 0 then
    zev zX0 d (157, 28, [zL a0, zR 0, zI a1, zI a2, zL (zlushr a0 8), zR 0, zI 0], [], F, G, zsg)
  else
    zev zX0 d (157, 28, [zL a0, zR 0, zI a1, zI a2, zL a0, zR 0, zI 0], [], F, G, zsg)) (zex (d + 1) 157 [zL a0, zI a1, zI a2] (F, G, zsg)) := by
  refine zle_ent (ls := [zL a0, zR 0, zI a1, zI a2, zR 0, zR 0, zR 0]) ?_
  refine zle_many 4 (157, (bif zcmp .le a2 0 then 14 else 7), [zL a0, zR 0, zI a1, zI a2, zL a0, zR 0, zR 0], [], F, G, zsg) rfl ?_
  refine zle_le (fun _ => ?_) (fun _ => ?_)
  · refine zle_many 6 (157, (bif zcmp .ge a2 0 then 25 else 18), [zL a0, zR 0, zI a1, zI a2, zL (zlshl a0 8), zR 0, zR 0], [], F, G, zsg) rfl ?_
    refine zle_ge (fun _ => ?_) (fun _ => ?_)
    · refine zle_many 6 (157, 28, [zL a0, zR 0, zI a1, zI a2, zL (zlushr (zlshl a0 8) 8), zR 0, zI 0], [], F, G, zsg) rfl ?_
      exact zle_rfl
    · refine zle_many 2 (157, 28, [zL a0, zR 0, zI a1, zI a2, zL (zlshl a0 8), zR 0, zI 0], [], F, G, zsg) rfl ?_
      exact zle_rfl
  · refine zle_many 2 (157, (bif zcmp .ge a2 0 then 25 else 18), [zL a0, zR 0, zI a1, zI a2, zL a0, zR 0, zR 0], [], F, G, zsg) rfl ?_
    refine zle_ge (fun _ => ?_) (fun _ => ?_)
    · refine zle_many 6 (157, 28, [zL a0, zR 0, zI a1, zI a2, zL (zlushr a0 8), zR 0, zI 0], [], F, G, zsg) rfl ?_
      exact zle_rfl
    · refine zle_many 2 (157, 28, [zL a0, zR 0, zI a1, zI a2, zL a0, zR 0, zI 0], [], F, G, zsg) rfl ?_
      exact zle_rfl
set_option maxRecDepth 20000 in
theorem g_Cells_shifted_28 {d : Nat} {F : zM} {G : zG} (l0 : BitVec 64) (l2 : Int) (l3 : Int) (l4 : BitVec 64) (l6 : Int) : zle (
  if l6 < l2 then
  zev zX0 d (157, 28, [zL l0, zR 0, zI l2, zI l3, zL (zlshl (zland l4 (BitVec.ofInt 64 (9187201950435737471))) 1), zR 0, zI (zadd l6 1)], [], F, G, zsg)
else
  zev zX0 d (157, 53, [zL l0, zR 0, zI l2, zI l3, zL l4, zR 0, zI 0], [], F, G, zsg)) (zev zX0 d (157, 28, [zL l0, zR 0, zI l2, zI l3, zL l4, zR 0, zI l6], [], F, G, zsg)) := by
  refine zle_many 3 (157, (bif zcmp .ge l6 l2 then 50 else 34), [zL l0, zR 0, zI l2, zI l3, zL l4, zR 0, zI l6], [], F, G, zsg) rfl ?_
  refine zle_ge (fun _ => ?_) (fun _ => ?_)
  · refine zle_many 8 (157, 28, [zL l0, zR 0, zI l2, zI l3, zL (zlshl (zland l4 (BitVec.ofInt 64 (9187201950435737471))) 1), zR 0, zI (zadd l6 1)], [], F, G, zsg) rfl ?_
    exact zle_rfl
  · refine zle_many 2 (157, 53, [zL l0, zR 0, zI l2, zI l3, zL l4, zR 0, zI 0], [], F, G, zsg) rfl ?_
    exact zle_rfl
set_option maxRecDepth 20000 in
theorem g_Cells_shifted_53 {d : Nat} {F : zM} {G : zG} (l0 : BitVec 64) (l2 : Int) (l3 : Int) (l4 : BitVec 64) (l6 : Int) : zle (
  if l2 < l6 then
  zev zX0 d (157, 53, [zL l0, zR 0, zI l2, zI l3, zL (zlushr (zland l4 (BitVec.ofInt 64 (-72340172838076674))) 1), zR 0, zI (zadd l6 (-1))], [], F, G, zsg)
else
  some (some (zL l4), F, G, zsg)) (zev zX0 d (157, 53, [zL l0, zR 0, zI l2, zI l3, zL l4, zR 0, zI l6], [], F, G, zsg)) := by
  refine zle_many 3 (157, (bif zcmp .le l6 l2 then 75 else 59), [zL l0, zR 0, zI l2, zI l3, zL l4, zR 0, zI l6], [], F, G, zsg) rfl ?_
  refine zle_le (fun _ => ?_) (fun _ => ?_)
  · refine zle_many 8 (157, 53, [zL l0, zR 0, zI l2, zI l3, zL (zlushr (zland l4 (BitVec.ofInt 64 (-72340172838076674))) 1), zR 0, zI (zadd l6 (-1))], [], F, G, zsg) rfl ?_
    exact zle_rfl
  · refine zle_many 1 (157, 77, [zL l0, zR 0, zI l2, zI l3, zL l4, zR 0, zI l6], [zL l4], F, G, zsg) rfl ?_
    exact zle_ret rfl
set_option maxRecDepth 20000 in
theorem g_Cells_isInRow {d : Nat} {F : zM} {G : zG} (a0 : Int) (a1 : Int) : zle (
  if 8 < (zadd (zrem a0 8) a1) then
  some (some (zI 0), F, G, zsg)
else
  some (some (zI 1), F, G, zsg)) (zex (d + 1) 158 [zI a0, zI a1] (F, G, zsg)) := by
  refine zle_ent (ls := [zI a0, zI a1]) ?_
  refine zle_many 7 (158, (bif zcmp .gt (zadd (zrem a0 8) a1) 8 then 15 else 11), [zI a0, zI a1], [], F, G, zsg) rfl ?_
  refine zle_gt (fun _ => ?_) (fun _ => ?_)
  · refine zle_many 1 (158, 16, [zI a0, zI a1], [zI 0], F, G, zsg) rfl ?_
    exact zle_ret rfl
  · refine zle_many 2 (158, 16, [zI a0, zI a1], [zI 1], F, G, zsg) rfl ?_
    exact zle_ret rfl
set_option maxRecDepth 20000 in
theorem g_Cells_row {d : Nat} {F : zM} {G : zG} (a0 : Int) (a1 : Int) : zle (
  if a0 < 0 then
  some (some (zL (BitVec.ofNat 64 0)), F, G, zsg)
else
  some (some (zL (zlshl (zlsub (zlshl (BitVec.ofNat 64 1) a1) (BitVec.ofNat 64 1)) a0)), F, G, zsg)) (zex (d + 1) 159 [zI a0, zI a1] (F, G, zsg)) := by
  refine zle_ent (ls := [zI a0, zI a1]) ?_
  refine zle_many 2 (159, (bif zcmp .ge a0 0 then 8 else 4), [zI a0, zI a1], [], F, G, zsg) rfl ?_
  refine zle_ge (fun _ => ?_) (fun _ => ?_)
  · refine zle_many 2 (159, 15, [zI a0, zI a1], [zL (BitVec.ofNat 64 0)], F, G, zsg) rfl ?_
    exact zle_ret rfl
  · refine zle_many 7 (159, 15, [zI a0, zI a1], [zL (zlshl (zlsub (zlshl (BitVec.ofNat 64 1) a1) (BitVec.ofNat 64 1)) a0)], F, G, zsg) rfl ?_
    exact zle_ret rfl
set_option maxRecDepth 20000 in
theorem g_Cells_eastOfHand {d : Nat} {F : zM} {G : zG} (a0 : Int) (a1 : Int) : zle (
  if a0 = 1 then
  some (some (zI (zneg a1)), F, G, zsg)
else
  if a0 = 3 then
    some (some (zI 1), F, G, zsg)
  else
    some (some (zI 0), F, G, zsg)) (zex (d + 1) 160 [zI a0, zI a1] (F, G, zsg)) := by
  refine zle_ent (ls := [zI a0, zI a1]) ?_
  refine zle_many 3 (160, (bif zcmp .ne a0 1 then 10 else 5), [zI a0, zI a1], [], F, G, zsg) rfl ?_
  refine zle_ne (fun _ => ?_) (fun _ => ?_)
  · refine zle_many 3 (160, 20, [zI a0, zI a1], [zI (zneg a1)], F, G, zsg) rfl ?_
    exact zle_ret rfl
  · refine zle_many 3 (160, (bif zcmp .ne a0 3 then 19 else 15), [zI a0, zI a1], [], F, G, zsg) rfl ?_
    refine zle_ne (fun _ => ?_) (fun _ => ?_)
    · refine zle_many 2 (160, 20, [zI a0, zI a1], [zI 1], F, G, zsg) rfl ?_
      exact zle_ret rfl
    · refine zle_many 1 (160, 20, [zI a0, zI a1], [zI 0], F, G, zsg) rfl ?_
      exact zle_ret rfl
set_option maxRecDepth 20000 in
theorem g_Cells_southOfHand {d : Nat} {F : zM} {G : zG} (a0 : Int) : zle (
  if a0 = 0 then
  some (some (zI 1), F, G, zsg)
else
  if a0 = 2 then
    some (some (zI (-1)), F, G, zsg)
  else
    some (some (zI 0), F, G, zsg)) (zex (d + 1) 161 [zI a0] (F, G, zsg)) := by
  refine zle_ent (ls := [zI a0]) ?_
  refine zle_many 2 (161, (bif zcmp .ne a0 0 then 8 else 4), [zI a0], [], F, G, zsg) rfl ?_
  refine zle_ne (fun _ => ?_) (fun _ => ?_)
  · refine zle_many 2 (161, 18, [zI a0], [zI 1], F, G, zsg) rfl ?_
    exact zle_ret rfl
  · refine zle_many 3 (161, (bif zcmp .ne a0 2 then 17 else 13), [zI a0], [], F, G, zsg) rfl ?_
    refine zle_ne (fun _ => ?_) (fun _ => ?_)
    · refine zle_many 2 (161, 18, [zI a0], [zI (-1)], F, G, zsg) rfl ?_
      exact zle_ret rfl
    · refine zle_many 1 (161, 18, [zI a0], [zI 0], F, G, zsg) rfl ?_
      exact zle_ret rfl
set_option maxRecDepth 20000 in
theorem g_Cells_handCell {d : Nat} {F : zM} {G : zG} (a0 : Int) (a1 : Int) (a2 : Int) : zle (
  zbI (zex d 160 [zI a2, zI a1] (F, G, zsg)) (fun v1 F1 G1 =>
  zbI (zex d 161 [zI a2] (F1, G1, zsg)) (fun v2 F2 G2 =>
    zbI (zex d 153 [zI (zsub (zrem a0 8) v1), zI (zsub (zdiv a0 8) v2)] (F2, G2, zsg)) (fun v3 F3 G3 =>
      some (some (zI v3), F3, G3, zsg))))) (zex (d + 1) 162 [zI a0, zI a1, zI a2] (F, G, zsg)) := by
  refine zle_ent (ls := [zI a0, zI a1, zI a2]) ?_
  refine zle_many 5 (162, 6, [zI a0, zI a1, zI a2], [zI a1, zI a2, zI (zrem a0 8)], F, G, zsg) rfl ?_
  refine zle_I rfl (fun v1 F1 G1 => ?_)
  refine zle_many 5 (162, 15, [zI a0, zI a1, zI a2], [zI a2, zI (zdiv a0 8), zI (zsub (zrem a0 8) v1)], F1, G1, zsg) rfl ?_
  refine zle_I rfl (fun v2 F2 G2 => ?_)
  refine zle_many 1 (162, 19, [zI a0, zI a1, zI a2], [zI (zsub (zdiv a0 8) v2), zI (zsub (zrem a0 8) v1)], F2, G2, zsg) rfl ?_
  refine zle_I rfl (fun v3 F3 G3 => ?_)
  exact zle_ret rfl
set_option maxRecDepth 20000 in
theorem g_Chances_add {d : Nat} {F : zM} {G : zG} (a1 : Int) (a2 : Int) (a3 : Int) : zle (
  if 0 ≤ (F 64 4) ∧ (F 64 4) < 6 then
  if 0 ≤ (F 64 4) ∧ (F 64 4) < 6 then
    some (some (zI (F 64 4)), (zup (zup (zup (zup F 64 5 a1) 65 (Int.toNat (F 64 4)) a2) 66 (Int.toNat (F 64 4)) a3) 64 4 (zadd (F 64 4) 1)), G, zsg)
  else none
else none) (zex (d + 1) 164 [zR 64, zI a1, zI a2, zI a3] (F, G, zsg)) := by
  refine zle_ent (ls := [zR 64, zI a1, zI a2, zI a3]) ?_
  refine zle_many 8 (164, 14, [zR 64, zI a1, zI a2, zI a3], [zI a2, zI (F 64 4), zR 65], (zup F 64 5 a1), G, zsg) rfl ?_
  refine zle_ast rfl rfl rfl (fun _ => ?_)
  refine zle_many 5 (164, 24, [zR 64, zI a1, zI a2, zI a3], [zI a3, zI (F 64 4), zR 66], (zup (zup F 64 5 a1) 65 (Int.toNat (F 64 4)) a2), G, zsg) rfl ?_
  refine zle_ast rfl rfl rfl (fun _ => ?_)
  refine zle_many 7 (164, 36, [zR 64, zI a1, zI a2, zI a3], [zI (F 64 4)], (zup (zup (zup (zup F 64 5 a1) 65 (Int.toNat (F 64 4)) a2) 66 (Int.toNat (F 64 4)) a3) 64 4 (zadd (F 64 4) 1)), G, zsg) rfl ?_
  exact zle_ret rfl
set_option maxRecDepth 20000 in
theorem g_Chances_weigh {d : Nat} {F : zM} {G : zG} (a2 : Int) (a3 : Int) : zle (
  zev zX0 d (165, 23, [zR 64, zR 11, zI a2, zI a3, zI 0], [], (zup (zup (zup (zup F 64 8 0) 64 10 0) 64 11 0) 64 9 0), G, zsg)) (zex (d + 1) 165 [zR 64, zR 11, zI a2, zI a3] (F, G, zsg)) := by
  refine zle_ent (ls := [zR 64, zR 11, zI a2, zI a3, zR 0]) ?_
  refine zle_many 14 (165, 23, [zR 64, zR 11, zI a2, zI a3, zI 0], [], (zup (zup (zup (zup F 64 8 0) 64 10 0) 64 11 0) 64 9 0), G, zsg) rfl ?_
  exact zle_rfl
set_option maxRecDepth 20000 in
theorem g_Chances_weigh_23 {d : Nat} {F : zM} {G : zG} (l2 : Int) (l3 : Int) (l4 : Int) : zle (
  if l4 < (F 64 4) then
  if 0 ≤ l4 ∧ l4 < 6 then
    if 0 ≤ l4 ∧ l4 < 6 then
      zbI (zex d 166 [zR 64, zR 11, zI (F 65 (Int.toNat l4))] ((zup F 64 11 (zadd (F 64 11) (F 66 (Int.toNat l4)))), G, zsg)) (fun v1 F1 G1 =>
        if v1 = 0 then
          zev zX0 d (165, 23, [zR 64, zR 11, zI l2, zI l3, zI (zadd l4 1)], [], F1, G1, zsg)
        else
          zbV (zex d 198 [zR 22, zR 11] (F1, G1, zsg)) (fun F2 G2 =>
            if 0 ≤ l4 ∧ l4 < 6 then
              if 0 ≤ (F2 64 5) ∧ (F2 64 5) < 8 then
                zbI (zex d 143 [zR 52, zR 22, zI l2, zI l3] ((zup F2 23 (Int.toNat (F2 64 5)) (F2 65 (Int.toNat l4))), G2, zsg)) (fun v3 F3 G3 =>
                  if v3 = 0 then
                    if 0 ≤ l4 ∧ l4 < 6 then
                      if 0 ≤ l2 ∧ l2 < 2 then
                        if 0 ≤ l2 ∧ l2 < 2 then
                        zbI (zex d 244 [zI (F3 64 9), zI (zsub (F3 28 (Int.toNat l2)) (F3 17 (Int.toNat l2)))] ((zup (zup F3 64 8 (zor (F3 64 8) (zshl 1 l4))) 64 10 (zadd (F3 64 10) (F3 66 (Int.toNat l4)))), G3, zsg)) (fun v4 F4 G4 =>
                        zev zX0 d (165, 23, [zR 64, zR 11, zI l2, zI l3, zI (zadd l4 1)], [], (zup F4 64 9 v4), G4, zsg))
                      else none
                      else none
                    else none
                  else
                    zev zX0 d (165, 23, [zR 64, zR 11, zI l2, zI l3, zI (zadd l4 1)], [], F3, G3, zsg))
              else none
            else none))
    else none
  else none
else
  some (none, F, G, zsg)) (zev zX0 d (165, 23, [zR 64, zR 11, zI l2, zI l3, zI l4], [], F, G, zsg)) := by
  refine zle_many 4 (165, (bif zcmp .ge l4 (F 64 4) then 174 else 32), [zR 64, zR 11, zI l2, zI l3, zI l4], [], F, G, zsg) rfl ?_
  refine zle_ge (fun _ => ?_) (fun _ => ?_)
  · refine zle_many 6 (165, 43, [zR 64, zR 11, zI l2, zI l3, zI l4], [zI l4, zR 66, zI (F 64 11), zR 64], F, G, zsg) rfl ?_
    refine zle_ald rfl rfl rfl (fun _ => ?_)
    refine zle_many 7 (165, 56, [zR 64, zR 11, zI l2, zI l3, zI l4], [zI l4, zR 65, zR 11, zR 64], (zup F 64 11 (zadd (F 64 11) (F 66 (Int.toNat l4)))), G, zsg) rfl ?_
    refine zle_ald rfl rfl rfl (fun _ => ?_)
    refine zle_many 0 (165, 57, [zR 64, zR 11, zI l2, zI l3, zI l4], [zI (F 65 (Int.toNat l4)), zR 11, zR 64], (zup F 64 11 (zadd (F 64 11) (F 66 (Int.toNat l4)))), G, zsg) rfl ?_
    refine zle_I rfl (fun v1 F1 G1 => ?_)
    refine zle_many 1 (165, (bif zcmp .ne v1 0 then 66 else 63), [zR 64, zR 11, zI l2, zI l3, zI l4], [], F1, G1, zsg) rfl ?_
    refine zle_ne (fun _ => ?_) (fun _ => ?_)
    · refine zle_many 3 (165, 23, [zR 64, zR 11, zI l2, zI l3, zI (zadd l4 1)], [], F1, G1, zsg) rfl ?_
      exact zle_rfl
    · refine zle_many 3 (165, 71, [zR 64, zR 11, zI l2, zI l3, zI l4], [zR 11, zR 22], F1, G1, zsg) rfl ?_
      refine zle_V rfl (fun F2 G2 => ?_)
      refine zle_many 8 (165, 91, [zR 64, zR 11, zI l2, zI l3, zI l4], [zI l4, zR 65, zI (F2 64 5), zR 23], F2, G2, zsg) rfl ?_
      refine zle_ald rfl rfl rfl (fun _ => ?_)
      refine zle_ast rfl rfl rfl (fun _ => ?_)
      refine zle_many 6 (165, 103, [zR 64, zR 11, zI l2, zI l3, zI l4], [zI l3, zI l2, zR 22, zR 52], (zup F2 23 (Int.toNat (F2 64 5)) (F2 65 (Int.toNat l4))), G2, zsg) rfl ?_
      refine zle_I rfl (fun v3 F3 G3 => ?_)
      refine zle_many 1 (165, (bif zcmp .eq v3 0 then 112 else 109), [zR 64, zR 11, zI l2, zI l3, zI l4], [], F3, G3, zsg) rfl ?_
      refine zle_eq (fun _ => ?_) (fun _ => ?_)
      · refine zle_many 14 (165, 136, [zR 64, zR 11, zI l2, zI l3, zI l4], [zI l4, zR 66, zI (F3 64 10), zR 64], (zup F3 64 8 (zor (F3 64 8) (zshl 1 l4))), G3, zsg) rfl ?_
        refine zle_ald rfl rfl rfl (fun _ => ?_)
        refine zle_many 0 (165, 137, [zR 64, zR 11, zI l2, zI l3, zI l4], [zI (F3 66 (Int.toNat l4)), zI (F3 64 10), zR 64], (zup F3 64 8 (zor (F3 64 8) (zshl 1 l4))), G3, zsg) rfl ?_
        refine zle_many 9 (165, 154, [zR 64, zR 11, zI l2, zI l3, zI l4], [zI l2, zR 28, zI (F3 64 9), zR 64], (zup (zup F3 64 8 (zor (F3 64 8) (zshl 1 l4))) 64 10 (zadd (F3 64 10) (F3 66 (Int.toNat l4)))), G3, zsg) rfl ?_
        refine zle_ald rfl rfl rfl (fun _ => ?_)
        refine zle_many 0 (165, 155, [zR 64, zR 11, zI l2, zI l3, zI l4], [zI (F3 28 (Int.toNat l2)), zI (F3 64 9), zR 64], (zup (zup F3 64 8 (zor (F3 64 8) (zshl 1 l4))) 64 10 (zadd (F3 64 10) (F3 66 (Int.toNat l4)))), G3, zsg) rfl ?_
        refine zle_many 3 (165, 160, [zR 64, zR 11, zI l2, zI l3, zI l4], [zI l2, zR 17, zI (F3 28 (Int.toNat l2)), zI (F3 64 9), zR 64], (zup (zup F3 64 8 (zor (F3 64 8) (zshl 1 l4))) 64 10 (zadd (F3 64 10) (F3 66 (Int.toNat l4)))), G3, zsg) rfl ?_
        refine zle_ald rfl rfl rfl (fun _ => ?_)
        refine zle_many 0 (165, 161, [zR 64, zR 11, zI l2, zI l3, zI l4], [zI (F3 17 (Int.toNat l2)), zI (F3 28 (Int.toNat l2)), zI (F3 64 9), zR 64], (zup (zup F3 64 8 (zor (F3 64 8) (zshl 1 l4))) 64 10 (zadd (F3 64 10) (F3 66 (Int.toNat l4)))), G3, zsg) rfl ?_
        refine zle_many 1 (165, 162, [zR 64, zR 11, zI l2, zI l3, zI l4], [zI (zsub (F3 28 (Int.toNat l2)) (F3 17 (Int.toNat l2))), zI (F3 64 9), zR 64], (zup (zup F3 64 8 (zor (F3 64 8) (zshl 1 l4))) 64 10 (zadd (F3 64 10) (F3 66 (Int.toNat l4)))), G3, zsg) rfl ?_
        refine zle_I rfl (fun v4 F4 G4 => ?_)
        refine zle_many 3 (165, 23, [zR 64, zR 11, zI l2, zI l3, zI (zadd l4 1)], [], (zup F4 64 9 v4), G4, zsg) rfl ?_
        exact zle_rfl
      · refine zle_many 3 (165, 23, [zR 64, zR 11, zI l2, zI l3, zI (zadd l4 1)], [], F3, G3, zsg) rfl ?_
        exact zle_rfl
  · exact zle_ret rfl
set_option maxRecDepth 20000 in
theorem g_Chances_canLay {d : Nat} {F : zM} {G : zG} (a2 : Int) : zle (
  if 0 ≤ (F 64 5) ∧ (F 64 5) < 8 then
  if (F 13 (Int.toNat (F 64 5))) < 0 then
    if 0 ≤ (F 64 5) ∧ (F 64 5) < 8 then
      zbI (zex d 231 [zR 44, zR 11, zI (F 64 5), zI (F 8 (Int.toNat (F 64 5))), zI a2] (F, G, zsg)) (fun v1 F1 G1 =>
        if v1 = 0 then
          some (some (zI 0), F1, G1, zsg)
        else
          some (some (zI 1), F1, G1, zsg))
    else none
  else
    some (some (zI 0), F, G, zsg)
else none) (zex (d + 1) 166 [zR 64, zR 11, zI a2] (F, G, zsg)) := by
  refine zle_ent (ls := [zR 64, zR 11, zI a2]) ?_
  refine zle_many 4 (166, 8, [zR 64, zR 11, zI a2], [zI (F 64 5), zR 13], F, G, zsg) rfl ?_
  refine zle_ald rfl rfl rfl (fun _ => ?_)
  refine zle_many 1 (166, (bif zcmp .ge (F 13 (Int.toNat (F 64 5))) 0 then 44 else 12), [zR 64, zR 11, zI a2], [], F, G, zsg) rfl ?_
  refine zle_ge (fun _ => ?_) (fun _ => ?_)
  · refine zle_many 10 (166, 32, [zR 64, zR 11, zI a2], [zI (F 64 5), zR 8, zI (F 64 5), zR 11, zR 44], F, G, zsg) rfl ?_
    refine zle_ald rfl rfl rfl (fun _ => ?_)
    refine zle_many 1 (166, 34, [zR 64, zR 11, zI a2], [zI a2, zI (F 8 (Int.toNat (F 64 5))), zI (F 64 5), zR 11, zR 44], F, G, zsg) rfl ?_
    refine zle_I rfl (fun v1 F1 G1 => ?_)
    refine zle_many 1 (166, (bif zcmp .eq v1 0 then 44 else 40), [zR 64, zR 11, zI a2], [], F1, G1, zsg) rfl ?_
    refine zle_eq (fun _ => ?_) (fun _ => ?_)
    · refine zle_many 1 (166, 45, [zR 64, zR 11, zI a2], [zI 0], F1, G1, zsg) rfl ?_
      exact zle_ret rfl
    · refine zle_many 2 (166, 45, [zR 64, zR 11, zI a2], [zI 1], F1, G1, zsg) rfl ?_
      exact zle_ret rfl
  · refine zle_many 1 (166, 45, [zR 64, zR 11, zI a2], [zI 0], F, G, zsg) rfl ?_
    exact zle_ret rfl
set_option maxRecDepth 20000 in
theorem g_Chances_above {d : Nat} {F : zM} {G : zG}  : zle (
  if (F 64 10) = 0 then
  some (some (zI 0), F, G, zsg)
else
  zbI (zex d 169 [zR 64] (F, G, zsg)) (fun v1 F1 G1 =>
    if v1 = 0 then none else
      some (some (zI (zdiv (F 64 10) v1)), F1, G1, zsg))) (zex (d + 1) 167 [zR 64] (F, G, zsg)) := by
  refine zle_ent (ls := [zR 64]) ?_
  refine zle_many 3 (167, (bif zcmp .ne (F 64 10) 0 then 11 else 7), [zR 64], [], F, G, zsg) rfl ?_
  refine zle_ne (fun _ => ?_) (fun _ => ?_)
  · refine zle_many 2 (167, 20, [zR 64], [zI 0], F, G, zsg) rfl ?_
    exact zle_ret rfl
  · refine zle_many 3 (167, 16, [zR 64], [zR 64, zI (F 64 10)], F, G, zsg) rfl ?_
    refine zle_I rfl (fun v1 F1 G1 => ?_)
    refine zle_div rfl (fun _ => ?_)
    exact zle_ret rfl
set_option maxRecDepth 20000 in
theorem g_Chances_below {d : Nat} {F : zM} {G : zG}  : zle (
  if (F 64 10) = 0 then
  some (some (zI 1), F, G, zsg)
else
  zbI (zex d 169 [zR 64] (F, G, zsg)) (fun v1 F1 G1 =>
    if v1 = 0 then none else
      some (some (zI (zdiv (F 64 11) v1)), F1, G1, zsg))) (zex (d + 1) 168 [zR 64] (F, G, zsg)) := by
  refine zle_ent (ls := [zR 64]) ?_
  refine zle_many 3 (168, (bif zcmp .ne (F 64 10) 0 then 11 else 7), [zR 64], [], F, G, zsg) rfl ?_
  refine zle_ne (fun _ => ?_) (fun _ => ?_)
  · refine zle_many 2 (168, 20, [zR 64], [zI 1], F, G, zsg) rfl ?_
    exact zle_ret rfl
  · refine zle_many 3 (168, 16, [zR 64], [zR 64, zI (F 64 11)], F, G, zsg) rfl ?_
    refine zle_I rfl (fun v1 F1 G1 => ?_)
    refine zle_div rfl (fun _ => ?_)
    exact zle_ret rfl
set_option maxRecDepth 20000 in
theorem g_Chances_commonPart {d : Nat} {F : zM} {G : zG}  : zle (
  zev zX0 d (169, 12, [zR 64, zI (F 64 11), zI (F 64 10), zI 0, zR 0], [], F, G, zsg)) (zex (d + 1) 169 [zR 64] (F, G, zsg)) := by
  refine zle_ent (ls := [zR 64, zR 0, zR 0, zR 0, zR 0]) ?_
  refine zle_many 8 (169, 12, [zR 64, zI (F 64 11), zI (F 64 10), zI 0, zR 0], [], F, G, zsg) rfl ?_
  exact zle_rfl
set_option maxRecDepth 20000 in
theorem g_Chances_commonPart_12 {d : Nat} {F : zM} {G : zG} (l1 : Int) (l2 : Int) (l3 : Int) : zle (
  if l3 < 100 then
  if l2 = 0 then
    zbI (zex d 244 [zI l1, zI 1] (F, G, zsg)) (fun v2 F2 G2 =>
      some (some (zI v2), F2, G2, zsg))
  else
    if l2 = 0 then none else
      zev zX0 d (169, 12, [zR 64, zI l2, zI (zrem l1 l2), zI (zadd l3 1), zR 0], [], F, G, zsg)
else
  zbI (zex d 244 [zI l1, zI 1] (F, G, zsg)) (fun v1 F1 G1 =>
    some (some (zI v1), F1, G1, zsg))) (zev zX0 d (169, 12, [zR 64, zI l1, zI l2, zI l3, zR 0], [], F, G, zsg)) := by
  refine zle_many 3 (169, (bif zcmp .ge l3 100 then 38 else 18), [zR 64, zI l1, zI l2, zI l3, zR 0], [], F, G, zsg) rfl ?_
  refine zle_ge (fun _ => ?_) (fun _ => ?_)
  · refine zle_many 2 (169, (bif zcmp .eq l2 0 then 38 else 22), [zR 64, zI l1, zI l2, zI l3, zR 0], [], F, G, zsg) rfl ?_
    refine zle_eq (fun _ => ?_) (fun _ => ?_)
    · refine zle_many 2 (169, 40, [zR 64, zI l1, zI l2, zI l3, zR 0], [zI 1, zI l1], F, G, zsg) rfl ?_
      refine zle_I rfl (fun v2 F2 G2 => ?_)
      exact zle_ret rfl
    · refine zle_many 2 (169, 24, [zR 64, zI l1, zI l2, zI l3, zR 0], [zI l2, zI l1], F, G, zsg) rfl ?_
      refine zle_rem rfl (fun _ => ?_)
      refine zle_many 7 (169, 12, [zR 64, zI l2, zI (zrem l1 l2), zI (zadd l3 1), zI (zrem l1 l2)], [], F, G, zsg) rfl ?_
      exact zle_wk ⟨Or.inl rfl, Or.inl rfl, Or.inl rfl, Or.inl rfl, Or.inr rfl, trivial⟩
  · refine zle_many 2 (169, 40, [zR 64, zI l1, zI l2, zI l3, zR 0], [zI 1, zI l1], F, G, zsg) rfl ?_
    refine zle_I rfl (fun v1 F1 G1 => ?_)
    exact zle_ret rfl
set_option maxRecDepth 20000 in
theorem g_Kinds_isKind {d : Nat} {F : zM} {G : zG} (a0 : Int) : zle (
  if a0 < 0 then
  some (some (zI 0), F, G, zsg)
else
  if a0 < 6 then
    some (some (zI 1), F, G, zsg)
  else
    some (some (zI 0), F, G, zsg)) (zex (d + 1) 170 [zI a0] (F, G, zsg)) := by
  refine zle_ent (ls := [zI a0]) ?_
  refine zle_many 2 (170, (bif zcmp .lt a0 0 then 14 else 4), [zI a0], [], F, G, zsg) rfl ?_
  refine zle_lt (fun _ => ?_) (fun _ => ?_)
  · refine zle_many 1 (170, 15, [zI a0], [zI 0], F, G, zsg) rfl ?_
    exact zle_ret rfl
  · refine zle_many 3 (170, (bif zcmp .ge a0 6 then 14 else 10), [zI a0], [], F, G, zsg) rfl ?_
    refine zle_ge (fun _ => ?_) (fun _ => ?_)
    · refine zle_many 2 (170, 15, [zI a0], [zI 1], F, G, zsg) rfl ?_
      exact zle_ret rfl
    · refine zle_many 1 (170, 15, [zI a0], [zI 0], F, G, zsg) rfl ?_
      exact zle_ret rfl
set_option maxRecDepth 20000 in
theorem g_Kinds_isWide {d : Nat} {F : zM} {G : zG} (a0 : Int) : zle (
  if a0 = 1 then
  some (some (zI 1), F, G, zsg)
else
  if a0 = 2 then
    some (some (zI 1), F, G, zsg)
  else
    some (some (zI 0), F, G, zsg)) (zex (d + 1) 171 [zI a0] (F, G, zsg)) := by
  refine zle_ent (ls := [zI a0]) ?_
  refine zle_many 3 (171, (bif zcmp .eq a0 1 then 10 else 5), [zI a0], [], F, G, zsg) rfl ?_
  refine zle_eq (fun _ => ?_) (fun _ => ?_)
  · refine zle_many 2 (171, 15, [zI a0], [zI 1], F, G, zsg) rfl ?_
    exact zle_ret rfl
  · refine zle_many 3 (171, (bif zcmp .ne a0 2 then 14 else 10), [zI a0], [], F, G, zsg) rfl ?_
    refine zle_ne (fun _ => ?_) (fun _ => ?_)
    · refine zle_many 2 (171, 15, [zI a0], [zI 1], F, G, zsg) rfl ?_
      exact zle_ret rfl
    · refine zle_many 1 (171, 15, [zI a0], [zI 0], F, G, zsg) rfl ?_
      exact zle_ret rfl
set_option maxRecDepth 20000 in
theorem g_Kinds_sidesOf {d : Nat} {F : zM} {G : zG} (a0 : Int) : zle (
  if 0 ≤ a0 ∧ a0 < 6 then
  some (some (zI ((zX0 2).2 (Int.toNat a0))), F, G, zsg)
else none) (zex (d + 1) 172 [zI a0] (F, G, zsg)) := by
  refine zle_ent (ls := [zI a0]) ?_
  refine zle_many 2 (172, 4, [zI a0], [zI a0, zR 2], F, G, zsg) rfl ?_
  refine zle_xld rfl (by decide) rfl rfl (fun _ => ?_)
  exact zle_ret rfl
set_option maxRecDepth 20000 in
theorem g_Kinds_isHeldFrom {d : Nat} {F : zM} {G : zG} (a0 : Int) (a1 : Int) : zle (
  if 0 ≤ a0 ∧ a0 < 6 then
  if (zand (zshr ((zX0 2).2 (Int.toNat a0)) a1) 1) = 0 then
    some (some (zI 0), F, G, zsg)
  else
    some (some (zI 1), F, G, zsg)
else none) (zex (d + 1) 173 [zI a0, zI a1] (F, G, zsg)) := by
  refine zle_ent (ls := [zI a0, zI a1]) ?_
  refine zle_many 2 (173, 4, [zI a0, zI a1], [zI a0, zR 2], F, G, zsg) rfl ?_
  refine zle_xld rfl (by decide) rfl rfl (fun _ => ?_)
  refine zle_many 5 (173, (bif zcmp .eq (zand (zshr ((zX0 2).2 (Int.toNat a0)) a1) 1) 0 then 16 else 12), [zI a0, zI a1], [], F, G, zsg) rfl ?_
  refine zle_eq (fun _ => ?_) (fun _ => ?_)
  · refine zle_many 1 (173, 17, [zI a0, zI a1], [zI 0], F, G, zsg) rfl ?_
    exact zle_ret rfl
  · refine zle_many 2 (173, 17, [zI a0, zI a1], [zI 1], F, G, zsg) rfl ?_
    exact zle_ret rfl
set_option maxRecDepth 20000 in
theorem g_Kinds_weightOf {d : Nat} {F : zM} {G : zG} (a0 : Int) (a1 : Int) : zle (
  if a0 = 1 then
  some (some (zI (zadd (zmul 2 a1) 3)), F, G, zsg)
else
if a0 = 2 then
  some (some (zI (zmul 2 a1)), F, G, zsg)
else
if a0 = 3 then
  some (some (zI (zdiv (zmul 2 a1) 2)), F, G, zsg)
else
if a0 = 4 then
  some (some (zI (zmul 2 (zadd (zmul 2 a1) 3))), F, G, zsg)
else
if a0 = 5 then
  some (some (zI (zsub (zmul 2 a1) 1)), F, G, zsg)
else
some (some (zI (zmul 2 a1)), F, G, zsg)) (zex (d + 1) 174 [zI a0, zI a1] (F, G, zsg)) := by
  refine zle_ent (ls := [zI a0, zI a1, zR 0, zR 0]) ?_
  refine zle_many 10 (174, zsw a0 [(1, 44), (2, 58), (3, 46), (4, 50), (5, 54)] 58, [zI a0, zI a1, zI (zmul 2 a1), zI (zadd (zmul 2 a1) 3)], [], F, G, zsg) rfl ?_
  refine zle_sw (fun _ => ?_) (fun _ => ?_)
  · refine zle_many 1 (174, 45, [zI a0, zI a1, zI (zmul 2 a1), zI (zadd (zmul 2 a1) 3)], [zI (zadd (zmul 2 a1) 3)], F, G, zsg) rfl ?_
    exact zle_ret rfl
  · refine zle_sw (fun _ => ?_) (fun _ => ?_)
    · refine zle_many 1 (174, 59, [zI a0, zI a1, zI (zmul 2 a1), zI (zadd (zmul 2 a1) 3)], [zI (zmul 2 a1)], F, G, zsg) rfl ?_
      exact zle_ret rfl
    · refine zle_sw (fun _ => ?_) (fun _ => ?_)
      · refine zle_many 3 (174, 49, [zI a0, zI a1, zI (zmul 2 a1), zI (zadd (zmul 2 a1) 3)], [zI (zdiv (zmul 2 a1) 2)], F, G, zsg) rfl ?_
        exact zle_ret rfl
      · refine zle_sw (fun _ => ?_) (fun _ => ?_)
        · refine zle_many 3 (174, 53, [zI a0, zI a1, zI (zmul 2 a1), zI (zadd (zmul 2 a1) 3)], [zI (zmul 2 (zadd (zmul 2 a1) 3))], F, G, zsg) rfl ?_
          exact zle_ret rfl
        · refine zle_sw (fun _ => ?_) (fun _ => ?_)
          · refine zle_many 3 (174, 57, [zI a0, zI a1, zI (zmul 2 a1), zI (zadd (zmul 2 a1) 3)], [zI (zsub (zmul 2 a1) 1)], F, G, zsg) rfl ?_
            exact zle_ret rfl
          · refine zle_many 1 (174, 59, [zI a0, zI a1, zI (zmul 2 a1), zI (zadd (zmul 2 a1) 3)], [zI (zmul 2 a1)], F, G, zsg) rfl ?_
            exact zle_ret rfl
set_option maxRecDepth 20000 in
theorem g_Kinds_isKey {d : Nat} {F : zM} {G : zG} (a0 : Int) : zle (
  if a0 = 3 then
  some (some (zI 1), F, G, zsg)
else
  some (some (zI 0), F, G, zsg)) (zex (d + 1) 175 [zI a0] (F, G, zsg)) := by
  refine zle_ent (ls := [zI a0]) ?_
  refine zle_many 3 (175, (bif zcmp .ne a0 3 then 9 else 5), [zI a0], [], F, G, zsg) rfl ?_
  refine zle_ne (fun _ => ?_) (fun _ => ?_)
  · refine zle_many 2 (175, 10, [zI a0], [zI 1], F, G, zsg) rfl ?_
    exact zle_ret rfl
  · refine zle_many 1 (175, 10, [zI a0], [zI 0], F, G, zsg) rfl ?_
    exact zle_ret rfl
set_option maxRecDepth 20000 in
theorem g_Kinds_turnsUp {d : Nat} {F : zM} {G : zG} (a0 : Int) : zle (
  if 0 ≤ a0 ∧ a0 < 6 then
  if ((zX0 4).2 (Int.toNat a0)) = 1 then
    some (some (zI 1), F, G, zsg)
  else
    some (some (zI 0), F, G, zsg)
else none) (zex (d + 1) 176 [zI a0] (F, G, zsg)) := by
  refine zle_ent (ls := [zI a0]) ?_
  refine zle_many 2 (176, 4, [zI a0], [zI a0, zR 4], F, G, zsg) rfl ?_
  refine zle_xld rfl (by decide) rfl rfl (fun _ => ?_)
  refine zle_many 2 (176, (bif zcmp .ne ((zX0 4).2 (Int.toNat a0)) 1 then 13 else 9), [zI a0], [], F, G, zsg) rfl ?_
  refine zle_ne (fun _ => ?_) (fun _ => ?_)
  · refine zle_many 2 (176, 14, [zI a0], [zI 1], F, G, zsg) rfl ?_
    exact zle_ret rfl
  · refine zle_many 1 (176, 14, [zI a0], [zI 0], F, G, zsg) rfl ?_
    exact zle_ret rfl
set_option maxRecDepth 20000 in
theorem g_Kinds_isOf {d : Nat} {F : zM} {G : zG} (a0 : Int) (a1 : Int) : zle (
  zev zX0 d (177, 4, [zI a0, zI a1, zI a0, zI 0], [], F, G, zsg)) (zex (d + 1) 177 [zI a0, zI a1] (F, G, zsg)) := by
  refine zle_ent (ls := [zI a0, zI a1, zR 0, zR 0]) ?_
  refine zle_many 4 (177, 4, [zI a0, zI a1, zI a0, zI 0], [], F, G, zsg) rfl ?_
  exact zle_rfl
set_option maxRecDepth 20000 in
theorem g_Kinds_isOf_4 {d : Nat} {F : zM} {G : zG} (l0 : Int) (l1 : Int) (l2 : Int) (l3 : Int) : zle (
  if l3 < 6 then
  if l2 < 0 then
    some (some (zI 0), F, G, zsg)
  else
    if l2 = l1 then
      some (some (zI 1), F, G, zsg)
    else
      if 0 ≤ l2 ∧ l2 < 6 then
        zev zX0 d (177, 4, [zI l0, zI l1, zI ((zX0 3).2 (Int.toNat l2)), zI (zadd l3 1)], [], F, G, zsg)
      else none
else
  some (some (zI 0), F, G, zsg)) (zev zX0 d (177, 4, [zI l0, zI l1, zI l2, zI l3], [], F, G, zsg)) := by
  refine zle_many 3 (177, (bif zcmp .ge l3 6 then 33 else 10), [zI l0, zI l1, zI l2, zI l3], [], F, G, zsg) rfl ?_
  refine zle_ge (fun _ => ?_) (fun _ => ?_)
  · refine zle_many 2 (177, (bif zcmp .lt l2 0 then 33 else 14), [zI l0, zI l1, zI l2, zI l3], [], F, G, zsg) rfl ?_
    refine zle_lt (fun _ => ?_) (fun _ => ?_)
    · refine zle_many 1 (177, 34, [zI l0, zI l1, zI l2, zI l3], [zI 0], F, G, zsg) rfl ?_
      exact zle_ret rfl
    · refine zle_many 3 (177, (bif zcmp .ne l2 l1 then 21 else 19), [zI l0, zI l1, zI l2, zI l3], [], F, G, zsg) rfl ?_
      refine zle_ne (fun _ => ?_) (fun _ => ?_)
      · refine zle_many 1 (177, 20, [zI l0, zI l1, zI l2, zI l3], [zI 1], F, G, zsg) rfl ?_
        exact zle_ret rfl
      · refine zle_many 2 (177, 25, [zI l0, zI l1, zI l2, zI l3], [zI l2, zR 3], F, G, zsg) rfl ?_
        refine zle_xld rfl (by decide) rfl rfl (fun _ => ?_)
        refine zle_many 3 (177, 4, [zI l0, zI l1, zI ((zX0 3).2 (Int.toNat l2)), zI (zadd l3 1)], [], F, G, zsg) rfl ?_
        exact zle_rfl
  · refine zle_many 1 (177, 34, [zI l0, zI l1, zI l2, zI l3], [zI 0], F, G, zsg) rfl ?_
    exact zle_ret rfl
set_option maxRecDepth 20000 in
theorem g_Planner_forget {d : Nat} {F : zM} {G : zG}  : zle (
  some (none, (zup (zup (zup F 60 11 (-1)) 60 12 0) 60 10 0), G, zsg)) (zex (d + 1) 179 [zR 60] (F, G, zsg)) := by
  refine zle_ent (ls := [zR 60]) ?_
  refine zle_many 9 (179, 15, [zR 60], [], (zup (zup (zup F 60 11 (-1)) 60 12 0) 60 10 0), G, zsg) rfl ?_
  exact zle_ret rfl
set_option maxRecDepth 20000 in
theorem g_Planner_findNothingToDo {d : Nat} {F : zM} {G : zG}  : zle (
  some (some (zI 0), (zup F 60 11 0), G, zsg)) (zex (d + 1) 180 [zR 60] (F, G, zsg)) := by
  refine zle_ent (ls := [zR 60]) ?_
  refine zle_many 4 (180, 6, [zR 60], [zI 0], (zup F 60 11 0), G, zsg) rfl ?_
  exact zle_ret rfl
set_option maxRecDepth 20000 in
theorem g_Planner_clearPlaces {d : Nat} {F : zM} {G : zG}  : zle (
  some (none, (zup F 60 5 0), G, zsg)) (zex (d + 1) 181 [zR 60] (F, G, zsg)) := by
  refine zle_ent (ls := [zR 60]) ?_
  refine zle_many 3 (181, 5, [zR 60], [], (zup F 60 5 0), G, zsg) rfl ?_
  exact zle_ret rfl
set_option maxRecDepth 20000 in
theorem g_Planner_addPlace {d : Nat} {F : zM} {G : zG} (a1 : Int) : zle (
  if (F 60 5) < 5 then
  if 0 ≤ (F 60 5) ∧ (F 60 5) < 5 then
    some (none, (zup (zup F 60 5 (zadd (F 60 5) 1)) 61 (Int.toNat (F 60 5)) a1), G, zsg)
  else none
else
  some (none, F, G, zsg)) (zex (d + 1) 182 [zR 60, zI a1] (F, G, zsg)) := by
  refine zle_ent (ls := [zR 60, zI a1]) ?_
  refine zle_many 4 (182, (bif zcmp .ge (F 60 5) 5 then 25 else 8), [zR 60, zI a1], [], F, G, zsg) rfl ?_
  refine zle_ge (fun _ => ?_) (fun _ => ?_)
  · refine zle_many 10 (182, 24, [zR 60, zI a1], [zI a1, zI (F 60 5), zR 61], (zup F 60 5 (zadd (F 60 5) 1)), G, zsg) rfl ?_
    refine zle_ast rfl rfl rfl (fun _ => ?_)
    exact zle_ret rfl
  · exact zle_ret rfl
set_option maxRecDepth 20000 in
theorem g_Planner_bestTold {d : Nat} {F : zM} {G : zG} (a1 : Int) (a2 : Int) : zle (
  if 0 ≤ (zadd (zmul a1 3) a2) ∧ (zadd (zmul a1 3) a2) < 6 then
  some (some (zI (F 62 (Int.toNat (zadd (zmul a1 3) a2)))), F, G, zsg)
else none) (zex (d + 1) 183 [zR 60, zI a1, zI a2] (F, G, zsg)) := by
  refine zle_ent (ls := [zR 60, zI a1, zI a2]) ?_
  refine zle_many 7 (183, 9, [zR 60, zI a1, zI a2], [zI (zadd (zmul a1 3) a2), zR 62], F, G, zsg) rfl ?_
  refine zle_ald rfl rfl rfl (fun _ => ?_)
  exact zle_ret rfl
set_option maxRecDepth 20000 in
theorem g_Planner_find {d : Nat} {F : zM} {G : zG} (a1 : Int) (a2 : Int) (a3 : Int) (a4 : Int) : zle (
  zev zX0 d (184, 24, [zR 60, zI a1, zI a2, zI a3, zI a4, zI 1], [], (zup (zup (zup (zup F 60 6 a1) 60 7 a2) 60 8 a3) 60 9 a4), G, zsg)) (zex (d + 1) 184 [zR 60, zI a1, zI a2, zI a3, zI a4] (F, G, zsg)) := by
  refine zle_ent (ls := [zR 60, zI a1, zI a2, zI a3, zI a4, zR 0]) ?_
  refine zle_many 14 (184, 24, [zR 60, zI a1, zI a2, zI a3, zI a4, zI 1], [], (zup (zup (zup (zup F 60 6 a1) 60 7 a2) 60 8 a3) 60 9 a4), G, zsg) rfl ?_
  exact zle_rfl
set_option maxRecDepth 20000 in
theorem g_Planner_find_24 {d : Nat} {F : zM} {G : zG} (l1 : Int) (l2 : Int) (l3 : Int) (l4 : Int) (l5 : Int) : zle (
  if 2 < l5 then
  some (some (zI 0), F, G, zsg)
else
  zbV (zex d 185 [zR 60, zI 0, zI l5, zI 0] (F, G, zsg)) (fun F1 G1 =>
    if 0 < (F1 60 11) then
      some (some (zI (F1 60 11)), F1, G1, zsg)
    else
      zev zX0 d (184, 24, [zR 60, zI l1, zI l2, zI l3, zI l4, zI (zadd l5 1)], [], F1, G1, zsg))) (zev zX0 d (184, 24, [zR 60, zI l1, zI l2, zI l3, zI l4, zI l5], [], F, G, zsg)) := by
  refine zle_many 3 (184, (bif zcmp .gt l5 2 then 56 else 30), [zR 60, zI l1, zI l2, zI l3, zI l4, zI l5], [], F, G, zsg) rfl ?_
  refine zle_gt (fun _ => ?_) (fun _ => ?_)
  · refine zle_many 1 (184, 57, [zR 60, zI l1, zI l2, zI l3, zI l4, zI l5], [zI 0], F, G, zsg) rfl ?_
    exact zle_ret rfl
  · refine zle_many 4 (184, 35, [zR 60, zI l1, zI l2, zI l3, zI l4, zI l5], [zI 0, zI l5, zI 0, zR 60], F, G, zsg) rfl ?_
    refine zle_V rfl (fun F1 G1 => ?_)
    refine zle_many 3 (184, (bif zcmp .le (F1 60 11) 0 then 50 else 45), [zR 60, zI l1, zI l2, zI l3, zI l4, zI l5], [], F1, G1, zsg) rfl ?_
    refine zle_le (fun _ => ?_) (fun _ => ?_)
    · refine zle_many 2 (184, 49, [zR 60, zI l1, zI l2, zI l3, zI l4, zI l5], [zI (F1 60 11)], F1, G1, zsg) rfl ?_
      exact zle_ret rfl
    · refine zle_many 2 (184, 24, [zR 60, zI l1, zI l2, zI l3, zI l4, zI (zadd l5 1)], [], F1, G1, zsg) rfl ?_
      exact zle_rfl
set_option maxRecDepth 20000 in
theorem g_Planner_seek {d : Nat} {F : zM} {G : zG} (a1 : Int) (a2 : Int) (a3 : Int) : zle (
  if a1 < a2 then
  zev zX0 d (185, 9, [zR 60, zI a1, zI a2, zI a3, zI 0], [], F, G, zsg)
else
  some (none, F, G, zsg)) (zex (d + 1) 185 [zR 60, zI a1, zI a2, zI a3] (F, G, zsg)) := by
  refine zle_ent (ls := [zR 60, zI a1, zI a2, zI a3, zR 0]) ?_
  refine zle_many 3 (185, (bif zcmp .lt a1 a2 then 6 else 5), [zR 60, zI a1, zI a2, zI a3, zR 0], [], F, G, zsg) rfl ?_
  refine zle_lt (fun _ => ?_) (fun _ => ?_)
  · refine zle_many 2 (185, 9, [zR 60, zI a1, zI a2, zI a3, zI 0], [], F, G, zsg) rfl ?_
    exact zle_rfl
  · exact zle_ret rfl
set_option maxRecDepth 20000 in
theorem g_Planner_seek_9 {d : Nat} {F : zM} {G : zG} (l1 : Int) (l2 : Int) (l3 : Int) (l4 : Int) : zle (
  if l4 < (F 6 2) then
  if l4 = (F 60 7) then
    zbV (zex d 187 [zR 60, zI l4, zI (F 60 8), zI l1, zI l2, zI l3] (F, G, zsg)) (fun F3 G3 =>
      zev zX0 d (185, 9, [zR 60, zI l1, zI l2, zI l3, zI (zadd l4 1)], [], F3, G3, zsg))
  else
    if (zadd l1 1) < l2 then
      if (zand (zshr (F 60 9) l4) 1) = 0 then
        zev zX0 d (185, 9, [zR 60, zI l1, zI l2, zI l3, zI (zadd l4 1)], [], F, G, zsg)
      else
        zbI (zex d 200 [zR 22, zI l4] (F, G, zsg)) (fun v1 F1 G1 =>
          if v1 = 0 then
            zev zX0 d (185, 9, [zR 60, zI l1, zI l2, zI l3, zI (zadd l4 1)], [], F1, G1, zsg)
          else
            zbV (zex d 186 [zR 60, zI l4, zI l1, zI l2, zI l3] (F1, G1, zsg)) (fun F2 G2 =>
              zev zX0 d (185, 9, [zR 60, zI l1, zI l2, zI l3, zI (zadd l4 1)], [], F2, G2, zsg)))
    else
      zev zX0 d (185, 9, [zR 60, zI l1, zI l2, zI l3, zI (zadd l4 1)], [], F, G, zsg)
else
  some (none, F, G, zsg)) (zev zX0 d (185, 9, [zR 60, zI l1, zI l2, zI l3, zI l4], [], F, G, zsg)) := by
  refine zle_many 5 (185, (bif zcmp .ge l4 (F 6 2) then 92 else 21), [zR 60, zI l1, zI l2, zI l3, zI l4], [], F, G, zsg) rfl ?_
  refine zle_ge (fun _ => ?_) (fun _ => ?_)
  · refine zle_many 4 (185, (bif zcmp .ne l4 (F 60 7) then 46 else 30), [zR 60, zI l1, zI l2, zI l3, zI l4], [], F, G, zsg) rfl ?_
    refine zle_ne (fun _ => ?_) (fun _ => ?_)
    · refine zle_many 7 (185, 40, [zR 60, zI l1, zI l2, zI l3, zI l4], [zI l3, zI l2, zI l1, zI (F 60 8), zI l4, zR 60], F, G, zsg) rfl ?_
      refine zle_V rfl (fun F3 G3 => ?_)
      refine zle_many 3 (185, 9, [zR 60, zI l1, zI l2, zI l3, zI (zadd l4 1)], [], F3, G3, zsg) rfl ?_
      exact zle_rfl
    · refine zle_many 5 (185, (bif zcmp .ge (zadd l1 1) l2 then 86 else 53), [zR 60, zI l1, zI l2, zI l3, zI l4], [], F, G, zsg) rfl ?_
      refine zle_ge (fun _ => ?_) (fun _ => ?_)
      · refine zle_many 7 (185, (bif zcmp .eq (zand (zshr (F 60 9) l4) 1) 0 then 86 else 65), [zR 60, zI l1, zI l2, zI l3, zI l4], [], F, G, zsg) rfl ?_
        refine zle_eq (fun _ => ?_) (fun _ => ?_)
        · refine zle_many 2 (185, 9, [zR 60, zI l1, zI l2, zI l3, zI (zadd l4 1)], [], F, G, zsg) rfl ?_
          exact zle_rfl
        · refine zle_many 3 (185, 71, [zR 60, zI l1, zI l2, zI l3, zI l4], [zI l4, zR 22], F, G, zsg) rfl ?_
          refine zle_I rfl (fun v1 F1 G1 => ?_)
          refine zle_many 1 (185, (bif zcmp .eq v1 0 then 86 else 77), [zR 60, zI l1, zI l2, zI l3, zI l4], [], F1, G1, zsg) rfl ?_
          refine zle_eq (fun _ => ?_) (fun _ => ?_)
          · refine zle_many 2 (185, 9, [zR 60, zI l1, zI l2, zI l3, zI (zadd l4 1)], [], F1, G1, zsg) rfl ?_
            exact zle_rfl
          · refine zle_many 5 (185, 83, [zR 60, zI l1, zI l2, zI l3, zI l4], [zI l3, zI l2, zI l1, zI l4, zR 60], F1, G1, zsg) rfl ?_
            refine zle_V rfl (fun F2 G2 => ?_)
            refine zle_many 2 (185, 9, [zR 60, zI l1, zI l2, zI l3, zI (zadd l4 1)], [], F2, G2, zsg) rfl ?_
            exact zle_rfl
      · refine zle_many 2 (185, 9, [zR 60, zI l1, zI l2, zI l3, zI (zadd l4 1)], [], F, G, zsg) rfl ?_
        exact zle_rfl
  · exact zle_ret rfl
set_option maxRecDepth 20000 in
theorem g_Planner_askPlaces {d : Nat} {F : zM} {G : zG} (a1 : Int) (a2 : Int) (a3 : Int) (a4 : Int) : zle (
  zev zX0 d (186, 3, [zR 60, zI a1, zI a2, zI a3, zI a4, zI 0], [], F, G, zsg)) (zex (d + 1) 186 [zR 60, zI a1, zI a2, zI a3, zI a4] (F, G, zsg)) := by
  refine zle_ent (ls := [zR 60, zI a1, zI a2, zI a3, zI a4, zR 0]) ?_
  refine zle_many 2 (186, 3, [zR 60, zI a1, zI a2, zI a3, zI a4, zI 0], [], F, G, zsg) rfl ?_
  exact zle_rfl
set_option maxRecDepth 20000 in
theorem g_Planner_askPlaces_3 {d : Nat} {F : zM} {G : zG} (l1 : Int) (l2 : Int) (l3 : Int) (l4 : Int) (l5 : Int) : zle (
  if l5 < (F 60 5) then
  if 0 ≤ l1 ∧ l1 < 8 then
    if 0 ≤ l5 ∧ l5 < 5 then
      if (F 23 (Int.toNat l1)) = (F 61 (Int.toNat l5)) then
        zev zX0 d (186, 3, [zR 60, zI l1, zI l2, zI l3, zI l4, zI (zadd l5 1)], [], F, G, zsg)
      else
        if 0 ≤ l5 ∧ l5 < 5 then
          zbV (zex d 187 [zR 60, zI l1, zI (F 61 (Int.toNat l5)), zI l2, zI l3, zI l4] (F, G, zsg)) (fun F1 G1 =>
            zev zX0 d (186, 3, [zR 60, zI l1, zI l2, zI l3, zI l4, zI (zadd l5 1)], [], F1, G1, zsg))
        else none
    else none
  else none
else
  some (none, F, G, zsg)) (zev zX0 d (186, 3, [zR 60, zI l1, zI l2, zI l3, zI l4, zI l5], [], F, G, zsg)) := by
  refine zle_many 4 (186, (bif zcmp .ge l5 (F 60 5) then 53 else 12), [zR 60, zI l1, zI l2, zI l3, zI l4, zI l5], [], F, G, zsg) rfl ?_
  refine zle_ge (fun _ => ?_) (fun _ => ?_)
  · refine zle_many 4 (186, 20, [zR 60, zI l1, zI l2, zI l3, zI l4, zI l5], [zI l1, zR 23], F, G, zsg) rfl ?_
    refine zle_ald rfl rfl rfl (fun _ => ?_)
    refine zle_many 3 (186, 27, [zR 60, zI l1, zI l2, zI l3, zI l4, zI l5], [zI l5, zR 61, zI (F 23 (Int.toNat l1))], F, G, zsg) rfl ?_
    refine zle_ald rfl rfl rfl (fun _ => ?_)
    refine zle_many 1 (186, (bif zcmp .eq (F 23 (Int.toNat l1)) (F 61 (Int.toNat l5)) then 47 else 31), [zR 60, zI l1, zI l2, zI l3, zI l4, zI l5], [], F, G, zsg) rfl ?_
    refine zle_eq (fun _ => ?_) (fun _ => ?_)
    · refine zle_many 2 (186, 3, [zR 60, zI l1, zI l2, zI l3, zI l4, zI (zadd l5 1)], [], F, G, zsg) rfl ?_
      exact zle_rfl
    · refine zle_many 5 (186, 39, [zR 60, zI l1, zI l2, zI l3, zI l4, zI l5], [zI l5, zR 61, zI l1, zR 60], F, G, zsg) rfl ?_
      refine zle_ald rfl rfl rfl (fun _ => ?_)
      refine zle_many 3 (186, 44, [zR 60, zI l1, zI l2, zI l3, zI l4, zI l5], [zI l4, zI l3, zI l2, zI (F 61 (Int.toNat l5)), zI l1, zR 60], F, G, zsg) rfl ?_
      refine zle_V rfl (fun F1 G1 => ?_)
      refine zle_many 2 (186, 3, [zR 60, zI l1, zI l2, zI l3, zI l4, zI (zadd l5 1)], [], F1, G1, zsg) rfl ?_
      exact zle_rfl
  · exact zle_ret rfl
set_option maxRecDepth 20000 in
theorem g_Planner_askThing {d : Nat} {F : zM} {G : zG} (a1 : Int) (a2 : Int) (a3 : Int) (a4 : Int) (a5 : Int) : zle (
  if 0 ≤ a1 ∧ a1 < 8 then
  if 0 ≤ (F 60 6) ∧ (F 60 6) < 2 then
    zbL (zex d 230 [zR 44, zR 22, zI (F 60 6), zI (zshl 1 a1)] (F, G, zsg)) (fun v1 F1 G1 =>
      zbI (zex d 195 [zR 53, zI a1, zI a2, zI (F 23 (Int.toNat a1)), zI (F 26 (Int.toNat (F 60 6))), zI (F1 6 1), zL v1] (F1, G1, zsg)) (fun v2 F2 G2 =>
        if v2 = 0 then
          zev zX0 d (187, 90, [zR 60, zI a1, zI a2, zI a3, zI a4, zI a5, zI (F 23 (Int.toNat a1)), zI (F 26 (Int.toNat (F 60 6))), zL v1, zR 0, zI 0, zI 0, zR 0], [], F2, G2, zsg)
        else
          some (none, (zup F2 53 1 (zadd (F2 53 1) 1)), G2, zsg)))
  else none
else none) (zex (d + 1) 187 [zR 60, zI a1, zI a2, zI a3, zI a4, zI a5] (F, G, zsg)) := by
  refine zle_ent (ls := [zR 60, zI a1, zI a2, zI a3, zI a4, zI a5, zR 0, zR 0, zR 0, zR 0, zR 0, zR 0, zR 0]) ?_
  refine zle_many 4 (187, 8, [zR 60, zI a1, zI a2, zI a3, zI a4, zI a5, zR 0, zR 0, zR 0, zR 0, zR 0, zR 0, zR 0], [zI a1, zR 23], F, G, zsg) rfl ?_
  refine zle_ald rfl rfl rfl (fun _ => ?_)
  refine zle_many 6 (187, 22, [zR 60, zI a1, zI a2, zI a3, zI a4, zI a5, zI (F 23 (Int.toNat a1)), zR 0, zR 0, zR 0, zR 0, zR 0, zR 0], [zI (F 60 6), zR 26], F, G, zsg) rfl ?_
  refine zle_ald rfl rfl rfl (fun _ => ?_)
  refine zle_many 10 (187, 40, [zR 60, zI a1, zI a2, zI a3, zI a4, zI a5, zI (F 23 (Int.toNat a1)), zI (F 26 (Int.toNat (F 60 6))), zR 0, zR 0, zR 0, zR 0, zR 0], [zI (zshl 1 a1), zI (F 60 6), zR 22, zR 44], F, G, zsg) rfl ?_
  refine zle_L rfl (fun v1 F1 G1 => ?_)
  refine zle_many 11 (187, 64, [zR 60, zI a1, zI a2, zI a3, zI a4, zI a5, zI (F 23 (Int.toNat a1)), zI (F 26 (Int.toNat (F 60 6))), zL v1, zR 0, zR 0, zR 0, zR 0], [zL v1, zI (F1 6 1), zI (F 26 (Int.toNat (F 60 6))), zI (F 23 (Int.toNat a1)), zI a2, zI a1, zR 53], F1, G1, zsg) rfl ?_
  refine zle_I rfl (fun v2 F2 G2 => ?_)
  refine zle_many 1 (187, (bif zcmp .eq v2 0 then 84 else 70), [zR 60, zI a1, zI a2, zI a3, zI a4, zI a5, zI (F 23 (Int.toNat a1)), zI (F 26 (Int.toNat (F 60 6))), zL v1, zR 0, zR 0, zR 0, zR 0], [], F2, G2, zsg) rfl ?_
  refine zle_eq (fun _ => ?_) (fun _ => ?_)
  · refine zle_many 4 (187, 90, [zR 60, zI a1, zI a2, zI a3, zI a4, zI a5, zI (F 23 (Int.toNat a1)), zI (F 26 (Int.toNat (F 60 6))), zL v1, zR 0, zI 0, zI 0, zR 0], [], F2, G2, zsg) rfl ?_
    exact zle_rfl
  · refine zle_many 7 (187, 83, [zR 60, zI a1, zI a2, zI a3, zI a4, zI a5, zI (F 23 (Int.toNat a1)), zI (F 26 (Int.toNat (F 60 6))), zL v1, zR 0, zR 0, zR 0, zR 0], [], (zup F2 53 1 (zadd (F2 53 1) 1)), G2, zsg) rfl ?_
    exact zle_ret rfl
set_option maxRecDepth 20000 in
theorem g_Planner_askThing_90 {d : Nat} {F : zM} {G : zG} (l1 : Int) (l2 : Int) (l3 : Int) (l4 : Int) (l5 : Int) (l6 : Int) (l7 : Int) (l8 : BitVec 64) (l10 : Int) (l11 : Int) : zle (
  if 3 < l11 then
  if l10 = 0 then
    zbV (zex d 196 [zR 53, zI l1, zI l2, zI l6, zI l7, zI (F 6 1), zL l8] (F, G, zsg)) (fun F1 G1 =>
      some (none, F1, G1, zsg))
  else
    some (none, F, G, zsg)
else
  zbI (zex d 188 [zR 60, zI l1, zI l11, zI l2, zL l8] ((zup F 60 10 (zadd (F 60 10) 1)), G, zsg)) (fun v2 F2 G2 =>
    if v2 < 0 then
      zev zX0 d (187, 90, [zR 60, zI l1, zI l2, zI l3, zI l4, zI l5, zI l6, zI l7, zL l8, zR 0, zI l10, zI (zadd l11 1), zR 0], [], F2, G2, zsg)
    else
      zbV (zex d 189 [zR 60, zI l3, zI l1, zI l11, zI l2] (F2, G2, zsg)) (fun F3 G3 =>
        if l1 = (F3 60 7) then
          zbV (zex d 190 [zR 60, zI (zadd l3 1), zI (zadd l5 v2)] (F3, G3, zsg)) (fun F6 G6 =>
            zev zX0 d (187, 90, [zR 60, zI l1, zI l2, zI l3, zI l4, zI l5, zI l6, zI l7, zL l8, zR 0, zI 1, zI (zadd l11 1), zR 0], [], F6, G6, zsg))
        else
          if 0 ≤ l1 ∧ l1 < 8 then
            if 0 ≤ l1 ∧ l1 < 8 then
              zbI (zex d 162 [zI l2, zI (F3 8 (Int.toNat l1)), zI l11] ((zup F3 23 (Int.toNat l1) l2), G3, zsg)) (fun v4 F4 G4 =>
                if 0 ≤ (F3 60 6) ∧ (F3 60 6) < 2 then
                  zbV (zex d 185 [zR 60, zI (zadd l3 1), zI l4, zI (zadd l5 v2)] ((zup F4 26 (Int.toNat (F3 60 6)) v4), G4, zsg)) (fun F5 G5 =>
                    if 0 ≤ l1 ∧ l1 < 8 then
                      if 0 ≤ (F5 60 6) ∧ (F5 60 6) < 2 then
                        zev zX0 d (187, 90, [zR 60, zI l1, zI l2, zI l3, zI l4, zI l5, zI l6, zI l7, zL l8, zR 0, zI 1, zI (zadd l11 1), zR 0], [], (zup (zup F5 23 (Int.toNat l1) l6) 26 (Int.toNat (F5 60 6)) l7), G5, zsg)
                      else none
                    else none)
                else none)
            else none
          else none))) (zev zX0 d (187, 90, [zR 60, zI l1, zI l2, zI l3, zI l4, zI l5, zI l6, zI l7, zL l8, zR 0, zI l10, zI l11, zR 0], [], F, G, zsg)) := by
  refine zle_many 3 (187, (bif zcmp .gt l11 3 then 243 else 96), [zR 60, zI l1, zI l2, zI l3, zI l4, zI l5, zI l6, zI l7, zL l8, zR 0, zI l10, zI l11, zR 0], [], F, G, zsg) rfl ?_
  refine zle_gt (fun _ => ?_) (fun _ => ?_)
  · refine zle_many 2 (187, (bif zcmp .ne l10 0 then 270 else 248), [zR 60, zI l1, zI l2, zI l3, zI l4, zI l5, zI l6, zI l7, zL l8, zR 0, zI l10, zI l11, zR 0], [], F, G, zsg) rfl ?_
    refine zle_ne (fun _ => ?_) (fun _ => ?_)
    · refine zle_many 10 (187, 267, [zR 60, zI l1, zI l2, zI l3, zI l4, zI l5, zI l6, zI l7, zL l8, zR 0, zI l10, zI l11, zR 0], [zL l8, zI (F 6 1), zI l7, zI l6, zI l2, zI l1, zR 53], F, G, zsg) rfl ?_
      refine zle_V rfl (fun F1 G1 => ?_)
      exact zle_ret rfl
    · exact zle_ret rfl
  · refine zle_many 11 (187, 113, [zR 60, zI l1, zI l2, zI l3, zI l4, zI l5, zI l6, zI l7, zL l8, zR 0, zI l10, zI l11, zR 0], [zL l8, zI l2, zI l11, zI l1, zR 60], (zup F 60 10 (zadd (F 60 10) 1)), G, zsg) rfl ?_
    refine zle_I rfl (fun v2 F2 G2 => ?_)
    refine zle_many 3 (187, (bif zcmp .ge v2 0 then 126 else 123), [zR 60, zI l1, zI l2, zI l3, zI l4, zI l5, zI l6, zI l7, zL l8, zR 0, zI l10, zI l11, zI v2], [], F2, G2, zsg) rfl ?_
    refine zle_ge (fun _ => ?_) (fun _ => ?_)
    · refine zle_many 3 (187, 90, [zR 60, zI l1, zI l2, zI l3, zI l4, zI l5, zI l6, zI l7, zL l8, zR 0, zI l10, zI (zadd l11 1), zI v2], [], F2, G2, zsg) rfl ?_
      exact zle_wk ⟨Or.inl rfl, Or.inl rfl, Or.inl rfl, Or.inl rfl, Or.inl rfl, Or.inl rfl, Or.inl rfl, Or.inl rfl, Or.inl rfl, Or.inl rfl, Or.inl rfl, Or.inl rfl, Or.inr rfl, trivial⟩
    · refine zle_many 7 (187, 135, [zR 60, zI l1, zI l2, zI l3, zI l4, zI l5, zI l6, zI l7, zL l8, zR 0, zI 1, zI l11, zI v2], [zI l2, zI l11, zI l1, zI l3, zR 60], F2, G2, zsg) rfl ?_
      refine zle_V rfl (fun F3 G3 => ?_)
      refine zle_many 4 (187, (bif zcmp .ne l1 (F3 60 7) then 161 else 146), [zR 60, zI l1, zI l2, zI l3, zI l4, zI l5, zI l6, zI l7, zL l8, zR 0, zI 1, zI l11, zI v2], [], F3, G3, zsg) rfl ?_
      refine zle_ne (fun _ => ?_) (fun _ => ?_)
      · refine zle_many 7 (187, 155, [zR 60, zI l1, zI l2, zI l3, zI l4, zI l5, zI l6, zI l7, zL l8, zR 0, zI 1, zI l11, zI v2], [zI (zadd l5 v2), zI (zadd l3 1), zR 60], F3, G3, zsg) rfl ?_
        refine zle_V rfl (fun F6 G6 => ?_)
        refine zle_many 3 (187, 90, [zR 60, zI l1, zI l2, zI l3, zI l4, zI l5, zI l6, zI l7, zL l8, zR 0, zI 1, zI (zadd l11 1), zI v2], [], F6, G6, zsg) rfl ?_
        exact zle_wk ⟨Or.inl rfl, Or.inl rfl, Or.inl rfl, Or.inl rfl, Or.inl rfl, Or.inl rfl, Or.inl rfl, Or.inl rfl, Or.inl rfl, Or.inl rfl, Or.inl rfl, Or.inl rfl, Or.inr rfl, trivial⟩
      · refine zle_many 5 (187, 170, [zR 60, zI l1, zI l2, zI l3, zI l4, zI l5, zI l6, zI l7, zL l8, zR 0, zI 1, zI l11, zI v2], [zI l2, zI l1, zR 23], F3, G3, zsg) rfl ?_
        refine zle_ast rfl rfl rfl (fun _ => ?_)
        refine zle_many 10 (187, 191, [zR 60, zI l1, zI l2, zI l3, zI l4, zI l5, zI l6, zI l7, zL l8, zR 0, zI 1, zI l11, zI v2], [zI l1, zR 8, zI l2, zI (F3 60 6), zR 26], (zup F3 23 (Int.toNat l1) l2), G3, zsg) rfl ?_
        refine zle_ald rfl rfl rfl (fun _ => ?_)
        refine zle_many 0 (187, 192, [zR 60, zI l1, zI l2, zI l3, zI l4, zI l5, zI l6, zI l7, zL l8, zR 0, zI 1, zI l11, zI v2], [zI (F3 8 (Int.toNat l1)), zI l2, zI (F3 60 6), zR 26], (zup F3 23 (Int.toNat l1) l2), G3, zsg) rfl ?_
        refine zle_many 1 (187, 194, [zR 60, zI l1, zI l2, zI l3, zI l4, zI l5, zI l6, zI l7, zL l8, zR 0, zI 1, zI l11, zI v2], [zI l11, zI (F3 8 (Int.toNat l1)), zI l2, zI (F3 60 6), zR 26], (zup F3 23 (Int.toNat l1) l2), G3, zsg) rfl ?_
        refine zle_I rfl (fun v4 F4 G4 => ?_)
        refine zle_ast rfl rfl rfl (fun _ => ?_)
        refine zle_many 8 (187, 209, [zR 60, zI l1, zI l2, zI l3, zI l4, zI l5, zI l6, zI l7, zL l8, zR 0, zI 1, zI l11, zI v2], [zI (zadd l5 v2), zI l4, zI (zadd l3 1), zR 60], (zup F4 26 (Int.toNat (F3 60 6)) v4), G4, zsg) rfl ?_
        refine zle_V rfl (fun F5 G5 => ?_)
        refine zle_many 5 (187, 222, [zR 60, zI l1, zI l2, zI l3, zI l4, zI l5, zI l6, zI l7, zL l8, zR 0, zI 1, zI l11, zI v2], [zI l6, zI l1, zR 23], F5, G5, zsg) rfl ?_
        refine zle_ast rfl rfl rfl (fun _ => ?_)
        refine zle_many 6 (187, 236, [zR 60, zI l1, zI l2, zI l3, zI l4, zI l5, zI l6, zI l7, zL l8, zR 0, zI 1, zI l11, zI v2], [zI l7, zI (F5 60 6), zR 26], (zup F5 23 (Int.toNat l1) l6), G5, zsg) rfl ?_
        refine zle_ast rfl rfl rfl (fun _ => ?_)
        refine zle_many 2 (187, 90, [zR 60, zI l1, zI l2, zI l3, zI l4, zI l5, zI l6, zI l7, zL l8, zR 0, zI 1, zI (zadd l11 1), zI v2], [], (zup (zup F5 23 (Int.toNat l1) l6) 26 (Int.toNat (F5 60 6)) l7), G5, zsg) rfl ?_
        exact zle_wk ⟨Or.inl rfl, Or.inl rfl, Or.inl rfl, Or.inl rfl, Or.inl rfl, Or.inl rfl, Or.inl rfl, Or.inl rfl, Or.inl rfl, Or.inl rfl, Or.inl rfl, Or.inl rfl, Or.inr rfl, trivial⟩
set_option maxRecDepth 20000 in
theorem g_Planner_farOfMove {d : Nat} {F : zM} {G : zG} (a1 : Int) (a2 : Int) (a3 : Int) (a4 : BitVec 64) : zle (
  if 0 ≤ a1 ∧ a1 < 8 then
  if 0 ≤ a1 ∧ a1 < 8 then
    if (F 23 (Int.toNat a1)) < 0 then
      some (some (zI (-1)), F, G, zsg)
    else
      zbI (zex d 193 [zR 6, zI a1, zI a2] (F, G, zsg)) (fun v1 F1 G1 =>
        if v1 = 0 then
          some (some (zI (-1)), F1, G1, zsg)
        else
          zbI (zex d 162 [zI (F 23 (Int.toNat a1)), zI (F 8 (Int.toNat a1)), zI a2] (F1, G1, zsg)) (fun v2 F2 G2 =>
            zbI (zex d 162 [zI a3, zI (F 8 (Int.toNat a1)), zI a2] (F2, G2, zsg)) (fun v3 F3 G3 =>
              if v2 < 0 then
                some (some (zI (-1)), F3, G3, zsg)
              else
                if v3 < 0 then
                  some (some (zI (-1)), F3, G3, zsg)
                else
                  if 0 ≤ (F3 60 6) ∧ (F3 60 6) < 2 then
                    zbL (zex d 159 [zI (F 23 (Int.toNat a1)), zI (F 8 (Int.toNat a1))] (F3, G3, zsg)) (fun v4 F4 G4 =>
                      zbV (zex d 234 [zR 44, zI (F3 26 (Int.toNat (F3 60 6))), zL (zlor a4 v4), zI (-1), zI 0] (F4, G4, zsg)) (fun F5 G5 =>
                        zbI (zex d 235 [zR 44, zI v2] (F5, G5, zsg)) (fun v6 F6 G6 =>
                        if v6 < 0 then
                        some (some (zI (-1)), F6, G6, zsg)
                      else
                        zbV (zex d 234 [zR 44, zI v2, zL a4, zI a1, zI a2] (F6, G6, zsg)) (fun F7 G7 =>
                        zbI (zex d 235 [zR 44, zI v3] (F7, G7, zsg)) (fun v8 F8 G8 =>
                        if v8 < 0 then
                        some (some (zI (-1)), F8, G8, zsg)
                      else
                        some (some (zI (zadd v6 v8)), F8, G8, zsg))))))
                  else none)))
  else none
else none) (zex (d + 1) 188 [zR 60, zI a1, zI a2, zI a3, zL a4] (F, G, zsg)) := by
  refine zle_ent (ls := [zR 60, zI a1, zI a2, zI a3, zL a4, zR 0, zR 0, zR 0, zR 0, zR 0, zR 0, zR 0]) ?_
  refine zle_many 4 (188, 8, [zR 60, zI a1, zI a2, zI a3, zL a4, zR 0, zR 0, zR 0, zR 0, zR 0, zR 0, zR 0], [zI a1, zR 23], F, G, zsg) rfl ?_
  refine zle_ald rfl rfl rfl (fun _ => ?_)
  refine zle_many 5 (188, 19, [zR 60, zI a1, zI a2, zI a3, zL a4, zR 0, zI (F 23 (Int.toNat a1)), zR 0, zR 0, zR 0, zR 0, zR 0], [zI a1, zR 8], F, G, zsg) rfl ?_
  refine zle_ald rfl rfl rfl (fun _ => ?_)
  refine zle_many 3 (188, (bif zcmp .lt (F 23 (Int.toNat a1)) 0 then 39 else 27), [zR 60, zI a1, zI a2, zI a3, zL a4, zR 0, zI (F 23 (Int.toNat a1)), zI (F 8 (Int.toNat a1)), zR 0, zR 0, zR 0, zR 0], [], F, G, zsg) rfl ?_
  refine zle_lt (fun _ => ?_) (fun _ => ?_)
  · refine zle_many 1 (188, 40, [zR 60, zI a1, zI a2, zI a3, zL a4, zR 0, zI (F 23 (Int.toNat a1)), zI (F 8 (Int.toNat a1)), zR 0, zR 0, zR 0, zR 0], [zI (-1)], F, G, zsg) rfl ?_
    exact zle_ret rfl
  · refine zle_many 4 (188, 33, [zR 60, zI a1, zI a2, zI a3, zL a4, zR 0, zI (F 23 (Int.toNat a1)), zI (F 8 (Int.toNat a1)), zR 0, zR 0, zR 0, zR 0], [zI a2, zI a1, zR 6], F, G, zsg) rfl ?_
    refine zle_I rfl (fun v1 F1 G1 => ?_)
    refine zle_many 1 (188, (bif zcmp .ne v1 0 then 41 else 39), [zR 60, zI a1, zI a2, zI a3, zL a4, zR 0, zI (F 23 (Int.toNat a1)), zI (F 8 (Int.toNat a1)), zR 0, zR 0, zR 0, zR 0], [], F1, G1, zsg) rfl ?_
    refine zle_ne (fun _ => ?_) (fun _ => ?_)
    · refine zle_many 1 (188, 40, [zR 60, zI a1, zI a2, zI a3, zL a4, zR 0, zI (F 23 (Int.toNat a1)), zI (F 8 (Int.toNat a1)), zR 0, zR 0, zR 0, zR 0], [zI (-1)], F1, G1, zsg) rfl ?_
      exact zle_ret rfl
    · refine zle_many 3 (188, 46, [zR 60, zI a1, zI a2, zI a3, zL a4, zR 0, zI (F 23 (Int.toNat a1)), zI (F 8 (Int.toNat a1)), zR 0, zR 0, zR 0, zR 0], [zI a2, zI (F 8 (Int.toNat a1)), zI (F 23 (Int.toNat a1))], F1, G1, zsg) rfl ?_
      refine zle_I rfl (fun v2 F2 G2 => ?_)
      refine zle_many 4 (188, 55, [zR 60, zI a1, zI a2, zI a3, zL a4, zR 0, zI (F 23 (Int.toNat a1)), zI (F 8 (Int.toNat a1)), zI v2, zR 0, zR 0, zR 0], [zI a2, zI (F 8 (Int.toNat a1)), zI a3], F2, G2, zsg) rfl ?_
      refine zle_I rfl (fun v3 F3 G3 => ?_)
      refine zle_many 3 (188, (bif zcmp .lt v2 0 then 70 else 65), [zR 60, zI a1, zI a2, zI a3, zL a4, zR 0, zI (F 23 (Int.toNat a1)), zI (F 8 (Int.toNat a1)), zI v2, zI v3, zR 0, zR 0], [], F3, G3, zsg) rfl ?_
      refine zle_lt (fun _ => ?_) (fun _ => ?_)
      · refine zle_many 1 (188, 71, [zR 60, zI a1, zI a2, zI a3, zL a4, zR 0, zI (F 23 (Int.toNat a1)), zI (F 8 (Int.toNat a1)), zI v2, zI v3, zR 0, zR 0], [zI (-1)], F3, G3, zsg) rfl ?_
        exact zle_ret rfl
      · refine zle_many 2 (188, (bif zcmp .ge v3 0 then 72 else 70), [zR 60, zI a1, zI a2, zI a3, zL a4, zR 0, zI (F 23 (Int.toNat a1)), zI (F 8 (Int.toNat a1)), zI v2, zI v3, zR 0, zR 0], [], F3, G3, zsg) rfl ?_
        refine zle_ge (fun _ => ?_) (fun _ => ?_)
        · refine zle_many 1 (188, 71, [zR 60, zI a1, zI a2, zI a3, zL a4, zR 0, zI (F 23 (Int.toNat a1)), zI (F 8 (Int.toNat a1)), zI v2, zI v3, zR 0, zR 0], [zI (-1)], F3, G3, zsg) rfl ?_
          exact zle_ret rfl
        · refine zle_many 7 (188, 87, [zR 60, zI a1, zI a2, zI a3, zL a4, zR 0, zI (F 23 (Int.toNat a1)), zI (F 8 (Int.toNat a1)), zI v2, zI v3, zR 0, zR 0], [zI (F3 60 6), zR 26, zR 44], F3, G3, zsg) rfl ?_
          refine zle_ald rfl rfl rfl (fun _ => ?_)
          refine zle_many 3 (188, 94, [zR 60, zI a1, zI a2, zI a3, zL a4, zR 0, zI (F 23 (Int.toNat a1)), zI (F 8 (Int.toNat a1)), zI v2, zI v3, zR 0, zR 0], [zI (F 8 (Int.toNat a1)), zI (F 23 (Int.toNat a1)), zL a4, zI (F3 26 (Int.toNat (F3 60 6))), zR 44], F3, G3, zsg) rfl ?_
          refine zle_L rfl (fun v4 F4 G4 => ?_)
          refine zle_many 3 (188, 100, [zR 60, zI a1, zI a2, zI a3, zL a4, zR 0, zI (F 23 (Int.toNat a1)), zI (F 8 (Int.toNat a1)), zI v2, zI v3, zR 0, zR 0], [zI 0, zI (-1), zL (zlor a4 v4), zI (F3 26 (Int.toNat (F3 60 6))), zR 44], F4, G4, zsg) rfl ?_
          refine zle_V rfl (fun F5 G5 => ?_)
          refine zle_many 3 (188, 109, [zR 60, zI a1, zI a2, zI a3, zL a4, zR 0, zI (F 23 (Int.toNat a1)), zI (F 8 (Int.toNat a1)), zI v2, zI v3, zR 0, zR 0], [zI v2, zR 44], F5, G5, zsg) rfl ?_
          refine zle_I rfl (fun v6 F6 G6 => ?_)
          refine zle_many 3 (188, (bif zcmp .ge v6 0 then 121 else 119), [zR 60, zI a1, zI a2, zI a3, zL a4, zR 0, zI (F 23 (Int.toNat a1)), zI (F 8 (Int.toNat a1)), zI v2, zI v3, zI v6, zR 0], [], F6, G6, zsg) rfl ?_
          refine zle_ge (fun _ => ?_) (fun _ => ?_)
          · refine zle_many 1 (188, 120, [zR 60, zI a1, zI a2, zI a3, zL a4, zR 0, zI (F 23 (Int.toNat a1)), zI (F 8 (Int.toNat a1)), zI v2, zI v3, zI v6, zR 0], [zI (-1)], F6, G6, zsg) rfl ?_
            exact zle_ret rfl
          · refine zle_many 6 (188, 131, [zR 60, zI a1, zI a2, zI a3, zL a4, zR 0, zI (F 23 (Int.toNat a1)), zI (F 8 (Int.toNat a1)), zI v2, zI v3, zI v6, zR 0], [zI a2, zI a1, zL a4, zI v2, zR 44], F6, G6, zsg) rfl ?_
            refine zle_V rfl (fun F7 G7 => ?_)
            refine zle_many 3 (188, 140, [zR 60, zI a1, zI a2, zI a3, zL a4, zR 0, zI (F 23 (Int.toNat a1)), zI (F 8 (Int.toNat a1)), zI v2, zI v3, zI v6, zR 0], [zI v3, zR 44], F7, G7, zsg) rfl ?_
            refine zle_I rfl (fun v8 F8 G8 => ?_)
            refine zle_many 3 (188, (bif zcmp .ge v8 0 then 154 else 150), [zR 60, zI a1, zI a2, zI a3, zL a4, zR 0, zI (F 23 (Int.toNat a1)), zI (F 8 (Int.toNat a1)), zI v2, zI v3, zI v6, zI v8], [], F8, G8, zsg) rfl ?_
            refine zle_ge (fun _ => ?_) (fun _ => ?_)
            · refine zle_many 2 (188, 159, [zR 60, zI a1, zI a2, zI a3, zL a4, zR 0, zI (F 23 (Int.toNat a1)), zI (F 8 (Int.toNat a1)), zI v2, zI v3, zI v6, zI v8], [zI (-1)], F8, G8, zsg) rfl ?_
              exact zle_ret rfl
            · refine zle_many 3 (188, 159, [zR 60, zI a1, zI a2, zI a3, zL a4, zR 0, zI (F 23 (Int.toNat a1)), zI (F 8 (Int.toNat a1)), zI v2, zI v3, zI v6, zI v8], [zI (zadd v6 v8)], F8, G8, zsg) rfl ?_
              exact zle_ret rfl
set_option maxRecDepth 20000 in
theorem g_Planner_noteMove {d : Nat} {F : zM} {G : zG} (a1 : Int) (a2 : Int) (a3 : Int) (a4 : Int) : zle (
  if 0 ≤ (zmul a1 3) ∧ (zmul a1 3) < 6 then
  if 0 ≤ (zadd (zmul a1 3) 1) ∧ (zadd (zmul a1 3) 1) < 6 then
    if 0 ≤ (zadd (zmul a1 3) 2) ∧ (zadd (zmul a1 3) 2) < 6 then
      some (none, (zup (zup (zup F 63 (Int.toNat (zmul a1 3)) a2) 63 (Int.toNat (zadd (zmul a1 3) 1)) a3) 63 (Int.toNat (zadd (zmul a1 3) 2)) a4), G, zsg)
    else none
  else none
else none) (zex (d + 1) 189 [zR 60, zI a1, zI a2, zI a3, zI a4] (F, G, zsg)) := by
  refine zle_ent (ls := [zR 60, zI a1, zI a2, zI a3, zI a4]) ?_
  refine zle_many 6 (189, 8, [zR 60, zI a1, zI a2, zI a3, zI a4], [zI a2, zI (zmul a1 3), zR 63], F, G, zsg) rfl ?_
  refine zle_ast rfl rfl rfl (fun _ => ?_)
  refine zle_many 8 (189, 19, [zR 60, zI a1, zI a2, zI a3, zI a4], [zI a3, zI (zadd (zmul a1 3) 1), zR 63], (zup F 63 (Int.toNat (zmul a1 3)) a2), G, zsg) rfl ?_
  refine zle_ast rfl rfl rfl (fun _ => ?_)
  refine zle_many 8 (189, 31, [zR 60, zI a1, zI a2, zI a3, zI a4], [zI a4, zI (zadd (zmul a1 3) 2), zR 63], (zup (zup F 63 (Int.toNat (zmul a1 3)) a2) 63 (Int.toNat (zadd (zmul a1 3) 1)) a3), G, zsg) rfl ?_
  refine zle_ast rfl rfl rfl (fun _ => ?_)
  exact zle_ret rfl
set_option maxRecDepth 20000 in
theorem g_Planner_keepRow {d : Nat} {F : zM} {G : zG} (a1 : Int) (a2 : Int) : zle (
  if (F 60 11) < 0 then
  if (0 : Int) ≤ 0 ∧ (0 : Int) ≤ 0 ∧ (0 : Int) ≤ (zmul a1 3) ∧ (Int.toNat 0) + (Int.toNat (zmul a1 3)) ≤ 6 ∧ (Int.toNat 0) + (Int.toNat (zmul a1 3)) ≤ 6 then
    some (none, (zcpy (zup (zup F 60 11 a1) 60 12 a2) 63 (Int.toNat 0) 62 (Int.toNat 0) (Int.toNat (zmul a1 3))), G, zsg)
  else none
else
  if a2 < (F 60 12) then
    if (0 : Int) ≤ 0 ∧ (0 : Int) ≤ 0 ∧ (0 : Int) ≤ (zmul a1 3) ∧ (Int.toNat 0) + (Int.toNat (zmul a1 3)) ≤ 6 ∧ (Int.toNat 0) + (Int.toNat (zmul a1 3)) ≤ 6 then
      some (none, (zcpy (zup (zup F 60 11 a1) 60 12 a2) 63 (Int.toNat 0) 62 (Int.toNat 0) (Int.toNat (zmul a1 3))), G, zsg)
    else none
  else
    some (none, F, G, zsg)) (zex (d + 1) 190 [zR 60, zI a1, zI a2] (F, G, zsg)) := by
  refine zle_ent (ls := [zR 60, zI a1, zI a2]) ?_
  refine zle_many 3 (190, (bif zcmp .lt (F 60 11) 0 then 16 else 7), [zR 60, zI a1, zI a2], [], F, G, zsg) rfl ?_
  refine zle_lt (fun _ => ?_) (fun _ => ?_)
  · refine zle_many 15 (190, 39, [zR 60, zI a1, zI a2], [zI (zmul a1 3), zI 0, zR 62, zI 0, zR 63], (zup (zup F 60 11 a1) 60 12 a2), G, zsg) rfl ?_
    refine zle_cpy rfl rfl rfl (by decide) rfl ?_
    exact zle_ret rfl
  · refine zle_many 4 (190, (bif zcmp .gt (F 60 12) a2 then 16 else 15), [zR 60, zI a1, zI a2], [], F, G, zsg) rfl ?_
    refine zle_gt (fun _ => ?_) (fun _ => ?_)
    · refine zle_many 15 (190, 39, [zR 60, zI a1, zI a2], [zI (zmul a1 3), zI 0, zR 62, zI 0, zR 63], (zup (zup F 60 11 a1) 60 12 a2), G, zsg) rfl ?_
      refine zle_cpy rfl rfl rfl (by decide) rfl ?_
      exact zle_ret rfl
    · exact zle_ret rfl
set_option maxRecDepth 20000 in
theorem g_Room_weightOf {d : Nat} {F : zM} {G : zG} (a1 : Int) : zle (
  if 0 ≤ a1 ∧ a1 < 8 then
  if 0 ≤ a1 ∧ a1 < 8 then
    zbI (zex d 174 [zI (F 7 (Int.toNat a1)), zI (F 8 (Int.toNat a1))] (F, G, zsg)) (fun v1 F1 G1 =>
      some (some (zI v1), F1, G1, zsg))
  else none
else none) (zex (d + 1) 192 [zR 6, zI a1] (F, G, zsg)) := by
  refine zle_ent (ls := [zR 6, zI a1]) ?_
  refine zle_many 3 (192, 5, [zR 6, zI a1], [zI a1, zR 7], F, G, zsg) rfl ?_
  refine zle_ald rfl rfl rfl (fun _ => ?_)
  refine zle_many 3 (192, 11, [zR 6, zI a1], [zI a1, zR 8, zI (F 7 (Int.toNat a1))], F, G, zsg) rfl ?_
  refine zle_ald rfl rfl rfl (fun _ => ?_)
  refine zle_I rfl (fun v1 F1 G1 => ?_)
  exact zle_ret rfl
set_option maxRecDepth 20000 in
theorem g_Room_canBeHeld {d : Nat} {F : zM} {G : zG} (a1 : Int) (a2 : Int) : zle (
  if 0 ≤ a1 ∧ a1 < 8 then
  zbI (zex d 173 [zI (F 7 (Int.toNat a1)), zI a2] (F, G, zsg)) (fun v1 F1 G1 =>
    if v1 = 0 then
      some (some (zI 0), F1, G1, zsg)
    else
      if 0 ≤ a1 ∧ a1 < 8 then
        if 0 ≤ a1 ∧ a1 < 8 then
          zbI (zex d 174 [zI (F1 7 (Int.toNat a1)), zI (F1 8 (Int.toNat a1))] (F1, G1, zsg)) (fun v2 F2 G2 =>
            if (F2 6 1) < v2 then
              some (some (zI 0), F2, G2, zsg)
            else
              some (some (zI 1), F2, G2, zsg))
        else none
      else none)
else none) (zex (d + 1) 193 [zR 6, zI a1, zI a2] (F, G, zsg)) := by
  refine zle_ent (ls := [zR 6, zI a1, zI a2]) ?_
  refine zle_many 3 (193, 5, [zR 6, zI a1, zI a2], [zI a1, zR 7], F, G, zsg) rfl ?_
  refine zle_ald rfl rfl rfl (fun _ => ?_)
  refine zle_many 1 (193, 7, [zR 6, zI a1, zI a2], [zI a2, zI (F 7 (Int.toNat a1))], F, G, zsg) rfl ?_
  refine zle_I rfl (fun v1 F1 G1 => ?_)
  refine zle_many 1 (193, (bif zcmp .eq v1 0 then 39 else 13), [zR 6, zI a1, zI a2], [], F1, G1, zsg) rfl ?_
  refine zle_eq (fun _ => ?_) (fun _ => ?_)
  · refine zle_many 1 (193, 40, [zR 6, zI a1, zI a2], [zI 0], F1, G1, zsg) rfl ?_
    exact zle_ret rfl
  · refine zle_many 3 (193, 18, [zR 6, zI a1, zI a2], [zI a1, zR 7], F1, G1, zsg) rfl ?_
    refine zle_ald rfl rfl rfl (fun _ => ?_)
    refine zle_many 3 (193, 24, [zR 6, zI a1, zI a2], [zI a1, zR 8, zI (F1 7 (Int.toNat a1))], F1, G1, zsg) rfl ?_
    refine zle_ald rfl rfl rfl (fun _ => ?_)
    refine zle_I rfl (fun v2 F2 G2 => ?_)
    refine zle_many 3 (193, (bif zcmp .gt v2 (F2 6 1) then 39 else 35), [zR 6, zI a1, zI a2], [], F2, G2, zsg) rfl ?_
    refine zle_gt (fun _ => ?_) (fun _ => ?_)
    · refine zle_many 1 (193, 40, [zR 6, zI a1, zI a2], [zI 0], F2, G2, zsg) rfl ?_
      exact zle_ret rfl
    · refine zle_many 2 (193, 40, [zR 6, zI a1, zI a2], [zI 1], F2, G2, zsg) rfl ?_
      exact zle_ret rfl
set_option maxRecDepth 20000 in
theorem g_Rules_isSo {d : Nat} {F : zM} {G : zG} (a1 : Int) (a2 : Int) (a3 : Int) (a4 : Int) (a5 : Int) (a6 : BitVec 64) : zle (
  zev zX0 d (195, 3, [zR 53, zI a1, zI a2, zI a3, zI a4, zI a5, zL a6, zR 0, zI 0], [], F, G, zsg)) (zex (d + 1) 195 [zR 53, zI a1, zI a2, zI a3, zI a4, zI a5, zL a6] (F, G, zsg)) := by
  refine zle_ent (ls := [zR 53, zI a1, zI a2, zI a3, zI a4, zI a5, zL a6, zR 0, zR 0]) ?_
  refine zle_many 2 (195, 3, [zR 53, zI a1, zI a2, zI a3, zI a4, zI a5, zL a6, zR 0, zI 0], [], F, G, zsg) rfl ?_
  exact zle_rfl
set_option maxRecDepth 20000 in
theorem g_Rules_isSo_3 {d : Nat} {F : zM} {G : zG} (l1 : Int) (l2 : Int) (l3 : Int) (l4 : Int) (l5 : Int) (l6 : BitVec 64) (l8 : Int) : zle (
  if l8 < (F 53 0) then
  if 0 ≤ l8 ∧ l8 < 12 then
    if (F 54 (Int.toNat l8)) = l1 then
      if 0 ≤ l8 ∧ l8 < 12 then
        if (F 55 (Int.toNat l8)) = l2 then
          if 0 ≤ l8 ∧ l8 < 12 then
            if (F 56 (Int.toNat l8)) = l3 then
              if 0 ≤ l8 ∧ l8 < 12 then
                if (F 57 (Int.toNat l8)) = l4 then
                  if 0 ≤ l8 ∧ l8 < 12 then
                    if (F 58 (Int.toNat l8)) = l5 then
                      if 0 ≤ l8 ∧ l8 < 12 then
                        if (zlcmp (G 59 (Int.toNat l8)) l6) = 0 then
                        some (some (zI 1), F, G, zsg)
                      else
                        zev zX0 d (195, 3, [zR 53, zI l1, zI l2, zI l3, zI l4, zI l5, zL l6, zR 0, zI (zadd l8 1)], [], F, G, zsg)
                      else none
                    else
                      zev zX0 d (195, 3, [zR 53, zI l1, zI l2, zI l3, zI l4, zI l5, zL l6, zR 0, zI (zadd l8 1)], [], F, G, zsg)
                  else none
                else
                  zev zX0 d (195, 3, [zR 53, zI l1, zI l2, zI l3, zI l4, zI l5, zL l6, zR 0, zI (zadd l8 1)], [], F, G, zsg)
              else none
            else
              zev zX0 d (195, 3, [zR 53, zI l1, zI l2, zI l3, zI l4, zI l5, zL l6, zR 0, zI (zadd l8 1)], [], F, G, zsg)
          else none
        else
          zev zX0 d (195, 3, [zR 53, zI l1, zI l2, zI l3, zI l4, zI l5, zL l6, zR 0, zI (zadd l8 1)], [], F, G, zsg)
      else none
    else
      zev zX0 d (195, 3, [zR 53, zI l1, zI l2, zI l3, zI l4, zI l5, zL l6, zR 0, zI (zadd l8 1)], [], F, G, zsg)
  else none
else
  some (some (zI 0), F, G, zsg)) (zev zX0 d (195, 3, [zR 53, zI l1, zI l2, zI l3, zI l4, zI l5, zL l6, zR 0, zI l8], [], F, G, zsg)) := by
  refine zle_many 4 (195, (bif zcmp .ge l8 (F 53 0) then 90 else 12), [zR 53, zI l1, zI l2, zI l3, zI l4, zI l5, zL l6, zR 0, zI l8], [], F, G, zsg) rfl ?_
  refine zle_ge (fun _ => ?_) (fun _ => ?_)
  · refine zle_many 3 (195, 18, [zR 53, zI l1, zI l2, zI l3, zI l4, zI l5, zL l6, zR 0, zI l8], [zI l8, zR 54], F, G, zsg) rfl ?_
    refine zle_ald rfl rfl rfl (fun _ => ?_)
    refine zle_many 2 (195, (bif zcmp .ne (F 54 (Int.toNat l8)) l1 then 84 else 23), [zR 53, zI l1, zI l2, zI l3, zI l4, zI l5, zL l6, zR 0, zI l8], [], F, G, zsg) rfl ?_
    refine zle_ne (fun _ => ?_) (fun _ => ?_)
    · refine zle_many 3 (195, 29, [zR 53, zI l1, zI l2, zI l3, zI l4, zI l5, zL l6, zR 0, zI l8], [zI l8, zR 55], F, G, zsg) rfl ?_
      refine zle_ald rfl rfl rfl (fun _ => ?_)
      refine zle_many 2 (195, (bif zcmp .ne (F 55 (Int.toNat l8)) l2 then 84 else 34), [zR 53, zI l1, zI l2, zI l3, zI l4, zI l5, zL l6, zR 0, zI l8], [], F, G, zsg) rfl ?_
      refine zle_ne (fun _ => ?_) (fun _ => ?_)
      · refine zle_many 3 (195, 40, [zR 53, zI l1, zI l2, zI l3, zI l4, zI l5, zL l6, zR 0, zI l8], [zI l8, zR 56], F, G, zsg) rfl ?_
        refine zle_ald rfl rfl rfl (fun _ => ?_)
        refine zle_many 2 (195, (bif zcmp .ne (F 56 (Int.toNat l8)) l3 then 84 else 45), [zR 53, zI l1, zI l2, zI l3, zI l4, zI l5, zL l6, zR 0, zI l8], [], F, G, zsg) rfl ?_
        refine zle_ne (fun _ => ?_) (fun _ => ?_)
        · refine zle_many 3 (195, 51, [zR 53, zI l1, zI l2, zI l3, zI l4, zI l5, zL l6, zR 0, zI l8], [zI l8, zR 57], F, G, zsg) rfl ?_
          refine zle_ald rfl rfl rfl (fun _ => ?_)
          refine zle_many 2 (195, (bif zcmp .ne (F 57 (Int.toNat l8)) l4 then 84 else 57), [zR 53, zI l1, zI l2, zI l3, zI l4, zI l5, zL l6, zR 0, zI l8], [], F, G, zsg) rfl ?_
          refine zle_ne (fun _ => ?_) (fun _ => ?_)
          · refine zle_many 3 (195, 63, [zR 53, zI l1, zI l2, zI l3, zI l4, zI l5, zL l6, zR 0, zI l8], [zI l8, zR 58], F, G, zsg) rfl ?_
            refine zle_ald rfl rfl rfl (fun _ => ?_)
            refine zle_many 2 (195, (bif zcmp .ne (F 58 (Int.toNat l8)) l5 then 84 else 69), [zR 53, zI l1, zI l2, zI l3, zI l4, zI l5, zL l6, zR 0, zI l8], [], F, G, zsg) rfl ?_
            refine zle_ne (fun _ => ?_) (fun _ => ?_)
            · refine zle_many 3 (195, 75, [zR 53, zI l1, zI l2, zI l3, zI l4, zI l5, zL l6, zR 0, zI l8], [zI l8, zR 59], F, G, zsg) rfl ?_
              refine zle_lld rfl rfl rfl (fun _ => ?_)
              refine zle_many 3 (195, (bif zcmp .ne (zlcmp (G 59 (Int.toNat l8)) l6) 0 then 84 else 82), [zR 53, zI l1, zI l2, zI l3, zI l4, zI l5, zL l6, zR 0, zI l8], [], F, G, zsg) rfl ?_
              refine zle_ne (fun _ => ?_) (fun _ => ?_)
              · refine zle_many 1 (195, 83, [zR 53, zI l1, zI l2, zI l3, zI l4, zI l5, zL l6, zR 0, zI l8], [zI 1], F, G, zsg) rfl ?_
                exact zle_ret rfl
              · refine zle_many 2 (195, 3, [zR 53, zI l1, zI l2, zI l3, zI l4, zI l5, zL l6, zR 0, zI (zadd l8 1)], [], F, G, zsg) rfl ?_
                exact zle_rfl
            · refine zle_many 2 (195, 3, [zR 53, zI l1, zI l2, zI l3, zI l4, zI l5, zL l6, zR 0, zI (zadd l8 1)], [], F, G, zsg) rfl ?_
              exact zle_rfl
          · refine zle_many 2 (195, 3, [zR 53, zI l1, zI l2, zI l3, zI l4, zI l5, zL l6, zR 0, zI (zadd l8 1)], [], F, G, zsg) rfl ?_
            exact zle_rfl
        · refine zle_many 2 (195, 3, [zR 53, zI l1, zI l2, zI l3, zI l4, zI l5, zL l6, zR 0, zI (zadd l8 1)], [], F, G, zsg) rfl ?_
          exact zle_rfl
      · refine zle_many 2 (195, 3, [zR 53, zI l1, zI l2, zI l3, zI l4, zI l5, zL l6, zR 0, zI (zadd l8 1)], [], F, G, zsg) rfl ?_
        exact zle_rfl
    · refine zle_many 2 (195, 3, [zR 53, zI l1, zI l2, zI l3, zI l4, zI l5, zL l6, zR 0, zI (zadd l8 1)], [], F, G, zsg) rfl ?_
      exact zle_rfl
  · refine zle_many 1 (195, 91, [zR 53, zI l1, zI l2, zI l3, zI l4, zI l5, zL l6, zR 0, zI l8], [zI 0], F, G, zsg) rfl ?_
    exact zle_ret rfl
set_option maxRecDepth 20000 in
theorem g_Rules_learn {d : Nat} {F : zM} {G : zG} (a1 : Int) (a2 : Int) (a3 : Int) (a4 : Int) (a5 : Int) (a6 : BitVec 64) : zle (
  if (F 53 0) < 12 then
  if 0 ≤ (F 53 0) ∧ (F 53 0) < 12 then
    if 0 ≤ (F 53 0) ∧ (F 53 0) < 12 then
      if 0 ≤ (F 53 0) ∧ (F 53 0) < 12 then
        if 0 ≤ (F 53 0) ∧ (F 53 0) < 12 then
          if 0 ≤ (F 53 0) ∧ (F 53 0) < 12 then
            if 0 ≤ (F 53 0) ∧ (F 53 0) < 12 then
              some (none, (zup (zup (zup (zup (zup (zup F 54 (Int.toNat (F 53 0)) a1) 55 (Int.toNat (F 53 0)) a2) 56 (Int.toNat (F 53 0)) a3) 57 (Int.toNat (F 53 0)) a4) 58 (Int.toNat (F 53 0)) a5) 53 0 (zadd (F 53 0) 1)), (zug G 59 (Int.toNat (F 53 0)) a6), zsg)
            else none
          else none
        else none
      else none
    else none
  else none
else
  some (none, F, G, zsg)) (zex (d + 1) 196 [zR 53, zI a1, zI a2, zI a3, zI a4, zI a5, zL a6] (F, G, zsg)) := by
  refine zle_ent (ls := [zR 53, zI a1, zI a2, zI a3, zI a4, zI a5, zL a6, zR 0]) ?_
  refine zle_many 4 (196, (bif zcmp .lt (F 53 0) 12 then 10 else 9), [zR 53, zI a1, zI a2, zI a3, zI a4, zI a5, zL a6, zR 0], [], F, G, zsg) rfl ?_
  refine zle_lt (fun _ => ?_) (fun _ => ?_)
  · refine zle_many 5 (196, 19, [zR 53, zI a1, zI a2, zI a3, zI a4, zI a5, zL a6, zR 0], [zI a1, zI (F 53 0), zR 54], F, G, zsg) rfl ?_
    refine zle_ast rfl rfl rfl (fun _ => ?_)
    refine zle_many 5 (196, 29, [zR 53, zI a1, zI a2, zI a3, zI a4, zI a5, zL a6, zR 0], [zI a2, zI (F 53 0), zR 55], (zup F 54 (Int.toNat (F 53 0)) a1), G, zsg) rfl ?_
    refine zle_ast rfl rfl rfl (fun _ => ?_)
    refine zle_many 5 (196, 39, [zR 53, zI a1, zI a2, zI a3, zI a4, zI a5, zL a6, zR 0], [zI a3, zI (F 53 0), zR 56], (zup (zup F 54 (Int.toNat (F 53 0)) a1) 55 (Int.toNat (F 53 0)) a2), G, zsg) rfl ?_
    refine zle_ast rfl rfl rfl (fun _ => ?_)
    refine zle_many 5 (196, 50, [zR 53, zI a1, zI a2, zI a3, zI a4, zI a5, zL a6, zR 0], [zI a4, zI (F 53 0), zR 57], (zup (zup (zup F 54 (Int.toNat (F 53 0)) a1) 55 (Int.toNat (F 53 0)) a2) 56 (Int.toNat (F 53 0)) a3), G, zsg) rfl ?_
    refine zle_ast rfl rfl rfl (fun _ => ?_)
    refine zle_many 5 (196, 61, [zR 53, zI a1, zI a2, zI a3, zI a4, zI a5, zL a6, zR 0], [zI a5, zI (F 53 0), zR 58], (zup (zup (zup (zup F 54 (Int.toNat (F 53 0)) a1) 55 (Int.toNat (F 53 0)) a2) 56 (Int.toNat (F 53 0)) a3) 57 (Int.toNat (F 53 0)) a4), G, zsg) rfl ?_
    refine zle_ast rfl rfl rfl (fun _ => ?_)
    refine zle_many 5 (196, 72, [zR 53, zI a1, zI a2, zI a3, zI a4, zI a5, zL a6, zR 0], [zL a6, zI (F 53 0), zR 59], (zup (zup (zup (zup (zup F 54 (Int.toNat (F 53 0)) a1) 55 (Int.toNat (F 53 0)) a2) 56 (Int.toNat (F 53 0)) a3) 57 (Int.toNat (F 53 0)) a4) 58 (Int.toNat (F 53 0)) a5), G, zsg) rfl ?_
    refine zle_lst rfl rfl rfl (fun _ => ?_)
    refine zle_many 6 (196, 83, [zR 53, zI a1, zI a2, zI a3, zI a4, zI a5, zL a6, zR 0], [], (zup (zup (zup (zup (zup (zup F 54 (Int.toNat (F 53 0)) a1) 55 (Int.toNat (F 53 0)) a2) 56 (Int.toNat (F 53 0)) a3) 57 (Int.toNat (F 53 0)) a4) 58 (Int.toNat (F 53 0)) a5) 53 0 (zadd (F 53 0) 1)), (zug G 59 (Int.toNat (F 53 0)) a6), zsg) rfl ?_
    exact zle_ret rfl
  · exact zle_ret rfl
set_option maxRecDepth 20000 in
theorem g_Scene_become_11_22 {d : Nat} {F : zM} {G : zG}  : zle (
  some (none, (zcpy (zcpy (zcpy (zcpy (zcpy (zcpy (zcpy (zcpy (zcpy (zcpy (zup (zup F 11 0 (F 22 0)) 11 1 (F 22 1)) 23 0 12 0 8) 24 0 13 0 8) 25 0 14 0 8) 26 0 15 0 2) 27 0 16 0 2) 28 0 17 0 2) 29 0 18 0 2) 30 0 19 0 2) 31 0 20 0 2) 32 0 21 0 2), G, zsg)) (zex (d + 1) 198 [zR 11, zR 22] (F, G, zsg)) := by
  refine zle_ent (ls := [zR 11, zR 22]) ?_
  refine zle_many 88 (198, 159, [zR 11, zR 22], [], (zcpy (zcpy (zcpy (zcpy (zcpy (zcpy (zcpy (zcpy (zcpy (zcpy (zup (zup F 11 0 (F 22 0)) 11 1 (F 22 1)) 23 0 12 0 8) 24 0 13 0 8) 25 0 14 0 8) 26 0 15 0 2) 27 0 16 0 2) 28 0 17 0 2) 29 0 18 0 2) 30 0 19 0 2) 31 0 20 0 2) 32 0 21 0 2), G, zsg) rfl ?_
  exact zle_ret rfl
set_option maxRecDepth 20000 in
theorem g_Scene_become_11_33 {d : Nat} {F : zM} {G : zG}  : zle (
  some (none, (zcpy (zcpy (zcpy (zcpy (zcpy (zcpy (zcpy (zcpy (zcpy (zcpy (zup (zup F 11 0 (F 33 0)) 11 1 (F 33 1)) 34 0 12 0 8) 35 0 13 0 8) 36 0 14 0 8) 37 0 15 0 2) 38 0 16 0 2) 39 0 17 0 2) 40 0 18 0 2) 41 0 19 0 2) 42 0 20 0 2) 43 0 21 0 2), G, zsg)) (zex (d + 1) 198 [zR 11, zR 33] (F, G, zsg)) := by
  refine zle_ent (ls := [zR 11, zR 33]) ?_
  refine zle_many 88 (198, 159, [zR 11, zR 33], [], (zcpy (zcpy (zcpy (zcpy (zcpy (zcpy (zcpy (zcpy (zcpy (zcpy (zup (zup F 11 0 (F 33 0)) 11 1 (F 33 1)) 34 0 12 0 8) 35 0 13 0 8) 36 0 14 0 8) 37 0 15 0 2) 38 0 16 0 2) 39 0 17 0 2) 40 0 18 0 2) 41 0 19 0 2) 42 0 20 0 2) 43 0 21 0 2), G, zsg) rfl ?_
  exact zle_ret rfl
set_option maxRecDepth 20000 in
theorem g_Scene_become_22_11 {d : Nat} {F : zM} {G : zG}  : zle (
  some (none, (zcpy (zcpy (zcpy (zcpy (zcpy (zcpy (zcpy (zcpy (zcpy (zcpy (zup (zup F 22 0 (F 11 0)) 22 1 (F 11 1)) 12 0 23 0 8) 13 0 24 0 8) 14 0 25 0 8) 15 0 26 0 2) 16 0 27 0 2) 17 0 28 0 2) 18 0 29 0 2) 19 0 30 0 2) 20 0 31 0 2) 21 0 32 0 2), G, zsg)) (zex (d + 1) 198 [zR 22, zR 11] (F, G, zsg)) := by
  refine zle_ent (ls := [zR 22, zR 11]) ?_
  refine zle_many 88 (198, 159, [zR 22, zR 11], [], (zcpy (zcpy (zcpy (zcpy (zcpy (zcpy (zcpy (zcpy (zcpy (zcpy (zup (zup F 22 0 (F 11 0)) 22 1 (F 11 1)) 12 0 23 0 8) 13 0 24 0 8) 14 0 25 0 8) 15 0 26 0 2) 16 0 27 0 2) 17 0 28 0 2) 18 0 29 0 2) 19 0 30 0 2) 20 0 31 0 2) 21 0 32 0 2), G, zsg) rfl ?_
  exact zle_ret rfl
set_option maxRecDepth 20000 in
theorem g_Scene_become_33_11 {d : Nat} {F : zM} {G : zG}  : zle (
  some (none, (zcpy (zcpy (zcpy (zcpy (zcpy (zcpy (zcpy (zcpy (zcpy (zcpy (zup (zup F 33 0 (F 11 0)) 33 1 (F 11 1)) 12 0 34 0 8) 13 0 35 0 8) 14 0 36 0 8) 15 0 37 0 2) 16 0 38 0 2) 17 0 39 0 2) 18 0 40 0 2) 19 0 41 0 2) 20 0 42 0 2) 21 0 43 0 2), G, zsg)) (zex (d + 1) 198 [zR 33, zR 11] (F, G, zsg)) := by
  refine zle_ent (ls := [zR 33, zR 11]) ?_
  refine zle_many 88 (198, 159, [zR 33, zR 11], [], (zcpy (zcpy (zcpy (zcpy (zcpy (zcpy (zcpy (zcpy (zcpy (zcpy (zup (zup F 33 0 (F 11 0)) 33 1 (F 11 1)) 12 0 34 0 8) 13 0 35 0 8) 14 0 36 0 8) 15 0 37 0 2) 16 0 38 0 2) 17 0 39 0 2) 18 0 40 0 2) 19 0 41 0 2) 20 0 42 0 2) 21 0 43 0 2), G, zsg) rfl ?_
  exact zle_ret rfl
set_option maxRecDepth 20000 in
theorem g_Scene_isOpened_11 {d : Nat} {F : zM} {G : zG} (a1 : Int) : zle (
  if (zand (zshr (F 11 1) a1) 1) = 0 then
  some (some (zI 0), F, G, zsg)
else
  some (some (zI 1), F, G, zsg)) (zex (d + 1) 199 [zR 11, zI a1] (F, G, zsg)) := by
  refine zle_ent (ls := [zR 11, zI a1]) ?_
  refine zle_many 7 (199, (bif zcmp .eq (zand (zshr (F 11 1) a1) 1) 0 then 15 else 11), [zR 11, zI a1], [], F, G, zsg) rfl ?_
  refine zle_eq (fun _ => ?_) (fun _ => ?_)
  · refine zle_many 1 (199, 16, [zR 11, zI a1], [zI 0], F, G, zsg) rfl ?_
    exact zle_ret rfl
  · refine zle_many 2 (199, 16, [zR 11, zI a1], [zI 1], F, G, zsg) rfl ?_
    exact zle_ret rfl
set_option maxRecDepth 20000 in
theorem g_Scene_isOpened_22 {d : Nat} {F : zM} {G : zG} (a1 : Int) : zle (
  if (zand (zshr (F 22 1) a1) 1) = 0 then
  some (some (zI 0), F, G, zsg)
else
  some (some (zI 1), F, G, zsg)) (zex (d + 1) 199 [zR 22, zI a1] (F, G, zsg)) := by
  refine zle_ent (ls := [zR 22, zI a1]) ?_
  refine zle_many 7 (199, (bif zcmp .eq (zand (zshr (F 22 1) a1) 1) 0 then 15 else 11), [zR 22, zI a1], [], F, G, zsg) rfl ?_
  refine zle_eq (fun _ => ?_) (fun _ => ?_)
  · refine zle_many 1 (199, 16, [zR 22, zI a1], [zI 0], F, G, zsg) rfl ?_
    exact zle_ret rfl
  · refine zle_many 2 (199, 16, [zR 22, zI a1], [zI 1], F, G, zsg) rfl ?_
    exact zle_ret rfl
set_option maxRecDepth 20000 in
theorem g_Scene_isLoose_11 {d : Nat} {F : zM} {G : zG} (a1 : Int) : zle (
  if 0 ≤ a1 ∧ a1 < 8 then
  if (F 12 (Int.toNat a1)) < 0 then
    some (some (zI 0), F, G, zsg)
  else
    if 0 ≤ a1 ∧ a1 < 8 then
      if (F 13 (Int.toNat a1)) < 0 then
        some (some (zI 1), F, G, zsg)
      else
        some (some (zI 0), F, G, zsg)
    else none
else none) (zex (d + 1) 200 [zR 11, zI a1] (F, G, zsg)) := by
  refine zle_ent (ls := [zR 11, zI a1]) ?_
  refine zle_many 3 (200, 5, [zR 11, zI a1], [zI a1, zR 12], F, G, zsg) rfl ?_
  refine zle_ald rfl rfl rfl (fun _ => ?_)
  refine zle_many 1 (200, (bif zcmp .lt (F 12 (Int.toNat a1)) 0 then 22 else 9), [zR 11, zI a1], [], F, G, zsg) rfl ?_
  refine zle_lt (fun _ => ?_) (fun _ => ?_)
  · refine zle_many 1 (200, 23, [zR 11, zI a1], [zI 0], F, G, zsg) rfl ?_
    exact zle_ret rfl
  · refine zle_many 3 (200, 14, [zR 11, zI a1], [zI a1, zR 13], F, G, zsg) rfl ?_
    refine zle_ald rfl rfl rfl (fun _ => ?_)
    refine zle_many 1 (200, (bif zcmp .ge (F 13 (Int.toNat a1)) 0 then 22 else 18), [zR 11, zI a1], [], F, G, zsg) rfl ?_
    refine zle_ge (fun _ => ?_) (fun _ => ?_)
    · refine zle_many 2 (200, 23, [zR 11, zI a1], [zI 1], F, G, zsg) rfl ?_
      exact zle_ret rfl
    · refine zle_many 1 (200, 23, [zR 11, zI a1], [zI 0], F, G, zsg) rfl ?_
      exact zle_ret rfl
set_option maxRecDepth 20000 in
theorem g_Scene_isLoose_22 {d : Nat} {F : zM} {G : zG} (a1 : Int) : zle (
  if 0 ≤ a1 ∧ a1 < 8 then
  if (F 23 (Int.toNat a1)) < 0 then
    some (some (zI 0), F, G, zsg)
  else
    if 0 ≤ a1 ∧ a1 < 8 then
      if (F 24 (Int.toNat a1)) < 0 then
        some (some (zI 1), F, G, zsg)
      else
        some (some (zI 0), F, G, zsg)
    else none
else none) (zex (d + 1) 200 [zR 22, zI a1] (F, G, zsg)) := by
  refine zle_ent (ls := [zR 22, zI a1]) ?_
  refine zle_many 3 (200, 5, [zR 22, zI a1], [zI a1, zR 23], F, G, zsg) rfl ?_
  refine zle_ald rfl rfl rfl (fun _ => ?_)
  refine zle_many 1 (200, (bif zcmp .lt (F 23 (Int.toNat a1)) 0 then 22 else 9), [zR 22, zI a1], [], F, G, zsg) rfl ?_
  refine zle_lt (fun _ => ?_) (fun _ => ?_)
  · refine zle_many 1 (200, 23, [zR 22, zI a1], [zI 0], F, G, zsg) rfl ?_
    exact zle_ret rfl
  · refine zle_many 3 (200, 14, [zR 22, zI a1], [zI a1, zR 24], F, G, zsg) rfl ?_
    refine zle_ald rfl rfl rfl (fun _ => ?_)
    refine zle_many 1 (200, (bif zcmp .ge (F 24 (Int.toNat a1)) 0 then 22 else 18), [zR 22, zI a1], [], F, G, zsg) rfl ?_
    refine zle_ge (fun _ => ?_) (fun _ => ?_)
    · refine zle_many 2 (200, 23, [zR 22, zI a1], [zI 1], F, G, zsg) rfl ?_
      exact zle_ret rfl
    · refine zle_many 1 (200, 23, [zR 22, zI a1], [zI 0], F, G, zsg) rfl ?_
      exact zle_ret rfl
set_option maxRecDepth 20000 in
theorem g_Scene_isStuck {d : Nat} {F : zM} {G : zG} (a1 : Int) (a2 : Int) : zle (
  if 0 ≤ a1 ∧ a1 < 2 then
  if (F 18 (Int.toNat a1)) < 0 then
    some (some (zI 0), F, G, zsg)
  else
    if 0 ≤ a1 ∧ a1 < 2 then
      if (F 21 (Int.toNat a1)) < a2 then
        some (some (zI 0), F, G, zsg)
      else
        some (some (zI 1), F, G, zsg)
    else none
else none) (zex (d + 1) 201 [zR 11, zI a1, zI a2] (F, G, zsg)) := by
  refine zle_ent (ls := [zR 11, zI a1, zI a2]) ?_
  refine zle_many 3 (201, 5, [zR 11, zI a1, zI a2], [zI a1, zR 18], F, G, zsg) rfl ?_
  refine zle_ald rfl rfl rfl (fun _ => ?_)
  refine zle_many 1 (201, (bif zcmp .lt (F 18 (Int.toNat a1)) 0 then 23 else 9), [zR 11, zI a1, zI a2], [], F, G, zsg) rfl ?_
  refine zle_lt (fun _ => ?_) (fun _ => ?_)
  · refine zle_many 1 (201, 24, [zR 11, zI a1, zI a2], [zI 0], F, G, zsg) rfl ?_
    exact zle_ret rfl
  · refine zle_many 3 (201, 14, [zR 11, zI a1, zI a2], [zI a1, zR 21], F, G, zsg) rfl ?_
    refine zle_ald rfl rfl rfl (fun _ => ?_)
    refine zle_many 2 (201, (bif zcmp .lt (F 21 (Int.toNat a1)) a2 then 23 else 19), [zR 11, zI a1, zI a2], [], F, G, zsg) rfl ?_
    refine zle_lt (fun _ => ?_) (fun _ => ?_)
    · refine zle_many 1 (201, 24, [zR 11, zI a1, zI a2], [zI 0], F, G, zsg) rfl ?_
      exact zle_ret rfl
    · refine zle_many 2 (201, 24, [zR 11, zI a1, zI a2], [zI 1], F, G, zsg) rfl ?_
      exact zle_ret rfl
set_option maxRecDepth 20000 in
theorem g_Scene_moveHand_11 {d : Nat} {F : zM} {G : zG} (a1 : Int) (a2 : Int) (a3 : Int) : zle (
  if 0 ≤ a1 ∧ a1 < 2 then
  if (F 16 (Int.toNat a1)) < 0 then
    if 0 ≤ a1 ∧ a1 < 2 then
      if 0 ≤ a1 ∧ a1 < 2 then
        if 0 ≤ a1 ∧ a1 < 2 then
          some (none, (zup (zup F 15 (Int.toNat a1) a2) 17 (Int.toNat a1) (zadd (F 17 (Int.toNat a1)) a3)), G, zsg)
        else none
      else none
    else none
  else
    if 0 ≤ (F 16 (Int.toNat a1)) ∧ (F 16 (Int.toNat a1)) < 8 then
      if 0 ≤ a1 ∧ a1 < 2 then
        if 0 ≤ (F 16 (Int.toNat a1)) ∧ (F 16 (Int.toNat a1)) < 8 then
          if 0 ≤ a1 ∧ a1 < 2 then
            if 0 ≤ a1 ∧ a1 < 2 then
              if 0 ≤ a1 ∧ a1 < 2 then
                some (none, (zup (zup (zup F 12 (Int.toNat (F 16 (Int.toNat a1))) (zadd (F 12 (Int.toNat (F 16 (Int.toNat a1)))) (zsub a2 (F 15 (Int.toNat a1))))) 15 (Int.toNat a1) a2) 17 (Int.toNat a1) (zadd (F 17 (Int.toNat a1)) a3)), G, zsg)
              else none
            else none
          else none
        else none
      else none
    else none
else none) (zex (d + 1) 202 [zR 11, zI a1, zI a2, zI a3] (F, G, zsg)) := by
  refine zle_ent (ls := [zR 11, zI a1, zI a2, zI a3, zR 0]) ?_
  refine zle_many 3 (202, 5, [zR 11, zI a1, zI a2, zI a3, zR 0], [zI a1, zR 16], F, G, zsg) rfl ?_
  refine zle_ald rfl rfl rfl (fun _ => ?_)
  refine zle_many 3 (202, (bif zcmp .lt (F 16 (Int.toNat a1)) 0 then 31 else 13), [zR 11, zI a1, zI a2, zI a3, zI (F 16 (Int.toNat a1))], [], F, G, zsg) rfl ?_
  refine zle_lt (fun _ => ?_) (fun _ => ?_)
  · refine zle_many 4 (202, 37, [zR 11, zI a1, zI a2, zI a3, zI (F 16 (Int.toNat a1))], [zI a2, zI a1, zR 15], F, G, zsg) rfl ?_
    refine zle_ast rfl rfl rfl (fun _ => ?_)
    refine zle_many 4 (202, 44, [zR 11, zI a1, zI a2, zI a3, zI (F 16 (Int.toNat a1))], [zI a1, zR 17, zI a1, zR 17], (zup F 15 (Int.toNat a1) a2), G, zsg) rfl ?_
    refine zle_ald rfl rfl rfl (fun _ => ?_)
    refine zle_many 0 (202, 45, [zR 11, zI a1, zI a2, zI a3, zI (F 16 (Int.toNat a1))], [zI (F 17 (Int.toNat a1)), zI a1, zR 17], (zup F 15 (Int.toNat a1) a2), G, zsg) rfl ?_
    refine zle_many 2 (202, 47, [zR 11, zI a1, zI a2, zI a3, zI (F 16 (Int.toNat a1))], [zI (zadd (F 17 (Int.toNat a1)) a3), zI a1, zR 17], (zup F 15 (Int.toNat a1) a2), G, zsg) rfl ?_
    refine zle_ast rfl rfl rfl (fun _ => ?_)
    exact zle_ret rfl
  · refine zle_many 4 (202, 20, [zR 11, zI a1, zI a2, zI a3, zI (F 16 (Int.toNat a1))], [zI (F 16 (Int.toNat a1)), zR 12, zI (F 16 (Int.toNat a1)), zR 12], F, G, zsg) rfl ?_
    refine zle_ald rfl rfl rfl (fun _ => ?_)
    refine zle_many 4 (202, 27, [zR 11, zI a1, zI a2, zI a3, zI (F 16 (Int.toNat a1))], [zI a1, zR 15, zI a2, zI (F 12 (Int.toNat (F 16 (Int.toNat a1)))), zI (F 16 (Int.toNat a1)), zR 12], F, G, zsg) rfl ?_
    refine zle_ald rfl rfl rfl (fun _ => ?_)
    refine zle_many 2 (202, 30, [zR 11, zI a1, zI a2, zI a3, zI (F 16 (Int.toNat a1))], [zI (zadd (F 12 (Int.toNat (F 16 (Int.toNat a1)))) (zsub a2 (F 15 (Int.toNat a1)))), zI (F 16 (Int.toNat a1)), zR 12], F, G, zsg) rfl ?_
    refine zle_ast rfl rfl rfl (fun _ => ?_)
    refine zle_many 4 (202, 37, [zR 11, zI a1, zI a2, zI a3, zI (F 16 (Int.toNat a1))], [zI a2, zI a1, zR 15], (zup F 12 (Int.toNat (F 16 (Int.toNat a1))) (zadd (F 12 (Int.toNat (F 16 (Int.toNat a1)))) (zsub a2 (F 15 (Int.toNat a1))))), G, zsg) rfl ?_
    refine zle_ast rfl rfl rfl (fun _ => ?_)
    refine zle_many 4 (202, 44, [zR 11, zI a1, zI a2, zI a3, zI (F 16 (Int.toNat a1))], [zI a1, zR 17, zI a1, zR 17], (zup (zup F 12 (Int.toNat (F 16 (Int.toNat a1))) (zadd (F 12 (Int.toNat (F 16 (Int.toNat a1)))) (zsub a2 (F 15 (Int.toNat a1))))) 15 (Int.toNat a1) a2), G, zsg) rfl ?_
    refine zle_ald rfl rfl rfl (fun _ => ?_)
    refine zle_many 0 (202, 45, [zR 11, zI a1, zI a2, zI a3, zI (F 16 (Int.toNat a1))], [zI (F 17 (Int.toNat a1)), zI a1, zR 17], (zup (zup F 12 (Int.toNat (F 16 (Int.toNat a1))) (zadd (F 12 (Int.toNat (F 16 (Int.toNat a1)))) (zsub a2 (F 15 (Int.toNat a1))))) 15 (Int.toNat a1) a2), G, zsg) rfl ?_
    refine zle_many 2 (202, 47, [zR 11, zI a1, zI a2, zI a3, zI (F 16 (Int.toNat a1))], [zI (zadd (F 17 (Int.toNat a1)) a3), zI a1, zR 17], (zup (zup F 12 (Int.toNat (F 16 (Int.toNat a1))) (zadd (F 12 (Int.toNat (F 16 (Int.toNat a1)))) (zsub a2 (F 15 (Int.toNat a1))))) 15 (Int.toNat a1) a2), G, zsg) rfl ?_
    refine zle_ast rfl rfl rfl (fun _ => ?_)
    exact zle_ret rfl
set_option maxRecDepth 20000 in
theorem g_Scene_moveHand_22 {d : Nat} {F : zM} {G : zG} (a1 : Int) (a2 : Int) (a3 : Int) : zle (
  if 0 ≤ a1 ∧ a1 < 2 then
  if (F 27 (Int.toNat a1)) < 0 then
    if 0 ≤ a1 ∧ a1 < 2 then
      if 0 ≤ a1 ∧ a1 < 2 then
        if 0 ≤ a1 ∧ a1 < 2 then
          some (none, (zup (zup F 26 (Int.toNat a1) a2) 28 (Int.toNat a1) (zadd (F 28 (Int.toNat a1)) a3)), G, zsg)
        else none
      else none
    else none
  else
    if 0 ≤ (F 27 (Int.toNat a1)) ∧ (F 27 (Int.toNat a1)) < 8 then
      if 0 ≤ a1 ∧ a1 < 2 then
        if 0 ≤ (F 27 (Int.toNat a1)) ∧ (F 27 (Int.toNat a1)) < 8 then
          if 0 ≤ a1 ∧ a1 < 2 then
            if 0 ≤ a1 ∧ a1 < 2 then
              if 0 ≤ a1 ∧ a1 < 2 then
                some (none, (zup (zup (zup F 23 (Int.toNat (F 27 (Int.toNat a1))) (zadd (F 23 (Int.toNat (F 27 (Int.toNat a1)))) (zsub a2 (F 26 (Int.toNat a1))))) 26 (Int.toNat a1) a2) 28 (Int.toNat a1) (zadd (F 28 (Int.toNat a1)) a3)), G, zsg)
              else none
            else none
          else none
        else none
      else none
    else none
else none) (zex (d + 1) 202 [zR 22, zI a1, zI a2, zI a3] (F, G, zsg)) := by
  refine zle_ent (ls := [zR 22, zI a1, zI a2, zI a3, zR 0]) ?_
  refine zle_many 3 (202, 5, [zR 22, zI a1, zI a2, zI a3, zR 0], [zI a1, zR 27], F, G, zsg) rfl ?_
  refine zle_ald rfl rfl rfl (fun _ => ?_)
  refine zle_many 3 (202, (bif zcmp .lt (F 27 (Int.toNat a1)) 0 then 31 else 13), [zR 22, zI a1, zI a2, zI a3, zI (F 27 (Int.toNat a1))], [], F, G, zsg) rfl ?_
  refine zle_lt (fun _ => ?_) (fun _ => ?_)
  · refine zle_many 4 (202, 37, [zR 22, zI a1, zI a2, zI a3, zI (F 27 (Int.toNat a1))], [zI a2, zI a1, zR 26], F, G, zsg) rfl ?_
    refine zle_ast rfl rfl rfl (fun _ => ?_)
    refine zle_many 4 (202, 44, [zR 22, zI a1, zI a2, zI a3, zI (F 27 (Int.toNat a1))], [zI a1, zR 28, zI a1, zR 28], (zup F 26 (Int.toNat a1) a2), G, zsg) rfl ?_
    refine zle_ald rfl rfl rfl (fun _ => ?_)
    refine zle_many 0 (202, 45, [zR 22, zI a1, zI a2, zI a3, zI (F 27 (Int.toNat a1))], [zI (F 28 (Int.toNat a1)), zI a1, zR 28], (zup F 26 (Int.toNat a1) a2), G, zsg) rfl ?_
    refine zle_many 2 (202, 47, [zR 22, zI a1, zI a2, zI a3, zI (F 27 (Int.toNat a1))], [zI (zadd (F 28 (Int.toNat a1)) a3), zI a1, zR 28], (zup F 26 (Int.toNat a1) a2), G, zsg) rfl ?_
    refine zle_ast rfl rfl rfl (fun _ => ?_)
    exact zle_ret rfl
  · refine zle_many 4 (202, 20, [zR 22, zI a1, zI a2, zI a3, zI (F 27 (Int.toNat a1))], [zI (F 27 (Int.toNat a1)), zR 23, zI (F 27 (Int.toNat a1)), zR 23], F, G, zsg) rfl ?_
    refine zle_ald rfl rfl rfl (fun _ => ?_)
    refine zle_many 4 (202, 27, [zR 22, zI a1, zI a2, zI a3, zI (F 27 (Int.toNat a1))], [zI a1, zR 26, zI a2, zI (F 23 (Int.toNat (F 27 (Int.toNat a1)))), zI (F 27 (Int.toNat a1)), zR 23], F, G, zsg) rfl ?_
    refine zle_ald rfl rfl rfl (fun _ => ?_)
    refine zle_many 2 (202, 30, [zR 22, zI a1, zI a2, zI a3, zI (F 27 (Int.toNat a1))], [zI (zadd (F 23 (Int.toNat (F 27 (Int.toNat a1)))) (zsub a2 (F 26 (Int.toNat a1)))), zI (F 27 (Int.toNat a1)), zR 23], F, G, zsg) rfl ?_
    refine zle_ast rfl rfl rfl (fun _ => ?_)
    refine zle_many 4 (202, 37, [zR 22, zI a1, zI a2, zI a3, zI (F 27 (Int.toNat a1))], [zI a2, zI a1, zR 26], (zup F 23 (Int.toNat (F 27 (Int.toNat a1))) (zadd (F 23 (Int.toNat (F 27 (Int.toNat a1)))) (zsub a2 (F 26 (Int.toNat a1))))), G, zsg) rfl ?_
    refine zle_ast rfl rfl rfl (fun _ => ?_)
    refine zle_many 4 (202, 44, [zR 22, zI a1, zI a2, zI a3, zI (F 27 (Int.toNat a1))], [zI a1, zR 28, zI a1, zR 28], (zup (zup F 23 (Int.toNat (F 27 (Int.toNat a1))) (zadd (F 23 (Int.toNat (F 27 (Int.toNat a1)))) (zsub a2 (F 26 (Int.toNat a1))))) 26 (Int.toNat a1) a2), G, zsg) rfl ?_
    refine zle_ald rfl rfl rfl (fun _ => ?_)
    refine zle_many 0 (202, 45, [zR 22, zI a1, zI a2, zI a3, zI (F 27 (Int.toNat a1))], [zI (F 28 (Int.toNat a1)), zI a1, zR 28], (zup (zup F 23 (Int.toNat (F 27 (Int.toNat a1))) (zadd (F 23 (Int.toNat (F 27 (Int.toNat a1)))) (zsub a2 (F 26 (Int.toNat a1))))) 26 (Int.toNat a1) a2), G, zsg) rfl ?_
    refine zle_many 2 (202, 47, [zR 22, zI a1, zI a2, zI a3, zI (F 27 (Int.toNat a1))], [zI (zadd (F 28 (Int.toNat a1)) a3), zI a1, zR 28], (zup (zup F 23 (Int.toNat (F 27 (Int.toNat a1))) (zadd (F 23 (Int.toNat (F 27 (Int.toNat a1)))) (zsub a2 (F 26 (Int.toNat a1))))) 26 (Int.toNat a1) a2), G, zsg) rfl ?_
    refine zle_ast rfl rfl rfl (fun _ => ?_)
    exact zle_ret rfl
set_option maxRecDepth 20000 in
theorem g_Scene_hold_11 {d : Nat} {F : zM} {G : zG} (a1 : Int) (a2 : Int) (a3 : Int) : zle (
  if 0 ≤ a1 ∧ a1 < 2 then
  if 0 ≤ a2 ∧ a2 < 8 then
    if 0 ≤ a2 ∧ a2 < 8 then
      some (none, (zup (zup (zup F 16 (Int.toNat a1) a2) 13 (Int.toNat a2) a1) 14 (Int.toNat a2) a3), G, zsg)
    else none
  else none
else none) (zex (d + 1) 203 [zR 11, zI a1, zI a2, zI a3] (F, G, zsg)) := by
  refine zle_ent (ls := [zR 11, zI a1, zI a2, zI a3]) ?_
  refine zle_many 4 (203, 6, [zR 11, zI a1, zI a2, zI a3], [zI a2, zI a1, zR 16], F, G, zsg) rfl ?_
  refine zle_ast rfl rfl rfl (fun _ => ?_)
  refine zle_many 4 (203, 13, [zR 11, zI a1, zI a2, zI a3], [zI a1, zI a2, zR 13], (zup F 16 (Int.toNat a1) a2), G, zsg) rfl ?_
  refine zle_ast rfl rfl rfl (fun _ => ?_)
  refine zle_many 4 (203, 20, [zR 11, zI a1, zI a2, zI a3], [zI a3, zI a2, zR 14], (zup (zup F 16 (Int.toNat a1) a2) 13 (Int.toNat a2) a1), G, zsg) rfl ?_
  refine zle_ast rfl rfl rfl (fun _ => ?_)
  exact zle_ret rfl
set_option maxRecDepth 20000 in
theorem g_Scene_hold_22 {d : Nat} {F : zM} {G : zG} (a1 : Int) (a2 : Int) (a3 : Int) : zle (
  if 0 ≤ a1 ∧ a1 < 2 then
  if 0 ≤ a2 ∧ a2 < 8 then
    if 0 ≤ a2 ∧ a2 < 8 then
      some (none, (zup (zup (zup F 27 (Int.toNat a1) a2) 24 (Int.toNat a2) a1) 25 (Int.toNat a2) a3), G, zsg)
    else none
  else none
else none) (zex (d + 1) 203 [zR 22, zI a1, zI a2, zI a3] (F, G, zsg)) := by
  refine zle_ent (ls := [zR 22, zI a1, zI a2, zI a3]) ?_
  refine zle_many 4 (203, 6, [zR 22, zI a1, zI a2, zI a3], [zI a2, zI a1, zR 27], F, G, zsg) rfl ?_
  refine zle_ast rfl rfl rfl (fun _ => ?_)
  refine zle_many 4 (203, 13, [zR 22, zI a1, zI a2, zI a3], [zI a1, zI a2, zR 24], (zup F 27 (Int.toNat a1) a2), G, zsg) rfl ?_
  refine zle_ast rfl rfl rfl (fun _ => ?_)
  refine zle_many 4 (203, 20, [zR 22, zI a1, zI a2, zI a3], [zI a3, zI a2, zR 25], (zup (zup F 27 (Int.toNat a1) a2) 24 (Int.toNat a2) a1), G, zsg) rfl ?_
  refine zle_ast rfl rfl rfl (fun _ => ?_)
  exact zle_ret rfl
set_option maxRecDepth 20000 in
theorem g_Scene_letGo_11 {d : Nat} {F : zM} {G : zG} (a1 : Int) : zle (
  if 0 ≤ a1 ∧ a1 < 2 then
  if (F 16 (Int.toNat a1)) < 0 then
    some (none, F, G, zsg)
  else
    if 0 ≤ a1 ∧ a1 < 2 then
      if 0 ≤ (F 16 (Int.toNat a1)) ∧ (F 16 (Int.toNat a1)) < 8 then
        if 0 ≤ (F 16 (Int.toNat a1)) ∧ (F 16 (Int.toNat a1)) < 8 then
          some (none, (zup (zup (zup F 16 (Int.toNat a1) (-1)) 13 (Int.toNat (F 16 (Int.toNat a1))) (-1)) 14 (Int.toNat (F 16 (Int.toNat a1))) (-1)), G, zsg)
        else none
      else none
    else none
else none) (zex (d + 1) 204 [zR 11, zI a1] (F, G, zsg)) := by
  refine zle_ent (ls := [zR 11, zI a1, zR 0]) ?_
  refine zle_many 3 (204, 5, [zR 11, zI a1, zR 0], [zI a1, zR 16], F, G, zsg) rfl ?_
  refine zle_ald rfl rfl rfl (fun _ => ?_)
  refine zle_many 3 (204, (bif zcmp .ge (F 16 (Int.toNat a1)) 0 then 12 else 11), [zR 11, zI a1, zI (F 16 (Int.toNat a1))], [], F, G, zsg) rfl ?_
  refine zle_ge (fun _ => ?_) (fun _ => ?_)
  · exact zle_ret rfl
  · refine zle_many 4 (204, 18, [zR 11, zI a1, zI (F 16 (Int.toNat a1))], [zI (-1), zI a1, zR 16], F, G, zsg) rfl ?_
    refine zle_ast rfl rfl rfl (fun _ => ?_)
    refine zle_many 4 (204, 25, [zR 11, zI a1, zI (F 16 (Int.toNat a1))], [zI (-1), zI (F 16 (Int.toNat a1)), zR 13], (zup F 16 (Int.toNat a1) (-1)), G, zsg) rfl ?_
    refine zle_ast rfl rfl rfl (fun _ => ?_)
    refine zle_many 4 (204, 32, [zR 11, zI a1, zI (F 16 (Int.toNat a1))], [zI (-1), zI (F 16 (Int.toNat a1)), zR 14], (zup (zup F 16 (Int.toNat a1) (-1)) 13 (Int.toNat (F 16 (Int.toNat a1))) (-1)), G, zsg) rfl ?_
    refine zle_ast rfl rfl rfl (fun _ => ?_)
    exact zle_ret rfl
set_option maxRecDepth 20000 in
theorem g_Scene_letGo_22 {d : Nat} {F : zM} {G : zG} (a1 : Int) : zle (
  if 0 ≤ a1 ∧ a1 < 2 then
  if (F 27 (Int.toNat a1)) < 0 then
    some (none, F, G, zsg)
  else
    if 0 ≤ a1 ∧ a1 < 2 then
      if 0 ≤ (F 27 (Int.toNat a1)) ∧ (F 27 (Int.toNat a1)) < 8 then
        if 0 ≤ (F 27 (Int.toNat a1)) ∧ (F 27 (Int.toNat a1)) < 8 then
          some (none, (zup (zup (zup F 27 (Int.toNat a1) (-1)) 24 (Int.toNat (F 27 (Int.toNat a1))) (-1)) 25 (Int.toNat (F 27 (Int.toNat a1))) (-1)), G, zsg)
        else none
      else none
    else none
else none) (zex (d + 1) 204 [zR 22, zI a1] (F, G, zsg)) := by
  refine zle_ent (ls := [zR 22, zI a1, zR 0]) ?_
  refine zle_many 3 (204, 5, [zR 22, zI a1, zR 0], [zI a1, zR 27], F, G, zsg) rfl ?_
  refine zle_ald rfl rfl rfl (fun _ => ?_)
  refine zle_many 3 (204, (bif zcmp .ge (F 27 (Int.toNat a1)) 0 then 12 else 11), [zR 22, zI a1, zI (F 27 (Int.toNat a1))], [], F, G, zsg) rfl ?_
  refine zle_ge (fun _ => ?_) (fun _ => ?_)
  · exact zle_ret rfl
  · refine zle_many 4 (204, 18, [zR 22, zI a1, zI (F 27 (Int.toNat a1))], [zI (-1), zI a1, zR 27], F, G, zsg) rfl ?_
    refine zle_ast rfl rfl rfl (fun _ => ?_)
    refine zle_many 4 (204, 25, [zR 22, zI a1, zI (F 27 (Int.toNat a1))], [zI (-1), zI (F 27 (Int.toNat a1)), zR 24], (zup F 27 (Int.toNat a1) (-1)), G, zsg) rfl ?_
    refine zle_ast rfl rfl rfl (fun _ => ?_)
    refine zle_many 4 (204, 32, [zR 22, zI a1, zI (F 27 (Int.toNat a1))], [zI (-1), zI (F 27 (Int.toNat a1)), zR 25], (zup (zup F 27 (Int.toNat a1) (-1)) 24 (Int.toNat (F 27 (Int.toNat a1))) (-1)), G, zsg) rfl ?_
    refine zle_ast rfl rfl rfl (fun _ => ?_)
    exact zle_ret rfl
set_option maxRecDepth 20000 in
theorem g_Scene_begin {d : Nat} {F : zM} {G : zG} (a1 : Int) (a2 : Int) : zle (
  if 0 ≤ a1 ∧ a1 < 2 then
  if 0 ≤ a1 ∧ a1 < 2 then
    if 0 ≤ a1 ∧ a1 < 2 then
      if 0 ≤ a1 ∧ a1 < 2 then
        some (none, (zup (zup (zup (zup F 18 (Int.toNat a1) a2) 19 (Int.toNat a1) 0) 20 (Int.toNat a1) 0) 21 (Int.toNat a1) 0), G, zsg)
      else none
    else none
  else none
else none) (zex (d + 1) 205 [zR 11, zI a1, zI a2] (F, G, zsg)) := by
  refine zle_ent (ls := [zR 11, zI a1, zI a2]) ?_
  refine zle_many 4 (205, 6, [zR 11, zI a1, zI a2], [zI a2, zI a1, zR 18], F, G, zsg) rfl ?_
  refine zle_ast rfl rfl rfl (fun _ => ?_)
  refine zle_many 4 (205, 13, [zR 11, zI a1, zI a2], [zI 0, zI a1, zR 19], (zup F 18 (Int.toNat a1) a2), G, zsg) rfl ?_
  refine zle_ast rfl rfl rfl (fun _ => ?_)
  refine zle_many 4 (205, 20, [zR 11, zI a1, zI a2], [zI 0, zI a1, zR 20], (zup (zup F 18 (Int.toNat a1) a2) 19 (Int.toNat a1) 0), G, zsg) rfl ?_
  refine zle_ast rfl rfl rfl (fun _ => ?_)
  refine zle_many 4 (205, 27, [zR 11, zI a1, zI a2], [zI 0, zI a1, zR 21], (zup (zup (zup F 18 (Int.toNat a1) a2) 19 (Int.toNat a1) 0) 20 (Int.toNat a1) 0), G, zsg) rfl ?_
  refine zle_ast rfl rfl rfl (fun _ => ?_)
  exact zle_ret rfl
set_option maxRecDepth 20000 in
theorem g_Scene_endAct {d : Nat} {F : zM} {G : zG} (a1 : Int) : zle (
  if 0 ≤ a1 ∧ a1 < 2 then
  if 0 ≤ a1 ∧ a1 < 2 then
    if 0 ≤ a1 ∧ a1 < 2 then
      if 0 ≤ a1 ∧ a1 < 2 then
        some (none, (zup (zup (zup F 19 (Int.toNat a1) (zadd (F 19 (Int.toNat a1)) 1)) 20 (Int.toNat a1) 0) 21 (Int.toNat a1) 0), G, zsg)
      else none
    else none
  else none
else none) (zex (d + 1) 206 [zR 11, zI a1] (F, G, zsg)) := by
  refine zle_ent (ls := [zR 11, zI a1]) ?_
  refine zle_many 4 (206, 6, [zR 11, zI a1], [zI a1, zR 19, zI a1, zR 19], F, G, zsg) rfl ?_
  refine zle_ald rfl rfl rfl (fun _ => ?_)
  refine zle_many 2 (206, 9, [zR 11, zI a1], [zI (zadd (F 19 (Int.toNat a1)) 1), zI a1, zR 19], F, G, zsg) rfl ?_
  refine zle_ast rfl rfl rfl (fun _ => ?_)
  refine zle_many 4 (206, 16, [zR 11, zI a1], [zI 0, zI a1, zR 20], (zup F 19 (Int.toNat a1) (zadd (F 19 (Int.toNat a1)) 1)), G, zsg) rfl ?_
  refine zle_ast rfl rfl rfl (fun _ => ?_)
  refine zle_many 4 (206, 23, [zR 11, zI a1], [zI 0, zI a1, zR 21], (zup (zup F 19 (Int.toNat a1) (zadd (F 19 (Int.toNat a1)) 1)) 20 (Int.toNat a1) 0), G, zsg) rfl ?_
  refine zle_ast rfl rfl rfl (fun _ => ?_)
  exact zle_ret rfl
set_option maxRecDepth 20000 in
theorem g_Sheets_isSheet {d : Nat} {F : zM} {G : zG} (a0 : Int) : zle (
  if a0 < 0 then
  some (some (zI 0), F, G, zsg)
else
  if a0 < 4 then
    some (some (zI 1), F, G, zsg)
  else
    some (some (zI 0), F, G, zsg)) (zex (d + 1) 208 [zI a0] (F, G, zsg)) := by
  refine zle_ent (ls := [zI a0]) ?_
  refine zle_many 2 (208, (bif zcmp .lt a0 0 then 13 else 4), [zI a0], [], F, G, zsg) rfl ?_
  refine zle_lt (fun _ => ?_) (fun _ => ?_)
  · refine zle_many 1 (208, 14, [zI a0], [zI 0], F, G, zsg) rfl ?_
    exact zle_ret rfl
  · refine zle_many 3 (208, (bif zcmp .ge a0 4 then 13 else 9), [zI a0], [], F, G, zsg) rfl ?_
    refine zle_ge (fun _ => ?_) (fun _ => ?_)
    · refine zle_many 2 (208, 14, [zI a0], [zI 1], F, G, zsg) rfl ?_
      exact zle_ret rfl
    · refine zle_many 1 (208, 14, [zI a0], [zI 0], F, G, zsg) rfl ?_
      exact zle_ret rfl
set_option maxRecDepth 20000 in
theorem g_Sheets_isThere {d : Nat} {F : zM} {G : zG} (a1 : Int) : zle (
  if 0 ≤ a1 ∧ a1 < 4 then
  if (F 68 (Int.toNat a1)) = (-1) then
    some (some (zI 0), F, G, zsg)
  else
    some (some (zI 1), F, G, zsg)
else none) (zex (d + 1) 209 [zR 67, zI a1] (F, G, zsg)) := by
  refine zle_ent (ls := [zR 67, zI a1]) ?_
  refine zle_many 3 (209, 5, [zR 67, zI a1], [zI a1, zR 68], F, G, zsg) rfl ?_
  refine zle_ald rfl rfl rfl (fun _ => ?_)
  refine zle_many 2 (209, (bif zcmp .eq (F 68 (Int.toNat a1)) (-1) then 14 else 10), [zR 67, zI a1], [], F, G, zsg) rfl ?_
  refine zle_eq (fun _ => ?_) (fun _ => ?_)
  · refine zle_many 1 (209, 15, [zR 67, zI a1], [zI 0], F, G, zsg) rfl ?_
    exact zle_ret rfl
  · refine zle_many 2 (209, 15, [zR 67, zI a1], [zI 1], F, G, zsg) rfl ?_
    exact zle_ret rfl
set_option maxRecDepth 20000 in
theorem g_Sheets_make {d : Nat} {F : zM} {G : zG} (a1 : Int) (a2 : Int) (a3 : Int) : zle (
  if 0 ≤ a1 ∧ a1 < 4 then
  if 0 ≤ a1 ∧ a1 < 4 then
    zev zX0 d (210, 17, [zR 67, zI a1, zI a2, zI a3, zI 0], [], (zup (zup F 68 (Int.toNat a1) a2) 69 (Int.toNat a1) a3), G, zsg)
  else none
else none) (zex (d + 1) 210 [zR 67, zI a1, zI a2, zI a3] (F, G, zsg)) := by
  refine zle_ent (ls := [zR 67, zI a1, zI a2, zI a3, zR 0]) ?_
  refine zle_many 4 (210, 6, [zR 67, zI a1, zI a2, zI a3, zR 0], [zI a2, zI a1, zR 68], F, G, zsg) rfl ?_
  refine zle_ast rfl rfl rfl (fun _ => ?_)
  refine zle_many 4 (210, 13, [zR 67, zI a1, zI a2, zI a3, zR 0], [zI a3, zI a1, zR 69], (zup F 68 (Int.toNat a1) a2), G, zsg) rfl ?_
  refine zle_ast rfl rfl rfl (fun _ => ?_)
  refine zle_many 2 (210, 17, [zR 67, zI a1, zI a2, zI a3, zI 0], [], (zup (zup F 68 (Int.toNat a1) a2) 69 (Int.toNat a1) a3), G, zsg) rfl ?_
  exact zle_rfl
set_option maxRecDepth 20000 in
theorem g_Sheets_make_17 {d : Nat} {F : zM} {G : zG} (l1 : Int) (l2 : Int) (l3 : Int) (l4 : Int) : zle (
  if l4 < l3 then
  if 0 ≤ (zadd (zmul l1 40) l4) ∧ (zadd (zmul l1 40) l4) < 160 then
    zev zX0 d (210, 17, [zR 67, zI l1, zI l2, zI l3, zI (zadd l4 1)], [], (zup F 70 (Int.toNat (zadd (zmul l1 40) l4)) 0), G, zsg)
  else none
else
  some (some (zI 1), F, G, zsg)) (zev zX0 d (210, 17, [zR 67, zI l1, zI l2, zI l3, zI l4], [], F, G, zsg)) := by
  refine zle_many 3 (210, (bif zcmp .ge l4 l3 then 42 else 23), [zR 67, zI l1, zI l2, zI l3, zI l4], [], F, G, zsg) rfl ?_
  refine zle_ge (fun _ => ?_) (fun _ => ?_)
  · refine zle_many 8 (210, 35, [zR 67, zI l1, zI l2, zI l3, zI l4], [zI 0, zI (zadd (zmul l1 40) l4), zR 70], F, G, zsg) rfl ?_
    refine zle_ast rfl rfl rfl (fun _ => ?_)
    refine zle_many 2 (210, 17, [zR 67, zI l1, zI l2, zI l3, zI (zadd l4 1)], [], (zup F 70 (Int.toNat (zadd (zmul l1 40) l4)) 0), G, zsg) rfl ?_
    exact zle_rfl
  · refine zle_many 1 (210, 43, [zR 67, zI l1, zI l2, zI l3, zI l4], [zI 1], F, G, zsg) rfl ?_
    exact zle_ret rfl
set_option maxRecDepth 20000 in
theorem g_Sheets_numberAt {d : Nat} {F : zM} {G : zG} (a1 : Int) (a2 : Int) : zle (
  if 0 ≤ (zadd (zmul a1 40) a2) ∧ (zadd (zmul a1 40) a2) < 160 then
  some (some (zI (F 70 (Int.toNat (zadd (zmul a1 40) a2)))), F, G, zsg)
else none) (zex (d + 1) 211 [zR 67, zI a1, zI a2] (F, G, zsg)) := by
  refine zle_ent (ls := [zR 67, zI a1, zI a2]) ?_
  refine zle_many 7 (211, 10, [zR 67, zI a1, zI a2], [zI (zadd (zmul a1 40) a2), zR 70], F, G, zsg) rfl ?_
  refine zle_ald rfl rfl rfl (fun _ => ?_)
  exact zle_ret rfl
set_option maxRecDepth 20000 in
theorem g_Sheets_write {d : Nat} {F : zM} {G : zG} (a1 : Int) (a2 : Int) (a3 : Int) : zle (
  if 0 ≤ a1 ∧ a1 < 4 then
  if (F 68 (Int.toNat a1)) = 0 then
    if 0 ≤ (zadd (zmul a1 40) a2) ∧ (zadd (zmul a1 40) a2) < 160 then
      some (none, (zup F 70 (Int.toNat (zadd (zmul a1 40) a2)) (zi2b a3)), G, zsg)
    else none
  else
    if 0 ≤ a1 ∧ a1 < 4 then
      if (F 68 (Int.toNat a1)) = 1 then
        if 0 ≤ (zadd (zmul a1 40) a2) ∧ (zadd (zmul a1 40) a2) < 160 then
          some (none, (zup F 70 (Int.toNat (zadd (zmul a1 40) a2)) (zi2s a3)), G, zsg)
        else none
      else
        if 0 ≤ (zadd (zmul a1 40) a2) ∧ (zadd (zmul a1 40) a2) < 160 then
          some (none, (zup F 70 (Int.toNat (zadd (zmul a1 40) a2)) a3), G, zsg)
        else none
    else none
else none) (zex (d + 1) 212 [zR 67, zI a1, zI a2, zI a3] (F, G, zsg)) := by
  refine zle_ent (ls := [zR 67, zI a1, zI a2, zI a3, zR 0]) ?_
  refine zle_many 3 (212, 5, [zR 67, zI a1, zI a2, zI a3, zR 0], [zI a1, zR 68], F, G, zsg) rfl ?_
  refine zle_ald rfl rfl rfl (fun _ => ?_)
  refine zle_many 1 (212, (bif zcmp .ne (F 68 (Int.toNat a1)) 0 then 14 else 9), [zR 67, zI a1, zI a2, zI a3, zR 0], [], F, G, zsg) rfl ?_
  refine zle_ne (fun _ => ?_) (fun _ => ?_)
  · refine zle_many 12 (212, 44, [zR 67, zI a1, zI a2, zI a3, zI (zi2b a3)], [zI (zi2b a3), zI (zadd (zmul a1 40) a2), zR 70], F, G, zsg) rfl ?_
    refine zle_ast rfl rfl rfl (fun _ => ?_)
    exact zle_ret rfl
  · refine zle_many 3 (212, 19, [zR 67, zI a1, zI a2, zI a3, zR 0], [zI a1, zR 68], F, G, zsg) rfl ?_
    refine zle_ald rfl rfl rfl (fun _ => ?_)
    refine zle_many 2 (212, (bif zcmp .ne (F 68 (Int.toNat a1)) 1 then 29 else 24), [zR 67, zI a1, zI a2, zI a3, zR 0], [], F, G, zsg) rfl ?_
    refine zle_ne (fun _ => ?_) (fun _ => ?_)
    · refine zle_many 12 (212, 44, [zR 67, zI a1, zI a2, zI a3, zI (zi2s a3)], [zI (zi2s a3), zI (zadd (zmul a1 40) a2), zR 70], F, G, zsg) rfl ?_
      refine zle_ast rfl rfl rfl (fun _ => ?_)
      exact zle_ret rfl
    · refine zle_many 10 (212, 44, [zR 67, zI a1, zI a2, zI a3, zI a3], [zI a3, zI (zadd (zmul a1 40) a2), zR 70], F, G, zsg) rfl ?_
      refine zle_ast rfl rfl rfl (fun _ => ?_)
      exact zle_ret rfl
set_option maxRecDepth 20000 in
theorem g_Sheets_isPart {d : Nat} {F : zM} {G : zG} (a1 : Int) (a2 : Int) (a3 : Int) : zle (
  if a2 < 0 then
  some (some (zI 0), F, G, zsg)
else
  if a3 < 0 then
    some (some (zI 0), F, G, zsg)
  else
    if 0 ≤ a1 ∧ a1 < 4 then
      if (F 69 (Int.toNat a1)) < a2 then
        some (some (zI 0), F, G, zsg)
      else
        if 0 ≤ a1 ∧ a1 < 4 then
          if (zsub (F 69 (Int.toNat a1)) a2) < a3 then
            some (some (zI 0), F, G, zsg)
          else
            some (some (zI 1), F, G, zsg)
        else none
    else none) (zex (d + 1) 213 [zR 67, zI a1, zI a2, zI a3] (F, G, zsg)) := by
  refine zle_ent (ls := [zR 67, zI a1, zI a2, zI a3]) ?_
  refine zle_many 2 (213, (bif zcmp .lt a2 0 then 34 else 4), [zR 67, zI a1, zI a2, zI a3], [], F, G, zsg) rfl ?_
  refine zle_lt (fun _ => ?_) (fun _ => ?_)
  · refine zle_many 1 (213, 35, [zR 67, zI a1, zI a2, zI a3], [zI 0], F, G, zsg) rfl ?_
    exact zle_ret rfl
  · refine zle_many 2 (213, (bif zcmp .lt a3 0 then 34 else 8), [zR 67, zI a1, zI a2, zI a3], [], F, G, zsg) rfl ?_
    refine zle_lt (fun _ => ?_) (fun _ => ?_)
    · refine zle_many 1 (213, 35, [zR 67, zI a1, zI a2, zI a3], [zI 0], F, G, zsg) rfl ?_
      exact zle_ret rfl
    · refine zle_many 4 (213, 14, [zR 67, zI a1, zI a2, zI a3], [zI a1, zR 69, zI a2], F, G, zsg) rfl ?_
      refine zle_ald rfl rfl rfl (fun _ => ?_)
      refine zle_many 1 (213, (bif zcmp .gt a2 (F 69 (Int.toNat a1)) then 34 else 18), [zR 67, zI a1, zI a2, zI a3], [], F, G, zsg) rfl ?_
      refine zle_gt (fun _ => ?_) (fun _ => ?_)
      · refine zle_many 1 (213, 35, [zR 67, zI a1, zI a2, zI a3], [zI 0], F, G, zsg) rfl ?_
        exact zle_ret rfl
      · refine zle_many 4 (213, 24, [zR 67, zI a1, zI a2, zI a3], [zI a1, zR 69, zI a3], F, G, zsg) rfl ?_
        refine zle_ald rfl rfl rfl (fun _ => ?_)
        refine zle_many 3 (213, (bif zcmp .gt a3 (zsub (F 69 (Int.toNat a1)) a2) then 34 else 30), [zR 67, zI a1, zI a2, zI a3], [], F, G, zsg) rfl ?_
        refine zle_gt (fun _ => ?_) (fun _ => ?_)
        · refine zle_many 1 (213, 35, [zR 67, zI a1, zI a2, zI a3], [zI 0], F, G, zsg) rfl ?_
          exact zle_ret rfl
        · refine zle_many 2 (213, 35, [zR 67, zI a1, zI a2, zI a3], [zI 1], F, G, zsg) rfl ?_
          exact zle_ret rfl
set_option maxRecDepth 20000 in
theorem g_Sheets_copyPart {d : Nat} {F : zM} {G : zG} (a1 : Int) (a2 : Int) (a3 : Int) (a4 : Int) (a5 : Int) : zle (
  if (0 : Int) ≤ (zadd (zmul a1 40) a2) ∧ (0 : Int) ≤ (zadd (zmul a3 40) a4) ∧ (0 : Int) ≤ a5 ∧ (Int.toNat (zadd (zmul a1 40) a2)) + (Int.toNat a5) ≤ 160 ∧ (Int.toNat (zadd (zmul a3 40) a4)) + (Int.toNat a5) ≤ 160 then
  some (none, (zcpy F 70 (Int.toNat (zadd (zmul a1 40) a2)) 70 (Int.toNat (zadd (zmul a3 40) a4)) (Int.toNat a5)), G, zsg)
else none) (zex (d + 1) 214 [zR 67, zI a1, zI a2, zI a3, zI a4, zI a5] (F, G, zsg)) := by
  refine zle_ent (ls := [zR 67, zI a1, zI a2, zI a3, zI a4, zI a5]) ?_
  refine zle_many 15 (214, 23, [zR 67, zI a1, zI a2, zI a3, zI a4, zI a5], [zI a5, zI (zadd (zmul a3 40) a4), zR 70, zI (zadd (zmul a1 40) a2), zR 70], F, G, zsg) rfl ?_
  refine zle_cpy rfl rfl rfl (by decide) rfl ?_
  exact zle_ret rfl
set_option maxRecDepth 20000 in
theorem g_Tape_placeOf {d : Nat} {F : zM} {G : zG} (a0 : Int) (a1 : Int) : zle (
  some (some (zI (zadd (zmul a0 12) a1)), F, G, zsg)) (zex (d + 1) 216 [zI a0, zI a1] (F, G, zsg)) := by
  refine zle_ent (ls := [zI a0, zI a1]) ?_
  refine zle_many 5 (216, 6, [zI a0, zI a1], [zI (zadd (zmul a0 12) a1)], F, G, zsg) rfl ?_
  exact zle_ret rfl
set_option maxRecDepth 20000 in
theorem g_Tape_append {d : Nat} {F : zM} {G : zG} (a1 : BitVec 64) (a2 : Int) : zle (
  zev zX0 d (217, 5, [zR 46, zL a1, zR 0, zI a2, zI (zsub a2 1)], [], F, G, zsg)) (zex (d + 1) 217 [zR 46, zL a1, zI a2] (F, G, zsg)) := by
  refine zle_ent (ls := [zR 46, zL a1, zR 0, zI a2, zR 0]) ?_
  refine zle_many 4 (217, 5, [zR 46, zL a1, zR 0, zI a2, zI (zsub a2 1)], [], F, G, zsg) rfl ?_
  exact zle_rfl
set_option maxRecDepth 20000 in
theorem g_Tape_append_5 {d : Nat} {F : zM} {G : zG} (l1 : BitVec 64) (l3 : Int) (l4 : Int) : zle (
  if l4 < 0 then
  some (none, F, G, zsg)
else
  if 0 ≤ (F 46 1) ∧ (F 46 1) < 120 then
    zev zX0 d (217, 5, [zR 46, zL l1, zR 0, zI l3, zI (zadd l4 (-1))], [], (zup (zup F 46 1 (zadd (F 46 1) 1)) 47 (Int.toNat (F 46 1)) (zand (zl2i (zlushr l1 (zmul 8 l4))) 255)), G, zsg)
  else none) (zev zX0 d (217, 5, [zR 46, zL l1, zR 0, zI l3, zI l4], [], F, G, zsg)) := by
  refine zle_many 2 (217, (bif zcmp .lt l4 0 then 44 else 10), [zR 46, zL l1, zR 0, zI l3, zI l4], [], F, G, zsg) rfl ?_
  refine zle_lt (fun _ => ?_) (fun _ => ?_)
  · exact zle_ret rfl
  · refine zle_many 17 (217, 37, [zR 46, zL l1, zR 0, zI l3, zI l4], [zI (zand (zl2i (zlushr l1 (zmul 8 l4))) 255), zI (F 46 1), zR 47], (zup F 46 1 (zadd (F 46 1) 1)), G, zsg) rfl ?_
    refine zle_ast rfl rfl rfl (fun _ => ?_)
    refine zle_many 2 (217, 5, [zR 46, zL l1, zR 0, zI l3, zI (zadd l4 (-1))], [], (zup (zup F 46 1 (zadd (F 46 1) 1)) 47 (Int.toNat (F 46 1)) (zand (zl2i (zlushr l1 (zmul 8 l4))) 255)), G, zsg) rfl ?_
    exact zle_rfl
set_option maxRecDepth 20000 in
theorem g_Tape_readProgram {d : Nat} {F : zM} {G : zG}  : zle (
  zev zX0 d (218, 9, [zR 46, zI 0, zI 1], [], (zup F 46 7 0), G, zsg)) (zex (d + 1) 218 [zR 46] (F, G, zsg)) := by
  refine zle_ent (ls := [zR 46, zR 0, zR 0]) ?_
  refine zle_many 7 (218, 9, [zR 46, zI 0, zI 1], [], (zup F 46 7 0), G, zsg) rfl ?_
  exact zle_rfl
set_option maxRecDepth 20000 in
theorem g_Tape_readProgram_9 {d : Nat} {F : zM} {G : zG} (l1 : Int) (l2 : Int) : zle (
  if l2 = 0 then
  if l2 = 0 then
    some (some (zI (F 46 7)), (zup F 46 1 0), G, zsg)
  else
    if (F 46 7) < (F 46 1) then
      some (some (zI (F 46 7)), (zup F 46 1 0), G, zsg)
    else
      if 0 ≤ (F 46 2) ∧ (F 46 2) < 6 then
        some (some (zI (-1)), (zup (zup (zup F 46 1 0) 46 2 (zadd (F 46 2) 1)) 48 (Int.toNat (F 46 2)) l1), G, zsg)
      else none
else
  if l1 < 12 then
    if l1 = 0 then
      zbI (zex d 216 [zI (F 46 2), zI l1] (F, G, zsg)) (fun v1 F1 G1 =>
        zbI (zex d 219 [zR 46, zI v1] (F1, G1, zsg)) (fun v2 F2 G2 =>
          zev zX0 d (218, 9, [zR 46, zI (zadd l1 1), zI v2], [], F2, G2, zsg)))
    else
      if (F 46 7) < (F 46 1) then
        zbI (zex d 216 [zI (F 46 2), zI l1] (F, G, zsg)) (fun v3 F3 G3 =>
          zbI (zex d 219 [zR 46, zI v3] (F3, G3, zsg)) (fun v4 F4 G4 =>
            zev zX0 d (218, 9, [zR 46, zI (zadd l1 1), zI v4], [], F4, G4, zsg)))
      else
        if l2 = 0 then
          some (some (zI (F 46 7)), (zup F 46 1 0), G, zsg)
        else
          if (F 46 7) < (F 46 1) then
            some (some (zI (F 46 7)), (zup F 46 1 0), G, zsg)
          else
            if 0 ≤ (F 46 2) ∧ (F 46 2) < 6 then
              some (some (zI (-1)), (zup (zup (zup F 46 1 0) 46 2 (zadd (F 46 2) 1)) 48 (Int.toNat (F 46 2)) l1), G, zsg)
            else none
  else
    if l2 = 0 then
      some (some (zI (F 46 7)), (zup F 46 1 0), G, zsg)
    else
      if (F 46 7) < (F 46 1) then
        some (some (zI (F 46 7)), (zup F 46 1 0), G, zsg)
      else
        if 0 ≤ (F 46 2) ∧ (F 46 2) < 6 then
          some (some (zI (-1)), (zup (zup (zup F 46 1 0) 46 2 (zadd (F 46 2) 1)) 48 (Int.toNat (F 46 2)) l1), G, zsg)
        else none) (zev zX0 d (218, 9, [zR 46, zI l1, zI l2], [], F, G, zsg)) := by
  refine zle_many 2 (218, (bif zcmp .eq l2 0 then 53 else 13), [zR 46, zI l1, zI l2], [], F, G, zsg) rfl ?_
  refine zle_eq (fun _ => ?_) (fun _ => ?_)
  · refine zle_many 2 (218, (bif zcmp .eq l2 0 then 72 else 57), [zR 46, zI l1, zI l2], [], F, G, zsg) rfl ?_
    refine zle_eq (fun _ => ?_) (fun _ => ?_)
    · refine zle_many 9 (218, 87, [zR 46, zI l1, zI 0], [zI (F 46 7)], (zup F 46 1 0), G, zsg) rfl ?_
      exact zle_ret rfl
    · refine zle_many 5 (218, (bif zcmp .lt (F 46 7) (F 46 1) then 72 else 68), [zR 46, zI l1, zI l2], [], F, G, zsg) rfl ?_
      refine zle_lt (fun _ => ?_) (fun _ => ?_)
      · refine zle_many 9 (218, 87, [zR 46, zI l1, zI 0], [zI (F 46 7)], (zup F 46 1 0), G, zsg) rfl ?_
        exact zle_ret rfl
      · refine zle_many 18 (218, 104, [zR 46, zI l1, zI 1], [zI l1, zI (F 46 2), zR 48], (zup (zup F 46 1 0) 46 2 (zadd (F 46 2) 1)), G, zsg) rfl ?_
        refine zle_ast rfl rfl rfl (fun _ => ?_)
        refine zle_many 1 (218, 106, [zR 46, zI l1, zI 1], [zI (-1)], (zup (zup (zup F 46 1 0) 46 2 (zadd (F 46 2) 1)) 48 (Int.toNat (F 46 2)) l1), G, zsg) rfl ?_
        exact zle_ret rfl
  · refine zle_many 3 (218, (bif zcmp .ge l1 12 then 53 else 19), [zR 46, zI l1, zI l2], [], F, G, zsg) rfl ?_
    refine zle_ge (fun _ => ?_) (fun _ => ?_)
    · refine zle_many 2 (218, (bif zcmp .eq l1 0 then 34 else 23), [zR 46, zI l1, zI l2], [], F, G, zsg) rfl ?_
      refine zle_eq (fun _ => ?_) (fun _ => ?_)
      · refine zle_many 4 (218, 40, [zR 46, zI l1, zI l2], [zI l1, zI (F 46 2), zR 46], F, G, zsg) rfl ?_
        refine zle_I rfl (fun v1 F1 G1 => ?_)
        refine zle_I rfl (fun v2 F2 G2 => ?_)
        refine zle_many 3 (218, 9, [zR 46, zI (zadd l1 1), zI v2], [], F2, G2, zsg) rfl ?_
        exact zle_rfl
      · refine zle_many 5 (218, (bif zcmp .ge (F 46 7) (F 46 1) then 53 else 34), [zR 46, zI l1, zI l2], [], F, G, zsg) rfl ?_
        refine zle_ge (fun _ => ?_) (fun _ => ?_)
        · refine zle_many 4 (218, 40, [zR 46, zI l1, zI l2], [zI l1, zI (F 46 2), zR 46], F, G, zsg) rfl ?_
          refine zle_I rfl (fun v3 F3 G3 => ?_)
          refine zle_I rfl (fun v4 F4 G4 => ?_)
          refine zle_many 3 (218, 9, [zR 46, zI (zadd l1 1), zI v4], [], F4, G4, zsg) rfl ?_
          exact zle_rfl
        · refine zle_many 2 (218, (bif zcmp .eq l2 0 then 72 else 57), [zR 46, zI l1, zI l2], [], F, G, zsg) rfl ?_
          refine zle_eq (fun _ => ?_) (fun _ => ?_)
          · refine zle_many 9 (218, 87, [zR 46, zI l1, zI 0], [zI (F 46 7)], (zup F 46 1 0), G, zsg) rfl ?_
            exact zle_ret rfl
          · refine zle_many 5 (218, (bif zcmp .lt (F 46 7) (F 46 1) then 72 else 68), [zR 46, zI l1, zI l2], [], F, G, zsg) rfl ?_
            refine zle_lt (fun _ => ?_) (fun _ => ?_)
            · refine zle_many 9 (218, 87, [zR 46, zI l1, zI 0], [zI (F 46 7)], (zup F 46 1 0), G, zsg) rfl ?_
              exact zle_ret rfl
            · refine zle_many 18 (218, 104, [zR 46, zI l1, zI 1], [zI l1, zI (F 46 2), zR 48], (zup (zup F 46 1 0) 46 2 (zadd (F 46 2) 1)), G, zsg) rfl ?_
              refine zle_ast rfl rfl rfl (fun _ => ?_)
              refine zle_many 1 (218, 106, [zR 46, zI l1, zI 1], [zI (-1)], (zup (zup (zup F 46 1 0) 46 2 (zadd (F 46 2) 1)) 48 (Int.toNat (F 46 2)) l1), G, zsg) rfl ?_
              exact zle_ret rfl
    · refine zle_many 2 (218, (bif zcmp .eq l2 0 then 72 else 57), [zR 46, zI l1, zI l2], [], F, G, zsg) rfl ?_
      refine zle_eq (fun _ => ?_) (fun _ => ?_)
      · refine zle_many 9 (218, 87, [zR 46, zI l1, zI 0], [zI (F 46 7)], (zup F 46 1 0), G, zsg) rfl ?_
        exact zle_ret rfl
      · refine zle_many 5 (218, (bif zcmp .lt (F 46 7) (F 46 1) then 72 else 68), [zR 46, zI l1, zI l2], [], F, G, zsg) rfl ?_
        refine zle_lt (fun _ => ?_) (fun _ => ?_)
        · refine zle_many 9 (218, 87, [zR 46, zI l1, zI 0], [zI (F 46 7)], (zup F 46 1 0), G, zsg) rfl ?_
          exact zle_ret rfl
        · refine zle_many 18 (218, 104, [zR 46, zI l1, zI 1], [zI l1, zI (F 46 2), zR 48], (zup (zup F 46 1 0) 46 2 (zadd (F 46 2) 1)), G, zsg) rfl ?_
          refine zle_ast rfl rfl rfl (fun _ => ?_)
          refine zle_many 1 (218, 106, [zR 46, zI l1, zI 1], [zI (-1)], (zup (zup (zup F 46 1 0) 46 2 (zadd (F 46 2) 1)) 48 (Int.toNat (F 46 2)) l1), G, zsg) rfl ?_
          exact zle_ret rfl
set_option maxRecDepth 20000 in
theorem g_Tape_readAct {d : Nat} {F : zM} {G : zG} (a1 : Int) : zle (
  zbI (zex d 221 [zR 46] (F, G, zsg)) (fun v1 F1 G1 =>
  zbI (zex d 223 [zI v1] (F1, G1, zsg)) (fun v2 F2 G2 =>
    if v2 < 0 then
      some (some (zI 0), F2, G2, zsg)
    else
      if v2 = 2 then
        if v2 = 1 then
          zbI (zex d 221 [zR 46] ((zup (zup F2 46 7 (zadd (F2 46 7) 1)) 46 8 0), G2, zsg)) (fun v4 F4 G4 =>
            zbI (zex d 224 [zI v4] (F4, G4, zsg)) (fun v5 F5 G5 =>
              if v5 < 0 then
                some (some (zI 0), F5, G5, zsg)
              else
                zbI (zex d 221 [zR 46] ((zup F5 46 7 (zadd (F5 46 7) 1)), G5, zsg)) (fun v6 F6 G6 =>
                  if v6 = 59 then
                    if 0 ≤ a1 ∧ a1 < 72 then
                      if 0 ≤ a1 ∧ a1 < 72 then
                        if 0 ≤ a1 ∧ a1 < 72 then
                        some (some (zI 1), (zup (zup (zup (zup F6 46 7 (zadd (F6 46 7) 1)) 49 (Int.toNat a1) v2) 50 (Int.toNat a1) (F6 46 8)) 51 (Int.toNat a1) v5), G6, zsg)
                      else none
                      else none
                    else none
                  else
                    some (some (zI 0), F6, G6, zsg))))
        else
          zbI (zex d 221 [zR 46] ((zup (zup F2 46 7 (zadd (F2 46 7) 1)) 46 8 0), G2, zsg)) (fun v3 F3 G3 =>
            if v3 = 59 then
              if 0 ≤ a1 ∧ a1 < 72 then
                if 0 ≤ a1 ∧ a1 < 72 then
                  if 0 ≤ a1 ∧ a1 < 72 then
                    some (some (zI 1), (zup (zup (zup (zup F3 46 7 (zadd (F3 46 7) 1)) 49 (Int.toNat a1) v2) 50 (Int.toNat a1) (F3 46 8)) 51 (Int.toNat a1) 0), G3, zsg)
                  else none
                else none
              else none
            else
              some (some (zI 0), F3, G3, zsg))
      else
        zbI (zex d 225 [zI v2] ((zup (zup F2 46 7 (zadd (F2 46 7) 1)) 46 8 0), G2, zsg)) (fun v7 F7 G7 =>
          zbI (zex d 220 [zR 46, zI v7] (F7, G7, zsg)) (fun v8 F8 G8 =>
            if v8 = 0 then
              some (some (zI 0), F8, G8, zsg)
            else
              if v2 = 1 then
                zbI (zex d 221 [zR 46] (F8, G8, zsg)) (fun v10 F10 G10 =>
                  zbI (zex d 224 [zI v10] (F10, G10, zsg)) (fun v11 F11 G11 =>
                    if v11 < 0 then
                      some (some (zI 0), F11, G11, zsg)
                    else
                      zbI (zex d 221 [zR 46] ((zup F11 46 7 (zadd (F11 46 7) 1)), G11, zsg)) (fun v12 F12 G12 =>
                        if v12 = 59 then
                        if 0 ≤ a1 ∧ a1 < 72 then
                        if 0 ≤ a1 ∧ a1 < 72 then
                        if 0 ≤ a1 ∧ a1 < 72 then
                        some (some (zI 1), (zup (zup (zup (zup F12 46 7 (zadd (F12 46 7) 1)) 49 (Int.toNat a1) v2) 50 (Int.toNat a1) (F12 46 8)) 51 (Int.toNat a1) v11), G12, zsg)
                      else none
                      else none
                      else none
                      else
                        some (some (zI 0), F12, G12, zsg))))
              else
                zbI (zex d 221 [zR 46] (F8, G8, zsg)) (fun v9 F9 G9 =>
                  if v9 = 59 then
                    if 0 ≤ a1 ∧ a1 < 72 then
                      if 0 ≤ a1 ∧ a1 < 72 then
                        if 0 ≤ a1 ∧ a1 < 72 then
                        some (some (zI 1), (zup (zup (zup (zup F9 46 7 (zadd (F9 46 7) 1)) 49 (Int.toNat a1) v2) 50 (Int.toNat a1) (F9 46 8)) 51 (Int.toNat a1) 0), G9, zsg)
                      else none
                      else none
                    else none
                  else
                    some (some (zI 0), F9, G9, zsg))))))) (zex (d + 1) 219 [zR 46, zI a1] (F, G, zsg)) := by
  refine zle_ent (ls := [zR 46, zI a1, zR 0, zR 0]) ?_
  refine zle_many 1 (219, 1, [zR 46, zI a1, zR 0, zR 0], [zR 46], F, G, zsg) rfl ?_
  refine zle_I rfl (fun v1 F1 G1 => ?_)
  refine zle_I rfl (fun v2 F2 G2 => ?_)
  refine zle_many 3 (219, (bif zcmp .ge v2 0 then 14 else 12), [zR 46, zI a1, zI v2, zR 0], [], F2, G2, zsg) rfl ?_
  refine zle_ge (fun _ => ?_) (fun _ => ?_)
  · refine zle_many 1 (219, 13, [zR 46, zI a1, zI v2, zR 0], [zI 0], F2, G2, zsg) rfl ?_
    exact zle_ret rfl
  · refine zle_many 14 (219, (bif zcmp .eq v2 2 then 49 else 36), [zR 46, zI a1, zI v2, zI 0], [], (zup (zup F2 46 7 (zadd (F2 46 7) 1)) 46 8 0), G2, zsg) rfl ?_
    refine zle_eq (fun _ => ?_) (fun _ => ?_)
    · refine zle_many 3 (219, (bif zcmp .ne v2 1 then 78 else 54), [zR 46, zI a1, zI v2, zI 0], [], (zup (zup F2 46 7 (zadd (F2 46 7) 1)) 46 8 0), G2, zsg) rfl ?_
      refine zle_ne (fun _ => ?_) (fun _ => ?_)
      · refine zle_many 1 (219, 55, [zR 46, zI a1, zI v2, zI 0], [zR 46], (zup (zup F2 46 7 (zadd (F2 46 7) 1)) 46 8 0), G2, zsg) rfl ?_
        refine zle_I rfl (fun v4 F4 G4 => ?_)
        refine zle_I rfl (fun v5 F5 G5 => ?_)
        refine zle_many 3 (219, (bif zcmp .ge v5 0 then 68 else 66), [zR 46, zI a1, zI v2, zI v5], [], F5, G5, zsg) rfl ?_
        refine zle_ge (fun _ => ?_) (fun _ => ?_)
        · refine zle_many 1 (219, 67, [zR 46, zI a1, zI v2, zI v5], [zI 0], F5, G5, zsg) rfl ?_
          exact zle_ret rfl
        · refine zle_many 7 (219, 79, [zR 46, zI a1, zI v2, zI v5], [zR 46], (zup F5 46 7 (zadd (F5 46 7) 1)), G5, zsg) rfl ?_
          refine zle_I rfl (fun v6 F6 G6 => ?_)
          refine zle_many 2 (219, (bif zcmp .eq v6 59 then 89 else 87), [zR 46, zI a1, zI v2, zI v5], [], F6, G6, zsg) rfl ?_
          refine zle_eq (fun _ => ?_) (fun _ => ?_)
          · refine zle_many 10 (219, 105, [zR 46, zI a1, zI v2, zI v5], [zI v2, zI a1, zR 49], (zup F6 46 7 (zadd (F6 46 7) 1)), G6, zsg) rfl ?_
            refine zle_ast rfl rfl rfl (fun _ => ?_)
            refine zle_many 5 (219, 115, [zR 46, zI a1, zI v2, zI v5], [zI (F6 46 8), zI a1, zR 50], (zup (zup F6 46 7 (zadd (F6 46 7) 1)) 49 (Int.toNat a1) v2), G6, zsg) rfl ?_
            refine zle_ast rfl rfl rfl (fun _ => ?_)
            refine zle_many 4 (219, 122, [zR 46, zI a1, zI v2, zI v5], [zI v5, zI a1, zR 51], (zup (zup (zup F6 46 7 (zadd (F6 46 7) 1)) 49 (Int.toNat a1) v2) 50 (Int.toNat a1) (F6 46 8)), G6, zsg) rfl ?_
            refine zle_ast rfl rfl rfl (fun _ => ?_)
            refine zle_many 1 (219, 124, [zR 46, zI a1, zI v2, zI v5], [zI 1], (zup (zup (zup (zup F6 46 7 (zadd (F6 46 7) 1)) 49 (Int.toNat a1) v2) 50 (Int.toNat a1) (F6 46 8)) 51 (Int.toNat a1) v5), G6, zsg) rfl ?_
            exact zle_ret rfl
          · refine zle_many 1 (219, 88, [zR 46, zI a1, zI v2, zI v5], [zI 0], F6, G6, zsg) rfl ?_
            exact zle_ret rfl
      · refine zle_many 1 (219, 79, [zR 46, zI a1, zI v2, zI 0], [zR 46], (zup (zup F2 46 7 (zadd (F2 46 7) 1)) 46 8 0), G2, zsg) rfl ?_
        refine zle_I rfl (fun v3 F3 G3 => ?_)
        refine zle_many 2 (219, (bif zcmp .eq v3 59 then 89 else 87), [zR 46, zI a1, zI v2, zI 0], [], F3, G3, zsg) rfl ?_
        refine zle_eq (fun _ => ?_) (fun _ => ?_)
        · refine zle_many 10 (219, 105, [zR 46, zI a1, zI v2, zI 0], [zI v2, zI a1, zR 49], (zup F3 46 7 (zadd (F3 46 7) 1)), G3, zsg) rfl ?_
          refine zle_ast rfl rfl rfl (fun _ => ?_)
          refine zle_many 5 (219, 115, [zR 46, zI a1, zI v2, zI 0], [zI (F3 46 8), zI a1, zR 50], (zup (zup F3 46 7 (zadd (F3 46 7) 1)) 49 (Int.toNat a1) v2), G3, zsg) rfl ?_
          refine zle_ast rfl rfl rfl (fun _ => ?_)
          refine zle_many 4 (219, 122, [zR 46, zI a1, zI v2, zI 0], [zI 0, zI a1, zR 51], (zup (zup (zup F3 46 7 (zadd (F3 46 7) 1)) 49 (Int.toNat a1) v2) 50 (Int.toNat a1) (F3 46 8)), G3, zsg) rfl ?_
          refine zle_ast rfl rfl rfl (fun _ => ?_)
          refine zle_many 1 (219, 124, [zR 46, zI a1, zI v2, zI 0], [zI 1], (zup (zup (zup (zup F3 46 7 (zadd (F3 46 7) 1)) 49 (Int.toNat a1) v2) 50 (Int.toNat a1) (F3 46 8)) 51 (Int.toNat a1) 0), G3, zsg) rfl ?_
          exact zle_ret rfl
        · refine zle_many 1 (219, 88, [zR 46, zI a1, zI v2, zI 0], [zI 0], F3, G3, zsg) rfl ?_
          exact zle_ret rfl
    · refine zle_many 2 (219, 38, [zR 46, zI a1, zI v2, zI 0], [zI v2, zR 46], (zup (zup F2 46 7 (zadd (F2 46 7) 1)) 46 8 0), G2, zsg) rfl ?_
      refine zle_I rfl (fun v7 F7 G7 => ?_)
      refine zle_I rfl (fun v8 F8 G8 => ?_)
      refine zle_many 1 (219, (bif zcmp .ne v8 0 then 49 else 47), [zR 46, zI a1, zI v2, zI 0], [], F8, G8, zsg) rfl ?_
      refine zle_ne (fun _ => ?_) (fun _ => ?_)
      · refine zle_many 1 (219, 48, [zR 46, zI a1, zI v2, zI 0], [zI 0], F8, G8, zsg) rfl ?_
        exact zle_ret rfl
      · refine zle_many 3 (219, (bif zcmp .ne v2 1 then 78 else 54), [zR 46, zI a1, zI v2, zI 0], [], F8, G8, zsg) rfl ?_
        refine zle_ne (fun _ => ?_) (fun _ => ?_)
        · refine zle_many 1 (219, 55, [zR 46, zI a1, zI v2, zI 0], [zR 46], F8, G8, zsg) rfl ?_
          refine zle_I rfl (fun v10 F10 G10 => ?_)
          refine zle_I rfl (fun v11 F11 G11 => ?_)
          refine zle_many 3 (219, (bif zcmp .ge v11 0 then 68 else 66), [zR 46, zI a1, zI v2, zI v11], [], F11, G11, zsg) rfl ?_
          refine zle_ge (fun _ => ?_) (fun _ => ?_)
          · refine zle_many 1 (219, 67, [zR 46, zI a1, zI v2, zI v11], [zI 0], F11, G11, zsg) rfl ?_
            exact zle_ret rfl
          · refine zle_many 7 (219, 79, [zR 46, zI a1, zI v2, zI v11], [zR 46], (zup F11 46 7 (zadd (F11 46 7) 1)), G11, zsg) rfl ?_
            refine zle_I rfl (fun v12 F12 G12 => ?_)
            refine zle_many 2 (219, (bif zcmp .eq v12 59 then 89 else 87), [zR 46, zI a1, zI v2, zI v11], [], F12, G12, zsg) rfl ?_
            refine zle_eq (fun _ => ?_) (fun _ => ?_)
            · refine zle_many 10 (219, 105, [zR 46, zI a1, zI v2, zI v11], [zI v2, zI a1, zR 49], (zup F12 46 7 (zadd (F12 46 7) 1)), G12, zsg) rfl ?_
              refine zle_ast rfl rfl rfl (fun _ => ?_)
              refine zle_many 5 (219, 115, [zR 46, zI a1, zI v2, zI v11], [zI (F12 46 8), zI a1, zR 50], (zup (zup F12 46 7 (zadd (F12 46 7) 1)) 49 (Int.toNat a1) v2), G12, zsg) rfl ?_
              refine zle_ast rfl rfl rfl (fun _ => ?_)
              refine zle_many 4 (219, 122, [zR 46, zI a1, zI v2, zI v11], [zI v11, zI a1, zR 51], (zup (zup (zup F12 46 7 (zadd (F12 46 7) 1)) 49 (Int.toNat a1) v2) 50 (Int.toNat a1) (F12 46 8)), G12, zsg) rfl ?_
              refine zle_ast rfl rfl rfl (fun _ => ?_)
              refine zle_many 1 (219, 124, [zR 46, zI a1, zI v2, zI v11], [zI 1], (zup (zup (zup (zup F12 46 7 (zadd (F12 46 7) 1)) 49 (Int.toNat a1) v2) 50 (Int.toNat a1) (F12 46 8)) 51 (Int.toNat a1) v11), G12, zsg) rfl ?_
              exact zle_ret rfl
            · refine zle_many 1 (219, 88, [zR 46, zI a1, zI v2, zI v11], [zI 0], F12, G12, zsg) rfl ?_
              exact zle_ret rfl
        · refine zle_many 1 (219, 79, [zR 46, zI a1, zI v2, zI 0], [zR 46], F8, G8, zsg) rfl ?_
          refine zle_I rfl (fun v9 F9 G9 => ?_)
          refine zle_many 2 (219, (bif zcmp .eq v9 59 then 89 else 87), [zR 46, zI a1, zI v2, zI 0], [], F9, G9, zsg) rfl ?_
          refine zle_eq (fun _ => ?_) (fun _ => ?_)
          · refine zle_many 10 (219, 105, [zR 46, zI a1, zI v2, zI 0], [zI v2, zI a1, zR 49], (zup F9 46 7 (zadd (F9 46 7) 1)), G9, zsg) rfl ?_
            refine zle_ast rfl rfl rfl (fun _ => ?_)
            refine zle_many 5 (219, 115, [zR 46, zI a1, zI v2, zI 0], [zI (F9 46 8), zI a1, zR 50], (zup (zup F9 46 7 (zadd (F9 46 7) 1)) 49 (Int.toNat a1) v2), G9, zsg) rfl ?_
            refine zle_ast rfl rfl rfl (fun _ => ?_)
            refine zle_many 4 (219, 122, [zR 46, zI a1, zI v2, zI 0], [zI 0, zI a1, zR 51], (zup (zup (zup F9 46 7 (zadd (F9 46 7) 1)) 49 (Int.toNat a1) v2) 50 (Int.toNat a1) (F9 46 8)), G9, zsg) rfl ?_
            refine zle_ast rfl rfl rfl (fun _ => ?_)
            refine zle_many 1 (219, 124, [zR 46, zI a1, zI v2, zI 0], [zI 1], (zup (zup (zup (zup F9 46 7 (zadd (F9 46 7) 1)) 49 (Int.toNat a1) v2) 50 (Int.toNat a1) (F9 46 8)) 51 (Int.toNat a1) 0), G9, zsg) rfl ?_
            exact zle_ret rfl
          · refine zle_many 1 (219, 88, [zR 46, zI a1, zI v2, zI 0], [zI 0], F9, G9, zsg) rfl ?_
            exact zle_ret rfl
set_option maxRecDepth 20000 in
theorem g_Tape_readNumber {d : Nat} {F : zM} {G : zG} (a1 : Int) : zle (
  zbI (zex d 221 [zR 46] (F, G, zsg)) (fun v1 F1 G1 =>
  zbI (zex d 222 [zI v1] (F1, G1, zsg)) (fun v2 F2 G2 =>
    if v2 < 0 then
      some (some (zI 0), F2, G2, zsg)
    else
      if a1 < v2 then
        some (some (zI 0), F2, G2, zsg)
      else
        zbI (zex d 221 [zR 46] ((zup (zup F2 46 8 v2) 46 7 (zadd (F2 46 7) 1)), G2, zsg)) (fun v3 F3 G3 =>
          zbI (zex d 222 [zI v3] (F3, G3, zsg)) (fun v4 F4 G4 =>
            if v4 < 0 then
              some (some (zI 1), F4, G4, zsg)
            else
              if a1 < (zadd (zmul (F4 46 8) 10) v4) then
                some (some (zI 0), F4, G4, zsg)
              else
                some (some (zI 1), (zup (zup F4 46 8 (zadd (zmul (F4 46 8) 10) v4)) 46 7 (zadd (F4 46 7) 1)), G4, zsg)))))) (zex (d + 1) 220 [zR 46, zI a1] (F, G, zsg)) := by
  refine zle_ent (ls := [zR 46, zI a1, zR 0]) ?_
  refine zle_many 1 (220, 1, [zR 46, zI a1, zR 0], [zR 46], F, G, zsg) rfl ?_
  refine zle_I rfl (fun v1 F1 G1 => ?_)
  refine zle_I rfl (fun v2 F2 G2 => ?_)
  refine zle_many 3 (220, (bif zcmp .lt v2 0 then 17 else 12), [zR 46, zI a1, zI v2], [], F2, G2, zsg) rfl ?_
  refine zle_lt (fun _ => ?_) (fun _ => ?_)
  · refine zle_many 1 (220, 18, [zR 46, zI a1, zI v2], [zI 0], F2, G2, zsg) rfl ?_
    exact zle_ret rfl
  · refine zle_many 3 (220, (bif zcmp .le v2 a1 then 19 else 17), [zR 46, zI a1, zI v2], [], F2, G2, zsg) rfl ?_
    refine zle_le (fun _ => ?_) (fun _ => ?_)
    · refine zle_many 1 (220, 18, [zR 46, zI a1, zI v2], [zI 0], F2, G2, zsg) rfl ?_
      exact zle_ret rfl
    · refine zle_many 10 (220, 35, [zR 46, zI a1, zI v2], [zR 46], (zup (zup F2 46 8 v2) 46 7 (zadd (F2 46 7) 1)), G2, zsg) rfl ?_
      refine zle_I rfl (fun v3 F3 G3 => ?_)
      refine zle_I rfl (fun v4 F4 G4 => ?_)
      refine zle_many 3 (220, (bif zcmp .ge v4 0 then 48 else 46), [zR 46, zI a1, zI v4], [], F4, G4, zsg) rfl ?_
      refine zle_ge (fun _ => ?_) (fun _ => ?_)
      · refine zle_many 1 (220, 47, [zR 46, zI a1, zI v4], [zI 1], F4, G4, zsg) rfl ?_
        exact zle_ret rfl
      · refine zle_many 8 (220, (bif zcmp .le (zadd (zmul (F4 46 8) 10) v4) a1 then 63 else 61), [zR 46, zI a1, zI v4], [], F4, G4, zsg) rfl ?_
        refine zle_le (fun _ => ?_) (fun _ => ?_)
        · refine zle_many 1 (220, 62, [zR 46, zI a1, zI v4], [zI 0], F4, G4, zsg) rfl ?_
          exact zle_ret rfl
        · refine zle_many 15 (220, 87, [zR 46, zI a1, zI v4], [zI 1], (zup (zup F4 46 8 (zadd (zmul (F4 46 8) 10) v4)) 46 7 (zadd (F4 46 7) 1)), G4, zsg) rfl ?_
          exact zle_ret rfl
set_option maxRecDepth 20000 in
theorem g_Tape_here {d : Nat} {F : zM} {G : zG}  : zle (
  if (F 46 7) < (F 46 1) then
  if 0 ≤ (F 46 7) ∧ (F 46 7) < 120 then
    some (some (zI (F 47 (Int.toNat (F 46 7)))), F, G, zsg)
  else none
else
  some (some (zI (-1)), F, G, zsg)) (zex (d + 1) 221 [zR 46] (F, G, zsg)) := by
  refine zle_ent (ls := [zR 46]) ?_
  refine zle_many 5 (221, (bif zcmp .ge (F 46 7) (F 46 1) then 23 else 11), [zR 46], [], F, G, zsg) rfl ?_
  refine zle_ge (fun _ => ?_) (fun _ => ?_)
  · refine zle_many 4 (221, 19, [zR 46], [zI (F 46 7), zR 47], F, G, zsg) rfl ?_
    refine zle_ald rfl rfl rfl (fun _ => ?_)
    refine zle_many 1 (221, 24, [zR 46], [zI (F 47 (Int.toNat (F 46 7)))], F, G, zsg) rfl ?_
    exact zle_ret rfl
  · refine zle_many 1 (221, 24, [zR 46], [zI (-1)], F, G, zsg) rfl ?_
    exact zle_ret rfl
set_option maxRecDepth 20000 in
theorem g_Tape_digitOf {d : Nat} {F : zM} {G : zG} (a0 : Int) : zle (
  if a0 < 48 then
  some (some (zI (-1)), F, G, zsg)
else
  if 57 < a0 then
    some (some (zI (-1)), F, G, zsg)
  else
    some (some (zI (zsub a0 48)), F, G, zsg)) (zex (d + 1) 222 [zI a0] (F, G, zsg)) := by
  refine zle_ent (ls := [zI a0]) ?_
  refine zle_many 3 (222, (bif zcmp .lt a0 48 then 19 else 6), [zI a0], [], F, G, zsg) rfl ?_
  refine zle_lt (fun _ => ?_) (fun _ => ?_)
  · refine zle_many 1 (222, 20, [zI a0], [zI (-1)], F, G, zsg) rfl ?_
    exact zle_ret rfl
  · refine zle_many 3 (222, (bif zcmp .gt a0 57 then 19 else 12), [zI a0], [], F, G, zsg) rfl ?_
    refine zle_gt (fun _ => ?_) (fun _ => ?_)
    · refine zle_many 1 (222, 20, [zI a0], [zI (-1)], F, G, zsg) rfl ?_
      exact zle_ret rfl
    · refine zle_many 4 (222, 20, [zI a0], [zI (zsub a0 48)], F, G, zsg) rfl ?_
      exact zle_ret rfl
set_option maxRecDepth 20000 in
theorem g_Tape_actOf {d : Nat} {F : zM} {G : zG} (a0 : Int) : zle (
  if a0 = 103 then
  some (some (zI 0), F, G, zsg)
else
if a0 = 111 then
  some (some (zI 3), F, G, zsg)
else
if a0 = 112 then
  some (some (zI 2), F, G, zsg)
else
if a0 = 116 then
  some (some (zI 1), F, G, zsg)
else
if a0 = 119 then
  some (some (zI 4), F, G, zsg)
else
some (some (zI (-1)), F, G, zsg)) (zex (d + 1) 223 [zI a0] (F, G, zsg)) := by
  refine zle_ent (ls := [zI a0]) ?_
  refine zle_many 2 (223, zsw a0 [(103, 52), (111, 58), (112, 56), (116, 54), (119, 60)] 62, [zI a0], [], F, G, zsg) rfl ?_
  refine zle_sw (fun _ => ?_) (fun _ => ?_)
  · refine zle_many 1 (223, 53, [zI a0], [zI 0], F, G, zsg) rfl ?_
    exact zle_ret rfl
  · refine zle_sw (fun _ => ?_) (fun _ => ?_)
    · refine zle_many 1 (223, 59, [zI a0], [zI 3], F, G, zsg) rfl ?_
      exact zle_ret rfl
    · refine zle_sw (fun _ => ?_) (fun _ => ?_)
      · refine zle_many 1 (223, 57, [zI a0], [zI 2], F, G, zsg) rfl ?_
        exact zle_ret rfl
      · refine zle_sw (fun _ => ?_) (fun _ => ?_)
        · refine zle_many 1 (223, 55, [zI a0], [zI 1], F, G, zsg) rfl ?_
          exact zle_ret rfl
        · refine zle_sw (fun _ => ?_) (fun _ => ?_)
          · refine zle_many 1 (223, 61, [zI a0], [zI 4], F, G, zsg) rfl ?_
            exact zle_ret rfl
          · refine zle_many 1 (223, 63, [zI a0], [zI (-1)], F, G, zsg) rfl ?_
            exact zle_ret rfl
set_option maxRecDepth 20000 in
theorem g_Tape_sideOf {d : Nat} {F : zM} {G : zG} (a0 : Int) : zle (
  if a0 = 101 then
  some (some (zI 1), F, G, zsg)
else
if a0 = 110 then
  some (some (zI 0), F, G, zsg)
else
if a0 = 115 then
  some (some (zI 2), F, G, zsg)
else
if a0 = 119 then
  some (some (zI 3), F, G, zsg)
else
some (some (zI (-1)), F, G, zsg)) (zex (d + 1) 224 [zI a0] (F, G, zsg)) := by
  refine zle_ent (ls := [zI a0]) ?_
  refine zle_many 2 (224, zsw a0 [(101, 46), (110, 44), (115, 48), (119, 50)] 52, [zI a0], [], F, G, zsg) rfl ?_
  refine zle_sw (fun _ => ?_) (fun _ => ?_)
  · refine zle_many 1 (224, 47, [zI a0], [zI 1], F, G, zsg) rfl ?_
    exact zle_ret rfl
  · refine zle_sw (fun _ => ?_) (fun _ => ?_)
    · refine zle_many 1 (224, 45, [zI a0], [zI 0], F, G, zsg) rfl ?_
      exact zle_ret rfl
    · refine zle_sw (fun _ => ?_) (fun _ => ?_)
      · refine zle_many 1 (224, 49, [zI a0], [zI 2], F, G, zsg) rfl ?_
        exact zle_ret rfl
      · refine zle_sw (fun _ => ?_) (fun _ => ?_)
        · refine zle_many 1 (224, 51, [zI a0], [zI 3], F, G, zsg) rfl ?_
          exact zle_ret rfl
        · refine zle_many 1 (224, 53, [zI a0], [zI (-1)], F, G, zsg) rfl ?_
          exact zle_ret rfl
set_option maxRecDepth 20000 in
theorem g_Tape_mostOf {d : Nat} {F : zM} {G : zG} (a0 : Int) : zle (
  if a0 = 0 then
  some (some (zI 63), F, G, zsg)
else
if a0 = 1 then
  some (some (zI 7), F, G, zsg)
else
if a0 = 2 then
  some (some (zI 99), F, G, zsg)
else
if a0 = 3 then
  some (some (zI 3), F, G, zsg)
else
some (some (zI 99), F, G, zsg)) (zex (d + 1) 225 [zI a0] (F, G, zsg)) := by
  refine zle_ent (ls := [zI a0]) ?_
  refine zle_many 2 (225, zsw a0 [(0, 32), (1, 35), (2, 40), (3, 38)] 40, [zI a0], [], F, G, zsg) rfl ?_
  refine zle_sw (fun _ => ?_) (fun _ => ?_)
  · refine zle_many 1 (225, 34, [zI a0], [zI 63], F, G, zsg) rfl ?_
    exact zle_ret rfl
  · refine zle_sw (fun _ => ?_) (fun _ => ?_)
    · refine zle_many 1 (225, 37, [zI a0], [zI 7], F, G, zsg) rfl ?_
      exact zle_ret rfl
    · refine zle_sw (fun _ => ?_) (fun _ => ?_)
      · refine zle_many 1 (225, 42, [zI a0], [zI 99], F, G, zsg) rfl ?_
        exact zle_ret rfl
      · refine zle_sw (fun _ => ?_) (fun _ => ?_)
        · refine zle_many 1 (225, 39, [zI a0], [zI 3], F, G, zsg) rfl ?_
          exact zle_ret rfl
        · refine zle_many 1 (225, 42, [zI a0], [zI 99], F, G, zsg) rfl ?_
          exact zle_ret rfl
set_option maxRecDepth 20000 in
theorem g_Ways_cellsOf {d : Nat} {F : zM} {G : zG} (a2 : Int) : zle (
  if 0 ≤ a2 ∧ a2 < 8 then
  if 0 ≤ a2 ∧ a2 < 8 then
    zbL (zex d 159 [zI (F 12 (Int.toNat a2)), zI (F 8 (Int.toNat a2))] (F, G, zsg)) (fun v1 F1 G1 =>
      some (some (zL v1), F1, G1, zsg))
  else none
else none) (zex (d + 1) 227 [zR 44, zR 11, zI a2] (F, G, zsg)) := by
  refine zle_ent (ls := [zR 44, zR 11, zI a2]) ?_
  refine zle_many 3 (227, 5, [zR 44, zR 11, zI a2], [zI a2, zR 12], F, G, zsg) rfl ?_
  refine zle_ald rfl rfl rfl (fun _ => ?_)
  refine zle_many 4 (227, 14, [zR 44, zR 11, zI a2], [zI a2, zR 8, zI (F 12 (Int.toNat a2))], F, G, zsg) rfl ?_
  refine zle_ald rfl rfl rfl (fun _ => ?_)
  refine zle_L rfl (fun v1 F1 G1 => ?_)
  exact zle_ret rfl
set_option maxRecDepth 20000 in
theorem g_Ways_shutDoors_44_11 {d : Nat} {F : zM} {G : zG}  : zle (
  zev zX0 d (228, 5, [zR 44, zR 11, zL (BitVec.ofNat 64 0), zR 0, zI 0], [], F, G, zsg)) (zex (d + 1) 228 [zR 44, zR 11] (F, G, zsg)) := by
  refine zle_ent (ls := [zR 44, zR 11, zR 0, zR 0, zR 0]) ?_
  refine zle_many 4 (228, 5, [zR 44, zR 11, zL (BitVec.ofNat 64 0), zR 0, zI 0], [], F, G, zsg) rfl ?_
  exact zle_rfl
set_option maxRecDepth 20000 in
theorem g_Ways_shutDoors_44_11_5 {d : Nat} {F : zM} {G : zG} (l2 : BitVec 64) (l4 : Int) : zle (
  if l4 < (F 6 5) then
  if (zand (zshr (F 11 1) l4) 1) = 0 then
    if 0 ≤ l4 ∧ l4 < 4 then
      zev zX0 d (228, 5, [zR 44, zR 11, zL (zlor l2 (zlshl (BitVec.ofNat 64 1) (F 9 (Int.toNat l4)))), zR 0, zI (zadd l4 1)], [], F, G, zsg)
    else none
  else
    zev zX0 d (228, 5, [zR 44, zR 11, zL l2, zR 0, zI (zadd l4 1)], [], F, G, zsg)
else
  some (some (zL l2), F, G, zsg)) (zev zX0 d (228, 5, [zR 44, zR 11, zL l2, zR 0, zI l4], [], F, G, zsg)) := by
  refine zle_many 5 (228, (bif zcmp .ge l4 (F 6 5) then 50 else 17), [zR 44, zR 11, zL l2, zR 0, zI l4], [], F, G, zsg) rfl ?_
  refine zle_ge (fun _ => ?_) (fun _ => ?_)
  · refine zle_many 7 (228, (bif zcmp .ne (zand (zshr (F 11 1) l4) 1) 0 then 44 else 29), [zR 44, zR 11, zL l2, zR 0, zI l4], [], F, G, zsg) rfl ?_
    refine zle_ne (fun _ => ?_) (fun _ => ?_)
    · refine zle_many 6 (228, 40, [zR 44, zR 11, zL l2, zR 0, zI l4], [zI l4, zR 9, zL (BitVec.ofNat 64 1), zL l2], F, G, zsg) rfl ?_
      refine zle_ald rfl rfl rfl (fun _ => ?_)
      refine zle_many 5 (228, 5, [zR 44, zR 11, zL (zlor l2 (zlshl (BitVec.ofNat 64 1) (F 9 (Int.toNat l4)))), zR 0, zI (zadd l4 1)], [], F, G, zsg) rfl ?_
      exact zle_rfl
    · refine zle_many 2 (228, 5, [zR 44, zR 11, zL l2, zR 0, zI (zadd l4 1)], [], F, G, zsg) rfl ?_
      exact zle_rfl
  · refine zle_many 1 (228, 51, [zR 44, zR 11, zL l2, zR 0, zI l4], [zL l2], F, G, zsg) rfl ?_
    exact zle_ret rfl
set_option maxRecDepth 20000 in
theorem g_Ways_shutDoors_44_22 {d : Nat} {F : zM} {G : zG}  : zle (
  zev zX0 d (228, 5, [zR 44, zR 22, zL (BitVec.ofNat 64 0), zR 0, zI 0], [], F, G, zsg)) (zex (d + 1) 228 [zR 44, zR 22] (F, G, zsg)) := by
  refine zle_ent (ls := [zR 44, zR 22, zR 0, zR 0, zR 0]) ?_
  refine zle_many 4 (228, 5, [zR 44, zR 22, zL (BitVec.ofNat 64 0), zR 0, zI 0], [], F, G, zsg) rfl ?_
  exact zle_rfl
set_option maxRecDepth 20000 in
theorem g_Ways_shutDoors_44_22_5 {d : Nat} {F : zM} {G : zG} (l2 : BitVec 64) (l4 : Int) : zle (
  if l4 < (F 6 5) then
  if (zand (zshr (F 22 1) l4) 1) = 0 then
    if 0 ≤ l4 ∧ l4 < 4 then
      zev zX0 d (228, 5, [zR 44, zR 22, zL (zlor l2 (zlshl (BitVec.ofNat 64 1) (F 9 (Int.toNat l4)))), zR 0, zI (zadd l4 1)], [], F, G, zsg)
    else none
  else
    zev zX0 d (228, 5, [zR 44, zR 22, zL l2, zR 0, zI (zadd l4 1)], [], F, G, zsg)
else
  some (some (zL l2), F, G, zsg)) (zev zX0 d (228, 5, [zR 44, zR 22, zL l2, zR 0, zI l4], [], F, G, zsg)) := by
  refine zle_many 5 (228, (bif zcmp .ge l4 (F 6 5) then 50 else 17), [zR 44, zR 22, zL l2, zR 0, zI l4], [], F, G, zsg) rfl ?_
  refine zle_ge (fun _ => ?_) (fun _ => ?_)
  · refine zle_many 7 (228, (bif zcmp .ne (zand (zshr (F 22 1) l4) 1) 0 then 44 else 29), [zR 44, zR 22, zL l2, zR 0, zI l4], [], F, G, zsg) rfl ?_
    refine zle_ne (fun _ => ?_) (fun _ => ?_)
    · refine zle_many 6 (228, 40, [zR 44, zR 22, zL l2, zR 0, zI l4], [zI l4, zR 9, zL (BitVec.ofNat 64 1), zL l2], F, G, zsg) rfl ?_
      refine zle_ald rfl rfl rfl (fun _ => ?_)
      refine zle_many 5 (228, 5, [zR 44, zR 22, zL (zlor l2 (zlshl (BitVec.ofNat 64 1) (F 9 (Int.toNat l4)))), zR 0, zI (zadd l4 1)], [], F, G, zsg) rfl ?_
      exact zle_rfl
    · refine zle_many 2 (228, 5, [zR 44, zR 22, zL l2, zR 0, zI (zadd l4 1)], [], F, G, zsg) rfl ?_
      exact zle_rfl
  · refine zle_many 1 (228, 51, [zR 44, zR 22, zL l2, zR 0, zI l4], [zL l2], F, G, zsg) rfl ?_
    exact zle_ret rfl
set_option maxRecDepth 20000 in
theorem g_Ways_leastThingIn {d : Nat} {F : zM} {G : zG} (a2 : Int) : zle (
  zev zX0 d (229, 2, [zR 44, zR 11, zI a2, zI 0], [], F, G, zsg)) (zex (d + 1) 229 [zR 44, zR 11, zI a2] (F, G, zsg)) := by
  refine zle_ent (ls := [zR 44, zR 11, zI a2, zR 0]) ?_
  refine zle_many 2 (229, 2, [zR 44, zR 11, zI a2, zI 0], [], F, G, zsg) rfl ?_
  exact zle_rfl
set_option maxRecDepth 20000 in
theorem g_Ways_leastThingIn_2 {d : Nat} {F : zM} {G : zG} (l2 : Int) (l3 : Int) : zle (
  if l3 < (F 6 2) then
  zbL (zex d 227 [zR 44, zR 11, zI l3] (F, G, zsg)) (fun v1 F1 G1 =>
    zbI (zex d 152 [zL v1, zI l2] (F1, G1, zsg)) (fun v2 F2 G2 =>
      if v2 = 0 then
        zev zX0 d (229, 2, [zR 44, zR 11, zI l2, zI (zadd l3 1)], [], F2, G2, zsg)
      else
        some (some (zI l3), F2, G2, zsg)))
else
  some (some (zI (-1)), F, G, zsg)) (zev zX0 d (229, 2, [zR 44, zR 11, zI l2, zI l3], [], F, G, zsg)) := by
  refine zle_many 5 (229, (bif zcmp .ge l3 (F 6 2) then 34 else 13), [zR 44, zR 11, zI l2, zI l3], [], F, G, zsg) rfl ?_
  refine zle_ge (fun _ => ?_) (fun _ => ?_)
  · refine zle_many 3 (229, 16, [zR 44, zR 11, zI l2, zI l3], [zI l3, zR 11, zR 44], F, G, zsg) rfl ?_
    refine zle_L rfl (fun v1 F1 G1 => ?_)
    refine zle_many 1 (229, 20, [zR 44, zR 11, zI l2, zI l3], [zI l2, zL v1], F1, G1, zsg) rfl ?_
    refine zle_I rfl (fun v2 F2 G2 => ?_)
    refine zle_many 1 (229, (bif zcmp .eq v2 0 then 28 else 26), [zR 44, zR 11, zI l2, zI l3], [], F2, G2, zsg) rfl ?_
    refine zle_eq (fun _ => ?_) (fun _ => ?_)
    · refine zle_many 2 (229, 2, [zR 44, zR 11, zI l2, zI (zadd l3 1)], [], F2, G2, zsg) rfl ?_
      exact zle_rfl
    · refine zle_many 1 (229, 27, [zR 44, zR 11, zI l2, zI l3], [zI l3], F2, G2, zsg) rfl ?_
      exact zle_ret rfl
  · refine zle_many 1 (229, 35, [zR 44, zR 11, zI l2, zI l3], [zI (-1)], F, G, zsg) rfl ?_
    exact zle_ret rfl
set_option maxRecDepth 20000 in
theorem g_Ways_takenFor_44_11 {d : Nat} {F : zM} {G : zG} (a2 : Int) (a3 : Int) : zle (
  zbL (zex d 228 [zR 44, zR 11] (F, G, zsg)) (fun v1 F1 G1 =>
  zev zX0 d (230, 18, [zR 44, zR 11, zI a2, zI a3, zL (zlor (G 6 0) v1), zR 0, zI 0], [], F1, G1, zsg))) (zex (d + 1) 230 [zR 44, zR 11, zI a2, zI a3] (F, G, zsg)) := by
  refine zle_ent (ls := [zR 44, zR 11, zI a2, zI a3, zR 0, zR 0, zR 0]) ?_
  refine zle_many 5 (230, 9, [zR 44, zR 11, zI a2, zI a3, zR 0, zR 0, zR 0], [zR 11, zR 44, zL (G 6 0)], F, G, zsg) rfl ?_
  refine zle_L rfl (fun v1 F1 G1 => ?_)
  refine zle_many 4 (230, 18, [zR 44, zR 11, zI a2, zI a3, zL (zlor (G 6 0) v1), zR 0, zI 0], [], F1, G1, zsg) rfl ?_
  exact zle_rfl
set_option maxRecDepth 20000 in
theorem g_Ways_takenFor_44_11_18 {d : Nat} {F : zM} {G : zG} (l2 : Int) (l3 : Int) (l4 : BitVec 64) (l6 : Int) : zle (
  if l6 < (F 6 2) then
  if (zand (zshr l3 l6) 1) = 0 then
    if 0 ≤ l6 ∧ l6 < 8 then
      if 0 ≤ l6 ∧ l6 < 8 then
        zbL (zex d 159 [zI (F 12 (Int.toNat l6)), zI (F 8 (Int.toNat l6))] (F, G, zsg)) (fun v1 F1 G1 =>
          zev zX0 d (230, 18, [zR 44, zR 11, zI l2, zI l3, zL (zlor l4 v1), zR 0, zI (zadd l6 1)], [], F1, G1, zsg))
      else none
    else none
  else
    zev zX0 d (230, 18, [zR 44, zR 11, zI l2, zI l3, zL l4, zR 0, zI (zadd l6 1)], [], F, G, zsg)
else
  zev zX0 d (230, 73, [zR 44, zR 11, zI l2, zI l3, zL l4, zR 0, zI 0], [], F, G, zsg)) (zev zX0 d (230, 18, [zR 44, zR 11, zI l2, zI l3, zL l4, zR 0, zI l6], [], F, G, zsg)) := by
  refine zle_many 5 (230, (bif zcmp .ge l6 (F 6 2) then 70 else 30), [zR 44, zR 11, zI l2, zI l3, zL l4, zR 0, zI l6], [], F, G, zsg) rfl ?_
  refine zle_ge (fun _ => ?_) (fun _ => ?_)
  · refine zle_many 6 (230, (bif zcmp .ne (zand (zshr l3 l6) 1) 0 then 64 else 39), [zR 44, zR 11, zI l2, zI l3, zL l4, zR 0, zI l6], [], F, G, zsg) rfl ?_
    refine zle_ne (fun _ => ?_) (fun _ => ?_)
    · refine zle_many 4 (230, 47, [zR 44, zR 11, zI l2, zI l3, zL l4, zR 0, zI l6], [zI l6, zR 12, zL l4], F, G, zsg) rfl ?_
      refine zle_ald rfl rfl rfl (fun _ => ?_)
      refine zle_many 4 (230, 57, [zR 44, zR 11, zI l2, zI l3, zL l4, zR 0, zI l6], [zI l6, zR 8, zI (F 12 (Int.toNat l6)), zL l4], F, G, zsg) rfl ?_
      refine zle_ald rfl rfl rfl (fun _ => ?_)
      refine zle_L rfl (fun v1 F1 G1 => ?_)
      refine zle_many 4 (230, 18, [zR 44, zR 11, zI l2, zI l3, zL (zlor l4 v1), zR 0, zI (zadd l6 1)], [], F1, G1, zsg) rfl ?_
      exact zle_rfl
    · refine zle_many 2 (230, 18, [zR 44, zR 11, zI l2, zI l3, zL l4, zR 0, zI (zadd l6 1)], [], F, G, zsg) rfl ?_
      exact zle_rfl
  · refine zle_many 2 (230, 73, [zR 44, zR 11, zI l2, zI l3, zL l4, zR 0, zI 0], [], F, G, zsg) rfl ?_
    exact zle_rfl
set_option maxRecDepth 20000 in
theorem g_Ways_takenFor_44_11_73 {d : Nat} {F : zM} {G : zG} (l2 : Int) (l3 : Int) (l4 : BitVec 64) (l6 : Int) : zle (
  if l6 < 2 then
  if l6 = l2 then
    zev zX0 d (230, 73, [zR 44, zR 11, zI l2, zI l3, zL l4, zR 0, zI (zadd l6 1)], [], F, G, zsg)
  else
    if 0 ≤ l6 ∧ l6 < 2 then
      if (F 15 (Int.toNat l6)) < 0 then
        zev zX0 d (230, 73, [zR 44, zR 11, zI l2, zI l3, zL l4, zR 0, zI (zadd l6 1)], [], F, G, zsg)
      else
        if 0 ≤ l6 ∧ l6 < 2 then
          zbL (zex d 151 [zI (F 15 (Int.toNat l6))] (F, G, zsg)) (fun v1 F1 G1 =>
            zev zX0 d (230, 73, [zR 44, zR 11, zI l2, zI l3, zL (zlor l4 v1), zR 0, zI (zadd l6 1)], [], F1, G1, zsg))
        else none
    else none
else
  some (some (zL l4), F, G, zsg)) (zev zX0 d (230, 73, [zR 44, zR 11, zI l2, zI l3, zL l4, zR 0, zI l6], [], F, G, zsg)) := by
  refine zle_many 3 (230, (bif zcmp .ge l6 2 then 116 else 79), [zR 44, zR 11, zI l2, zI l3, zL l4, zR 0, zI l6], [], F, G, zsg) rfl ?_
  refine zle_ge (fun _ => ?_) (fun _ => ?_)
  · refine zle_many 3 (230, (bif zcmp .eq l6 l2 then 110 else 85), [zR 44, zR 11, zI l2, zI l3, zL l4, zR 0, zI l6], [], F, G, zsg) rfl ?_
    refine zle_eq (fun _ => ?_) (fun _ => ?_)
    · refine zle_many 2 (230, 73, [zR 44, zR 11, zI l2, zI l3, zL l4, zR 0, zI (zadd l6 1)], [], F, G, zsg) rfl ?_
      exact zle_rfl
    · refine zle_many 3 (230, 91, [zR 44, zR 11, zI l2, zI l3, zL l4, zR 0, zI l6], [zI l6, zR 15], F, G, zsg) rfl ?_
      refine zle_ald rfl rfl rfl (fun _ => ?_)
      refine zle_many 1 (230, (bif zcmp .lt (F 15 (Int.toNat l6)) 0 then 110 else 95), [zR 44, zR 11, zI l2, zI l3, zL l4, zR 0, zI l6], [], F, G, zsg) rfl ?_
      refine zle_lt (fun _ => ?_) (fun _ => ?_)
      · refine zle_many 2 (230, 73, [zR 44, zR 11, zI l2, zI l3, zL l4, zR 0, zI (zadd l6 1)], [], F, G, zsg) rfl ?_
        exact zle_rfl
      · refine zle_many 4 (230, 103, [zR 44, zR 11, zI l2, zI l3, zL l4, zR 0, zI l6], [zI l6, zR 15, zL l4], F, G, zsg) rfl ?_
        refine zle_ald rfl rfl rfl (fun _ => ?_)
        refine zle_L rfl (fun v1 F1 G1 => ?_)
        refine zle_many 4 (230, 73, [zR 44, zR 11, zI l2, zI l3, zL (zlor l4 v1), zR 0, zI (zadd l6 1)], [], F1, G1, zsg) rfl ?_
        exact zle_rfl
  · refine zle_many 1 (230, 118, [zR 44, zR 11, zI l2, zI l3, zL l4, zR 0, zI l6], [zL l4], F, G, zsg) rfl ?_
    exact zle_ret rfl
set_option maxRecDepth 20000 in
theorem g_Ways_takenFor_44_22 {d : Nat} {F : zM} {G : zG} (a2 : Int) (a3 : Int) : zle (
  zbL (zex d 228 [zR 44, zR 22] (F, G, zsg)) (fun v1 F1 G1 =>
  zev zX0 d (230, 18, [zR 44, zR 22, zI a2, zI a3, zL (zlor (G 6 0) v1), zR 0, zI 0], [], F1, G1, zsg))) (zex (d + 1) 230 [zR 44, zR 22, zI a2, zI a3] (F, G, zsg)) := by
  refine zle_ent (ls := [zR 44, zR 22, zI a2, zI a3, zR 0, zR 0, zR 0]) ?_
  refine zle_many 5 (230, 9, [zR 44, zR 22, zI a2, zI a3, zR 0, zR 0, zR 0], [zR 22, zR 44, zL (G 6 0)], F, G, zsg) rfl ?_
  refine zle_L rfl (fun v1 F1 G1 => ?_)
  refine zle_many 4 (230, 18, [zR 44, zR 22, zI a2, zI a3, zL (zlor (G 6 0) v1), zR 0, zI 0], [], F1, G1, zsg) rfl ?_
  exact zle_rfl
set_option maxRecDepth 20000 in
theorem g_Ways_takenFor_44_22_18 {d : Nat} {F : zM} {G : zG} (l2 : Int) (l3 : Int) (l4 : BitVec 64) (l6 : Int) : zle (
  if l6 < (F 6 2) then
  if (zand (zshr l3 l6) 1) = 0 then
    if 0 ≤ l6 ∧ l6 < 8 then
      if 0 ≤ l6 ∧ l6 < 8 then
        zbL (zex d 159 [zI (F 23 (Int.toNat l6)), zI (F 8 (Int.toNat l6))] (F, G, zsg)) (fun v1 F1 G1 =>
          zev zX0 d (230, 18, [zR 44, zR 22, zI l2, zI l3, zL (zlor l4 v1), zR 0, zI (zadd l6 1)], [], F1, G1, zsg))
      else none
    else none
  else
    zev zX0 d (230, 18, [zR 44, zR 22, zI l2, zI l3, zL l4, zR 0, zI (zadd l6 1)], [], F, G, zsg)
else
  zev zX0 d (230, 73, [zR 44, zR 22, zI l2, zI l3, zL l4, zR 0, zI 0], [], F, G, zsg)) (zev zX0 d (230, 18, [zR 44, zR 22, zI l2, zI l3, zL l4, zR 0, zI l6], [], F, G, zsg)) := by
  refine zle_many 5 (230, (bif zcmp .ge l6 (F 6 2) then 70 else 30), [zR 44, zR 22, zI l2, zI l3, zL l4, zR 0, zI l6], [], F, G, zsg) rfl ?_
  refine zle_ge (fun _ => ?_) (fun _ => ?_)
  · refine zle_many 6 (230, (bif zcmp .ne (zand (zshr l3 l6) 1) 0 then 64 else 39), [zR 44, zR 22, zI l2, zI l3, zL l4, zR 0, zI l6], [], F, G, zsg) rfl ?_
    refine zle_ne (fun _ => ?_) (fun _ => ?_)
    · refine zle_many 4 (230, 47, [zR 44, zR 22, zI l2, zI l3, zL l4, zR 0, zI l6], [zI l6, zR 23, zL l4], F, G, zsg) rfl ?_
      refine zle_ald rfl rfl rfl (fun _ => ?_)
      refine zle_many 4 (230, 57, [zR 44, zR 22, zI l2, zI l3, zL l4, zR 0, zI l6], [zI l6, zR 8, zI (F 23 (Int.toNat l6)), zL l4], F, G, zsg) rfl ?_
      refine zle_ald rfl rfl rfl (fun _ => ?_)
      refine zle_L rfl (fun v1 F1 G1 => ?_)
      refine zle_many 4 (230, 18, [zR 44, zR 22, zI l2, zI l3, zL (zlor l4 v1), zR 0, zI (zadd l6 1)], [], F1, G1, zsg) rfl ?_
      exact zle_rfl
    · refine zle_many 2 (230, 18, [zR 44, zR 22, zI l2, zI l3, zL l4, zR 0, zI (zadd l6 1)], [], F, G, zsg) rfl ?_
      exact zle_rfl
  · refine zle_many 2 (230, 73, [zR 44, zR 22, zI l2, zI l3, zL l4, zR 0, zI 0], [], F, G, zsg) rfl ?_
    exact zle_rfl
set_option maxRecDepth 20000 in
theorem g_Ways_takenFor_44_22_73 {d : Nat} {F : zM} {G : zG} (l2 : Int) (l3 : Int) (l4 : BitVec 64) (l6 : Int) : zle (
  if l6 < 2 then
  if l6 = l2 then
    zev zX0 d (230, 73, [zR 44, zR 22, zI l2, zI l3, zL l4, zR 0, zI (zadd l6 1)], [], F, G, zsg)
  else
    if 0 ≤ l6 ∧ l6 < 2 then
      if (F 26 (Int.toNat l6)) < 0 then
        zev zX0 d (230, 73, [zR 44, zR 22, zI l2, zI l3, zL l4, zR 0, zI (zadd l6 1)], [], F, G, zsg)
      else
        if 0 ≤ l6 ∧ l6 < 2 then
          zbL (zex d 151 [zI (F 26 (Int.toNat l6))] (F, G, zsg)) (fun v1 F1 G1 =>
            zev zX0 d (230, 73, [zR 44, zR 22, zI l2, zI l3, zL (zlor l4 v1), zR 0, zI (zadd l6 1)], [], F1, G1, zsg))
        else none
    else none
else
  some (some (zL l4), F, G, zsg)) (zev zX0 d (230, 73, [zR 44, zR 22, zI l2, zI l3, zL l4, zR 0, zI l6], [], F, G, zsg)) := by
  refine zle_many 3 (230, (bif zcmp .ge l6 2 then 116 else 79), [zR 44, zR 22, zI l2, zI l3, zL l4, zR 0, zI l6], [], F, G, zsg) rfl ?_
  refine zle_ge (fun _ => ?_) (fun _ => ?_)
  · refine zle_many 3 (230, (bif zcmp .eq l6 l2 then 110 else 85), [zR 44, zR 22, zI l2, zI l3, zL l4, zR 0, zI l6], [], F, G, zsg) rfl ?_
    refine zle_eq (fun _ => ?_) (fun _ => ?_)
    · refine zle_many 2 (230, 73, [zR 44, zR 22, zI l2, zI l3, zL l4, zR 0, zI (zadd l6 1)], [], F, G, zsg) rfl ?_
      exact zle_rfl
    · refine zle_many 3 (230, 91, [zR 44, zR 22, zI l2, zI l3, zL l4, zR 0, zI l6], [zI l6, zR 26], F, G, zsg) rfl ?_
      refine zle_ald rfl rfl rfl (fun _ => ?_)
      refine zle_many 1 (230, (bif zcmp .lt (F 26 (Int.toNat l6)) 0 then 110 else 95), [zR 44, zR 22, zI l2, zI l3, zL l4, zR 0, zI l6], [], F, G, zsg) rfl ?_
      refine zle_lt (fun _ => ?_) (fun _ => ?_)
      · refine zle_many 2 (230, 73, [zR 44, zR 22, zI l2, zI l3, zL l4, zR 0, zI (zadd l6 1)], [], F, G, zsg) rfl ?_
        exact zle_rfl
      · refine zle_many 4 (230, 103, [zR 44, zR 22, zI l2, zI l3, zL l4, zR 0, zI l6], [zI l6, zR 26, zL l4], F, G, zsg) rfl ?_
        refine zle_ald rfl rfl rfl (fun _ => ?_)
        refine zle_L rfl (fun v1 F1 G1 => ?_)
        refine zle_many 4 (230, 73, [zR 44, zR 22, zI l2, zI l3, zL (zlor l4 v1), zR 0, zI (zadd l6 1)], [], F1, G1, zsg) rfl ?_
        exact zle_rfl
  · refine zle_many 1 (230, 118, [zR 44, zR 22, zI l2, zI l3, zL l4, zR 0, zI l6], [zL l4], F, G, zsg) rfl ?_
    exact zle_ret rfl
set_option maxRecDepth 20000 in
theorem g_Ways_canLie {d : Nat} {F : zM} {G : zG} (a2 : Int) (a3 : Int) (a4 : Int) : zle (
  zbI (zex d 158 [zI a4, zI a3] (F, G, zsg)) (fun v1 F1 G1 =>
  if v1 = 0 then
    some (some (zI 0), F1, G1, zsg)
  else
    zbI (zex d 232 [zI a2] (F1, G1, zsg)) (fun v2 F2 G2 =>
      zbL (zex d 230 [zR 44, zR 11, zI (-1), zI v2] (F2, G2, zsg)) (fun v3 F3 G3 =>
        zbL (zex d 159 [zI a4, zI a3] (F3, G3, zsg)) (fun v4 F4 G4 =>
          if (zlcmp (zland v3 v4) (BitVec.ofNat 64 0)) = 0 then
            some (some (zI 1), F4, G4, zsg)
          else
            some (some (zI 0), F4, G4, zsg)))))) (zex (d + 1) 231 [zR 44, zR 11, zI a2, zI a3, zI a4] (F, G, zsg)) := by
  refine zle_ent (ls := [zR 44, zR 11, zI a2, zI a3, zI a4, zR 0, zR 0]) ?_
  refine zle_many 2 (231, 3, [zR 44, zR 11, zI a2, zI a3, zI a4, zR 0, zR 0], [zI a3, zI a4], F, G, zsg) rfl ?_
  refine zle_I rfl (fun v1 F1 G1 => ?_)
  refine zle_many 1 (231, (bif zcmp .ne v1 0 then 11 else 9), [zR 44, zR 11, zI a2, zI a3, zI a4, zR 0, zR 0], [], F1, G1, zsg) rfl ?_
  refine zle_ne (fun _ => ?_) (fun _ => ?_)
  · refine zle_many 1 (231, 10, [zR 44, zR 11, zI a2, zI a3, zI a4, zR 0, zR 0], [zI 0], F1, G1, zsg) rfl ?_
    exact zle_ret rfl
  · refine zle_many 4 (231, 15, [zR 44, zR 11, zI a2, zI a3, zI a4, zR 0, zR 0], [zI a2, zI (-1), zR 11, zR 44], F1, G1, zsg) rfl ?_
    refine zle_I rfl (fun v2 F2 G2 => ?_)
    refine zle_L rfl (fun v3 F3 G3 => ?_)
    refine zle_many 4 (231, 28, [zR 44, zR 11, zI a2, zI a3, zI a4, zL v3, zR 0], [zI a3, zI a4, zL v3], F3, G3, zsg) rfl ?_
    refine zle_L rfl (fun v4 F4 G4 => ?_)
    refine zle_many 4 (231, (bif zcmp .ne (zlcmp (zland v3 v4) (BitVec.ofNat 64 0)) 0 then 41 else 37), [zR 44, zR 11, zI a2, zI a3, zI a4, zL v3, zR 0], [], F4, G4, zsg) rfl ?_
    refine zle_ne (fun _ => ?_) (fun _ => ?_)
    · refine zle_many 2 (231, 42, [zR 44, zR 11, zI a2, zI a3, zI a4, zL v3, zR 0], [zI 1], F4, G4, zsg) rfl ?_
      exact zle_ret rfl
    · refine zle_many 1 (231, 42, [zR 44, zR 11, zI a2, zI a3, zI a4, zL v3, zR 0], [zI 0], F4, G4, zsg) rfl ?_
      exact zle_ret rfl
set_option maxRecDepth 20000 in
theorem g_Ways_bitOf {d : Nat} {F : zM} {G : zG} (a0 : Int) : zle (
  if a0 < 0 then
  some (some (zI 0), F, G, zsg)
else
  some (some (zI (zshl 1 a0)), F, G, zsg)) (zex (d + 1) 232 [zI a0] (F, G, zsg)) := by
  refine zle_ent (ls := [zI a0]) ?_
  refine zle_many 2 (232, (bif zcmp .ge a0 0 then 8 else 4), [zI a0], [], F, G, zsg) rfl ?_
  refine zle_ge (fun _ => ?_) (fun _ => ?_)
  · refine zle_many 2 (232, 11, [zI a0], [zI 0], F, G, zsg) rfl ?_
    exact zle_ret rfl
  · refine zle_many 3 (232, 11, [zI a0], [zI (zshl 1 a0)], F, G, zsg) rfl ?_
    exact zle_ret rfl
set_option maxRecDepth 20000 in
theorem g_Ways_floodFromHand_44_11 {d : Nat} {F : zM} {G : zG} (a2 : Int) (a3 : Int) : zle (
  if 0 ≤ a2 ∧ a2 < 2 then
  if (F 16 (Int.toNat a2)) < 0 then
    if 0 ≤ a2 ∧ a2 < 2 then
      zbI (zex d 232 [zI (F 16 (Int.toNat a2))] (F, G, zsg)) (fun v4 F4 G4 =>
        zbL (zex d 230 [zR 44, zR 11, zI a2, zI (zor a3 v4)] (F4, G4, zsg)) (fun v5 F5 G5 =>
          zbV (zex d 234 [zR 44, zI (F 15 (Int.toNat a2)), zL v5, zI (F 16 (Int.toNat a2)), zI 0] (F5, G5, zsg)) (fun F6 G6 =>
            some (none, F6, G6, zsg))))
    else none
  else
    if 0 ≤ (F 16 (Int.toNat a2)) ∧ (F 16 (Int.toNat a2)) < 8 then
      if 0 ≤ a2 ∧ a2 < 2 then
        zbI (zex d 232 [zI (F 16 (Int.toNat a2))] (F, G, zsg)) (fun v1 F1 G1 =>
          zbL (zex d 230 [zR 44, zR 11, zI a2, zI (zor a3 v1)] (F1, G1, zsg)) (fun v2 F2 G2 =>
            zbV (zex d 234 [zR 44, zI (F 15 (Int.toNat a2)), zL v2, zI (F 16 (Int.toNat a2)), zI (F 14 (Int.toNat (F 16 (Int.toNat a2))))] (F2, G2, zsg)) (fun F3 G3 =>
              some (none, F3, G3, zsg))))
      else none
    else none
else none) (zex (d + 1) 233 [zR 44, zR 11, zI a2, zI a3] (F, G, zsg)) := by
  refine zle_ent (ls := [zR 44, zR 11, zI a2, zI a3, zR 0, zR 0]) ?_
  refine zle_many 3 (233, 5, [zR 44, zR 11, zI a2, zI a3, zR 0, zR 0], [zI a2, zR 16], F, G, zsg) rfl ?_
  refine zle_ald rfl rfl rfl (fun _ => ?_)
  refine zle_many 3 (233, (bif zcmp .ge (F 16 (Int.toNat a2)) 0 then 17 else 13), [zR 44, zR 11, zI a2, zI a3, zI (F 16 (Int.toNat a2)), zR 0], [], F, G, zsg) rfl ?_
  refine zle_ge (fun _ => ?_) (fun _ => ?_)
  · refine zle_many 7 (233, 32, [zR 44, zR 11, zI a2, zI a3, zI (F 16 (Int.toNat a2)), zI 0], [zI a2, zR 15, zR 44], F, G, zsg) rfl ?_
    refine zle_ald rfl rfl rfl (fun _ => ?_)
    refine zle_many 5 (233, 39, [zR 44, zR 11, zI a2, zI a3, zI (F 16 (Int.toNat a2)), zI 0], [zI (F 16 (Int.toNat a2)), zI a3, zI a2, zR 11, zR 44, zI (F 15 (Int.toNat a2)), zR 44], F, G, zsg) rfl ?_
    refine zle_I rfl (fun v4 F4 G4 => ?_)
    refine zle_many 1 (233, 43, [zR 44, zR 11, zI a2, zI a3, zI (F 16 (Int.toNat a2)), zI 0], [zI (zor a3 v4), zI a2, zR 11, zR 44, zI (F 15 (Int.toNat a2)), zR 44], F4, G4, zsg) rfl ?_
    refine zle_L rfl (fun v5 F5 G5 => ?_)
    refine zle_many 2 (233, 50, [zR 44, zR 11, zI a2, zI a3, zI (F 16 (Int.toNat a2)), zI 0], [zI 0, zI (F 16 (Int.toNat a2)), zL v5, zI (F 15 (Int.toNat a2)), zR 44], F5, G5, zsg) rfl ?_
    refine zle_V rfl (fun F6 G6 => ?_)
    exact zle_ret rfl
  · refine zle_many 3 (233, 23, [zR 44, zR 11, zI a2, zI a3, zI (F 16 (Int.toNat a2)), zR 0], [zI (F 16 (Int.toNat a2)), zR 14], F, G, zsg) rfl ?_
    refine zle_ald rfl rfl rfl (fun _ => ?_)
    refine zle_many 5 (233, 32, [zR 44, zR 11, zI a2, zI a3, zI (F 16 (Int.toNat a2)), zI (F 14 (Int.toNat (F 16 (Int.toNat a2))))], [zI a2, zR 15, zR 44], F, G, zsg) rfl ?_
    refine zle_ald rfl rfl rfl (fun _ => ?_)
    refine zle_many 5 (233, 39, [zR 44, zR 11, zI a2, zI a3, zI (F 16 (Int.toNat a2)), zI (F 14 (Int.toNat (F 16 (Int.toNat a2))))], [zI (F 16 (Int.toNat a2)), zI a3, zI a2, zR 11, zR 44, zI (F 15 (Int.toNat a2)), zR 44], F, G, zsg) rfl ?_
    refine zle_I rfl (fun v1 F1 G1 => ?_)
    refine zle_many 1 (233, 43, [zR 44, zR 11, zI a2, zI a3, zI (F 16 (Int.toNat a2)), zI (F 14 (Int.toNat (F 16 (Int.toNat a2))))], [zI (zor a3 v1), zI a2, zR 11, zR 44, zI (F 15 (Int.toNat a2)), zR 44], F1, G1, zsg) rfl ?_
    refine zle_L rfl (fun v2 F2 G2 => ?_)
    refine zle_many 2 (233, 50, [zR 44, zR 11, zI a2, zI a3, zI (F 16 (Int.toNat a2)), zI (F 14 (Int.toNat (F 16 (Int.toNat a2))))], [zI (F 14 (Int.toNat (F 16 (Int.toNat a2)))), zI (F 16 (Int.toNat a2)), zL v2, zI (F 15 (Int.toNat a2)), zR 44], F2, G2, zsg) rfl ?_
    refine zle_V rfl (fun F3 G3 => ?_)
    exact zle_ret rfl
set_option maxRecDepth 20000 in
theorem g_Ways_floodFromHand_44_22 {d : Nat} {F : zM} {G : zG} (a2 : Int) (a3 : Int) : zle (
  if 0 ≤ a2 ∧ a2 < 2 then
  if (F 27 (Int.toNat a2)) < 0 then
    if 0 ≤ a2 ∧ a2 < 2 then
      zbI (zex d 232 [zI (F 27 (Int.toNat a2))] (F, G, zsg)) (fun v4 F4 G4 =>
        zbL (zex d 230 [zR 44, zR 22, zI a2, zI (zor a3 v4)] (F4, G4, zsg)) (fun v5 F5 G5 =>
          zbV (zex d 234 [zR 44, zI (F 26 (Int.toNat a2)), zL v5, zI (F 27 (Int.toNat a2)), zI 0] (F5, G5, zsg)) (fun F6 G6 =>
            some (none, F6, G6, zsg))))
    else none
  else
    if 0 ≤ (F 27 (Int.toNat a2)) ∧ (F 27 (Int.toNat a2)) < 8 then
      if 0 ≤ a2 ∧ a2 < 2 then
        zbI (zex d 232 [zI (F 27 (Int.toNat a2))] (F, G, zsg)) (fun v1 F1 G1 =>
          zbL (zex d 230 [zR 44, zR 22, zI a2, zI (zor a3 v1)] (F1, G1, zsg)) (fun v2 F2 G2 =>
            zbV (zex d 234 [zR 44, zI (F 26 (Int.toNat a2)), zL v2, zI (F 27 (Int.toNat a2)), zI (F 25 (Int.toNat (F 27 (Int.toNat a2))))] (F2, G2, zsg)) (fun F3 G3 =>
              some (none, F3, G3, zsg))))
      else none
    else none
else none) (zex (d + 1) 233 [zR 44, zR 22, zI a2, zI a3] (F, G, zsg)) := by
  refine zle_ent (ls := [zR 44, zR 22, zI a2, zI a3, zR 0, zR 0]) ?_
  refine zle_many 3 (233, 5, [zR 44, zR 22, zI a2, zI a3, zR 0, zR 0], [zI a2, zR 27], F, G, zsg) rfl ?_
  refine zle_ald rfl rfl rfl (fun _ => ?_)
  refine zle_many 3 (233, (bif zcmp .ge (F 27 (Int.toNat a2)) 0 then 17 else 13), [zR 44, zR 22, zI a2, zI a3, zI (F 27 (Int.toNat a2)), zR 0], [], F, G, zsg) rfl ?_
  refine zle_ge (fun _ => ?_) (fun _ => ?_)
  · refine zle_many 7 (233, 32, [zR 44, zR 22, zI a2, zI a3, zI (F 27 (Int.toNat a2)), zI 0], [zI a2, zR 26, zR 44], F, G, zsg) rfl ?_
    refine zle_ald rfl rfl rfl (fun _ => ?_)
    refine zle_many 5 (233, 39, [zR 44, zR 22, zI a2, zI a3, zI (F 27 (Int.toNat a2)), zI 0], [zI (F 27 (Int.toNat a2)), zI a3, zI a2, zR 22, zR 44, zI (F 26 (Int.toNat a2)), zR 44], F, G, zsg) rfl ?_
    refine zle_I rfl (fun v4 F4 G4 => ?_)
    refine zle_many 1 (233, 43, [zR 44, zR 22, zI a2, zI a3, zI (F 27 (Int.toNat a2)), zI 0], [zI (zor a3 v4), zI a2, zR 22, zR 44, zI (F 26 (Int.toNat a2)), zR 44], F4, G4, zsg) rfl ?_
    refine zle_L rfl (fun v5 F5 G5 => ?_)
    refine zle_many 2 (233, 50, [zR 44, zR 22, zI a2, zI a3, zI (F 27 (Int.toNat a2)), zI 0], [zI 0, zI (F 27 (Int.toNat a2)), zL v5, zI (F 26 (Int.toNat a2)), zR 44], F5, G5, zsg) rfl ?_
    refine zle_V rfl (fun F6 G6 => ?_)
    exact zle_ret rfl
  · refine zle_many 3 (233, 23, [zR 44, zR 22, zI a2, zI a3, zI (F 27 (Int.toNat a2)), zR 0], [zI (F 27 (Int.toNat a2)), zR 25], F, G, zsg) rfl ?_
    refine zle_ald rfl rfl rfl (fun _ => ?_)
    refine zle_many 5 (233, 32, [zR 44, zR 22, zI a2, zI a3, zI (F 27 (Int.toNat a2)), zI (F 25 (Int.toNat (F 27 (Int.toNat a2))))], [zI a2, zR 26, zR 44], F, G, zsg) rfl ?_
    refine zle_ald rfl rfl rfl (fun _ => ?_)
    refine zle_many 5 (233, 39, [zR 44, zR 22, zI a2, zI a3, zI (F 27 (Int.toNat a2)), zI (F 25 (Int.toNat (F 27 (Int.toNat a2))))], [zI (F 27 (Int.toNat a2)), zI a3, zI a2, zR 22, zR 44, zI (F 26 (Int.toNat a2)), zR 44], F, G, zsg) rfl ?_
    refine zle_I rfl (fun v1 F1 G1 => ?_)
    refine zle_many 1 (233, 43, [zR 44, zR 22, zI a2, zI a3, zI (F 27 (Int.toNat a2)), zI (F 25 (Int.toNat (F 27 (Int.toNat a2))))], [zI (zor a3 v1), zI a2, zR 22, zR 44, zI (F 26 (Int.toNat a2)), zR 44], F1, G1, zsg) rfl ?_
    refine zle_L rfl (fun v2 F2 G2 => ?_)
    refine zle_many 2 (233, 50, [zR 44, zR 22, zI a2, zI a3, zI (F 27 (Int.toNat a2)), zI (F 25 (Int.toNat (F 27 (Int.toNat a2))))], [zI (F 25 (Int.toNat (F 27 (Int.toNat a2)))), zI (F 27 (Int.toNat a2)), zL v2, zI (F 26 (Int.toNat a2)), zR 44], F2, G2, zsg) rfl ?_
    refine zle_V rfl (fun F3 G3 => ?_)
    exact zle_ret rfl
set_option maxRecDepth 20000 in
theorem g_Ways_flood {d : Nat} {F : zM} {G : zG} (a1 : Int) (a2 : BitVec 64) (a3 : Int) (a4 : Int) : zle (
  if a3 < 0 then
  if a3 < 0 then
    zbL (zex d 151 [zI a1] ((zup F 44 4 1), (zug G 44 3 (zlxor a2 (BitVec.ofInt 64 (-1)))), zsg)) (fun v1 F1 G1 =>
      zev zX0 d (234, 131, [zR 44, zI a1, zL a2, zR 0, zI a3, zI a4, zL v1, zR 0, zR 0, zR 0], [], (zup F1 44 2 0), (zug G1 44 5 v1), zsg))
  else
    if 0 ≤ a3 ∧ a3 < 8 then
      zbI (zex d 160 [zI a4, zI (F 8 (Int.toNat a3))] ((zup F 44 4 1), (zug G 44 3 (zlxor a2 (BitVec.ofInt 64 (-1)))), zsg)) (fun v2 F2 G2 =>
        zbI (zex d 161 [zI a4] (F2, G2, zsg)) (fun v3 F3 G3 =>
          zev zX0 d (234, 75, [zR 44, zI a1, zL a2, zR 0, zI a3, zI a4, zI (F 8 (Int.toNat a3)), zI v2, zI v3, zI 0], [], F3, G3, zsg)))
    else none
else
  if 0 ≤ a3 ∧ a3 < 8 then
    zbI (zex d 176 [zI (F 7 (Int.toNat a3))] (F, G, zsg)) (fun v4 F4 G4 =>
      if v4 = 0 then
        if a3 < 0 then
          zbL (zex d 151 [zI a1] ((zup F4 44 4 0), (zug G4 44 3 (zlxor a2 (BitVec.ofInt 64 (-1)))), zsg)) (fun v5 F5 G5 =>
            zev zX0 d (234, 131, [zR 44, zI a1, zL a2, zR 0, zI a3, zI a4, zL v5, zR 0, zR 0, zR 0], [], (zup F5 44 2 0), (zug G5 44 5 v5), zsg))
        else
          if 0 ≤ a3 ∧ a3 < 8 then
            zbI (zex d 160 [zI a4, zI (F4 8 (Int.toNat a3))] ((zup F4 44 4 0), (zug G4 44 3 (zlxor a2 (BitVec.ofInt 64 (-1)))), zsg)) (fun v6 F6 G6 =>
              zbI (zex d 161 [zI a4] (F6, G6, zsg)) (fun v7 F7 G7 =>
                zev zX0 d (234, 75, [zR 44, zI a1, zL a2, zR 0, zI a3, zI a4, zI (F4 8 (Int.toNat a3)), zI v6, zI v7, zI 0], [], F7, G7, zsg)))
          else none
      else
        if a3 < 0 then
          zbL (zex d 151 [zI a1] ((zup F4 44 4 1), (zug G4 44 3 (zlxor a2 (BitVec.ofInt 64 (-1)))), zsg)) (fun v8 F8 G8 =>
            zev zX0 d (234, 131, [zR 44, zI a1, zL a2, zR 0, zI a3, zI a4, zL v8, zR 0, zR 0, zR 0], [], (zup F8 44 2 0), (zug G8 44 5 v8), zsg))
        else
          if 0 ≤ a3 ∧ a3 < 8 then
            zbI (zex d 160 [zI a4, zI (F4 8 (Int.toNat a3))] ((zup F4 44 4 1), (zug G4 44 3 (zlxor a2 (BitVec.ofInt 64 (-1)))), zsg)) (fun v9 F9 G9 =>
              zbI (zex d 161 [zI a4] (F9, G9, zsg)) (fun v10 F10 G10 =>
                zev zX0 d (234, 75, [zR 44, zI a1, zL a2, zR 0, zI a3, zI a4, zI (F4 8 (Int.toNat a3)), zI v9, zI v10, zI 0], [], F10, G10, zsg)))
          else none)
  else none) (zex (d + 1) 234 [zR 44, zI a1, zL a2, zI a3, zI a4] (F, G, zsg)) := by
  refine zle_ent (ls := [zR 44, zI a1, zL a2, zR 0, zI a3, zI a4, zR 0, zR 0, zR 0, zR 0]) ?_
  refine zle_many 3 (234, (bif zcmp .lt a3 0 then 22 else 6), [zR 44, zI a1, zL a2, zR 0, zI a3, zI a4, zR 0, zR 0, zR 0, zR 0], [zR 44], F, G, zsg) rfl ?_
  refine zle_lt (fun _ => ?_) (fun _ => ?_)
  · refine zle_many 10 (234, (bif zcmp .lt a3 0 then 114 else 44), [zR 44, zI a1, zL a2, zR 0, zI a3, zI a4, zR 0, zR 0, zR 0, zR 0], [], (zup F 44 4 1), (zug G 44 3 (zlxor a2 (BitVec.ofInt 64 (-1)))), zsg) rfl ?_
    refine zle_lt (fun _ => ?_) (fun _ => ?_)
    · refine zle_many 1 (234, 115, [zR 44, zI a1, zL a2, zR 0, zI a3, zI a4, zR 0, zR 0, zR 0, zR 0], [zI a1], (zup F 44 4 1), (zug G 44 3 (zlxor a2 (BitVec.ofInt 64 (-1)))), zsg) rfl ?_
      refine zle_L rfl (fun v1 F1 G1 => ?_)
      refine zle_many 7 (234, 131, [zR 44, zI a1, zL a2, zR 0, zI a3, zI a4, zL v1, zR 0, zR 0, zR 0], [], (zup F1 44 2 0), (zug G1 44 5 v1), zsg) rfl ?_
      exact zle_rfl
    · refine zle_many 4 (234, 53, [zR 44, zI a1, zL a2, zR 0, zI a3, zI a4, zR 0, zR 0, zR 0, zR 0], [zI a3, zR 8], (zup F 44 4 1), (zug G 44 3 (zlxor a2 (BitVec.ofInt 64 (-1)))), zsg) rfl ?_
      refine zle_ald rfl rfl rfl (fun _ => ?_)
      refine zle_many 0 (234, 54, [zR 44, zI a1, zL a2, zR 0, zI a3, zI a4, zR 0, zR 0, zR 0, zR 0], [zI (F 8 (Int.toNat a3))], (zup F 44 4 1), (zug G 44 3 (zlxor a2 (BitVec.ofInt 64 (-1)))), zsg) rfl ?_
      refine zle_many 3 (234, 60, [zR 44, zI a1, zL a2, zR 0, zI a3, zI a4, zI (F 8 (Int.toNat a3)), zR 0, zR 0, zR 0], [zI (F 8 (Int.toNat a3)), zI a4], (zup F 44 4 1), (zug G 44 3 (zlxor a2 (BitVec.ofInt 64 (-1)))), zsg) rfl ?_
      refine zle_I rfl (fun v2 F2 G2 => ?_)
      refine zle_many 2 (234, 67, [zR 44, zI a1, zL a2, zR 0, zI a3, zI a4, zI (F 8 (Int.toNat a3)), zI v2, zR 0, zR 0], [zI a4], F2, G2, zsg) rfl ?_
      refine zle_I rfl (fun v3 F3 G3 => ?_)
      refine zle_many 3 (234, 75, [zR 44, zI a1, zL a2, zR 0, zI a3, zI a4, zI (F 8 (Int.toNat a3)), zI v2, zI v3, zI 0], [], F3, G3, zsg) rfl ?_
      exact zle_rfl
  · refine zle_many 4 (234, 15, [zR 44, zI a1, zL a2, zR 0, zI a3, zI a4, zR 0, zR 0, zR 0, zR 0], [zI a3, zR 7, zR 44], F, G, zsg) rfl ?_
    refine zle_ald rfl rfl rfl (fun _ => ?_)
    refine zle_I rfl (fun v4 F4 G4 => ?_)
    refine zle_many 1 (234, (bif zcmp .eq v4 0 then 26 else 22), [zR 44, zI a1, zL a2, zR 0, zI a3, zI a4, zR 0, zR 0, zR 0, zR 0], [zR 44], F4, G4, zsg) rfl ?_
    refine zle_eq (fun _ => ?_) (fun _ => ?_)
    · refine zle_many 9 (234, (bif zcmp .lt a3 0 then 114 else 44), [zR 44, zI a1, zL a2, zR 0, zI a3, zI a4, zR 0, zR 0, zR 0, zR 0], [], (zup F4 44 4 0), (zug G4 44 3 (zlxor a2 (BitVec.ofInt 64 (-1)))), zsg) rfl ?_
      refine zle_lt (fun _ => ?_) (fun _ => ?_)
      · refine zle_many 1 (234, 115, [zR 44, zI a1, zL a2, zR 0, zI a3, zI a4, zR 0, zR 0, zR 0, zR 0], [zI a1], (zup F4 44 4 0), (zug G4 44 3 (zlxor a2 (BitVec.ofInt 64 (-1)))), zsg) rfl ?_
        refine zle_L rfl (fun v5 F5 G5 => ?_)
        refine zle_many 7 (234, 131, [zR 44, zI a1, zL a2, zR 0, zI a3, zI a4, zL v5, zR 0, zR 0, zR 0], [], (zup F5 44 2 0), (zug G5 44 5 v5), zsg) rfl ?_
        exact zle_rfl
      · refine zle_many 4 (234, 53, [zR 44, zI a1, zL a2, zR 0, zI a3, zI a4, zR 0, zR 0, zR 0, zR 0], [zI a3, zR 8], (zup F4 44 4 0), (zug G4 44 3 (zlxor a2 (BitVec.ofInt 64 (-1)))), zsg) rfl ?_
        refine zle_ald rfl rfl rfl (fun _ => ?_)
        refine zle_many 0 (234, 54, [zR 44, zI a1, zL a2, zR 0, zI a3, zI a4, zR 0, zR 0, zR 0, zR 0], [zI (F4 8 (Int.toNat a3))], (zup F4 44 4 0), (zug G4 44 3 (zlxor a2 (BitVec.ofInt 64 (-1)))), zsg) rfl ?_
        refine zle_many 3 (234, 60, [zR 44, zI a1, zL a2, zR 0, zI a3, zI a4, zI (F4 8 (Int.toNat a3)), zR 0, zR 0, zR 0], [zI (F4 8 (Int.toNat a3)), zI a4], (zup F4 44 4 0), (zug G4 44 3 (zlxor a2 (BitVec.ofInt 64 (-1)))), zsg) rfl ?_
        refine zle_I rfl (fun v6 F6 G6 => ?_)
        refine zle_many 2 (234, 67, [zR 44, zI a1, zL a2, zR 0, zI a3, zI a4, zI (F4 8 (Int.toNat a3)), zI v6, zR 0, zR 0], [zI a4], F6, G6, zsg) rfl ?_
        refine zle_I rfl (fun v7 F7 G7 => ?_)
        refine zle_many 3 (234, 75, [zR 44, zI a1, zL a2, zR 0, zI a3, zI a4, zI (F4 8 (Int.toNat a3)), zI v6, zI v7, zI 0], [], F7, G7, zsg) rfl ?_
        exact zle_rfl
    · refine zle_many 10 (234, (bif zcmp .lt a3 0 then 114 else 44), [zR 44, zI a1, zL a2, zR 0, zI a3, zI a4, zR 0, zR 0, zR 0, zR 0], [], (zup F4 44 4 1), (zug G4 44 3 (zlxor a2 (BitVec.ofInt 64 (-1)))), zsg) rfl ?_
      refine zle_lt (fun _ => ?_) (fun _ => ?_)
      · refine zle_many 1 (234, 115, [zR 44, zI a1, zL a2, zR 0, zI a3, zI a4, zR 0, zR 0, zR 0, zR 0], [zI a1], (zup F4 44 4 1), (zug G4 44 3 (zlxor a2 (BitVec.ofInt 64 (-1)))), zsg) rfl ?_
        refine zle_L rfl (fun v8 F8 G8 => ?_)
        refine zle_many 7 (234, 131, [zR 44, zI a1, zL a2, zR 0, zI a3, zI a4, zL v8, zR 0, zR 0, zR 0], [], (zup F8 44 2 0), (zug G8 44 5 v8), zsg) rfl ?_
        exact zle_rfl
      · refine zle_many 4 (234, 53, [zR 44, zI a1, zL a2, zR 0, zI a3, zI a4, zR 0, zR 0, zR 0, zR 0], [zI a3, zR 8], (zup F4 44 4 1), (zug G4 44 3 (zlxor a2 (BitVec.ofInt 64 (-1)))), zsg) rfl ?_
        refine zle_ald rfl rfl rfl (fun _ => ?_)
        refine zle_many 0 (234, 54, [zR 44, zI a1, zL a2, zR 0, zI a3, zI a4, zR 0, zR 0, zR 0, zR 0], [zI (F4 8 (Int.toNat a3))], (zup F4 44 4 1), (zug G4 44 3 (zlxor a2 (BitVec.ofInt 64 (-1)))), zsg) rfl ?_
        refine zle_many 3 (234, 60, [zR 44, zI a1, zL a2, zR 0, zI a3, zI a4, zI (F4 8 (Int.toNat a3)), zR 0, zR 0, zR 0], [zI (F4 8 (Int.toNat a3)), zI a4], (zup F4 44 4 1), (zug G4 44 3 (zlxor a2 (BitVec.ofInt 64 (-1)))), zsg) rfl ?_
        refine zle_I rfl (fun v9 F9 G9 => ?_)
        refine zle_many 2 (234, 67, [zR 44, zI a1, zL a2, zR 0, zI a3, zI a4, zI (F4 8 (Int.toNat a3)), zI v9, zR 0, zR 0], [zI a4], F9, G9, zsg) rfl ?_
        refine zle_I rfl (fun v10 F10 G10 => ?_)
        refine zle_many 3 (234, 75, [zR 44, zI a1, zL a2, zR 0, zI a3, zI a4, zI (F4 8 (Int.toNat a3)), zI v9, zI v10, zI 0], [], F10, G10, zsg) rfl ?_
        exact zle_rfl
set_option maxRecDepth 20000 in
theorem g_Ways_flood_75 {d : Nat} {F : zM} {G : zG} (l1 : Int) (l2 : BitVec 64) (l4 : Int) (l5 : Int) (l6 : Int) (l7 : Int) (l8 : Int) (l9 : Int) : zle (
  if l9 < l6 then
  zbL (zex d 157 [zL (zlxor l2 (BitVec.ofInt 64 (-1))), zI (zsub (zneg l7) l9), zI (zneg l8)] (F, G, zsg)) (fun v2 F2 G2 =>
    zev zX0 d (234, 75, [zR 44, zI l1, zL l2, zR 0, zI l4, zI l5, zI l6, zI l7, zI l8, zI (zadd l9 1)], [], F2, (zug G2 44 3 (zland (G 44 3) v2)), zsg))
else
  zbL (zex d 151 [zI l1] (F, G, zsg)) (fun v1 F1 G1 =>
    zev zX0 d (234, 131, [zR 44, zI l1, zL l2, zR 0, zI l4, zI l5, zL v1, zR 0, zR 0, zR 0], [], (zup F1 44 2 0), (zug G1 44 5 v1), zsg))) (zev zX0 d (234, 75, [zR 44, zI l1, zL l2, zR 0, zI l4, zI l5, zI l6, zI l7, zI l8, zI l9], [], F, G, zsg)) := by
  refine zle_many 3 (234, (bif zcmp .ge l9 l6 then 114 else 82), [zR 44, zI l1, zL l2, zR 0, zI l4, zI l5, zI l6, zI l7, zI l8, zI l9], [], F, G, zsg) rfl ?_
  refine zle_ge (fun _ => ?_) (fun _ => ?_)
  · refine zle_many 12 (234, 101, [zR 44, zI l1, zL l2, zR 0, zI l4, zI l5, zI l6, zI l7, zI l8, zI l9], [zI (zneg l8), zI (zsub (zneg l7) l9), zL (zlxor l2 (BitVec.ofInt 64 (-1))), zL (G 44 3), zR 44], F, G, zsg) rfl ?_
    refine zle_L rfl (fun v2 F2 G2 => ?_)
    refine zle_many 4 (234, 75, [zR 44, zI l1, zL l2, zR 0, zI l4, zI l5, zI l6, zI l7, zI l8, zI (zadd l9 1)], [], F2, (zug G2 44 3 (zland (G 44 3) v2)), zsg) rfl ?_
    exact zle_rfl
  · refine zle_many 1 (234, 115, [zR 44, zI l1, zL l2, zR 0, zI l4, zI l5, zI l6, zI l7, zI l8, zI l9], [zI l1], F, G, zsg) rfl ?_
    refine zle_L rfl (fun v1 F1 G1 => ?_)
    refine zle_many 7 (234, 131, [zR 44, zI l1, zL l2, zR 0, zI l4, zI l5, zL v1, zR 0, zI l8, zI l9], [], (zup F1 44 2 0), (zug G1 44 5 v1), zsg) rfl ?_
    exact zle_wk ⟨Or.inl rfl, Or.inl rfl, Or.inl rfl, Or.inl rfl, Or.inl rfl, Or.inl rfl, Or.inl rfl, Or.inl rfl, Or.inr rfl, Or.inr rfl, trivial⟩
set_option maxRecDepth 20000 in
theorem g_Ways_flood_131 {d : Nat} {F : zM} {G : zG} (l1 : Int) (l2 : BitVec 64) (l4 : Int) (l5 : Int) (l6 : BitVec 64) : zle (
  if (zlcmp l6 (BitVec.ofNat 64 0)) = 0 then
  some (none, F, G, zsg)
else
  if (F 44 2) < 64 then
    if 0 ≤ (F 44 2) ∧ (F 44 2) < 64 then
      zbL (zex d 156 [zL l6, zI (F 44 4)] ((zup F 44 2 (zadd (F 44 2) 1)), (zug G 45 (Int.toNat (F 44 2)) l6), zsg)) (fun v1 F1 G1 =>
        zev zX0 d (234, 131, [zR 44, zI l1, zL l2, zR 0, zI l4, zI l5, zL (zland (zland v1 (G1 44 3)) (zlxor (G1 44 5) (BitVec.ofInt 64 (-1)))), zR 0, zR 0, zR 0], [], F1, (zug G1 44 5 (zlor (G1 44 5) (zland (zland v1 (G1 44 3)) (zlxor (G1 44 5) (BitVec.ofInt 64 (-1)))))), zsg))
    else none
  else
    some (none, F, G, zsg)) (zev zX0 d (234, 131, [zR 44, zI l1, zL l2, zR 0, zI l4, zI l5, zL l6, zR 0, zR 0, zR 0], [], F, G, zsg)) := by
  refine zle_many 4 (234, (bif zcmp .eq (zlcmp l6 (BitVec.ofNat 64 0)) 0 then 204 else 138), [zR 44, zI l1, zL l2, zR 0, zI l4, zI l5, zL l6, zR 0, zR 0, zR 0], [], F, G, zsg) rfl ?_
  refine zle_eq (fun _ => ?_) (fun _ => ?_)
  · exact zle_ret rfl
  · refine zle_many 4 (234, (bif zcmp .ge (F 44 2) 64 then 204 else 147), [zR 44, zI l1, zL l2, zR 0, zI l4, zI l5, zL l6, zR 0, zR 0, zR 0], [], F, G, zsg) rfl ?_
    refine zle_ge (fun _ => ?_) (fun _ => ?_)
    · refine zle_many 10 (234, 164, [zR 44, zI l1, zL l2, zR 0, zI l4, zI l5, zL l6, zR 0, zR 0, zR 0], [zL l6, zI (F 44 2), zR 45], (zup F 44 2 (zadd (F 44 2) 1)), G, zsg) rfl ?_
      refine zle_lst rfl rfl rfl (fun _ => ?_)
      refine zle_many 3 (234, 171, [zR 44, zI l1, zL l2, zR 0, zI l4, zI l5, zL l6, zR 0, zR 0, zR 0], [zI (F 44 4), zL l6], (zup F 44 2 (zadd (F 44 2) 1)), (zug G 45 (Int.toNat (F 44 2)) l6), zsg) rfl ?_
      refine zle_L rfl (fun v1 F1 G1 => ?_)
      refine zle_many 16 (234, 131, [zR 44, zI l1, zL l2, zR 0, zI l4, zI l5, zL (zland (zland v1 (G1 44 3)) (zlxor (G1 44 5) (BitVec.ofInt 64 (-1)))), zR 0, zR 0, zR 0], [], F1, (zug G1 44 5 (zlor (G1 44 5) (zland (zland v1 (G1 44 3)) (zlxor (G1 44 5) (BitVec.ofInt 64 (-1)))))), zsg) rfl ?_
      exact zle_rfl
    · exact zle_ret rfl
set_option maxRecDepth 20000 in
theorem g_Ways_farTo {d : Nat} {F : zM} {G : zG} (a1 : Int) : zle (
  zev zX0 d (235, 2, [zR 44, zI a1, zI 0], [], F, G, zsg)) (zex (d + 1) 235 [zR 44, zI a1] (F, G, zsg)) := by
  refine zle_ent (ls := [zR 44, zI a1, zR 0]) ?_
  refine zle_many 2 (235, 2, [zR 44, zI a1, zI 0], [], F, G, zsg) rfl ?_
  exact zle_rfl
set_option maxRecDepth 20000 in
theorem g_Ways_farTo_2 {d : Nat} {F : zM} {G : zG} (l1 : Int) (l2 : Int) : zle (
  if l2 < (F 44 2) then
  if 0 ≤ l2 ∧ l2 < 64 then
    zbI (zex d 152 [zL (G 45 (Int.toNat l2)), zI l1] (F, G, zsg)) (fun v1 F1 G1 =>
      if v1 = 0 then
        zev zX0 d (235, 2, [zR 44, zI l1, zI (zadd l2 1)], [], F1, G1, zsg)
      else
        some (some (zI l2), F1, G1, zsg))
  else none
else
  some (some (zI (-1)), F, G, zsg)) (zev zX0 d (235, 2, [zR 44, zI l1, zI l2], [], F, G, zsg)) := by
  refine zle_many 4 (235, (bif zcmp .ge l2 (F 44 2) then 31 else 10), [zR 44, zI l1, zI l2], [], F, G, zsg) rfl ?_
  refine zle_ge (fun _ => ?_) (fun _ => ?_)
  · refine zle_many 3 (235, 15, [zR 44, zI l1, zI l2], [zI l2, zR 45], F, G, zsg) rfl ?_
    refine zle_lld rfl rfl rfl (fun _ => ?_)
    refine zle_many 1 (235, 17, [zR 44, zI l1, zI l2], [zI l1, zL (G 45 (Int.toNat l2))], F, G, zsg) rfl ?_
    refine zle_I rfl (fun v1 F1 G1 => ?_)
    refine zle_many 1 (235, (bif zcmp .eq v1 0 then 25 else 23), [zR 44, zI l1, zI l2], [], F1, G1, zsg) rfl ?_
    refine zle_eq (fun _ => ?_) (fun _ => ?_)
    · refine zle_many 2 (235, 2, [zR 44, zI l1, zI (zadd l2 1)], [], F1, G1, zsg) rfl ?_
      exact zle_rfl
    · refine zle_many 1 (235, 24, [zR 44, zI l1, zI l2], [zI l2], F1, G1, zsg) rfl ?_
      exact zle_ret rfl
  · refine zle_many 1 (235, 32, [zR 44, zI l1, zI l2], [zI (-1)], F, G, zsg) rfl ?_
    exact zle_ret rfl
set_option maxRecDepth 20000 in
theorem g_Ways_cellOnWay {d : Nat} {F : zM} {G : zG} (a1 : Int) (a2 : Int) : zle (
  zbI (zex d 235 [zR 44, zI a1] (F, G, zsg)) (fun v1 F1 G1 =>
  zev zX0 d (236, 9, [zR 44, zI a1, zI a2, zI a1, zI v1], [], F1, G1, zsg))) (zex (d + 1) 236 [zR 44, zI a1, zI a2] (F, G, zsg)) := by
  refine zle_ent (ls := [zR 44, zI a1, zI a2, zR 0, zR 0]) ?_
  refine zle_many 4 (236, 4, [zR 44, zI a1, zI a2, zI a1, zR 0], [zI a1, zR 44], F, G, zsg) rfl ?_
  refine zle_I rfl (fun v1 F1 G1 => ?_)
  refine zle_many 1 (236, 9, [zR 44, zI a1, zI a2, zI a1, zI v1], [], F1, G1, zsg) rfl ?_
  exact zle_rfl
set_option maxRecDepth 20000 in
theorem g_Ways_cellOnWay_9 {d : Nat} {F : zM} {G : zG} (l1 : Int) (l2 : Int) (l3 : Int) (l4 : Int) : zle (
  if l2 < l4 then
  if l3 < 0 then
    some (some (zI l3), F, G, zsg)
  else
    zbI (zex d 237 [zR 44, zI l3, zI (zsub l4 1)] (F, G, zsg)) (fun v1 F1 G1 =>
      zev zX0 d (236, 9, [zR 44, zI l1, zI l2, zI v1, zI (zadd l4 (-1))], [], F1, G1, zsg))
else
  some (some (zI l3), F, G, zsg)) (zev zX0 d (236, 9, [zR 44, zI l1, zI l2, zI l3, zI l4], [], F, G, zsg)) := by
  refine zle_many 3 (236, (bif zcmp .le l4 l2 then 35 else 15), [zR 44, zI l1, zI l2, zI l3, zI l4], [], F, G, zsg) rfl ?_
  refine zle_le (fun _ => ?_) (fun _ => ?_)
  · refine zle_many 2 (236, (bif zcmp .lt l3 0 then 35 else 19), [zR 44, zI l1, zI l2, zI l3, zI l4], [], F, G, zsg) rfl ?_
    refine zle_lt (fun _ => ?_) (fun _ => ?_)
    · refine zle_many 1 (236, 36, [zR 44, zI l1, zI l2, zI l3, zI l4], [zI l3], F, G, zsg) rfl ?_
      exact zle_ret rfl
    · refine zle_many 5 (236, 25, [zR 44, zI l1, zI l2, zI l3, zI l4], [zI (zsub l4 1), zI l3, zR 44], F, G, zsg) rfl ?_
      refine zle_I rfl (fun v1 F1 G1 => ?_)
      refine zle_many 3 (236, 9, [zR 44, zI l1, zI l2, zI v1, zI (zadd l4 (-1))], [], F1, G1, zsg) rfl ?_
      exact zle_rfl
  · refine zle_many 1 (236, 36, [zR 44, zI l1, zI l2, zI l3, zI l4], [zI l3], F, G, zsg) rfl ?_
    exact zle_ret rfl
set_option maxRecDepth 20000 in
theorem g_Ways_cellAhead {d : Nat} {F : zM} {G : zG} (a1 : Int) (a2 : Int) : zle (
  zev zX0 d (237, 2, [zR 44, zI a1, zI a2, zI 0, zR 0], [], F, G, zsg)) (zex (d + 1) 237 [zR 44, zI a1, zI a2] (F, G, zsg)) := by
  refine zle_ent (ls := [zR 44, zI a1, zI a2, zR 0, zR 0]) ?_
  refine zle_many 2 (237, 2, [zR 44, zI a1, zI a2, zI 0, zR 0], [], F, G, zsg) rfl ?_
  exact zle_rfl
set_option maxRecDepth 20000 in
theorem g_Ways_cellAhead_2 {d : Nat} {F : zM} {G : zG} (l1 : Int) (l2 : Int) (l3 : Int) : zle (
  if 3 < l3 then
  some (some (zI (-1)), F, G, zsg)
else
  zbI (zex d 154 [zI l1, zI l3] (F, G, zsg)) (fun v1 F1 G1 =>
    if v1 < 0 then
      zev zX0 d (237, 2, [zR 44, zI l1, zI l2, zI (zadd l3 1), zR 0], [], F1, G1, zsg)
    else
      if 0 ≤ l2 ∧ l2 < 64 then
        zbI (zex d 152 [zL (G1 45 (Int.toNat l2)), zI v1] (F1, G1, zsg)) (fun v2 F2 G2 =>
          if v2 = 0 then
            zev zX0 d (237, 2, [zR 44, zI l1, zI l2, zI (zadd l3 1), zR 0], [], F2, G2, zsg)
          else
            some (some (zI v1), F2, G2, zsg))
      else none)) (zev zX0 d (237, 2, [zR 44, zI l1, zI l2, zI l3, zR 0], [], F, G, zsg)) := by
  refine zle_many 3 (237, (bif zcmp .gt l3 3 then 42 else 7), [zR 44, zI l1, zI l2, zI l3, zR 0], [], F, G, zsg) rfl ?_
  refine zle_gt (fun _ => ?_) (fun _ => ?_)
  · refine zle_many 1 (237, 43, [zR 44, zI l1, zI l2, zI l3, zR 0], [zI (-1)], F, G, zsg) rfl ?_
    exact zle_ret rfl
  · refine zle_many 2 (237, 9, [zR 44, zI l1, zI l2, zI l3, zR 0], [zI l3, zI l1], F, G, zsg) rfl ?_
    refine zle_I rfl (fun v1 F1 G1 => ?_)
    refine zle_many 3 (237, (bif zcmp .lt v1 0 then 36 else 19), [zR 44, zI l1, zI l2, zI l3, zI v1], [], F1, G1, zsg) rfl ?_
    refine zle_lt (fun _ => ?_) (fun _ => ?_)
    · refine zle_many 2 (237, 2, [zR 44, zI l1, zI l2, zI (zadd l3 1), zI v1], [], F1, G1, zsg) rfl ?_
      exact zle_wk ⟨Or.inl rfl, Or.inl rfl, Or.inl rfl, Or.inl rfl, Or.inr rfl, trivial⟩
    · refine zle_many 3 (237, 24, [zR 44, zI l1, zI l2, zI l3, zI v1], [zI l2, zR 45], F1, G1, zsg) rfl ?_
      refine zle_lld rfl rfl rfl (fun _ => ?_)
      refine zle_many 1 (237, 27, [zR 44, zI l1, zI l2, zI l3, zI v1], [zI v1, zL (G1 45 (Int.toNat l2))], F1, G1, zsg) rfl ?_
      refine zle_I rfl (fun v2 F2 G2 => ?_)
      refine zle_many 1 (237, (bif zcmp .eq v2 0 then 36 else 33), [zR 44, zI l1, zI l2, zI l3, zI v1], [], F2, G2, zsg) rfl ?_
      refine zle_eq (fun _ => ?_) (fun _ => ?_)
      · refine zle_many 2 (237, 2, [zR 44, zI l1, zI l2, zI (zadd l3 1), zI v1], [], F2, G2, zsg) rfl ?_
        exact zle_wk ⟨Or.inl rfl, Or.inl rfl, Or.inl rfl, Or.inl rfl, Or.inr rfl, trivial⟩
      · refine zle_many 1 (237, 35, [zR 44, zI l1, zI l2, zI l3, zI v1], [zI v1], F2, G2, zsg) rfl ?_
        exact zle_ret rfl
set_option maxRecDepth 20000 in
theorem g_Ways_bars {d : Nat} {F : zM} {G : zG} (a2 : Int) : zle (
  zbL (zex d 156 [zL (G 44 5), zI (F 44 4)] (F, G, zsg)) (fun v1 F1 G1 =>
  if 0 ≤ a2 ∧ a2 < 2 then
    if (F1 16 (Int.toNat a2)) < 0 then
      zbI (zex d 239 [zR 44, zR 11, zL (zland v1 (zlxor (G1 44 3) (BitVec.ofInt 64 (-1)))), zI (F1 16 (Int.toNat a2))] (F1, G1, zsg)) (fun v2 F2 G2 =>
        zbI (zex d 240 [zR 44, zR 11, zL (zland v1 (zlxor (G1 44 3) (BitVec.ofInt 64 (-1))))] (F2, G2, zsg)) (fun v3 F3 G3 =>
          zbI (zex d 241 [zR 11, zL (zland v1 (zlxor (G1 44 3) (BitVec.ofInt 64 (-1)))), zI a2] (F3, G3, zsg)) (fun v4 F4 G4 =>
            some (some (zI (zor (zor v2 (zshl v3 8)) (zshl v4 12))), F4, G4, zsg))))
    else
      if 0 ≤ (F1 16 (Int.toNat a2)) ∧ (F1 16 (Int.toNat a2)) < 8 then
        if 0 ≤ (F1 16 (Int.toNat a2)) ∧ (F1 16 (Int.toNat a2)) < 8 then
          zbI (zex d 160 [zI (F1 14 (Int.toNat (F1 16 (Int.toNat a2)))), zI (F1 8 (Int.toNat (F1 16 (Int.toNat a2))))] (F1, G1, zsg)) (fun v5 F5 G5 =>
            zbI (zex d 161 [zI (F1 14 (Int.toNat (F1 16 (Int.toNat a2))))] (F5, G5, zsg)) (fun v6 F6 G6 =>
              zev zX0 d (238, 77, [zR 44, zR 11, zI a2, zL (zland v1 (zlxor (G1 44 3) (BitVec.ofInt 64 (-1)))), zR 0, zL (zland v1 (zlxor (G1 44 3) (BitVec.ofInt 64 (-1)))), zR 0, zI (F1 16 (Int.toNat a2)), zI (F1 8 (Int.toNat (F1 16 (Int.toNat a2)))), zI (F1 14 (Int.toNat (F1 16 (Int.toNat a2)))), zI v5, zI v6, zI 0], [], F6, G6, zsg)))
        else none
      else none
  else none)) (zex (d + 1) 238 [zR 44, zR 11, zI a2] (F, G, zsg)) := by
  refine zle_ent (ls := [zR 44, zR 11, zI a2, zR 0, zR 0, zR 0, zR 0, zR 0, zR 0, zR 0, zR 0, zR 0, zR 0]) ?_
  refine zle_many 4 (238, 8, [zR 44, zR 11, zI a2, zR 0, zR 0, zR 0, zR 0, zR 0, zR 0, zR 0, zR 0, zR 0, zR 0], [zI (F 44 4), zL (G 44 5)], F, G, zsg) rfl ?_
  refine zle_L rfl (fun v1 F1 G1 => ?_)
  refine zle_many 11 (238, 29, [zR 44, zR 11, zI a2, zL (zland v1 (zlxor (G1 44 3) (BitVec.ofInt 64 (-1)))), zR 0, zL (zland v1 (zlxor (G1 44 3) (BitVec.ofInt 64 (-1)))), zR 0, zR 0, zR 0, zR 0, zR 0, zR 0, zR 0], [zI a2, zR 16], F1, G1, zsg) rfl ?_
  refine zle_ald rfl rfl rfl (fun _ => ?_)
  refine zle_many 3 (238, (bif zcmp .lt (F1 16 (Int.toNat a2)) 0 then 106 else 37), [zR 44, zR 11, zI a2, zL (zland v1 (zlxor (G1 44 3) (BitVec.ofInt 64 (-1)))), zR 0, zL (zland v1 (zlxor (G1 44 3) (BitVec.ofInt 64 (-1)))), zR 0, zI (F1 16 (Int.toNat a2)), zR 0, zR 0, zR 0, zR 0, zR 0], [], F1, G1, zsg) rfl ?_
  refine zle_lt (fun _ => ?_) (fun _ => ?_)
  · refine zle_many 4 (238, 112, [zR 44, zR 11, zI a2, zL (zland v1 (zlxor (G1 44 3) (BitVec.ofInt 64 (-1)))), zR 0, zL (zland v1 (zlxor (G1 44 3) (BitVec.ofInt 64 (-1)))), zR 0, zI (F1 16 (Int.toNat a2)), zR 0, zR 0, zR 0, zR 0, zR 0], [zI (F1 16 (Int.toNat a2)), zL (zland v1 (zlxor (G1 44 3) (BitVec.ofInt 64 (-1)))), zR 11, zR 44], F1, G1, zsg) rfl ?_
    refine zle_I rfl (fun v2 F2 G2 => ?_)
    refine zle_many 3 (238, 119, [zR 44, zR 11, zI a2, zL (zland v1 (zlxor (G1 44 3) (BitVec.ofInt 64 (-1)))), zR 0, zL (zland v1 (zlxor (G1 44 3) (BitVec.ofInt 64 (-1)))), zR 0, zI (F1 16 (Int.toNat a2)), zR 0, zR 0, zR 0, zR 0, zR 0], [zL (zland v1 (zlxor (G1 44 3) (BitVec.ofInt 64 (-1)))), zR 11, zR 44, zI v2], F2, G2, zsg) rfl ?_
    refine zle_I rfl (fun v3 F3 G3 => ?_)
    refine zle_many 6 (238, 130, [zR 44, zR 11, zI a2, zL (zland v1 (zlxor (G1 44 3) (BitVec.ofInt 64 (-1)))), zR 0, zL (zland v1 (zlxor (G1 44 3) (BitVec.ofInt 64 (-1)))), zR 0, zI (F1 16 (Int.toNat a2)), zR 0, zR 0, zR 0, zR 0, zR 0], [zI a2, zL (zland v1 (zlxor (G1 44 3) (BitVec.ofInt 64 (-1)))), zR 11, zI (zor v2 (zshl v3 8))], F3, G3, zsg) rfl ?_
    refine zle_I rfl (fun v4 F4 G4 => ?_)
    refine zle_many 3 (238, 137, [zR 44, zR 11, zI a2, zL (zland v1 (zlxor (G1 44 3) (BitVec.ofInt 64 (-1)))), zR 0, zL (zland v1 (zlxor (G1 44 3) (BitVec.ofInt 64 (-1)))), zR 0, zI (F1 16 (Int.toNat a2)), zR 0, zR 0, zR 0, zR 0, zR 0], [zI (zor (zor v2 (zshl v3 8)) (zshl v4 12))], F4, G4, zsg) rfl ?_
    exact zle_ret rfl
  · refine zle_many 4 (238, 46, [zR 44, zR 11, zI a2, zL (zland v1 (zlxor (G1 44 3) (BitVec.ofInt 64 (-1)))), zR 0, zL (zland v1 (zlxor (G1 44 3) (BitVec.ofInt 64 (-1)))), zR 0, zI (F1 16 (Int.toNat a2)), zR 0, zR 0, zR 0, zR 0, zR 0], [zI (F1 16 (Int.toNat a2)), zR 8], F1, G1, zsg) rfl ?_
    refine zle_ald rfl rfl rfl (fun _ => ?_)
    refine zle_many 4 (238, 55, [zR 44, zR 11, zI a2, zL (zland v1 (zlxor (G1 44 3) (BitVec.ofInt 64 (-1)))), zR 0, zL (zland v1 (zlxor (G1 44 3) (BitVec.ofInt 64 (-1)))), zR 0, zI (F1 16 (Int.toNat a2)), zI (F1 8 (Int.toNat (F1 16 (Int.toNat a2)))), zR 0, zR 0, zR 0, zR 0], [zI (F1 16 (Int.toNat a2)), zR 14], F1, G1, zsg) rfl ?_
    refine zle_ald rfl rfl rfl (fun _ => ?_)
    refine zle_many 3 (238, 62, [zR 44, zR 11, zI a2, zL (zland v1 (zlxor (G1 44 3) (BitVec.ofInt 64 (-1)))), zR 0, zL (zland v1 (zlxor (G1 44 3) (BitVec.ofInt 64 (-1)))), zR 0, zI (F1 16 (Int.toNat a2)), zI (F1 8 (Int.toNat (F1 16 (Int.toNat a2)))), zI (F1 14 (Int.toNat (F1 16 (Int.toNat a2)))), zR 0, zR 0, zR 0], [zI (F1 8 (Int.toNat (F1 16 (Int.toNat a2)))), zI (F1 14 (Int.toNat (F1 16 (Int.toNat a2))))], F1, G1, zsg) rfl ?_
    refine zle_I rfl (fun v5 F5 G5 => ?_)
    refine zle_many 2 (238, 69, [zR 44, zR 11, zI a2, zL (zland v1 (zlxor (G1 44 3) (BitVec.ofInt 64 (-1)))), zR 0, zL (zland v1 (zlxor (G1 44 3) (BitVec.ofInt 64 (-1)))), zR 0, zI (F1 16 (Int.toNat a2)), zI (F1 8 (Int.toNat (F1 16 (Int.toNat a2)))), zI (F1 14 (Int.toNat (F1 16 (Int.toNat a2)))), zI v5, zR 0, zR 0], [zI (F1 14 (Int.toNat (F1 16 (Int.toNat a2))))], F5, G5, zsg) rfl ?_
    refine zle_I rfl (fun v6 F6 G6 => ?_)
    refine zle_many 3 (238, 77, [zR 44, zR 11, zI a2, zL (zland v1 (zlxor (G1 44 3) (BitVec.ofInt 64 (-1)))), zR 0, zL (zland v1 (zlxor (G1 44 3) (BitVec.ofInt 64 (-1)))), zR 0, zI (F1 16 (Int.toNat a2)), zI (F1 8 (Int.toNat (F1 16 (Int.toNat a2)))), zI (F1 14 (Int.toNat (F1 16 (Int.toNat a2)))), zI v5, zI v6, zI 0], [], F6, G6, zsg) rfl ?_
    exact zle_rfl
set_option maxRecDepth 20000 in
theorem g_Ways_bars_77 {d : Nat} {F : zM} {G : zG} (l2 : Int) (l3 : BitVec 64) (l5 : BitVec 64) (l7 : Int) (l8 : Int) (l9 : Int) (l10 : Int) (l11 : Int) (l12 : Int) : zle (
  if l12 < l8 then
  zbL (zex d 157 [zL l3, zI (zadd l10 l12), zI l11] (F, G, zsg)) (fun v4 F4 G4 =>
    zev zX0 d (238, 77, [zR 44, zR 11, zI l2, zL l3, zR 0, zL (zlor l5 v4), zR 0, zI l7, zI l8, zI l9, zI l10, zI l11, zI (zadd l12 1)], [], F4, G4, zsg))
else
  zbI (zex d 239 [zR 44, zR 11, zL l5, zI l7] (F, G, zsg)) (fun v1 F1 G1 =>
    zbI (zex d 240 [zR 44, zR 11, zL l5] (F1, G1, zsg)) (fun v2 F2 G2 =>
      zbI (zex d 241 [zR 11, zL l5, zI l2] (F2, G2, zsg)) (fun v3 F3 G3 =>
        some (some (zI (zor (zor v1 (zshl v2 8)) (zshl v3 12))), F3, G3, zsg))))) (zev zX0 d (238, 77, [zR 44, zR 11, zI l2, zL l3, zR 0, zL l5, zR 0, zI l7, zI l8, zI l9, zI l10, zI l11, zI l12], [], F, G, zsg)) := by
  refine zle_many 3 (238, (bif zcmp .ge l12 l8 then 106 else 84), [zR 44, zR 11, zI l2, zL l3, zR 0, zL l5, zR 0, zI l7, zI l8, zI l9, zI l10, zI l11, zI l12], [], F, G, zsg) rfl ?_
  refine zle_ge (fun _ => ?_) (fun _ => ?_)
  · refine zle_many 6 (238, 94, [zR 44, zR 11, zI l2, zL l3, zR 0, zL l5, zR 0, zI l7, zI l8, zI l9, zI l10, zI l11, zI l12], [zI l11, zI (zadd l10 l12), zL l3, zL l5], F, G, zsg) rfl ?_
    refine zle_L rfl (fun v4 F4 G4 => ?_)
    refine zle_many 4 (238, 77, [zR 44, zR 11, zI l2, zL l3, zR 0, zL (zlor l5 v4), zR 0, zI l7, zI l8, zI l9, zI l10, zI l11, zI (zadd l12 1)], [], F4, G4, zsg) rfl ?_
    exact zle_rfl
  · refine zle_many 4 (238, 112, [zR 44, zR 11, zI l2, zL l3, zR 0, zL l5, zR 0, zI l7, zI l8, zI l9, zI l10, zI l11, zI l12], [zI l7, zL l5, zR 11, zR 44], F, G, zsg) rfl ?_
    refine zle_I rfl (fun v1 F1 G1 => ?_)
    refine zle_many 3 (238, 119, [zR 44, zR 11, zI l2, zL l3, zR 0, zL l5, zR 0, zI l7, zI l8, zI l9, zI l10, zI l11, zI l12], [zL l5, zR 11, zR 44, zI v1], F1, G1, zsg) rfl ?_
    refine zle_I rfl (fun v2 F2 G2 => ?_)
    refine zle_many 6 (238, 130, [zR 44, zR 11, zI l2, zL l3, zR 0, zL l5, zR 0, zI l7, zI l8, zI l9, zI l10, zI l11, zI l12], [zI l2, zL l5, zR 11, zI (zor v1 (zshl v2 8))], F2, G2, zsg) rfl ?_
    refine zle_I rfl (fun v3 F3 G3 => ?_)
    refine zle_many 3 (238, 137, [zR 44, zR 11, zI l2, zL l3, zR 0, zL l5, zR 0, zI l7, zI l8, zI l9, zI l10, zI l11, zI l12], [zI (zor (zor v1 (zshl v2 8)) (zshl v3 12))], F3, G3, zsg) rfl ?_
    exact zle_ret rfl
set_option maxRecDepth 20000 in
theorem g_Ways_thingsIn {d : Nat} {F : zM} {G : zG} (a2 : BitVec 64) (a3 : Int) : zle (
  zev zX0 d (239, 6, [zR 44, zR 11, zL a2, zR 0, zI a3, zI 0, zI 0], [], F, G, zsg)) (zex (d + 1) 239 [zR 44, zR 11, zL a2, zI a3] (F, G, zsg)) := by
  refine zle_ent (ls := [zR 44, zR 11, zL a2, zR 0, zI a3, zR 0, zR 0]) ?_
  refine zle_many 4 (239, 6, [zR 44, zR 11, zL a2, zR 0, zI a3, zI 0, zI 0], [], F, G, zsg) rfl ?_
  exact zle_rfl
set_option maxRecDepth 20000 in
theorem g_Ways_thingsIn_6 {d : Nat} {F : zM} {G : zG} (l2 : BitVec 64) (l4 : Int) (l5 : Int) (l6 : Int) : zle (
  if l6 < (F 6 2) then
  if l6 = l4 then
    zev zX0 d (239, 6, [zR 44, zR 11, zL l2, zR 0, zI l4, zI l5, zI (zadd l6 1)], [], F, G, zsg)
  else
    zbL (zex d 227 [zR 44, zR 11, zI l6] (F, G, zsg)) (fun v1 F1 G1 =>
      if (zlcmp (zland v1 l2) (BitVec.ofNat 64 0)) = 0 then
        zev zX0 d (239, 6, [zR 44, zR 11, zL l2, zR 0, zI l4, zI l5, zI (zadd l6 1)], [], F1, G1, zsg)
      else
        zev zX0 d (239, 6, [zR 44, zR 11, zL l2, zR 0, zI l4, zI (zor l5 (zshl 1 l6)), zI (zadd l6 1)], [], F1, G1, zsg))
else
  some (some (zI l5), F, G, zsg)) (zev zX0 d (239, 6, [zR 44, zR 11, zL l2, zR 0, zI l4, zI l5, zI l6], [], F, G, zsg)) := by
  refine zle_many 5 (239, (bif zcmp .ge l6 (F 6 2) then 54 else 18), [zR 44, zR 11, zL l2, zR 0, zI l4, zI l5, zI l6], [], F, G, zsg) rfl ?_
  refine zle_ge (fun _ => ?_) (fun _ => ?_)
  · refine zle_many 3 (239, (bif zcmp .eq l6 l4 then 48 else 25), [zR 44, zR 11, zL l2, zR 0, zI l4, zI l5, zI l6], [], F, G, zsg) rfl ?_
    refine zle_eq (fun _ => ?_) (fun _ => ?_)
    · refine zle_many 2 (239, 6, [zR 44, zR 11, zL l2, zR 0, zI l4, zI l5, zI (zadd l6 1)], [], F, G, zsg) rfl ?_
      exact zle_rfl
    · refine zle_many 3 (239, 29, [zR 44, zR 11, zL l2, zR 0, zI l4, zI l5, zI l6], [zI l6, zR 11, zR 44], F, G, zsg) rfl ?_
      refine zle_L rfl (fun v1 F1 G1 => ?_)
      refine zle_many 5 (239, (bif zcmp .eq (zlcmp (zland v1 l2) (BitVec.ofNat 64 0)) 0 then 48 else 39), [zR 44, zR 11, zL l2, zR 0, zI l4, zI l5, zI l6], [], F1, G1, zsg) rfl ?_
      refine zle_eq (fun _ => ?_) (fun _ => ?_)
      · refine zle_many 2 (239, 6, [zR 44, zR 11, zL l2, zR 0, zI l4, zI l5, zI (zadd l6 1)], [], F1, G1, zsg) rfl ?_
        exact zle_rfl
      · refine zle_many 8 (239, 6, [zR 44, zR 11, zL l2, zR 0, zI l4, zI (zor l5 (zshl 1 l6)), zI (zadd l6 1)], [], F1, G1, zsg) rfl ?_
        exact zle_rfl
  · refine zle_many 1 (239, 56, [zR 44, zR 11, zL l2, zR 0, zI l4, zI l5, zI l6], [zI l5], F, G, zsg) rfl ?_
    exact zle_ret rfl
set_option maxRecDepth 20000 in
theorem g_Ways_shutDoorsIn {d : Nat} {F : zM} {G : zG} (a2 : BitVec 64) : zle (
  zev zX0 d (240, 6, [zR 44, zR 11, zL a2, zR 0, zI 0, zI 0], [], F, G, zsg)) (zex (d + 1) 240 [zR 44, zR 11, zL a2] (F, G, zsg)) := by
  refine zle_ent (ls := [zR 44, zR 11, zL a2, zR 0, zR 0, zR 0]) ?_
  refine zle_many 4 (240, 6, [zR 44, zR 11, zL a2, zR 0, zI 0, zI 0], [], F, G, zsg) rfl ?_
  exact zle_rfl
set_option maxRecDepth 20000 in
theorem g_Ways_shutDoorsIn_6 {d : Nat} {F : zM} {G : zG} (l2 : BitVec 64) (l4 : Int) (l5 : Int) : zle (
  if l5 < (F 6 5) then
  zbI (zex d 199 [zR 11, zI l5] (F, G, zsg)) (fun v1 F1 G1 =>
    if v1 = 0 then
      if 0 ≤ l5 ∧ l5 < 4 then
        zbI (zex d 152 [zL l2, zI (F1 9 (Int.toNat l5))] (F1, G1, zsg)) (fun v2 F2 G2 =>
          if v2 = 0 then
            zev zX0 d (240, 6, [zR 44, zR 11, zL l2, zR 0, zI l4, zI (zadd l5 1)], [], F2, G2, zsg)
          else
            zev zX0 d (240, 6, [zR 44, zR 11, zL l2, zR 0, zI (zor l4 (zshl 1 l5)), zI (zadd l5 1)], [], F2, G2, zsg))
      else none
    else
      zev zX0 d (240, 6, [zR 44, zR 11, zL l2, zR 0, zI l4, zI (zadd l5 1)], [], F1, G1, zsg))
else
  some (some (zI l4), F, G, zsg)) (zev zX0 d (240, 6, [zR 44, zR 11, zL l2, zR 0, zI l4, zI l5], [], F, G, zsg)) := by
  refine zle_many 5 (240, (bif zcmp .ge l5 (F 6 5) then 59 else 18), [zR 44, zR 11, zL l2, zR 0, zI l4, zI l5], [], F, G, zsg) rfl ?_
  refine zle_ge (fun _ => ?_) (fun _ => ?_)
  · refine zle_many 2 (240, 21, [zR 44, zR 11, zL l2, zR 0, zI l4, zI l5], [zI l5, zR 11], F, G, zsg) rfl ?_
    refine zle_I rfl (fun v1 F1 G1 => ?_)
    refine zle_many 1 (240, (bif zcmp .ne v1 0 then 53 else 27), [zR 44, zR 11, zL l2, zR 0, zI l4, zI l5], [], F1, G1, zsg) rfl ?_
    refine zle_ne (fun _ => ?_) (fun _ => ?_)
    · refine zle_many 5 (240, 37, [zR 44, zR 11, zL l2, zR 0, zI l4, zI l5], [zI l5, zR 9, zL l2], F1, G1, zsg) rfl ?_
      refine zle_ald rfl rfl rfl (fun _ => ?_)
      refine zle_I rfl (fun v2 F2 G2 => ?_)
      refine zle_many 1 (240, (bif zcmp .eq v2 0 then 53 else 44), [zR 44, zR 11, zL l2, zR 0, zI l4, zI l5], [], F2, G2, zsg) rfl ?_
      refine zle_eq (fun _ => ?_) (fun _ => ?_)
      · refine zle_many 2 (240, 6, [zR 44, zR 11, zL l2, zR 0, zI l4, zI (zadd l5 1)], [], F2, G2, zsg) rfl ?_
        exact zle_rfl
      · refine zle_many 8 (240, 6, [zR 44, zR 11, zL l2, zR 0, zI (zor l4 (zshl 1 l5)), zI (zadd l5 1)], [], F2, G2, zsg) rfl ?_
        exact zle_rfl
    · refine zle_many 2 (240, 6, [zR 44, zR 11, zL l2, zR 0, zI l4, zI (zadd l5 1)], [], F1, G1, zsg) rfl ?_
      exact zle_rfl
  · refine zle_many 1 (240, 61, [zR 44, zR 11, zL l2, zR 0, zI l4, zI l5], [zI l4], F, G, zsg) rfl ?_
    exact zle_ret rfl
set_option maxRecDepth 20000 in
theorem g_Ways_otherHandIn {d : Nat} {F : zM} {G : zG} (a1 : BitVec 64) (a2 : Int) : zle (
  if 0 ≤ (zsub 1 a2) ∧ (zsub 1 a2) < 2 then
  if (F 15 (Int.toNat (zsub 1 a2))) < 0 then
    some (some (zI 0), F, G, zsg)
  else
    zbI (zex d 152 [zL a1, zI (F 15 (Int.toNat (zsub 1 a2)))] (F, G, zsg)) (fun v1 F1 G1 =>
      if v1 = 0 then
        some (some (zI 0), F1, G1, zsg)
      else
        some (some (zI 1), F1, G1, zsg))
else none) (zex (d + 1) 241 [zR 11, zL a1, zI a2] (F, G, zsg)) := by
  refine zle_ent (ls := [zR 11, zL a1, zR 0, zI a2, zR 0]) ?_
  refine zle_many 5 (241, 7, [zR 11, zL a1, zR 0, zI a2, zR 0], [zI (zsub 1 a2), zR 15], F, G, zsg) rfl ?_
  refine zle_ald rfl rfl rfl (fun _ => ?_)
  refine zle_many 3 (241, (bif zcmp .lt (F 15 (Int.toNat (zsub 1 a2))) 0 then 28 else 15), [zR 11, zL a1, zR 0, zI a2, zI (F 15 (Int.toNat (zsub 1 a2)))], [], F, G, zsg) rfl ?_
  refine zle_lt (fun _ => ?_) (fun _ => ?_)
  · refine zle_many 1 (241, 29, [zR 11, zL a1, zR 0, zI a2, zI (F 15 (Int.toNat (zsub 1 a2)))], [zI 0], F, G, zsg) rfl ?_
    exact zle_ret rfl
  · refine zle_many 2 (241, 18, [zR 11, zL a1, zR 0, zI a2, zI (F 15 (Int.toNat (zsub 1 a2)))], [zI (F 15 (Int.toNat (zsub 1 a2))), zL a1], F, G, zsg) rfl ?_
    refine zle_I rfl (fun v1 F1 G1 => ?_)
    refine zle_many 1 (241, (bif zcmp .eq v1 0 then 28 else 24), [zR 11, zL a1, zR 0, zI a2, zI (F 15 (Int.toNat (zsub 1 a2)))], [], F1, G1, zsg) rfl ?_
    refine zle_eq (fun _ => ?_) (fun _ => ?_)
    · refine zle_many 1 (241, 29, [zR 11, zL a1, zR 0, zI a2, zI (F 15 (Int.toNat (zsub 1 a2)))], [zI 0], F1, G1, zsg) rfl ?_
      exact zle_ret rfl
    · refine zle_many 2 (241, 29, [zR 11, zL a1, zR 0, zI a2, zI (F 15 (Int.toNat (zsub 1 a2)))], [zI 1], F1, G1, zsg) rfl ?_
      exact zle_ret rfl
set_option maxRecDepth 20000 in
theorem g_Long_bitCount {d : Nat} {F : zM} {G : zG} (a0 : BitVec 64) : zle (
  some (some (zI (zand (zl2i (zladd (zladd (zladd (zland (zladd (zladd (zland (zlsub a0 (zland (zlushr a0 1) (BitVec.ofInt 64 (6148914691236517205)))) (BitVec.ofInt 64 (3689348814741910323))) (zland (zlushr (zlsub a0 (zland (zlushr a0 1) (BitVec.ofInt 64 (6148914691236517205)))) 2) (BitVec.ofInt 64 (3689348814741910323)))) (zlushr (zladd (zland (zlsub a0 (zland (zlushr a0 1) (BitVec.ofInt 64 (6148914691236517205)))) (BitVec.ofInt 64 (3689348814741910323))) (zland (zlushr (zlsub a0 (zland (zlushr a0 1) (BitVec.ofInt 64 (6148914691236517205)))) 2) (BitVec.ofInt 64 (3689348814741910323)))) 4)) (BitVec.ofInt 64 (1085102592571150095))) (zlushr (zland (zladd (zladd (zland (zlsub a0 (zland (zlushr a0 1) (BitVec.ofInt 64 (6148914691236517205)))) (BitVec.ofInt 64 (3689348814741910323))) (zland (zlushr (zlsub a0 (zland (zlushr a0 1) (BitVec.ofInt 64 (6148914691236517205)))) 2) (BitVec.ofInt 64 (3689348814741910323)))) (zlushr (zladd (zland (zlsub a0 (zland (zlushr a0 1) (BitVec.ofInt 64 (6148914691236517205)))) (BitVec.ofInt 64 (3689348814741910323))) (zland (zlushr (zlsub a0 (zland (zlushr a0 1) (BitVec.ofInt 64 (6148914691236517205)))) 2) (BitVec.ofInt 64 (3689348814741910323)))) 4)) (BitVec.ofInt 64 (1085102592571150095))) 8)) (zlushr (zladd (zland (zladd (zladd (zland (zlsub a0 (zland (zlushr a0 1) (BitVec.ofInt 64 (6148914691236517205)))) (BitVec.ofInt 64 (3689348814741910323))) (zland (zlushr (zlsub a0 (zland (zlushr a0 1) (BitVec.ofInt 64 (6148914691236517205)))) 2) (BitVec.ofInt 64 (3689348814741910323)))) (zlushr (zladd (zland (zlsub a0 (zland (zlushr a0 1) (BitVec.ofInt 64 (6148914691236517205)))) (BitVec.ofInt 64 (3689348814741910323))) (zland (zlushr (zlsub a0 (zland (zlushr a0 1) (BitVec.ofInt 64 (6148914691236517205)))) 2) (BitVec.ofInt 64 (3689348814741910323)))) 4)) (BitVec.ofInt 64 (1085102592571150095))) (zlushr (zland (zladd (zladd (zland (zlsub a0 (zland (zlushr a0 1) (BitVec.ofInt 64 (6148914691236517205)))) (BitVec.ofInt 64 (3689348814741910323))) (zland (zlushr (zlsub a0 (zland (zlushr a0 1) (BitVec.ofInt 64 (6148914691236517205)))) 2) (BitVec.ofInt 64 (3689348814741910323)))) (zlushr (zladd (zland (zlsub a0 (zland (zlushr a0 1) (BitVec.ofInt 64 (6148914691236517205)))) (BitVec.ofInt 64 (3689348814741910323))) (zland (zlushr (zlsub a0 (zland (zlushr a0 1) (BitVec.ofInt 64 (6148914691236517205)))) 2) (BitVec.ofInt 64 (3689348814741910323)))) 4)) (BitVec.ofInt 64 (1085102592571150095))) 8)) 16)) (zlushr (zladd (zladd (zland (zladd (zladd (zland (zlsub a0 (zland (zlushr a0 1) (BitVec.ofInt 64 (6148914691236517205)))) (BitVec.ofInt 64 (3689348814741910323))) (zland (zlushr (zlsub a0 (zland (zlushr a0 1) (BitVec.ofInt 64 (6148914691236517205)))) 2) (BitVec.ofInt 64 (3689348814741910323)))) (zlushr (zladd (zland (zlsub a0 (zland (zlushr a0 1) (BitVec.ofInt 64 (6148914691236517205)))) (BitVec.ofInt 64 (3689348814741910323))) (zland (zlushr (zlsub a0 (zland (zlushr a0 1) (BitVec.ofInt 64 (6148914691236517205)))) 2) (BitVec.ofInt 64 (3689348814741910323)))) 4)) (BitVec.ofInt 64 (1085102592571150095))) (zlushr (zland (zladd (zladd (zland (zlsub a0 (zland (zlushr a0 1) (BitVec.ofInt 64 (6148914691236517205)))) (BitVec.ofInt 64 (3689348814741910323))) (zland (zlushr (zlsub a0 (zland (zlushr a0 1) (BitVec.ofInt 64 (6148914691236517205)))) 2) (BitVec.ofInt 64 (3689348814741910323)))) (zlushr (zladd (zland (zlsub a0 (zland (zlushr a0 1) (BitVec.ofInt 64 (6148914691236517205)))) (BitVec.ofInt 64 (3689348814741910323))) (zland (zlushr (zlsub a0 (zland (zlushr a0 1) (BitVec.ofInt 64 (6148914691236517205)))) 2) (BitVec.ofInt 64 (3689348814741910323)))) 4)) (BitVec.ofInt 64 (1085102592571150095))) 8)) (zlushr (zladd (zland (zladd (zladd (zland (zlsub a0 (zland (zlushr a0 1) (BitVec.ofInt 64 (6148914691236517205)))) (BitVec.ofInt 64 (3689348814741910323))) (zland (zlushr (zlsub a0 (zland (zlushr a0 1) (BitVec.ofInt 64 (6148914691236517205)))) 2) (BitVec.ofInt 64 (3689348814741910323)))) (zlushr (zladd (zland (zlsub a0 (zland (zlushr a0 1) (BitVec.ofInt 64 (6148914691236517205)))) (BitVec.ofInt 64 (3689348814741910323))) (zland (zlushr (zlsub a0 (zland (zlushr a0 1) (BitVec.ofInt 64 (6148914691236517205)))) 2) (BitVec.ofInt 64 (3689348814741910323)))) 4)) (BitVec.ofInt 64 (1085102592571150095))) (zlushr (zland (zladd (zladd (zland (zlsub a0 (zland (zlushr a0 1) (BitVec.ofInt 64 (6148914691236517205)))) (BitVec.ofInt 64 (3689348814741910323))) (zland (zlushr (zlsub a0 (zland (zlushr a0 1) (BitVec.ofInt 64 (6148914691236517205)))) 2) (BitVec.ofInt 64 (3689348814741910323)))) (zlushr (zladd (zland (zlsub a0 (zland (zlushr a0 1) (BitVec.ofInt 64 (6148914691236517205)))) (BitVec.ofInt 64 (3689348814741910323))) (zland (zlushr (zlsub a0 (zland (zlushr a0 1) (BitVec.ofInt 64 (6148914691236517205)))) 2) (BitVec.ofInt 64 (3689348814741910323)))) 4)) (BitVec.ofInt 64 (1085102592571150095))) 8)) 16)) 32))) 127)), F, G, zsg)) (zex (d + 1) 243 [zL a0] (F, G, zsg)) := by
  refine zle_ent (ls := [zL a0, zR 0]) ?_
  refine zle_many 48 (243, 60, [zL (zladd (zladd (zladd (zland (zladd (zladd (zland (zlsub a0 (zland (zlushr a0 1) (BitVec.ofInt 64 (6148914691236517205)))) (BitVec.ofInt 64 (3689348814741910323))) (zland (zlushr (zlsub a0 (zland (zlushr a0 1) (BitVec.ofInt 64 (6148914691236517205)))) 2) (BitVec.ofInt 64 (3689348814741910323)))) (zlushr (zladd (zland (zlsub a0 (zland (zlushr a0 1) (BitVec.ofInt 64 (6148914691236517205)))) (BitVec.ofInt 64 (3689348814741910323))) (zland (zlushr (zlsub a0 (zland (zlushr a0 1) (BitVec.ofInt 64 (6148914691236517205)))) 2) (BitVec.ofInt 64 (3689348814741910323)))) 4)) (BitVec.ofInt 64 (1085102592571150095))) (zlushr (zland (zladd (zladd (zland (zlsub a0 (zland (zlushr a0 1) (BitVec.ofInt 64 (6148914691236517205)))) (BitVec.ofInt 64 (3689348814741910323))) (zland (zlushr (zlsub a0 (zland (zlushr a0 1) (BitVec.ofInt 64 (6148914691236517205)))) 2) (BitVec.ofInt 64 (3689348814741910323)))) (zlushr (zladd (zland (zlsub a0 (zland (zlushr a0 1) (BitVec.ofInt 64 (6148914691236517205)))) (BitVec.ofInt 64 (3689348814741910323))) (zland (zlushr (zlsub a0 (zland (zlushr a0 1) (BitVec.ofInt 64 (6148914691236517205)))) 2) (BitVec.ofInt 64 (3689348814741910323)))) 4)) (BitVec.ofInt 64 (1085102592571150095))) 8)) (zlushr (zladd (zland (zladd (zladd (zland (zlsub a0 (zland (zlushr a0 1) (BitVec.ofInt 64 (6148914691236517205)))) (BitVec.ofInt 64 (3689348814741910323))) (zland (zlushr (zlsub a0 (zland (zlushr a0 1) (BitVec.ofInt 64 (6148914691236517205)))) 2) (BitVec.ofInt 64 (3689348814741910323)))) (zlushr (zladd (zland (zlsub a0 (zland (zlushr a0 1) (BitVec.ofInt 64 (6148914691236517205)))) (BitVec.ofInt 64 (3689348814741910323))) (zland (zlushr (zlsub a0 (zland (zlushr a0 1) (BitVec.ofInt 64 (6148914691236517205)))) 2) (BitVec.ofInt 64 (3689348814741910323)))) 4)) (BitVec.ofInt 64 (1085102592571150095))) (zlushr (zland (zladd (zladd (zland (zlsub a0 (zland (zlushr a0 1) (BitVec.ofInt 64 (6148914691236517205)))) (BitVec.ofInt 64 (3689348814741910323))) (zland (zlushr (zlsub a0 (zland (zlushr a0 1) (BitVec.ofInt 64 (6148914691236517205)))) 2) (BitVec.ofInt 64 (3689348814741910323)))) (zlushr (zladd (zland (zlsub a0 (zland (zlushr a0 1) (BitVec.ofInt 64 (6148914691236517205)))) (BitVec.ofInt 64 (3689348814741910323))) (zland (zlushr (zlsub a0 (zland (zlushr a0 1) (BitVec.ofInt 64 (6148914691236517205)))) 2) (BitVec.ofInt 64 (3689348814741910323)))) 4)) (BitVec.ofInt 64 (1085102592571150095))) 8)) 16)) (zlushr (zladd (zladd (zland (zladd (zladd (zland (zlsub a0 (zland (zlushr a0 1) (BitVec.ofInt 64 (6148914691236517205)))) (BitVec.ofInt 64 (3689348814741910323))) (zland (zlushr (zlsub a0 (zland (zlushr a0 1) (BitVec.ofInt 64 (6148914691236517205)))) 2) (BitVec.ofInt 64 (3689348814741910323)))) (zlushr (zladd (zland (zlsub a0 (zland (zlushr a0 1) (BitVec.ofInt 64 (6148914691236517205)))) (BitVec.ofInt 64 (3689348814741910323))) (zland (zlushr (zlsub a0 (zland (zlushr a0 1) (BitVec.ofInt 64 (6148914691236517205)))) 2) (BitVec.ofInt 64 (3689348814741910323)))) 4)) (BitVec.ofInt 64 (1085102592571150095))) (zlushr (zland (zladd (zladd (zland (zlsub a0 (zland (zlushr a0 1) (BitVec.ofInt 64 (6148914691236517205)))) (BitVec.ofInt 64 (3689348814741910323))) (zland (zlushr (zlsub a0 (zland (zlushr a0 1) (BitVec.ofInt 64 (6148914691236517205)))) 2) (BitVec.ofInt 64 (3689348814741910323)))) (zlushr (zladd (zland (zlsub a0 (zland (zlushr a0 1) (BitVec.ofInt 64 (6148914691236517205)))) (BitVec.ofInt 64 (3689348814741910323))) (zland (zlushr (zlsub a0 (zland (zlushr a0 1) (BitVec.ofInt 64 (6148914691236517205)))) 2) (BitVec.ofInt 64 (3689348814741910323)))) 4)) (BitVec.ofInt 64 (1085102592571150095))) 8)) (zlushr (zladd (zland (zladd (zladd (zland (zlsub a0 (zland (zlushr a0 1) (BitVec.ofInt 64 (6148914691236517205)))) (BitVec.ofInt 64 (3689348814741910323))) (zland (zlushr (zlsub a0 (zland (zlushr a0 1) (BitVec.ofInt 64 (6148914691236517205)))) 2) (BitVec.ofInt 64 (3689348814741910323)))) (zlushr (zladd (zland (zlsub a0 (zland (zlushr a0 1) (BitVec.ofInt 64 (6148914691236517205)))) (BitVec.ofInt 64 (3689348814741910323))) (zland (zlushr (zlsub a0 (zland (zlushr a0 1) (BitVec.ofInt 64 (6148914691236517205)))) 2) (BitVec.ofInt 64 (3689348814741910323)))) 4)) (BitVec.ofInt 64 (1085102592571150095))) (zlushr (zland (zladd (zladd (zland (zlsub a0 (zland (zlushr a0 1) (BitVec.ofInt 64 (6148914691236517205)))) (BitVec.ofInt 64 (3689348814741910323))) (zland (zlushr (zlsub a0 (zland (zlushr a0 1) (BitVec.ofInt 64 (6148914691236517205)))) 2) (BitVec.ofInt 64 (3689348814741910323)))) (zlushr (zladd (zland (zlsub a0 (zland (zlushr a0 1) (BitVec.ofInt 64 (6148914691236517205)))) (BitVec.ofInt 64 (3689348814741910323))) (zland (zlushr (zlsub a0 (zland (zlushr a0 1) (BitVec.ofInt 64 (6148914691236517205)))) 2) (BitVec.ofInt 64 (3689348814741910323)))) 4)) (BitVec.ofInt 64 (1085102592571150095))) 8)) 16)) 32)), zR 0], [zI (zand (zl2i (zladd (zladd (zladd (zland (zladd (zladd (zland (zlsub a0 (zland (zlushr a0 1) (BitVec.ofInt 64 (6148914691236517205)))) (BitVec.ofInt 64 (3689348814741910323))) (zland (zlushr (zlsub a0 (zland (zlushr a0 1) (BitVec.ofInt 64 (6148914691236517205)))) 2) (BitVec.ofInt 64 (3689348814741910323)))) (zlushr (zladd (zland (zlsub a0 (zland (zlushr a0 1) (BitVec.ofInt 64 (6148914691236517205)))) (BitVec.ofInt 64 (3689348814741910323))) (zland (zlushr (zlsub a0 (zland (zlushr a0 1) (BitVec.ofInt 64 (6148914691236517205)))) 2) (BitVec.ofInt 64 (3689348814741910323)))) 4)) (BitVec.ofInt 64 (1085102592571150095))) (zlushr (zland (zladd (zladd (zland (zlsub a0 (zland (zlushr a0 1) (BitVec.ofInt 64 (6148914691236517205)))) (BitVec.ofInt 64 (3689348814741910323))) (zland (zlushr (zlsub a0 (zland (zlushr a0 1) (BitVec.ofInt 64 (6148914691236517205)))) 2) (BitVec.ofInt 64 (3689348814741910323)))) (zlushr (zladd (zland (zlsub a0 (zland (zlushr a0 1) (BitVec.ofInt 64 (6148914691236517205)))) (BitVec.ofInt 64 (3689348814741910323))) (zland (zlushr (zlsub a0 (zland (zlushr a0 1) (BitVec.ofInt 64 (6148914691236517205)))) 2) (BitVec.ofInt 64 (3689348814741910323)))) 4)) (BitVec.ofInt 64 (1085102592571150095))) 8)) (zlushr (zladd (zland (zladd (zladd (zland (zlsub a0 (zland (zlushr a0 1) (BitVec.ofInt 64 (6148914691236517205)))) (BitVec.ofInt 64 (3689348814741910323))) (zland (zlushr (zlsub a0 (zland (zlushr a0 1) (BitVec.ofInt 64 (6148914691236517205)))) 2) (BitVec.ofInt 64 (3689348814741910323)))) (zlushr (zladd (zland (zlsub a0 (zland (zlushr a0 1) (BitVec.ofInt 64 (6148914691236517205)))) (BitVec.ofInt 64 (3689348814741910323))) (zland (zlushr (zlsub a0 (zland (zlushr a0 1) (BitVec.ofInt 64 (6148914691236517205)))) 2) (BitVec.ofInt 64 (3689348814741910323)))) 4)) (BitVec.ofInt 64 (1085102592571150095))) (zlushr (zland (zladd (zladd (zland (zlsub a0 (zland (zlushr a0 1) (BitVec.ofInt 64 (6148914691236517205)))) (BitVec.ofInt 64 (3689348814741910323))) (zland (zlushr (zlsub a0 (zland (zlushr a0 1) (BitVec.ofInt 64 (6148914691236517205)))) 2) (BitVec.ofInt 64 (3689348814741910323)))) (zlushr (zladd (zland (zlsub a0 (zland (zlushr a0 1) (BitVec.ofInt 64 (6148914691236517205)))) (BitVec.ofInt 64 (3689348814741910323))) (zland (zlushr (zlsub a0 (zland (zlushr a0 1) (BitVec.ofInt 64 (6148914691236517205)))) 2) (BitVec.ofInt 64 (3689348814741910323)))) 4)) (BitVec.ofInt 64 (1085102592571150095))) 8)) 16)) (zlushr (zladd (zladd (zland (zladd (zladd (zland (zlsub a0 (zland (zlushr a0 1) (BitVec.ofInt 64 (6148914691236517205)))) (BitVec.ofInt 64 (3689348814741910323))) (zland (zlushr (zlsub a0 (zland (zlushr a0 1) (BitVec.ofInt 64 (6148914691236517205)))) 2) (BitVec.ofInt 64 (3689348814741910323)))) (zlushr (zladd (zland (zlsub a0 (zland (zlushr a0 1) (BitVec.ofInt 64 (6148914691236517205)))) (BitVec.ofInt 64 (3689348814741910323))) (zland (zlushr (zlsub a0 (zland (zlushr a0 1) (BitVec.ofInt 64 (6148914691236517205)))) 2) (BitVec.ofInt 64 (3689348814741910323)))) 4)) (BitVec.ofInt 64 (1085102592571150095))) (zlushr (zland (zladd (zladd (zland (zlsub a0 (zland (zlushr a0 1) (BitVec.ofInt 64 (6148914691236517205)))) (BitVec.ofInt 64 (3689348814741910323))) (zland (zlushr (zlsub a0 (zland (zlushr a0 1) (BitVec.ofInt 64 (6148914691236517205)))) 2) (BitVec.ofInt 64 (3689348814741910323)))) (zlushr (zladd (zland (zlsub a0 (zland (zlushr a0 1) (BitVec.ofInt 64 (6148914691236517205)))) (BitVec.ofInt 64 (3689348814741910323))) (zland (zlushr (zlsub a0 (zland (zlushr a0 1) (BitVec.ofInt 64 (6148914691236517205)))) 2) (BitVec.ofInt 64 (3689348814741910323)))) 4)) (BitVec.ofInt 64 (1085102592571150095))) 8)) (zlushr (zladd (zland (zladd (zladd (zland (zlsub a0 (zland (zlushr a0 1) (BitVec.ofInt 64 (6148914691236517205)))) (BitVec.ofInt 64 (3689348814741910323))) (zland (zlushr (zlsub a0 (zland (zlushr a0 1) (BitVec.ofInt 64 (6148914691236517205)))) 2) (BitVec.ofInt 64 (3689348814741910323)))) (zlushr (zladd (zland (zlsub a0 (zland (zlushr a0 1) (BitVec.ofInt 64 (6148914691236517205)))) (BitVec.ofInt 64 (3689348814741910323))) (zland (zlushr (zlsub a0 (zland (zlushr a0 1) (BitVec.ofInt 64 (6148914691236517205)))) 2) (BitVec.ofInt 64 (3689348814741910323)))) 4)) (BitVec.ofInt 64 (1085102592571150095))) (zlushr (zland (zladd (zladd (zland (zlsub a0 (zland (zlushr a0 1) (BitVec.ofInt 64 (6148914691236517205)))) (BitVec.ofInt 64 (3689348814741910323))) (zland (zlushr (zlsub a0 (zland (zlushr a0 1) (BitVec.ofInt 64 (6148914691236517205)))) 2) (BitVec.ofInt 64 (3689348814741910323)))) (zlushr (zladd (zland (zlsub a0 (zland (zlushr a0 1) (BitVec.ofInt 64 (6148914691236517205)))) (BitVec.ofInt 64 (3689348814741910323))) (zland (zlushr (zlsub a0 (zland (zlushr a0 1) (BitVec.ofInt 64 (6148914691236517205)))) 2) (BitVec.ofInt 64 (3689348814741910323)))) 4)) (BitVec.ofInt 64 (1085102592571150095))) 8)) 16)) 32))) 127)], F, G, zsg) rfl ?_
  exact zle_ret rfl
set_option maxRecDepth 20000 in
theorem g_Math_max {d : Nat} {F : zM} {G : zG} (a0 : Int) (a1 : Int) : zle (
  if a0 < a1 then
  some (some (zI a1), F, G, zsg)
else
  some (some (zI a0), F, G, zsg)) (zex (d + 1) 244 [zI a0, zI a1] (F, G, zsg)) := by
  refine zle_ent (ls := [zI a0, zI a1]) ?_
  refine zle_many 3 (244, (bif zcmp .lt a0 a1 then 9 else 5), [zI a0, zI a1], [], F, G, zsg) rfl ?_
  refine zle_lt (fun _ => ?_) (fun _ => ?_)
  · refine zle_many 1 (244, 10, [zI a0, zI a1], [zI a1], F, G, zsg) rfl ?_
    exact zle_ret rfl
  · refine zle_many 2 (244, 10, [zI a0, zI a1], [zI a0], F, G, zsg) rfl ?_
    exact zle_ret rfl
