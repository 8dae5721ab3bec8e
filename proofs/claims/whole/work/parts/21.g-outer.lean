/-! printed by wip/gen/gen_all.py: what each method does from its entry and from each loop's head (a tree of tests, calls and ends), and that the code does so -/
set_option maxRecDepth 20000 in
theorem g_C_wall {d : Nat} {F : zM} {G : zG} (a1 : Int) (a2 : Int) : zle (
  zbI (zex d 149 [zI a1] (F, G, zsg)) (fun v1 F1 G1 =>
  if v1 = 0 then
    some (some (zI (-1)), F1, G1, zsg)
  else
    if a2 = 0 then
      if a2 = 1 then
        zbI (zex d 46 [zR 5, zI a1] (F1, G1, zsg)) (fun v7 F7 G7 =>
          if v7 = 0 then
            zbI (zex d 152 [zL (G7 6 0), zI a1] (F7, G7, zsg)) (fun v8 F8 G8 =>
              if v8 = 0 then
                if a2 = 1 then
                  zbL (zex d 151 [zI a1] (F8, G8, zsg)) (fun v10 F10 G10 =>
                    some (some (zI 0), F10, (zug G10 6 0 (zlor (G8 6 0) v10)), zsg))
                else
                  zbL (zex d 151 [zI a1] (F8, G8, zsg)) (fun v9 F9 G9 =>
                    some (some (zI 0), F9, (zug G9 6 0 (zland (G8 6 0) (zlxor v9 (BitVec.ofInt 64 (-1))))), zsg))
              else
                if a2 = 1 then
                  zbL (zex d 151 [zI a1] (F8, G8, zsg)) (fun v12 F12 G12 =>
                    some (some (zI 1), F12, (zug G12 6 0 (zlor (G8 6 0) v12)), zsg))
                else
                  zbL (zex d 151 [zI a1] (F8, G8, zsg)) (fun v11 F11 G11 =>
                    some (some (zI 1), F11, (zug G11 6 0 (zland (G8 6 0) (zlxor v11 (BitVec.ofInt 64 (-1))))), zsg)))
          else
            some (some (zI (-3)), F7, G7, zsg))
      else
        zbI (zex d 152 [zL (G1 6 0), zI a1] (F1, G1, zsg)) (fun v2 F2 G2 =>
          if v2 = 0 then
            if a2 = 1 then
              zbL (zex d 151 [zI a1] (F2, G2, zsg)) (fun v4 F4 G4 =>
                some (some (zI 0), F4, (zug G4 6 0 (zlor (G2 6 0) v4)), zsg))
            else
              zbL (zex d 151 [zI a1] (F2, G2, zsg)) (fun v3 F3 G3 =>
                some (some (zI 0), F3, (zug G3 6 0 (zland (G2 6 0) (zlxor v3 (BitVec.ofInt 64 (-1))))), zsg))
          else
            if a2 = 1 then
              zbL (zex d 151 [zI a1] (F2, G2, zsg)) (fun v6 F6 G6 =>
                some (some (zI 1), F6, (zug G6 6 0 (zlor (G2 6 0) v6)), zsg))
            else
              zbL (zex d 151 [zI a1] (F2, G2, zsg)) (fun v5 F5 G5 =>
                some (some (zI 1), F5, (zug G5 6 0 (zland (G2 6 0) (zlxor v5 (BitVec.ofInt 64 (-1))))), zsg)))
    else
      if a2 = 1 then
        if a2 = 1 then
          zbI (zex d 46 [zR 5, zI a1] (F1, G1, zsg)) (fun v18 F18 G18 =>
            if v18 = 0 then
              zbI (zex d 152 [zL (G18 6 0), zI a1] (F18, G18, zsg)) (fun v19 F19 G19 =>
                if v19 = 0 then
                  if a2 = 1 then
                    zbL (zex d 151 [zI a1] (F19, G19, zsg)) (fun v21 F21 G21 =>
                      some (some (zI 0), F21, (zug G21 6 0 (zlor (G19 6 0) v21)), zsg))
                  else
                    zbL (zex d 151 [zI a1] (F19, G19, zsg)) (fun v20 F20 G20 =>
                      some (some (zI 0), F20, (zug G20 6 0 (zland (G19 6 0) (zlxor v20 (BitVec.ofInt 64 (-1))))), zsg))
                else
                  if a2 = 1 then
                    zbL (zex d 151 [zI a1] (F19, G19, zsg)) (fun v23 F23 G23 =>
                      some (some (zI 1), F23, (zug G23 6 0 (zlor (G19 6 0) v23)), zsg))
                  else
                    zbL (zex d 151 [zI a1] (F19, G19, zsg)) (fun v22 F22 G22 =>
                      some (some (zI 1), F22, (zug G22 6 0 (zland (G19 6 0) (zlxor v22 (BitVec.ofInt 64 (-1))))), zsg)))
            else
              some (some (zI (-3)), F18, G18, zsg))
        else
          zbI (zex d 152 [zL (G1 6 0), zI a1] (F1, G1, zsg)) (fun v13 F13 G13 =>
            if v13 = 0 then
              if a2 = 1 then
                zbL (zex d 151 [zI a1] (F13, G13, zsg)) (fun v15 F15 G15 =>
                  some (some (zI 0), F15, (zug G15 6 0 (zlor (G13 6 0) v15)), zsg))
              else
                zbL (zex d 151 [zI a1] (F13, G13, zsg)) (fun v14 F14 G14 =>
                  some (some (zI 0), F14, (zug G14 6 0 (zland (G13 6 0) (zlxor v14 (BitVec.ofInt 64 (-1))))), zsg))
            else
              if a2 = 1 then
                zbL (zex d 151 [zI a1] (F13, G13, zsg)) (fun v17 F17 G17 =>
                  some (some (zI 1), F17, (zug G17 6 0 (zlor (G13 6 0) v17)), zsg))
              else
                zbL (zex d 151 [zI a1] (F13, G13, zsg)) (fun v16 F16 G16 =>
                  some (some (zI 1), F16, (zug G16 6 0 (zland (G13 6 0) (zlxor v16 (BitVec.ofInt 64 (-1))))), zsg)))
      else
        some (some (zI (-2)), F1, G1, zsg))) (zex (d + 1) 1 [zR 5, zI a1, zI a2] (F, G, zsg)) := by
  refine zle_ent (ls := [zR 5, zI a1, zI a2, zR 0]) ?_
  refine zle_many 1 (1, 1, [zR 5, zI a1, zI a2, zR 0], [zI a1], F, G, zsg) rfl ?_
  refine zle_I rfl (fun v1 F1 G1 => ?_)
  refine zle_many 1 (1, (bif zcmp .ne v1 0 then 9 else 7), [zR 5, zI a1, zI a2, zR 0], [], F1, G1, zsg) rfl ?_
  refine zle_ne (fun _ => ?_) (fun _ => ?_)
  · refine zle_many 1 (1, 8, [zR 5, zI a1, zI a2, zR 0], [zI (-1)], F1, G1, zsg) rfl ?_
    exact zle_ret rfl
  · refine zle_many 2 (1, (bif zcmp .eq a2 0 then 21 else 13), [zR 5, zI a1, zI a2, zR 0], [], F1, G1, zsg) rfl ?_
    refine zle_eq (fun _ => ?_) (fun _ => ?_)
    · refine zle_many 3 (1, (bif zcmp .ne a2 1 then 37 else 26), [zR 5, zI a1, zI a2, zR 0], [], F1, G1, zsg) rfl ?_
      refine zle_ne (fun _ => ?_) (fun _ => ?_)
      · refine zle_many 2 (1, 28, [zR 5, zI a1, zI a2, zR 0], [zI a1, zR 5], F1, G1, zsg) rfl ?_
        refine zle_I rfl (fun v7 F7 G7 => ?_)
        refine zle_many 1 (1, (bif zcmp .eq v7 0 then 37 else 34), [zR 5, zI a1, zI a2, zR 0], [], F7, G7, zsg) rfl ?_
        refine zle_eq (fun _ => ?_) (fun _ => ?_)
        · refine zle_many 4 (1, 45, [zR 5, zI a1, zI a2, zR 0], [zI a1, zL (G7 6 0)], F7, G7, zsg) rfl ?_
          refine zle_I rfl (fun v8 F8 G8 => ?_)
          refine zle_many 1 (1, (bif zcmp .eq v8 0 then 55 else 51), [zR 5, zI a1, zI a2, zR 0], [], F8, G8, zsg) rfl ?_
          refine zle_eq (fun _ => ?_) (fun _ => ?_)
          · refine zle_many 7 (1, (bif zcmp .ne a2 1 then 81 else 66), [zR 5, zI a1, zI a2, zI 0], [zR 6], F8, G8, zsg) rfl ?_
            refine zle_ne (fun _ => ?_) (fun _ => ?_)
            · refine zle_many 4 (1, 74, [zR 5, zI a1, zI a2, zI 0], [zI a1, zL (G8 6 0), zR 6], F8, G8, zsg) rfl ?_
              refine zle_L rfl (fun v10 F10 G10 => ?_)
              refine zle_many 4 (1, 101, [zR 5, zI a1, zI a2, zI 0], [zI 0], F10, (zug G10 6 0 (zlor (G8 6 0) v10)), zsg) rfl ?_
              exact zle_ret rfl
            · refine zle_many 4 (1, 89, [zR 5, zI a1, zI a2, zI 0], [zI a1, zL (G8 6 0), zR 6], F8, G8, zsg) rfl ?_
              refine zle_L rfl (fun v9 F9 G9 => ?_)
              refine zle_many 5 (1, 101, [zR 5, zI a1, zI a2, zI 0], [zI 0], F9, (zug G9 6 0 (zland (G8 6 0) (zlxor v9 (BitVec.ofInt 64 (-1))))), zsg) rfl ?_
              exact zle_ret rfl
          · refine zle_many 8 (1, (bif zcmp .ne a2 1 then 81 else 66), [zR 5, zI a1, zI a2, zI 1], [zR 6], F8, G8, zsg) rfl ?_
            refine zle_ne (fun _ => ?_) (fun _ => ?_)
            · refine zle_many 4 (1, 74, [zR 5, zI a1, zI a2, zI 1], [zI a1, zL (G8 6 0), zR 6], F8, G8, zsg) rfl ?_
              refine zle_L rfl (fun v12 F12 G12 => ?_)
              refine zle_many 4 (1, 101, [zR 5, zI a1, zI a2, zI 1], [zI 1], F12, (zug G12 6 0 (zlor (G8 6 0) v12)), zsg) rfl ?_
              exact zle_ret rfl
            · refine zle_many 4 (1, 89, [zR 5, zI a1, zI a2, zI 1], [zI a1, zL (G8 6 0), zR 6], F8, G8, zsg) rfl ?_
              refine zle_L rfl (fun v11 F11 G11 => ?_)
              refine zle_many 5 (1, 101, [zR 5, zI a1, zI a2, zI 1], [zI 1], F11, (zug G11 6 0 (zland (G8 6 0) (zlxor v11 (BitVec.ofInt 64 (-1))))), zsg) rfl ?_
              exact zle_ret rfl
        · refine zle_many 1 (1, 36, [zR 5, zI a1, zI a2, zR 0], [zI (-3)], F7, G7, zsg) rfl ?_
          exact zle_ret rfl
      · refine zle_many 4 (1, 45, [zR 5, zI a1, zI a2, zR 0], [zI a1, zL (G1 6 0)], F1, G1, zsg) rfl ?_
        refine zle_I rfl (fun v2 F2 G2 => ?_)
        refine zle_many 1 (1, (bif zcmp .eq v2 0 then 55 else 51), [zR 5, zI a1, zI a2, zR 0], [], F2, G2, zsg) rfl ?_
        refine zle_eq (fun _ => ?_) (fun _ => ?_)
        · refine zle_many 7 (1, (bif zcmp .ne a2 1 then 81 else 66), [zR 5, zI a1, zI a2, zI 0], [zR 6], F2, G2, zsg) rfl ?_
          refine zle_ne (fun _ => ?_) (fun _ => ?_)
          · refine zle_many 4 (1, 74, [zR 5, zI a1, zI a2, zI 0], [zI a1, zL (G2 6 0), zR 6], F2, G2, zsg) rfl ?_
            refine zle_L rfl (fun v4 F4 G4 => ?_)
            refine zle_many 4 (1, 101, [zR 5, zI a1, zI a2, zI 0], [zI 0], F4, (zug G4 6 0 (zlor (G2 6 0) v4)), zsg) rfl ?_
            exact zle_ret rfl
          · refine zle_many 4 (1, 89, [zR 5, zI a1, zI a2, zI 0], [zI a1, zL (G2 6 0), zR 6], F2, G2, zsg) rfl ?_
            refine zle_L rfl (fun v3 F3 G3 => ?_)
            refine zle_many 5 (1, 101, [zR 5, zI a1, zI a2, zI 0], [zI 0], F3, (zug G3 6 0 (zland (G2 6 0) (zlxor v3 (BitVec.ofInt 64 (-1))))), zsg) rfl ?_
            exact zle_ret rfl
        · refine zle_many 8 (1, (bif zcmp .ne a2 1 then 81 else 66), [zR 5, zI a1, zI a2, zI 1], [zR 6], F2, G2, zsg) rfl ?_
          refine zle_ne (fun _ => ?_) (fun _ => ?_)
          · refine zle_many 4 (1, 74, [zR 5, zI a1, zI a2, zI 1], [zI a1, zL (G2 6 0), zR 6], F2, G2, zsg) rfl ?_
            refine zle_L rfl (fun v6 F6 G6 => ?_)
            refine zle_many 4 (1, 101, [zR 5, zI a1, zI a2, zI 1], [zI 1], F6, (zug G6 6 0 (zlor (G2 6 0) v6)), zsg) rfl ?_
            exact zle_ret rfl
          · refine zle_many 4 (1, 89, [zR 5, zI a1, zI a2, zI 1], [zI a1, zL (G2 6 0), zR 6], F2, G2, zsg) rfl ?_
            refine zle_L rfl (fun v5 F5 G5 => ?_)
            refine zle_many 5 (1, 101, [zR 5, zI a1, zI a2, zI 1], [zI 1], F5, (zug G5 6 0 (zland (G2 6 0) (zlxor v5 (BitVec.ofInt 64 (-1))))), zsg) rfl ?_
            exact zle_ret rfl
    · refine zle_many 3 (1, (bif zcmp .eq a2 1 then 21 else 18), [zR 5, zI a1, zI a2, zR 0], [], F1, G1, zsg) rfl ?_
      refine zle_eq (fun _ => ?_) (fun _ => ?_)
      · refine zle_many 3 (1, (bif zcmp .ne a2 1 then 37 else 26), [zR 5, zI a1, zI a2, zR 0], [], F1, G1, zsg) rfl ?_
        refine zle_ne (fun _ => ?_) (fun _ => ?_)
        · refine zle_many 2 (1, 28, [zR 5, zI a1, zI a2, zR 0], [zI a1, zR 5], F1, G1, zsg) rfl ?_
          refine zle_I rfl (fun v18 F18 G18 => ?_)
          refine zle_many 1 (1, (bif zcmp .eq v18 0 then 37 else 34), [zR 5, zI a1, zI a2, zR 0], [], F18, G18, zsg) rfl ?_
          refine zle_eq (fun _ => ?_) (fun _ => ?_)
          · refine zle_many 4 (1, 45, [zR 5, zI a1, zI a2, zR 0], [zI a1, zL (G18 6 0)], F18, G18, zsg) rfl ?_
            refine zle_I rfl (fun v19 F19 G19 => ?_)
            refine zle_many 1 (1, (bif zcmp .eq v19 0 then 55 else 51), [zR 5, zI a1, zI a2, zR 0], [], F19, G19, zsg) rfl ?_
            refine zle_eq (fun _ => ?_) (fun _ => ?_)
            · refine zle_many 7 (1, (bif zcmp .ne a2 1 then 81 else 66), [zR 5, zI a1, zI a2, zI 0], [zR 6], F19, G19, zsg) rfl ?_
              refine zle_ne (fun _ => ?_) (fun _ => ?_)
              · refine zle_many 4 (1, 74, [zR 5, zI a1, zI a2, zI 0], [zI a1, zL (G19 6 0), zR 6], F19, G19, zsg) rfl ?_
                refine zle_L rfl (fun v21 F21 G21 => ?_)
                refine zle_many 4 (1, 101, [zR 5, zI a1, zI a2, zI 0], [zI 0], F21, (zug G21 6 0 (zlor (G19 6 0) v21)), zsg) rfl ?_
                exact zle_ret rfl
              · refine zle_many 4 (1, 89, [zR 5, zI a1, zI a2, zI 0], [zI a1, zL (G19 6 0), zR 6], F19, G19, zsg) rfl ?_
                refine zle_L rfl (fun v20 F20 G20 => ?_)
                refine zle_many 5 (1, 101, [zR 5, zI a1, zI a2, zI 0], [zI 0], F20, (zug G20 6 0 (zland (G19 6 0) (zlxor v20 (BitVec.ofInt 64 (-1))))), zsg) rfl ?_
                exact zle_ret rfl
            · refine zle_many 8 (1, (bif zcmp .ne a2 1 then 81 else 66), [zR 5, zI a1, zI a2, zI 1], [zR 6], F19, G19, zsg) rfl ?_
              refine zle_ne (fun _ => ?_) (fun _ => ?_)
              · refine zle_many 4 (1, 74, [zR 5, zI a1, zI a2, zI 1], [zI a1, zL (G19 6 0), zR 6], F19, G19, zsg) rfl ?_
                refine zle_L rfl (fun v23 F23 G23 => ?_)
                refine zle_many 4 (1, 101, [zR 5, zI a1, zI a2, zI 1], [zI 1], F23, (zug G23 6 0 (zlor (G19 6 0) v23)), zsg) rfl ?_
                exact zle_ret rfl
              · refine zle_many 4 (1, 89, [zR 5, zI a1, zI a2, zI 1], [zI a1, zL (G19 6 0), zR 6], F19, G19, zsg) rfl ?_
                refine zle_L rfl (fun v22 F22 G22 => ?_)
                refine zle_many 5 (1, 101, [zR 5, zI a1, zI a2, zI 1], [zI 1], F22, (zug G22 6 0 (zland (G19 6 0) (zlxor v22 (BitVec.ofInt 64 (-1))))), zsg) rfl ?_
                exact zle_ret rfl
          · refine zle_many 1 (1, 36, [zR 5, zI a1, zI a2, zR 0], [zI (-3)], F18, G18, zsg) rfl ?_
            exact zle_ret rfl
        · refine zle_many 4 (1, 45, [zR 5, zI a1, zI a2, zR 0], [zI a1, zL (G1 6 0)], F1, G1, zsg) rfl ?_
          refine zle_I rfl (fun v13 F13 G13 => ?_)
          refine zle_many 1 (1, (bif zcmp .eq v13 0 then 55 else 51), [zR 5, zI a1, zI a2, zR 0], [], F13, G13, zsg) rfl ?_
          refine zle_eq (fun _ => ?_) (fun _ => ?_)
          · refine zle_many 7 (1, (bif zcmp .ne a2 1 then 81 else 66), [zR 5, zI a1, zI a2, zI 0], [zR 6], F13, G13, zsg) rfl ?_
            refine zle_ne (fun _ => ?_) (fun _ => ?_)
            · refine zle_many 4 (1, 74, [zR 5, zI a1, zI a2, zI 0], [zI a1, zL (G13 6 0), zR 6], F13, G13, zsg) rfl ?_
              refine zle_L rfl (fun v15 F15 G15 => ?_)
              refine zle_many 4 (1, 101, [zR 5, zI a1, zI a2, zI 0], [zI 0], F15, (zug G15 6 0 (zlor (G13 6 0) v15)), zsg) rfl ?_
              exact zle_ret rfl
            · refine zle_many 4 (1, 89, [zR 5, zI a1, zI a2, zI 0], [zI a1, zL (G13 6 0), zR 6], F13, G13, zsg) rfl ?_
              refine zle_L rfl (fun v14 F14 G14 => ?_)
              refine zle_many 5 (1, 101, [zR 5, zI a1, zI a2, zI 0], [zI 0], F14, (zug G14 6 0 (zland (G13 6 0) (zlxor v14 (BitVec.ofInt 64 (-1))))), zsg) rfl ?_
              exact zle_ret rfl
          · refine zle_many 8 (1, (bif zcmp .ne a2 1 then 81 else 66), [zR 5, zI a1, zI a2, zI 1], [zR 6], F13, G13, zsg) rfl ?_
            refine zle_ne (fun _ => ?_) (fun _ => ?_)
            · refine zle_many 4 (1, 74, [zR 5, zI a1, zI a2, zI 1], [zI a1, zL (G13 6 0), zR 6], F13, G13, zsg) rfl ?_
              refine zle_L rfl (fun v17 F17 G17 => ?_)
              refine zle_many 4 (1, 101, [zR 5, zI a1, zI a2, zI 1], [zI 1], F17, (zug G17 6 0 (zlor (G13 6 0) v17)), zsg) rfl ?_
              exact zle_ret rfl
            · refine zle_many 4 (1, 89, [zR 5, zI a1, zI a2, zI 1], [zI a1, zL (G13 6 0), zR 6], F13, G13, zsg) rfl ?_
              refine zle_L rfl (fun v16 F16 G16 => ?_)
              refine zle_many 5 (1, 101, [zR 5, zI a1, zI a2, zI 1], [zI 1], F16, (zug G16 6 0 (zland (G13 6 0) (zlxor v16 (BitVec.ofInt 64 (-1))))), zsg) rfl ?_
              exact zle_ret rfl
      · refine zle_many 1 (1, 20, [zR 5, zI a1, zI a2, zR 0], [zI (-2)], F1, G1, zsg) rfl ?_
        exact zle_ret rfl
set_option maxRecDepth 20000 in
theorem g_C_door {d : Nat} {F : zM} {G : zG} (a1 : Int) (a2 : Int) : zle (
  zbI (zex d 149 [zI a1] (F, G, zsg)) (fun v1 F1 G1 =>
  if v1 = 0 then
    some (some (zI (-1)), F1, G1, zsg)
  else
    if a2 = (-1) then
      if a2 = (-1) then
        zbI (zex d 152 [zL (G1 6 0), zI a1] (F1, G1, zsg)) (fun v2 F2 G2 =>
          if v2 = 0 then
            zbI (zex d 46 [zR 5, zI a1] (F2, G2, zsg)) (fun v3 F3 G3 =>
              if v3 = 0 then
                if (F3 6 5) < 4 then
                  if 0 ≤ (F3 6 5) ∧ (F3 6 5) < 4 then
                    if 0 ≤ (F3 6 5) ∧ (F3 6 5) < 4 then
                      some (some (zI (F3 6 5)), (zup (zup (zup F3 9 (Int.toNat (F3 6 5)) a1) 10 (Int.toNat (F3 6 5)) a2) 6 5 (zadd (F3 6 5) 1)), G3, zsg)
                    else none
                  else none
                else
                  some (some (zI (-4)), F3, G3, zsg)
              else
                some (some (zI (-3)), F3, G3, zsg))
          else
            some (some (zI (-3)), F2, G2, zsg))
      else
        if 0 ≤ a2 ∧ a2 < 8 then
          zbI (zex d 175 [zI (F1 7 (Int.toNat a2))] (F1, G1, zsg)) (fun v4 F4 G4 =>
            if v4 = 0 then
              some (some (zI (-13)), F4, G4, zsg)
            else
              zbI (zex d 152 [zL (G4 6 0), zI a1] (F4, G4, zsg)) (fun v5 F5 G5 =>
                if v5 = 0 then
                  zbI (zex d 46 [zR 5, zI a1] (F5, G5, zsg)) (fun v6 F6 G6 =>
                    if v6 = 0 then
                      if (F6 6 5) < 4 then
                        if 0 ≤ (F6 6 5) ∧ (F6 6 5) < 4 then
                        if 0 ≤ (F6 6 5) ∧ (F6 6 5) < 4 then
                        some (some (zI (F6 6 5)), (zup (zup (zup F6 9 (Int.toNat (F6 6 5)) a1) 10 (Int.toNat (F6 6 5)) a2) 6 5 (zadd (F6 6 5) 1)), G6, zsg)
                      else none
                      else none
                      else
                        some (some (zI (-4)), F6, G6, zsg)
                    else
                      some (some (zI (-3)), F6, G6, zsg))
                else
                  some (some (zI (-3)), F5, G5, zsg)))
        else none
    else
      zbI (zex d 43 [zR 5, zI a2] (F1, G1, zsg)) (fun v7 F7 G7 =>
        if v7 = 0 then
          some (some (zI (-1)), F7, G7, zsg)
        else
          if a2 = (-1) then
            zbI (zex d 152 [zL (G7 6 0), zI a1] (F7, G7, zsg)) (fun v8 F8 G8 =>
              if v8 = 0 then
                zbI (zex d 46 [zR 5, zI a1] (F8, G8, zsg)) (fun v9 F9 G9 =>
                  if v9 = 0 then
                    if (F9 6 5) < 4 then
                      if 0 ≤ (F9 6 5) ∧ (F9 6 5) < 4 then
                        if 0 ≤ (F9 6 5) ∧ (F9 6 5) < 4 then
                        some (some (zI (F9 6 5)), (zup (zup (zup F9 9 (Int.toNat (F9 6 5)) a1) 10 (Int.toNat (F9 6 5)) a2) 6 5 (zadd (F9 6 5) 1)), G9, zsg)
                      else none
                      else none
                    else
                      some (some (zI (-4)), F9, G9, zsg)
                  else
                    some (some (zI (-3)), F9, G9, zsg))
              else
                some (some (zI (-3)), F8, G8, zsg))
          else
            if 0 ≤ a2 ∧ a2 < 8 then
              zbI (zex d 175 [zI (F7 7 (Int.toNat a2))] (F7, G7, zsg)) (fun v10 F10 G10 =>
                if v10 = 0 then
                  some (some (zI (-13)), F10, G10, zsg)
                else
                  zbI (zex d 152 [zL (G10 6 0), zI a1] (F10, G10, zsg)) (fun v11 F11 G11 =>
                    if v11 = 0 then
                      zbI (zex d 46 [zR 5, zI a1] (F11, G11, zsg)) (fun v12 F12 G12 =>
                        if v12 = 0 then
                        if (F12 6 5) < 4 then
                        if 0 ≤ (F12 6 5) ∧ (F12 6 5) < 4 then
                        if 0 ≤ (F12 6 5) ∧ (F12 6 5) < 4 then
                        some (some (zI (F12 6 5)), (zup (zup (zup F12 9 (Int.toNat (F12 6 5)) a1) 10 (Int.toNat (F12 6 5)) a2) 6 5 (zadd (F12 6 5) 1)), G12, zsg)
                      else none
                      else none
                      else
                        some (some (zI (-4)), F12, G12, zsg)
                      else
                        some (some (zI (-3)), F12, G12, zsg))
                    else
                      some (some (zI (-3)), F11, G11, zsg)))
            else none))) (zex (d + 1) 2 [zR 5, zI a1, zI a2] (F, G, zsg)) := by
  refine zle_ent (ls := [zR 5, zI a1, zI a2]) ?_
  refine zle_many 1 (2, 1, [zR 5, zI a1, zI a2], [zI a1], F, G, zsg) rfl ?_
  refine zle_I rfl (fun v1 F1 G1 => ?_)
  refine zle_many 1 (2, (bif zcmp .ne v1 0 then 9 else 7), [zR 5, zI a1, zI a2], [], F1, G1, zsg) rfl ?_
  refine zle_ne (fun _ => ?_) (fun _ => ?_)
  · refine zle_many 1 (2, 8, [zR 5, zI a1, zI a2], [zI (-1)], F1, G1, zsg) rfl ?_
    exact zle_ret rfl
  · refine zle_many 3 (2, (bif zcmp .eq a2 (-1) then 24 else 14), [zR 5, zI a1, zI a2], [], F1, G1, zsg) rfl ?_
    refine zle_eq (fun _ => ?_) (fun _ => ?_)
    · refine zle_many 3 (2, (bif zcmp .eq a2 (-1) then 47 else 29), [zR 5, zI a1, zI a2], [], F1, G1, zsg) rfl ?_
      refine zle_eq (fun _ => ?_) (fun _ => ?_)
      · refine zle_many 4 (2, 55, [zR 5, zI a1, zI a2], [zI a1, zL (G1 6 0)], F1, G1, zsg) rfl ?_
        refine zle_I rfl (fun v2 F2 G2 => ?_)
        refine zle_many 1 (2, (bif zcmp .ne v2 0 then 69 else 61), [zR 5, zI a1, zI a2], [], F2, G2, zsg) rfl ?_
        refine zle_ne (fun _ => ?_) (fun _ => ?_)
        · refine zle_many 2 (2, 63, [zR 5, zI a1, zI a2], [zI a1, zR 5], F2, G2, zsg) rfl ?_
          refine zle_I rfl (fun v3 F3 G3 => ?_)
          refine zle_many 1 (2, (bif zcmp .eq v3 0 then 72 else 69), [zR 5, zI a1, zI a2], [], F3, G3, zsg) rfl ?_
          refine zle_eq (fun _ => ?_) (fun _ => ?_)
          · refine zle_many 5 (2, (bif zcmp .lt (F3 6 5) 4 then 86 else 83), [zR 5, zI a1, zI a2], [], F3, G3, zsg) rfl ?_
            refine zle_lt (fun _ => ?_) (fun _ => ?_)
            · refine zle_many 7 (2, 101, [zR 5, zI a1, zI a2], [zI a1, zI (F3 6 5), zR 9], F3, G3, zsg) rfl ?_
              refine zle_ast rfl rfl rfl (fun _ => ?_)
              refine zle_many 7 (2, 117, [zR 5, zI a1, zI a2], [zI a2, zI (F3 6 5), zR 10], (zup F3 9 (Int.toNat (F3 6 5)) a1), G3, zsg) rfl ?_
              refine zle_ast rfl rfl rfl (fun _ => ?_)
              refine zle_many 8 (2, 132, [zR 5, zI a1, zI a2], [zI (F3 6 5)], (zup (zup (zup F3 9 (Int.toNat (F3 6 5)) a1) 10 (Int.toNat (F3 6 5)) a2) 6 5 (zadd (F3 6 5) 1)), G3, zsg) rfl ?_
              exact zle_ret rfl
            · refine zle_many 1 (2, 85, [zR 5, zI a1, zI a2], [zI (-4)], F3, G3, zsg) rfl ?_
              exact zle_ret rfl
          · refine zle_many 1 (2, 71, [zR 5, zI a1, zI a2], [zI (-3)], F3, G3, zsg) rfl ?_
            exact zle_ret rfl
        · refine zle_many 1 (2, 71, [zR 5, zI a1, zI a2], [zI (-3)], F2, G2, zsg) rfl ?_
          exact zle_ret rfl
      · refine zle_many 4 (2, 37, [zR 5, zI a1, zI a2], [zI a2, zR 7], F1, G1, zsg) rfl ?_
        refine zle_ald rfl rfl rfl (fun _ => ?_)
        refine zle_I rfl (fun v4 F4 G4 => ?_)
        refine zle_many 1 (2, (bif zcmp .ne v4 0 then 47 else 44), [zR 5, zI a1, zI a2], [], F4, G4, zsg) rfl ?_
        refine zle_ne (fun _ => ?_) (fun _ => ?_)
        · refine zle_many 1 (2, 46, [zR 5, zI a1, zI a2], [zI (-13)], F4, G4, zsg) rfl ?_
          exact zle_ret rfl
        · refine zle_many 4 (2, 55, [zR 5, zI a1, zI a2], [zI a1, zL (G4 6 0)], F4, G4, zsg) rfl ?_
          refine zle_I rfl (fun v5 F5 G5 => ?_)
          refine zle_many 1 (2, (bif zcmp .ne v5 0 then 69 else 61), [zR 5, zI a1, zI a2], [], F5, G5, zsg) rfl ?_
          refine zle_ne (fun _ => ?_) (fun _ => ?_)
          · refine zle_many 2 (2, 63, [zR 5, zI a1, zI a2], [zI a1, zR 5], F5, G5, zsg) rfl ?_
            refine zle_I rfl (fun v6 F6 G6 => ?_)
            refine zle_many 1 (2, (bif zcmp .eq v6 0 then 72 else 69), [zR 5, zI a1, zI a2], [], F6, G6, zsg) rfl ?_
            refine zle_eq (fun _ => ?_) (fun _ => ?_)
            · refine zle_many 5 (2, (bif zcmp .lt (F6 6 5) 4 then 86 else 83), [zR 5, zI a1, zI a2], [], F6, G6, zsg) rfl ?_
              refine zle_lt (fun _ => ?_) (fun _ => ?_)
              · refine zle_many 7 (2, 101, [zR 5, zI a1, zI a2], [zI a1, zI (F6 6 5), zR 9], F6, G6, zsg) rfl ?_
                refine zle_ast rfl rfl rfl (fun _ => ?_)
                refine zle_many 7 (2, 117, [zR 5, zI a1, zI a2], [zI a2, zI (F6 6 5), zR 10], (zup F6 9 (Int.toNat (F6 6 5)) a1), G6, zsg) rfl ?_
                refine zle_ast rfl rfl rfl (fun _ => ?_)
                refine zle_many 8 (2, 132, [zR 5, zI a1, zI a2], [zI (F6 6 5)], (zup (zup (zup F6 9 (Int.toNat (F6 6 5)) a1) 10 (Int.toNat (F6 6 5)) a2) 6 5 (zadd (F6 6 5) 1)), G6, zsg) rfl ?_
                exact zle_ret rfl
              · refine zle_many 1 (2, 85, [zR 5, zI a1, zI a2], [zI (-4)], F6, G6, zsg) rfl ?_
                exact zle_ret rfl
            · refine zle_many 1 (2, 71, [zR 5, zI a1, zI a2], [zI (-3)], F6, G6, zsg) rfl ?_
              exact zle_ret rfl
          · refine zle_many 1 (2, 71, [zR 5, zI a1, zI a2], [zI (-3)], F5, G5, zsg) rfl ?_
            exact zle_ret rfl
    · refine zle_many 2 (2, 16, [zR 5, zI a1, zI a2], [zI a2, zR 5], F1, G1, zsg) rfl ?_
      refine zle_I rfl (fun v7 F7 G7 => ?_)
      refine zle_many 1 (2, (bif zcmp .ne v7 0 then 24 else 22), [zR 5, zI a1, zI a2], [], F7, G7, zsg) rfl ?_
      refine zle_ne (fun _ => ?_) (fun _ => ?_)
      · refine zle_many 1 (2, 23, [zR 5, zI a1, zI a2], [zI (-1)], F7, G7, zsg) rfl ?_
        exact zle_ret rfl
      · refine zle_many 3 (2, (bif zcmp .eq a2 (-1) then 47 else 29), [zR 5, zI a1, zI a2], [], F7, G7, zsg) rfl ?_
        refine zle_eq (fun _ => ?_) (fun _ => ?_)
        · refine zle_many 4 (2, 55, [zR 5, zI a1, zI a2], [zI a1, zL (G7 6 0)], F7, G7, zsg) rfl ?_
          refine zle_I rfl (fun v8 F8 G8 => ?_)
          refine zle_many 1 (2, (bif zcmp .ne v8 0 then 69 else 61), [zR 5, zI a1, zI a2], [], F8, G8, zsg) rfl ?_
          refine zle_ne (fun _ => ?_) (fun _ => ?_)
          · refine zle_many 2 (2, 63, [zR 5, zI a1, zI a2], [zI a1, zR 5], F8, G8, zsg) rfl ?_
            refine zle_I rfl (fun v9 F9 G9 => ?_)
            refine zle_many 1 (2, (bif zcmp .eq v9 0 then 72 else 69), [zR 5, zI a1, zI a2], [], F9, G9, zsg) rfl ?_
            refine zle_eq (fun _ => ?_) (fun _ => ?_)
            · refine zle_many 5 (2, (bif zcmp .lt (F9 6 5) 4 then 86 else 83), [zR 5, zI a1, zI a2], [], F9, G9, zsg) rfl ?_
              refine zle_lt (fun _ => ?_) (fun _ => ?_)
              · refine zle_many 7 (2, 101, [zR 5, zI a1, zI a2], [zI a1, zI (F9 6 5), zR 9], F9, G9, zsg) rfl ?_
                refine zle_ast rfl rfl rfl (fun _ => ?_)
                refine zle_many 7 (2, 117, [zR 5, zI a1, zI a2], [zI a2, zI (F9 6 5), zR 10], (zup F9 9 (Int.toNat (F9 6 5)) a1), G9, zsg) rfl ?_
                refine zle_ast rfl rfl rfl (fun _ => ?_)
                refine zle_many 8 (2, 132, [zR 5, zI a1, zI a2], [zI (F9 6 5)], (zup (zup (zup F9 9 (Int.toNat (F9 6 5)) a1) 10 (Int.toNat (F9 6 5)) a2) 6 5 (zadd (F9 6 5) 1)), G9, zsg) rfl ?_
                exact zle_ret rfl
              · refine zle_many 1 (2, 85, [zR 5, zI a1, zI a2], [zI (-4)], F9, G9, zsg) rfl ?_
                exact zle_ret rfl
            · refine zle_many 1 (2, 71, [zR 5, zI a1, zI a2], [zI (-3)], F9, G9, zsg) rfl ?_
              exact zle_ret rfl
          · refine zle_many 1 (2, 71, [zR 5, zI a1, zI a2], [zI (-3)], F8, G8, zsg) rfl ?_
            exact zle_ret rfl
        · refine zle_many 4 (2, 37, [zR 5, zI a1, zI a2], [zI a2, zR 7], F7, G7, zsg) rfl ?_
          refine zle_ald rfl rfl rfl (fun _ => ?_)
          refine zle_I rfl (fun v10 F10 G10 => ?_)
          refine zle_many 1 (2, (bif zcmp .ne v10 0 then 47 else 44), [zR 5, zI a1, zI a2], [], F10, G10, zsg) rfl ?_
          refine zle_ne (fun _ => ?_) (fun _ => ?_)
          · refine zle_many 1 (2, 46, [zR 5, zI a1, zI a2], [zI (-13)], F10, G10, zsg) rfl ?_
            exact zle_ret rfl
          · refine zle_many 4 (2, 55, [zR 5, zI a1, zI a2], [zI a1, zL (G10 6 0)], F10, G10, zsg) rfl ?_
            refine zle_I rfl (fun v11 F11 G11 => ?_)
            refine zle_many 1 (2, (bif zcmp .ne v11 0 then 69 else 61), [zR 5, zI a1, zI a2], [], F11, G11, zsg) rfl ?_
            refine zle_ne (fun _ => ?_) (fun _ => ?_)
            · refine zle_many 2 (2, 63, [zR 5, zI a1, zI a2], [zI a1, zR 5], F11, G11, zsg) rfl ?_
              refine zle_I rfl (fun v12 F12 G12 => ?_)
              refine zle_many 1 (2, (bif zcmp .eq v12 0 then 72 else 69), [zR 5, zI a1, zI a2], [], F12, G12, zsg) rfl ?_
              refine zle_eq (fun _ => ?_) (fun _ => ?_)
              · refine zle_many 5 (2, (bif zcmp .lt (F12 6 5) 4 then 86 else 83), [zR 5, zI a1, zI a2], [], F12, G12, zsg) rfl ?_
                refine zle_lt (fun _ => ?_) (fun _ => ?_)
                · refine zle_many 7 (2, 101, [zR 5, zI a1, zI a2], [zI a1, zI (F12 6 5), zR 9], F12, G12, zsg) rfl ?_
                  refine zle_ast rfl rfl rfl (fun _ => ?_)
                  refine zle_many 7 (2, 117, [zR 5, zI a1, zI a2], [zI a2, zI (F12 6 5), zR 10], (zup F12 9 (Int.toNat (F12 6 5)) a1), G12, zsg) rfl ?_
                  refine zle_ast rfl rfl rfl (fun _ => ?_)
                  refine zle_many 8 (2, 132, [zR 5, zI a1, zI a2], [zI (F12 6 5)], (zup (zup (zup F12 9 (Int.toNat (F12 6 5)) a1) 10 (Int.toNat (F12 6 5)) a2) 6 5 (zadd (F12 6 5) 1)), G12, zsg) rfl ?_
                  exact zle_ret rfl
                · refine zle_many 1 (2, 85, [zR 5, zI a1, zI a2], [zI (-4)], F12, G12, zsg) rfl ?_
                  exact zle_ret rfl
              · refine zle_many 1 (2, 71, [zR 5, zI a1, zI a2], [zI (-3)], F12, G12, zsg) rfl ?_
                exact zle_ret rfl
            · refine zle_many 1 (2, 71, [zR 5, zI a1, zI a2], [zI (-3)], F11, G11, zsg) rfl ?_
              exact zle_ret rfl
set_option maxRecDepth 20000 in
theorem g_C_thing {d : Nat} {F : zM} {G : zG} (a1 : Int) (a2 : Int) (a3 : Int) : zle (
  zbI (zex d 149 [zI a3] (F, G, zsg)) (fun v1 F1 G1 =>
  if v1 = 0 then
    some (some (zI (-1)), F1, G1, zsg)
  else
    zbI (zex d 170 [zI a1] (F1, G1, zsg)) (fun v2 F2 G2 =>
      if v2 = 0 then
        some (some (zI (-2)), F2, G2, zsg)
      else
        zbI (zex d 171 [zI a2] (F2, G2, zsg)) (fun v3 F3 G3 =>
          if v3 = 0 then
            some (some (zI (-2)), F3, G3, zsg)
          else
            zbI (zex d 231 [zR 44, zR 11, zI (-1), zI a2, zI a3] (F3, G3, zsg)) (fun v4 F4 G4 =>
              if v4 = 0 then
                some (some (zI (-3)), F4, G4, zsg)
              else
                if (F4 6 2) < 8 then
                  if 0 ≤ (F4 6 2) ∧ (F4 6 2) < 8 then
                    if 0 ≤ (F4 6 2) ∧ (F4 6 2) < 8 then
                      if 0 ≤ (F4 6 2) ∧ (F4 6 2) < 8 then
                        some (some (zI (F4 6 2)), (zup (zup (zup (zup F4 6 2 (zadd (F4 6 2) 1)) 7 (Int.toNat (F4 6 2)) a1) 8 (Int.toNat (F4 6 2)) a2) 12 (Int.toNat (F4 6 2)) a3), G4, zsg)
                      else none
                    else none
                  else none
                else
                  some (some (zI (-4)), F4, G4, zsg)))))) (zex (d + 1) 3 [zR 5, zI a1, zI a2, zI a3] (F, G, zsg)) := by
  refine zle_ent (ls := [zR 5, zI a1, zI a2, zI a3, zR 0]) ?_
  refine zle_many 1 (3, 1, [zR 5, zI a1, zI a2, zI a3, zR 0], [zI a3], F, G, zsg) rfl ?_
  refine zle_I rfl (fun v1 F1 G1 => ?_)
  refine zle_many 1 (3, (bif zcmp .ne v1 0 then 9 else 7), [zR 5, zI a1, zI a2, zI a3, zR 0], [], F1, G1, zsg) rfl ?_
  refine zle_ne (fun _ => ?_) (fun _ => ?_)
  · refine zle_many 1 (3, 8, [zR 5, zI a1, zI a2, zI a3, zR 0], [zI (-1)], F1, G1, zsg) rfl ?_
    exact zle_ret rfl
  · refine zle_many 1 (3, 10, [zR 5, zI a1, zI a2, zI a3, zR 0], [zI a1], F1, G1, zsg) rfl ?_
    refine zle_I rfl (fun v2 F2 G2 => ?_)
    refine zle_many 1 (3, (bif zcmp .eq v2 0 then 23 else 16), [zR 5, zI a1, zI a2, zI a3, zR 0], [], F2, G2, zsg) rfl ?_
    refine zle_eq (fun _ => ?_) (fun _ => ?_)
    · refine zle_many 1 (3, 25, [zR 5, zI a1, zI a2, zI a3, zR 0], [zI (-2)], F2, G2, zsg) rfl ?_
      exact zle_ret rfl
    · refine zle_many 1 (3, 17, [zR 5, zI a1, zI a2, zI a3, zR 0], [zI a2], F2, G2, zsg) rfl ?_
      refine zle_I rfl (fun v3 F3 G3 => ?_)
      refine zle_many 1 (3, (bif zcmp .ne v3 0 then 26 else 23), [zR 5, zI a1, zI a2, zI a3, zR 0], [], F3, G3, zsg) rfl ?_
      refine zle_ne (fun _ => ?_) (fun _ => ?_)
      · refine zle_many 1 (3, 25, [zR 5, zI a1, zI a2, zI a3, zR 0], [zI (-2)], F3, G3, zsg) rfl ?_
        exact zle_ret rfl
      · refine zle_many 7 (3, 37, [zR 5, zI a1, zI a2, zI a3, zR 0], [zI a3, zI a2, zI (-1), zR 11, zR 44], F3, G3, zsg) rfl ?_
        refine zle_I rfl (fun v4 F4 G4 => ?_)
        refine zle_many 1 (3, (bif zcmp .ne v4 0 then 46 else 43), [zR 5, zI a1, zI a2, zI a3, zR 0], [], F4, G4, zsg) rfl ?_
        refine zle_ne (fun _ => ?_) (fun _ => ?_)
        · refine zle_many 1 (3, 45, [zR 5, zI a1, zI a2, zI a3, zR 0], [zI (-3)], F4, G4, zsg) rfl ?_
          exact zle_ret rfl
        · refine zle_many 5 (3, (bif zcmp .lt (F4 6 2) 8 then 61 else 58), [zR 5, zI a1, zI a2, zI a3, zR 0], [], F4, G4, zsg) rfl ?_
          refine zle_lt (fun _ => ?_) (fun _ => ?_)
          · refine zle_many 14 (3, 87, [zR 5, zI a1, zI a2, zI a3, zI (F4 6 2)], [zI a1, zI (F4 6 2), zR 7], (zup F4 6 2 (zadd (F4 6 2) 1)), G4, zsg) rfl ?_
            refine zle_ast rfl rfl rfl (fun _ => ?_)
            refine zle_many 5 (3, 98, [zR 5, zI a1, zI a2, zI a3, zI (F4 6 2)], [zI a2, zI (F4 6 2), zR 8], (zup (zup F4 6 2 (zadd (F4 6 2) 1)) 7 (Int.toNat (F4 6 2)) a1), G4, zsg) rfl ?_
            refine zle_ast rfl rfl rfl (fun _ => ?_)
            refine zle_many 5 (3, 109, [zR 5, zI a1, zI a2, zI a3, zI (F4 6 2)], [zI a3, zI (F4 6 2), zR 12], (zup (zup (zup F4 6 2 (zadd (F4 6 2) 1)) 7 (Int.toNat (F4 6 2)) a1) 8 (Int.toNat (F4 6 2)) a2), G4, zsg) rfl ?_
            refine zle_ast rfl rfl rfl (fun _ => ?_)
            refine zle_many 1 (3, 112, [zR 5, zI a1, zI a2, zI a3, zI (F4 6 2)], [zI (F4 6 2)], (zup (zup (zup (zup F4 6 2 (zadd (F4 6 2) 1)) 7 (Int.toNat (F4 6 2)) a1) 8 (Int.toNat (F4 6 2)) a2) 12 (Int.toNat (F4 6 2)) a3), G4, zsg) rfl ?_
            exact zle_ret rfl
          · refine zle_many 1 (3, 60, [zR 5, zI a1, zI a2, zI a3, zR 0], [zI (-4)], F4, G4, zsg) rfl ?_
            exact zle_ret rfl
set_option maxRecDepth 20000 in
theorem g_C_hand {d : Nat} {F : zM} {G : zG} (a1 : Int) (a2 : Int) : zle (
  zbI (zex d 41 [zI a1] (F, G, zsg)) (fun v1 F1 G1 =>
  if v1 = 0 then
    some (some (zI (-5)), F1, G1, zsg)
  else
    zbI (zex d 149 [zI a2] (F1, G1, zsg)) (fun v2 F2 G2 =>
      if v2 = 0 then
        some (some (zI (-5)), F2, G2, zsg)
      else
        if 0 ≤ a1 ∧ a1 < 2 then
          if (F2 16 (Int.toNat a1)) < 0 then
            zbL (zex d 230 [zR 44, zR 11, zI a1, zI 0] (F2, G2, zsg)) (fun v3 F3 G3 =>
              zbI (zex d 152 [zL v3, zI a2] (F3, G3, zsg)) (fun v4 F4 G4 =>
                if v4 = 0 then
                  if 0 ≤ a1 ∧ a1 < 2 then
                    if 0 ≤ a1 ∧ a1 < 2 then
                      some (some (zI (F4 15 (Int.toNat a1))), (zup F4 15 (Int.toNat a1) a2), G4, zsg)
                    else none
                  else none
                else
                  some (some (zI (-3)), F4, G4, zsg)))
          else
            some (some (zI (-3)), F2, G2, zsg)
        else none))) (zex (d + 1) 4 [zR 5, zI a1, zI a2] (F, G, zsg)) := by
  refine zle_ent (ls := [zR 5, zI a1, zI a2, zR 0]) ?_
  refine zle_many 1 (4, 1, [zR 5, zI a1, zI a2, zR 0], [zI a1], F, G, zsg) rfl ?_
  refine zle_I rfl (fun v1 F1 G1 => ?_)
  refine zle_many 1 (4, (bif zcmp .eq v1 0 then 14 else 7), [zR 5, zI a1, zI a2, zR 0], [], F1, G1, zsg) rfl ?_
  refine zle_eq (fun _ => ?_) (fun _ => ?_)
  · refine zle_many 1 (4, 16, [zR 5, zI a1, zI a2, zR 0], [zI (-5)], F1, G1, zsg) rfl ?_
    exact zle_ret rfl
  · refine zle_many 1 (4, 8, [zR 5, zI a1, zI a2, zR 0], [zI a2], F1, G1, zsg) rfl ?_
    refine zle_I rfl (fun v2 F2 G2 => ?_)
    refine zle_many 1 (4, (bif zcmp .ne v2 0 then 17 else 14), [zR 5, zI a1, zI a2, zR 0], [], F2, G2, zsg) rfl ?_
    refine zle_ne (fun _ => ?_) (fun _ => ?_)
    · refine zle_many 1 (4, 16, [zR 5, zI a1, zI a2, zR 0], [zI (-5)], F2, G2, zsg) rfl ?_
      exact zle_ret rfl
    · refine zle_many 4 (4, 25, [zR 5, zI a1, zI a2, zR 0], [zI a1, zR 16], F2, G2, zsg) rfl ?_
      refine zle_ald rfl rfl rfl (fun _ => ?_)
      refine zle_many 1 (4, (bif zcmp .lt (F2 16 (Int.toNat a1)) 0 then 32 else 29), [zR 5, zI a1, zI a2, zR 0], [], F2, G2, zsg) rfl ?_
      refine zle_lt (fun _ => ?_) (fun _ => ?_)
      · refine zle_many 6 (4, 42, [zR 5, zI a1, zI a2, zR 0], [zI 0, zI a1, zR 11, zR 44], F2, G2, zsg) rfl ?_
        refine zle_L rfl (fun v3 F3 G3 => ?_)
        refine zle_many 1 (4, 46, [zR 5, zI a1, zI a2, zR 0], [zI a2, zL v3], F3, G3, zsg) rfl ?_
        refine zle_I rfl (fun v4 F4 G4 => ?_)
        refine zle_many 1 (4, (bif zcmp .eq v4 0 then 55 else 52), [zR 5, zI a1, zI a2, zR 0], [], F4, G4, zsg) rfl ?_
        refine zle_eq (fun _ => ?_) (fun _ => ?_)
        · refine zle_many 4 (4, 63, [zR 5, zI a1, zI a2, zR 0], [zI a1, zR 15], F4, G4, zsg) rfl ?_
          refine zle_ald rfl rfl rfl (fun _ => ?_)
          refine zle_many 6 (4, 74, [zR 5, zI a1, zI a2, zI (F4 15 (Int.toNat a1))], [zI a2, zI a1, zR 15], F4, G4, zsg) rfl ?_
          refine zle_ast rfl rfl rfl (fun _ => ?_)
          refine zle_many 1 (4, 76, [zR 5, zI a1, zI a2, zI (F4 15 (Int.toNat a1))], [zI (F4 15 (Int.toNat a1))], (zup F4 15 (Int.toNat a1) a2), G4, zsg) rfl ?_
          exact zle_ret rfl
        · refine zle_many 1 (4, 54, [zR 5, zI a1, zI a2, zR 0], [zI (-3)], F4, G4, zsg) rfl ?_
          exact zle_ret rfl
      · refine zle_many 1 (4, 31, [zR 5, zI a1, zI a2, zR 0], [zI (-3)], F2, G2, zsg) rfl ?_
        exact zle_ret rfl
set_option maxRecDepth 20000 in
theorem g_C_strong {d : Nat} {F : zM} {G : zG} (a1 : Int) : zle (
  if a1 < 1 then
  some (some (zI (-2)), F, G, zsg)
else
  if 99 < a1 then
    some (some (zI (-2)), F, G, zsg)
  else
    some (some (zI (F 6 1)), (zup F 6 1 a1), G, zsg)) (zex (d + 1) 5 [zR 5, zI a1] (F, G, zsg)) := by
  refine zle_ent (ls := [zR 5, zI a1, zR 0]) ?_
  refine zle_many 3 (5, (bif zcmp .lt a1 1 then 11 else 5), [zR 5, zI a1, zR 0], [], F, G, zsg) rfl ?_
  refine zle_lt (fun _ => ?_) (fun _ => ?_)
  · refine zle_many 1 (5, 13, [zR 5, zI a1, zR 0], [zI (-2)], F, G, zsg) rfl ?_
    exact zle_ret rfl
  · refine zle_many 3 (5, (bif zcmp .le a1 99 then 14 else 11), [zR 5, zI a1, zR 0], [], F, G, zsg) rfl ?_
    refine zle_le (fun _ => ?_) (fun _ => ?_)
    · refine zle_many 1 (5, 13, [zR 5, zI a1, zR 0], [zI (-2)], F, G, zsg) rfl ?_
      exact zle_ret rfl
    · refine zle_many 9 (5, 31, [zR 5, zI a1, zI (F 6 1)], [zI (F 6 1)], (zup F 6 1 a1), G, zsg) rfl ?_
      exact zle_ret rfl
set_option maxRecDepth 20000 in
theorem g_C_go {d : Nat} {F : zM} {G : zG} (a1 : Int) (a2 : Int) : zle (
  zbI (zex d 42 [zR 5, zI a1] (F, G, zsg)) (fun v1 F1 G1 =>
  if v1 = 0 then
    some (some (zI (-5)), F1, G1, zsg)
  else
    zbI (zex d 149 [zI a2] (F1, G1, zsg)) (fun v2 F2 G2 =>
      if v2 = 0 then
        some (some (zI (-5)), F2, G2, zsg)
      else
        if 0 ≤ a1 ∧ a1 < 2 then
          zbI (zex d 138 [zR 52, zR 11, zI a1, zI 0, zI a2, zI 0] (F2, G2, zsg)) (fun v3 F3 G3 =>
            if v3 = 0 then
              if 0 ≤ a1 ∧ a1 < 2 then
                some (some (zI (zsub (F3 17 (Int.toNat a1)) (F2 17 (Int.toNat a1)))), F3, G3, zsg)
              else none
            else
              some (some (zI (zsub (-10) v3)), F3, G3, zsg))
        else none))) (zex (d + 1) 6 [zR 5, zI a1, zI a2] (F, G, zsg)) := by
  refine zle_ent (ls := [zR 5, zI a1, zI a2, zR 0, zR 0]) ?_
  refine zle_many 2 (6, 2, [zR 5, zI a1, zI a2, zR 0, zR 0], [zI a1, zR 5], F, G, zsg) rfl ?_
  refine zle_I rfl (fun v1 F1 G1 => ?_)
  refine zle_many 1 (6, (bif zcmp .eq v1 0 then 15 else 8), [zR 5, zI a1, zI a2, zR 0, zR 0], [], F1, G1, zsg) rfl ?_
  refine zle_eq (fun _ => ?_) (fun _ => ?_)
  · refine zle_many 1 (6, 17, [zR 5, zI a1, zI a2, zR 0, zR 0], [zI (-5)], F1, G1, zsg) rfl ?_
    exact zle_ret rfl
  · refine zle_many 1 (6, 9, [zR 5, zI a1, zI a2, zR 0, zR 0], [zI a2], F1, G1, zsg) rfl ?_
    refine zle_I rfl (fun v2 F2 G2 => ?_)
    refine zle_many 1 (6, (bif zcmp .ne v2 0 then 18 else 15), [zR 5, zI a1, zI a2, zR 0, zR 0], [], F2, G2, zsg) rfl ?_
    refine zle_ne (fun _ => ?_) (fun _ => ?_)
    · refine zle_many 1 (6, 17, [zR 5, zI a1, zI a2, zR 0, zR 0], [zI (-5)], F2, G2, zsg) rfl ?_
      exact zle_ret rfl
    · refine zle_many 4 (6, 26, [zR 5, zI a1, zI a2, zR 0, zR 0], [zI a1, zR 17], F2, G2, zsg) rfl ?_
      refine zle_ald rfl rfl rfl (fun _ => ?_)
      refine zle_many 9 (6, 40, [zR 5, zI a1, zI a2, zI (F2 17 (Int.toNat a1)), zR 0], [zI 0, zI a2, zI 0, zI a1, zR 11, zR 52], F2, G2, zsg) rfl ?_
      refine zle_I rfl (fun v3 F3 G3 => ?_)
      refine zle_many 3 (6, (bif zcmp .ne v3 0 then 64 else 50), [zR 5, zI a1, zI a2, zI (F2 17 (Int.toNat a1)), zI v3], [], F3, G3, zsg) rfl ?_
      refine zle_ne (fun _ => ?_) (fun _ => ?_)
      · refine zle_many 4 (6, 58, [zR 5, zI a1, zI a2, zI (F2 17 (Int.toNat a1)), zI v3], [zI a1, zR 17], F3, G3, zsg) rfl ?_
        refine zle_ald rfl rfl rfl (fun _ => ?_)
        refine zle_many 3 (6, 69, [zR 5, zI a1, zI a2, zI (F2 17 (Int.toNat a1)), zI v3], [zI (zsub (F3 17 (Int.toNat a1)) (F2 17 (Int.toNat a1)))], F3, G3, zsg) rfl ?_
        exact zle_ret rfl
      · refine zle_many 3 (6, 69, [zR 5, zI a1, zI a2, zI (F2 17 (Int.toNat a1)), zI v3], [zI (zsub (-10) v3)], F3, G3, zsg) rfl ?_
        exact zle_ret rfl
set_option maxRecDepth 20000 in
theorem g_C_take {d : Nat} {F : zM} {G : zG} (a1 : Int) (a2 : Int) (a3 : Int) : zle (
  zbI (zex d 41 [zI a1] (F, G, zsg)) (fun v1 F1 G1 =>
  if v1 = 0 then
    some (some (zI (-5)), F1, G1, zsg)
  else
    zbI (zex d 43 [zR 5, zI a2] (F1, G1, zsg)) (fun v2 F2 G2 =>
      if v2 = 0 then
        some (some (zI (-5)), F2, G2, zsg)
      else
        zbI (zex d 150 [zI a3] (F2, G2, zsg)) (fun v3 F3 G3 =>
          if v3 = 0 then
            some (some (zI (-5)), F3, G3, zsg)
          else
            zbI (zex d 138 [zR 52, zR 11, zI a1, zI 1, zI a2, zI a3] (F3, G3, zsg)) (fun v4 F4 G4 =>
              zbI (zex d 47 [zI v4] (F4, G4, zsg)) (fun v5 F5 G5 =>
                some (some (zI v5), F5, G5, zsg))))))) (zex (d + 1) 7 [zR 5, zI a1, zI a2, zI a3] (F, G, zsg)) := by
  refine zle_ent (ls := [zR 5, zI a1, zI a2, zI a3]) ?_
  refine zle_many 1 (7, 1, [zR 5, zI a1, zI a2, zI a3], [zI a1], F, G, zsg) rfl ?_
  refine zle_I rfl (fun v1 F1 G1 => ?_)
  refine zle_many 1 (7, (bif zcmp .eq v1 0 then 22 else 7), [zR 5, zI a1, zI a2, zI a3], [], F1, G1, zsg) rfl ?_
  refine zle_eq (fun _ => ?_) (fun _ => ?_)
  · refine zle_many 1 (7, 24, [zR 5, zI a1, zI a2, zI a3], [zI (-5)], F1, G1, zsg) rfl ?_
    exact zle_ret rfl
  · refine zle_many 2 (7, 9, [zR 5, zI a1, zI a2, zI a3], [zI a2, zR 5], F1, G1, zsg) rfl ?_
    refine zle_I rfl (fun v2 F2 G2 => ?_)
    refine zle_many 1 (7, (bif zcmp .eq v2 0 then 22 else 15), [zR 5, zI a1, zI a2, zI a3], [], F2, G2, zsg) rfl ?_
    refine zle_eq (fun _ => ?_) (fun _ => ?_)
    · refine zle_many 1 (7, 24, [zR 5, zI a1, zI a2, zI a3], [zI (-5)], F2, G2, zsg) rfl ?_
      exact zle_ret rfl
    · refine zle_many 1 (7, 16, [zR 5, zI a1, zI a2, zI a3], [zI a3], F2, G2, zsg) rfl ?_
      refine zle_I rfl (fun v3 F3 G3 => ?_)
      refine zle_many 1 (7, (bif zcmp .ne v3 0 then 25 else 22), [zR 5, zI a1, zI a2, zI a3], [], F3, G3, zsg) rfl ?_
      refine zle_ne (fun _ => ?_) (fun _ => ?_)
      · refine zle_many 1 (7, 24, [zR 5, zI a1, zI a2, zI a3], [zI (-5)], F3, G3, zsg) rfl ?_
        exact zle_ret rfl
      · refine zle_many 8 (7, 37, [zR 5, zI a1, zI a2, zI a3], [zI a3, zI a2, zI 1, zI a1, zR 11, zR 52], F3, G3, zsg) rfl ?_
        refine zle_I rfl (fun v4 F4 G4 => ?_)
        refine zle_I rfl (fun v5 F5 G5 => ?_)
        exact zle_ret rfl
set_option maxRecDepth 20000 in
theorem g_C_put {d : Nat} {F : zM} {G : zG} (a1 : Int) : zle (
  zbI (zex d 41 [zI a1] (F, G, zsg)) (fun v1 F1 G1 =>
  if v1 = 0 then
    some (some (zI (-5)), F1, G1, zsg)
  else
    zbI (zex d 138 [zR 52, zR 11, zI a1, zI 2, zI 0, zI 0] (F1, G1, zsg)) (fun v2 F2 G2 =>
      zbI (zex d 47 [zI v2] (F2, G2, zsg)) (fun v3 F3 G3 =>
        some (some (zI v3), F3, G3, zsg))))) (zex (d + 1) 8 [zR 5, zI a1] (F, G, zsg)) := by
  refine zle_ent (ls := [zR 5, zI a1]) ?_
  refine zle_many 1 (8, 1, [zR 5, zI a1], [zI a1], F, G, zsg) rfl ?_
  refine zle_I rfl (fun v1 F1 G1 => ?_)
  refine zle_many 1 (8, (bif zcmp .ne v1 0 then 10 else 7), [zR 5, zI a1], [], F1, G1, zsg) rfl ?_
  refine zle_ne (fun _ => ?_) (fun _ => ?_)
  · refine zle_many 1 (8, 9, [zR 5, zI a1], [zI (-5)], F1, G1, zsg) rfl ?_
    exact zle_ret rfl
  · refine zle_many 8 (8, 22, [zR 5, zI a1], [zI 0, zI 0, zI 2, zI a1, zR 11, zR 52], F1, G1, zsg) rfl ?_
    refine zle_I rfl (fun v2 F2 G2 => ?_)
    refine zle_I rfl (fun v3 F3 G3 => ?_)
    exact zle_ret rfl
set_option maxRecDepth 20000 in
theorem g_C_open {d : Nat} {F : zM} {G : zG} (a1 : Int) (a2 : Int) : zle (
  zbI (zex d 41 [zI a1] (F, G, zsg)) (fun v1 F1 G1 =>
  if v1 = 0 then
    some (some (zI (-5)), F1, G1, zsg)
  else
    zbI (zex d 44 [zR 5, zI a2] (F1, G1, zsg)) (fun v2 F2 G2 =>
      if v2 = 0 then
        some (some (zI (-5)), F2, G2, zsg)
      else
        zbI (zex d 138 [zR 52, zR 11, zI a1, zI 3, zI a2, zI 0] (F2, G2, zsg)) (fun v3 F3 G3 =>
          zbI (zex d 47 [zI v3] (F3, G3, zsg)) (fun v4 F4 G4 =>
            some (some (zI v4), F4, G4, zsg)))))) (zex (d + 1) 9 [zR 5, zI a1, zI a2] (F, G, zsg)) := by
  refine zle_ent (ls := [zR 5, zI a1, zI a2]) ?_
  refine zle_many 1 (9, 1, [zR 5, zI a1, zI a2], [zI a1], F, G, zsg) rfl ?_
  refine zle_I rfl (fun v1 F1 G1 => ?_)
  refine zle_many 1 (9, (bif zcmp .eq v1 0 then 15 else 7), [zR 5, zI a1, zI a2], [], F1, G1, zsg) rfl ?_
  refine zle_eq (fun _ => ?_) (fun _ => ?_)
  · refine zle_many 1 (9, 17, [zR 5, zI a1, zI a2], [zI (-5)], F1, G1, zsg) rfl ?_
    exact zle_ret rfl
  · refine zle_many 2 (9, 9, [zR 5, zI a1, zI a2], [zI a2, zR 5], F1, G1, zsg) rfl ?_
    refine zle_I rfl (fun v2 F2 G2 => ?_)
    refine zle_many 1 (9, (bif zcmp .ne v2 0 then 18 else 15), [zR 5, zI a1, zI a2], [], F2, G2, zsg) rfl ?_
    refine zle_ne (fun _ => ?_) (fun _ => ?_)
    · refine zle_many 1 (9, 17, [zR 5, zI a1, zI a2], [zI (-5)], F2, G2, zsg) rfl ?_
      exact zle_ret rfl
    · refine zle_many 8 (9, 30, [zR 5, zI a1, zI a2], [zI 0, zI a2, zI 3, zI a1, zR 11, zR 52], F2, G2, zsg) rfl ?_
      refine zle_I rfl (fun v3 F3 G3 => ?_)
      refine zle_I rfl (fun v4 F4 G4 => ?_)
      exact zle_ret rfl
set_option maxRecDepth 20000 in
theorem g_C_way {d : Nat} {F : zM} {G : zG} (a1 : Int) (a2 : Int) : zle (
  zbI (zex d 42 [zR 5, zI a1] (F, G, zsg)) (fun v1 F1 G1 =>
  if v1 = 0 then
    some (some (zI (-5)), F1, G1, zsg)
  else
    zbI (zex d 149 [zI a2] (F1, G1, zsg)) (fun v2 F2 G2 =>
      if v2 = 0 then
        some (some (zI (-5)), F2, G2, zsg)
      else
        zbV (zex d 233 [zR 44, zR 11, zI a1, zI 0] (F2, G2, zsg)) (fun F3 G3 =>
          zbI (zex d 235 [zR 44, zI a2] (F3, G3, zsg)) (fun v4 F4 G4 =>
            if v4 < 0 then
              some (some (zI (-3)), F4, G4, zsg)
            else
              some (some (zI v4), F4, G4, zsg)))))) (zex (d + 1) 10 [zR 5, zI a1, zI a2] (F, G, zsg)) := by
  refine zle_ent (ls := [zR 5, zI a1, zI a2, zR 0]) ?_
  refine zle_many 2 (10, 2, [zR 5, zI a1, zI a2, zR 0], [zI a1, zR 5], F, G, zsg) rfl ?_
  refine zle_I rfl (fun v1 F1 G1 => ?_)
  refine zle_many 1 (10, (bif zcmp .eq v1 0 then 15 else 8), [zR 5, zI a1, zI a2, zR 0], [], F1, G1, zsg) rfl ?_
  refine zle_eq (fun _ => ?_) (fun _ => ?_)
  · refine zle_many 1 (10, 17, [zR 5, zI a1, zI a2, zR 0], [zI (-5)], F1, G1, zsg) rfl ?_
    exact zle_ret rfl
  · refine zle_many 1 (10, 9, [zR 5, zI a1, zI a2, zR 0], [zI a2], F1, G1, zsg) rfl ?_
    refine zle_I rfl (fun v2 F2 G2 => ?_)
    refine zle_many 1 (10, (bif zcmp .ne v2 0 then 18 else 15), [zR 5, zI a1, zI a2, zR 0], [], F2, G2, zsg) rfl ?_
    refine zle_ne (fun _ => ?_) (fun _ => ?_)
    · refine zle_many 1 (10, 17, [zR 5, zI a1, zI a2, zR 0], [zI (-5)], F2, G2, zsg) rfl ?_
      exact zle_ret rfl
    · refine zle_many 6 (10, 28, [zR 5, zI a1, zI a2, zR 0], [zI 0, zI a1, zR 11, zR 44], F2, G2, zsg) rfl ?_
      refine zle_V rfl (fun F3 G3 => ?_)
      refine zle_many 3 (10, 36, [zR 5, zI a1, zI a2, zR 0], [zI a2, zR 44], F3, G3, zsg) rfl ?_
      refine zle_I rfl (fun v4 F4 G4 => ?_)
      refine zle_many 3 (10, (bif zcmp .ge v4 0 then 49 else 44), [zR 5, zI a1, zI a2, zI v4], [], F4, G4, zsg) rfl ?_
      refine zle_ge (fun _ => ?_) (fun _ => ?_)
      · refine zle_many 2 (10, 50, [zR 5, zI a1, zI a2, zI v4], [zI (-3)], F4, G4, zsg) rfl ?_
        exact zle_ret rfl
      · refine zle_many 1 (10, 50, [zR 5, zI a1, zI a2, zI v4], [zI v4], F4, G4, zsg) rfl ?_
        exact zle_ret rfl
set_option maxRecDepth 20000 in
theorem g_C_step {d : Nat} {F : zM} {G : zG} (a1 : Int) (a2 : Int) (a3 : Int) : zle (
  zbI (zex d 42 [zR 5, zI a1] (F, G, zsg)) (fun v1 F1 G1 =>
  if v1 = 0 then
    some (some (zI (-5)), F1, G1, zsg)
  else
    zbI (zex d 149 [zI a2] (F1, G1, zsg)) (fun v2 F2 G2 =>
      if v2 = 0 then
        some (some (zI (-5)), F2, G2, zsg)
      else
        zbV (zex d 233 [zR 44, zR 11, zI a1, zI 0] (F2, G2, zsg)) (fun F3 G3 =>
          zbI (zex d 235 [zR 44, zI a2] (F3, G3, zsg)) (fun v4 F4 G4 =>
            if v4 < 0 then
              some (some (zI (-3)), F4, G4, zsg)
            else
              if a3 < 0 then
                some (some (zI (-3)), F4, G4, zsg)
              else
                if v4 < a3 then
                  some (some (zI (-3)), F4, G4, zsg)
                else
                  zbI (zex d 236 [zR 44, zI a2, zI a3] (F4, G4, zsg)) (fun v5 F5 G5 =>
                    some (some (zI v5), F5, G5, zsg))))))) (zex (d + 1) 11 [zR 5, zI a1, zI a2, zI a3] (F, G, zsg)) := by
  refine zle_ent (ls := [zR 5, zI a1, zI a2, zI a3, zR 0]) ?_
  refine zle_many 2 (11, 2, [zR 5, zI a1, zI a2, zI a3, zR 0], [zI a1, zR 5], F, G, zsg) rfl ?_
  refine zle_I rfl (fun v1 F1 G1 => ?_)
  refine zle_many 1 (11, (bif zcmp .eq v1 0 then 15 else 8), [zR 5, zI a1, zI a2, zI a3, zR 0], [], F1, G1, zsg) rfl ?_
  refine zle_eq (fun _ => ?_) (fun _ => ?_)
  · refine zle_many 1 (11, 17, [zR 5, zI a1, zI a2, zI a3, zR 0], [zI (-5)], F1, G1, zsg) rfl ?_
    exact zle_ret rfl
  · refine zle_many 1 (11, 9, [zR 5, zI a1, zI a2, zI a3, zR 0], [zI a2], F1, G1, zsg) rfl ?_
    refine zle_I rfl (fun v2 F2 G2 => ?_)
    refine zle_many 1 (11, (bif zcmp .ne v2 0 then 18 else 15), [zR 5, zI a1, zI a2, zI a3, zR 0], [], F2, G2, zsg) rfl ?_
    refine zle_ne (fun _ => ?_) (fun _ => ?_)
    · refine zle_many 1 (11, 17, [zR 5, zI a1, zI a2, zI a3, zR 0], [zI (-5)], F2, G2, zsg) rfl ?_
      exact zle_ret rfl
    · refine zle_many 6 (11, 28, [zR 5, zI a1, zI a2, zI a3, zR 0], [zI 0, zI a1, zR 11, zR 44], F2, G2, zsg) rfl ?_
      refine zle_V rfl (fun F3 G3 => ?_)
      refine zle_many 3 (11, 36, [zR 5, zI a1, zI a2, zI a3, zR 0], [zI a2, zR 44], F3, G3, zsg) rfl ?_
      refine zle_I rfl (fun v4 F4 G4 => ?_)
      refine zle_many 3 (11, (bif zcmp .lt v4 0 then 56 else 46), [zR 5, zI a1, zI a2, zI a3, zI v4], [], F4, G4, zsg) rfl ?_
      refine zle_lt (fun _ => ?_) (fun _ => ?_)
      · refine zle_many 1 (11, 58, [zR 5, zI a1, zI a2, zI a3, zI v4], [zI (-3)], F4, G4, zsg) rfl ?_
        exact zle_ret rfl
      · refine zle_many 2 (11, (bif zcmp .lt a3 0 then 56 else 50), [zR 5, zI a1, zI a2, zI a3, zI v4], [], F4, G4, zsg) rfl ?_
        refine zle_lt (fun _ => ?_) (fun _ => ?_)
        · refine zle_many 1 (11, 58, [zR 5, zI a1, zI a2, zI a3, zI v4], [zI (-3)], F4, G4, zsg) rfl ?_
          exact zle_ret rfl
        · refine zle_many 3 (11, (bif zcmp .le a3 v4 then 59 else 56), [zR 5, zI a1, zI a2, zI a3, zI v4], [], F4, G4, zsg) rfl ?_
          refine zle_le (fun _ => ?_) (fun _ => ?_)
          · refine zle_many 1 (11, 58, [zR 5, zI a1, zI a2, zI a3, zI v4], [zI (-3)], F4, G4, zsg) rfl ?_
            exact zle_ret rfl
          · refine zle_many 4 (11, 65, [zR 5, zI a1, zI a2, zI a3, zI v4], [zI a3, zI a2, zR 44], F4, G4, zsg) rfl ?_
            refine zle_I rfl (fun v5 F5 G5 => ?_)
            exact zle_ret rfl
set_option maxRecDepth 20000 in
theorem g_C_reached {d : Nat} {F : zM} {G : zG} (a1 : Int) (a2 : Int) : zle (
  zbI (zex d 42 [zR 5, zI a1] (F, G, zsg)) (fun v1 F1 G1 =>
  if v1 = 0 then
    some (some (zI (-5)), F1, G1, zsg)
  else
    if a2 = 0 then
      zbV (zex d 233 [zR 44, zR 11, zI a1, zI 0] (F1, G1, zsg)) (fun F2 G2 =>
        if a2 = 0 then
          zbI (zex d 243 [zL (G2 44 5)] (F2, G2, zsg)) (fun v4 F4 G4 =>
            some (some (zI v4), F4, G4, zsg))
        else
          zbI (zex d 238 [zR 44, zR 11, zI a1] (F2, G2, zsg)) (fun v3 F3 G3 =>
            some (some (zI v3), F3, G3, zsg)))
    else
      if a2 = 1 then
        zbV (zex d 233 [zR 44, zR 11, zI a1, zI 0] (F1, G1, zsg)) (fun F5 G5 =>
          if a2 = 0 then
            zbI (zex d 243 [zL (G5 44 5)] (F5, G5, zsg)) (fun v7 F7 G7 =>
              some (some (zI v7), F7, G7, zsg))
          else
            zbI (zex d 238 [zR 44, zR 11, zI a1] (F5, G5, zsg)) (fun v6 F6 G6 =>
              some (some (zI v6), F6, G6, zsg)))
      else
        some (some (zI (-2)), F1, G1, zsg))) (zex (d + 1) 12 [zR 5, zI a1, zI a2] (F, G, zsg)) := by
  refine zle_ent (ls := [zR 5, zI a1, zI a2]) ?_
  refine zle_many 2 (12, 2, [zR 5, zI a1, zI a2], [zI a1, zR 5], F, G, zsg) rfl ?_
  refine zle_I rfl (fun v1 F1 G1 => ?_)
  refine zle_many 1 (12, (bif zcmp .ne v1 0 then 11 else 8), [zR 5, zI a1, zI a2], [], F1, G1, zsg) rfl ?_
  refine zle_ne (fun _ => ?_) (fun _ => ?_)
  · refine zle_many 1 (12, 10, [zR 5, zI a1, zI a2], [zI (-5)], F1, G1, zsg) rfl ?_
    exact zle_ret rfl
  · refine zle_many 2 (12, (bif zcmp .eq a2 0 then 23 else 15), [zR 5, zI a1, zI a2], [], F1, G1, zsg) rfl ?_
    refine zle_eq (fun _ => ?_) (fun _ => ?_)
    · refine zle_many 6 (12, 33, [zR 5, zI a1, zI a2], [zI 0, zI a1, zR 11, zR 44], F1, G1, zsg) rfl ?_
      refine zle_V rfl (fun F2 G2 => ?_)
      refine zle_many 2 (12, (bif zcmp .ne a2 0 then 53 else 40), [zR 5, zI a1, zI a2], [], F2, G2, zsg) rfl ?_
      refine zle_ne (fun _ => ?_) (fun _ => ?_)
      · refine zle_many 3 (12, 47, [zR 5, zI a1, zI a2], [zL (G2 44 5)], F2, G2, zsg) rfl ?_
        refine zle_I rfl (fun v4 F4 G4 => ?_)
        refine zle_many 1 (12, 65, [zR 5, zI a1, zI a2], [zI v4], F4, G4, zsg) rfl ?_
        exact zle_ret rfl
      · refine zle_many 5 (12, 62, [zR 5, zI a1, zI a2], [zI a1, zR 11, zR 44], F2, G2, zsg) rfl ?_
        refine zle_I rfl (fun v3 F3 G3 => ?_)
        exact zle_ret rfl
    · refine zle_many 3 (12, (bif zcmp .eq a2 1 then 23 else 20), [zR 5, zI a1, zI a2], [], F1, G1, zsg) rfl ?_
      refine zle_eq (fun _ => ?_) (fun _ => ?_)
      · refine zle_many 6 (12, 33, [zR 5, zI a1, zI a2], [zI 0, zI a1, zR 11, zR 44], F1, G1, zsg) rfl ?_
        refine zle_V rfl (fun F5 G5 => ?_)
        refine zle_many 2 (12, (bif zcmp .ne a2 0 then 53 else 40), [zR 5, zI a1, zI a2], [], F5, G5, zsg) rfl ?_
        refine zle_ne (fun _ => ?_) (fun _ => ?_)
        · refine zle_many 3 (12, 47, [zR 5, zI a1, zI a2], [zL (G5 44 5)], F5, G5, zsg) rfl ?_
          refine zle_I rfl (fun v7 F7 G7 => ?_)
          refine zle_many 1 (12, 65, [zR 5, zI a1, zI a2], [zI v7], F7, G7, zsg) rfl ?_
          exact zle_ret rfl
        · refine zle_many 5 (12, 62, [zR 5, zI a1, zI a2], [zI a1, zR 11, zR 44], F5, G5, zsg) rfl ?_
          refine zle_I rfl (fun v6 F6 G6 => ?_)
          exact zle_ret rfl
      · refine zle_many 1 (12, 22, [zR 5, zI a1, zI a2], [zI (-2)], F1, G1, zsg) rfl ?_
        exact zle_ret rfl
set_option maxRecDepth 20000 in
theorem g_C_barred {d : Nat} {F : zM} {G : zG} (a1 : Int) (a2 : Int) : zle (
  zbI (zex d 42 [zR 5, zI a1] (F, G, zsg)) (fun v1 F1 G1 =>
  if v1 = 0 then
    some (some (zI (-5)), F1, G1, zsg)
  else
    zbI (zex d 149 [zI a2] (F1, G1, zsg)) (fun v2 F2 G2 =>
      if v2 = 0 then
        some (some (zI (-5)), F2, G2, zsg)
      else
        zbV (zex d 233 [zR 44, zR 11, zI a1, zI 0] (F2, G2, zsg)) (fun F3 G3 =>
          zbI (zex d 235 [zR 44, zI a2] (F3, G3, zsg)) (fun v4 F4 G4 =>
            if v4 < 0 then
              zev zX0 d (13, 49, [zR 5, zI a1, zI a2, zI 0, zI 0], [], F4, G4, zsg)
            else
              some (some (zI 0), F4, G4, zsg)))))) (zex (d + 1) 13 [zR 5, zI a1, zI a2] (F, G, zsg)) := by
  refine zle_ent (ls := [zR 5, zI a1, zI a2, zR 0, zR 0]) ?_
  refine zle_many 2 (13, 2, [zR 5, zI a1, zI a2, zR 0, zR 0], [zI a1, zR 5], F, G, zsg) rfl ?_
  refine zle_I rfl (fun v1 F1 G1 => ?_)
  refine zle_many 1 (13, (bif zcmp .eq v1 0 then 15 else 8), [zR 5, zI a1, zI a2, zR 0, zR 0], [], F1, G1, zsg) rfl ?_
  refine zle_eq (fun _ => ?_) (fun _ => ?_)
  · refine zle_many 1 (13, 17, [zR 5, zI a1, zI a2, zR 0, zR 0], [zI (-5)], F1, G1, zsg) rfl ?_
    exact zle_ret rfl
  · refine zle_many 1 (13, 9, [zR 5, zI a1, zI a2, zR 0, zR 0], [zI a2], F1, G1, zsg) rfl ?_
    refine zle_I rfl (fun v2 F2 G2 => ?_)
    refine zle_many 1 (13, (bif zcmp .ne v2 0 then 18 else 15), [zR 5, zI a1, zI a2, zR 0, zR 0], [], F2, G2, zsg) rfl ?_
    refine zle_ne (fun _ => ?_) (fun _ => ?_)
    · refine zle_many 1 (13, 17, [zR 5, zI a1, zI a2, zR 0, zR 0], [zI (-5)], F2, G2, zsg) rfl ?_
      exact zle_ret rfl
    · refine zle_many 6 (13, 28, [zR 5, zI a1, zI a2, zR 0, zR 0], [zI 0, zI a1, zR 11, zR 44], F2, G2, zsg) rfl ?_
      refine zle_V rfl (fun F3 G3 => ?_)
      refine zle_many 3 (13, 36, [zR 5, zI a1, zI a2, zR 0, zR 0], [zI a2, zR 44], F3, G3, zsg) rfl ?_
      refine zle_I rfl (fun v4 F4 G4 => ?_)
      refine zle_many 1 (13, (bif zcmp .lt v4 0 then 44 else 42), [zR 5, zI a1, zI a2, zR 0, zR 0], [], F4, G4, zsg) rfl ?_
      refine zle_lt (fun _ => ?_) (fun _ => ?_)
      · refine zle_many 4 (13, 49, [zR 5, zI a1, zI a2, zI 0, zI 0], [], F4, G4, zsg) rfl ?_
        exact zle_rfl
      · refine zle_many 1 (13, 43, [zR 5, zI a1, zI a2, zR 0, zR 0], [zI 0], F4, G4, zsg) rfl ?_
        exact zle_ret rfl
set_option maxRecDepth 20000 in
theorem g_C_barred_49 {d : Nat} {F : zM} {G : zG} (l1 : Int) (l2 : Int) (l3 : Int) (l4 : Int) : zle (
  if l4 < (F 6 2) then
  zbI (zex d 200 [zR 11, zI l4] (F, G, zsg)) (fun v1 F1 G1 =>
    if v1 = 0 then
      zev zX0 d (13, 49, [zR 5, zI l1, zI l2, zI l3, zI (zadd l4 1)], [], F1, G1, zsg)
    else
      zbV (zex d 233 [zR 44, zR 11, zI l1, zI (zshl 1 l4)] (F1, G1, zsg)) (fun F2 G2 =>
        zbI (zex d 235 [zR 44, zI l2] (F2, G2, zsg)) (fun v3 F3 G3 =>
          if v3 < 0 then
            zev zX0 d (13, 49, [zR 5, zI l1, zI l2, zI l3, zI (zadd l4 1)], [], F3, G3, zsg)
          else
            zev zX0 d (13, 49, [zR 5, zI l1, zI l2, zI (zor l3 (zshl 1 l4)), zI (zadd l4 1)], [], F3, G3, zsg))))
else
  some (some (zI l3), F, G, zsg)) (zev zX0 d (13, 49, [zR 5, zI l1, zI l2, zI l3, zI l4], [], F, G, zsg)) := by
  refine zle_many 5 (13, (bif zcmp .ge l4 (F 6 2) then 116 else 61), [zR 5, zI l1, zI l2, zI l3, zI l4], [], F, G, zsg) rfl ?_
  refine zle_ge (fun _ => ?_) (fun _ => ?_)
  · refine zle_many 3 (13, 67, [zR 5, zI l1, zI l2, zI l3, zI l4], [zI l4, zR 11], F, G, zsg) rfl ?_
    refine zle_I rfl (fun v1 F1 G1 => ?_)
    refine zle_many 1 (13, (bif zcmp .ne v1 0 then 76 else 73), [zR 5, zI l1, zI l2, zI l3, zI l4], [], F1, G1, zsg) rfl ?_
    refine zle_ne (fun _ => ?_) (fun _ => ?_)
    · refine zle_many 3 (13, 49, [zR 5, zI l1, zI l2, zI l3, zI (zadd l4 1)], [], F1, G1, zsg) rfl ?_
      exact zle_rfl
    · refine zle_many 8 (13, 89, [zR 5, zI l1, zI l2, zI l3, zI l4], [zI (zshl 1 l4), zI l1, zR 11, zR 44], F1, G1, zsg) rfl ?_
      refine zle_V rfl (fun F2 G2 => ?_)
      refine zle_many 3 (13, 97, [zR 5, zI l1, zI l2, zI l3, zI l4], [zI l2, zR 44], F2, G2, zsg) rfl ?_
      refine zle_I rfl (fun v3 F3 G3 => ?_)
      refine zle_many 1 (13, (bif zcmp .lt v3 0 then 110 else 103), [zR 5, zI l1, zI l2, zI l3, zI l4], [], F3, G3, zsg) rfl ?_
      refine zle_lt (fun _ => ?_) (fun _ => ?_)
      · refine zle_many 2 (13, 49, [zR 5, zI l1, zI l2, zI l3, zI (zadd l4 1)], [], F3, G3, zsg) rfl ?_
        exact zle_rfl
      · refine zle_many 8 (13, 49, [zR 5, zI l1, zI l2, zI (zor l3 (zshl 1 l4)), zI (zadd l4 1)], [], F3, G3, zsg) rfl ?_
        exact zle_rfl
  · refine zle_many 1 (13, 117, [zR 5, zI l1, zI l2, zI l3, zI l4], [zI l3], F, G, zsg) rfl ?_
    exact zle_ret rfl
set_option maxRecDepth 20000 in
theorem g_C_thingTold {d : Nat} {F : zM} {G : zG} (a1 : Int) (a2 : Int) : zle (
  zbI (zex d 43 [zR 5, zI a1] (F, G, zsg)) (fun v1 F1 G1 =>
  if v1 = 0 then
    some (some (zI (-5)), F1, G1, zsg)
  else
    if a2 = 0 then
      if 0 ≤ a1 ∧ a1 < 8 then
        some (some (zI (F1 7 (Int.toNat a1))), F1, G1, zsg)
      else none
    else
    if a2 = 1 then
      if 0 ≤ a1 ∧ a1 < 8 then
        some (some (zI (F1 12 (Int.toNat a1))), F1, G1, zsg)
      else none
    else
    if a2 = 2 then
      if 0 ≤ a1 ∧ a1 < 8 then
        some (some (zI (F1 13 (Int.toNat a1))), F1, G1, zsg)
      else none
    else
    if a2 = 3 then
      if 0 ≤ a1 ∧ a1 < 8 then
        some (some (zI (F1 14 (Int.toNat a1))), F1, G1, zsg)
      else none
    else
    if a2 = 4 then
      if 0 ≤ a1 ∧ a1 < 8 then
        zbI (zex d 172 [zI (F1 7 (Int.toNat a1))] (F1, G1, zsg)) (fun v3 F3 G3 =>
          some (some (zI v3), F3, G3, zsg))
      else none
    else
    if a2 = 5 then
      zbI (zex d 192 [zR 6, zI a1] (F1, G1, zsg)) (fun v2 F2 G2 =>
        some (some (zI v2), F2, G2, zsg))
    else
    if a2 = 6 then
      if 0 ≤ a1 ∧ a1 < 8 then
        some (some (zI (F1 8 (Int.toNat a1))), F1, G1, zsg)
      else none
    else
    some (some (zI (-7)), F1, G1, zsg))) (zex (d + 1) 14 [zR 5, zI a1, zI a2] (F, G, zsg)) := by
  refine zle_ent (ls := [zR 5, zI a1, zI a2]) ?_
  refine zle_many 2 (14, 2, [zR 5, zI a1, zI a2], [zI a1, zR 5], F, G, zsg) rfl ?_
  refine zle_I rfl (fun v1 F1 G1 => ?_)
  refine zle_many 1 (14, (bif zcmp .ne v1 0 then 11 else 8), [zR 5, zI a1, zI a2], [], F1, G1, zsg) rfl ?_
  refine zle_ne (fun _ => ?_) (fun _ => ?_)
  · refine zle_many 1 (14, 10, [zR 5, zI a1, zI a2], [zI (-5)], F1, G1, zsg) rfl ?_
    exact zle_ret rfl
  · refine zle_many 2 (14, zsw a2 [(0, 56), (1, 66), (2, 76), (3, 86), (4, 96), (5, 109), (6, 118)] 128, [zR 5, zI a1, zI a2], [], F1, G1, zsg) rfl ?_
    refine zle_sw (fun _ => ?_) (fun _ => ?_)
    · refine zle_many 4 (14, 64, [zR 5, zI a1, zI a2], [zI a1, zR 7], F1, G1, zsg) rfl ?_
      refine zle_ald rfl rfl rfl (fun _ => ?_)
      exact zle_ret rfl
    · refine zle_sw (fun _ => ?_) (fun _ => ?_)
      · refine zle_many 4 (14, 74, [zR 5, zI a1, zI a2], [zI a1, zR 12], F1, G1, zsg) rfl ?_
        refine zle_ald rfl rfl rfl (fun _ => ?_)
        exact zle_ret rfl
      · refine zle_sw (fun _ => ?_) (fun _ => ?_)
        · refine zle_many 4 (14, 84, [zR 5, zI a1, zI a2], [zI a1, zR 13], F1, G1, zsg) rfl ?_
          refine zle_ald rfl rfl rfl (fun _ => ?_)
          exact zle_ret rfl
        · refine zle_sw (fun _ => ?_) (fun _ => ?_)
          · refine zle_many 4 (14, 94, [zR 5, zI a1, zI a2], [zI a1, zR 14], F1, G1, zsg) rfl ?_
            refine zle_ald rfl rfl rfl (fun _ => ?_)
            exact zle_ret rfl
          · refine zle_sw (fun _ => ?_) (fun _ => ?_)
            · refine zle_many 4 (14, 104, [zR 5, zI a1, zI a2], [zI a1, zR 7], F1, G1, zsg) rfl ?_
              refine zle_ald rfl rfl rfl (fun _ => ?_)
              refine zle_I rfl (fun v3 F3 G3 => ?_)
              exact zle_ret rfl
            · refine zle_sw (fun _ => ?_) (fun _ => ?_)
              · refine zle_many 3 (14, 114, [zR 5, zI a1, zI a2], [zI a1, zR 6], F1, G1, zsg) rfl ?_
                refine zle_I rfl (fun v2 F2 G2 => ?_)
                exact zle_ret rfl
              · refine zle_sw (fun _ => ?_) (fun _ => ?_)
                · refine zle_many 4 (14, 126, [zR 5, zI a1, zI a2], [zI a1, zR 8], F1, G1, zsg) rfl ?_
                  refine zle_ald rfl rfl rfl (fun _ => ?_)
                  exact zle_ret rfl
                · refine zle_many 1 (14, 130, [zR 5, zI a1, zI a2], [zI (-7)], F1, G1, zsg) rfl ?_
                  exact zle_ret rfl
set_option maxRecDepth 20000 in
theorem g_C_handTold {d : Nat} {F : zM} {G : zG} (a1 : Int) (a2 : Int) : zle (
  zbI (zex d 41 [zI a1] (F, G, zsg)) (fun v1 F1 G1 =>
  if v1 = 0 then
    some (some (zI (-5)), F1, G1, zsg)
  else
    if a2 = 0 then
      if 0 ≤ a1 ∧ a1 < 2 then
        some (some (zI (F1 15 (Int.toNat a1))), F1, G1, zsg)
      else none
    else
    if a2 = 1 then
      if 0 ≤ a1 ∧ a1 < 2 then
        some (some (zI (F1 16 (Int.toNat a1))), F1, G1, zsg)
      else none
    else
    if a2 = 2 then
      if 0 ≤ a1 ∧ a1 < 2 then
        some (some (zI (F1 17 (Int.toNat a1))), F1, G1, zsg)
      else none
    else
    if a2 = 3 then
      if 0 ≤ a1 ∧ a1 < 2 then
        some (some (zI (F1 18 (Int.toNat a1))), F1, G1, zsg)
      else none
    else
    if a2 = 4 then
      if 0 ≤ a1 ∧ a1 < 2 then
        some (some (zI (F1 19 (Int.toNat a1))), F1, G1, zsg)
      else none
    else
    if a2 = 5 then
      if 0 ≤ a1 ∧ a1 < 2 then
        some (some (zI (F1 21 (Int.toNat a1))), F1, G1, zsg)
      else none
    else
    some (some (zI (-7)), F1, G1, zsg))) (zex (d + 1) 15 [zR 5, zI a1, zI a2] (F, G, zsg)) := by
  refine zle_ent (ls := [zR 5, zI a1, zI a2]) ?_
  refine zle_many 1 (15, 1, [zR 5, zI a1, zI a2], [zI a1], F, G, zsg) rfl ?_
  refine zle_I rfl (fun v1 F1 G1 => ?_)
  refine zle_many 1 (15, (bif zcmp .ne v1 0 then 10 else 7), [zR 5, zI a1, zI a2], [], F1, G1, zsg) rfl ?_
  refine zle_ne (fun _ => ?_) (fun _ => ?_)
  · refine zle_many 1 (15, 9, [zR 5, zI a1, zI a2], [zI (-5)], F1, G1, zsg) rfl ?_
    exact zle_ret rfl
  · refine zle_many 2 (15, zsw a2 [(0, 48), (1, 58), (2, 68), (3, 78), (4, 88), (5, 98)] 108, [zR 5, zI a1, zI a2], [], F1, G1, zsg) rfl ?_
    refine zle_sw (fun _ => ?_) (fun _ => ?_)
    · refine zle_many 4 (15, 56, [zR 5, zI a1, zI a2], [zI a1, zR 15], F1, G1, zsg) rfl ?_
      refine zle_ald rfl rfl rfl (fun _ => ?_)
      exact zle_ret rfl
    · refine zle_sw (fun _ => ?_) (fun _ => ?_)
      · refine zle_many 4 (15, 66, [zR 5, zI a1, zI a2], [zI a1, zR 16], F1, G1, zsg) rfl ?_
        refine zle_ald rfl rfl rfl (fun _ => ?_)
        exact zle_ret rfl
      · refine zle_sw (fun _ => ?_) (fun _ => ?_)
        · refine zle_many 4 (15, 76, [zR 5, zI a1, zI a2], [zI a1, zR 17], F1, G1, zsg) rfl ?_
          refine zle_ald rfl rfl rfl (fun _ => ?_)
          exact zle_ret rfl
        · refine zle_sw (fun _ => ?_) (fun _ => ?_)
          · refine zle_many 4 (15, 86, [zR 5, zI a1, zI a2], [zI a1, zR 18], F1, G1, zsg) rfl ?_
            refine zle_ald rfl rfl rfl (fun _ => ?_)
            exact zle_ret rfl
          · refine zle_sw (fun _ => ?_) (fun _ => ?_)
            · refine zle_many 4 (15, 96, [zR 5, zI a1, zI a2], [zI a1, zR 19], F1, G1, zsg) rfl ?_
              refine zle_ald rfl rfl rfl (fun _ => ?_)
              exact zle_ret rfl
            · refine zle_sw (fun _ => ?_) (fun _ => ?_)
              · refine zle_many 4 (15, 106, [zR 5, zI a1, zI a2], [zI a1, zR 21], F1, G1, zsg) rfl ?_
                refine zle_ald rfl rfl rfl (fun _ => ?_)
                exact zle_ret rfl
              · refine zle_many 1 (15, 110, [zR 5, zI a1, zI a2], [zI (-7)], F1, G1, zsg) rfl ?_
                exact zle_ret rfl
set_option maxRecDepth 20000 in
theorem g_C_kindTold {d : Nat} {F : zM} {G : zG} (a1 : Int) (a2 : Int) (a3 : Int) : zle (
  zbI (zex d 170 [zI a1] (F, G, zsg)) (fun v1 F1 G1 =>
  if v1 = 0 then
    some (some (zI (-2)), F1, G1, zsg)
  else
    zbI (zex d 171 [zI a2] (F1, G1, zsg)) (fun v2 F2 G2 =>
      if v2 = 0 then
        some (some (zI (-2)), F2, G2, zsg)
      else
        if a3 = 0 then
          zbI (zex d 172 [zI a1] (F2, G2, zsg)) (fun v6 F6 G6 =>
            some (some (zI v6), F6, G6, zsg))
        else
        if a3 = 1 then
          zbI (zex d 174 [zI a1, zI a2] (F2, G2, zsg)) (fun v5 F5 G5 =>
            some (some (zI v5), F5, G5, zsg))
        else
        if a3 = 2 then
          zbI (zex d 175 [zI a1] (F2, G2, zsg)) (fun v4 F4 G4 =>
            if v4 = 0 then
              some (some (zI 0), F4, G4, zsg)
            else
              some (some (zI 1), F4, G4, zsg))
        else
        if a3 = 3 then
          zbI (zex d 176 [zI a1] (F2, G2, zsg)) (fun v3 F3 G3 =>
            if v3 = 0 then
              some (some (zI 0), F3, G3, zsg)
            else
              some (some (zI 1), F3, G3, zsg))
        else
        some (some (zI (-2)), F2, G2, zsg)))) (zex (d + 1) 16 [zR 5, zI a1, zI a2, zI a3] (F, G, zsg)) := by
  refine zle_ent (ls := [zR 5, zI a1, zI a2, zI a3]) ?_
  refine zle_many 1 (16, 1, [zR 5, zI a1, zI a2, zI a3], [zI a1], F, G, zsg) rfl ?_
  refine zle_I rfl (fun v1 F1 G1 => ?_)
  refine zle_many 1 (16, (bif zcmp .eq v1 0 then 14 else 7), [zR 5, zI a1, zI a2, zI a3], [], F1, G1, zsg) rfl ?_
  refine zle_eq (fun _ => ?_) (fun _ => ?_)
  · refine zle_many 1 (16, 16, [zR 5, zI a1, zI a2, zI a3], [zI (-2)], F1, G1, zsg) rfl ?_
    exact zle_ret rfl
  · refine zle_many 1 (16, 8, [zR 5, zI a1, zI a2, zI a3], [zI a2], F1, G1, zsg) rfl ?_
    refine zle_I rfl (fun v2 F2 G2 => ?_)
    refine zle_many 1 (16, (bif zcmp .ne v2 0 then 17 else 14), [zR 5, zI a1, zI a2, zI a3], [], F2, G2, zsg) rfl ?_
    refine zle_ne (fun _ => ?_) (fun _ => ?_)
    · refine zle_many 1 (16, 16, [zR 5, zI a1, zI a2, zI a3], [zI (-2)], F2, G2, zsg) rfl ?_
      exact zle_ret rfl
    · refine zle_many 2 (16, zsw a3 [(0, 48), (1, 53), (2, 59), (3, 72)] 85, [zR 5, zI a1, zI a2, zI a3], [], F2, G2, zsg) rfl ?_
      refine zle_sw (fun _ => ?_) (fun _ => ?_)
      · refine zle_many 1 (16, 49, [zR 5, zI a1, zI a2, zI a3], [zI a1], F2, G2, zsg) rfl ?_
        refine zle_I rfl (fun v6 F6 G6 => ?_)
        exact zle_ret rfl
      · refine zle_sw (fun _ => ?_) (fun _ => ?_)
        · refine zle_many 2 (16, 55, [zR 5, zI a1, zI a2, zI a3], [zI a2, zI a1], F2, G2, zsg) rfl ?_
          refine zle_I rfl (fun v5 F5 G5 => ?_)
          exact zle_ret rfl
        · refine zle_sw (fun _ => ?_) (fun _ => ?_)
          · refine zle_many 1 (16, 60, [zR 5, zI a1, zI a2, zI a3], [zI a1], F2, G2, zsg) rfl ?_
            refine zle_I rfl (fun v4 F4 G4 => ?_)
            refine zle_many 1 (16, (bif zcmp .eq v4 0 then 70 else 66), [zR 5, zI a1, zI a2, zI a3], [], F4, G4, zsg) rfl ?_
            refine zle_eq (fun _ => ?_) (fun _ => ?_)
            · refine zle_many 1 (16, 71, [zR 5, zI a1, zI a2, zI a3], [zI 0], F4, G4, zsg) rfl ?_
              exact zle_ret rfl
            · refine zle_many 2 (16, 71, [zR 5, zI a1, zI a2, zI a3], [zI 1], F4, G4, zsg) rfl ?_
              exact zle_ret rfl
          · refine zle_sw (fun _ => ?_) (fun _ => ?_)
            · refine zle_many 1 (16, 73, [zR 5, zI a1, zI a2, zI a3], [zI a1], F2, G2, zsg) rfl ?_
              refine zle_I rfl (fun v3 F3 G3 => ?_)
              refine zle_many 1 (16, (bif zcmp .eq v3 0 then 83 else 79), [zR 5, zI a1, zI a2, zI a3], [], F3, G3, zsg) rfl ?_
              refine zle_eq (fun _ => ?_) (fun _ => ?_)
              · refine zle_many 1 (16, 84, [zR 5, zI a1, zI a2, zI a3], [zI 0], F3, G3, zsg) rfl ?_
                exact zle_ret rfl
              · refine zle_many 2 (16, 84, [zR 5, zI a1, zI a2, zI a3], [zI 1], F3, G3, zsg) rfl ?_
                exact zle_ret rfl
            · refine zle_many 1 (16, 87, [zR 5, zI a1, zI a2, zI a3], [zI (-2)], F2, G2, zsg) rfl ?_
              exact zle_ret rfl
set_option maxRecDepth 20000 in
theorem g_C_cellTold {d : Nat} {F : zM} {G : zG} (a1 : Int) : zle (
  zbI (zex d 149 [zI a1] (F, G, zsg)) (fun v1 F1 G1 =>
  if v1 = 0 then
    some (some (zI (-5)), F1, G1, zsg)
  else
    zbI (zex d 152 [zL (G1 6 0), zI a1] (F1, G1, zsg)) (fun v2 F2 G2 =>
      if v2 = 0 then
        zbL (zex d 228 [zR 44, zR 11] (F2, G2, zsg)) (fun v3 F3 G3 =>
          zbI (zex d 152 [zL v3, zI a1] (F3, G3, zsg)) (fun v4 F4 G4 =>
            if v4 = 0 then
              if (F4 15 0) = a1 then
                some (some (zI 100), F4, G4, zsg)
              else
                if (F4 15 1) = a1 then
                  some (some (zI 101), F4, G4, zsg)
                else
                  zbI (zex d 229 [zR 44, zR 11, zI a1] (F4, G4, zsg)) (fun v5 F5 G5 =>
                    some (some (zI v5), F5, G5, zsg))
            else
              some (some (zI (-11)), F4, G4, zsg)))
      else
        some (some (zI (-10)), F2, G2, zsg)))) (zex (d + 1) 17 [zR 5, zI a1] (F, G, zsg)) := by
  refine zle_ent (ls := [zR 5, zI a1]) ?_
  refine zle_many 1 (17, 1, [zR 5, zI a1], [zI a1], F, G, zsg) rfl ?_
  refine zle_I rfl (fun v1 F1 G1 => ?_)
  refine zle_many 1 (17, (bif zcmp .ne v1 0 then 10 else 7), [zR 5, zI a1], [], F1, G1, zsg) rfl ?_
  refine zle_ne (fun _ => ?_) (fun _ => ?_)
  · refine zle_many 1 (17, 9, [zR 5, zI a1], [zI (-5)], F1, G1, zsg) rfl ?_
    exact zle_ret rfl
  · refine zle_many 4 (17, 18, [zR 5, zI a1], [zI a1, zL (G1 6 0)], F1, G1, zsg) rfl ?_
    refine zle_I rfl (fun v2 F2 G2 => ?_)
    refine zle_many 1 (17, (bif zcmp .eq v2 0 then 27 else 24), [zR 5, zI a1], [], F2, G2, zsg) rfl ?_
    refine zle_eq (fun _ => ?_) (fun _ => ?_)
    · refine zle_many 4 (17, 35, [zR 5, zI a1], [zR 11, zR 44], F2, G2, zsg) rfl ?_
      refine zle_L rfl (fun v3 F3 G3 => ?_)
      refine zle_many 1 (17, 39, [zR 5, zI a1], [zI a1, zL v3], F3, G3, zsg) rfl ?_
      refine zle_I rfl (fun v4 F4 G4 => ?_)
      refine zle_many 1 (17, (bif zcmp .eq v4 0 then 48 else 45), [zR 5, zI a1], [], F4, G4, zsg) rfl ?_
      refine zle_eq (fun _ => ?_) (fun _ => ?_)
      · refine zle_many 7 (17, (bif zcmp .ne (F4 15 0) a1 then 64 else 61), [zR 5, zI a1], [], F4, G4, zsg) rfl ?_
        refine zle_ne (fun _ => ?_) (fun _ => ?_)
        · refine zle_many 1 (17, 63, [zR 5, zI a1], [zI 100], F4, G4, zsg) rfl ?_
          exact zle_ret rfl
        · refine zle_many 7 (17, (bif zcmp .ne (F4 15 1) a1 then 80 else 77), [zR 5, zI a1], [], F4, G4, zsg) rfl ?_
          refine zle_ne (fun _ => ?_) (fun _ => ?_)
          · refine zle_many 1 (17, 79, [zR 5, zI a1], [zI 101], F4, G4, zsg) rfl ?_
            exact zle_ret rfl
          · refine zle_many 5 (17, 89, [zR 5, zI a1], [zI a1, zR 11, zR 44], F4, G4, zsg) rfl ?_
            refine zle_I rfl (fun v5 F5 G5 => ?_)
            exact zle_ret rfl
      · refine zle_many 1 (17, 47, [zR 5, zI a1], [zI (-11)], F4, G4, zsg) rfl ?_
        exact zle_ret rfl
    · refine zle_many 1 (17, 26, [zR 5, zI a1], [zI (-10)], F2, G2, zsg) rfl ?_
      exact zle_ret rfl
set_option maxRecDepth 20000 in
theorem g_C_isOpen {d : Nat} {F : zM} {G : zG} (a1 : Int) : zle (
  zbI (zex d 44 [zR 5, zI a1] (F, G, zsg)) (fun v1 F1 G1 =>
  if v1 = 0 then
    some (some (zI (-1)), F1, G1, zsg)
  else
    zbI (zex d 199 [zR 11, zI a1] (F1, G1, zsg)) (fun v2 F2 G2 =>
      if v2 = 0 then
        some (some (zI 0), F2, G2, zsg)
      else
        some (some (zI 1), F2, G2, zsg)))) (zex (d + 1) 18 [zR 5, zI a1] (F, G, zsg)) := by
  refine zle_ent (ls := [zR 5, zI a1]) ?_
  refine zle_many 2 (18, 2, [zR 5, zI a1], [zI a1, zR 5], F, G, zsg) rfl ?_
  refine zle_I rfl (fun v1 F1 G1 => ?_)
  refine zle_many 1 (18, (bif zcmp .ne v1 0 then 10 else 8), [zR 5, zI a1], [], F1, G1, zsg) rfl ?_
  refine zle_ne (fun _ => ?_) (fun _ => ?_)
  · refine zle_many 1 (18, 9, [zR 5, zI a1], [zI (-1)], F1, G1, zsg) rfl ?_
    exact zle_ret rfl
  · refine zle_many 3 (18, 15, [zR 5, zI a1], [zI a1, zR 11], F1, G1, zsg) rfl ?_
    refine zle_I rfl (fun v2 F2 G2 => ?_)
    refine zle_many 1 (18, (bif zcmp .eq v2 0 then 25 else 21), [zR 5, zI a1], [], F2, G2, zsg) rfl ?_
    refine zle_eq (fun _ => ?_) (fun _ => ?_)
    · refine zle_many 1 (18, 26, [zR 5, zI a1], [zI 0], F2, G2, zsg) rfl ?_
      exact zle_ret rfl
    · refine zle_many 2 (18, 26, [zR 5, zI a1], [zI 1], F2, G2, zsg) rfl ?_
      exact zle_ret rfl
set_option maxRecDepth 20000 in
theorem g_C_count {d : Nat} {F : zM} {G : zG} (a1 : Int) : zle (
  if a1 = 0 then
  some (some (zI (F 11 0)), F, G, zsg)
else
if a1 = 1 then
  some (some (zI (F 6 2)), F, G, zsg)
else
if a1 = 2 then
  some (some (zI (F 6 5)), F, G, zsg)
else
if a1 = 3 then
  some (some (zI (F 46 2)), F, G, zsg)
else
if a1 = 4 then
  some (some (zI (F 46 1)), F, G, zsg)
else
if a1 = 5 then
  some (some (zI (F 6 1)), F, G, zsg)
else
if a1 = 6 then
  some (some (zI (F 64 4)), F, G, zsg)
else
if a1 = 7 then
  some (some (zI (F 53 0)), F, G, zsg)
else
some (some (zI (-2)), F, G, zsg)) (zex (d + 1) 19 [zR 5, zI a1] (F, G, zsg)) := by
  refine zle_ent (ls := [zR 5, zI a1]) ?_
  refine zle_many 2 (19, zsw a1 [(0, 48), (1, 56), (2, 64), (3, 72), (4, 80), (5, 88), (6, 96), (7, 104)] 112, [zR 5, zI a1], [], F, G, zsg) rfl ?_
  refine zle_sw (fun _ => ?_) (fun _ => ?_)
  · refine zle_many 3 (19, 55, [zR 5, zI a1], [zI (F 11 0)], F, G, zsg) rfl ?_
    exact zle_ret rfl
  · refine zle_sw (fun _ => ?_) (fun _ => ?_)
    · refine zle_many 3 (19, 63, [zR 5, zI a1], [zI (F 6 2)], F, G, zsg) rfl ?_
      exact zle_ret rfl
    · refine zle_sw (fun _ => ?_) (fun _ => ?_)
      · refine zle_many 3 (19, 71, [zR 5, zI a1], [zI (F 6 5)], F, G, zsg) rfl ?_
        exact zle_ret rfl
      · refine zle_sw (fun _ => ?_) (fun _ => ?_)
        · refine zle_many 3 (19, 79, [zR 5, zI a1], [zI (F 46 2)], F, G, zsg) rfl ?_
          exact zle_ret rfl
        · refine zle_sw (fun _ => ?_) (fun _ => ?_)
          · refine zle_many 3 (19, 87, [zR 5, zI a1], [zI (F 46 1)], F, G, zsg) rfl ?_
            exact zle_ret rfl
          · refine zle_sw (fun _ => ?_) (fun _ => ?_)
            · refine zle_many 3 (19, 95, [zR 5, zI a1], [zI (F 6 1)], F, G, zsg) rfl ?_
              exact zle_ret rfl
            · refine zle_sw (fun _ => ?_) (fun _ => ?_)
              · refine zle_many 3 (19, 103, [zR 5, zI a1], [zI (F 64 4)], F, G, zsg) rfl ?_
                exact zle_ret rfl
              · refine zle_sw (fun _ => ?_) (fun _ => ?_)
                · refine zle_many 3 (19, 111, [zR 5, zI a1], [zI (F 53 0)], F, G, zsg) rfl ?_
                  exact zle_ret rfl
                · refine zle_many 1 (19, 114, [zR 5, zI a1], [zI (-2)], F, G, zsg) rfl ?_
                  exact zle_ret rfl
set_option maxRecDepth 20000 in
theorem g_C_feed {d : Nat} {F : zM} {G : zG} (a1 : BitVec 64) (a2 : Int) : zle (
  if a2 < 1 then
  some (some (zI (-2)), F, G, zsg)
else
  if 8 < a2 then
    some (some (zI (-2)), F, G, zsg)
  else
    if 120 < (zadd (F 46 1) a2) then
      some (some (zI (-4)), F, G, zsg)
    else
      zbV (zex d 217 [zR 46, zL a1, zI a2] (F, G, zsg)) (fun F1 G1 =>
        some (some (zI (F1 46 1)), F1, G1, zsg))) (zex (d + 1) 20 [zR 5, zL a1, zI a2] (F, G, zsg)) := by
  refine zle_ent (ls := [zR 5, zL a1, zR 0, zI a2]) ?_
  refine zle_many 3 (20, (bif zcmp .lt a2 1 then 11 else 5), [zR 5, zL a1, zR 0, zI a2], [], F, G, zsg) rfl ?_
  refine zle_lt (fun _ => ?_) (fun _ => ?_)
  · refine zle_many 1 (20, 13, [zR 5, zL a1, zR 0, zI a2], [zI (-2)], F, G, zsg) rfl ?_
    exact zle_ret rfl
  · refine zle_many 3 (20, (bif zcmp .le a2 8 then 14 else 11), [zR 5, zL a1, zR 0, zI a2], [], F, G, zsg) rfl ?_
    refine zle_le (fun _ => ?_) (fun _ => ?_)
    · refine zle_many 1 (20, 13, [zR 5, zL a1, zR 0, zI a2], [zI (-2)], F, G, zsg) rfl ?_
      exact zle_ret rfl
    · refine zle_many 7 (20, (bif zcmp .le (zadd (F 46 1) a2) 120 then 31 else 28), [zR 5, zL a1, zR 0, zI a2], [], F, G, zsg) rfl ?_
      refine zle_le (fun _ => ?_) (fun _ => ?_)
      · refine zle_many 1 (20, 30, [zR 5, zL a1, zR 0, zI a2], [zI (-4)], F, G, zsg) rfl ?_
        exact zle_ret rfl
      · refine zle_many 4 (20, 37, [zR 5, zL a1, zR 0, zI a2], [zI a2, zL a1, zR 46], F, G, zsg) rfl ?_
        refine zle_V rfl (fun F1 G1 => ?_)
        refine zle_many 3 (20, 47, [zR 5, zL a1, zR 0, zI a2], [zI (F1 46 1)], F1, G1, zsg) rfl ?_
        exact zle_ret rfl
set_option maxRecDepth 20000 in
theorem g_C_program {d : Nat} {F : zM} {G : zG}  : zle (
  if (F 46 2) < 6 then
  zbI (zex d 218 [zR 46] (F, G, zsg)) (fun v1 F1 G1 =>
    if v1 = (-1) then
      some (some (zI (zsub (F1 46 2) 1)), F1, G1, zsg)
    else
      some (some (zI (zsub (-100) v1)), F1, G1, zsg))
else
  some (some (zI (-4)), F, G, zsg)) (zex (d + 1) 21 [zR 5] (F, G, zsg)) := by
  refine zle_ent (ls := [zR 5, zR 0]) ?_
  refine zle_many 5 (21, (bif zcmp .lt (F 46 2) 6 then 15 else 12), [zR 5, zR 0], [], F, G, zsg) rfl ?_
  refine zle_lt (fun _ => ?_) (fun _ => ?_)
  · refine zle_many 2 (21, 19, [zR 5, zR 0], [zR 46], F, G, zsg) rfl ?_
    refine zle_I rfl (fun v1 F1 G1 => ?_)
    refine zle_many 4 (21, (bif zcmp .ne v1 (-1) then 40 else 28), [zR 5, zI v1], [], F1, G1, zsg) rfl ?_
    refine zle_ne (fun _ => ?_) (fun _ => ?_)
    · refine zle_many 6 (21, 44, [zR 5, zI v1], [zI (zsub (F1 46 2) 1)], F1, G1, zsg) rfl ?_
      exact zle_ret rfl
    · refine zle_many 3 (21, 44, [zR 5, zI v1], [zI (zsub (-100) v1)], F1, G1, zsg) rfl ?_
      exact zle_ret rfl
  · refine zle_many 1 (21, 14, [zR 5, zR 0], [zI (-4)], F, G, zsg) rfl ?_
    exact zle_ret rfl
set_option maxRecDepth 20000 in
theorem g_C_actTold {d : Nat} {F : zM} {G : zG} (a1 : Int) (a2 : Int) (a3 : Int) : zle (
  zbI (zex d 45 [zR 5, zI a1] (F, G, zsg)) (fun v1 F1 G1 =>
  if v1 = 0 then
    some (some (zI (-5)), F1, G1, zsg)
  else
    if a3 = 3 then
      if 0 ≤ a1 ∧ a1 < 6 then
        some (some (zI (F1 48 (Int.toNat a1))), F1, G1, zsg)
      else none
    else
      if a2 < 0 then
        some (some (zI (-7)), F1, G1, zsg)
      else
        if 0 ≤ a1 ∧ a1 < 6 then
          if a2 < (F1 48 (Int.toNat a1)) then
            if a3 = 0 then
              zbI (zex d 216 [zI a1, zI a2] (F1, G1, zsg)) (fun v4 F4 G4 =>
                if 0 ≤ v4 ∧ v4 < 72 then
                  some (some (zI (F4 49 (Int.toNat v4))), F4, G4, zsg)
                else none)
            else
            if a3 = 1 then
              zbI (zex d 216 [zI a1, zI a2] (F1, G1, zsg)) (fun v3 F3 G3 =>
                if 0 ≤ v3 ∧ v3 < 72 then
                  some (some (zI (F3 50 (Int.toNat v3))), F3, G3, zsg)
                else none)
            else
            if a3 = 2 then
              zbI (zex d 216 [zI a1, zI a2] (F1, G1, zsg)) (fun v2 F2 G2 =>
                if 0 ≤ v2 ∧ v2 < 72 then
                  some (some (zI (F2 51 (Int.toNat v2))), F2, G2, zsg)
                else none)
            else
            some (some (zI (-7)), F1, G1, zsg)
          else
            some (some (zI (-7)), F1, G1, zsg)
        else none)) (zex (d + 1) 22 [zR 5, zI a1, zI a2, zI a3] (F, G, zsg)) := by
  refine zle_ent (ls := [zR 5, zI a1, zI a2, zI a3]) ?_
  refine zle_many 2 (22, 2, [zR 5, zI a1, zI a2, zI a3], [zI a1, zR 5], F, G, zsg) rfl ?_
  refine zle_I rfl (fun v1 F1 G1 => ?_)
  refine zle_many 1 (22, (bif zcmp .ne v1 0 then 11 else 8), [zR 5, zI a1, zI a2, zI a3], [], F1, G1, zsg) rfl ?_
  refine zle_ne (fun _ => ?_) (fun _ => ?_)
  · refine zle_many 1 (22, 10, [zR 5, zI a1, zI a2, zI a3], [zI (-5)], F1, G1, zsg) rfl ?_
    exact zle_ret rfl
  · refine zle_many 3 (22, (bif zcmp .ne a3 3 then 26 else 16), [zR 5, zI a1, zI a2, zI a3], [], F1, G1, zsg) rfl ?_
    refine zle_ne (fun _ => ?_) (fun _ => ?_)
    · refine zle_many 4 (22, 24, [zR 5, zI a1, zI a2, zI a3], [zI a1, zR 48], F1, G1, zsg) rfl ?_
      refine zle_ald rfl rfl rfl (fun _ => ?_)
      exact zle_ret rfl
    · refine zle_many 2 (22, (bif zcmp .lt a2 0 then 43 else 30), [zR 5, zI a1, zI a2, zI a3], [], F1, G1, zsg) rfl ?_
      refine zle_lt (fun _ => ?_) (fun _ => ?_)
      · refine zle_many 1 (22, 45, [zR 5, zI a1, zI a2, zI a3], [zI (-7)], F1, G1, zsg) rfl ?_
        exact zle_ret rfl
      · refine zle_many 5 (22, 39, [zR 5, zI a1, zI a2, zI a3], [zI a1, zR 48, zI a2], F1, G1, zsg) rfl ?_
        refine zle_ald rfl rfl rfl (fun _ => ?_)
        refine zle_many 1 (22, (bif zcmp .lt a2 (F1 48 (Int.toNat a1)) then 46 else 43), [zR 5, zI a1, zI a2, zI a3], [], F1, G1, zsg) rfl ?_
        refine zle_lt (fun _ => ?_) (fun _ => ?_)
        · refine zle_many 2 (22, zsw a3 [(0, 72), (1, 86), (2, 100)] 114, [zR 5, zI a1, zI a2, zI a3], [], F1, G1, zsg) rfl ?_
          refine zle_sw (fun _ => ?_) (fun _ => ?_)
          · refine zle_many 5 (22, 81, [zR 5, zI a1, zI a2, zI a3], [zI a2, zI a1, zR 49], F1, G1, zsg) rfl ?_
            refine zle_I rfl (fun v4 F4 G4 => ?_)
            refine zle_ald rfl rfl rfl (fun _ => ?_)
            exact zle_ret rfl
          · refine zle_sw (fun _ => ?_) (fun _ => ?_)
            · refine zle_many 5 (22, 95, [zR 5, zI a1, zI a2, zI a3], [zI a2, zI a1, zR 50], F1, G1, zsg) rfl ?_
              refine zle_I rfl (fun v3 F3 G3 => ?_)
              refine zle_ald rfl rfl rfl (fun _ => ?_)
              exact zle_ret rfl
            · refine zle_sw (fun _ => ?_) (fun _ => ?_)
              · refine zle_many 5 (22, 109, [zR 5, zI a1, zI a2, zI a3], [zI a2, zI a1, zR 51], F1, G1, zsg) rfl ?_
                refine zle_I rfl (fun v2 F2 G2 => ?_)
                refine zle_ald rfl rfl rfl (fun _ => ?_)
                exact zle_ret rfl
              · refine zle_many 1 (22, 116, [zR 5, zI a1, zI a2, zI a3], [zI (-7)], F1, G1, zsg) rfl ?_
                exact zle_ret rfl
        · refine zle_many 1 (22, 45, [zR 5, zI a1, zI a2, zI a3], [zI (-7)], F1, G1, zsg) rfl ?_
          exact zle_ret rfl
set_option maxRecDepth 20000 in
theorem g_C_judge {d : Nat} {F : zM} {G : zG} (a1 : Int) (a2 : Int) (a3 : Int) : zle (
  zbI (zex d 41 [zI a1] (F, G, zsg)) (fun v1 F1 G1 =>
  if v1 = 0 then
    some (some (zI (-5)), F1, G1, zsg)
  else
    zbI (zex d 45 [zR 5, zI a2] (F1, G1, zsg)) (fun v2 F2 G2 =>
      if v2 = 0 then
        some (some (zI (-5)), F2, G2, zsg)
      else
        if a3 < (-1) then
          some (some (zI (-7)), F2, G2, zsg)
        else
          if 2 < a3 then
            some (some (zI (-7)), F2, G2, zsg)
          else
            zbV (zex d 198 [zR 22, zR 11] (F2, G2, zsg)) (fun F3 G3 =>
              zbI (zex d 143 [zR 52, zR 22, zI a1, zI a2] (F3, G3, zsg)) (fun v4 F4 G4 =>
                if a3 = -1 then
                  some (some (zI (F4 52 3)), F4, G4, zsg)
                else
                if a3 = 0 then
                  some (some (zI v4), F4, G4, zsg)
                else
                if a3 = 1 then
                  if 0 ≤ a1 ∧ a1 < 2 then
                    if 0 ≤ a1 ∧ a1 < 2 then
                      some (some (zI (zsub (F4 28 (Int.toNat a1)) (F4 17 (Int.toNat a1)))), F4, G4, zsg)
                    else none
                  else none
                else
                if 0 ≤ a1 ∧ a1 < 2 then
                    some (some (zI (F4 26 (Int.toNat a1))), F4, G4, zsg)
                  else none))))) (zex (d + 1) 23 [zR 5, zI a1, zI a2, zI a3] (F, G, zsg)) := by
  refine zle_ent (ls := [zR 5, zI a1, zI a2, zI a3, zR 0]) ?_
  refine zle_many 1 (23, 1, [zR 5, zI a1, zI a2, zI a3, zR 0], [zI a1], F, G, zsg) rfl ?_
  refine zle_I rfl (fun v1 F1 G1 => ?_)
  refine zle_many 1 (23, (bif zcmp .eq v1 0 then 15 else 7), [zR 5, zI a1, zI a2, zI a3, zR 0], [], F1, G1, zsg) rfl ?_
  refine zle_eq (fun _ => ?_) (fun _ => ?_)
  · refine zle_many 1 (23, 17, [zR 5, zI a1, zI a2, zI a3, zR 0], [zI (-5)], F1, G1, zsg) rfl ?_
    exact zle_ret rfl
  · refine zle_many 2 (23, 9, [zR 5, zI a1, zI a2, zI a3, zR 0], [zI a2, zR 5], F1, G1, zsg) rfl ?_
    refine zle_I rfl (fun v2 F2 G2 => ?_)
    refine zle_many 1 (23, (bif zcmp .ne v2 0 then 18 else 15), [zR 5, zI a1, zI a2, zI a3, zR 0], [], F2, G2, zsg) rfl ?_
    refine zle_ne (fun _ => ?_) (fun _ => ?_)
    · refine zle_many 1 (23, 17, [zR 5, zI a1, zI a2, zI a3, zR 0], [zI (-5)], F2, G2, zsg) rfl ?_
      exact zle_ret rfl
    · refine zle_many 3 (23, (bif zcmp .lt a3 (-1) then 28 else 23), [zR 5, zI a1, zI a2, zI a3, zR 0], [], F2, G2, zsg) rfl ?_
      refine zle_lt (fun _ => ?_) (fun _ => ?_)
      · refine zle_many 1 (23, 30, [zR 5, zI a1, zI a2, zI a3, zR 0], [zI (-7)], F2, G2, zsg) rfl ?_
        exact zle_ret rfl
      · refine zle_many 3 (23, (bif zcmp .le a3 2 then 31 else 28), [zR 5, zI a1, zI a2, zI a3, zR 0], [], F2, G2, zsg) rfl ?_
        refine zle_le (fun _ => ?_) (fun _ => ?_)
        · refine zle_many 1 (23, 30, [zR 5, zI a1, zI a2, zI a3, zR 0], [zI (-7)], F2, G2, zsg) rfl ?_
          exact zle_ret rfl
        · refine zle_many 4 (23, 39, [zR 5, zI a1, zI a2, zI a3, zR 0], [zR 11, zR 22], F2, G2, zsg) rfl ?_
          refine zle_V rfl (fun F3 G3 => ?_)
          refine zle_many 6 (23, 52, [zR 5, zI a1, zI a2, zI a3, zR 0], [zI a2, zI a1, zR 22, zR 52], F3, G3, zsg) rfl ?_
          refine zle_I rfl (fun v4 F4 G4 => ?_)
          refine zle_many 3 (23, zsw a3 [(-1, 84), (0, 92), (1, 95)] 115, [zR 5, zI a1, zI a2, zI a3, zI v4], [], F4, G4, zsg) rfl ?_
          refine zle_sw (fun _ => ?_) (fun _ => ?_)
          · refine zle_many 3 (23, 91, [zR 5, zI a1, zI a2, zI a3, zI v4], [zI (F4 52 3)], F4, G4, zsg) rfl ?_
            exact zle_ret rfl
          · refine zle_sw (fun _ => ?_) (fun _ => ?_)
            · refine zle_many 1 (23, 94, [zR 5, zI a1, zI a2, zI a3, zI v4], [zI v4], F4, G4, zsg) rfl ?_
              exact zle_ret rfl
            · refine zle_sw (fun _ => ?_) (fun _ => ?_)
              · refine zle_many 4 (23, 103, [zR 5, zI a1, zI a2, zI a3, zI v4], [zI a1, zR 28], F4, G4, zsg) rfl ?_
                refine zle_ald rfl rfl rfl (fun _ => ?_)
                refine zle_many 4 (23, 112, [zR 5, zI a1, zI a2, zI a3, zI v4], [zI a1, zR 17, zI (F4 28 (Int.toNat a1))], F4, G4, zsg) rfl ?_
                refine zle_ald rfl rfl rfl (fun _ => ?_)
                refine zle_many 1 (23, 114, [zR 5, zI a1, zI a2, zI a3, zI v4], [zI (zsub (F4 28 (Int.toNat a1)) (F4 17 (Int.toNat a1)))], F4, G4, zsg) rfl ?_
                exact zle_ret rfl
              · refine zle_many 4 (23, 123, [zR 5, zI a1, zI a2, zI a3, zI v4], [zI a1, zR 26], F4, G4, zsg) rfl ?_
                refine zle_ald rfl rfl rfl (fun _ => ?_)
                exact zle_ret rfl
set_option maxRecDepth 20000 in
theorem g_C_play {d : Nat} {F : zM} {G : zG} (a1 : Int) (a2 : Int) : zle (
  zbI (zex d 41 [zI a1] (F, G, zsg)) (fun v1 F1 G1 =>
  if v1 = 0 then
    some (some (zI (-5)), F1, G1, zsg)
  else
    zbI (zex d 45 [zR 5, zI a2] (F1, G1, zsg)) (fun v2 F2 G2 =>
      if v2 = 0 then
        some (some (zI (-5)), F2, G2, zsg)
      else
        zbV (zex d 198 [zR 22, zR 11] (F2, G2, zsg)) (fun F3 G3 =>
          zbI (zex d 143 [zR 52, zR 22, zI a1, zI a2] (F3, G3, zsg)) (fun v4 F4 G4 =>
            if v4 = 0 then
              zbV (zex d 198 [zR 11, zR 22] (F4, G4, zsg)) (fun F5 G5 =>
                if 0 ≤ a1 ∧ a1 < 2 then
                  some (some (zI (F5 17 (Int.toNat a1))), F5, G5, zsg)
                else none)
            else
              some (some (zI (zsub (-10) v4)), F4, G4, zsg)))))) (zex (d + 1) 24 [zR 5, zI a1, zI a2] (F, G, zsg)) := by
  refine zle_ent (ls := [zR 5, zI a1, zI a2, zR 0]) ?_
  refine zle_many 1 (24, 1, [zR 5, zI a1, zI a2, zR 0], [zI a1], F, G, zsg) rfl ?_
  refine zle_I rfl (fun v1 F1 G1 => ?_)
  refine zle_many 1 (24, (bif zcmp .eq v1 0 then 15 else 7), [zR 5, zI a1, zI a2, zR 0], [], F1, G1, zsg) rfl ?_
  refine zle_eq (fun _ => ?_) (fun _ => ?_)
  · refine zle_many 1 (24, 17, [zR 5, zI a1, zI a2, zR 0], [zI (-5)], F1, G1, zsg) rfl ?_
    exact zle_ret rfl
  · refine zle_many 2 (24, 9, [zR 5, zI a1, zI a2, zR 0], [zI a2, zR 5], F1, G1, zsg) rfl ?_
    refine zle_I rfl (fun v2 F2 G2 => ?_)
    refine zle_many 1 (24, (bif zcmp .ne v2 0 then 18 else 15), [zR 5, zI a1, zI a2, zR 0], [], F2, G2, zsg) rfl ?_
    refine zle_ne (fun _ => ?_) (fun _ => ?_)
    · refine zle_many 1 (24, 17, [zR 5, zI a1, zI a2, zR 0], [zI (-5)], F2, G2, zsg) rfl ?_
      exact zle_ret rfl
    · refine zle_many 4 (24, 26, [zR 5, zI a1, zI a2, zR 0], [zR 11, zR 22], F2, G2, zsg) rfl ?_
      refine zle_V rfl (fun F3 G3 => ?_)
      refine zle_many 6 (24, 39, [zR 5, zI a1, zI a2, zR 0], [zI a2, zI a1, zR 22, zR 52], F3, G3, zsg) rfl ?_
      refine zle_I rfl (fun v4 F4 G4 => ?_)
      refine zle_many 3 (24, (bif zcmp .eq v4 0 then 52 else 47), [zR 5, zI a1, zI a2, zI v4], [], F4, G4, zsg) rfl ?_
      refine zle_eq (fun _ => ?_) (fun _ => ?_)
      · refine zle_many 4 (24, 60, [zR 5, zI a1, zI a2, zI v4], [zR 22, zR 11], F4, G4, zsg) rfl ?_
        refine zle_V rfl (fun F5 G5 => ?_)
        refine zle_many 4 (24, 71, [zR 5, zI a1, zI a2, zI v4], [zI a1, zR 17], F5, G5, zsg) rfl ?_
        refine zle_ald rfl rfl rfl (fun _ => ?_)
        exact zle_ret rfl
      · refine zle_many 3 (24, 51, [zR 5, zI a1, zI a2, zI v4], [zI (zsub (-10) v4)], F4, G4, zsg) rfl ?_
        exact zle_ret rfl
set_option maxRecDepth 20000 in
theorem g_C_start {d : Nat} {F : zM} {G : zG} (a1 : Int) (a2 : Int) : zle (
  zbI (zex d 41 [zI a1] (F, G, zsg)) (fun v1 F1 G1 =>
  if v1 = 0 then
    some (some (zI (-5)), F1, G1, zsg)
  else
    zbI (zex d 45 [zR 5, zI a2] (F1, G1, zsg)) (fun v2 F2 G2 =>
      if v2 = 0 then
        some (some (zI (-5)), F2, G2, zsg)
      else
        if 0 ≤ a1 ∧ a1 < 2 then
          if (F2 18 (Int.toNat a1)) < 0 then
            zbV (zex d 205 [zR 11, zI a1, zI a2] (F2, G2, zsg)) (fun F3 G3 =>
              some (some (zI a2), F3, G3, zsg))
          else
            some (some (zI (-3)), F2, G2, zsg)
        else none))) (zex (d + 1) 25 [zR 5, zI a1, zI a2] (F, G, zsg)) := by
  refine zle_ent (ls := [zR 5, zI a1, zI a2]) ?_
  refine zle_many 1 (25, 1, [zR 5, zI a1, zI a2], [zI a1], F, G, zsg) rfl ?_
  refine zle_I rfl (fun v1 F1 G1 => ?_)
  refine zle_many 1 (25, (bif zcmp .eq v1 0 then 15 else 7), [zR 5, zI a1, zI a2], [], F1, G1, zsg) rfl ?_
  refine zle_eq (fun _ => ?_) (fun _ => ?_)
  · refine zle_many 1 (25, 17, [zR 5, zI a1, zI a2], [zI (-5)], F1, G1, zsg) rfl ?_
    exact zle_ret rfl
  · refine zle_many 2 (25, 9, [zR 5, zI a1, zI a2], [zI a2, zR 5], F1, G1, zsg) rfl ?_
    refine zle_I rfl (fun v2 F2 G2 => ?_)
    refine zle_many 1 (25, (bif zcmp .ne v2 0 then 18 else 15), [zR 5, zI a1, zI a2], [], F2, G2, zsg) rfl ?_
    refine zle_ne (fun _ => ?_) (fun _ => ?_)
    · refine zle_many 1 (25, 17, [zR 5, zI a1, zI a2], [zI (-5)], F2, G2, zsg) rfl ?_
      exact zle_ret rfl
    · refine zle_many 4 (25, 26, [zR 5, zI a1, zI a2], [zI a1, zR 18], F2, G2, zsg) rfl ?_
      refine zle_ald rfl rfl rfl (fun _ => ?_)
      refine zle_many 1 (25, (bif zcmp .lt (F2 18 (Int.toNat a1)) 0 then 33 else 30), [zR 5, zI a1, zI a2], [], F2, G2, zsg) rfl ?_
      refine zle_lt (fun _ => ?_) (fun _ => ?_)
      · refine zle_many 4 (25, 39, [zR 5, zI a1, zI a2], [zI a2, zI a1, zR 11], F2, G2, zsg) rfl ?_
        refine zle_V rfl (fun F3 G3 => ?_)
        refine zle_many 1 (25, 43, [zR 5, zI a1, zI a2], [zI a2], F3, G3, zsg) rfl ?_
        exact zle_ret rfl
      · refine zle_many 1 (25, 32, [zR 5, zI a1, zI a2], [zI (-3)], F2, G2, zsg) rfl ?_
        exact zle_ret rfl
set_option maxRecDepth 20000 in
theorem g_C_run {d : Nat} {F : zM} {G : zG} (a1 : Int) : zle (
  if a1 < 1 then
  some (some (zI (-2)), F, G, zsg)
else
  if 100 < a1 then
    some (some (zI (-2)), F, G, zsg)
  else
    if 5000 < (zadd (F 11 0) a1) then
      some (some (zI (-4)), F, G, zsg)
    else
      zev zX0 d (26, 34, [zR 5, zI a1, zI 0], [], F, G, zsg)) (zex (d + 1) 26 [zR 5, zI a1] (F, G, zsg)) := by
  refine zle_ent (ls := [zR 5, zI a1, zR 0]) ?_
  refine zle_many 3 (26, (bif zcmp .lt a1 1 then 11 else 5), [zR 5, zI a1, zR 0], [], F, G, zsg) rfl ?_
  refine zle_lt (fun _ => ?_) (fun _ => ?_)
  · refine zle_many 1 (26, 13, [zR 5, zI a1, zR 0], [zI (-2)], F, G, zsg) rfl ?_
    exact zle_ret rfl
  · refine zle_many 3 (26, (bif zcmp .le a1 100 then 14 else 11), [zR 5, zI a1, zR 0], [], F, G, zsg) rfl ?_
    refine zle_le (fun _ => ?_) (fun _ => ?_)
    · refine zle_many 1 (26, 13, [zR 5, zI a1, zR 0], [zI (-2)], F, G, zsg) rfl ?_
      exact zle_ret rfl
    · refine zle_many 7 (26, (bif zcmp .le (zadd (F 11 0) a1) 5000 then 32 else 29), [zR 5, zI a1, zR 0], [], F, G, zsg) rfl ?_
      refine zle_le (fun _ => ?_) (fun _ => ?_)
      · refine zle_many 1 (26, 31, [zR 5, zI a1, zR 0], [zI (-4)], F, G, zsg) rfl ?_
        exact zle_ret rfl
      · refine zle_many 2 (26, 34, [zR 5, zI a1, zI 0], [], F, G, zsg) rfl ?_
        exact zle_rfl
set_option maxRecDepth 20000 in
theorem g_C_run_34 {d : Nat} {F : zM} {G : zG} (l1 : Int) (l2 : Int) : zle (
  if l2 < l1 then
  zbV (zex d 144 [zR 52, zR 11, zI 0] (F, G, zsg)) (fun F1 G1 =>
    zbV (zex d 144 [zR 52, zR 11, zI 1] (F1, G1, zsg)) (fun F2 G2 =>
      zev zX0 d (26, 34, [zR 5, zI l1, zI (zadd l2 1)], [], (zup F2 11 0 (zadd (F2 11 0) 1)), G2, zsg)))
else
  some (some (zI (F 11 0)), F, G, zsg)) (zev zX0 d (26, 34, [zR 5, zI l1, zI l2], [], F, G, zsg)) := by
  refine zle_many 3 (26, (bif zcmp .ge l2 l1 then 82 else 39), [zR 5, zI l1, zI l2], [], F, G, zsg) rfl ?_
  refine zle_ge (fun _ => ?_) (fun _ => ?_)
  · refine zle_many 5 (26, 48, [zR 5, zI l1, zI l2], [zI 0, zR 11, zR 52], F, G, zsg) rfl ?_
    refine zle_V rfl (fun F1 G1 => ?_)
    refine zle_many 5 (26, 60, [zR 5, zI l1, zI l2], [zI 1, zR 11, zR 52], F1, G1, zsg) rfl ?_
    refine zle_V rfl (fun F2 G2 => ?_)
    refine zle_many 9 (26, 34, [zR 5, zI l1, zI (zadd l2 1)], [], (zup F2 11 0 (zadd (F2 11 0) 1)), G2, zsg) rfl ?_
    exact zle_rfl
  · refine zle_many 3 (26, 89, [zR 5, zI l1, zI l2], [zI (F 11 0)], F, G, zsg) rfl ?_
    exact zle_ret rfl
set_option maxRecDepth 20000 in
theorem g_C_hangs {d : Nat} {F : zM} {G : zG} (a1 : Int) : zle (
  if a1 < 1 then
  some (some (zI (-2)), F, G, zsg)
else
  if 99 < a1 then
    some (some (zI (-2)), F, G, zsg)
  else
    zbI (zex d 201 [zR 11, zI 0, zI a1] (F, G, zsg)) (fun v1 F1 G1 =>
      if v1 = 0 then
        some (some (zI 0), F1, G1, zsg)
      else
        zbI (zex d 201 [zR 11, zI 1, zI a1] (F1, G1, zsg)) (fun v2 F2 G2 =>
          if v2 = 0 then
            some (some (zI 0), F2, G2, zsg)
          else
            some (some (zI 1), F2, G2, zsg)))) (zex (d + 1) 27 [zR 5, zI a1] (F, G, zsg)) := by
  refine zle_ent (ls := [zR 5, zI a1]) ?_
  refine zle_many 3 (27, (bif zcmp .lt a1 1 then 11 else 5), [zR 5, zI a1], [], F, G, zsg) rfl ?_
  refine zle_lt (fun _ => ?_) (fun _ => ?_)
  · refine zle_many 1 (27, 13, [zR 5, zI a1], [zI (-2)], F, G, zsg) rfl ?_
    exact zle_ret rfl
  · refine zle_many 3 (27, (bif zcmp .le a1 99 then 14 else 11), [zR 5, zI a1], [], F, G, zsg) rfl ?_
    refine zle_le (fun _ => ?_) (fun _ => ?_)
    · refine zle_many 1 (27, 13, [zR 5, zI a1], [zI (-2)], F, G, zsg) rfl ?_
      exact zle_ret rfl
    · refine zle_many 4 (27, 20, [zR 5, zI a1], [zI a1, zI 0, zR 11], F, G, zsg) rfl ?_
      refine zle_I rfl (fun v1 F1 G1 => ?_)
      refine zle_many 1 (27, (bif zcmp .eq v1 0 then 42 else 26), [zR 5, zI a1], [], F1, G1, zsg) rfl ?_
      refine zle_eq (fun _ => ?_) (fun _ => ?_)
      · refine zle_many 1 (27, 43, [zR 5, zI a1], [zI 0], F1, G1, zsg) rfl ?_
        exact zle_ret rfl
      · refine zle_many 4 (27, 32, [zR 5, zI a1], [zI a1, zI 1, zR 11], F1, G1, zsg) rfl ?_
        refine zle_I rfl (fun v2 F2 G2 => ?_)
        refine zle_many 1 (27, (bif zcmp .eq v2 0 then 42 else 38), [zR 5, zI a1], [], F2, G2, zsg) rfl ?_
        refine zle_eq (fun _ => ?_) (fun _ => ?_)
        · refine zle_many 1 (27, 43, [zR 5, zI a1], [zI 0], F2, G2, zsg) rfl ?_
          exact zle_ret rfl
        · refine zle_many 2 (27, 43, [zR 5, zI a1], [zI 1], F2, G2, zsg) rfl ?_
          exact zle_ret rfl
set_option maxRecDepth 20000 in
theorem g_C_plan {d : Nat} {F : zM} {G : zG} (a1 : Int) (a2 : Int) (a3 : Int) (a4 : Int) (a5 : Int) : zle (
  zbI (zex d 42 [zR 5, zI a1] (F, G, zsg)) (fun v1 F1 G1 =>
  if v1 = 0 then
    some (some (zI (-5)), F1, G1, zsg)
  else
    zbI (zex d 43 [zR 5, zI a2] (F1, G1, zsg)) (fun v2 F2 G2 =>
      if v2 = 0 then
        some (some (zI (-5)), F2, G2, zsg)
      else
        zbI (zex d 149 [zI a3] (F2, G2, zsg)) (fun v3 F3 G3 =>
          if v3 = 0 then
            some (some (zI (-5)), F3, G3, zsg)
          else
            zbI (zex d 208 [zI a5] (F3, G3, zsg)) (fun v4 F4 G4 =>
              if v4 = 0 then
                some (some (zI (-5)), F4, G4, zsg)
              else
                zbI (zex d 209 [zR 67, zI a5] (F4, G4, zsg)) (fun v5 F5 G5 =>
                  if v5 = 0 then
                    some (some (zI (-11)), F5, G5, zsg)
                  else
                    if 0 ≤ a5 ∧ a5 < 4 then
                      if 5 < (F5 69 (Int.toNat a5)) then
                        some (some (zI (-2)), F5, G5, zsg)
                      else
                        if a4 < 0 then
                        some (some (zI (-2)), F5, G5, zsg)
                      else
                        if 255 < a4 then
                        some (some (zI (-2)), F5, G5, zsg)
                      else
                        zev zX0 d (28, 82, [zR 5, zI a1, zI a2, zI a3, zI a4, zI a5, zI 0], [], F5, G5, zsg)
                    else none)))))) (zex (d + 1) 28 [zR 5, zI a1, zI a2, zI a3, zI a4, zI a5] (F, G, zsg)) := by
  refine zle_ent (ls := [zR 5, zI a1, zI a2, zI a3, zI a4, zI a5, zR 0]) ?_
  refine zle_many 2 (28, 2, [zR 5, zI a1, zI a2, zI a3, zI a4, zI a5, zR 0], [zI a1, zR 5], F, G, zsg) rfl ?_
  refine zle_I rfl (fun v1 F1 G1 => ?_)
  refine zle_many 1 (28, (bif zcmp .eq v1 0 then 31 else 8), [zR 5, zI a1, zI a2, zI a3, zI a4, zI a5, zR 0], [], F1, G1, zsg) rfl ?_
  refine zle_eq (fun _ => ?_) (fun _ => ?_)
  · refine zle_many 1 (28, 33, [zR 5, zI a1, zI a2, zI a3, zI a4, zI a5, zR 0], [zI (-5)], F1, G1, zsg) rfl ?_
    exact zle_ret rfl
  · refine zle_many 2 (28, 10, [zR 5, zI a1, zI a2, zI a3, zI a4, zI a5, zR 0], [zI a2, zR 5], F1, G1, zsg) rfl ?_
    refine zle_I rfl (fun v2 F2 G2 => ?_)
    refine zle_many 1 (28, (bif zcmp .eq v2 0 then 31 else 16), [zR 5, zI a1, zI a2, zI a3, zI a4, zI a5, zR 0], [], F2, G2, zsg) rfl ?_
    refine zle_eq (fun _ => ?_) (fun _ => ?_)
    · refine zle_many 1 (28, 33, [zR 5, zI a1, zI a2, zI a3, zI a4, zI a5, zR 0], [zI (-5)], F2, G2, zsg) rfl ?_
      exact zle_ret rfl
    · refine zle_many 1 (28, 17, [zR 5, zI a1, zI a2, zI a3, zI a4, zI a5, zR 0], [zI a3], F2, G2, zsg) rfl ?_
      refine zle_I rfl (fun v3 F3 G3 => ?_)
      refine zle_many 1 (28, (bif zcmp .eq v3 0 then 31 else 23), [zR 5, zI a1, zI a2, zI a3, zI a4, zI a5, zR 0], [], F3, G3, zsg) rfl ?_
      refine zle_eq (fun _ => ?_) (fun _ => ?_)
      · refine zle_many 1 (28, 33, [zR 5, zI a1, zI a2, zI a3, zI a4, zI a5, zR 0], [zI (-5)], F3, G3, zsg) rfl ?_
        exact zle_ret rfl
      · refine zle_many 1 (28, 25, [zR 5, zI a1, zI a2, zI a3, zI a4, zI a5, zR 0], [zI a5], F3, G3, zsg) rfl ?_
        refine zle_I rfl (fun v4 F4 G4 => ?_)
        refine zle_many 1 (28, (bif zcmp .ne v4 0 then 34 else 31), [zR 5, zI a1, zI a2, zI a3, zI a4, zI a5, zR 0], [], F4, G4, zsg) rfl ?_
        refine zle_ne (fun _ => ?_) (fun _ => ?_)
        · refine zle_many 1 (28, 33, [zR 5, zI a1, zI a2, zI a3, zI a4, zI a5, zR 0], [zI (-5)], F4, G4, zsg) rfl ?_
          exact zle_ret rfl
        · refine zle_many 3 (28, 40, [zR 5, zI a1, zI a2, zI a3, zI a4, zI a5, zR 0], [zI a5, zR 67], F4, G4, zsg) rfl ?_
          refine zle_I rfl (fun v5 F5 G5 => ?_)
          refine zle_many 1 (28, (bif zcmp .ne v5 0 then 49 else 46), [zR 5, zI a1, zI a2, zI a3, zI a4, zI a5, zR 0], [], F5, G5, zsg) rfl ?_
          refine zle_ne (fun _ => ?_) (fun _ => ?_)
          · refine zle_many 1 (28, 48, [zR 5, zI a1, zI a2, zI a3, zI a4, zI a5, zR 0], [zI (-11)], F5, G5, zsg) rfl ?_
            exact zle_ret rfl
          · refine zle_many 4 (28, 58, [zR 5, zI a1, zI a2, zI a3, zI a4, zI a5, zR 0], [zI a5, zR 69], F5, G5, zsg) rfl ?_
            refine zle_ald rfl rfl rfl (fun _ => ?_)
            refine zle_many 2 (28, (bif zcmp .gt (F5 69 (Int.toNat a5)) 5 then 76 else 63), [zR 5, zI a1, zI a2, zI a3, zI a4, zI a5, zR 0], [], F5, G5, zsg) rfl ?_
            refine zle_gt (fun _ => ?_) (fun _ => ?_)
            · refine zle_many 1 (28, 78, [zR 5, zI a1, zI a2, zI a3, zI a4, zI a5, zR 0], [zI (-2)], F5, G5, zsg) rfl ?_
              exact zle_ret rfl
            · refine zle_many 2 (28, (bif zcmp .lt a4 0 then 76 else 68), [zR 5, zI a1, zI a2, zI a3, zI a4, zI a5, zR 0], [], F5, G5, zsg) rfl ?_
              refine zle_lt (fun _ => ?_) (fun _ => ?_)
              · refine zle_many 1 (28, 78, [zR 5, zI a1, zI a2, zI a3, zI a4, zI a5, zR 0], [zI (-2)], F5, G5, zsg) rfl ?_
                exact zle_ret rfl
              · refine zle_many 3 (28, (bif zcmp .le a4 255 then 79 else 76), [zR 5, zI a1, zI a2, zI a3, zI a4, zI a5, zR 0], [], F5, G5, zsg) rfl ?_
                refine zle_le (fun _ => ?_) (fun _ => ?_)
                · refine zle_many 1 (28, 78, [zR 5, zI a1, zI a2, zI a3, zI a4, zI a5, zR 0], [zI (-2)], F5, G5, zsg) rfl ?_
                  exact zle_ret rfl
                · refine zle_many 2 (28, 82, [zR 5, zI a1, zI a2, zI a3, zI a4, zI a5, zI 0], [], F5, G5, zsg) rfl ?_
                  exact zle_rfl
set_option maxRecDepth 20000 in
theorem g_C_plan_82 {d : Nat} {F : zM} {G : zG} (l1 : Int) (l2 : Int) (l3 : Int) (l4 : Int) (l5 : Int) (l6 : Int) : zle (
  if 0 ≤ l5 ∧ l5 < 4 then
  if l6 < (F 69 (Int.toNat l5)) then
    zbI (zex d 211 [zR 67, zI l5, zI l6] (F, G, zsg)) (fun v4 F4 G4 =>
      zbI (zex d 149 [zI v4] (F4, G4, zsg)) (fun v5 F5 G5 =>
        if v5 = 0 then
          some (some (zI (-2)), F5, G5, zsg)
        else
          zev zX0 d (28, 82, [zR 5, zI l1, zI l2, zI l3, zI l4, zI l5, zI (zadd l6 1)], [], F5, G5, zsg)))
  else
    zbV (zex d 179 [zR 60] (F, G, zsg)) (fun F1 G1 =>
      if 0 ≤ l2 ∧ l2 < 8 then
        if (F1 12 (Int.toNat l2)) = l3 then
          zbI (zex d 180 [zR 60] (F1, G1, zsg)) (fun v3 F3 G3 =>
            some (some (zI v3), F3, G3, zsg))
        else
          if 0 ≤ l1 ∧ l1 < 2 then
            if (F1 16 (Int.toNat l1)) < 0 then
              if 0 ≤ l2 ∧ l2 < 8 then
                if (F1 13 (Int.toNat l2)) < 0 then
                  zbV (zex d 181 [zR 60] (F1, G1, zsg)) (fun F2 G2 =>
                    zev zX0 d (28, 188, [zR 5, zI l1, zI l2, zI l3, zI l4, zI l5, zI 0], [], F2, G2, zsg))
                else
                  some (some (zI (-6)), F1, G1, zsg)
              else none
            else
              some (some (zI (-6)), F1, G1, zsg)
          else none
      else none)
else none) (zev zX0 d (28, 82, [zR 5, zI l1, zI l2, zI l3, zI l4, zI l5, zI l6], [], F, G, zsg)) := by
  refine zle_many 5 (28, 93, [zR 5, zI l1, zI l2, zI l3, zI l4, zI l5, zI l6], [zI l5, zR 69, zI l6], F, G, zsg) rfl ?_
  refine zle_ald rfl rfl rfl (fun _ => ?_)
  refine zle_many 1 (28, (bif zcmp .ge l6 (F 69 (Int.toNat l5)) then 123 else 97), [zR 5, zI l1, zI l2, zI l3, zI l4, zI l5, zI l6], [], F, G, zsg) rfl ?_
  refine zle_ge (fun _ => ?_) (fun _ => ?_)
  · refine zle_many 4 (28, 105, [zR 5, zI l1, zI l2, zI l3, zI l4, zI l5, zI l6], [zI l6, zI l5, zR 67], F, G, zsg) rfl ?_
    refine zle_I rfl (fun v4 F4 G4 => ?_)
    refine zle_I rfl (fun v5 F5 G5 => ?_)
    refine zle_many 1 (28, (bif zcmp .ne v5 0 then 117 else 114), [zR 5, zI l1, zI l2, zI l3, zI l4, zI l5, zI l6], [], F5, G5, zsg) rfl ?_
    refine zle_ne (fun _ => ?_) (fun _ => ?_)
    · refine zle_many 1 (28, 116, [zR 5, zI l1, zI l2, zI l3, zI l4, zI l5, zI l6], [zI (-2)], F5, G5, zsg) rfl ?_
      exact zle_ret rfl
    · refine zle_many 2 (28, 82, [zR 5, zI l1, zI l2, zI l3, zI l4, zI l5, zI (zadd l6 1)], [], F5, G5, zsg) rfl ?_
      exact zle_rfl
  · refine zle_many 2 (28, 127, [zR 5, zI l1, zI l2, zI l3, zI l4, zI l5, zI l6], [zR 60], F, G, zsg) rfl ?_
    refine zle_V rfl (fun F1 G1 => ?_)
    refine zle_many 4 (28, 138, [zR 5, zI l1, zI l2, zI l3, zI l4, zI l5, zI l6], [zI l2, zR 12], F1, G1, zsg) rfl ?_
    refine zle_ald rfl rfl rfl (fun _ => ?_)
    refine zle_many 2 (28, (bif zcmp .ne (F1 12 (Int.toNat l2)) l3 then 151 else 143), [zR 5, zI l1, zI l2, zI l3, zI l4, zI l5, zI l6], [], F1, G1, zsg) rfl ?_
    refine zle_ne (fun _ => ?_) (fun _ => ?_)
    · refine zle_many 2 (28, 147, [zR 5, zI l1, zI l2, zI l3, zI l4, zI l5, zI l6], [zR 60], F1, G1, zsg) rfl ?_
      refine zle_I rfl (fun v3 F3 G3 => ?_)
      exact zle_ret rfl
    · refine zle_many 4 (28, 159, [zR 5, zI l1, zI l2, zI l3, zI l4, zI l5, zI l6], [zI l1, zR 16], F1, G1, zsg) rfl ?_
      refine zle_ald rfl rfl rfl (fun _ => ?_)
      refine zle_many 1 (28, (bif zcmp .ge (F1 16 (Int.toNat l1)) 0 then 175 else 163), [zR 5, zI l1, zI l2, zI l3, zI l4, zI l5, zI l6], [], F1, G1, zsg) rfl ?_
      refine zle_ge (fun _ => ?_) (fun _ => ?_)
      · refine zle_many 4 (28, 171, [zR 5, zI l1, zI l2, zI l3, zI l4, zI l5, zI l6], [zI l2, zR 13], F1, G1, zsg) rfl ?_
        refine zle_ald rfl rfl rfl (fun _ => ?_)
        refine zle_many 1 (28, (bif zcmp .lt (F1 13 (Int.toNat l2)) 0 then 178 else 175), [zR 5, zI l1, zI l2, zI l3, zI l4, zI l5, zI l6], [], F1, G1, zsg) rfl ?_
        refine zle_lt (fun _ => ?_) (fun _ => ?_)
        · refine zle_many 2 (28, 182, [zR 5, zI l1, zI l2, zI l3, zI l4, zI l5, zI l6], [zR 60], F1, G1, zsg) rfl ?_
          refine zle_V rfl (fun F2 G2 => ?_)
          refine zle_many 2 (28, 188, [zR 5, zI l1, zI l2, zI l3, zI l4, zI l5, zI 0], [], F2, G2, zsg) rfl ?_
          exact zle_rfl
        · refine zle_many 1 (28, 177, [zR 5, zI l1, zI l2, zI l3, zI l4, zI l5, zI l6], [zI (-6)], F1, G1, zsg) rfl ?_
          exact zle_ret rfl
      · refine zle_many 1 (28, 177, [zR 5, zI l1, zI l2, zI l3, zI l4, zI l5, zI l6], [zI (-6)], F1, G1, zsg) rfl ?_
        exact zle_ret rfl
set_option maxRecDepth 20000 in
theorem g_C_plan_188 {d : Nat} {F : zM} {G : zG} (l1 : Int) (l2 : Int) (l3 : Int) (l4 : Int) (l5 : Int) (l6 : Int) : zle (
  if 0 ≤ l5 ∧ l5 < 4 then
  if l6 < (F 69 (Int.toNat l5)) then
    zbI (zex d 211 [zR 67, zI l5, zI l6] (F, G, zsg)) (fun v3 F3 G3 =>
      zbV (zex d 182 [zR 60, zI v3] (F3, G3, zsg)) (fun F4 G4 =>
        zev zX0 d (28, 188, [zR 5, zI l1, zI l2, zI l3, zI l4, zI l5, zI (zadd l6 1)], [], F4, G4, zsg)))
  else
    zbV (zex d 198 [zR 22, zR 11] (F, G, zsg)) (fun F1 G1 =>
      zbI (zex d 184 [zR 60, zI l1, zI l2, zI l3, zI l4] (F1, G1, zsg)) (fun v2 F2 G2 =>
        if v2 = 0 then
          some (some (zI (-3)), F2, G2, zsg)
        else
          some (some (zI v2), F2, G2, zsg)))
else none) (zev zX0 d (28, 188, [zR 5, zI l1, zI l2, zI l3, zI l4, zI l5, zI l6], [], F, G, zsg)) := by
  refine zle_many 5 (28, 199, [zR 5, zI l1, zI l2, zI l3, zI l4, zI l5, zI l6], [zI l5, zR 69, zI l6], F, G, zsg) rfl ?_
  refine zle_ald rfl rfl rfl (fun _ => ?_)
  refine zle_many 1 (28, (bif zcmp .ge l6 (F 69 (Int.toNat l5)) then 227 else 203), [zR 5, zI l1, zI l2, zI l3, zI l4, zI l5, zI l6], [], F, G, zsg) rfl ?_
  refine zle_ge (fun _ => ?_) (fun _ => ?_)
  · refine zle_many 6 (28, 215, [zR 5, zI l1, zI l2, zI l3, zI l4, zI l5, zI l6], [zI l6, zI l5, zR 67, zR 60], F, G, zsg) rfl ?_
    refine zle_I rfl (fun v3 F3 G3 => ?_)
    refine zle_V rfl (fun F4 G4 => ?_)
    refine zle_many 2 (28, 188, [zR 5, zI l1, zI l2, zI l3, zI l4, zI l5, zI (zadd l6 1)], [], F4, G4, zsg) rfl ?_
    exact zle_rfl
  · refine zle_many 4 (28, 235, [zR 5, zI l1, zI l2, zI l3, zI l4, zI l5, zI l6], [zR 11, zR 22], F, G, zsg) rfl ?_
    refine zle_V rfl (fun F1 G1 => ?_)
    refine zle_many 6 (28, 247, [zR 5, zI l1, zI l2, zI l3, zI l4, zI l5, zI l6], [zI l4, zI l3, zI l2, zI l1, zR 60], F1, G1, zsg) rfl ?_
    refine zle_I rfl (fun v2 F2 G2 => ?_)
    refine zle_many 3 (28, (bif zcmp .ne v2 0 then 262 else 257), [zR 5, zI l1, zI l2, zI l3, zI l4, zI l5, zI v2], [], F2, G2, zsg) rfl ?_
    refine zle_ne (fun _ => ?_) (fun _ => ?_)
    · refine zle_many 2 (28, 264, [zR 5, zI l1, zI l2, zI l3, zI l4, zI l5, zI v2], [zI (-3)], F2, G2, zsg) rfl ?_
      exact zle_ret rfl
    · refine zle_many 1 (28, 264, [zR 5, zI l1, zI l2, zI l3, zI l4, zI l5, zI v2], [zI v2], F2, G2, zsg) rfl ?_
      exact zle_ret rfl
set_option maxRecDepth 20000 in
theorem g_C_planned {d : Nat} {F : zM} {G : zG} (a1 : Int) (a2 : Int) : zle (
  if a2 = 3 then
  if (F 60 11) < 0 then
    some (some (zI (-3)), F, G, zsg)
  else
    some (some (zI (F 60 12)), F, G, zsg)
else
  if a2 < 0 then
    some (some (zI (-7)), F, G, zsg)
  else
    if 3 < a2 then
      some (some (zI (-7)), F, G, zsg)
    else
      if a1 < 0 then
        some (some (zI (-7)), F, G, zsg)
      else
        if a1 < (F 60 11) then
          zbI (zex d 183 [zR 60, zI a1, zI a2] (F, G, zsg)) (fun v1 F1 G1 =>
            some (some (zI v1), F1, G1, zsg))
        else
          some (some (zI (-7)), F, G, zsg)) (zex (d + 1) 29 [zR 5, zI a1, zI a2] (F, G, zsg)) := by
  refine zle_ent (ls := [zR 5, zI a1, zI a2]) ?_
  refine zle_many 3 (29, (bif zcmp .ne a2 3 then 28 else 5), [zR 5, zI a1, zI a2], [], F, G, zsg) rfl ?_
  refine zle_ne (fun _ => ?_) (fun _ => ?_)
  · refine zle_many 4 (29, (bif zcmp .ge (F 60 11) 0 then 20 else 15), [zR 5, zI a1, zI a2], [], F, G, zsg) rfl ?_
    refine zle_ge (fun _ => ?_) (fun _ => ?_)
    · refine zle_many 2 (29, 27, [zR 5, zI a1, zI a2], [zI (-3)], F, G, zsg) rfl ?_
      exact zle_ret rfl
    · refine zle_many 3 (29, 27, [zR 5, zI a1, zI a2], [zI (F 60 12)], F, G, zsg) rfl ?_
      exact zle_ret rfl
  · refine zle_many 2 (29, (bif zcmp .lt a2 0 then 52 else 32), [zR 5, zI a1, zI a2], [], F, G, zsg) rfl ?_
    refine zle_lt (fun _ => ?_) (fun _ => ?_)
    · refine zle_many 1 (29, 54, [zR 5, zI a1, zI a2], [zI (-7)], F, G, zsg) rfl ?_
      exact zle_ret rfl
    · refine zle_many 3 (29, (bif zcmp .gt a2 3 then 52 else 37), [zR 5, zI a1, zI a2], [], F, G, zsg) rfl ?_
      refine zle_gt (fun _ => ?_) (fun _ => ?_)
      · refine zle_many 1 (29, 54, [zR 5, zI a1, zI a2], [zI (-7)], F, G, zsg) rfl ?_
        exact zle_ret rfl
      · refine zle_many 2 (29, (bif zcmp .lt a1 0 then 52 else 41), [zR 5, zI a1, zI a2], [], F, G, zsg) rfl ?_
        refine zle_lt (fun _ => ?_) (fun _ => ?_)
        · refine zle_many 1 (29, 54, [zR 5, zI a1, zI a2], [zI (-7)], F, G, zsg) rfl ?_
          exact zle_ret rfl
        · refine zle_many 5 (29, (bif zcmp .lt a1 (F 60 11) then 55 else 52), [zR 5, zI a1, zI a2], [], F, G, zsg) rfl ?_
          refine zle_lt (fun _ => ?_) (fun _ => ?_)
          · refine zle_many 4 (29, 61, [zR 5, zI a1, zI a2], [zI a2, zI a1, zR 60], F, G, zsg) rfl ?_
            refine zle_I rfl (fun v1 F1 G1 => ?_)
            exact zle_ret rfl
          · refine zle_many 1 (29, 54, [zR 5, zI a1, zI a2], [zI (-7)], F, G, zsg) rfl ?_
            exact zle_ret rfl
set_option maxRecDepth 20000 in
theorem g_C_learnt {d : Nat} {F : zM} {G : zG} (a1 : Int) : zle (
  if a1 = 0 then
  some (some (zI (F 53 0)), F, G, zsg)
else
if a1 = 1 then
  some (some (zI (F 53 1)), F, G, zsg)
else
if a1 = 2 then
  some (some (zI (F 60 10)), F, G, zsg)
else
some (some (zI (-2)), F, G, zsg)) (zex (d + 1) 30 [zR 5, zI a1] (F, G, zsg)) := by
  refine zle_ent (ls := [zR 5, zI a1]) ?_
  refine zle_many 2 (30, zsw a1 [(0, 28), (1, 36), (2, 44)] 52, [zR 5, zI a1], [], F, G, zsg) rfl ?_
  refine zle_sw (fun _ => ?_) (fun _ => ?_)
  · refine zle_many 3 (30, 35, [zR 5, zI a1], [zI (F 53 0)], F, G, zsg) rfl ?_
    exact zle_ret rfl
  · refine zle_sw (fun _ => ?_) (fun _ => ?_)
    · refine zle_many 3 (30, 43, [zR 5, zI a1], [zI (F 53 1)], F, G, zsg) rfl ?_
      exact zle_ret rfl
    · refine zle_sw (fun _ => ?_) (fun _ => ?_)
      · refine zle_many 3 (30, 51, [zR 5, zI a1], [zI (F 60 10)], F, G, zsg) rfl ?_
        exact zle_ret rfl
      · refine zle_many 1 (30, 54, [zR 5, zI a1], [zI (-2)], F, G, zsg) rfl ?_
        exact zle_ret rfl
set_option maxRecDepth 20000 in
theorem g_C_maybe {d : Nat} {F : zM} {G : zG} (a1 : Int) (a2 : Int) (a3 : Int) : zle (
  zbI (zex d 43 [zR 5, zI a1] (F, G, zsg)) (fun v1 F1 G1 =>
  if v1 = 0 then
    some (some (zI (-1)), F1, G1, zsg)
  else
    zbI (zex d 149 [zI a2] (F1, G1, zsg)) (fun v2 F2 G2 =>
      if v2 = 0 then
        some (some (zI (-1)), F2, G2, zsg)
      else
        if a3 < 1 then
          some (some (zI (-2)), F2, G2, zsg)
        else
          if 99 < a3 then
            some (some (zI (-2)), F2, G2, zsg)
          else
            if 0 < (F2 64 4) then
              if (F2 64 5) = a1 then
                if (F2 64 4) < 6 then
                  zbI (zex d 164 [zR 64, zI a1, zI a2, zI a3] (F2, G2, zsg)) (fun v4 F4 G4 =>
                    some (some (zI v4), F4, G4, zsg))
                else
                  some (some (zI (-4)), F2, G2, zsg)
              else
                some (some (zI (-3)), F2, G2, zsg)
            else
              if (F2 64 4) < 6 then
                zbI (zex d 164 [zR 64, zI a1, zI a2, zI a3] (F2, G2, zsg)) (fun v3 F3 G3 =>
                  some (some (zI v3), F3, G3, zsg))
              else
                some (some (zI (-4)), F2, G2, zsg)))) (zex (d + 1) 31 [zR 5, zI a1, zI a2, zI a3] (F, G, zsg)) := by
  refine zle_ent (ls := [zR 5, zI a1, zI a2, zI a3]) ?_
  refine zle_many 2 (31, 2, [zR 5, zI a1, zI a2, zI a3], [zI a1, zR 5], F, G, zsg) rfl ?_
  refine zle_I rfl (fun v1 F1 G1 => ?_)
  refine zle_many 1 (31, (bif zcmp .eq v1 0 then 15 else 8), [zR 5, zI a1, zI a2, zI a3], [], F1, G1, zsg) rfl ?_
  refine zle_eq (fun _ => ?_) (fun _ => ?_)
  · refine zle_many 1 (31, 16, [zR 5, zI a1, zI a2, zI a3], [zI (-1)], F1, G1, zsg) rfl ?_
    exact zle_ret rfl
  · refine zle_many 1 (31, 9, [zR 5, zI a1, zI a2, zI a3], [zI a2], F1, G1, zsg) rfl ?_
    refine zle_I rfl (fun v2 F2 G2 => ?_)
    refine zle_many 1 (31, (bif zcmp .ne v2 0 then 17 else 15), [zR 5, zI a1, zI a2, zI a3], [], F2, G2, zsg) rfl ?_
    refine zle_ne (fun _ => ?_) (fun _ => ?_)
    · refine zle_many 1 (31, 16, [zR 5, zI a1, zI a2, zI a3], [zI (-1)], F2, G2, zsg) rfl ?_
      exact zle_ret rfl
    · refine zle_many 3 (31, (bif zcmp .lt a3 1 then 28 else 22), [zR 5, zI a1, zI a2, zI a3], [], F2, G2, zsg) rfl ?_
      refine zle_lt (fun _ => ?_) (fun _ => ?_)
      · refine zle_many 1 (31, 30, [zR 5, zI a1, zI a2, zI a3], [zI (-2)], F2, G2, zsg) rfl ?_
        exact zle_ret rfl
      · refine zle_many 3 (31, (bif zcmp .le a3 99 then 31 else 28), [zR 5, zI a1, zI a2, zI a3], [], F2, G2, zsg) rfl ?_
        refine zle_le (fun _ => ?_) (fun _ => ?_)
        · refine zle_many 1 (31, 30, [zR 5, zI a1, zI a2, zI a3], [zI (-2)], F2, G2, zsg) rfl ?_
          exact zle_ret rfl
        · refine zle_many 4 (31, (bif zcmp .le (F2 64 4) 0 then 55 else 41), [zR 5, zI a1, zI a2, zI a3], [], F2, G2, zsg) rfl ?_
          refine zle_le (fun _ => ?_) (fun _ => ?_)
          · refine zle_many 5 (31, (bif zcmp .eq (F2 64 5) a1 then 55 else 52), [zR 5, zI a1, zI a2, zI a3], [], F2, G2, zsg) rfl ?_
            refine zle_eq (fun _ => ?_) (fun _ => ?_)
            · refine zle_many 5 (31, (bif zcmp .lt (F2 64 4) 6 then 70 else 67), [zR 5, zI a1, zI a2, zI a3], [], F2, G2, zsg) rfl ?_
              refine zle_lt (fun _ => ?_) (fun _ => ?_)
              · refine zle_many 5 (31, 77, [zR 5, zI a1, zI a2, zI a3], [zI a3, zI a2, zI a1, zR 64], F2, G2, zsg) rfl ?_
                refine zle_I rfl (fun v4 F4 G4 => ?_)
                exact zle_ret rfl
              · refine zle_many 1 (31, 69, [zR 5, zI a1, zI a2, zI a3], [zI (-4)], F2, G2, zsg) rfl ?_
                exact zle_ret rfl
            · refine zle_many 1 (31, 54, [zR 5, zI a1, zI a2, zI a3], [zI (-3)], F2, G2, zsg) rfl ?_
              exact zle_ret rfl
          · refine zle_many 5 (31, (bif zcmp .lt (F2 64 4) 6 then 70 else 67), [zR 5, zI a1, zI a2, zI a3], [], F2, G2, zsg) rfl ?_
            refine zle_lt (fun _ => ?_) (fun _ => ?_)
            · refine zle_many 5 (31, 77, [zR 5, zI a1, zI a2, zI a3], [zI a3, zI a2, zI a1, zR 64], F2, G2, zsg) rfl ?_
              refine zle_I rfl (fun v3 F3 G3 => ?_)
              exact zle_ret rfl
            · refine zle_many 1 (31, 69, [zR 5, zI a1, zI a2, zI a3], [zI (-4)], F2, G2, zsg) rfl ?_
              exact zle_ret rfl
set_option maxRecDepth 20000 in
theorem g_C_sure {d : Nat} {F : zM} {G : zG}  : zle (
  some (some (zI (F 64 4)), (zup F 64 4 0), G, zsg)) (zex (d + 1) 32 [zR 5] (F, G, zsg)) := by
  refine zle_ent (ls := [zR 5, zR 0]) ?_
  refine zle_many 9 (32, 17, [zR 5, zI (F 64 4)], [zI (F 64 4)], (zup F 64 4 0), G, zsg) rfl ?_
  exact zle_ret rfl
set_option maxRecDepth 20000 in
theorem g_C_cases {d : Nat} {F : zM} {G : zG} (a1 : Int) (a2 : Int) (a3 : Int) : zle (
  zbI (zex d 41 [zI a1] (F, G, zsg)) (fun v1 F1 G1 =>
  if v1 = 0 then
    some (some (zI (-5)), F1, G1, zsg)
  else
    zbI (zex d 45 [zR 5, zI a2] (F1, G1, zsg)) (fun v2 F2 G2 =>
      if v2 = 0 then
        some (some (zI (-5)), F2, G2, zsg)
      else
        if a3 < 0 then
          some (some (zI (-2)), F2, G2, zsg)
        else
          if 3 < a3 then
            some (some (zI (-2)), F2, G2, zsg)
          else
            zbV (zex d 165 [zR 64, zR 11, zI a1, zI a2] (F2, G2, zsg)) (fun F3 G3 =>
              if a3 = 0 then
                some (some (zI (F3 64 8)), F3, G3, zsg)
              else
              if a3 = 1 then
                zbI (zex d 167 [zR 64] (F3, G3, zsg)) (fun v5 F5 G5 =>
                  some (some (zI v5), F5, G5, zsg))
              else
              if a3 = 2 then
                zbI (zex d 168 [zR 64] (F3, G3, zsg)) (fun v4 F4 G4 =>
                  some (some (zI v4), F4, G4, zsg))
              else
              some (some (zI (F3 64 9)), F3, G3, zsg))))) (zex (d + 1) 33 [zR 5, zI a1, zI a2, zI a3] (F, G, zsg)) := by
  refine zle_ent (ls := [zR 5, zI a1, zI a2, zI a3]) ?_
  refine zle_many 1 (33, 1, [zR 5, zI a1, zI a2, zI a3], [zI a1], F, G, zsg) rfl ?_
  refine zle_I rfl (fun v1 F1 G1 => ?_)
  refine zle_many 1 (33, (bif zcmp .eq v1 0 then 15 else 7), [zR 5, zI a1, zI a2, zI a3], [], F1, G1, zsg) rfl ?_
  refine zle_eq (fun _ => ?_) (fun _ => ?_)
  · refine zle_many 1 (33, 17, [zR 5, zI a1, zI a2, zI a3], [zI (-5)], F1, G1, zsg) rfl ?_
    exact zle_ret rfl
  · refine zle_many 2 (33, 9, [zR 5, zI a1, zI a2, zI a3], [zI a2, zR 5], F1, G1, zsg) rfl ?_
    refine zle_I rfl (fun v2 F2 G2 => ?_)
    refine zle_many 1 (33, (bif zcmp .ne v2 0 then 18 else 15), [zR 5, zI a1, zI a2, zI a3], [], F2, G2, zsg) rfl ?_
    refine zle_ne (fun _ => ?_) (fun _ => ?_)
    · refine zle_many 1 (33, 17, [zR 5, zI a1, zI a2, zI a3], [zI (-5)], F2, G2, zsg) rfl ?_
      exact zle_ret rfl
    · refine zle_many 2 (33, (bif zcmp .lt a3 0 then 27 else 22), [zR 5, zI a1, zI a2, zI a3], [], F2, G2, zsg) rfl ?_
      refine zle_lt (fun _ => ?_) (fun _ => ?_)
      · refine zle_many 1 (33, 29, [zR 5, zI a1, zI a2, zI a3], [zI (-2)], F2, G2, zsg) rfl ?_
        exact zle_ret rfl
      · refine zle_many 3 (33, (bif zcmp .le a3 3 then 30 else 27), [zR 5, zI a1, zI a2, zI a3], [], F2, G2, zsg) rfl ?_
        refine zle_le (fun _ => ?_) (fun _ => ?_)
        · refine zle_many 1 (33, 29, [zR 5, zI a1, zI a2, zI a3], [zI (-2)], F2, G2, zsg) rfl ?_
          exact zle_ret rfl
        · refine zle_many 6 (33, 40, [zR 5, zI a1, zI a2, zI a3], [zI a2, zI a1, zR 11, zR 64], F2, G2, zsg) rfl ?_
          refine zle_V rfl (fun F3 G3 => ?_)
          refine zle_many 2 (33, zsw a3 [(0, 72), (1, 80), (2, 88)] 96, [zR 5, zI a1, zI a2, zI a3], [], F3, G3, zsg) rfl ?_
          refine zle_sw (fun _ => ?_) (fun _ => ?_)
          · refine zle_many 3 (33, 79, [zR 5, zI a1, zI a2, zI a3], [zI (F3 64 8)], F3, G3, zsg) rfl ?_
            exact zle_ret rfl
          · refine zle_sw (fun _ => ?_) (fun _ => ?_)
            · refine zle_many 2 (33, 84, [zR 5, zI a1, zI a2, zI a3], [zR 64], F3, G3, zsg) rfl ?_
              refine zle_I rfl (fun v5 F5 G5 => ?_)
              exact zle_ret rfl
            · refine zle_sw (fun _ => ?_) (fun _ => ?_)
              · refine zle_many 2 (33, 92, [zR 5, zI a1, zI a2, zI a3], [zR 64], F3, G3, zsg) rfl ?_
                refine zle_I rfl (fun v4 F4 G4 => ?_)
                exact zle_ret rfl
              · refine zle_many 3 (33, 103, [zR 5, zI a1, zI a2, zI a3], [zI (F3 64 9)], F3, G3, zsg) rfl ?_
                exact zle_ret rfl
set_option maxRecDepth 20000 in
theorem g_C_image {d : Nat} {F : zM} {G : zG}  : zle (
  zbV (zex d 198 [zR 33, zR 11] (F, G, zsg)) (fun F1 G1 =>
  some (some (zI (F1 11 0)), (zup F1 5 4 1), G1, zsg))) (zex (d + 1) 34 [zR 5] (F, G, zsg)) := by
  refine zle_ent (ls := [zR 5]) ?_
  refine zle_many 4 (34, 8, [zR 5], [zR 11, zR 33], F, G, zsg) rfl ?_
  refine zle_V rfl (fun F1 G1 => ?_)
  refine zle_many 6 (34, 23, [zR 5], [zI (F1 11 0)], (zup F1 5 4 1), G1, zsg) rfl ?_
  exact zle_ret rfl
set_option maxRecDepth 20000 in
theorem g_C_back {d : Nat} {F : zM} {G : zG}  : zle (
  if (F 5 4) = 0 then
  some (some (zI (-3)), F, G, zsg)
else
  zbV (zex d 198 [zR 11, zR 33] (F, G, zsg)) (fun F1 G1 =>
    some (some (zI (F1 11 0)), F1, G1, zsg))) (zex (d + 1) 35 [zR 5] (F, G, zsg)) := by
  refine zle_ent (ls := [zR 5]) ?_
  refine zle_many 3 (35, (bif zcmp .ne (F 5 4) 0 then 10 else 7), [zR 5], [], F, G, zsg) rfl ?_
  refine zle_ne (fun _ => ?_) (fun _ => ?_)
  · refine zle_many 1 (35, 9, [zR 5], [zI (-3)], F, G, zsg) rfl ?_
    exact zle_ret rfl
  · refine zle_many 4 (35, 18, [zR 5], [zR 33, zR 11], F, G, zsg) rfl ?_
    refine zle_V rfl (fun F1 G1 => ?_)
    refine zle_many 3 (35, 28, [zR 5], [zI (F1 11 0)], F1, G1, zsg) rfl ?_
    exact zle_ret rfl
set_option maxRecDepth 20000 in
theorem g_C_sheet {d : Nat} {F : zM} {G : zG} (a1 : Int) (a2 : Int) (a3 : Int) : zle (
  zbI (zex d 208 [zI a1] (F, G, zsg)) (fun v1 F1 G1 =>
  if v1 = 0 then
    some (some (zI (-2)), F1, G1, zsg)
  else
    if a2 < (-1) then
      some (some (zI (-2)), F1, G1, zsg)
    else
      if 2 < a2 then
        some (some (zI (-2)), F1, G1, zsg)
      else
        if a2 = (-1) then
          zbI (zex d 210 [zR 67, zI a1, zI (-1), zI 0] (F1, G1, zsg)) (fun v3 F3 G3 =>
            some (some (zI v3), F3, G3, zsg))
        else
          if 40 < a3 then
            some (some (zI (-2)), F1, G1, zsg)
          else
            if a3 < 0 then
              some (some (zI (-14)), F1, G1, zsg)
            else
              zbI (zex d 210 [zR 67, zI a1, zI a2, zI a3] (F1, G1, zsg)) (fun v2 F2 G2 =>
                some (some (zI v2), F2, G2, zsg)))) (zex (d + 1) 36 [zR 5, zI a1, zI a2, zI a3] (F, G, zsg)) := by
  refine zle_ent (ls := [zR 5, zI a1, zI a2, zI a3]) ?_
  refine zle_many 1 (36, 1, [zR 5, zI a1, zI a2, zI a3], [zI a1], F, G, zsg) rfl ?_
  refine zle_I rfl (fun v1 F1 G1 => ?_)
  refine zle_many 1 (36, (bif zcmp .eq v1 0 then 17 else 7), [zR 5, zI a1, zI a2, zI a3], [], F1, G1, zsg) rfl ?_
  refine zle_eq (fun _ => ?_) (fun _ => ?_)
  · refine zle_many 1 (36, 19, [zR 5, zI a1, zI a2, zI a3], [zI (-2)], F1, G1, zsg) rfl ?_
    exact zle_ret rfl
  · refine zle_many 3 (36, (bif zcmp .lt a2 (-1) then 17 else 12), [zR 5, zI a1, zI a2, zI a3], [], F1, G1, zsg) rfl ?_
    refine zle_lt (fun _ => ?_) (fun _ => ?_)
    · refine zle_many 1 (36, 19, [zR 5, zI a1, zI a2, zI a3], [zI (-2)], F1, G1, zsg) rfl ?_
      exact zle_ret rfl
    · refine zle_many 3 (36, (bif zcmp .le a2 2 then 20 else 17), [zR 5, zI a1, zI a2, zI a3], [], F1, G1, zsg) rfl ?_
      refine zle_le (fun _ => ?_) (fun _ => ?_)
      · refine zle_many 1 (36, 19, [zR 5, zI a1, zI a2, zI a3], [zI (-2)], F1, G1, zsg) rfl ?_
        exact zle_ret rfl
      · refine zle_many 3 (36, (bif zcmp .ne a2 (-1) then 36 else 25), [zR 5, zI a1, zI a2, zI a3], [], F1, G1, zsg) rfl ?_
        refine zle_ne (fun _ => ?_) (fun _ => ?_)
        · refine zle_many 5 (36, 32, [zR 5, zI a1, zI a2, zI a3], [zI 0, zI (-1), zI a1, zR 67], F1, G1, zsg) rfl ?_
          refine zle_I rfl (fun v3 F3 G3 => ?_)
          exact zle_ret rfl
        · refine zle_many 3 (36, (bif zcmp .le a3 40 then 45 else 42), [zR 5, zI a1, zI a2, zI a3], [], F1, G1, zsg) rfl ?_
          refine zle_le (fun _ => ?_) (fun _ => ?_)
          · refine zle_many 1 (36, 44, [zR 5, zI a1, zI a2, zI a3], [zI (-2)], F1, G1, zsg) rfl ?_
            exact zle_ret rfl
          · refine zle_many 2 (36, (bif zcmp .ge a3 0 then 52 else 49), [zR 5, zI a1, zI a2, zI a3], [], F1, G1, zsg) rfl ?_
            refine zle_ge (fun _ => ?_) (fun _ => ?_)
            · refine zle_many 1 (36, 51, [zR 5, zI a1, zI a2, zI a3], [zI (-14)], F1, G1, zsg) rfl ?_
              exact zle_ret rfl
            · refine zle_many 5 (36, 59, [zR 5, zI a1, zI a2, zI a3], [zI a3, zI a2, zI a1, zR 67], F1, G1, zsg) rfl ?_
              refine zle_I rfl (fun v2 F2 G2 => ?_)
              exact zle_ret rfl
set_option maxRecDepth 20000 in
theorem g_C_cell {d : Nat} {F : zM} {G : zG} (a1 : Int) (a2 : Int) (a3 : Int) : zle (
  zbI (zex d 208 [zI a1] (F, G, zsg)) (fun v1 F1 G1 =>
  if v1 = 0 then
    some (some (zI (-2)), F1, G1, zsg)
  else
    zbI (zex d 209 [zR 67, zI a1] (F1, G1, zsg)) (fun v2 F2 G2 =>
      if v2 = 0 then
        some (some (zI (-11)), F2, G2, zsg)
      else
        if a2 < 0 then
          some (some (zI (-12)), F2, G2, zsg)
        else
          if 0 ≤ a1 ∧ a1 < 4 then
            if a2 < (F2 69 (Int.toNat a1)) then
              zbV (zex d 212 [zR 67, zI a1, zI a2, zI a3] (F2, G2, zsg)) (fun F3 G3 =>
                some (some (zI 1), F3, G3, zsg))
            else
              some (some (zI (-12)), F2, G2, zsg)
          else none))) (zex (d + 1) 37 [zR 5, zI a1, zI a2, zI a3] (F, G, zsg)) := by
  refine zle_ent (ls := [zR 5, zI a1, zI a2, zI a3]) ?_
  refine zle_many 1 (37, 1, [zR 5, zI a1, zI a2, zI a3], [zI a1], F, G, zsg) rfl ?_
  refine zle_I rfl (fun v1 F1 G1 => ?_)
  refine zle_many 1 (37, (bif zcmp .ne v1 0 then 10 else 7), [zR 5, zI a1, zI a2, zI a3], [], F1, G1, zsg) rfl ?_
  refine zle_ne (fun _ => ?_) (fun _ => ?_)
  · refine zle_many 1 (37, 9, [zR 5, zI a1, zI a2, zI a3], [zI (-2)], F1, G1, zsg) rfl ?_
    exact zle_ret rfl
  · refine zle_many 3 (37, 15, [zR 5, zI a1, zI a2, zI a3], [zI a1, zR 67], F1, G1, zsg) rfl ?_
    refine zle_I rfl (fun v2 F2 G2 => ?_)
    refine zle_many 1 (37, (bif zcmp .ne v2 0 then 24 else 21), [zR 5, zI a1, zI a2, zI a3], [], F2, G2, zsg) rfl ?_
    refine zle_ne (fun _ => ?_) (fun _ => ?_)
    · refine zle_many 1 (37, 23, [zR 5, zI a1, zI a2, zI a3], [zI (-11)], F2, G2, zsg) rfl ?_
      exact zle_ret rfl
    · refine zle_many 2 (37, (bif zcmp .lt a2 0 then 41 else 28), [zR 5, zI a1, zI a2, zI a3], [], F2, G2, zsg) rfl ?_
      refine zle_lt (fun _ => ?_) (fun _ => ?_)
      · refine zle_many 1 (37, 43, [zR 5, zI a1, zI a2, zI a3], [zI (-12)], F2, G2, zsg) rfl ?_
        exact zle_ret rfl
      · refine zle_many 5 (37, 37, [zR 5, zI a1, zI a2, zI a3], [zI a1, zR 69, zI a2], F2, G2, zsg) rfl ?_
        refine zle_ald rfl rfl rfl (fun _ => ?_)
        refine zle_many 1 (37, (bif zcmp .lt a2 (F2 69 (Int.toNat a1)) then 44 else 41), [zR 5, zI a1, zI a2, zI a3], [], F2, G2, zsg) rfl ?_
        refine zle_lt (fun _ => ?_) (fun _ => ?_)
        · refine zle_many 5 (37, 51, [zR 5, zI a1, zI a2, zI a3], [zI a3, zI a2, zI a1, zR 67], F2, G2, zsg) rfl ?_
          refine zle_V rfl (fun F3 G3 => ?_)
          refine zle_many 1 (37, 55, [zR 5, zI a1, zI a2, zI a3], [zI 1], F3, G3, zsg) rfl ?_
          exact zle_ret rfl
        · refine zle_many 1 (37, 43, [zR 5, zI a1, zI a2, zI a3], [zI (-12)], F2, G2, zsg) rfl ?_
          exact zle_ret rfl
set_option maxRecDepth 20000 in
theorem g_C_copy {d : Nat} {F : zM} {G : zG} (a1 : Int) (a2 : Int) (a3 : Int) (a4 : Int) (a5 : Int) : zle (
  zbI (zex d 208 [zI a1] (F, G, zsg)) (fun v1 F1 G1 =>
  if v1 = 0 then
    some (some (zI (-2)), F1, G1, zsg)
  else
    zbI (zex d 208 [zI a3] (F1, G1, zsg)) (fun v2 F2 G2 =>
      if v2 = 0 then
        some (some (zI (-2)), F2, G2, zsg)
      else
        zbI (zex d 209 [zR 67, zI a1] (F2, G2, zsg)) (fun v3 F3 G3 =>
          if v3 = 0 then
            some (some (zI (-11)), F3, G3, zsg)
          else
            zbI (zex d 209 [zR 67, zI a3] (F3, G3, zsg)) (fun v4 F4 G4 =>
              if v4 = 0 then
                some (some (zI (-11)), F4, G4, zsg)
              else
                if 0 ≤ a1 ∧ a1 < 4 then
                  if 0 ≤ a3 ∧ a3 < 4 then
                    if (F4 68 (Int.toNat a1)) = (F4 68 (Int.toNat a3)) then
                      zbI (zex d 213 [zR 67, zI a1, zI a2, zI a5] (F4, G4, zsg)) (fun v5 F5 G5 =>
                        if v5 = 0 then
                        some (some (zI (-12)), F5, G5, zsg)
                      else
                        zbI (zex d 213 [zR 67, zI a3, zI a4, zI a5] (F5, G5, zsg)) (fun v6 F6 G6 =>
                        if v6 = 0 then
                        some (some (zI (-12)), F6, G6, zsg)
                      else
                        zbV (zex d 214 [zR 67, zI a1, zI a2, zI a3, zI a4, zI a5] (F6, G6, zsg)) (fun F7 G7 =>
                        some (some (zI a5), F7, G7, zsg))))
                    else
                      some (some (zI (-13)), F4, G4, zsg)
                  else none
                else none))))) (zex (d + 1) 38 [zR 5, zI a1, zI a2, zI a3, zI a4, zI a5] (F, G, zsg)) := by
  refine zle_ent (ls := [zR 5, zI a1, zI a2, zI a3, zI a4, zI a5]) ?_
  refine zle_many 1 (38, 1, [zR 5, zI a1, zI a2, zI a3, zI a4, zI a5], [zI a1], F, G, zsg) rfl ?_
  refine zle_I rfl (fun v1 F1 G1 => ?_)
  refine zle_many 1 (38, (bif zcmp .eq v1 0 then 14 else 7), [zR 5, zI a1, zI a2, zI a3, zI a4, zI a5], [], F1, G1, zsg) rfl ?_
  refine zle_eq (fun _ => ?_) (fun _ => ?_)
  · refine zle_many 1 (38, 16, [zR 5, zI a1, zI a2, zI a3, zI a4, zI a5], [zI (-2)], F1, G1, zsg) rfl ?_
    exact zle_ret rfl
  · refine zle_many 1 (38, 8, [zR 5, zI a1, zI a2, zI a3, zI a4, zI a5], [zI a3], F1, G1, zsg) rfl ?_
    refine zle_I rfl (fun v2 F2 G2 => ?_)
    refine zle_many 1 (38, (bif zcmp .ne v2 0 then 17 else 14), [zR 5, zI a1, zI a2, zI a3, zI a4, zI a5], [], F2, G2, zsg) rfl ?_
    refine zle_ne (fun _ => ?_) (fun _ => ?_)
    · refine zle_many 1 (38, 16, [zR 5, zI a1, zI a2, zI a3, zI a4, zI a5], [zI (-2)], F2, G2, zsg) rfl ?_
      exact zle_ret rfl
    · refine zle_many 3 (38, 22, [zR 5, zI a1, zI a2, zI a3, zI a4, zI a5], [zI a1, zR 67], F2, G2, zsg) rfl ?_
      refine zle_I rfl (fun v3 F3 G3 => ?_)
      refine zle_many 1 (38, (bif zcmp .eq v3 0 then 39 else 28), [zR 5, zI a1, zI a2, zI a3, zI a4, zI a5], [], F3, G3, zsg) rfl ?_
      refine zle_eq (fun _ => ?_) (fun _ => ?_)
      · refine zle_many 1 (38, 41, [zR 5, zI a1, zI a2, zI a3, zI a4, zI a5], [zI (-11)], F3, G3, zsg) rfl ?_
        exact zle_ret rfl
      · refine zle_many 3 (38, 33, [zR 5, zI a1, zI a2, zI a3, zI a4, zI a5], [zI a3, zR 67], F3, G3, zsg) rfl ?_
        refine zle_I rfl (fun v4 F4 G4 => ?_)
        refine zle_many 1 (38, (bif zcmp .ne v4 0 then 42 else 39), [zR 5, zI a1, zI a2, zI a3, zI a4, zI a5], [], F4, G4, zsg) rfl ?_
        refine zle_ne (fun _ => ?_) (fun _ => ?_)
        · refine zle_many 1 (38, 41, [zR 5, zI a1, zI a2, zI a3, zI a4, zI a5], [zI (-11)], F4, G4, zsg) rfl ?_
          exact zle_ret rfl
        · refine zle_many 4 (38, 50, [zR 5, zI a1, zI a2, zI a3, zI a4, zI a5], [zI a1, zR 68], F4, G4, zsg) rfl ?_
          refine zle_ald rfl rfl rfl (fun _ => ?_)
          refine zle_many 4 (38, 59, [zR 5, zI a1, zI a2, zI a3, zI a4, zI a5], [zI a3, zR 68, zI (F4 68 (Int.toNat a1))], F4, G4, zsg) rfl ?_
          refine zle_ald rfl rfl rfl (fun _ => ?_)
          refine zle_many 1 (38, (bif zcmp .eq (F4 68 (Int.toNat a1)) (F4 68 (Int.toNat a3)) then 66 else 63), [zR 5, zI a1, zI a2, zI a3, zI a4, zI a5], [], F4, G4, zsg) rfl ?_
          refine zle_eq (fun _ => ?_) (fun _ => ?_)
          · refine zle_many 5 (38, 74, [zR 5, zI a1, zI a2, zI a3, zI a4, zI a5], [zI a5, zI a2, zI a1, zR 67], F4, G4, zsg) rfl ?_
            refine zle_I rfl (fun v5 F5 G5 => ?_)
            refine zle_many 1 (38, (bif zcmp .eq v5 0 then 95 else 80), [zR 5, zI a1, zI a2, zI a3, zI a4, zI a5], [], F5, G5, zsg) rfl ?_
            refine zle_eq (fun _ => ?_) (fun _ => ?_)
            · refine zle_many 1 (38, 97, [zR 5, zI a1, zI a2, zI a3, zI a4, zI a5], [zI (-12)], F5, G5, zsg) rfl ?_
              exact zle_ret rfl
            · refine zle_many 5 (38, 89, [zR 5, zI a1, zI a2, zI a3, zI a4, zI a5], [zI a5, zI a4, zI a3, zR 67], F5, G5, zsg) rfl ?_
              refine zle_I rfl (fun v6 F6 G6 => ?_)
              refine zle_many 1 (38, (bif zcmp .ne v6 0 then 98 else 95), [zR 5, zI a1, zI a2, zI a3, zI a4, zI a5], [], F6, G6, zsg) rfl ?_
              refine zle_ne (fun _ => ?_) (fun _ => ?_)
              · refine zle_many 1 (38, 97, [zR 5, zI a1, zI a2, zI a3, zI a4, zI a5], [zI (-12)], F6, G6, zsg) rfl ?_
                exact zle_ret rfl
              · refine zle_many 7 (38, 109, [zR 5, zI a1, zI a2, zI a3, zI a4, zI a5], [zI a5, zI a4, zI a3, zI a2, zI a1, zR 67], F6, G6, zsg) rfl ?_
                refine zle_V rfl (fun F7 G7 => ?_)
                refine zle_many 1 (38, 114, [zR 5, zI a1, zI a2, zI a3, zI a4, zI a5], [zI a5], F7, G7, zsg) rfl ?_
                exact zle_ret rfl
          · refine zle_many 1 (38, 65, [zR 5, zI a1, zI a2, zI a3, zI a4, zI a5], [zI (-13)], F4, G4, zsg) rfl ?_
            exact zle_ret rfl
set_option maxRecDepth 20000 in
theorem g_C_walls {d : Nat} {F : zM} {G : zG} (a1 : Int) (a2 : Int) (a3 : Int) (a4 : Int) : zle (
  zbI (zex d 208 [zI a1] (F, G, zsg)) (fun v1 F1 G1 =>
  if v1 = 0 then
    some (some (zI (-2)), F1, G1, zsg)
  else
    if a2 < 0 then
      some (some (zI (-2)), F1, G1, zsg)
    else
      if 2 < a2 then
        some (some (zI (-2)), F1, G1, zsg)
      else
        if a4 < 0 then
          some (some (zI (-2)), F1, G1, zsg)
        else
          if 40 < a4 then
            some (some (zI (-2)), F1, G1, zsg)
          else
            zbI (zex d 209 [zR 67, zI a1] (F1, G1, zsg)) (fun v2 F2 G2 =>
              if v2 = 0 then
                some (some (zI (-11)), F2, G2, zsg)
              else
                if 0 ≤ a1 ∧ a1 < 4 then
                  if (F2 68 (Int.toNat a1)) = a2 then
                    zev zX0 d (39, 70, [zR 5, zI a1, zI a2, zI a3, zI a4, zI 0, zI 0, zR 0], [], F2, G2, zsg)
                  else
                    some (some (zI (-13)), F2, G2, zsg)
                else none))) (zex (d + 1) 39 [zR 5, zI a1, zI a2, zI a3, zI a4] (F, G, zsg)) := by
  refine zle_ent (ls := [zR 5, zI a1, zI a2, zI a3, zI a4, zR 0, zR 0, zR 0]) ?_
  refine zle_many 1 (39, 1, [zR 5, zI a1, zI a2, zI a3, zI a4, zR 0, zR 0, zR 0], [zI a1], F, G, zsg) rfl ?_
  refine zle_I rfl (fun v1 F1 G1 => ?_)
  refine zle_many 1 (39, (bif zcmp .eq v1 0 then 16 else 7), [zR 5, zI a1, zI a2, zI a3, zI a4, zR 0, zR 0, zR 0], [], F1, G1, zsg) rfl ?_
  refine zle_eq (fun _ => ?_) (fun _ => ?_)
  · refine zle_many 1 (39, 18, [zR 5, zI a1, zI a2, zI a3, zI a4, zR 0, zR 0, zR 0], [zI (-2)], F1, G1, zsg) rfl ?_
    exact zle_ret rfl
  · refine zle_many 2 (39, (bif zcmp .lt a2 0 then 16 else 11), [zR 5, zI a1, zI a2, zI a3, zI a4, zR 0, zR 0, zR 0], [], F1, G1, zsg) rfl ?_
    refine zle_lt (fun _ => ?_) (fun _ => ?_)
    · refine zle_many 1 (39, 18, [zR 5, zI a1, zI a2, zI a3, zI a4, zR 0, zR 0, zR 0], [zI (-2)], F1, G1, zsg) rfl ?_
      exact zle_ret rfl
    · refine zle_many 3 (39, (bif zcmp .le a2 2 then 19 else 16), [zR 5, zI a1, zI a2, zI a3, zI a4, zR 0, zR 0, zR 0], [], F1, G1, zsg) rfl ?_
      refine zle_le (fun _ => ?_) (fun _ => ?_)
      · refine zle_many 1 (39, 18, [zR 5, zI a1, zI a2, zI a3, zI a4, zR 0, zR 0, zR 0], [zI (-2)], F1, G1, zsg) rfl ?_
        exact zle_ret rfl
      · refine zle_many 2 (39, (bif zcmp .lt a4 0 then 31 else 24), [zR 5, zI a1, zI a2, zI a3, zI a4, zR 0, zR 0, zR 0], [], F1, G1, zsg) rfl ?_
        refine zle_lt (fun _ => ?_) (fun _ => ?_)
        · refine zle_many 1 (39, 33, [zR 5, zI a1, zI a2, zI a3, zI a4, zR 0, zR 0, zR 0], [zI (-2)], F1, G1, zsg) rfl ?_
          exact zle_ret rfl
        · refine zle_many 3 (39, (bif zcmp .le a4 40 then 34 else 31), [zR 5, zI a1, zI a2, zI a3, zI a4, zR 0, zR 0, zR 0], [], F1, G1, zsg) rfl ?_
          refine zle_le (fun _ => ?_) (fun _ => ?_)
          · refine zle_many 1 (39, 33, [zR 5, zI a1, zI a2, zI a3, zI a4, zR 0, zR 0, zR 0], [zI (-2)], F1, G1, zsg) rfl ?_
            exact zle_ret rfl
          · refine zle_many 3 (39, 39, [zR 5, zI a1, zI a2, zI a3, zI a4, zR 0, zR 0, zR 0], [zI a1, zR 67], F1, G1, zsg) rfl ?_
            refine zle_I rfl (fun v2 F2 G2 => ?_)
            refine zle_many 1 (39, (bif zcmp .ne v2 0 then 48 else 45), [zR 5, zI a1, zI a2, zI a3, zI a4, zR 0, zR 0, zR 0], [], F2, G2, zsg) rfl ?_
            refine zle_ne (fun _ => ?_) (fun _ => ?_)
            · refine zle_many 1 (39, 47, [zR 5, zI a1, zI a2, zI a3, zI a4, zR 0, zR 0, zR 0], [zI (-11)], F2, G2, zsg) rfl ?_
              exact zle_ret rfl
            · refine zle_many 4 (39, 56, [zR 5, zI a1, zI a2, zI a3, zI a4, zR 0, zR 0, zR 0], [zI a1, zR 68], F2, G2, zsg) rfl ?_
              refine zle_ald rfl rfl rfl (fun _ => ?_)
              refine zle_many 2 (39, (bif zcmp .eq (F2 68 (Int.toNat a1)) a2 then 64 else 61), [zR 5, zI a1, zI a2, zI a3, zI a4, zR 0, zR 0, zR 0], [], F2, G2, zsg) rfl ?_
              refine zle_eq (fun _ => ?_) (fun _ => ?_)
              · refine zle_many 4 (39, 70, [zR 5, zI a1, zI a2, zI a3, zI a4, zI 0, zI 0, zR 0], [], F2, G2, zsg) rfl ?_
                exact zle_rfl
              · refine zle_many 1 (39, 63, [zR 5, zI a1, zI a2, zI a3, zI a4, zR 0, zR 0, zR 0], [zI (-13)], F2, G2, zsg) rfl ?_
                exact zle_ret rfl
set_option maxRecDepth 20000 in
theorem g_C_walls_70 {d : Nat} {F : zM} {G : zG} (l1 : Int) (l2 : Int) (l3 : Int) (l4 : Int) (l5 : Int) (l6 : Int) : zle (
  if l6 < l4 then
  if (zadd l3 l6) < 0 then
    some (some (zI (-12)), F, G, zsg)
  else
    if 0 ≤ l1 ∧ l1 < 4 then
      if (zadd l3 l6) < (F 69 (Int.toNat l1)) then
        zbI (zex d 211 [zR 67, zI l1, zI (zadd l3 l6)] (F, G, zsg)) (fun v1 F1 G1 =>
          zbI (zex d 1 [zR 5, zI v1, zI 1] (F1, G1, zsg)) (fun v2 F2 G2 =>
            if v2 < 0 then
              zev zX0 d (39, 70, [zR 5, zI l1, zI l2, zI l3, zI l4, zI l5, zI (zadd l6 1), zR 0], [], F2, G2, zsg)
            else
              zev zX0 d (39, 70, [zR 5, zI l1, zI l2, zI l3, zI l4, zI (zadd l5 1), zI (zadd l6 1), zR 0], [], F2, G2, zsg)))
      else
        some (some (zI (-12)), F, G, zsg)
    else none
else
  some (some (zI l5), F, G, zsg)) (zev zX0 d (39, 70, [zR 5, zI l1, zI l2, zI l3, zI l4, zI l5, zI l6, zR 0], [], F, G, zsg)) := by
  refine zle_many 3 (39, (bif zcmp .ge l6 l4 then 132 else 77), [zR 5, zI l1, zI l2, zI l3, zI l4, zI l5, zI l6, zR 0], [], F, G, zsg) rfl ?_
  refine zle_ge (fun _ => ?_) (fun _ => ?_)
  · refine zle_many 6 (39, (bif zcmp .lt (zadd l3 l6) 0 then 102 else 88), [zR 5, zI l1, zI l2, zI l3, zI l4, zI l5, zI l6, zI (zadd l3 l6)], [], F, G, zsg) rfl ?_
    refine zle_lt (fun _ => ?_) (fun _ => ?_)
    · refine zle_many 1 (39, 104, [zR 5, zI l1, zI l2, zI l3, zI l4, zI l5, zI l6, zI (zadd l3 l6)], [zI (-12)], F, G, zsg) rfl ?_
      exact zle_ret rfl
    · refine zle_many 5 (39, 98, [zR 5, zI l1, zI l2, zI l3, zI l4, zI l5, zI l6, zI (zadd l3 l6)], [zI l1, zR 69, zI (zadd l3 l6)], F, G, zsg) rfl ?_
      refine zle_ald rfl rfl rfl (fun _ => ?_)
      refine zle_many 1 (39, (bif zcmp .lt (zadd l3 l6) (F 69 (Int.toNat l1)) then 105 else 102), [zR 5, zI l1, zI l2, zI l3, zI l4, zI l5, zI l6, zI (zadd l3 l6)], [], F, G, zsg) rfl ?_
      refine zle_lt (fun _ => ?_) (fun _ => ?_)
      · refine zle_many 5 (39, 113, [zR 5, zI l1, zI l2, zI l3, zI l4, zI l5, zI l6, zI (zadd l3 l6)], [zI (zadd l3 l6), zI l1, zR 67, zR 5], F, G, zsg) rfl ?_
        refine zle_I rfl (fun v1 F1 G1 => ?_)
        refine zle_many 1 (39, 117, [zR 5, zI l1, zI l2, zI l3, zI l4, zI l5, zI l6, zI (zadd l3 l6)], [zI 1, zI v1, zR 5], F1, G1, zsg) rfl ?_
        refine zle_I rfl (fun v2 F2 G2 => ?_)
        refine zle_many 1 (39, (bif zcmp .lt v2 0 then 126 else 123), [zR 5, zI l1, zI l2, zI l3, zI l4, zI l5, zI l6, zI (zadd l3 l6)], [], F2, G2, zsg) rfl ?_
        refine zle_lt (fun _ => ?_) (fun _ => ?_)
        · refine zle_many 2 (39, 70, [zR 5, zI l1, zI l2, zI l3, zI l4, zI l5, zI (zadd l6 1), zI (zadd l3 l6)], [], F2, G2, zsg) rfl ?_
          exact zle_wk ⟨Or.inl rfl, Or.inl rfl, Or.inl rfl, Or.inl rfl, Or.inl rfl, Or.inl rfl, Or.inl rfl, Or.inr rfl, trivial⟩
        · refine zle_many 3 (39, 70, [zR 5, zI l1, zI l2, zI l3, zI l4, zI (zadd l5 1), zI (zadd l6 1), zI (zadd l3 l6)], [], F2, G2, zsg) rfl ?_
          exact zle_wk ⟨Or.inl rfl, Or.inl rfl, Or.inl rfl, Or.inl rfl, Or.inl rfl, Or.inl rfl, Or.inl rfl, Or.inr rfl, trivial⟩
      · refine zle_many 1 (39, 104, [zR 5, zI l1, zI l2, zI l3, zI l4, zI l5, zI l6, zI (zadd l3 l6)], [zI (-12)], F, G, zsg) rfl ?_
        exact zle_ret rfl
  · refine zle_many 1 (39, 134, [zR 5, zI l1, zI l2, zI l3, zI l4, zI l5, zI l6, zR 0], [zI l5], F, G, zsg) rfl ?_
    exact zle_ret rfl
set_option maxRecDepth 20000 in
theorem g_C_taken {d : Nat} {F : zM} {G : zG} (a1 : Int) (a2 : Int) : zle (
  zbI (zex d 170 [zI a2] (F, G, zsg)) (fun v1 F1 G1 =>
  if v1 = 0 then
    some (some (zI (-2)), F1, G1, zsg)
  else
    zbI (zex d 149 [zI a1] (F1, G1, zsg)) (fun v2 F2 G2 =>
      if v2 = 0 then
        some (some (zI (-12)), F2, G2, zsg)
      else
        zbI (zex d 229 [zR 44, zR 11, zI a1] (F2, G2, zsg)) (fun v3 F3 G3 =>
          if v3 < 0 then
            zbL (zex d 228 [zR 44, zR 11] (F3, G3, zsg)) (fun v4 F4 G4 =>
              zbI (zex d 152 [zL (zlor (G3 6 0) v4), zI a1] (F4, G4, zsg)) (fun v5 F5 G5 =>
                if v5 = 0 then
                  some (some (zI (-11)), F5, G5, zsg)
                else
                  some (some (zI (-13)), F5, G5, zsg)))
          else
            if 0 ≤ v3 ∧ v3 < 8 then
              zbI (zex d 177 [zI (F3 7 (Int.toNat v3)), zI a2] (F3, G3, zsg)) (fun v6 F6 G6 =>
                if v6 = 0 then
                  some (some (zI (-13)), F6, G6, zsg)
                else
                  some (some (zI v3), F6, G6, zsg))
            else none)))) (zex (d + 1) 40 [zR 5, zI a1, zI a2] (F, G, zsg)) := by
  refine zle_ent (ls := [zR 5, zI a1, zI a2, zR 0]) ?_
  refine zle_many 1 (40, 1, [zR 5, zI a1, zI a2, zR 0], [zI a2], F, G, zsg) rfl ?_
  refine zle_I rfl (fun v1 F1 G1 => ?_)
  refine zle_many 1 (40, (bif zcmp .ne v1 0 then 10 else 7), [zR 5, zI a1, zI a2, zR 0], [], F1, G1, zsg) rfl ?_
  refine zle_ne (fun _ => ?_) (fun _ => ?_)
  · refine zle_many 1 (40, 9, [zR 5, zI a1, zI a2, zR 0], [zI (-2)], F1, G1, zsg) rfl ?_
    exact zle_ret rfl
  · refine zle_many 1 (40, 11, [zR 5, zI a1, zI a2, zR 0], [zI a1], F1, G1, zsg) rfl ?_
    refine zle_I rfl (fun v2 F2 G2 => ?_)
    refine zle_many 1 (40, (bif zcmp .ne v2 0 then 20 else 17), [zR 5, zI a1, zI a2, zR 0], [], F2, G2, zsg) rfl ?_
    refine zle_ne (fun _ => ?_) (fun _ => ?_)
    · refine zle_many 1 (40, 19, [zR 5, zI a1, zI a2, zR 0], [zI (-12)], F2, G2, zsg) rfl ?_
      exact zle_ret rfl
    · refine zle_many 5 (40, 29, [zR 5, zI a1, zI a2, zR 0], [zI a1, zR 11, zR 44], F2, G2, zsg) rfl ?_
      refine zle_I rfl (fun v3 F3 G3 => ?_)
      refine zle_many 3 (40, (bif zcmp .lt v3 0 then 60 else 37), [zR 5, zI a1, zI a2, zI v3], [], F3, G3, zsg) rfl ?_
      refine zle_lt (fun _ => ?_) (fun _ => ?_)
      · refine zle_many 7 (40, 75, [zR 5, zI a1, zI a2, zI v3], [zR 11, zR 44, zL (G3 6 0)], F3, G3, zsg) rfl ?_
        refine zle_L rfl (fun v4 F4 G4 => ?_)
        refine zle_many 2 (40, 80, [zR 5, zI a1, zI a2, zI v3], [zI a1, zL (zlor (G3 6 0) v4)], F4, G4, zsg) rfl ?_
        refine zle_I rfl (fun v5 F5 G5 => ?_)
        refine zle_many 1 (40, (bif zcmp .eq v5 0 then 91 else 86), [zR 5, zI a1, zI a2, zI v3], [], F5, G5, zsg) rfl ?_
        refine zle_eq (fun _ => ?_) (fun _ => ?_)
        · refine zle_many 1 (40, 93, [zR 5, zI a1, zI a2, zI v3], [zI (-11)], F5, G5, zsg) rfl ?_
          exact zle_ret rfl
        · refine zle_many 2 (40, 93, [zR 5, zI a1, zI a2, zI v3], [zI (-13)], F5, G5, zsg) rfl ?_
          exact zle_ret rfl
      · refine zle_many 4 (40, 45, [zR 5, zI a1, zI a2, zI v3], [zI v3, zR 7], F3, G3, zsg) rfl ?_
        refine zle_ald rfl rfl rfl (fun _ => ?_)
        refine zle_many 1 (40, 47, [zR 5, zI a1, zI a2, zI v3], [zI a2, zI (F3 7 (Int.toNat v3))], F3, G3, zsg) rfl ?_
        refine zle_I rfl (fun v6 F6 G6 => ?_)
        refine zle_many 1 (40, (bif zcmp .eq v6 0 then 57 else 53), [zR 5, zI a1, zI a2, zI v3], [], F6, G6, zsg) rfl ?_
        refine zle_eq (fun _ => ?_) (fun _ => ?_)
        · refine zle_many 1 (40, 59, [zR 5, zI a1, zI a2, zI v3], [zI (-13)], F6, G6, zsg) rfl ?_
          exact zle_ret rfl
        · refine zle_many 2 (40, 59, [zR 5, zI a1, zI a2, zI v3], [zI v3], F6, G6, zsg) rfl ?_
          exact zle_ret rfl
set_option maxRecDepth 20000 in
theorem g_C_isHand {d : Nat} {F : zM} {G : zG} (a0 : Int) : zle (
  if a0 = 0 then
  some (some (zI 1), F, G, zsg)
else
  if a0 = 1 then
    some (some (zI 1), F, G, zsg)
  else
    some (some (zI 0), F, G, zsg)) (zex (d + 1) 41 [zI a0] (F, G, zsg)) := by
  refine zle_ent (ls := [zI a0]) ?_
  refine zle_many 2 (41, (bif zcmp .eq a0 0 then 9 else 4), [zI a0], [], F, G, zsg) rfl ?_
  refine zle_eq (fun _ => ?_) (fun _ => ?_)
  · refine zle_many 2 (41, 14, [zI a0], [zI 1], F, G, zsg) rfl ?_
    exact zle_ret rfl
  · refine zle_many 3 (41, (bif zcmp .ne a0 1 then 13 else 9), [zI a0], [], F, G, zsg) rfl ?_
    refine zle_ne (fun _ => ?_) (fun _ => ?_)
    · refine zle_many 2 (41, 14, [zI a0], [zI 1], F, G, zsg) rfl ?_
      exact zle_ret rfl
    · refine zle_many 1 (41, 14, [zI a0], [zI 0], F, G, zsg) rfl ?_
      exact zle_ret rfl
set_option maxRecDepth 20000 in
theorem g_C_isPresent {d : Nat} {F : zM} {G : zG} (a1 : Int) : zle (
  zbI (zex d 41 [zI a1] (F, G, zsg)) (fun v1 F1 G1 =>
  if v1 = 0 then
    some (some (zI 0), F1, G1, zsg)
  else
    if 0 ≤ a1 ∧ a1 < 2 then
      if (F1 15 (Int.toNat a1)) < 0 then
        some (some (zI 0), F1, G1, zsg)
      else
        some (some (zI 1), F1, G1, zsg)
    else none)) (zex (d + 1) 42 [zR 5, zI a1] (F, G, zsg)) := by
  refine zle_ent (ls := [zR 5, zI a1]) ?_
  refine zle_many 1 (42, 1, [zR 5, zI a1], [zI a1], F, G, zsg) rfl ?_
  refine zle_I rfl (fun v1 F1 G1 => ?_)
  refine zle_many 1 (42, (bif zcmp .eq v1 0 then 23 else 7), [zR 5, zI a1], [], F1, G1, zsg) rfl ?_
  refine zle_eq (fun _ => ?_) (fun _ => ?_)
  · refine zle_many 1 (42, 24, [zR 5, zI a1], [zI 0], F1, G1, zsg) rfl ?_
    exact zle_ret rfl
  · refine zle_many 4 (42, 15, [zR 5, zI a1], [zI a1, zR 15], F1, G1, zsg) rfl ?_
    refine zle_ald rfl rfl rfl (fun _ => ?_)
    refine zle_many 1 (42, (bif zcmp .lt (F1 15 (Int.toNat a1)) 0 then 23 else 19), [zR 5, zI a1], [], F1, G1, zsg) rfl ?_
    refine zle_lt (fun _ => ?_) (fun _ => ?_)
    · refine zle_many 1 (42, 24, [zR 5, zI a1], [zI 0], F1, G1, zsg) rfl ?_
      exact zle_ret rfl
    · refine zle_many 2 (42, 24, [zR 5, zI a1], [zI 1], F1, G1, zsg) rfl ?_
      exact zle_ret rfl
set_option maxRecDepth 20000 in
theorem g_C_isThing {d : Nat} {F : zM} {G : zG} (a1 : Int) : zle (
  if a1 < 0 then
  some (some (zI 0), F, G, zsg)
else
  if a1 < (F 6 2) then
    some (some (zI 1), F, G, zsg)
  else
    some (some (zI 0), F, G, zsg)) (zex (d + 1) 43 [zR 5, zI a1] (F, G, zsg)) := by
  refine zle_ent (ls := [zR 5, zI a1]) ?_
  refine zle_many 2 (43, (bif zcmp .lt a1 0 then 19 else 4), [zR 5, zI a1], [], F, G, zsg) rfl ?_
  refine zle_lt (fun _ => ?_) (fun _ => ?_)
  · refine zle_many 1 (43, 20, [zR 5, zI a1], [zI 0], F, G, zsg) rfl ?_
    exact zle_ret rfl
  · refine zle_many 5 (43, (bif zcmp .ge a1 (F 6 2) then 19 else 15), [zR 5, zI a1], [], F, G, zsg) rfl ?_
    refine zle_ge (fun _ => ?_) (fun _ => ?_)
    · refine zle_many 2 (43, 20, [zR 5, zI a1], [zI 1], F, G, zsg) rfl ?_
      exact zle_ret rfl
    · refine zle_many 1 (43, 20, [zR 5, zI a1], [zI 0], F, G, zsg) rfl ?_
      exact zle_ret rfl
set_option maxRecDepth 20000 in
theorem g_C_isDoor {d : Nat} {F : zM} {G : zG} (a1 : Int) : zle (
  if a1 < 0 then
  some (some (zI 0), F, G, zsg)
else
  if a1 < (F 6 5) then
    some (some (zI 1), F, G, zsg)
  else
    some (some (zI 0), F, G, zsg)) (zex (d + 1) 44 [zR 5, zI a1] (F, G, zsg)) := by
  refine zle_ent (ls := [zR 5, zI a1]) ?_
  refine zle_many 2 (44, (bif zcmp .lt a1 0 then 19 else 4), [zR 5, zI a1], [], F, G, zsg) rfl ?_
  refine zle_lt (fun _ => ?_) (fun _ => ?_)
  · refine zle_many 1 (44, 20, [zR 5, zI a1], [zI 0], F, G, zsg) rfl ?_
    exact zle_ret rfl
  · refine zle_many 5 (44, (bif zcmp .ge a1 (F 6 5) then 19 else 15), [zR 5, zI a1], [], F, G, zsg) rfl ?_
    refine zle_ge (fun _ => ?_) (fun _ => ?_)
    · refine zle_many 2 (44, 20, [zR 5, zI a1], [zI 1], F, G, zsg) rfl ?_
      exact zle_ret rfl
    · refine zle_many 1 (44, 20, [zR 5, zI a1], [zI 0], F, G, zsg) rfl ?_
      exact zle_ret rfl
set_option maxRecDepth 20000 in
theorem g_C_isProgram {d : Nat} {F : zM} {G : zG} (a1 : Int) : zle (
  if a1 < 0 then
  some (some (zI 0), F, G, zsg)
else
  if a1 < (F 46 2) then
    some (some (zI 1), F, G, zsg)
  else
    some (some (zI 0), F, G, zsg)) (zex (d + 1) 45 [zR 5, zI a1] (F, G, zsg)) := by
  refine zle_ent (ls := [zR 5, zI a1]) ?_
  refine zle_many 2 (45, (bif zcmp .lt a1 0 then 19 else 4), [zR 5, zI a1], [], F, G, zsg) rfl ?_
  refine zle_lt (fun _ => ?_) (fun _ => ?_)
  · refine zle_many 1 (45, 20, [zR 5, zI a1], [zI 0], F, G, zsg) rfl ?_
    exact zle_ret rfl
  · refine zle_many 5 (45, (bif zcmp .ge a1 (F 46 2) then 19 else 15), [zR 5, zI a1], [], F, G, zsg) rfl ?_
    refine zle_ge (fun _ => ?_) (fun _ => ?_)
    · refine zle_many 2 (45, 20, [zR 5, zI a1], [zI 1], F, G, zsg) rfl ?_
      exact zle_ret rfl
    · refine zle_many 1 (45, 20, [zR 5, zI a1], [zI 0], F, G, zsg) rfl ?_
      exact zle_ret rfl
set_option maxRecDepth 20000 in
theorem g_C_isThingOrHandIn {d : Nat} {F : zM} {G : zG} (a1 : Int) : zle (
  if (F 15 0) = a1 then
  some (some (zI 1), F, G, zsg)
else
  if (F 15 1) = a1 then
    some (some (zI 1), F, G, zsg)
  else
    zbI (zex d 229 [zR 44, zR 11, zI a1] (F, G, zsg)) (fun v1 F1 G1 =>
      if v1 < 0 then
        some (some (zI 0), F1, G1, zsg)
      else
        some (some (zI 1), F1, G1, zsg))) (zex (d + 1) 46 [zR 5, zI a1] (F, G, zsg)) := by
  refine zle_ent (ls := [zR 5, zI a1]) ?_
  refine zle_many 7 (46, (bif zcmp .eq (F 15 0) a1 then 41 else 13), [zR 5, zI a1], [], F, G, zsg) rfl ?_
  refine zle_eq (fun _ => ?_) (fun _ => ?_)
  · refine zle_many 2 (46, 46, [zR 5, zI a1], [zI 1], F, G, zsg) rfl ?_
    exact zle_ret rfl
  · refine zle_many 7 (46, (bif zcmp .eq (F 15 1) a1 then 41 else 26), [zR 5, zI a1], [], F, G, zsg) rfl ?_
    refine zle_eq (fun _ => ?_) (fun _ => ?_)
    · refine zle_many 2 (46, 46, [zR 5, zI a1], [zI 1], F, G, zsg) rfl ?_
      exact zle_ret rfl
    · refine zle_many 5 (46, 35, [zR 5, zI a1], [zI a1, zR 11, zR 44], F, G, zsg) rfl ?_
      refine zle_I rfl (fun v1 F1 G1 => ?_)
      refine zle_many 1 (46, (bif zcmp .lt v1 0 then 45 else 41), [zR 5, zI a1], [], F1, G1, zsg) rfl ?_
      refine zle_lt (fun _ => ?_) (fun _ => ?_)
      · refine zle_many 1 (46, 46, [zR 5, zI a1], [zI 0], F1, G1, zsg) rfl ?_
        exact zle_ret rfl
      · refine zle_many 2 (46, 46, [zR 5, zI a1], [zI 1], F1, G1, zsg) rfl ?_
        exact zle_ret rfl
set_option maxRecDepth 20000 in
theorem g_C_answerOf {d : Nat} {F : zM} {G : zG} (a0 : Int) : zle (
  if a0 = 0 then
  some (some (zI 0), F, G, zsg)
else
  some (some (zI (zsub (-10) a0)), F, G, zsg)) (zex (d + 1) 47 [zI a0] (F, G, zsg)) := by
  refine zle_ent (ls := [zI a0]) ?_
  refine zle_many 2 (47, (bif zcmp .ne a0 0 then 8 else 4), [zI a0], [], F, G, zsg) rfl ?_
  refine zle_ne (fun _ => ?_) (fun _ => ?_)
  · refine zle_many 2 (47, 12, [zI a0], [zI 0], F, G, zsg) rfl ?_
    exact zle_ret rfl
  · refine zle_many 3 (47, 12, [zI a0], [zI (zsub (-10) a0)], F, G, zsg) rfl ?_
    exact zle_ret rfl
