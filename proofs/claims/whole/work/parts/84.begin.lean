/-! the relation holds when both are made -/
theorem zI0_all : zAll zI0 (zI0 72) zI0 zJ0 := by
  have hG : ∀ a b, zJ0 a b = BitVec.ofNat 64 0 := fun a b => by rw [zJ0_0]
  have e8 : ∀ t : Nat, t < 8 → t = 0 ∨ t = 1 ∨ t = 2 ∨ t = 3 ∨ t = 4 ∨ t = 5 ∨ t = 6 ∨ t = 7 := fun t h => by omega
  have e4 : ∀ t : Nat, t < 4 → t = 0 ∨ t = 1 ∨ t = 2 ∨ t = 3 := fun t h => by omega
  have e2 : ∀ t : Nat, t < 2 → t = 0 ∨ t = 1 := fun t h => by omega
  have z : ∀ b, zrw [] b = 0 := fun _ => rfl
  have q71_3 : zI0 71 3 = 0 := by rw [zI0_71]; rfl
  have q71_5 : zI0 71 5 = 0 := by rw [zI0_71]; rfl
  have q71_8 : zI0 71 8 = 0 := by rw [zI0_71]; rfl
  have q71_11 : zI0 71 11 = 8 := by rw [zI0_71]; rfl
  have q71_12 : zI0 71 12 = 0 := by rw [zI0_71]; rfl
  have q71_18 : zI0 71 18 = 0 := by rw [zI0_71]; rfl
  have q71_19 : zI0 71 19 = 0 := by rw [zI0_71]; rfl
  have q71_23 : zI0 71 23 = 0 := by rw [zI0_71]; rfl
  have q71_24 : zI0 71 24 = 0 := by rw [zI0_71]; rfl
  have q71_31 : zI0 71 31 = 0 := by rw [zI0_71]; rfl
  have q71_32 : zI0 71 32 = 0 := by rw [zI0_71]; rfl
  have q71_33 : zI0 71 33 = 0 := by rw [zI0_71]; rfl
  have p0 : ∀ t : Nat, t < 8 → zI0 72 t = -1 := fun t h => by rw [zI0_72]; rcases e8 t h with rfl | rfl | rfl | rfl | rfl | rfl | rfl | rfl <;> rfl
  have p8 : ∀ t : Nat, t < 8 → zI0 72 (8 + t) = -1 := fun t h => by rw [zI0_72]; rcases e8 t h with rfl | rfl | rfl | rfl | rfl | rfl | rfl | rfl <;> rfl
  have p16 : ∀ t : Nat, t < 8 → zI0 72 (16 + t) = -1 := fun t h => by rw [zI0_72]; rcases e8 t h with rfl | rfl | rfl | rfl | rfl | rfl | rfl | rfl <;> rfl
  have p24 : ∀ t : Nat, t < 4 → zI0 72 (24 + t) = 0 := fun t h => by rw [zI0_72]; rcases e4 t h with rfl | rfl | rfl | rfl <;> rfl
  have p28 : ∀ t : Nat, t < 2 → zI0 72 (28 + t) = -1 := fun t h => by rw [zI0_72]; rcases e2 t h with rfl | rfl <;> rfl
  have p30 : ∀ t : Nat, t < 2 → zI0 72 (30 + t) = -1 := fun t h => by rw [zI0_72]; rcases e2 t h with rfl | rfl <;> rfl
  have p32 : ∀ t : Nat, t < 2 → zI0 72 (32 + t) = 0 := fun t h => by rw [zI0_72]; rcases e2 t h with rfl | rfl <;> rfl
  have p34 : ∀ t : Nat, t < 2 → zI0 72 (34 + t) = -1 := fun t h => by rw [zI0_72]; rcases e2 t h with rfl | rfl <;> rfl
  have p36 : ∀ t : Nat, t < 2 → zI0 72 (36 + t) = 0 := fun t h => by rw [zI0_72]; rcases e2 t h with rfl | rfl <;> rfl
  have p38 : ∀ t : Nat, t < 2 → zI0 72 (38 + t) = 0 := fun t h => by rw [zI0_72]; rcases e2 t h with rfl | rfl <;> rfl
  have p40 : ∀ t : Nat, t < 2 → zI0 72 (40 + t) = 0 := fun t h => by rw [zI0_72]; rcases e2 t h with rfl | rfl <;> rfl
  have p42 : zI0 72 42 = 0 := by rw [zI0_72]; rfl
  have s0 : zI0 11 1 = 0 := by rw [zI0_11]; rfl
  have hSC : zSC 11 (zI0 72) zI0 := by
    refine ⟨fun t h => ?_, ⟨?_, fun e h => ?_⟩, fun g h => ?_, ?_⟩
    · rw [p0 t h, p8 t h, p16 t h]
      show zI0 12 t = -1 ∧ zI0 13 t = -1 ∧ zI0 14 t = -1
      rw [zI0_12, zI0_13, zI0_14]
      rcases e8 t h with rfl | rfl | rfl | rfl | rfl | rfl | rfl | rfl <;> exact ⟨rfl, rfl, rfl⟩
    · rw [s0]; decide
    · rw [p24 e h, s0, if_neg (z_b0 e)]
    · rw [p28 g h, p30 g h, p32 g h, p34 g h, p36 g h, p38 g h, p40 g h]
      show zI0 15 g = -1 ∧ zI0 16 g = -1 ∧ zI0 17 g = 0 ∧ zI0 18 g = -1 ∧ zI0 19 g = 0 ∧ zI0 20 g = 0 ∧ zI0 21 g = 0
      rw [zI0_15, zI0_16, zI0_17, zI0_18, zI0_19, zI0_20, zI0_21]
      rcases e2 g h with rfl | rfl <;> exact ⟨rfl, rfl, rfl, rfl, rfl, rfl, rfl⟩
    · rw [p42, zI0_11]; rfl
  have hCR : zCR zI0 zI0 zJ0 := by
    refine ⟨?_, ?_, ?_, ?_, ?_, ?_, ?_, ?_⟩
    · rw [q71_8, zI0_6]; rfl
    · rw [q71_11, zI0_6]; rfl
    · rw [q71_5, zI0_6]; rfl
    · rw [zI0_7, zI0_78]
    · rw [zI0_8, zI0_79]
    · rw [zI0_9, zI0_76]
    · rw [zI0_10, zI0_77]
    · rw [hG, zset_none]
      refine zset_congr fun c _ _ => ⟨fun q => q.elim, fun q => q ?_⟩
      rw [zI0_75]
      rfl
  have hRv : zRv zI0 := by
    refine ⟨by rw [q71_8]; decide, by rw [q71_5]; decide, by rw [q71_11]; decide, fun t _ => ?_, fun t _ => ?_, fun t h => ?_, fun e _ => ?_, fun e _ => ?_, fun c _ => ?_⟩
    · rw [zI0_78, z]; decide
    · rw [zI0_79, z]; decide
    · rw [q71_8] at h; omega
    · rw [zI0_76, z]; decide
    · rw [zI0_77, z]; decide
    · rw [zI0_75, z]; exact Or.inl rfl
  have hPv : zPv zI0 (zI0 72) := by
    refine ⟨fun t h => Or.inl (p0 t h), fun g h => by rw [p28 g h]; decide, fun g h => by rw [p30 g h, q71_8]; decide, fun t h => by rw [p8 t h]; decide, fun t h _ => ⟨p0 t h, p8 t h⟩, fun e h => Or.inl (p24 e h), fun e h _ => p24 e h, fun g h q => absurd (p30 g h) q, fun t g h1 h2 q => ?_⟩
    rw [p8 t h1] at q
    omega
  refine ⟨⟨hSC, hCR, ⟨rfl, rfl, rfl, rfl, rfl, rfl, rfl, rfl⟩, rfl, hRv, hPv⟩, fun t u h1 h2 _ q _ => absurd (p0 t h1) q, fun g h => ?_, ⟨?_, ?_, fun q => ?_⟩, ⟨?_, ?_, ?_, ?_, ?_, fun j => ?_, ?_, fun k hk => ?_⟩, ⟨?_, ?_, ?_, ?_, ?_, ?_, fun i hi => ?_⟩, ⟨?_, ?_, ?_, ?_, ?_, ?_, ?_, ?_, ?_⟩, ⟨?_, ?_, fun q => ?_, ?_, ?_, fun i hi => ?_⟩, ⟨?_, ?_, fun s hs => ?_, fun s i hs hi => ?_⟩⟩
  · rw [p34 g h, p36 g h, p40 g h, q71_12]
    exact ⟨by decide, by decide, fun q => absurd rfl q, by decide, by decide⟩
  · rw [q71_3, zI0_5]; rfl
  · exact Or.inl q71_3
  · rw [q71_3] at q; omega
  · rw [q71_18, zI0_46]; rfl
  · rw [q71_18]; decide
  · rw [q71_12, zI0_46]; rfl
  · rw [q71_12]; decide
  · rw [zI0_47, zI0_84]
  · rw [zI0_84, z]; decide
  · rw [zI0_48, zI0_80]
  · rw [q71_12] at hk; omega
  · rw [q71_23, q71_19, zI0_60]; rfl
  · rw [q71_23, zI0_60]; intro _; rfl
  · rw [q71_32, zI0_60]; rfl
  · rw [q71_19]; decide
  · rw [q71_23]; intro q; omega
  · rw [q71_23]; decide
  · rw [q71_19] at hi; omega
  · rw [q71_24, zI0_53]; rfl
  · rw [q71_24]; decide
  · rw [q71_31, zI0_53]; rfl
  · rw [zI0_54, zI0_88]
  · rw [zI0_55, zI0_89]
  · rw [zI0_56, zI0_90]
  · rw [zI0_57, zI0_91]
  · rw [zI0_58, zI0_92]
  · funext b; rw [hG, hG]
  · rw [q71_33, zI0_64]; rfl
  · rw [q71_33]; decide
  · rw [q71_33] at q; omega
  · rw [zI0_65, zI0_94]
  · rw [zI0_66, zI0_95]
  · rw [q71_33] at hi; omega
  · rw [zI0_68, zI0_96]
  · rw [zI0_69, zI0_97]
  · rw [zI0_96, zI0_97, z]
    rcases e4 s hs with rfl | rfl | rfl | rfl <;> decide
  · rw [zI0_97, z] at hi; omega
theorem zI0_RR : zRR zI0 zJ0 := ⟨zI0, zI0 72, zI0_all⟩
