/-! statics, new cells, Object's own constructor, arraycopy -/
set_option maxRecDepth 100000 in
theorem ztag_lt : (List.range 11).all (fun ci => (List.range (znf ci)).all (fun j => Nat.blt (ztag ci j) 4)) = true := by decide +kernel
theorem ztag_4 {ci j : Nat} (hc : ci < 11) (hj : j < znf ci) : ztag ci j < 4 := z_blt (List.all_eq_true.mp (List.all_eq_true.mp ztag_lt ci (List.mem_range.mpr hc)) j (List.mem_range.mpr hj))
