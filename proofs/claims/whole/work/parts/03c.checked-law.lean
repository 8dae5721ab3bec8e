/-! printed by wip/gen/gen_chk.py: the law is checked, chunk by chunk -/
set_option maxRecDepth 100000 in
theorem zk_242_0 : zc_242_0.all (zchk 242 zm_242) = true := by decide +kernel
set_option maxRecDepth 100000 in
theorem zk_242_1 : zc_242_1.all (zchk 242 zm_242) = true := by decide +kernel
set_option maxRecDepth 100000 in
theorem zk_242_2 : zc_242_2.all (zchk 242 zm_242) = true := by decide +kernel
set_option maxRecDepth 100000 in
theorem zk_242_3 : zc_242_3.all (zchk 242 zm_242) = true := by decide +kernel
set_option maxRecDepth 100000 in
theorem zk_242_4 : zc_242_4.all (zchk 242 zm_242) = true := by decide +kernel
set_option maxRecDepth 100000 in
theorem zk_242_5 : zc_242_5.all (zchk 242 zm_242) = true := by decide +kernel
set_option maxRecDepth 100000 in
theorem zk_242_6 : zc_242_6.all (zchk 242 zm_242) = true := by decide +kernel
set_option maxRecDepth 100000 in
theorem zk_242_7 : zc_242_7.all (zchk 242 zm_242) = true := by decide +kernel
set_option maxRecDepth 100000 in
theorem zk_242_8 : zc_242_8.all (zchk 242 zm_242) = true := by decide +kernel
set_option maxRecDepth 100000 in
theorem zk_242_9 : zc_242_9.all (zchk 242 zm_242) = true := by decide +kernel
set_option maxRecDepth 100000 in
theorem zk_242_10 : zc_242_10.all (zchk 242 zm_242) = true := by decide +kernel
set_option maxRecDepth 100000 in
theorem zk_242_11 : zc_242_11.all (zchk 242 zm_242) = true := by decide +kernel
set_option maxRecDepth 100000 in
theorem zk_242_12 : zc_242_12.all (zchk 242 zm_242) = true := by decide +kernel
set_option maxRecDepth 100000 in
theorem zk_242_13 : zc_242_13.all (zchk 242 zm_242) = true := by decide +kernel
set_option maxRecDepth 100000 in
theorem zk_242_14 : zc_242_14.all (zchk 242 zm_242) = true := by decide +kernel
set_option maxRecDepth 100000 in
theorem zk_242_15 : zc_242_15.all (zchk 242 zm_242) = true := by decide +kernel
set_option maxRecDepth 100000 in
theorem zk_242_16 : zc_242_16.all (zchk 242 zm_242) = true := by decide +kernel
set_option maxRecDepth 100000 in
theorem zk_242_17 : zc_242_17.all (zchk 242 zm_242) = true := by decide +kernel
set_option maxRecDepth 100000 in
theorem zk_242_18 : zc_242_18.all (zchk 242 zm_242) = true := by decide +kernel
set_option maxRecDepth 100000 in
theorem zk_242_19 : zc_242_19.all (zchk 242 zm_242) = true := by decide +kernel
set_option maxRecDepth 100000 in
theorem zk_242_20 : zc_242_20.all (zchk 242 zm_242) = true := by decide +kernel
set_option maxRecDepth 100000 in
theorem zk_242_21 : zc_242_21.all (zchk 242 zm_242) = true := by decide +kernel
set_option maxRecDepth 100000 in
theorem zk_242_22 : zc_242_22.all (zchk 242 zm_242) = true := by decide +kernel
set_option maxRecDepth 100000 in
theorem zk_242_23 : zc_242_23.all (zchk 242 zm_242) = true := by decide +kernel
set_option maxRecDepth 100000 in
theorem zk_242_24 : zc_242_24.all (zchk 242 zm_242) = true := by decide +kernel
set_option maxRecDepth 100000 in
theorem zk_242_25 : zc_242_25.all (zchk 242 zm_242) = true := by decide +kernel
set_option maxRecDepth 100000 in
theorem zk_242_26 : zc_242_26.all (zchk 242 zm_242) = true := by decide +kernel
set_option maxRecDepth 100000 in
theorem zk_242_27 : zc_242_27.all (zchk 242 zm_242) = true := by decide +kernel
set_option maxRecDepth 100000 in
theorem zk_242_28 : zc_242_28.all (zchk 242 zm_242) = true := by decide +kernel
theorem zk_242 : zc_242.all (zchk 242 zm_242) = true := by
  simp only [zc_242, List.all_append, zk_242_0, zk_242_1, zk_242_2, zk_242_3, zk_242_4, zk_242_5, zk_242_6, zk_242_7, zk_242_8, zk_242_9, zk_242_10, zk_242_11, zk_242_12, zk_242_13, zk_242_14, zk_242_15, zk_242_16, zk_242_17, zk_242_18, zk_242_19, zk_242_20, zk_242_21, zk_242_22, zk_242_23, zk_242_24, zk_242_25, zk_242_26, zk_242_27, zk_242_28, Bool.and_self]
