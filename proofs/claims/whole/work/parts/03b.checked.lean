/-! printed by wip/gen/gen_chk.py: every method but the law is checked -/
set_option maxRecDepth 100000 in
theorem zk_0 : zc_0.all (zchk 0 zm_0) = true := by decide +kernel
set_option maxRecDepth 100000 in
theorem zk_1 : zc_1.all (zchk 1 zm_1) = true := by decide +kernel
set_option maxRecDepth 100000 in
theorem zk_2 : zc_2.all (zchk 2 zm_2) = true := by decide +kernel
set_option maxRecDepth 100000 in
theorem zk_3 : zc_3.all (zchk 3 zm_3) = true := by decide +kernel
set_option maxRecDepth 100000 in
theorem zk_4 : zc_4.all (zchk 4 zm_4) = true := by decide +kernel
set_option maxRecDepth 100000 in
theorem zk_5 : zc_5.all (zchk 5 zm_5) = true := by decide +kernel
set_option maxRecDepth 100000 in
theorem zk_6 : zc_6.all (zchk 6 zm_6) = true := by decide +kernel
set_option maxRecDepth 100000 in
theorem zk_7 : zc_7.all (zchk 7 zm_7) = true := by decide +kernel
set_option maxRecDepth 100000 in
theorem zk_8 : zc_8.all (zchk 8 zm_8) = true := by decide +kernel
set_option maxRecDepth 100000 in
theorem zk_9 : zc_9.all (zchk 9 zm_9) = true := by decide +kernel
set_option maxRecDepth 100000 in
theorem zk_10 : zc_10.all (zchk 10 zm_10) = true := by decide +kernel
set_option maxRecDepth 100000 in
theorem zk_11 : zc_11.all (zchk 11 zm_11) = true := by decide +kernel
set_option maxRecDepth 100000 in
theorem zk_12 : zc_12.all (zchk 12 zm_12) = true := by decide +kernel
set_option maxRecDepth 100000 in
theorem zk_13 : zc_13.all (zchk 13 zm_13) = true := by decide +kernel
set_option maxRecDepth 100000 in
theorem zk_14 : zc_14.all (zchk 14 zm_14) = true := by decide +kernel
set_option maxRecDepth 100000 in
theorem zk_15 : zc_15.all (zchk 15 zm_15) = true := by decide +kernel
set_option maxRecDepth 100000 in
theorem zk_16 : zc_16.all (zchk 16 zm_16) = true := by decide +kernel
set_option maxRecDepth 100000 in
theorem zk_17 : zc_17.all (zchk 17 zm_17) = true := by decide +kernel
set_option maxRecDepth 100000 in
theorem zk_18 : zc_18.all (zchk 18 zm_18) = true := by decide +kernel
set_option maxRecDepth 100000 in
theorem zk_19 : zc_19.all (zchk 19 zm_19) = true := by decide +kernel
set_option maxRecDepth 100000 in
theorem zk_20 : zc_20.all (zchk 20 zm_20) = true := by decide +kernel
set_option maxRecDepth 100000 in
theorem zk_21 : zc_21.all (zchk 21 zm_21) = true := by decide +kernel
set_option maxRecDepth 100000 in
theorem zk_22 : zc_22.all (zchk 22 zm_22) = true := by decide +kernel
set_option maxRecDepth 100000 in
theorem zk_23 : zc_23.all (zchk 23 zm_23) = true := by decide +kernel
set_option maxRecDepth 100000 in
theorem zk_24 : zc_24.all (zchk 24 zm_24) = true := by decide +kernel
set_option maxRecDepth 100000 in
theorem zk_25 : zc_25.all (zchk 25 zm_25) = true := by decide +kernel
set_option maxRecDepth 100000 in
theorem zk_26 : zc_26.all (zchk 26 zm_26) = true := by decide +kernel
set_option maxRecDepth 100000 in
theorem zk_27 : zc_27.all (zchk 27 zm_27) = true := by decide +kernel
set_option maxRecDepth 100000 in
theorem zk_28 : zc_28.all (zchk 28 zm_28) = true := by decide +kernel
set_option maxRecDepth 100000 in
theorem zk_29 : zc_29.all (zchk 29 zm_29) = true := by decide +kernel
set_option maxRecDepth 100000 in
theorem zk_30 : zc_30.all (zchk 30 zm_30) = true := by decide +kernel
set_option maxRecDepth 100000 in
theorem zk_31 : zc_31.all (zchk 31 zm_31) = true := by decide +kernel
set_option maxRecDepth 100000 in
theorem zk_32 : zc_32.all (zchk 32 zm_32) = true := by decide +kernel
set_option maxRecDepth 100000 in
theorem zk_33 : zc_33.all (zchk 33 zm_33) = true := by decide +kernel
set_option maxRecDepth 100000 in
theorem zk_34 : zc_34.all (zchk 34 zm_34) = true := by decide +kernel
set_option maxRecDepth 100000 in
theorem zk_35 : zc_35.all (zchk 35 zm_35) = true := by decide +kernel
set_option maxRecDepth 100000 in
theorem zk_36 : zc_36.all (zchk 36 zm_36) = true := by decide +kernel
set_option maxRecDepth 100000 in
theorem zk_37 : zc_37.all (zchk 37 zm_37) = true := by decide +kernel
set_option maxRecDepth 100000 in
theorem zk_38 : zc_38.all (zchk 38 zm_38) = true := by decide +kernel
set_option maxRecDepth 100000 in
theorem zk_39 : zc_39.all (zchk 39 zm_39) = true := by decide +kernel
set_option maxRecDepth 100000 in
theorem zk_40 : zc_40.all (zchk 40 zm_40) = true := by decide +kernel
set_option maxRecDepth 100000 in
theorem zk_41 : zc_41.all (zchk 41 zm_41) = true := by decide +kernel
set_option maxRecDepth 100000 in
theorem zk_42 : zc_42.all (zchk 42 zm_42) = true := by decide +kernel
set_option maxRecDepth 100000 in
theorem zk_43 : zc_43.all (zchk 43 zm_43) = true := by decide +kernel
set_option maxRecDepth 100000 in
theorem zk_44 : zc_44.all (zchk 44 zm_44) = true := by decide +kernel
set_option maxRecDepth 100000 in
theorem zk_45 : zc_45.all (zchk 45 zm_45) = true := by decide +kernel
set_option maxRecDepth 100000 in
theorem zk_46 : zc_46.all (zchk 46 zm_46) = true := by decide +kernel
set_option maxRecDepth 100000 in
theorem zk_47 : zc_47.all (zchk 47 zm_47) = true := by decide +kernel
set_option maxRecDepth 100000 in
theorem zk_48 : zc_48.all (zchk 48 zm_48) = true := by decide +kernel
set_option maxRecDepth 100000 in
theorem zk_49 : zc_49.all (zchk 49 zm_49) = true := by decide +kernel
set_option maxRecDepth 100000 in
theorem zk_50 : zc_50.all (zchk 50 zm_50) = true := by decide +kernel
set_option maxRecDepth 100000 in
theorem zk_51 : zc_51.all (zchk 51 zm_51) = true := by decide +kernel
set_option maxRecDepth 100000 in
theorem zk_52 : zc_52.all (zchk 52 zm_52) = true := by decide +kernel
set_option maxRecDepth 100000 in
theorem zk_53 : zc_53.all (zchk 53 zm_53) = true := by decide +kernel
set_option maxRecDepth 100000 in
theorem zk_54 : zc_54.all (zchk 54 zm_54) = true := by decide +kernel
set_option maxRecDepth 100000 in
theorem zk_55 : zc_55.all (zchk 55 zm_55) = true := by decide +kernel
set_option maxRecDepth 100000 in
theorem zk_56 : zc_56.all (zchk 56 zm_56) = true := by decide +kernel
set_option maxRecDepth 100000 in
theorem zk_57 : zc_57.all (zchk 57 zm_57) = true := by decide +kernel
set_option maxRecDepth 100000 in
theorem zk_58 : zc_58.all (zchk 58 zm_58) = true := by decide +kernel
set_option maxRecDepth 100000 in
theorem zk_59 : zc_59.all (zchk 59 zm_59) = true := by decide +kernel
set_option maxRecDepth 100000 in
theorem zk_60 : zc_60.all (zchk 60 zm_60) = true := by decide +kernel
set_option maxRecDepth 100000 in
theorem zk_61 : zc_61.all (zchk 61 zm_61) = true := by decide +kernel
set_option maxRecDepth 100000 in
theorem zk_62 : zc_62.all (zchk 62 zm_62) = true := by decide +kernel
set_option maxRecDepth 100000 in
theorem zk_63 : zc_63.all (zchk 63 zm_63) = true := by decide +kernel
set_option maxRecDepth 100000 in
theorem zk_64 : zc_64.all (zchk 64 zm_64) = true := by decide +kernel
set_option maxRecDepth 100000 in
theorem zk_65 : zc_65.all (zchk 65 zm_65) = true := by decide +kernel
set_option maxRecDepth 100000 in
theorem zk_66 : zc_66.all (zchk 66 zm_66) = true := by decide +kernel
set_option maxRecDepth 100000 in
theorem zk_67 : zc_67.all (zchk 67 zm_67) = true := by decide +kernel
set_option maxRecDepth 100000 in
theorem zk_68 : zc_68.all (zchk 68 zm_68) = true := by decide +kernel
set_option maxRecDepth 100000 in
theorem zk_69 : zc_69.all (zchk 69 zm_69) = true := by decide +kernel
set_option maxRecDepth 100000 in
theorem zk_70 : zc_70.all (zchk 70 zm_70) = true := by decide +kernel
set_option maxRecDepth 100000 in
theorem zk_71 : zc_71.all (zchk 71 zm_71) = true := by decide +kernel
set_option maxRecDepth 100000 in
theorem zk_72 : zc_72.all (zchk 72 zm_72) = true := by decide +kernel
set_option maxRecDepth 100000 in
theorem zk_73 : zc_73.all (zchk 73 zm_73) = true := by decide +kernel
set_option maxRecDepth 100000 in
theorem zk_74 : zc_74.all (zchk 74 zm_74) = true := by decide +kernel
set_option maxRecDepth 100000 in
theorem zk_75 : zc_75.all (zchk 75 zm_75) = true := by decide +kernel
set_option maxRecDepth 100000 in
theorem zk_76 : zc_76.all (zchk 76 zm_76) = true := by decide +kernel
set_option maxRecDepth 100000 in
theorem zk_77 : zc_77.all (zchk 77 zm_77) = true := by decide +kernel
set_option maxRecDepth 100000 in
theorem zk_78 : zc_78.all (zchk 78 zm_78) = true := by decide +kernel
set_option maxRecDepth 100000 in
theorem zk_79 : zc_79.all (zchk 79 zm_79) = true := by decide +kernel
set_option maxRecDepth 100000 in
theorem zk_80 : zc_80.all (zchk 80 zm_80) = true := by decide +kernel
set_option maxRecDepth 100000 in
theorem zk_81 : zc_81.all (zchk 81 zm_81) = true := by decide +kernel
set_option maxRecDepth 100000 in
theorem zk_82 : zc_82.all (zchk 82 zm_82) = true := by decide +kernel
set_option maxRecDepth 100000 in
theorem zk_83 : zc_83.all (zchk 83 zm_83) = true := by decide +kernel
set_option maxRecDepth 100000 in
theorem zk_84 : zc_84.all (zchk 84 zm_84) = true := by decide +kernel
set_option maxRecDepth 100000 in
theorem zk_85 : zc_85.all (zchk 85 zm_85) = true := by decide +kernel
set_option maxRecDepth 100000 in
theorem zk_86 : zc_86.all (zchk 86 zm_86) = true := by decide +kernel
set_option maxRecDepth 100000 in
theorem zk_87 : zc_87.all (zchk 87 zm_87) = true := by decide +kernel
set_option maxRecDepth 100000 in
theorem zk_88 : zc_88.all (zchk 88 zm_88) = true := by decide +kernel
set_option maxRecDepth 100000 in
theorem zk_89 : zc_89.all (zchk 89 zm_89) = true := by decide +kernel
set_option maxRecDepth 100000 in
theorem zk_90 : zc_90.all (zchk 90 zm_90) = true := by decide +kernel
set_option maxRecDepth 100000 in
theorem zk_91 : zc_91.all (zchk 91 zm_91) = true := by decide +kernel
set_option maxRecDepth 100000 in
theorem zk_92 : zc_92.all (zchk 92 zm_92) = true := by decide +kernel
set_option maxRecDepth 100000 in
theorem zk_93 : zc_93.all (zchk 93 zm_93) = true := by decide +kernel
set_option maxRecDepth 100000 in
theorem zk_94 : zc_94.all (zchk 94 zm_94) = true := by decide +kernel
set_option maxRecDepth 100000 in
theorem zk_95 : zc_95.all (zchk 95 zm_95) = true := by decide +kernel
set_option maxRecDepth 100000 in
theorem zk_96 : zc_96.all (zchk 96 zm_96) = true := by decide +kernel
set_option maxRecDepth 100000 in
theorem zk_97 : zc_97.all (zchk 97 zm_97) = true := by decide +kernel
set_option maxRecDepth 100000 in
theorem zk_98 : zc_98.all (zchk 98 zm_98) = true := by decide +kernel
set_option maxRecDepth 100000 in
theorem zk_99 : zc_99.all (zchk 99 zm_99) = true := by decide +kernel
set_option maxRecDepth 100000 in
theorem zk_100 : zc_100.all (zchk 100 zm_100) = true := by decide +kernel
set_option maxRecDepth 100000 in
theorem zk_101 : zc_101.all (zchk 101 zm_101) = true := by decide +kernel
set_option maxRecDepth 100000 in
theorem zk_102 : zc_102.all (zchk 102 zm_102) = true := by decide +kernel
set_option maxRecDepth 100000 in
theorem zk_103 : zc_103.all (zchk 103 zm_103) = true := by decide +kernel
set_option maxRecDepth 100000 in
theorem zk_104 : zc_104.all (zchk 104 zm_104) = true := by decide +kernel
set_option maxRecDepth 100000 in
theorem zk_105 : zc_105.all (zchk 105 zm_105) = true := by decide +kernel
set_option maxRecDepth 100000 in
theorem zk_106 : zc_106.all (zchk 106 zm_106) = true := by decide +kernel
set_option maxRecDepth 100000 in
theorem zk_107 : zc_107.all (zchk 107 zm_107) = true := by decide +kernel
set_option maxRecDepth 100000 in
theorem zk_108 : zc_108.all (zchk 108 zm_108) = true := by decide +kernel
set_option maxRecDepth 100000 in
theorem zk_109 : zc_109.all (zchk 109 zm_109) = true := by decide +kernel
set_option maxRecDepth 100000 in
theorem zk_110 : zc_110.all (zchk 110 zm_110) = true := by decide +kernel
set_option maxRecDepth 100000 in
theorem zk_111 : zc_111.all (zchk 111 zm_111) = true := by decide +kernel
set_option maxRecDepth 100000 in
theorem zk_112 : zc_112.all (zchk 112 zm_112) = true := by decide +kernel
set_option maxRecDepth 100000 in
theorem zk_113 : zc_113.all (zchk 113 zm_113) = true := by decide +kernel
set_option maxRecDepth 100000 in
theorem zk_114 : zc_114.all (zchk 114 zm_114) = true := by decide +kernel
set_option maxRecDepth 100000 in
theorem zk_115 : zc_115.all (zchk 115 zm_115) = true := by decide +kernel
set_option maxRecDepth 100000 in
theorem zk_116 : zc_116.all (zchk 116 zm_116) = true := by decide +kernel
set_option maxRecDepth 100000 in
theorem zk_117 : zc_117.all (zchk 117 zm_117) = true := by decide +kernel
set_option maxRecDepth 100000 in
theorem zk_118 : zc_118.all (zchk 118 zm_118) = true := by decide +kernel
set_option maxRecDepth 100000 in
theorem zk_119 : zc_119.all (zchk 119 zm_119) = true := by decide +kernel
set_option maxRecDepth 100000 in
theorem zk_120 : zc_120.all (zchk 120 zm_120) = true := by decide +kernel
set_option maxRecDepth 100000 in
theorem zk_121 : zc_121.all (zchk 121 zm_121) = true := by decide +kernel
set_option maxRecDepth 100000 in
theorem zk_122 : zc_122.all (zchk 122 zm_122) = true := by decide +kernel
set_option maxRecDepth 100000 in
theorem zk_123 : zc_123.all (zchk 123 zm_123) = true := by decide +kernel
set_option maxRecDepth 100000 in
theorem zk_124 : zc_124.all (zchk 124 zm_124) = true := by decide +kernel
set_option maxRecDepth 100000 in
theorem zk_125 : zc_125.all (zchk 125 zm_125) = true := by decide +kernel
set_option maxRecDepth 100000 in
theorem zk_126 : zc_126.all (zchk 126 zm_126) = true := by decide +kernel
set_option maxRecDepth 100000 in
theorem zk_127 : zc_127.all (zchk 127 zm_127) = true := by decide +kernel
set_option maxRecDepth 100000 in
theorem zk_128 : zc_128.all (zchk 128 zm_128) = true := by decide +kernel
set_option maxRecDepth 100000 in
theorem zk_129 : zc_129.all (zchk 129 zm_129) = true := by decide +kernel
set_option maxRecDepth 100000 in
theorem zk_130 : zc_130.all (zchk 130 zm_130) = true := by decide +kernel
set_option maxRecDepth 100000 in
theorem zk_131 : zc_131.all (zchk 131 zm_131) = true := by decide +kernel
set_option maxRecDepth 100000 in
theorem zk_132 : zc_132.all (zchk 132 zm_132) = true := by decide +kernel
set_option maxRecDepth 100000 in
theorem zk_133 : zc_133.all (zchk 133 zm_133) = true := by decide +kernel
set_option maxRecDepth 100000 in
theorem zk_134 : zc_134.all (zchk 134 zm_134) = true := by decide +kernel
set_option maxRecDepth 100000 in
theorem zk_135 : zc_135.all (zchk 135 zm_135) = true := by decide +kernel
set_option maxRecDepth 100000 in
theorem zk_136 : zc_136.all (zchk 136 zm_136) = true := by decide +kernel
set_option maxRecDepth 100000 in
theorem zk_137 : zc_137.all (zchk 137 zm_137) = true := by decide +kernel
set_option maxRecDepth 100000 in
theorem zk_138 : zc_138.all (zchk 138 zm_138) = true := by decide +kernel
set_option maxRecDepth 100000 in
theorem zk_139 : zc_139.all (zchk 139 zm_139) = true := by decide +kernel
set_option maxRecDepth 100000 in
theorem zk_140 : zc_140.all (zchk 140 zm_140) = true := by decide +kernel
set_option maxRecDepth 100000 in
theorem zk_141 : zc_141.all (zchk 141 zm_141) = true := by decide +kernel
set_option maxRecDepth 100000 in
theorem zk_142 : zc_142.all (zchk 142 zm_142) = true := by decide +kernel
set_option maxRecDepth 100000 in
theorem zk_143 : zc_143.all (zchk 143 zm_143) = true := by decide +kernel
set_option maxRecDepth 100000 in
theorem zk_144 : zc_144.all (zchk 144 zm_144) = true := by decide +kernel
set_option maxRecDepth 100000 in
theorem zk_145 : zc_145.all (zchk 145 zm_145) = true := by decide +kernel
set_option maxRecDepth 100000 in
theorem zk_146 : zc_146.all (zchk 146 zm_146) = true := by decide +kernel
set_option maxRecDepth 100000 in
theorem zk_147 : zc_147.all (zchk 147 zm_147) = true := by decide +kernel
set_option maxRecDepth 100000 in
theorem zk_148 : zc_148.all (zchk 148 zm_148) = true := by decide +kernel
set_option maxRecDepth 100000 in
theorem zk_149 : zc_149.all (zchk 149 zm_149) = true := by decide +kernel
set_option maxRecDepth 100000 in
theorem zk_150 : zc_150.all (zchk 150 zm_150) = true := by decide +kernel
set_option maxRecDepth 100000 in
theorem zk_151 : zc_151.all (zchk 151 zm_151) = true := by decide +kernel
set_option maxRecDepth 100000 in
theorem zk_152 : zc_152.all (zchk 152 zm_152) = true := by decide +kernel
set_option maxRecDepth 100000 in
theorem zk_153 : zc_153.all (zchk 153 zm_153) = true := by decide +kernel
set_option maxRecDepth 100000 in
theorem zk_154 : zc_154.all (zchk 154 zm_154) = true := by decide +kernel
set_option maxRecDepth 100000 in
theorem zk_155 : zc_155.all (zchk 155 zm_155) = true := by decide +kernel
set_option maxRecDepth 100000 in
theorem zk_156 : zc_156.all (zchk 156 zm_156) = true := by decide +kernel
set_option maxRecDepth 100000 in
theorem zk_157 : zc_157.all (zchk 157 zm_157) = true := by decide +kernel
set_option maxRecDepth 100000 in
theorem zk_158 : zc_158.all (zchk 158 zm_158) = true := by decide +kernel
set_option maxRecDepth 100000 in
theorem zk_159 : zc_159.all (zchk 159 zm_159) = true := by decide +kernel
set_option maxRecDepth 100000 in
theorem zk_160 : zc_160.all (zchk 160 zm_160) = true := by decide +kernel
set_option maxRecDepth 100000 in
theorem zk_161 : zc_161.all (zchk 161 zm_161) = true := by decide +kernel
set_option maxRecDepth 100000 in
theorem zk_162 : zc_162.all (zchk 162 zm_162) = true := by decide +kernel
set_option maxRecDepth 100000 in
theorem zk_163 : zc_163.all (zchk 163 zm_163) = true := by decide +kernel
set_option maxRecDepth 100000 in
theorem zk_164 : zc_164.all (zchk 164 zm_164) = true := by decide +kernel
set_option maxRecDepth 100000 in
theorem zk_165 : zc_165.all (zchk 165 zm_165) = true := by decide +kernel
set_option maxRecDepth 100000 in
theorem zk_166 : zc_166.all (zchk 166 zm_166) = true := by decide +kernel
set_option maxRecDepth 100000 in
theorem zk_167 : zc_167.all (zchk 167 zm_167) = true := by decide +kernel
set_option maxRecDepth 100000 in
theorem zk_168 : zc_168.all (zchk 168 zm_168) = true := by decide +kernel
set_option maxRecDepth 100000 in
theorem zk_169 : zc_169.all (zchk 169 zm_169) = true := by decide +kernel
set_option maxRecDepth 100000 in
theorem zk_170 : zc_170.all (zchk 170 zm_170) = true := by decide +kernel
set_option maxRecDepth 100000 in
theorem zk_171 : zc_171.all (zchk 171 zm_171) = true := by decide +kernel
set_option maxRecDepth 100000 in
theorem zk_172 : zc_172.all (zchk 172 zm_172) = true := by decide +kernel
set_option maxRecDepth 100000 in
theorem zk_173 : zc_173.all (zchk 173 zm_173) = true := by decide +kernel
set_option maxRecDepth 100000 in
theorem zk_174 : zc_174.all (zchk 174 zm_174) = true := by decide +kernel
set_option maxRecDepth 100000 in
theorem zk_175 : zc_175.all (zchk 175 zm_175) = true := by decide +kernel
set_option maxRecDepth 100000 in
theorem zk_176 : zc_176.all (zchk 176 zm_176) = true := by decide +kernel
set_option maxRecDepth 100000 in
theorem zk_177 : zc_177.all (zchk 177 zm_177) = true := by decide +kernel
set_option maxRecDepth 100000 in
theorem zk_178 : zc_178.all (zchk 178 zm_178) = true := by decide +kernel
set_option maxRecDepth 100000 in
theorem zk_179 : zc_179.all (zchk 179 zm_179) = true := by decide +kernel
set_option maxRecDepth 100000 in
theorem zk_180 : zc_180.all (zchk 180 zm_180) = true := by decide +kernel
set_option maxRecDepth 100000 in
theorem zk_181 : zc_181.all (zchk 181 zm_181) = true := by decide +kernel
set_option maxRecDepth 100000 in
theorem zk_182 : zc_182.all (zchk 182 zm_182) = true := by decide +kernel
set_option maxRecDepth 100000 in
theorem zk_183 : zc_183.all (zchk 183 zm_183) = true := by decide +kernel
set_option maxRecDepth 100000 in
theorem zk_184 : zc_184.all (zchk 184 zm_184) = true := by decide +kernel
set_option maxRecDepth 100000 in
theorem zk_185 : zc_185.all (zchk 185 zm_185) = true := by decide +kernel
set_option maxRecDepth 100000 in
theorem zk_186 : zc_186.all (zchk 186 zm_186) = true := by decide +kernel
set_option maxRecDepth 100000 in
theorem zk_187 : zc_187.all (zchk 187 zm_187) = true := by decide +kernel
set_option maxRecDepth 100000 in
theorem zk_188 : zc_188.all (zchk 188 zm_188) = true := by decide +kernel
set_option maxRecDepth 100000 in
theorem zk_189 : zc_189.all (zchk 189 zm_189) = true := by decide +kernel
set_option maxRecDepth 100000 in
theorem zk_190 : zc_190.all (zchk 190 zm_190) = true := by decide +kernel
set_option maxRecDepth 100000 in
theorem zk_191 : zc_191.all (zchk 191 zm_191) = true := by decide +kernel
set_option maxRecDepth 100000 in
theorem zk_192 : zc_192.all (zchk 192 zm_192) = true := by decide +kernel
set_option maxRecDepth 100000 in
theorem zk_193 : zc_193.all (zchk 193 zm_193) = true := by decide +kernel
set_option maxRecDepth 100000 in
theorem zk_194 : zc_194.all (zchk 194 zm_194) = true := by decide +kernel
set_option maxRecDepth 100000 in
theorem zk_195 : zc_195.all (zchk 195 zm_195) = true := by decide +kernel
set_option maxRecDepth 100000 in
theorem zk_196 : zc_196.all (zchk 196 zm_196) = true := by decide +kernel
set_option maxRecDepth 100000 in
theorem zk_197 : zc_197.all (zchk 197 zm_197) = true := by decide +kernel
set_option maxRecDepth 100000 in
theorem zk_198 : zc_198.all (zchk 198 zm_198) = true := by decide +kernel
set_option maxRecDepth 100000 in
theorem zk_199 : zc_199.all (zchk 199 zm_199) = true := by decide +kernel
set_option maxRecDepth 100000 in
theorem zk_200 : zc_200.all (zchk 200 zm_200) = true := by decide +kernel
set_option maxRecDepth 100000 in
theorem zk_201 : zc_201.all (zchk 201 zm_201) = true := by decide +kernel
set_option maxRecDepth 100000 in
theorem zk_202 : zc_202.all (zchk 202 zm_202) = true := by decide +kernel
set_option maxRecDepth 100000 in
theorem zk_203 : zc_203.all (zchk 203 zm_203) = true := by decide +kernel
set_option maxRecDepth 100000 in
theorem zk_204 : zc_204.all (zchk 204 zm_204) = true := by decide +kernel
set_option maxRecDepth 100000 in
theorem zk_205 : zc_205.all (zchk 205 zm_205) = true := by decide +kernel
set_option maxRecDepth 100000 in
theorem zk_206 : zc_206.all (zchk 206 zm_206) = true := by decide +kernel
set_option maxRecDepth 100000 in
theorem zk_207 : zc_207.all (zchk 207 zm_207) = true := by decide +kernel
set_option maxRecDepth 100000 in
theorem zk_208 : zc_208.all (zchk 208 zm_208) = true := by decide +kernel
set_option maxRecDepth 100000 in
theorem zk_209 : zc_209.all (zchk 209 zm_209) = true := by decide +kernel
set_option maxRecDepth 100000 in
theorem zk_210 : zc_210.all (zchk 210 zm_210) = true := by decide +kernel
set_option maxRecDepth 100000 in
theorem zk_211 : zc_211.all (zchk 211 zm_211) = true := by decide +kernel
set_option maxRecDepth 100000 in
theorem zk_212 : zc_212.all (zchk 212 zm_212) = true := by decide +kernel
set_option maxRecDepth 100000 in
theorem zk_213 : zc_213.all (zchk 213 zm_213) = true := by decide +kernel
set_option maxRecDepth 100000 in
theorem zk_214 : zc_214.all (zchk 214 zm_214) = true := by decide +kernel
set_option maxRecDepth 100000 in
theorem zk_215 : zc_215.all (zchk 215 zm_215) = true := by decide +kernel
set_option maxRecDepth 100000 in
theorem zk_216 : zc_216.all (zchk 216 zm_216) = true := by decide +kernel
set_option maxRecDepth 100000 in
theorem zk_217 : zc_217.all (zchk 217 zm_217) = true := by decide +kernel
set_option maxRecDepth 100000 in
theorem zk_218 : zc_218.all (zchk 218 zm_218) = true := by decide +kernel
set_option maxRecDepth 100000 in
theorem zk_219 : zc_219.all (zchk 219 zm_219) = true := by decide +kernel
set_option maxRecDepth 100000 in
theorem zk_220 : zc_220.all (zchk 220 zm_220) = true := by decide +kernel
set_option maxRecDepth 100000 in
theorem zk_221 : zc_221.all (zchk 221 zm_221) = true := by decide +kernel
set_option maxRecDepth 100000 in
theorem zk_222 : zc_222.all (zchk 222 zm_222) = true := by decide +kernel
set_option maxRecDepth 100000 in
theorem zk_223 : zc_223.all (zchk 223 zm_223) = true := by decide +kernel
set_option maxRecDepth 100000 in
theorem zk_224 : zc_224.all (zchk 224 zm_224) = true := by decide +kernel
set_option maxRecDepth 100000 in
theorem zk_225 : zc_225.all (zchk 225 zm_225) = true := by decide +kernel
set_option maxRecDepth 100000 in
theorem zk_226 : zc_226.all (zchk 226 zm_226) = true := by decide +kernel
set_option maxRecDepth 100000 in
theorem zk_227 : zc_227.all (zchk 227 zm_227) = true := by decide +kernel
set_option maxRecDepth 100000 in
theorem zk_228 : zc_228.all (zchk 228 zm_228) = true := by decide +kernel
set_option maxRecDepth 100000 in
theorem zk_229 : zc_229.all (zchk 229 zm_229) = true := by decide +kernel
set_option maxRecDepth 100000 in
theorem zk_230 : zc_230.all (zchk 230 zm_230) = true := by decide +kernel
set_option maxRecDepth 100000 in
theorem zk_231 : zc_231.all (zchk 231 zm_231) = true := by decide +kernel
set_option maxRecDepth 100000 in
theorem zk_232 : zc_232.all (zchk 232 zm_232) = true := by decide +kernel
set_option maxRecDepth 100000 in
theorem zk_233 : zc_233.all (zchk 233 zm_233) = true := by decide +kernel
set_option maxRecDepth 100000 in
theorem zk_234 : zc_234.all (zchk 234 zm_234) = true := by decide +kernel
set_option maxRecDepth 100000 in
theorem zk_235 : zc_235.all (zchk 235 zm_235) = true := by decide +kernel
set_option maxRecDepth 100000 in
theorem zk_236 : zc_236.all (zchk 236 zm_236) = true := by decide +kernel
set_option maxRecDepth 100000 in
theorem zk_237 : zc_237.all (zchk 237 zm_237) = true := by decide +kernel
set_option maxRecDepth 100000 in
theorem zk_238 : zc_238.all (zchk 238 zm_238) = true := by decide +kernel
set_option maxRecDepth 100000 in
theorem zk_239 : zc_239.all (zchk 239 zm_239) = true := by decide +kernel
set_option maxRecDepth 100000 in
theorem zk_240 : zc_240.all (zchk 240 zm_240) = true := by decide +kernel
set_option maxRecDepth 100000 in
theorem zk_241 : zc_241.all (zchk 241 zm_241) = true := by decide +kernel
set_option maxRecDepth 100000 in
theorem zk_243 : zc_243.all (zchk 243 zm_243) = true := by decide +kernel
set_option maxRecDepth 100000 in
theorem zk_244 : zc_244.all (zchk 244 zm_244) = true := by decide +kernel
