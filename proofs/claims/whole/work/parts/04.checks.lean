theorem fld_all : fldT.all fldOk = true := by decide +kernel
theorem mth_all : mthT.all mthOk = true := by decide +kernel
theorem mw_0 : ((mwT.drop 0).take 60).all mwOk = true := by decide +kernel
theorem mw_1 : ((mwT.drop 60).take 60).all mwOk = true := by decide +kernel
theorem mw_2 : ((mwT.drop 120).take 60).all mwOk = true := by decide +kernel
theorem mw_3 : ((mwT.drop 180).take 60).all mwOk = true := by decide +kernel
theorem mw_4 : ((mwT.drop 240).take 60).all mwOk = true := by decide +kernel
theorem mw_all : mwT.all mwOk = true := by
  have e : mwT = (mwT.drop 0).take 60 ++ ((mwT.drop 60).take 60 ++ ((mwT.drop 120).take 60 ++ ((mwT.drop 180).take 60 ++ (mwT.drop 240).take 60))) := by decide +kernel
  rw [e]
  simp only [List.all_append, Bool.and_eq_true]
  exact ⟨mw_0, mw_1, mw_2, mw_3, mw_4⟩
theorem mw_len : mwT.map (fun q => q.1) = List.range 259 := by decide +kernel
theorem obj_all : objT.all objOk = true := by decide +kernel
theorem mat_all : matT.all matOk = true := by decide +kernel
theorem cpy_all : cpyT.all cpyOk = true := by decide +kernel
set_option maxRecDepth 20000 in
theorem mc_0 : lw_tbl[207]? = some (cwd 0) := by rfl
set_option maxRecDepth 20000 in
theorem mc_1 : lw_tbl[768]? = some (cwd 1) := by rfl
set_option maxRecDepth 20000 in
theorem mc_2 : lw_tbl[772]? = some (cwd 2) := by rfl
set_option maxRecDepth 20000 in
theorem mc_3 : lw_tbl[776]? = some (cwd 3) := by rfl
set_option maxRecDepth 20000 in
theorem mc_4 : lw_tbl[1062]? = some (cwd 4) := by rfl
set_option maxRecDepth 20000 in
theorem mc_5 : lw_tbl[792]? = some (cwd 5) := by rfl
set_option maxRecDepth 20000 in
theorem mc_6 : lw_tbl[796]? = some (cwd 6) := by rfl
set_option maxRecDepth 20000 in
theorem mc_7 : lw_tbl[800]? = some (cwd 7) := by rfl
set_option maxRecDepth 20000 in
theorem mc_8 : lw_tbl[242]? = some (cwd 8) := by rfl
set_option maxRecDepth 20000 in
theorem mc_9 : lw_tbl[846]? = some (cwd 9) := by rfl
set_option maxRecDepth 20000 in
theorem mc_10 : lw_tbl[842]? = some (cwd 10) := by rfl
set_option maxRecDepth 20000 in
theorem mc_11 : lw_tbl[856]? = some (cwd 11) := by rfl
set_option maxRecDepth 20000 in
theorem mc_12 : lw_tbl[863]? = some (cwd 12) := by rfl
set_option maxRecDepth 20000 in
theorem mc_13 : lw_tbl[866]? = some (cwd 13) := by rfl
set_option maxRecDepth 20000 in
theorem mc_14 : lw_tbl[957]? = some (cwd 14) := by rfl
set_option maxRecDepth 20000 in
theorem mc_15 : lw_tbl[961]? = some (cwd 15) := by rfl
set_option maxRecDepth 20000 in
theorem mc_16 : lw_tbl[870]? = some (cwd 16) := by rfl
set_option maxRecDepth 20000 in
theorem mc_17 : lw_tbl[898]? = some (cwd 17) := by rfl
set_option maxRecDepth 20000 in
theorem mc_18 : lw_tbl[860]? = some (cwd 18) := by rfl
set_option maxRecDepth 20000 in
theorem mc_19 : lw_tbl[875]? = some (cwd 19) := by rfl
set_option maxRecDepth 20000 in
theorem mc_20 : lw_tbl[1108]? = some (cwd 20) := by rfl
set_option maxRecDepth 20000 in
theorem mc_21 : lw_tbl[1124]? = some (cwd 21) := by rfl
set_option maxRecDepth 20000 in
theorem mc_22 : lw_tbl[340]? = some (cwd 22) := by rfl
set_option maxRecDepth 20000 in
theorem mc_23 : lw_tbl[952]? = some (cwd 23) := by rfl
set_option maxRecDepth 20000 in
theorem mc_24 : lw_tbl[978]? = some (cwd 24) := by rfl
set_option maxRecDepth 20000 in
theorem mc_25 : lw_tbl[987]? = some (cwd 25) := by rfl
set_option maxRecDepth 20000 in
theorem mc_26 : lw_tbl[965]? = some (cwd 26) := by rfl
set_option maxRecDepth 20000 in
theorem mc_27 : lw_tbl[969]? = some (cwd 27) := by rfl
set_option maxRecDepth 20000 in
theorem mc_28 : lw_tbl[974]? = some (cwd 28) := by rfl
set_option maxRecDepth 20000 in
theorem mc_29 : lw_tbl[983]? = some (cwd 29) := by rfl
set_option maxRecDepth 20000 in
theorem mc_30 : lw_tbl[432]? = some (cwd 30) := by rfl
set_option maxRecDepth 20000 in
theorem mc_31 : lw_tbl[1086]? = some (cwd 31) := by rfl
set_option maxRecDepth 20000 in
theorem mc_32 : lw_tbl[1092]? = some (cwd 32) := by rfl
set_option maxRecDepth 20000 in
theorem mc_33 : lw_tbl[1096]? = some (cwd 33) := by rfl
set_option maxRecDepth 20000 in
theorem mc_34 : lw_tbl[1100]? = some (cwd 34) := by rfl
set_option maxRecDepth 20000 in
theorem mc_35 : lw_tbl[171]? = some (cwd 35) := by rfl
set_option maxRecDepth 20000 in
theorem mc_36 : lw_tbl[580]? = some (cwd 36) := by rfl
set_option maxRecDepth 20000 in
theorem mc_37 : lw_tbl[593]? = some (cwd 37) := by rfl
set_option maxRecDepth 20000 in
theorem mc_38 : lw_tbl[597]? = some (cwd 38) := by rfl
set_option maxRecDepth 20000 in
theorem mc_39 : lw_tbl[584]? = some (cwd 39) := by rfl
set_option maxRecDepth 20000 in
theorem mc_40 : lw_tbl[177]? = some (cwd 40) := by rfl
set_option maxRecDepth 20000 in
theorem mc_41 : lw_tbl[523]? = some (cwd 41) := by rfl
set_option maxRecDepth 20000 in
theorem mc_42 : lw_tbl[534]? = some (cwd 42) := by rfl
set_option maxRecDepth 20000 in
theorem mc_43 : lw_tbl[538]? = some (cwd 43) := by rfl
set_option maxRecDepth 20000 in
theorem mc_44 : lw_tbl[550]? = some (cwd 44) := by rfl
set_option maxRecDepth 20000 in
theorem mc_45 : lw_tbl[561]? = some (cwd 45) := by rfl
set_option maxRecDepth 20000 in
theorem mc_46 : lw_tbl[1171]? = some (cwd 46) := by rfl
set_option maxRecDepth 20000 in
theorem mc_47 : lw_tbl[114]? = some (cwd 47) := by rfl
set_option maxRecDepth 20000 in
theorem mc_48 : lw_tbl[690]? = some (cwd 48) := by rfl
set_option maxRecDepth 20000 in
theorem mc_49 : lw_tbl[755]? = some (cwd 49) := by rfl
set_option maxRecDepth 20000 in
theorem mc_50 : lw_tbl[747]? = some (cwd 50) := by rfl
set_option maxRecDepth 20000 in
theorem mc_51 : lw_tbl[589]? = some (cwd 51) := by rfl
set_option maxRecDepth 20000 in
theorem mc_52 : lw_tbl[601]? = some (cwd 52) := by rfl
set_option maxRecDepth 20000 in
theorem mc_53 : lw_tbl[616]? = some (cwd 53) := by rfl
set_option maxRecDepth 20000 in
theorem mc_54 : lw_tbl[694]? = some (cwd 54) := by rfl
set_option maxRecDepth 20000 in
theorem mc_55 : lw_tbl[725]? = some (cwd 55) := by rfl
set_option maxRecDepth 20000 in
theorem mc_56 : lw_tbl[702]? = some (cwd 56) := by rfl
set_option maxRecDepth 20000 in
theorem mc_57 : lw_tbl[698]? = some (cwd 57) := by rfl
set_option maxRecDepth 20000 in
theorem mc_58 : lw_tbl[830]? = some (cwd 58) := by rfl
set_option maxRecDepth 20000 in
theorem mc_59 : lw_tbl[710]? = some (cwd 59) := by rfl
set_option maxRecDepth 20000 in
theorem mc_60 : lw_tbl[624]? = some (cwd 60) := by rfl
set_option maxRecDepth 20000 in
theorem mc_61 : lw_tbl[628]? = some (cwd 61) := by rfl
set_option maxRecDepth 20000 in
theorem mc_62 : lw_tbl[647]? = some (cwd 62) := by rfl
set_option maxRecDepth 20000 in
theorem mc_63 : lw_tbl[640]? = some (cwd 63) := by rfl
set_option maxRecDepth 20000 in
theorem mc_64 : lw_tbl[636]? = some (cwd 64) := by rfl
set_option maxRecDepth 20000 in
theorem mc_65 : lw_tbl[882]? = some (cwd 65) := by rfl
set_option maxRecDepth 20000 in
theorem mc_66 : lw_tbl[888]? = some (cwd 66) := by rfl
set_option maxRecDepth 20000 in
theorem mc_67 : lw_tbl[819]? = some (cwd 67) := by rfl
set_option maxRecDepth 20000 in
theorem mc_68 : lw_tbl[826]? = some (cwd 68) := by rfl
set_option maxRecDepth 20000 in
theorem mc_69 : lw_tbl[1072]? = some (cwd 69) := by rfl
set_option maxRecDepth 20000 in
theorem mc_70 : lw_tbl[1076]? = some (cwd 70) := by rfl
set_option maxRecDepth 20000 in
theorem mc_71 : lw_tbl[1165]? = some (cwd 71) := by rfl
set_option maxRecDepth 20000 in
theorem mc_72 : lw_tbl[293]? = some (cwd 72) := by rfl
set_option maxRecDepth 20000 in
theorem mc_73 : lw_tbl[632]? = some (cwd 73) := by rfl
set_option maxRecDepth 20000 in
theorem mc_74 : lw_tbl[654]? = some (cwd 74) := by rfl
set_option maxRecDepth 20000 in
theorem mc_75 : lw_tbl[658]? = some (cwd 75) := by rfl
set_option maxRecDepth 20000 in
theorem mc_76 : lw_tbl[662]? = some (cwd 76) := by rfl
set_option maxRecDepth 20000 in
theorem mc_77 : lw_tbl[666]? = some (cwd 77) := by rfl
set_option maxRecDepth 20000 in
theorem mc_78 : lw_tbl[670]? = some (cwd 78) := by rfl
set_option maxRecDepth 20000 in
theorem mc_79 : lw_tbl[918]? = some (cwd 79) := by rfl
set_option maxRecDepth 20000 in
theorem mc_80 : lw_tbl[931]? = some (cwd 80) := by rfl
set_option maxRecDepth 20000 in
theorem mc_81 : lw_tbl[939]? = some (cwd 81) := by rfl
set_option maxRecDepth 20000 in
theorem mc_82 : lw_tbl[674]? = some (cwd 82) := by rfl
set_option maxRecDepth 20000 in
theorem mc_83 : lw_tbl[678]? = some (cwd 83) := by rfl
set_option maxRecDepth 20000 in
theorem mc_84 : lw_tbl[1046]? = some (cwd 84) := by rfl
set_option maxRecDepth 20000 in
theorem mc_85 : lw_tbl[1050]? = some (cwd 85) := by rfl
set_option maxRecDepth 20000 in
theorem mc_86 : lw_tbl[395]? = some (cwd 86) := by rfl
set_option maxRecDepth 20000 in
theorem mc_87 : lw_tbl[999]? = some (cwd 87) := by rfl
set_option maxRecDepth 20000 in
theorem mc_88 : lw_tbl[1014]? = some (cwd 88) := by rfl
set_option maxRecDepth 20000 in
theorem mc_89 : lw_tbl[1019]? = some (cwd 89) := by rfl
set_option maxRecDepth 20000 in
theorem mc_90 : lw_tbl[1024]? = some (cwd 90) := by rfl
set_option maxRecDepth 20000 in
theorem mc_91 : lw_tbl[1005]? = some (cwd 91) := by rfl
set_option maxRecDepth 20000 in
theorem mc_92 : lw_tbl[1010]? = some (cwd 92) := by rfl
set_option maxRecDepth 20000 in
theorem mc_93 : lw_tbl[1029]? = some (cwd 93) := by rfl
set_option maxRecDepth 20000 in
theorem mc_94 : lw_tbl[1033]? = some (cwd 94) := by rfl
set_option maxRecDepth 20000 in
theorem mc_95 : lw_tbl[1037]? = some (cwd 95) := by rfl
set_option maxRecDepth 20000 in
theorem mc_96 : lw_tbl[103]? = some (cwd 96) := by rfl
set_option maxRecDepth 20000 in
theorem mc_97 : lw_tbl[512]? = some (cwd 97) := by rfl
set_option maxRecDepth 20000 in
theorem mc_98 : lw_tbl[530]? = some (cwd 98) := by rfl
set_option maxRecDepth 20000 in
theorem mc_99 : lw_tbl[542]? = some (cwd 99) := by rfl
set_option maxRecDepth 20000 in
theorem mc_100 : lw_tbl[546]? = some (cwd 100) := by rfl
set_option maxRecDepth 20000 in
theorem mc_101 : lw_tbl[557]? = some (cwd 101) := by rfl
set_option maxRecDepth 20000 in
theorem mc_102 : lw_tbl[565]? = some (cwd 102) := by rfl
set_option maxRecDepth 20000 in
theorem mc_103 : lw_tbl[572]? = some (cwd 103) := by rfl
set_option maxRecDepth 20000 in
theorem mc_104 : lw_tbl[576]? = some (cwd 104) := by rfl
set_option maxRecDepth 20000 in
theorem mc_105 : lw_tbl[605]? = some (cwd 105) := by rfl
set_option maxRecDepth 20000 in
theorem mc_106 : lw_tbl[682]? = some (cwd 106) := by rfl
set_option maxRecDepth 20000 in
theorem mc_107 : lw_tbl[706]? = some (cwd 107) := by rfl
set_option maxRecDepth 20000 in
theorem mc_108 : lw_tbl[720]? = some (cwd 108) := by rfl
set_option maxRecDepth 20000 in
theorem mc_109 : lw_tbl[731]? = some (cwd 109) := by rfl
set_option maxRecDepth 20000 in
theorem mc_110 : lw_tbl[739]? = some (cwd 110) := by rfl
set_option maxRecDepth 20000 in
theorem mc_111 : lw_tbl[743]? = some (cwd 111) := by rfl
set_option maxRecDepth 20000 in
theorem mc_112 : lw_tbl[751]? = some (cwd 112) := by rfl
set_option maxRecDepth 20000 in
theorem mc_113 : lw_tbl[760]? = some (cwd 113) := by rfl
set_option maxRecDepth 20000 in
theorem mc_114 : lw_tbl[788]? = some (cwd 114) := by rfl
set_option maxRecDepth 20000 in
theorem mc_115 : lw_tbl[815]? = some (cwd 115) := by rfl
set_option maxRecDepth 20000 in
theorem mc_116 : lw_tbl[835]? = some (cwd 116) := by rfl
set_option maxRecDepth 20000 in
theorem mc_117 : lw_tbl[894]? = some (cwd 117) := by rfl
set_option maxRecDepth 20000 in
theorem mc_118 : lw_tbl[902]? = some (cwd 118) := by rfl
set_option maxRecDepth 20000 in
theorem mc_119 : lw_tbl[906]? = some (cwd 119) := by rfl
set_option maxRecDepth 20000 in
theorem mc_120 : lw_tbl[910]? = some (cwd 120) := by rfl
set_option maxRecDepth 20000 in
theorem mc_121 : lw_tbl[922]? = some (cwd 121) := by rfl
set_option maxRecDepth 20000 in
theorem mc_122 : lw_tbl[927]? = some (cwd 122) := by rfl
set_option maxRecDepth 20000 in
theorem mc_123 : lw_tbl[935]? = some (cwd 123) := by rfl
set_option maxRecDepth 20000 in
theorem mc_124 : lw_tbl[944]? = some (cwd 124) := by rfl
set_option maxRecDepth 20000 in
theorem mc_125 : lw_tbl[991]? = some (cwd 125) := by rfl
set_option maxRecDepth 20000 in
theorem mc_126 : lw_tbl[995]? = some (cwd 126) := by rfl
set_option maxRecDepth 20000 in
theorem mc_127 : lw_tbl[1042]? = some (cwd 127) := by rfl
set_option maxRecDepth 20000 in
theorem mc_128 : lw_tbl[1058]? = some (cwd 128) := by rfl
set_option maxRecDepth 20000 in
theorem mc_129 : lw_tbl[1068]? = some (cwd 129) := by rfl
set_option maxRecDepth 20000 in
theorem mc_130 : lw_tbl[1082]? = some (cwd 130) := by rfl
set_option maxRecDepth 20000 in
theorem mc_131 : lw_tbl[1104]? = some (cwd 131) := by rfl
set_option maxRecDepth 20000 in
theorem mc_132 : lw_tbl[1120]? = some (cwd 132) := by rfl
set_option maxRecDepth 20000 in
theorem mc_133 : lw_tbl[1129]? = some (cwd 133) := by rfl
set_option maxRecDepth 20000 in
theorem mc_134 : lw_tbl[1133]? = some (cwd 134) := by rfl
set_option maxRecDepth 20000 in
theorem mc_135 : lw_tbl[1137]? = some (cwd 135) := by rfl
set_option maxRecDepth 20000 in
theorem mc_136 : lw_tbl[1141]? = some (cwd 136) := by rfl
set_option maxRecDepth 20000 in
theorem mc_137 : lw_tbl[1145]? = some (cwd 137) := by rfl
set_option maxRecDepth 20000 in
theorem mc_138 : lw_tbl[1152]? = some (cwd 138) := by rfl
set_option maxRecDepth 20000 in
theorem mc_139 : lw_tbl[1156]? = some (cwd 139) := by rfl
set_option maxRecDepth 20000 in
theorem mc_140 : lw_tbl[1160]? = some (cwd 140) := by rfl
set_option maxRecDepth 20000 in
theorem mc_141 : lw_tbl[515]? = some (cwd 141) := by rfl
set_option maxRecDepth 20000 in
theorem mc_142 : lw_tbl[568]? = some (cwd 142) := by rfl
set_option maxRecDepth 20000 in
theorem mc_143 : lw_tbl[608]? = some (cwd 143) := by rfl
set_option maxRecDepth 20000 in
theorem mc_144 : lw_tbl[838]? = some (cwd 144) := by rfl
set_option maxRecDepth 20000 in
theorem mc_145 : lw_tbl[519]? = some (cwd 145) := by rfl
set_option maxRecDepth 20000 in
theorem mc_146 : lw_tbl[735]? = some (cwd 146) := by rfl
set_option maxRecDepth 20000 in
theorem mc_147 : lw_tbl[914]? = some (cwd 147) := by rfl
set_option maxRecDepth 20000 in
theorem mc_148 : lw_tbl[764]? = some (cwd 148) := by rfl
set_option maxRecDepth 20000 in
theorem mc_149 : lw_tbl[686]? = some (cwd 149) := by rfl
set_option maxRecDepth 20000 in
theorem mc_150 : lw_tbl[612]? = some (cwd 150) := by rfl
set_option maxRecDepth 20000 in
theorem mc_151 : lw_tbl[620]? = some (cwd 151) := by rfl
set_option maxRecDepth 20000 in
theorem mc_152 : lw_tbl[948]? = some (cwd 152) := by rfl
set_option maxRecDepth 20000 in
theorem mc_153 : lw_tbl[1148]? = some (cwd 153) := by rfl
set_option maxRecDepth 20000 in
theorem mc_154 : lw_tbl[804]? = some (cwd 154) := by rfl
set_option maxRecDepth 20000 in
theorem mc_155 : lw_tbl[810]? = some (cwd 155) := by rfl
set_option maxRecDepth 20000 in
theorem mc_156 : lw_tbl[1177]? = some (cwd 156) := by rfl
set_option maxRecDepth 20000 in
theorem mc_157 : lw_tbl[1379]? = some (cwd 157) := by rfl
set_option maxRecDepth 20000 in
theorem mc_158 : lw_tbl[1383]? = some (cwd 158) := by rfl
set_option maxRecDepth 20000 in
theorem mc_159 : lw_tbl[1407]? = some (cwd 159) := by rfl
set_option maxRecDepth 20000 in
theorem mc_160 : lw_tbl[1565]? = some (cwd 160) := by rfl
set_option maxRecDepth 20000 in
theorem mc_161 : lw_tbl[1376]? = some (cwd 161) := by rfl
set_option maxRecDepth 20000 in
theorem mc_162 : lw_tbl[1414]? = some (cwd 162) := by rfl
set_option maxRecDepth 20000 in
theorem mc_163 : lw_tbl[1391]? = some (cwd 163) := by rfl
set_option maxRecDepth 20000 in
theorem mc_164 : lw_tbl[1422]? = some (cwd 164) := by rfl
set_option maxRecDepth 20000 in
theorem mc_165 : lw_tbl[1373]? = some (cwd 165) := by rfl
set_option maxRecDepth 20000 in
theorem mc_166 : lw_tbl[1387]? = some (cwd 166) := by rfl
set_option maxRecDepth 20000 in
theorem mc_167 : lw_tbl[1395]? = some (cwd 167) := by rfl
set_option maxRecDepth 20000 in
theorem mc_168 : lw_tbl[1399]? = some (cwd 168) := by rfl
set_option maxRecDepth 20000 in
theorem mc_169 : lw_tbl[1403]? = some (cwd 169) := by rfl
set_option maxRecDepth 20000 in
theorem mc_170 : lw_tbl[1411]? = some (cwd 170) := by rfl
set_option maxRecDepth 20000 in
theorem mc_171 : lw_tbl[1418]? = some (cwd 171) := by rfl
set_option maxRecDepth 20000 in
theorem mc_172 : lw_tbl[1434]? = some (cwd 172) := by rfl
set_option maxRecDepth 20000 in
theorem mc_173 : lw_tbl[1438]? = some (cwd 173) := by rfl
set_option maxRecDepth 20000 in
theorem mc_174 : lw_tbl[1430]? = some (cwd 174) := by rfl
set_option maxRecDepth 20000 in
theorem mc_175 : lw_tbl[1426]? = some (cwd 175) := by rfl
set_option maxRecDepth 20000 in
theorem mc_176 : lw_tbl[1445]? = some (cwd 176) := by rfl
set_option maxRecDepth 20000 in
theorem mc_177 : lw_tbl[1520]? = some (cwd 177) := by rfl
set_option maxRecDepth 20000 in
theorem mc_178 : lw_tbl[1554]? = some (cwd 178) := by rfl
set_option maxRecDepth 20000 in
theorem mc_179 : lw_tbl[1557]? = some (cwd 179) := by rfl
set_option maxRecDepth 20000 in
theorem mc_180 : lw_tbl[1449]? = some (cwd 180) := by rfl
set_option maxRecDepth 20000 in
theorem mc_181 : lw_tbl[1442]? = some (cwd 181) := by rfl
set_option maxRecDepth 20000 in
theorem mc_182 : lw_tbl[1492]? = some (cwd 182) := by rfl
set_option maxRecDepth 20000 in
theorem mc_183 : lw_tbl[1484]? = some (cwd 183) := by rfl
set_option maxRecDepth 20000 in
theorem mc_184 : lw_tbl[1488]? = some (cwd 184) := by rfl
set_option maxRecDepth 20000 in
theorem mc_185 : lw_tbl[1496]? = some (cwd 185) := by rfl
set_option maxRecDepth 20000 in
theorem mc_186 : lw_tbl[1504]? = some (cwd 186) := by rfl
set_option maxRecDepth 20000 in
theorem mc_187 : lw_tbl[1508]? = some (cwd 187) := by rfl
set_option maxRecDepth 20000 in
theorem mc_188 : lw_tbl[1480]? = some (cwd 188) := by rfl
set_option maxRecDepth 20000 in
theorem mc_189 : lw_tbl[1500]? = some (cwd 189) := by rfl
set_option maxRecDepth 20000 in
theorem mc_190 : lw_tbl[1512]? = some (cwd 190) := by rfl
set_option maxRecDepth 20000 in
theorem mc_191 : lw_tbl[1516]? = some (cwd 191) := by rfl
set_option maxRecDepth 20000 in
theorem mc_192 : lw_tbl[1524]? = some (cwd 192) := by rfl
set_option maxRecDepth 20000 in
theorem mc_193 : lw_tbl[1528]? = some (cwd 193) := by rfl
set_option maxRecDepth 20000 in
theorem mc_194 : lw_tbl[1536]? = some (cwd 194) := by rfl
set_option maxRecDepth 20000 in
theorem mc_195 : lw_tbl[1532]? = some (cwd 195) := by rfl
set_option maxRecDepth 20000 in
theorem mc_196 : lw_tbl[1551]? = some (cwd 196) := by rfl
set_option maxRecDepth 20000 in
theorem mc_197 : lw_tbl[1548]? = some (cwd 197) := by rfl
set_option maxRecDepth 20000 in
theorem mc_198 : lw_tbl[1544]? = some (cwd 198) := by rfl
set_option maxRecDepth 20000 in
theorem mc_199 : lw_tbl[1540]? = some (cwd 199) := by rfl
set_option maxRecDepth 20000 in
theorem mc_200 : lw_tbl[1561]? = some (cwd 200) := by rfl
set_option maxRecDepth 20000 in
theorem mc_201 : lw_tbl[1569]? = some (cwd 201) := by rfl
set_option maxRecDepth 20000 in
theorem mc_202 : lw_tbl[1585]? = some (cwd 202) := by rfl
set_option maxRecDepth 20000 in
theorem mc_203 : lw_tbl[1591]? = some (cwd 203) := by rfl
set_option maxRecDepth 20000 in
theorem mc_204 : lw_tbl[1581]? = some (cwd 204) := by rfl
set_option maxRecDepth 20000 in
theorem mc_205 : lw_tbl[1595]? = some (cwd 205) := by rfl
set_option maxRecDepth 20000 in
theorem mc_206 : lw_tbl[1577]? = some (cwd 206) := by rfl
set_option maxRecDepth 20000 in
theorem mc_207 : lw_tbl[1573]? = some (cwd 207) := by rfl
set_option maxRecDepth 20000 in
theorem mc_208 : lw_tbl[1599]? = some (cwd 208) := by rfl
set_option maxRecDepth 20000 in
theorem mc_209 : lw_tbl[1603]? = some (cwd 209) := by rfl
set_option maxRecDepth 20000 in
theorem mc_210 : lw_tbl[1607]? = some (cwd 210) := by rfl
set_option maxRecDepth 20000 in
theorem mc_211 : lw_tbl[1461]? = some (cwd 211) := by rfl
set_option maxRecDepth 20000 in
theorem mc_212 : lw_tbl[1472]? = some (cwd 212) := by rfl
set_option maxRecDepth 20000 in
theorem mc_213 : lw_tbl[1469]? = some (cwd 213) := by rfl
set_option maxRecDepth 20000 in
theorem mc_214 : lw_tbl[1465]? = some (cwd 214) := by rfl
set_option maxRecDepth 20000 in
theorem mc_215 : lw_tbl[1457]? = some (cwd 215) := by rfl
set_option maxRecDepth 20000 in
theorem mc_216 : lw_tbl[1476]? = some (cwd 216) := by rfl
set_option maxRecDepth 20000 in
theorem mc_217 : lw_tbl[1453]? = some (cwd 217) := by rfl
set_option maxRecDepth 20000 in
theorem mc_218 : lw_tbl[1615]? = some (cwd 218) := by rfl
set_option maxRecDepth 20000 in
theorem mc_219 : lw_tbl[1611]? = some (cwd 219) := by rfl
set_option maxRecDepth 20000 in
theorem mc_220 : lw_tbl[1619]? = some (cwd 220) := by rfl
set_option maxRecDepth 20000 in
theorem mc_221 : lw_tbl[1627]? = some (cwd 221) := by rfl
set_option maxRecDepth 20000 in
theorem mc_222 : lw_tbl[1623]? = some (cwd 222) := by rfl
set_option maxRecDepth 20000 in
theorem mc_223 : lw_tbl[1631]? = some (cwd 223) := by rfl
set_option maxRecDepth 20000 in
theorem mc_224 : lw_tbl[1643]? = some (cwd 224) := by rfl
set_option maxRecDepth 20000 in
theorem mc_225 : lw_tbl[1647]? = some (cwd 225) := by rfl
set_option maxRecDepth 20000 in
theorem mc_226 : lw_tbl[1651]? = some (cwd 226) := by rfl
set_option maxRecDepth 20000 in
theorem mc_227 : lw_tbl[1639]? = some (cwd 227) := by rfl
set_option maxRecDepth 20000 in
theorem mc_228 : lw_tbl[1635]? = some (cwd 228) := by rfl
set_option maxRecDepth 20000 in
theorem mc_229 : lw_tbl[1655]? = some (cwd 229) := by rfl
set_option maxRecDepth 20000 in
theorem mc_230 : lw_tbl[1663]? = some (cwd 230) := by rfl
set_option maxRecDepth 20000 in
theorem mc_231 : lw_tbl[1667]? = some (cwd 231) := by rfl
set_option maxRecDepth 20000 in
theorem mc_232 : lw_tbl[1671]? = some (cwd 232) := by rfl
set_option maxRecDepth 20000 in
theorem mc_233 : lw_tbl[1659]? = some (cwd 233) := by rfl
set_option maxRecDepth 20000 in
theorem mc_234 : lw_tbl[1675]? = some (cwd 234) := by rfl
set_option maxRecDepth 20000 in
theorem mc_235 : lw_tbl[1679]? = some (cwd 235) := by rfl
set_option maxRecDepth 20000 in
theorem mc_236 : lw_tbl[1683]? = some (cwd 236) := by rfl
set_option maxRecDepth 20000 in
theorem mc_237 : lw_tbl[1687]? = some (cwd 237) := by rfl
set_option maxRecDepth 20000 in
theorem mc_238 : lw_tbl[1691]? = some (cwd 238) := by rfl
set_option maxRecDepth 20000 in
theorem mc_239 : lw_tbl[1696]? = some (cwd 239) := by rfl
set_option maxRecDepth 20000 in
theorem mc_240 : lw_tbl[1700]? = some (cwd 240) := by rfl
set_option maxRecDepth 20000 in
theorem mc_241 : lw_tbl[1704]? = some (cwd 241) := by rfl
set_option maxRecDepth 20000 in
theorem mc_242 : lw_tbl[1708]? = some (cwd 242) := by rfl
set_option maxRecDepth 20000 in
theorem mc_243 : lw_tbl[1712]? = some (cwd 243) := by rfl
set_option maxRecDepth 20000 in
theorem mc_244 : lw_tbl[1716]? = some (cwd 244) := by rfl
set_option maxRecDepth 20000 in
theorem mc_245 : lw_tbl[1720]? = some (cwd 245) := by rfl
set_option maxRecDepth 20000 in
theorem mc_246 : lw_tbl[1724]? = some (cwd 246) := by rfl
set_option maxRecDepth 20000 in
theorem mc_247 : lw_tbl[1728]? = some (cwd 247) := by rfl
set_option maxRecDepth 20000 in
theorem mc_248 : lw_tbl[1732]? = some (cwd 248) := by rfl
set_option maxRecDepth 20000 in
theorem mc_249 : lw_tbl[1745]? = some (cwd 249) := by rfl
set_option maxRecDepth 20000 in
theorem mc_250 : lw_tbl[1741]? = some (cwd 250) := by rfl
set_option maxRecDepth 20000 in
theorem mc_251 : lw_tbl[1736]? = some (cwd 251) := by rfl
set_option maxRecDepth 20000 in
theorem mc_252 : lw_tbl[713]? = some (cwd 252) := by rfl
set_option maxRecDepth 20000 in
theorem mc_253 : lw_tbl[1113]? = some (cwd 253) := by rfl
set_option maxRecDepth 20000 in
theorem mc_254 : lw_tbl[852]? = some (cwd 254) := by rfl
set_option maxRecDepth 20000 in
theorem mc_255 : lw_tbl[822]? = some (cwd 255) := by rfl
set_option maxRecDepth 20000 in
theorem mc_256 : lw_tbl[1053]? = some (cwd 256) := by rfl
set_option maxRecDepth 20000 in
theorem mc_257 : lw_tbl[526]? = some (cwd 257) := by rfl
set_option maxRecDepth 20000 in
theorem mc_258 : lw_tbl[849]? = some (cwd 258) := by rfl
theorem mcg_0 : ∀ y ∈ List.range' 0 20, cwd y ∈ lw_tbl := by
  intro y hy
  have h := List.mem_range'_1.mp hy
  by_cases e0 : y = 0
  · subst e0; exact List.mem_of_getElem? mc_0
  by_cases e1 : y = 1
  · subst e1; exact List.mem_of_getElem? mc_1
  by_cases e2 : y = 2
  · subst e2; exact List.mem_of_getElem? mc_2
  by_cases e3 : y = 3
  · subst e3; exact List.mem_of_getElem? mc_3
  by_cases e4 : y = 4
  · subst e4; exact List.mem_of_getElem? mc_4
  by_cases e5 : y = 5
  · subst e5; exact List.mem_of_getElem? mc_5
  by_cases e6 : y = 6
  · subst e6; exact List.mem_of_getElem? mc_6
  by_cases e7 : y = 7
  · subst e7; exact List.mem_of_getElem? mc_7
  by_cases e8 : y = 8
  · subst e8; exact List.mem_of_getElem? mc_8
  by_cases e9 : y = 9
  · subst e9; exact List.mem_of_getElem? mc_9
  by_cases e10 : y = 10
  · subst e10; exact List.mem_of_getElem? mc_10
  by_cases e11 : y = 11
  · subst e11; exact List.mem_of_getElem? mc_11
  by_cases e12 : y = 12
  · subst e12; exact List.mem_of_getElem? mc_12
  by_cases e13 : y = 13
  · subst e13; exact List.mem_of_getElem? mc_13
  by_cases e14 : y = 14
  · subst e14; exact List.mem_of_getElem? mc_14
  by_cases e15 : y = 15
  · subst e15; exact List.mem_of_getElem? mc_15
  by_cases e16 : y = 16
  · subst e16; exact List.mem_of_getElem? mc_16
  by_cases e17 : y = 17
  · subst e17; exact List.mem_of_getElem? mc_17
  by_cases e18 : y = 18
  · subst e18; exact List.mem_of_getElem? mc_18
  by_cases e19 : y = 19
  · subst e19; exact List.mem_of_getElem? mc_19
  omega
theorem mcg_1 : ∀ y ∈ List.range' 20 20, cwd y ∈ lw_tbl := by
  intro y hy
  have h := List.mem_range'_1.mp hy
  by_cases e20 : y = 20
  · subst e20; exact List.mem_of_getElem? mc_20
  by_cases e21 : y = 21
  · subst e21; exact List.mem_of_getElem? mc_21
  by_cases e22 : y = 22
  · subst e22; exact List.mem_of_getElem? mc_22
  by_cases e23 : y = 23
  · subst e23; exact List.mem_of_getElem? mc_23
  by_cases e24 : y = 24
  · subst e24; exact List.mem_of_getElem? mc_24
  by_cases e25 : y = 25
  · subst e25; exact List.mem_of_getElem? mc_25
  by_cases e26 : y = 26
  · subst e26; exact List.mem_of_getElem? mc_26
  by_cases e27 : y = 27
  · subst e27; exact List.mem_of_getElem? mc_27
  by_cases e28 : y = 28
  · subst e28; exact List.mem_of_getElem? mc_28
  by_cases e29 : y = 29
  · subst e29; exact List.mem_of_getElem? mc_29
  by_cases e30 : y = 30
  · subst e30; exact List.mem_of_getElem? mc_30
  by_cases e31 : y = 31
  · subst e31; exact List.mem_of_getElem? mc_31
  by_cases e32 : y = 32
  · subst e32; exact List.mem_of_getElem? mc_32
  by_cases e33 : y = 33
  · subst e33; exact List.mem_of_getElem? mc_33
  by_cases e34 : y = 34
  · subst e34; exact List.mem_of_getElem? mc_34
  by_cases e35 : y = 35
  · subst e35; exact List.mem_of_getElem? mc_35
  by_cases e36 : y = 36
  · subst e36; exact List.mem_of_getElem? mc_36
  by_cases e37 : y = 37
  · subst e37; exact List.mem_of_getElem? mc_37
  by_cases e38 : y = 38
  · subst e38; exact List.mem_of_getElem? mc_38
  by_cases e39 : y = 39
  · subst e39; exact List.mem_of_getElem? mc_39
  omega
theorem mcg_2 : ∀ y ∈ List.range' 40 20, cwd y ∈ lw_tbl := by
  intro y hy
  have h := List.mem_range'_1.mp hy
  by_cases e40 : y = 40
  · subst e40; exact List.mem_of_getElem? mc_40
  by_cases e41 : y = 41
  · subst e41; exact List.mem_of_getElem? mc_41
  by_cases e42 : y = 42
  · subst e42; exact List.mem_of_getElem? mc_42
  by_cases e43 : y = 43
  · subst e43; exact List.mem_of_getElem? mc_43
  by_cases e44 : y = 44
  · subst e44; exact List.mem_of_getElem? mc_44
  by_cases e45 : y = 45
  · subst e45; exact List.mem_of_getElem? mc_45
  by_cases e46 : y = 46
  · subst e46; exact List.mem_of_getElem? mc_46
  by_cases e47 : y = 47
  · subst e47; exact List.mem_of_getElem? mc_47
  by_cases e48 : y = 48
  · subst e48; exact List.mem_of_getElem? mc_48
  by_cases e49 : y = 49
  · subst e49; exact List.mem_of_getElem? mc_49
  by_cases e50 : y = 50
  · subst e50; exact List.mem_of_getElem? mc_50
  by_cases e51 : y = 51
  · subst e51; exact List.mem_of_getElem? mc_51
  by_cases e52 : y = 52
  · subst e52; exact List.mem_of_getElem? mc_52
  by_cases e53 : y = 53
  · subst e53; exact List.mem_of_getElem? mc_53
  by_cases e54 : y = 54
  · subst e54; exact List.mem_of_getElem? mc_54
  by_cases e55 : y = 55
  · subst e55; exact List.mem_of_getElem? mc_55
  by_cases e56 : y = 56
  · subst e56; exact List.mem_of_getElem? mc_56
  by_cases e57 : y = 57
  · subst e57; exact List.mem_of_getElem? mc_57
  by_cases e58 : y = 58
  · subst e58; exact List.mem_of_getElem? mc_58
  by_cases e59 : y = 59
  · subst e59; exact List.mem_of_getElem? mc_59
  omega
theorem mcg_3 : ∀ y ∈ List.range' 60 20, cwd y ∈ lw_tbl := by
  intro y hy
  have h := List.mem_range'_1.mp hy
  by_cases e60 : y = 60
  · subst e60; exact List.mem_of_getElem? mc_60
  by_cases e61 : y = 61
  · subst e61; exact List.mem_of_getElem? mc_61
  by_cases e62 : y = 62
  · subst e62; exact List.mem_of_getElem? mc_62
  by_cases e63 : y = 63
  · subst e63; exact List.mem_of_getElem? mc_63
  by_cases e64 : y = 64
  · subst e64; exact List.mem_of_getElem? mc_64
  by_cases e65 : y = 65
  · subst e65; exact List.mem_of_getElem? mc_65
  by_cases e66 : y = 66
  · subst e66; exact List.mem_of_getElem? mc_66
  by_cases e67 : y = 67
  · subst e67; exact List.mem_of_getElem? mc_67
  by_cases e68 : y = 68
  · subst e68; exact List.mem_of_getElem? mc_68
  by_cases e69 : y = 69
  · subst e69; exact List.mem_of_getElem? mc_69
  by_cases e70 : y = 70
  · subst e70; exact List.mem_of_getElem? mc_70
  by_cases e71 : y = 71
  · subst e71; exact List.mem_of_getElem? mc_71
  by_cases e72 : y = 72
  · subst e72; exact List.mem_of_getElem? mc_72
  by_cases e73 : y = 73
  · subst e73; exact List.mem_of_getElem? mc_73
  by_cases e74 : y = 74
  · subst e74; exact List.mem_of_getElem? mc_74
  by_cases e75 : y = 75
  · subst e75; exact List.mem_of_getElem? mc_75
  by_cases e76 : y = 76
  · subst e76; exact List.mem_of_getElem? mc_76
  by_cases e77 : y = 77
  · subst e77; exact List.mem_of_getElem? mc_77
  by_cases e78 : y = 78
  · subst e78; exact List.mem_of_getElem? mc_78
  by_cases e79 : y = 79
  · subst e79; exact List.mem_of_getElem? mc_79
  omega
theorem mcg_4 : ∀ y ∈ List.range' 80 20, cwd y ∈ lw_tbl := by
  intro y hy
  have h := List.mem_range'_1.mp hy
  by_cases e80 : y = 80
  · subst e80; exact List.mem_of_getElem? mc_80
  by_cases e81 : y = 81
  · subst e81; exact List.mem_of_getElem? mc_81
  by_cases e82 : y = 82
  · subst e82; exact List.mem_of_getElem? mc_82
  by_cases e83 : y = 83
  · subst e83; exact List.mem_of_getElem? mc_83
  by_cases e84 : y = 84
  · subst e84; exact List.mem_of_getElem? mc_84
  by_cases e85 : y = 85
  · subst e85; exact List.mem_of_getElem? mc_85
  by_cases e86 : y = 86
  · subst e86; exact List.mem_of_getElem? mc_86
  by_cases e87 : y = 87
  · subst e87; exact List.mem_of_getElem? mc_87
  by_cases e88 : y = 88
  · subst e88; exact List.mem_of_getElem? mc_88
  by_cases e89 : y = 89
  · subst e89; exact List.mem_of_getElem? mc_89
  by_cases e90 : y = 90
  · subst e90; exact List.mem_of_getElem? mc_90
  by_cases e91 : y = 91
  · subst e91; exact List.mem_of_getElem? mc_91
  by_cases e92 : y = 92
  · subst e92; exact List.mem_of_getElem? mc_92
  by_cases e93 : y = 93
  · subst e93; exact List.mem_of_getElem? mc_93
  by_cases e94 : y = 94
  · subst e94; exact List.mem_of_getElem? mc_94
  by_cases e95 : y = 95
  · subst e95; exact List.mem_of_getElem? mc_95
  by_cases e96 : y = 96
  · subst e96; exact List.mem_of_getElem? mc_96
  by_cases e97 : y = 97
  · subst e97; exact List.mem_of_getElem? mc_97
  by_cases e98 : y = 98
  · subst e98; exact List.mem_of_getElem? mc_98
  by_cases e99 : y = 99
  · subst e99; exact List.mem_of_getElem? mc_99
  omega
theorem mcg_5 : ∀ y ∈ List.range' 100 20, cwd y ∈ lw_tbl := by
  intro y hy
  have h := List.mem_range'_1.mp hy
  by_cases e100 : y = 100
  · subst e100; exact List.mem_of_getElem? mc_100
  by_cases e101 : y = 101
  · subst e101; exact List.mem_of_getElem? mc_101
  by_cases e102 : y = 102
  · subst e102; exact List.mem_of_getElem? mc_102
  by_cases e103 : y = 103
  · subst e103; exact List.mem_of_getElem? mc_103
  by_cases e104 : y = 104
  · subst e104; exact List.mem_of_getElem? mc_104
  by_cases e105 : y = 105
  · subst e105; exact List.mem_of_getElem? mc_105
  by_cases e106 : y = 106
  · subst e106; exact List.mem_of_getElem? mc_106
  by_cases e107 : y = 107
  · subst e107; exact List.mem_of_getElem? mc_107
  by_cases e108 : y = 108
  · subst e108; exact List.mem_of_getElem? mc_108
  by_cases e109 : y = 109
  · subst e109; exact List.mem_of_getElem? mc_109
  by_cases e110 : y = 110
  · subst e110; exact List.mem_of_getElem? mc_110
  by_cases e111 : y = 111
  · subst e111; exact List.mem_of_getElem? mc_111
  by_cases e112 : y = 112
  · subst e112; exact List.mem_of_getElem? mc_112
  by_cases e113 : y = 113
  · subst e113; exact List.mem_of_getElem? mc_113
  by_cases e114 : y = 114
  · subst e114; exact List.mem_of_getElem? mc_114
  by_cases e115 : y = 115
  · subst e115; exact List.mem_of_getElem? mc_115
  by_cases e116 : y = 116
  · subst e116; exact List.mem_of_getElem? mc_116
  by_cases e117 : y = 117
  · subst e117; exact List.mem_of_getElem? mc_117
  by_cases e118 : y = 118
  · subst e118; exact List.mem_of_getElem? mc_118
  by_cases e119 : y = 119
  · subst e119; exact List.mem_of_getElem? mc_119
  omega
theorem mcg_6 : ∀ y ∈ List.range' 120 20, cwd y ∈ lw_tbl := by
  intro y hy
  have h := List.mem_range'_1.mp hy
  by_cases e120 : y = 120
  · subst e120; exact List.mem_of_getElem? mc_120
  by_cases e121 : y = 121
  · subst e121; exact List.mem_of_getElem? mc_121
  by_cases e122 : y = 122
  · subst e122; exact List.mem_of_getElem? mc_122
  by_cases e123 : y = 123
  · subst e123; exact List.mem_of_getElem? mc_123
  by_cases e124 : y = 124
  · subst e124; exact List.mem_of_getElem? mc_124
  by_cases e125 : y = 125
  · subst e125; exact List.mem_of_getElem? mc_125
  by_cases e126 : y = 126
  · subst e126; exact List.mem_of_getElem? mc_126
  by_cases e127 : y = 127
  · subst e127; exact List.mem_of_getElem? mc_127
  by_cases e128 : y = 128
  · subst e128; exact List.mem_of_getElem? mc_128
  by_cases e129 : y = 129
  · subst e129; exact List.mem_of_getElem? mc_129
  by_cases e130 : y = 130
  · subst e130; exact List.mem_of_getElem? mc_130
  by_cases e131 : y = 131
  · subst e131; exact List.mem_of_getElem? mc_131
  by_cases e132 : y = 132
  · subst e132; exact List.mem_of_getElem? mc_132
  by_cases e133 : y = 133
  · subst e133; exact List.mem_of_getElem? mc_133
  by_cases e134 : y = 134
  · subst e134; exact List.mem_of_getElem? mc_134
  by_cases e135 : y = 135
  · subst e135; exact List.mem_of_getElem? mc_135
  by_cases e136 : y = 136
  · subst e136; exact List.mem_of_getElem? mc_136
  by_cases e137 : y = 137
  · subst e137; exact List.mem_of_getElem? mc_137
  by_cases e138 : y = 138
  · subst e138; exact List.mem_of_getElem? mc_138
  by_cases e139 : y = 139
  · subst e139; exact List.mem_of_getElem? mc_139
  omega
theorem mcg_7 : ∀ y ∈ List.range' 140 20, cwd y ∈ lw_tbl := by
  intro y hy
  have h := List.mem_range'_1.mp hy
  by_cases e140 : y = 140
  · subst e140; exact List.mem_of_getElem? mc_140
  by_cases e141 : y = 141
  · subst e141; exact List.mem_of_getElem? mc_141
  by_cases e142 : y = 142
  · subst e142; exact List.mem_of_getElem? mc_142
  by_cases e143 : y = 143
  · subst e143; exact List.mem_of_getElem? mc_143
  by_cases e144 : y = 144
  · subst e144; exact List.mem_of_getElem? mc_144
  by_cases e145 : y = 145
  · subst e145; exact List.mem_of_getElem? mc_145
  by_cases e146 : y = 146
  · subst e146; exact List.mem_of_getElem? mc_146
  by_cases e147 : y = 147
  · subst e147; exact List.mem_of_getElem? mc_147
  by_cases e148 : y = 148
  · subst e148; exact List.mem_of_getElem? mc_148
  by_cases e149 : y = 149
  · subst e149; exact List.mem_of_getElem? mc_149
  by_cases e150 : y = 150
  · subst e150; exact List.mem_of_getElem? mc_150
  by_cases e151 : y = 151
  · subst e151; exact List.mem_of_getElem? mc_151
  by_cases e152 : y = 152
  · subst e152; exact List.mem_of_getElem? mc_152
  by_cases e153 : y = 153
  · subst e153; exact List.mem_of_getElem? mc_153
  by_cases e154 : y = 154
  · subst e154; exact List.mem_of_getElem? mc_154
  by_cases e155 : y = 155
  · subst e155; exact List.mem_of_getElem? mc_155
  by_cases e156 : y = 156
  · subst e156; exact List.mem_of_getElem? mc_156
  by_cases e157 : y = 157
  · subst e157; exact List.mem_of_getElem? mc_157
  by_cases e158 : y = 158
  · subst e158; exact List.mem_of_getElem? mc_158
  by_cases e159 : y = 159
  · subst e159; exact List.mem_of_getElem? mc_159
  omega
theorem mcg_8 : ∀ y ∈ List.range' 160 20, cwd y ∈ lw_tbl := by
  intro y hy
  have h := List.mem_range'_1.mp hy
  by_cases e160 : y = 160
  · subst e160; exact List.mem_of_getElem? mc_160
  by_cases e161 : y = 161
  · subst e161; exact List.mem_of_getElem? mc_161
  by_cases e162 : y = 162
  · subst e162; exact List.mem_of_getElem? mc_162
  by_cases e163 : y = 163
  · subst e163; exact List.mem_of_getElem? mc_163
  by_cases e164 : y = 164
  · subst e164; exact List.mem_of_getElem? mc_164
  by_cases e165 : y = 165
  · subst e165; exact List.mem_of_getElem? mc_165
  by_cases e166 : y = 166
  · subst e166; exact List.mem_of_getElem? mc_166
  by_cases e167 : y = 167
  · subst e167; exact List.mem_of_getElem? mc_167
  by_cases e168 : y = 168
  · subst e168; exact List.mem_of_getElem? mc_168
  by_cases e169 : y = 169
  · subst e169; exact List.mem_of_getElem? mc_169
  by_cases e170 : y = 170
  · subst e170; exact List.mem_of_getElem? mc_170
  by_cases e171 : y = 171
  · subst e171; exact List.mem_of_getElem? mc_171
  by_cases e172 : y = 172
  · subst e172; exact List.mem_of_getElem? mc_172
  by_cases e173 : y = 173
  · subst e173; exact List.mem_of_getElem? mc_173
  by_cases e174 : y = 174
  · subst e174; exact List.mem_of_getElem? mc_174
  by_cases e175 : y = 175
  · subst e175; exact List.mem_of_getElem? mc_175
  by_cases e176 : y = 176
  · subst e176; exact List.mem_of_getElem? mc_176
  by_cases e177 : y = 177
  · subst e177; exact List.mem_of_getElem? mc_177
  by_cases e178 : y = 178
  · subst e178; exact List.mem_of_getElem? mc_178
  by_cases e179 : y = 179
  · subst e179; exact List.mem_of_getElem? mc_179
  omega
theorem mcg_9 : ∀ y ∈ List.range' 180 20, cwd y ∈ lw_tbl := by
  intro y hy
  have h := List.mem_range'_1.mp hy
  by_cases e180 : y = 180
  · subst e180; exact List.mem_of_getElem? mc_180
  by_cases e181 : y = 181
  · subst e181; exact List.mem_of_getElem? mc_181
  by_cases e182 : y = 182
  · subst e182; exact List.mem_of_getElem? mc_182
  by_cases e183 : y = 183
  · subst e183; exact List.mem_of_getElem? mc_183
  by_cases e184 : y = 184
  · subst e184; exact List.mem_of_getElem? mc_184
  by_cases e185 : y = 185
  · subst e185; exact List.mem_of_getElem? mc_185
  by_cases e186 : y = 186
  · subst e186; exact List.mem_of_getElem? mc_186
  by_cases e187 : y = 187
  · subst e187; exact List.mem_of_getElem? mc_187
  by_cases e188 : y = 188
  · subst e188; exact List.mem_of_getElem? mc_188
  by_cases e189 : y = 189
  · subst e189; exact List.mem_of_getElem? mc_189
  by_cases e190 : y = 190
  · subst e190; exact List.mem_of_getElem? mc_190
  by_cases e191 : y = 191
  · subst e191; exact List.mem_of_getElem? mc_191
  by_cases e192 : y = 192
  · subst e192; exact List.mem_of_getElem? mc_192
  by_cases e193 : y = 193
  · subst e193; exact List.mem_of_getElem? mc_193
  by_cases e194 : y = 194
  · subst e194; exact List.mem_of_getElem? mc_194
  by_cases e195 : y = 195
  · subst e195; exact List.mem_of_getElem? mc_195
  by_cases e196 : y = 196
  · subst e196; exact List.mem_of_getElem? mc_196
  by_cases e197 : y = 197
  · subst e197; exact List.mem_of_getElem? mc_197
  by_cases e198 : y = 198
  · subst e198; exact List.mem_of_getElem? mc_198
  by_cases e199 : y = 199
  · subst e199; exact List.mem_of_getElem? mc_199
  omega
theorem mcg_10 : ∀ y ∈ List.range' 200 20, cwd y ∈ lw_tbl := by
  intro y hy
  have h := List.mem_range'_1.mp hy
  by_cases e200 : y = 200
  · subst e200; exact List.mem_of_getElem? mc_200
  by_cases e201 : y = 201
  · subst e201; exact List.mem_of_getElem? mc_201
  by_cases e202 : y = 202
  · subst e202; exact List.mem_of_getElem? mc_202
  by_cases e203 : y = 203
  · subst e203; exact List.mem_of_getElem? mc_203
  by_cases e204 : y = 204
  · subst e204; exact List.mem_of_getElem? mc_204
  by_cases e205 : y = 205
  · subst e205; exact List.mem_of_getElem? mc_205
  by_cases e206 : y = 206
  · subst e206; exact List.mem_of_getElem? mc_206
  by_cases e207 : y = 207
  · subst e207; exact List.mem_of_getElem? mc_207
  by_cases e208 : y = 208
  · subst e208; exact List.mem_of_getElem? mc_208
  by_cases e209 : y = 209
  · subst e209; exact List.mem_of_getElem? mc_209
  by_cases e210 : y = 210
  · subst e210; exact List.mem_of_getElem? mc_210
  by_cases e211 : y = 211
  · subst e211; exact List.mem_of_getElem? mc_211
  by_cases e212 : y = 212
  · subst e212; exact List.mem_of_getElem? mc_212
  by_cases e213 : y = 213
  · subst e213; exact List.mem_of_getElem? mc_213
  by_cases e214 : y = 214
  · subst e214; exact List.mem_of_getElem? mc_214
  by_cases e215 : y = 215
  · subst e215; exact List.mem_of_getElem? mc_215
  by_cases e216 : y = 216
  · subst e216; exact List.mem_of_getElem? mc_216
  by_cases e217 : y = 217
  · subst e217; exact List.mem_of_getElem? mc_217
  by_cases e218 : y = 218
  · subst e218; exact List.mem_of_getElem? mc_218
  by_cases e219 : y = 219
  · subst e219; exact List.mem_of_getElem? mc_219
  omega
theorem mcg_11 : ∀ y ∈ List.range' 220 20, cwd y ∈ lw_tbl := by
  intro y hy
  have h := List.mem_range'_1.mp hy
  by_cases e220 : y = 220
  · subst e220; exact List.mem_of_getElem? mc_220
  by_cases e221 : y = 221
  · subst e221; exact List.mem_of_getElem? mc_221
  by_cases e222 : y = 222
  · subst e222; exact List.mem_of_getElem? mc_222
  by_cases e223 : y = 223
  · subst e223; exact List.mem_of_getElem? mc_223
  by_cases e224 : y = 224
  · subst e224; exact List.mem_of_getElem? mc_224
  by_cases e225 : y = 225
  · subst e225; exact List.mem_of_getElem? mc_225
  by_cases e226 : y = 226
  · subst e226; exact List.mem_of_getElem? mc_226
  by_cases e227 : y = 227
  · subst e227; exact List.mem_of_getElem? mc_227
  by_cases e228 : y = 228
  · subst e228; exact List.mem_of_getElem? mc_228
  by_cases e229 : y = 229
  · subst e229; exact List.mem_of_getElem? mc_229
  by_cases e230 : y = 230
  · subst e230; exact List.mem_of_getElem? mc_230
  by_cases e231 : y = 231
  · subst e231; exact List.mem_of_getElem? mc_231
  by_cases e232 : y = 232
  · subst e232; exact List.mem_of_getElem? mc_232
  by_cases e233 : y = 233
  · subst e233; exact List.mem_of_getElem? mc_233
  by_cases e234 : y = 234
  · subst e234; exact List.mem_of_getElem? mc_234
  by_cases e235 : y = 235
  · subst e235; exact List.mem_of_getElem? mc_235
  by_cases e236 : y = 236
  · subst e236; exact List.mem_of_getElem? mc_236
  by_cases e237 : y = 237
  · subst e237; exact List.mem_of_getElem? mc_237
  by_cases e238 : y = 238
  · subst e238; exact List.mem_of_getElem? mc_238
  by_cases e239 : y = 239
  · subst e239; exact List.mem_of_getElem? mc_239
  omega
theorem mcg_12 : ∀ y ∈ List.range' 240 19, cwd y ∈ lw_tbl := by
  intro y hy
  have h := List.mem_range'_1.mp hy
  by_cases e240 : y = 240
  · subst e240; exact List.mem_of_getElem? mc_240
  by_cases e241 : y = 241
  · subst e241; exact List.mem_of_getElem? mc_241
  by_cases e242 : y = 242
  · subst e242; exact List.mem_of_getElem? mc_242
  by_cases e243 : y = 243
  · subst e243; exact List.mem_of_getElem? mc_243
  by_cases e244 : y = 244
  · subst e244; exact List.mem_of_getElem? mc_244
  by_cases e245 : y = 245
  · subst e245; exact List.mem_of_getElem? mc_245
  by_cases e246 : y = 246
  · subst e246; exact List.mem_of_getElem? mc_246
  by_cases e247 : y = 247
  · subst e247; exact List.mem_of_getElem? mc_247
  by_cases e248 : y = 248
  · subst e248; exact List.mem_of_getElem? mc_248
  by_cases e249 : y = 249
  · subst e249; exact List.mem_of_getElem? mc_249
  by_cases e250 : y = 250
  · subst e250; exact List.mem_of_getElem? mc_250
  by_cases e251 : y = 251
  · subst e251; exact List.mem_of_getElem? mc_251
  by_cases e252 : y = 252
  · subst e252; exact List.mem_of_getElem? mc_252
  by_cases e253 : y = 253
  · subst e253; exact List.mem_of_getElem? mc_253
  by_cases e254 : y = 254
  · subst e254; exact List.mem_of_getElem? mc_254
  by_cases e255 : y = 255
  · subst e255; exact List.mem_of_getElem? mc_255
  by_cases e256 : y = 256
  · subst e256; exact List.mem_of_getElem? mc_256
  by_cases e257 : y = 257
  · subst e257; exact List.mem_of_getElem? mc_257
  by_cases e258 : y = 258
  · subst e258; exact List.mem_of_getElem? mc_258
  omega
theorem mc_all : ∀ y, y < 259 → cwd y ∈ lw_tbl := by
  intro y hy
  by_cases h0 : y < 20
  · exact mcg_0 y (List.mem_range'_1.mpr ⟨by omega, by omega⟩)
  by_cases h1 : y < 40
  · exact mcg_1 y (List.mem_range'_1.mpr ⟨by omega, by omega⟩)
  by_cases h2 : y < 60
  · exact mcg_2 y (List.mem_range'_1.mpr ⟨by omega, by omega⟩)
  by_cases h3 : y < 80
  · exact mcg_3 y (List.mem_range'_1.mpr ⟨by omega, by omega⟩)
  by_cases h4 : y < 100
  · exact mcg_4 y (List.mem_range'_1.mpr ⟨by omega, by omega⟩)
  by_cases h5 : y < 120
  · exact mcg_5 y (List.mem_range'_1.mpr ⟨by omega, by omega⟩)
  by_cases h6 : y < 140
  · exact mcg_6 y (List.mem_range'_1.mpr ⟨by omega, by omega⟩)
  by_cases h7 : y < 160
  · exact mcg_7 y (List.mem_range'_1.mpr ⟨by omega, by omega⟩)
  by_cases h8 : y < 180
  · exact mcg_8 y (List.mem_range'_1.mpr ⟨by omega, by omega⟩)
  by_cases h9 : y < 200
  · exact mcg_9 y (List.mem_range'_1.mpr ⟨by omega, by omega⟩)
  by_cases h10 : y < 220
  · exact mcg_10 y (List.mem_range'_1.mpr ⟨by omega, by omega⟩)
  by_cases h11 : y < 240
  · exact mcg_11 y (List.mem_range'_1.mpr ⟨by omega, by omega⟩)
  by_cases h12 : y < 259
  · exact mcg_12 y (List.mem_range'_1.mpr ⟨by omega, by omega⟩)
  omega

set_option maxRecDepth 20000 in
theorem mat_max : lw_tbl[643]? = some (.code Lib.Math.max.name Lib.Math.max.code 2 (some .int)) := by rfl
set_option maxRecDepth 20000 in
theorem mat_min : lw_tbl[650]? = some (.code Lib.Math.min.name Lib.Math.min.code 2 (some .int)) := by rfl
set_option maxRecDepth 20000 in
theorem mat_abs : lw_tbl[807]? = some (.code Lib.MathLoose.abs_long.x Lib.MathLoose.abs_long.code 2 (some .long)) := by rfl
theorem mat_st1 : lw_tbl[642]? = some (.static Lib.Math.max.name) := by decide +kernel
theorem mat_st2 : lw_tbl[649]? = some (.static Lib.Math.min.name) := by decide +kernel
theorem mat_st3 : lw_tbl[806]? = some (.static Lib.MathLoose.abs_long.x) := by decide +kernel
theorem mat_ini : lw_tbl[96]? = some (.initialized "java/lang/Math") := by decide +kernel
