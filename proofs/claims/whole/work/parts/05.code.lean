/-! the words of the methods' code among lw_tbl, each by its place -/
def codeW (i : Nat) : Cond := Cond.code (yM i) (cM i) (lM i) (rM i)
set_option maxRecDepth 100000 in
theorem tc_0 : lw_tbl[pM 0]? = some (codeW 0) := rfl
set_option maxRecDepth 100000 in
theorem tc_1 : lw_tbl[pM 1]? = some (codeW 1) := rfl
set_option maxRecDepth 100000 in
theorem tc_2 : lw_tbl[pM 2]? = some (codeW 2) := rfl
set_option maxRecDepth 100000 in
theorem tc_3 : lw_tbl[pM 3]? = some (codeW 3) := rfl
set_option maxRecDepth 100000 in
theorem tc_4 : lw_tbl[pM 4]? = some (codeW 4) := rfl
set_option maxRecDepth 100000 in
theorem tc_5 : lw_tbl[pM 5]? = some (codeW 5) := rfl
set_option maxRecDepth 100000 in
theorem tc_6 : lw_tbl[pM 6]? = some (codeW 6) := rfl
set_option maxRecDepth 100000 in
theorem tc_7 : lw_tbl[pM 7]? = some (codeW 7) := rfl
set_option maxRecDepth 100000 in
theorem tc_8 : lw_tbl[pM 8]? = some (codeW 8) := rfl
set_option maxRecDepth 100000 in
theorem tc_9 : lw_tbl[pM 9]? = some (codeW 9) := rfl
set_option maxRecDepth 100000 in
theorem tc_10 : lw_tbl[pM 10]? = some (codeW 10) := rfl
set_option maxRecDepth 100000 in
theorem tc_11 : lw_tbl[pM 11]? = some (codeW 11) := rfl
set_option maxRecDepth 100000 in
theorem tc_12 : lw_tbl[pM 12]? = some (codeW 12) := rfl
set_option maxRecDepth 100000 in
theorem tc_13 : lw_tbl[pM 13]? = some (codeW 13) := rfl
set_option maxRecDepth 100000 in
theorem tc_14 : lw_tbl[pM 14]? = some (codeW 14) := rfl
set_option maxRecDepth 100000 in
theorem tc_15 : lw_tbl[pM 15]? = some (codeW 15) := rfl
set_option maxRecDepth 100000 in
theorem tc_16 : lw_tbl[pM 16]? = some (codeW 16) := rfl
set_option maxRecDepth 100000 in
theorem tc_17 : lw_tbl[pM 17]? = some (codeW 17) := rfl
set_option maxRecDepth 100000 in
theorem tc_18 : lw_tbl[pM 18]? = some (codeW 18) := rfl
set_option maxRecDepth 100000 in
theorem tc_19 : lw_tbl[pM 19]? = some (codeW 19) := rfl
set_option maxRecDepth 100000 in
theorem tc_20 : lw_tbl[pM 20]? = some (codeW 20) := rfl
set_option maxRecDepth 100000 in
theorem tc_21 : lw_tbl[pM 21]? = some (codeW 21) := rfl
set_option maxRecDepth 100000 in
theorem tc_22 : lw_tbl[pM 22]? = some (codeW 22) := rfl
set_option maxRecDepth 100000 in
theorem tc_23 : lw_tbl[pM 23]? = some (codeW 23) := rfl
set_option maxRecDepth 100000 in
theorem tc_24 : lw_tbl[pM 24]? = some (codeW 24) := rfl
set_option maxRecDepth 100000 in
theorem tc_25 : lw_tbl[pM 25]? = some (codeW 25) := rfl
set_option maxRecDepth 100000 in
theorem tc_26 : lw_tbl[pM 26]? = some (codeW 26) := rfl
set_option maxRecDepth 100000 in
theorem tc_27 : lw_tbl[pM 27]? = some (codeW 27) := rfl
set_option maxRecDepth 100000 in
theorem tc_28 : lw_tbl[pM 28]? = some (codeW 28) := rfl
set_option maxRecDepth 100000 in
theorem tc_29 : lw_tbl[pM 29]? = some (codeW 29) := rfl
set_option maxRecDepth 100000 in
theorem tc_30 : lw_tbl[pM 30]? = some (codeW 30) := rfl
set_option maxRecDepth 100000 in
theorem tc_31 : lw_tbl[pM 31]? = some (codeW 31) := rfl
set_option maxRecDepth 100000 in
theorem tc_32 : lw_tbl[pM 32]? = some (codeW 32) := rfl
set_option maxRecDepth 100000 in
theorem tc_33 : lw_tbl[pM 33]? = some (codeW 33) := rfl
set_option maxRecDepth 100000 in
theorem tc_34 : lw_tbl[pM 34]? = some (codeW 34) := rfl
set_option maxRecDepth 100000 in
theorem tc_35 : lw_tbl[pM 35]? = some (codeW 35) := rfl
set_option maxRecDepth 100000 in
theorem tc_36 : lw_tbl[pM 36]? = some (codeW 36) := rfl
set_option maxRecDepth 100000 in
theorem tc_37 : lw_tbl[pM 37]? = some (codeW 37) := rfl
set_option maxRecDepth 100000 in
theorem tc_38 : lw_tbl[pM 38]? = some (codeW 38) := rfl
set_option maxRecDepth 100000 in
theorem tc_39 : lw_tbl[pM 39]? = some (codeW 39) := rfl
set_option maxRecDepth 100000 in
theorem tc_40 : lw_tbl[pM 40]? = some (codeW 40) := rfl
set_option maxRecDepth 100000 in
theorem tc_41 : lw_tbl[pM 41]? = some (codeW 41) := rfl
set_option maxRecDepth 100000 in
theorem tc_42 : lw_tbl[pM 42]? = some (codeW 42) := rfl
set_option maxRecDepth 100000 in
theorem tc_43 : lw_tbl[pM 43]? = some (codeW 43) := rfl
set_option maxRecDepth 100000 in
theorem tc_44 : lw_tbl[pM 44]? = some (codeW 44) := rfl
set_option maxRecDepth 100000 in
theorem tc_45 : lw_tbl[pM 45]? = some (codeW 45) := rfl
set_option maxRecDepth 100000 in
theorem tc_46 : lw_tbl[pM 46]? = some (codeW 46) := rfl
set_option maxRecDepth 100000 in
theorem tc_47 : lw_tbl[pM 47]? = some (codeW 47) := rfl
set_option maxRecDepth 100000 in
theorem tc_48 : lw_tbl[pM 48]? = some (codeW 48) := rfl
set_option maxRecDepth 100000 in
theorem tc_49 : lw_tbl[pM 49]? = some (codeW 49) := rfl
set_option maxRecDepth 100000 in
theorem tc_50 : lw_tbl[pM 50]? = some (codeW 50) := rfl
set_option maxRecDepth 100000 in
theorem tc_51 : lw_tbl[pM 51]? = some (codeW 51) := rfl
set_option maxRecDepth 100000 in
theorem tc_52 : lw_tbl[pM 52]? = some (codeW 52) := rfl
set_option maxRecDepth 100000 in
theorem tc_53 : lw_tbl[pM 53]? = some (codeW 53) := rfl
set_option maxRecDepth 100000 in
theorem tc_54 : lw_tbl[pM 54]? = some (codeW 54) := rfl
set_option maxRecDepth 100000 in
theorem tc_55 : lw_tbl[pM 55]? = some (codeW 55) := rfl
set_option maxRecDepth 100000 in
theorem tc_56 : lw_tbl[pM 56]? = some (codeW 56) := rfl
set_option maxRecDepth 100000 in
theorem tc_57 : lw_tbl[pM 57]? = some (codeW 57) := rfl
set_option maxRecDepth 100000 in
theorem tc_58 : lw_tbl[pM 58]? = some (codeW 58) := rfl
set_option maxRecDepth 100000 in
theorem tc_59 : lw_tbl[pM 59]? = some (codeW 59) := rfl
set_option maxRecDepth 100000 in
theorem tc_60 : lw_tbl[pM 60]? = some (codeW 60) := rfl
set_option maxRecDepth 100000 in
theorem tc_61 : lw_tbl[pM 61]? = some (codeW 61) := rfl
set_option maxRecDepth 100000 in
theorem tc_62 : lw_tbl[pM 62]? = some (codeW 62) := rfl
set_option maxRecDepth 100000 in
theorem tc_63 : lw_tbl[pM 63]? = some (codeW 63) := rfl
set_option maxRecDepth 100000 in
theorem tc_64 : lw_tbl[pM 64]? = some (codeW 64) := rfl
set_option maxRecDepth 100000 in
theorem tc_65 : lw_tbl[pM 65]? = some (codeW 65) := rfl
set_option maxRecDepth 100000 in
theorem tc_66 : lw_tbl[pM 66]? = some (codeW 66) := rfl
set_option maxRecDepth 100000 in
theorem tc_67 : lw_tbl[pM 67]? = some (codeW 67) := rfl
set_option maxRecDepth 100000 in
theorem tc_68 : lw_tbl[pM 68]? = some (codeW 68) := rfl
set_option maxRecDepth 100000 in
theorem tc_69 : lw_tbl[pM 69]? = some (codeW 69) := rfl
set_option maxRecDepth 100000 in
theorem tc_70 : lw_tbl[pM 70]? = some (codeW 70) := rfl
set_option maxRecDepth 100000 in
theorem tc_71 : lw_tbl[pM 71]? = some (codeW 71) := rfl
set_option maxRecDepth 100000 in
theorem tc_72 : lw_tbl[pM 72]? = some (codeW 72) := rfl
set_option maxRecDepth 100000 in
theorem tc_73 : lw_tbl[pM 73]? = some (codeW 73) := rfl
set_option maxRecDepth 100000 in
theorem tc_74 : lw_tbl[pM 74]? = some (codeW 74) := rfl
set_option maxRecDepth 100000 in
theorem tc_75 : lw_tbl[pM 75]? = some (codeW 75) := rfl
set_option maxRecDepth 100000 in
theorem tc_76 : lw_tbl[pM 76]? = some (codeW 76) := rfl
set_option maxRecDepth 100000 in
theorem tc_77 : lw_tbl[pM 77]? = some (codeW 77) := rfl
set_option maxRecDepth 100000 in
theorem tc_78 : lw_tbl[pM 78]? = some (codeW 78) := rfl
set_option maxRecDepth 100000 in
theorem tc_79 : lw_tbl[pM 79]? = some (codeW 79) := rfl
set_option maxRecDepth 100000 in
theorem tc_80 : lw_tbl[pM 80]? = some (codeW 80) := rfl
set_option maxRecDepth 100000 in
theorem tc_81 : lw_tbl[pM 81]? = some (codeW 81) := rfl
set_option maxRecDepth 100000 in
theorem tc_82 : lw_tbl[pM 82]? = some (codeW 82) := rfl
set_option maxRecDepth 100000 in
theorem tc_83 : lw_tbl[pM 83]? = some (codeW 83) := rfl
set_option maxRecDepth 100000 in
theorem tc_84 : lw_tbl[pM 84]? = some (codeW 84) := rfl
set_option maxRecDepth 100000 in
theorem tc_85 : lw_tbl[pM 85]? = some (codeW 85) := rfl
set_option maxRecDepth 100000 in
theorem tc_86 : lw_tbl[pM 86]? = some (codeW 86) := rfl
set_option maxRecDepth 100000 in
theorem tc_87 : lw_tbl[pM 87]? = some (codeW 87) := rfl
set_option maxRecDepth 100000 in
theorem tc_88 : lw_tbl[pM 88]? = some (codeW 88) := rfl
set_option maxRecDepth 100000 in
theorem tc_89 : lw_tbl[pM 89]? = some (codeW 89) := rfl
set_option maxRecDepth 100000 in
theorem tc_90 : lw_tbl[pM 90]? = some (codeW 90) := rfl
set_option maxRecDepth 100000 in
theorem tc_91 : lw_tbl[pM 91]? = some (codeW 91) := rfl
set_option maxRecDepth 100000 in
theorem tc_92 : lw_tbl[pM 92]? = some (codeW 92) := rfl
set_option maxRecDepth 100000 in
theorem tc_93 : lw_tbl[pM 93]? = some (codeW 93) := rfl
set_option maxRecDepth 100000 in
theorem tc_94 : lw_tbl[pM 94]? = some (codeW 94) := rfl
set_option maxRecDepth 100000 in
theorem tc_95 : lw_tbl[pM 95]? = some (codeW 95) := rfl
set_option maxRecDepth 100000 in
theorem tc_96 : lw_tbl[pM 96]? = some (codeW 96) := rfl
set_option maxRecDepth 100000 in
theorem tc_97 : lw_tbl[pM 97]? = some (codeW 97) := rfl
set_option maxRecDepth 100000 in
theorem tc_98 : lw_tbl[pM 98]? = some (codeW 98) := rfl
set_option maxRecDepth 100000 in
theorem tc_99 : lw_tbl[pM 99]? = some (codeW 99) := rfl
set_option maxRecDepth 100000 in
theorem tc_100 : lw_tbl[pM 100]? = some (codeW 100) := rfl
set_option maxRecDepth 100000 in
theorem tc_101 : lw_tbl[pM 101]? = some (codeW 101) := rfl
set_option maxRecDepth 100000 in
theorem tc_102 : lw_tbl[pM 102]? = some (codeW 102) := rfl
set_option maxRecDepth 100000 in
theorem tc_103 : lw_tbl[pM 103]? = some (codeW 103) := rfl
set_option maxRecDepth 100000 in
theorem tc_104 : lw_tbl[pM 104]? = some (codeW 104) := rfl
set_option maxRecDepth 100000 in
theorem tc_105 : lw_tbl[pM 105]? = some (codeW 105) := rfl
set_option maxRecDepth 100000 in
theorem tc_106 : lw_tbl[pM 106]? = some (codeW 106) := rfl
set_option maxRecDepth 100000 in
theorem tc_107 : lw_tbl[pM 107]? = some (codeW 107) := rfl
set_option maxRecDepth 100000 in
theorem tc_108 : lw_tbl[pM 108]? = some (codeW 108) := rfl
set_option maxRecDepth 100000 in
theorem tc_109 : lw_tbl[pM 109]? = some (codeW 109) := rfl
set_option maxRecDepth 100000 in
theorem tc_110 : lw_tbl[pM 110]? = some (codeW 110) := rfl
set_option maxRecDepth 100000 in
theorem tc_111 : lw_tbl[pM 111]? = some (codeW 111) := rfl
set_option maxRecDepth 100000 in
theorem tc_112 : lw_tbl[pM 112]? = some (codeW 112) := rfl
set_option maxRecDepth 100000 in
theorem tc_113 : lw_tbl[pM 113]? = some (codeW 113) := rfl
set_option maxRecDepth 100000 in
theorem tc_114 : lw_tbl[pM 114]? = some (codeW 114) := rfl
set_option maxRecDepth 100000 in
theorem tc_115 : lw_tbl[pM 115]? = some (codeW 115) := rfl
set_option maxRecDepth 100000 in
theorem tc_116 : lw_tbl[pM 116]? = some (codeW 116) := rfl
set_option maxRecDepth 100000 in
theorem tc_117 : lw_tbl[pM 117]? = some (codeW 117) := rfl
set_option maxRecDepth 100000 in
theorem tc_118 : lw_tbl[pM 118]? = some (codeW 118) := rfl
set_option maxRecDepth 100000 in
theorem tc_119 : lw_tbl[pM 119]? = some (codeW 119) := rfl
set_option maxRecDepth 100000 in
theorem tc_120 : lw_tbl[pM 120]? = some (codeW 120) := rfl
set_option maxRecDepth 100000 in
theorem tc_121 : lw_tbl[pM 121]? = some (codeW 121) := rfl
set_option maxRecDepth 100000 in
theorem tc_122 : lw_tbl[pM 122]? = some (codeW 122) := rfl
set_option maxRecDepth 100000 in
theorem tc_123 : lw_tbl[pM 123]? = some (codeW 123) := rfl
set_option maxRecDepth 100000 in
theorem tc_124 : lw_tbl[pM 124]? = some (codeW 124) := rfl
set_option maxRecDepth 100000 in
theorem tc_125 : lw_tbl[pM 125]? = some (codeW 125) := rfl
set_option maxRecDepth 100000 in
theorem tc_126 : lw_tbl[pM 126]? = some (codeW 126) := rfl
set_option maxRecDepth 100000 in
theorem tc_127 : lw_tbl[pM 127]? = some (codeW 127) := rfl
set_option maxRecDepth 100000 in
theorem tc_128 : lw_tbl[pM 128]? = some (codeW 128) := rfl
set_option maxRecDepth 100000 in
theorem tc_129 : lw_tbl[pM 129]? = some (codeW 129) := rfl
set_option maxRecDepth 100000 in
theorem tc_130 : lw_tbl[pM 130]? = some (codeW 130) := rfl
set_option maxRecDepth 100000 in
theorem tc_131 : lw_tbl[pM 131]? = some (codeW 131) := rfl
set_option maxRecDepth 100000 in
theorem tc_132 : lw_tbl[pM 132]? = some (codeW 132) := rfl
set_option maxRecDepth 100000 in
theorem tc_133 : lw_tbl[pM 133]? = some (codeW 133) := rfl
set_option maxRecDepth 100000 in
theorem tc_134 : lw_tbl[pM 134]? = some (codeW 134) := rfl
set_option maxRecDepth 100000 in
theorem tc_135 : lw_tbl[pM 135]? = some (codeW 135) := rfl
set_option maxRecDepth 100000 in
theorem tc_136 : lw_tbl[pM 136]? = some (codeW 136) := rfl
set_option maxRecDepth 100000 in
theorem tc_137 : lw_tbl[pM 137]? = some (codeW 137) := rfl
set_option maxRecDepth 100000 in
theorem tc_138 : lw_tbl[pM 138]? = some (codeW 138) := rfl
set_option maxRecDepth 100000 in
theorem tc_139 : lw_tbl[pM 139]? = some (codeW 139) := rfl
set_option maxRecDepth 100000 in
theorem tc_140 : lw_tbl[pM 140]? = some (codeW 140) := rfl
set_option maxRecDepth 100000 in
theorem tc_141 : lw_tbl[pM 141]? = some (codeW 141) := rfl
set_option maxRecDepth 100000 in
theorem tc_142 : lw_tbl[pM 142]? = some (codeW 142) := rfl
set_option maxRecDepth 100000 in
theorem tc_143 : lw_tbl[pM 143]? = some (codeW 143) := rfl
set_option maxRecDepth 100000 in
theorem tc_144 : lw_tbl[pM 144]? = some (codeW 144) := rfl
set_option maxRecDepth 100000 in
theorem tc_145 : lw_tbl[pM 145]? = some (codeW 145) := rfl
set_option maxRecDepth 100000 in
theorem tc_146 : lw_tbl[pM 146]? = some (codeW 146) := rfl
set_option maxRecDepth 100000 in
theorem tc_147 : lw_tbl[pM 147]? = some (codeW 147) := rfl
set_option maxRecDepth 100000 in
theorem tc_148 : lw_tbl[pM 148]? = some (codeW 148) := rfl
set_option maxRecDepth 100000 in
theorem tc_149 : lw_tbl[pM 149]? = some (codeW 149) := rfl
set_option maxRecDepth 100000 in
theorem tc_150 : lw_tbl[pM 150]? = some (codeW 150) := rfl
set_option maxRecDepth 100000 in
theorem tc_151 : lw_tbl[pM 151]? = some (codeW 151) := rfl
set_option maxRecDepth 100000 in
theorem tc_152 : lw_tbl[pM 152]? = some (codeW 152) := rfl
set_option maxRecDepth 100000 in
theorem tc_153 : lw_tbl[pM 153]? = some (codeW 153) := rfl
set_option maxRecDepth 100000 in
theorem tc_154 : lw_tbl[pM 154]? = some (codeW 154) := rfl
set_option maxRecDepth 100000 in
theorem tc_155 : lw_tbl[pM 155]? = some (codeW 155) := rfl
set_option maxRecDepth 100000 in
theorem tc_156 : lw_tbl[pM 156]? = some (codeW 156) := rfl
set_option maxRecDepth 100000 in
theorem tc_157 : lw_tbl[pM 157]? = some (codeW 157) := rfl
set_option maxRecDepth 100000 in
theorem tc_158 : lw_tbl[pM 158]? = some (codeW 158) := rfl
set_option maxRecDepth 100000 in
theorem tc_159 : lw_tbl[pM 159]? = some (codeW 159) := rfl
set_option maxRecDepth 100000 in
theorem tc_160 : lw_tbl[pM 160]? = some (codeW 160) := rfl
set_option maxRecDepth 100000 in
theorem tc_161 : lw_tbl[pM 161]? = some (codeW 161) := rfl
set_option maxRecDepth 100000 in
theorem tc_162 : lw_tbl[pM 162]? = some (codeW 162) := rfl
set_option maxRecDepth 100000 in
theorem tc_163 : lw_tbl[pM 163]? = some (codeW 163) := rfl
set_option maxRecDepth 100000 in
theorem tc_164 : lw_tbl[pM 164]? = some (codeW 164) := rfl
set_option maxRecDepth 100000 in
theorem tc_165 : lw_tbl[pM 165]? = some (codeW 165) := rfl
set_option maxRecDepth 100000 in
theorem tc_166 : lw_tbl[pM 166]? = some (codeW 166) := rfl
set_option maxRecDepth 100000 in
theorem tc_167 : lw_tbl[pM 167]? = some (codeW 167) := rfl
set_option maxRecDepth 100000 in
theorem tc_168 : lw_tbl[pM 168]? = some (codeW 168) := rfl
set_option maxRecDepth 100000 in
theorem tc_169 : lw_tbl[pM 169]? = some (codeW 169) := rfl
set_option maxRecDepth 100000 in
theorem tc_170 : lw_tbl[pM 170]? = some (codeW 170) := rfl
set_option maxRecDepth 100000 in
theorem tc_171 : lw_tbl[pM 171]? = some (codeW 171) := rfl
set_option maxRecDepth 100000 in
theorem tc_172 : lw_tbl[pM 172]? = some (codeW 172) := rfl
set_option maxRecDepth 100000 in
theorem tc_173 : lw_tbl[pM 173]? = some (codeW 173) := rfl
set_option maxRecDepth 100000 in
theorem tc_174 : lw_tbl[pM 174]? = some (codeW 174) := rfl
set_option maxRecDepth 100000 in
theorem tc_175 : lw_tbl[pM 175]? = some (codeW 175) := rfl
set_option maxRecDepth 100000 in
theorem tc_176 : lw_tbl[pM 176]? = some (codeW 176) := rfl
set_option maxRecDepth 100000 in
theorem tc_177 : lw_tbl[pM 177]? = some (codeW 177) := rfl
set_option maxRecDepth 100000 in
theorem tc_178 : lw_tbl[pM 178]? = some (codeW 178) := rfl
set_option maxRecDepth 100000 in
theorem tc_179 : lw_tbl[pM 179]? = some (codeW 179) := rfl
set_option maxRecDepth 100000 in
theorem tc_180 : lw_tbl[pM 180]? = some (codeW 180) := rfl
set_option maxRecDepth 100000 in
theorem tc_181 : lw_tbl[pM 181]? = some (codeW 181) := rfl
set_option maxRecDepth 100000 in
theorem tc_182 : lw_tbl[pM 182]? = some (codeW 182) := rfl
set_option maxRecDepth 100000 in
theorem tc_183 : lw_tbl[pM 183]? = some (codeW 183) := rfl
set_option maxRecDepth 100000 in
theorem tc_184 : lw_tbl[pM 184]? = some (codeW 184) := rfl
set_option maxRecDepth 100000 in
theorem tc_185 : lw_tbl[pM 185]? = some (codeW 185) := rfl
set_option maxRecDepth 100000 in
theorem tc_186 : lw_tbl[pM 186]? = some (codeW 186) := rfl
set_option maxRecDepth 100000 in
theorem tc_187 : lw_tbl[pM 187]? = some (codeW 187) := rfl
set_option maxRecDepth 100000 in
theorem tc_188 : lw_tbl[pM 188]? = some (codeW 188) := rfl
set_option maxRecDepth 100000 in
theorem tc_189 : lw_tbl[pM 189]? = some (codeW 189) := rfl
set_option maxRecDepth 100000 in
theorem tc_190 : lw_tbl[pM 190]? = some (codeW 190) := rfl
set_option maxRecDepth 100000 in
theorem tc_191 : lw_tbl[pM 191]? = some (codeW 191) := rfl
set_option maxRecDepth 100000 in
theorem tc_192 : lw_tbl[pM 192]? = some (codeW 192) := rfl
set_option maxRecDepth 100000 in
theorem tc_193 : lw_tbl[pM 193]? = some (codeW 193) := rfl
set_option maxRecDepth 100000 in
theorem tc_194 : lw_tbl[pM 194]? = some (codeW 194) := rfl
set_option maxRecDepth 100000 in
theorem tc_195 : lw_tbl[pM 195]? = some (codeW 195) := rfl
set_option maxRecDepth 100000 in
theorem tc_196 : lw_tbl[pM 196]? = some (codeW 196) := rfl
set_option maxRecDepth 100000 in
theorem tc_197 : lw_tbl[pM 197]? = some (codeW 197) := rfl
set_option maxRecDepth 100000 in
theorem tc_198 : lw_tbl[pM 198]? = some (codeW 198) := rfl
set_option maxRecDepth 100000 in
theorem tc_199 : lw_tbl[pM 199]? = some (codeW 199) := rfl
set_option maxRecDepth 100000 in
theorem tc_200 : lw_tbl[pM 200]? = some (codeW 200) := rfl
set_option maxRecDepth 100000 in
theorem tc_201 : lw_tbl[pM 201]? = some (codeW 201) := rfl
set_option maxRecDepth 100000 in
theorem tc_202 : lw_tbl[pM 202]? = some (codeW 202) := rfl
set_option maxRecDepth 100000 in
theorem tc_203 : lw_tbl[pM 203]? = some (codeW 203) := rfl
set_option maxRecDepth 100000 in
theorem tc_204 : lw_tbl[pM 204]? = some (codeW 204) := rfl
set_option maxRecDepth 100000 in
theorem tc_205 : lw_tbl[pM 205]? = some (codeW 205) := rfl
set_option maxRecDepth 100000 in
theorem tc_206 : lw_tbl[pM 206]? = some (codeW 206) := rfl
set_option maxRecDepth 100000 in
theorem tc_207 : lw_tbl[pM 207]? = some (codeW 207) := rfl
set_option maxRecDepth 100000 in
theorem tc_208 : lw_tbl[pM 208]? = some (codeW 208) := rfl
set_option maxRecDepth 100000 in
theorem tc_209 : lw_tbl[pM 209]? = some (codeW 209) := rfl
set_option maxRecDepth 100000 in
theorem tc_210 : lw_tbl[pM 210]? = some (codeW 210) := rfl
set_option maxRecDepth 100000 in
theorem tc_211 : lw_tbl[pM 211]? = some (codeW 211) := rfl
set_option maxRecDepth 100000 in
theorem tc_212 : lw_tbl[pM 212]? = some (codeW 212) := rfl
set_option maxRecDepth 100000 in
theorem tc_213 : lw_tbl[pM 213]? = some (codeW 213) := rfl
set_option maxRecDepth 100000 in
theorem tc_214 : lw_tbl[pM 214]? = some (codeW 214) := rfl
set_option maxRecDepth 100000 in
theorem tc_215 : lw_tbl[pM 215]? = some (codeW 215) := rfl
set_option maxRecDepth 100000 in
theorem tc_216 : lw_tbl[pM 216]? = some (codeW 216) := rfl
set_option maxRecDepth 100000 in
theorem tc_217 : lw_tbl[pM 217]? = some (codeW 217) := rfl
set_option maxRecDepth 100000 in
theorem tc_218 : lw_tbl[pM 218]? = some (codeW 218) := rfl
set_option maxRecDepth 100000 in
theorem tc_219 : lw_tbl[pM 219]? = some (codeW 219) := rfl
set_option maxRecDepth 100000 in
theorem tc_220 : lw_tbl[pM 220]? = some (codeW 220) := rfl
set_option maxRecDepth 100000 in
theorem tc_221 : lw_tbl[pM 221]? = some (codeW 221) := rfl
set_option maxRecDepth 100000 in
theorem tc_222 : lw_tbl[pM 222]? = some (codeW 222) := rfl
set_option maxRecDepth 100000 in
theorem tc_223 : lw_tbl[pM 223]? = some (codeW 223) := rfl
set_option maxRecDepth 100000 in
theorem tc_224 : lw_tbl[pM 224]? = some (codeW 224) := rfl
set_option maxRecDepth 100000 in
theorem tc_225 : lw_tbl[pM 225]? = some (codeW 225) := rfl
set_option maxRecDepth 100000 in
theorem tc_226 : lw_tbl[pM 226]? = some (codeW 226) := rfl
set_option maxRecDepth 100000 in
theorem tc_227 : lw_tbl[pM 227]? = some (codeW 227) := rfl
set_option maxRecDepth 100000 in
theorem tc_228 : lw_tbl[pM 228]? = some (codeW 228) := rfl
set_option maxRecDepth 100000 in
theorem tc_229 : lw_tbl[pM 229]? = some (codeW 229) := rfl
set_option maxRecDepth 100000 in
theorem tc_230 : lw_tbl[pM 230]? = some (codeW 230) := rfl
set_option maxRecDepth 100000 in
theorem tc_231 : lw_tbl[pM 231]? = some (codeW 231) := rfl
set_option maxRecDepth 100000 in
theorem tc_232 : lw_tbl[pM 232]? = some (codeW 232) := rfl
set_option maxRecDepth 100000 in
theorem tc_233 : lw_tbl[pM 233]? = some (codeW 233) := rfl
set_option maxRecDepth 100000 in
theorem tc_234 : lw_tbl[pM 234]? = some (codeW 234) := rfl
set_option maxRecDepth 100000 in
theorem tc_235 : lw_tbl[pM 235]? = some (codeW 235) := rfl
set_option maxRecDepth 100000 in
theorem tc_236 : lw_tbl[pM 236]? = some (codeW 236) := rfl
set_option maxRecDepth 100000 in
theorem tc_237 : lw_tbl[pM 237]? = some (codeW 237) := rfl
set_option maxRecDepth 100000 in
theorem tc_238 : lw_tbl[pM 238]? = some (codeW 238) := rfl
set_option maxRecDepth 100000 in
theorem tc_239 : lw_tbl[pM 239]? = some (codeW 239) := rfl
set_option maxRecDepth 100000 in
theorem tc_240 : lw_tbl[pM 240]? = some (codeW 240) := rfl
set_option maxRecDepth 100000 in
theorem tc_241 : lw_tbl[pM 241]? = some (codeW 241) := rfl
set_option maxRecDepth 100000 in
theorem tc_242 : lw_tbl[pM 242]? = some (codeW 242) := rfl
set_option maxRecDepth 100000 in
theorem tc_243 : lw_tbl[pM 243]? = some (codeW 243) := rfl
set_option maxRecDepth 100000 in
theorem tc_244 : lw_tbl[pM 244]? = some (codeW 244) := rfl
set_option maxRecDepth 100000 in
theorem tc_245 : lw_tbl[pM 245]? = some (codeW 245) := rfl
set_option maxRecDepth 100000 in
theorem tc_246 : lw_tbl[pM 246]? = some (codeW 246) := rfl
set_option maxRecDepth 100000 in
theorem tc_247 : lw_tbl[pM 247]? = some (codeW 247) := rfl
set_option maxRecDepth 100000 in
theorem tc_248 : lw_tbl[pM 248]? = some (codeW 248) := rfl
set_option maxRecDepth 100000 in
theorem tc_249 : lw_tbl[pM 249]? = some (codeW 249) := rfl
set_option maxRecDepth 100000 in
theorem tc_250 : lw_tbl[pM 250]? = some (codeW 250) := rfl
set_option maxRecDepth 100000 in
theorem tc_251 : lw_tbl[pM 251]? = some (codeW 251) := rfl
set_option maxRecDepth 100000 in
theorem tc_252 : lw_tbl[pM 252]? = some (codeW 252) := rfl
set_option maxRecDepth 100000 in
theorem tc_253 : lw_tbl[pM 253]? = some (codeW 253) := rfl
theorem tcs_0 : ∀ i ∈ [0, 1, 2, 3, 4, 5, 6, 7, 8, 9, 10, 11, 12, 13, 14, 15], lw_tbl[pM i]? = some (codeW i) := List.forall_mem_cons.mpr ⟨tc_0, List.forall_mem_cons.mpr ⟨tc_1, List.forall_mem_cons.mpr ⟨tc_2, List.forall_mem_cons.mpr ⟨tc_3, List.forall_mem_cons.mpr ⟨tc_4, List.forall_mem_cons.mpr ⟨tc_5, List.forall_mem_cons.mpr ⟨tc_6, List.forall_mem_cons.mpr ⟨tc_7, List.forall_mem_cons.mpr ⟨tc_8, List.forall_mem_cons.mpr ⟨tc_9, List.forall_mem_cons.mpr ⟨tc_10, List.forall_mem_cons.mpr ⟨tc_11, List.forall_mem_cons.mpr ⟨tc_12, List.forall_mem_cons.mpr ⟨tc_13, List.forall_mem_cons.mpr ⟨tc_14, List.forall_mem_cons.mpr ⟨tc_15, fun _ h => absurd h List.not_mem_nil⟩⟩⟩⟩⟩⟩⟩⟩⟩⟩⟩⟩⟩⟩⟩⟩
theorem tcs_16 : ∀ i ∈ [16, 17, 18, 19, 20, 21, 22, 23, 24, 25, 26, 27, 28, 29, 30, 31], lw_tbl[pM i]? = some (codeW i) := List.forall_mem_cons.mpr ⟨tc_16, List.forall_mem_cons.mpr ⟨tc_17, List.forall_mem_cons.mpr ⟨tc_18, List.forall_mem_cons.mpr ⟨tc_19, List.forall_mem_cons.mpr ⟨tc_20, List.forall_mem_cons.mpr ⟨tc_21, List.forall_mem_cons.mpr ⟨tc_22, List.forall_mem_cons.mpr ⟨tc_23, List.forall_mem_cons.mpr ⟨tc_24, List.forall_mem_cons.mpr ⟨tc_25, List.forall_mem_cons.mpr ⟨tc_26, List.forall_mem_cons.mpr ⟨tc_27, List.forall_mem_cons.mpr ⟨tc_28, List.forall_mem_cons.mpr ⟨tc_29, List.forall_mem_cons.mpr ⟨tc_30, List.forall_mem_cons.mpr ⟨tc_31, fun _ h => absurd h List.not_mem_nil⟩⟩⟩⟩⟩⟩⟩⟩⟩⟩⟩⟩⟩⟩⟩⟩
theorem tcs_32 : ∀ i ∈ [32, 33, 34, 35, 36, 37, 38, 39, 40, 41, 42, 43, 44, 45, 46, 47], lw_tbl[pM i]? = some (codeW i) := List.forall_mem_cons.mpr ⟨tc_32, List.forall_mem_cons.mpr ⟨tc_33, List.forall_mem_cons.mpr ⟨tc_34, List.forall_mem_cons.mpr ⟨tc_35, List.forall_mem_cons.mpr ⟨tc_36, List.forall_mem_cons.mpr ⟨tc_37, List.forall_mem_cons.mpr ⟨tc_38, List.forall_mem_cons.mpr ⟨tc_39, List.forall_mem_cons.mpr ⟨tc_40, List.forall_mem_cons.mpr ⟨tc_41, List.forall_mem_cons.mpr ⟨tc_42, List.forall_mem_cons.mpr ⟨tc_43, List.forall_mem_cons.mpr ⟨tc_44, List.forall_mem_cons.mpr ⟨tc_45, List.forall_mem_cons.mpr ⟨tc_46, List.forall_mem_cons.mpr ⟨tc_47, fun _ h => absurd h List.not_mem_nil⟩⟩⟩⟩⟩⟩⟩⟩⟩⟩⟩⟩⟩⟩⟩⟩
theorem tcs_48 : ∀ i ∈ [48, 49, 50, 51, 52, 53, 54, 55, 56, 57, 58, 59, 60, 61, 62, 63], lw_tbl[pM i]? = some (codeW i) := List.forall_mem_cons.mpr ⟨tc_48, List.forall_mem_cons.mpr ⟨tc_49, List.forall_mem_cons.mpr ⟨tc_50, List.forall_mem_cons.mpr ⟨tc_51, List.forall_mem_cons.mpr ⟨tc_52, List.forall_mem_cons.mpr ⟨tc_53, List.forall_mem_cons.mpr ⟨tc_54, List.forall_mem_cons.mpr ⟨tc_55, List.forall_mem_cons.mpr ⟨tc_56, List.forall_mem_cons.mpr ⟨tc_57, List.forall_mem_cons.mpr ⟨tc_58, List.forall_mem_cons.mpr ⟨tc_59, List.forall_mem_cons.mpr ⟨tc_60, List.forall_mem_cons.mpr ⟨tc_61, List.forall_mem_cons.mpr ⟨tc_62, List.forall_mem_cons.mpr ⟨tc_63, fun _ h => absurd h List.not_mem_nil⟩⟩⟩⟩⟩⟩⟩⟩⟩⟩⟩⟩⟩⟩⟩⟩
theorem tcs_64 : ∀ i ∈ [64, 65, 66, 67, 68, 69, 70, 71, 72, 73, 74, 75, 76, 77, 78, 79], lw_tbl[pM i]? = some (codeW i) := List.forall_mem_cons.mpr ⟨tc_64, List.forall_mem_cons.mpr ⟨tc_65, List.forall_mem_cons.mpr ⟨tc_66, List.forall_mem_cons.mpr ⟨tc_67, List.forall_mem_cons.mpr ⟨tc_68, List.forall_mem_cons.mpr ⟨tc_69, List.forall_mem_cons.mpr ⟨tc_70, List.forall_mem_cons.mpr ⟨tc_71, List.forall_mem_cons.mpr ⟨tc_72, List.forall_mem_cons.mpr ⟨tc_73, List.forall_mem_cons.mpr ⟨tc_74, List.forall_mem_cons.mpr ⟨tc_75, List.forall_mem_cons.mpr ⟨tc_76, List.forall_mem_cons.mpr ⟨tc_77, List.forall_mem_cons.mpr ⟨tc_78, List.forall_mem_cons.mpr ⟨tc_79, fun _ h => absurd h List.not_mem_nil⟩⟩⟩⟩⟩⟩⟩⟩⟩⟩⟩⟩⟩⟩⟩⟩
theorem tcs_80 : ∀ i ∈ [80, 81, 82, 83, 84, 85, 86, 87, 88, 89, 90, 91, 92, 93, 94, 95], lw_tbl[pM i]? = some (codeW i) := List.forall_mem_cons.mpr ⟨tc_80, List.forall_mem_cons.mpr ⟨tc_81, List.forall_mem_cons.mpr ⟨tc_82, List.forall_mem_cons.mpr ⟨tc_83, List.forall_mem_cons.mpr ⟨tc_84, List.forall_mem_cons.mpr ⟨tc_85, List.forall_mem_cons.mpr ⟨tc_86, List.forall_mem_cons.mpr ⟨tc_87, List.forall_mem_cons.mpr ⟨tc_88, List.forall_mem_cons.mpr ⟨tc_89, List.forall_mem_cons.mpr ⟨tc_90, List.forall_mem_cons.mpr ⟨tc_91, List.forall_mem_cons.mpr ⟨tc_92, List.forall_mem_cons.mpr ⟨tc_93, List.forall_mem_cons.mpr ⟨tc_94, List.forall_mem_cons.mpr ⟨tc_95, fun _ h => absurd h List.not_mem_nil⟩⟩⟩⟩⟩⟩⟩⟩⟩⟩⟩⟩⟩⟩⟩⟩
theorem tcs_96 : ∀ i ∈ [96, 97, 98, 99, 100, 101, 102, 103, 104, 105, 106, 107, 108, 109, 110, 111], lw_tbl[pM i]? = some (codeW i) := List.forall_mem_cons.mpr ⟨tc_96, List.forall_mem_cons.mpr ⟨tc_97, List.forall_mem_cons.mpr ⟨tc_98, List.forall_mem_cons.mpr ⟨tc_99, List.forall_mem_cons.mpr ⟨tc_100, List.forall_mem_cons.mpr ⟨tc_101, List.forall_mem_cons.mpr ⟨tc_102, List.forall_mem_cons.mpr ⟨tc_103, List.forall_mem_cons.mpr ⟨tc_104, List.forall_mem_cons.mpr ⟨tc_105, List.forall_mem_cons.mpr ⟨tc_106, List.forall_mem_cons.mpr ⟨tc_107, List.forall_mem_cons.mpr ⟨tc_108, List.forall_mem_cons.mpr ⟨tc_109, List.forall_mem_cons.mpr ⟨tc_110, List.forall_mem_cons.mpr ⟨tc_111, fun _ h => absurd h List.not_mem_nil⟩⟩⟩⟩⟩⟩⟩⟩⟩⟩⟩⟩⟩⟩⟩⟩
theorem tcs_112 : ∀ i ∈ [112, 113, 114, 115, 116, 117, 118, 119, 120, 121, 122, 123, 124, 125, 126, 127], lw_tbl[pM i]? = some (codeW i) := List.forall_mem_cons.mpr ⟨tc_112, List.forall_mem_cons.mpr ⟨tc_113, List.forall_mem_cons.mpr ⟨tc_114, List.forall_mem_cons.mpr ⟨tc_115, List.forall_mem_cons.mpr ⟨tc_116, List.forall_mem_cons.mpr ⟨tc_117, List.forall_mem_cons.mpr ⟨tc_118, List.forall_mem_cons.mpr ⟨tc_119, List.forall_mem_cons.mpr ⟨tc_120, List.forall_mem_cons.mpr ⟨tc_121, List.forall_mem_cons.mpr ⟨tc_122, List.forall_mem_cons.mpr ⟨tc_123, List.forall_mem_cons.mpr ⟨tc_124, List.forall_mem_cons.mpr ⟨tc_125, List.forall_mem_cons.mpr ⟨tc_126, List.forall_mem_cons.mpr ⟨tc_127, fun _ h => absurd h List.not_mem_nil⟩⟩⟩⟩⟩⟩⟩⟩⟩⟩⟩⟩⟩⟩⟩⟩
theorem tcs_128 : ∀ i ∈ [128, 129, 130, 131, 132, 133, 134, 135, 136, 137, 138, 139, 140, 141, 142, 143], lw_tbl[pM i]? = some (codeW i) := List.forall_mem_cons.mpr ⟨tc_128, List.forall_mem_cons.mpr ⟨tc_129, List.forall_mem_cons.mpr ⟨tc_130, List.forall_mem_cons.mpr ⟨tc_131, List.forall_mem_cons.mpr ⟨tc_132, List.forall_mem_cons.mpr ⟨tc_133, List.forall_mem_cons.mpr ⟨tc_134, List.forall_mem_cons.mpr ⟨tc_135, List.forall_mem_cons.mpr ⟨tc_136, List.forall_mem_cons.mpr ⟨tc_137, List.forall_mem_cons.mpr ⟨tc_138, List.forall_mem_cons.mpr ⟨tc_139, List.forall_mem_cons.mpr ⟨tc_140, List.forall_mem_cons.mpr ⟨tc_141, List.forall_mem_cons.mpr ⟨tc_142, List.forall_mem_cons.mpr ⟨tc_143, fun _ h => absurd h List.not_mem_nil⟩⟩⟩⟩⟩⟩⟩⟩⟩⟩⟩⟩⟩⟩⟩⟩
theorem tcs_144 : ∀ i ∈ [144, 145, 146, 147, 148, 149, 150, 151, 152, 153, 154, 155, 156, 157, 158, 159], lw_tbl[pM i]? = some (codeW i) := List.forall_mem_cons.mpr ⟨tc_144, List.forall_mem_cons.mpr ⟨tc_145, List.forall_mem_cons.mpr ⟨tc_146, List.forall_mem_cons.mpr ⟨tc_147, List.forall_mem_cons.mpr ⟨tc_148, List.forall_mem_cons.mpr ⟨tc_149, List.forall_mem_cons.mpr ⟨tc_150, List.forall_mem_cons.mpr ⟨tc_151, List.forall_mem_cons.mpr ⟨tc_152, List.forall_mem_cons.mpr ⟨tc_153, List.forall_mem_cons.mpr ⟨tc_154, List.forall_mem_cons.mpr ⟨tc_155, List.forall_mem_cons.mpr ⟨tc_156, List.forall_mem_cons.mpr ⟨tc_157, List.forall_mem_cons.mpr ⟨tc_158, List.forall_mem_cons.mpr ⟨tc_159, fun _ h => absurd h List.not_mem_nil⟩⟩⟩⟩⟩⟩⟩⟩⟩⟩⟩⟩⟩⟩⟩⟩
theorem tcs_160 : ∀ i ∈ [160, 161, 162, 163, 164, 165, 166, 167, 168, 169, 170, 171, 172, 173, 174, 175], lw_tbl[pM i]? = some (codeW i) := List.forall_mem_cons.mpr ⟨tc_160, List.forall_mem_cons.mpr ⟨tc_161, List.forall_mem_cons.mpr ⟨tc_162, List.forall_mem_cons.mpr ⟨tc_163, List.forall_mem_cons.mpr ⟨tc_164, List.forall_mem_cons.mpr ⟨tc_165, List.forall_mem_cons.mpr ⟨tc_166, List.forall_mem_cons.mpr ⟨tc_167, List.forall_mem_cons.mpr ⟨tc_168, List.forall_mem_cons.mpr ⟨tc_169, List.forall_mem_cons.mpr ⟨tc_170, List.forall_mem_cons.mpr ⟨tc_171, List.forall_mem_cons.mpr ⟨tc_172, List.forall_mem_cons.mpr ⟨tc_173, List.forall_mem_cons.mpr ⟨tc_174, List.forall_mem_cons.mpr ⟨tc_175, fun _ h => absurd h List.not_mem_nil⟩⟩⟩⟩⟩⟩⟩⟩⟩⟩⟩⟩⟩⟩⟩⟩
theorem tcs_176 : ∀ i ∈ [176, 177, 178, 179, 180, 181, 182, 183, 184, 185, 186, 187, 188, 189, 190, 191], lw_tbl[pM i]? = some (codeW i) := List.forall_mem_cons.mpr ⟨tc_176, List.forall_mem_cons.mpr ⟨tc_177, List.forall_mem_cons.mpr ⟨tc_178, List.forall_mem_cons.mpr ⟨tc_179, List.forall_mem_cons.mpr ⟨tc_180, List.forall_mem_cons.mpr ⟨tc_181, List.forall_mem_cons.mpr ⟨tc_182, List.forall_mem_cons.mpr ⟨tc_183, List.forall_mem_cons.mpr ⟨tc_184, List.forall_mem_cons.mpr ⟨tc_185, List.forall_mem_cons.mpr ⟨tc_186, List.forall_mem_cons.mpr ⟨tc_187, List.forall_mem_cons.mpr ⟨tc_188, List.forall_mem_cons.mpr ⟨tc_189, List.forall_mem_cons.mpr ⟨tc_190, List.forall_mem_cons.mpr ⟨tc_191, fun _ h => absurd h List.not_mem_nil⟩⟩⟩⟩⟩⟩⟩⟩⟩⟩⟩⟩⟩⟩⟩⟩
theorem tcs_192 : ∀ i ∈ [192, 193, 194, 195, 196, 197, 198, 199, 200, 201, 202, 203, 204, 205, 206, 207], lw_tbl[pM i]? = some (codeW i) := List.forall_mem_cons.mpr ⟨tc_192, List.forall_mem_cons.mpr ⟨tc_193, List.forall_mem_cons.mpr ⟨tc_194, List.forall_mem_cons.mpr ⟨tc_195, List.forall_mem_cons.mpr ⟨tc_196, List.forall_mem_cons.mpr ⟨tc_197, List.forall_mem_cons.mpr ⟨tc_198, List.forall_mem_cons.mpr ⟨tc_199, List.forall_mem_cons.mpr ⟨tc_200, List.forall_mem_cons.mpr ⟨tc_201, List.forall_mem_cons.mpr ⟨tc_202, List.forall_mem_cons.mpr ⟨tc_203, List.forall_mem_cons.mpr ⟨tc_204, List.forall_mem_cons.mpr ⟨tc_205, List.forall_mem_cons.mpr ⟨tc_206, List.forall_mem_cons.mpr ⟨tc_207, fun _ h => absurd h List.not_mem_nil⟩⟩⟩⟩⟩⟩⟩⟩⟩⟩⟩⟩⟩⟩⟩⟩
theorem tcs_208 : ∀ i ∈ [208, 209, 210, 211, 212, 213, 214, 215, 216, 217, 218, 219, 220, 221, 222, 223], lw_tbl[pM i]? = some (codeW i) := List.forall_mem_cons.mpr ⟨tc_208, List.forall_mem_cons.mpr ⟨tc_209, List.forall_mem_cons.mpr ⟨tc_210, List.forall_mem_cons.mpr ⟨tc_211, List.forall_mem_cons.mpr ⟨tc_212, List.forall_mem_cons.mpr ⟨tc_213, List.forall_mem_cons.mpr ⟨tc_214, List.forall_mem_cons.mpr ⟨tc_215, List.forall_mem_cons.mpr ⟨tc_216, List.forall_mem_cons.mpr ⟨tc_217, List.forall_mem_cons.mpr ⟨tc_218, List.forall_mem_cons.mpr ⟨tc_219, List.forall_mem_cons.mpr ⟨tc_220, List.forall_mem_cons.mpr ⟨tc_221, List.forall_mem_cons.mpr ⟨tc_222, List.forall_mem_cons.mpr ⟨tc_223, fun _ h => absurd h List.not_mem_nil⟩⟩⟩⟩⟩⟩⟩⟩⟩⟩⟩⟩⟩⟩⟩⟩
theorem tcs_224 : ∀ i ∈ [224, 225, 226, 227, 228, 229, 230, 231, 232, 233, 234, 235, 236, 237, 238, 239], lw_tbl[pM i]? = some (codeW i) := List.forall_mem_cons.mpr ⟨tc_224, List.forall_mem_cons.mpr ⟨tc_225, List.forall_mem_cons.mpr ⟨tc_226, List.forall_mem_cons.mpr ⟨tc_227, List.forall_mem_cons.mpr ⟨tc_228, List.forall_mem_cons.mpr ⟨tc_229, List.forall_mem_cons.mpr ⟨tc_230, List.forall_mem_cons.mpr ⟨tc_231, List.forall_mem_cons.mpr ⟨tc_232, List.forall_mem_cons.mpr ⟨tc_233, List.forall_mem_cons.mpr ⟨tc_234, List.forall_mem_cons.mpr ⟨tc_235, List.forall_mem_cons.mpr ⟨tc_236, List.forall_mem_cons.mpr ⟨tc_237, List.forall_mem_cons.mpr ⟨tc_238, List.forall_mem_cons.mpr ⟨tc_239, fun _ h => absurd h List.not_mem_nil⟩⟩⟩⟩⟩⟩⟩⟩⟩⟩⟩⟩⟩⟩⟩⟩
theorem tcs_240 : ∀ i ∈ [240, 241, 242, 243, 244, 245, 246, 247, 248, 249, 250, 251, 252, 253], lw_tbl[pM i]? = some (codeW i) := List.forall_mem_cons.mpr ⟨tc_240, List.forall_mem_cons.mpr ⟨tc_241, List.forall_mem_cons.mpr ⟨tc_242, List.forall_mem_cons.mpr ⟨tc_243, List.forall_mem_cons.mpr ⟨tc_244, List.forall_mem_cons.mpr ⟨tc_245, List.forall_mem_cons.mpr ⟨tc_246, List.forall_mem_cons.mpr ⟨tc_247, List.forall_mem_cons.mpr ⟨tc_248, List.forall_mem_cons.mpr ⟨tc_249, List.forall_mem_cons.mpr ⟨tc_250, List.forall_mem_cons.mpr ⟨tc_251, List.forall_mem_cons.mpr ⟨tc_252, List.forall_mem_cons.mpr ⟨tc_253, fun _ h => absurd h List.not_mem_nil⟩⟩⟩⟩⟩⟩⟩⟩⟩⟩⟩⟩⟩⟩
theorem tcs_all : ∀ i, i < mtN → lw_tbl[pM i]? = some (codeW i) := by
  intro i hi
  have h : i ∈ [0, 1, 2, 3, 4, 5, 6, 7, 8, 9, 10, 11, 12, 13, 14, 15] ++ ([16, 17, 18, 19, 20, 21, 22, 23, 24, 25, 26, 27, 28, 29, 30, 31] ++ ([32, 33, 34, 35, 36, 37, 38, 39, 40, 41, 42, 43, 44, 45, 46, 47] ++ ([48, 49, 50, 51, 52, 53, 54, 55, 56, 57, 58, 59, 60, 61, 62, 63] ++ ([64, 65, 66, 67, 68, 69, 70, 71, 72, 73, 74, 75, 76, 77, 78, 79] ++ ([80, 81, 82, 83, 84, 85, 86, 87, 88, 89, 90, 91, 92, 93, 94, 95] ++ ([96, 97, 98, 99, 100, 101, 102, 103, 104, 105, 106, 107, 108, 109, 110, 111] ++ ([112, 113, 114, 115, 116, 117, 118, 119, 120, 121, 122, 123, 124, 125, 126, 127] ++ ([128, 129, 130, 131, 132, 133, 134, 135, 136, 137, 138, 139, 140, 141, 142, 143] ++ ([144, 145, 146, 147, 148, 149, 150, 151, 152, 153, 154, 155, 156, 157, 158, 159] ++ ([160, 161, 162, 163, 164, 165, 166, 167, 168, 169, 170, 171, 172, 173, 174, 175] ++ ([176, 177, 178, 179, 180, 181, 182, 183, 184, 185, 186, 187, 188, 189, 190, 191] ++ ([192, 193, 194, 195, 196, 197, 198, 199, 200, 201, 202, 203, 204, 205, 206, 207] ++ ([208, 209, 210, 211, 212, 213, 214, 215, 216, 217, 218, 219, 220, 221, 222, 223] ++ ([224, 225, 226, 227, 228, 229, 230, 231, 232, 233, 234, 235, 236, 237, 238, 239] ++ ([240, 241, 242, 243, 244, 245, 246, 247, 248, 249, 250, 251, 252, 253]))))))))))))))) := by
    have e : i ∈ List.range mtN := List.mem_range.mpr hi
    exact (show List.range mtN = [0, 1, 2, 3, 4, 5, 6, 7, 8, 9, 10, 11, 12, 13, 14, 15] ++ ([16, 17, 18, 19, 20, 21, 22, 23, 24, 25, 26, 27, 28, 29, 30, 31] ++ ([32, 33, 34, 35, 36, 37, 38, 39, 40, 41, 42, 43, 44, 45, 46, 47] ++ ([48, 49, 50, 51, 52, 53, 54, 55, 56, 57, 58, 59, 60, 61, 62, 63] ++ ([64, 65, 66, 67, 68, 69, 70, 71, 72, 73, 74, 75, 76, 77, 78, 79] ++ ([80, 81, 82, 83, 84, 85, 86, 87, 88, 89, 90, 91, 92, 93, 94, 95] ++ ([96, 97, 98, 99, 100, 101, 102, 103, 104, 105, 106, 107, 108, 109, 110, 111] ++ ([112, 113, 114, 115, 116, 117, 118, 119, 120, 121, 122, 123, 124, 125, 126, 127] ++ ([128, 129, 130, 131, 132, 133, 134, 135, 136, 137, 138, 139, 140, 141, 142, 143] ++ ([144, 145, 146, 147, 148, 149, 150, 151, 152, 153, 154, 155, 156, 157, 158, 159] ++ ([160, 161, 162, 163, 164, 165, 166, 167, 168, 169, 170, 171, 172, 173, 174, 175] ++ ([176, 177, 178, 179, 180, 181, 182, 183, 184, 185, 186, 187, 188, 189, 190, 191] ++ ([192, 193, 194, 195, 196, 197, 198, 199, 200, 201, 202, 203, 204, 205, 206, 207] ++ ([208, 209, 210, 211, 212, 213, 214, 215, 216, 217, 218, 219, 220, 221, 222, 223] ++ ([224, 225, 226, 227, 228, 229, 230, 231, 232, 233, 234, 235, 236, 237, 238, 239] ++ ([240, 241, 242, 243, 244, 245, 246, 247, 248, 249, 250, 251, 252, 253]))))))))))))))) by decide +kernel) ▸ e
  revert i
  intro i hi h
  revert h
  revert hi
  revert i
  intro i _ h
  simp only [List.mem_append] at h
  rcases h with h | h | h | h | h | h | h | h | h | h | h | h | h | h | h | h
  · exact tcs_0 i h
  · exact tcs_16 i h
  · exact tcs_32 i h
  · exact tcs_48 i h
  · exact tcs_64 i h
  · exact tcs_80 i h
  · exact tcs_96 i h
  · exact tcs_112 i h
  · exact tcs_128 i h
  · exact tcs_144 i h
  · exact tcs_160 i h
  · exact tcs_176 i h
  · exact tcs_192 i h
  · exact tcs_208 i h
  · exact tcs_224 i h
  · exact tcs_240 i h
def mathP (i : Nat) : Nat := match i with
  | 0 => 290
  | 1 => 287
  | _ => 761
def posW (ci : Nat) : List Nat := match ci with
  | 0 => [392, 394, 396, 398, 400, 402, 404, 406, 408]
  | 1 => [367, 369, 371, 373, 375, 377]
  | 2 => [457, 459, 461, 463, 465, 467, 469]
  | 3 => [521, 523, 525, 527, 529]
  | 4 => [542, 544, 546]
  | 5 => [248, 250, 252, 254, 256, 258, 260, 262, 264, 266, 268, 270]
  | 6 => [302, 304, 306, 308, 310, 312, 314, 316]
  | 7 => [335, 337, 339, 341]
  | 8 => [218, 220, 222, 224, 226, 228, 230]
  | 9 => [177, 179, 181, 183, 185, 187]
  | 10 => [426, 428, 430, 432, 434, 436, 438, 440]
  | 11 => [564, 566, 568, 570, 572, 574, 576, 578, 580, 582, 584, 586, 588, 590, 592]
  | 12 => [1758, 1760, 1762, 1764, 1766, 1768, 1770, 1772, 1774, 1776, 1778, 1780, 1782, 1784, 1786, 1788, 1790, 1792, 1794, 1796, 1798, 1800, 1802, 1804, 1806, 1808, 1810, 1812, 1814, 1816, 1818, 1820, 1822, 1824, 1826, 1828, 1830, 1832, 1834, 1836, 1838, 1840, 1842, 1844, 1846, 1848, 1850, 1852, 1854, 1856, 1858, 1860, 1862, 1864, 1866, 1868, 1870, 1872, 1874, 1876, 1878, 1880, 1882, 1884, 1886, 1888, 1890, 1892, 1894, 1896, 1898, 1900, 1902, 1904, 1906, 1908, 1910]
  | _ => []
