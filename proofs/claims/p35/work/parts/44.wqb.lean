/-! the methods by number; constants -/
theorem zp_0 : zP[0]? = some zm_0 := rfl
theorem zp_1 : zP[1]? = some zm_1 := rfl
theorem zp_2 : zP[2]? = some zm_2 := rfl
theorem zp_3 : zP[3]? = some zm_3 := rfl
theorem zp_4 : zP[4]? = some zm_4 := rfl
theorem zp_5 : zP[5]? = some zm_5 := rfl
theorem zp_6 : zP[6]? = some zm_6 := rfl
theorem zp_7 : zP[7]? = some zm_7 := rfl
theorem zp_8 : zP[8]? = some zm_8 := rfl
theorem zp_9 : zP[9]? = some zm_9 := rfl
theorem zp_10 : zP[10]? = some zm_10 := rfl
theorem zp_11 : zP[11]? = some zm_11 := rfl
theorem zp_12 : zP[12]? = some zm_12 := rfl
theorem zp_13 : zP[13]? = some zm_13 := rfl
theorem zp_14 : zP[14]? = some zm_14 := rfl
theorem zp_15 : zP[15]? = some zm_15 := rfl
theorem zp_16 : zP[16]? = some zm_16 := rfl
theorem zp_17 : zP[17]? = some zm_17 := rfl
theorem zp_18 : zP[18]? = some zm_18 := rfl
theorem zp_19 : zP[19]? = some zm_19 := rfl
theorem zp_20 : zP[20]? = some zm_20 := rfl
theorem zp_21 : zP[21]? = some zm_21 := rfl
theorem zp_22 : zP[22]? = some zm_22 := rfl
theorem zp_23 : zP[23]? = some zm_23 := rfl
theorem zp_24 : zP[24]? = some zm_24 := rfl
theorem zp_25 : zP[25]? = some zm_25 := rfl
theorem zp_26 : zP[26]? = some zm_26 := rfl
theorem zp_27 : zP[27]? = some zm_27 := rfl
theorem zp_28 : zP[28]? = some zm_28 := rfl
theorem zp_29 : zP[29]? = some zm_29 := rfl
theorem zp_30 : zP[30]? = some zm_30 := rfl
theorem zp_31 : zP[31]? = some zm_31 := rfl
theorem zp_32 : zP[32]? = some zm_32 := rfl
theorem zp_33 : zP[33]? = some zm_33 := rfl
theorem zp_34 : zP[34]? = some zm_34 := rfl
theorem zp_35 : zP[35]? = some zm_35 := rfl
theorem zp_36 : zP[36]? = some zm_36 := rfl
theorem zp_37 : zP[37]? = some zm_37 := rfl
theorem zp_38 : zP[38]? = some zm_38 := rfl
theorem zp_39 : zP[39]? = some zm_39 := rfl
theorem zp_40 : zP[40]? = some zm_40 := rfl
theorem zp_41 : zP[41]? = some zm_41 := rfl
theorem zp_42 : zP[42]? = some zm_42 := rfl
theorem zp_43 : zP[43]? = some zm_43 := rfl
theorem zp_44 : zP[44]? = some zm_44 := rfl
theorem zp_45 : zP[45]? = some zm_45 := rfl
theorem zp_46 : zP[46]? = some zm_46 := rfl
theorem zp_47 : zP[47]? = some zm_47 := rfl
theorem zp_48 : zP[48]? = some zm_48 := rfl
theorem zp_49 : zP[49]? = some zm_49 := rfl
theorem zp_50 : zP[50]? = some zm_50 := rfl
theorem zp_51 : zP[51]? = some zm_51 := rfl
theorem zp_52 : zP[52]? = some zm_52 := rfl
theorem zp_53 : zP[53]? = some zm_53 := rfl
theorem zp_54 : zP[54]? = some zm_54 := rfl
theorem zp_55 : zP[55]? = some zm_55 := rfl
theorem zp_56 : zP[56]? = some zm_56 := rfl
theorem zp_57 : zP[57]? = some zm_57 := rfl
theorem zp_58 : zP[58]? = some zm_58 := rfl
theorem zp_59 : zP[59]? = some zm_59 := rfl
theorem zp_60 : zP[60]? = some zm_60 := rfl
theorem zp_61 : zP[61]? = some zm_61 := rfl
theorem zp_62 : zP[62]? = some zm_62 := rfl
theorem zp_63 : zP[63]? = some zm_63 := rfl
theorem zp_64 : zP[64]? = some zm_64 := rfl
theorem zp_65 : zP[65]? = some zm_65 := rfl
theorem zp_66 : zP[66]? = some zm_66 := rfl
theorem zp_67 : zP[67]? = some zm_67 := rfl
theorem zp_68 : zP[68]? = some zm_68 := rfl
theorem zp_69 : zP[69]? = some zm_69 := rfl
theorem zp_70 : zP[70]? = some zm_70 := rfl
theorem zp_71 : zP[71]? = some zm_71 := rfl
theorem zp_72 : zP[72]? = some zm_72 := rfl
theorem zp_73 : zP[73]? = some zm_73 := rfl
theorem zp_74 : zP[74]? = some zm_74 := rfl
theorem zp_75 : zP[75]? = some zm_75 := rfl
theorem zp_76 : zP[76]? = some zm_76 := rfl
theorem zp_77 : zP[77]? = some zm_77 := rfl
theorem zp_78 : zP[78]? = some zm_78 := rfl
theorem zp_79 : zP[79]? = some zm_79 := rfl
theorem zp_80 : zP[80]? = some zm_80 := rfl
theorem zp_81 : zP[81]? = some zm_81 := rfl
theorem zp_82 : zP[82]? = some zm_82 := rfl
theorem zp_83 : zP[83]? = some zm_83 := rfl
theorem zp_84 : zP[84]? = some zm_84 := rfl
theorem zp_85 : zP[85]? = some zm_85 := rfl
theorem zp_86 : zP[86]? = some zm_86 := rfl
theorem zp_87 : zP[87]? = some zm_87 := rfl
theorem zp_88 : zP[88]? = some zm_88 := rfl
theorem zp_89 : zP[89]? = some zm_89 := rfl
theorem zp_90 : zP[90]? = some zm_90 := rfl
theorem zp_91 : zP[91]? = some zm_91 := rfl
theorem zp_92 : zP[92]? = some zm_92 := rfl
theorem zp_93 : zP[93]? = some zm_93 := rfl
theorem zp_94 : zP[94]? = some zm_94 := rfl
theorem zp_95 : zP[95]? = some zm_95 := rfl
theorem zp_96 : zP[96]? = some zm_96 := rfl
theorem zp_97 : zP[97]? = some zm_97 := rfl
theorem zp_98 : zP[98]? = some zm_98 := rfl
theorem zp_99 : zP[99]? = some zm_99 := rfl
theorem zp_100 : zP[100]? = some zm_100 := rfl
theorem zp_101 : zP[101]? = some zm_101 := rfl
theorem zp_102 : zP[102]? = some zm_102 := rfl
theorem zp_103 : zP[103]? = some zm_103 := rfl
theorem zp_104 : zP[104]? = some zm_104 := rfl
theorem zp_105 : zP[105]? = some zm_105 := rfl
theorem zp_106 : zP[106]? = some zm_106 := rfl
theorem zp_107 : zP[107]? = some zm_107 := rfl
theorem zp_108 : zP[108]? = some zm_108 := rfl
theorem zp_109 : zP[109]? = some zm_109 := rfl
theorem zp_110 : zP[110]? = some zm_110 := rfl
theorem zp_111 : zP[111]? = some zm_111 := rfl
theorem zp_112 : zP[112]? = some zm_112 := rfl
theorem zp_113 : zP[113]? = some zm_113 := rfl
theorem zp_114 : zP[114]? = some zm_114 := rfl
theorem zp_115 : zP[115]? = some zm_115 := rfl
theorem zp_116 : zP[116]? = some zm_116 := rfl
theorem zp_117 : zP[117]? = some zm_117 := rfl
theorem zp_118 : zP[118]? = some zm_118 := rfl
theorem zp_119 : zP[119]? = some zm_119 := rfl
theorem zp_120 : zP[120]? = some zm_120 := rfl
theorem zp_121 : zP[121]? = some zm_121 := rfl
theorem zp_122 : zP[122]? = some zm_122 := rfl
theorem zp_123 : zP[123]? = some zm_123 := rfl
theorem zp_124 : zP[124]? = some zm_124 := rfl
theorem zp_125 : zP[125]? = some zm_125 := rfl
theorem zp_126 : zP[126]? = some zm_126 := rfl
theorem zp_127 : zP[127]? = some zm_127 := rfl
theorem zp_128 : zP[128]? = some zm_128 := rfl
theorem zp_129 : zP[129]? = some zm_129 := rfl
theorem zp_130 : zP[130]? = some zm_130 := rfl
theorem zp_131 : zP[131]? = some zm_131 := rfl
theorem zp_132 : zP[132]? = some zm_132 := rfl
theorem zp_133 : zP[133]? = some zm_133 := rfl
theorem zp_134 : zP[134]? = some zm_134 := rfl
theorem zp_135 : zP[135]? = some zm_135 := rfl
theorem zp_136 : zP[136]? = some zm_136 := rfl
theorem zp_137 : zP[137]? = some zm_137 := rfl
theorem zp_138 : zP[138]? = some zm_138 := rfl
theorem zp_139 : zP[139]? = some zm_139 := rfl
theorem zp_140 : zP[140]? = some zm_140 := rfl
theorem zp_141 : zP[141]? = some zm_141 := rfl
theorem zp_142 : zP[142]? = some zm_142 := rfl
theorem zp_143 : zP[143]? = some zm_143 := rfl
theorem zp_144 : zP[144]? = some zm_144 := rfl
theorem zp_145 : zP[145]? = some zm_145 := rfl
theorem zp_146 : zP[146]? = some zm_146 := rfl
theorem zp_147 : zP[147]? = some zm_147 := rfl
theorem zp_148 : zP[148]? = some zm_148 := rfl
theorem zp_149 : zP[149]? = some zm_149 := rfl
theorem zp_150 : zP[150]? = some zm_150 := rfl
theorem zp_151 : zP[151]? = some zm_151 := rfl
theorem zp_152 : zP[152]? = some zm_152 := rfl
theorem zp_153 : zP[153]? = some zm_153 := rfl
theorem zp_154 : zP[154]? = some zm_154 := rfl
theorem zp_155 : zP[155]? = some zm_155 := rfl
theorem zp_156 : zP[156]? = some zm_156 := rfl
theorem zp_157 : zP[157]? = some zm_157 := rfl
theorem zp_158 : zP[158]? = some zm_158 := rfl
theorem zp_159 : zP[159]? = some zm_159 := rfl
theorem zp_160 : zP[160]? = some zm_160 := rfl
theorem zp_161 : zP[161]? = some zm_161 := rfl
theorem zp_162 : zP[162]? = some zm_162 := rfl
theorem zp_163 : zP[163]? = some zm_163 := rfl
theorem zp_164 : zP[164]? = some zm_164 := rfl
theorem zp_165 : zP[165]? = some zm_165 := rfl
theorem zp_166 : zP[166]? = some zm_166 := rfl
theorem zp_167 : zP[167]? = some zm_167 := rfl
theorem zp_168 : zP[168]? = some zm_168 := rfl
theorem zp_169 : zP[169]? = some zm_169 := rfl
theorem zp_170 : zP[170]? = some zm_170 := rfl
theorem zp_171 : zP[171]? = some zm_171 := rfl
theorem zp_172 : zP[172]? = some zm_172 := rfl
theorem zp_173 : zP[173]? = some zm_173 := rfl
theorem zp_174 : zP[174]? = some zm_174 := rfl
theorem zp_175 : zP[175]? = some zm_175 := rfl
theorem zp_176 : zP[176]? = some zm_176 := rfl
theorem zp_177 : zP[177]? = some zm_177 := rfl
theorem zp_178 : zP[178]? = some zm_178 := rfl
theorem zp_179 : zP[179]? = some zm_179 := rfl
theorem zp_180 : zP[180]? = some zm_180 := rfl
theorem zp_181 : zP[181]? = some zm_181 := rfl
theorem zp_182 : zP[182]? = some zm_182 := rfl
theorem zp_183 : zP[183]? = some zm_183 := rfl
theorem zp_184 : zP[184]? = some zm_184 := rfl
theorem zp_185 : zP[185]? = some zm_185 := rfl
theorem zp_186 : zP[186]? = some zm_186 := rfl
theorem zp_187 : zP[187]? = some zm_187 := rfl
theorem zp_188 : zP[188]? = some zm_188 := rfl
theorem zp_189 : zP[189]? = some zm_189 := rfl
theorem zp_190 : zP[190]? = some zm_190 := rfl
theorem zp_191 : zP[191]? = some zm_191 := rfl
theorem zp_192 : zP[192]? = some zm_192 := rfl
theorem zp_193 : zP[193]? = some zm_193 := rfl
theorem zp_194 : zP[194]? = some zm_194 := rfl
theorem zp_195 : zP[195]? = some zm_195 := rfl
theorem zp_196 : zP[196]? = some zm_196 := rfl
theorem zp_197 : zP[197]? = some zm_197 := rfl
theorem zp_198 : zP[198]? = some zm_198 := rfl
theorem zp_199 : zP[199]? = some zm_199 := rfl
theorem zp_200 : zP[200]? = some zm_200 := rfl
theorem zp_201 : zP[201]? = some zm_201 := rfl
theorem zp_202 : zP[202]? = some zm_202 := rfl
theorem zp_203 : zP[203]? = some zm_203 := rfl
theorem zp_204 : zP[204]? = some zm_204 := rfl
theorem zp_205 : zP[205]? = some zm_205 := rfl
theorem zp_206 : zP[206]? = some zm_206 := rfl
theorem zp_207 : zP[207]? = some zm_207 := rfl
theorem zp_208 : zP[208]? = some zm_208 := rfl
theorem zp_209 : zP[209]? = some zm_209 := rfl
theorem zp_210 : zP[210]? = some zm_210 := rfl
theorem zp_211 : zP[211]? = some zm_211 := rfl
theorem zp_212 : zP[212]? = some zm_212 := rfl
theorem zp_213 : zP[213]? = some zm_213 := rfl
theorem zp_214 : zP[214]? = some zm_214 := rfl
theorem zp_215 : zP[215]? = some zm_215 := rfl
theorem zp_216 : zP[216]? = some zm_216 := rfl
theorem zp_217 : zP[217]? = some zm_217 := rfl
theorem zp_218 : zP[218]? = some zm_218 := rfl
theorem zp_219 : zP[219]? = some zm_219 := rfl
theorem zp_220 : zP[220]? = some zm_220 := rfl
theorem zp_221 : zP[221]? = some zm_221 := rfl
theorem kdm1000000 : (-1000000 : Int32).toInt = (-1000000) := by decide
theorem kcm20 : (Int32.ofInt (-20)).toInt = (-20) := by decide
theorem kcm1 : (Int32.ofInt (-1)).toInt = (-1) := by decide
theorem kc_0 : (Int32.ofInt 0).toInt = 0 := by decide
theorem kc_1 : (Int32.ofInt 1).toInt = 1 := by decide
theorem kc_2 : (Int32.ofInt 2).toInt = 2 := by decide
theorem kc_3 : (Int32.ofInt 3).toInt = 3 := by decide
theorem kc_4 : (Int32.ofInt 4).toInt = 4 := by decide
theorem kc_5 : (Int32.ofInt 5).toInt = 5 := by decide
theorem kc_6 : (Int32.ofInt 6).toInt = 6 := by decide
theorem kc_8 : (Int32.ofInt 8).toInt = 8 := by decide
theorem kc_10 : (Int32.ofInt 10).toInt = 10 := by decide
theorem kc_12 : (Int32.ofInt 12).toInt = 12 := by decide
theorem kc_15 : (Int32.ofInt 15).toInt = 15 := by decide
theorem kc_16 : (Int32.ofInt 16).toInt = 16 := by decide
theorem kc_20 : (Int32.ofInt 20).toInt = 20 := by decide
theorem kc_24 : (Int32.ofInt 24).toInt = 24 := by decide
theorem kc_40 : (Int32.ofInt 40).toInt = 40 := by decide
theorem kc_48 : (Int32.ofInt 48).toInt = 48 := by decide
theorem kc_57 : (Int32.ofInt 57).toInt = 57 := by decide
theorem kc_58 : (Int32.ofInt 58).toInt = 58 := by decide
theorem kc_59 : (Int32.ofInt 59).toInt = 59 := by decide
theorem kc_60 : (Int32.ofInt 60).toInt = 60 := by decide
theorem kc_61 : (Int32.ofInt 61).toInt = 61 := by decide
theorem kc_62 : (Int32.ofInt 62).toInt = 62 := by decide
theorem kc_100 : (Int32.ofInt 100).toInt = 100 := by decide
theorem kc_120 : (Int32.ofInt 120).toInt = 120 := by decide
theorem kc_255 : (Int32.ofInt 255).toInt = 255 := by decide
theorem kc_999 : (Int32.ofInt 999).toInt = 999 := by decide
theorem kc_1426 : (Int32.ofInt 1426).toInt = 1426 := by decide
theorem kd_32768 : (32768 : Int32).toInt = 32768 := by decide
theorem kd_999999 : (999999 : Int32).toInt = 999999 := by decide
