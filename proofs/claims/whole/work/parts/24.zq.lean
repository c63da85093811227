/-! Each method by its number. By program. -/
set_option maxRecDepth 20000 in
theorem zq_0 : zprog[0]? = some zm_0 := rfl
set_option maxRecDepth 20000 in
theorem zq_1 : zprog[1]? = some zm_1 := rfl
set_option maxRecDepth 20000 in
theorem zq_2 : zprog[2]? = some zm_2 := rfl
set_option maxRecDepth 20000 in
theorem zq_3 : zprog[3]? = some zm_3 := rfl
set_option maxRecDepth 20000 in
theorem zq_4 : zprog[4]? = some zm_4 := rfl
set_option maxRecDepth 20000 in
theorem zq_5 : zprog[5]? = some zm_5 := rfl
set_option maxRecDepth 20000 in
theorem zq_6 : zprog[6]? = some zm_6 := rfl
set_option maxRecDepth 20000 in
theorem zq_7 : zprog[7]? = some zm_7 := rfl
set_option maxRecDepth 20000 in
theorem zq_8 : zprog[8]? = some zm_8 := rfl
set_option maxRecDepth 20000 in
theorem zq_9 : zprog[9]? = some zm_9 := rfl
set_option maxRecDepth 20000 in
theorem zq_10 : zprog[10]? = some zm_10 := rfl
set_option maxRecDepth 20000 in
theorem zq_11 : zprog[11]? = some zm_11 := rfl
set_option maxRecDepth 20000 in
theorem zq_12 : zprog[12]? = some zm_12 := rfl
set_option maxRecDepth 20000 in
theorem zq_13 : zprog[13]? = some zm_13 := rfl
set_option maxRecDepth 20000 in
theorem zq_14 : zprog[14]? = some zm_14 := rfl
set_option maxRecDepth 20000 in
theorem zq_15 : zprog[15]? = some zm_15 := rfl
set_option maxRecDepth 20000 in
theorem zq_16 : zprog[16]? = some zm_16 := rfl
set_option maxRecDepth 20000 in
theorem zq_17 : zprog[17]? = some zm_17 := rfl
set_option maxRecDepth 20000 in
theorem zq_18 : zprog[18]? = some zm_18 := rfl
set_option maxRecDepth 20000 in
theorem zq_19 : zprog[19]? = some zm_19 := rfl
set_option maxRecDepth 20000 in
theorem zq_20 : zprog[20]? = some zm_20 := rfl
set_option maxRecDepth 20000 in
theorem zq_21 : zprog[21]? = some zm_21 := rfl
set_option maxRecDepth 20000 in
theorem zq_22 : zprog[22]? = some zm_22 := rfl
set_option maxRecDepth 20000 in
theorem zq_23 : zprog[23]? = some zm_23 := rfl
set_option maxRecDepth 20000 in
theorem zq_24 : zprog[24]? = some zm_24 := rfl
set_option maxRecDepth 20000 in
theorem zq_25 : zprog[25]? = some zm_25 := rfl
set_option maxRecDepth 20000 in
theorem zq_26 : zprog[26]? = some zm_26 := rfl
set_option maxRecDepth 20000 in
theorem zq_27 : zprog[27]? = some zm_27 := rfl
set_option maxRecDepth 20000 in
theorem zq_28 : zprog[28]? = some zm_28 := rfl
set_option maxRecDepth 20000 in
theorem zq_29 : zprog[29]? = some zm_29 := rfl
set_option maxRecDepth 20000 in
theorem zq_30 : zprog[30]? = some zm_30 := rfl
set_option maxRecDepth 20000 in
theorem zq_31 : zprog[31]? = some zm_31 := rfl
set_option maxRecDepth 20000 in
theorem zq_32 : zprog[32]? = some zm_32 := rfl
set_option maxRecDepth 20000 in
theorem zq_33 : zprog[33]? = some zm_33 := rfl
set_option maxRecDepth 20000 in
theorem zq_34 : zprog[34]? = some zm_34 := rfl
set_option maxRecDepth 20000 in
theorem zq_35 : zprog[35]? = some zm_35 := rfl
set_option maxRecDepth 20000 in
theorem zq_36 : zprog[36]? = some zm_36 := rfl
set_option maxRecDepth 20000 in
theorem zq_37 : zprog[37]? = some zm_37 := rfl
set_option maxRecDepth 20000 in
theorem zq_38 : zprog[38]? = some zm_38 := rfl
set_option maxRecDepth 20000 in
theorem zq_39 : zprog[39]? = some zm_39 := rfl
set_option maxRecDepth 20000 in
theorem zq_40 : zprog[40]? = some zm_40 := rfl
set_option maxRecDepth 20000 in
theorem zq_41 : zprog[41]? = some zm_41 := rfl
set_option maxRecDepth 20000 in
theorem zq_42 : zprog[42]? = some zm_42 := rfl
set_option maxRecDepth 20000 in
theorem zq_43 : zprog[43]? = some zm_43 := rfl
set_option maxRecDepth 20000 in
theorem zq_44 : zprog[44]? = some zm_44 := rfl
set_option maxRecDepth 20000 in
theorem zq_45 : zprog[45]? = some zm_45 := rfl
set_option maxRecDepth 20000 in
theorem zq_46 : zprog[46]? = some zm_46 := rfl
set_option maxRecDepth 20000 in
theorem zq_47 : zprog[47]? = some zm_47 := rfl
set_option maxRecDepth 20000 in
theorem zq_48 : zprog[48]? = some zm_48 := rfl
set_option maxRecDepth 20000 in
theorem zq_49 : zprog[49]? = some zm_49 := rfl
set_option maxRecDepth 20000 in
theorem zq_50 : zprog[50]? = some zm_50 := rfl
set_option maxRecDepth 20000 in
theorem zq_51 : zprog[51]? = some zm_51 := rfl
set_option maxRecDepth 20000 in
theorem zq_52 : zprog[52]? = some zm_52 := rfl
set_option maxRecDepth 20000 in
theorem zq_53 : zprog[53]? = some zm_53 := rfl
set_option maxRecDepth 20000 in
theorem zq_54 : zprog[54]? = some zm_54 := rfl
set_option maxRecDepth 20000 in
theorem zq_55 : zprog[55]? = some zm_55 := rfl
set_option maxRecDepth 20000 in
theorem zq_56 : zprog[56]? = some zm_56 := rfl
set_option maxRecDepth 20000 in
theorem zq_57 : zprog[57]? = some zm_57 := rfl
set_option maxRecDepth 20000 in
theorem zq_58 : zprog[58]? = some zm_58 := rfl
set_option maxRecDepth 20000 in
theorem zq_59 : zprog[59]? = some zm_59 := rfl
set_option maxRecDepth 20000 in
theorem zq_60 : zprog[60]? = some zm_60 := rfl
set_option maxRecDepth 20000 in
theorem zq_61 : zprog[61]? = some zm_61 := rfl
set_option maxRecDepth 20000 in
theorem zq_62 : zprog[62]? = some zm_62 := rfl
set_option maxRecDepth 20000 in
theorem zq_63 : zprog[63]? = some zm_63 := rfl
set_option maxRecDepth 20000 in
theorem zq_64 : zprog[64]? = some zm_64 := rfl
set_option maxRecDepth 20000 in
theorem zq_65 : zprog[65]? = some zm_65 := rfl
set_option maxRecDepth 20000 in
theorem zq_66 : zprog[66]? = some zm_66 := rfl
set_option maxRecDepth 20000 in
theorem zq_67 : zprog[67]? = some zm_67 := rfl
set_option maxRecDepth 20000 in
theorem zq_68 : zprog[68]? = some zm_68 := rfl
set_option maxRecDepth 20000 in
theorem zq_69 : zprog[69]? = some zm_69 := rfl
set_option maxRecDepth 20000 in
theorem zq_70 : zprog[70]? = some zm_70 := rfl
set_option maxRecDepth 20000 in
theorem zq_71 : zprog[71]? = some zm_71 := rfl
set_option maxRecDepth 20000 in
theorem zq_72 : zprog[72]? = some zm_72 := rfl
set_option maxRecDepth 20000 in
theorem zq_73 : zprog[73]? = some zm_73 := rfl
set_option maxRecDepth 20000 in
theorem zq_74 : zprog[74]? = some zm_74 := rfl
set_option maxRecDepth 20000 in
theorem zq_75 : zprog[75]? = some zm_75 := rfl
set_option maxRecDepth 20000 in
theorem zq_76 : zprog[76]? = some zm_76 := rfl
set_option maxRecDepth 20000 in
theorem zq_77 : zprog[77]? = some zm_77 := rfl
set_option maxRecDepth 20000 in
theorem zq_78 : zprog[78]? = some zm_78 := rfl
set_option maxRecDepth 20000 in
theorem zq_79 : zprog[79]? = some zm_79 := rfl
set_option maxRecDepth 20000 in
theorem zq_80 : zprog[80]? = some zm_80 := rfl
set_option maxRecDepth 20000 in
theorem zq_81 : zprog[81]? = some zm_81 := rfl
set_option maxRecDepth 20000 in
theorem zq_82 : zprog[82]? = some zm_82 := rfl
set_option maxRecDepth 20000 in
theorem zq_83 : zprog[83]? = some zm_83 := rfl
set_option maxRecDepth 20000 in
theorem zq_84 : zprog[84]? = some zm_84 := rfl
set_option maxRecDepth 20000 in
theorem zq_85 : zprog[85]? = some zm_85 := rfl
set_option maxRecDepth 20000 in
theorem zq_86 : zprog[86]? = some zm_86 := rfl
set_option maxRecDepth 20000 in
theorem zq_87 : zprog[87]? = some zm_87 := rfl
set_option maxRecDepth 20000 in
theorem zq_88 : zprog[88]? = some zm_88 := rfl
set_option maxRecDepth 20000 in
theorem zq_89 : zprog[89]? = some zm_89 := rfl
set_option maxRecDepth 20000 in
theorem zq_90 : zprog[90]? = some zm_90 := rfl
set_option maxRecDepth 20000 in
theorem zq_91 : zprog[91]? = some zm_91 := rfl
set_option maxRecDepth 20000 in
theorem zq_92 : zprog[92]? = some zm_92 := rfl
set_option maxRecDepth 20000 in
theorem zq_93 : zprog[93]? = some zm_93 := rfl
set_option maxRecDepth 20000 in
theorem zq_94 : zprog[94]? = some zm_94 := rfl
set_option maxRecDepth 20000 in
theorem zq_95 : zprog[95]? = some zm_95 := rfl
set_option maxRecDepth 20000 in
theorem zq_96 : zprog[96]? = some zm_96 := rfl
set_option maxRecDepth 20000 in
theorem zq_97 : zprog[97]? = some zm_97 := rfl
set_option maxRecDepth 20000 in
theorem zq_98 : zprog[98]? = some zm_98 := rfl
set_option maxRecDepth 20000 in
theorem zq_99 : zprog[99]? = some zm_99 := rfl
set_option maxRecDepth 20000 in
theorem zq_100 : zprog[100]? = some zm_100 := rfl
set_option maxRecDepth 20000 in
theorem zq_101 : zprog[101]? = some zm_101 := rfl
set_option maxRecDepth 20000 in
theorem zq_102 : zprog[102]? = some zm_102 := rfl
set_option maxRecDepth 20000 in
theorem zq_103 : zprog[103]? = some zm_103 := rfl
set_option maxRecDepth 20000 in
theorem zq_104 : zprog[104]? = some zm_104 := rfl
set_option maxRecDepth 20000 in
theorem zq_105 : zprog[105]? = some zm_105 := rfl
set_option maxRecDepth 20000 in
theorem zq_106 : zprog[106]? = some zm_106 := rfl
set_option maxRecDepth 20000 in
theorem zq_107 : zprog[107]? = some zm_107 := rfl
set_option maxRecDepth 20000 in
theorem zq_108 : zprog[108]? = some zm_108 := rfl
set_option maxRecDepth 20000 in
theorem zq_109 : zprog[109]? = some zm_109 := rfl
set_option maxRecDepth 20000 in
theorem zq_110 : zprog[110]? = some zm_110 := rfl
set_option maxRecDepth 20000 in
theorem zq_111 : zprog[111]? = some zm_111 := rfl
set_option maxRecDepth 20000 in
theorem zq_112 : zprog[112]? = some zm_112 := rfl
set_option maxRecDepth 20000 in
theorem zq_113 : zprog[113]? = some zm_113 := rfl
set_option maxRecDepth 20000 in
theorem zq_114 : zprog[114]? = some zm_114 := rfl
set_option maxRecDepth 20000 in
theorem zq_115 : zprog[115]? = some zm_115 := rfl
set_option maxRecDepth 20000 in
theorem zq_116 : zprog[116]? = some zm_116 := rfl
set_option maxRecDepth 20000 in
theorem zq_117 : zprog[117]? = some zm_117 := rfl
set_option maxRecDepth 20000 in
theorem zq_118 : zprog[118]? = some zm_118 := rfl
set_option maxRecDepth 20000 in
theorem zq_119 : zprog[119]? = some zm_119 := rfl
set_option maxRecDepth 20000 in
theorem zq_120 : zprog[120]? = some zm_120 := rfl
set_option maxRecDepth 20000 in
theorem zq_121 : zprog[121]? = some zm_121 := rfl
set_option maxRecDepth 20000 in
theorem zq_122 : zprog[122]? = some zm_122 := rfl
set_option maxRecDepth 20000 in
theorem zq_123 : zprog[123]? = some zm_123 := rfl
set_option maxRecDepth 20000 in
theorem zq_124 : zprog[124]? = some zm_124 := rfl
set_option maxRecDepth 20000 in
theorem zq_125 : zprog[125]? = some zm_125 := rfl
set_option maxRecDepth 20000 in
theorem zq_126 : zprog[126]? = some zm_126 := rfl
set_option maxRecDepth 20000 in
theorem zq_127 : zprog[127]? = some zm_127 := rfl
set_option maxRecDepth 20000 in
theorem zq_128 : zprog[128]? = some zm_128 := rfl
set_option maxRecDepth 20000 in
theorem zq_129 : zprog[129]? = some zm_129 := rfl
set_option maxRecDepth 20000 in
theorem zq_130 : zprog[130]? = some zm_130 := rfl
set_option maxRecDepth 20000 in
theorem zq_131 : zprog[131]? = some zm_131 := rfl
set_option maxRecDepth 20000 in
theorem zq_132 : zprog[132]? = some zm_132 := rfl
set_option maxRecDepth 20000 in
theorem zq_133 : zprog[133]? = some zm_133 := rfl
set_option maxRecDepth 20000 in
theorem zq_134 : zprog[134]? = some zm_134 := rfl
set_option maxRecDepth 20000 in
theorem zq_135 : zprog[135]? = some zm_135 := rfl
set_option maxRecDepth 20000 in
theorem zq_136 : zprog[136]? = some zm_136 := rfl
set_option maxRecDepth 20000 in
theorem zq_137 : zprog[137]? = some zm_137 := rfl
set_option maxRecDepth 20000 in
theorem zq_138 : zprog[138]? = some zm_138 := rfl
set_option maxRecDepth 20000 in
theorem zq_139 : zprog[139]? = some zm_139 := rfl
set_option maxRecDepth 20000 in
theorem zq_140 : zprog[140]? = some zm_140 := rfl
set_option maxRecDepth 20000 in
theorem zq_141 : zprog[141]? = some zm_141 := rfl
set_option maxRecDepth 20000 in
theorem zq_142 : zprog[142]? = some zm_142 := rfl
set_option maxRecDepth 20000 in
theorem zq_143 : zprog[143]? = some zm_143 := rfl
set_option maxRecDepth 20000 in
theorem zq_144 : zprog[144]? = some zm_144 := rfl
set_option maxRecDepth 20000 in
theorem zq_145 : zprog[145]? = some zm_145 := rfl
set_option maxRecDepth 20000 in
theorem zq_146 : zprog[146]? = some zm_146 := rfl
set_option maxRecDepth 20000 in
theorem zq_147 : zprog[147]? = some zm_147 := rfl
set_option maxRecDepth 20000 in
theorem zq_148 : zprog[148]? = some zm_148 := rfl
set_option maxRecDepth 20000 in
theorem zq_149 : zprog[149]? = some zm_149 := rfl
set_option maxRecDepth 20000 in
theorem zq_150 : zprog[150]? = some zm_150 := rfl
set_option maxRecDepth 20000 in
theorem zq_151 : zprog[151]? = some zm_151 := rfl
set_option maxRecDepth 20000 in
theorem zq_152 : zprog[152]? = some zm_152 := rfl
set_option maxRecDepth 20000 in
theorem zq_153 : zprog[153]? = some zm_153 := rfl
set_option maxRecDepth 20000 in
theorem zq_154 : zprog[154]? = some zm_154 := rfl
set_option maxRecDepth 20000 in
theorem zq_155 : zprog[155]? = some zm_155 := rfl
set_option maxRecDepth 20000 in
theorem zq_156 : zprog[156]? = some zm_156 := rfl
set_option maxRecDepth 20000 in
theorem zq_157 : zprog[157]? = some zm_157 := rfl
set_option maxRecDepth 20000 in
theorem zq_158 : zprog[158]? = some zm_158 := rfl
set_option maxRecDepth 20000 in
theorem zq_159 : zprog[159]? = some zm_159 := rfl
set_option maxRecDepth 20000 in
theorem zq_160 : zprog[160]? = some zm_160 := rfl
set_option maxRecDepth 20000 in
theorem zq_161 : zprog[161]? = some zm_161 := rfl
set_option maxRecDepth 20000 in
theorem zq_162 : zprog[162]? = some zm_162 := rfl
set_option maxRecDepth 20000 in
theorem zq_163 : zprog[163]? = some zm_163 := rfl
set_option maxRecDepth 20000 in
theorem zq_164 : zprog[164]? = some zm_164 := rfl
set_option maxRecDepth 20000 in
theorem zq_165 : zprog[165]? = some zm_165 := rfl
set_option maxRecDepth 20000 in
theorem zq_166 : zprog[166]? = some zm_166 := rfl
set_option maxRecDepth 20000 in
theorem zq_167 : zprog[167]? = some zm_167 := rfl
set_option maxRecDepth 20000 in
theorem zq_168 : zprog[168]? = some zm_168 := rfl
set_option maxRecDepth 20000 in
theorem zq_169 : zprog[169]? = some zm_169 := rfl
set_option maxRecDepth 20000 in
theorem zq_170 : zprog[170]? = some zm_170 := rfl
set_option maxRecDepth 20000 in
theorem zq_171 : zprog[171]? = some zm_171 := rfl
set_option maxRecDepth 20000 in
theorem zq_172 : zprog[172]? = some zm_172 := rfl
set_option maxRecDepth 20000 in
theorem zq_173 : zprog[173]? = some zm_173 := rfl
set_option maxRecDepth 20000 in
theorem zq_174 : zprog[174]? = some zm_174 := rfl
set_option maxRecDepth 20000 in
theorem zq_175 : zprog[175]? = some zm_175 := rfl
set_option maxRecDepth 20000 in
theorem zq_176 : zprog[176]? = some zm_176 := rfl
set_option maxRecDepth 20000 in
theorem zq_177 : zprog[177]? = some zm_177 := rfl
set_option maxRecDepth 20000 in
theorem zq_178 : zprog[178]? = some zm_178 := rfl
set_option maxRecDepth 20000 in
theorem zq_179 : zprog[179]? = some zm_179 := rfl
set_option maxRecDepth 20000 in
theorem zq_180 : zprog[180]? = some zm_180 := rfl
set_option maxRecDepth 20000 in
theorem zq_181 : zprog[181]? = some zm_181 := rfl
set_option maxRecDepth 20000 in
theorem zq_182 : zprog[182]? = some zm_182 := rfl
set_option maxRecDepth 20000 in
theorem zq_183 : zprog[183]? = some zm_183 := rfl
set_option maxRecDepth 20000 in
theorem zq_184 : zprog[184]? = some zm_184 := rfl
set_option maxRecDepth 20000 in
theorem zq_185 : zprog[185]? = some zm_185 := rfl
set_option maxRecDepth 20000 in
theorem zq_186 : zprog[186]? = some zm_186 := rfl
set_option maxRecDepth 20000 in
theorem zq_187 : zprog[187]? = some zm_187 := rfl
set_option maxRecDepth 20000 in
theorem zq_188 : zprog[188]? = some zm_188 := rfl
set_option maxRecDepth 20000 in
theorem zq_189 : zprog[189]? = some zm_189 := rfl
set_option maxRecDepth 20000 in
theorem zq_190 : zprog[190]? = some zm_190 := rfl
set_option maxRecDepth 20000 in
theorem zq_191 : zprog[191]? = some zm_191 := rfl
set_option maxRecDepth 20000 in
theorem zq_192 : zprog[192]? = some zm_192 := rfl
set_option maxRecDepth 20000 in
theorem zq_193 : zprog[193]? = some zm_193 := rfl
set_option maxRecDepth 20000 in
theorem zq_194 : zprog[194]? = some zm_194 := rfl
set_option maxRecDepth 20000 in
theorem zq_195 : zprog[195]? = some zm_195 := rfl
set_option maxRecDepth 20000 in
theorem zq_196 : zprog[196]? = some zm_196 := rfl
set_option maxRecDepth 20000 in
theorem zq_197 : zprog[197]? = some zm_197 := rfl
set_option maxRecDepth 20000 in
theorem zq_198 : zprog[198]? = some zm_198 := rfl
set_option maxRecDepth 20000 in
theorem zq_199 : zprog[199]? = some zm_199 := rfl
set_option maxRecDepth 20000 in
theorem zq_200 : zprog[200]? = some zm_200 := rfl
set_option maxRecDepth 20000 in
theorem zq_201 : zprog[201]? = some zm_201 := rfl
set_option maxRecDepth 20000 in
theorem zq_202 : zprog[202]? = some zm_202 := rfl
set_option maxRecDepth 20000 in
theorem zq_203 : zprog[203]? = some zm_203 := rfl
set_option maxRecDepth 20000 in
theorem zq_204 : zprog[204]? = some zm_204 := rfl
set_option maxRecDepth 20000 in
theorem zq_205 : zprog[205]? = some zm_205 := rfl
set_option maxRecDepth 20000 in
theorem zq_206 : zprog[206]? = some zm_206 := rfl
set_option maxRecDepth 20000 in
theorem zq_207 : zprog[207]? = some zm_207 := rfl
set_option maxRecDepth 20000 in
theorem zq_208 : zprog[208]? = some zm_208 := rfl
set_option maxRecDepth 20000 in
theorem zq_209 : zprog[209]? = some zm_209 := rfl
set_option maxRecDepth 20000 in
theorem zq_210 : zprog[210]? = some zm_210 := rfl
set_option maxRecDepth 20000 in
theorem zq_211 : zprog[211]? = some zm_211 := rfl
set_option maxRecDepth 20000 in
theorem zq_212 : zprog[212]? = some zm_212 := rfl
set_option maxRecDepth 20000 in
theorem zq_213 : zprog[213]? = some zm_213 := rfl
set_option maxRecDepth 20000 in
theorem zq_214 : zprog[214]? = some zm_214 := rfl
set_option maxRecDepth 20000 in
theorem zq_215 : zprog[215]? = some zm_215 := rfl
set_option maxRecDepth 20000 in
theorem zq_216 : zprog[216]? = some zm_216 := rfl
set_option maxRecDepth 20000 in
theorem zq_217 : zprog[217]? = some zm_217 := rfl
set_option maxRecDepth 20000 in
theorem zq_218 : zprog[218]? = some zm_218 := rfl
set_option maxRecDepth 20000 in
theorem zq_219 : zprog[219]? = some zm_219 := rfl
set_option maxRecDepth 20000 in
theorem zq_220 : zprog[220]? = some zm_220 := rfl
set_option maxRecDepth 20000 in
theorem zq_221 : zprog[221]? = some zm_221 := rfl
set_option maxRecDepth 20000 in
theorem zq_222 : zprog[222]? = some zm_222 := rfl
set_option maxRecDepth 20000 in
theorem zq_223 : zprog[223]? = some zm_223 := rfl
set_option maxRecDepth 20000 in
theorem zq_224 : zprog[224]? = some zm_224 := rfl
set_option maxRecDepth 20000 in
theorem zq_225 : zprog[225]? = some zm_225 := rfl
set_option maxRecDepth 20000 in
theorem zq_226 : zprog[226]? = some zm_226 := rfl
set_option maxRecDepth 20000 in
theorem zq_227 : zprog[227]? = some zm_227 := rfl
set_option maxRecDepth 20000 in
theorem zq_228 : zprog[228]? = some zm_228 := rfl
set_option maxRecDepth 20000 in
theorem zq_229 : zprog[229]? = some zm_229 := rfl
set_option maxRecDepth 20000 in
theorem zq_230 : zprog[230]? = some zm_230 := rfl
set_option maxRecDepth 20000 in
theorem zq_231 : zprog[231]? = some zm_231 := rfl
set_option maxRecDepth 20000 in
theorem zq_232 : zprog[232]? = some zm_232 := rfl
set_option maxRecDepth 20000 in
theorem zq_233 : zprog[233]? = some zm_233 := rfl
set_option maxRecDepth 20000 in
theorem zq_234 : zprog[234]? = some zm_234 := rfl
set_option maxRecDepth 20000 in
theorem zq_235 : zprog[235]? = some zm_235 := rfl
set_option maxRecDepth 20000 in
theorem zq_236 : zprog[236]? = some zm_236 := rfl
set_option maxRecDepth 20000 in
theorem zq_237 : zprog[237]? = some zm_237 := rfl
set_option maxRecDepth 20000 in
theorem zq_238 : zprog[238]? = some zm_238 := rfl
set_option maxRecDepth 20000 in
theorem zq_239 : zprog[239]? = some zm_239 := rfl
set_option maxRecDepth 20000 in
theorem zq_240 : zprog[240]? = some zm_240 := rfl
set_option maxRecDepth 20000 in
theorem zq_241 : zprog[241]? = some zm_241 := rfl
set_option maxRecDepth 20000 in
theorem zq_242 : zprog[242]? = some zm_242 := rfl
set_option maxRecDepth 20000 in
theorem zq_243 : zprog[243]? = some zm_243 := rfl
set_option maxRecDepth 20000 in
theorem zq_244 : zprog[244]? = some zm_244 := rfl
set_option maxRecDepth 20000 in
theorem zq_245 : zprog[245]? = some zm_245 := rfl
set_option maxRecDepth 20000 in
theorem zq_246 : zprog[246]? = some zm_246 := rfl
set_option maxRecDepth 20000 in
theorem zq_247 : zprog[247]? = some zm_247 := rfl
set_option maxRecDepth 20000 in
theorem zq_248 : zprog[248]? = some zm_248 := rfl
set_option maxRecDepth 20000 in
theorem zq_249 : zprog[249]? = some zm_249 := rfl
set_option maxRecDepth 20000 in
theorem zq_250 : zprog[250]? = some zm_250 := rfl
set_option maxRecDepth 20000 in
theorem zq_251 : zprog[251]? = some zm_251 := rfl
set_option maxRecDepth 20000 in
theorem zq_252 : zprog[252]? = some zm_252 := rfl
set_option maxRecDepth 20000 in
theorem zq_253 : zprog[253]? = some zm_253 := rfl
set_option maxRecDepth 20000 in
theorem zq_254 : zprog[254]? = some zm_254 := rfl
set_option maxRecDepth 20000 in
theorem zq_255 : zprog[255]? = some zm_255 := rfl
set_option maxRecDepth 20000 in
theorem zq_256 : zprog[256]? = some zm_256 := rfl
set_option maxRecDepth 20000 in
theorem zq_257 : zprog[257]? = some zm_257 := rfl
set_option maxRecDepth 20000 in
theorem zq_258 : zprog[258]? = some zm_258 := rfl
set_option maxRecDepth 20000 in
theorem zq_259 : zprog[259]? = some zm_259 := rfl
set_option maxRecDepth 20000 in
theorem zq_260 : zprog[260]? = some zm_260 := rfl
set_option maxRecDepth 20000 in
theorem zq_261 : zprog[261]? = some zm_261 := rfl
set_option maxRecDepth 20000 in
theorem zq_262 : zprog[262]? = some zm_262 := rfl
set_option maxRecDepth 20000 in
theorem zq_263 : zprog[263]? = some zm_263 := rfl
set_option maxRecDepth 20000 in
theorem zq_264 : zprog[264]? = some zm_264 := rfl
set_option maxRecDepth 20000 in
theorem zq_265 : zprog[265]? = some zm_265 := rfl
set_option maxRecDepth 20000 in
theorem zq_266 : zprog[266]? = some zm_266 := rfl
set_option maxRecDepth 20000 in
theorem zq_267 : zprog[267]? = some zm_267 := rfl
set_option maxRecDepth 20000 in
theorem zq_268 : zprog[268]? = some zm_268 := rfl
set_option maxRecDepth 20000 in
theorem zq_269 : zprog[269]? = some zm_269 := rfl
set_option maxRecDepth 20000 in
theorem zq_270 : zprog[270]? = some zm_270 := rfl
set_option maxRecDepth 20000 in
theorem zq_271 : zprog[271]? = some zm_271 := rfl
set_option maxRecDepth 20000 in
theorem zq_272 : zprog[272]? = some zm_272 := rfl
set_option maxRecDepth 20000 in
theorem zq_273 : zprog[273]? = some zm_273 := rfl
set_option maxRecDepth 20000 in
theorem zq_274 : zprog[274]? = some zm_274 := rfl
set_option maxRecDepth 20000 in
theorem zq_275 : zprog[275]? = some zm_275 := rfl
set_option maxRecDepth 20000 in
theorem zq_276 : zprog[276]? = some zm_276 := rfl
set_option maxRecDepth 20000 in
theorem zq_277 : zprog[277]? = some zm_277 := rfl
set_option maxRecDepth 20000 in
theorem zq_278 : zprog[278]? = some zm_278 := rfl
set_option maxRecDepth 20000 in
theorem zq_279 : zprog[279]? = some zm_279 := rfl
set_option maxRecDepth 20000 in
theorem zq_280 : zprog[280]? = some zm_280 := rfl
set_option maxRecDepth 20000 in
theorem zq_281 : zprog[281]? = some zm_281 := rfl
set_option maxRecDepth 20000 in
theorem zq_282 : zprog[282]? = some zm_282 := rfl
set_option maxRecDepth 20000 in
theorem zq_283 : zprog[283]? = some zm_283 := rfl
set_option maxRecDepth 20000 in
theorem zq_284 : zprog[284]? = some zm_284 := rfl
set_option maxRecDepth 20000 in
theorem zq_285 : zprog[285]? = some zm_285 := rfl
set_option maxRecDepth 20000 in
theorem zq_286 : zprog[286]? = some zm_286 := rfl
set_option maxRecDepth 20000 in
theorem zq_287 : zprog[287]? = some zm_287 := rfl
set_option maxRecDepth 20000 in
theorem zq_288 : zprog[288]? = some zm_288 := rfl
set_option maxRecDepth 20000 in
theorem zq_289 : zprog[289]? = some zm_289 := rfl
set_option maxRecDepth 20000 in
theorem zq_290 : zprog[290]? = some zm_290 := rfl
set_option maxRecDepth 20000 in
theorem zq_291 : zprog[291]? = some zm_291 := rfl
set_option maxRecDepth 20000 in
theorem zq_292 : zprog[292]? = some zm_292 := rfl
set_option maxRecDepth 20000 in
theorem zq_293 : zprog[293]? = some zm_293 := rfl
set_option maxRecDepth 20000 in
theorem zq_294 : zprog[294]? = some zm_294 := rfl
set_option maxRecDepth 20000 in
theorem zq_295 : zprog[295]? = some zm_295 := rfl
set_option maxRecDepth 20000 in
theorem zq_296 : zprog[296]? = some zm_296 := rfl
set_option maxRecDepth 20000 in
theorem zq_297 : zprog[297]? = some zm_297 := rfl
set_option maxRecDepth 20000 in
theorem zq_298 : zprog[298]? = some zm_298 := rfl
set_option maxRecDepth 20000 in
theorem zq_299 : zprog[299]? = some zm_299 := rfl
set_option maxRecDepth 20000 in
theorem zq_300 : zprog[300]? = some zm_300 := rfl
set_option maxRecDepth 20000 in
theorem zq_301 : zprog[301]? = some zm_301 := rfl
set_option maxRecDepth 20000 in
theorem zq_302 : zprog[302]? = some zm_302 := rfl
set_option maxRecDepth 20000 in
theorem zq_303 : zprog[303]? = some zm_303 := rfl
set_option maxRecDepth 20000 in
theorem zq_304 : zprog[304]? = some zm_304 := rfl
set_option maxRecDepth 20000 in
theorem zq_305 : zprog[305]? = some zm_305 := rfl
set_option maxRecDepth 20000 in
theorem zq_306 : zprog[306]? = some zm_306 := rfl
set_option maxRecDepth 20000 in
theorem zq_307 : zprog[307]? = some zm_307 := rfl
set_option maxRecDepth 20000 in
theorem zq_308 : zprog[308]? = some zm_308 := rfl
set_option maxRecDepth 20000 in
theorem zq_309 : zprog[309]? = some zm_309 := rfl
set_option maxRecDepth 20000 in
theorem zq_310 : zprog[310]? = some zm_310 := rfl
set_option maxRecDepth 20000 in
theorem zq_311 : zprog[311]? = some zm_311 := rfl
set_option maxRecDepth 20000 in
theorem zq_312 : zprog[312]? = some zm_312 := rfl
set_option maxRecDepth 20000 in
theorem zq_313 : zprog[313]? = some zm_313 := rfl
set_option maxRecDepth 20000 in
theorem zq_314 : zprog[314]? = some zm_314 := rfl
set_option maxRecDepth 20000 in
theorem zq_315 : zprog[315]? = some zm_315 := rfl
set_option maxRecDepth 20000 in
theorem zq_316 : zprog[316]? = some zm_316 := rfl
set_option maxRecDepth 20000 in
theorem zq_317 : zprog[317]? = some zm_317 := rfl
set_option maxRecDepth 20000 in
theorem zq_318 : zprog[318]? = some zm_318 := rfl
set_option maxRecDepth 20000 in
theorem zq_319 : zprog[319]? = some zm_319 := rfl
set_option maxRecDepth 20000 in
theorem zq_320 : zprog[320]? = some zm_320 := rfl
set_option maxRecDepth 20000 in
theorem zq_321 : zprog[321]? = some zm_321 := rfl
set_option maxRecDepth 20000 in
theorem zq_322 : zprog[322]? = some zm_322 := rfl
set_option maxRecDepth 20000 in
theorem zq_323 : zprog[323]? = some zm_323 := rfl
set_option maxRecDepth 20000 in
theorem zq_324 : zprog[324]? = some zm_324 := rfl
set_option maxRecDepth 20000 in
theorem zq_325 : zprog[325]? = some zm_325 := rfl
set_option maxRecDepth 20000 in
theorem zq_326 : zprog[326]? = some zm_326 := rfl
set_option maxRecDepth 20000 in
theorem zq_327 : zprog[327]? = some zm_327 := rfl
set_option maxRecDepth 20000 in
theorem zq_328 : zprog[328]? = some zm_328 := rfl
set_option maxRecDepth 20000 in
theorem zq_329 : zprog[329]? = some zm_329 := rfl
set_option maxRecDepth 20000 in
theorem zq_330 : zprog[330]? = some zm_330 := rfl
set_option maxRecDepth 20000 in
theorem zq_331 : zprog[331]? = some zm_331 := rfl
set_option maxRecDepth 20000 in
theorem zq_332 : zprog[332]? = some zm_332 := rfl
set_option maxRecDepth 20000 in
theorem zq_333 : zprog[333]? = some zm_333 := rfl
