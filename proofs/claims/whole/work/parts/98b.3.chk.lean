/-! Checks of the tables. -/
theorem zkk_130_0 : zk_130_0.all (zec zpool 11 "deedsOf" prog_12_method_12_code) = true := by decide +kernel
theorem zmk_130 : zmck zowns zpool zm_130 = true := zmck_of (by decide +kernel) (List.forall_mem_cons.mpr ⟨zkk_130_0, fun _ h => absurd h List.not_mem_nil⟩)
theorem zkk_131_0 : zk_131_0.all (zec zpool 11 "isKnownForMore" prog_12_method_13_code) = true := by decide +kernel
theorem zkk_131_1 : zk_131_1.all (zec zpool 11 "isKnownForMore" prog_12_method_13_code) = true := by decide +kernel
theorem zmk_131 : zmck zowns zpool zm_131 = true := zmck_of (by decide +kernel) (List.forall_mem_cons.mpr ⟨zkk_131_0, List.forall_mem_cons.mpr ⟨zkk_131_1, fun _ h => absurd h List.not_mem_nil⟩⟩)
theorem zkk_132_0 : zk_132_0.all (zec zpool 11 "runners" prog_12_method_14_code) = true := by decide +kernel
theorem zmk_132 : zmck zowns zpool zm_132 = true := zmck_of (by decide +kernel) (List.forall_mem_cons.mpr ⟨zkk_132_0, fun _ h => absurd h List.not_mem_nil⟩)
theorem zkk_133_0 : zk_133_0.all (zec zpool 11 "comeDay" prog_12_method_15_code) = true := by decide +kernel
theorem zmk_133 : zmck zowns zpool zm_133 = true := zmck_of (by decide +kernel) (List.forall_mem_cons.mpr ⟨zkk_133_0, fun _ h => absurd h List.not_mem_nil⟩)
theorem zkk_134_0 : zk_134_0.all (zec zpool 11 "tides" prog_12_method_16_code) = true := by decide +kernel
theorem zmk_134 : zmck zowns zpool zm_134 = true := zmck_of (by decide +kernel) (List.forall_mem_cons.mpr ⟨zkk_134_0, fun _ h => absurd h List.not_mem_nil⟩)
theorem zkk_135_0 : zk_135_0.all (zec zpool 11 "openVersion" prog_12_method_17_code) = true := by decide +kernel
theorem zmk_135 : zmck zowns zpool zm_135 = true := zmck_of (by decide +kernel) (List.forall_mem_cons.mpr ⟨zkk_135_0, fun _ h => absurd h List.not_mem_nil⟩)
theorem zkk_136_0 : zk_136_0.all (zec zpool 11 "enact" prog_12_method_18_code) = true := by decide +kernel
theorem zkk_136_1 : zk_136_1.all (zec zpool 11 "enact" prog_12_method_18_code) = true := by decide +kernel
theorem zmk_136 : zmck zowns zpool zm_136 = true := zmck_of (by decide +kernel) (List.forall_mem_cons.mpr ⟨zkk_136_0, List.forall_mem_cons.mpr ⟨zkk_136_1, fun _ h => absurd h List.not_mem_nil⟩⟩)
theorem zkk_137_0 : zk_137_0.all (zec zpool 11 "ring" prog_12_method_19_code) = true := by decide +kernel
theorem zmk_137 : zmck zowns zpool zm_137 = true := zmck_of (by decide +kernel) (List.forall_mem_cons.mpr ⟨zkk_137_0, fun _ h => absurd h List.not_mem_nil⟩)
theorem zkk_138_0 : zk_138_0.all (zec zpool 12 "<init>" prog_1_method_1_code) = true := by decide +kernel
theorem zkk_138_1 : zk_138_1.all (zec zpool 12 "<init>" prog_1_method_1_code) = true := by decide +kernel
theorem zmk_138 : zmck zowns zpool zm_138 = true := zmck_of (by decide +kernel) (List.forall_mem_cons.mpr ⟨zkk_138_0, List.forall_mem_cons.mpr ⟨zkk_138_1, fun _ h => absurd h List.not_mem_nil⟩⟩)
theorem zkk_139_0 : zk_139_0.all (zec zpool 12 "hours" prog_1_method_2_code) = true := by decide +kernel
theorem zmk_139 : zmck zowns zpool zm_139 = true := zmck_of (by decide +kernel) (List.forall_mem_cons.mpr ⟨zkk_139_0, fun _ h => absurd h List.not_mem_nil⟩)
theorem zkk_140_0 : zk_140_0.all (zec zpool 12 "ground" prog_1_method_3_code) = true := by decide +kernel
theorem zkk_140_1 : zk_140_1.all (zec zpool 12 "ground" prog_1_method_3_code) = true := by decide +kernel
theorem zmk_140 : zmck zowns zpool zm_140 = true := zmck_of (by decide +kernel) (List.forall_mem_cons.mpr ⟨zkk_140_0, List.forall_mem_cons.mpr ⟨zkk_140_1, fun _ h => absurd h List.not_mem_nil⟩⟩)
theorem zkk_141_0 : zk_141_0.all (zec zpool 12 "between" prog_1_method_4_code) = true := by decide +kernel
theorem zmk_141 : zmck zowns zpool zm_141 = true := zmck_of (by decide +kernel) (List.forall_mem_cons.mpr ⟨zkk_141_0, fun _ h => absurd h List.not_mem_nil⟩)
theorem zkk_142_0 : zk_142_0.all (zec zpool 12 "person" prog_1_method_5_code) = true := by decide +kernel
theorem zmk_142 : zmck zowns zpool zm_142 = true := zmck_of (by decide +kernel) (List.forall_mem_cons.mpr ⟨zkk_142_0, fun _ h => absurd h List.not_mem_nil⟩)
theorem zkk_143_0 : zk_143_0.all (zec zpool 12 "move" prog_1_method_6_code) = true := by decide +kernel
theorem zmk_143 : zmck zowns zpool zm_143 = true := zmck_of (by decide +kernel) (List.forall_mem_cons.mpr ⟨zkk_143_0, fun _ h => absurd h List.not_mem_nil⟩)
theorem zkk_144_0 : zk_144_0.all (zec zpool 12 "personOf" prog_1_method_7_code) = true := by decide +kernel
theorem zmk_144 : zmck zowns zpool zm_144 = true := zmck_of (by decide +kernel) (List.forall_mem_cons.mpr ⟨zkk_144_0, fun _ h => absurd h List.not_mem_nil⟩)
theorem zkk_145_0 : zk_145_0.all (zec zpool 12 "stone" prog_1_method_8_code) = true := by decide +kernel
theorem zkk_145_1 : zk_145_1.all (zec zpool 12 "stone" prog_1_method_8_code) = true := by decide +kernel
theorem zmk_145 : zmck zowns zpool zm_145 = true := zmck_of (by decide +kernel) (List.forall_mem_cons.mpr ⟨zkk_145_0, List.forall_mem_cons.mpr ⟨zkk_145_1, fun _ h => absurd h List.not_mem_nil⟩⟩)
theorem zkk_146_0 : zk_146_0.all (zec zpool 12 "within" prog_1_method_9_code) = true := by decide +kernel
theorem zmk_146 : zmck zowns zpool zm_146 = true := zmck_of (by decide +kernel) (List.forall_mem_cons.mpr ⟨zkk_146_0, fun _ h => absurd h List.not_mem_nil⟩)
theorem zkk_147_0 : zk_147_0.all (zec zpool 12 "degree" prog_1_method_10_code) = true := by decide +kernel
theorem zmk_147 : zmck zowns zpool zm_147 = true := zmck_of (by decide +kernel) (List.forall_mem_cons.mpr ⟨zkk_147_0, fun _ h => absurd h List.not_mem_nil⟩)
theorem zkk_148_0 : zk_148_0.all (zec zpool 12 "feed" prog_1_method_11_code) = true := by decide +kernel
theorem zmk_148 : zmck zowns zpool zm_148 = true := zmck_of (by decide +kernel) (List.forall_mem_cons.mpr ⟨zkk_148_0, fun _ h => absurd h List.not_mem_nil⟩)
theorem zkk_149_0 : zk_149_0.all (zec zpool 12 "read" prog_1_method_12_code) = true := by decide +kernel
theorem zmk_149 : zmck zowns zpool zm_149 = true := zmck_of (by decide +kernel) (List.forall_mem_cons.mpr ⟨zkk_149_0, fun _ h => absurd h List.not_mem_nil⟩)
theorem zkk_150_0 : zk_150_0.all (zec zpool 12 "strike" prog_1_method_13_code) = true := by decide +kernel
theorem zmk_150 : zmck zowns zpool zm_150 = true := zmck_of (by decide +kernel) (List.forall_mem_cons.mpr ⟨zkk_150_0, fun _ h => absurd h List.not_mem_nil⟩)
theorem zkk_151_0 : zk_151_0.all (zec zpool 12 "version" prog_1_method_14_code) = true := by decide +kernel
theorem zkk_151_1 : zk_151_1.all (zec zpool 12 "version" prog_1_method_14_code) = true := by decide +kernel
theorem zmk_151 : zmck zowns zpool zm_151 = true := zmck_of (by decide +kernel) (List.forall_mem_cons.mpr ⟨zkk_151_0, List.forall_mem_cons.mpr ⟨zkk_151_1, fun _ h => absurd h List.not_mem_nil⟩⟩)
theorem zkk_152_0 : zk_152_0.all (zec zpool 12 "rule" prog_1_method_15_code) = true := by decide +kernel
theorem zmk_152 : zmck zowns zpool zm_152 = true := zmck_of (by decide +kernel) (List.forall_mem_cons.mpr ⟨zkk_152_0, fun _ h => absurd h List.not_mem_nil⟩)
theorem zkk_153_0 : zk_153_0.all (zec zpool 12 "deed" prog_1_method_16_code) = true := by decide +kernel
theorem zkk_153_1 : zk_153_1.all (zec zpool 12 "deed" prog_1_method_16_code) = true := by decide +kernel
theorem zkk_153_2 : zk_153_2.all (zec zpool 12 "deed" prog_1_method_16_code) = true := by decide +kernel
theorem zmk_153 : zmck zowns zpool zm_153 = true := zmck_of (by decide +kernel) (List.forall_mem_cons.mpr ⟨zkk_153_0, List.forall_mem_cons.mpr ⟨zkk_153_1, List.forall_mem_cons.mpr ⟨zkk_153_2, fun _ h => absurd h List.not_mem_nil⟩⟩⟩)
theorem zkk_154_0 : zk_154_0.all (zec zpool 12 "counts" prog_1_method_17_code) = true := by decide +kernel
theorem zmk_154 : zmck zowns zpool zm_154 = true := zmck_of (by decide +kernel) (List.forall_mem_cons.mpr ⟨zkk_154_0, fun _ h => absurd h List.not_mem_nil⟩)
theorem zkk_155_0 : zk_155_0.all (zec zpool 12 "line" prog_1_method_18_code) = true := by decide +kernel
theorem zmk_155 : zmck zowns zpool zm_155 = true := zmck_of (by decide +kernel) (List.forall_mem_cons.mpr ⟨zkk_155_0, fun _ h => absurd h List.not_mem_nil⟩)
theorem zkk_156_0 : zk_156_0.all (zec zpool 12 "safe" prog_1_method_19_code) = true := by decide +kernel
theorem zmk_156 : zmck zowns zpool zm_156 = true := zmck_of (by decide +kernel) (List.forall_mem_cons.mpr ⟨zkk_156_0, fun _ h => absurd h List.not_mem_nil⟩)
theorem zkk_157_0 : zk_157_0.all (zec zpool 12 "why" prog_1_method_20_code) = true := by decide +kernel
theorem zmk_157 : zmck zowns zpool zm_157 = true := zmck_of (by decide +kernel) (List.forall_mem_cons.mpr ⟨zkk_157_0, fun _ h => absurd h List.not_mem_nil⟩)
theorem zkk_158_0 : zk_158_0.all (zec zpool 12 "cost" prog_1_method_21_code) = true := by decide +kernel
theorem zmk_158 : zmck zowns zpool zm_158 = true := zmck_of (by decide +kernel) (List.forall_mem_cons.mpr ⟨zkk_158_0, fun _ h => absurd h List.not_mem_nil⟩)
theorem zkk_159_0 : zk_159_0.all (zec zpool 12 "seek" prog_1_method_22_code) = true := by decide +kernel
theorem zmk_159 : zmck zowns zpool zm_159 = true := zmck_of (by decide +kernel) (List.forall_mem_cons.mpr ⟨zkk_159_0, fun _ h => absurd h List.not_mem_nil⟩)
theorem zkk_160_0 : zk_160_0.all (zec zpool 12 "swear" prog_1_method_23_code) = true := by decide +kernel
theorem zkk_160_1 : zk_160_1.all (zec zpool 12 "swear" prog_1_method_23_code) = true := by decide +kernel
theorem zmk_160 : zmck zowns zpool zm_160 = true := zmck_of (by decide +kernel) (List.forall_mem_cons.mpr ⟨zkk_160_0, List.forall_mem_cons.mpr ⟨zkk_160_1, fun _ h => absurd h List.not_mem_nil⟩⟩)
theorem zkk_161_0 : zk_161_0.all (zec zpool 12 "leave" prog_1_method_24_code) = true := by decide +kernel
theorem zkk_161_1 : zk_161_1.all (zec zpool 12 "leave" prog_1_method_24_code) = true := by decide +kernel
theorem zmk_161 : zmck zowns zpool zm_161 = true := zmck_of (by decide +kernel) (List.forall_mem_cons.mpr ⟨zkk_161_0, List.forall_mem_cons.mpr ⟨zkk_161_1, fun _ h => absurd h List.not_mem_nil⟩⟩)
theorem zkk_162_0 : zk_162_0.all (zec zpool 12 "dwell" prog_1_method_25_code) = true := by decide +kernel
theorem zmk_162 : zmck zowns zpool zm_162 = true := zmck_of (by decide +kernel) (List.forall_mem_cons.mpr ⟨zkk_162_0, fun _ h => absurd h List.not_mem_nil⟩)
theorem zkk_163_0 : zk_163_0.all (zec zpool 12 "port" prog_1_method_26_code) = true := by decide +kernel
theorem zkk_163_1 : zk_163_1.all (zec zpool 12 "port" prog_1_method_26_code) = true := by decide +kernel
theorem zmk_163 : zmck zowns zpool zm_163 = true := zmck_of (by decide +kernel) (List.forall_mem_cons.mpr ⟨zkk_163_0, List.forall_mem_cons.mpr ⟨zkk_163_1, fun _ h => absurd h List.not_mem_nil⟩⟩)
theorem zkk_164_0 : zk_164_0.all (zec zpool 12 "sails" prog_1_method_27_code) = true := by decide +kernel
theorem zkk_164_1 : zk_164_1.all (zec zpool 12 "sails" prog_1_method_27_code) = true := by decide +kernel
theorem zmk_164 : zmck zowns zpool zm_164 = true := zmck_of (by decide +kernel) (List.forall_mem_cons.mpr ⟨zkk_164_0, List.forall_mem_cons.mpr ⟨zkk_164_1, fun _ h => absurd h List.not_mem_nil⟩⟩)
theorem zkk_165_0 : zk_165_0.all (zec zpool 12 "take" prog_1_method_28_code) = true := by decide +kernel
theorem zkk_165_1 : zk_165_1.all (zec zpool 12 "take" prog_1_method_28_code) = true := by decide +kernel
theorem zkk_165_2 : zk_165_2.all (zec zpool 12 "take" prog_1_method_28_code) = true := by decide +kernel
theorem zkk_165_3 : zk_165_3.all (zec zpool 12 "take" prog_1_method_28_code) = true := by decide +kernel
theorem zmk_165 : zmck zowns zpool zm_165 = true := zmck_of (by decide +kernel) (List.forall_mem_cons.mpr ⟨zkk_165_0, List.forall_mem_cons.mpr ⟨zkk_165_1, List.forall_mem_cons.mpr ⟨zkk_165_2, List.forall_mem_cons.mpr ⟨zkk_165_3, fun _ h => absurd h List.not_mem_nil⟩⟩⟩⟩)
theorem zkk_166_0 : zk_166_0.all (zec zpool 12 "taking" prog_1_method_29_code) = true := by decide +kernel
theorem zmk_166 : zmck zowns zpool zm_166 = true := zmck_of (by decide +kernel) (List.forall_mem_cons.mpr ⟨zkk_166_0, fun _ h => absurd h List.not_mem_nil⟩)
theorem zkk_167_0 : zk_167_0.all (zec zpool 12 "post" prog_1_method_30_code) = true := by decide +kernel
theorem zmk_167 : zmck zowns zpool zm_167 = true := zmck_of (by decide +kernel) (List.forall_mem_cons.mpr ⟨zkk_167_0, fun _ h => absurd h List.not_mem_nil⟩)
theorem zkk_168_0 : zk_168_0.all (zec zpool 12 "sees" prog_1_method_31_code) = true := by decide +kernel
theorem zmk_168 : zmck zowns zpool zm_168 = true := zmck_of (by decide +kernel) (List.forall_mem_cons.mpr ⟨zkk_168_0, fun _ h => absurd h List.not_mem_nil⟩)
theorem zkk_169_0 : zk_169_0.all (zec zpool 12 "aim" prog_1_method_32_code) = true := by decide +kernel
theorem zkk_169_1 : zk_169_1.all (zec zpool 12 "aim" prog_1_method_32_code) = true := by decide +kernel
theorem zmk_169 : zmck zowns zpool zm_169 = true := zmck_of (by decide +kernel) (List.forall_mem_cons.mpr ⟨zkk_169_0, List.forall_mem_cons.mpr ⟨zkk_169_1, fun _ h => absurd h List.not_mem_nil⟩⟩)
theorem zkk_170_0 : zk_170_0.all (zec zpool 12 "run" prog_1_method_33_code) = true := by decide +kernel
theorem zkk_170_1 : zk_170_1.all (zec zpool 12 "run" prog_1_method_33_code) = true := by decide +kernel
theorem zmk_170 : zmck zowns zpool zm_170 = true := zmck_of (by decide +kernel) (List.forall_mem_cons.mpr ⟨zkk_170_0, List.forall_mem_cons.mpr ⟨zkk_170_1, fun _ h => absurd h List.not_mem_nil⟩⟩)
theorem zkk_171_0 : zk_171_0.all (zec zpool 12 "row" prog_1_method_34_code) = true := by decide +kernel
theorem zmk_171 : zmck zowns zpool zm_171 = true := zmck_of (by decide +kernel) (List.forall_mem_cons.mpr ⟨zkk_171_0, fun _ h => absurd h List.not_mem_nil⟩)
theorem zkk_172_0 : zk_172_0.all (zec zpool 12 "alterRow" prog_1_method_35_code) = true := by decide +kernel
theorem zmk_172 : zmck zowns zpool zm_172 = true := zmck_of (by decide +kernel) (List.forall_mem_cons.mpr ⟨zkk_172_0, fun _ h => absurd h List.not_mem_nil⟩)
theorem zkk_173_0 : zk_173_0.all (zec zpool 12 "dropRow" prog_1_method_36_code) = true := by decide +kernel
theorem zmk_173 : zmck zowns zpool zm_173 = true := zmck_of (by decide +kernel) (List.forall_mem_cons.mpr ⟨zkk_173_0, fun _ h => absurd h List.not_mem_nil⟩)
theorem zkk_174_0 : zk_174_0.all (zec zpool 12 "judge" prog_1_method_37_code) = true := by decide +kernel
theorem zmk_174 : zmck zowns zpool zm_174 = true := zmck_of (by decide +kernel) (List.forall_mem_cons.mpr ⟨zkk_174_0, fun _ h => absurd h List.not_mem_nil⟩)
theorem zkk_175_0 : zk_175_0.all (zec zpool 12 "gap" prog_1_method_38_code) = true := by decide +kernel
theorem zmk_175 : zmck zowns zpool zm_175 = true := zmck_of (by decide +kernel) (List.forall_mem_cons.mpr ⟨zkk_175_0, fun _ h => absurd h List.not_mem_nil⟩)
theorem zkk_176_0 : zk_176_0.all (zec zpool 12 "watch" prog_1_method_39_code) = true := by decide +kernel
theorem zmk_176 : zmck zowns zpool zm_176 = true := zmck_of (by decide +kernel) (List.forall_mem_cons.mpr ⟨zkk_176_0, fun _ h => absurd h List.not_mem_nil⟩)
theorem zkk_177_0 : zk_177_0.all (zec zpool 12 "bell" prog_1_method_40_code) = true := by decide +kernel
theorem zmk_177 : zmck zowns zpool zm_177 = true := zmck_of (by decide +kernel) (List.forall_mem_cons.mpr ⟨zkk_177_0, fun _ h => absurd h List.not_mem_nil⟩)
theorem zkk_178_0 : zk_178_0.all (zec zpool 12 "heard" prog_1_method_41_code) = true := by decide +kernel
theorem zmk_178 : zmck zowns zpool zm_178 = true := zmck_of (by decide +kernel) (List.forall_mem_cons.mpr ⟨zkk_178_0, fun _ h => absurd h List.not_mem_nil⟩)
theorem zkk_179_0 : zk_179_0.all (zec zpool 12 "sight" prog_1_method_42_code) = true := by decide +kernel
theorem zkk_179_1 : zk_179_1.all (zec zpool 12 "sight" prog_1_method_42_code) = true := by decide +kernel
theorem zmk_179 : zmck zowns zpool zm_179 = true := zmck_of (by decide +kernel) (List.forall_mem_cons.mpr ⟨zkk_179_0, List.forall_mem_cons.mpr ⟨zkk_179_1, fun _ h => absurd h List.not_mem_nil⟩⟩)
theorem zkk_180_0 : zk_180_0.all (zec zpool 12 "who" prog_1_method_43_code) = true := by decide +kernel
theorem zmk_180 : zmck zowns zpool zm_180 = true := zmck_of (by decide +kernel) (List.forall_mem_cons.mpr ⟨zkk_180_0, fun _ h => absurd h List.not_mem_nil⟩)
theorem zkk_181_0 : zk_181_0.all (zec zpool 12 "narrow" prog_1_method_44_code) = true := by decide +kernel
theorem zmk_181 : zmck zowns zpool zm_181 = true := zmck_of (by decide +kernel) (List.forall_mem_cons.mpr ⟨zkk_181_0, fun _ h => absurd h List.not_mem_nil⟩)
theorem zkk_182_0 : zk_182_0.all (zec zpool 12 "both" prog_1_method_45_code) = true := by decide +kernel
theorem zmk_182 : zmck zowns zpool zm_182 = true := zmck_of (by decide +kernel) (List.forall_mem_cons.mpr ⟨zkk_182_0, fun _ h => absurd h List.not_mem_nil⟩)
theorem zkk_183_0 : zk_183_0.all (zec zpool 12 "sheet" prog_1_method_46_code) = true := by decide +kernel
theorem zmk_183 : zmck zowns zpool zm_183 = true := zmck_of (by decide +kernel) (List.forall_mem_cons.mpr ⟨zkk_183_0, fun _ h => absurd h List.not_mem_nil⟩)
theorem zkk_184_0 : zk_184_0.all (zec zpool 12 "put" prog_1_method_47_code) = true := by decide +kernel
theorem zmk_184 : zmck zowns zpool zm_184 = true := zmck_of (by decide +kernel) (List.forall_mem_cons.mpr ⟨zkk_184_0, fun _ h => absurd h List.not_mem_nil⟩)
theorem zkk_185_0 : zk_185_0.all (zec zpool 12 "item" prog_1_method_48_code) = true := by decide +kernel
theorem zmk_185 : zmck zowns zpool zm_185 = true := zmck_of (by decide +kernel) (List.forall_mem_cons.mpr ⟨zkk_185_0, fun _ h => absurd h List.not_mem_nil⟩)
theorem zkk_186_0 : zk_186_0.all (zec zpool 12 "comes" prog_1_method_49_code) = true := by decide +kernel
theorem zkk_186_1 : zk_186_1.all (zec zpool 12 "comes" prog_1_method_49_code) = true := by decide +kernel
theorem zmk_186 : zmck zowns zpool zm_186 = true := zmck_of (by decide +kernel) (List.forall_mem_cons.mpr ⟨zkk_186_0, List.forall_mem_cons.mpr ⟨zkk_186_1, fun _ h => absurd h List.not_mem_nil⟩⟩)
theorem zkk_187_0 : zk_187_0.all (zec zpool 12 "shelf" prog_1_method_50_code) = true := by decide +kernel
theorem zmk_187 : zmck zowns zpool zm_187 = true := zmck_of (by decide +kernel) (List.forall_mem_cons.mpr ⟨zkk_187_0, fun _ h => absurd h List.not_mem_nil⟩)
theorem zkk_188_0 : zk_188_0.all (zec zpool 12 "taken" prog_1_method_51_code) = true := by decide +kernel
theorem zkk_188_1 : zk_188_1.all (zec zpool 12 "taken" prog_1_method_51_code) = true := by decide +kernel
theorem zmk_188 : zmck zowns zpool zm_188 = true := zmck_of (by decide +kernel) (List.forall_mem_cons.mpr ⟨zkk_188_0, List.forall_mem_cons.mpr ⟨zkk_188_1, fun _ h => absurd h List.not_mem_nil⟩⟩)
theorem zkk_189_0 : zk_189_0.all (zec zpool 12 "deal" prog_1_method_52_code) = true := by decide +kernel
theorem zmk_189 : zmck zowns zpool zm_189 = true := zmck_of (by decide +kernel) (List.forall_mem_cons.mpr ⟨zkk_189_0, fun _ h => absurd h List.not_mem_nil⟩)
theorem zkk_190_0 : zk_190_0.all (zec zpool 12 "trace" prog_1_method_53_code) = true := by decide +kernel
theorem zmk_190 : zmck zowns zpool zm_190 = true := zmck_of (by decide +kernel) (List.forall_mem_cons.mpr ⟨zkk_190_0, fun _ h => absurd h List.not_mem_nil⟩)
theorem zkk_191_0 : zk_191_0.all (zec zpool 12 "many" prog_1_method_54_code) = true := by decide +kernel
theorem zkk_191_1 : zk_191_1.all (zec zpool 12 "many" prog_1_method_54_code) = true := by decide +kernel
theorem zmk_191 : zmck zowns zpool zm_191 = true := zmck_of (by decide +kernel) (List.forall_mem_cons.mpr ⟨zkk_191_0, List.forall_mem_cons.mpr ⟨zkk_191_1, fun _ h => absurd h List.not_mem_nil⟩⟩)
theorem zkk_192_0 : zk_192_0.all (zec zpool 12 "keep" prog_1_method_55_code) = true := by decide +kernel
theorem zmk_192 : zmck zowns zpool zm_192 = true := zmck_of (by decide +kernel) (List.forall_mem_cons.mpr ⟨zkk_192_0, fun _ h => absurd h List.not_mem_nil⟩)
theorem zkk_193_0 : zk_193_0.all (zec zpool 12 "again" prog_1_method_56_code) = true := by decide +kernel
theorem zmk_193 : zmck zowns zpool zm_193 = true := zmck_of (by decide +kernel) (List.forall_mem_cons.mpr ⟨zkk_193_0, fun _ h => absurd h List.not_mem_nil⟩)
theorem zkk_194_0 : zk_194_0.all (zec zpool 12 "noCell" prog_1_method_57_code) = true := by decide +kernel
theorem zmk_194 : zmck zowns zpool zm_194 = true := zmck_of (by decide +kernel) (List.forall_mem_cons.mpr ⟨zkk_194_0, fun _ h => absurd h List.not_mem_nil⟩)
theorem zkk_195_0 : zk_195_0.all (zec zpool 12 "noHour" prog_1_method_58_code) = true := by decide +kernel
theorem zmk_195 : zmck zowns zpool zm_195 = true := zmck_of (by decide +kernel) (List.forall_mem_cons.mpr ⟨zkk_195_0, fun _ h => absurd h List.not_mem_nil⟩)
theorem zkk_196_0 : zk_196_0.all (zec zpool 12 "noClock" prog_1_method_59_code) = true := by decide +kernel
theorem zmk_196 : zmck zowns zpool zm_196 = true := zmck_of (by decide +kernel) (List.forall_mem_cons.mpr ⟨zkk_196_0, fun _ h => absurd h List.not_mem_nil⟩)
theorem zkk_197_0 : zk_197_0.all (zec zpool 12 "noPerson" prog_1_method_60_code) = true := by decide +kernel
theorem zmk_197 : zmck zowns zpool zm_197 = true := zmck_of (by decide +kernel) (List.forall_mem_cons.mpr ⟨zkk_197_0, fun _ h => absurd h List.not_mem_nil⟩)
theorem zkk_198_0 : zk_198_0.all (zec zpool 13 "<init>" prog_14_method_1_code) = true := by decide +kernel
theorem zkk_198_1 : zk_198_1.all (zec zpool 13 "<init>" prog_14_method_1_code) = true := by decide +kernel
theorem zkk_198_2 : zk_198_2.all (zec zpool 13 "<init>" prog_14_method_1_code) = true := by decide +kernel
theorem zkk_198_3 : zk_198_3.all (zec zpool 13 "<init>" prog_14_method_1_code) = true := by decide +kernel
theorem zkk_198_4 : zk_198_4.all (zec zpool 13 "<init>" prog_14_method_1_code) = true := by decide +kernel
theorem zmk_198 : zmck zowns zpool zm_198 = true := zmck_of (by decide +kernel) (List.forall_mem_cons.mpr ⟨zkk_198_0, List.forall_mem_cons.mpr ⟨zkk_198_1, List.forall_mem_cons.mpr ⟨zkk_198_2, List.forall_mem_cons.mpr ⟨zkk_198_3, List.forall_mem_cons.mpr ⟨zkk_198_4, fun _ h => absurd h List.not_mem_nil⟩⟩⟩⟩⟩)
theorem zkk_199_0 : zk_199_0.all (zec zpool 13 "within" prog_14_method_2_code) = true := by decide +kernel
theorem zmk_199 : zmck zowns zpool zm_199 = true := zmck_of (by decide +kernel) (List.forall_mem_cons.mpr ⟨zkk_199_0, fun _ h => absurd h List.not_mem_nil⟩)
