theorem kdn_0 : kd 0 = 11 := by decide +kernel
theorem kdn_1 : kd 1 = 10 := by decide +kernel
theorem kdn_2 : kd 2 = 7 := by decide +kernel
theorem kdn_3 : kd 3 = 13 := by decide +kernel
theorem kdn_4 : kd 4 = 2 := by decide +kernel
theorem kdn_5 : kd 5 = 5 := by decide +kernel
theorem kdn_6 : kd 6 = 7 := by decide +kernel
theorem kdn_7 : kd 7 = 13 := by decide +kernel
theorem kdn_8 : kd 8 = 14 := by decide +kernel
theorem kdn_9 : kd 9 = 5 := by decide +kernel
theorem kdn_10 : kd 10 = 7 := by decide +kernel
theorem kdn_11 : kd 11 = 13 := by decide +kernel
theorem kdn_12 : kd 12 = 5 := by decide +kernel
theorem kdn_13 : kd 13 = 7 := by decide +kernel
theorem kdn_14 : kd 14 = 13 := by decide +kernel
theorem kdn_15 : kd 15 = 5 := by decide +kernel
theorem kdn_16 : kd 16 = 7 := by decide +kernel
theorem kdn_17 : kd 17 = 13 := by decide +kernel
theorem kdn_18 : kd 18 = 5 := by decide +kernel
theorem kdn_19 : kd 19 = 7 := by decide +kernel
theorem kdn_20 : kd 20 = 13 := by decide +kernel
theorem kdn_21 : kd 21 = 5 := by decide +kernel
theorem kdn_22 : kd 22 = 7 := by decide +kernel
theorem kdn_23 : kd 23 = 13 := by decide +kernel
theorem kdn_24 : kd 24 = 5 := by decide +kernel
theorem kdn_25 : kd 25 = 7 := by decide +kernel
theorem kdn_26 : kd 26 = 13 := by decide +kernel
theorem kdn_27 : kd 27 = 5 := by decide +kernel
theorem kdn_28 : kd 28 = 7 := by decide +kernel
theorem kdn_29 : kd 29 = 13 := by decide +kernel
theorem kdn_30 : kd 30 = 5 := by decide +kernel
theorem kdn_31 : kd 31 = 7 := by decide +kernel
theorem kdn_32 : kd 32 = 13 := by decide +kernel
theorem kdn_33 : kd 33 = 5 := by decide +kernel
theorem kdn_34 : kd 34 = 7 := by decide +kernel
theorem kdn_35 : kd 35 = 13 := by decide +kernel
theorem kdn_36 : kd 36 = 0 := by decide +kernel
theorem kdn_37 : kd 37 = 6 := by decide +kernel
theorem kdn_38 : kd 38 = 7 := by decide +kernel
theorem kdn_39 : kd 39 = 13 := by decide +kernel
theorem kdn_40 : kd 40 = 7 := by decide +kernel
theorem kdn_41 : kd 41 = 13 := by decide +kernel
theorem kdn_42 : kd 42 = 7 := by decide +kernel
theorem kdn_43 : kd 43 = 13 := by decide +kernel
theorem kdn_44 : kd 44 = 4 := by decide +kernel
theorem kdn_45 : kd 45 = 7 := by decide +kernel
theorem kdn_46 : kd 46 = 13 := by decide +kernel
theorem kdn_47 : kd 47 = 3 := by decide +kernel
theorem kdn_48 : kd 48 = 7 := by decide +kernel
theorem kdn_49 : kd 49 = 13 := by decide +kernel
theorem kdn_50 : kd 50 = 7 := by decide +kernel
theorem kdn_51 : kd 51 = 13 := by decide +kernel
theorem kdn_52 : kd 52 = 7 := by decide +kernel
theorem kdn_53 : kd 53 = 13 := by decide +kernel
theorem kdn_54 : kd 54 = 9 := by decide +kernel
theorem kdn_55 : kd 55 = 15 := by decide +kernel
theorem kdn_56 : kd 56 = 8 := by decide +kernel
theorem kdn_57 : kd 57 = 4 := by decide +kernel
theorem kdn_58 : kd 58 = 7 := by decide +kernel
theorem kdn_59 : kd 59 = 13 := by decide +kernel
theorem kdn_60 : kd 60 = 4 := by decide +kernel
theorem kdn_61 : kd 61 = 7 := by decide +kernel
theorem kdn_62 : kd 62 = 13 := by decide +kernel
theorem kdn_63 : kd 63 = 7 := by decide +kernel
theorem kdn_64 : kd 64 = 13 := by decide +kernel
theorem kdn_65 : kd 65 = 8 := by decide +kernel
theorem kdn_66 : kd 66 = 4 := by decide +kernel
theorem kdn_67 : kd 67 = 7 := by decide +kernel
theorem kdn_68 : kd 68 = 13 := by decide +kernel
theorem kdn_69 : kd 69 = 4 := by decide +kernel
theorem kdn_70 : kd 70 = 7 := by decide +kernel
theorem kdn_71 : kd 71 = 13 := by decide +kernel
theorem kdn_72 : kd 72 = 8 := by decide +kernel
theorem kdn_73 : kd 73 = 4 := by decide +kernel
theorem kdn_74 : kd 74 = 7 := by decide +kernel
theorem kdn_75 : kd 75 = 13 := by decide +kernel
theorem kdn_76 : kd 76 = 4 := by decide +kernel
theorem kdn_77 : kd 77 = 7 := by decide +kernel
theorem kdn_78 : kd 78 = 13 := by decide +kernel
theorem kdn_79 : kd 79 = 8 := by decide +kernel
theorem kdn_80 : kd 80 = 4 := by decide +kernel
theorem kdn_81 : kd 81 = 7 := by decide +kernel
theorem kdn_82 : kd 82 = 13 := by decide +kernel
theorem kdn_83 : kd 83 = 4 := by decide +kernel
theorem kdn_84 : kd 84 = 7 := by decide +kernel
theorem kdn_85 : kd 85 = 13 := by decide +kernel
theorem kdn_86 : kd 86 = 8 := by decide +kernel
theorem kdn_87 : kd 87 = 4 := by decide +kernel
theorem kdn_88 : kd 88 = 7 := by decide +kernel
theorem kdn_89 : kd 89 = 13 := by decide +kernel
theorem kdn_90 : kd 90 = 4 := by decide +kernel
theorem kdn_91 : kd 91 = 7 := by decide +kernel
theorem kdn_92 : kd 92 = 13 := by decide +kernel
theorem kdn_93 : kd 93 = 8 := by decide +kernel
theorem kdn_94 : kd 94 = 4 := by decide +kernel
theorem kdn_95 : kd 95 = 7 := by decide +kernel
theorem kdn_96 : kd 96 = 13 := by decide +kernel
theorem kdn_97 : kd 97 = 4 := by decide +kernel
theorem kdn_98 : kd 98 = 7 := by decide +kernel
theorem kdn_99 : kd 99 = 13 := by decide +kernel
theorem kdn_100 : kd 100 = 8 := by decide +kernel
theorem kdn_101 : kd 101 = 4 := by decide +kernel
theorem kdn_102 : kd 102 = 7 := by decide +kernel
theorem kdn_103 : kd 103 = 13 := by decide +kernel
theorem kdn_104 : kd 104 = 4 := by decide +kernel
theorem kdn_105 : kd 105 = 7 := by decide +kernel
theorem kdn_106 : kd 106 = 13 := by decide +kernel
theorem kdn_107 : kd 107 = 8 := by decide +kernel
theorem kdn_108 : kd 108 = 4 := by decide +kernel
theorem kdn_109 : kd 109 = 7 := by decide +kernel
theorem kdn_110 : kd 110 = 13 := by decide +kernel
theorem kdn_111 : kd 111 = 4 := by decide +kernel
theorem kdn_112 : kd 112 = 7 := by decide +kernel
theorem kdn_113 : kd 113 = 13 := by decide +kernel
theorem kdn_114 : kd 114 = 8 := by decide +kernel
theorem kdn_115 : kd 115 = 4 := by decide +kernel
theorem kdn_116 : kd 116 = 7 := by decide +kernel
theorem kdn_117 : kd 117 = 13 := by decide +kernel
theorem kdn_118 : kd 118 = 4 := by decide +kernel
theorem kdn_119 : kd 119 = 7 := by decide +kernel
theorem kdn_120 : kd 120 = 13 := by decide +kernel
theorem kdn_121 : kd 121 = 8 := by decide +kernel
theorem kdn_122 : kd 122 = 4 := by decide +kernel
theorem kdn_123 : kd 123 = 7 := by decide +kernel
theorem kdn_124 : kd 124 = 13 := by decide +kernel
theorem kdn_125 : kd 125 = 4 := by decide +kernel
theorem kdn_126 : kd 126 = 7 := by decide +kernel
theorem kdn_127 : kd 127 = 13 := by decide +kernel
theorem kdn_128 : kd 128 = 8 := by decide +kernel
theorem kdn_129 : kd 129 = 4 := by decide +kernel
theorem kdn_130 : kd 130 = 7 := by decide +kernel
theorem kdn_131 : kd 131 = 13 := by decide +kernel
theorem kdn_132 : kd 132 = 4 := by decide +kernel
theorem kdn_133 : kd 133 = 7 := by decide +kernel
theorem kdn_134 : kd 134 = 13 := by decide +kernel
theorem kdn_135 : kd 135 = 8 := by decide +kernel
theorem kdn_136 : kd 136 = 4 := by decide +kernel
theorem kdn_137 : kd 137 = 7 := by decide +kernel
theorem kdn_138 : kd 138 = 13 := by decide +kernel
theorem kdn_139 : kd 139 = 4 := by decide +kernel
theorem kdn_140 : kd 140 = 7 := by decide +kernel
theorem kdn_141 : kd 141 = 13 := by decide +kernel
theorem kdn_142 : kd 142 = 8 := by decide +kernel
theorem kdn_143 : kd 143 = 4 := by decide +kernel
theorem kdn_144 : kd 144 = 7 := by decide +kernel
theorem kdn_145 : kd 145 = 13 := by decide +kernel
theorem kdn_146 : kd 146 = 4 := by decide +kernel
theorem kdn_147 : kd 147 = 7 := by decide +kernel
theorem kdn_148 : kd 148 = 13 := by decide +kernel
theorem kdn_149 : kd 149 = 1 := by decide +kernel
theorem kdn_150 : kd 150 = 7 := by decide +kernel
theorem kdn_151 : kd 151 = 13 := by decide +kernel
theorem kdn_152 : kd 152 = 7 := by decide +kernel
theorem kdn_153 : kd 153 = 13 := by decide +kernel
theorem kdn_154 : kd 154 = 7 := by decide +kernel
theorem kdn_155 : kd 155 = 13 := by decide +kernel
theorem kdn_156 : kd 156 = 7 := by decide +kernel
theorem kdn_157 : kd 157 = 13 := by decide +kernel
theorem kdn_158 : kd 158 = 12 := by decide +kernel
theorem kdn_159 : kd 159 = 13 := by decide +kernel
theorem kdn_160 : kd 160 = 13 := by decide +kernel
theorem kdn_161 : kd 161 = 13 := by decide +kernel
theorem kdn_162 : kd 162 = 13 := by decide +kernel
theorem kdn_163 : kd 163 = 13 := by decide +kernel
theorem kdn_164 : kd 164 = 13 := by decide +kernel
theorem kdn_165 : kd 165 = 13 := by decide +kernel
theorem kdn_166 : kd 166 = 13 := by decide +kernel
theorem kdn_167 : kd 167 = 13 := by decide +kernel
theorem kdn_168 : kd 168 = 13 := by decide +kernel
theorem kdn_169 : kd 169 = 13 := by decide +kernel
theorem kdn_170 : kd 170 = 13 := by decide +kernel
theorem kdn_171 : kd 171 = 13 := by decide +kernel
theorem kdn_172 : kd 172 = 13 := by decide +kernel
theorem kdn_173 : kd 173 = 13 := by decide +kernel
theorem kdn_174 : kd 174 = 13 := by decide +kernel
theorem kdn_175 : kd 175 = 13 := by decide +kernel
theorem kdn_176 : kd 176 = 13 := by decide +kernel
theorem kdn_177 : kd 177 = 13 := by decide +kernel
theorem kdn_178 : kd 178 = 13 := by decide +kernel
theorem kdn_179 : kd 179 = 13 := by decide +kernel
theorem kdn_180 : kd 180 = 13 := by decide +kernel
theorem kdn_181 : kd 181 = 13 := by decide +kernel
theorem kdn_182 : kd 182 = 13 := by decide +kernel
theorem kdn_183 : kd 183 = 13 := by decide +kernel
theorem kdn_184 : kd 184 = 13 := by decide +kernel
theorem kdn_185 : kd 185 = 13 := by decide +kernel
theorem kdn_186 : kd 186 = 13 := by decide +kernel
theorem kdn_187 : kd 187 = 13 := by decide +kernel
theorem kdn_188 : kd 188 = 13 := by decide +kernel
theorem kdn_189 : kd 189 = 13 := by decide +kernel
theorem kdn_190 : kd 190 = 13 := by decide +kernel
theorem kdn_191 : kd 191 = 13 := by decide +kernel
theorem kdn_192 : kd 192 = 13 := by decide +kernel
theorem kdn_193 : kd 193 = 13 := by decide +kernel
theorem kdn_194 : kd 194 = 13 := by decide +kernel
theorem kdn_195 : kd 195 = 13 := by decide +kernel
theorem kdn_196 : kd 196 = 13 := by decide +kernel
theorem kdn_197 : kd 197 = 13 := by decide +kernel
theorem lnn_3 : ln 3 = 300 := by decide +kernel
theorem lnn_7 : ln 7 = 40 := by decide +kernel
theorem lnn_8 : ln 8 = 8 := by decide +kernel
theorem lnn_11 : ln 11 = 40 := by decide +kernel
theorem lnn_14 : ln 14 = 40 := by decide +kernel
theorem lnn_17 : ln 17 = 40 := by decide +kernel
theorem lnn_20 : ln 20 = 40 := by decide +kernel
theorem lnn_23 : ln 23 = 40 := by decide +kernel
theorem lnn_26 : ln 26 = 40 := by decide +kernel
theorem lnn_29 : ln 29 = 40 := by decide +kernel
theorem lnn_32 : ln 32 = 40 := by decide +kernel
theorem lnn_35 : ln 35 = 40 := by decide +kernel
theorem lnn_39 : ln 39 = 100 := by decide +kernel
theorem lnn_41 : ln 41 = 1024 := by decide +kernel
theorem lnn_43 : ln 43 = 10 := by decide +kernel
theorem lnn_46 : ln 46 = 80 := by decide +kernel
theorem lnn_49 : ln 49 = 100 := by decide +kernel
theorem lnn_51 : ln 51 = 6 := by decide +kernel
theorem lnn_53 : ln 53 = 6 := by decide +kernel
theorem lnn_55 : ln 55 = 12 := by decide +kernel
theorem lnn_59 : ln 59 = 80 := by decide +kernel
theorem lnn_62 : ln 62 = 80 := by decide +kernel
theorem lnn_64 : ln 64 = 10 := by decide +kernel
theorem lnn_68 : ln 68 = 80 := by decide +kernel
theorem lnn_71 : ln 71 = 80 := by decide +kernel
theorem lnn_75 : ln 75 = 80 := by decide +kernel
theorem lnn_78 : ln 78 = 80 := by decide +kernel
theorem lnn_82 : ln 82 = 80 := by decide +kernel
theorem lnn_85 : ln 85 = 80 := by decide +kernel
theorem lnn_89 : ln 89 = 80 := by decide +kernel
theorem lnn_92 : ln 92 = 80 := by decide +kernel
theorem lnn_96 : ln 96 = 80 := by decide +kernel
theorem lnn_99 : ln 99 = 80 := by decide +kernel
theorem lnn_103 : ln 103 = 80 := by decide +kernel
theorem lnn_106 : ln 106 = 80 := by decide +kernel
theorem lnn_110 : ln 110 = 80 := by decide +kernel
theorem lnn_113 : ln 113 = 80 := by decide +kernel
theorem lnn_117 : ln 117 = 80 := by decide +kernel
theorem lnn_120 : ln 120 = 80 := by decide +kernel
theorem lnn_124 : ln 124 = 80 := by decide +kernel
theorem lnn_127 : ln 127 = 80 := by decide +kernel
theorem lnn_131 : ln 131 = 80 := by decide +kernel
theorem lnn_134 : ln 134 = 80 := by decide +kernel
theorem lnn_138 : ln 138 = 80 := by decide +kernel
theorem lnn_141 : ln 141 = 80 := by decide +kernel
theorem lnn_145 : ln 145 = 80 := by decide +kernel
theorem lnn_148 : ln 148 = 80 := by decide +kernel
theorem lnn_151 : ln 151 = 1000 := by decide +kernel
theorem lnn_153 : ln 153 = 10 := by decide +kernel
theorem lnn_155 : ln 155 = 10 := by decide +kernel
theorem lnn_157 : ln 157 = 10 := by decide +kernel
theorem lnn_159 : ln 159 = 10 := by decide +kernel
theorem lnn_160 : ln 160 = 10 := by decide +kernel
theorem lnn_161 : ln 161 = 10 := by decide +kernel
theorem lnn_162 : ln 162 = 8 := by decide +kernel
theorem lnn_163 : ln 163 = 80 := by decide +kernel
theorem lnn_164 : ln 164 = 80 := by decide +kernel
theorem lnn_165 : ln 165 = 80 := by decide +kernel
theorem lnn_166 : ln 166 = 80 := by decide +kernel
theorem lnn_167 : ln 167 = 300 := by decide +kernel
theorem lnn_168 : ln 168 = 20 := by decide +kernel
theorem lnn_169 : ln 169 = 20 := by decide +kernel
theorem lnn_170 : ln 170 = 20 := by decide +kernel
theorem lnn_171 : ln 171 = 20 := by decide +kernel
theorem lnn_172 : ln 172 = 20 := by decide +kernel
theorem lnn_173 : ln 173 = 20 := by decide +kernel
theorem lnn_174 : ln 174 = 20 := by decide +kernel
theorem lnn_175 : ln 175 = 2 := by decide +kernel
theorem lnn_176 : ln 176 = 2 := by decide +kernel
theorem lnn_177 : ln 177 = 10 := by decide +kernel
theorem lnn_178 : ln 178 = 100 := by decide +kernel
theorem lnn_179 : ln 179 = 1024 := by decide +kernel
theorem lnn_180 : ln 180 = 10 := by decide +kernel
theorem lnn_181 : ln 181 = 10 := by decide +kernel
theorem lnn_182 : ln 182 = 10 := by decide +kernel
theorem lnn_183 : ln 183 = 10 := by decide +kernel
theorem lnn_184 : ln 184 = 10 := by decide +kernel
theorem lnn_185 : ln 185 = 12 := by decide +kernel
theorem lnn_186 : ln 186 = 12 := by decide +kernel
theorem lnn_187 : ln 187 = 12 := by decide +kernel
theorem lnn_188 : ln 188 = 12 := by decide +kernel
theorem lnn_189 : ln 189 = 120 := by decide +kernel
theorem lnn_190 : ln 190 = 10 := by decide +kernel
theorem lnn_191 : ln 191 = 200 := by decide +kernel
theorem lnn_192 : ln 192 = 200 := by decide +kernel
theorem lnn_193 : ln 193 = 200 := by decide +kernel
theorem lnn_194 : ln 194 = 200 := by decide +kernel
theorem lnn_195 : ln 195 = 200 := by decide +kernel
theorem lnn_196 : ln 196 = 10 := by decide +kernel
theorem lnn_197 : ln 197 = 10 := by decide +kernel
theorem hdX0_isNearer : yX0_isNearer.cls ≠ "java/lang/invoke/MethodHandle" ∧ yX0_isNearer.cls ≠ "java/lang/invoke/VarHandle" ∧ (parseMethodDescriptor yX0_isNearer.desc).map (fun d => d.parameters.length) = some 7 := by decide +kernel
theorem hdX0_isInZone : yX0_isInZone.cls = RX0 ∧ yX0_isInZone.cls ≠ "java/lang/invoke/MethodHandle" ∧ yX0_isInZone.cls ≠ "java/lang/invoke/VarHandle" ∧ (parseMethodDescriptor yX0_isInZone.desc).map (fun d => d.parameters.length) = some 4 := by decide +kernel
theorem hdX7_at : yX7_at.cls = RX7 ∧ yX7_at.cls ≠ "java/lang/invoke/MethodHandle" ∧ yX7_at.cls ≠ "java/lang/invoke/VarHandle" ∧ (parseMethodDescriptor yX7_at.desc).map (fun d => d.parameters.length) = some 1 := by decide +kernel
theorem hdX5_way : yX5_way.cls = RX5 ∧ yX5_way.cls ≠ "java/lang/invoke/MethodHandle" ∧ yX5_way.cls ≠ "java/lang/invoke/VarHandle" ∧ (parseMethodDescriptor yX5_way.desc).map (fun d => d.parameters.length) = some 3 := by decide +kernel
theorem hdX5_leastWay : yX5_leastWay.cls = RX5 ∧ yX5_leastWay.cls ≠ "java/lang/invoke/MethodHandle" ∧ yX5_leastWay.cls ≠ "java/lang/invoke/VarHandle" ∧ (parseMethodDescriptor yX5_leastWay.desc).map (fun d => d.parameters.length) = some 0 := by decide +kernel
theorem hdX0_isLoose : yX0_isLoose.cls = RX0 ∧ yX0_isLoose.cls ≠ "java/lang/invoke/MethodHandle" ∧ yX0_isLoose.cls ≠ "java/lang/invoke/VarHandle" ∧ (parseMethodDescriptor yX0_isLoose.desc).map (fun d => d.parameters.length) = some 1 := by decide +kernel
theorem hdX7_put : yX7_put.cls = RX7 ∧ yX7_put.cls ≠ "java/lang/invoke/MethodHandle" ∧ yX7_put.cls ≠ "java/lang/invoke/VarHandle" ∧ (parseMethodDescriptor yX7_put.desc).map (fun d => d.parameters.length) = some 2 := by decide +kernel
theorem hdX1_add : yX1_add.cls = RX1 ∧ yX1_add.cls ≠ "java/lang/invoke/MethodHandle" ∧ yX1_add.cls ≠ "java/lang/invoke/VarHandle" ∧ (parseMethodDescriptor yX1_add.desc).map (fun d => d.parameters.length) = some 5 := by decide +kernel
theorem hdX1_end : yX1_end.cls = RX1 ∧ yX1_end.cls ≠ "java/lang/invoke/MethodHandle" ∧ yX1_end.cls ≠ "java/lang/invoke/VarHandle" ∧ (parseMethodDescriptor yX1_end.desc).map (fun d => d.parameters.length) = some 1 := by decide +kernel
theorem hdX1_told : yX1_told.cls = RX1 ∧ yX1_told.cls ≠ "java/lang/invoke/MethodHandle" ∧ yX1_told.cls ≠ "java/lang/invoke/VarHandle" ∧ (parseMethodDescriptor yX1_told.desc).map (fun d => d.parameters.length) = some 2 := by decide +kernel
theorem hdX1_areNear : yX1_areNear.cls = RX1 ∧ yX1_areNear.cls ≠ "java/lang/invoke/MethodHandle" ∧ yX1_areNear.cls ≠ "java/lang/invoke/VarHandle" ∧ (parseMethodDescriptor yX1_areNear.desc).map (fun d => d.parameters.length) = some 3 := by decide +kernel
theorem hdX7_fill : yX7_fill.cls = RX7 ∧ yX7_fill.cls ≠ "java/lang/invoke/MethodHandle" ∧ yX7_fill.cls ≠ "java/lang/invoke/VarHandle" ∧ (parseMethodDescriptor yX7_fill.desc).map (fun d => d.parameters.length) = some 1 := by decide +kernel
theorem hdX1_empty : yX1_empty.cls = RX1 ∧ yX1_empty.cls ≠ "java/lang/invoke/MethodHandle" ∧ yX1_empty.cls ≠ "java/lang/invoke/VarHandle" ∧ (parseMethodDescriptor yX1_empty.desc).map (fun d => d.parameters.length) = some 0 := by decide +kernel
theorem hdX1_isThere : yX1_isThere.cls = RX1 ∧ yX1_isThere.cls ≠ "java/lang/invoke/MethodHandle" ∧ yX1_isThere.cls ≠ "java/lang/invoke/VarHandle" ∧ (parseMethodDescriptor yX1_isThere.desc).map (fun d => d.parameters.length) = some 2 := by decide +kernel
theorem hdX1_goBehind : yX1_goBehind.cls = RX1 ∧ yX1_goBehind.cls ≠ "java/lang/invoke/MethodHandle" ∧ yX1_goBehind.cls ≠ "java/lang/invoke/VarHandle" ∧ (parseMethodDescriptor yX1_goBehind.desc).map (fun d => d.parameters.length) = some 1 := by decide +kernel
theorem hdX1_isInZone : yX1_isInZone.cls = RX1 ∧ yX1_isInZone.cls ≠ "java/lang/invoke/MethodHandle" ∧ yX1_isInZone.cls ≠ "java/lang/invoke/VarHandle" ∧ (parseMethodDescriptor yX1_isInZone.desc).map (fun d => d.parameters.length) = some 2 := by decide +kernel
theorem hdX1_partner : yX1_partner.cls = RX1 ∧ yX1_partner.cls ≠ "java/lang/invoke/MethodHandle" ∧ yX1_partner.cls ≠ "java/lang/invoke/VarHandle" ∧ (parseMethodDescriptor yX1_partner.desc).map (fun d => d.parameters.length) = some 3 := by decide +kernel
theorem hdX1_isClashAt : yX1_isClashAt.cls = RX1 ∧ yX1_isClashAt.cls ≠ "java/lang/invoke/MethodHandle" ∧ yX1_isClashAt.cls ≠ "java/lang/invoke/VarHandle" ∧ (parseMethodDescriptor yX1_isClashAt.desc).map (fun d => d.parameters.length) = some 2 := by decide +kernel
theorem hdX1_leastTick : yX1_leastTick.cls = RX1 ∧ yX1_leastTick.cls ≠ "java/lang/invoke/MethodHandle" ∧ yX1_leastTick.cls ≠ "java/lang/invoke/VarHandle" ∧ (parseMethodDescriptor yX1_leastTick.desc).map (fun d => d.parameters.length) = some 0 := by decide +kernel
theorem hdX1_firstClash : yX1_firstClash.cls = RX1 ∧ yX1_firstClash.cls ≠ "java/lang/invoke/MethodHandle" ∧ yX1_firstClash.cls ≠ "java/lang/invoke/VarHandle" ∧ (parseMethodDescriptor yX1_firstClash.desc).map (fun d => d.parameters.length) = some 1 := by decide +kernel
theorem hdX1_isBehind : yX1_isBehind.cls = RX1 ∧ yX1_isBehind.cls ≠ "java/lang/invoke/MethodHandle" ∧ yX1_isBehind.cls ≠ "java/lang/invoke/VarHandle" ∧ (parseMethodDescriptor yX1_isBehind.desc).map (fun d => d.parameters.length) = some 2 := by decide +kernel
theorem hdX1_size : yX1_size.cls = RX1 ∧ yX1_size.cls ≠ "java/lang/invoke/MethodHandle" ∧ yX1_size.cls ≠ "java/lang/invoke/VarHandle" ∧ (parseMethodDescriptor yX1_size.desc).map (fun d => d.parameters.length) = some 0 := by decide +kernel
theorem hdX2_at : yX2_at.cls = RX2 ∧ yX2_at.cls ≠ "java/lang/invoke/MethodHandle" ∧ yX2_at.cls ≠ "java/lang/invoke/VarHandle" ∧ (parseMethodDescriptor yX2_at.desc).map (fun d => d.parameters.length) = some 1 := by decide +kernel
theorem hdX2_has : yX2_has.cls = RX2 ∧ yX2_has.cls ≠ "java/lang/invoke/MethodHandle" ∧ yX2_has.cls ≠ "java/lang/invoke/VarHandle" ∧ (parseMethodDescriptor yX2_has.desc).map (fun d => d.parameters.length) = some 1 := by decide +kernel
theorem hdX2_keepSpare : yX2_keepSpare.cls = RX2 ∧ yX2_keepSpare.cls ≠ "java/lang/invoke/MethodHandle" ∧ yX2_keepSpare.cls ≠ "java/lang/invoke/VarHandle" ∧ (parseMethodDescriptor yX2_keepSpare.desc).map (fun d => d.parameters.length) = some 0 := by decide +kernel
theorem hdX2_size : yX2_size.cls = RX2 ∧ yX2_size.cls ≠ "java/lang/invoke/MethodHandle" ∧ yX2_size.cls ≠ "java/lang/invoke/VarHandle" ∧ (parseMethodDescriptor yX2_size.desc).map (fun d => d.parameters.length) = some 0 := by decide +kernel
theorem hdX2_spare : yX2_spare.cls = RX2 ∧ yX2_spare.cls ≠ "java/lang/invoke/MethodHandle" ∧ yX2_spare.cls ≠ "java/lang/invoke/VarHandle" ∧ (parseMethodDescriptor yX2_spare.desc).map (fun d => d.parameters.length) = some 0 := by decide +kernel
theorem hdX3_doMeet : yX3_doMeet.cls = RX3 ∧ yX3_doMeet.cls ≠ "java/lang/invoke/MethodHandle" ∧ yX3_doMeet.cls ≠ "java/lang/invoke/VarHandle" ∧ (parseMethodDescriptor yX3_doMeet.desc).map (fun d => d.parameters.length) = some 2 := by decide +kernel
theorem hdX3_doOthersFit : yX3_doOthersFit.cls = RX3 ∧ yX3_doOthersFit.cls ≠ "java/lang/invoke/MethodHandle" ∧ yX3_doOthersFit.cls ≠ "java/lang/invoke/VarHandle" ∧ (parseMethodDescriptor yX3_doOthersFit.desc).map (fun d => d.parameters.length) = some 0 := by decide +kernel
theorem hdX3_doesFit : yX3_doesFit.cls = RX3 ∧ yX3_doesFit.cls ≠ "java/lang/invoke/MethodHandle" ∧ yX3_doesFit.cls ≠ "java/lang/invoke/VarHandle" ∧ (parseMethodDescriptor yX3_doesFit.desc).map (fun d => d.parameters.length) = some 1 := by decide +kernel
theorem hdX3_keepTried : yX3_keepTried.cls = RX3 ∧ yX3_keepTried.cls ≠ "java/lang/invoke/MethodHandle" ∧ yX3_keepTried.cls ≠ "java/lang/invoke/VarHandle" ∧ (parseMethodDescriptor yX3_keepTried.desc).map (fun d => d.parameters.length) = some 1 := by decide +kernel
theorem hdX4_apart : yX4_apart.cls = RX4 ∧ yX4_apart.cls ≠ "java/lang/invoke/MethodHandle" ∧ yX4_apart.cls ≠ "java/lang/invoke/VarHandle" ∧ (parseMethodDescriptor yX4_apart.desc).map (fun d => d.parameters.length) = some 5 := by decide +kernel
theorem hdX4_meetBetween : yX4_meetBetween.cls = RX4 ∧ yX4_meetBetween.cls ≠ "java/lang/invoke/MethodHandle" ∧ yX4_meetBetween.cls ≠ "java/lang/invoke/VarHandle" ∧ (parseMethodDescriptor yX4_meetBetween.desc).map (fun d => d.parameters.length) = some 6 := by decide +kernel
theorem hdX4_meet : yX4_meet.cls = RX4 ∧ yX4_meet.cls ≠ "java/lang/invoke/MethodHandle" ∧ yX4_meet.cls ≠ "java/lang/invoke/VarHandle" ∧ (parseMethodDescriptor yX4_meet.desc).map (fun d => d.parameters.length) = some 4 := by decide +kernel
theorem hdX3_noteMeetings : yX3_noteMeetings.cls = RX3 ∧ yX3_noteMeetings.cls ≠ "java/lang/invoke/MethodHandle" ∧ yX3_noteMeetings.cls ≠ "java/lang/invoke/VarHandle" ∧ (parseMethodDescriptor yX3_noteMeetings.desc).map (fun d => d.parameters.length) = some 2 := by decide +kernel
theorem hdX3_search : yX3_search.cls ≠ "java/lang/invoke/MethodHandle" ∧ yX3_search.cls ≠ "java/lang/invoke/VarHandle" ∧ (parseMethodDescriptor yX3_search.desc).map (fun d => d.parameters.length) = some 3 := by decide +kernel
theorem hdX4_setDelay : yX4_setDelay.cls = RX4 ∧ yX4_setDelay.cls ≠ "java/lang/invoke/MethodHandle" ∧ yX4_setDelay.cls ≠ "java/lang/invoke/VarHandle" ∧ (parseMethodDescriptor yX4_setDelay.desc).map (fun d => d.parameters.length) = some 2 := by decide +kernel
theorem hdX4_size : yX4_size.cls = RX4 ∧ yX4_size.cls ≠ "java/lang/invoke/MethodHandle" ∧ yX4_size.cls ≠ "java/lang/invoke/VarHandle" ∧ (parseMethodDescriptor yX4_size.desc).map (fun d => d.parameters.length) = some 0 := by decide +kernel
theorem hdX3_settle : yX3_settle.cls = RX3 ∧ yX3_settle.cls ≠ "java/lang/invoke/MethodHandle" ∧ yX3_settle.cls ≠ "java/lang/invoke/VarHandle" ∧ (parseMethodDescriptor yX3_settle.desc).map (fun d => d.parameters.length) = some 2 := by decide +kernel
theorem hdX4_charge : yX4_charge.cls = RX4 ∧ yX4_charge.cls ≠ "java/lang/invoke/MethodHandle" ∧ yX4_charge.cls ≠ "java/lang/invoke/VarHandle" ∧ (parseMethodDescriptor yX4_charge.desc).map (fun d => d.parameters.length) = some 1 := by decide +kernel
theorem hdX4_delayOf : yX4_delayOf.cls = RX4 ∧ yX4_delayOf.cls ≠ "java/lang/invoke/MethodHandle" ∧ yX4_delayOf.cls ≠ "java/lang/invoke/VarHandle" ∧ (parseMethodDescriptor yX4_delayOf.desc).map (fun d => d.parameters.length) = some 1 := by decide +kernel
theorem hdX4_goal : yX4_goal.cls = RX4 ∧ yX4_goal.cls ≠ "java/lang/invoke/MethodHandle" ∧ yX4_goal.cls ≠ "java/lang/invoke/VarHandle" ∧ (parseMethodDescriptor yX4_goal.desc).map (fun d => d.parameters.length) = some 1 := by decide +kernel
theorem hdX4_has : yX4_has.cls = RX4 ∧ yX4_has.cls ≠ "java/lang/invoke/MethodHandle" ∧ yX4_has.cls ≠ "java/lang/invoke/VarHandle" ∧ (parseMethodDescriptor yX4_has.desc).map (fun d => d.parameters.length) = some 1 := by decide +kernel
theorem hdX4_isInZone : yX4_isInZone.cls = RX4 ∧ yX4_isInZone.cls ≠ "java/lang/invoke/MethodHandle" ∧ yX4_isInZone.cls ≠ "java/lang/invoke/VarHandle" ∧ (parseMethodDescriptor yX4_isInZone.desc).map (fun d => d.parameters.length) = some 2 := by decide +kernel
theorem hdX4_isAnyInZone : yX4_isAnyInZone.cls = RX4 ∧ yX4_isAnyInZone.cls ≠ "java/lang/invoke/MethodHandle" ∧ yX4_isAnyInZone.cls ≠ "java/lang/invoke/VarHandle" ∧ (parseMethodDescriptor yX4_isAnyInZone.desc).map (fun d => d.parameters.length) = some 1 := by decide +kernel
theorem hdX4_isClean : yX4_isClean.cls = RX4 ∧ yX4_isClean.cls ≠ "java/lang/invoke/MethodHandle" ∧ yX4_isClean.cls ≠ "java/lang/invoke/VarHandle" ∧ (parseMethodDescriptor yX4_isClean.desc).map (fun d => d.parameters.length) = some 1 := by decide +kernel
theorem hdX5_size : yX5_size.cls = RX5 ∧ yX5_size.cls ≠ "java/lang/invoke/MethodHandle" ∧ yX5_size.cls ≠ "java/lang/invoke/VarHandle" ∧ (parseMethodDescriptor yX5_size.desc).map (fun d => d.parameters.length) = some 0 := by decide +kernel
theorem hdX5_told : yX5_told.cls = RX5 ∧ yX5_told.cls ≠ "java/lang/invoke/MethodHandle" ∧ yX5_told.cls ≠ "java/lang/invoke/VarHandle" ∧ (parseMethodDescriptor yX5_told.desc).map (fun d => d.parameters.length) = some 2 := by decide +kernel
theorem hdX6_goal : yX6_goal.cls = RX6 ∧ yX6_goal.cls ≠ "java/lang/invoke/MethodHandle" ∧ yX6_goal.cls ≠ "java/lang/invoke/VarHandle" ∧ (parseMethodDescriptor yX6_goal.desc).map (fun d => d.parameters.length) = some 1 := by decide +kernel
theorem hdJ6_bitCount_0f7a4 : yJ6_bitCount_0f7a4.cls ≠ "java/lang/invoke/MethodHandle" ∧ yJ6_bitCount_0f7a4.cls ≠ "java/lang/invoke/VarHandle" ∧ (parseMethodDescriptor yJ6_bitCount_0f7a4.desc).map (fun d => d.parameters.length) = some 1 := by decide +kernel
theorem hdX6_needWith : yX6_needWith.cls = RX6 ∧ yX6_needWith.cls ≠ "java/lang/invoke/MethodHandle" ∧ yX6_needWith.cls ≠ "java/lang/invoke/VarHandle" ∧ (parseMethodDescriptor yX6_needWith.desc).map (fun d => d.parameters.length) = some 2 := by decide +kernel
theorem hdX6_leastGoal : yX6_leastGoal.cls = RX6 ∧ yX6_leastGoal.cls ≠ "java/lang/invoke/MethodHandle" ∧ yX6_leastGoal.cls ≠ "java/lang/invoke/VarHandle" ∧ (parseMethodDescriptor yX6_leastGoal.desc).map (fun d => d.parameters.length) = some 2 := by decide +kernel
theorem hdX6_choose : yX6_choose.cls = RX6 ∧ yX6_choose.cls ≠ "java/lang/invoke/MethodHandle" ∧ yX6_choose.cls ≠ "java/lang/invoke/VarHandle" ∧ (parseMethodDescriptor yX6_choose.desc).map (fun d => d.parameters.length) = some 1 := by decide +kernel
theorem hdX6_weigh : yX6_weigh.cls = RX6 ∧ yX6_weigh.cls ≠ "java/lang/invoke/MethodHandle" ∧ yX6_weigh.cls ≠ "java/lang/invoke/VarHandle" ∧ (parseMethodDescriptor yX6_weigh.desc).map (fun d => d.parameters.length) = some 1 := by decide +kernel
theorem hdX6_plan : yX6_plan.cls = RX6 ∧ yX6_plan.cls ≠ "java/lang/invoke/MethodHandle" ∧ yX6_plan.cls ≠ "java/lang/invoke/VarHandle" ∧ (parseMethodDescriptor yX6_plan.desc).map (fun d => d.parameters.length) = some 2 := by decide +kernel
theorem hdX4_lead : yX4_lead.cls = RX4 ∧ yX4_lead.cls ≠ "java/lang/invoke/MethodHandle" ∧ yX4_lead.cls ≠ "java/lang/invoke/VarHandle" ∧ (parseMethodDescriptor yX4_lead.desc).map (fun d => d.parameters.length) = some 4 := by decide +kernel
theorem hdX4_ticks : yX4_ticks.cls = RX4 ∧ yX4_ticks.cls ≠ "java/lang/invoke/MethodHandle" ∧ yX4_ticks.cls ≠ "java/lang/invoke/VarHandle" ∧ (parseMethodDescriptor yX4_ticks.desc).map (fun d => d.parameters.length) = some 0 := by decide +kernel
theorem hdX5_add : yX5_add.cls = RX5 ∧ yX5_add.cls ≠ "java/lang/invoke/MethodHandle" ∧ yX5_add.cls ≠ "java/lang/invoke/VarHandle" ∧ (parseMethodDescriptor yX5_add.desc).map (fun d => d.parameters.length) = some 4 := by decide +kernel
theorem hdX5_empty : yX5_empty.cls = RX5 ∧ yX5_empty.cls ≠ "java/lang/invoke/MethodHandle" ∧ yX5_empty.cls ≠ "java/lang/invoke/VarHandle" ∧ (parseMethodDescriptor yX5_empty.desc).map (fun d => d.parameters.length) = some 0 := by decide +kernel
theorem hdX5_has : yX5_has.cls = RX5 ∧ yX5_has.cls ≠ "java/lang/invoke/MethodHandle" ∧ yX5_has.cls ≠ "java/lang/invoke/VarHandle" ∧ (parseMethodDescriptor yX5_has.desc).map (fun d => d.parameters.length) = some 1 := by decide +kernel
theorem hdX8_ticks : yX8_ticks.cls = RX8 ∧ yX8_ticks.cls ≠ "java/lang/invoke/MethodHandle" ∧ yX8_ticks.cls ≠ "java/lang/invoke/VarHandle" ∧ (parseMethodDescriptor yX8_ticks.desc).map (fun d => d.parameters.length) = some 0 := by decide +kernel
theorem hdX9_at : yX9_at.cls = RX9 ∧ yX9_at.cls ≠ "java/lang/invoke/MethodHandle" ∧ yX9_at.cls ≠ "java/lang/invoke/VarHandle" ∧ (parseMethodDescriptor yX9_at.desc).map (fun d => d.parameters.length) = some 1 := by decide +kernel
theorem hdX9_chargeLeft : yX9_chargeLeft.cls = RX9 ∧ yX9_chargeLeft.cls ≠ "java/lang/invoke/MethodHandle" ∧ yX9_chargeLeft.cls ≠ "java/lang/invoke/VarHandle" ∧ (parseMethodDescriptor yX9_chargeLeft.desc).map (fun d => d.parameters.length) = some 1 := by decide +kernel
theorem hdX9_dropLast : yX9_dropLast.cls = RX9 ∧ yX9_dropLast.cls ≠ "java/lang/invoke/MethodHandle" ∧ yX9_dropLast.cls ≠ "java/lang/invoke/VarHandle" ∧ (parseMethodDescriptor yX9_dropLast.desc).map (fun d => d.parameters.length) = some 0 := by decide +kernel
theorem hdX9_fade : yX9_fade.cls ≠ "java/lang/invoke/MethodHandle" ∧ yX9_fade.cls ≠ "java/lang/invoke/VarHandle" ∧ (parseMethodDescriptor yX9_fade.desc).map (fun d => d.parameters.length) = some 4 := by decide +kernel
theorem hdX9_has : yX9_has.cls = RX9 ∧ yX9_has.cls ≠ "java/lang/invoke/MethodHandle" ∧ yX9_has.cls ≠ "java/lang/invoke/VarHandle" ∧ (parseMethodDescriptor yX9_has.desc).map (fun d => d.parameters.length) = some 1 := by decide +kernel
theorem hdX9_keepSpare : yX9_keepSpare.cls = RX9 ∧ yX9_keepSpare.cls ≠ "java/lang/invoke/MethodHandle" ∧ yX9_keepSpare.cls ≠ "java/lang/invoke/VarHandle" ∧ (parseMethodDescriptor yX9_keepSpare.desc).map (fun d => d.parameters.length) = some 0 := by decide +kernel
theorem hdX9_lastFigure : yX9_lastFigure.cls = RX9 ∧ yX9_lastFigure.cls ≠ "java/lang/invoke/MethodHandle" ∧ yX9_lastFigure.cls ≠ "java/lang/invoke/VarHandle" ∧ (parseMethodDescriptor yX9_lastFigure.desc).map (fun d => d.parameters.length) = some 0 := by decide +kernel
theorem hdX9_light : yX9_light.cls = RX9 ∧ yX9_light.cls ≠ "java/lang/invoke/MethodHandle" ∧ yX9_light.cls ≠ "java/lang/invoke/VarHandle" ∧ (parseMethodDescriptor yX9_light.desc).map (fun d => d.parameters.length) = some 1 := by decide +kernel
theorem hdX9_load : yX9_load.cls = RX9 ∧ yX9_load.cls ≠ "java/lang/invoke/MethodHandle" ∧ yX9_load.cls ≠ "java/lang/invoke/VarHandle" ∧ (parseMethodDescriptor yX9_load.desc).map (fun d => d.parameters.length) = some 2 := by decide +kernel
theorem hdX9_place : yX9_place.cls = RX9 ∧ yX9_place.cls ≠ "java/lang/invoke/MethodHandle" ∧ yX9_place.cls ≠ "java/lang/invoke/VarHandle" ∧ (parseMethodDescriptor yX9_place.desc).map (fun d => d.parameters.length) = some 2 := by decide +kernel
theorem hdX9_pad : yX9_pad.cls = RX9 ∧ yX9_pad.cls ≠ "java/lang/invoke/MethodHandle" ∧ yX9_pad.cls ≠ "java/lang/invoke/VarHandle" ∧ (parseMethodDescriptor yX9_pad.desc).map (fun d => d.parameters.length) = some 1 := by decide +kernel
theorem hdX9_size : yX9_size.cls = RX9 ∧ yX9_size.cls ≠ "java/lang/invoke/MethodHandle" ∧ yX9_size.cls ≠ "java/lang/invoke/VarHandle" ∧ (parseMethodDescriptor yX9_size.desc).map (fun d => d.parameters.length) = some 0 := by decide +kernel
theorem hdX9_spare : yX9_spare.cls = RX9 ∧ yX9_spare.cls ≠ "java/lang/invoke/MethodHandle" ∧ yX9_spare.cls ≠ "java/lang/invoke/VarHandle" ∧ (parseMethodDescriptor yX9_spare.desc).map (fun d => d.parameters.length) = some 0 := by decide +kernel
theorem hdX9_ticks : yX9_ticks.cls = RX9 ∧ yX9_ticks.cls ≠ "java/lang/invoke/MethodHandle" ∧ yX9_ticks.cls ≠ "java/lang/invoke/VarHandle" ∧ (parseMethodDescriptor yX9_ticks.desc).map (fun d => d.parameters.length) = some 0 := by decide +kernel
theorem hdX10_add : yX10_add.cls = RX10 ∧ yX10_add.cls ≠ "java/lang/invoke/MethodHandle" ∧ yX10_add.cls ≠ "java/lang/invoke/VarHandle" ∧ (parseMethodDescriptor yX10_add.desc).map (fun d => d.parameters.length) = some 2 := by decide +kernel
theorem hdX10_byteHere : yX10_byteHere.cls = RX10 ∧ yX10_byteHere.cls ≠ "java/lang/invoke/MethodHandle" ∧ yX10_byteHere.cls ≠ "java/lang/invoke/VarHandle" ∧ (parseMethodDescriptor yX10_byteHere.desc).map (fun d => d.parameters.length) = some 0 := by decide +kernel
theorem hdX10_digitOf : yX10_digitOf.cls ≠ "java/lang/invoke/MethodHandle" ∧ yX10_digitOf.cls ≠ "java/lang/invoke/VarHandle" ∧ (parseMethodDescriptor yX10_digitOf.desc).map (fun d => d.parameters.length) = some 1 := by decide +kernel
theorem hdX10_empty : yX10_empty.cls = RX10 ∧ yX10_empty.cls ≠ "java/lang/invoke/MethodHandle" ∧ yX10_empty.cls ≠ "java/lang/invoke/VarHandle" ∧ (parseMethodDescriptor yX10_empty.desc).map (fun d => d.parameters.length) = some 0 := by decide +kernel
theorem hdX10_readDigits : yX10_readDigits.cls = RX10 ∧ yX10_readDigits.cls ≠ "java/lang/invoke/MethodHandle" ∧ yX10_readDigits.cls ≠ "java/lang/invoke/VarHandle" ∧ (parseMethodDescriptor yX10_readDigits.desc).map (fun d => d.parameters.length) = some 1 := by decide +kernel
theorem hdX10_readNumber : yX10_readNumber.cls = RX10 ∧ yX10_readNumber.cls ≠ "java/lang/invoke/MethodHandle" ∧ yX10_readNumber.cls ≠ "java/lang/invoke/VarHandle" ∧ (parseMethodDescriptor yX10_readNumber.desc).map (fun d => d.parameters.length) = some 2 := by decide +kernel
theorem hdX10_readWorth : yX10_readWorth.cls = RX10 ∧ yX10_readWorth.cls ≠ "java/lang/invoke/MethodHandle" ∧ yX10_readWorth.cls ≠ "java/lang/invoke/VarHandle" ∧ (parseMethodDescriptor yX10_readWorth.desc).map (fun d => d.parameters.length) = some 0 := by decide +kernel
theorem hdX10_readPoint : yX10_readPoint.cls = RX10 ∧ yX10_readPoint.cls ≠ "java/lang/invoke/MethodHandle" ∧ yX10_readPoint.cls ≠ "java/lang/invoke/VarHandle" ∧ (parseMethodDescriptor yX10_readPoint.desc).map (fun d => d.parameters.length) = some 1 := by decide +kernel
theorem hdX10_read : yX10_read.cls = RX10 ∧ yX10_read.cls ≠ "java/lang/invoke/MethodHandle" ∧ yX10_read.cls ≠ "java/lang/invoke/VarHandle" ∧ (parseMethodDescriptor yX10_read.desc).map (fun d => d.parameters.length) = some 1 := by decide +kernel
theorem hdX10_size : yX10_size.cls = RX10 ∧ yX10_size.cls ≠ "java/lang/invoke/MethodHandle" ∧ yX10_size.cls ≠ "java/lang/invoke/VarHandle" ∧ (parseMethodDescriptor yX10_size.desc).map (fun d => d.parameters.length) = some 0 := by decide +kernel
theorem hdX11_bit : yX11_bit.cls ≠ "java/lang/invoke/MethodHandle" ∧ yX11_bit.cls ≠ "java/lang/invoke/VarHandle" ∧ (parseMethodDescriptor yX11_bit.desc).map (fun d => d.parameters.length) = some 1 := by decide +kernel
theorem hdX11_clash : yX11_clash.cls = RX11 ∧ yX11_clash.cls ≠ "java/lang/invoke/MethodHandle" ∧ yX11_clash.cls ≠ "java/lang/invoke/VarHandle" ∧ (parseMethodDescriptor yX11_clash.desc).map (fun d => d.parameters.length) = some 2 := by decide +kernel
theorem hdX11_clean : yX11_clean.cls = RX11 ∧ yX11_clean.cls ≠ "java/lang/invoke/MethodHandle" ∧ yX11_clean.cls ≠ "java/lang/invoke/VarHandle" ∧ (parseMethodDescriptor yX11_clean.desc).map (fun d => d.parameters.length) = some 0 := by decide +kernel
theorem hdX11_isWithin : yX11_isWithin.cls ≠ "java/lang/invoke/MethodHandle" ∧ yX11_isWithin.cls ≠ "java/lang/invoke/VarHandle" ∧ (parseMethodDescriptor yX11_isWithin.desc).map (fun d => d.parameters.length) = some 3 := by decide +kernel
theorem hdX11_colour : yX11_colour.cls = RX11 ∧ yX11_colour.cls ≠ "java/lang/invoke/MethodHandle" ∧ yX11_colour.cls ≠ "java/lang/invoke/VarHandle" ∧ (parseMethodDescriptor yX11_colour.desc).map (fun d => d.parameters.length) = some 1 := by decide +kernel
theorem hdX11_flyers : yX11_flyers.cls = RX11 ∧ yX11_flyers.cls ≠ "java/lang/invoke/MethodHandle" ∧ yX11_flyers.cls ≠ "java/lang/invoke/VarHandle" ∧ (parseMethodDescriptor yX11_flyers.desc).map (fun d => d.parameters.length) = some 0 := by decide +kernel
theorem hdX11_count : yX11_count.cls = RX11 ∧ yX11_count.cls ≠ "java/lang/invoke/MethodHandle" ∧ yX11_count.cls ≠ "java/lang/invoke/VarHandle" ∧ (parseMethodDescriptor yX11_count.desc).map (fun d => d.parameters.length) = some 1 := by decide +kernel
theorem hdX11_cut : yX11_cut.cls = RX11 ∧ yX11_cut.cls ≠ "java/lang/invoke/MethodHandle" ∧ yX11_cut.cls ≠ "java/lang/invoke/VarHandle" ∧ (parseMethodDescriptor yX11_cut.desc).map (fun d => d.parameters.length) = some 0 := by decide +kernel
theorem hdX11_delay : yX11_delay.cls = RX11 ∧ yX11_delay.cls ≠ "java/lang/invoke/MethodHandle" ∧ yX11_delay.cls ≠ "java/lang/invoke/VarHandle" ∧ (parseMethodDescriptor yX11_delay.desc).map (fun d => d.parameters.length) = some 2 := by decide +kernel
theorem hdX11_enters : yX11_enters.cls = RX11 ∧ yX11_enters.cls ≠ "java/lang/invoke/MethodHandle" ∧ yX11_enters.cls ≠ "java/lang/invoke/VarHandle" ∧ (parseMethodDescriptor yX11_enters.desc).map (fun d => d.parameters.length) = some 1 := by decide +kernel
theorem hdX11_isFlyer : yX11_isFlyer.cls = RX11 ∧ yX11_isFlyer.cls ≠ "java/lang/invoke/MethodHandle" ∧ yX11_isFlyer.cls ≠ "java/lang/invoke/VarHandle" ∧ (parseMethodDescriptor yX11_isFlyer.desc).map (fun d => d.parameters.length) = some 1 := by decide +kernel
theorem hdX11_worth : yX11_worth.cls = RX11 ∧ yX11_worth.cls ≠ "java/lang/invoke/MethodHandle" ∧ yX11_worth.cls ≠ "java/lang/invoke/VarHandle" ∧ (parseMethodDescriptor yX11_worth.desc).map (fun d => d.parameters.length) = some 2 := by decide +kernel
theorem hdX11_fails : yX11_fails.cls = RX11 ∧ yX11_fails.cls ≠ "java/lang/invoke/MethodHandle" ∧ yX11_fails.cls ≠ "java/lang/invoke/VarHandle" ∧ (parseMethodDescriptor yX11_fails.desc).map (fun d => d.parameters.length) = some 3 := by decide +kernel
theorem hdX11_feed : yX11_feed.cls = RX11 ∧ yX11_feed.cls ≠ "java/lang/invoke/MethodHandle" ∧ yX11_feed.cls ≠ "java/lang/invoke/VarHandle" ∧ (parseMethodDescriptor yX11_feed.desc).map (fun d => d.parameters.length) = some 2 := by decide +kernel
theorem hdX11_figure : yX11_figure.cls = RX11 ∧ yX11_figure.cls ≠ "java/lang/invoke/MethodHandle" ∧ yX11_figure.cls ≠ "java/lang/invoke/VarHandle" ∧ (parseMethodDescriptor yX11_figure.desc).map (fun d => d.parameters.length) = some 0 := by decide +kernel
theorem hdX11_first : yX11_first.cls = RX11 ∧ yX11_first.cls ≠ "java/lang/invoke/MethodHandle" ∧ yX11_first.cls ≠ "java/lang/invoke/VarHandle" ∧ (parseMethodDescriptor yX11_first.desc).map (fun d => d.parameters.length) = some 0 := by decide +kernel
theorem hdX11_isAcross : yX11_isAcross.cls ≠ "java/lang/invoke/MethodHandle" ∧ yX11_isAcross.cls ≠ "java/lang/invoke/VarHandle" ∧ (parseMethodDescriptor yX11_isAcross.desc).map (fun d => d.parameters.length) = some 1 := by decide +kernel
theorem hdX11_flyer : yX11_flyer.cls = RX11 ∧ yX11_flyer.cls ≠ "java/lang/invoke/MethodHandle" ∧ yX11_flyer.cls ≠ "java/lang/invoke/VarHandle" ∧ (parseMethodDescriptor yX11_flyer.desc).map (fun d => d.parameters.length) = some 3 := by decide +kernel
theorem hdX11_gap : yX11_gap.cls = RX11 ∧ yX11_gap.cls ≠ "java/lang/invoke/MethodHandle" ∧ yX11_gap.cls ≠ "java/lang/invoke/VarHandle" ∧ (parseMethodDescriptor yX11_gap.desc).map (fun d => d.parameters.length) = some 1 := by decide +kernel
theorem hdX11_goes : yX11_goes.cls = RX11 ∧ yX11_goes.cls ≠ "java/lang/invoke/MethodHandle" ∧ yX11_goes.cls ≠ "java/lang/invoke/VarHandle" ∧ (parseMethodDescriptor yX11_goes.desc).map (fun d => d.parameters.length) = some 1 := by decide +kernel
theorem hdX11_isPicture : yX11_isPicture.cls = RX11 ∧ yX11_isPicture.cls ≠ "java/lang/invoke/MethodHandle" ∧ yX11_isPicture.cls ≠ "java/lang/invoke/VarHandle" ∧ (parseMethodDescriptor yX11_isPicture.desc).map (fun d => d.parameters.length) = some 1 := by decide +kernel
theorem hdX11_lands : yX11_lands.cls = RX11 ∧ yX11_lands.cls ≠ "java/lang/invoke/MethodHandle" ∧ yX11_lands.cls ≠ "java/lang/invoke/VarHandle" ∧ (parseMethodDescriptor yX11_lands.desc).map (fun d => d.parameters.length) = some 1 := by decide +kernel
theorem hdX11_last : yX11_last.cls = RX11 ∧ yX11_last.cls ≠ "java/lang/invoke/MethodHandle" ∧ yX11_last.cls ≠ "java/lang/invoke/VarHandle" ∧ (parseMethodDescriptor yX11_last.desc).map (fun d => d.parameters.length) = some 0 := by decide +kernel
theorem hdX11_left : yX11_left.cls = RX11 ∧ yX11_left.cls ≠ "java/lang/invoke/MethodHandle" ∧ yX11_left.cls ≠ "java/lang/invoke/VarHandle" ∧ (parseMethodDescriptor yX11_left.desc).map (fun d => d.parameters.length) = some 1 := by decide +kernel
theorem hdX11_length : yX11_length.cls = RX11 ∧ yX11_length.cls ≠ "java/lang/invoke/MethodHandle" ∧ yX11_length.cls ≠ "java/lang/invoke/VarHandle" ∧ (parseMethodDescriptor yX11_length.desc).map (fun d => d.parameters.length) = some 0 := by decide +kernel
theorem hdX11_margin : yX11_margin.cls = RX11 ∧ yX11_margin.cls ≠ "java/lang/invoke/MethodHandle" ∧ yX11_margin.cls ≠ "java/lang/invoke/VarHandle" ∧ (parseMethodDescriptor yX11_margin.desc).map (fun d => d.parameters.length) = some 1 := by decide +kernel
theorem hdX11_mark : yX11_mark.cls = RX11 ∧ yX11_mark.cls ≠ "java/lang/invoke/MethodHandle" ∧ yX11_mark.cls ≠ "java/lang/invoke/VarHandle" ∧ (parseMethodDescriptor yX11_mark.desc).map (fun d => d.parameters.length) = some 5 := by decide +kernel
theorem hdX11_part : yX11_part.cls = RX11 ∧ yX11_part.cls ≠ "java/lang/invoke/MethodHandle" ∧ yX11_part.cls ≠ "java/lang/invoke/VarHandle" ∧ (parseMethodDescriptor yX11_part.desc).map (fun d => d.parameters.length) = some 0 := by decide +kernel
theorem hdX11_pass : yX11_pass.cls = RX11 ∧ yX11_pass.cls ≠ "java/lang/invoke/MethodHandle" ∧ yX11_pass.cls ≠ "java/lang/invoke/VarHandle" ∧ (parseMethodDescriptor yX11_pass.desc).map (fun d => d.parameters.length) = some 3 := by decide +kernel
theorem hdX11_point : yX11_point.cls = RX11 ∧ yX11_point.cls ≠ "java/lang/invoke/MethodHandle" ∧ yX11_point.cls ≠ "java/lang/invoke/VarHandle" ∧ (parseMethodDescriptor yX11_point.desc).map (fun d => d.parameters.length) = some 3 := by decide +kernel
theorem hdX11_scene : yX11_scene.cls = RX11 ∧ yX11_scene.cls ≠ "java/lang/invoke/MethodHandle" ∧ yX11_scene.cls ≠ "java/lang/invoke/VarHandle" ∧ (parseMethodDescriptor yX11_scene.desc).map (fun d => d.parameters.length) = some 4 := by decide +kernel
theorem hdX11_spread : yX11_spread.cls = RX11 ∧ yX11_spread.cls ≠ "java/lang/invoke/MethodHandle" ∧ yX11_spread.cls ≠ "java/lang/invoke/VarHandle" ∧ (parseMethodDescriptor yX11_spread.desc).map (fun d => d.parameters.length) = some 1 := by decide +kernel
theorem hdX11_stands : yX11_stands.cls = RX11 ∧ yX11_stands.cls ≠ "java/lang/invoke/MethodHandle" ∧ yX11_stands.cls ≠ "java/lang/invoke/VarHandle" ∧ (parseMethodDescriptor yX11_stands.desc).map (fun d => d.parameters.length) = some 2 := by decide +kernel
theorem hdX11_unclean : yX11_unclean.cls = RX11 ∧ yX11_unclean.cls ≠ "java/lang/invoke/MethodHandle" ∧ yX11_unclean.cls ≠ "java/lang/invoke/VarHandle" ∧ (parseMethodDescriptor yX11_unclean.desc).map (fun d => d.parameters.length) = some 0 := by decide +kernel
theorem hdX11_who : yX11_who.cls = RX11 ∧ yX11_who.cls ≠ "java/lang/invoke/MethodHandle" ∧ yX11_who.cls ≠ "java/lang/invoke/VarHandle" ∧ (parseMethodDescriptor yX11_who.desc).map (fun d => d.parameters.length) = some 1 := by decide +kernel
theorem hdX11_wipe : yX11_wipe.cls = RX11 ∧ yX11_wipe.cls ≠ "java/lang/invoke/MethodHandle" ∧ yX11_wipe.cls ≠ "java/lang/invoke/VarHandle" ∧ (parseMethodDescriptor yX11_wipe.desc).map (fun d => d.parameters.length) = some 0 := by decide +kernel
theorem hdX11_zone : yX11_zone.cls = RX11 ∧ yX11_zone.cls ≠ "java/lang/invoke/MethodHandle" ∧ yX11_zone.cls ≠ "java/lang/invoke/VarHandle" ∧ (parseMethodDescriptor yX11_zone.desc).map (fun d => d.parameters.length) = some 3 := by decide +kernel
theorem hdX12_square : yX12_square.cls ≠ "java/lang/invoke/MethodHandle" ∧ yX12_square.cls ≠ "java/lang/invoke/VarHandle" ∧ (parseMethodDescriptor yX12_square.desc).map (fun d => d.parameters.length) = some 1 := by decide +kernel
theorem hdX12_apart : yX12_apart.cls = RX12 ∧ yX12_apart.cls ≠ "java/lang/invoke/MethodHandle" ∧ yX12_apart.cls ≠ "java/lang/invoke/VarHandle" ∧ (parseMethodDescriptor yX12_apart.desc).map (fun d => d.parameters.length) = some 2 := by decide +kernel
theorem hdX12_isNear : yX12_isNear.cls ≠ "java/lang/invoke/MethodHandle" ∧ yX12_isNear.cls ≠ "java/lang/invoke/VarHandle" ∧ (parseMethodDescriptor yX12_isNear.desc).map (fun d => d.parameters.length) = some 8 := by decide +kernel
theorem hdX12_areNear : yX12_areNear.cls = RX12 ∧ yX12_areNear.cls ≠ "java/lang/invoke/MethodHandle" ∧ yX12_areNear.cls ≠ "java/lang/invoke/VarHandle" ∧ (parseMethodDescriptor yX12_areNear.desc).map (fun d => d.parameters.length) = some 2 := by decide +kernel
theorem hdX12_bits : yX12_bits.cls ≠ "java/lang/invoke/MethodHandle" ∧ yX12_bits.cls ≠ "java/lang/invoke/VarHandle" ∧ (parseMethodDescriptor yX12_bits.desc).map (fun d => d.parameters.length) = some 1 := by decide +kernel
theorem hdX12_greater : yX12_greater.cls ≠ "java/lang/invoke/MethodHandle" ∧ yX12_greater.cls ≠ "java/lang/invoke/VarHandle" ∧ (parseMethodDescriptor yX12_greater.desc).map (fun d => d.parameters.length) = some 2 := by decide +kernel
theorem hdX12_assigns : yX12_assigns.cls = RX12 ∧ yX12_assigns.cls ≠ "java/lang/invoke/MethodHandle" ∧ yX12_assigns.cls ≠ "java/lang/invoke/VarHandle" ∧ (parseMethodDescriptor yX12_assigns.desc).map (fun d => d.parameters.length) = some 1 := by decide +kernel
theorem hdX12_begins : yX12_begins.cls = RX12 ∧ yX12_begins.cls ≠ "java/lang/invoke/MethodHandle" ∧ yX12_begins.cls ≠ "java/lang/invoke/VarHandle" ∧ (parseMethodDescriptor yX12_begins.desc).map (fun d => d.parameters.length) = some 4 := by decide +kernel
theorem hdX12_gone : yX12_gone.cls = RX12 ∧ yX12_gone.cls ≠ "java/lang/invoke/MethodHandle" ∧ yX12_gone.cls ≠ "java/lang/invoke/VarHandle" ∧ (parseMethodDescriptor yX12_gone.desc).map (fun d => d.parameters.length) = some 3 := by decide +kernel
theorem hdX12_placeX : yX12_placeX.cls = RX12 ∧ yX12_placeX.cls ≠ "java/lang/invoke/MethodHandle" ∧ yX12_placeX.cls ≠ "java/lang/invoke/VarHandle" ∧ (parseMethodDescriptor yX12_placeX.desc).map (fun d => d.parameters.length) = some 3 := by decide +kernel
theorem hdX12_placeY : yX12_placeY.cls = RX12 ∧ yX12_placeY.cls ≠ "java/lang/invoke/MethodHandle" ∧ yX12_placeY.cls ≠ "java/lang/invoke/VarHandle" ∧ (parseMethodDescriptor yX12_placeY.desc).map (fun d => d.parameters.length) = some 3 := by decide +kernel
theorem hdX12_placeZ : yX12_placeZ.cls = RX12 ∧ yX12_placeZ.cls ≠ "java/lang/invoke/MethodHandle" ∧ yX12_placeZ.cls ≠ "java/lang/invoke/VarHandle" ∧ (parseMethodDescriptor yX12_placeZ.desc).map (fun d => d.parameters.length) = some 3 := by decide +kernel
theorem hdX12_clash : yX12_clash.cls = RX12 ∧ yX12_clash.cls ≠ "java/lang/invoke/MethodHandle" ∧ yX12_clash.cls ≠ "java/lang/invoke/VarHandle" ∧ (parseMethodDescriptor yX12_clash.desc).map (fun d => d.parameters.length) = some 3 := by decide +kernel
theorem hdX12_isOfPass : yX12_isOfPass.cls = RX12 ∧ yX12_isOfPass.cls ≠ "java/lang/invoke/MethodHandle" ∧ yX12_isOfPass.cls ≠ "java/lang/invoke/VarHandle" ∧ (parseMethodDescriptor yX12_isOfPass.desc).map (fun d => d.parameters.length) = some 1 := by decide +kernel
theorem hdX12_clash_ : yX12_clash_.cls = RX12 ∧ yX12_clash_.cls ≠ "java/lang/invoke/MethodHandle" ∧ yX12_clash_.cls ≠ "java/lang/invoke/VarHandle" ∧ (parseMethodDescriptor yX12_clash_.desc).map (fun d => d.parameters.length) = some 2 := by decide +kernel
theorem hdX12_enters : yX12_enters.cls = RX12 ∧ yX12_enters.cls ≠ "java/lang/invoke/MethodHandle" ∧ yX12_enters.cls ≠ "java/lang/invoke/VarHandle" ∧ (parseMethodDescriptor yX12_enters.desc).map (fun d => d.parameters.length) = some 2 := by decide +kernel
theorem hdX12_isClean : yX12_isClean.cls = RX12 ∧ yX12_isClean.cls ≠ "java/lang/invoke/MethodHandle" ∧ yX12_isClean.cls ≠ "java/lang/invoke/VarHandle" ∧ (parseMethodDescriptor yX12_isClean.desc).map (fun d => d.parameters.length) = some 1 := by decide +kernel
theorem hdX12_clean : yX12_clean.cls = RX12 ∧ yX12_clean.cls ≠ "java/lang/invoke/MethodHandle" ∧ yX12_clean.cls ≠ "java/lang/invoke/VarHandle" ∧ (parseMethodDescriptor yX12_clean.desc).map (fun d => d.parameters.length) = some 0 := by decide +kernel
theorem hdX12_isIn : yX12_isIn.cls ≠ "java/lang/invoke/MethodHandle" ∧ yX12_isIn.cls ≠ "java/lang/invoke/VarHandle" ∧ (parseMethodDescriptor yX12_isIn.desc).map (fun d => d.parameters.length) = some 3 := by decide +kernel
theorem hdX12_length : yX12_length.cls = RX12 ∧ yX12_length.cls ≠ "java/lang/invoke/MethodHandle" ∧ yX12_length.cls ≠ "java/lang/invoke/VarHandle" ∧ (parseMethodDescriptor yX12_length.desc).map (fun d => d.parameters.length) = some 0 := by decide +kernel
theorem hdX12_colour : yX12_colour.cls = RX12 ∧ yX12_colour.cls ≠ "java/lang/invoke/MethodHandle" ∧ yX12_colour.cls ≠ "java/lang/invoke/VarHandle" ∧ (parseMethodDescriptor yX12_colour.desc).map (fun d => d.parameters.length) = some 1 := by decide +kernel
theorem hdX12_count : yX12_count.cls = RX12 ∧ yX12_count.cls ≠ "java/lang/invoke/MethodHandle" ∧ yX12_count.cls ≠ "java/lang/invoke/VarHandle" ∧ (parseMethodDescriptor yX12_count.desc).map (fun d => d.parameters.length) = some 1 := by decide +kernel
theorem hdX12_cut : yX12_cut.cls = RX12 ∧ yX12_cut.cls ≠ "java/lang/invoke/MethodHandle" ∧ yX12_cut.cls ≠ "java/lang/invoke/VarHandle" ∧ (parseMethodDescriptor yX12_cut.desc).map (fun d => d.parameters.length) = some 0 := by decide +kernel
theorem hdX12_delay : yX12_delay.cls = RX12 ∧ yX12_delay.cls ≠ "java/lang/invoke/MethodHandle" ∧ yX12_delay.cls ≠ "java/lang/invoke/VarHandle" ∧ (parseMethodDescriptor yX12_delay.desc).map (fun d => d.parameters.length) = some 2 := by decide +kernel
theorem hdX12_enters_ : yX12_enters_.cls = RX12 ∧ yX12_enters_.cls ≠ "java/lang/invoke/MethodHandle" ∧ yX12_enters_.cls ≠ "java/lang/invoke/VarHandle" ∧ (parseMethodDescriptor yX12_enters_.desc).map (fun d => d.parameters.length) = some 1 := by decide +kernel
theorem hdX12_isFlyer : yX12_isFlyer.cls = RX12 ∧ yX12_isFlyer.cls ≠ "java/lang/invoke/MethodHandle" ∧ yX12_isFlyer.cls ≠ "java/lang/invoke/VarHandle" ∧ (parseMethodDescriptor yX12_isFlyer.desc).map (fun d => d.parameters.length) = some 1 := by decide +kernel
theorem hdX12_isScene : yX12_isScene.cls = RX12 ∧ yX12_isScene.cls ≠ "java/lang/invoke/MethodHandle" ∧ yX12_isScene.cls ≠ "java/lang/invoke/VarHandle" ∧ (parseMethodDescriptor yX12_isScene.desc).map (fun d => d.parameters.length) = some 1 := by decide +kernel
theorem hdX12_worthAt : yX12_worthAt.cls = RX12 ∧ yX12_worthAt.cls ≠ "java/lang/invoke/MethodHandle" ∧ yX12_worthAt.cls ≠ "java/lang/invoke/VarHandle" ∧ (parseMethodDescriptor yX12_worthAt.desc).map (fun d => d.parameters.length) = some 2 := by decide +kernel
theorem hdX12_fails : yX12_fails.cls = RX12 ∧ yX12_fails.cls ≠ "java/lang/invoke/MethodHandle" ∧ yX12_fails.cls ≠ "java/lang/invoke/VarHandle" ∧ (parseMethodDescriptor yX12_fails.desc).map (fun d => d.parameters.length) = some 3 := by decide +kernel
theorem hdX12_feed : yX12_feed.cls = RX12 ∧ yX12_feed.cls ≠ "java/lang/invoke/MethodHandle" ∧ yX12_feed.cls ≠ "java/lang/invoke/VarHandle" ∧ (parseMethodDescriptor yX12_feed.desc).map (fun d => d.parameters.length) = some 2 := by decide +kernel
theorem hdX12_isDigit : yX12_isDigit.cls ≠ "java/lang/invoke/MethodHandle" ∧ yX12_isDigit.cls ≠ "java/lang/invoke/VarHandle" ∧ (parseMethodDescriptor yX12_isDigit.desc).map (fun d => d.parameters.length) = some 1 := by decide +kernel
theorem hdX12_sign : yX12_sign.cls = RX12 ∧ yX12_sign.cls ≠ "java/lang/invoke/MethodHandle" ∧ yX12_sign.cls ≠ "java/lang/invoke/VarHandle" ∧ (parseMethodDescriptor yX12_sign.desc).map (fun d => d.parameters.length) = some 0 := by decide +kernel
theorem hdX12_takes : yX12_takes.cls = RX12 ∧ yX12_takes.cls ≠ "java/lang/invoke/MethodHandle" ∧ yX12_takes.cls ≠ "java/lang/invoke/VarHandle" ∧ (parseMethodDescriptor yX12_takes.desc).map (fun d => d.parameters.length) = some 1 := by decide +kernel
theorem hdX12_number : yX12_number.cls = RX12 ∧ yX12_number.cls ≠ "java/lang/invoke/MethodHandle" ∧ yX12_number.cls ≠ "java/lang/invoke/VarHandle" ∧ (parseMethodDescriptor yX12_number.desc).map (fun d => d.parameters.length) = some 1 := by decide +kernel
theorem hdX12_point : yX12_point.cls = RX12 ∧ yX12_point.cls ≠ "java/lang/invoke/MethodHandle" ∧ yX12_point.cls ≠ "java/lang/invoke/VarHandle" ∧ (parseMethodDescriptor yX12_point.desc).map (fun d => d.parameters.length) = some 1 := by decide +kernel
theorem hdX12_points : yX12_points.cls = RX12 ∧ yX12_points.cls ≠ "java/lang/invoke/MethodHandle" ∧ yX12_points.cls ≠ "java/lang/invoke/VarHandle" ∧ (parseMethodDescriptor yX12_points.desc).map (fun d => d.parameters.length) = some 0 := by decide +kernel
theorem hdX12_figure : yX12_figure.cls = RX12 ∧ yX12_figure.cls ≠ "java/lang/invoke/MethodHandle" ∧ yX12_figure.cls ≠ "java/lang/invoke/VarHandle" ∧ (parseMethodDescriptor yX12_figure.desc).map (fun d => d.parameters.length) = some 0 := by decide +kernel
theorem hdX12_isInZone : yX12_isInZone.cls = RX12 ∧ yX12_isInZone.cls ≠ "java/lang/invoke/MethodHandle" ∧ yX12_isInZone.cls ≠ "java/lang/invoke/VarHandle" ∧ (parseMethodDescriptor yX12_isInZone.desc).map (fun d => d.parameters.length) = some 1 := by decide +kernel
theorem hdX12_markOf : yX12_markOf.cls = RX12 ∧ yX12_markOf.cls ≠ "java/lang/invoke/MethodHandle" ∧ yX12_markOf.cls ≠ "java/lang/invoke/VarHandle" ∧ (parseMethodDescriptor yX12_markOf.desc).map (fun d => d.parameters.length) = some 2 := by decide +kernel
theorem hdX12_findClash : yX12_findClash.cls = RX12 ∧ yX12_findClash.cls ≠ "java/lang/invoke/MethodHandle" ∧ yX12_findClash.cls ≠ "java/lang/invoke/VarHandle" ∧ (parseMethodDescriptor yX12_findClash.desc).map (fun d => d.parameters.length) = some 1 := by decide +kernel
theorem hdX12_first : yX12_first.cls = RX12 ∧ yX12_first.cls ≠ "java/lang/invoke/MethodHandle" ∧ yX12_first.cls ≠ "java/lang/invoke/VarHandle" ∧ (parseMethodDescriptor yX12_first.desc).map (fun d => d.parameters.length) = some 0 := by decide +kernel
theorem hdX12_flyer : yX12_flyer.cls = RX12 ∧ yX12_flyer.cls ≠ "java/lang/invoke/MethodHandle" ∧ yX12_flyer.cls ≠ "java/lang/invoke/VarHandle" ∧ (parseMethodDescriptor yX12_flyer.desc).map (fun d => d.parameters.length) = some 3 := by decide +kernel
theorem hdX12_gap : yX12_gap.cls = RX12 ∧ yX12_gap.cls ≠ "java/lang/invoke/MethodHandle" ∧ yX12_gap.cls ≠ "java/lang/invoke/VarHandle" ∧ (parseMethodDescriptor yX12_gap.desc).map (fun d => d.parameters.length) = some 1 := by decide +kernel
theorem hdX12_goes : yX12_goes.cls = RX12 ∧ yX12_goes.cls ≠ "java/lang/invoke/MethodHandle" ∧ yX12_goes.cls ≠ "java/lang/invoke/VarHandle" ∧ (parseMethodDescriptor yX12_goes.desc).map (fun d => d.parameters.length) = some 1 := by decide +kernel
theorem hdX12_heightIn : yX12_heightIn.cls = RX12 ∧ yX12_heightIn.cls ≠ "java/lang/invoke/MethodHandle" ∧ yX12_heightIn.cls ≠ "java/lang/invoke/VarHandle" ∧ (parseMethodDescriptor yX12_heightIn.desc).map (fun d => d.parameters.length) = some 2 := by decide +kernel
theorem hdX12_isFigure : yX12_isFigure.cls = RX12 ∧ yX12_isFigure.cls ≠ "java/lang/invoke/MethodHandle" ∧ yX12_isFigure.cls ≠ "java/lang/invoke/VarHandle" ∧ (parseMethodDescriptor yX12_isFigure.desc).map (fun d => d.parameters.length) = some 1 := by decide +kernel
theorem hdX12_looksAt : yX12_looksAt.cls = RX12 ∧ yX12_looksAt.cls ≠ "java/lang/invoke/MethodHandle" ∧ yX12_looksAt.cls ≠ "java/lang/invoke/VarHandle" ∧ (parseMethodDescriptor yX12_looksAt.desc).map (fun d => d.parameters.length) = some 1 := by decide +kernel
theorem hdX12_pointAhead : yX12_pointAhead.cls = RX12 ∧ yX12_pointAhead.cls ≠ "java/lang/invoke/MethodHandle" ∧ yX12_pointAhead.cls ≠ "java/lang/invoke/VarHandle" ∧ (parseMethodDescriptor yX12_pointAhead.desc).map (fun d => d.parameters.length) = some 2 := by decide +kernel
theorem hdX12_lands : yX12_lands.cls = RX12 ∧ yX12_lands.cls ≠ "java/lang/invoke/MethodHandle" ∧ yX12_lands.cls ≠ "java/lang/invoke/VarHandle" ∧ (parseMethodDescriptor yX12_lands.desc).map (fun d => d.parameters.length) = some 1 := by decide +kernel
theorem hdX12_leftTo : yX12_leftTo.cls = RX12 ∧ yX12_leftTo.cls ≠ "java/lang/invoke/MethodHandle" ∧ yX12_leftTo.cls ≠ "java/lang/invoke/VarHandle" ∧ (parseMethodDescriptor yX12_leftTo.desc).map (fun d => d.parameters.length) = some 1 := by decide +kernel
theorem hdX12_last : yX12_last.cls = RX12 ∧ yX12_last.cls ≠ "java/lang/invoke/MethodHandle" ∧ yX12_last.cls ≠ "java/lang/invoke/VarHandle" ∧ (parseMethodDescriptor yX12_last.desc).map (fun d => d.parameters.length) = some 0 := by decide +kernel
theorem hdX12_least : yX12_least.cls = RX12 ∧ yX12_least.cls ≠ "java/lang/invoke/MethodHandle" ∧ yX12_least.cls ≠ "java/lang/invoke/VarHandle" ∧ (parseMethodDescriptor yX12_least.desc).map (fun d => d.parameters.length) = some 1 := by decide +kernel
theorem hdX12_left : yX12_left.cls = RX12 ∧ yX12_left.cls ≠ "java/lang/invoke/MethodHandle" ∧ yX12_left.cls ≠ "java/lang/invoke/VarHandle" ∧ (parseMethodDescriptor yX12_left.desc).map (fun d => d.parameters.length) = some 1 := by decide +kernel
theorem hdX12_margin : yX12_margin.cls = RX12 ∧ yX12_margin.cls ≠ "java/lang/invoke/MethodHandle" ∧ yX12_margin.cls ≠ "java/lang/invoke/VarHandle" ∧ (parseMethodDescriptor yX12_margin.desc).map (fun d => d.parameters.length) = some 1 := by decide +kernel
theorem hdX12_mark : yX12_mark.cls = RX12 ∧ yX12_mark.cls ≠ "java/lang/invoke/MethodHandle" ∧ yX12_mark.cls ≠ "java/lang/invoke/VarHandle" ∧ (parseMethodDescriptor yX12_mark.desc).map (fun d => d.parameters.length) = some 5 := by decide +kernel
theorem hdX12_sumOf : yX12_sumOf.cls ≠ "java/lang/invoke/MethodHandle" ∧ yX12_sumOf.cls ≠ "java/lang/invoke/VarHandle" ∧ (parseMethodDescriptor yX12_sumOf.desc).map (fun d => d.parameters.length) = some 1 := by decide +kernel
theorem hdX12_waits : yX12_waits.cls = RX12 ∧ yX12_waits.cls ≠ "java/lang/invoke/MethodHandle" ∧ yX12_waits.cls ≠ "java/lang/invoke/VarHandle" ∧ (parseMethodDescriptor yX12_waits.desc).map (fun d => d.parameters.length) = some 2 := by decide +kernel
theorem hdX12_part : yX12_part.cls = RX12 ∧ yX12_part.cls ≠ "java/lang/invoke/MethodHandle" ∧ yX12_part.cls ≠ "java/lang/invoke/VarHandle" ∧ (parseMethodDescriptor yX12_part.desc).map (fun d => d.parameters.length) = some 0 := by decide +kernel
theorem hdX12_pass : yX12_pass.cls = RX12 ∧ yX12_pass.cls ≠ "java/lang/invoke/MethodHandle" ∧ yX12_pass.cls ≠ "java/lang/invoke/VarHandle" ∧ (parseMethodDescriptor yX12_pass.desc).map (fun d => d.parameters.length) = some 3 := by decide +kernel
theorem hdX12_point_ : yX12_point_.cls = RX12 ∧ yX12_point_.cls ≠ "java/lang/invoke/MethodHandle" ∧ yX12_point_.cls ≠ "java/lang/invoke/VarHandle" ∧ (parseMethodDescriptor yX12_point_.desc).map (fun d => d.parameters.length) = some 3 := by decide +kernel
theorem hdX12_scene : yX12_scene.cls = RX12 ∧ yX12_scene.cls ≠ "java/lang/invoke/MethodHandle" ∧ yX12_scene.cls ≠ "java/lang/invoke/VarHandle" ∧ (parseMethodDescriptor yX12_scene.desc).map (fun d => d.parameters.length) = some 4 := by decide +kernel
theorem hdX12_spread : yX12_spread.cls = RX12 ∧ yX12_spread.cls ≠ "java/lang/invoke/MethodHandle" ∧ yX12_spread.cls ≠ "java/lang/invoke/VarHandle" ∧ (parseMethodDescriptor yX12_spread.desc).map (fun d => d.parameters.length) = some 1 := by decide +kernel
theorem hdX12_stands : yX12_stands.cls = RX12 ∧ yX12_stands.cls ≠ "java/lang/invoke/MethodHandle" ∧ yX12_stands.cls ≠ "java/lang/invoke/VarHandle" ∧ (parseMethodDescriptor yX12_stands.desc).map (fun d => d.parameters.length) = some 2 := by decide +kernel
theorem hdX12_unclean : yX12_unclean.cls = RX12 ∧ yX12_unclean.cls ≠ "java/lang/invoke/MethodHandle" ∧ yX12_unclean.cls ≠ "java/lang/invoke/VarHandle" ∧ (parseMethodDescriptor yX12_unclean.desc).map (fun d => d.parameters.length) = some 0 := by decide +kernel
theorem hdX12_who : yX12_who.cls = RX12 ∧ yX12_who.cls ≠ "java/lang/invoke/MethodHandle" ∧ yX12_who.cls ≠ "java/lang/invoke/VarHandle" ∧ (parseMethodDescriptor yX12_who.desc).map (fun d => d.parameters.length) = some 1 := by decide +kernel
theorem hdX12_wipe : yX12_wipe.cls = RX12 ∧ yX12_wipe.cls ≠ "java/lang/invoke/MethodHandle" ∧ yX12_wipe.cls ≠ "java/lang/invoke/VarHandle" ∧ (parseMethodDescriptor yX12_wipe.desc).map (fun d => d.parameters.length) = some 0 := by decide +kernel
theorem hdX12_zone : yX12_zone.cls = RX12 ∧ yX12_zone.cls ≠ "java/lang/invoke/MethodHandle" ∧ yX12_zone.cls ≠ "java/lang/invoke/VarHandle" ∧ (parseMethodDescriptor yX12_zone.desc).map (fun d => d.parameters.length) = some 3 := by decide +kernel
