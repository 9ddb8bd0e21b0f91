-- every method's code, checked
set_option maxRecDepth 20000 in
theorem kk_1 : am_chk 1 0 kc_1 = true := by decide +kernel
set_option maxRecDepth 20000 in
theorem kk_2 : am_chk 2 0 kc_2 = true := by decide +kernel
set_option maxRecDepth 20000 in
theorem kk_3 : am_chk 3 0 kc_3 = true := by decide +kernel
set_option maxRecDepth 20000 in
theorem kk_4 : am_chk 4 0 kc_4 = true := by decide +kernel
set_option maxRecDepth 20000 in
theorem kk_5 : am_chk 5 0 kc_5 = true := by decide +kernel
set_option maxRecDepth 20000 in
theorem kk_6 : am_chk 6 0 kc_6 = true := by decide +kernel
set_option maxRecDepth 20000 in
theorem kk_7 : am_chk 7 0 kc_7 = true := by decide +kernel
set_option maxRecDepth 20000 in
theorem kk_8 : am_chk 8 0 kc_8 = true := by decide +kernel
set_option maxRecDepth 20000 in
theorem kk_9 : am_chk 9 0 kc_9 = true := by decide +kernel
set_option maxRecDepth 20000 in
theorem kk_10 : am_chk 10 0 kc_10 = true := by decide +kernel
set_option maxRecDepth 20000 in
theorem kk_11 : am_chk 11 0 kc_11 = true := by decide +kernel
set_option maxRecDepth 20000 in
theorem kk_12 : am_chk 12 0 kc_12 = true := by decide +kernel
set_option maxRecDepth 20000 in
theorem kk_13 : am_chk 13 0 kc_13 = true := by decide +kernel
set_option maxRecDepth 20000 in
theorem kk_14 : am_chk 14 0 kc_14 = true := by decide +kernel
set_option maxRecDepth 20000 in
theorem kk_15 : am_chk 15 0 kc_15 = true := by decide +kernel
set_option maxRecDepth 20000 in
theorem kk_16 : am_chk 16 0 kc_16 = true := by decide +kernel
set_option maxRecDepth 20000 in
theorem kk_17 : am_chk 17 0 kc_17 = true := by decide +kernel
set_option maxRecDepth 20000 in
theorem kk_18 : am_chk 18 0 kc_18 = true := by decide +kernel
set_option maxRecDepth 20000 in
theorem kk_19 : am_chk 19 0 kc_19 = true := by decide +kernel
set_option maxRecDepth 20000 in
theorem kk_20 : am_chk 20 0 kc_20 = true := by decide +kernel
set_option maxRecDepth 20000 in
theorem kk_21 : am_chk 21 0 kc_21 = true := by decide +kernel
set_option maxRecDepth 20000 in
theorem kk_22 : am_chk 22 0 kc_22 = true := by decide +kernel
set_option maxRecDepth 20000 in
theorem kk_23 : am_chk 23 0 kc_23 = true := by decide +kernel
set_option maxRecDepth 20000 in
theorem kk_24 : am_chk 24 0 kc_24 = true := by decide +kernel
set_option maxRecDepth 20000 in
theorem kk_25 : am_chk 25 0 kc_25 = true := by decide +kernel
set_option maxRecDepth 20000 in
theorem kk_26 : am_chk 26 0 kc_26 = true := by decide +kernel
set_option maxRecDepth 20000 in
theorem kk_27 : am_chk 27 0 kc_27 = true := by decide +kernel
set_option maxRecDepth 20000 in
theorem kk_28 : am_chk 28 0 kc_28 = true := by decide +kernel
set_option maxRecDepth 20000 in
theorem kk_29 : am_chk 29 0 kc_29 = true := by decide +kernel
set_option maxRecDepth 20000 in
theorem kk_30 : am_chk 30 0 kc_30 = true := by decide +kernel
set_option maxRecDepth 20000 in
theorem kk_31 : am_chk 31 0 kc_31 = true := by decide +kernel
set_option maxRecDepth 20000 in
theorem kk_32 : am_chk 32 0 kc_32 = true := by decide +kernel
set_option maxRecDepth 20000 in
theorem kk_33 : am_chk 33 0 kc_33 = true := by decide +kernel
set_option maxRecDepth 20000 in
theorem kk_34 : am_chk 34 0 kc_34 = true := by decide +kernel
set_option maxRecDepth 20000 in
theorem kk_35 : am_chk 35 0 kc_35 = true := by decide +kernel
set_option maxRecDepth 20000 in
theorem kk_36 : am_chk 36 0 kc_36 = true := by decide +kernel
set_option maxRecDepth 20000 in
theorem kk_37 : am_chk 37 0 kc_37 = true := by decide +kernel
set_option maxRecDepth 20000 in
theorem kk_38 : am_chk 38 0 kc_38 = true := by decide +kernel
set_option maxRecDepth 20000 in
theorem kk_39 : am_chk 39 0 kc_39 = true := by decide +kernel
set_option maxRecDepth 20000 in
theorem kk_40 : am_chk 40 0 kc_40 = true := by decide +kernel
set_option maxRecDepth 20000 in
theorem kk_41 : am_chk 41 0 kc_41 = true := by decide +kernel
set_option maxRecDepth 20000 in
theorem kk_42 : am_chk 42 0 kc_42 = true := by decide +kernel
set_option maxRecDepth 20000 in
theorem kk_43 : am_chk 43 0 kc_43 = true := by decide +kernel
set_option maxRecDepth 20000 in
theorem kk_44 : am_chk 44 0 kc_44 = true := by decide +kernel
set_option maxRecDepth 20000 in
theorem kk_45 : am_chk 45 0 kc_45 = true := by decide +kernel
set_option maxRecDepth 20000 in
theorem kk_46 : am_chk 46 0 kc_46 = true := by decide +kernel
set_option maxRecDepth 20000 in
theorem kk_47 : am_chk 47 0 kc_47 = true := by decide +kernel
set_option maxRecDepth 20000 in
theorem kk_48 : am_chk 48 0 kc_48 = true := by decide +kernel
set_option maxRecDepth 20000 in
theorem kk_49 : am_chk 49 0 kc_49 = true := by decide +kernel
set_option maxRecDepth 20000 in
theorem kk_50 : am_chk 50 0 kc_50 = true := by decide +kernel
set_option maxRecDepth 20000 in
theorem kk_51 : am_chk 51 0 kc_51 = true := by decide +kernel
set_option maxRecDepth 20000 in
theorem kk_52 : am_chk 52 0 kc_52 = true := by decide +kernel
set_option maxRecDepth 20000 in
theorem kk_53 : am_chk 53 0 kc_53 = true := by decide +kernel
set_option maxRecDepth 20000 in
theorem kk_54 : am_chk 54 0 kc_54 = true := by decide +kernel
set_option maxRecDepth 20000 in
theorem kk_55 : am_chk 55 0 kc_55 = true := by decide +kernel
set_option maxRecDepth 20000 in
theorem kk_56 : am_chk 56 0 kc_56 = true := by decide +kernel
set_option maxRecDepth 20000 in
theorem kk_57 : am_chk 57 0 kc_57 = true := by decide +kernel
set_option maxRecDepth 20000 in
theorem kk_58 : am_chk 58 0 kc_58 = true := by decide +kernel
set_option maxRecDepth 20000 in
theorem kk_59 : am_chk 59 0 kc_59 = true := by decide +kernel
set_option maxRecDepth 20000 in
theorem kk_60 : am_chk 60 0 kc_60 = true := by decide +kernel
set_option maxRecDepth 20000 in
theorem kk_61 : am_chk 61 0 kc_61 = true := by decide +kernel
set_option maxRecDepth 20000 in
theorem kk_62 : am_chk 62 0 kc_62 = true := by decide +kernel
set_option maxRecDepth 20000 in
theorem kk_63 : am_chk 63 0 kc_63 = true := by decide +kernel
set_option maxRecDepth 20000 in
theorem kk_64 : am_chk 64 0 kc_64 = true := by decide +kernel
set_option maxRecDepth 20000 in
theorem kk_65 : am_chk 65 0 kc_65 = true := by decide +kernel
set_option maxRecDepth 20000 in
theorem kk_66 : am_chk 66 0 kc_66 = true := by decide +kernel
set_option maxRecDepth 20000 in
theorem kk_67 : am_chk 67 0 kc_67 = true := by decide +kernel
set_option maxRecDepth 20000 in
theorem kk_68 : am_chk 68 0 kc_68 = true := by decide +kernel
set_option maxRecDepth 20000 in
theorem kk_69 : am_chk 69 0 kc_69 = true := by decide +kernel
set_option maxRecDepth 20000 in
theorem kk_70 : am_chk 70 0 kc_70 = true := by decide +kernel
set_option maxRecDepth 20000 in
theorem kk_71 : am_chk 71 0 kc_71 = true := by decide +kernel
set_option maxRecDepth 20000 in
theorem kk_72 : am_chk 72 0 kc_72 = true := by decide +kernel
set_option maxRecDepth 20000 in
theorem kk_73 : am_chk 73 0 kc_73 = true := by decide +kernel
set_option maxRecDepth 20000 in
theorem kk_74 : am_chk 74 0 kc_74 = true := by decide +kernel
set_option maxRecDepth 20000 in
theorem kk_75 : am_chk 75 0 kc_75 = true := by decide +kernel
set_option maxRecDepth 20000 in
theorem kk_76 : am_chk 76 0 kc_76 = true := by decide +kernel
set_option maxRecDepth 20000 in
theorem kk_77 : am_chk 77 0 kc_77 = true := by decide +kernel
set_option maxRecDepth 20000 in
theorem kk_78 : am_chk 78 0 kc_78 = true := by decide +kernel
set_option maxRecDepth 20000 in
theorem kk_79 : am_chk 79 0 kc_79 = true := by decide +kernel
set_option maxRecDepth 20000 in
theorem kk_80 : am_chk 80 0 kc_80 = true := by decide +kernel
set_option maxRecDepth 20000 in
theorem kk_81 : am_chk 81 0 kc_81 = true := by decide +kernel
set_option maxRecDepth 20000 in
theorem kk_82 : am_chk 82 0 kc_82 = true := by decide +kernel
set_option maxRecDepth 20000 in
theorem kk_83 : am_chk 83 0 kc_83 = true := by decide +kernel
set_option maxRecDepth 20000 in
theorem kk_84 : am_chk 84 0 kc_84 = true := by decide +kernel
set_option maxRecDepth 20000 in
theorem kk_85 : am_chk 85 0 kc_85 = true := by decide +kernel
set_option maxRecDepth 20000 in
theorem kk_86 : am_chk 86 0 kc_86 = true := by decide +kernel
set_option maxRecDepth 20000 in
theorem kk_87 : am_chk 87 0 kc_87 = true := by decide +kernel
set_option maxRecDepth 20000 in
theorem kk_88 : am_chk 88 0 kc_88 = true := by decide +kernel
set_option maxRecDepth 20000 in
theorem kk_89 : am_chk 89 0 kc_89 = true := by decide +kernel
set_option maxRecDepth 20000 in
theorem kk_90 : am_chk 90 0 kc_90 = true := by decide +kernel
set_option maxRecDepth 20000 in
theorem kk_91 : am_chk 91 0 kc_91 = true := by decide +kernel
set_option maxRecDepth 20000 in
theorem kk_92 : am_chk 92 0 kc_92 = true := by decide +kernel
set_option maxRecDepth 20000 in
theorem kk_93 : am_chk 93 0 kc_93 = true := by decide +kernel
set_option maxRecDepth 20000 in
theorem kk_94 : am_chk 94 0 kc_94 = true := by decide +kernel
set_option maxRecDepth 20000 in
theorem kk_95 : am_chk 95 0 kc_95 = true := by decide +kernel
set_option maxRecDepth 20000 in
theorem kk_96 : am_chk 96 0 kc_96 = true := by decide +kernel
set_option maxRecDepth 20000 in
theorem kk_97 : am_chk 97 0 kc_97 = true := by decide +kernel
set_option maxRecDepth 20000 in
theorem kk_98 : am_chk 98 0 kc_98 = true := by decide +kernel
set_option maxRecDepth 20000 in
theorem kk_99 : am_chk 99 0 kc_99 = true := by decide +kernel
set_option maxRecDepth 20000 in
theorem kk_100 : am_chk 100 0 kc_100 = true := by decide +kernel
set_option maxRecDepth 20000 in
theorem kk_101 : am_chk 101 0 kc_101 = true := by decide +kernel
set_option maxRecDepth 20000 in
theorem kk_102 : am_chk 102 0 kc_102 = true := by decide +kernel
set_option maxRecDepth 20000 in
theorem kk_103 : am_chk 103 0 kc_103 = true := by decide +kernel
set_option maxRecDepth 20000 in
theorem kk_104 : am_chk 104 0 kc_104 = true := by decide +kernel
set_option maxRecDepth 20000 in
theorem kk_105 : am_chk 105 0 kc_105 = true := by decide +kernel
set_option maxRecDepth 20000 in
theorem kk_106 : am_chk 106 0 kc_106 = true := by decide +kernel
set_option maxRecDepth 20000 in
theorem kk_107 : am_chk 107 0 kc_107 = true := by decide +kernel
set_option maxRecDepth 20000 in
theorem kk_108 : am_chk 108 0 kc_108 = true := by decide +kernel
set_option maxRecDepth 20000 in
theorem kk_109 : am_chk 109 0 kc_109 = true := by decide +kernel
set_option maxRecDepth 20000 in
theorem kk_110 : am_chk 110 0 kc_110 = true := by decide +kernel
set_option maxRecDepth 20000 in
theorem kk_111 : am_chk 111 0 kc_111 = true := by decide +kernel
set_option maxRecDepth 20000 in
theorem kk_112 : am_chk 112 0 kc_112 = true := by decide +kernel
set_option maxRecDepth 20000 in
theorem kk_113 : am_chk 113 0 kc_113 = true := by decide +kernel
set_option maxRecDepth 20000 in
theorem kk_114 : am_chk 114 0 kc_114 = true := by decide +kernel
set_option maxRecDepth 20000 in
theorem kk_115 : am_chk 115 0 kc_115 = true := by decide +kernel
set_option maxRecDepth 20000 in
theorem kk_116 : am_chk 116 0 kc_116 = true := by decide +kernel
set_option maxRecDepth 20000 in
theorem kk_117 : am_chk 117 0 kc_117 = true := by decide +kernel
set_option maxRecDepth 20000 in
theorem kk_118 : am_chk 118 0 kc_118 = true := by decide +kernel
set_option maxRecDepth 20000 in
theorem kk_119 : am_chk 119 0 kc_119 = true := by decide +kernel
set_option maxRecDepth 20000 in
theorem kk_120 : am_chk 120 0 kc_120 = true := by decide +kernel
set_option maxRecDepth 20000 in
theorem kk_121 : am_chk 121 0 kc_121 = true := by decide +kernel
set_option maxRecDepth 20000 in
theorem kk_122 : am_chk 122 0 kc_122 = true := by decide +kernel
set_option maxRecDepth 20000 in
theorem kk_123 : am_chk 123 0 kc_123 = true := by decide +kernel
set_option maxRecDepth 20000 in
theorem kk_124 : am_chk 124 0 kc_124 = true := by decide +kernel
set_option maxRecDepth 20000 in
theorem kk_125 : am_chk 125 0 kc_125 = true := by decide +kernel
set_option maxRecDepth 20000 in
theorem kk_126 : am_chk 126 0 kc_126 = true := by decide +kernel
set_option maxRecDepth 20000 in
theorem kk_127 : am_chk 127 0 kc_127 = true := by decide +kernel
set_option maxRecDepth 20000 in
theorem kk_128 : am_chk 128 0 kc_128 = true := by decide +kernel
set_option maxRecDepth 20000 in
theorem kk_129 : am_chk 129 0 kc_129 = true := by decide +kernel
set_option maxRecDepth 20000 in
theorem kk_130 : am_chk 130 0 kc_130 = true := by decide +kernel
set_option maxRecDepth 20000 in
theorem kk_131 : am_chk 131 0 kc_131 = true := by decide +kernel
set_option maxRecDepth 20000 in
theorem kk_132 : am_chk 132 0 kc_132 = true := by decide +kernel
set_option maxRecDepth 20000 in
theorem kk_133 : am_chk 133 0 kc_133 = true := by decide +kernel
set_option maxRecDepth 20000 in
theorem kk_134 : am_chk 134 0 kc_134 = true := by decide +kernel
set_option maxRecDepth 20000 in
theorem kk_135 : am_chk 135 0 kc_135 = true := by decide +kernel
set_option maxRecDepth 20000 in
theorem kk_136 : am_chk 136 0 kc_136 = true := by decide +kernel
set_option maxRecDepth 20000 in
theorem kk_137 : am_chk 137 0 kc_137 = true := by decide +kernel
set_option maxRecDepth 20000 in
theorem kk_138 : am_chk 138 0 kc_138 = true := by decide +kernel
set_option maxRecDepth 20000 in
theorem kk_139 : am_chk 139 0 kc_139 = true := by decide +kernel
set_option maxRecDepth 20000 in
theorem kk_140 : am_chk 140 0 kc_140 = true := by decide +kernel
set_option maxRecDepth 20000 in
theorem kk_141 : am_chk 141 0 kc_141 = true := by decide +kernel
set_option maxRecDepth 20000 in
theorem kk_142 : am_chk 142 0 kc_142 = true := by decide +kernel
set_option maxRecDepth 20000 in
theorem kk_143 : am_chk 143 0 kc_143 = true := by decide +kernel
set_option maxRecDepth 20000 in
theorem kk_144 : am_chk 144 0 kc_144 = true := by decide +kernel
set_option maxRecDepth 20000 in
theorem kk_145 : am_chk 145 0 kc_145 = true := by decide +kernel
set_option maxRecDepth 20000 in
theorem kk_146 : am_chk 146 0 kc_146 = true := by decide +kernel
set_option maxRecDepth 20000 in
theorem kk_147 : am_chk 147 0 kc_147 = true := by decide +kernel
set_option maxRecDepth 20000 in
theorem kk_148 : am_chk 148 0 kc_148 = true := by decide +kernel
set_option maxRecDepth 20000 in
theorem kk_149 : am_chk 149 0 kc_149 = true := by decide +kernel
set_option maxRecDepth 20000 in
theorem kk_150 : am_chk 150 0 kc_150 = true := by decide +kernel
set_option maxRecDepth 20000 in
theorem kk_151 : am_chk 151 0 kc_151 = true := by decide +kernel
set_option maxRecDepth 20000 in
theorem kk_152 : am_chk 152 0 kc_152 = true := by decide +kernel
set_option maxRecDepth 20000 in
theorem kk_153 : am_chk 153 0 kc_153 = true := by decide +kernel
set_option maxRecDepth 20000 in
theorem kk_154 : am_chk 154 0 kc_154 = true := by decide +kernel
set_option maxRecDepth 20000 in
theorem kk_155 : am_chk 155 0 kc_155 = true := by decide +kernel
set_option maxRecDepth 20000 in
theorem kk_156 : am_chk 156 0 kc_156 = true := by decide +kernel
set_option maxRecDepth 20000 in
theorem kk_157 : am_chk 157 0 kc_157 = true := by decide +kernel
set_option maxRecDepth 20000 in
theorem kk_158 : am_chk 158 0 kc_158 = true := by decide +kernel
set_option maxRecDepth 20000 in
theorem kk_159 : am_chk 159 0 kc_159 = true := by decide +kernel
set_option maxRecDepth 20000 in
theorem kk_160 : am_chk 160 0 kc_160 = true := by decide +kernel
set_option maxRecDepth 20000 in
theorem kk_161 : am_chk 161 0 kc_161 = true := by decide +kernel
set_option maxRecDepth 20000 in
theorem kk_162 : am_chk 162 0 kc_162 = true := by decide +kernel
set_option maxRecDepth 20000 in
theorem kk_163 : am_chk 163 0 kc_163 = true := by decide +kernel
set_option maxRecDepth 20000 in
theorem kk_164 : am_chk 164 0 kc_164 = true := by decide +kernel
set_option maxRecDepth 20000 in
theorem kk_165 : am_chk 165 0 kc_165 = true := by decide +kernel
set_option maxRecDepth 20000 in
theorem kk_166 : am_chk 166 0 kc_166 = true := by decide +kernel
set_option maxRecDepth 20000 in
theorem kk_167 : am_chk 167 0 kc_167 = true := by decide +kernel
set_option maxRecDepth 20000 in
theorem kk_168 : am_chk 168 0 kc_168 = true := by decide +kernel
set_option maxRecDepth 20000 in
theorem kk_169 : am_chk 169 0 kc_169 = true := by decide +kernel
set_option maxRecDepth 20000 in
theorem kk_170 : am_chk 170 0 kc_170 = true := by decide +kernel
set_option maxRecDepth 20000 in
theorem kk_171 : am_chk 171 0 kc_171 = true := by decide +kernel
set_option maxRecDepth 20000 in
theorem kk_172 : am_chk 172 0 kc_172 = true := by decide +kernel
set_option maxRecDepth 20000 in
theorem kk_173 : am_chk 173 0 kc_173 = true := by decide +kernel
set_option maxRecDepth 20000 in
theorem kk_174 : am_chk 174 0 kc_174 = true := by decide +kernel
set_option maxRecDepth 20000 in
theorem kk_175 : am_chk 175 0 kc_175 = true := by decide +kernel
set_option maxRecDepth 20000 in
theorem kk_176 : am_chk 176 0 kc_176 = true := by decide +kernel
set_option maxRecDepth 20000 in
theorem kk_177 : am_chk 177 0 kc_177 = true := by decide +kernel
set_option maxRecDepth 20000 in
theorem kk_178 : am_chk 178 0 kc_178 = true := by decide +kernel
set_option maxRecDepth 20000 in
theorem kk_179 : am_chk 179 0 kc_179 = true := by decide +kernel
set_option maxRecDepth 20000 in
theorem kk_180 : am_chk 180 0 kc_180 = true := by decide +kernel
set_option maxRecDepth 20000 in
theorem kk_181 : am_chk 181 0 kc_181 = true := by decide +kernel
set_option maxRecDepth 20000 in
theorem kk_182 : am_chk 182 0 kc_182 = true := by decide +kernel
set_option maxRecDepth 20000 in
theorem kk_183 : am_chk 183 0 kc_183 = true := by decide +kernel
set_option maxRecDepth 20000 in
theorem kk_184 : am_chk 184 0 kc_184 = true := by decide +kernel
set_option maxRecDepth 20000 in
theorem kk_185 : am_chk 185 0 kc_185 = true := by decide +kernel
set_option maxRecDepth 20000 in
theorem kk_186 : am_chk 186 0 kc_186 = true := by decide +kernel
set_option maxRecDepth 20000 in
theorem kk_187 : am_chk 187 0 kc_187 = true := by decide +kernel
set_option maxRecDepth 20000 in
theorem kk_188 : am_chk 188 0 kc_188 = true := by decide +kernel
set_option maxRecDepth 20000 in
theorem kk_189 : am_chk 189 0 kc_189 = true := by decide +kernel
set_option maxRecDepth 20000 in
theorem kk_190 : am_chk 190 0 kc_190 = true := by decide +kernel
set_option maxRecDepth 20000 in
theorem kk_191 : am_chk 191 0 kc_191 = true := by decide +kernel
set_option maxRecDepth 20000 in
theorem kk_192 : am_chk 192 0 kc_192 = true := by decide +kernel
set_option maxRecDepth 20000 in
theorem kk_193 : am_chk 193 0 kc_193 = true := by decide +kernel
set_option maxRecDepth 20000 in
theorem kk_194 : am_chk 194 0 kc_194 = true := by decide +kernel
set_option maxRecDepth 20000 in
theorem kk_195 : am_chk 195 0 kc_195 = true := by decide +kernel
set_option maxRecDepth 20000 in
theorem kk_196 : am_chk 196 0 kc_196 = true := by decide +kernel
set_option maxRecDepth 20000 in
theorem kk_197 : am_chk 197 0 kc_197 = true := by decide +kernel
set_option maxRecDepth 20000 in
theorem kk_198 : am_chk 198 0 kc_198 = true := by decide +kernel
set_option maxRecDepth 20000 in
theorem kk_199 : am_chk 199 0 kc_199 = true := by decide +kernel
set_option maxRecDepth 20000 in
theorem kk_200 : am_chk 200 0 kc_200 = true := by decide +kernel
set_option maxRecDepth 20000 in
theorem kk_201 : am_chk 201 0 kc_201 = true := by decide +kernel
set_option maxRecDepth 20000 in
theorem kk_202 : am_chk 202 0 kc_202 = true := by decide +kernel
set_option maxRecDepth 20000 in
theorem kk_203 : am_chk 203 0 kc_203 = true := by decide +kernel
set_option maxRecDepth 20000 in
theorem kk_204 : am_chk 204 0 kc_204 = true := by decide +kernel
set_option maxRecDepth 20000 in
theorem kk_205 : am_chk 205 0 kc_205 = true := by decide +kernel
set_option maxRecDepth 20000 in
theorem kk_206 : am_chk 206 0 kc_206 = true := by decide +kernel
set_option maxRecDepth 20000 in
theorem kk_207 : am_chk 207 0 kc_207 = true := by decide +kernel
set_option maxRecDepth 20000 in
theorem kk_208 : am_chk 208 0 kc_208 = true := by decide +kernel
set_option maxRecDepth 20000 in
theorem kk_209 : am_chk 209 0 kc_209 = true := by decide +kernel
set_option maxRecDepth 20000 in
theorem kk_210 : am_chk 210 0 kc_210 = true := by decide +kernel
set_option maxRecDepth 20000 in
theorem kk_211 : am_chk 211 0 kc_211 = true := by decide +kernel
set_option maxRecDepth 20000 in
theorem kk_212 : am_chk 212 0 kc_212 = true := by decide +kernel
set_option maxRecDepth 20000 in
theorem kk_213 : am_chk 213 0 kc_213 = true := by decide +kernel
set_option maxRecDepth 20000 in
theorem kk_214 : am_chk 214 0 kc_214 = true := by decide +kernel
set_option maxRecDepth 20000 in
theorem kk_215 : am_chk 215 0 kc_215 = true := by decide +kernel
set_option maxRecDepth 20000 in
theorem kk_216 : am_chk 216 0 kc_216 = true := by decide +kernel
set_option maxRecDepth 20000 in
theorem kk_217 : am_chk 217 0 kc_217 = true := by decide +kernel
set_option maxRecDepth 20000 in
theorem kk_218 : am_chk 218 0 kc_218 = true := by decide +kernel
set_option maxRecDepth 20000 in
theorem kk_219 : am_chk 219 0 kc_219 = true := by decide +kernel
set_option maxRecDepth 20000 in
theorem kk_220 : am_chk 220 0 kc_220 = true := by decide +kernel
set_option maxRecDepth 20000 in
theorem kk_221 : am_chk 221 0 kc_221 = true := by decide +kernel
set_option maxRecDepth 20000 in
theorem kk_222 : am_chk 222 0 kc_222 = true := by decide +kernel
set_option maxRecDepth 20000 in
theorem kk_223 : am_chk 223 0 kc_223 = true := by decide +kernel
set_option maxRecDepth 20000 in
theorem kk_224 : am_chk 224 0 kc_224 = true := by decide +kernel
set_option maxRecDepth 20000 in
theorem kk_225 : am_chk 225 0 kc_225 = true := by decide +kernel
set_option maxRecDepth 20000 in
theorem kk_226 : am_chk 226 0 kc_226 = true := by decide +kernel
set_option maxRecDepth 20000 in
theorem kk_227 : am_chk 227 0 kc_227 = true := by decide +kernel
set_option maxRecDepth 20000 in
theorem kk_228 : am_chk 228 0 kc_228 = true := by decide +kernel
set_option maxRecDepth 20000 in
theorem kk_229 : am_chk 229 0 kc_229 = true := by decide +kernel
set_option maxRecDepth 20000 in
theorem kk_230 : am_chk 230 0 kc_230 = true := by decide +kernel
set_option maxRecDepth 20000 in
theorem kk_231 : am_chk 231 0 kc_231 = true := by decide +kernel
set_option maxRecDepth 20000 in
theorem kk_232 : am_chk 232 0 kc_232 = true := by decide +kernel
set_option maxRecDepth 20000 in
theorem kk_233 : am_chk 233 0 kc_233 = true := by decide +kernel
set_option maxRecDepth 20000 in
theorem kk_234 : am_chk 234 0 kc_234 = true := by decide +kernel
set_option maxRecDepth 20000 in
theorem kk_235 : am_chk 235 0 kc_235 = true := by decide +kernel
set_option maxRecDepth 20000 in
theorem kk_236 : am_chk 236 0 kc_236 = true := by decide +kernel
set_option maxRecDepth 20000 in
theorem kk_237 : am_chk 237 0 kc_237 = true := by decide +kernel
set_option maxRecDepth 20000 in
theorem kk_238 : am_chk 238 0 kc_238 = true := by decide +kernel
set_option maxRecDepth 20000 in
theorem kk_239 : am_chk 239 0 kc_239 = true := by decide +kernel
set_option maxRecDepth 20000 in
theorem kk_240 : am_chk 240 0 kc_240 = true := by decide +kernel
set_option maxRecDepth 20000 in
theorem kk_241 : am_chk 241 0 kc_241 = true := by decide +kernel
set_option maxRecDepth 20000 in
theorem kk_242 : am_chk 242 0 kc_242 = true := by decide +kernel
set_option maxRecDepth 20000 in
theorem kk_243 : am_chk 243 0 kc_243 = true := by decide +kernel
set_option maxRecDepth 20000 in
theorem kk_244 : am_chk 244 0 kc_244 = true := by decide +kernel
set_option maxRecDepth 20000 in
theorem kk_245 : am_chk 245 0 kc_245 = true := by decide +kernel
set_option maxRecDepth 20000 in
theorem kk_246 : am_chk 246 0 kc_246 = true := by decide +kernel
set_option maxRecDepth 20000 in
theorem kk_247 : am_chk 247 0 kc_247 = true := by decide +kernel
set_option maxRecDepth 20000 in
theorem kk_248 : am_chk 248 0 kc_248 = true := by decide +kernel
set_option maxRecDepth 20000 in
theorem kk_249 : am_chk 249 0 kc_249 = true := by decide +kernel
set_option maxRecDepth 20000 in
theorem kk_250 : am_chk 250 0 kc_250 = true := by decide +kernel
set_option maxRecDepth 20000 in
theorem kk_251 : am_chk 251 0 kc_251 = true := by decide +kernel
set_option maxRecDepth 20000 in
theorem kk_252 : am_chk 252 0 kc_252 = true := by decide +kernel
set_option maxRecDepth 20000 in
theorem kk_253 : am_chk 253 0 kc_253 = true := by decide +kernel
set_option maxRecDepth 20000 in
theorem kk_254 : am_chk 254 0 kc_254 = true := by decide +kernel
set_option maxRecDepth 20000 in
theorem kk_255 : am_chk 255 0 kc_255 = true := by decide +kernel
set_option maxRecDepth 20000 in
theorem kk_256 : am_chk 256 0 kc_256 = true := by decide +kernel
set_option maxRecDepth 20000 in
theorem kk_257 : am_chk 257 0 kc_257 = true := by decide +kernel
set_option maxRecDepth 20000 in
theorem kk_258 : am_chk 258 0 kc_258 = true := by decide +kernel
set_option maxRecDepth 20000 in
theorem kk_259 : am_chk 259 0 kc_259 = true := by decide +kernel
set_option maxRecDepth 20000 in
theorem kk_260 : am_chk 260 0 kc_260 = true := by decide +kernel
set_option maxRecDepth 20000 in
theorem kk_261 : am_chk 261 0 kc_261 = true := by decide +kernel
set_option maxRecDepth 20000 in
theorem kk_262 : am_chk 262 0 kc_262 = true := by decide +kernel
set_option maxRecDepth 20000 in
theorem kk_263 : am_chk 263 0 kc_263 = true := by decide +kernel
set_option maxRecDepth 20000 in
theorem kk_264 : am_chk 264 0 kc_264 = true := by decide +kernel
set_option maxRecDepth 20000 in
theorem kk_265 : am_chk 265 0 kc_265 = true := by decide +kernel
set_option maxRecDepth 20000 in
theorem kk_266 : am_chk 266 0 kc_266 = true := by decide +kernel
set_option maxRecDepth 20000 in
theorem kk_267 : am_chk 267 0 kc_267 = true := by decide +kernel
set_option maxRecDepth 20000 in
theorem kk_268 : am_chk 268 0 kc_268 = true := by decide +kernel
set_option maxRecDepth 20000 in
theorem kk_269 : am_chk 269 0 kc_269 = true := by decide +kernel
set_option maxRecDepth 20000 in
theorem kk_270 : am_chk 270 0 kc_270 = true := by decide +kernel
set_option maxRecDepth 20000 in
theorem kk_271 : am_chk 271 0 kc_271 = true := by decide +kernel
set_option maxRecDepth 20000 in
theorem kk_272 : am_chk 272 0 kc_272 = true := by decide +kernel
set_option maxRecDepth 20000 in
theorem kk_273 : am_chk 273 0 kc_273 = true := by decide +kernel
set_option maxRecDepth 20000 in
theorem kk_274 : am_chk 274 0 kc_274 = true := by decide +kernel
set_option maxRecDepth 20000 in
theorem kk_275 : am_chk 275 0 kc_275 = true := by decide +kernel
set_option maxRecDepth 20000 in
theorem kk_276 : am_chk 276 0 kc_276 = true := by decide +kernel
set_option maxRecDepth 20000 in
theorem kk_277 : am_chk 277 0 kc_277 = true := by decide +kernel
set_option maxRecDepth 20000 in
theorem kk_278 : am_chk 278 0 kc_278 = true := by decide +kernel
set_option maxRecDepth 20000 in
theorem kk_279 : am_chk 279 0 kc_279 = true := by decide +kernel
set_option maxRecDepth 20000 in
theorem kk_280 : am_chk 280 0 kc_280 = true := by decide +kernel
set_option maxRecDepth 20000 in
theorem kk_281 : am_chk 281 0 kc_281 = true := by decide +kernel
set_option maxRecDepth 20000 in
theorem kk_282 : am_chk 282 0 kc_282 = true := by decide +kernel
set_option maxRecDepth 20000 in
theorem kk_283 : am_chk 283 0 kc_283 = true := by decide +kernel
set_option maxRecDepth 20000 in
theorem kk_284 : am_chk 284 0 kc_284 = true := by decide +kernel
set_option maxRecDepth 20000 in
theorem kk_285 : am_chk 285 0 kc_285 = true := by decide +kernel
set_option maxRecDepth 20000 in
theorem kk_286 : am_chk 286 0 kc_286 = true := by decide +kernel
set_option maxRecDepth 20000 in
theorem kk_287 : am_chk 287 0 kc_287 = true := by decide +kernel
set_option maxRecDepth 20000 in
theorem kk_288 : am_chk 288 0 kc_288 = true := by decide +kernel
set_option maxRecDepth 20000 in
theorem kk_289 : am_chk 289 0 kc_289 = true := by decide +kernel
set_option maxRecDepth 20000 in
theorem kk_290 : am_chk 290 0 kc_290 = true := by decide +kernel
set_option maxRecDepth 20000 in
theorem kk_291 : am_chk 291 0 kc_291 = true := by decide +kernel
set_option maxRecDepth 20000 in
theorem kk_292 : am_chk 292 0 kc_292 = true := by decide +kernel
set_option maxRecDepth 20000 in
theorem kk_293 : am_chk 293 0 kc_293 = true := by decide +kernel
set_option maxRecDepth 20000 in
theorem kk_294 : am_chk 294 0 kc_294 = true := by decide +kernel
set_option maxRecDepth 20000 in
theorem kk_295 : am_chk 295 0 kc_295 = true := by decide +kernel
set_option maxRecDepth 20000 in
theorem kk_296 : am_chk 296 0 kc_296 = true := by decide +kernel
set_option maxRecDepth 20000 in
theorem kk_297 : am_chk 297 0 kc_297 = true := by decide +kernel
set_option maxRecDepth 20000 in
theorem kk_298 : am_chk 298 0 kc_298 = true := by decide +kernel
set_option maxRecDepth 20000 in
theorem kk_299 : am_chk 299 0 kc_299 = true := by decide +kernel
set_option maxRecDepth 20000 in
theorem kk_300 : am_chk 300 0 kc_300 = true := by decide +kernel
set_option maxRecDepth 20000 in
theorem kk_301 : am_chk 301 0 kc_301 = true := by decide +kernel
set_option maxRecDepth 20000 in
theorem kk_302 : am_chk 302 0 kc_302 = true := by decide +kernel
set_option maxRecDepth 20000 in
theorem kk_303 : am_chk 303 0 kc_303 = true := by decide +kernel
set_option maxRecDepth 20000 in
theorem kk_304 : am_chk 304 0 kc_304 = true := by decide +kernel
set_option maxRecDepth 20000 in
theorem kk_305 : am_chk 305 0 kc_305 = true := by decide +kernel
set_option maxRecDepth 20000 in
theorem kk_306 : am_chk 306 0 kc_306 = true := by decide +kernel
set_option maxRecDepth 20000 in
theorem kk_307 : am_chk 307 0 kc_307 = true := by decide +kernel
set_option maxRecDepth 20000 in
theorem kk_308 : am_chk 308 0 kc_308 = true := by decide +kernel
set_option maxRecDepth 20000 in
theorem kk_309 : am_chk 309 0 kc_309 = true := by decide +kernel
set_option maxRecDepth 20000 in
theorem kk_310 : am_chk 310 0 kc_310 = true := by decide +kernel
set_option maxRecDepth 20000 in
theorem kk_311 : am_chk 311 0 kc_311 = true := by decide +kernel
set_option maxRecDepth 20000 in
theorem kk_312 : am_chk 312 0 kc_312 = true := by decide +kernel
set_option maxRecDepth 20000 in
theorem kk_313 : am_chk 313 0 kc_313 = true := by decide +kernel
set_option maxRecDepth 20000 in
theorem kk_314 : am_chk 314 0 kc_314 = true := by decide +kernel
set_option maxRecDepth 20000 in
theorem kk_315 : am_chk 315 0 kc_315 = true := by decide +kernel
set_option maxRecDepth 20000 in
theorem kk_316 : am_chk 316 0 kc_316 = true := by decide +kernel
theorem kq_0 : ∀ k, k < 40 → am_chk (0 + k) 0 (am_cs0.getD k []) = true := fun k hk => by
  match k, hk with
  | 0, _ => exact kk_0
  | 1, _ => exact kk_1
  | 2, _ => exact kk_2
  | 3, _ => exact kk_3
  | 4, _ => exact kk_4
  | 5, _ => exact kk_5
  | 6, _ => exact kk_6
  | 7, _ => exact kk_7
  | 8, _ => exact kk_8
  | 9, _ => exact kk_9
  | 10, _ => exact kk_10
  | 11, _ => exact kk_11
  | 12, _ => exact kk_12
  | 13, _ => exact kk_13
  | 14, _ => exact kk_14
  | 15, _ => exact kk_15
  | 16, _ => exact kk_16
  | 17, _ => exact kk_17
  | 18, _ => exact kk_18
  | 19, _ => exact kk_19
  | 20, _ => exact kk_20
  | 21, _ => exact kk_21
  | 22, _ => exact kk_22
  | 23, _ => exact kk_23
  | 24, _ => exact kk_24
  | 25, _ => exact kk_25
  | 26, _ => exact kk_26
  | 27, _ => exact kk_27
  | 28, _ => exact kk_28
  | 29, _ => exact kk_29
  | 30, _ => exact kk_30
  | 31, _ => exact kk_31
  | 32, _ => exact kk_32
  | 33, _ => exact kk_33
  | 34, _ => exact kk_34
  | 35, _ => exact kk_35
  | 36, _ => exact kk_36
  | 37, _ => exact kk_37
  | 38, _ => exact kk_38
  | 39, _ => exact kk_39
  | k + 40, hk => exact absurd hk (by omega)
theorem kq_1 : ∀ k, k < 40 → am_chk (40 + k) 0 (am_cs1.getD k []) = true := fun k hk => by
  match k, hk with
  | 0, _ => exact kk_40
  | 1, _ => exact kk_41
  | 2, _ => exact kk_42
  | 3, _ => exact kk_43
  | 4, _ => exact kk_44
  | 5, _ => exact kk_45
  | 6, _ => exact kk_46
  | 7, _ => exact kk_47
  | 8, _ => exact kk_48
  | 9, _ => exact kk_49
  | 10, _ => exact kk_50
  | 11, _ => exact kk_51
  | 12, _ => exact kk_52
  | 13, _ => exact kk_53
  | 14, _ => exact kk_54
  | 15, _ => exact kk_55
  | 16, _ => exact kk_56
  | 17, _ => exact kk_57
  | 18, _ => exact kk_58
  | 19, _ => exact kk_59
  | 20, _ => exact kk_60
  | 21, _ => exact kk_61
  | 22, _ => exact kk_62
  | 23, _ => exact kk_63
  | 24, _ => exact kk_64
  | 25, _ => exact kk_65
  | 26, _ => exact kk_66
  | 27, _ => exact kk_67
  | 28, _ => exact kk_68
  | 29, _ => exact kk_69
  | 30, _ => exact kk_70
  | 31, _ => exact kk_71
  | 32, _ => exact kk_72
  | 33, _ => exact kk_73
  | 34, _ => exact kk_74
  | 35, _ => exact kk_75
  | 36, _ => exact kk_76
  | 37, _ => exact kk_77
  | 38, _ => exact kk_78
  | 39, _ => exact kk_79
  | k + 40, hk => exact absurd hk (by omega)
theorem kq_2 : ∀ k, k < 40 → am_chk (80 + k) 0 (am_cs2.getD k []) = true := fun k hk => by
  match k, hk with
  | 0, _ => exact kk_80
  | 1, _ => exact kk_81
  | 2, _ => exact kk_82
  | 3, _ => exact kk_83
  | 4, _ => exact kk_84
  | 5, _ => exact kk_85
  | 6, _ => exact kk_86
  | 7, _ => exact kk_87
  | 8, _ => exact kk_88
  | 9, _ => exact kk_89
  | 10, _ => exact kk_90
  | 11, _ => exact kk_91
  | 12, _ => exact kk_92
  | 13, _ => exact kk_93
  | 14, _ => exact kk_94
  | 15, _ => exact kk_95
  | 16, _ => exact kk_96
  | 17, _ => exact kk_97
  | 18, _ => exact kk_98
  | 19, _ => exact kk_99
  | 20, _ => exact kk_100
  | 21, _ => exact kk_101
  | 22, _ => exact kk_102
  | 23, _ => exact kk_103
  | 24, _ => exact kk_104
  | 25, _ => exact kk_105
  | 26, _ => exact kk_106
  | 27, _ => exact kk_107
  | 28, _ => exact kk_108
  | 29, _ => exact kk_109
  | 30, _ => exact kk_110
  | 31, _ => exact kk_111
  | 32, _ => exact kk_112
  | 33, _ => exact kk_113
  | 34, _ => exact kk_114
  | 35, _ => exact kk_115
  | 36, _ => exact kk_116
  | 37, _ => exact kk_117
  | 38, _ => exact kk_118
  | 39, _ => exact kk_119
  | k + 40, hk => exact absurd hk (by omega)
theorem kq_3 : ∀ k, k < 40 → am_chk (120 + k) 0 (am_cs3.getD k []) = true := fun k hk => by
  match k, hk with
  | 0, _ => exact kk_120
  | 1, _ => exact kk_121
  | 2, _ => exact kk_122
  | 3, _ => exact kk_123
  | 4, _ => exact kk_124
  | 5, _ => exact kk_125
  | 6, _ => exact kk_126
  | 7, _ => exact kk_127
  | 8, _ => exact kk_128
  | 9, _ => exact kk_129
  | 10, _ => exact kk_130
  | 11, _ => exact kk_131
  | 12, _ => exact kk_132
  | 13, _ => exact kk_133
  | 14, _ => exact kk_134
  | 15, _ => exact kk_135
  | 16, _ => exact kk_136
  | 17, _ => exact kk_137
  | 18, _ => exact kk_138
  | 19, _ => exact kk_139
  | 20, _ => exact kk_140
  | 21, _ => exact kk_141
  | 22, _ => exact kk_142
  | 23, _ => exact kk_143
  | 24, _ => exact kk_144
  | 25, _ => exact kk_145
  | 26, _ => exact kk_146
  | 27, _ => exact kk_147
  | 28, _ => exact kk_148
  | 29, _ => exact kk_149
  | 30, _ => exact kk_150
  | 31, _ => exact kk_151
  | 32, _ => exact kk_152
  | 33, _ => exact kk_153
  | 34, _ => exact kk_154
  | 35, _ => exact kk_155
  | 36, _ => exact kk_156
  | 37, _ => exact kk_157
  | 38, _ => exact kk_158
  | 39, _ => exact kk_159
  | k + 40, hk => exact absurd hk (by omega)
theorem kq_4 : ∀ k, k < 40 → am_chk (160 + k) 0 (am_cs4.getD k []) = true := fun k hk => by
  match k, hk with
  | 0, _ => exact kk_160
  | 1, _ => exact kk_161
  | 2, _ => exact kk_162
  | 3, _ => exact kk_163
  | 4, _ => exact kk_164
  | 5, _ => exact kk_165
  | 6, _ => exact kk_166
  | 7, _ => exact kk_167
  | 8, _ => exact kk_168
  | 9, _ => exact kk_169
  | 10, _ => exact kk_170
  | 11, _ => exact kk_171
  | 12, _ => exact kk_172
  | 13, _ => exact kk_173
  | 14, _ => exact kk_174
  | 15, _ => exact kk_175
  | 16, _ => exact kk_176
  | 17, _ => exact kk_177
  | 18, _ => exact kk_178
  | 19, _ => exact kk_179
  | 20, _ => exact kk_180
  | 21, _ => exact kk_181
  | 22, _ => exact kk_182
  | 23, _ => exact kk_183
  | 24, _ => exact kk_184
  | 25, _ => exact kk_185
  | 26, _ => exact kk_186
  | 27, _ => exact kk_187
  | 28, _ => exact kk_188
  | 29, _ => exact kk_189
  | 30, _ => exact kk_190
  | 31, _ => exact kk_191
  | 32, _ => exact kk_192
  | 33, _ => exact kk_193
  | 34, _ => exact kk_194
  | 35, _ => exact kk_195
  | 36, _ => exact kk_196
  | 37, _ => exact kk_197
  | 38, _ => exact kk_198
  | 39, _ => exact kk_199
  | k + 40, hk => exact absurd hk (by omega)
theorem kq_5 : ∀ k, k < 40 → am_chk (200 + k) 0 (am_cs5.getD k []) = true := fun k hk => by
  match k, hk with
  | 0, _ => exact kk_200
  | 1, _ => exact kk_201
  | 2, _ => exact kk_202
  | 3, _ => exact kk_203
  | 4, _ => exact kk_204
  | 5, _ => exact kk_205
  | 6, _ => exact kk_206
  | 7, _ => exact kk_207
  | 8, _ => exact kk_208
  | 9, _ => exact kk_209
  | 10, _ => exact kk_210
  | 11, _ => exact kk_211
  | 12, _ => exact kk_212
  | 13, _ => exact kk_213
  | 14, _ => exact kk_214
  | 15, _ => exact kk_215
  | 16, _ => exact kk_216
  | 17, _ => exact kk_217
  | 18, _ => exact kk_218
  | 19, _ => exact kk_219
  | 20, _ => exact kk_220
  | 21, _ => exact kk_221
  | 22, _ => exact kk_222
  | 23, _ => exact kk_223
  | 24, _ => exact kk_224
  | 25, _ => exact kk_225
  | 26, _ => exact kk_226
  | 27, _ => exact kk_227
  | 28, _ => exact kk_228
  | 29, _ => exact kk_229
  | 30, _ => exact kk_230
  | 31, _ => exact kk_231
  | 32, _ => exact kk_232
  | 33, _ => exact kk_233
  | 34, _ => exact kk_234
  | 35, _ => exact kk_235
  | 36, _ => exact kk_236
  | 37, _ => exact kk_237
  | 38, _ => exact kk_238
  | 39, _ => exact kk_239
  | k + 40, hk => exact absurd hk (by omega)
theorem kq_6 : ∀ k, k < 40 → am_chk (240 + k) 0 (am_cs6.getD k []) = true := fun k hk => by
  match k, hk with
  | 0, _ => exact kk_240
  | 1, _ => exact kk_241
  | 2, _ => exact kk_242
  | 3, _ => exact kk_243
  | 4, _ => exact kk_244
  | 5, _ => exact kk_245
  | 6, _ => exact kk_246
  | 7, _ => exact kk_247
  | 8, _ => exact kk_248
  | 9, _ => exact kk_249
  | 10, _ => exact kk_250
  | 11, _ => exact kk_251
  | 12, _ => exact kk_252
  | 13, _ => exact kk_253
  | 14, _ => exact kk_254
  | 15, _ => exact kk_255
  | 16, _ => exact kk_256
  | 17, _ => exact kk_257
  | 18, _ => exact kk_258
  | 19, _ => exact kk_259
  | 20, _ => exact kk_260
  | 21, _ => exact kk_261
  | 22, _ => exact kk_262
  | 23, _ => exact kk_263
  | 24, _ => exact kk_264
  | 25, _ => exact kk_265
  | 26, _ => exact kk_266
  | 27, _ => exact kk_267
  | 28, _ => exact kk_268
  | 29, _ => exact kk_269
  | 30, _ => exact kk_270
  | 31, _ => exact kk_271
  | 32, _ => exact kk_272
  | 33, _ => exact kk_273
  | 34, _ => exact kk_274
  | 35, _ => exact kk_275
  | 36, _ => exact kk_276
  | 37, _ => exact kk_277
  | 38, _ => exact kk_278
  | 39, _ => exact kk_279
  | k + 40, hk => exact absurd hk (by omega)
theorem kq_7 : ∀ k, k < 37 → am_chk (280 + k) 0 (am_cs7.getD k []) = true := fun k hk => by
  match k, hk with
  | 0, _ => exact kk_280
  | 1, _ => exact kk_281
  | 2, _ => exact kk_282
  | 3, _ => exact kk_283
  | 4, _ => exact kk_284
  | 5, _ => exact kk_285
  | 6, _ => exact kk_286
  | 7, _ => exact kk_287
  | 8, _ => exact kk_288
  | 9, _ => exact kk_289
  | 10, _ => exact kk_290
  | 11, _ => exact kk_291
  | 12, _ => exact kk_292
  | 13, _ => exact kk_293
  | 14, _ => exact kk_294
  | 15, _ => exact kk_295
  | 16, _ => exact kk_296
  | 17, _ => exact kk_297
  | 18, _ => exact kk_298
  | 19, _ => exact kk_299
  | 20, _ => exact kk_300
  | 21, _ => exact kk_301
  | 22, _ => exact kk_302
  | 23, _ => exact kk_303
  | 24, _ => exact kk_304
  | 25, _ => exact kk_305
  | 26, _ => exact kk_306
  | 27, _ => exact kk_307
  | 28, _ => exact kk_308
  | 29, _ => exact kk_309
  | 30, _ => exact kk_310
  | 31, _ => exact kk_311
  | 32, _ => exact kk_312
  | 33, _ => exact kk_313
  | 34, _ => exact kk_314
  | 35, _ => exact kk_315
  | 36, _ => exact kk_316
  | k + 37, hk => exact absurd hk (by omega)
theorem am_cka (y : Nat) : am_chk y 0 (am_cs.getD y []) = true := by
  have e : ∀ (a b : List (List am_I)) (k : Nat), (a ++ b).getD k [] = if k < a.length then a.getD k [] else b.getD (k - a.length) [] := fun a b k => by
    by_cases h : k < a.length
    · simp [List.getD, h, List.getElem?_append_left h]
    · simp [List.getD, h, List.getElem?_append_right (Nat.le_of_not_lt h)]
  unfold am_cs
  rw [e, show (am_cs0).length = 40 from rfl]
  by_cases h0 : y < 40
  · rw [if_pos h0]; have := kq_0 _ h0; rwa [show 0 + (y) = y by omega] at this
  rw [if_neg h0]
  rw [e, show (am_cs1).length = 40 from rfl]
  by_cases h1 : y - 40 < 40
  · rw [if_pos h1]; have := kq_1 _ h1; rwa [show 40 + (y - 40) = y by omega] at this
  rw [if_neg h1]
  rw [e, show (am_cs2).length = 40 from rfl]
  by_cases h2 : y - 40 - 40 < 40
  · rw [if_pos h2]; have := kq_2 _ h2; rwa [show 80 + (y - 40 - 40) = y by omega] at this
  rw [if_neg h2]
  rw [e, show (am_cs3).length = 40 from rfl]
  by_cases h3 : y - 40 - 40 - 40 < 40
  · rw [if_pos h3]; have := kq_3 _ h3; rwa [show 120 + (y - 40 - 40 - 40) = y by omega] at this
  rw [if_neg h3]
  rw [e, show (am_cs4).length = 40 from rfl]
  by_cases h4 : y - 40 - 40 - 40 - 40 < 40
  · rw [if_pos h4]; have := kq_4 _ h4; rwa [show 160 + (y - 40 - 40 - 40 - 40) = y by omega] at this
  rw [if_neg h4]
  rw [e, show (am_cs5).length = 40 from rfl]
  by_cases h5 : y - 40 - 40 - 40 - 40 - 40 < 40
  · rw [if_pos h5]; have := kq_5 _ h5; rwa [show 200 + (y - 40 - 40 - 40 - 40 - 40) = y by omega] at this
  rw [if_neg h5]
  rw [e, show (am_cs6).length = 40 from rfl]
  by_cases h6 : y - 40 - 40 - 40 - 40 - 40 - 40 < 40
  · rw [if_pos h6]; have := kq_6 _ h6; rwa [show 240 + (y - 40 - 40 - 40 - 40 - 40 - 40) = y by omega] at this
  rw [if_neg h6]
  by_cases h7 : y - 40 - 40 - 40 - 40 - 40 - 40 - 40 < 37
  · have := kq_7 _ h7; rwa [show 280 + (y - 40 - 40 - 40 - 40 - 40 - 40 - 40) = y by omega] at this
  · have z : am_cs7.getD (y - 40 - 40 - 40 - 40 - 40 - 40 - 40) [] = [] := by
      unfold List.getD
      rw [List.getElem?_eq_none (by rw [show (am_cs7).length = 37 from rfl]; omega)]
      rfl
    rw [z]; rfl
