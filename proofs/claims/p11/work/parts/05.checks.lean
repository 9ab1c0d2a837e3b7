theorem xchk_no {M pc : Nat} (h : xins M pc = none) : xchk M pc = true := by unfold xchk; rw [h]
theorem xk_0 : ∀ pc, pc < 164 → xchk 0 pc = true := by decide +kernel
theorem xk_1 : ∀ pc, pc < 133 → xchk 1 pc = true := by decide +kernel
theorem xk_2 : ∀ pc, pc < 43 → xchk 2 pc = true := by decide +kernel
theorem xk_3 : ∀ pc, pc < 32 → xchk 3 pc = true := by decide +kernel
theorem xk_4 : ∀ pc, pc < 103 → xchk 4 pc = true := by decide +kernel
theorem xk_5 : ∀ pc, pc < 21 → xchk 5 pc = true := by decide +kernel
theorem xk_6 : ∀ pc, pc < 29 → xchk 6 pc = true := by decide +kernel
theorem xk_7 : ∀ pc, pc < 50 → xchk 7 pc = true := by decide +kernel
theorem xk_8 : ∀ pc, pc < 13 → xchk 8 pc = true := by decide +kernel
theorem xk_9 : ∀ pc, pc < 38 → xchk 9 pc = true := by decide +kernel
theorem xk_10 : ∀ pc, pc < 14 → xchk 10 pc = true := by decide +kernel
theorem xk_11 : ∀ pc, pc < 23 → xchk 11 pc = true := by decide +kernel
theorem xk_12 : ∀ pc, pc < 5 → xchk 12 pc = true := by decide +kernel
theorem xk_13 : ∀ pc, pc < 68 → xchk 13 pc = true := by decide +kernel
theorem xk_14 : ∀ pc, pc < 47 → xchk 14 pc = true := by decide +kernel
theorem xk_15 : ∀ pc, pc < 88 → xchk 15 pc = true := by decide +kernel
theorem xk_16 : ∀ pc, pc < 185 → xchk 16 pc = true := by decide +kernel
theorem xk_17 : ∀ pc, pc < 33 → xchk 17 pc = true := by decide +kernel
theorem xk_18 : ∀ pc, pc < 27 → xchk 18 pc = true := by decide +kernel
theorem xk_19 : ∀ pc, pc < 140 → xchk 19 pc = true := by decide +kernel
theorem xk_20 : ∀ pc, pc < 18 → xchk 20 pc = true := by decide +kernel
theorem xk_21 : ∀ pc, pc < 113 → xchk 21 pc = true := by decide +kernel
theorem xk_22 : ∀ pc, pc < 78 → xchk 22 pc = true := by decide +kernel
theorem xk_23 : ∀ pc, pc < 11 → xchk 23 pc = true := by decide +kernel
theorem xk_24 : ∀ pc, pc < 14 → xchk 24 pc = true := by decide +kernel
theorem xk_25 : ∀ pc, pc < 22 → xchk 25 pc = true := by decide +kernel
theorem xk_26 : ∀ pc, pc < 19 → xchk 26 pc = true := by decide +kernel
theorem xk_27 : ∀ pc, pc < 13 → xchk 27 pc = true := by decide +kernel
theorem xk_28 : ∀ pc, pc < 10 → xchk 28 pc = true := by decide +kernel
theorem xk_29 : ∀ pc, pc < 18 → xchk 29 pc = true := by decide +kernel
theorem xk_30 : ∀ pc, pc < 8 → xchk 30 pc = true := by decide +kernel
theorem xk_31 : ∀ pc, pc < 9 → xchk 31 pc = true := by decide +kernel
theorem xk_32 : ∀ pc, pc < 5 → xchk 32 pc = true := by decide +kernel
theorem xk_33 : ∀ pc, pc < 58 → xchk 33 pc = true := by decide +kernel
theorem xk_34 : ∀ pc, pc < 18 → xchk 34 pc = true := by decide +kernel
theorem xk_35 : ∀ pc, pc < 76 → xchk 35 pc = true := by decide +kernel
theorem xk_36 : ∀ pc, pc < 178 → xchk 36 pc = true := by decide +kernel
theorem xk_37 : ∀ pc, pc < 38 → xchk 37 pc = true := by decide +kernel
theorem xk_38 : ∀ pc, pc < 129 → xchk 38 pc = true := by decide +kernel
theorem xk_39 : ∀ pc, pc < 21 → xchk 39 pc = true := by decide +kernel
theorem xk_40 : ∀ pc, pc < 30 → xchk 40 pc = true := by decide +kernel
theorem xk_41 : ∀ pc, pc < 44 → xchk 41 pc = true := by decide +kernel
theorem xk_42 : ∀ pc, pc < 49 → xchk 42 pc = true := by decide +kernel
theorem xk_43 : ∀ pc, pc < 170 → xchk 43 pc = true := by decide +kernel
theorem xk_44 : ∀ pc, pc < 39 → xchk 44 pc = true := by decide +kernel
theorem xk_45 : ∀ pc, pc < 84 → xchk 45 pc = true := by decide +kernel
theorem xk_46 : ∀ pc, pc < 136 → xchk 46 pc = true := by decide +kernel
theorem xk_47 : ∀ pc, pc < 30 → xchk 47 pc = true := by decide +kernel
theorem xk_48 : ∀ pc, pc < 157 → xchk 48 pc = true := by decide +kernel
theorem xk_49 : ∀ pc, pc < 30 → xchk 49 pc = true := by decide +kernel
theorem xk_50 : ∀ pc, pc < 37 → xchk 50 pc = true := by decide +kernel
theorem xk_51 : ∀ pc, pc < 166 → xchk 51 pc = true := by decide +kernel
theorem xk_52 : ∀ pc, pc < 21 → xchk 52 pc = true := by decide +kernel
theorem xk_53 : ∀ pc, pc < 21 → xchk 53 pc = true := by decide +kernel
theorem xk_54 : ∀ pc, pc < 151 → xchk 54 pc = true := by decide +kernel
theorem xk_55 : ∀ pc, pc < 36 → xchk 55 pc = true := by decide +kernel
theorem xk_56 : ∀ pc, pc < 18 → xchk 56 pc = true := by decide +kernel
theorem xk_57 : ∀ pc, pc < 26 → xchk 57 pc = true := by decide +kernel
theorem xk_58 : ∀ pc, pc < 135 → xchk 58 pc = true := by decide +kernel
theorem xk_59 : ∀ pc, pc < 40 → xchk 59 pc = true := by decide +kernel
theorem xk_60 : ∀ pc, pc < 40 → xchk 60 pc = true := by decide +kernel
theorem xk_61 : ∀ pc, pc < 111 → xchk 61 pc = true := by decide +kernel
theorem xk_62 : ∀ pc, pc < 53 → xchk 62 pc = true := by decide +kernel
theorem xk_63 : ∀ pc, pc < 18 → xchk 63 pc = true := by decide +kernel
theorem xk_64 : ∀ pc, pc < 11 → xchk 64 pc = true := by decide +kernel
theorem xk_65 : ∀ pc, pc < 113 → xchk 65 pc = true := by decide +kernel
theorem xk_66 : ∀ pc, pc < 133 → xchk 66 pc = true := by decide +kernel
theorem xk_67 : ∀ pc, pc < 6 → xchk 67 pc = true := by decide +kernel
theorem xk_68 : ∀ pc, pc < 11 → xchk 68 pc = true := by decide +kernel
theorem xk_69 : ∀ pc, pc < 46 → xchk 69 pc = true := by decide +kernel
theorem xk_70 : ∀ pc, pc < 48 → xchk 70 pc = true := by decide +kernel
theorem xk_71 : ∀ pc, pc < 141 → xchk 71 pc = true := by decide +kernel
theorem xk_72 : ∀ pc, pc < 21 → xchk 72 pc = true := by decide +kernel
theorem xk_73 : ∀ pc, pc < 47 → xchk 73 pc = true := by decide +kernel
theorem xk_74 : ∀ pc, pc < 22 → xchk 74 pc = true := by decide +kernel
theorem xk_75 : ∀ pc, pc < 122 → xchk 75 pc = true := by decide +kernel
theorem xk_76 : ∀ pc, pc < 81 → xchk 76 pc = true := by decide +kernel
theorem xk_77 : ∀ pc, pc < 72 → xchk 77 pc = true := by decide +kernel
theorem xk_78 : ∀ pc, pc < 223 → xchk 78 pc = true := by decide +kernel
theorem xk_79 : ∀ pc, pc < 280 → xchk 79 pc = true := by decide +kernel
theorem xk_80 : ∀ pc, pc < 23 → xchk 80 pc = true := by decide +kernel
theorem xk_81 : ∀ pc, pc < 18 → xchk 81 pc = true := by decide +kernel
theorem xk_82 : ∀ pc, pc < 59 → xchk 82 pc = true := by decide +kernel
theorem xk_83 : ∀ pc, pc < 73 → xchk 83 pc = true := by decide +kernel
theorem xk_84 : ∀ pc, pc < 37 → xchk 84 pc = true := by decide +kernel
theorem xk_85 : ∀ pc, pc < 21 → xchk 85 pc = true := by decide +kernel
theorem xk_86 : ∀ pc, pc < 17 → xchk 86 pc = true := by decide +kernel
theorem xk_87 : ∀ pc, pc < 108 → xchk 87 pc = true := by decide +kernel
theorem xk_88 : ∀ pc, pc < 56 → xchk 88 pc = true := by decide +kernel
theorem xk_89 : ∀ pc, pc < 33 → xchk 89 pc = true := by decide +kernel
theorem xk_90 : ∀ pc, pc < 30 → xchk 90 pc = true := by decide +kernel
theorem xk_91 : ∀ pc, pc < 41 → xchk 91 pc = true := by decide +kernel
theorem xk_92 : ∀ pc, pc < 63 → xchk 92 pc = true := by decide +kernel
theorem xk_93 : ∀ pc, pc < 107 → xchk 93 pc = true := by decide +kernel
theorem xk_94 : ∀ pc, pc < 83 → xchk 94 pc = true := by decide +kernel
theorem xk_95 : ∀ pc, pc < 33 → xchk 95 pc = true := by decide +kernel
theorem xk_96 : ∀ pc, pc < 67 → xchk 96 pc = true := by decide +kernel
theorem xk_97 : ∀ pc, pc < 66 → xchk 97 pc = true := by decide +kernel
theorem xk_98 : ∀ pc, pc < 14 → xchk 98 pc = true := by decide +kernel
theorem xk_99 : ∀ pc, pc < 122 → xchk 99 pc = true := by decide +kernel
theorem xk_100 : ∀ pc, pc < 29 → xchk 100 pc = true := by decide +kernel
theorem xk_101 : ∀ pc, pc < 86 → xchk 101 pc = true := by decide +kernel
theorem xk_102 : ∀ pc, pc < 19 → xchk 102 pc = true := by decide +kernel
theorem xk_103 : ∀ pc, pc < 95 → xchk 103 pc = true := by decide +kernel
theorem xk_104 : ∀ pc, pc < 16 → xchk 104 pc = true := by decide +kernel
theorem xk_105 : ∀ pc, pc < 142 → xchk 105 pc = true := by decide +kernel
theorem xk_106 : ∀ pc, pc < 59 → xchk 106 pc = true := by decide +kernel
theorem xk_107 : ∀ pc, pc < 25 → xchk 107 pc = true := by decide +kernel
theorem xk_108 : ∀ pc, pc < 98 → xchk 108 pc = true := by decide +kernel
theorem xk_109 : ∀ pc, pc < 39 → xchk 109 pc = true := by decide +kernel
theorem xk_110 : ∀ pc, pc < 40 → xchk 110 pc = true := by decide +kernel
theorem xk_111 : ∀ pc, pc < 34 → xchk 111 pc = true := by decide +kernel
theorem xk_112 : ∀ pc, pc < 114 → xchk 112 pc = true := by decide +kernel
theorem xk_113 : ∀ pc, pc < 53 → xchk 113 pc = true := by decide +kernel
theorem xk_114 : ∀ pc, pc < 71 → xchk 114 pc = true := by decide +kernel
theorem xk_115 : ∀ pc, pc < 62 → xchk 115 pc = true := by decide +kernel
theorem xk_116 : ∀ pc, pc < 102 → xchk 116 pc = true := by decide +kernel
theorem xk_117 : ∀ pc, pc < 90 → xchk 117 pc = true := by decide +kernel
theorem xk_118 : ∀ pc, pc < 12 → xchk 118 pc = true := by decide +kernel
theorem xk_119 : ∀ pc, pc < 193 → xchk 119 pc = true := by decide +kernel
theorem xk_120 : ∀ pc, pc < 44 → xchk 120 pc = true := by decide +kernel
theorem xk_121 : ∀ pc, pc < 10 → xchk 121 pc = true := by decide +kernel
theorem xk_122 : ∀ pc, pc < 98 → xchk 122 pc = true := by decide +kernel
theorem xk_123 : ∀ pc, pc < 119 → xchk 123 pc = true := by decide +kernel
theorem xk_124 : ∀ pc, pc < 52 → xchk 124 pc = true := by decide +kernel
theorem xk_125 : ∀ pc, pc < 201 → xchk 125 pc = true := by decide +kernel
theorem xk_126 : ∀ pc, pc < 34 → xchk 126 pc = true := by decide +kernel
theorem xk_127 : ∀ pc, pc < 31 → xchk 127 pc = true := by decide +kernel
theorem xk_128 : ∀ pc, pc < 33 → xchk 128 pc = true := by decide +kernel
theorem xk_129 : ∀ pc, pc < 62 → xchk 129 pc = true := by decide +kernel
theorem xk_130 : ∀ pc, pc < 67 → xchk 130 pc = true := by decide +kernel
theorem xk_131 : ∀ pc, pc < 23 → xchk 131 pc = true := by decide +kernel
theorem xk_132 : ∀ pc, pc < 150 → xchk 132 pc = true := by decide +kernel
theorem xk_133 : ∀ pc, pc < 23 → xchk 133 pc = true := by decide +kernel
theorem xk_134 : ∀ pc, pc < 109 → xchk 134 pc = true := by decide +kernel
theorem xk_135 : ∀ pc, pc < 26 → xchk 135 pc = true := by decide +kernel
theorem xk_136 : ∀ pc, pc < 88 → xchk 136 pc = true := by decide +kernel
theorem xk_137 : ∀ pc, pc < 28 → xchk 137 pc = true := by decide +kernel
theorem xk_138 : ∀ pc, pc < 72 → xchk 138 pc = true := by decide +kernel
theorem xk_139 : ∀ pc, pc < 73 → xchk 139 pc = true := by decide +kernel
theorem xk_140 : ∀ pc, pc < 28 → xchk 140 pc = true := by decide +kernel
theorem xk_141 : ∀ pc, pc < 48 → xchk 141 pc = true := by decide +kernel
theorem xk_142 : ∀ pc, pc < 104 → xchk 142 pc = true := by decide +kernel
theorem xk_143 : ∀ pc, pc < 136 → xchk 143 pc = true := by decide +kernel
theorem xk_144 : ∀ pc, pc < 84 → xchk 144 pc = true := by decide +kernel
theorem xk_145 : ∀ pc, pc < 49 → xchk 145 pc = true := by decide +kernel
theorem xk_146 : ∀ pc, pc < 69 → xchk 146 pc = true := by decide +kernel
theorem xk_147 : ∀ pc, pc < 29 → xchk 147 pc = true := by decide +kernel
theorem xk_148 : ∀ pc, pc < 28 → xchk 148 pc = true := by decide +kernel
theorem xk_149 : ∀ pc, pc < 83 → xchk 149 pc = true := by decide +kernel
theorem xk_150 : ∀ pc, pc < 70 → xchk 150 pc = true := by decide +kernel
theorem xk_151 : ∀ pc, pc < 27 → xchk 151 pc = true := by decide +kernel
theorem xk_152 : ∀ pc, pc < 79 → xchk 152 pc = true := by decide +kernel
theorem xk_153 : ∀ pc, pc < 39 → xchk 153 pc = true := by decide +kernel
theorem xk_154 : ∀ pc, pc < 25 → xchk 154 pc = true := by decide +kernel
theorem xk_155 : ∀ pc, pc < 51 → xchk 155 pc = true := by decide +kernel
theorem xk_156 : ∀ pc, pc < 133 → xchk 156 pc = true := by decide +kernel
theorem xk_157 : ∀ pc, pc < 56 → xchk 157 pc = true := by decide +kernel
theorem xk_158 : ∀ pc, pc < 30 → xchk 158 pc = true := by decide +kernel
theorem xk_159 : ∀ pc, pc < 105 → xchk 159 pc = true := by decide +kernel
theorem xk_160 : ∀ pc, pc < 32 → xchk 160 pc = true := by decide +kernel
theorem xk_161 : ∀ pc, pc < 130 → xchk 161 pc = true := by decide +kernel
theorem xk_162 : ∀ pc, pc < 60 → xchk 162 pc = true := by decide +kernel
theorem xk_163 : ∀ pc, pc < 24 → xchk 163 pc = true := by decide +kernel
theorem xk_164 : ∀ pc, pc < 35 → xchk 164 pc = true := by decide +kernel
theorem xk_165 : ∀ pc, pc < 189 → xchk 165 pc = true := by decide +kernel
theorem xk_166 : ∀ pc, pc < 32 → xchk 166 pc = true := by decide +kernel
theorem xk_167 : ∀ pc, pc < 32 → xchk 167 pc = true := by decide +kernel
theorem xk_168 : ∀ pc, pc < 32 → xchk 168 pc = true := by decide +kernel
theorem xk_169 : ∀ pc, pc < 41 → xchk 169 pc = true := by decide +kernel
theorem xk_170 : ∀ pc, pc < 128 → xchk 170 pc = true := by decide +kernel
theorem xk_171_0 : ∀ j, j < 100 → xchk 171 (0 + j) = true := by decide +kernel
theorem xk_171_100 : ∀ j, j < 100 → xchk 171 (100 + j) = true := by decide +kernel
theorem xk_171_200 : ∀ j, j < 100 → xchk 171 (200 + j) = true := by decide +kernel
theorem xk_171_300 : ∀ j, j < 100 → xchk 171 (300 + j) = true := by decide +kernel
theorem xk_171_400 : ∀ j, j < 100 → xchk 171 (400 + j) = true := by decide +kernel
theorem xk_171_500 : ∀ j, j < 100 → xchk 171 (500 + j) = true := by decide +kernel
theorem xk_171_600 : ∀ j, j < 100 → xchk 171 (600 + j) = true := by decide +kernel
theorem xk_171_700 : ∀ j, j < 100 → xchk 171 (700 + j) = true := by decide +kernel
theorem xk_171_800 : ∀ j, j < 100 → xchk 171 (800 + j) = true := by decide +kernel
theorem xk_171_900 : ∀ j, j < 100 → xchk 171 (900 + j) = true := by decide +kernel
theorem xk_171_1000 : ∀ j, j < 24 → xchk 171 (1000 + j) = true := by decide +kernel
theorem xk_171 : ∀ pc, pc < 1024 → xchk 171 pc = true := by
  intro pc h
  rcases Nat.lt_or_ge pc 100 with q | q
  · have e := xk_171_0 (pc - 0) (by omega)
    rwa [show 0 + (pc - 0) = pc by omega] at e
  rcases Nat.lt_or_ge pc 200 with q | q
  · have e := xk_171_100 (pc - 100) (by omega)
    rwa [show 100 + (pc - 100) = pc by omega] at e
  rcases Nat.lt_or_ge pc 300 with q | q
  · have e := xk_171_200 (pc - 200) (by omega)
    rwa [show 200 + (pc - 200) = pc by omega] at e
  rcases Nat.lt_or_ge pc 400 with q | q
  · have e := xk_171_300 (pc - 300) (by omega)
    rwa [show 300 + (pc - 300) = pc by omega] at e
  rcases Nat.lt_or_ge pc 500 with q | q
  · have e := xk_171_400 (pc - 400) (by omega)
    rwa [show 400 + (pc - 400) = pc by omega] at e
  rcases Nat.lt_or_ge pc 600 with q | q
  · have e := xk_171_500 (pc - 500) (by omega)
    rwa [show 500 + (pc - 500) = pc by omega] at e
  rcases Nat.lt_or_ge pc 700 with q | q
  · have e := xk_171_600 (pc - 600) (by omega)
    rwa [show 600 + (pc - 600) = pc by omega] at e
  rcases Nat.lt_or_ge pc 800 with q | q
  · have e := xk_171_700 (pc - 700) (by omega)
    rwa [show 700 + (pc - 700) = pc by omega] at e
  rcases Nat.lt_or_ge pc 900 with q | q
  · have e := xk_171_800 (pc - 800) (by omega)
    rwa [show 800 + (pc - 800) = pc by omega] at e
  rcases Nat.lt_or_ge pc 1000 with q | q
  · have e := xk_171_900 (pc - 900) (by omega)
    rwa [show 900 + (pc - 900) = pc by omega] at e
  have e := xk_171_1000 (pc - 1000) (by omega)
  rwa [show 1000 + (pc - 1000) = pc by omega] at e
theorem xk_172 : ∀ pc, pc < 66 → xchk 172 pc = true := by decide +kernel
theorem xk_173 : ∀ pc, pc < 249 → xchk 173 pc = true := by decide +kernel
theorem xk_174 : ∀ pc, pc < 22 → xchk 174 pc = true := by decide +kernel
theorem xk_175 : ∀ pc, pc < 30 → xchk 175 pc = true := by decide +kernel
theorem xk_176 : ∀ pc, pc < 107 → xchk 176 pc = true := by decide +kernel
theorem xk_177 : ∀ pc, pc < 11 → xchk 177 pc = true := by decide +kernel
theorem xk_178 : ∀ pc, pc < 129 → xchk 178 pc = true := by decide +kernel
theorem xk_179 : ∀ pc, pc < 83 → xchk 179 pc = true := by decide +kernel
theorem xk_180 : ∀ pc, pc < 282 → xchk 180 pc = true := by decide +kernel
theorem xk_181 : ∀ pc, pc < 36 → xchk 181 pc = true := by decide +kernel
theorem xk_182 : ∀ pc, pc < 128 → xchk 182 pc = true := by decide +kernel
theorem xk_183 : ∀ pc, pc < 47 → xchk 183 pc = true := by decide +kernel
theorem xk_184 : ∀ pc, pc < 36 → xchk 184 pc = true := by decide +kernel
theorem xk_185 : ∀ pc, pc < 291 → xchk 185 pc = true := by decide +kernel
theorem xk_186 : ∀ pc, pc < 224 → xchk 186 pc = true := by decide +kernel
theorem xk_187 : ∀ pc, pc < 15 → xchk 187 pc = true := by decide +kernel
theorem xk_188 : ∀ pc, pc < 124 → xchk 188 pc = true := by decide +kernel
theorem xk_189 : ∀ pc, pc < 48 → xchk 189 pc = true := by decide +kernel
theorem xk_190 : ∀ pc, pc < 30 → xchk 190 pc = true := by decide +kernel
theorem xk_191 : ∀ pc, pc < 46 → xchk 191 pc = true := by decide +kernel
theorem xk_192 : ∀ pc, pc < 16 → xchk 192 pc = true := by decide +kernel
theorem xk_193 : ∀ pc, pc < 189 → xchk 193 pc = true := by decide +kernel
theorem xk_194 : ∀ pc, pc < 49 → xchk 194 pc = true := by decide +kernel
theorem xk_195 : ∀ pc, pc < 68 → xchk 195 pc = true := by decide +kernel
theorem xk_196 : ∀ pc, pc < 130 → xchk 196 pc = true := by decide +kernel
theorem xk_197 : ∀ pc, pc < 159 → xchk 197 pc = true := by decide +kernel
theorem xk_198 : ∀ pc, pc < 22 → xchk 198 pc = true := by decide +kernel
theorem xk_199 : ∀ pc, pc < 50 → xchk 199 pc = true := by decide +kernel
theorem xk_200 : ∀ pc, pc < 81 → xchk 200 pc = true := by decide +kernel
theorem xk_201 : ∀ pc, pc < 22 → xchk 201 pc = true := by decide +kernel
theorem xk_202 : ∀ pc, pc < 175 → xchk 202 pc = true := by decide +kernel
theorem xk_203 : ∀ pc, pc < 21 → xchk 203 pc = true := by decide +kernel
theorem xk_204 : ∀ pc, pc < 27 → xchk 204 pc = true := by decide +kernel
theorem xk_205 : ∀ pc, pc < 29 → xchk 205 pc = true := by decide +kernel
theorem xk_206 : ∀ pc, pc < 73 → xchk 206 pc = true := by decide +kernel
theorem xk_207 : ∀ pc, pc < 259 → xchk 207 pc = true := by decide +kernel
theorem xk_208 : ∀ pc, pc < 77 → xchk 208 pc = true := by decide +kernel
theorem xk_209 : ∀ pc, pc < 59 → xchk 209 pc = true := by decide +kernel
theorem xk_210 : ∀ pc, pc < 20 → xchk 210 pc = true := by decide +kernel
theorem xk_211 : ∀ pc, pc < 30 → xchk 211 pc = true := by decide +kernel
theorem xk_212 : ∀ pc, pc < 48 → xchk 212 pc = true := by decide +kernel
theorem xk_213 : ∀ pc, pc < 122 → xchk 213 pc = true := by decide +kernel
theorem xk_214 : ∀ pc, pc < 18 → xchk 214 pc = true := by decide +kernel
theorem xk_215 : ∀ pc, pc < 7 → xchk 215 pc = true := by decide +kernel
theorem xk_216 : ∀ pc, pc < 141 → xchk 216 pc = true := by decide +kernel
theorem xk_217 : ∀ pc, pc < 19 → xchk 217 pc = true := by decide +kernel
theorem xk_218 : ∀ pc, pc < 60 → xchk 218 pc = true := by decide +kernel
theorem xk_219 : ∀ pc, pc < 76 → xchk 219 pc = true := by decide +kernel
theorem xk_220 : ∀ pc, pc < 46 → xchk 220 pc = true := by decide +kernel
theorem xk_221 : ∀ pc, pc < 62 → xchk 221 pc = true := by decide +kernel
theorem xk_222 : ∀ pc, pc < 34 → xchk 222 pc = true := by decide +kernel
theorem xk_223 : ∀ pc, pc < 45 → xchk 223 pc = true := by decide +kernel
theorem xk_224 : ∀ pc, pc < 57 → xchk 224 pc = true := by decide +kernel
theorem xk_225 : ∀ pc, pc < 64 → xchk 225 pc = true := by decide +kernel
theorem xk_226 : ∀ pc, pc < 280 → xchk 226 pc = true := by decide +kernel
theorem xk_227 : ∀ pc, pc < 45 → xchk 227 pc = true := by decide +kernel
theorem xk_228 : ∀ pc, pc < 87 → xchk 228 pc = true := by decide +kernel
theorem xk_229 : ∀ pc, pc < 108 → xchk 229 pc = true := by decide +kernel
theorem xk_230 : ∀ pc, pc < 128 → xchk 230 pc = true := by decide +kernel
theorem xk_231 : ∀ pc, pc < 18 → xchk 231 pc = true := by decide +kernel
theorem xk_232 : ∀ pc, pc < 59 → xchk 232 pc = true := by decide +kernel
theorem xk_233 : ∀ pc, pc < 19 → xchk 233 pc = true := by decide +kernel
theorem xk_234 : ∀ pc, pc < 47 → xchk 234 pc = true := by decide +kernel
theorem xk_235 : ∀ pc, pc < 89 → xchk 235 pc = true := by decide +kernel
theorem xk_236 : ∀ pc, pc < 39 → xchk 236 pc = true := by decide +kernel
theorem xk_237 : ∀ pc, pc < 188 → xchk 237 pc = true := by decide +kernel
theorem xk_238 : ∀ pc, pc < 47 → xchk 238 pc = true := by decide +kernel
theorem xk_239 : ∀ pc, pc < 75 → xchk 239 pc = true := by decide +kernel
theorem xk_240 : ∀ pc, pc < 68 → xchk 240 pc = true := by decide +kernel
theorem xk_241 : ∀ pc, pc < 61 → xchk 241 pc = true := by decide +kernel
theorem xk_242 : ∀ pc, pc < 48 → xchk 242 pc = true := by decide +kernel
theorem xk_243 : ∀ pc, pc < 76 → xchk 243 pc = true := by decide +kernel
theorem xk_244 : ∀ pc, pc < 202 → xchk 244 pc = true := by decide +kernel
theorem xk_245 : ∀ pc, pc < 33 → xchk 245 pc = true := by decide +kernel
theorem xk_246 : ∀ pc, pc < 76 → xchk 246 pc = true := by decide +kernel
theorem xk_247 : ∀ pc, pc < 120 → xchk 247 pc = true := by decide +kernel
theorem xk_248 : ∀ pc, pc < 19 → xchk 248 pc = true := by decide +kernel
theorem xk_249 : ∀ pc, pc < 111 → xchk 249 pc = true := by decide +kernel
theorem xk_250 : ∀ pc, pc < 167 → xchk 250 pc = true := by decide +kernel
theorem xk_251 : ∀ pc, pc < 40 → xchk 251 pc = true := by decide +kernel
theorem xk_252 : ∀ pc, pc < 15 → xchk 252 pc = true := by decide +kernel
theorem xk_253 : ∀ pc, pc < 158 → xchk 253 pc = true := by decide +kernel
theorem xk_254 : ∀ pc, pc < 26 → xchk 254 pc = true := by decide +kernel
theorem xk_255 : ∀ pc, pc < 236 → xchk 255 pc = true := by decide +kernel
theorem xk_256 : ∀ pc, pc < 21 → xchk 256 pc = true := by decide +kernel
theorem xk_257 : ∀ pc, pc < 11 → xchk 257 pc = true := by decide +kernel
theorem xk_258 : ∀ pc, pc < 29 → xchk 258 pc = true := by decide +kernel
theorem xk_259 : ∀ pc, pc < 135 → xchk 259 pc = true := by decide +kernel
theorem xk_260 : ∀ pc, pc < 43 → xchk 260 pc = true := by decide +kernel
theorem xk_261 : ∀ pc, pc < 249 → xchk 261 pc = true := by decide +kernel
theorem xk_262 : ∀ pc, pc < 52 → xchk 262 pc = true := by decide +kernel
theorem xk_263 : ∀ pc, pc < 63 → xchk 263 pc = true := by decide +kernel
theorem xk_264 : ∀ pc, pc < 34 → xchk 264 pc = true := by decide +kernel
theorem xk_265 : ∀ pc, pc < 304 → xchk 265 pc = true := by decide +kernel
theorem xk_266 : ∀ pc, pc < 98 → xchk 266 pc = true := by decide +kernel
theorem xk_267 : ∀ pc, pc < 26 → xchk 267 pc = true := by decide +kernel
theorem xk_268 : ∀ pc, pc < 42 → xchk 268 pc = true := by decide +kernel
theorem xk_269 : ∀ pc, pc < 227 → xchk 269 pc = true := by decide +kernel
theorem xk_270 : ∀ pc, pc < 30 → xchk 270 pc = true := by decide +kernel
theorem xk_271 : ∀ pc, pc < 64 → xchk 271 pc = true := by decide +kernel
theorem xk_272 : ∀ pc, pc < 72 → xchk 272 pc = true := by decide +kernel
theorem xk_273 : ∀ pc, pc < 39 → xchk 273 pc = true := by decide +kernel
theorem xk_274 : ∀ pc, pc < 26 → xchk 274 pc = true := by decide +kernel
theorem xk_275 : ∀ pc, pc < 128 → xchk 275 pc = true := by decide +kernel
theorem xk_276 : ∀ pc, pc < 19 → xchk 276 pc = true := by decide +kernel
theorem xk_277 : ∀ pc, pc < 50 → xchk 277 pc = true := by decide +kernel
theorem xk_278 : ∀ pc, pc < 104 → xchk 278 pc = true := by decide +kernel
theorem xk_279 : ∀ pc, pc < 177 → xchk 279 pc = true := by decide +kernel
theorem xk_280 : ∀ pc, pc < 33 → xchk 280 pc = true := by decide +kernel
theorem xk_281 : ∀ pc, pc < 81 → xchk 281 pc = true := by decide +kernel
theorem xk_282 : ∀ pc, pc < 34 → xchk 282 pc = true := by decide +kernel
theorem xk_283 : ∀ pc, pc < 44 → xchk 283 pc = true := by decide +kernel
theorem xk_284 : ∀ pc, pc < 68 → xchk 284 pc = true := by decide +kernel
theorem xk_285 : ∀ pc, pc < 94 → xchk 285 pc = true := by decide +kernel
theorem xk_286 : ∀ pc, pc < 103 → xchk 286 pc = true := by decide +kernel
theorem xk_287 : ∀ pc, pc < 265 → xchk 287 pc = true := by decide +kernel
theorem xk_288_0 : ∀ j, j < 100 → xchk 288 (0 + j) = true := by decide +kernel
theorem xk_288_100 : ∀ j, j < 100 → xchk 288 (100 + j) = true := by decide +kernel
theorem xk_288_200 : ∀ j, j < 100 → xchk 288 (200 + j) = true := by decide +kernel
theorem xk_288_300 : ∀ j, j < 100 → xchk 288 (300 + j) = true := by decide +kernel
theorem xk_288_400 : ∀ j, j < 100 → xchk 288 (400 + j) = true := by decide +kernel
theorem xk_288_500 : ∀ j, j < 100 → xchk 288 (500 + j) = true := by decide +kernel
theorem xk_288_600 : ∀ j, j < 100 → xchk 288 (600 + j) = true := by decide +kernel
theorem xk_288_700 : ∀ j, j < 100 → xchk 288 (700 + j) = true := by decide +kernel
theorem xk_288_800 : ∀ j, j < 100 → xchk 288 (800 + j) = true := by decide +kernel
theorem xk_288_900 : ∀ j, j < 100 → xchk 288 (900 + j) = true := by decide +kernel
theorem xk_288_1000 : ∀ j, j < 100 → xchk 288 (1000 + j) = true := by decide +kernel
theorem xk_288_1100 : ∀ j, j < 100 → xchk 288 (1100 + j) = true := by decide +kernel
theorem xk_288_1200 : ∀ j, j < 100 → xchk 288 (1200 + j) = true := by decide +kernel
theorem xk_288_1300 : ∀ j, j < 100 → xchk 288 (1300 + j) = true := by decide +kernel
theorem xk_288_1400 : ∀ j, j < 79 → xchk 288 (1400 + j) = true := by decide +kernel
theorem xk_288 : ∀ pc, pc < 1479 → xchk 288 pc = true := by
  intro pc h
  rcases Nat.lt_or_ge pc 100 with q | q
  · have e := xk_288_0 (pc - 0) (by omega)
    rwa [show 0 + (pc - 0) = pc by omega] at e
  rcases Nat.lt_or_ge pc 200 with q | q
  · have e := xk_288_100 (pc - 100) (by omega)
    rwa [show 100 + (pc - 100) = pc by omega] at e
  rcases Nat.lt_or_ge pc 300 with q | q
  · have e := xk_288_200 (pc - 200) (by omega)
    rwa [show 200 + (pc - 200) = pc by omega] at e
  rcases Nat.lt_or_ge pc 400 with q | q
  · have e := xk_288_300 (pc - 300) (by omega)
    rwa [show 300 + (pc - 300) = pc by omega] at e
  rcases Nat.lt_or_ge pc 500 with q | q
  · have e := xk_288_400 (pc - 400) (by omega)
    rwa [show 400 + (pc - 400) = pc by omega] at e
  rcases Nat.lt_or_ge pc 600 with q | q
  · have e := xk_288_500 (pc - 500) (by omega)
    rwa [show 500 + (pc - 500) = pc by omega] at e
  rcases Nat.lt_or_ge pc 700 with q | q
  · have e := xk_288_600 (pc - 600) (by omega)
    rwa [show 600 + (pc - 600) = pc by omega] at e
  rcases Nat.lt_or_ge pc 800 with q | q
  · have e := xk_288_700 (pc - 700) (by omega)
    rwa [show 700 + (pc - 700) = pc by omega] at e
  rcases Nat.lt_or_ge pc 900 with q | q
  · have e := xk_288_800 (pc - 800) (by omega)
    rwa [show 800 + (pc - 800) = pc by omega] at e
  rcases Nat.lt_or_ge pc 1000 with q | q
  · have e := xk_288_900 (pc - 900) (by omega)
    rwa [show 900 + (pc - 900) = pc by omega] at e
  rcases Nat.lt_or_ge pc 1100 with q | q
  · have e := xk_288_1000 (pc - 1000) (by omega)
    rwa [show 1000 + (pc - 1000) = pc by omega] at e
  rcases Nat.lt_or_ge pc 1200 with q | q
  · have e := xk_288_1100 (pc - 1100) (by omega)
    rwa [show 1100 + (pc - 1100) = pc by omega] at e
  rcases Nat.lt_or_ge pc 1300 with q | q
  · have e := xk_288_1200 (pc - 1200) (by omega)
    rwa [show 1200 + (pc - 1200) = pc by omega] at e
  rcases Nat.lt_or_ge pc 1400 with q | q
  · have e := xk_288_1300 (pc - 1300) (by omega)
    rwa [show 1300 + (pc - 1300) = pc by omega] at e
  have e := xk_288_1400 (pc - 1400) (by omega)
  rwa [show 1400 + (pc - 1400) = pc by omega] at e
theorem xkf_0 (pc : Nat) : xchk 0 pc = true := (Nat.lt_or_ge pc 164).elim (xk_0 pc) (fun h => xchk_no (show xi_0 pc = none from xg_out (Nat.not_lt.mpr h)))
theorem xkf_1 (pc : Nat) : xchk 1 pc = true := (Nat.lt_or_ge pc 133).elim (xk_1 pc) (fun h => xchk_no (show xi_1 pc = none from xg_out (Nat.not_lt.mpr h)))
theorem xkf_2 (pc : Nat) : xchk 2 pc = true := (Nat.lt_or_ge pc 43).elim (xk_2 pc) (fun h => xchk_no (show xi_2 pc = none from xg_out (Nat.not_lt.mpr h)))
theorem xkf_3 (pc : Nat) : xchk 3 pc = true := (Nat.lt_or_ge pc 32).elim (xk_3 pc) (fun h => xchk_no (show xi_3 pc = none from xg_out (Nat.not_lt.mpr h)))
theorem xkf_4 (pc : Nat) : xchk 4 pc = true := (Nat.lt_or_ge pc 103).elim (xk_4 pc) (fun h => xchk_no (show xi_4 pc = none from xg_out (Nat.not_lt.mpr h)))
theorem xkf_5 (pc : Nat) : xchk 5 pc = true := (Nat.lt_or_ge pc 21).elim (xk_5 pc) (fun h => xchk_no (show xi_5 pc = none from xg_out (Nat.not_lt.mpr h)))
theorem xkf_6 (pc : Nat) : xchk 6 pc = true := (Nat.lt_or_ge pc 29).elim (xk_6 pc) (fun h => xchk_no (show xi_6 pc = none from xg_out (Nat.not_lt.mpr h)))
theorem xkf_7 (pc : Nat) : xchk 7 pc = true := (Nat.lt_or_ge pc 50).elim (xk_7 pc) (fun h => xchk_no (show xi_7 pc = none from xg_out (Nat.not_lt.mpr h)))
theorem xkf_8 (pc : Nat) : xchk 8 pc = true := (Nat.lt_or_ge pc 13).elim (xk_8 pc) (fun h => xchk_no (show xi_8 pc = none from xg_out (Nat.not_lt.mpr h)))
theorem xkf_9 (pc : Nat) : xchk 9 pc = true := (Nat.lt_or_ge pc 38).elim (xk_9 pc) (fun h => xchk_no (show xi_9 pc = none from xg_out (Nat.not_lt.mpr h)))
theorem xkf_10 (pc : Nat) : xchk 10 pc = true := (Nat.lt_or_ge pc 14).elim (xk_10 pc) (fun h => xchk_no (show xi_10 pc = none from xg_out (Nat.not_lt.mpr h)))
theorem xkf_11 (pc : Nat) : xchk 11 pc = true := (Nat.lt_or_ge pc 23).elim (xk_11 pc) (fun h => xchk_no (show xi_11 pc = none from xg_out (Nat.not_lt.mpr h)))
theorem xkf_12 (pc : Nat) : xchk 12 pc = true := (Nat.lt_or_ge pc 5).elim (xk_12 pc) (fun h => xchk_no (show xi_12 pc = none from xg_out (Nat.not_lt.mpr h)))
theorem xkf_13 (pc : Nat) : xchk 13 pc = true := (Nat.lt_or_ge pc 68).elim (xk_13 pc) (fun h => xchk_no (show xi_13 pc = none from xg_out (Nat.not_lt.mpr h)))
theorem xkf_14 (pc : Nat) : xchk 14 pc = true := (Nat.lt_or_ge pc 47).elim (xk_14 pc) (fun h => xchk_no (show xi_14 pc = none from xg_out (Nat.not_lt.mpr h)))
theorem xkf_15 (pc : Nat) : xchk 15 pc = true := (Nat.lt_or_ge pc 88).elim (xk_15 pc) (fun h => xchk_no (show xi_15 pc = none from xg_out (Nat.not_lt.mpr h)))
theorem xkf_16 (pc : Nat) : xchk 16 pc = true := (Nat.lt_or_ge pc 185).elim (xk_16 pc) (fun h => xchk_no (show xi_16 pc = none from xg_out (Nat.not_lt.mpr h)))
theorem xkf_17 (pc : Nat) : xchk 17 pc = true := (Nat.lt_or_ge pc 33).elim (xk_17 pc) (fun h => xchk_no (show xi_17 pc = none from xg_out (Nat.not_lt.mpr h)))
theorem xkf_18 (pc : Nat) : xchk 18 pc = true := (Nat.lt_or_ge pc 27).elim (xk_18 pc) (fun h => xchk_no (show xi_18 pc = none from xg_out (Nat.not_lt.mpr h)))
theorem xkf_19 (pc : Nat) : xchk 19 pc = true := (Nat.lt_or_ge pc 140).elim (xk_19 pc) (fun h => xchk_no (show xi_19 pc = none from xg_out (Nat.not_lt.mpr h)))
theorem xkf_20 (pc : Nat) : xchk 20 pc = true := (Nat.lt_or_ge pc 18).elim (xk_20 pc) (fun h => xchk_no (show xi_20 pc = none from xg_out (Nat.not_lt.mpr h)))
theorem xkf_21 (pc : Nat) : xchk 21 pc = true := (Nat.lt_or_ge pc 113).elim (xk_21 pc) (fun h => xchk_no (show xi_21 pc = none from xg_out (Nat.not_lt.mpr h)))
theorem xkf_22 (pc : Nat) : xchk 22 pc = true := (Nat.lt_or_ge pc 78).elim (xk_22 pc) (fun h => xchk_no (show xi_22 pc = none from xg_out (Nat.not_lt.mpr h)))
theorem xkf_23 (pc : Nat) : xchk 23 pc = true := (Nat.lt_or_ge pc 11).elim (xk_23 pc) (fun h => xchk_no (show xi_23 pc = none from xg_out (Nat.not_lt.mpr h)))
theorem xkf_24 (pc : Nat) : xchk 24 pc = true := (Nat.lt_or_ge pc 14).elim (xk_24 pc) (fun h => xchk_no (show xi_24 pc = none from xg_out (Nat.not_lt.mpr h)))
theorem xkf_25 (pc : Nat) : xchk 25 pc = true := (Nat.lt_or_ge pc 22).elim (xk_25 pc) (fun h => xchk_no (show xi_25 pc = none from xg_out (Nat.not_lt.mpr h)))
theorem xkf_26 (pc : Nat) : xchk 26 pc = true := (Nat.lt_or_ge pc 19).elim (xk_26 pc) (fun h => xchk_no (show xi_26 pc = none from xg_out (Nat.not_lt.mpr h)))
theorem xkf_27 (pc : Nat) : xchk 27 pc = true := (Nat.lt_or_ge pc 13).elim (xk_27 pc) (fun h => xchk_no (show xi_27 pc = none from xg_out (Nat.not_lt.mpr h)))
theorem xkf_28 (pc : Nat) : xchk 28 pc = true := (Nat.lt_or_ge pc 10).elim (xk_28 pc) (fun h => xchk_no (show xi_28 pc = none from xg_out (Nat.not_lt.mpr h)))
theorem xkf_29 (pc : Nat) : xchk 29 pc = true := (Nat.lt_or_ge pc 18).elim (xk_29 pc) (fun h => xchk_no (show xi_29 pc = none from xg_out (Nat.not_lt.mpr h)))
theorem xkf_30 (pc : Nat) : xchk 30 pc = true := (Nat.lt_or_ge pc 8).elim (xk_30 pc) (fun h => xchk_no (show xi_30 pc = none from xg_out (Nat.not_lt.mpr h)))
theorem xkf_31 (pc : Nat) : xchk 31 pc = true := (Nat.lt_or_ge pc 9).elim (xk_31 pc) (fun h => xchk_no (show xi_31 pc = none from xg_out (Nat.not_lt.mpr h)))
theorem xkf_32 (pc : Nat) : xchk 32 pc = true := (Nat.lt_or_ge pc 5).elim (xk_32 pc) (fun h => xchk_no (show xi_32 pc = none from xg_out (Nat.not_lt.mpr h)))
theorem xkf_33 (pc : Nat) : xchk 33 pc = true := (Nat.lt_or_ge pc 58).elim (xk_33 pc) (fun h => xchk_no (show xi_33 pc = none from xg_out (Nat.not_lt.mpr h)))
theorem xkf_34 (pc : Nat) : xchk 34 pc = true := (Nat.lt_or_ge pc 18).elim (xk_34 pc) (fun h => xchk_no (show xi_34 pc = none from xg_out (Nat.not_lt.mpr h)))
theorem xkf_35 (pc : Nat) : xchk 35 pc = true := (Nat.lt_or_ge pc 76).elim (xk_35 pc) (fun h => xchk_no (show xi_35 pc = none from xg_out (Nat.not_lt.mpr h)))
theorem xkf_36 (pc : Nat) : xchk 36 pc = true := (Nat.lt_or_ge pc 178).elim (xk_36 pc) (fun h => xchk_no (show xi_36 pc = none from xg_out (Nat.not_lt.mpr h)))
theorem xkf_37 (pc : Nat) : xchk 37 pc = true := (Nat.lt_or_ge pc 38).elim (xk_37 pc) (fun h => xchk_no (show xi_37 pc = none from xg_out (Nat.not_lt.mpr h)))
theorem xkf_38 (pc : Nat) : xchk 38 pc = true := (Nat.lt_or_ge pc 129).elim (xk_38 pc) (fun h => xchk_no (show xi_38 pc = none from xg_out (Nat.not_lt.mpr h)))
theorem xkf_39 (pc : Nat) : xchk 39 pc = true := (Nat.lt_or_ge pc 21).elim (xk_39 pc) (fun h => xchk_no (show xi_39 pc = none from xg_out (Nat.not_lt.mpr h)))
theorem xkf_40 (pc : Nat) : xchk 40 pc = true := (Nat.lt_or_ge pc 30).elim (xk_40 pc) (fun h => xchk_no (show xi_40 pc = none from xg_out (Nat.not_lt.mpr h)))
theorem xkf_41 (pc : Nat) : xchk 41 pc = true := (Nat.lt_or_ge pc 44).elim (xk_41 pc) (fun h => xchk_no (show xi_41 pc = none from xg_out (Nat.not_lt.mpr h)))
theorem xkf_42 (pc : Nat) : xchk 42 pc = true := (Nat.lt_or_ge pc 49).elim (xk_42 pc) (fun h => xchk_no (show xi_42 pc = none from xg_out (Nat.not_lt.mpr h)))
theorem xkf_43 (pc : Nat) : xchk 43 pc = true := (Nat.lt_or_ge pc 170).elim (xk_43 pc) (fun h => xchk_no (show xi_43 pc = none from xg_out (Nat.not_lt.mpr h)))
theorem xkf_44 (pc : Nat) : xchk 44 pc = true := (Nat.lt_or_ge pc 39).elim (xk_44 pc) (fun h => xchk_no (show xi_44 pc = none from xg_out (Nat.not_lt.mpr h)))
theorem xkf_45 (pc : Nat) : xchk 45 pc = true := (Nat.lt_or_ge pc 84).elim (xk_45 pc) (fun h => xchk_no (show xi_45 pc = none from xg_out (Nat.not_lt.mpr h)))
theorem xkf_46 (pc : Nat) : xchk 46 pc = true := (Nat.lt_or_ge pc 136).elim (xk_46 pc) (fun h => xchk_no (show xi_46 pc = none from xg_out (Nat.not_lt.mpr h)))
theorem xkf_47 (pc : Nat) : xchk 47 pc = true := (Nat.lt_or_ge pc 30).elim (xk_47 pc) (fun h => xchk_no (show xi_47 pc = none from xg_out (Nat.not_lt.mpr h)))
theorem xkf_48 (pc : Nat) : xchk 48 pc = true := (Nat.lt_or_ge pc 157).elim (xk_48 pc) (fun h => xchk_no (show xi_48 pc = none from xg_out (Nat.not_lt.mpr h)))
theorem xkf_49 (pc : Nat) : xchk 49 pc = true := (Nat.lt_or_ge pc 30).elim (xk_49 pc) (fun h => xchk_no (show xi_49 pc = none from xg_out (Nat.not_lt.mpr h)))
theorem xkf_50 (pc : Nat) : xchk 50 pc = true := (Nat.lt_or_ge pc 37).elim (xk_50 pc) (fun h => xchk_no (show xi_50 pc = none from xg_out (Nat.not_lt.mpr h)))
theorem xkf_51 (pc : Nat) : xchk 51 pc = true := (Nat.lt_or_ge pc 166).elim (xk_51 pc) (fun h => xchk_no (show xi_51 pc = none from xg_out (Nat.not_lt.mpr h)))
theorem xkf_52 (pc : Nat) : xchk 52 pc = true := (Nat.lt_or_ge pc 21).elim (xk_52 pc) (fun h => xchk_no (show xi_52 pc = none from xg_out (Nat.not_lt.mpr h)))
theorem xkf_53 (pc : Nat) : xchk 53 pc = true := (Nat.lt_or_ge pc 21).elim (xk_53 pc) (fun h => xchk_no (show xi_53 pc = none from xg_out (Nat.not_lt.mpr h)))
theorem xkf_54 (pc : Nat) : xchk 54 pc = true := (Nat.lt_or_ge pc 151).elim (xk_54 pc) (fun h => xchk_no (show xi_54 pc = none from xg_out (Nat.not_lt.mpr h)))
theorem xkf_55 (pc : Nat) : xchk 55 pc = true := (Nat.lt_or_ge pc 36).elim (xk_55 pc) (fun h => xchk_no (show xi_55 pc = none from xg_out (Nat.not_lt.mpr h)))
theorem xkf_56 (pc : Nat) : xchk 56 pc = true := (Nat.lt_or_ge pc 18).elim (xk_56 pc) (fun h => xchk_no (show xi_56 pc = none from xg_out (Nat.not_lt.mpr h)))
theorem xkf_57 (pc : Nat) : xchk 57 pc = true := (Nat.lt_or_ge pc 26).elim (xk_57 pc) (fun h => xchk_no (show xi_57 pc = none from xg_out (Nat.not_lt.mpr h)))
theorem xkf_58 (pc : Nat) : xchk 58 pc = true := (Nat.lt_or_ge pc 135).elim (xk_58 pc) (fun h => xchk_no (show xi_58 pc = none from xg_out (Nat.not_lt.mpr h)))
theorem xkf_59 (pc : Nat) : xchk 59 pc = true := (Nat.lt_or_ge pc 40).elim (xk_59 pc) (fun h => xchk_no (show xi_59 pc = none from xg_out (Nat.not_lt.mpr h)))
theorem xkf_60 (pc : Nat) : xchk 60 pc = true := (Nat.lt_or_ge pc 40).elim (xk_60 pc) (fun h => xchk_no (show xi_60 pc = none from xg_out (Nat.not_lt.mpr h)))
theorem xkf_61 (pc : Nat) : xchk 61 pc = true := (Nat.lt_or_ge pc 111).elim (xk_61 pc) (fun h => xchk_no (show xi_61 pc = none from xg_out (Nat.not_lt.mpr h)))
theorem xkf_62 (pc : Nat) : xchk 62 pc = true := (Nat.lt_or_ge pc 53).elim (xk_62 pc) (fun h => xchk_no (show xi_62 pc = none from xg_out (Nat.not_lt.mpr h)))
theorem xkf_63 (pc : Nat) : xchk 63 pc = true := (Nat.lt_or_ge pc 18).elim (xk_63 pc) (fun h => xchk_no (show xi_63 pc = none from xg_out (Nat.not_lt.mpr h)))
theorem xkf_64 (pc : Nat) : xchk 64 pc = true := (Nat.lt_or_ge pc 11).elim (xk_64 pc) (fun h => xchk_no (show xi_64 pc = none from xg_out (Nat.not_lt.mpr h)))
theorem xkf_65 (pc : Nat) : xchk 65 pc = true := (Nat.lt_or_ge pc 113).elim (xk_65 pc) (fun h => xchk_no (show xi_65 pc = none from xg_out (Nat.not_lt.mpr h)))
theorem xkf_66 (pc : Nat) : xchk 66 pc = true := (Nat.lt_or_ge pc 133).elim (xk_66 pc) (fun h => xchk_no (show xi_66 pc = none from xg_out (Nat.not_lt.mpr h)))
theorem xkf_67 (pc : Nat) : xchk 67 pc = true := (Nat.lt_or_ge pc 6).elim (xk_67 pc) (fun h => xchk_no (show xi_67 pc = none from xg_out (Nat.not_lt.mpr h)))
theorem xkf_68 (pc : Nat) : xchk 68 pc = true := (Nat.lt_or_ge pc 11).elim (xk_68 pc) (fun h => xchk_no (show xi_68 pc = none from xg_out (Nat.not_lt.mpr h)))
theorem xkf_69 (pc : Nat) : xchk 69 pc = true := (Nat.lt_or_ge pc 46).elim (xk_69 pc) (fun h => xchk_no (show xi_69 pc = none from xg_out (Nat.not_lt.mpr h)))
theorem xkf_70 (pc : Nat) : xchk 70 pc = true := (Nat.lt_or_ge pc 48).elim (xk_70 pc) (fun h => xchk_no (show xi_70 pc = none from xg_out (Nat.not_lt.mpr h)))
theorem xkf_71 (pc : Nat) : xchk 71 pc = true := (Nat.lt_or_ge pc 141).elim (xk_71 pc) (fun h => xchk_no (show xi_71 pc = none from xg_out (Nat.not_lt.mpr h)))
theorem xkf_72 (pc : Nat) : xchk 72 pc = true := (Nat.lt_or_ge pc 21).elim (xk_72 pc) (fun h => xchk_no (show xi_72 pc = none from xg_out (Nat.not_lt.mpr h)))
theorem xkf_73 (pc : Nat) : xchk 73 pc = true := (Nat.lt_or_ge pc 47).elim (xk_73 pc) (fun h => xchk_no (show xi_73 pc = none from xg_out (Nat.not_lt.mpr h)))
theorem xkf_74 (pc : Nat) : xchk 74 pc = true := (Nat.lt_or_ge pc 22).elim (xk_74 pc) (fun h => xchk_no (show xi_74 pc = none from xg_out (Nat.not_lt.mpr h)))
theorem xkf_75 (pc : Nat) : xchk 75 pc = true := (Nat.lt_or_ge pc 122).elim (xk_75 pc) (fun h => xchk_no (show xi_75 pc = none from xg_out (Nat.not_lt.mpr h)))
theorem xkf_76 (pc : Nat) : xchk 76 pc = true := (Nat.lt_or_ge pc 81).elim (xk_76 pc) (fun h => xchk_no (show xi_76 pc = none from xg_out (Nat.not_lt.mpr h)))
theorem xkf_77 (pc : Nat) : xchk 77 pc = true := (Nat.lt_or_ge pc 72).elim (xk_77 pc) (fun h => xchk_no (show xi_77 pc = none from xg_out (Nat.not_lt.mpr h)))
theorem xkf_78 (pc : Nat) : xchk 78 pc = true := (Nat.lt_or_ge pc 223).elim (xk_78 pc) (fun h => xchk_no (show xi_78 pc = none from xg_out (Nat.not_lt.mpr h)))
theorem xkf_79 (pc : Nat) : xchk 79 pc = true := (Nat.lt_or_ge pc 280).elim (xk_79 pc) (fun h => xchk_no (show xi_79 pc = none from xg_out (Nat.not_lt.mpr h)))
theorem xkf_80 (pc : Nat) : xchk 80 pc = true := (Nat.lt_or_ge pc 23).elim (xk_80 pc) (fun h => xchk_no (show xi_80 pc = none from xg_out (Nat.not_lt.mpr h)))
theorem xkf_81 (pc : Nat) : xchk 81 pc = true := (Nat.lt_or_ge pc 18).elim (xk_81 pc) (fun h => xchk_no (show xi_81 pc = none from xg_out (Nat.not_lt.mpr h)))
theorem xkf_82 (pc : Nat) : xchk 82 pc = true := (Nat.lt_or_ge pc 59).elim (xk_82 pc) (fun h => xchk_no (show xi_82 pc = none from xg_out (Nat.not_lt.mpr h)))
theorem xkf_83 (pc : Nat) : xchk 83 pc = true := (Nat.lt_or_ge pc 73).elim (xk_83 pc) (fun h => xchk_no (show xi_83 pc = none from xg_out (Nat.not_lt.mpr h)))
theorem xkf_84 (pc : Nat) : xchk 84 pc = true := (Nat.lt_or_ge pc 37).elim (xk_84 pc) (fun h => xchk_no (show xi_84 pc = none from xg_out (Nat.not_lt.mpr h)))
theorem xkf_85 (pc : Nat) : xchk 85 pc = true := (Nat.lt_or_ge pc 21).elim (xk_85 pc) (fun h => xchk_no (show xi_85 pc = none from xg_out (Nat.not_lt.mpr h)))
theorem xkf_86 (pc : Nat) : xchk 86 pc = true := (Nat.lt_or_ge pc 17).elim (xk_86 pc) (fun h => xchk_no (show xi_86 pc = none from xg_out (Nat.not_lt.mpr h)))
theorem xkf_87 (pc : Nat) : xchk 87 pc = true := (Nat.lt_or_ge pc 108).elim (xk_87 pc) (fun h => xchk_no (show xi_87 pc = none from xg_out (Nat.not_lt.mpr h)))
theorem xkf_88 (pc : Nat) : xchk 88 pc = true := (Nat.lt_or_ge pc 56).elim (xk_88 pc) (fun h => xchk_no (show xi_88 pc = none from xg_out (Nat.not_lt.mpr h)))
theorem xkf_89 (pc : Nat) : xchk 89 pc = true := (Nat.lt_or_ge pc 33).elim (xk_89 pc) (fun h => xchk_no (show xi_89 pc = none from xg_out (Nat.not_lt.mpr h)))
theorem xkf_90 (pc : Nat) : xchk 90 pc = true := (Nat.lt_or_ge pc 30).elim (xk_90 pc) (fun h => xchk_no (show xi_90 pc = none from xg_out (Nat.not_lt.mpr h)))
theorem xkf_91 (pc : Nat) : xchk 91 pc = true := (Nat.lt_or_ge pc 41).elim (xk_91 pc) (fun h => xchk_no (show xi_91 pc = none from xg_out (Nat.not_lt.mpr h)))
theorem xkf_92 (pc : Nat) : xchk 92 pc = true := (Nat.lt_or_ge pc 63).elim (xk_92 pc) (fun h => xchk_no (show xi_92 pc = none from xg_out (Nat.not_lt.mpr h)))
theorem xkf_93 (pc : Nat) : xchk 93 pc = true := (Nat.lt_or_ge pc 107).elim (xk_93 pc) (fun h => xchk_no (show xi_93 pc = none from xg_out (Nat.not_lt.mpr h)))
theorem xkf_94 (pc : Nat) : xchk 94 pc = true := (Nat.lt_or_ge pc 83).elim (xk_94 pc) (fun h => xchk_no (show xi_94 pc = none from xg_out (Nat.not_lt.mpr h)))
theorem xkf_95 (pc : Nat) : xchk 95 pc = true := (Nat.lt_or_ge pc 33).elim (xk_95 pc) (fun h => xchk_no (show xi_95 pc = none from xg_out (Nat.not_lt.mpr h)))
theorem xkf_96 (pc : Nat) : xchk 96 pc = true := (Nat.lt_or_ge pc 67).elim (xk_96 pc) (fun h => xchk_no (show xi_96 pc = none from xg_out (Nat.not_lt.mpr h)))
theorem xkf_97 (pc : Nat) : xchk 97 pc = true := (Nat.lt_or_ge pc 66).elim (xk_97 pc) (fun h => xchk_no (show xi_97 pc = none from xg_out (Nat.not_lt.mpr h)))
theorem xkf_98 (pc : Nat) : xchk 98 pc = true := (Nat.lt_or_ge pc 14).elim (xk_98 pc) (fun h => xchk_no (show xi_98 pc = none from xg_out (Nat.not_lt.mpr h)))
theorem xkf_99 (pc : Nat) : xchk 99 pc = true := (Nat.lt_or_ge pc 122).elim (xk_99 pc) (fun h => xchk_no (show xi_99 pc = none from xg_out (Nat.not_lt.mpr h)))
theorem xkf_100 (pc : Nat) : xchk 100 pc = true := (Nat.lt_or_ge pc 29).elim (xk_100 pc) (fun h => xchk_no (show xi_100 pc = none from xg_out (Nat.not_lt.mpr h)))
theorem xkf_101 (pc : Nat) : xchk 101 pc = true := (Nat.lt_or_ge pc 86).elim (xk_101 pc) (fun h => xchk_no (show xi_101 pc = none from xg_out (Nat.not_lt.mpr h)))
theorem xkf_102 (pc : Nat) : xchk 102 pc = true := (Nat.lt_or_ge pc 19).elim (xk_102 pc) (fun h => xchk_no (show xi_102 pc = none from xg_out (Nat.not_lt.mpr h)))
theorem xkf_103 (pc : Nat) : xchk 103 pc = true := (Nat.lt_or_ge pc 95).elim (xk_103 pc) (fun h => xchk_no (show xi_103 pc = none from xg_out (Nat.not_lt.mpr h)))
theorem xkf_104 (pc : Nat) : xchk 104 pc = true := (Nat.lt_or_ge pc 16).elim (xk_104 pc) (fun h => xchk_no (show xi_104 pc = none from xg_out (Nat.not_lt.mpr h)))
theorem xkf_105 (pc : Nat) : xchk 105 pc = true := (Nat.lt_or_ge pc 142).elim (xk_105 pc) (fun h => xchk_no (show xi_105 pc = none from xg_out (Nat.not_lt.mpr h)))
theorem xkf_106 (pc : Nat) : xchk 106 pc = true := (Nat.lt_or_ge pc 59).elim (xk_106 pc) (fun h => xchk_no (show xi_106 pc = none from xg_out (Nat.not_lt.mpr h)))
theorem xkf_107 (pc : Nat) : xchk 107 pc = true := (Nat.lt_or_ge pc 25).elim (xk_107 pc) (fun h => xchk_no (show xi_107 pc = none from xg_out (Nat.not_lt.mpr h)))
theorem xkf_108 (pc : Nat) : xchk 108 pc = true := (Nat.lt_or_ge pc 98).elim (xk_108 pc) (fun h => xchk_no (show xi_108 pc = none from xg_out (Nat.not_lt.mpr h)))
theorem xkf_109 (pc : Nat) : xchk 109 pc = true := (Nat.lt_or_ge pc 39).elim (xk_109 pc) (fun h => xchk_no (show xi_109 pc = none from xg_out (Nat.not_lt.mpr h)))
theorem xkf_110 (pc : Nat) : xchk 110 pc = true := (Nat.lt_or_ge pc 40).elim (xk_110 pc) (fun h => xchk_no (show xi_110 pc = none from xg_out (Nat.not_lt.mpr h)))
theorem xkf_111 (pc : Nat) : xchk 111 pc = true := (Nat.lt_or_ge pc 34).elim (xk_111 pc) (fun h => xchk_no (show xi_111 pc = none from xg_out (Nat.not_lt.mpr h)))
theorem xkf_112 (pc : Nat) : xchk 112 pc = true := (Nat.lt_or_ge pc 114).elim (xk_112 pc) (fun h => xchk_no (show xi_112 pc = none from xg_out (Nat.not_lt.mpr h)))
theorem xkf_113 (pc : Nat) : xchk 113 pc = true := (Nat.lt_or_ge pc 53).elim (xk_113 pc) (fun h => xchk_no (show xi_113 pc = none from xg_out (Nat.not_lt.mpr h)))
theorem xkf_114 (pc : Nat) : xchk 114 pc = true := (Nat.lt_or_ge pc 71).elim (xk_114 pc) (fun h => xchk_no (show xi_114 pc = none from xg_out (Nat.not_lt.mpr h)))
theorem xkf_115 (pc : Nat) : xchk 115 pc = true := (Nat.lt_or_ge pc 62).elim (xk_115 pc) (fun h => xchk_no (show xi_115 pc = none from xg_out (Nat.not_lt.mpr h)))
theorem xkf_116 (pc : Nat) : xchk 116 pc = true := (Nat.lt_or_ge pc 102).elim (xk_116 pc) (fun h => xchk_no (show xi_116 pc = none from xg_out (Nat.not_lt.mpr h)))
theorem xkf_117 (pc : Nat) : xchk 117 pc = true := (Nat.lt_or_ge pc 90).elim (xk_117 pc) (fun h => xchk_no (show xi_117 pc = none from xg_out (Nat.not_lt.mpr h)))
theorem xkf_118 (pc : Nat) : xchk 118 pc = true := (Nat.lt_or_ge pc 12).elim (xk_118 pc) (fun h => xchk_no (show xi_118 pc = none from xg_out (Nat.not_lt.mpr h)))
theorem xkf_119 (pc : Nat) : xchk 119 pc = true := (Nat.lt_or_ge pc 193).elim (xk_119 pc) (fun h => xchk_no (show xi_119 pc = none from xg_out (Nat.not_lt.mpr h)))
theorem xkf_120 (pc : Nat) : xchk 120 pc = true := (Nat.lt_or_ge pc 44).elim (xk_120 pc) (fun h => xchk_no (show xi_120 pc = none from xg_out (Nat.not_lt.mpr h)))
theorem xkf_121 (pc : Nat) : xchk 121 pc = true := (Nat.lt_or_ge pc 10).elim (xk_121 pc) (fun h => xchk_no (show xi_121 pc = none from xg_out (Nat.not_lt.mpr h)))
theorem xkf_122 (pc : Nat) : xchk 122 pc = true := (Nat.lt_or_ge pc 98).elim (xk_122 pc) (fun h => xchk_no (show xi_122 pc = none from xg_out (Nat.not_lt.mpr h)))
theorem xkf_123 (pc : Nat) : xchk 123 pc = true := (Nat.lt_or_ge pc 119).elim (xk_123 pc) (fun h => xchk_no (show xi_123 pc = none from xg_out (Nat.not_lt.mpr h)))
theorem xkf_124 (pc : Nat) : xchk 124 pc = true := (Nat.lt_or_ge pc 52).elim (xk_124 pc) (fun h => xchk_no (show xi_124 pc = none from xg_out (Nat.not_lt.mpr h)))
theorem xkf_125 (pc : Nat) : xchk 125 pc = true := (Nat.lt_or_ge pc 201).elim (xk_125 pc) (fun h => xchk_no (show xi_125 pc = none from xg_out (Nat.not_lt.mpr h)))
theorem xkf_126 (pc : Nat) : xchk 126 pc = true := (Nat.lt_or_ge pc 34).elim (xk_126 pc) (fun h => xchk_no (show xi_126 pc = none from xg_out (Nat.not_lt.mpr h)))
theorem xkf_127 (pc : Nat) : xchk 127 pc = true := (Nat.lt_or_ge pc 31).elim (xk_127 pc) (fun h => xchk_no (show xi_127 pc = none from xg_out (Nat.not_lt.mpr h)))
theorem xkf_128 (pc : Nat) : xchk 128 pc = true := (Nat.lt_or_ge pc 33).elim (xk_128 pc) (fun h => xchk_no (show xi_128 pc = none from xg_out (Nat.not_lt.mpr h)))
theorem xkf_129 (pc : Nat) : xchk 129 pc = true := (Nat.lt_or_ge pc 62).elim (xk_129 pc) (fun h => xchk_no (show xi_129 pc = none from xg_out (Nat.not_lt.mpr h)))
theorem xkf_130 (pc : Nat) : xchk 130 pc = true := (Nat.lt_or_ge pc 67).elim (xk_130 pc) (fun h => xchk_no (show xi_130 pc = none from xg_out (Nat.not_lt.mpr h)))
theorem xkf_131 (pc : Nat) : xchk 131 pc = true := (Nat.lt_or_ge pc 23).elim (xk_131 pc) (fun h => xchk_no (show xi_131 pc = none from xg_out (Nat.not_lt.mpr h)))
theorem xkf_132 (pc : Nat) : xchk 132 pc = true := (Nat.lt_or_ge pc 150).elim (xk_132 pc) (fun h => xchk_no (show xi_132 pc = none from xg_out (Nat.not_lt.mpr h)))
theorem xkf_133 (pc : Nat) : xchk 133 pc = true := (Nat.lt_or_ge pc 23).elim (xk_133 pc) (fun h => xchk_no (show xi_133 pc = none from xg_out (Nat.not_lt.mpr h)))
theorem xkf_134 (pc : Nat) : xchk 134 pc = true := (Nat.lt_or_ge pc 109).elim (xk_134 pc) (fun h => xchk_no (show xi_134 pc = none from xg_out (Nat.not_lt.mpr h)))
theorem xkf_135 (pc : Nat) : xchk 135 pc = true := (Nat.lt_or_ge pc 26).elim (xk_135 pc) (fun h => xchk_no (show xi_135 pc = none from xg_out (Nat.not_lt.mpr h)))
theorem xkf_136 (pc : Nat) : xchk 136 pc = true := (Nat.lt_or_ge pc 88).elim (xk_136 pc) (fun h => xchk_no (show xi_136 pc = none from xg_out (Nat.not_lt.mpr h)))
theorem xkf_137 (pc : Nat) : xchk 137 pc = true := (Nat.lt_or_ge pc 28).elim (xk_137 pc) (fun h => xchk_no (show xi_137 pc = none from xg_out (Nat.not_lt.mpr h)))
theorem xkf_138 (pc : Nat) : xchk 138 pc = true := (Nat.lt_or_ge pc 72).elim (xk_138 pc) (fun h => xchk_no (show xi_138 pc = none from xg_out (Nat.not_lt.mpr h)))
theorem xkf_139 (pc : Nat) : xchk 139 pc = true := (Nat.lt_or_ge pc 73).elim (xk_139 pc) (fun h => xchk_no (show xi_139 pc = none from xg_out (Nat.not_lt.mpr h)))
theorem xkf_140 (pc : Nat) : xchk 140 pc = true := (Nat.lt_or_ge pc 28).elim (xk_140 pc) (fun h => xchk_no (show xi_140 pc = none from xg_out (Nat.not_lt.mpr h)))
theorem xkf_141 (pc : Nat) : xchk 141 pc = true := (Nat.lt_or_ge pc 48).elim (xk_141 pc) (fun h => xchk_no (show xi_141 pc = none from xg_out (Nat.not_lt.mpr h)))
theorem xkf_142 (pc : Nat) : xchk 142 pc = true := (Nat.lt_or_ge pc 104).elim (xk_142 pc) (fun h => xchk_no (show xi_142 pc = none from xg_out (Nat.not_lt.mpr h)))
theorem xkf_143 (pc : Nat) : xchk 143 pc = true := (Nat.lt_or_ge pc 136).elim (xk_143 pc) (fun h => xchk_no (show xi_143 pc = none from xg_out (Nat.not_lt.mpr h)))
theorem xkf_144 (pc : Nat) : xchk 144 pc = true := (Nat.lt_or_ge pc 84).elim (xk_144 pc) (fun h => xchk_no (show xi_144 pc = none from xg_out (Nat.not_lt.mpr h)))
theorem xkf_145 (pc : Nat) : xchk 145 pc = true := (Nat.lt_or_ge pc 49).elim (xk_145 pc) (fun h => xchk_no (show xi_145 pc = none from xg_out (Nat.not_lt.mpr h)))
theorem xkf_146 (pc : Nat) : xchk 146 pc = true := (Nat.lt_or_ge pc 69).elim (xk_146 pc) (fun h => xchk_no (show xi_146 pc = none from xg_out (Nat.not_lt.mpr h)))
theorem xkf_147 (pc : Nat) : xchk 147 pc = true := (Nat.lt_or_ge pc 29).elim (xk_147 pc) (fun h => xchk_no (show xi_147 pc = none from xg_out (Nat.not_lt.mpr h)))
theorem xkf_148 (pc : Nat) : xchk 148 pc = true := (Nat.lt_or_ge pc 28).elim (xk_148 pc) (fun h => xchk_no (show xi_148 pc = none from xg_out (Nat.not_lt.mpr h)))
theorem xkf_149 (pc : Nat) : xchk 149 pc = true := (Nat.lt_or_ge pc 83).elim (xk_149 pc) (fun h => xchk_no (show xi_149 pc = none from xg_out (Nat.not_lt.mpr h)))
theorem xkf_150 (pc : Nat) : xchk 150 pc = true := (Nat.lt_or_ge pc 70).elim (xk_150 pc) (fun h => xchk_no (show xi_150 pc = none from xg_out (Nat.not_lt.mpr h)))
theorem xkf_151 (pc : Nat) : xchk 151 pc = true := (Nat.lt_or_ge pc 27).elim (xk_151 pc) (fun h => xchk_no (show xi_151 pc = none from xg_out (Nat.not_lt.mpr h)))
theorem xkf_152 (pc : Nat) : xchk 152 pc = true := (Nat.lt_or_ge pc 79).elim (xk_152 pc) (fun h => xchk_no (show xi_152 pc = none from xg_out (Nat.not_lt.mpr h)))
theorem xkf_153 (pc : Nat) : xchk 153 pc = true := (Nat.lt_or_ge pc 39).elim (xk_153 pc) (fun h => xchk_no (show xi_153 pc = none from xg_out (Nat.not_lt.mpr h)))
theorem xkf_154 (pc : Nat) : xchk 154 pc = true := (Nat.lt_or_ge pc 25).elim (xk_154 pc) (fun h => xchk_no (show xi_154 pc = none from xg_out (Nat.not_lt.mpr h)))
theorem xkf_155 (pc : Nat) : xchk 155 pc = true := (Nat.lt_or_ge pc 51).elim (xk_155 pc) (fun h => xchk_no (show xi_155 pc = none from xg_out (Nat.not_lt.mpr h)))
theorem xkf_156 (pc : Nat) : xchk 156 pc = true := (Nat.lt_or_ge pc 133).elim (xk_156 pc) (fun h => xchk_no (show xi_156 pc = none from xg_out (Nat.not_lt.mpr h)))
theorem xkf_157 (pc : Nat) : xchk 157 pc = true := (Nat.lt_or_ge pc 56).elim (xk_157 pc) (fun h => xchk_no (show xi_157 pc = none from xg_out (Nat.not_lt.mpr h)))
theorem xkf_158 (pc : Nat) : xchk 158 pc = true := (Nat.lt_or_ge pc 30).elim (xk_158 pc) (fun h => xchk_no (show xi_158 pc = none from xg_out (Nat.not_lt.mpr h)))
theorem xkf_159 (pc : Nat) : xchk 159 pc = true := (Nat.lt_or_ge pc 105).elim (xk_159 pc) (fun h => xchk_no (show xi_159 pc = none from xg_out (Nat.not_lt.mpr h)))
theorem xkf_160 (pc : Nat) : xchk 160 pc = true := (Nat.lt_or_ge pc 32).elim (xk_160 pc) (fun h => xchk_no (show xi_160 pc = none from xg_out (Nat.not_lt.mpr h)))
theorem xkf_161 (pc : Nat) : xchk 161 pc = true := (Nat.lt_or_ge pc 130).elim (xk_161 pc) (fun h => xchk_no (show xi_161 pc = none from xg_out (Nat.not_lt.mpr h)))
theorem xkf_162 (pc : Nat) : xchk 162 pc = true := (Nat.lt_or_ge pc 60).elim (xk_162 pc) (fun h => xchk_no (show xi_162 pc = none from xg_out (Nat.not_lt.mpr h)))
theorem xkf_163 (pc : Nat) : xchk 163 pc = true := (Nat.lt_or_ge pc 24).elim (xk_163 pc) (fun h => xchk_no (show xi_163 pc = none from xg_out (Nat.not_lt.mpr h)))
theorem xkf_164 (pc : Nat) : xchk 164 pc = true := (Nat.lt_or_ge pc 35).elim (xk_164 pc) (fun h => xchk_no (show xi_164 pc = none from xg_out (Nat.not_lt.mpr h)))
theorem xkf_165 (pc : Nat) : xchk 165 pc = true := (Nat.lt_or_ge pc 189).elim (xk_165 pc) (fun h => xchk_no (show xi_165 pc = none from xg_out (Nat.not_lt.mpr h)))
theorem xkf_166 (pc : Nat) : xchk 166 pc = true := (Nat.lt_or_ge pc 32).elim (xk_166 pc) (fun h => xchk_no (show xi_166 pc = none from xg_out (Nat.not_lt.mpr h)))
theorem xkf_167 (pc : Nat) : xchk 167 pc = true := (Nat.lt_or_ge pc 32).elim (xk_167 pc) (fun h => xchk_no (show xi_167 pc = none from xg_out (Nat.not_lt.mpr h)))
theorem xkf_168 (pc : Nat) : xchk 168 pc = true := (Nat.lt_or_ge pc 32).elim (xk_168 pc) (fun h => xchk_no (show xi_168 pc = none from xg_out (Nat.not_lt.mpr h)))
theorem xkf_169 (pc : Nat) : xchk 169 pc = true := (Nat.lt_or_ge pc 41).elim (xk_169 pc) (fun h => xchk_no (show xi_169 pc = none from xg_out (Nat.not_lt.mpr h)))
theorem xkf_170 (pc : Nat) : xchk 170 pc = true := (Nat.lt_or_ge pc 128).elim (xk_170 pc) (fun h => xchk_no (show xi_170 pc = none from xg_out (Nat.not_lt.mpr h)))
theorem xkf_171 (pc : Nat) : xchk 171 pc = true := (Nat.lt_or_ge pc 1024).elim (xk_171 pc) (fun h => xchk_no (show xi_171 pc = none from xg_out (Nat.not_lt.mpr h)))
theorem xkf_172 (pc : Nat) : xchk 172 pc = true := (Nat.lt_or_ge pc 66).elim (xk_172 pc) (fun h => xchk_no (show xi_172 pc = none from xg_out (Nat.not_lt.mpr h)))
theorem xkf_173 (pc : Nat) : xchk 173 pc = true := (Nat.lt_or_ge pc 249).elim (xk_173 pc) (fun h => xchk_no (show xi_173 pc = none from xg_out (Nat.not_lt.mpr h)))
theorem xkf_174 (pc : Nat) : xchk 174 pc = true := (Nat.lt_or_ge pc 22).elim (xk_174 pc) (fun h => xchk_no (show xi_174 pc = none from xg_out (Nat.not_lt.mpr h)))
theorem xkf_175 (pc : Nat) : xchk 175 pc = true := (Nat.lt_or_ge pc 30).elim (xk_175 pc) (fun h => xchk_no (show xi_175 pc = none from xg_out (Nat.not_lt.mpr h)))
theorem xkf_176 (pc : Nat) : xchk 176 pc = true := (Nat.lt_or_ge pc 107).elim (xk_176 pc) (fun h => xchk_no (show xi_176 pc = none from xg_out (Nat.not_lt.mpr h)))
theorem xkf_177 (pc : Nat) : xchk 177 pc = true := (Nat.lt_or_ge pc 11).elim (xk_177 pc) (fun h => xchk_no (show xi_177 pc = none from xg_out (Nat.not_lt.mpr h)))
theorem xkf_178 (pc : Nat) : xchk 178 pc = true := (Nat.lt_or_ge pc 129).elim (xk_178 pc) (fun h => xchk_no (show xi_178 pc = none from xg_out (Nat.not_lt.mpr h)))
theorem xkf_179 (pc : Nat) : xchk 179 pc = true := (Nat.lt_or_ge pc 83).elim (xk_179 pc) (fun h => xchk_no (show xi_179 pc = none from xg_out (Nat.not_lt.mpr h)))
theorem xkf_180 (pc : Nat) : xchk 180 pc = true := (Nat.lt_or_ge pc 282).elim (xk_180 pc) (fun h => xchk_no (show xi_180 pc = none from xg_out (Nat.not_lt.mpr h)))
theorem xkf_181 (pc : Nat) : xchk 181 pc = true := (Nat.lt_or_ge pc 36).elim (xk_181 pc) (fun h => xchk_no (show xi_181 pc = none from xg_out (Nat.not_lt.mpr h)))
theorem xkf_182 (pc : Nat) : xchk 182 pc = true := (Nat.lt_or_ge pc 128).elim (xk_182 pc) (fun h => xchk_no (show xi_182 pc = none from xg_out (Nat.not_lt.mpr h)))
theorem xkf_183 (pc : Nat) : xchk 183 pc = true := (Nat.lt_or_ge pc 47).elim (xk_183 pc) (fun h => xchk_no (show xi_183 pc = none from xg_out (Nat.not_lt.mpr h)))
theorem xkf_184 (pc : Nat) : xchk 184 pc = true := (Nat.lt_or_ge pc 36).elim (xk_184 pc) (fun h => xchk_no (show xi_184 pc = none from xg_out (Nat.not_lt.mpr h)))
theorem xkf_185 (pc : Nat) : xchk 185 pc = true := (Nat.lt_or_ge pc 291).elim (xk_185 pc) (fun h => xchk_no (show xi_185 pc = none from xg_out (Nat.not_lt.mpr h)))
theorem xkf_186 (pc : Nat) : xchk 186 pc = true := (Nat.lt_or_ge pc 224).elim (xk_186 pc) (fun h => xchk_no (show xi_186 pc = none from xg_out (Nat.not_lt.mpr h)))
theorem xkf_187 (pc : Nat) : xchk 187 pc = true := (Nat.lt_or_ge pc 15).elim (xk_187 pc) (fun h => xchk_no (show xi_187 pc = none from xg_out (Nat.not_lt.mpr h)))
theorem xkf_188 (pc : Nat) : xchk 188 pc = true := (Nat.lt_or_ge pc 124).elim (xk_188 pc) (fun h => xchk_no (show xi_188 pc = none from xg_out (Nat.not_lt.mpr h)))
theorem xkf_189 (pc : Nat) : xchk 189 pc = true := (Nat.lt_or_ge pc 48).elim (xk_189 pc) (fun h => xchk_no (show xi_189 pc = none from xg_out (Nat.not_lt.mpr h)))
theorem xkf_190 (pc : Nat) : xchk 190 pc = true := (Nat.lt_or_ge pc 30).elim (xk_190 pc) (fun h => xchk_no (show xi_190 pc = none from xg_out (Nat.not_lt.mpr h)))
theorem xkf_191 (pc : Nat) : xchk 191 pc = true := (Nat.lt_or_ge pc 46).elim (xk_191 pc) (fun h => xchk_no (show xi_191 pc = none from xg_out (Nat.not_lt.mpr h)))
theorem xkf_192 (pc : Nat) : xchk 192 pc = true := (Nat.lt_or_ge pc 16).elim (xk_192 pc) (fun h => xchk_no (show xi_192 pc = none from xg_out (Nat.not_lt.mpr h)))
theorem xkf_193 (pc : Nat) : xchk 193 pc = true := (Nat.lt_or_ge pc 189).elim (xk_193 pc) (fun h => xchk_no (show xi_193 pc = none from xg_out (Nat.not_lt.mpr h)))
theorem xkf_194 (pc : Nat) : xchk 194 pc = true := (Nat.lt_or_ge pc 49).elim (xk_194 pc) (fun h => xchk_no (show xi_194 pc = none from xg_out (Nat.not_lt.mpr h)))
theorem xkf_195 (pc : Nat) : xchk 195 pc = true := (Nat.lt_or_ge pc 68).elim (xk_195 pc) (fun h => xchk_no (show xi_195 pc = none from xg_out (Nat.not_lt.mpr h)))
theorem xkf_196 (pc : Nat) : xchk 196 pc = true := (Nat.lt_or_ge pc 130).elim (xk_196 pc) (fun h => xchk_no (show xi_196 pc = none from xg_out (Nat.not_lt.mpr h)))
theorem xkf_197 (pc : Nat) : xchk 197 pc = true := (Nat.lt_or_ge pc 159).elim (xk_197 pc) (fun h => xchk_no (show xi_197 pc = none from xg_out (Nat.not_lt.mpr h)))
theorem xkf_198 (pc : Nat) : xchk 198 pc = true := (Nat.lt_or_ge pc 22).elim (xk_198 pc) (fun h => xchk_no (show xi_198 pc = none from xg_out (Nat.not_lt.mpr h)))
theorem xkf_199 (pc : Nat) : xchk 199 pc = true := (Nat.lt_or_ge pc 50).elim (xk_199 pc) (fun h => xchk_no (show xi_199 pc = none from xg_out (Nat.not_lt.mpr h)))
theorem xkf_200 (pc : Nat) : xchk 200 pc = true := (Nat.lt_or_ge pc 81).elim (xk_200 pc) (fun h => xchk_no (show xi_200 pc = none from xg_out (Nat.not_lt.mpr h)))
theorem xkf_201 (pc : Nat) : xchk 201 pc = true := (Nat.lt_or_ge pc 22).elim (xk_201 pc) (fun h => xchk_no (show xi_201 pc = none from xg_out (Nat.not_lt.mpr h)))
theorem xkf_202 (pc : Nat) : xchk 202 pc = true := (Nat.lt_or_ge pc 175).elim (xk_202 pc) (fun h => xchk_no (show xi_202 pc = none from xg_out (Nat.not_lt.mpr h)))
theorem xkf_203 (pc : Nat) : xchk 203 pc = true := (Nat.lt_or_ge pc 21).elim (xk_203 pc) (fun h => xchk_no (show xi_203 pc = none from xg_out (Nat.not_lt.mpr h)))
theorem xkf_204 (pc : Nat) : xchk 204 pc = true := (Nat.lt_or_ge pc 27).elim (xk_204 pc) (fun h => xchk_no (show xi_204 pc = none from xg_out (Nat.not_lt.mpr h)))
theorem xkf_205 (pc : Nat) : xchk 205 pc = true := (Nat.lt_or_ge pc 29).elim (xk_205 pc) (fun h => xchk_no (show xi_205 pc = none from xg_out (Nat.not_lt.mpr h)))
theorem xkf_206 (pc : Nat) : xchk 206 pc = true := (Nat.lt_or_ge pc 73).elim (xk_206 pc) (fun h => xchk_no (show xi_206 pc = none from xg_out (Nat.not_lt.mpr h)))
theorem xkf_207 (pc : Nat) : xchk 207 pc = true := (Nat.lt_or_ge pc 259).elim (xk_207 pc) (fun h => xchk_no (show xi_207 pc = none from xg_out (Nat.not_lt.mpr h)))
theorem xkf_208 (pc : Nat) : xchk 208 pc = true := (Nat.lt_or_ge pc 77).elim (xk_208 pc) (fun h => xchk_no (show xi_208 pc = none from xg_out (Nat.not_lt.mpr h)))
theorem xkf_209 (pc : Nat) : xchk 209 pc = true := (Nat.lt_or_ge pc 59).elim (xk_209 pc) (fun h => xchk_no (show xi_209 pc = none from xg_out (Nat.not_lt.mpr h)))
theorem xkf_210 (pc : Nat) : xchk 210 pc = true := (Nat.lt_or_ge pc 20).elim (xk_210 pc) (fun h => xchk_no (show xi_210 pc = none from xg_out (Nat.not_lt.mpr h)))
theorem xkf_211 (pc : Nat) : xchk 211 pc = true := (Nat.lt_or_ge pc 30).elim (xk_211 pc) (fun h => xchk_no (show xi_211 pc = none from xg_out (Nat.not_lt.mpr h)))
theorem xkf_212 (pc : Nat) : xchk 212 pc = true := (Nat.lt_or_ge pc 48).elim (xk_212 pc) (fun h => xchk_no (show xi_212 pc = none from xg_out (Nat.not_lt.mpr h)))
theorem xkf_213 (pc : Nat) : xchk 213 pc = true := (Nat.lt_or_ge pc 122).elim (xk_213 pc) (fun h => xchk_no (show xi_213 pc = none from xg_out (Nat.not_lt.mpr h)))
theorem xkf_214 (pc : Nat) : xchk 214 pc = true := (Nat.lt_or_ge pc 18).elim (xk_214 pc) (fun h => xchk_no (show xi_214 pc = none from xg_out (Nat.not_lt.mpr h)))
theorem xkf_215 (pc : Nat) : xchk 215 pc = true := (Nat.lt_or_ge pc 7).elim (xk_215 pc) (fun h => xchk_no (show xi_215 pc = none from xg_out (Nat.not_lt.mpr h)))
theorem xkf_216 (pc : Nat) : xchk 216 pc = true := (Nat.lt_or_ge pc 141).elim (xk_216 pc) (fun h => xchk_no (show xi_216 pc = none from xg_out (Nat.not_lt.mpr h)))
theorem xkf_217 (pc : Nat) : xchk 217 pc = true := (Nat.lt_or_ge pc 19).elim (xk_217 pc) (fun h => xchk_no (show xi_217 pc = none from xg_out (Nat.not_lt.mpr h)))
theorem xkf_218 (pc : Nat) : xchk 218 pc = true := (Nat.lt_or_ge pc 60).elim (xk_218 pc) (fun h => xchk_no (show xi_218 pc = none from xg_out (Nat.not_lt.mpr h)))
theorem xkf_219 (pc : Nat) : xchk 219 pc = true := (Nat.lt_or_ge pc 76).elim (xk_219 pc) (fun h => xchk_no (show xi_219 pc = none from xg_out (Nat.not_lt.mpr h)))
theorem xkf_220 (pc : Nat) : xchk 220 pc = true := (Nat.lt_or_ge pc 46).elim (xk_220 pc) (fun h => xchk_no (show xi_220 pc = none from xg_out (Nat.not_lt.mpr h)))
theorem xkf_221 (pc : Nat) : xchk 221 pc = true := (Nat.lt_or_ge pc 62).elim (xk_221 pc) (fun h => xchk_no (show xi_221 pc = none from xg_out (Nat.not_lt.mpr h)))
theorem xkf_222 (pc : Nat) : xchk 222 pc = true := (Nat.lt_or_ge pc 34).elim (xk_222 pc) (fun h => xchk_no (show xi_222 pc = none from xg_out (Nat.not_lt.mpr h)))
theorem xkf_223 (pc : Nat) : xchk 223 pc = true := (Nat.lt_or_ge pc 45).elim (xk_223 pc) (fun h => xchk_no (show xi_223 pc = none from xg_out (Nat.not_lt.mpr h)))
theorem xkf_224 (pc : Nat) : xchk 224 pc = true := (Nat.lt_or_ge pc 57).elim (xk_224 pc) (fun h => xchk_no (show xi_224 pc = none from xg_out (Nat.not_lt.mpr h)))
theorem xkf_225 (pc : Nat) : xchk 225 pc = true := (Nat.lt_or_ge pc 64).elim (xk_225 pc) (fun h => xchk_no (show xi_225 pc = none from xg_out (Nat.not_lt.mpr h)))
theorem xkf_226 (pc : Nat) : xchk 226 pc = true := (Nat.lt_or_ge pc 280).elim (xk_226 pc) (fun h => xchk_no (show xi_226 pc = none from xg_out (Nat.not_lt.mpr h)))
theorem xkf_227 (pc : Nat) : xchk 227 pc = true := (Nat.lt_or_ge pc 45).elim (xk_227 pc) (fun h => xchk_no (show xi_227 pc = none from xg_out (Nat.not_lt.mpr h)))
theorem xkf_228 (pc : Nat) : xchk 228 pc = true := (Nat.lt_or_ge pc 87).elim (xk_228 pc) (fun h => xchk_no (show xi_228 pc = none from xg_out (Nat.not_lt.mpr h)))
theorem xkf_229 (pc : Nat) : xchk 229 pc = true := (Nat.lt_or_ge pc 108).elim (xk_229 pc) (fun h => xchk_no (show xi_229 pc = none from xg_out (Nat.not_lt.mpr h)))
theorem xkf_230 (pc : Nat) : xchk 230 pc = true := (Nat.lt_or_ge pc 128).elim (xk_230 pc) (fun h => xchk_no (show xi_230 pc = none from xg_out (Nat.not_lt.mpr h)))
theorem xkf_231 (pc : Nat) : xchk 231 pc = true := (Nat.lt_or_ge pc 18).elim (xk_231 pc) (fun h => xchk_no (show xi_231 pc = none from xg_out (Nat.not_lt.mpr h)))
theorem xkf_232 (pc : Nat) : xchk 232 pc = true := (Nat.lt_or_ge pc 59).elim (xk_232 pc) (fun h => xchk_no (show xi_232 pc = none from xg_out (Nat.not_lt.mpr h)))
theorem xkf_233 (pc : Nat) : xchk 233 pc = true := (Nat.lt_or_ge pc 19).elim (xk_233 pc) (fun h => xchk_no (show xi_233 pc = none from xg_out (Nat.not_lt.mpr h)))
theorem xkf_234 (pc : Nat) : xchk 234 pc = true := (Nat.lt_or_ge pc 47).elim (xk_234 pc) (fun h => xchk_no (show xi_234 pc = none from xg_out (Nat.not_lt.mpr h)))
theorem xkf_235 (pc : Nat) : xchk 235 pc = true := (Nat.lt_or_ge pc 89).elim (xk_235 pc) (fun h => xchk_no (show xi_235 pc = none from xg_out (Nat.not_lt.mpr h)))
theorem xkf_236 (pc : Nat) : xchk 236 pc = true := (Nat.lt_or_ge pc 39).elim (xk_236 pc) (fun h => xchk_no (show xi_236 pc = none from xg_out (Nat.not_lt.mpr h)))
theorem xkf_237 (pc : Nat) : xchk 237 pc = true := (Nat.lt_or_ge pc 188).elim (xk_237 pc) (fun h => xchk_no (show xi_237 pc = none from xg_out (Nat.not_lt.mpr h)))
theorem xkf_238 (pc : Nat) : xchk 238 pc = true := (Nat.lt_or_ge pc 47).elim (xk_238 pc) (fun h => xchk_no (show xi_238 pc = none from xg_out (Nat.not_lt.mpr h)))
theorem xkf_239 (pc : Nat) : xchk 239 pc = true := (Nat.lt_or_ge pc 75).elim (xk_239 pc) (fun h => xchk_no (show xi_239 pc = none from xg_out (Nat.not_lt.mpr h)))
theorem xkf_240 (pc : Nat) : xchk 240 pc = true := (Nat.lt_or_ge pc 68).elim (xk_240 pc) (fun h => xchk_no (show xi_240 pc = none from xg_out (Nat.not_lt.mpr h)))
theorem xkf_241 (pc : Nat) : xchk 241 pc = true := (Nat.lt_or_ge pc 61).elim (xk_241 pc) (fun h => xchk_no (show xi_241 pc = none from xg_out (Nat.not_lt.mpr h)))
theorem xkf_242 (pc : Nat) : xchk 242 pc = true := (Nat.lt_or_ge pc 48).elim (xk_242 pc) (fun h => xchk_no (show xi_242 pc = none from xg_out (Nat.not_lt.mpr h)))
theorem xkf_243 (pc : Nat) : xchk 243 pc = true := (Nat.lt_or_ge pc 76).elim (xk_243 pc) (fun h => xchk_no (show xi_243 pc = none from xg_out (Nat.not_lt.mpr h)))
theorem xkf_244 (pc : Nat) : xchk 244 pc = true := (Nat.lt_or_ge pc 202).elim (xk_244 pc) (fun h => xchk_no (show xi_244 pc = none from xg_out (Nat.not_lt.mpr h)))
theorem xkf_245 (pc : Nat) : xchk 245 pc = true := (Nat.lt_or_ge pc 33).elim (xk_245 pc) (fun h => xchk_no (show xi_245 pc = none from xg_out (Nat.not_lt.mpr h)))
theorem xkf_246 (pc : Nat) : xchk 246 pc = true := (Nat.lt_or_ge pc 76).elim (xk_246 pc) (fun h => xchk_no (show xi_246 pc = none from xg_out (Nat.not_lt.mpr h)))
theorem xkf_247 (pc : Nat) : xchk 247 pc = true := (Nat.lt_or_ge pc 120).elim (xk_247 pc) (fun h => xchk_no (show xi_247 pc = none from xg_out (Nat.not_lt.mpr h)))
theorem xkf_248 (pc : Nat) : xchk 248 pc = true := (Nat.lt_or_ge pc 19).elim (xk_248 pc) (fun h => xchk_no (show xi_248 pc = none from xg_out (Nat.not_lt.mpr h)))
theorem xkf_249 (pc : Nat) : xchk 249 pc = true := (Nat.lt_or_ge pc 111).elim (xk_249 pc) (fun h => xchk_no (show xi_249 pc = none from xg_out (Nat.not_lt.mpr h)))
theorem xkf_250 (pc : Nat) : xchk 250 pc = true := (Nat.lt_or_ge pc 167).elim (xk_250 pc) (fun h => xchk_no (show xi_250 pc = none from xg_out (Nat.not_lt.mpr h)))
theorem xkf_251 (pc : Nat) : xchk 251 pc = true := (Nat.lt_or_ge pc 40).elim (xk_251 pc) (fun h => xchk_no (show xi_251 pc = none from xg_out (Nat.not_lt.mpr h)))
theorem xkf_252 (pc : Nat) : xchk 252 pc = true := (Nat.lt_or_ge pc 15).elim (xk_252 pc) (fun h => xchk_no (show xi_252 pc = none from xg_out (Nat.not_lt.mpr h)))
theorem xkf_253 (pc : Nat) : xchk 253 pc = true := (Nat.lt_or_ge pc 158).elim (xk_253 pc) (fun h => xchk_no (show xi_253 pc = none from xg_out (Nat.not_lt.mpr h)))
theorem xkf_254 (pc : Nat) : xchk 254 pc = true := (Nat.lt_or_ge pc 26).elim (xk_254 pc) (fun h => xchk_no (show xi_254 pc = none from xg_out (Nat.not_lt.mpr h)))
theorem xkf_255 (pc : Nat) : xchk 255 pc = true := (Nat.lt_or_ge pc 236).elim (xk_255 pc) (fun h => xchk_no (show xi_255 pc = none from xg_out (Nat.not_lt.mpr h)))
theorem xkf_256 (pc : Nat) : xchk 256 pc = true := (Nat.lt_or_ge pc 21).elim (xk_256 pc) (fun h => xchk_no (show xi_256 pc = none from xg_out (Nat.not_lt.mpr h)))
theorem xkf_257 (pc : Nat) : xchk 257 pc = true := (Nat.lt_or_ge pc 11).elim (xk_257 pc) (fun h => xchk_no (show xi_257 pc = none from xg_out (Nat.not_lt.mpr h)))
theorem xkf_258 (pc : Nat) : xchk 258 pc = true := (Nat.lt_or_ge pc 29).elim (xk_258 pc) (fun h => xchk_no (show xi_258 pc = none from xg_out (Nat.not_lt.mpr h)))
theorem xkf_259 (pc : Nat) : xchk 259 pc = true := (Nat.lt_or_ge pc 135).elim (xk_259 pc) (fun h => xchk_no (show xi_259 pc = none from xg_out (Nat.not_lt.mpr h)))
theorem xkf_260 (pc : Nat) : xchk 260 pc = true := (Nat.lt_or_ge pc 43).elim (xk_260 pc) (fun h => xchk_no (show xi_260 pc = none from xg_out (Nat.not_lt.mpr h)))
theorem xkf_261 (pc : Nat) : xchk 261 pc = true := (Nat.lt_or_ge pc 249).elim (xk_261 pc) (fun h => xchk_no (show xi_261 pc = none from xg_out (Nat.not_lt.mpr h)))
theorem xkf_262 (pc : Nat) : xchk 262 pc = true := (Nat.lt_or_ge pc 52).elim (xk_262 pc) (fun h => xchk_no (show xi_262 pc = none from xg_out (Nat.not_lt.mpr h)))
theorem xkf_263 (pc : Nat) : xchk 263 pc = true := (Nat.lt_or_ge pc 63).elim (xk_263 pc) (fun h => xchk_no (show xi_263 pc = none from xg_out (Nat.not_lt.mpr h)))
theorem xkf_264 (pc : Nat) : xchk 264 pc = true := (Nat.lt_or_ge pc 34).elim (xk_264 pc) (fun h => xchk_no (show xi_264 pc = none from xg_out (Nat.not_lt.mpr h)))
theorem xkf_265 (pc : Nat) : xchk 265 pc = true := (Nat.lt_or_ge pc 304).elim (xk_265 pc) (fun h => xchk_no (show xi_265 pc = none from xg_out (Nat.not_lt.mpr h)))
theorem xkf_266 (pc : Nat) : xchk 266 pc = true := (Nat.lt_or_ge pc 98).elim (xk_266 pc) (fun h => xchk_no (show xi_266 pc = none from xg_out (Nat.not_lt.mpr h)))
theorem xkf_267 (pc : Nat) : xchk 267 pc = true := (Nat.lt_or_ge pc 26).elim (xk_267 pc) (fun h => xchk_no (show xi_267 pc = none from xg_out (Nat.not_lt.mpr h)))
theorem xkf_268 (pc : Nat) : xchk 268 pc = true := (Nat.lt_or_ge pc 42).elim (xk_268 pc) (fun h => xchk_no (show xi_268 pc = none from xg_out (Nat.not_lt.mpr h)))
theorem xkf_269 (pc : Nat) : xchk 269 pc = true := (Nat.lt_or_ge pc 227).elim (xk_269 pc) (fun h => xchk_no (show xi_269 pc = none from xg_out (Nat.not_lt.mpr h)))
theorem xkf_270 (pc : Nat) : xchk 270 pc = true := (Nat.lt_or_ge pc 30).elim (xk_270 pc) (fun h => xchk_no (show xi_270 pc = none from xg_out (Nat.not_lt.mpr h)))
theorem xkf_271 (pc : Nat) : xchk 271 pc = true := (Nat.lt_or_ge pc 64).elim (xk_271 pc) (fun h => xchk_no (show xi_271 pc = none from xg_out (Nat.not_lt.mpr h)))
theorem xkf_272 (pc : Nat) : xchk 272 pc = true := (Nat.lt_or_ge pc 72).elim (xk_272 pc) (fun h => xchk_no (show xi_272 pc = none from xg_out (Nat.not_lt.mpr h)))
theorem xkf_273 (pc : Nat) : xchk 273 pc = true := (Nat.lt_or_ge pc 39).elim (xk_273 pc) (fun h => xchk_no (show xi_273 pc = none from xg_out (Nat.not_lt.mpr h)))
theorem xkf_274 (pc : Nat) : xchk 274 pc = true := (Nat.lt_or_ge pc 26).elim (xk_274 pc) (fun h => xchk_no (show xi_274 pc = none from xg_out (Nat.not_lt.mpr h)))
theorem xkf_275 (pc : Nat) : xchk 275 pc = true := (Nat.lt_or_ge pc 128).elim (xk_275 pc) (fun h => xchk_no (show xi_275 pc = none from xg_out (Nat.not_lt.mpr h)))
theorem xkf_276 (pc : Nat) : xchk 276 pc = true := (Nat.lt_or_ge pc 19).elim (xk_276 pc) (fun h => xchk_no (show xi_276 pc = none from xg_out (Nat.not_lt.mpr h)))
theorem xkf_277 (pc : Nat) : xchk 277 pc = true := (Nat.lt_or_ge pc 50).elim (xk_277 pc) (fun h => xchk_no (show xi_277 pc = none from xg_out (Nat.not_lt.mpr h)))
theorem xkf_278 (pc : Nat) : xchk 278 pc = true := (Nat.lt_or_ge pc 104).elim (xk_278 pc) (fun h => xchk_no (show xi_278 pc = none from xg_out (Nat.not_lt.mpr h)))
theorem xkf_279 (pc : Nat) : xchk 279 pc = true := (Nat.lt_or_ge pc 177).elim (xk_279 pc) (fun h => xchk_no (show xi_279 pc = none from xg_out (Nat.not_lt.mpr h)))
theorem xkf_280 (pc : Nat) : xchk 280 pc = true := (Nat.lt_or_ge pc 33).elim (xk_280 pc) (fun h => xchk_no (show xi_280 pc = none from xg_out (Nat.not_lt.mpr h)))
theorem xkf_281 (pc : Nat) : xchk 281 pc = true := (Nat.lt_or_ge pc 81).elim (xk_281 pc) (fun h => xchk_no (show xi_281 pc = none from xg_out (Nat.not_lt.mpr h)))
theorem xkf_282 (pc : Nat) : xchk 282 pc = true := (Nat.lt_or_ge pc 34).elim (xk_282 pc) (fun h => xchk_no (show xi_282 pc = none from xg_out (Nat.not_lt.mpr h)))
theorem xkf_283 (pc : Nat) : xchk 283 pc = true := (Nat.lt_or_ge pc 44).elim (xk_283 pc) (fun h => xchk_no (show xi_283 pc = none from xg_out (Nat.not_lt.mpr h)))
theorem xkf_284 (pc : Nat) : xchk 284 pc = true := (Nat.lt_or_ge pc 68).elim (xk_284 pc) (fun h => xchk_no (show xi_284 pc = none from xg_out (Nat.not_lt.mpr h)))
theorem xkf_285 (pc : Nat) : xchk 285 pc = true := (Nat.lt_or_ge pc 94).elim (xk_285 pc) (fun h => xchk_no (show xi_285 pc = none from xg_out (Nat.not_lt.mpr h)))
theorem xkf_286 (pc : Nat) : xchk 286 pc = true := (Nat.lt_or_ge pc 103).elim (xk_286 pc) (fun h => xchk_no (show xi_286 pc = none from xg_out (Nat.not_lt.mpr h)))
theorem xkf_287 (pc : Nat) : xchk 287 pc = true := (Nat.lt_or_ge pc 265).elim (xk_287 pc) (fun h => xchk_no (show xi_287 pc = none from xg_out (Nat.not_lt.mpr h)))
theorem xkf_288 (pc : Nat) : xchk 288 pc = true := (Nat.lt_or_ge pc 1479).elim (xk_288 pc) (fun h => xchk_no (show xi_288 pc = none from xg_out (Nat.not_lt.mpr h)))
theorem xkc_0 (M pc : Nat) (h1 : 0 ≤ M) (h2 : M < 20) : xchk M pc = true := by
  rcases (show M = 0 ∨ M = 1 ∨ M = 2 ∨ M = 3 ∨ M = 4 ∨ M = 5 ∨ M = 6 ∨ M = 7 ∨ M = 8 ∨ M = 9 ∨ M = 10 ∨ M = 11 ∨ M = 12 ∨ M = 13 ∨ M = 14 ∨ M = 15 ∨ M = 16 ∨ M = 17 ∨ M = 18 ∨ M = 19 by omega) with rfl | rfl | rfl | rfl | rfl | rfl | rfl | rfl | rfl | rfl | rfl | rfl | rfl | rfl | rfl | rfl | rfl | rfl | rfl | rfl
  · exact xkf_0 pc
  · exact xkf_1 pc
  · exact xkf_2 pc
  · exact xkf_3 pc
  · exact xkf_4 pc
  · exact xkf_5 pc
  · exact xkf_6 pc
  · exact xkf_7 pc
  · exact xkf_8 pc
  · exact xkf_9 pc
  · exact xkf_10 pc
  · exact xkf_11 pc
  · exact xkf_12 pc
  · exact xkf_13 pc
  · exact xkf_14 pc
  · exact xkf_15 pc
  · exact xkf_16 pc
  · exact xkf_17 pc
  · exact xkf_18 pc
  · exact xkf_19 pc
theorem xkc_1 (M pc : Nat) (h1 : 20 ≤ M) (h2 : M < 40) : xchk M pc = true := by
  rcases (show M = 20 ∨ M = 21 ∨ M = 22 ∨ M = 23 ∨ M = 24 ∨ M = 25 ∨ M = 26 ∨ M = 27 ∨ M = 28 ∨ M = 29 ∨ M = 30 ∨ M = 31 ∨ M = 32 ∨ M = 33 ∨ M = 34 ∨ M = 35 ∨ M = 36 ∨ M = 37 ∨ M = 38 ∨ M = 39 by omega) with rfl | rfl | rfl | rfl | rfl | rfl | rfl | rfl | rfl | rfl | rfl | rfl | rfl | rfl | rfl | rfl | rfl | rfl | rfl | rfl
  · exact xkf_20 pc
  · exact xkf_21 pc
  · exact xkf_22 pc
  · exact xkf_23 pc
  · exact xkf_24 pc
  · exact xkf_25 pc
  · exact xkf_26 pc
  · exact xkf_27 pc
  · exact xkf_28 pc
  · exact xkf_29 pc
  · exact xkf_30 pc
  · exact xkf_31 pc
  · exact xkf_32 pc
  · exact xkf_33 pc
  · exact xkf_34 pc
  · exact xkf_35 pc
  · exact xkf_36 pc
  · exact xkf_37 pc
  · exact xkf_38 pc
  · exact xkf_39 pc
theorem xkc_2 (M pc : Nat) (h1 : 40 ≤ M) (h2 : M < 60) : xchk M pc = true := by
  rcases (show M = 40 ∨ M = 41 ∨ M = 42 ∨ M = 43 ∨ M = 44 ∨ M = 45 ∨ M = 46 ∨ M = 47 ∨ M = 48 ∨ M = 49 ∨ M = 50 ∨ M = 51 ∨ M = 52 ∨ M = 53 ∨ M = 54 ∨ M = 55 ∨ M = 56 ∨ M = 57 ∨ M = 58 ∨ M = 59 by omega) with rfl | rfl | rfl | rfl | rfl | rfl | rfl | rfl | rfl | rfl | rfl | rfl | rfl | rfl | rfl | rfl | rfl | rfl | rfl | rfl
  · exact xkf_40 pc
  · exact xkf_41 pc
  · exact xkf_42 pc
  · exact xkf_43 pc
  · exact xkf_44 pc
  · exact xkf_45 pc
  · exact xkf_46 pc
  · exact xkf_47 pc
  · exact xkf_48 pc
  · exact xkf_49 pc
  · exact xkf_50 pc
  · exact xkf_51 pc
  · exact xkf_52 pc
  · exact xkf_53 pc
  · exact xkf_54 pc
  · exact xkf_55 pc
  · exact xkf_56 pc
  · exact xkf_57 pc
  · exact xkf_58 pc
  · exact xkf_59 pc
theorem xkc_3 (M pc : Nat) (h1 : 60 ≤ M) (h2 : M < 80) : xchk M pc = true := by
  rcases (show M = 60 ∨ M = 61 ∨ M = 62 ∨ M = 63 ∨ M = 64 ∨ M = 65 ∨ M = 66 ∨ M = 67 ∨ M = 68 ∨ M = 69 ∨ M = 70 ∨ M = 71 ∨ M = 72 ∨ M = 73 ∨ M = 74 ∨ M = 75 ∨ M = 76 ∨ M = 77 ∨ M = 78 ∨ M = 79 by omega) with rfl | rfl | rfl | rfl | rfl | rfl | rfl | rfl | rfl | rfl | rfl | rfl | rfl | rfl | rfl | rfl | rfl | rfl | rfl | rfl
  · exact xkf_60 pc
  · exact xkf_61 pc
  · exact xkf_62 pc
  · exact xkf_63 pc
  · exact xkf_64 pc
  · exact xkf_65 pc
  · exact xkf_66 pc
  · exact xkf_67 pc
  · exact xkf_68 pc
  · exact xkf_69 pc
  · exact xkf_70 pc
  · exact xkf_71 pc
  · exact xkf_72 pc
  · exact xkf_73 pc
  · exact xkf_74 pc
  · exact xkf_75 pc
  · exact xkf_76 pc
  · exact xkf_77 pc
  · exact xkf_78 pc
  · exact xkf_79 pc
theorem xkc_4 (M pc : Nat) (h1 : 80 ≤ M) (h2 : M < 100) : xchk M pc = true := by
  rcases (show M = 80 ∨ M = 81 ∨ M = 82 ∨ M = 83 ∨ M = 84 ∨ M = 85 ∨ M = 86 ∨ M = 87 ∨ M = 88 ∨ M = 89 ∨ M = 90 ∨ M = 91 ∨ M = 92 ∨ M = 93 ∨ M = 94 ∨ M = 95 ∨ M = 96 ∨ M = 97 ∨ M = 98 ∨ M = 99 by omega) with rfl | rfl | rfl | rfl | rfl | rfl | rfl | rfl | rfl | rfl | rfl | rfl | rfl | rfl | rfl | rfl | rfl | rfl | rfl | rfl
  · exact xkf_80 pc
  · exact xkf_81 pc
  · exact xkf_82 pc
  · exact xkf_83 pc
  · exact xkf_84 pc
  · exact xkf_85 pc
  · exact xkf_86 pc
  · exact xkf_87 pc
  · exact xkf_88 pc
  · exact xkf_89 pc
  · exact xkf_90 pc
  · exact xkf_91 pc
  · exact xkf_92 pc
  · exact xkf_93 pc
  · exact xkf_94 pc
  · exact xkf_95 pc
  · exact xkf_96 pc
  · exact xkf_97 pc
  · exact xkf_98 pc
  · exact xkf_99 pc
theorem xkc_5 (M pc : Nat) (h1 : 100 ≤ M) (h2 : M < 120) : xchk M pc = true := by
  rcases (show M = 100 ∨ M = 101 ∨ M = 102 ∨ M = 103 ∨ M = 104 ∨ M = 105 ∨ M = 106 ∨ M = 107 ∨ M = 108 ∨ M = 109 ∨ M = 110 ∨ M = 111 ∨ M = 112 ∨ M = 113 ∨ M = 114 ∨ M = 115 ∨ M = 116 ∨ M = 117 ∨ M = 118 ∨ M = 119 by omega) with rfl | rfl | rfl | rfl | rfl | rfl | rfl | rfl | rfl | rfl | rfl | rfl | rfl | rfl | rfl | rfl | rfl | rfl | rfl | rfl
  · exact xkf_100 pc
  · exact xkf_101 pc
  · exact xkf_102 pc
  · exact xkf_103 pc
  · exact xkf_104 pc
  · exact xkf_105 pc
  · exact xkf_106 pc
  · exact xkf_107 pc
  · exact xkf_108 pc
  · exact xkf_109 pc
  · exact xkf_110 pc
  · exact xkf_111 pc
  · exact xkf_112 pc
  · exact xkf_113 pc
  · exact xkf_114 pc
  · exact xkf_115 pc
  · exact xkf_116 pc
  · exact xkf_117 pc
  · exact xkf_118 pc
  · exact xkf_119 pc
theorem xkc_6 (M pc : Nat) (h1 : 120 ≤ M) (h2 : M < 140) : xchk M pc = true := by
  rcases (show M = 120 ∨ M = 121 ∨ M = 122 ∨ M = 123 ∨ M = 124 ∨ M = 125 ∨ M = 126 ∨ M = 127 ∨ M = 128 ∨ M = 129 ∨ M = 130 ∨ M = 131 ∨ M = 132 ∨ M = 133 ∨ M = 134 ∨ M = 135 ∨ M = 136 ∨ M = 137 ∨ M = 138 ∨ M = 139 by omega) with rfl | rfl | rfl | rfl | rfl | rfl | rfl | rfl | rfl | rfl | rfl | rfl | rfl | rfl | rfl | rfl | rfl | rfl | rfl | rfl
  · exact xkf_120 pc
  · exact xkf_121 pc
  · exact xkf_122 pc
  · exact xkf_123 pc
  · exact xkf_124 pc
  · exact xkf_125 pc
  · exact xkf_126 pc
  · exact xkf_127 pc
  · exact xkf_128 pc
  · exact xkf_129 pc
  · exact xkf_130 pc
  · exact xkf_131 pc
  · exact xkf_132 pc
  · exact xkf_133 pc
  · exact xkf_134 pc
  · exact xkf_135 pc
  · exact xkf_136 pc
  · exact xkf_137 pc
  · exact xkf_138 pc
  · exact xkf_139 pc
theorem xkc_7 (M pc : Nat) (h1 : 140 ≤ M) (h2 : M < 160) : xchk M pc = true := by
  rcases (show M = 140 ∨ M = 141 ∨ M = 142 ∨ M = 143 ∨ M = 144 ∨ M = 145 ∨ M = 146 ∨ M = 147 ∨ M = 148 ∨ M = 149 ∨ M = 150 ∨ M = 151 ∨ M = 152 ∨ M = 153 ∨ M = 154 ∨ M = 155 ∨ M = 156 ∨ M = 157 ∨ M = 158 ∨ M = 159 by omega) with rfl | rfl | rfl | rfl | rfl | rfl | rfl | rfl | rfl | rfl | rfl | rfl | rfl | rfl | rfl | rfl | rfl | rfl | rfl | rfl
  · exact xkf_140 pc
  · exact xkf_141 pc
  · exact xkf_142 pc
  · exact xkf_143 pc
  · exact xkf_144 pc
  · exact xkf_145 pc
  · exact xkf_146 pc
  · exact xkf_147 pc
  · exact xkf_148 pc
  · exact xkf_149 pc
  · exact xkf_150 pc
  · exact xkf_151 pc
  · exact xkf_152 pc
  · exact xkf_153 pc
  · exact xkf_154 pc
  · exact xkf_155 pc
  · exact xkf_156 pc
  · exact xkf_157 pc
  · exact xkf_158 pc
  · exact xkf_159 pc
theorem xkc_8 (M pc : Nat) (h1 : 160 ≤ M) (h2 : M < 180) : xchk M pc = true := by
  rcases (show M = 160 ∨ M = 161 ∨ M = 162 ∨ M = 163 ∨ M = 164 ∨ M = 165 ∨ M = 166 ∨ M = 167 ∨ M = 168 ∨ M = 169 ∨ M = 170 ∨ M = 171 ∨ M = 172 ∨ M = 173 ∨ M = 174 ∨ M = 175 ∨ M = 176 ∨ M = 177 ∨ M = 178 ∨ M = 179 by omega) with rfl | rfl | rfl | rfl | rfl | rfl | rfl | rfl | rfl | rfl | rfl | rfl | rfl | rfl | rfl | rfl | rfl | rfl | rfl | rfl
  · exact xkf_160 pc
  · exact xkf_161 pc
  · exact xkf_162 pc
  · exact xkf_163 pc
  · exact xkf_164 pc
  · exact xkf_165 pc
  · exact xkf_166 pc
  · exact xkf_167 pc
  · exact xkf_168 pc
  · exact xkf_169 pc
  · exact xkf_170 pc
  · exact xkf_171 pc
  · exact xkf_172 pc
  · exact xkf_173 pc
  · exact xkf_174 pc
  · exact xkf_175 pc
  · exact xkf_176 pc
  · exact xkf_177 pc
  · exact xkf_178 pc
  · exact xkf_179 pc
theorem xkc_9 (M pc : Nat) (h1 : 180 ≤ M) (h2 : M < 200) : xchk M pc = true := by
  rcases (show M = 180 ∨ M = 181 ∨ M = 182 ∨ M = 183 ∨ M = 184 ∨ M = 185 ∨ M = 186 ∨ M = 187 ∨ M = 188 ∨ M = 189 ∨ M = 190 ∨ M = 191 ∨ M = 192 ∨ M = 193 ∨ M = 194 ∨ M = 195 ∨ M = 196 ∨ M = 197 ∨ M = 198 ∨ M = 199 by omega) with rfl | rfl | rfl | rfl | rfl | rfl | rfl | rfl | rfl | rfl | rfl | rfl | rfl | rfl | rfl | rfl | rfl | rfl | rfl | rfl
  · exact xkf_180 pc
  · exact xkf_181 pc
  · exact xkf_182 pc
  · exact xkf_183 pc
  · exact xkf_184 pc
  · exact xkf_185 pc
  · exact xkf_186 pc
  · exact xkf_187 pc
  · exact xkf_188 pc
  · exact xkf_189 pc
  · exact xkf_190 pc
  · exact xkf_191 pc
  · exact xkf_192 pc
  · exact xkf_193 pc
  · exact xkf_194 pc
  · exact xkf_195 pc
  · exact xkf_196 pc
  · exact xkf_197 pc
  · exact xkf_198 pc
  · exact xkf_199 pc
theorem xkc_10 (M pc : Nat) (h1 : 200 ≤ M) (h2 : M < 220) : xchk M pc = true := by
  rcases (show M = 200 ∨ M = 201 ∨ M = 202 ∨ M = 203 ∨ M = 204 ∨ M = 205 ∨ M = 206 ∨ M = 207 ∨ M = 208 ∨ M = 209 ∨ M = 210 ∨ M = 211 ∨ M = 212 ∨ M = 213 ∨ M = 214 ∨ M = 215 ∨ M = 216 ∨ M = 217 ∨ M = 218 ∨ M = 219 by omega) with rfl | rfl | rfl | rfl | rfl | rfl | rfl | rfl | rfl | rfl | rfl | rfl | rfl | rfl | rfl | rfl | rfl | rfl | rfl | rfl
  · exact xkf_200 pc
  · exact xkf_201 pc
  · exact xkf_202 pc
  · exact xkf_203 pc
  · exact xkf_204 pc
  · exact xkf_205 pc
  · exact xkf_206 pc
  · exact xkf_207 pc
  · exact xkf_208 pc
  · exact xkf_209 pc
  · exact xkf_210 pc
  · exact xkf_211 pc
  · exact xkf_212 pc
  · exact xkf_213 pc
  · exact xkf_214 pc
  · exact xkf_215 pc
  · exact xkf_216 pc
  · exact xkf_217 pc
  · exact xkf_218 pc
  · exact xkf_219 pc
theorem xkc_11 (M pc : Nat) (h1 : 220 ≤ M) (h2 : M < 240) : xchk M pc = true := by
  rcases (show M = 220 ∨ M = 221 ∨ M = 222 ∨ M = 223 ∨ M = 224 ∨ M = 225 ∨ M = 226 ∨ M = 227 ∨ M = 228 ∨ M = 229 ∨ M = 230 ∨ M = 231 ∨ M = 232 ∨ M = 233 ∨ M = 234 ∨ M = 235 ∨ M = 236 ∨ M = 237 ∨ M = 238 ∨ M = 239 by omega) with rfl | rfl | rfl | rfl | rfl | rfl | rfl | rfl | rfl | rfl | rfl | rfl | rfl | rfl | rfl | rfl | rfl | rfl | rfl | rfl
  · exact xkf_220 pc
  · exact xkf_221 pc
  · exact xkf_222 pc
  · exact xkf_223 pc
  · exact xkf_224 pc
  · exact xkf_225 pc
  · exact xkf_226 pc
  · exact xkf_227 pc
  · exact xkf_228 pc
  · exact xkf_229 pc
  · exact xkf_230 pc
  · exact xkf_231 pc
  · exact xkf_232 pc
  · exact xkf_233 pc
  · exact xkf_234 pc
  · exact xkf_235 pc
  · exact xkf_236 pc
  · exact xkf_237 pc
  · exact xkf_238 pc
  · exact xkf_239 pc
theorem xkc_12 (M pc : Nat) (h1 : 240 ≤ M) (h2 : M < 260) : xchk M pc = true := by
  rcases (show M = 240 ∨ M = 241 ∨ M = 242 ∨ M = 243 ∨ M = 244 ∨ M = 245 ∨ M = 246 ∨ M = 247 ∨ M = 248 ∨ M = 249 ∨ M = 250 ∨ M = 251 ∨ M = 252 ∨ M = 253 ∨ M = 254 ∨ M = 255 ∨ M = 256 ∨ M = 257 ∨ M = 258 ∨ M = 259 by omega) with rfl | rfl | rfl | rfl | rfl | rfl | rfl | rfl | rfl | rfl | rfl | rfl | rfl | rfl | rfl | rfl | rfl | rfl | rfl | rfl
  · exact xkf_240 pc
  · exact xkf_241 pc
  · exact xkf_242 pc
  · exact xkf_243 pc
  · exact xkf_244 pc
  · exact xkf_245 pc
  · exact xkf_246 pc
  · exact xkf_247 pc
  · exact xkf_248 pc
  · exact xkf_249 pc
  · exact xkf_250 pc
  · exact xkf_251 pc
  · exact xkf_252 pc
  · exact xkf_253 pc
  · exact xkf_254 pc
  · exact xkf_255 pc
  · exact xkf_256 pc
  · exact xkf_257 pc
  · exact xkf_258 pc
  · exact xkf_259 pc
theorem xkc_13 (M pc : Nat) (h1 : 260 ≤ M) (h2 : M < 280) : xchk M pc = true := by
  rcases (show M = 260 ∨ M = 261 ∨ M = 262 ∨ M = 263 ∨ M = 264 ∨ M = 265 ∨ M = 266 ∨ M = 267 ∨ M = 268 ∨ M = 269 ∨ M = 270 ∨ M = 271 ∨ M = 272 ∨ M = 273 ∨ M = 274 ∨ M = 275 ∨ M = 276 ∨ M = 277 ∨ M = 278 ∨ M = 279 by omega) with rfl | rfl | rfl | rfl | rfl | rfl | rfl | rfl | rfl | rfl | rfl | rfl | rfl | rfl | rfl | rfl | rfl | rfl | rfl | rfl
  · exact xkf_260 pc
  · exact xkf_261 pc
  · exact xkf_262 pc
  · exact xkf_263 pc
  · exact xkf_264 pc
  · exact xkf_265 pc
  · exact xkf_266 pc
  · exact xkf_267 pc
  · exact xkf_268 pc
  · exact xkf_269 pc
  · exact xkf_270 pc
  · exact xkf_271 pc
  · exact xkf_272 pc
  · exact xkf_273 pc
  · exact xkf_274 pc
  · exact xkf_275 pc
  · exact xkf_276 pc
  · exact xkf_277 pc
  · exact xkf_278 pc
  · exact xkf_279 pc
theorem xkc_14 (M pc : Nat) (h1 : 280 ≤ M) (h2 : M < 289) : xchk M pc = true := by
  rcases (show M = 280 ∨ M = 281 ∨ M = 282 ∨ M = 283 ∨ M = 284 ∨ M = 285 ∨ M = 286 ∨ M = 287 ∨ M = 288 by omega) with rfl | rfl | rfl | rfl | rfl | rfl | rfl | rfl | rfl
  · exact xkf_280 pc
  · exact xkf_281 pc
  · exact xkf_282 pc
  · exact xkf_283 pc
  · exact xkf_284 pc
  · exact xkf_285 pc
  · exact xkf_286 pc
  · exact xkf_287 pc
  · exact xkf_288 pc
theorem xins_out {M pc : Nat} (h : ¬ M < 289) : xins M pc = none := by
  have e : Nat.blt M 289 = false := by
    cases hb : Nat.blt M 289 with
    | false => rfl
    | true => exact absurd (Nat.le_of_ble_eq_true hb) h
  unfold xins
  rw [e]
  rfl
theorem xk (M pc : Nat) : xchk M pc = true := by
  rcases Nat.lt_or_ge M 20 with q | q20
  · exact xkc_0 M pc (by omega) q
  rcases Nat.lt_or_ge M 40 with q | q40
  · exact xkc_1 M pc (by omega) q
  rcases Nat.lt_or_ge M 60 with q | q60
  · exact xkc_2 M pc (by omega) q
  rcases Nat.lt_or_ge M 80 with q | q80
  · exact xkc_3 M pc (by omega) q
  rcases Nat.lt_or_ge M 100 with q | q100
  · exact xkc_4 M pc (by omega) q
  rcases Nat.lt_or_ge M 120 with q | q120
  · exact xkc_5 M pc (by omega) q
  rcases Nat.lt_or_ge M 140 with q | q140
  · exact xkc_6 M pc (by omega) q
  rcases Nat.lt_or_ge M 160 with q | q160
  · exact xkc_7 M pc (by omega) q
  rcases Nat.lt_or_ge M 180 with q | q180
  · exact xkc_8 M pc (by omega) q
  rcases Nat.lt_or_ge M 200 with q | q200
  · exact xkc_9 M pc (by omega) q
  rcases Nat.lt_or_ge M 220 with q | q220
  · exact xkc_10 M pc (by omega) q
  rcases Nat.lt_or_ge M 240 with q | q240
  · exact xkc_11 M pc (by omega) q
  rcases Nat.lt_or_ge M 260 with q | q260
  · exact xkc_12 M pc (by omega) q
  rcases Nat.lt_or_ge M 280 with q | q280
  · exact xkc_13 M pc (by omega) q
  rcases Nat.lt_or_ge M 289 with q | q289
  · exact xkc_14 M pc (by omega) q
  exact xchk_no (xins_out (by omega))
