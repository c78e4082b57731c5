noncomputable def gHX (X : gX) : Prop := gM0 X = es_ME0 ∧ gts X = es_strs
theorem me_1 {X : gX} (hX : gHX X) : gM0 X 1 = em_1 := by rw [hX.1]; rfl
theorem me_2 {X : gX} (hX : gHX X) : gM0 X 2 = em_2 := by rw [hX.1]; rfl
theorem me_3 {X : gX} (hX : gHX X) : gM0 X 3 = em_3 := by rw [hX.1]; rfl
theorem me_4 {X : gX} (hX : gHX X) : gM0 X 4 = em_4 := by rw [hX.1]; rfl
theorem me_5 {X : gX} (hX : gHX X) : gM0 X 5 = em_5 := by rw [hX.1]; rfl
theorem me_6 {X : gX} (hX : gHX X) : gM0 X 6 = em_6 := by rw [hX.1]; rfl
theorem me_7 {X : gX} (hX : gHX X) : gM0 X 7 = em_7 := by rw [hX.1]; rfl
theorem me_8 {X : gX} (hX : gHX X) : gM0 X 8 = em_8 := by rw [hX.1]; rfl
theorem me_9 {X : gX} (hX : gHX X) : gM0 X 9 = em_9 := by rw [hX.1]; rfl
theorem me_11 {X : gX} (hX : gHX X) : gM0 X 11 = em_11 := by rw [hX.1]; rfl
theorem me_12 {X : gX} (hX : gHX X) : gM0 X 12 = em_12 := by rw [hX.1]; rfl
theorem me_13 {X : gX} (hX : gHX X) : gM0 X 13 = em_13 := by rw [hX.1]; rfl
theorem me_14 {X : gX} (hX : gHX X) : gM0 X 14 = em_14 := by rw [hX.1]; rfl
theorem me_15 {X : gX} (hX : gHX X) : gM0 X 15 = em_15 := by rw [hX.1]; rfl
theorem me_16 {X : gX} (hX : gHX X) : gM0 X 16 = em_16 := by rw [hX.1]; rfl
theorem me_17 {X : gX} (hX : gHX X) : gM0 X 17 = em_17 := by rw [hX.1]; rfl
theorem me_18 {X : gX} (hX : gHX X) : gM0 X 18 = em_18 := by rw [hX.1]; rfl
theorem me_19 {X : gX} (hX : gHX X) : gM0 X 19 = em_19 := by rw [hX.1]; rfl
theorem me_20 {X : gX} (hX : gHX X) : gM0 X 20 = em_20 := by rw [hX.1]; rfl
theorem me_22 {X : gX} (hX : gHX X) : gM0 X 22 = em_22 := by rw [hX.1]; rfl
theorem me_23 {X : gX} (hX : gHX X) : gM0 X 23 = em_23 := by rw [hX.1]; rfl
theorem me_24 {X : gX} (hX : gHX X) : gM0 X 24 = em_24 := by rw [hX.1]; rfl
theorem me_25 {X : gX} (hX : gHX X) : gM0 X 25 = em_25 := by rw [hX.1]; rfl
theorem me_26 {X : gX} (hX : gHX X) : gM0 X 26 = em_26 := by rw [hX.1]; rfl
theorem me_27 {X : gX} (hX : gHX X) : gM0 X 27 = em_27 := by rw [hX.1]; rfl
theorem me_28 {X : gX} (hX : gHX X) : gM0 X 28 = em_28 := by rw [hX.1]; rfl
theorem me_29 {X : gX} (hX : gHX X) : gM0 X 29 = em_29 := by rw [hX.1]; rfl
theorem me_30 {X : gX} (hX : gHX X) : gM0 X 30 = em_30 := by rw [hX.1]; rfl
theorem me_31 {X : gX} (hX : gHX X) : gM0 X 31 = em_31 := by rw [hX.1]; rfl
theorem me_32 {X : gX} (hX : gHX X) : gM0 X 32 = em_32 := by rw [hX.1]; rfl
theorem me_34 {X : gX} (hX : gHX X) : gM0 X 34 = em_34 := by rw [hX.1]; rfl
theorem me_35 {X : gX} (hX : gHX X) : gM0 X 35 = em_35 := by rw [hX.1]; rfl
theorem me_36 {X : gX} (hX : gHX X) : gM0 X 36 = em_36 := by rw [hX.1]; rfl
theorem me_37 {X : gX} (hX : gHX X) : gM0 X 37 = em_37 := by rw [hX.1]; rfl
theorem me_38 {X : gX} (hX : gHX X) : gM0 X 38 = em_38 := by rw [hX.1]; rfl
theorem me_39 {X : gX} (hX : gHX X) : gM0 X 39 = em_39 := by rw [hX.1]; rfl
theorem me_40 {X : gX} (hX : gHX X) : gM0 X 40 = em_40 := by rw [hX.1]; rfl
theorem me_41 {X : gX} (hX : gHX X) : gM0 X 41 = em_41 := by rw [hX.1]; rfl
theorem me_42 {X : gX} (hX : gHX X) : gM0 X 42 = em_42 := by rw [hX.1]; rfl
theorem me_44 {X : gX} (hX : gHX X) : gM0 X 44 = em_44 := by rw [hX.1]; rfl
theorem me_45 {X : gX} (hX : gHX X) : gM0 X 45 = em_45 := by rw [hX.1]; rfl
theorem me_46 {X : gX} (hX : gHX X) : gM0 X 46 = em_46 := by rw [hX.1]; rfl
theorem me_47 {X : gX} (hX : gHX X) : gM0 X 47 = em_47 := by rw [hX.1]; rfl
theorem me_48 {X : gX} (hX : gHX X) : gM0 X 48 = em_48 := by rw [hX.1]; rfl
theorem me_49 {X : gX} (hX : gHX X) : gM0 X 49 = em_49 := by rw [hX.1]; rfl
theorem me_50 {X : gX} (hX : gHX X) : gM0 X 50 = em_50 := by rw [hX.1]; rfl
theorem me_51 {X : gX} (hX : gHX X) : gM0 X 51 = em_51 := by rw [hX.1]; rfl
theorem me_52 {X : gX} (hX : gHX X) : gM0 X 52 = em_52 := by rw [hX.1]; rfl
theorem me_54 {X : gX} (hX : gHX X) : gM0 X 54 = em_54 := by rw [hX.1]; rfl
theorem me_55 {X : gX} (hX : gHX X) : gM0 X 55 = em_55 := by rw [hX.1]; rfl
theorem me_56 {X : gX} (hX : gHX X) : gM0 X 56 = em_56 := by rw [hX.1]; rfl
theorem me_57 {X : gX} (hX : gHX X) : gM0 X 57 = em_57 := by rw [hX.1]; rfl
theorem me_59 {X : gX} (hX : gHX X) : gM0 X 59 = em_59 := by rw [hX.1]; rfl
theorem me_60 {X : gX} (hX : gHX X) : gM0 X 60 = em_60 := by rw [hX.1]; rfl
theorem me_61 {X : gX} (hX : gHX X) : gM0 X 61 = em_61 := by rw [hX.1]; rfl
theorem me_63 {X : gX} (hX : gHX X) : gM0 X 63 = em_63 := by rw [hX.1]; rfl
theorem me_64 {X : gX} (hX : gHX X) : gM0 X 64 = em_64 := by rw [hX.1]; rfl
theorem me_65 {X : gX} (hX : gHX X) : gM0 X 65 = em_65 := by rw [hX.1]; rfl
theorem me_66 {X : gX} (hX : gHX X) : gM0 X 66 = em_66 := by rw [hX.1]; rfl
theorem me_68 {X : gX} (hX : gHX X) : gM0 X 68 = em_68 := by rw [hX.1]; rfl
theorem me_69 {X : gX} (hX : gHX X) : gM0 X 69 = em_69 := by rw [hX.1]; rfl
theorem me_70 {X : gX} (hX : gHX X) : gM0 X 70 = em_70 := by rw [hX.1]; rfl
theorem me_71 {X : gX} (hX : gHX X) : gM0 X 71 = em_71 := by rw [hX.1]; rfl
theorem me_72 {X : gX} (hX : gHX X) : gM0 X 72 = em_72 := by rw [hX.1]; rfl
theorem me_73 {X : gX} (hX : gHX X) : gM0 X 73 = em_73 := by rw [hX.1]; rfl
theorem me_74 {X : gX} (hX : gHX X) : gM0 X 74 = em_74 := by rw [hX.1]; rfl
theorem me_76 {X : gX} (hX : gHX X) : gM0 X 76 = em_76 := by rw [hX.1]; rfl
theorem me_77 {X : gX} (hX : gHX X) : gM0 X 77 = em_77 := by rw [hX.1]; rfl
theorem me_78 {X : gX} (hX : gHX X) : gM0 X 78 = em_78 := by rw [hX.1]; rfl
theorem me_79 {X : gX} (hX : gHX X) : gM0 X 79 = em_79 := by rw [hX.1]; rfl
theorem me_80 {X : gX} (hX : gHX X) : gM0 X 80 = em_80 := by rw [hX.1]; rfl
theorem me_81 {X : gX} (hX : gHX X) : gM0 X 81 = em_81 := by rw [hX.1]; rfl
theorem me_82 {X : gX} (hX : gHX X) : gM0 X 82 = em_82 := by rw [hX.1]; rfl
theorem me_83 {X : gX} (hX : gHX X) : gM0 X 83 = em_83 := by rw [hX.1]; rfl
theorem me_84 {X : gX} (hX : gHX X) : gM0 X 84 = em_84 := by rw [hX.1]; rfl
theorem me_85 {X : gX} (hX : gHX X) : gM0 X 85 = em_85 := by rw [hX.1]; rfl
theorem me_87 {X : gX} (hX : gHX X) : gM0 X 87 = em_87 := by rw [hX.1]; rfl
theorem me_88 {X : gX} (hX : gHX X) : gM0 X 88 = em_88 := by rw [hX.1]; rfl
theorem me_89 {X : gX} (hX : gHX X) : gM0 X 89 = em_89 := by rw [hX.1]; rfl
theorem me_90 {X : gX} (hX : gHX X) : gM0 X 90 = em_90 := by rw [hX.1]; rfl
theorem me_91 {X : gX} (hX : gHX X) : gM0 X 91 = em_91 := by rw [hX.1]; rfl
theorem me_92 {X : gX} (hX : gHX X) : gM0 X 92 = em_92 := by rw [hX.1]; rfl
theorem me_93 {X : gX} (hX : gHX X) : gM0 X 93 = em_93 := by rw [hX.1]; rfl
theorem me_94 {X : gX} (hX : gHX X) : gM0 X 94 = em_94 := by rw [hX.1]; rfl
theorem me_95 {X : gX} (hX : gHX X) : gM0 X 95 = em_95 := by rw [hX.1]; rfl
theorem me_96 {X : gX} (hX : gHX X) : gM0 X 96 = em_96 := by rw [hX.1]; rfl
theorem me_97 {X : gX} (hX : gHX X) : gM0 X 97 = em_97 := by rw [hX.1]; rfl
theorem me_98 {X : gX} (hX : gHX X) : gM0 X 98 = em_98 := by rw [hX.1]; rfl
theorem me_99 {X : gX} (hX : gHX X) : gM0 X 99 = em_99 := by rw [hX.1]; rfl
theorem me_100 {X : gX} (hX : gHX X) : gM0 X 100 = em_100 := by rw [hX.1]; rfl
theorem me_101 {X : gX} (hX : gHX X) : gM0 X 101 = em_101 := by rw [hX.1]; rfl
theorem me_102 {X : gX} (hX : gHX X) : gM0 X 102 = em_102 := by rw [hX.1]; rfl
theorem me_103 {X : gX} (hX : gHX X) : gM0 X 103 = em_103 := by rw [hX.1]; rfl
theorem me_104 {X : gX} (hX : gHX X) : gM0 X 104 = em_104 := by rw [hX.1]; rfl
theorem me_105 {X : gX} (hX : gHX X) : gM0 X 105 = em_105 := by rw [hX.1]; rfl
theorem me_106 {X : gX} (hX : gHX X) : gM0 X 106 = em_106 := by rw [hX.1]; rfl
theorem me_107 {X : gX} (hX : gHX X) : gM0 X 107 = em_107 := by rw [hX.1]; rfl
theorem me_108 {X : gX} (hX : gHX X) : gM0 X 108 = em_108 := by rw [hX.1]; rfl
theorem me_109 {X : gX} (hX : gHX X) : gM0 X 109 = em_109 := by rw [hX.1]; rfl
theorem me_110 {X : gX} (hX : gHX X) : gM0 X 110 = em_110 := by rw [hX.1]; rfl
theorem me_111 {X : gX} (hX : gHX X) : gM0 X 111 = em_111 := by rw [hX.1]; rfl
theorem me_112 {X : gX} (hX : gHX X) : gM0 X 112 = em_112 := by rw [hX.1]; rfl
theorem me_113 {X : gX} (hX : gHX X) : gM0 X 113 = em_113 := by rw [hX.1]; rfl
theorem me_114 {X : gX} (hX : gHX X) : gM0 X 114 = em_114 := by rw [hX.1]; rfl
theorem me_115 {X : gX} (hX : gHX X) : gM0 X 115 = em_115 := by rw [hX.1]; rfl
theorem me_116 {X : gX} (hX : gHX X) : gM0 X 116 = em_116 := by rw [hX.1]; rfl
theorem me_117 {X : gX} (hX : gHX X) : gM0 X 117 = em_117 := by rw [hX.1]; rfl
theorem me_118 {X : gX} (hX : gHX X) : gM0 X 118 = em_118 := by rw [hX.1]; rfl
theorem me_119 {X : gX} (hX : gHX X) : gM0 X 119 = em_119 := by rw [hX.1]; rfl
theorem me_120 {X : gX} (hX : gHX X) : gM0 X 120 = em_120 := by rw [hX.1]; rfl
theorem me_121 {X : gX} (hX : gHX X) : gM0 X 121 = em_121 := by rw [hX.1]; rfl
theorem me_122 {X : gX} (hX : gHX X) : gM0 X 122 = em_122 := by rw [hX.1]; rfl
theorem me_123 {X : gX} (hX : gHX X) : gM0 X 123 = em_123 := by rw [hX.1]; rfl
theorem me_124 {X : gX} (hX : gHX X) : gM0 X 124 = em_124 := by rw [hX.1]; rfl
theorem me_125 {X : gX} (hX : gHX X) : gM0 X 125 = em_125 := by rw [hX.1]; rfl
theorem me_126 {X : gX} (hX : gHX X) : gM0 X 126 = em_126 := by rw [hX.1]; rfl
theorem me_127 {X : gX} (hX : gHX X) : gM0 X 127 = em_127 := by rw [hX.1]; rfl
theorem me_128 {X : gX} (hX : gHX X) : gM0 X 128 = em_128 := by rw [hX.1]; rfl
theorem me_129 {X : gX} (hX : gHX X) : gM0 X 129 = em_129 := by rw [hX.1]; rfl
theorem me_130 {X : gX} (hX : gHX X) : gM0 X 130 = em_130 := by rw [hX.1]; rfl
theorem me_131 {X : gX} (hX : gHX X) : gM0 X 131 = em_131 := by rw [hX.1]; rfl
theorem me_132 {X : gX} (hX : gHX X) : gM0 X 132 = em_132 := by rw [hX.1]; rfl
theorem me_133 {X : gX} (hX : gHX X) : gM0 X 133 = em_133 := by rw [hX.1]; rfl
theorem me_134 {X : gX} (hX : gHX X) : gM0 X 134 = em_134 := by rw [hX.1]; rfl
theorem me_135 {X : gX} (hX : gHX X) : gM0 X 135 = em_135 := by rw [hX.1]; rfl
theorem me_136 {X : gX} (hX : gHX X) : gM0 X 136 = em_136 := by rw [hX.1]; rfl
theorem me_137 {X : gX} (hX : gHX X) : gM0 X 137 = em_137 := by rw [hX.1]; rfl
theorem me_138 {X : gX} (hX : gHX X) : gM0 X 138 = em_138 := by rw [hX.1]; rfl
theorem me_139 {X : gX} (hX : gHX X) : gM0 X 139 = em_139 := by rw [hX.1]; rfl
theorem me_140 {X : gX} (hX : gHX X) : gM0 X 140 = em_140 := by rw [hX.1]; rfl
theorem me_141 {X : gX} (hX : gHX X) : gM0 X 141 = em_141 := by rw [hX.1]; rfl
theorem me_142 {X : gX} (hX : gHX X) : gM0 X 142 = em_142 := by rw [hX.1]; rfl
theorem me_143 {X : gX} (hX : gHX X) : gM0 X 143 = em_143 := by rw [hX.1]; rfl
theorem me_144 {X : gX} (hX : gHX X) : gM0 X 144 = em_144 := by rw [hX.1]; rfl
theorem me_145 {X : gX} (hX : gHX X) : gM0 X 145 = em_145 := by rw [hX.1]; rfl
theorem me_146 {X : gX} (hX : gHX X) : gM0 X 146 = em_146 := by rw [hX.1]; rfl
theorem me_147 {X : gX} (hX : gHX X) : gM0 X 147 = em_147 := by rw [hX.1]; rfl
theorem me_148 {X : gX} (hX : gHX X) : gM0 X 148 = em_148 := by rw [hX.1]; rfl
theorem me_150 {X : gX} (hX : gHX X) : gM0 X 150 = em_150 := by rw [hX.1]; rfl
theorem me_151 {X : gX} (hX : gHX X) : gM0 X 151 = em_151 := by rw [hX.1]; rfl
theorem me_152 {X : gX} (hX : gHX X) : gM0 X 152 = em_152 := by rw [hX.1]; rfl
theorem me_153 {X : gX} (hX : gHX X) : gM0 X 153 = em_153 := by rw [hX.1]; rfl
theorem me_154 {X : gX} (hX : gHX X) : gM0 X 154 = em_154 := by rw [hX.1]; rfl
theorem me_155 {X : gX} (hX : gHX X) : gM0 X 155 = em_155 := by rw [hX.1]; rfl
theorem me_156 {X : gX} (hX : gHX X) : gM0 X 156 = em_156 := by rw [hX.1]; rfl
theorem me_157 {X : gX} (hX : gHX X) : gM0 X 157 = em_157 := by rw [hX.1]; rfl
theorem me_158 {X : gX} (hX : gHX X) : gM0 X 158 = em_158 := by rw [hX.1]; rfl
theorem me_159 {X : gX} (hX : gHX X) : gM0 X 159 = em_159 := by rw [hX.1]; rfl
theorem me_160 {X : gX} (hX : gHX X) : gM0 X 160 = em_160 := by rw [hX.1]; rfl
theorem me_161 {X : gX} (hX : gHX X) : gM0 X 161 = em_161 := by rw [hX.1]; rfl
theorem me_162 {X : gX} (hX : gHX X) : gM0 X 162 = em_162 := by rw [hX.1]; rfl
theorem me_163 {X : gX} (hX : gHX X) : gM0 X 163 = em_163 := by rw [hX.1]; rfl
theorem me_164 {X : gX} (hX : gHX X) : gM0 X 164 = em_164 := by rw [hX.1]; rfl
theorem me_165 {X : gX} (hX : gHX X) : gM0 X 165 = em_165 := by rw [hX.1]; rfl
theorem me_166 {X : gX} (hX : gHX X) : gM0 X 166 = em_166 := by rw [hX.1]; rfl
theorem me_167 {X : gX} (hX : gHX X) : gM0 X 167 = em_167 := by rw [hX.1]; rfl
theorem me_168 {X : gX} (hX : gHX X) : gM0 X 168 = em_168 := by rw [hX.1]; rfl
theorem me_169 {X : gX} (hX : gHX X) : gM0 X 169 = em_169 := by rw [hX.1]; rfl
theorem me_170 {X : gX} (hX : gHX X) : gM0 X 170 = em_170 := by rw [hX.1]; rfl
theorem me_171 {X : gX} (hX : gHX X) : gM0 X 171 = em_171 := by rw [hX.1]; rfl
theorem me_172 {X : gX} (hX : gHX X) : gM0 X 172 = em_172 := by rw [hX.1]; rfl
theorem me_173 {X : gX} (hX : gHX X) : gM0 X 173 = em_173 := by rw [hX.1]; rfl
theorem me_174 {X : gX} (hX : gHX X) : gM0 X 174 = em_174 := by rw [hX.1]; rfl
theorem me_175 {X : gX} (hX : gHX X) : gM0 X 175 = em_175 := by rw [hX.1]; rfl
theorem me_176 {X : gX} (hX : gHX X) : gM0 X 176 = em_176 := by rw [hX.1]; rfl
theorem me_177 {X : gX} (hX : gHX X) : gM0 X 177 = em_177 := by rw [hX.1]; rfl
theorem me_178 {X : gX} (hX : gHX X) : gM0 X 178 = em_178 := by rw [hX.1]; rfl
theorem me_179 {X : gX} (hX : gHX X) : gM0 X 179 = em_179 := by rw [hX.1]; rfl
theorem me_180 {X : gX} (hX : gHX X) : gM0 X 180 = em_180 := by rw [hX.1]; rfl
theorem me_181 {X : gX} (hX : gHX X) : gM0 X 181 = em_181 := by rw [hX.1]; rfl
theorem me_182 {X : gX} (hX : gHX X) : gM0 X 182 = em_182 := by rw [hX.1]; rfl
theorem me_183 {X : gX} (hX : gHX X) : gM0 X 183 = em_183 := by rw [hX.1]; rfl
theorem me_184 {X : gX} (hX : gHX X) : gM0 X 184 = em_184 := by rw [hX.1]; rfl
theorem me_185 {X : gX} (hX : gHX X) : gM0 X 185 = em_185 := by rw [hX.1]; rfl
theorem me_186 {X : gX} (hX : gHX X) : gM0 X 186 = em_186 := by rw [hX.1]; rfl
theorem me_187 {X : gX} (hX : gHX X) : gM0 X 187 = em_187 := by rw [hX.1]; rfl
theorem me_188 {X : gX} (hX : gHX X) : gM0 X 188 = em_188 := by rw [hX.1]; rfl
theorem me_189 {X : gX} (hX : gHX X) : gM0 X 189 = em_189 := by rw [hX.1]; rfl
theorem me_190 {X : gX} (hX : gHX X) : gM0 X 190 = em_190 := by rw [hX.1]; rfl
theorem me_191 {X : gX} (hX : gHX X) : gM0 X 191 = em_191 := by rw [hX.1]; rfl
theorem me_192 {X : gX} (hX : gHX X) : gM0 X 192 = em_192 := by rw [hX.1]; rfl
theorem me_193 {X : gX} (hX : gHX X) : gM0 X 193 = em_193 := by rw [hX.1]; rfl
theorem me_194 {X : gX} (hX : gHX X) : gM0 X 194 = em_194 := by rw [hX.1]; rfl
theorem me_195 {X : gX} (hX : gHX X) : gM0 X 195 = em_195 := by rw [hX.1]; rfl
theorem me_196 {X : gX} (hX : gHX X) : gM0 X 196 = em_196 := by rw [hX.1]; rfl
theorem me_197 {X : gX} (hX : gHX X) : gM0 X 197 = em_197 := by rw [hX.1]; rfl
theorem me_198 {X : gX} (hX : gHX X) : gM0 X 198 = em_198 := by rw [hX.1]; rfl
theorem me_199 {X : gX} (hX : gHX X) : gM0 X 199 = em_199 := by rw [hX.1]; rfl
theorem me_200 {X : gX} (hX : gHX X) : gM0 X 200 = em_200 := by rw [hX.1]; rfl
theorem me_201 {X : gX} (hX : gHX X) : gM0 X 201 = em_201 := by rw [hX.1]; rfl
theorem me_202 {X : gX} (hX : gHX X) : gM0 X 202 = em_202 := by rw [hX.1]; rfl
theorem me_203 {X : gX} (hX : gHX X) : gM0 X 203 = em_203 := by rw [hX.1]; rfl
theorem me_204 {X : gX} (hX : gHX X) : gM0 X 204 = em_204 := by rw [hX.1]; rfl
theorem me_205 {X : gX} (hX : gHX X) : gM0 X 205 = em_205 := by rw [hX.1]; rfl
theorem me_206 {X : gX} (hX : gHX X) : gM0 X 206 = em_206 := by rw [hX.1]; rfl
theorem me_207 {X : gX} (hX : gHX X) : gM0 X 207 = em_207 := by rw [hX.1]; rfl
theorem me_208 {X : gX} (hX : gHX X) : gM0 X 208 = em_208 := by rw [hX.1]; rfl
theorem me_209 {X : gX} (hX : gHX X) : gM0 X 209 = em_209 := by rw [hX.1]; rfl
theorem me_210 {X : gX} (hX : gHX X) : gM0 X 210 = em_210 := by rw [hX.1]; rfl
theorem me_211 {X : gX} (hX : gHX X) : gM0 X 211 = em_211 := by rw [hX.1]; rfl
theorem me_212 {X : gX} (hX : gHX X) : gM0 X 212 = em_212 := by rw [hX.1]; rfl
theorem me_213 {X : gX} (hX : gHX X) : gM0 X 213 = em_213 := by rw [hX.1]; rfl
theorem me_214 {X : gX} (hX : gHX X) : gM0 X 214 = em_214 := by rw [hX.1]; rfl
theorem me_215 {X : gX} (hX : gHX X) : gM0 X 215 = em_215 := by rw [hX.1]; rfl
theorem me_216 {X : gX} (hX : gHX X) : gM0 X 216 = em_216 := by rw [hX.1]; rfl
theorem me_217 {X : gX} (hX : gHX X) : gM0 X 217 = em_217 := by rw [hX.1]; rfl
theorem me_218 {X : gX} (hX : gHX X) : gM0 X 218 = em_218 := by rw [hX.1]; rfl
theorem me_219 {X : gX} (hX : gHX X) : gM0 X 219 = em_219 := by rw [hX.1]; rfl
theorem me_220 {X : gX} (hX : gHX X) : gM0 X 220 = em_220 := by rw [hX.1]; rfl
theorem me_221 {X : gX} (hX : gHX X) : gM0 X 221 = em_221 := by rw [hX.1]; rfl
theorem me_222 {X : gX} (hX : gHX X) : gM0 X 222 = em_222 := by rw [hX.1]; rfl
theorem me_223 {X : gX} (hX : gHX X) : gM0 X 223 = em_223 := by rw [hX.1]; rfl
theorem me_224 {X : gX} (hX : gHX X) : gM0 X 224 = em_224 := by rw [hX.1]; rfl
theorem me_225 {X : gX} (hX : gHX X) : gM0 X 225 = em_225 := by rw [hX.1]; rfl
theorem me_226 {X : gX} (hX : gHX X) : gM0 X 226 = em_226 := by rw [hX.1]; rfl
theorem me_227 {X : gX} (hX : gHX X) : gM0 X 227 = em_227 := by rw [hX.1]; rfl
theorem me_228 {X : gX} (hX : gHX X) : gM0 X 228 = em_228 := by rw [hX.1]; rfl
theorem me_229 {X : gX} (hX : gHX X) : gM0 X 229 = em_229 := by rw [hX.1]; rfl
theorem me_230 {X : gX} (hX : gHX X) : gM0 X 230 = em_230 := by rw [hX.1]; rfl
theorem me_231 {X : gX} (hX : gHX X) : gM0 X 231 = em_231 := by rw [hX.1]; rfl
theorem me_232 {X : gX} (hX : gHX X) : gM0 X 232 = em_232 := by rw [hX.1]; rfl
theorem me_233 {X : gX} (hX : gHX X) : gM0 X 233 = em_233 := by rw [hX.1]; rfl
theorem me_234 {X : gX} (hX : gHX X) : gM0 X 234 = em_234 := by rw [hX.1]; rfl
theorem me_235 {X : gX} (hX : gHX X) : gM0 X 235 = em_235 := by rw [hX.1]; rfl
theorem me_236 {X : gX} (hX : gHX X) : gM0 X 236 = em_236 := by rw [hX.1]; rfl
theorem me_237 {X : gX} (hX : gHX X) : gM0 X 237 = em_237 := by rw [hX.1]; rfl
theorem me_238 {X : gX} (hX : gHX X) : gM0 X 238 = em_238 := by rw [hX.1]; rfl
theorem me_239 {X : gX} (hX : gHX X) : gM0 X 239 = em_239 := by rw [hX.1]; rfl
theorem me_240 {X : gX} (hX : gHX X) : gM0 X 240 = em_240 := by rw [hX.1]; rfl
theorem me_241 {X : gX} (hX : gHX X) : gM0 X 241 = em_241 := by rw [hX.1]; rfl
theorem me_242 {X : gX} (hX : gHX X) : gM0 X 242 = em_242 := by rw [hX.1]; rfl
theorem me_243 {X : gX} (hX : gHX X) : gM0 X 243 = em_243 := by rw [hX.1]; rfl
theorem me_244 {X : gX} (hX : gHX X) : gM0 X 244 = em_244 := by rw [hX.1]; rfl
theorem me_245 {X : gX} (hX : gHX X) : gM0 X 245 = em_245 := by rw [hX.1]; rfl
theorem me_246 {X : gX} (hX : gHX X) : gM0 X 246 = em_246 := by rw [hX.1]; rfl
theorem me_247 {X : gX} (hX : gHX X) : gM0 X 247 = em_247 := by rw [hX.1]; rfl
theorem me_248 {X : gX} (hX : gHX X) : gM0 X 248 = em_248 := by rw [hX.1]; rfl
theorem me_249 {X : gX} (hX : gHX X) : gM0 X 249 = em_249 := by rw [hX.1]; rfl
theorem me_250 {X : gX} (hX : gHX X) : gM0 X 250 = em_250 := by rw [hX.1]; rfl
theorem me_251 {X : gX} (hX : gHX X) : gM0 X 251 = em_251 := by rw [hX.1]; rfl
theorem me_252 {X : gX} (hX : gHX X) : gM0 X 252 = em_252 := by rw [hX.1]; rfl
theorem me_253 {X : gX} (hX : gHX X) : gM0 X 253 = em_253 := by rw [hX.1]; rfl
theorem me_254 {X : gX} (hX : gHX X) : gM0 X 254 = em_254 := by rw [hX.1]; rfl
theorem me_255 {X : gX} (hX : gHX X) : gM0 X 255 = em_255 := by rw [hX.1]; rfl
theorem me_256 {X : gX} (hX : gHX X) : gM0 X 256 = em_256 := by rw [hX.1]; rfl
theorem me_257 {X : gX} (hX : gHX X) : gM0 X 257 = em_257 := by rw [hX.1]; rfl
theorem me_258 {X : gX} (hX : gHX X) : gM0 X 258 = em_258 := by rw [hX.1]; rfl
theorem me_259 {X : gX} (hX : gHX X) : gM0 X 259 = em_259 := by rw [hX.1]; rfl
theorem me_260 {X : gX} (hX : gHX X) : gM0 X 260 = em_260 := by rw [hX.1]; rfl
theorem me_261 {X : gX} (hX : gHX X) : gM0 X 261 = em_261 := by rw [hX.1]; rfl
theorem me_262 {X : gX} (hX : gHX X) : gM0 X 262 = em_262 := by rw [hX.1]; rfl
theorem me_263 {X : gX} (hX : gHX X) : gM0 X 263 = em_263 := by rw [hX.1]; rfl
theorem me_264 {X : gX} (hX : gHX X) : gM0 X 264 = em_264 := by rw [hX.1]; rfl
theorem me_265 {X : gX} (hX : gHX X) : gM0 X 265 = em_265 := by rw [hX.1]; rfl
theorem me_266 {X : gX} (hX : gHX X) : gM0 X 266 = em_266 := by rw [hX.1]; rfl
theorem me_267 {X : gX} (hX : gHX X) : gM0 X 267 = em_267 := by rw [hX.1]; rfl
theorem me_268 {X : gX} (hX : gHX X) : gM0 X 268 = em_268 := by rw [hX.1]; rfl
theorem me_269 {X : gX} (hX : gHX X) : gM0 X 269 = em_269 := by rw [hX.1]; rfl
theorem me_270 {X : gX} (hX : gHX X) : gM0 X 270 = em_270 := by rw [hX.1]; rfl
theorem me_271 {X : gX} (hX : gHX X) : gM0 X 271 = em_271 := by rw [hX.1]; rfl
theorem me_272 {X : gX} (hX : gHX X) : gM0 X 272 = em_272 := by rw [hX.1]; rfl
theorem me_273 {X : gX} (hX : gHX X) : gM0 X 273 = em_273 := by rw [hX.1]; rfl
theorem me_274 {X : gX} (hX : gHX X) : gM0 X 274 = em_274 := by rw [hX.1]; rfl
theorem me_275 {X : gX} (hX : gHX X) : gM0 X 275 = em_275 := by rw [hX.1]; rfl
theorem me_276 {X : gX} (hX : gHX X) : gM0 X 276 = em_276 := by rw [hX.1]; rfl
theorem me_277 {X : gX} (hX : gHX X) : gM0 X 277 = em_277 := by rw [hX.1]; rfl
theorem me_278 {X : gX} (hX : gHX X) : gM0 X 278 = em_278 := by rw [hX.1]; rfl
theorem me_279 {X : gX} (hX : gHX X) : gM0 X 279 = em_279 := by rw [hX.1]; rfl
theorem me_280 {X : gX} (hX : gHX X) : gM0 X 280 = em_280 := by rw [hX.1]; rfl
theorem me_281 {X : gX} (hX : gHX X) : gM0 X 281 = em_281 := by rw [hX.1]; rfl
theorem me_282 {X : gX} (hX : gHX X) : gM0 X 282 = em_282 := by rw [hX.1]; rfl
theorem me_283 {X : gX} (hX : gHX X) : gM0 X 283 = em_283 := by rw [hX.1]; rfl
theorem me_284 {X : gX} (hX : gHX X) : gM0 X 284 = em_284 := by rw [hX.1]; rfl
theorem me_285 {X : gX} (hX : gHX X) : gM0 X 285 = em_285 := by rw [hX.1]; rfl
theorem me_286 {X : gX} (hX : gHX X) : gM0 X 286 = em_286 := by rw [hX.1]; rfl
theorem me_287 {X : gX} (hX : gHX X) : gM0 X 287 = em_287 := by rw [hX.1]; rfl
theorem me_288 {X : gX} (hX : gHX X) : gM0 X 288 = em_288 := by rw [hX.1]; rfl
theorem me_289 {X : gX} (hX : gHX X) : gM0 X 289 = em_289 := by rw [hX.1]; rfl
theorem me_290 {X : gX} (hX : gHX X) : gM0 X 290 = em_290 := by rw [hX.1]; rfl
theorem me_291 {X : gX} (hX : gHX X) : gM0 X 291 = em_291 := by rw [hX.1]; rfl
theorem me_292 {X : gX} (hX : gHX X) : gM0 X 292 = em_292 := by rw [hX.1]; rfl
theorem me_293 {X : gX} (hX : gHX X) : gM0 X 293 = em_293 := by rw [hX.1]; rfl
theorem me_294 {X : gX} (hX : gHX X) : gM0 X 294 = em_294 := by rw [hX.1]; rfl
theorem me_295 {X : gX} (hX : gHX X) : gM0 X 295 = em_295 := by rw [hX.1]; rfl
theorem me_296 {X : gX} (hX : gHX X) : gM0 X 296 = em_296 := by rw [hX.1]; rfl
theorem me_297 {X : gX} (hX : gHX X) : gM0 X 297 = em_297 := by rw [hX.1]; rfl
theorem me_298 {X : gX} (hX : gHX X) : gM0 X 298 = em_298 := by rw [hX.1]; rfl
theorem me_299 {X : gX} (hX : gHX X) : gM0 X 299 = em_299 := by rw [hX.1]; rfl
theorem me_300 {X : gX} (hX : gHX X) : gM0 X 300 = em_300 := by rw [hX.1]; rfl
theorem me_301 {X : gX} (hX : gHX X) : gM0 X 301 = em_301 := by rw [hX.1]; rfl
theorem me_302 {X : gX} (hX : gHX X) : gM0 X 302 = em_302 := by rw [hX.1]; rfl
theorem me_303 {X : gX} (hX : gHX X) : gM0 X 303 = em_303 := by rw [hX.1]; rfl
theorem me_304 {X : gX} (hX : gHX X) : gM0 X 304 = em_304 := by rw [hX.1]; rfl
theorem me_305 {X : gX} (hX : gHX X) : gM0 X 305 = em_305 := by rw [hX.1]; rfl
theorem me_306 {X : gX} (hX : gHX X) : gM0 X 306 = em_306 := by rw [hX.1]; rfl
theorem me_307 {X : gX} (hX : gHX X) : gM0 X 307 = em_307 := by rw [hX.1]; rfl
theorem me_308 {X : gX} (hX : gHX X) : gM0 X 308 = em_308 := by rw [hX.1]; rfl
theorem me_309 {X : gX} (hX : gHX X) : gM0 X 309 = em_309 := by rw [hX.1]; rfl
theorem me_310 {X : gX} (hX : gHX X) : gM0 X 310 = em_310 := by rw [hX.1]; rfl
theorem gtxl : ∀ i, i < 70 → (gtx i).length < 100 ∧ ∀ c ∈ gtx i, c < 128 := by decide +kernel
theorem gsc_lt {a j : Nat} (ha : a < 70) : 0 ≤ gsc a j ∧ gsc a j < 128 := by
  unfold gsc
  rw [List.getD_eq_getElem?_getD]
  cases h : (gtx a)[j]? with
  | none => exact ⟨by decide, by decide⟩
  | some c =>
    have h1 := (gtxl a ha).2 c (List.mem_of_getElem? h)
    exact ⟨by show (0 : Int) ≤ (c : Int); omega, by show (c : Int) < 128; omega⟩
theorem gmsk : ∀ n : Nat, n < 128 → gi2c (gand (n : Int) 255) = (n : Int) := by decide +kernel
theorem gmsk2 {v : Int} (h0 : 0 ≤ v) (h1 : v < 128) : gi2c (gand v 255) = v := by
  have h2 := gmsk v.toNat (by omega)
  rw [show ((v.toNat : Nat) : Int) = v by omega] at h2
  exact h2
section Txt
variable {X : gX} {T : es_M} {m d pc : Nat} {cd : List es_I} {L : List (Nat × gV)} {S : List gV} {s : gS} {cs ss : Nat} {Q : Type} {x : Option Q} {κ : Q → Option gO}
theorem g_q1 (ok : gOK X) {idx a a1 : Nat} {z : Int} {tl : List Nat} (k : Go X T m d (pc + 3) cd L ((9, 0, a) :: S) s cs ss x κ) : Go X T m d pc ((pc, .getfield idx, 3, 60 :: 1 :: a1 :: tl) :: cd) L ((8, z, a) :: S) s cs ss x κ :=
  g_str ok (S' := (9, 0, a) :: S) (fun hs => ⟨by
    show (bif Nat.beq 8 8 && Nat.blt a (gts X).length then some (pc + 3, gL L, (9, a) :: S.map gf, gH s, gF X, cs, ss) else none) = _
    rw [ok.2.2.2.2.1, es_blt.mpr (show a < 70 from (gS2 hs).1)]
    rfl, gS1 (gS2 hs).2 (show gok s (9, 0, a) from fun h => absurd (show 16 ≤ 9 from h) (by decide))⟩) k
theorem g_q2 (ok : gOK X) {idx a a1 : Nat} {z : Int} {tl : List Nat} (k : Go X T m d (pc + 3) cd L ((0, 0, 0) :: S) s cs ss x κ) : Go X T m d pc ((pc, .getfield idx, 3, 60 :: 2 :: a1 :: tl) :: cd) L ((8, z, a) :: S) s cs ss x κ :=
  g_str ok (S' := (0, 0, 0) :: S) (fun hs => ⟨by
    show (bif Nat.beq 8 8 && Nat.blt a (gts X).length then some (pc + 3, gL L, (0, 0) :: S.map gf, gH s, gF X, cs, ss) else none) = _
    rw [ok.2.2.2.2.1, es_blt.mpr (show a < 70 from (gS2 hs).1)]
    rfl, gS1 (gS2 hs).2 (gok_i.mpr (by unfold gc32; decide))⟩) k
theorem gtx_at (hX : gHX X) {a : Nat} (ha : a < 70) (ok : gOK X) : ∃ q, (gts X)[a]? = some q ∧ es_bs q.2.2 = gtx a := by
  have hl : a < (gts X).length := by rw [ok.2.2.2.2.1]; exact ha
  refine ⟨_, List.getElem?_eq_getElem hl, ?_⟩
  unfold gtx
  rw [← hX.2, List.getElem?_eq_getElem hl]
theorem g_q3 (ok : gOK X) (hX : gHX X) {a a1 : Nat} {z : Int} {tl : List Nat} (ha : a < 70) (k : Go X T m d (pc + 1) cd L ((0, gsl a, 0) :: S) s cs ss x κ) : Go X T m d pc ((pc, .arraylength, 1, 60 :: 3 :: a1 :: tl) :: cd) L ((9, z, a) :: S) s cs ss x κ :=
  g_str ok (S' := (0, gsl a, 0) :: S) (fun hs => ⟨by
    obtain ⟨q, h1, h2⟩ := gtx_at hX ha ok
    show (match (gts X)[a]? with
      | some q => bif Nat.beq 9 9 then some (pc + 1, gL L, (0, (es_bs q.2.2).length) :: S.map gf, gH s, gF X, cs, ss) else none
      | none => none) = _
    rw [h1]
    show some (pc + 1, gL L, (0, (es_bs q.2.2).length) :: S.map gf, gH s, gF X, cs, ss) = some (pc + 1, gL L, (0, eI (gsl a)) :: S.map gf, gH s, gF X, cs, ss)
    have h3 := (gtxl a ha).1
    unfold gsl
    rw [h2, geN (by omega)], gS1 (gS2 hs).2 (gok_i.mpr (by have h3 := (gtxl a ha).1; unfold gc32 gsl; omega))⟩) k
theorem g_q4 (ok : gOK X) (hX : gHX X) {a a1 b : Nat} {z j : Int} {tl : List Nat} (ha : a < 70) (h0 : 0 ≤ j) (h1 : j < gsl a) (k : Go X T m d (pc + 1) cd L ((0, gsc a j.toNat, 0) :: S) s cs ss x κ) : Go X T m d pc ((pc, .baload, 1, 60 :: 4 :: a1 :: tl) :: cd) L ((0, j, b) :: (9, z, a) :: S) s cs ss x κ :=
  g_str ok (S' := (0, gsc a j.toNat, 0) :: S) (fun hs => ⟨by
    obtain ⟨q, h4, h2⟩ := gtx_at hX ha ok
    show (match (gts X)[a]?, es_kn (gF X) (0, eI j) with
      | some q, some jn => bif Nat.beq 9 9 && Nat.blt jn (es_bs q.2.2).length then some (pc + 1, gL L, (0, (es_bs q.2.2).getD jn 0) :: S.map gf, gH s, gF X, cs, ss) else none
      | _, _ => none) = _
    rw [h4, gkn]
    dsimp only
    have h3 := (gtxl a ha).1
    have h5 : j < ((gtx a).length : Int) := h1
    rw [h2, geN2 h0 (by omega), es_blt.mpr (show j.toNat < (gtx a).length by omega)]
    show some (pc + 1, gL L, (0, (gtx a).getD j.toNat 0) :: S.map gf, gH s, gF X, cs, ss) = some (pc + 1, gL L, (0, eI (gsc a j.toNat)) :: S.map gf, gH s, gF X, cs, ss)
    have h6 := (gsc_lt (j := j.toNat) ha).2
    unfold gsc at h6 ⊢
    rw [geN (by omega)], gS1 (gS2 (gS2 hs).2).2 (gok_i.mpr (by have h6 := gsc_lt (j := j.toNat) ha; unfold gc32; omega))⟩) k
theorem g_q5 (ok : gOK X) {idx a1 : Nat} {tl : List Nat} (k : Go X T m d (pc + 3) cd L ((0, 1, 0) :: S) s cs ss x κ) : Go X T m d pc ((pc, .getstatic idx, 3, 60 :: 5 :: a1 :: tl) :: cd) L S s cs ss x κ :=
  g_str ok (S' := (0, 1, 0) :: S) (fun hs => ⟨rfl, gS1 hs (gok_i.mpr (by unfold gc32; decide))⟩) k
theorem g_q6 (ok : gOK X) {idx a1 : Nat} {tl : List Nat} (k : Go X T m d (pc + 3) cd L ((10, 0, 0) :: S) s cs ss x κ) : Go X T m d pc ((pc, .getstatic idx, 3, 60 :: 6 :: a1 :: tl) :: cd) L S s cs ss x κ :=
  g_str ok (S' := (10, 0, 0) :: S) (fun hs => ⟨rfl, gS1 hs (show gok s (10, 0, 0) from fun h => absurd (show 16 ≤ 10 from h) (by decide))⟩) k
/-- what a local holds is as its kind says -/
theorem g_lok {i : Nat} {v : gV} (hi : es_get L i = some v) (k : gok s v → Go X T m d pc cd L S s cs ss x κ) : Go X T m d pc cd L S s cs ss x κ :=
  fun h0 hm hc hw hl hs r hr => k (hl _ (gget_mem hi)) h0 hm hc hw hl hs r hr
end Txt
theorem t_268 {X : gX} (ok : gOK X) (hX : gHX X) (d : Nat) (a0 : Nat) (s : gS) : Go X em_268 268 d 0 [] [(0, (8, 0, a0))] [] s 0 0 (f_268 a0 s) some := by
  delta f_268
  refine g_rb gs_268 0 (cd' := gb_268_0) rfl rfl ?_
  refine g_q5 ok ?_
  refine g_br1 ok rfl (fun h => by cases h) (fun _ => ?_)
  refine g_rb gs_268 1 (cd' := gb_268_6) rfl rfl ?_
  refine g_aload_n ok rfl rfl ?_
  refine g_q2 ok ?_
  refine g_goto ok rfl ?_
  refine g_rb gs_268 3 (cd' := gb_268_14) rfl rfl ?_
  exact g_creturn ok (Or.inr rfl) ⟨by decide, by decide⟩ rfl rfl
theorem t_269 {X : gX} (ok : gOK X) (hX : gHX X) (d : Nat) (a0 : Nat) (s : gS) : Go X em_269 269 d 0 [] [(0, (8, 0, a0))] [] s 0 0 (f_269 a0 s) some := by
  delta f_269
  refine g_rb gs_269 0 (cd' := gb_269_0) rfl rfl ?_
  refine g_q5 ok ?_
  refine g_br1 ok rfl (fun h => by cases h) (fun _ => ?_)
  refine g_rb gs_269 1 (cd' := gb_269_6) rfl rfl ?_
  refine g_aload_n ok rfl rfl ?_
  refine g_q2 ok ?_
  refine g_br1 ok rfl (fun h => by cases h) (fun _ => ?_)
  refine g_rb gs_269 2 (cd' := gb_269_13) rfl rfl ?_
  refine g_iconst ok (v := 1) rfl ?_
  refine g_goto ok rfl ?_
  refine g_rb gs_269 4 (cd' := gb_269_18) rfl rfl ?_
  exact g_zreturn ok rfl (Or.inr rfl) rfl rfl
theorem t_266 {X : gX} (ok : gOK X) (hX : gHX X) (d : Nat) (a0 : Nat) (s : gS) : Go X em_266 266 (d + 1) 0 [] [(0, (8, 0, a0))] [] s 0 0 (f_266 a0 s) some := by
  show Go X em_266 266 (d + 1) 0 [] [(0, (8, 0, a0))] [] s 0 0 ((f_268 a0 s).bind (gv1 (fun v s => some (1, gshr (gsl a0) v, 0, s)))) some
  refine g_lok (i := 0) (v := (8, 0, a0)) rfl (fun ha => ?_)
  refine g_rb gs_266 0 (cd' := gb_266_0) rfl rfl ?_
  refine g_aload_n ok rfl rfl ?_
  refine g_q1 ok ?_
  refine g_q3 ok hX ha ?_
  refine g_aload_n ok rfl rfl ?_
  refine g_cq1 ok (me_268 hX) rfl rfl rfl (t_268 ok hX _ a0 s) (fun v s => ?_)
  refine g_ishr ok ?_
  exact g_ireturn ok rfl rfl rfl
theorem t_275 {X : gX} (ok : gOK X) (hX : gHX X) (d : Nat) (a0 a1 : Int) (s : gS) : Go X em_275 275 d 0 [] [(0, (0, a0, 0)), (1, (0, a1, 0)), (2, (10, 0, 0))] [] s 0 0 (f_275 a0 a1 s) some := by
  delta f_275
  refine g_chk (fun h0 h1 => ?_)
  refine g_rb gs_275 0 (cd' := gb_275_0) rfl rfl ?_
  refine g_iload_n ok rfl ?_
  refine g_br1 ok rfl (fun h => absurd (of_decide_eq_true h) (by omega)) (fun _ => ?_)
  refine g_rb gs_275 1 (cd' := gb_275_4) rfl rfl ?_
  refine g_iload_n ok rfl ?_
  refine g_iload_n ok rfl ?_
  refine g_br2 ok rfl (fun _ => ?_) (fun h => absurd h1 (of_decide_eq_false h))
  refine g_rb gs_275 2 (cd' := gb_275_16) rfl rfl ?_
  refine g_iload_n ok rfl ?_
  exact g_ireturn ok rfl rfl rfl
theorem t_270 {X : gX} (ok : gOK X) (hX : gHX X) (d : Nat) (a0 a1 : Int) (s : gS) : Go X em_270 270 (d + 1) 0 [] [(0, (0, a0, 0)), (1, (0, a1, 0))] [] s 0 0 (f_270 a0 a1 s) some := by
  have e : f_270 a0 a1 s = (f_275 a0 a1 s).bind (gv1 (fun _ s => some (0, 0, 0, s))) := by
    unfold f_270 f_275 gchk
    by_cases h : 0 ≤ a0 ∧ a0 < a1
    · rw [if_pos h, if_pos h]; rfl
    · rw [if_neg h, if_neg h]; rfl
  rw [e]
  refine g_rb gs_270 0 (cd' := gb_270_0) rfl rfl ?_
  refine g_iload_n ok rfl ?_
  refine g_iload_n ok rfl ?_
  refine g_q6 ok ?_
  refine g_cs1 ok (me_275 hX) rfl rfl rfl (t_275 ok hX _ a0 a1 s) (fun v s => ?_)
  refine g_pop ok rfl ?_
  exact g_return ok rfl rfl rfl
theorem t_271 {X : gX} (ok : gOK X) (hX : gHX X) (d : Nat) (a0 : Nat) (ha : a0 < 70) (a1 : Int) (s : gS) : Go X em_271 271 (d + 2) 0 [] [(0, (9, 0, a0)), (1, (0, a1, 0))] [] s 0 0 (f_271 a0 a1 s) some := by
  have e : f_271 a0 a1 s = gchk a1 (gsl a0) ((f_270 a1 (gsl a0) s).bind (gv0 (fun s => some (1, gi2c (gand (gsc a0 a1.toNat) 255), 0, s)))) := by
    unfold f_271 f_270 gchk
    by_cases h : 0 ≤ a1 ∧ a1 < gsl a0
    · rw [if_pos h, if_pos h, if_pos h]; rfl
    · rw [if_neg h, if_neg h]
  rw [e]
  refine g_chk (fun h0 h1 => ?_)
  refine g_rb gs_271 0 (cd' := gb_271_0) rfl rfl ?_
  refine g_iload_n ok rfl ?_
  refine g_aload_n ok rfl rfl ?_
  refine g_q3 ok hX ha ?_
  refine g_cs0 ok (me_270 hX) rfl rfl (t_270 ok hX _ a1 (gsl a0) s) (fun s => ?_)
  refine g_aload_n ok rfl rfl ?_
  refine g_iload_n ok rfl ?_
  refine g_q4 ok hX ha h0 h1 ?_
  refine g_sipush ok (v := 255) rfl ?_
  refine g_iand ok ?_
  refine g_i2c ok ?_
  have h2 := gsc_lt (j := a1.toNat) ha
  exact g_creturn ok (Or.inl rfl) (by rw [gmsk2 h2.1 h2.2]; exact h2) rfl rfl
theorem t_267 {X : gX} (ok : gOK X) (hX : gHX X) (d : Nat) (a0 : Nat) (a1 : Int) (s : gS) : Go X em_267 267 (d + 3) 0 [] [(0, (8, 0, a0)), (1, (0, a1, 0))] [] s 0 0 (f_267 a0 a1 s) some := by
  refine g_lok (i := 0) (v := (8, 0, a0)) rfl (fun ha => ?_)
  have ha2 : a0 < 70 := ha
  have e : f_267 a0 a1 s = (f_269 a0 s).bind (gv1 (fun w s => if w = 0 then none else (f_271 a0 a1 s).bind (gv1 (fun v s => gchk a1 (gsl a0) (if 0 ≤ v ∧ v < 128 then some (1, v, 0, s) else none))))) := by
    show f_267 a0 a1 s = (if (1 : Int) = 0 then none else (f_271 a0 a1 s).bind (gv1 (fun v s => gchk a1 (gsl a0) (if 0 ≤ v ∧ v < 128 then some (1, v, 0, s) else none))))
    rw [if_neg (by decide)]
    unfold f_267 f_271 gchk
    by_cases h : 0 ≤ a1 ∧ a1 < gsl a0
    · rw [if_pos h]
      have h2 := gsc_lt (j := a1.toNat) ha2
      show _ = (if 0 ≤ a1 ∧ a1 < gsl a0 then (if 0 ≤ gi2c (gand (gsc a0 a1.toNat) 255) ∧ gi2c (gand (gsc a0 a1.toNat) 255) < 128 then some (1, gi2c (gand (gsc a0 a1.toNat) 255), 0, s) else none) else none)
      rw [if_pos h, gmsk2 h2.1 h2.2, if_pos h2]
    · rw [if_neg h]; rfl
  rw [e]
  refine g_rb gs_267 0 (cd' := gb_267_0) rfl rfl ?_
  refine g_aload_n ok rfl rfl ?_
  refine g_cqz ok (me_269 hX) rfl rfl rfl (t_269 ok hX _ a0 s) (fun v s hb => ?_)
  refine g_if_eq ok rfl (fun _ => g_none) (fun _ => ?_)
  refine g_rb gs_267 1 (cd' := gb_267_7) rfl rfl ?_
  refine g_aload_n ok rfl rfl ?_
  refine g_q1 ok ?_
  refine g_iload_n ok rfl ?_
  refine g_cs1 ok (me_271 hX) rfl rfl rfl (t_271 ok hX _ a0 ha2 a1 s) (fun v s => ?_)
  refine g_chk (fun _ _ => g_ite (fun h => ?_) (fun _ => g_none))
  exact g_creturn ok (Or.inl rfl) h rfl rfl
theorem t_274 {X : gX} (ok : gOK X) (hX : gHX X) (d : Nat) (a0 : Nat) (a1 : Int) (s : gS) : Go X em_274 274 d 0 [] [(0, (3316, 0, a0)), (1, (0, a1, 0))] [] s 0 0 (f_274 a0 a1 s) some := by
  delta f_274
  refine g_rb gs_274 0 (cd' := gb_274_0) rfl rfl ?_
  refine g_iload_n ok rfl ?_
  refine g_aload_n ok rfl rfl ?_
  refine g_alen ok (n := 400) (t := 0) (by decide) rfl (N := 400) rfl ?_
  refine g_ic_ne ok rfl (fun _ => g_none) (fun _ => ?_)
  refine g_chk (fun h0 h1 => g_ite (fun _ => g_none) (fun hz => ?_))
  refine g_rb gs_274 1 (cd' := gb_274_14) rfl rfl ?_
  refine g_iload_n ok rfl ?_
  refine g_newint ok (n := a1.toNat) (by omega) (by omega) (by decide) (by show 0 + a1.toNat ≤ 400; omega) ?_
  refine g_astore_n ok rfl ?_ (L' := [(0, (3316, 0, a0)), (1, (0, a1, 0)), (2, (116 + 8 * a1.toNat, 0, gn s))]) rfl ?_
  · show (gtr (116 + 8 * a1.toNat) || _) = true
    unfold gtr
    rw [Nat.ble_eq.mpr (show 16 ≤ 116 + 8 * a1.toNat by omega)]
    rfl
  refine g_aload_n ok rfl rfl ?_
  refine g_iconst ok (v := 0) rfl ?_
  have htr : gtr (116 + 8 * a1.toNat) = true := by
    unfold gtr
    rw [Nat.ble_eq.mpr (show 16 ≤ 116 + 8 * a1.toNat by omega)]
    rfl
  refine g_aload_n ok rfl htr ?_
  refine g_iconst ok (v := 0) rfl ?_
  refine g_aload_n ok rfl rfl ?_
  refine g_alen ok (n := 400) (t := 0) (by decide) rfl (N := 400) rfl ?_
  refine g_iload_n ok rfl ?_
  have hcp : (Nat.ble 1 1 && Nat.ble (0 + a1.toNat) 400) = true := by
    rw [Nat.ble_eq.mpr (show 0 + a1.toNat ≤ 400 by omega)]
    rfl
  have h3 : gcts [(0, (0 : Int), 0), (116 + 8 * a1.toNat, (0 : Int), gn s), (0, (0 : Int), 0), (3316, (0 : Int), a0)] = 4 := by
    show 1 + ((bif Nat.beq (116 + 8 * a1.toNat) 2 then 2 else 1) + 2) = 4
    rw [es_beqf.mpr (by omega)]
    rfl
  refine g_min ok ?_ ?_
  · show (Nat.ble (gcts [(0, (0 : Int), 0), (116 + 8 * a1.toNat, (0 : Int), gn s), (0, (0 : Int), 0), (3316, (0 : Int), a0)]) 8 && (Nat.ble 1 1 && Nat.ble (0 + a1.toNat) 400)) = true
    rw [h3, hcp]
    rfl
  have e1 : min 400 a1 = a1 := by omega
  rw [e1]
  refine g_acopy ok (n1 := 400) (n2 := a1.toNat) rfl rfl (by decide) (by decide) h0 (by omega) (by omega) rfl ?_
  refine g_aload_n ok rfl htr ?_
  refine g_areturn ok (a := gn s) (tg := 12) (Or.inr ⟨_, rfl⟩) rfl ?_ ?_ ?_ hcp rfl
  · rw [show 116 + 8 * a1.toNat = (100 + 8 * a1.toNat) + 16 by omega]
    exact (if_neg hz).symm
  · rw [show 116 + 8 * a1.toNat = (100 + 8 * a1.toNat) + 16 by omega]
    rfl
  · intro h _
    rw [show 116 + 8 * a1.toNat = (100 + 8 * a1.toNat) + 16 by omega] at h
    obtain ⟨g1, g2⟩ := gok_r.mp h
    exact ⟨g1, a1.toNat, by omega, g2⟩
