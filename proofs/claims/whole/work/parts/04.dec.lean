theorem mm_alla {α : Type} {p : α → Bool} {a b : List α} (ha : a.all p = true) (hb : b.all p = true) : (a ++ b).all p = true := by rw [List.all_append, ha, hb]; rfl
theorem dk_0_0 : mc_0_0.all (mm_dk (mm_by 0)) = true := by decide +kernel
theorem dk_0_1 : mc_0_1.all (mm_dk (mm_by 0)) = true := by decide +kernel
theorem dk_0_2 : mc_0_2.all (mm_dk (mm_by 0)) = true := by decide +kernel
theorem dk_0_3 : mc_0_3.all (mm_dk (mm_by 0)) = true := by decide +kernel
theorem dk_0_4 : mc_0_4.all (mm_dk (mm_by 0)) = true := by decide +kernel
theorem dk_0_5 : mc_0_5.all (mm_dk (mm_by 0)) = true := by decide +kernel
theorem dk_0_6 : mc_0_6.all (mm_dk (mm_by 0)) = true := by decide +kernel
theorem dk_0_7 : mc_0_7.all (mm_dk (mm_by 0)) = true := by decide +kernel
theorem dk_0_8 : mc_0_8.all (mm_dk (mm_by 0)) = true := by decide +kernel
theorem dk_0_9 : mc_0_9.all (mm_dk (mm_by 0)) = true := by decide +kernel
theorem dk_0_10 : mc_0_10.all (mm_dk (mm_by 0)) = true := by decide +kernel
theorem dk_0_11 : mc_0_11.all (mm_dk (mm_by 0)) = true := by decide +kernel
theorem dk_0_12 : mc_0_12.all (mm_dk (mm_by 0)) = true := by decide +kernel
theorem dk_0_13 : mc_0_13.all (mm_dk (mm_by 0)) = true := by decide +kernel
theorem dk_0 : mc_0.all (mm_dk (mm_by 0)) = true := (mm_alla dk_0_0 (mm_alla dk_0_1 (mm_alla dk_0_2 (mm_alla dk_0_3 (mm_alla dk_0_4 (mm_alla dk_0_5 (mm_alla dk_0_6 (mm_alla dk_0_7 (mm_alla dk_0_8 (mm_alla dk_0_9 (mm_alla dk_0_10 (mm_alla dk_0_11 (mm_alla dk_0_12 dk_0_13)))))))))))))
theorem dk_1 : mc_1.all (mm_dk (mm_by 1)) = true := by decide +kernel
theorem dk_2 : mc_2.all (mm_dk (mm_by 2)) = true := by decide +kernel
theorem dk_3 : mc_3.all (mm_dk (mm_by 3)) = true := by decide +kernel
theorem dk_4 : mc_4.all (mm_dk (mm_by 4)) = true := by decide +kernel
theorem dk_5 : mc_5.all (mm_dk (mm_by 5)) = true := by decide +kernel
theorem dk_6 : mc_6.all (mm_dk (mm_by 6)) = true := by decide +kernel
theorem dk_7 : mc_7.all (mm_dk (mm_by 7)) = true := by decide +kernel
theorem dk_8 : mc_8.all (mm_dk (mm_by 8)) = true := by decide +kernel
theorem dk_9 : mc_9.all (mm_dk (mm_by 9)) = true := by decide +kernel
theorem dk_10 : mc_10.all (mm_dk (mm_by 10)) = true := by decide +kernel
theorem dk_11 : mc_11.all (mm_dk (mm_by 11)) = true := by decide +kernel
theorem dk_12 : mc_12.all (mm_dk (mm_by 12)) = true := by decide +kernel
theorem dk_13 : mc_13.all (mm_dk (mm_by 13)) = true := by decide +kernel
theorem dk_14 : mc_14.all (mm_dk (mm_by 14)) = true := by decide +kernel
theorem dk_15 : mc_15.all (mm_dk (mm_by 15)) = true := by decide +kernel
theorem dk_16 : mc_16.all (mm_dk (mm_by 16)) = true := by decide +kernel
theorem dk_17 : mc_17.all (mm_dk (mm_by 17)) = true := by decide +kernel
theorem dk_18 : mc_18.all (mm_dk (mm_by 18)) = true := by decide +kernel
theorem dk_19 : mc_19.all (mm_dk (mm_by 19)) = true := by decide +kernel
theorem dk_20 : mc_20.all (mm_dk (mm_by 20)) = true := by decide +kernel
theorem dk_21 : mc_21.all (mm_dk (mm_by 21)) = true := by decide +kernel
theorem dk_22 : mc_22.all (mm_dk (mm_by 22)) = true := by decide +kernel
theorem dk_23 : mc_23.all (mm_dk (mm_by 23)) = true := by decide +kernel
theorem dk_24 : mc_24.all (mm_dk (mm_by 24)) = true := by decide +kernel
theorem dk_25 : mc_25.all (mm_dk (mm_by 25)) = true := by decide +kernel
theorem dk_26 : mc_26.all (mm_dk (mm_by 26)) = true := by decide +kernel
theorem dk_27 : mc_27.all (mm_dk (mm_by 27)) = true := by decide +kernel
theorem dk_28 : mc_28.all (mm_dk (mm_by 28)) = true := by decide +kernel
theorem dk_29 : mc_29.all (mm_dk (mm_by 29)) = true := by decide +kernel
theorem dk_30 : mc_30.all (mm_dk (mm_by 30)) = true := by decide +kernel
theorem dk_31 : mc_31.all (mm_dk (mm_by 31)) = true := by decide +kernel
theorem dk_32 : mc_32.all (mm_dk (mm_by 32)) = true := by decide +kernel
theorem dk_33 : mc_33.all (mm_dk (mm_by 33)) = true := by decide +kernel
theorem dk_34 : mc_34.all (mm_dk (mm_by 34)) = true := by decide +kernel
theorem dk_35 : mc_35.all (mm_dk (mm_by 35)) = true := by decide +kernel
theorem dk_36 : mc_36.all (mm_dk (mm_by 36)) = true := by decide +kernel
theorem dk_37 : mc_37.all (mm_dk (mm_by 37)) = true := by decide +kernel
theorem dk_38 : mc_38.all (mm_dk (mm_by 38)) = true := by decide +kernel
theorem dk_39 : mc_39.all (mm_dk (mm_by 39)) = true := by decide +kernel
theorem dk_40 : mc_40.all (mm_dk (mm_by 40)) = true := by decide +kernel
theorem dk_41 : mc_41.all (mm_dk (mm_by 41)) = true := by decide +kernel
theorem dk_42 : mc_42.all (mm_dk (mm_by 42)) = true := by decide +kernel
theorem dk_43 : mc_43.all (mm_dk (mm_by 43)) = true := by decide +kernel
theorem dk_44 : mc_44.all (mm_dk (mm_by 44)) = true := by decide +kernel
theorem dk_45 : mc_45.all (mm_dk (mm_by 45)) = true := by decide +kernel
theorem dk_46 : mc_46.all (mm_dk (mm_by 46)) = true := by decide +kernel
theorem dk_47 : mc_47.all (mm_dk (mm_by 47)) = true := by decide +kernel
theorem dk_48 : mc_48.all (mm_dk (mm_by 48)) = true := by decide +kernel
theorem dk_49 : mc_49.all (mm_dk (mm_by 49)) = true := by decide +kernel
theorem dk_50 : mc_50.all (mm_dk (mm_by 50)) = true := by decide +kernel
theorem dk_51 : mc_51.all (mm_dk (mm_by 51)) = true := by decide +kernel
theorem dk_52 : mc_52.all (mm_dk (mm_by 52)) = true := by decide +kernel
theorem dk_53 : mc_53.all (mm_dk (mm_by 53)) = true := by decide +kernel
theorem dk_54 : mc_54.all (mm_dk (mm_by 54)) = true := by decide +kernel
theorem dk_55 : mc_55.all (mm_dk (mm_by 55)) = true := by decide +kernel
theorem dk_56 : mc_56.all (mm_dk (mm_by 56)) = true := by decide +kernel
theorem dk_57 : mc_57.all (mm_dk (mm_by 57)) = true := by decide +kernel
theorem dk_58 : mc_58.all (mm_dk (mm_by 58)) = true := by decide +kernel
theorem dk_59 : mc_59.all (mm_dk (mm_by 59)) = true := by decide +kernel
theorem dk_60 : mc_60.all (mm_dk (mm_by 60)) = true := by decide +kernel
theorem dk_61 : mc_61.all (mm_dk (mm_by 61)) = true := by decide +kernel
theorem dk_62 : mc_62.all (mm_dk (mm_by 62)) = true := by decide +kernel
theorem dk_63 : mc_63.all (mm_dk (mm_by 63)) = true := by decide +kernel
theorem dk_64 : mc_64.all (mm_dk (mm_by 64)) = true := by decide +kernel
theorem dk_65 : mc_65.all (mm_dk (mm_by 65)) = true := by decide +kernel
theorem dk_66 : mc_66.all (mm_dk (mm_by 66)) = true := by decide +kernel
theorem dk_67 : mc_67.all (mm_dk (mm_by 67)) = true := by decide +kernel
theorem dk_68 : mc_68.all (mm_dk (mm_by 68)) = true := by decide +kernel
theorem dk_69 : mc_69.all (mm_dk (mm_by 69)) = true := by decide +kernel
theorem dk_70 : mc_70.all (mm_dk (mm_by 70)) = true := by decide +kernel
theorem dk_71 : mc_71.all (mm_dk (mm_by 71)) = true := by decide +kernel
theorem dk_72 : mc_72.all (mm_dk (mm_by 72)) = true := by decide +kernel
theorem dk_73 : mc_73.all (mm_dk (mm_by 73)) = true := by decide +kernel
theorem dk_74 : mc_74.all (mm_dk (mm_by 74)) = true := by decide +kernel
theorem dk_75 : mc_75.all (mm_dk (mm_by 75)) = true := by decide +kernel
theorem dk_76 : mc_76.all (mm_dk (mm_by 76)) = true := by decide +kernel
theorem dk_77 : mc_77.all (mm_dk (mm_by 77)) = true := by decide +kernel
theorem dk_78 : mc_78.all (mm_dk (mm_by 78)) = true := by decide +kernel
theorem dk_79 : mc_79.all (mm_dk (mm_by 79)) = true := by decide +kernel
theorem dk_80 : mc_80.all (mm_dk (mm_by 80)) = true := by decide +kernel
theorem dk_81 : mc_81.all (mm_dk (mm_by 81)) = true := by decide +kernel
theorem dk_82 : mc_82.all (mm_dk (mm_by 82)) = true := by decide +kernel
theorem dk_83 : mc_83.all (mm_dk (mm_by 83)) = true := by decide +kernel
theorem dk_84 : mc_84.all (mm_dk (mm_by 84)) = true := by decide +kernel
theorem dk_85 : mc_85.all (mm_dk (mm_by 85)) = true := by decide +kernel
theorem dk_86 : mc_86.all (mm_dk (mm_by 86)) = true := by decide +kernel
theorem dk_87 : mc_87.all (mm_dk (mm_by 87)) = true := by decide +kernel
theorem dk_88 : mc_88.all (mm_dk (mm_by 88)) = true := by decide +kernel
theorem dk_89 : mc_89.all (mm_dk (mm_by 89)) = true := by decide +kernel
theorem dk_90 : mc_90.all (mm_dk (mm_by 90)) = true := by decide +kernel
theorem dk_91 : mc_91.all (mm_dk (mm_by 91)) = true := by decide +kernel
theorem dk_92 : mc_92.all (mm_dk (mm_by 92)) = true := by decide +kernel
theorem dk_93 : mc_93.all (mm_dk (mm_by 93)) = true := by decide +kernel
theorem dk_94 : mc_94.all (mm_dk (mm_by 94)) = true := by decide +kernel
theorem dk_95 : mc_95.all (mm_dk (mm_by 95)) = true := by decide +kernel
theorem dk_96 : mc_96.all (mm_dk (mm_by 96)) = true := by decide +kernel
theorem dk_97 : mc_97.all (mm_dk (mm_by 97)) = true := by decide +kernel
theorem dk_98 : mc_98.all (mm_dk (mm_by 98)) = true := by decide +kernel
theorem dk_99 : mc_99.all (mm_dk (mm_by 99)) = true := by decide +kernel
theorem dk_100 : mc_100.all (mm_dk (mm_by 100)) = true := by decide +kernel
theorem dk_101 : mc_101.all (mm_dk (mm_by 101)) = true := by decide +kernel
theorem dk_102 : mc_102.all (mm_dk (mm_by 102)) = true := by decide +kernel
theorem dk_103 : mc_103.all (mm_dk (mm_by 103)) = true := by decide +kernel
theorem dk_104 : mc_104.all (mm_dk (mm_by 104)) = true := by decide +kernel
theorem dk_105 : mc_105.all (mm_dk (mm_by 105)) = true := by decide +kernel
theorem dk_106 : mc_106.all (mm_dk (mm_by 106)) = true := by decide +kernel
theorem dk_107 : mc_107.all (mm_dk (mm_by 107)) = true := by decide +kernel
theorem dk_108 : mc_108.all (mm_dk (mm_by 108)) = true := by decide +kernel
theorem dk_109 : mc_109.all (mm_dk (mm_by 109)) = true := by decide +kernel
theorem dk_110 : mc_110.all (mm_dk (mm_by 110)) = true := by decide +kernel
theorem dk_111 : mc_111.all (mm_dk (mm_by 111)) = true := by decide +kernel
theorem dk_112 : mc_112.all (mm_dk (mm_by 112)) = true := by decide +kernel
theorem dk_113 : mc_113.all (mm_dk (mm_by 113)) = true := by decide +kernel
theorem dk_114 : mc_114.all (mm_dk (mm_by 114)) = true := by decide +kernel
theorem dk_115 : mc_115.all (mm_dk (mm_by 115)) = true := by decide +kernel
theorem dk_116 : mc_116.all (mm_dk (mm_by 116)) = true := by decide +kernel
theorem dk_117 : mc_117.all (mm_dk (mm_by 117)) = true := by decide +kernel
theorem dk_118 : mc_118.all (mm_dk (mm_by 118)) = true := by decide +kernel
theorem dk_119 : mc_119.all (mm_dk (mm_by 119)) = true := by decide +kernel
theorem dk_120 : mc_120.all (mm_dk (mm_by 120)) = true := by decide +kernel
theorem dk_121 : mc_121.all (mm_dk (mm_by 121)) = true := by decide +kernel
theorem dk_122 : mc_122.all (mm_dk (mm_by 122)) = true := by decide +kernel
theorem dk_123 : mc_123.all (mm_dk (mm_by 123)) = true := by decide +kernel
theorem dk_124 : mc_124.all (mm_dk (mm_by 124)) = true := by decide +kernel
theorem dk_125 : mc_125.all (mm_dk (mm_by 125)) = true := by decide +kernel
theorem dk_126 : mc_126.all (mm_dk (mm_by 126)) = true := by decide +kernel
theorem dk_127 : mc_127.all (mm_dk (mm_by 127)) = true := by decide +kernel
theorem dk_128 : mc_128.all (mm_dk (mm_by 128)) = true := by decide +kernel
theorem dk_129 : mc_129.all (mm_dk (mm_by 129)) = true := by decide +kernel
theorem dk_130 : mc_130.all (mm_dk (mm_by 130)) = true := by decide +kernel
theorem dk_131 : mc_131.all (mm_dk (mm_by 131)) = true := by decide +kernel
theorem dk_132 : mc_132.all (mm_dk (mm_by 132)) = true := by decide +kernel
theorem dk_133 : mc_133.all (mm_dk (mm_by 133)) = true := by decide +kernel
theorem dk_134 : mc_134.all (mm_dk (mm_by 134)) = true := by decide +kernel
theorem dk_135 : mc_135.all (mm_dk (mm_by 135)) = true := by decide +kernel
theorem dk_136 : mc_136.all (mm_dk (mm_by 136)) = true := by decide +kernel
theorem dk_137 : mc_137.all (mm_dk (mm_by 137)) = true := by decide +kernel
theorem dk_138 : mc_138.all (mm_dk (mm_by 138)) = true := by decide +kernel
theorem dk_139 : mc_139.all (mm_dk (mm_by 139)) = true := by decide +kernel
theorem dk_140 : mc_140.all (mm_dk (mm_by 140)) = true := by decide +kernel
theorem dk_141 : mc_141.all (mm_dk (mm_by 141)) = true := by decide +kernel
theorem dk_142 : mc_142.all (mm_dk (mm_by 142)) = true := by decide +kernel
theorem dk_143 : mc_143.all (mm_dk (mm_by 143)) = true := by decide +kernel
theorem dk_144 : mc_144.all (mm_dk (mm_by 144)) = true := by decide +kernel
theorem dk_145 : mc_145.all (mm_dk (mm_by 145)) = true := by decide +kernel
theorem dk_146_0 : mc_146_0.all (mm_dk (mm_by 146)) = true := by decide +kernel
theorem dk_146_1 : mc_146_1.all (mm_dk (mm_by 146)) = true := by decide +kernel
theorem dk_146_2 : mc_146_2.all (mm_dk (mm_by 146)) = true := by decide +kernel
theorem dk_146_3 : mc_146_3.all (mm_dk (mm_by 146)) = true := by decide +kernel
theorem dk_146_4 : mc_146_4.all (mm_dk (mm_by 146)) = true := by decide +kernel
theorem dk_146_5 : mc_146_5.all (mm_dk (mm_by 146)) = true := by decide +kernel
theorem dk_146 : mc_146.all (mm_dk (mm_by 146)) = true := (mm_alla dk_146_0 (mm_alla dk_146_1 (mm_alla dk_146_2 (mm_alla dk_146_3 (mm_alla dk_146_4 dk_146_5)))))
theorem dk_147 : mc_147.all (mm_dk (mm_by 147)) = true := by decide +kernel
theorem dk_148 : mc_148.all (mm_dk (mm_by 148)) = true := by decide +kernel
theorem dk_149 : mc_149.all (mm_dk (mm_by 149)) = true := by decide +kernel
theorem dk_150 : mc_150.all (mm_dk (mm_by 150)) = true := by decide +kernel
theorem dk_151 : mc_151.all (mm_dk (mm_by 151)) = true := by decide +kernel
theorem dk_152 : mc_152.all (mm_dk (mm_by 152)) = true := by decide +kernel
theorem dk_153 : mc_153.all (mm_dk (mm_by 153)) = true := by decide +kernel
theorem dk_154 : mc_154.all (mm_dk (mm_by 154)) = true := by decide +kernel
theorem dk_155 : mc_155.all (mm_dk (mm_by 155)) = true := by decide +kernel
theorem dk_156 : mc_156.all (mm_dk (mm_by 156)) = true := by decide +kernel
theorem dk_157 : mc_157.all (mm_dk (mm_by 157)) = true := by decide +kernel
theorem dk_158 : mc_158.all (mm_dk (mm_by 158)) = true := by decide +kernel
theorem dk_159 : mc_159.all (mm_dk (mm_by 159)) = true := by decide +kernel
theorem dk_160 : mc_160.all (mm_dk (mm_by 160)) = true := by decide +kernel
theorem dk_161 : mc_161.all (mm_dk (mm_by 161)) = true := by decide +kernel
theorem dk_162 : mc_162.all (mm_dk (mm_by 162)) = true := by decide +kernel
theorem dk_163 : mc_163.all (mm_dk (mm_by 163)) = true := by decide +kernel
theorem dk_164 : mc_164.all (mm_dk (mm_by 164)) = true := by decide +kernel
theorem dk_165 : mc_165.all (mm_dk (mm_by 165)) = true := by decide +kernel
theorem dk_166 : mc_166.all (mm_dk (mm_by 166)) = true := by decide +kernel
theorem dk_167_0 : mc_167_0.all (mm_dk (mm_by 167)) = true := by decide +kernel
theorem dk_167_1 : mc_167_1.all (mm_dk (mm_by 167)) = true := by decide +kernel
theorem dk_167_2 : mc_167_2.all (mm_dk (mm_by 167)) = true := by decide +kernel
theorem dk_167_3 : mc_167_3.all (mm_dk (mm_by 167)) = true := by decide +kernel
theorem dk_167_4 : mc_167_4.all (mm_dk (mm_by 167)) = true := by decide +kernel
theorem dk_167_5 : mc_167_5.all (mm_dk (mm_by 167)) = true := by decide +kernel
theorem dk_167_6 : mc_167_6.all (mm_dk (mm_by 167)) = true := by decide +kernel
theorem dk_167_7 : mc_167_7.all (mm_dk (mm_by 167)) = true := by decide +kernel
theorem dk_167_8 : mc_167_8.all (mm_dk (mm_by 167)) = true := by decide +kernel
theorem dk_167 : mc_167.all (mm_dk (mm_by 167)) = true := (mm_alla dk_167_0 (mm_alla dk_167_1 (mm_alla dk_167_2 (mm_alla dk_167_3 (mm_alla dk_167_4 (mm_alla dk_167_5 (mm_alla dk_167_6 (mm_alla dk_167_7 dk_167_8))))))))
theorem dk_168 : mc_168.all (mm_dk (mm_by 168)) = true := by decide +kernel
theorem dk_169 : mc_169.all (mm_dk (mm_by 169)) = true := by decide +kernel
theorem dk_170_0 : mc_170_0.all (mm_dk (mm_by 170)) = true := by decide +kernel
theorem dk_170_1 : mc_170_1.all (mm_dk (mm_by 170)) = true := by decide +kernel
theorem dk_170_2 : mc_170_2.all (mm_dk (mm_by 170)) = true := by decide +kernel
theorem dk_170 : mc_170.all (mm_dk (mm_by 170)) = true := (mm_alla dk_170_0 (mm_alla dk_170_1 dk_170_2))
theorem dk_171 : mc_171.all (mm_dk (mm_by 171)) = true := by decide +kernel
theorem dk_172 : mc_172.all (mm_dk (mm_by 172)) = true := by decide +kernel
theorem dk_173 : mc_173.all (mm_dk (mm_by 173)) = true := by decide +kernel
theorem dk_174 : mc_174.all (mm_dk (mm_by 174)) = true := by decide +kernel
theorem dk_175 : mc_175.all (mm_dk (mm_by 175)) = true := by decide +kernel
theorem dk_176 : mc_176.all (mm_dk (mm_by 176)) = true := by decide +kernel
theorem dk_177 : mc_177.all (mm_dk (mm_by 177)) = true := by decide +kernel
theorem dk_178 : mc_178.all (mm_dk (mm_by 178)) = true := by decide +kernel
theorem dk_179_0 : mc_179_0.all (mm_dk (mm_by 179)) = true := by decide +kernel
theorem dk_179_1 : mc_179_1.all (mm_dk (mm_by 179)) = true := by decide +kernel
theorem dk_179_2 : mc_179_2.all (mm_dk (mm_by 179)) = true := by decide +kernel
theorem dk_179_3 : mc_179_3.all (mm_dk (mm_by 179)) = true := by decide +kernel
theorem dk_179 : mc_179.all (mm_dk (mm_by 179)) = true := (mm_alla dk_179_0 (mm_alla dk_179_1 (mm_alla dk_179_2 dk_179_3)))
theorem dk_180 : mc_180.all (mm_dk (mm_by 180)) = true := by decide +kernel
theorem dk_181 : mc_181.all (mm_dk (mm_by 181)) = true := by decide +kernel
theorem dk_182 : mc_182.all (mm_dk (mm_by 182)) = true := by decide +kernel
theorem dk_183 : mc_183.all (mm_dk (mm_by 183)) = true := by decide +kernel
theorem dk_184 : mc_184.all (mm_dk (mm_by 184)) = true := by decide +kernel
theorem dk_185_0 : mc_185_0.all (mm_dk (mm_by 185)) = true := by decide +kernel
theorem dk_185_1 : mc_185_1.all (mm_dk (mm_by 185)) = true := by decide +kernel
theorem dk_185_2 : mc_185_2.all (mm_dk (mm_by 185)) = true := by decide +kernel
theorem dk_185_3 : mc_185_3.all (mm_dk (mm_by 185)) = true := by decide +kernel
theorem dk_185 : mc_185.all (mm_dk (mm_by 185)) = true := (mm_alla dk_185_0 (mm_alla dk_185_1 (mm_alla dk_185_2 dk_185_3)))
theorem dk_186 : mc_186.all (mm_dk (mm_by 186)) = true := by decide +kernel
theorem dk_187_0 : mc_187_0.all (mm_dk (mm_by 187)) = true := by decide +kernel
theorem dk_187_1 : mc_187_1.all (mm_dk (mm_by 187)) = true := by decide +kernel
theorem dk_187_2 : mc_187_2.all (mm_dk (mm_by 187)) = true := by decide +kernel
theorem dk_187 : mc_187.all (mm_dk (mm_by 187)) = true := (mm_alla dk_187_0 (mm_alla dk_187_1 dk_187_2))
theorem dk_188 : mc_188.all (mm_dk (mm_by 188)) = true := by decide +kernel
theorem dk_189 : mc_189.all (mm_dk (mm_by 189)) = true := by decide +kernel
theorem dk_190 : mc_190.all (mm_dk (mm_by 190)) = true := by decide +kernel
theorem dk_191 : mc_191.all (mm_dk (mm_by 191)) = true := by decide +kernel
theorem dk_192_0 : mc_192_0.all (mm_dk (mm_by 192)) = true := by decide +kernel
theorem dk_192_1 : mc_192_1.all (mm_dk (mm_by 192)) = true := by decide +kernel
theorem dk_192_2 : mc_192_2.all (mm_dk (mm_by 192)) = true := by decide +kernel
theorem dk_192 : mc_192.all (mm_dk (mm_by 192)) = true := (mm_alla dk_192_0 (mm_alla dk_192_1 dk_192_2))
theorem dk_193 : mc_193.all (mm_dk (mm_by 193)) = true := by decide +kernel
theorem dk_194 : mc_194.all (mm_dk (mm_by 194)) = true := by decide +kernel
theorem dk_195 : mc_195.all (mm_dk (mm_by 195)) = true := by decide +kernel
theorem dk_196 : mc_196.all (mm_dk (mm_by 196)) = true := by decide +kernel
theorem dk_197_0 : mc_197_0.all (mm_dk (mm_by 197)) = true := by decide +kernel
theorem dk_197_1 : mc_197_1.all (mm_dk (mm_by 197)) = true := by decide +kernel
theorem dk_197_2 : mc_197_2.all (mm_dk (mm_by 197)) = true := by decide +kernel
theorem dk_197 : mc_197.all (mm_dk (mm_by 197)) = true := (mm_alla dk_197_0 (mm_alla dk_197_1 dk_197_2))
theorem dk_198 : mc_198.all (mm_dk (mm_by 198)) = true := by decide +kernel
theorem dk_199_0 : mc_199_0.all (mm_dk (mm_by 199)) = true := by decide +kernel
theorem dk_199_1 : mc_199_1.all (mm_dk (mm_by 199)) = true := by decide +kernel
theorem dk_199_2 : mc_199_2.all (mm_dk (mm_by 199)) = true := by decide +kernel
theorem dk_199_3 : mc_199_3.all (mm_dk (mm_by 199)) = true := by decide +kernel
theorem dk_199 : mc_199.all (mm_dk (mm_by 199)) = true := (mm_alla dk_199_0 (mm_alla dk_199_1 (mm_alla dk_199_2 dk_199_3)))
theorem dk_200 : mc_200.all (mm_dk (mm_by 200)) = true := by decide +kernel
theorem dk_201 : mc_201.all (mm_dk (mm_by 201)) = true := by decide +kernel
theorem dk_202 : mc_202.all (mm_dk (mm_by 202)) = true := by decide +kernel
theorem dk_203 : mc_203.all (mm_dk (mm_by 203)) = true := by decide +kernel
theorem dk_204 : mc_204.all (mm_dk (mm_by 204)) = true := by decide +kernel
theorem dq_0 : ∀ a, a < 0 → mm_dP a := lt_0
theorem dq_1 : ∀ a, a < 1 → mm_dP a := lt_s (i := 0) dq_0 dk_0
theorem dq_2 : ∀ a, a < 2 → mm_dP a := lt_s (i := 1) dq_1 dk_1
theorem dq_3 : ∀ a, a < 3 → mm_dP a := lt_s (i := 2) dq_2 dk_2
theorem dq_4 : ∀ a, a < 4 → mm_dP a := lt_s (i := 3) dq_3 dk_3
theorem dq_5 : ∀ a, a < 5 → mm_dP a := lt_s (i := 4) dq_4 dk_4
theorem dq_6 : ∀ a, a < 6 → mm_dP a := lt_s (i := 5) dq_5 dk_5
theorem dq_7 : ∀ a, a < 7 → mm_dP a := lt_s (i := 6) dq_6 dk_6
theorem dq_8 : ∀ a, a < 8 → mm_dP a := lt_s (i := 7) dq_7 dk_7
theorem dq_9 : ∀ a, a < 9 → mm_dP a := lt_s (i := 8) dq_8 dk_8
theorem dq_10 : ∀ a, a < 10 → mm_dP a := lt_s (i := 9) dq_9 dk_9
theorem dq_11 : ∀ a, a < 11 → mm_dP a := lt_s (i := 10) dq_10 dk_10
theorem dq_12 : ∀ a, a < 12 → mm_dP a := lt_s (i := 11) dq_11 dk_11
theorem dq_13 : ∀ a, a < 13 → mm_dP a := lt_s (i := 12) dq_12 dk_12
theorem dq_14 : ∀ a, a < 14 → mm_dP a := lt_s (i := 13) dq_13 dk_13
theorem dq_15 : ∀ a, a < 15 → mm_dP a := lt_s (i := 14) dq_14 dk_14
theorem dq_16 : ∀ a, a < 16 → mm_dP a := lt_s (i := 15) dq_15 dk_15
theorem dq_17 : ∀ a, a < 17 → mm_dP a := lt_s (i := 16) dq_16 dk_16
theorem dq_18 : ∀ a, a < 18 → mm_dP a := lt_s (i := 17) dq_17 dk_17
theorem dq_19 : ∀ a, a < 19 → mm_dP a := lt_s (i := 18) dq_18 dk_18
theorem dq_20 : ∀ a, a < 20 → mm_dP a := lt_s (i := 19) dq_19 dk_19
theorem dq_21 : ∀ a, a < 21 → mm_dP a := lt_s (i := 20) dq_20 dk_20
theorem dq_22 : ∀ a, a < 22 → mm_dP a := lt_s (i := 21) dq_21 dk_21
theorem dq_23 : ∀ a, a < 23 → mm_dP a := lt_s (i := 22) dq_22 dk_22
theorem dq_24 : ∀ a, a < 24 → mm_dP a := lt_s (i := 23) dq_23 dk_23
theorem dq_25 : ∀ a, a < 25 → mm_dP a := lt_s (i := 24) dq_24 dk_24
theorem dq_26 : ∀ a, a < 26 → mm_dP a := lt_s (i := 25) dq_25 dk_25
theorem dq_27 : ∀ a, a < 27 → mm_dP a := lt_s (i := 26) dq_26 dk_26
theorem dq_28 : ∀ a, a < 28 → mm_dP a := lt_s (i := 27) dq_27 dk_27
theorem dq_29 : ∀ a, a < 29 → mm_dP a := lt_s (i := 28) dq_28 dk_28
theorem dq_30 : ∀ a, a < 30 → mm_dP a := lt_s (i := 29) dq_29 dk_29
theorem dq_31 : ∀ a, a < 31 → mm_dP a := lt_s (i := 30) dq_30 dk_30
theorem dq_32 : ∀ a, a < 32 → mm_dP a := lt_s (i := 31) dq_31 dk_31
theorem dq_33 : ∀ a, a < 33 → mm_dP a := lt_s (i := 32) dq_32 dk_32
theorem dq_34 : ∀ a, a < 34 → mm_dP a := lt_s (i := 33) dq_33 dk_33
theorem dq_35 : ∀ a, a < 35 → mm_dP a := lt_s (i := 34) dq_34 dk_34
theorem dq_36 : ∀ a, a < 36 → mm_dP a := lt_s (i := 35) dq_35 dk_35
theorem dq_37 : ∀ a, a < 37 → mm_dP a := lt_s (i := 36) dq_36 dk_36
theorem dq_38 : ∀ a, a < 38 → mm_dP a := lt_s (i := 37) dq_37 dk_37
theorem dq_39 : ∀ a, a < 39 → mm_dP a := lt_s (i := 38) dq_38 dk_38
theorem dq_40 : ∀ a, a < 40 → mm_dP a := lt_s (i := 39) dq_39 dk_39
theorem dq_41 : ∀ a, a < 41 → mm_dP a := lt_s (i := 40) dq_40 dk_40
theorem dq_42 : ∀ a, a < 42 → mm_dP a := lt_s (i := 41) dq_41 dk_41
theorem dq_43 : ∀ a, a < 43 → mm_dP a := lt_s (i := 42) dq_42 dk_42
theorem dq_44 : ∀ a, a < 44 → mm_dP a := lt_s (i := 43) dq_43 dk_43
theorem dq_45 : ∀ a, a < 45 → mm_dP a := lt_s (i := 44) dq_44 dk_44
theorem dq_46 : ∀ a, a < 46 → mm_dP a := lt_s (i := 45) dq_45 dk_45
theorem dq_47 : ∀ a, a < 47 → mm_dP a := lt_s (i := 46) dq_46 dk_46
theorem dq_48 : ∀ a, a < 48 → mm_dP a := lt_s (i := 47) dq_47 dk_47
theorem dq_49 : ∀ a, a < 49 → mm_dP a := lt_s (i := 48) dq_48 dk_48
theorem dq_50 : ∀ a, a < 50 → mm_dP a := lt_s (i := 49) dq_49 dk_49
theorem dq_51 : ∀ a, a < 51 → mm_dP a := lt_s (i := 50) dq_50 dk_50
theorem dq_52 : ∀ a, a < 52 → mm_dP a := lt_s (i := 51) dq_51 dk_51
theorem dq_53 : ∀ a, a < 53 → mm_dP a := lt_s (i := 52) dq_52 dk_52
theorem dq_54 : ∀ a, a < 54 → mm_dP a := lt_s (i := 53) dq_53 dk_53
theorem dq_55 : ∀ a, a < 55 → mm_dP a := lt_s (i := 54) dq_54 dk_54
theorem dq_56 : ∀ a, a < 56 → mm_dP a := lt_s (i := 55) dq_55 dk_55
theorem dq_57 : ∀ a, a < 57 → mm_dP a := lt_s (i := 56) dq_56 dk_56
theorem dq_58 : ∀ a, a < 58 → mm_dP a := lt_s (i := 57) dq_57 dk_57
theorem dq_59 : ∀ a, a < 59 → mm_dP a := lt_s (i := 58) dq_58 dk_58
theorem dq_60 : ∀ a, a < 60 → mm_dP a := lt_s (i := 59) dq_59 dk_59
theorem dq_61 : ∀ a, a < 61 → mm_dP a := lt_s (i := 60) dq_60 dk_60
theorem dq_62 : ∀ a, a < 62 → mm_dP a := lt_s (i := 61) dq_61 dk_61
theorem dq_63 : ∀ a, a < 63 → mm_dP a := lt_s (i := 62) dq_62 dk_62
theorem dq_64 : ∀ a, a < 64 → mm_dP a := lt_s (i := 63) dq_63 dk_63
theorem dq_65 : ∀ a, a < 65 → mm_dP a := lt_s (i := 64) dq_64 dk_64
theorem dq_66 : ∀ a, a < 66 → mm_dP a := lt_s (i := 65) dq_65 dk_65
theorem dq_67 : ∀ a, a < 67 → mm_dP a := lt_s (i := 66) dq_66 dk_66
theorem dq_68 : ∀ a, a < 68 → mm_dP a := lt_s (i := 67) dq_67 dk_67
theorem dq_69 : ∀ a, a < 69 → mm_dP a := lt_s (i := 68) dq_68 dk_68
theorem dq_70 : ∀ a, a < 70 → mm_dP a := lt_s (i := 69) dq_69 dk_69
theorem dq_71 : ∀ a, a < 71 → mm_dP a := lt_s (i := 70) dq_70 dk_70
theorem dq_72 : ∀ a, a < 72 → mm_dP a := lt_s (i := 71) dq_71 dk_71
theorem dq_73 : ∀ a, a < 73 → mm_dP a := lt_s (i := 72) dq_72 dk_72
theorem dq_74 : ∀ a, a < 74 → mm_dP a := lt_s (i := 73) dq_73 dk_73
theorem dq_75 : ∀ a, a < 75 → mm_dP a := lt_s (i := 74) dq_74 dk_74
theorem dq_76 : ∀ a, a < 76 → mm_dP a := lt_s (i := 75) dq_75 dk_75
theorem dq_77 : ∀ a, a < 77 → mm_dP a := lt_s (i := 76) dq_76 dk_76
theorem dq_78 : ∀ a, a < 78 → mm_dP a := lt_s (i := 77) dq_77 dk_77
theorem dq_79 : ∀ a, a < 79 → mm_dP a := lt_s (i := 78) dq_78 dk_78
theorem dq_80 : ∀ a, a < 80 → mm_dP a := lt_s (i := 79) dq_79 dk_79
theorem dq_81 : ∀ a, a < 81 → mm_dP a := lt_s (i := 80) dq_80 dk_80
theorem dq_82 : ∀ a, a < 82 → mm_dP a := lt_s (i := 81) dq_81 dk_81
theorem dq_83 : ∀ a, a < 83 → mm_dP a := lt_s (i := 82) dq_82 dk_82
theorem dq_84 : ∀ a, a < 84 → mm_dP a := lt_s (i := 83) dq_83 dk_83
theorem dq_85 : ∀ a, a < 85 → mm_dP a := lt_s (i := 84) dq_84 dk_84
theorem dq_86 : ∀ a, a < 86 → mm_dP a := lt_s (i := 85) dq_85 dk_85
theorem dq_87 : ∀ a, a < 87 → mm_dP a := lt_s (i := 86) dq_86 dk_86
theorem dq_88 : ∀ a, a < 88 → mm_dP a := lt_s (i := 87) dq_87 dk_87
theorem dq_89 : ∀ a, a < 89 → mm_dP a := lt_s (i := 88) dq_88 dk_88
theorem dq_90 : ∀ a, a < 90 → mm_dP a := lt_s (i := 89) dq_89 dk_89
theorem dq_91 : ∀ a, a < 91 → mm_dP a := lt_s (i := 90) dq_90 dk_90
theorem dq_92 : ∀ a, a < 92 → mm_dP a := lt_s (i := 91) dq_91 dk_91
theorem dq_93 : ∀ a, a < 93 → mm_dP a := lt_s (i := 92) dq_92 dk_92
theorem dq_94 : ∀ a, a < 94 → mm_dP a := lt_s (i := 93) dq_93 dk_93
theorem dq_95 : ∀ a, a < 95 → mm_dP a := lt_s (i := 94) dq_94 dk_94
theorem dq_96 : ∀ a, a < 96 → mm_dP a := lt_s (i := 95) dq_95 dk_95
theorem dq_97 : ∀ a, a < 97 → mm_dP a := lt_s (i := 96) dq_96 dk_96
theorem dq_98 : ∀ a, a < 98 → mm_dP a := lt_s (i := 97) dq_97 dk_97
theorem dq_99 : ∀ a, a < 99 → mm_dP a := lt_s (i := 98) dq_98 dk_98
theorem dq_100 : ∀ a, a < 100 → mm_dP a := lt_s (i := 99) dq_99 dk_99
theorem dq_101 : ∀ a, a < 101 → mm_dP a := lt_s (i := 100) dq_100 dk_100
theorem dq_102 : ∀ a, a < 102 → mm_dP a := lt_s (i := 101) dq_101 dk_101
theorem dq_103 : ∀ a, a < 103 → mm_dP a := lt_s (i := 102) dq_102 dk_102
theorem dq_104 : ∀ a, a < 104 → mm_dP a := lt_s (i := 103) dq_103 dk_103
theorem dq_105 : ∀ a, a < 105 → mm_dP a := lt_s (i := 104) dq_104 dk_104
theorem dq_106 : ∀ a, a < 106 → mm_dP a := lt_s (i := 105) dq_105 dk_105
theorem dq_107 : ∀ a, a < 107 → mm_dP a := lt_s (i := 106) dq_106 dk_106
theorem dq_108 : ∀ a, a < 108 → mm_dP a := lt_s (i := 107) dq_107 dk_107
theorem dq_109 : ∀ a, a < 109 → mm_dP a := lt_s (i := 108) dq_108 dk_108
theorem dq_110 : ∀ a, a < 110 → mm_dP a := lt_s (i := 109) dq_109 dk_109
theorem dq_111 : ∀ a, a < 111 → mm_dP a := lt_s (i := 110) dq_110 dk_110
theorem dq_112 : ∀ a, a < 112 → mm_dP a := lt_s (i := 111) dq_111 dk_111
theorem dq_113 : ∀ a, a < 113 → mm_dP a := lt_s (i := 112) dq_112 dk_112
theorem dq_114 : ∀ a, a < 114 → mm_dP a := lt_s (i := 113) dq_113 dk_113
theorem dq_115 : ∀ a, a < 115 → mm_dP a := lt_s (i := 114) dq_114 dk_114
theorem dq_116 : ∀ a, a < 116 → mm_dP a := lt_s (i := 115) dq_115 dk_115
theorem dq_117 : ∀ a, a < 117 → mm_dP a := lt_s (i := 116) dq_116 dk_116
theorem dq_118 : ∀ a, a < 118 → mm_dP a := lt_s (i := 117) dq_117 dk_117
theorem dq_119 : ∀ a, a < 119 → mm_dP a := lt_s (i := 118) dq_118 dk_118
theorem dq_120 : ∀ a, a < 120 → mm_dP a := lt_s (i := 119) dq_119 dk_119
theorem dq_121 : ∀ a, a < 121 → mm_dP a := lt_s (i := 120) dq_120 dk_120
theorem dq_122 : ∀ a, a < 122 → mm_dP a := lt_s (i := 121) dq_121 dk_121
theorem dq_123 : ∀ a, a < 123 → mm_dP a := lt_s (i := 122) dq_122 dk_122
theorem dq_124 : ∀ a, a < 124 → mm_dP a := lt_s (i := 123) dq_123 dk_123
theorem dq_125 : ∀ a, a < 125 → mm_dP a := lt_s (i := 124) dq_124 dk_124
theorem dq_126 : ∀ a, a < 126 → mm_dP a := lt_s (i := 125) dq_125 dk_125
theorem dq_127 : ∀ a, a < 127 → mm_dP a := lt_s (i := 126) dq_126 dk_126
theorem dq_128 : ∀ a, a < 128 → mm_dP a := lt_s (i := 127) dq_127 dk_127
theorem dq_129 : ∀ a, a < 129 → mm_dP a := lt_s (i := 128) dq_128 dk_128
theorem dq_130 : ∀ a, a < 130 → mm_dP a := lt_s (i := 129) dq_129 dk_129
theorem dq_131 : ∀ a, a < 131 → mm_dP a := lt_s (i := 130) dq_130 dk_130
theorem dq_132 : ∀ a, a < 132 → mm_dP a := lt_s (i := 131) dq_131 dk_131
theorem dq_133 : ∀ a, a < 133 → mm_dP a := lt_s (i := 132) dq_132 dk_132
theorem dq_134 : ∀ a, a < 134 → mm_dP a := lt_s (i := 133) dq_133 dk_133
theorem dq_135 : ∀ a, a < 135 → mm_dP a := lt_s (i := 134) dq_134 dk_134
theorem dq_136 : ∀ a, a < 136 → mm_dP a := lt_s (i := 135) dq_135 dk_135
theorem dq_137 : ∀ a, a < 137 → mm_dP a := lt_s (i := 136) dq_136 dk_136
theorem dq_138 : ∀ a, a < 138 → mm_dP a := lt_s (i := 137) dq_137 dk_137
theorem dq_139 : ∀ a, a < 139 → mm_dP a := lt_s (i := 138) dq_138 dk_138
theorem dq_140 : ∀ a, a < 140 → mm_dP a := lt_s (i := 139) dq_139 dk_139
theorem dq_141 : ∀ a, a < 141 → mm_dP a := lt_s (i := 140) dq_140 dk_140
theorem dq_142 : ∀ a, a < 142 → mm_dP a := lt_s (i := 141) dq_141 dk_141
theorem dq_143 : ∀ a, a < 143 → mm_dP a := lt_s (i := 142) dq_142 dk_142
theorem dq_144 : ∀ a, a < 144 → mm_dP a := lt_s (i := 143) dq_143 dk_143
theorem dq_145 : ∀ a, a < 145 → mm_dP a := lt_s (i := 144) dq_144 dk_144
theorem dq_146 : ∀ a, a < 146 → mm_dP a := lt_s (i := 145) dq_145 dk_145
theorem dq_147 : ∀ a, a < 147 → mm_dP a := lt_s (i := 146) dq_146 dk_146
theorem dq_148 : ∀ a, a < 148 → mm_dP a := lt_s (i := 147) dq_147 dk_147
theorem dq_149 : ∀ a, a < 149 → mm_dP a := lt_s (i := 148) dq_148 dk_148
theorem dq_150 : ∀ a, a < 150 → mm_dP a := lt_s (i := 149) dq_149 dk_149
theorem dq_151 : ∀ a, a < 151 → mm_dP a := lt_s (i := 150) dq_150 dk_150
theorem dq_152 : ∀ a, a < 152 → mm_dP a := lt_s (i := 151) dq_151 dk_151
theorem dq_153 : ∀ a, a < 153 → mm_dP a := lt_s (i := 152) dq_152 dk_152
theorem dq_154 : ∀ a, a < 154 → mm_dP a := lt_s (i := 153) dq_153 dk_153
theorem dq_155 : ∀ a, a < 155 → mm_dP a := lt_s (i := 154) dq_154 dk_154
theorem dq_156 : ∀ a, a < 156 → mm_dP a := lt_s (i := 155) dq_155 dk_155
theorem dq_157 : ∀ a, a < 157 → mm_dP a := lt_s (i := 156) dq_156 dk_156
theorem dq_158 : ∀ a, a < 158 → mm_dP a := lt_s (i := 157) dq_157 dk_157
theorem dq_159 : ∀ a, a < 159 → mm_dP a := lt_s (i := 158) dq_158 dk_158
theorem dq_160 : ∀ a, a < 160 → mm_dP a := lt_s (i := 159) dq_159 dk_159
theorem dq_161 : ∀ a, a < 161 → mm_dP a := lt_s (i := 160) dq_160 dk_160
theorem dq_162 : ∀ a, a < 162 → mm_dP a := lt_s (i := 161) dq_161 dk_161
theorem dq_163 : ∀ a, a < 163 → mm_dP a := lt_s (i := 162) dq_162 dk_162
theorem dq_164 : ∀ a, a < 164 → mm_dP a := lt_s (i := 163) dq_163 dk_163
theorem dq_165 : ∀ a, a < 165 → mm_dP a := lt_s (i := 164) dq_164 dk_164
theorem dq_166 : ∀ a, a < 166 → mm_dP a := lt_s (i := 165) dq_165 dk_165
theorem dq_167 : ∀ a, a < 167 → mm_dP a := lt_s (i := 166) dq_166 dk_166
theorem dq_168 : ∀ a, a < 168 → mm_dP a := lt_s (i := 167) dq_167 dk_167
theorem dq_169 : ∀ a, a < 169 → mm_dP a := lt_s (i := 168) dq_168 dk_168
theorem dq_170 : ∀ a, a < 170 → mm_dP a := lt_s (i := 169) dq_169 dk_169
theorem dq_171 : ∀ a, a < 171 → mm_dP a := lt_s (i := 170) dq_170 dk_170
theorem dq_172 : ∀ a, a < 172 → mm_dP a := lt_s (i := 171) dq_171 dk_171
theorem dq_173 : ∀ a, a < 173 → mm_dP a := lt_s (i := 172) dq_172 dk_172
theorem dq_174 : ∀ a, a < 174 → mm_dP a := lt_s (i := 173) dq_173 dk_173
theorem dq_175 : ∀ a, a < 175 → mm_dP a := lt_s (i := 174) dq_174 dk_174
theorem dq_176 : ∀ a, a < 176 → mm_dP a := lt_s (i := 175) dq_175 dk_175
theorem dq_177 : ∀ a, a < 177 → mm_dP a := lt_s (i := 176) dq_176 dk_176
theorem dq_178 : ∀ a, a < 178 → mm_dP a := lt_s (i := 177) dq_177 dk_177
theorem dq_179 : ∀ a, a < 179 → mm_dP a := lt_s (i := 178) dq_178 dk_178
theorem dq_180 : ∀ a, a < 180 → mm_dP a := lt_s (i := 179) dq_179 dk_179
theorem dq_181 : ∀ a, a < 181 → mm_dP a := lt_s (i := 180) dq_180 dk_180
theorem dq_182 : ∀ a, a < 182 → mm_dP a := lt_s (i := 181) dq_181 dk_181
theorem dq_183 : ∀ a, a < 183 → mm_dP a := lt_s (i := 182) dq_182 dk_182
theorem dq_184 : ∀ a, a < 184 → mm_dP a := lt_s (i := 183) dq_183 dk_183
theorem dq_185 : ∀ a, a < 185 → mm_dP a := lt_s (i := 184) dq_184 dk_184
theorem dq_186 : ∀ a, a < 186 → mm_dP a := lt_s (i := 185) dq_185 dk_185
theorem dq_187 : ∀ a, a < 187 → mm_dP a := lt_s (i := 186) dq_186 dk_186
theorem dq_188 : ∀ a, a < 188 → mm_dP a := lt_s (i := 187) dq_187 dk_187
theorem dq_189 : ∀ a, a < 189 → mm_dP a := lt_s (i := 188) dq_188 dk_188
theorem dq_190 : ∀ a, a < 190 → mm_dP a := lt_s (i := 189) dq_189 dk_189
theorem dq_191 : ∀ a, a < 191 → mm_dP a := lt_s (i := 190) dq_190 dk_190
theorem dq_192 : ∀ a, a < 192 → mm_dP a := lt_s (i := 191) dq_191 dk_191
theorem dq_193 : ∀ a, a < 193 → mm_dP a := lt_s (i := 192) dq_192 dk_192
theorem dq_194 : ∀ a, a < 194 → mm_dP a := lt_s (i := 193) dq_193 dk_193
theorem dq_195 : ∀ a, a < 195 → mm_dP a := lt_s (i := 194) dq_194 dk_194
theorem dq_196 : ∀ a, a < 196 → mm_dP a := lt_s (i := 195) dq_195 dk_195
theorem dq_197 : ∀ a, a < 197 → mm_dP a := lt_s (i := 196) dq_196 dk_196
theorem dq_198 : ∀ a, a < 198 → mm_dP a := lt_s (i := 197) dq_197 dk_197
theorem dq_199 : ∀ a, a < 199 → mm_dP a := lt_s (i := 198) dq_198 dk_198
theorem dq_200 : ∀ a, a < 200 → mm_dP a := lt_s (i := 199) dq_199 dk_199
theorem dq_201 : ∀ a, a < 201 → mm_dP a := lt_s (i := 200) dq_200 dk_200
theorem dq_202 : ∀ a, a < 202 → mm_dP a := lt_s (i := 201) dq_201 dk_201
theorem dq_203 : ∀ a, a < 203 → mm_dP a := lt_s (i := 202) dq_202 dk_202
theorem dq_204 : ∀ a, a < 204 → mm_dP a := lt_s (i := 203) dq_203 dk_203
theorem dq_205 : ∀ a, a < 205 → mm_dP a := lt_s (i := 204) dq_204 dk_204
set_option maxRecDepth 20000 in
theorem mm_coL_len : mm_coL.length = 205 := by decide +kernel
theorem mm_dq (k : Nat) : mm_dP k := by
  by_cases h : k < 205
  · exact dq_205 k h
  · have e : mm_co k = [] := by
      unfold mm_co
      rw [List.getD_eq_getElem?_getD, List.getElem?_eq_none (by rw [mm_coL_len]; exact Nat.not_lt.mp h)]
      rfl
    unfold mm_dP
    rw [e]
    rfl
theorem mm_dec {k pc : Nat} {i : Instr} (h : mm_cd k pc = some i) : ∃ n, decode (mm_by k) pc = .ok (i, n) ∧ mm_ln i n = true := by
  have h1 := List.all_eq_true.mp (mm_dq k) _ (mm_lk_mem h)
  unfold mm_dk at h1
  split at h1
  · next j n e =>
    simp only [Bool.and_eq_true, decide_eq_true_eq] at h1
    obtain ⟨rfl, h2⟩ := h1
    exact ⟨n, e, h2⟩
  · cases h1
