/-! ===== where each method lies ===== -/
set_option maxRecDepth 20000 in
theorem hP_2 : xP 2 = some xm2 := rfl
set_option maxRecDepth 20000 in
theorem hP_3 : xP 3 = some xm3 := rfl
set_option maxRecDepth 20000 in
theorem hP_5 : xP 5 = some xm5 := rfl
set_option maxRecDepth 20000 in
theorem hP_4 : xP 4 = some xm4 := rfl
set_option maxRecDepth 20000 in
theorem hP_6 : xP 6 = some xm6 := rfl
set_option maxRecDepth 20000 in
theorem hP_1 : xP 1 = some xm1 := rfl
set_option maxRecDepth 20000 in
theorem hP_7 : xP 7 = some xm7 := rfl
set_option maxRecDepth 20000 in
theorem hP_8 : xP 8 = some xm8 := rfl
set_option maxRecDepth 20000 in
theorem hP_9 : xP 9 = some xm9 := rfl
set_option maxRecDepth 20000 in
theorem hP_10 : xP 10 = some xm10 := rfl
set_option maxRecDepth 20000 in
theorem hP_255 : xP 255 = some xm255 := rfl
set_option maxRecDepth 20000 in
theorem hP_254 : xP 254 = some xm254 := rfl
set_option maxRecDepth 20000 in
theorem hP_0 : xP 0 = some xm0 := rfl
set_option maxRecDepth 20000 in
theorem hP_11 : xP 11 = some xm11 := rfl
set_option maxRecDepth 20000 in
theorem hP_12 : xP 12 = some xm12 := rfl
set_option maxRecDepth 20000 in
theorem hP_15 : xP 15 = some xm15 := rfl
set_option maxRecDepth 20000 in
theorem hP_14 : xP 14 = some xm14 := rfl
set_option maxRecDepth 20000 in
theorem hP_16 : xP 16 = some xm16 := rfl
set_option maxRecDepth 20000 in
theorem hP_18 : xP 18 = some xm18 := rfl
set_option maxRecDepth 20000 in
theorem hP_17 : xP 17 = some xm17 := rfl
set_option maxRecDepth 20000 in
theorem hP_21 : xP 21 = some xm21 := rfl
set_option maxRecDepth 20000 in
theorem hP_20 : xP 20 = some xm20 := rfl
set_option maxRecDepth 20000 in
theorem hP_22 : xP 22 = some xm22 := rfl
set_option maxRecDepth 20000 in
theorem hP_25 : xP 25 = some xm25 := rfl
set_option maxRecDepth 20000 in
theorem hP_26 : xP 26 = some xm26 := rfl
set_option maxRecDepth 20000 in
theorem hP_28 : xP 28 = some xm28 := rfl
set_option maxRecDepth 20000 in
theorem hP_27 : xP 27 = some xm27 := rfl
set_option maxRecDepth 20000 in
theorem hP_29 : xP 29 = some xm29 := rfl
set_option maxRecDepth 20000 in
theorem hP_32 : xP 32 = some xm32 := rfl
set_option maxRecDepth 20000 in
theorem hP_33 : xP 33 = some xm33 := rfl
set_option maxRecDepth 20000 in
theorem hP_31 : xP 31 = some xm31 := rfl
set_option maxRecDepth 20000 in
theorem hP_30 : xP 30 = some xm30 := rfl
set_option maxRecDepth 20000 in
theorem hP_34 : xP 34 = some xm34 := rfl
set_option maxRecDepth 20000 in
theorem hP_35 : xP 35 = some xm35 := rfl
set_option maxRecDepth 20000 in
theorem hP_24 : xP 24 = some xm24 := rfl
set_option maxRecDepth 20000 in
theorem hP_23 : xP 23 = some xm23 := rfl
set_option maxRecDepth 20000 in
theorem hP_19 : xP 19 = some xm19 := rfl
set_option maxRecDepth 20000 in
theorem hP_37 : xP 37 = some xm37 := rfl
set_option maxRecDepth 20000 in
theorem hP_38 : xP 38 = some xm38 := rfl
set_option maxRecDepth 20000 in
theorem hP_41 : xP 41 = some xm41 := rfl
set_option maxRecDepth 20000 in
theorem hP_42 : xP 42 = some xm42 := rfl
set_option maxRecDepth 20000 in
theorem hP_40 : xP 40 = some xm40 := rfl
set_option maxRecDepth 20000 in
theorem hP_39 : xP 39 = some xm39 := rfl
set_option maxRecDepth 20000 in
theorem hP_47 : xP 47 = some xm47 := rfl
set_option maxRecDepth 20000 in
theorem hP_48 : xP 48 = some xm48 := rfl
set_option maxRecDepth 20000 in
theorem hP_49 : xP 49 = some xm49 := rfl
set_option maxRecDepth 20000 in
theorem hP_250 : xP 250 = some xm250 := rfl
set_option maxRecDepth 20000 in
theorem hP_46 : xP 46 = some xm46 := rfl
set_option maxRecDepth 20000 in
theorem hP_247 : xP 247 = some xm247 := rfl
set_option maxRecDepth 20000 in
theorem hP_51 : xP 51 = some xm51 := rfl
set_option maxRecDepth 20000 in
theorem hP_52 : xP 52 = some xm52 := rfl
set_option maxRecDepth 20000 in
theorem hP_54 : xP 54 = some xm54 := rfl
set_option maxRecDepth 20000 in
theorem hP_55 : xP 55 = some xm55 := rfl
set_option maxRecDepth 20000 in
theorem hP_249 : xP 249 = some xm249 := rfl
set_option maxRecDepth 20000 in
theorem hP_252 : xP 252 = some xm252 := rfl
set_option maxRecDepth 20000 in
theorem hP_56 : xP 56 = some xm56 := rfl
set_option maxRecDepth 20000 in
theorem hP_53 : xP 53 = some xm53 := rfl
set_option maxRecDepth 20000 in
theorem hP_50 : xP 50 = some xm50 := rfl
set_option maxRecDepth 20000 in
theorem hP_45 : xP 45 = some xm45 := rfl
set_option maxRecDepth 20000 in
theorem hP_44 : xP 44 = some xm44 := rfl
set_option maxRecDepth 20000 in
theorem hP_43 : xP 43 = some xm43 := rfl
set_option maxRecDepth 20000 in
theorem hP_36 : xP 36 = some xm36 := rfl
set_option maxRecDepth 20000 in
theorem hP_57 : xP 57 = some xm57 := rfl
set_option maxRecDepth 20000 in
theorem hP_262 : xP 262 = some xm262 := rfl
set_option maxRecDepth 20000 in
theorem hP_261 : xP 261 = some xm261 := rfl
set_option maxRecDepth 20000 in
theorem hP_260 : xP 260 = some xm260 := rfl
set_option maxRecDepth 20000 in
theorem hP_248 : xP 248 = some xm248 := rfl
set_option maxRecDepth 20000 in
theorem hP_263 : xP 263 = some xm263 := rfl
set_option maxRecDepth 20000 in
theorem hP_259 : xP 259 = some xm259 := rfl
set_option maxRecDepth 20000 in
theorem hP_264 : xP 264 = some xm264 := rfl
set_option maxRecDepth 20000 in
theorem hP_258 : xP 258 = some xm258 := rfl
set_option maxRecDepth 20000 in
theorem hP_268 : xP 268 = some xm268 := rfl
set_option maxRecDepth 20000 in
theorem hP_267 : xP 267 = some xm267 := rfl
set_option maxRecDepth 20000 in
theorem hP_272 : xP 272 = some xm272 := rfl
set_option maxRecDepth 20000 in
theorem hP_271 : xP 271 = some xm271 := rfl
set_option maxRecDepth 20000 in
theorem hP_270 : xP 270 = some xm270 := rfl
set_option maxRecDepth 20000 in
theorem hP_275 : xP 275 = some xm275 := rfl
set_option maxRecDepth 20000 in
theorem hP_269 : xP 269 = some xm269 := rfl
set_option maxRecDepth 20000 in
theorem hP_257 : xP 257 = some xm257 := rfl
set_option maxRecDepth 20000 in
theorem hP_256 : xP 256 = some xm256 := rfl
set_option maxRecDepth 20000 in
theorem hP_279 : xP 279 = some xm279 := rfl
set_option maxRecDepth 20000 in
theorem hP_281 : xP 281 = some xm281 := rfl
set_option maxRecDepth 20000 in
theorem hP_280 : xP 280 = some xm280 := rfl
set_option maxRecDepth 20000 in
theorem hP_284 : xP 284 = some xm284 := rfl
set_option maxRecDepth 20000 in
theorem hP_283 : xP 283 = some xm283 := rfl
set_option maxRecDepth 20000 in
theorem hP_282 : xP 282 = some xm282 := rfl
set_option maxRecDepth 20000 in
theorem hP_278 : xP 278 = some xm278 := rfl
set_option maxRecDepth 20000 in
theorem hP_277 : xP 277 = some xm277 := rfl
set_option maxRecDepth 20000 in
theorem hP_276 : xP 276 = some xm276 := rfl
set_option maxRecDepth 20000 in
theorem hP_287 : xP 287 = some xm287 := rfl
set_option maxRecDepth 20000 in
theorem hP_288 : xP 288 = some xm288 := rfl
set_option maxRecDepth 20000 in
theorem hP_286 : xP 286 = some xm286 := rfl
set_option maxRecDepth 20000 in
theorem hP_285 : xP 285 = some xm285 := rfl
set_option maxRecDepth 20000 in
theorem hP_58 : xP 58 = some xm58 := rfl
set_option maxRecDepth 20000 in
theorem hP_60 : xP 60 = some xm60 := rfl
set_option maxRecDepth 20000 in
theorem hP_62 : xP 62 = some xm62 := rfl
set_option maxRecDepth 20000 in
theorem hP_61 : xP 61 = some xm61 := rfl
set_option maxRecDepth 20000 in
theorem hP_290 : xP 290 = some xm290 := rfl
set_option maxRecDepth 20000 in
theorem hP_293 : xP 293 = some xm293 := rfl
set_option maxRecDepth 20000 in
theorem hP_292 : xP 292 = some xm292 := rfl
set_option maxRecDepth 20000 in
theorem hP_291 : xP 291 = some xm291 := rfl
set_option maxRecDepth 20000 in
theorem hP_289 : xP 289 = some xm289 := rfl
set_option maxRecDepth 20000 in
theorem hP_59 : xP 59 = some xm59 := rfl
set_option maxRecDepth 20000 in
theorem hP_66 : xP 66 = some xm66 := rfl
set_option maxRecDepth 20000 in
theorem hP_65 : xP 65 = some xm65 := rfl
set_option maxRecDepth 20000 in
theorem hP_69 : xP 69 = some xm69 := rfl
set_option maxRecDepth 20000 in
theorem hP_68 : xP 68 = some xm68 := rfl
set_option maxRecDepth 20000 in
theorem hP_70 : xP 70 = some xm70 := rfl
set_option maxRecDepth 20000 in
theorem hP_73 : xP 73 = some xm73 := rfl
set_option maxRecDepth 20000 in
theorem hP_72 : xP 72 = some xm72 := rfl
set_option maxRecDepth 20000 in
theorem hP_75 : xP 75 = some xm75 := rfl
set_option maxRecDepth 20000 in
theorem hP_74 : xP 74 = some xm74 := rfl
set_option maxRecDepth 20000 in
theorem hP_71 : xP 71 = some xm71 := rfl
set_option maxRecDepth 20000 in
theorem hP_67 : xP 67 = some xm67 := rfl
set_option maxRecDepth 20000 in
theorem hP_77 : xP 77 = some xm77 := rfl
set_option maxRecDepth 20000 in
theorem hP_76 : xP 76 = some xm76 := rfl
set_option maxRecDepth 20000 in
theorem hP_64 : xP 64 = some xm64 := rfl
set_option maxRecDepth 20000 in
theorem hP_63 : xP 63 = some xm63 := rfl
set_option maxRecDepth 20000 in
theorem hP_79 : xP 79 = some xm79 := rfl
set_option maxRecDepth 20000 in
theorem hP_78 : xP 78 = some xm78 := rfl
set_option maxRecDepth 20000 in
theorem hP_81 : xP 81 = some xm81 := rfl
set_option maxRecDepth 20000 in
theorem hP_80 : xP 80 = some xm80 := rfl
set_option maxRecDepth 20000 in
theorem hP_82 : xP 82 = some xm82 := rfl
set_option maxRecDepth 20000 in
theorem hP_86 : xP 86 = some xm86 := rfl
set_option maxRecDepth 20000 in
theorem hP_301 : xP 301 = some xm301 := rfl
set_option maxRecDepth 20000 in
theorem hP_300 : xP 300 = some xm300 := rfl
set_option maxRecDepth 20000 in
theorem hP_299 : xP 299 = some xm299 := rfl
set_option maxRecDepth 20000 in
theorem hP_85 : xP 85 = some xm85 := rfl
set_option maxRecDepth 20000 in
theorem hP_84 : xP 84 = some xm84 := rfl
set_option maxRecDepth 20000 in
theorem hP_298 : xP 298 = some xm298 := rfl
set_option maxRecDepth 20000 in
theorem hP_297 : xP 297 = some xm297 := rfl
set_option maxRecDepth 20000 in
theorem hP_296 : xP 296 = some xm296 := rfl
set_option maxRecDepth 20000 in
theorem hP_295 : xP 295 = some xm295 := rfl
set_option maxRecDepth 20000 in
theorem hP_294 : xP 294 = some xm294 := rfl
set_option maxRecDepth 20000 in
theorem hP_83 : xP 83 = some xm83 := rfl
set_option maxRecDepth 20000 in
theorem hP_303 : xP 303 = some xm303 := rfl
set_option maxRecDepth 20000 in
theorem hP_302 : xP 302 = some xm302 := rfl
set_option maxRecDepth 20000 in
theorem hP_87 : xP 87 = some xm87 := rfl
set_option maxRecDepth 20000 in
theorem hP_90 : xP 90 = some xm90 := rfl
set_option maxRecDepth 20000 in
theorem hP_89 : xP 89 = some xm89 := rfl
set_option maxRecDepth 20000 in
theorem hP_88 : xP 88 = some xm88 := rfl
set_option maxRecDepth 20000 in
theorem hP_91 : xP 91 = some xm91 := rfl
set_option maxRecDepth 20000 in
theorem hP_92 : xP 92 = some xm92 := rfl
set_option maxRecDepth 20000 in
theorem hP_95 : xP 95 = some xm95 := rfl
set_option maxRecDepth 20000 in
theorem hP_96 : xP 96 = some xm96 := rfl
set_option maxRecDepth 20000 in
theorem hP_251 : xP 251 = some xm251 := rfl
set_option maxRecDepth 20000 in
theorem hP_94 : xP 94 = some xm94 := rfl
set_option maxRecDepth 20000 in
theorem hP_93 : xP 93 = some xm93 := rfl
set_option maxRecDepth 20000 in
theorem hP_101 : xP 101 = some xm101 := rfl
set_option maxRecDepth 20000 in
theorem hP_100 : xP 100 = some xm100 := rfl
set_option maxRecDepth 20000 in
theorem hP_99 : xP 99 = some xm99 := rfl
set_option maxRecDepth 20000 in
theorem hP_102 : xP 102 = some xm102 := rfl
set_option maxRecDepth 20000 in
theorem hP_104 : xP 104 = some xm104 := rfl
set_option maxRecDepth 20000 in
theorem hP_107 : xP 107 = some xm107 := rfl
set_option maxRecDepth 20000 in
theorem hP_106 : xP 106 = some xm106 := rfl
set_option maxRecDepth 20000 in
theorem hP_105 : xP 105 = some xm105 := rfl
set_option maxRecDepth 20000 in
theorem hP_108 : xP 108 = some xm108 := rfl
set_option maxRecDepth 20000 in
theorem hP_103 : xP 103 = some xm103 := rfl
set_option maxRecDepth 20000 in
theorem hP_98 : xP 98 = some xm98 := rfl
set_option maxRecDepth 20000 in
theorem hP_110 : xP 110 = some xm110 := rfl
set_option maxRecDepth 20000 in
theorem hP_111 : xP 111 = some xm111 := rfl
set_option maxRecDepth 20000 in
theorem hP_109 : xP 109 = some xm109 := rfl
set_option maxRecDepth 20000 in
theorem hP_112 : xP 112 = some xm112 := rfl
set_option maxRecDepth 20000 in
theorem hP_115 : xP 115 = some xm115 := rfl
set_option maxRecDepth 20000 in
theorem hP_114 : xP 114 = some xm114 := rfl
set_option maxRecDepth 20000 in
theorem hP_118 : xP 118 = some xm118 := rfl
set_option maxRecDepth 20000 in
theorem hP_117 : xP 117 = some xm117 := rfl
set_option maxRecDepth 20000 in
theorem hP_119 : xP 119 = some xm119 := rfl
set_option maxRecDepth 20000 in
theorem hP_116 : xP 116 = some xm116 := rfl
set_option maxRecDepth 20000 in
theorem hP_113 : xP 113 = some xm113 := rfl
set_option maxRecDepth 20000 in
theorem hP_122 : xP 122 = some xm122 := rfl
set_option maxRecDepth 20000 in
theorem hP_121 : xP 121 = some xm121 := rfl
set_option maxRecDepth 20000 in
theorem hP_123 : xP 123 = some xm123 := rfl
set_option maxRecDepth 20000 in
theorem hP_120 : xP 120 = some xm120 := rfl
set_option maxRecDepth 20000 in
theorem hP_124 : xP 124 = some xm124 := rfl
set_option maxRecDepth 20000 in
theorem hP_97 : xP 97 = some xm97 := rfl
set_option maxRecDepth 20000 in
theorem hP_127 : xP 127 = some xm127 := rfl
set_option maxRecDepth 20000 in
theorem hP_126 : xP 126 = some xm126 := rfl
set_option maxRecDepth 20000 in
theorem hP_130 : xP 130 = some xm130 := rfl
set_option maxRecDepth 20000 in
theorem hP_129 : xP 129 = some xm129 := rfl
set_option maxRecDepth 20000 in
theorem hP_131 : xP 131 = some xm131 := rfl
set_option maxRecDepth 20000 in
theorem hP_128 : xP 128 = some xm128 := rfl
set_option maxRecDepth 20000 in
theorem hP_133 : xP 133 = some xm133 := rfl
set_option maxRecDepth 20000 in
theorem hP_135 : xP 135 = some xm135 := rfl
set_option maxRecDepth 20000 in
theorem hP_136 : xP 136 = some xm136 := rfl
set_option maxRecDepth 20000 in
theorem hP_137 : xP 137 = some xm137 := rfl
set_option maxRecDepth 20000 in
theorem hP_134 : xP 134 = some xm134 := rfl
set_option maxRecDepth 20000 in
theorem hP_132 : xP 132 = some xm132 := rfl
set_option maxRecDepth 20000 in
theorem hP_125 : xP 125 = some xm125 := rfl
set_option maxRecDepth 20000 in
theorem hP_13 : xP 13 = some xm13 := rfl
set_option maxRecDepth 20000 in
theorem hP_141 : xP 141 = some xm141 := rfl
set_option maxRecDepth 20000 in
theorem hP_142 : xP 142 = some xm142 := rfl
set_option maxRecDepth 20000 in
theorem hP_140 : xP 140 = some xm140 := rfl
set_option maxRecDepth 20000 in
theorem hP_139 : xP 139 = some xm139 := rfl
set_option maxRecDepth 20000 in
theorem hP_143 : xP 143 = some xm143 := rfl
set_option maxRecDepth 20000 in
theorem hP_144 : xP 144 = some xm144 := rfl
set_option maxRecDepth 20000 in
theorem hP_138 : xP 138 = some xm138 := rfl
set_option maxRecDepth 20000 in
theorem hP_148 : xP 148 = some xm148 := rfl
set_option maxRecDepth 20000 in
theorem hP_149 : xP 149 = some xm149 := rfl
set_option maxRecDepth 20000 in
theorem hP_150 : xP 150 = some xm150 := rfl
set_option maxRecDepth 20000 in
theorem hP_147 : xP 147 = some xm147 := rfl
set_option maxRecDepth 20000 in
theorem hP_146 : xP 146 = some xm146 := rfl
set_option maxRecDepth 20000 in
theorem hP_151 : xP 151 = some xm151 := rfl
set_option maxRecDepth 20000 in
theorem hP_153 : xP 153 = some xm153 := rfl
set_option maxRecDepth 20000 in
theorem hP_152 : xP 152 = some xm152 := rfl
set_option maxRecDepth 20000 in
theorem hP_154 : xP 154 = some xm154 := rfl
set_option maxRecDepth 20000 in
theorem hP_156 : xP 156 = some xm156 := rfl
set_option maxRecDepth 20000 in
theorem hP_155 : xP 155 = some xm155 := rfl
set_option maxRecDepth 20000 in
theorem hP_159 : xP 159 = some xm159 := rfl
set_option maxRecDepth 20000 in
theorem hP_158 : xP 158 = some xm158 := rfl
set_option maxRecDepth 20000 in
theorem hP_157 : xP 157 = some xm157 := rfl
set_option maxRecDepth 20000 in
theorem hP_160 : xP 160 = some xm160 := rfl
set_option maxRecDepth 20000 in
theorem hP_163 : xP 163 = some xm163 := rfl
set_option maxRecDepth 20000 in
theorem hP_165 : xP 165 = some xm165 := rfl
set_option maxRecDepth 20000 in
theorem hP_167 : xP 167 = some xm167 := rfl
set_option maxRecDepth 20000 in
theorem hP_166 : xP 166 = some xm166 := rfl
set_option maxRecDepth 20000 in
theorem hP_164 : xP 164 = some xm164 := rfl
set_option maxRecDepth 20000 in
theorem hP_162 : xP 162 = some xm162 := rfl
set_option maxRecDepth 20000 in
theorem hP_172 : xP 172 = some xm172 := rfl
set_option maxRecDepth 20000 in
theorem hP_171 : xP 171 = some xm171 := rfl
set_option maxRecDepth 20000 in
theorem hP_174 : xP 174 = some xm174 := rfl
set_option maxRecDepth 20000 in
theorem hP_173 : xP 173 = some xm173 := rfl
set_option maxRecDepth 20000 in
theorem hP_170 : xP 170 = some xm170 := rfl
set_option maxRecDepth 20000 in
theorem hP_169 : xP 169 = some xm169 := rfl
set_option maxRecDepth 20000 in
theorem hP_176 : xP 176 = some xm176 := rfl
set_option maxRecDepth 20000 in
theorem hP_177 : xP 177 = some xm177 := rfl
set_option maxRecDepth 20000 in
theorem hP_175 : xP 175 = some xm175 := rfl
set_option maxRecDepth 20000 in
theorem hP_178 : xP 178 = some xm178 := rfl
set_option maxRecDepth 20000 in
theorem hP_179 : xP 179 = some xm179 := rfl
set_option maxRecDepth 20000 in
theorem hP_168 : xP 168 = some xm168 := rfl
set_option maxRecDepth 20000 in
theorem hP_161 : xP 161 = some xm161 := rfl
set_option maxRecDepth 20000 in
theorem hP_180 : xP 180 = some xm180 := rfl
set_option maxRecDepth 20000 in
theorem hP_182 : xP 182 = some xm182 := rfl
set_option maxRecDepth 20000 in
theorem hP_183 : xP 183 = some xm183 := rfl
set_option maxRecDepth 20000 in
theorem hP_181 : xP 181 = some xm181 := rfl
set_option maxRecDepth 20000 in
theorem hP_185 : xP 185 = some xm185 := rfl
set_option maxRecDepth 20000 in
theorem hP_184 : xP 184 = some xm184 := rfl
set_option maxRecDepth 20000 in
theorem hP_145 : xP 145 = some xm145 := rfl
set_option maxRecDepth 20000 in
theorem hP_187 : xP 187 = some xm187 := rfl
set_option maxRecDepth 20000 in
theorem hP_189 : xP 189 = some xm189 := rfl
set_option maxRecDepth 20000 in
theorem hP_190 : xP 190 = some xm190 := rfl
set_option maxRecDepth 20000 in
theorem hP_192 : xP 192 = some xm192 := rfl
set_option maxRecDepth 20000 in
theorem hP_191 : xP 191 = some xm191 := rfl
set_option maxRecDepth 20000 in
theorem hP_188 : xP 188 = some xm188 := rfl
set_option maxRecDepth 20000 in
theorem hP_194 : xP 194 = some xm194 := rfl
set_option maxRecDepth 20000 in
theorem hP_193 : xP 193 = some xm193 := rfl
set_option maxRecDepth 20000 in
theorem hP_196 : xP 196 = some xm196 := rfl
set_option maxRecDepth 20000 in
theorem hP_197 : xP 197 = some xm197 := rfl
set_option maxRecDepth 20000 in
theorem hP_195 : xP 195 = some xm195 := rfl
set_option maxRecDepth 20000 in
theorem hP_201 : xP 201 = some xm201 := rfl
set_option maxRecDepth 20000 in
theorem hP_200 : xP 200 = some xm200 := rfl
set_option maxRecDepth 20000 in
theorem hP_202 : xP 202 = some xm202 := rfl
set_option maxRecDepth 20000 in
theorem hP_199 : xP 199 = some xm199 := rfl
set_option maxRecDepth 20000 in
theorem hP_198 : xP 198 = some xm198 := rfl
set_option maxRecDepth 20000 in
theorem hP_186 : xP 186 = some xm186 := rfl
set_option maxRecDepth 20000 in
theorem hP_204 : xP 204 = some xm204 := rfl
set_option maxRecDepth 20000 in
theorem hP_206 : xP 206 = some xm206 := rfl
set_option maxRecDepth 20000 in
theorem hP_208 : xP 208 = some xm208 := rfl
set_option maxRecDepth 20000 in
theorem hP_209 : xP 209 = some xm209 := rfl
set_option maxRecDepth 20000 in
theorem hP_211 : xP 211 = some xm211 := rfl
set_option maxRecDepth 20000 in
theorem hP_210 : xP 210 = some xm210 := rfl
set_option maxRecDepth 20000 in
theorem hP_207 : xP 207 = some xm207 := rfl
set_option maxRecDepth 20000 in
theorem hP_205 : xP 205 = some xm205 := rfl
set_option maxRecDepth 20000 in
theorem hP_213 : xP 213 = some xm213 := rfl
set_option maxRecDepth 20000 in
theorem hP_214 : xP 214 = some xm214 := rfl
set_option maxRecDepth 20000 in
theorem hP_215 : xP 215 = some xm215 := rfl
set_option maxRecDepth 20000 in
theorem hP_212 : xP 212 = some xm212 := rfl
set_option maxRecDepth 20000 in
theorem hP_218 : xP 218 = some xm218 := rfl
set_option maxRecDepth 20000 in
theorem hP_217 : xP 217 = some xm217 := rfl
set_option maxRecDepth 20000 in
theorem hP_219 : xP 219 = some xm219 := rfl
set_option maxRecDepth 20000 in
theorem hP_216 : xP 216 = some xm216 := rfl
set_option maxRecDepth 20000 in
theorem hP_253 : xP 253 = some xm253 := rfl
set_option maxRecDepth 20000 in
theorem hP_203 : xP 203 = some xm203 := rfl
set_option maxRecDepth 20000 in
theorem hP_222 : xP 222 = some xm222 := rfl
set_option maxRecDepth 20000 in
theorem hP_223 : xP 223 = some xm223 := rfl
set_option maxRecDepth 20000 in
theorem hP_221 : xP 221 = some xm221 := rfl
set_option maxRecDepth 20000 in
theorem hP_224 : xP 224 = some xm224 := rfl
set_option maxRecDepth 20000 in
theorem hP_226 : xP 226 = some xm226 := rfl
set_option maxRecDepth 20000 in
theorem hP_227 : xP 227 = some xm227 := rfl
set_option maxRecDepth 20000 in
theorem hP_225 : xP 225 = some xm225 := rfl
set_option maxRecDepth 20000 in
theorem hP_228 : xP 228 = some xm228 := rfl
set_option maxRecDepth 20000 in
theorem hP_230 : xP 230 = some xm230 := rfl
set_option maxRecDepth 20000 in
theorem hP_231 : xP 231 = some xm231 := rfl
set_option maxRecDepth 20000 in
theorem hP_232 : xP 232 = some xm232 := rfl
set_option maxRecDepth 20000 in
theorem hP_229 : xP 229 = some xm229 := rfl
set_option maxRecDepth 20000 in
theorem hP_234 : xP 234 = some xm234 := rfl
set_option maxRecDepth 20000 in
theorem hP_235 : xP 235 = some xm235 := rfl
set_option maxRecDepth 20000 in
theorem hP_233 : xP 233 = some xm233 := rfl
set_option maxRecDepth 20000 in
theorem hP_220 : xP 220 = some xm220 := rfl
set_option maxRecDepth 20000 in
theorem hP_238 : xP 238 = some xm238 := rfl
set_option maxRecDepth 20000 in
theorem hP_240 : xP 240 = some xm240 := rfl
set_option maxRecDepth 20000 in
theorem hP_239 : xP 239 = some xm239 := rfl
set_option maxRecDepth 20000 in
theorem hP_237 : xP 237 = some xm237 := rfl
set_option maxRecDepth 20000 in
theorem hP_242 : xP 242 = some xm242 := rfl
set_option maxRecDepth 20000 in
theorem hP_241 : xP 241 = some xm241 := rfl
set_option maxRecDepth 20000 in
theorem hP_244 : xP 244 = some xm244 := rfl
set_option maxRecDepth 20000 in
theorem hP_243 : xP 243 = some xm243 := rfl
set_option maxRecDepth 20000 in
theorem hP_245 : xP 245 = some xm245 := rfl
set_option maxRecDepth 20000 in
theorem hP_246 : xP 246 = some xm246 := rfl
set_option maxRecDepth 20000 in
theorem hP_236 : xP 236 = some xm236 := rfl
set_option maxRecDepth 20000 in
theorem hP_1000 : xP 1000 = some xm1000 := rfl
theorem xsn {l : List (Nat × Value)} : ∀ q ∈ ([] : List (Nat × Value)), q ∈ l := fun _ h => by cases h
theorem xsc {a : Nat × Value} {t l : List (Nat × Value)} (h1 : a ∈ l) (h2 : ∀ q ∈ t, q ∈ l) : ∀ q ∈ a :: t, q ∈ l := fun q h => (List.mem_cons.mp h).elim (fun e => e ▸ h1) (h2 q)
/-- a number that is none of a run of numbers lies outside -/
def xall (x : Int32) : List Int32 → Prop
  | [] => True
  | c :: t => ¬ (x = c) ∧ xall x t
theorem xsw_mem {x : Int32} : ∀ (l : List Int32), xall x l → ∀ c ∈ l, ¬ (x = c)
  | [], _, _, h => by cases h
  | a :: t, ha, c, h => by
    rcases List.mem_cons.mp h with e | e
    · rw [e]; exact ha.1
    · exact xsw_mem t ha.2 c e
theorem xsw_out (x : Int32) {lo hi : Int} (hb : -2147483648 ≤ lo ∧ hi ≤ 2147483647) (l : List Int32) (hl : l = (List.range (hi - lo + 1).toNat).map (fun j : Nat => Int32.ofInt (lo + (j : Int)))) (h : xall x l) : x.toInt < lo ∨ hi < x.toInt := by
  by_cases hc : x.toInt < lo ∨ hi < x.toInt
  · exact hc
  · exfalso
    refine xsw_mem l h x ?_ rfl
    rw [hl]
    refine List.mem_map.mpr ⟨(x.toInt - lo).toNat, List.mem_range.mpr (by omega), ?_⟩
    show Int32.ofInt (lo + (((x.toInt - lo).toNat : Nat) : Int)) = x
    rw [show lo + (((x.toInt - lo).toNat : Nat) : Int) = x.toInt by omega]
    exact Int32.ofInt_toInt x
section XTY
variable {α : Type} {ι : α → Option Value} {O : Nat → Option va_E} {d m pc : Nat} {lv : List (Nat × Value)} {st : List Value} {M : xM} {F : Option (α × xM)} {me : xMe} {t a b c0 len : Nat} {cv : Value} {off : Int}
theorem xZ.oc {x : Option Nat} {A : Option (α × xM)} {B : Nat → Option (α × xM)} {lvf : Option Nat → List (Nat × Value)} {stf : Option Nat → List Value} (ka : xZ ι O d m pc (lvf none) (stf none) M A) (kb : ∀ y, xZ ι O d m pc (lvf (some y)) (stf (some y)) M (B y)) : xZ ι O d m pc (lvf x) (stf x) M (Option.elim x A B) := by
  cases x with
  | none => exact ka
  | some y => exact kb y
theorem xZ.cs {p : Prop} {dp : Decidable p} {A B : Option (α × xM)} (ka : p → xZ ι O d m pc lv st M A) (kb : ¬ p → xZ ι O d m pc lv st M B) : xZ ι O d m pc lv st M (if p then A else B) := by
  by_cases hp : p
  · rw [if_pos hp]; exact ka hp
  · rw [if_neg hp]; exact kb hp
theorem xZ.tsw {x : Int32} {pc' : Nat} {dflt lo hi : Int} {offs : Array Int} (hP : xP m = some me) (hE : xfd pc me.1 = some (.tableswitch dflt lo hi offs, len, t, a, b, cv)) (hx : x.toInt < lo ∨ hi < x.toInt) (hd : decide (0 ≤ (pc : Int) + dflt) = true) (ht : ((pc : Int) + dflt).toNat = pc') (k : xZ ι O d m pc' lv st M F) : xZ ι O d m pc lv (.int x :: st) M F := by
  subst ht
  refine xZ.one hP hE ?_ k
  unfold xnx
  have e1 : xs1 me.2.1 (.tableswitch dflt lo hi offs) len lv (.int x :: st) = none := rfl
  have e2 : xhs O (.tableswitch dflt lo hi offs) len t a cv (.int x :: st) (hp M) = none := rfl
  have e3 : xbr (.tableswitch dflt lo hi offs) len t pc (.int x :: st) = some (((pc : Int) + dflt).toNat, st) := by
    unfold xbr
    dsimp only
    rw [if_pos hx, if_pos (of_decide_eq_true hd)]
  simp only [e1, e2, e3]
theorem xZ.rete {x : Int32} {ty : FieldType} (hP : xP m = some me) (hE : xfd pc me.1 = some (.ireturn, 1, t, a, b, cv)) (hr : me.2.2 = some ty) (hf : xfit ty (.int x) = true) : xZ oI O d m pc lv [.int x] M (some (x, M)) := by
  intro a9 M9 e
  cases e
  exact xX.reti hP hE hr hf
end XTY
