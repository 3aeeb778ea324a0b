theorem moX12_1 : Cond.methodLink RX12 1 Lib.objectInit ∈ z_T := z_t5 146 rfl rfl
set_option maxHeartbeats 8000000 in
set_option maxRecDepth 100000 in
theorem tc_words {X : z_Ct} {A : Nat → Prop} {mc ms k n : Nat} {Q : State → Prop} {lo : List (Option Value)} {st : List Value} {x : Nat × va_E} {rest : va_W} {q8 : Nat} (C : n_Cx X A RX12 cX12_init 1 1 mc ms) (kk : n_W X A k n Q 950 lo (.ref q8 :: st) (x :: (rest ++ [(q8, .inl ((n_Y X).1, 145, .inl (n_pre m_words 145)))]))) : n_W X A k n Q 69 lo (.ref q8 :: st) (x :: (rest ++ [(q8, .inl ((n_Y X).1, 145, .inl (fun _ => 0)))])) := by
  refine n_last (w := m_words) ?_
  refine n_dup C dX12_init_69 rfl ?_
  refine n_iconst (v := 0) C dX12_init_70 (by decide) ?_
  refine n_bipush (v := 32) C dX12_init_71 (by decide) ?_
  refine n_iastl C m_words (by decide) (by decide) (i := 0) rfl mw_0 dX12_init_73 ?_
  refine n_dup C dX12_init_74 rfl ?_
  refine n_iconst (v := 1) C dX12_init_75 (by decide) ?_
  refine n_bipush (v := 103) C dX12_init_76 (by decide) ?_
  refine n_iastl C m_words (by decide) (by decide) (i := 1) rfl mw_1 dX12_init_78 ?_
  refine n_dup C dX12_init_79 rfl ?_
  refine n_iconst (v := 2) C dX12_init_80 (by decide) ?_
  refine n_bipush (v := 114) C dX12_init_81 (by decide) ?_
  refine n_iastl C m_words (by decide) (by decide) (i := 2) rfl mw_2 dX12_init_83 ?_
  refine n_dup C dX12_init_84 rfl ?_
  refine n_iconst (v := 3) C dX12_init_85 (by decide) ?_
  refine n_bipush (v := 111) C dX12_init_86 (by decide) ?_
  refine n_iastl C m_words (by decide) (by decide) (i := 3) rfl mw_3 dX12_init_88 ?_
  refine n_dup C dX12_init_89 rfl ?_
  refine n_iconst (v := 4) C dX12_init_90 (by decide) ?_
  refine n_bipush (v := 119) C dX12_init_91 (by decide) ?_
  refine n_iastl C m_words (by decide) (by decide) (i := 4) rfl mw_4 dX12_init_93 ?_
  refine n_dup C dX12_init_94 rfl ?_
  refine n_iconst (v := 5) C dX12_init_95 (by decide) ?_
  refine n_bipush (v := 32) C dX12_init_96 (by decide) ?_
  refine n_iastl C m_words (by decide) (by decide) (i := 5) rfl mw_5 dX12_init_98 ?_
  refine n_dup C dX12_init_99 rfl ?_
  refine n_bipush (v := 6) C dX12_init_100 (by decide) ?_
  refine n_bipush (v := 108) C dX12_init_102 (by decide) ?_
  refine n_iastl C m_words (by decide) (by decide) (i := 6) rfl mw_6 dX12_init_104 ?_
  refine n_dup C dX12_init_105 rfl ?_
  refine n_bipush (v := 7) C dX12_init_106 (by decide) ?_
  refine n_bipush (v := 111) C dX12_init_108 (by decide) ?_
  refine n_iastl C m_words (by decide) (by decide) (i := 7) rfl mw_7 dX12_init_110 ?_
  refine n_dup C dX12_init_111 rfl ?_
  refine n_bipush (v := 8) C dX12_init_112 (by decide) ?_
  refine n_bipush (v := 119) C dX12_init_114 (by decide) ?_
  refine n_iastl C m_words (by decide) (by decide) (i := 8) rfl mw_8 dX12_init_116 ?_
  refine n_dup C dX12_init_117 rfl ?_
  refine n_bipush (v := 9) C dX12_init_118 (by decide) ?_
  refine n_bipush (v := 101) C dX12_init_120 (by decide) ?_
  refine n_iastl C m_words (by decide) (by decide) (i := 9) rfl mw_9 dX12_init_122 ?_
  refine n_dup C dX12_init_123 rfl ?_
  refine n_bipush (v := 10) C dX12_init_124 (by decide) ?_
  refine n_bipush (v := 114) C dX12_init_126 (by decide) ?_
  refine n_iastl C m_words (by decide) (by decide) (i := 10) rfl mw_10 dX12_init_128 ?_
  refine n_dup C dX12_init_129 rfl ?_
  refine n_bipush (v := 11) C dX12_init_130 (by decide) ?_
  refine n_bipush (v := 32) C dX12_init_132 (by decide) ?_
  refine n_iastl C m_words (by decide) (by decide) (i := 11) rfl mw_11 dX12_init_134 ?_
  refine n_dup C dX12_init_135 rfl ?_
  refine n_bipush (v := 12) C dX12_init_136 (by decide) ?_
  refine n_bipush (v := 115) C dX12_init_138 (by decide) ?_
  refine n_iastl C m_words (by decide) (by decide) (i := 12) rfl mw_12 dX12_init_140 ?_
  refine n_dup C dX12_init_141 rfl ?_
  refine n_bipush (v := 13) C dX12_init_142 (by decide) ?_
  refine n_bipush (v := 101) C dX12_init_144 (by decide) ?_
  refine n_iastl C m_words (by decide) (by decide) (i := 13) rfl mw_13 dX12_init_146 ?_
  refine n_dup C dX12_init_147 rfl ?_
  refine n_bipush (v := 14) C dX12_init_148 (by decide) ?_
  refine n_bipush (v := 101) C dX12_init_150 (by decide) ?_
  refine n_iastl C m_words (by decide) (by decide) (i := 14) rfl mw_14 dX12_init_152 ?_
  refine n_dup C dX12_init_153 rfl ?_
  refine n_bipush (v := 15) C dX12_init_154 (by decide) ?_
  refine n_bipush (v := 100) C dX12_init_156 (by decide) ?_
  refine n_iastl C m_words (by decide) (by decide) (i := 15) rfl mw_15 dX12_init_158 ?_
  refine n_dup C dX12_init_159 rfl ?_
  refine n_bipush (v := 16) C dX12_init_160 (by decide) ?_
  refine n_bipush (v := 32) C dX12_init_162 (by decide) ?_
  refine n_iastl C m_words (by decide) (by decide) (i := 16) rfl mw_16 dX12_init_164 ?_
  refine n_dup C dX12_init_165 rfl ?_
  refine n_bipush (v := 17) C dX12_init_166 (by decide) ?_
  refine n_bipush (v := 119) C dX12_init_168 (by decide) ?_
  refine n_iastl C m_words (by decide) (by decide) (i := 17) rfl mw_17 dX12_init_170 ?_
  refine n_dup C dX12_init_171 rfl ?_
  refine n_bipush (v := 18) C dX12_init_172 (by decide) ?_
  refine n_bipush (v := 104) C dX12_init_174 (by decide) ?_
  refine n_iastl C m_words (by decide) (by decide) (i := 18) rfl mw_18 dX12_init_176 ?_
  refine n_dup C dX12_init_177 rfl ?_
  refine n_bipush (v := 19) C dX12_init_178 (by decide) ?_
  refine n_bipush (v := 101) C dX12_init_180 (by decide) ?_
  refine n_iastl C m_words (by decide) (by decide) (i := 19) rfl mw_19 dX12_init_182 ?_
  refine n_dup C dX12_init_183 rfl ?_
  refine n_bipush (v := 20) C dX12_init_184 (by decide) ?_
  refine n_bipush (v := 110) C dX12_init_186 (by decide) ?_
  refine n_iastl C m_words (by decide) (by decide) (i := 20) rfl mw_20 dX12_init_188 ?_
  refine n_dup C dX12_init_189 rfl ?_
  refine n_bipush (v := 21) C dX12_init_190 (by decide) ?_
  refine n_bipush (v := 32) C dX12_init_192 (by decide) ?_
  refine n_iastl C m_words (by decide) (by decide) (i := 21) rfl mw_21 dX12_init_194 ?_
  refine n_dup C dX12_init_195 rfl ?_
  refine n_bipush (v := 22) C dX12_init_196 (by decide) ?_
  refine n_bipush (v := 111) C dX12_init_198 (by decide) ?_
  refine n_iastl C m_words (by decide) (by decide) (i := 22) rfl mw_22 dX12_init_200 ?_
  refine n_dup C dX12_init_201 rfl ?_
  refine n_bipush (v := 23) C dX12_init_202 (by decide) ?_
  refine n_bipush (v := 114) C dX12_init_204 (by decide) ?_
  refine n_iastl C m_words (by decide) (by decide) (i := 23) rfl mw_23 dX12_init_206 ?_
  refine n_dup C dX12_init_207 rfl ?_
  refine n_bipush (v := 24) C dX12_init_208 (by decide) ?_
  refine n_bipush (v := 32) C dX12_init_210 (by decide) ?_
  refine n_iastl C m_words (by decide) (by decide) (i := 24) rfl mw_24 dX12_init_212 ?_
  refine n_dup C dX12_init_213 rfl ?_
  refine n_bipush (v := 25) C dX12_init_214 (by decide) ?_
  refine n_bipush (v := 97) C dX12_init_216 (by decide) ?_
  refine n_iastl C m_words (by decide) (by decide) (i := 25) rfl mw_25 dX12_init_218 ?_
  refine n_dup C dX12_init_219 rfl ?_
  refine n_bipush (v := 26) C dX12_init_220 (by decide) ?_
  refine n_bipush (v := 110) C dX12_init_222 (by decide) ?_
  refine n_iastl C m_words (by decide) (by decide) (i := 26) rfl mw_26 dX12_init_224 ?_
  refine n_dup C dX12_init_225 rfl ?_
  refine n_bipush (v := 27) C dX12_init_226 (by decide) ?_
  refine n_bipush (v := 100) C dX12_init_228 (by decide) ?_
  refine n_iastl C m_words (by decide) (by decide) (i := 27) rfl mw_27 dX12_init_230 ?_
  refine n_dup C dX12_init_231 rfl ?_
  refine n_bipush (v := 28) C dX12_init_232 (by decide) ?_
  refine n_bipush (v := 32) C dX12_init_234 (by decide) ?_
  refine n_iastl C m_words (by decide) (by decide) (i := 28) rfl mw_28 dX12_init_236 ?_
  refine n_dup C dX12_init_237 rfl ?_
  refine n_bipush (v := 29) C dX12_init_238 (by decide) ?_
  refine n_bipush (v := 110) C dX12_init_240 (by decide) ?_
  refine n_iastl C m_words (by decide) (by decide) (i := 29) rfl mw_29 dX12_init_242 ?_
  refine n_dup C dX12_init_243 rfl ?_
  refine n_bipush (v := 30) C dX12_init_244 (by decide) ?_
  refine n_bipush (v := 111) C dX12_init_246 (by decide) ?_
  refine n_iastl C m_words (by decide) (by decide) (i := 30) rfl mw_30 dX12_init_248 ?_
  refine n_dup C dX12_init_249 rfl ?_
  refine n_bipush (v := 31) C dX12_init_250 (by decide) ?_
  refine n_bipush (v := 116) C dX12_init_252 (by decide) ?_
  refine n_iastl C m_words (by decide) (by decide) (i := 31) rfl mw_31 dX12_init_254 ?_
  refine n_dup C dX12_init_255 rfl ?_
  refine n_bipush (v := 32) C dX12_init_256 (by decide) ?_
  refine n_bipush (v := 32) C dX12_init_258 (by decide) ?_
  refine n_iastl C m_words (by decide) (by decide) (i := 32) rfl mw_32 dX12_init_260 ?_
  refine n_dup C dX12_init_261 rfl ?_
  refine n_bipush (v := 33) C dX12_init_262 (by decide) ?_
  refine n_bipush (v := 104) C dX12_init_264 (by decide) ?_
  refine n_iastl C m_words (by decide) (by decide) (i := 33) rfl mw_33 dX12_init_266 ?_
  refine n_dup C dX12_init_267 rfl ?_
  refine n_bipush (v := 34) C dX12_init_268 (by decide) ?_
  refine n_bipush (v := 101) C dX12_init_270 (by decide) ?_
  refine n_iastl C m_words (by decide) (by decide) (i := 34) rfl mw_34 dX12_init_272 ?_
  refine n_dup C dX12_init_273 rfl ?_
  refine n_bipush (v := 35) C dX12_init_274 (by decide) ?_
  refine n_bipush (v := 105) C dX12_init_276 (by decide) ?_
  refine n_iastl C m_words (by decide) (by decide) (i := 35) rfl mw_35 dX12_init_278 ?_
  refine n_dup C dX12_init_279 rfl ?_
  refine n_bipush (v := 36) C dX12_init_280 (by decide) ?_
  refine n_bipush (v := 103) C dX12_init_282 (by decide) ?_
  refine n_iastl C m_words (by decide) (by decide) (i := 36) rfl mw_36 dX12_init_284 ?_
  refine n_dup C dX12_init_285 rfl ?_
  refine n_bipush (v := 37) C dX12_init_286 (by decide) ?_
  refine n_bipush (v := 104) C dX12_init_288 (by decide) ?_
  refine n_iastl C m_words (by decide) (by decide) (i := 37) rfl mw_37 dX12_init_290 ?_
  refine n_dup C dX12_init_291 rfl ?_
  refine n_bipush (v := 38) C dX12_init_292 (by decide) ?_
  refine n_bipush (v := 116) C dX12_init_294 (by decide) ?_
  refine n_iastl C m_words (by decide) (by decide) (i := 38) rfl mw_38 dX12_init_296 ?_
  refine n_dup C dX12_init_297 rfl ?_
  refine n_bipush (v := 39) C dX12_init_298 (by decide) ?_
  refine n_bipush (v := 32) C dX12_init_300 (by decide) ?_
  refine n_iastl C m_words (by decide) (by decide) (i := 39) rfl mw_39 dX12_init_302 ?_
  refine n_dup C dX12_init_303 rfl ?_
  refine n_bipush (v := 40) C dX12_init_304 (by decide) ?_
  refine n_bipush (v := 116) C dX12_init_306 (by decide) ?_
  refine n_iastl C m_words (by decide) (by decide) (i := 40) rfl mw_40 dX12_init_308 ?_
  refine n_dup C dX12_init_309 rfl ?_
  refine n_bipush (v := 41) C dX12_init_310 (by decide) ?_
  refine n_bipush (v := 101) C dX12_init_312 (by decide) ?_
  refine n_iastl C m_words (by decide) (by decide) (i := 41) rfl mw_41 dX12_init_314 ?_
  refine n_dup C dX12_init_315 rfl ?_
  refine n_bipush (v := 42) C dX12_init_316 (by decide) ?_
  refine n_bipush (v := 110) C dX12_init_318 (by decide) ?_
  refine n_iastl C m_words (by decide) (by decide) (i := 42) rfl mw_42 dX12_init_320 ?_
  refine n_dup C dX12_init_321 rfl ?_
  refine n_bipush (v := 43) C dX12_init_322 (by decide) ?_
  refine n_bipush (v := 100) C dX12_init_324 (by decide) ?_
  refine n_iastl C m_words (by decide) (by decide) (i := 43) rfl mw_43 dX12_init_326 ?_
  refine n_dup C dX12_init_327 rfl ?_
  refine n_bipush (v := 44) C dX12_init_328 (by decide) ?_
  refine n_bipush (v := 101) C dX12_init_330 (by decide) ?_
  refine n_iastl C m_words (by decide) (by decide) (i := 44) rfl mw_44 dX12_init_332 ?_
  refine n_dup C dX12_init_333 rfl ?_
  refine n_bipush (v := 45) C dX12_init_334 (by decide) ?_
  refine n_bipush (v := 114) C dX12_init_336 (by decide) ?_
  refine n_iastl C m_words (by decide) (by decide) (i := 45) rfl mw_45 dX12_init_338 ?_
  refine n_dup C dX12_init_339 rfl ?_
  refine n_bipush (v := 46) C dX12_init_340 (by decide) ?_
  refine n_bipush (v := 32) C dX12_init_342 (by decide) ?_
  refine n_iastl C m_words (by decide) (by decide) (i := 46) rfl mw_46 dX12_init_344 ?_
  refine n_dup C dX12_init_345 rfl ?_
  refine n_bipush (v := 47) C dX12_init_346 (by decide) ?_
  refine n_bipush (v := 119) C dX12_init_348 (by decide) ?_
  refine n_iastl C m_words (by decide) (by decide) (i := 47) rfl mw_47 dX12_init_350 ?_
  refine n_dup C dX12_init_351 rfl ?_
  refine n_bipush (v := 48) C dX12_init_352 (by decide) ?_
  refine n_bipush (v := 97) C dX12_init_354 (by decide) ?_
  refine n_iastl C m_words (by decide) (by decide) (i := 48) rfl mw_48 dX12_init_356 ?_
  refine n_dup C dX12_init_357 rfl ?_
  refine n_bipush (v := 49) C dX12_init_358 (by decide) ?_
  refine n_bipush (v := 116) C dX12_init_360 (by decide) ?_
  refine n_iastl C m_words (by decide) (by decide) (i := 49) rfl mw_49 dX12_init_362 ?_
  refine n_dup C dX12_init_363 rfl ?_
  refine n_bipush (v := 50) C dX12_init_364 (by decide) ?_
  refine n_bipush (v := 101) C dX12_init_366 (by decide) ?_
  refine n_iastl C m_words (by decide) (by decide) (i := 50) rfl mw_50 dX12_init_368 ?_
  refine n_dup C dX12_init_369 rfl ?_
  refine n_bipush (v := 51) C dX12_init_370 (by decide) ?_
  refine n_bipush (v := 114) C dX12_init_372 (by decide) ?_
  refine n_iastl C m_words (by decide) (by decide) (i := 51) rfl mw_51 dX12_init_374 ?_
  refine n_dup C dX12_init_375 rfl ?_
  refine n_bipush (v := 52) C dX12_init_376 (by decide) ?_
  refine n_bipush (v := 32) C dX12_init_378 (by decide) ?_
  refine n_iastl C m_words (by decide) (by decide) (i := 52) rfl mw_52 dX12_init_380 ?_
  refine n_dup C dX12_init_381 rfl ?_
  refine n_bipush (v := 53) C dX12_init_382 (by decide) ?_
  refine n_bipush (v := 100) C dX12_init_384 (by decide) ?_
  refine n_iastl C m_words (by decide) (by decide) (i := 53) rfl mw_53 dX12_init_386 ?_
  refine n_dup C dX12_init_387 rfl ?_
  refine n_bipush (v := 54) C dX12_init_388 (by decide) ?_
  refine n_bipush (v := 101) C dX12_init_390 (by decide) ?_
  refine n_iastl C m_words (by decide) (by decide) (i := 54) rfl mw_54 dX12_init_392 ?_
  refine n_dup C dX12_init_393 rfl ?_
  refine n_bipush (v := 55) C dX12_init_394 (by decide) ?_
  refine n_bipush (v := 103) C dX12_init_396 (by decide) ?_
  refine n_iastl C m_words (by decide) (by decide) (i := 55) rfl mw_55 dX12_init_398 ?_
  refine n_dup C dX12_init_399 rfl ?_
  refine n_bipush (v := 56) C dX12_init_400 (by decide) ?_
  refine n_bipush (v := 114) C dX12_init_402 (by decide) ?_
  refine n_iastl C m_words (by decide) (by decide) (i := 56) rfl mw_56 dX12_init_404 ?_
  refine n_dup C dX12_init_405 rfl ?_
  refine n_bipush (v := 57) C dX12_init_406 (by decide) ?_
  refine n_bipush (v := 101) C dX12_init_408 (by decide) ?_
  refine n_iastl C m_words (by decide) (by decide) (i := 57) rfl mw_57 dX12_init_410 ?_
  refine n_dup C dX12_init_411 rfl ?_
  refine n_bipush (v := 58) C dX12_init_412 (by decide) ?_
  refine n_bipush (v := 101) C dX12_init_414 (by decide) ?_
  refine n_iastl C m_words (by decide) (by decide) (i := 58) rfl mw_58 dX12_init_416 ?_
  refine n_dup C dX12_init_417 rfl ?_
  refine n_bipush (v := 59) C dX12_init_418 (by decide) ?_
  refine n_bipush (v := 32) C dX12_init_420 (by decide) ?_
  refine n_iastl C m_words (by decide) (by decide) (i := 59) rfl mw_59 dX12_init_422 ?_
  refine n_dup C dX12_init_423 rfl ?_
  refine n_bipush (v := 60) C dX12_init_424 (by decide) ?_
  refine n_bipush (v := 116) C dX12_init_426 (by decide) ?_
  refine n_iastl C m_words (by decide) (by decide) (i := 60) rfl mw_60 dX12_init_428 ?_
  refine n_dup C dX12_init_429 rfl ?_
  refine n_bipush (v := 61) C dX12_init_430 (by decide) ?_
  refine n_bipush (v := 104) C dX12_init_432 (by decide) ?_
  refine n_iastl C m_words (by decide) (by decide) (i := 61) rfl mw_61 dX12_init_434 ?_
  refine n_dup C dX12_init_435 rfl ?_
  refine n_bipush (v := 62) C dX12_init_436 (by decide) ?_
  refine n_bipush (v := 105) C dX12_init_438 (by decide) ?_
  refine n_iastl C m_words (by decide) (by decide) (i := 62) rfl mw_62 dX12_init_440 ?_
  refine n_dup C dX12_init_441 rfl ?_
  refine n_bipush (v := 63) C dX12_init_442 (by decide) ?_
  refine n_bipush (v := 110) C dX12_init_444 (by decide) ?_
  refine n_iastl C m_words (by decide) (by decide) (i := 63) rfl mw_63 dX12_init_446 ?_
  refine n_dup C dX12_init_447 rfl ?_
  refine n_bipush (v := 64) C dX12_init_448 (by decide) ?_
  refine n_bipush (v := 103) C dX12_init_450 (by decide) ?_
  refine n_iastl C m_words (by decide) (by decide) (i := 64) rfl mw_64 dX12_init_452 ?_
  refine n_dup C dX12_init_453 rfl ?_
  refine n_bipush (v := 65) C dX12_init_454 (by decide) ?_
  refine n_bipush (v := 32) C dX12_init_456 (by decide) ?_
  refine n_iastl C m_words (by decide) (by decide) (i := 65) rfl mw_65 dX12_init_458 ?_
  refine n_dup C dX12_init_459 rfl ?_
  refine n_bipush (v := 66) C dX12_init_460 (by decide) ?_
  refine n_bipush (v := 119) C dX12_init_462 (by decide) ?_
  refine n_iastl C m_words (by decide) (by decide) (i := 66) rfl mw_66 dX12_init_464 ?_
  refine n_dup C dX12_init_465 rfl ?_
  refine n_bipush (v := 67) C dX12_init_466 (by decide) ?_
  refine n_bipush (v := 101) C dX12_init_468 (by decide) ?_
  refine n_iastl C m_words (by decide) (by decide) (i := 67) rfl mw_67 dX12_init_470 ?_
  refine n_dup C dX12_init_471 rfl ?_
  refine n_bipush (v := 68) C dX12_init_472 (by decide) ?_
  refine n_bipush (v := 101) C dX12_init_474 (by decide) ?_
  refine n_iastl C m_words (by decide) (by decide) (i := 68) rfl mw_68 dX12_init_476 ?_
  refine n_dup C dX12_init_477 rfl ?_
  refine n_bipush (v := 69) C dX12_init_478 (by decide) ?_
  refine n_bipush (v := 107) C dX12_init_480 (by decide) ?_
  refine n_iastl C m_words (by decide) (by decide) (i := 69) rfl mw_69 dX12_init_482 ?_
  refine n_dup C dX12_init_483 rfl ?_
  refine n_bipush (v := 70) C dX12_init_484 (by decide) ?_
  refine n_bipush (v := 32) C dX12_init_486 (by decide) ?_
  refine n_iastl C m_words (by decide) (by decide) (i := 70) rfl mw_70 dX12_init_488 ?_
  refine n_dup C dX12_init_489 rfl ?_
  refine n_bipush (v := 71) C dX12_init_490 (by decide) ?_
  refine n_bipush (v := 115) C dX12_init_492 (by decide) ?_
  refine n_iastl C m_words (by decide) (by decide) (i := 71) rfl mw_71 dX12_init_494 ?_
  refine n_dup C dX12_init_495 rfl ?_
  refine n_bipush (v := 72) C dX12_init_496 (by decide) ?_
  refine n_bipush (v := 117) C dX12_init_498 (by decide) ?_
  refine n_iastl C m_words (by decide) (by decide) (i := 72) rfl mw_72 dX12_init_500 ?_
  refine n_dup C dX12_init_501 rfl ?_
  refine n_bipush (v := 73) C dX12_init_502 (by decide) ?_
  refine n_bipush (v := 114) C dX12_init_504 (by decide) ?_
  refine n_iastl C m_words (by decide) (by decide) (i := 73) rfl mw_73 dX12_init_506 ?_
  refine n_dup C dX12_init_507 rfl ?_
  refine n_bipush (v := 74) C dX12_init_508 (by decide) ?_
  refine n_bipush (v := 101) C dX12_init_510 (by decide) ?_
  refine n_iastl C m_words (by decide) (by decide) (i := 74) rfl mw_74 dX12_init_512 ?_
  refine n_dup C dX12_init_513 rfl ?_
  refine n_bipush (v := 75) C dX12_init_514 (by decide) ?_
  refine n_bipush (v := 115) C dX12_init_516 (by decide) ?_
  refine n_iastl C m_words (by decide) (by decide) (i := 75) rfl mw_75 dX12_init_518 ?_
  refine n_dup C dX12_init_519 rfl ?_
  refine n_bipush (v := 76) C dX12_init_520 (by decide) ?_
  refine n_bipush (v := 32) C dX12_init_522 (by decide) ?_
  refine n_iastl C m_words (by decide) (by decide) (i := 76) rfl mw_76 dX12_init_524 ?_
  refine n_dup C dX12_init_525 rfl ?_
  refine n_bipush (v := 77) C dX12_init_526 (by decide) ?_
  refine n_bipush (v := 108) C dX12_init_528 (by decide) ?_
  refine n_iastl C m_words (by decide) (by decide) (i := 77) rfl mw_77 dX12_init_530 ?_
  refine n_dup C dX12_init_531 rfl ?_
  refine n_bipush (v := 78) C dX12_init_532 (by decide) ?_
  refine n_bipush (v := 105) C dX12_init_534 (by decide) ?_
  refine n_iastl C m_words (by decide) (by decide) (i := 78) rfl mw_78 dX12_init_536 ?_
  refine n_dup C dX12_init_537 rfl ?_
  refine n_bipush (v := 79) C dX12_init_538 (by decide) ?_
  refine n_bipush (v := 110) C dX12_init_540 (by decide) ?_
  refine n_iastl C m_words (by decide) (by decide) (i := 79) rfl mw_79 dX12_init_542 ?_
  refine n_dup C dX12_init_543 rfl ?_
  refine n_bipush (v := 80) C dX12_init_544 (by decide) ?_
  refine n_bipush (v := 101) C dX12_init_546 (by decide) ?_
  refine n_iastl C m_words (by decide) (by decide) (i := 80) rfl mw_80 dX12_init_548 ?_
  refine n_dup C dX12_init_549 rfl ?_
  refine n_bipush (v := 81) C dX12_init_550 (by decide) ?_
  refine n_bipush (v := 115) C dX12_init_552 (by decide) ?_
  refine n_iastl C m_words (by decide) (by decide) (i := 81) rfl mw_81 dX12_init_554 ?_
  refine n_dup C dX12_init_555 rfl ?_
  refine n_bipush (v := 82) C dX12_init_556 (by decide) ?_
  refine n_bipush (v := 32) C dX12_init_558 (by decide) ?_
  refine n_iastl C m_words (by decide) (by decide) (i := 82) rfl mw_82 dX12_init_560 ?_
  refine n_dup C dX12_init_561 rfl ?_
  refine n_bipush (v := 83) C dX12_init_562 (by decide) ?_
  refine n_bipush (v := 102) C dX12_init_564 (by decide) ?_
  refine n_iastl C m_words (by decide) (by decide) (i := 83) rfl mw_83 dX12_init_566 ?_
  refine n_dup C dX12_init_567 rfl ?_
  refine n_bipush (v := 84) C dX12_init_568 (by decide) ?_
  refine n_bipush (v := 114) C dX12_init_570 (by decide) ?_
  refine n_iastl C m_words (by decide) (by decide) (i := 84) rfl mw_84 dX12_init_572 ?_
  refine n_dup C dX12_init_573 rfl ?_
  refine n_bipush (v := 85) C dX12_init_574 (by decide) ?_
  refine n_bipush (v := 111) C dX12_init_576 (by decide) ?_
  refine n_iastl C m_words (by decide) (by decide) (i := 85) rfl mw_85 dX12_init_578 ?_
  refine n_dup C dX12_init_579 rfl ?_
  refine n_bipush (v := 86) C dX12_init_580 (by decide) ?_
  refine n_bipush (v := 109) C dX12_init_582 (by decide) ?_
  refine n_iastl C m_words (by decide) (by decide) (i := 86) rfl mw_86 dX12_init_584 ?_
  refine n_dup C dX12_init_585 rfl ?_
  refine n_bipush (v := 87) C dX12_init_586 (by decide) ?_
  refine n_bipush (v := 32) C dX12_init_588 (by decide) ?_
  refine n_iastl C m_words (by decide) (by decide) (i := 87) rfl mw_87 dX12_init_590 ?_
  refine n_dup C dX12_init_591 rfl ?_
  refine n_bipush (v := 88) C dX12_init_592 (by decide) ?_
  refine n_bipush (v := 103) C dX12_init_594 (by decide) ?_
  refine n_iastl C m_words (by decide) (by decide) (i := 88) rfl mw_88 dX12_init_596 ?_
  refine n_dup C dX12_init_597 rfl ?_
  refine n_bipush (v := 89) C dX12_init_598 (by decide) ?_
  refine n_bipush (v := 105) C dX12_init_600 (by decide) ?_
  refine n_iastl C m_words (by decide) (by decide) (i := 89) rfl mw_89 dX12_init_602 ?_
  refine n_dup C dX12_init_603 rfl ?_
  refine n_bipush (v := 90) C dX12_init_604 (by decide) ?_
  refine n_bipush (v := 118) C dX12_init_606 (by decide) ?_
  refine n_iastl C m_words (by decide) (by decide) (i := 90) rfl mw_90 dX12_init_608 ?_
  refine n_dup C dX12_init_609 rfl ?_
  refine n_bipush (v := 91) C dX12_init_610 (by decide) ?_
  refine n_bipush (v := 101) C dX12_init_612 (by decide) ?_
  refine n_iastl C m_words (by decide) (by decide) (i := 91) rfl mw_91 dX12_init_614 ?_
  refine n_dup C dX12_init_615 rfl ?_
  refine n_bipush (v := 92) C dX12_init_616 (by decide) ?_
  refine n_bipush (v := 115) C dX12_init_618 (by decide) ?_
  refine n_iastl C m_words (by decide) (by decide) (i := 92) rfl mw_92 dX12_init_620 ?_
  refine n_dup C dX12_init_621 rfl ?_
  refine n_bipush (v := 93) C dX12_init_622 (by decide) ?_
  refine n_bipush (v := 32) C dX12_init_624 (by decide) ?_
  refine n_iastl C m_words (by decide) (by decide) (i := 93) rfl mw_93 dX12_init_626 ?_
  refine n_dup C dX12_init_627 rfl ?_
  refine n_bipush (v := 94) C dX12_init_628 (by decide) ?_
  refine n_bipush (v := 99) C dX12_init_630 (by decide) ?_
  refine n_iastl C m_words (by decide) (by decide) (i := 94) rfl mw_94 dX12_init_632 ?_
  refine n_dup C dX12_init_633 rfl ?_
  refine n_bipush (v := 95) C dX12_init_634 (by decide) ?_
  refine n_bipush (v := 108) C dX12_init_636 (by decide) ?_
  refine n_iastl C m_words (by decide) (by decide) (i := 95) rfl mw_95 dX12_init_638 ?_
  refine n_dup C dX12_init_639 rfl ?_
  refine n_bipush (v := 96) C dX12_init_640 (by decide) ?_
  refine n_bipush (v := 97) C dX12_init_642 (by decide) ?_
  refine n_iastl C m_words (by decide) (by decide) (i := 96) rfl mw_96 dX12_init_644 ?_
  refine n_dup C dX12_init_645 rfl ?_
  refine n_bipush (v := 97) C dX12_init_646 (by decide) ?_
  refine n_bipush (v := 115) C dX12_init_648 (by decide) ?_
  refine n_iastl C m_words (by decide) (by decide) (i := 97) rfl mw_97 dX12_init_650 ?_
  refine n_dup C dX12_init_651 rfl ?_
  refine n_bipush (v := 98) C dX12_init_652 (by decide) ?_
  refine n_bipush (v := 104) C dX12_init_654 (by decide) ?_
  refine n_iastl C m_words (by decide) (by decide) (i := 98) rfl mw_98 dX12_init_656 ?_
  refine n_dup C dX12_init_657 rfl ?_
  refine n_bipush (v := 99) C dX12_init_658 (by decide) ?_
  refine n_bipush (v := 101) C dX12_init_660 (by decide) ?_
  refine n_iastl C m_words (by decide) (by decide) (i := 99) rfl mw_99 dX12_init_662 ?_
  refine n_dup C dX12_init_663 rfl ?_
  refine n_bipush (v := 100) C dX12_init_664 (by decide) ?_
  refine n_bipush (v := 115) C dX12_init_666 (by decide) ?_
  refine n_iastl C m_words (by decide) (by decide) (i := 100) rfl mw_100 dX12_init_668 ?_
  refine n_dup C dX12_init_669 rfl ?_
  refine n_bipush (v := 101) C dX12_init_670 (by decide) ?_
  refine n_bipush (v := 32) C dX12_init_672 (by decide) ?_
  refine n_iastl C m_words (by decide) (by decide) (i := 101) rfl mw_101 dX12_init_674 ?_
  refine n_dup C dX12_init_675 rfl ?_
  refine n_bipush (v := 102) C dX12_init_676 (by decide) ?_
  refine n_bipush (v := 119) C dX12_init_678 (by decide) ?_
  refine n_iastl C m_words (by decide) (by decide) (i := 102) rfl mw_102 dX12_init_680 ?_
  refine n_dup C dX12_init_681 rfl ?_
  refine n_bipush (v := 103) C dX12_init_682 (by decide) ?_
  refine n_bipush (v := 111) C dX12_init_684 (by decide) ?_
  refine n_iastl C m_words (by decide) (by decide) (i := 103) rfl mw_103 dX12_init_686 ?_
  refine n_dup C dX12_init_687 rfl ?_
  refine n_bipush (v := 104) C dX12_init_688 (by decide) ?_
  refine n_bipush (v := 114) C dX12_init_690 (by decide) ?_
  refine n_iastl C m_words (by decide) (by decide) (i := 104) rfl mw_104 dX12_init_692 ?_
  refine n_dup C dX12_init_693 rfl ?_
  refine n_bipush (v := 105) C dX12_init_694 (by decide) ?_
  refine n_bipush (v := 107) C dX12_init_696 (by decide) ?_
  refine n_iastl C m_words (by decide) (by decide) (i := 105) rfl mw_105 dX12_init_698 ?_
  refine n_dup C dX12_init_699 rfl ?_
  refine n_bipush (v := 106) C dX12_init_700 (by decide) ?_
  refine n_bipush (v := 32) C dX12_init_702 (by decide) ?_
  refine n_iastl C m_words (by decide) (by decide) (i := 106) rfl mw_106 dX12_init_704 ?_
  refine n_dup C dX12_init_705 rfl ?_
  refine n_bipush (v := 107) C dX12_init_706 (by decide) ?_
  refine n_bipush (v := 115) C dX12_init_708 (by decide) ?_
  refine n_iastl C m_words (by decide) (by decide) (i := 107) rfl mw_107 dX12_init_710 ?_
  refine n_dup C dX12_init_711 rfl ?_
  refine n_bipush (v := 108) C dX12_init_712 (by decide) ?_
  refine n_bipush (v := 117) C dX12_init_714 (by decide) ?_
  refine n_iastl C m_words (by decide) (by decide) (i := 108) rfl mw_108 dX12_init_716 ?_
  refine n_dup C dX12_init_717 rfl ?_
  refine n_bipush (v := 109) C dX12_init_718 (by decide) ?_
  refine n_bipush (v := 114) C dX12_init_720 (by decide) ?_
  refine n_iastl C m_words (by decide) (by decide) (i := 109) rfl mw_109 dX12_init_722 ?_
  refine n_dup C dX12_init_723 rfl ?_
  refine n_bipush (v := 110) C dX12_init_724 (by decide) ?_
  refine n_bipush (v := 101) C dX12_init_726 (by decide) ?_
  refine n_iastl C m_words (by decide) (by decide) (i := 110) rfl mw_110 dX12_init_728 ?_
  refine n_dup C dX12_init_729 rfl ?_
  refine n_bipush (v := 111) C dX12_init_730 (by decide) ?_
  refine n_bipush (v := 32) C dX12_init_732 (by decide) ?_
  refine n_iastl C m_words (by decide) (by decide) (i := 111) rfl mw_111 dX12_init_734 ?_
  refine n_dup C dX12_init_735 rfl ?_
  refine n_bipush (v := 112) C dX12_init_736 (by decide) ?_
  refine n_bipush (v := 100) C dX12_init_738 (by decide) ?_
  refine n_iastl C m_words (by decide) (by decide) (i := 112) rfl mw_112 dX12_init_740 ?_
  refine n_dup C dX12_init_741 rfl ?_
  refine n_bipush (v := 113) C dX12_init_742 (by decide) ?_
  refine n_bipush (v := 111) C dX12_init_744 (by decide) ?_
  refine n_iastl C m_words (by decide) (by decide) (i := 113) rfl mw_113 dX12_init_746 ?_
  refine n_dup C dX12_init_747 rfl ?_
  refine n_bipush (v := 114) C dX12_init_748 (by decide) ?_
  refine n_bipush (v := 117) C dX12_init_750 (by decide) ?_
  refine n_iastl C m_words (by decide) (by decide) (i := 114) rfl mw_114 dX12_init_752 ?_
  refine n_dup C dX12_init_753 rfl ?_
  refine n_bipush (v := 115) C dX12_init_754 (by decide) ?_
  refine n_bipush (v := 98) C dX12_init_756 (by decide) ?_
  refine n_iastl C m_words (by decide) (by decide) (i := 115) rfl mw_115 dX12_init_758 ?_
  refine n_dup C dX12_init_759 rfl ?_
  refine n_bipush (v := 116) C dX12_init_760 (by decide) ?_
  refine n_bipush (v := 116) C dX12_init_762 (by decide) ?_
  refine n_iastl C m_words (by decide) (by decide) (i := 116) rfl mw_116 dX12_init_764 ?_
  refine n_dup C dX12_init_765 rfl ?_
  refine n_bipush (v := 117) C dX12_init_766 (by decide) ?_
  refine n_bipush (v := 115) C dX12_init_768 (by decide) ?_
  refine n_iastl C m_words (by decide) (by decide) (i := 117) rfl mw_117 dX12_init_770 ?_
  refine n_dup C dX12_init_771 rfl ?_
  refine n_bipush (v := 118) C dX12_init_772 (by decide) ?_
  refine n_bipush (v := 32) C dX12_init_774 (by decide) ?_
  refine n_iastl C m_words (by decide) (by decide) (i := 118) rfl mw_118 dX12_init_776 ?_
  refine n_dup C dX12_init_777 rfl ?_
  refine n_bipush (v := 119) C dX12_init_778 (by decide) ?_
  refine n_bipush (v := 111) C dX12_init_780 (by decide) ?_
  refine n_iastl C m_words (by decide) (by decide) (i := 119) rfl mw_119 dX12_init_782 ?_
  refine n_dup C dX12_init_783 rfl ?_
  refine n_bipush (v := 120) C dX12_init_784 (by decide) ?_
  refine n_bipush (v := 110) C dX12_init_786 (by decide) ?_
  refine n_iastl C m_words (by decide) (by decide) (i := 120) rfl mw_120 dX12_init_788 ?_
  refine n_dup C dX12_init_789 rfl ?_
  refine n_bipush (v := 121) C dX12_init_790 (by decide) ?_
  refine n_bipush (v := 32) C dX12_init_792 (by decide) ?_
  refine n_iastl C m_words (by decide) (by decide) (i := 121) rfl mw_121 dX12_init_794 ?_
  refine n_dup C dX12_init_795 rfl ?_
  refine n_bipush (v := 122) C dX12_init_796 (by decide) ?_
  refine n_bipush (v := 112) C dX12_init_798 (by decide) ?_
  refine n_iastl C m_words (by decide) (by decide) (i := 122) rfl mw_122 dX12_init_800 ?_
  refine n_dup C dX12_init_801 rfl ?_
  refine n_bipush (v := 123) C dX12_init_802 (by decide) ?_
  refine n_bipush (v := 111) C dX12_init_804 (by decide) ?_
  refine n_iastl C m_words (by decide) (by decide) (i := 123) rfl mw_123 dX12_init_806 ?_
  refine n_dup C dX12_init_807 rfl ?_
  refine n_bipush (v := 124) C dX12_init_808 (by decide) ?_
  refine n_bipush (v := 116) C dX12_init_810 (by decide) ?_
  refine n_iastl C m_words (by decide) (by decide) (i := 124) rfl mw_124 dX12_init_812 ?_
  refine n_dup C dX12_init_813 rfl ?_
  refine n_bipush (v := 125) C dX12_init_814 (by decide) ?_
  refine n_bipush (v := 32) C dX12_init_816 (by decide) ?_
  refine n_iastl C m_words (by decide) (by decide) (i := 125) rfl mw_125 dX12_init_818 ?_
  refine n_dup C dX12_init_819 rfl ?_
  refine n_bipush (v := 126) C dX12_init_820 (by decide) ?_
  refine n_bipush (v := 111) C dX12_init_822 (by decide) ?_
  refine n_iastl C m_words (by decide) (by decide) (i := 126) rfl mw_126 dX12_init_824 ?_
  refine n_dup C dX12_init_825 rfl ?_
  refine n_bipush (v := 127) C dX12_init_826 (by decide) ?_
  refine n_bipush (v := 102) C dX12_init_828 (by decide) ?_
  refine n_iastl C m_words (by decide) (by decide) (i := 127) rfl mw_127 dX12_init_830 ?_
  refine n_dup C dX12_init_831 rfl ?_
  refine n_sipush (v := 128) C dX12_init_832 (by decide) ?_
  refine n_bipush (v := 32) C dX12_init_835 (by decide) ?_
  refine n_iastl C m_words (by decide) (by decide) (i := 128) rfl mw_128 dX12_init_837 ?_
  refine n_dup C dX12_init_838 rfl ?_
  refine n_sipush (v := 129) C dX12_init_839 (by decide) ?_
  refine n_bipush (v := 98) C dX12_init_842 (by decide) ?_
  refine n_iastl C m_words (by decide) (by decide) (i := 129) rfl mw_129 dX12_init_844 ?_
  refine n_dup C dX12_init_845 rfl ?_
  refine n_sipush (v := 130) C dX12_init_846 (by decide) ?_
  refine n_bipush (v := 121) C dX12_init_849 (by decide) ?_
  refine n_iastl C m_words (by decide) (by decide) (i := 130) rfl mw_130 dX12_init_851 ?_
  refine n_dup C dX12_init_852 rfl ?_
  refine n_sipush (v := 131) C dX12_init_853 (by decide) ?_
  refine n_bipush (v := 32) C dX12_init_856 (by decide) ?_
  refine n_iastl C m_words (by decide) (by decide) (i := 131) rfl mw_131 dX12_init_858 ?_
  refine n_dup C dX12_init_859 rfl ?_
  refine n_sipush (v := 132) C dX12_init_860 (by decide) ?_
  refine n_bipush (v := 119) C dX12_init_863 (by decide) ?_
  refine n_iastl C m_words (by decide) (by decide) (i := 132) rfl mw_132 dX12_init_865 ?_
  refine n_dup C dX12_init_866 rfl ?_
  refine n_sipush (v := 133) C dX12_init_867 (by decide) ?_
  refine n_bipush (v := 101) C dX12_init_870 (by decide) ?_
  refine n_iastl C m_words (by decide) (by decide) (i := 133) rfl mw_133 dX12_init_872 ?_
  refine n_dup C dX12_init_873 rfl ?_
  refine n_sipush (v := 134) C dX12_init_874 (by decide) ?_
  refine n_bipush (v := 101) C dX12_init_877 (by decide) ?_
  refine n_iastl C m_words (by decide) (by decide) (i := 134) rfl mw_134 dX12_init_879 ?_
  refine n_dup C dX12_init_880 rfl ?_
  refine n_sipush (v := 135) C dX12_init_881 (by decide) ?_
  refine n_bipush (v := 100) C dX12_init_884 (by decide) ?_
  refine n_iastl C m_words (by decide) (by decide) (i := 135) rfl mw_135 dX12_init_886 ?_
  refine n_dup C dX12_init_887 rfl ?_
  refine n_sipush (v := 136) C dX12_init_888 (by decide) ?_
  refine n_bipush (v := 32) C dX12_init_891 (by decide) ?_
  refine n_iastl C m_words (by decide) (by decide) (i := 136) rfl mw_136 dX12_init_893 ?_
  refine n_dup C dX12_init_894 rfl ?_
  refine n_sipush (v := 137) C dX12_init_895 (by decide) ?_
  refine n_bipush (v := 116) C dX12_init_898 (by decide) ?_
  refine n_iastl C m_words (by decide) (by decide) (i := 137) rfl mw_137 dX12_init_900 ?_
  refine n_dup C dX12_init_901 rfl ?_
  refine n_sipush (v := 138) C dX12_init_902 (by decide) ?_
  refine n_bipush (v := 101) C dX12_init_905 (by decide) ?_
  refine n_iastl C m_words (by decide) (by decide) (i := 138) rfl mw_138 dX12_init_907 ?_
  refine n_dup C dX12_init_908 rfl ?_
  refine n_sipush (v := 139) C dX12_init_909 (by decide) ?_
  refine n_bipush (v := 108) C dX12_init_912 (by decide) ?_
  refine n_iastl C m_words (by decide) (by decide) (i := 139) rfl mw_139 dX12_init_914 ?_
  refine n_dup C dX12_init_915 rfl ?_
  refine n_sipush (v := 140) C dX12_init_916 (by decide) ?_
  refine n_bipush (v := 108) C dX12_init_919 (by decide) ?_
  refine n_iastl C m_words (by decide) (by decide) (i := 140) rfl mw_140 dX12_init_921 ?_
  refine n_dup C dX12_init_922 rfl ?_
  refine n_sipush (v := 141) C dX12_init_923 (by decide) ?_
  refine n_bipush (v := 32) C dX12_init_926 (by decide) ?_
  refine n_iastl C m_words (by decide) (by decide) (i := 141) rfl mw_141 dX12_init_928 ?_
  refine n_dup C dX12_init_929 rfl ?_
  refine n_sipush (v := 142) C dX12_init_930 (by decide) ?_
  refine n_bipush (v := 116) C dX12_init_933 (by decide) ?_
  refine n_iastl C m_words (by decide) (by decide) (i := 142) rfl mw_142 dX12_init_935 ?_
  refine n_dup C dX12_init_936 rfl ?_
  refine n_sipush (v := 143) C dX12_init_937 (by decide) ?_
  refine n_bipush (v := 111) C dX12_init_940 (by decide) ?_
  refine n_iastl C m_words (by decide) (by decide) (i := 143) rfl mw_143 dX12_init_942 ?_
  refine n_dup C dX12_init_943 rfl ?_
  refine n_sipush (v := 144) C dX12_init_944 (by decide) ?_
  refine n_bipush (v := 32) C dX12_init_947 (by decide) ?_
  refine n_iastl C m_words (by decide) (by decide) (i := 144) rfl mw_144 dX12_init_949 ?_
  exact kk
