/-! ===== the words of the methods that the law calls ===== -/
set_option maxRecDepth 20000 in
theorem gk_wsJ40 : GoodIn LT wsJ40 := gi_w (goodIn_r _ [563, 565, 567, 569] (by decide +kernel) (by decide +kernel))
set_option maxRecDepth 20000 in
theorem gk_wsX00 : GoodIn LT wsX00 := gi_w (goodIn_r _ [497, 499, 501, 503, 505, 507, 509, 511, 513, 515, 517] (by decide +kernel) (by decide +kernel))
set_option maxRecDepth 20000 in
theorem gk_wsX10 : GoodIn LT wsX10 := gi_w (goodIn_r _ [293, 295, 297, 299, 301, 303, 305, 307, 309, 311, 313, 315, 317, 319, 321] (by decide +kernel) (by decide +kernel))
set_option maxRecDepth 20000 in
theorem gk_wsX100 : GoodIn LT wsX100 := gi_w (goodIn_r _ [403, 405, 407, 409] (by decide +kernel) (by decide +kernel))
set_option maxRecDepth 20000 in
theorem gk_wsX110 : GoodIn LT wsX110 := gi_w (goodIn_r _ [585, 587, 589, 591, 593, 595, 597, 599, 601, 603, 605, 607, 609] (by decide +kernel) (by decide +kernel))
set_option maxRecDepth 20000 in
theorem gk_wsX120 : GoodIn LT wsX120 := gi_w (goodIn_r _ [1674, 1676, 1678, 1680, 1682, 1684, 1686, 1688, 1690, 1692, 1694, 1696, 1698, 1700, 1702, 1704, 1706, 1708, 1710, 1712, 1714, 1716, 1718, 1720, 1722, 1724, 1726, 1728, 1730, 1732, 1734, 1736, 1738, 1740, 1742, 1744, 1746, 1748, 1750, 1752, 1754, 1756, 1758, 1760, 1762, 1764] (by decide +kernel) (by decide +kernel))
set_option maxRecDepth 20000 in
theorem gk_wsX20 : GoodIn LT wsX20 := gi_w (goodIn_r _ [446, 448, 450] (by decide +kernel) (by decide +kernel))
set_option maxRecDepth 20000 in
theorem gk_wsX30 : GoodIn LT wsX30 := gi_w (goodIn_r _ [357, 359, 361, 363, 365, 367, 369, 371, 373, 375] (by decide +kernel) (by decide +kernel))
set_option maxRecDepth 20000 in
theorem gk_wsX40 : GoodIn LT wsX40 := gi_w (goodIn_r _ [425, 427, 429] (by decide +kernel) (by decide +kernel))
set_option maxRecDepth 20000 in
theorem gk_wsX50 : GoodIn LT wsX50 := gi_w (goodIn_r _ [388, 390, 392] (by decide +kernel) (by decide +kernel))
set_option maxRecDepth 20000 in
theorem gk_wsX60 : GoodIn LT wsX60 := gi_w (goodIn_r _ [466, 468, 470, 472] (by decide +kernel) (by decide +kernel))
set_option maxRecDepth 20000 in
theorem gk_wsX70 : GoodIn LT wsX70 := gi_w (goodIn_r _ [153, 155] (by decide +kernel) (by decide +kernel))
set_option maxRecDepth 20000 in
theorem gk_wsX80 : GoodIn LT wsX80 := gi_w (goodIn_r _ [187, 189, 191, 193, 195, 197, 199, 201, 203, 205, 207, 209, 211] (by decide +kernel) (by decide +kernel))
set_option maxRecDepth 20000 in
theorem gk_wsX90 : GoodIn LT wsX90 := gi_w (goodIn_r _ [532, 534, 536, 538] (by decide +kernel) (by decide +kernel))
set_option maxRecDepth 20000 in
theorem gk_zyG : GoodIn LT zyG := gi_w (goodIn_r _ [127, 1513, 1522, 1524, 1527, 1529, 1514, 1515, 140, 141, 1516, 1521, 1525, 1545, 1503, 1546, 1505, 1547, 1507, 1517, 1519, 1509, 1541, 1542, 1544, 1509, 1532, 1533, 1534, 1535, 1535, 1536, 1537, 1538, 1538, 1539, 1540, 1541, 1531, 1492, 1500, 1501, 1502, 1504, 1506, 1508, 1512, 1511, 1510] (by decide +kernel) (by decide +kernel))
set_option maxRecDepth 20000 in
theorem gk_wsX11_init_r1 : GoodIn LT wsX11_init_r1 := (gi_c mw_1 (gi_c mw_2 (gi_c mw_3 (gi_c mw_4 (gi_c mw_5 (gi_c mw_6 (gi_c mw_7 (gi_c mw_8 (gi_c mw_9 (gi_c mw_10 (gi_c mw_11 (gi_c mw_12 (gi_c mw_13 (gi_c mw_14 (gi_c mw_15 (gi_c mw_16 (gi_c mw_17 (gi_c mw_18 (gi_c mw_19 (gi_c mw_20 (gi_c mw_21 (gi_c mw_22 (gi_c mw_23 (gi_c mw_24 gi_n))))))))))))))))))))))))
set_option maxRecDepth 20000 in
theorem gk_wsX11_init_r2 : GoodIn LT wsX11_init_r2 := (gi_c mw_25 (gi_c mw_26 (gi_c mw_27 (gi_c mw_28 (gi_c mw_29 (gi_c mw_30 (gi_c mw_31 (gi_c mw_32 (gi_c mw_33 (gi_c mw_34 (gi_c mw_35 (gi_c mw_36 (gi_c mw_37 (gi_c mw_38 (gi_c mw_39 (gi_c mw_40 (gi_c mw_41 (gi_c mw_42 (gi_c mw_43 (gi_c mw_44 (gi_c mw_45 (gi_c mw_46 (gi_c mw_47 (gi_c mw_48 gi_n))))))))))))))))))))))))
set_option maxRecDepth 20000 in
theorem gk_wsX11_init_r3 : GoodIn LT wsX11_init_r3 := (gi_c mw_49 (gi_c mw_50 (gi_c mw_51 (gi_c mw_52 (gi_c mw_53 (gi_c mw_54 (gi_c mw_55 (gi_c mw_56 (gi_c mw_57 (gi_c mw_58 (gi_c mw_59 (gi_c mw_60 (gi_c mw_61 (gi_c mw_62 (gi_c mw_63 (gi_c mw_64 (gi_c mw_65 (gi_c mw_66 (gi_c mw_67 (gi_c mw_68 (gi_c mw_69 (gi_c mw_70 (gi_c mw_71 (gi_c mw_72 gi_n))))))))))))))))))))))))
set_option maxRecDepth 20000 in
theorem gk_wsX11_init_r4 : GoodIn LT wsX11_init_r4 := (gi_c mw_73 (gi_c mw_74 (gi_c mw_75 (gi_c mw_76 (gi_c mw_77 (gi_c mw_78 (gi_c mw_79 (gi_c mw_80 (gi_c mw_81 (gi_c mw_82 (gi_c mw_83 (gi_c mw_84 (gi_c mw_85 (gi_c mw_86 (gi_c mw_87 (gi_c mw_88 (gi_c mw_89 (gi_c mw_90 (gi_c mw_91 (gi_c mw_92 (gi_c mw_93 (gi_c mw_94 (gi_c mw_95 (gi_c mw_96 gi_n))))))))))))))))))))))))
set_option maxRecDepth 20000 in
theorem gk_wsX11_init_r5 : GoodIn LT wsX11_init_r5 := (gi_c mw_97 (gi_c mw_98 (gi_c mw_99 (gi_c mw_100 (gi_c mw_101 (gi_c mw_102 (gi_c mw_103 (gi_c mw_104 (gi_c mw_105 (gi_c mw_106 (gi_c mw_107 (gi_c mw_108 (gi_c mw_109 (gi_c mw_110 (gi_c mw_111 (gi_c mw_112 (gi_c mw_113 (gi_c mw_114 (gi_c mw_115 (gi_c mw_116 (gi_c mw_117 (gi_c mw_118 (gi_c mw_119 (gi_c mw_120 gi_n))))))))))))))))))))))))
set_option maxRecDepth 20000 in
theorem gk_wsX11_init_r6 : GoodIn LT wsX11_init_r6 := (gi_c mw_121 (gi_c mw_122 (gi_c mw_123 (gi_c mw_124 (gi_c mw_125 (gi_c mw_126 (gi_c mw_127 (gi_c mw_128 (gi_c mw_129 (gi_c mw_130 (gi_c mw_131 (gi_c mw_132 (gi_c mw_133 (gi_c mw_134 (gi_c mw_135 (gi_c mw_136 (gi_c mw_137 (gi_c mw_138 (gi_c mw_139 (gi_c mw_140 (gi_c mw_141 (gi_c mw_142 (gi_c mw_143 (gi_c mw_144 gi_n))))))))))))))))))))))))
set_option maxRecDepth 20000 in
theorem gk_wsX11_init_r7 : GoodIn LT wsX11_init_r7 := (gi_c mw_145 (gi_c mw_146 (gi_c mw_147 (gi_c mw_148 (gi_c mw_149 (gi_c mw_150 (gi_c mw_151 (gi_c mw_152 (gi_c mw_153 (gi_c mw_154 (gi_c mw_155 (gi_c mw_156 (gi_c mw_157 (gi_c mw_158 (gi_c mw_159 (gi_c mw_160 (gi_c mw_161 (gi_c mw_162 (gi_c mw_163 (gi_c mw_164 (gi_c mw_165 (gi_c mw_166 (gi_c mw_167 (gi_c mw_168 gi_n))))))))))))))))))))))))
set_option maxRecDepth 20000 in
theorem gk_wsX11_init_r8 : GoodIn LT wsX11_init_r8 := (gi_c mw_169 (gi_c mw_170 (gi_c mw_171 (gi_c mw_172 (gi_c mw_173 (gi_c mw_174 (gi_c mw_175 (gi_c mw_176 (gi_c mw_177 (gi_c mw_178 (gi_c mw_179 (gi_c mw_180 (gi_c mw_181 (gi_c mw_182 (gi_c mw_183 (gi_c mw_184 (gi_c mw_185 (gi_c mw_186 (gi_c mw_187 (gi_c mw_188 (gi_c mw_189 (gi_c mw_190 (gi_c mw_191 (gi_c mw_192 gi_n))))))))))))))))))))))))
set_option maxRecDepth 20000 in
theorem gk_wsX11_init_r9 : GoodIn LT wsX11_init_r9 := (gi_c mw_193 (gi_c mw_194 (gi_c mw_195 (gi_c mw_196 gi_n))))
set_option maxRecDepth 20000 in
theorem gk_wsX11_init : GoodIn LT wsX11_init := (gi_c mw_0 (goodIn_app (goodIn_app (goodIn_app (goodIn_app (goodIn_app (goodIn_app (goodIn_app (goodIn_app (goodIn_app (goodIn_app (goodIn_app (goodIn_app (goodIn_app (goodIn_app gk_wsX11_init_r1 (goodIn_app gk_wsX11_init_r2 (goodIn_app gk_wsX11_init_r3 (goodIn_app gk_wsX11_init_r4 (goodIn_app gk_wsX11_init_r5 (goodIn_app gk_wsX11_init_r6 (goodIn_app gk_wsX11_init_r7 (goodIn_app gk_wsX11_init_r8 gk_wsX11_init_r9)))))))) gk_wsX70) gk_wsX110) gk_wsX80) gk_wsX100) gk_wsX40) gk_wsX30) gk_wsX20) gk_wsX60) gk_wsX00) gk_wsX90) gk_wsJ40) gk_wsX10) gk_wsX50))
set_option maxRecDepth 20000 in
theorem gk_wsX12_init_r1 : GoodIn LT wsX12_init_r1 := (gi_c mw_198 (gi_c mw_2 (gi_c mw_3 (gi_c mw_51 (gi_c mw_199 (gi_c mw_66 (gi_c mw_200 (gi_c mw_201 (gi_c mw_202 (gi_c mw_70 (gi_c mw_203 (gi_c mw_204 (gi_c mw_205 (gi_c mw_206 (gi_c mw_207 (gi_c mw_208 (gi_c mw_209 (gi_c mw_210 (gi_c mw_211 (gi_c mw_212 (gi_c mw_213 (gi_c mw_214 (gi_c mw_215 (gi_c mw_216 gi_n))))))))))))))))))))))))
set_option maxRecDepth 20000 in
theorem gk_wsX12_init_r2 : GoodIn LT wsX12_init_r2 := (gi_c mw_217 (gi_c mw_218 (gi_c mw_219 (gi_c mw_220 (gi_c mw_221 (gi_c mw_222 (gi_c mw_223 (gi_c mw_224 (gi_c mw_225 (gi_c mw_226 (gi_c mw_227 (gi_c mw_228 (gi_c mw_229 (gi_c mw_230 (gi_c mw_231 (gi_c mw_232 (gi_c mw_233 (gi_c mw_234 (gi_c mw_235 (gi_c mw_236 (gi_c mw_237 (gi_c mw_238 (gi_c mw_239 (gi_c mw_240 gi_n))))))))))))))))))))))))
set_option maxRecDepth 20000 in
theorem gk_wsX12_init_r3 : GoodIn LT wsX12_init_r3 := (gi_c mw_241 (gi_c mw_242 (gi_c mw_243 (gi_c mw_244 (gi_c mw_245 (gi_c mw_246 (gi_c mw_247 (gi_c mw_248 gi_n))))))))
set_option maxRecDepth 20000 in
theorem gk_wsX12_init : GoodIn LT wsX12_init := (gi_c mw_197 (goodIn_app (goodIn_app gk_wsX12_init_r1 (goodIn_app gk_wsX12_init_r2 gk_wsX12_init_r3)) gk_wsX120))
set_option maxRecDepth 20000 in
theorem gk_wsX11_feed : GoodIn LT wsX11_feed := (gi_c mw_249 (goodIn_app (goodIn_app (gi_c mw_7 (gi_c mw_250 (gi_c mw_251 (gi_c mw_252 (gi_c mw_253 (gi_c mw_6 (gi_c mw_254 (gi_c mw_53 (gi_c mw_52 gi_n))))))))) gk_wsX110) gk_wsX70))
set_option maxRecDepth 20000 in
theorem gk_wsX12_feed : GoodIn LT wsX12_feed := (gi_c mw_255 (goodIn_app (gi_c mw_256 (gi_c mw_257 (gi_c mw_258 (gi_c mw_259 (gi_c mw_260 (gi_c mw_247 (gi_c mw_261 (gi_c mw_199 gi_n)))))))) gk_wsX120))
set_option maxRecDepth 20000 in
theorem gk_wsX11_end : GoodIn LT wsX11_end := (gi_c mw_262 (goodIn_app (goodIn_app (gi_c mw_7 (gi_c mw_250 gi_n)) gk_wsX110) gk_wsX70))
set_option maxRecDepth 20000 in
theorem gk_wsX12_end : GoodIn LT wsX12_end := (gi_c mw_263 (goodIn_app (gi_c mw_256 (gi_c mw_257 gi_n)) gk_wsX120))
set_option maxRecDepth 20000 in
theorem gk_wsX11_burgh_r1 : GoodIn LT wsX11_burgh_r1 := (gi_c mw_29 (gi_c mw_46 (gi_c mw_11 (gi_c mw_265 (gi_c mw_15 (gi_c mw_20 (gi_c mw_266 (gi_c mw_267 (gi_c mw_268 (gi_c mw_21 (gi_c mw_269 (gi_c mw_270 (gi_c mw_271 (gi_c mw_28 (gi_c mw_272 (gi_c mw_144 (gi_c mw_145 (gi_c mw_146 (gi_c mw_273 (gi_c mw_274 (gi_c mw_275 (gi_c mw_78 (gi_c mw_276 (gi_c mw_90 gi_n))))))))))))))))))))))))
set_option maxRecDepth 20000 in
theorem gk_wsX11_burgh_r2 : GoodIn LT wsX11_burgh_r2 := (gi_c mw_91 (gi_c mw_92 (gi_c mw_93 (gi_c mw_277 (gi_c mw_278 (gi_c mw_279 (gi_c mw_10 (gi_c mw_280 (gi_c mw_72 (gi_c mw_281 (gi_c mw_282 (gi_c mw_283 (gi_c mw_284 (gi_c mw_285 (gi_c mw_64 (gi_c mw_286 (gi_c mw_287 (gi_c mw_288 (gi_c mw_62 (gi_c mw_63 (gi_c mw_65 (gi_c mw_289 (gi_c mw_290 (gi_c mw_291 gi_n))))))))))))))))))))))))
set_option maxRecDepth 20000 in
theorem gk_wsX11_burgh_r3 : GoodIn LT wsX11_burgh_r3 := (gi_c mw_292 (gi_c mw_293 (gi_c mw_294 (gi_c mw_295 (gi_c mw_6 (gi_c mw_296 (gi_c mw_53 (gi_c mw_52 (gi_c mw_297 (gi_c mw_298 (gi_c mw_299 (gi_c mw_300 (gi_c mw_301 (gi_c mw_302 (gi_c mw_303 (gi_c mw_304 (gi_c mw_305 (gi_c mw_306 (gi_c mw_307 (gi_c mw_308 (gi_c mw_309 (gi_c mw_310 (gi_c mw_311 (gi_c mw_312 gi_n))))))))))))))))))))))))
set_option maxRecDepth 20000 in
theorem gk_wsX11_burgh_r4 : GoodIn LT wsX11_burgh_r4 := (gi_c mw_313 (gi_c mw_314 (gi_c mw_315 (gi_c mw_316 (gi_c mw_317 (gi_c mw_318 (gi_c mw_319 (gi_c mw_320 (gi_c mw_321 (gi_c mw_322 (gi_c mw_323 (gi_c mw_324 (gi_c mw_325 (gi_c mw_326 (gi_c mw_327 (gi_c mw_328 (gi_c mw_329 (gi_c mw_330 (gi_c mw_331 (gi_c mw_332 (gi_c mw_333 (gi_c mw_334 (gi_c mw_335 (gi_c mw_336 gi_n))))))))))))))))))))))))
set_option maxRecDepth 20000 in
theorem gk_wsX11_burgh_r5 : GoodIn LT wsX11_burgh_r5 := (gi_c mw_337 (gi_c mw_338 (gi_c mw_339 (gi_c mw_340 (gi_c mw_341 (gi_c mw_342 (gi_c mw_343 (gi_c mw_191 (gi_c mw_344 (gi_c mw_345 (gi_c mw_346 (gi_c mw_347 (gi_c mw_348 (gi_c mw_349 (gi_c mw_350 (gi_c mw_351 (gi_c mw_352 (gi_c mw_353 (gi_c mw_354 (gi_c mw_355 (gi_c mw_356 (gi_c mw_357 (gi_c mw_358 (gi_c mw_359 gi_n))))))))))))))))))))))))
set_option maxRecDepth 20000 in
theorem gk_wsX11_burgh_r6 : GoodIn LT wsX11_burgh_r6 := (gi_c mw_360 (gi_c mw_361 (gi_c mw_67 (gi_c mw_68 (gi_c mw_69 (gi_c mw_71 (gi_c mw_362 (gi_c mw_363 (gi_c mw_364 (gi_c mw_365 (gi_c mw_366 (gi_c mw_367 (gi_c mw_368 (gi_c mw_58 (gi_c mw_59 (gi_c mw_60 (gi_c mw_61 (gi_c mw_369 (gi_c mw_370 (gi_c mw_371 (gi_c mw_372 (gi_c mw_373 (gi_c mw_374 (gi_c mw_375 gi_n))))))))))))))))))))))))
set_option maxRecDepth 20000 in
theorem gk_wsX11_burgh_r7 : GoodIn LT wsX11_burgh_r7 := (gi_c mw_376 (gi_c mw_377 (gi_c mw_378 (gi_c mw_379 (gi_c mw_380 (gi_c mw_381 (gi_c mw_382 (gi_c mw_383 (gi_c mw_384 (gi_c mw_385 (gi_c mw_386 (gi_c mw_387 (gi_c mw_388 (gi_c mw_389 (gi_c mw_390 (gi_c mw_391 (gi_c mw_392 (gi_c mw_393 (gi_c mw_394 (gi_c mw_395 (gi_c mw_396 (gi_c mw_397 (gi_c mw_398 (gi_c mw_399 gi_n))))))))))))))))))))))))
set_option maxRecDepth 20000 in
theorem gk_wsX11_burgh_r8 : GoodIn LT wsX11_burgh_r8 := (gi_c mw_400 (gi_c mw_401 (gi_c mw_402 (gi_c mw_403 (gi_c mw_404 (gi_c mw_405 (gi_c mw_94 (gi_c mw_98 (gi_c mw_103 (gi_c mw_406 (gi_c mw_407 (gi_c mw_408 (gi_c mw_409 (gi_c mw_410 (gi_c mw_411 (gi_c mw_412 (gi_c mw_413 (gi_c mw_414 (gi_c mw_415 (gi_c mw_416 (gi_c mw_417 (gi_c mw_418 (gi_c mw_419 (gi_c mw_420 gi_n))))))))))))))))))))))))
set_option maxRecDepth 20000 in
theorem gk_wsX11_burgh_r9 : GoodIn LT wsX11_burgh_r9 := (gi_c mw_421 (gi_c mw_422 (gi_c mw_423 (gi_c mw_424 (gi_c mw_425 (gi_c mw_426 (gi_c mw_427 (gi_c mw_428 (gi_c mw_429 (gi_c mw_430 (gi_c mw_431 (gi_c mw_432 (gi_c mw_433 (gi_c mw_434 (gi_c mw_435 (gi_c mw_436 (gi_c mw_437 (gi_c mw_438 (gi_c mw_439 (gi_c mw_440 (gi_c mw_441 (gi_c mw_442 (gi_c mw_443 (gi_c mw_444 gi_n))))))))))))))))))))))))
set_option maxRecDepth 20000 in
theorem gk_wsX11_burgh_r10 : GoodIn LT wsX11_burgh_r10 := (gi_c mw_445 (gi_c mw_446 (gi_c mw_447 (gi_c mw_448 (gi_c mw_102 (gi_c mw_449 (gi_c mw_450 (gi_c mw_451 (gi_c mw_452 (gi_c mw_453 (gi_c mw_454 (gi_c mw_455 (gi_c mw_456 (gi_c mw_457 (gi_c mw_458 (gi_c mw_459 (gi_c mw_460 (gi_c mw_461 (gi_c mw_462 (gi_c mw_463 (gi_c mw_464 (gi_c mw_465 (gi_c mw_466 (gi_c mw_467 gi_n))))))))))))))))))))))))
set_option maxRecDepth 20000 in
theorem gk_wsX11_burgh_r11 : GoodIn LT wsX11_burgh_r11 := (gi_c mw_468 (gi_c mw_469 (gi_c mw_7 (gi_c mw_250 (gi_c mw_470 (gi_c mw_471 (gi_c mw_472 (gi_c mw_473 (gi_c mw_474 (gi_c mw_475 (gi_c mw_476 (gi_c mw_477 (gi_c mw_95 (gi_c mw_96 (gi_c mw_97 (gi_c mw_99 (gi_c mw_100 (gi_c mw_101 (gi_c mw_104 (gi_c mw_478 (gi_c mw_479 (gi_c mw_480 (gi_c mw_24 (gi_c mw_481 gi_n))))))))))))))))))))))))
set_option maxRecDepth 20000 in
theorem gk_wsX11_burgh_r12 : GoodIn LT wsX11_burgh_r12 := (gi_c mw_109 (gi_c mw_110 (gi_c mw_111 (gi_c mw_118 (gi_c mw_482 (gi_c mw_112 (gi_c mw_483 (gi_c mw_113 (gi_c mw_114 (gi_c mw_484 (gi_c mw_115 (gi_c mw_116 (gi_c mw_117 (gi_c mw_119 (gi_c mw_120 (gi_c mw_121 (gi_c mw_122 (gi_c mw_485 (gi_c mw_486 (gi_c mw_487 (gi_c mw_84 (gi_c mw_488 (gi_c mw_126 (gi_c mw_489 gi_n))))))))))))))))))))))))
set_option maxRecDepth 20000 in
theorem gk_wsX11_burgh_r13 : GoodIn LT wsX11_burgh_r13 := (gi_c mw_490 (gi_c mw_491 (gi_c mw_19 (gi_c mw_492 (gi_c mw_136 gi_n)))))
set_option maxRecDepth 20000 in
theorem gk_wsX11_burgh : GoodIn LT wsX11_burgh := (gi_c mw_264 (goodIn_app (goodIn_app (goodIn_app (goodIn_app (goodIn_app (goodIn_app (goodIn_app (goodIn_app (goodIn_app (goodIn_app gk_wsX11_burgh_r1 (goodIn_app gk_wsX11_burgh_r2 (goodIn_app gk_wsX11_burgh_r3 (goodIn_app gk_wsX11_burgh_r4 (goodIn_app gk_wsX11_burgh_r5 (goodIn_app gk_wsX11_burgh_r6 (goodIn_app gk_wsX11_burgh_r7 (goodIn_app gk_wsX11_burgh_r8 (goodIn_app gk_wsX11_burgh_r9 (goodIn_app gk_wsX11_burgh_r10 (goodIn_app gk_wsX11_burgh_r11 (goodIn_app gk_wsX11_burgh_r12 gk_wsX11_burgh_r13)))))))))))) gk_wsX110) gk_wsX80) gk_wsX100) gk_wsX20) gk_wsX10) gk_wsX70) gk_wsX30) gk_wsX50) gk_wsX40))
set_option maxRecDepth 20000 in
theorem gk_wsX12_burgh_r1 : GoodIn LT wsX12_burgh_r1 := (gi_c mw_256 (gi_c mw_494 (gi_c mw_495 (gi_c mw_496 (gi_c mw_497 (gi_c mw_498 (gi_c mw_200 (gi_c mw_201 (gi_c mw_203 (gi_c mw_499 (gi_c mw_500 (gi_c mw_501 (gi_c mw_502 (gi_c mw_247 (gi_c mw_503 (gi_c mw_257 (gi_c mw_504 (gi_c mw_505 (gi_c mw_506 (gi_c mw_244 (gi_c mw_245 (gi_c mw_246 (gi_c mw_248 (gi_c mw_507 gi_n))))))))))))))))))))))))
set_option maxRecDepth 20000 in
theorem gk_wsX12_burgh_r2 : GoodIn LT wsX12_burgh_r2 := (gi_c mw_508 (gi_c mw_509 (gi_c mw_510 (gi_c mw_511 (gi_c mw_512 (gi_c mw_513 (gi_c mw_514 (gi_c mw_515 (gi_c mw_516 (gi_c mw_517 (gi_c mw_518 (gi_c mw_199 (gi_c mw_519 (gi_c mw_520 (gi_c mw_521 (gi_c mw_522 (gi_c mw_523 (gi_c mw_524 (gi_c mw_525 (gi_c mw_526 (gi_c mw_527 (gi_c mw_528 (gi_c mw_218 (gi_c mw_223 gi_n))))))))))))))))))))))))
set_option maxRecDepth 20000 in
theorem gk_wsX12_burgh_r3 : GoodIn LT wsX12_burgh_r3 := (gi_c mw_224 (gi_c mw_225 (gi_c mw_226 (gi_c mw_529 (gi_c mw_530 (gi_c mw_531 (gi_c mw_532 (gi_c mw_533 (gi_c mw_534 (gi_c mw_535 (gi_c mw_536 (gi_c mw_220 (gi_c mw_219 (gi_c mw_537 (gi_c mw_222 (gi_c mw_221 (gi_c mw_538 (gi_c mw_539 (gi_c mw_540 (gi_c mw_541 (gi_c mw_542 (gi_c mw_543 (gi_c mw_544 (gi_c mw_545 gi_n))))))))))))))))))))))))
set_option maxRecDepth 20000 in
theorem gk_wsX12_burgh_r4 : GoodIn LT wsX12_burgh_r4 := (gi_c mw_546 (gi_c mw_547 (gi_c mw_548 (gi_c mw_549 (gi_c mw_204 (gi_c mw_550 (gi_c mw_551 (gi_c mw_552 (gi_c mw_553 (gi_c mw_554 (gi_c mw_555 (gi_c mw_556 (gi_c mw_557 (gi_c mw_558 (gi_c mw_559 (gi_c mw_560 (gi_c mw_561 (gi_c mw_562 (gi_c mw_563 (gi_c mw_564 (gi_c mw_565 (gi_c mw_566 (gi_c mw_567 (gi_c mw_568 gi_n))))))))))))))))))))))))
set_option maxRecDepth 20000 in
theorem gk_wsX12_burgh_r5 : GoodIn LT wsX12_burgh_r5 := (gi_c mw_569 (gi_c mw_570 (gi_c mw_571 (gi_c mw_572 (gi_c mw_573 (gi_c mw_574 (gi_c mw_575 (gi_c mw_576 (gi_c mw_577 (gi_c mw_578 (gi_c mw_579 (gi_c mw_580 (gi_c mw_581 (gi_c mw_582 (gi_c mw_583 (gi_c mw_584 (gi_c mw_585 (gi_c mw_586 (gi_c mw_587 (gi_c mw_588 (gi_c mw_589 (gi_c mw_590 (gi_c mw_591 (gi_c mw_592 gi_n))))))))))))))))))))))))
set_option maxRecDepth 20000 in
theorem gk_wsX12_burgh_r6 : GoodIn LT wsX12_burgh_r6 := (gi_c mw_593 (gi_c mw_594 (gi_c mw_595 gi_n)))
set_option maxRecDepth 20000 in
theorem gk_wsX12_burgh : GoodIn LT wsX12_burgh := (gi_c mw_493 (goodIn_app (goodIn_app gk_wsX12_burgh_r1 (goodIn_app gk_wsX12_burgh_r2 (goodIn_app gk_wsX12_burgh_r3 (goodIn_app gk_wsX12_burgh_r4 (goodIn_app gk_wsX12_burgh_r5 gk_wsX12_burgh_r6))))) gk_wsX120))
set_option maxRecDepth 20000 in
theorem gk_wsX11_fault : GoodIn LT wsX11_fault := (gi_c mw_596 (goodIn_app (gi_c mw_46 gi_n) gk_wsX110))
set_option maxRecDepth 20000 in
theorem gk_wsX12_fault : GoodIn LT wsX12_fault := (gi_c mw_597 (goodIn_app (gi_c mw_256 (gi_c mw_494 gi_n)) gk_wsX120))
set_option maxRecDepth 20000 in
theorem gk_wsX11_clock_r1 : GoodIn LT wsX11_clock_r1 := (gi_c mw_15 (gi_c mw_20 (gi_c mw_599 (gi_c mw_600 (gi_c mw_267 (gi_c mw_601 (gi_c mw_602 (gi_c mw_603 (gi_c mw_604 (gi_c mw_450 (gi_c mw_605 (gi_c mw_606 (gi_c mw_607 (gi_c mw_608 (gi_c mw_609 (gi_c mw_24 (gi_c mw_610 (gi_c mw_111 (gi_c mw_611 (gi_c mw_612 (gi_c mw_613 (gi_c mw_614 (gi_c mw_615 (gi_c mw_616 gi_n))))))))))))))))))))))))
set_option maxRecDepth 20000 in
theorem gk_wsX11_clock_r2 : GoodIn LT wsX11_clock_r2 := (gi_c mw_617 (gi_c mw_618 (gi_c mw_114 (gi_c mw_112 (gi_c mw_118 (gi_c mw_619 (gi_c mw_113 (gi_c mw_620 (gi_c mw_621 (gi_c mw_622 (gi_c mw_284 (gi_c mw_623 (gi_c mw_624 (gi_c mw_625 (gi_c mw_626 (gi_c mw_78 (gi_c mw_627 (gi_c mw_91 (gi_c mw_101 gi_n)))))))))))))))))))
set_option maxRecDepth 20000 in
theorem gk_wsX11_clock : GoodIn LT wsX11_clock := (gi_c mw_598 (goodIn_app (goodIn_app (goodIn_app (goodIn_app (goodIn_app gk_wsX11_clock_r1 gk_wsX11_clock_r2) gk_wsX110) gk_wsX100) gk_wsX10) gk_wsX30))
set_option maxRecDepth 20000 in
theorem gk_wsX12_clock_r1 : GoodIn LT wsX12_clock_r1 := (gi_c mw_256 (gi_c mw_200 (gi_c mw_629 (gi_c mw_630 (gi_c mw_631 (gi_c mw_247 (gi_c mw_632 (gi_c mw_562 (gi_c mw_563 (gi_c mw_564 (gi_c mw_633 (gi_c mw_634 (gi_c mw_635 (gi_c mw_636 (gi_c mw_585 (gi_c mw_586 (gi_c mw_587 (gi_c mw_637 (gi_c mw_638 (gi_c mw_639 (gi_c mw_640 (gi_c mw_641 (gi_c mw_642 (gi_c mw_643 gi_n))))))))))))))))))))))))
set_option maxRecDepth 20000 in
theorem gk_wsX12_clock_r2 : GoodIn LT wsX12_clock_r2 := (gi_c mw_644 gi_n)
set_option maxRecDepth 20000 in
theorem gk_wsX12_clock : GoodIn LT wsX12_clock := (gi_c mw_628 (goodIn_app (goodIn_app gk_wsX12_clock_r1 gk_wsX12_clock_r2) gk_wsX120))
set_option maxRecDepth 20000 in
theorem gk_wsL_wrong_r1 : GoodIn LT wsL_wrong_r1 := (gi_c mw_646 (gi_c mw_647 (gi_c mw_648 (gi_c mw_649 (gi_c mw_450 (gi_c mw_650 (gi_c mw_651 (gi_c mw_652 (gi_c mw_15 (gi_c mw_267 (gi_c mw_602 (gi_c mw_603 (gi_c mw_604 (gi_c mw_605 (gi_c mw_20 (gi_c mw_606 (gi_c mw_653 (gi_c mw_654 (gi_c mw_655 (gi_c mw_24 (gi_c mw_656 (gi_c mw_109 (gi_c mw_615 (gi_c mw_616 gi_n))))))))))))))))))))))))
set_option maxRecDepth 20000 in
theorem gk_wsL_wrong_r2 : GoodIn LT wsL_wrong_r2 := (gi_c mw_617 (gi_c mw_618 (gi_c mw_114 (gi_c mw_112 (gi_c mw_118 (gi_c mw_619 (gi_c mw_113 (gi_c mw_620 (gi_c mw_608 (gi_c mw_609 (gi_c mw_610 (gi_c mw_111 gi_n))))))))))))
set_option maxRecDepth 20000 in
theorem gk_wsL_wrongB : GoodIn LT wsL_wrongB := (gi_c mw_645 (goodIn_app (goodIn_app (goodIn_app (goodIn_app (goodIn_app (goodIn_app gk_wsL_wrong_r1 gk_wsL_wrong_r2) gk_wsX110) gk_wsX100) gk_wsX10) gk_wsX30) gk_zyG))
set_option maxRecDepth 20000 in
theorem gk_wsX12_wrong_r1 : GoodIn LT wsX12_wrong_r1 := (gi_c mw_629 (gi_c mw_630 (gi_c mw_631 (gi_c mw_247 (gi_c mw_632 (gi_c mw_200 (gi_c mw_562 (gi_c mw_563 (gi_c mw_564 (gi_c mw_658 (gi_c mw_659 (gi_c mw_660 (gi_c mw_661 (gi_c mw_256 (gi_c mw_662 (gi_c mw_663 (gi_c mw_664 (gi_c mw_665 (gi_c mw_641 (gi_c mw_642 (gi_c mw_643 (gi_c mw_644 (gi_c mw_633 (gi_c mw_634 gi_n))))))))))))))))))))))))
set_option maxRecDepth 20000 in
theorem gk_wsX12_wrong_r2 : GoodIn LT wsX12_wrong_r2 := (gi_c mw_635 (gi_c mw_636 (gi_c mw_585 (gi_c mw_586 (gi_c mw_587 gi_n)))))
set_option maxRecDepth 20000 in
theorem gk_wsX12_wrong : GoodIn LT wsX12_wrong := (gi_c mw_657 (goodIn_app (goodIn_app gk_wsX12_wrong_r1 gk_wsX12_wrong_r2) gk_wsX120))
set_option maxRecDepth 20000 in
theorem gk_wsX12_thrown : GoodIn LT wsX12_thrown := (gi_c mw_666 (goodIn_app (gi_c mw_256 gi_n) gk_wsX120))
set_option maxRecDepth 20000 in
theorem gk_wsL_master_r1 : GoodIn LT wsL_master_r1 := (gi_c mw_646 (gi_c mw_668 (gi_c mw_669 (gi_c mw_670 (gi_c mw_450 (gi_c mw_671 (gi_c mw_651 (gi_c mw_652 (gi_c mw_15 (gi_c mw_20 (gi_c mw_672 (gi_c mw_673 (gi_c mw_674 (gi_c mw_267 (gi_c mw_675 (gi_c mw_676 (gi_c mw_677 (gi_c mw_678 (gi_c mw_679 (gi_c mw_680 (gi_c mw_681 (gi_c mw_682 (gi_c mw_683 (gi_c mw_684 gi_n))))))))))))))))))))))))
set_option maxRecDepth 20000 in
theorem gk_wsL_master_r2 : GoodIn LT wsL_master_r2 := (gi_c mw_685 (gi_c mw_24 (gi_c mw_686 (gi_c mw_110 (gi_c mw_687 (gi_c mw_688 (gi_c mw_689 (gi_c mw_690 (gi_c mw_118 (gi_c mw_691 (gi_c mw_692 (gi_c mw_693 gi_n))))))))))))
set_option maxRecDepth 20000 in
theorem gk_wsL_masterB : GoodIn LT wsL_masterB := (gi_c mw_667 (goodIn_app (goodIn_app (goodIn_app (goodIn_app (goodIn_app (goodIn_app gk_wsL_master_r1 gk_wsL_master_r2) gk_wsX110) gk_wsX100) gk_wsX10) gk_wsX30) gk_zyG))
set_option maxRecDepth 20000 in
theorem gk_wsX12_master_r1 : GoodIn LT wsX12_master_r1 := (gi_c mw_200 (gi_c mw_695 (gi_c mw_696 (gi_c mw_697 (gi_c mw_247 (gi_c mw_698 (gi_c mw_562 (gi_c mw_563 (gi_c mw_564 (gi_c mw_658 (gi_c mw_659 (gi_c mw_660 (gi_c mw_661 (gi_c mw_256 (gi_c mw_699 (gi_c mw_700 (gi_c mw_701 (gi_c mw_702 (gi_c mw_585 (gi_c mw_586 (gi_c mw_587 (gi_c mw_703 (gi_c mw_704 (gi_c mw_705 gi_n))))))))))))))))))))))))
set_option maxRecDepth 20000 in
theorem gk_wsX12_master_r2 : GoodIn LT wsX12_master_r2 := (gi_c mw_706 (gi_c mw_707 (gi_c mw_708 (gi_c mw_709 (gi_c mw_710 (gi_c mw_711 (gi_c mw_712 (gi_c mw_713 (gi_c mw_714 gi_n)))))))))
set_option maxRecDepth 20000 in
theorem gk_wsX12_master : GoodIn LT wsX12_master := (gi_c mw_694 (goodIn_app (goodIn_app gk_wsX12_master_r1 gk_wsX12_master_r2) gk_wsX120))
set_option maxRecDepth 20000 in
theorem gk_wsX11_meet_r1 : GoodIn LT wsX11_meet_r1 := (gi_c mw_15 (gi_c mw_267 (gi_c mw_716 (gi_c mw_20 (gi_c mw_676 (gi_c mw_677 (gi_c mw_717 (gi_c mw_718 (gi_c mw_719 (gi_c mw_450 (gi_c mw_720 (gi_c mw_721 (gi_c mw_722 (gi_c mw_723 (gi_c mw_724 (gi_c mw_78 (gi_c mw_725 (gi_c mw_91 (gi_c mw_726 (gi_c mw_446 (gi_c mw_447 (gi_c mw_448 (gi_c mw_102 (gi_c mw_449 gi_n))))))))))))))))))))))))
set_option maxRecDepth 20000 in
theorem gk_wsX11_meet_r2 : GoodIn LT wsX11_meet_r2 := (gi_c mw_451 (gi_c mw_727 (gi_c mw_728 (gi_c mw_729 (gi_c mw_24 (gi_c mw_730 (gi_c mw_118 (gi_c mw_731 (gi_c mw_692 (gi_c mw_693 gi_n))))))))))
set_option maxRecDepth 20000 in
theorem gk_wsX11_meet : GoodIn LT wsX11_meet := (gi_c mw_715 (goodIn_app (goodIn_app (goodIn_app (goodIn_app (goodIn_app gk_wsX11_meet_r1 gk_wsX11_meet_r2) gk_wsX110) gk_wsX100) gk_wsX30) gk_wsX10))
set_option maxRecDepth 20000 in
theorem gk_wsX12_meet : GoodIn LT wsX12_meet := (gi_c mw_732 (goodIn_app (gi_c mw_256 (gi_c mw_200 (gi_c mw_733 (gi_c mw_734 (gi_c mw_735 (gi_c mw_247 (gi_c mw_736 (gi_c mw_562 (gi_c mw_563 (gi_c mw_564 (gi_c mw_737 (gi_c mw_738 (gi_c mw_739 (gi_c mw_740 gi_n)))))))))))))) gk_wsX120))
set_option maxRecDepth 20000 in
theorem gk_wsX11_now_r1 : GoodIn LT wsX11_now_r1 := (gi_c mw_15 (gi_c mw_267 (gi_c mw_601 (gi_c mw_742 (gi_c mw_743 (gi_c mw_744 (gi_c mw_745 (gi_c mw_746 (gi_c mw_24 (gi_c mw_747 (gi_c mw_118 (gi_c mw_748 (gi_c mw_749 (gi_c mw_654 (gi_c mw_655 (gi_c mw_656 (gi_c mw_109 (gi_c mw_615 (gi_c mw_616 (gi_c mw_617 (gi_c mw_618 (gi_c mw_114 (gi_c mw_112 (gi_c mw_619 gi_n))))))))))))))))))))))))
set_option maxRecDepth 20000 in
theorem gk_wsX11_now_r2 : GoodIn LT wsX11_now_r2 := (gi_c mw_113 (gi_c mw_620 (gi_c mw_608 (gi_c mw_609 (gi_c mw_610 (gi_c mw_111 (gi_c mw_750 (gi_c mw_751 (gi_c mw_752 (gi_c mw_753 (gi_c mw_691 (gi_c mw_117 (gi_c mw_754 (gi_c mw_728 (gi_c mw_729 (gi_c mw_730 (gi_c mw_731 (gi_c mw_692 (gi_c mw_450 (gi_c mw_693 (gi_c mw_755 (gi_c mw_756 (gi_c mw_757 (gi_c mw_758 gi_n))))))))))))))))))))))))
set_option maxRecDepth 20000 in
theorem gk_wsX11_now_r3 : GoodIn LT wsX11_now_r3 := (gi_c mw_759 (gi_c mw_760 (gi_c mw_761 (gi_c mw_762 (gi_c mw_763 (gi_c mw_764 (gi_c mw_765 (gi_c mw_766 (gi_c mw_767 (gi_c mw_768 (gi_c mw_769 (gi_c mw_115 (gi_c mw_770 (gi_c mw_287 (gi_c mw_284 (gi_c mw_288 gi_n))))))))))))))))
set_option maxRecDepth 20000 in
theorem gk_wsX11_now : GoodIn LT wsX11_now := (gi_c mw_741 (goodIn_app (goodIn_app (goodIn_app (goodIn_app (goodIn_app gk_wsX11_now_r1 (goodIn_app gk_wsX11_now_r2 gk_wsX11_now_r3)) gk_wsX110) gk_wsX100) gk_wsX30) gk_wsX10))
set_option maxRecDepth 20000 in
theorem gk_wsX12_now : GoodIn LT wsX12_now := (gi_c mw_771 (goodIn_app (gi_c mw_256 (gi_c mw_200 (gi_c mw_662 (gi_c mw_663 (gi_c mw_664 (gi_c mw_247 (gi_c mw_665 (gi_c mw_641 (gi_c mw_642 (gi_c mw_643 (gi_c mw_644 (gi_c mw_633 (gi_c mw_634 (gi_c mw_635 (gi_c mw_636 (gi_c mw_585 (gi_c mw_586 (gi_c mw_587 gi_n)))))))))))))))))) gk_wsX120))
set_option maxRecDepth 20000 in
theorem gk_wsX11_set_r1 : GoodIn LT wsX11_set_r1 := (gi_c mw_15 (gi_c mw_267 (gi_c mw_21 (gi_c mw_678 (gi_c mw_679 (gi_c mw_680 (gi_c mw_450 (gi_c mw_681 (gi_c mw_20 (gi_c mw_682 (gi_c mw_602 (gi_c mw_603 (gi_c mw_604 (gi_c mw_605 (gi_c mw_606 (gi_c mw_773 (gi_c mw_774 (gi_c mw_775 (gi_c mw_24 (gi_c mw_776 (gi_c mw_777 (gi_c mw_684 (gi_c mw_685 (gi_c mw_686 gi_n))))))))))))))))))))))))
set_option maxRecDepth 20000 in
theorem gk_wsX11_set_r2 : GoodIn LT wsX11_set_r2 := (gi_c mw_110 (gi_c mw_620 (gi_c mw_608 (gi_c mw_609 (gi_c mw_610 (gi_c mw_111 (gi_c mw_778 (gi_c mw_779 (gi_c mw_780 (gi_c mw_19 (gi_c mw_781 (gi_c mw_134 (gi_c mw_135 (gi_c mw_136 (gi_c mw_782 (gi_c mw_283 (gi_c mw_284 (gi_c mw_285 (gi_c mw_783 (gi_c mw_784 (gi_c mw_785 (gi_c mw_786 (gi_c mw_109 (gi_c mw_112 gi_n))))))))))))))))))))))))
set_option maxRecDepth 20000 in
theorem gk_wsX11_set_r3 : GoodIn LT wsX11_set_r3 := (gi_c mw_483 (gi_c mw_475 (gi_c mw_476 (gi_c mw_477 (gi_c mw_113 (gi_c mw_114 (gi_c mw_115 (gi_c mw_116 (gi_c mw_117 (gi_c mw_787 (gi_c mw_788 (gi_c mw_789 (gi_c mw_790 (gi_c mw_118 (gi_c mw_791 gi_n)))))))))))))))
set_option maxRecDepth 20000 in
theorem gk_wsX11_set : GoodIn LT wsX11_set := (gi_c mw_772 (goodIn_app (goodIn_app (goodIn_app (goodIn_app (goodIn_app (goodIn_app gk_wsX11_set_r1 (goodIn_app gk_wsX11_set_r2 gk_wsX11_set_r3)) gk_wsX110) gk_wsX100) gk_wsX10) gk_wsX30) gk_wsX40))
set_option maxRecDepth 20000 in
theorem gk_wsX12_set_r1 : GoodIn LT wsX12_set_r1 := (gi_c mw_256 (gi_c mw_200 (gi_c mw_695 (gi_c mw_696 (gi_c mw_697 (gi_c mw_247 (gi_c mw_698 (gi_c mw_562 (gi_c mw_563 (gi_c mw_564 (gi_c mw_629 (gi_c mw_630 (gi_c mw_631 (gi_c mw_632 (gi_c mw_793 (gi_c mw_794 (gi_c mw_795 (gi_c mw_796 (gi_c mw_699 (gi_c mw_700 (gi_c mw_701 (gi_c mw_702 (gi_c mw_585 (gi_c mw_586 gi_n))))))))))))))))))))))))
set_option maxRecDepth 20000 in
theorem gk_wsX12_set_r2 : GoodIn LT wsX12_set_r2 := (gi_c mw_587 (gi_c mw_633 (gi_c mw_634 (gi_c mw_635 (gi_c mw_636 (gi_c mw_797 (gi_c mw_798 (gi_c mw_799 (gi_c mw_800 (gi_c mw_499 (gi_c mw_205 (gi_c mw_801 (gi_c mw_802 (gi_c mw_803 (gi_c mw_804 gi_n)))))))))))))))
set_option maxRecDepth 20000 in
theorem gk_wsX12_set : GoodIn LT wsX12_set := (gi_c mw_792 (goodIn_app (goodIn_app gk_wsX12_set_r1 gk_wsX12_set_r2) gk_wsX120))
set_option maxRecDepth 20000 in
theorem gk_wsX11_stop_r1 : GoodIn LT wsX11_stop_r1 := (gi_c mw_15 (gi_c mw_267 (gi_c mw_21 (gi_c mw_602 (gi_c mw_603 (gi_c mw_604 (gi_c mw_450 (gi_c mw_605 (gi_c mw_20 (gi_c mw_606 (gi_c mw_806 (gi_c mw_807 (gi_c mw_808 (gi_c mw_24 (gi_c mw_809 (gi_c mw_620 (gi_c mw_608 (gi_c mw_609 (gi_c mw_610 (gi_c mw_111 (gi_c mw_778 (gi_c mw_779 (gi_c mw_780 (gi_c mw_19 gi_n))))))))))))))))))))))))
set_option maxRecDepth 20000 in
theorem gk_wsX11_stop_r2 : GoodIn LT wsX11_stop_r2 := (gi_c mw_781 (gi_c mw_134 (gi_c mw_135 (gi_c mw_136 (gi_c mw_782 (gi_c mw_283 (gi_c mw_284 (gi_c mw_285 (gi_c mw_783 (gi_c mw_784 (gi_c mw_785 (gi_c mw_786 (gi_c mw_109 (gi_c mw_110 (gi_c mw_112 (gi_c mw_483 (gi_c mw_475 (gi_c mw_476 (gi_c mw_477 (gi_c mw_113 (gi_c mw_114 (gi_c mw_115 (gi_c mw_116 (gi_c mw_117 gi_n))))))))))))))))))))))))
set_option maxRecDepth 20000 in
theorem gk_wsX11_stop_r3 : GoodIn LT wsX11_stop_r3 := (gi_c mw_810 (gi_c mw_811 (gi_c mw_812 (gi_c mw_813 (gi_c mw_615 (gi_c mw_616 (gi_c mw_617 (gi_c mw_618 (gi_c mw_118 (gi_c mw_619 gi_n))))))))))
set_option maxRecDepth 20000 in
theorem gk_wsX11_stop : GoodIn LT wsX11_stop := (gi_c mw_805 (goodIn_app (goodIn_app (goodIn_app (goodIn_app (goodIn_app (goodIn_app gk_wsX11_stop_r1 (goodIn_app gk_wsX11_stop_r2 gk_wsX11_stop_r3)) gk_wsX110) gk_wsX100) gk_wsX10) gk_wsX30) gk_wsX40))
set_option maxRecDepth 20000 in
theorem gk_wsX12_stop_r1 : GoodIn LT wsX12_stop_r1 := (gi_c mw_256 (gi_c mw_629 (gi_c mw_630 (gi_c mw_631 (gi_c mw_247 (gi_c mw_632 (gi_c mw_200 (gi_c mw_562 (gi_c mw_563 (gi_c mw_564 (gi_c mw_633 (gi_c mw_634 (gi_c mw_635 (gi_c mw_636 (gi_c mw_585 (gi_c mw_586 (gi_c mw_587 (gi_c mw_797 (gi_c mw_798 (gi_c mw_799 (gi_c mw_800 (gi_c mw_499 (gi_c mw_205 (gi_c mw_815 gi_n))))))))))))))))))))))))
set_option maxRecDepth 20000 in
theorem gk_wsX12_stop_r2 : GoodIn LT wsX12_stop_r2 := (gi_c mw_816 (gi_c mw_817 (gi_c mw_818 (gi_c mw_641 (gi_c mw_642 (gi_c mw_643 (gi_c mw_644 gi_n)))))))
set_option maxRecDepth 20000 in
theorem gk_wsX12_stop : GoodIn LT wsX12_stop := (gi_c mw_814 (goodIn_app (goodIn_app gk_wsX12_stop_r1 gk_wsX12_stop_r2) gk_wsX120))
set_option maxRecDepth 20000 in
theorem gk_wsX11_start_r1 : GoodIn LT wsX11_start_r1 := (gi_c mw_15 (gi_c mw_267 (gi_c mw_21 (gi_c mw_602 (gi_c mw_603 (gi_c mw_604 (gi_c mw_450 (gi_c mw_605 (gi_c mw_20 (gi_c mw_606 (gi_c mw_820 (gi_c mw_821 (gi_c mw_822 (gi_c mw_24 (gi_c mw_823 (gi_c mw_620 (gi_c mw_608 (gi_c mw_609 (gi_c mw_610 (gi_c mw_111 (gi_c mw_778 (gi_c mw_779 (gi_c mw_780 (gi_c mw_19 gi_n))))))))))))))))))))))))
set_option maxRecDepth 20000 in
theorem gk_wsX11_start_r2 : GoodIn LT wsX11_start_r2 := (gi_c mw_781 (gi_c mw_134 (gi_c mw_135 (gi_c mw_136 (gi_c mw_782 (gi_c mw_283 (gi_c mw_284 (gi_c mw_285 (gi_c mw_783 (gi_c mw_784 (gi_c mw_785 (gi_c mw_786 (gi_c mw_109 (gi_c mw_110 (gi_c mw_112 (gi_c mw_483 (gi_c mw_475 (gi_c mw_476 (gi_c mw_477 (gi_c mw_113 (gi_c mw_114 (gi_c mw_115 (gi_c mw_116 (gi_c mw_117 gi_n))))))))))))))))))))))))
set_option maxRecDepth 20000 in
theorem gk_wsX11_start_r3 : GoodIn LT wsX11_start_r3 := (gi_c mw_824 (gi_c mw_825 (gi_c mw_826 (gi_c mw_827 (gi_c mw_749 (gi_c mw_654 (gi_c mw_655 (gi_c mw_656 (gi_c mw_615 (gi_c mw_616 (gi_c mw_617 (gi_c mw_618 (gi_c mw_118 (gi_c mw_619 gi_n))))))))))))))
set_option maxRecDepth 20000 in
theorem gk_wsX11_start : GoodIn LT wsX11_start := (gi_c mw_819 (goodIn_app (goodIn_app (goodIn_app (goodIn_app (goodIn_app (goodIn_app gk_wsX11_start_r1 (goodIn_app gk_wsX11_start_r2 gk_wsX11_start_r3)) gk_wsX110) gk_wsX100) gk_wsX10) gk_wsX30) gk_wsX40))
set_option maxRecDepth 20000 in
theorem gk_wsX12_start_r1 : GoodIn LT wsX12_start_r1 := (gi_c mw_256 (gi_c mw_629 (gi_c mw_630 (gi_c mw_631 (gi_c mw_247 (gi_c mw_632 (gi_c mw_200 (gi_c mw_562 (gi_c mw_563 (gi_c mw_564 (gi_c mw_633 (gi_c mw_634 (gi_c mw_635 (gi_c mw_636 (gi_c mw_585 (gi_c mw_586 (gi_c mw_587 (gi_c mw_797 (gi_c mw_798 (gi_c mw_799 (gi_c mw_800 (gi_c mw_499 (gi_c mw_205 (gi_c mw_662 gi_n))))))))))))))))))))))))
set_option maxRecDepth 20000 in
theorem gk_wsX12_start_r2 : GoodIn LT wsX12_start_r2 := (gi_c mw_663 (gi_c mw_664 (gi_c mw_665 (gi_c mw_641 (gi_c mw_642 (gi_c mw_643 (gi_c mw_644 (gi_c mw_801 (gi_c mw_802 (gi_c mw_803 (gi_c mw_804 gi_n)))))))))))
set_option maxRecDepth 20000 in
theorem gk_wsX12_start : GoodIn LT wsX12_start := (gi_c mw_828 (goodIn_app (goodIn_app gk_wsX12_start_r1 gk_wsX12_start_r2) gk_wsX120))
set_option maxRecDepth 20000 in
theorem gk_wsX11_move_r1 : GoodIn LT wsX11_move_r1 := (gi_c mw_15 (gi_c mw_267 (gi_c mw_21 (gi_c mw_716 (gi_c mw_717 (gi_c mw_718 (gi_c mw_719 (gi_c mw_450 (gi_c mw_720 (gi_c mw_20 (gi_c mw_721 (gi_c mw_830 (gi_c mw_831 (gi_c mw_832 (gi_c mw_24 (gi_c mw_833 (gi_c mw_116 (gi_c mw_109 (gi_c mw_754 (gi_c mw_728 (gi_c mw_729 (gi_c mw_730 (gi_c mw_118 (gi_c mw_731 gi_n))))))))))))))))))))))))
set_option maxRecDepth 20000 in
theorem gk_wsX11_move_r2 : GoodIn LT wsX11_move_r2 := (gi_c mw_692 (gi_c mw_693 (gi_c mw_778 (gi_c mw_779 (gi_c mw_780 (gi_c mw_19 (gi_c mw_781 (gi_c mw_134 (gi_c mw_135 (gi_c mw_136 (gi_c mw_782 (gi_c mw_283 (gi_c mw_284 (gi_c mw_285 (gi_c mw_783 (gi_c mw_784 (gi_c mw_785 (gi_c mw_786 (gi_c mw_110 (gi_c mw_111 (gi_c mw_112 (gi_c mw_483 (gi_c mw_475 (gi_c mw_476 gi_n))))))))))))))))))))))))
set_option maxRecDepth 20000 in
theorem gk_wsX11_move_r3 : GoodIn LT wsX11_move_r3 := (gi_c mw_477 (gi_c mw_113 (gi_c mw_114 (gi_c mw_115 (gi_c mw_117 gi_n)))))
set_option maxRecDepth 20000 in
theorem gk_wsX11_move : GoodIn LT wsX11_move := (gi_c mw_829 (goodIn_app (goodIn_app (goodIn_app (goodIn_app (goodIn_app (goodIn_app gk_wsX11_move_r1 (goodIn_app gk_wsX11_move_r2 gk_wsX11_move_r3)) gk_wsX110) gk_wsX100) gk_wsX30) gk_wsX10) gk_wsX40))
set_option maxRecDepth 20000 in
theorem gk_wsX12_move : GoodIn LT wsX12_move := (gi_c mw_834 (goodIn_app (gi_c mw_256 (gi_c mw_200 (gi_c mw_733 (gi_c mw_734 (gi_c mw_735 (gi_c mw_247 (gi_c mw_736 (gi_c mw_562 (gi_c mw_563 (gi_c mw_564 (gi_c mw_835 (gi_c mw_836 (gi_c mw_837 (gi_c mw_838 (gi_c mw_737 (gi_c mw_738 (gi_c mw_739 (gi_c mw_740 (gi_c mw_797 (gi_c mw_798 (gi_c mw_799 (gi_c mw_800 (gi_c mw_499 (gi_c mw_205 gi_n)))))))))))))))))))))))) gk_wsX120))
set_option maxRecDepth 20000 in
theorem gk_wsX11_minutes_r1 : GoodIn LT wsX11_minutes_r1 := (gi_c mw_15 (gi_c mw_267 (gi_c mw_21 (gi_c mw_840 (gi_c mw_841 (gi_c mw_842 (gi_c mw_24 (gi_c mw_843 (gi_c mw_109 (gi_c mw_778 (gi_c mw_779 (gi_c mw_780 (gi_c mw_19 (gi_c mw_781 (gi_c mw_134 (gi_c mw_135 (gi_c mw_136 (gi_c mw_782 (gi_c mw_283 (gi_c mw_284 (gi_c mw_285 (gi_c mw_783 (gi_c mw_784 (gi_c mw_785 gi_n))))))))))))))))))))))))
set_option maxRecDepth 20000 in
theorem gk_wsX11_minutes_r2 : GoodIn LT wsX11_minutes_r2 := (gi_c mw_786 (gi_c mw_110 (gi_c mw_111 (gi_c mw_112 (gi_c mw_483 (gi_c mw_475 (gi_c mw_476 (gi_c mw_477 (gi_c mw_113 (gi_c mw_114 (gi_c mw_115 (gi_c mw_116 (gi_c mw_117 (gi_c mw_844 (gi_c mw_845 (gi_c mw_846 (gi_c mw_847 (gi_c mw_848 (gi_c mw_770 (gi_c mw_287 (gi_c mw_288 (gi_c mw_849 (gi_c mw_850 (gi_c mw_851 gi_n))))))))))))))))))))))))
set_option maxRecDepth 20000 in
theorem gk_wsX11_minutes_r3 : GoodIn LT wsX11_minutes_r3 := (gi_c mw_852 (gi_c mw_853 (gi_c mw_118 (gi_c mw_731 (gi_c mw_691 (gi_c mw_854 (gi_c mw_446 (gi_c mw_447 (gi_c mw_78 (gi_c mw_448 (gi_c mw_102 (gi_c mw_449 (gi_c mw_450 (gi_c mw_451 (gi_c mw_855 (gi_c mw_856 (gi_c mw_857 (gi_c mw_858 (gi_c mw_859 (gi_c mw_860 (gi_c mw_791 (gi_c mw_692 (gi_c mw_693 (gi_c mw_777 gi_n))))))))))))))))))))))))
set_option maxRecDepth 20000 in
theorem gk_wsX11_minutes_r4 : GoodIn LT wsX11_minutes_r4 := (gi_c mw_684 (gi_c mw_685 (gi_c mw_686 (gi_c mw_615 (gi_c mw_616 (gi_c mw_617 (gi_c mw_618 (gi_c mw_619 (gi_c mw_620 (gi_c mw_608 (gi_c mw_609 (gi_c mw_610 (gi_c mw_861 (gi_c mw_862 (gi_c mw_863 (gi_c mw_864 (gi_c mw_865 (gi_c mw_866 (gi_c mw_867 (gi_c mw_868 gi_n))))))))))))))))))))
set_option maxRecDepth 20000 in
theorem gk_wsX11_minutes : GoodIn LT wsX11_minutes := (gi_c mw_839 (goodIn_app (goodIn_app (goodIn_app (goodIn_app (goodIn_app (goodIn_app gk_wsX11_minutes_r1 (goodIn_app gk_wsX11_minutes_r2 (goodIn_app gk_wsX11_minutes_r3 gk_wsX11_minutes_r4))) gk_wsX110) gk_wsX100) gk_wsX30) gk_wsX40) gk_wsX10))
set_option maxRecDepth 20000 in
theorem gk_wsX12_minutes_r1 : GoodIn LT wsX12_minutes_r1 := (gi_c mw_256 (gi_c mw_200 (gi_c mw_562 (gi_c mw_563 (gi_c mw_247 (gi_c mw_564 (gi_c mw_797 (gi_c mw_798 (gi_c mw_799 (gi_c mw_800 (gi_c mw_499 (gi_c mw_205 (gi_c mw_870 (gi_c mw_871 (gi_c mw_872 (gi_c mw_873 (gi_c mw_874 (gi_c mw_875 (gi_c mw_876 (gi_c mw_877 (gi_c mw_707 (gi_c mw_708 (gi_c mw_709 (gi_c mw_710 gi_n))))))))))))))))))))))))
set_option maxRecDepth 20000 in
theorem gk_wsX12_minutes_r2 : GoodIn LT wsX12_minutes_r2 := (gi_c mw_585 (gi_c mw_586 (gi_c mw_587 (gi_c mw_878 (gi_c mw_879 (gi_c mw_880 (gi_c mw_881 (gi_c mw_699 (gi_c mw_700 (gi_c mw_701 (gi_c mw_702 (gi_c mw_641 (gi_c mw_642 (gi_c mw_643 (gi_c mw_644 (gi_c mw_633 (gi_c mw_634 (gi_c mw_635 (gi_c mw_636 (gi_c mw_882 (gi_c mw_883 (gi_c mw_884 gi_n))))))))))))))))))))))
set_option maxRecDepth 20000 in
theorem gk_wsX12_minutes : GoodIn LT wsX12_minutes := (gi_c mw_869 (goodIn_app (goodIn_app gk_wsX12_minutes_r1 gk_wsX12_minutes_r2) gk_wsX120))
set_option maxRecDepth 20000 in
theorem gk_wsX11_undo_r1 : GoodIn LT wsX11_undo_r1 := (gi_c mw_21 (gi_c mw_15 (gi_c mw_267 (gi_c mw_886 (gi_c mw_887 (gi_c mw_888 (gi_c mw_19 (gi_c mw_889 (gi_c mw_136 (gi_c mw_135 (gi_c mw_134 (gi_c mw_783 (gi_c mw_784 (gi_c mw_785 (gi_c mw_24 (gi_c mw_786 (gi_c mw_109 (gi_c mw_110 (gi_c mw_111 (gi_c mw_112 (gi_c mw_483 (gi_c mw_475 (gi_c mw_476 (gi_c mw_477 gi_n))))))))))))))))))))))))
set_option maxRecDepth 20000 in
theorem gk_wsX11_undo_r2 : GoodIn LT wsX11_undo_r2 := (gi_c mw_113 (gi_c mw_114 (gi_c mw_115 (gi_c mw_116 (gi_c mw_117 gi_n)))))
set_option maxRecDepth 20000 in
theorem gk_wsX11_undo : GoodIn LT wsX11_undo := (gi_c mw_885 (goodIn_app (goodIn_app (goodIn_app (goodIn_app (goodIn_app gk_wsX11_undo_r1 gk_wsX11_undo_r2) gk_wsX110) gk_wsX100) gk_wsX40) gk_wsX30))
set_option maxRecDepth 20000 in
theorem gk_wsX12_undo : GoodIn LT wsX12_undo := (gi_c mw_890 (goodIn_app (gi_c mw_256 (gi_c mw_499 (gi_c mw_200 (gi_c mw_205 gi_n)))) gk_wsX120))
set_option maxRecDepth 20000 in
theorem gk_wsX11_comes_r1 : GoodIn LT wsX11_comes_r1 := (gi_c mw_25 (gi_c mw_677 (gi_c mw_678 (gi_c mw_679 (gi_c mw_680 (gi_c mw_450 (gi_c mw_681 (gi_c mw_15 (gi_c mw_20 (gi_c mw_682 (gi_c mw_717 (gi_c mw_718 (gi_c mw_719 (gi_c mw_720 (gi_c mw_721 (gi_c mw_892 (gi_c mw_893 (gi_c mw_894 (gi_c mw_895 (gi_c mw_267 (gi_c mw_896 (gi_c mw_784 (gi_c mw_785 (gi_c mw_24 gi_n))))))))))))))))))))))))
set_option maxRecDepth 20000 in
theorem gk_wsX11_comes_r2 : GoodIn LT wsX11_comes_r2 := (gi_c mw_786 (gi_c mw_109 (gi_c mw_110 (gi_c mw_111 (gi_c mw_112 (gi_c mw_483 (gi_c mw_475 (gi_c mw_476 (gi_c mw_477 (gi_c mw_113 (gi_c mw_114 (gi_c mw_115 (gi_c mw_116 (gi_c mw_117 (gi_c mw_844 (gi_c mw_845 (gi_c mw_846 (gi_c mw_847 (gi_c mw_848 (gi_c mw_283 (gi_c mw_284 (gi_c mw_285 (gi_c mw_770 (gi_c mw_287 gi_n))))))))))))))))))))))))
set_option maxRecDepth 20000 in
theorem gk_wsX11_comes_r3 : GoodIn LT wsX11_comes_r3 := (gi_c mw_288 (gi_c mw_849 (gi_c mw_841 (gi_c mw_842 (gi_c mw_843 (gi_c mw_850 (gi_c mw_851 (gi_c mw_852 (gi_c mw_853 (gi_c mw_118 (gi_c mw_731 (gi_c mw_691 (gi_c mw_854 (gi_c mw_446 (gi_c mw_447 (gi_c mw_78 (gi_c mw_448 (gi_c mw_102 (gi_c mw_449 (gi_c mw_451 (gi_c mw_855 (gi_c mw_856 (gi_c mw_857 (gi_c mw_858 gi_n))))))))))))))))))))))))
set_option maxRecDepth 20000 in
theorem gk_wsX11_comes_r4 : GoodIn LT wsX11_comes_r4 := (gi_c mw_859 (gi_c mw_860 (gi_c mw_791 (gi_c mw_692 (gi_c mw_693 (gi_c mw_777 (gi_c mw_684 (gi_c mw_685 (gi_c mw_686 (gi_c mw_615 (gi_c mw_616 (gi_c mw_617 (gi_c mw_618 (gi_c mw_619 (gi_c mw_620 (gi_c mw_608 (gi_c mw_609 (gi_c mw_610 (gi_c mw_861 (gi_c mw_862 (gi_c mw_863 (gi_c mw_864 (gi_c mw_865 (gi_c mw_866 gi_n))))))))))))))))))))))))
set_option maxRecDepth 20000 in
theorem gk_wsX11_comes_r5 : GoodIn LT wsX11_comes_r5 := (gi_c mw_867 (gi_c mw_868 (gi_c mw_897 gi_n)))
set_option maxRecDepth 20000 in
theorem gk_wsX11_comes : GoodIn LT wsX11_comes := (gi_c mw_891 (goodIn_app (goodIn_app (goodIn_app (goodIn_app (goodIn_app gk_wsX11_comes_r1 (goodIn_app gk_wsX11_comes_r2 (goodIn_app gk_wsX11_comes_r3 (goodIn_app gk_wsX11_comes_r4 gk_wsX11_comes_r5)))) gk_wsX110) gk_wsX30) gk_wsX100) gk_wsX10))
set_option maxRecDepth 20000 in
theorem gk_wsX12_comes_r1 : GoodIn LT wsX12_comes_r1 := (gi_c mw_256 (gi_c mw_207 (gi_c mw_695 (gi_c mw_696 (gi_c mw_697 (gi_c mw_247 (gi_c mw_698 (gi_c mw_200 (gi_c mw_562 (gi_c mw_563 (gi_c mw_564 (gi_c mw_733 (gi_c mw_734 (gi_c mw_735 (gi_c mw_736 (gi_c mw_899 (gi_c mw_900 (gi_c mw_901 (gi_c mw_902 (gi_c mw_903 (gi_c mw_904 (gi_c mw_905 (gi_c mw_906 (gi_c mw_206 gi_n))))))))))))))))))))))))
set_option maxRecDepth 20000 in
theorem gk_wsX12_comes_r2 : GoodIn LT wsX12_comes_r2 := (gi_c mw_870 (gi_c mw_871 (gi_c mw_872 (gi_c mw_873 (gi_c mw_874 (gi_c mw_875 (gi_c mw_876 (gi_c mw_877 (gi_c mw_707 (gi_c mw_708 (gi_c mw_709 (gi_c mw_710 (gi_c mw_585 (gi_c mw_586 (gi_c mw_587 (gi_c mw_878 (gi_c mw_879 (gi_c mw_880 (gi_c mw_881 (gi_c mw_699 (gi_c mw_700 (gi_c mw_701 (gi_c mw_702 (gi_c mw_641 gi_n))))))))))))))))))))))))
set_option maxRecDepth 20000 in
theorem gk_wsX12_comes_r3 : GoodIn LT wsX12_comes_r3 := (gi_c mw_642 (gi_c mw_643 (gi_c mw_644 (gi_c mw_633 (gi_c mw_634 (gi_c mw_635 (gi_c mw_636 (gi_c mw_882 (gi_c mw_883 (gi_c mw_884 (gi_c mw_907 (gi_c mw_908 (gi_c mw_909 (gi_c mw_910 gi_n))))))))))))))
set_option maxRecDepth 20000 in
theorem gk_wsX12_comes : GoodIn LT wsX12_comes := (gi_c mw_898 (goodIn_app (goodIn_app gk_wsX12_comes_r1 (goodIn_app gk_wsX12_comes_r2 gk_wsX12_comes_r3)) gk_wsX120))
set_option maxRecDepth 20000 in
theorem gk_wsX11_all_r1 : GoodIn LT wsX11_all_r1 := (gi_c mw_25 (gi_c mw_717 (gi_c mw_718 (gi_c mw_719 (gi_c mw_450 (gi_c mw_720 (gi_c mw_15 (gi_c mw_20 (gi_c mw_721 (gi_c mw_892 (gi_c mw_893 (gi_c mw_894 (gi_c mw_895 (gi_c mw_267 (gi_c mw_896 (gi_c mw_784 (gi_c mw_785 (gi_c mw_24 (gi_c mw_786 (gi_c mw_109 (gi_c mw_110 (gi_c mw_111 (gi_c mw_112 (gi_c mw_483 gi_n))))))))))))))))))))))))
set_option maxRecDepth 20000 in
theorem gk_wsX11_all_r2 : GoodIn LT wsX11_all_r2 := (gi_c mw_475 (gi_c mw_476 (gi_c mw_477 (gi_c mw_113 (gi_c mw_114 (gi_c mw_115 (gi_c mw_116 (gi_c mw_117 (gi_c mw_844 (gi_c mw_845 (gi_c mw_846 (gi_c mw_847 (gi_c mw_848 (gi_c mw_283 (gi_c mw_284 (gi_c mw_285 (gi_c mw_770 (gi_c mw_287 (gi_c mw_288 (gi_c mw_849 (gi_c mw_841 (gi_c mw_842 (gi_c mw_843 (gi_c mw_850 gi_n))))))))))))))))))))))))
set_option maxRecDepth 20000 in
theorem gk_wsX11_all_r3 : GoodIn LT wsX11_all_r3 := (gi_c mw_851 (gi_c mw_852 (gi_c mw_853 (gi_c mw_118 (gi_c mw_731 (gi_c mw_691 (gi_c mw_854 (gi_c mw_446 (gi_c mw_447 (gi_c mw_78 (gi_c mw_448 (gi_c mw_102 (gi_c mw_449 (gi_c mw_451 (gi_c mw_855 (gi_c mw_856 (gi_c mw_857 (gi_c mw_858 (gi_c mw_859 (gi_c mw_860 (gi_c mw_791 (gi_c mw_692 (gi_c mw_693 (gi_c mw_777 gi_n))))))))))))))))))))))))
set_option maxRecDepth 20000 in
theorem gk_wsX11_all_r4 : GoodIn LT wsX11_all_r4 := (gi_c mw_684 (gi_c mw_685 (gi_c mw_686 (gi_c mw_615 (gi_c mw_616 (gi_c mw_617 (gi_c mw_618 (gi_c mw_619 (gi_c mw_620 (gi_c mw_608 (gi_c mw_609 (gi_c mw_610 (gi_c mw_861 (gi_c mw_862 (gi_c mw_863 (gi_c mw_864 (gi_c mw_865 (gi_c mw_866 (gi_c mw_867 (gi_c mw_868 (gi_c mw_912 (gi_c mw_913 (gi_c mw_914 (gi_c mw_915 gi_n))))))))))))))))))))))))
set_option maxRecDepth 20000 in
theorem gk_wsX11_all : GoodIn LT wsX11_all := (gi_c mw_911 (goodIn_app (goodIn_app (goodIn_app (goodIn_app (goodIn_app gk_wsX11_all_r1 (goodIn_app gk_wsX11_all_r2 (goodIn_app gk_wsX11_all_r3 gk_wsX11_all_r4))) gk_wsX110) gk_wsX100) gk_wsX10) gk_wsX30))
set_option maxRecDepth 20000 in
theorem gk_wsX12_all_r1 : GoodIn LT wsX12_all_r1 := (gi_c mw_256 (gi_c mw_733 (gi_c mw_734 (gi_c mw_735 (gi_c mw_247 (gi_c mw_736 (gi_c mw_200 (gi_c mw_562 (gi_c mw_563 (gi_c mw_564 (gi_c mw_899 (gi_c mw_900 (gi_c mw_901 (gi_c mw_902 (gi_c mw_207 (gi_c mw_903 (gi_c mw_904 (gi_c mw_905 (gi_c mw_906 (gi_c mw_206 (gi_c mw_870 (gi_c mw_871 (gi_c mw_872 (gi_c mw_873 gi_n))))))))))))))))))))))))
set_option maxRecDepth 20000 in
theorem gk_wsX12_all_r2 : GoodIn LT wsX12_all_r2 := (gi_c mw_874 (gi_c mw_875 (gi_c mw_876 (gi_c mw_877 (gi_c mw_707 (gi_c mw_708 (gi_c mw_709 (gi_c mw_710 (gi_c mw_585 (gi_c mw_586 (gi_c mw_587 (gi_c mw_878 (gi_c mw_879 (gi_c mw_880 (gi_c mw_881 (gi_c mw_699 (gi_c mw_700 (gi_c mw_701 (gi_c mw_702 (gi_c mw_641 (gi_c mw_642 (gi_c mw_643 (gi_c mw_644 (gi_c mw_633 gi_n))))))))))))))))))))))))
set_option maxRecDepth 20000 in
theorem gk_wsX12_all_r3 : GoodIn LT wsX12_all_r3 := (gi_c mw_634 (gi_c mw_635 (gi_c mw_636 (gi_c mw_882 (gi_c mw_883 (gi_c mw_884 (gi_c mw_907 (gi_c mw_908 (gi_c mw_909 (gi_c mw_910 (gi_c mw_917 (gi_c mw_918 (gi_c mw_919 (gi_c mw_920 gi_n))))))))))))))
set_option maxRecDepth 20000 in
theorem gk_wsX12_all : GoodIn LT wsX12_all := (gi_c mw_916 (goodIn_app (goodIn_app gk_wsX12_all_r1 (goodIn_app gk_wsX12_all_r2 gk_wsX12_all_r3)) gk_wsX120))
set_option maxRecDepth 20000 in
theorem gk_wsX11_missed_r1 : GoodIn LT wsX11_missed_r1 := (gi_c mw_15 (gi_c mw_20 (gi_c mw_25 (gi_c mw_716 (gi_c mw_922 (gi_c mw_717 (gi_c mw_718 (gi_c mw_719 (gi_c mw_450 (gi_c mw_720 (gi_c mw_721 (gi_c mw_892 (gi_c mw_893 (gi_c mw_894 (gi_c mw_895 (gi_c mw_267 (gi_c mw_896 (gi_c mw_784 (gi_c mw_785 (gi_c mw_24 (gi_c mw_786 (gi_c mw_109 (gi_c mw_110 (gi_c mw_111 gi_n))))))))))))))))))))))))
set_option maxRecDepth 20000 in
theorem gk_wsX11_missed_r2 : GoodIn LT wsX11_missed_r2 := (gi_c mw_112 (gi_c mw_483 (gi_c mw_475 (gi_c mw_476 (gi_c mw_477 (gi_c mw_113 (gi_c mw_114 (gi_c mw_115 (gi_c mw_116 (gi_c mw_117 (gi_c mw_844 (gi_c mw_845 (gi_c mw_846 (gi_c mw_847 (gi_c mw_848 (gi_c mw_283 (gi_c mw_284 (gi_c mw_285 (gi_c mw_770 (gi_c mw_287 (gi_c mw_288 (gi_c mw_849 (gi_c mw_841 (gi_c mw_842 gi_n))))))))))))))))))))))))
set_option maxRecDepth 20000 in
theorem gk_wsX11_missed_r3 : GoodIn LT wsX11_missed_r3 := (gi_c mw_843 (gi_c mw_850 (gi_c mw_851 (gi_c mw_852 (gi_c mw_853 (gi_c mw_118 (gi_c mw_731 (gi_c mw_691 (gi_c mw_854 (gi_c mw_446 (gi_c mw_447 (gi_c mw_78 (gi_c mw_448 (gi_c mw_102 (gi_c mw_449 (gi_c mw_451 (gi_c mw_855 (gi_c mw_856 (gi_c mw_857 (gi_c mw_858 (gi_c mw_859 (gi_c mw_860 (gi_c mw_791 (gi_c mw_692 gi_n))))))))))))))))))))))))
set_option maxRecDepth 20000 in
theorem gk_wsX11_missed_r4 : GoodIn LT wsX11_missed_r4 := (gi_c mw_693 (gi_c mw_777 (gi_c mw_684 (gi_c mw_685 (gi_c mw_686 (gi_c mw_615 (gi_c mw_616 (gi_c mw_617 (gi_c mw_618 (gi_c mw_619 (gi_c mw_620 (gi_c mw_608 (gi_c mw_609 (gi_c mw_610 (gi_c mw_861 (gi_c mw_862 (gi_c mw_863 (gi_c mw_864 (gi_c mw_865 (gi_c mw_866 (gi_c mw_867 (gi_c mw_868 (gi_c mw_722 (gi_c mw_723 gi_n))))))))))))))))))))))))
set_option maxRecDepth 20000 in
theorem gk_wsX11_missed_r5 : GoodIn LT wsX11_missed_r5 := (gi_c mw_724 (gi_c mw_725 (gi_c mw_91 (gi_c mw_726 (gi_c mw_923 (gi_c mw_924 (gi_c mw_925 (gi_c mw_926 gi_n))))))))
set_option maxRecDepth 20000 in
theorem gk_wsX11_missed : GoodIn LT wsX11_missed := (gi_c mw_921 (goodIn_app (goodIn_app (goodIn_app (goodIn_app (goodIn_app gk_wsX11_missed_r1 (goodIn_app gk_wsX11_missed_r2 (goodIn_app gk_wsX11_missed_r3 (goodIn_app gk_wsX11_missed_r4 gk_wsX11_missed_r5)))) gk_wsX110) gk_wsX100) gk_wsX30) gk_wsX10))
set_option maxRecDepth 20000 in
theorem gk_wsX12_missed_r1 : GoodIn LT wsX12_missed_r1 := (gi_c mw_256 (gi_c mw_200 (gi_c mw_207 (gi_c mw_733 (gi_c mw_734 (gi_c mw_735 (gi_c mw_247 (gi_c mw_736 (gi_c mw_562 (gi_c mw_563 (gi_c mw_564 (gi_c mw_899 (gi_c mw_900 (gi_c mw_901 (gi_c mw_902 (gi_c mw_903 (gi_c mw_904 (gi_c mw_905 (gi_c mw_906 (gi_c mw_206 (gi_c mw_870 (gi_c mw_871 (gi_c mw_872 (gi_c mw_873 gi_n))))))))))))))))))))))))
set_option maxRecDepth 20000 in
theorem gk_wsX12_missed_r2 : GoodIn LT wsX12_missed_r2 := (gi_c mw_874 (gi_c mw_875 (gi_c mw_876 (gi_c mw_877 (gi_c mw_707 (gi_c mw_708 (gi_c mw_709 (gi_c mw_710 (gi_c mw_585 (gi_c mw_586 (gi_c mw_587 (gi_c mw_878 (gi_c mw_879 (gi_c mw_880 (gi_c mw_881 (gi_c mw_699 (gi_c mw_700 (gi_c mw_701 (gi_c mw_702 (gi_c mw_641 (gi_c mw_642 (gi_c mw_643 (gi_c mw_644 (gi_c mw_633 gi_n))))))))))))))))))))))))
set_option maxRecDepth 20000 in
theorem gk_wsX12_missed_r3 : GoodIn LT wsX12_missed_r3 := (gi_c mw_634 (gi_c mw_635 (gi_c mw_636 (gi_c mw_882 (gi_c mw_883 (gi_c mw_884 (gi_c mw_907 (gi_c mw_908 (gi_c mw_909 (gi_c mw_910 gi_n))))))))))
set_option maxRecDepth 20000 in
theorem gk_wsX12_missed : GoodIn LT wsX12_missed := (gi_c mw_927 (goodIn_app (goodIn_app gk_wsX12_missed_r1 (goodIn_app gk_wsX12_missed_r2 gk_wsX12_missed_r3)) gk_wsX120))
set_option maxRecDepth 20000 in
theorem gk_wsX11_caught_r1 : GoodIn LT wsX11_caught_r1 := (gi_c mw_25 (gi_c mw_716 (gi_c mw_717 (gi_c mw_718 (gi_c mw_719 (gi_c mw_450 (gi_c mw_720 (gi_c mw_15 (gi_c mw_20 (gi_c mw_721 (gi_c mw_892 (gi_c mw_893 (gi_c mw_894 (gi_c mw_895 (gi_c mw_267 (gi_c mw_896 (gi_c mw_784 (gi_c mw_785 (gi_c mw_24 (gi_c mw_786 (gi_c mw_109 (gi_c mw_110 (gi_c mw_111 (gi_c mw_112 gi_n))))))))))))))))))))))))
set_option maxRecDepth 20000 in
theorem gk_wsX11_caught_r2 : GoodIn LT wsX11_caught_r2 := (gi_c mw_483 (gi_c mw_475 (gi_c mw_476 (gi_c mw_477 (gi_c mw_113 (gi_c mw_114 (gi_c mw_115 (gi_c mw_116 (gi_c mw_117 (gi_c mw_844 (gi_c mw_845 (gi_c mw_846 (gi_c mw_847 (gi_c mw_848 (gi_c mw_283 (gi_c mw_284 (gi_c mw_285 (gi_c mw_770 (gi_c mw_287 (gi_c mw_288 (gi_c mw_849 (gi_c mw_841 (gi_c mw_842 (gi_c mw_843 gi_n))))))))))))))))))))))))
set_option maxRecDepth 20000 in
theorem gk_wsX11_caught_r3 : GoodIn LT wsX11_caught_r3 := (gi_c mw_850 (gi_c mw_851 (gi_c mw_852 (gi_c mw_853 (gi_c mw_118 (gi_c mw_731 (gi_c mw_691 (gi_c mw_854 (gi_c mw_446 (gi_c mw_447 (gi_c mw_78 (gi_c mw_448 (gi_c mw_102 (gi_c mw_449 (gi_c mw_451 (gi_c mw_855 (gi_c mw_856 (gi_c mw_857 (gi_c mw_858 (gi_c mw_859 (gi_c mw_860 (gi_c mw_791 (gi_c mw_692 (gi_c mw_693 gi_n))))))))))))))))))))))))
set_option maxRecDepth 20000 in
theorem gk_wsX11_caught_r4 : GoodIn LT wsX11_caught_r4 := (gi_c mw_777 (gi_c mw_684 (gi_c mw_685 (gi_c mw_686 (gi_c mw_615 (gi_c mw_616 (gi_c mw_617 (gi_c mw_618 (gi_c mw_619 (gi_c mw_620 (gi_c mw_608 (gi_c mw_609 (gi_c mw_610 (gi_c mw_861 (gi_c mw_862 (gi_c mw_863 (gi_c mw_864 (gi_c mw_865 (gi_c mw_866 (gi_c mw_867 (gi_c mw_868 (gi_c mw_923 (gi_c mw_924 (gi_c mw_925 gi_n))))))))))))))))))))))))
set_option maxRecDepth 20000 in
theorem gk_wsX11_caught_r5 : GoodIn LT wsX11_caught_r5 := (gi_c mw_926 gi_n)
set_option maxRecDepth 20000 in
theorem gk_wsX11_caught : GoodIn LT wsX11_caught := (gi_c mw_928 (goodIn_app (goodIn_app (goodIn_app (goodIn_app (goodIn_app gk_wsX11_caught_r1 (goodIn_app gk_wsX11_caught_r2 (goodIn_app gk_wsX11_caught_r3 (goodIn_app gk_wsX11_caught_r4 gk_wsX11_caught_r5)))) gk_wsX110) gk_wsX30) gk_wsX100) gk_wsX10))
set_option maxRecDepth 20000 in
theorem gk_wsX12_caught_r1 : GoodIn LT wsX12_caught_r1 := (gi_c mw_256 (gi_c mw_200 (gi_c mw_207 (gi_c mw_733 (gi_c mw_734 (gi_c mw_735 (gi_c mw_247 (gi_c mw_736 (gi_c mw_562 (gi_c mw_563 (gi_c mw_564 (gi_c mw_899 (gi_c mw_900 (gi_c mw_901 (gi_c mw_902 (gi_c mw_903 (gi_c mw_904 (gi_c mw_905 (gi_c mw_906 (gi_c mw_206 (gi_c mw_870 (gi_c mw_871 (gi_c mw_872 (gi_c mw_873 gi_n))))))))))))))))))))))))
set_option maxRecDepth 20000 in
theorem gk_wsX12_caught_r2 : GoodIn LT wsX12_caught_r2 := (gi_c mw_874 (gi_c mw_875 (gi_c mw_876 (gi_c mw_877 (gi_c mw_707 (gi_c mw_708 (gi_c mw_709 (gi_c mw_710 (gi_c mw_585 (gi_c mw_586 (gi_c mw_587 (gi_c mw_878 (gi_c mw_879 (gi_c mw_880 (gi_c mw_881 (gi_c mw_699 (gi_c mw_700 (gi_c mw_701 (gi_c mw_702 (gi_c mw_641 (gi_c mw_642 (gi_c mw_643 (gi_c mw_644 (gi_c mw_633 gi_n))))))))))))))))))))))))
set_option maxRecDepth 20000 in
theorem gk_wsX12_caught_r3 : GoodIn LT wsX12_caught_r3 := (gi_c mw_634 (gi_c mw_635 (gi_c mw_636 (gi_c mw_882 (gi_c mw_883 (gi_c mw_884 (gi_c mw_907 (gi_c mw_908 (gi_c mw_909 (gi_c mw_910 gi_n))))))))))
set_option maxRecDepth 20000 in
theorem gk_wsX12_caught : GoodIn LT wsX12_caught := (gi_c mw_929 (goodIn_app (goodIn_app gk_wsX12_caught_r1 (goodIn_app gk_wsX12_caught_r2 gk_wsX12_caught_r3)) gk_wsX120))
set_option maxRecDepth 20000 in
theorem gk_wsX11_plan_r1 : GoodIn LT wsX11_plan_r1 := (gi_c mw_15 (gi_c mw_20 (gi_c mw_267 (gi_c mw_676 (gi_c mw_601 (gi_c mw_717 (gi_c mw_718 (gi_c mw_719 (gi_c mw_450 (gi_c mw_720 (gi_c mw_721 (gi_c mw_722 (gi_c mw_723 (gi_c mw_724 (gi_c mw_78 (gi_c mw_725 (gi_c mw_91 (gi_c mw_726 (gi_c mw_446 (gi_c mw_447 (gi_c mw_448 (gi_c mw_102 (gi_c mw_449 (gi_c mw_451 gi_n))))))))))))))))))))))))
set_option maxRecDepth 20000 in
theorem gk_wsX11_plan_r2 : GoodIn LT wsX11_plan_r2 := (gi_c mw_727 (gi_c mw_728 (gi_c mw_729 (gi_c mw_24 (gi_c mw_730 (gi_c mw_118 (gi_c mw_731 (gi_c mw_692 (gi_c mw_693 (gi_c mw_931 (gi_c mw_932 (gi_c mw_933 (gi_c mw_934 (gi_c mw_25 (gi_c mw_716 (gi_c mw_896 (gi_c mw_784 (gi_c mw_785 (gi_c mw_786 (gi_c mw_109 (gi_c mw_110 (gi_c mw_111 (gi_c mw_112 (gi_c mw_483 gi_n))))))))))))))))))))))))
set_option maxRecDepth 20000 in
theorem gk_wsX11_plan_r3 : GoodIn LT wsX11_plan_r3 := (gi_c mw_475 (gi_c mw_476 (gi_c mw_477 (gi_c mw_113 (gi_c mw_114 (gi_c mw_115 (gi_c mw_116 (gi_c mw_117 (gi_c mw_844 (gi_c mw_845 (gi_c mw_846 (gi_c mw_847 (gi_c mw_848 (gi_c mw_283 (gi_c mw_284 (gi_c mw_285 (gi_c mw_770 (gi_c mw_287 (gi_c mw_288 (gi_c mw_849 (gi_c mw_841 (gi_c mw_842 (gi_c mw_843 (gi_c mw_850 gi_n))))))))))))))))))))))))
set_option maxRecDepth 20000 in
theorem gk_wsX11_plan_r4 : GoodIn LT wsX11_plan_r4 := (gi_c mw_851 (gi_c mw_852 (gi_c mw_853 (gi_c mw_691 (gi_c mw_854 (gi_c mw_855 (gi_c mw_856 (gi_c mw_857 (gi_c mw_858 (gi_c mw_859 (gi_c mw_860 (gi_c mw_791 (gi_c mw_777 (gi_c mw_684 (gi_c mw_685 (gi_c mw_686 (gi_c mw_615 (gi_c mw_616 (gi_c mw_617 (gi_c mw_618 (gi_c mw_619 (gi_c mw_620 (gi_c mw_608 (gi_c mw_609 gi_n))))))))))))))))))))))))
set_option maxRecDepth 20000 in
theorem gk_wsX11_plan_r5 : GoodIn LT wsX11_plan_r5 := (gi_c mw_610 (gi_c mw_861 (gi_c mw_862 (gi_c mw_863 (gi_c mw_864 (gi_c mw_865 (gi_c mw_866 (gi_c mw_867 (gi_c mw_868 (gi_c mw_912 (gi_c mw_913 (gi_c mw_914 (gi_c mw_915 gi_n)))))))))))))
set_option maxRecDepth 20000 in
theorem gk_wsX11_plan : GoodIn LT wsX11_plan := (gi_c mw_930 (goodIn_app (goodIn_app (goodIn_app (goodIn_app (goodIn_app gk_wsX11_plan_r1 (goodIn_app gk_wsX11_plan_r2 (goodIn_app gk_wsX11_plan_r3 (goodIn_app gk_wsX11_plan_r4 gk_wsX11_plan_r5)))) gk_wsX110) gk_wsX100) gk_wsX30) gk_wsX10))
set_option maxRecDepth 20000 in
theorem gk_wsX12_plan_r1 : GoodIn LT wsX12_plan_r1 := (gi_c mw_256 (gi_c mw_200 (gi_c mw_733 (gi_c mw_734 (gi_c mw_735 (gi_c mw_247 (gi_c mw_736 (gi_c mw_562 (gi_c mw_563 (gi_c mw_564 (gi_c mw_737 (gi_c mw_738 (gi_c mw_739 (gi_c mw_740 (gi_c mw_936 (gi_c mw_937 (gi_c mw_938 (gi_c mw_939 (gi_c mw_940 (gi_c mw_707 (gi_c mw_708 (gi_c mw_709 (gi_c mw_710 (gi_c mw_585 gi_n))))))))))))))))))))))))
set_option maxRecDepth 20000 in
theorem gk_wsX12_plan_r2 : GoodIn LT wsX12_plan_r2 := (gi_c mw_586 (gi_c mw_587 (gi_c mw_641 (gi_c mw_642 (gi_c mw_643 (gi_c mw_644 (gi_c mw_633 (gi_c mw_634 (gi_c mw_635 (gi_c mw_636 (gi_c mw_882 (gi_c mw_883 (gi_c mw_884 (gi_c mw_941 (gi_c mw_942 (gi_c mw_943 (gi_c mw_899 (gi_c mw_900 (gi_c mw_901 (gi_c mw_902 (gi_c mw_207 (gi_c mw_903 (gi_c mw_904 (gi_c mw_905 gi_n))))))))))))))))))))))))
set_option maxRecDepth 20000 in
theorem gk_wsX12_plan_r3 : GoodIn LT wsX12_plan_r3 := (gi_c mw_906 (gi_c mw_206 (gi_c mw_870 (gi_c mw_871 (gi_c mw_872 (gi_c mw_873 (gi_c mw_874 (gi_c mw_875 (gi_c mw_876 (gi_c mw_877 (gi_c mw_878 (gi_c mw_879 (gi_c mw_880 (gi_c mw_881 (gi_c mw_699 (gi_c mw_700 (gi_c mw_701 (gi_c mw_702 (gi_c mw_907 (gi_c mw_908 (gi_c mw_909 (gi_c mw_910 (gi_c mw_917 (gi_c mw_918 gi_n))))))))))))))))))))))))
set_option maxRecDepth 20000 in
theorem gk_wsX12_plan_r4 : GoodIn LT wsX12_plan_r4 := (gi_c mw_919 (gi_c mw_920 gi_n))
set_option maxRecDepth 20000 in
theorem gk_wsX12_plan : GoodIn LT wsX12_plan := (gi_c mw_935 (goodIn_app (goodIn_app gk_wsX12_plan_r1 (goodIn_app gk_wsX12_plan_r2 (goodIn_app gk_wsX12_plan_r3 gk_wsX12_plan_r4))) gk_wsX120))
set_option maxRecDepth 20000 in
theorem gk_wsX11_time_r1 : GoodIn LT wsX11_time_r1 := (gi_c mw_41 (gi_c mw_15 (gi_c mw_267 (gi_c mw_7 (gi_c mw_250 (gi_c mw_945 (gi_c mw_946 (gi_c mw_947 (gi_c mw_40 (gi_c mw_948 (gi_c mw_949 (gi_c mw_176 (gi_c mw_174 (gi_c mw_175 (gi_c mw_950 (gi_c mw_951 (gi_c mw_952 (gi_c mw_953 (gi_c mw_954 (gi_c mw_955 (gi_c mw_956 (gi_c mw_294 (gi_c mw_295 (gi_c mw_6 gi_n))))))))))))))))))))))))
set_option maxRecDepth 20000 in
theorem gk_wsX11_time_r2 : GoodIn LT wsX11_time_r2 := (gi_c mw_296 (gi_c mw_53 (gi_c mw_52 (gi_c mw_957 (gi_c mw_958 (gi_c mw_959 (gi_c mw_960 (gi_c mw_612 (gi_c mw_613 (gi_c mw_24 (gi_c mw_614 (gi_c mw_615 (gi_c mw_616 (gi_c mw_617 (gi_c mw_618 (gi_c mw_114 (gi_c mw_112 (gi_c mw_118 (gi_c mw_619 (gi_c mw_113 (gi_c mw_620 (gi_c mw_608 (gi_c mw_609 (gi_c mw_610 gi_n))))))))))))))))))))))))
set_option maxRecDepth 20000 in
theorem gk_wsX11_time_r3 : GoodIn LT wsX11_time_r3 := (gi_c mw_111 (gi_c mw_621 (gi_c mw_622 (gi_c mw_284 (gi_c mw_623 (gi_c mw_961 (gi_c mw_962 (gi_c mw_963 (gi_c mw_964 (gi_c mw_965 (gi_c mw_966 (gi_c mw_967 (gi_c mw_968 (gi_c mw_177 (gi_c mw_969 (gi_c mw_287 (gi_c mw_284 (gi_c mw_288 (gi_c mw_970 (gi_c mw_120 (gi_c mw_121 (gi_c mw_122 gi_n))))))))))))))))))))))
set_option maxRecDepth 20000 in
theorem gk_wsX11_time : GoodIn LT wsX11_time := (gi_c mw_944 (goodIn_app (goodIn_app (goodIn_app (goodIn_app (goodIn_app (goodIn_app (goodIn_app gk_wsX11_time_r1 (goodIn_app gk_wsX11_time_r2 gk_wsX11_time_r3)) gk_wsX110) gk_wsX100) gk_wsX70) gk_wsX30) gk_wsX90) gk_wsX10))
set_option maxRecDepth 20000 in
theorem gk_wsX12_time_r1 : GoodIn LT wsX12_time_r1 := (gi_c mw_256 (gi_c mw_504 (gi_c mw_200 (gi_c mw_972 (gi_c mw_973 (gi_c mw_974 (gi_c mw_975 (gi_c mw_500 (gi_c mw_501 (gi_c mw_502 (gi_c mw_247 (gi_c mw_503 (gi_c mw_257 (gi_c mw_505 (gi_c mw_506 (gi_c mw_562 (gi_c mw_563 (gi_c mw_564 (gi_c mw_976 (gi_c mw_977 (gi_c mw_978 (gi_c mw_979 (gi_c mw_199 (gi_c mw_629 gi_n))))))))))))))))))))))))
set_option maxRecDepth 20000 in
theorem gk_wsX12_time_r2 : GoodIn LT wsX12_time_r2 := (gi_c mw_630 (gi_c mw_631 (gi_c mw_632 (gi_c mw_980 (gi_c mw_981 (gi_c mw_982 (gi_c mw_983 (gi_c mw_637 (gi_c mw_638 (gi_c mw_639 (gi_c mw_640 (gi_c mw_641 (gi_c mw_642 (gi_c mw_643 (gi_c mw_644 (gi_c mw_633 (gi_c mw_634 (gi_c mw_635 (gi_c mw_636 (gi_c mw_585 (gi_c mw_586 (gi_c mw_587 (gi_c mw_984 (gi_c mw_985 gi_n))))))))))))))))))))))))
set_option maxRecDepth 20000 in
theorem gk_wsX12_time_r3 : GoodIn LT wsX12_time_r3 := (gi_c mw_986 (gi_c mw_987 (gi_c mw_208 (gi_c mw_882 (gi_c mw_883 (gi_c mw_884 gi_n))))))
set_option maxRecDepth 20000 in
theorem gk_wsX12_time : GoodIn LT wsX12_time := (gi_c mw_971 (goodIn_app (goodIn_app gk_wsX12_time_r1 (goodIn_app gk_wsX12_time_r2 gk_wsX12_time_r3)) gk_wsX120))
set_option maxRecDepth 20000 in
theorem gk_wsX11_timeFirst : GoodIn LT wsX11_timeFirst := (gi_c mw_988 (goodIn_app (goodIn_app (gi_c mw_41 (gi_c mw_989 gi_n)) gk_wsX110) gk_wsX90))
set_option maxRecDepth 20000 in
theorem gk_wsX12_timeFirst : GoodIn LT wsX12_timeFirst := (gi_c mw_990 (goodIn_app (gi_c mw_256 (gi_c mw_972 (gi_c mw_973 gi_n))) gk_wsX120))
set_option maxRecDepth 20000 in
theorem gk_wsX11_look : GoodIn LT wsX11_look := (gi_c mw_991 (goodIn_app (goodIn_app (gi_c mw_41 (gi_c mw_992 gi_n)) gk_wsX110) gk_wsX90))
set_option maxRecDepth 20000 in
theorem gk_wsX12_look : GoodIn LT wsX12_look := (gi_c mw_993 (goodIn_app (gi_c mw_256 (gi_c mw_972 (gi_c mw_975 gi_n))) gk_wsX120))
set_option maxRecDepth 20000 in
theorem gk_wsX11_alike_r1 : GoodIn LT wsX11_alike_r1 := (gi_c mw_15 (gi_c mw_20 (gi_c mw_606 (gi_c mw_267 (gi_c mw_601 (gi_c mw_995 (gi_c mw_996 (gi_c mw_997 (gi_c mw_24 (gi_c mw_998 (gi_c mw_118 (gi_c mw_748 (gi_c mw_999 (gi_c mw_612 (gi_c mw_613 (gi_c mw_614 (gi_c mw_615 (gi_c mw_616 (gi_c mw_617 (gi_c mw_618 (gi_c mw_114 (gi_c mw_112 (gi_c mw_619 (gi_c mw_113 gi_n))))))))))))))))))))))))
set_option maxRecDepth 20000 in
theorem gk_wsX11_alike_r2 : GoodIn LT wsX11_alike_r2 := (gi_c mw_620 (gi_c mw_608 (gi_c mw_609 (gi_c mw_610 (gi_c mw_111 (gi_c mw_621 (gi_c mw_622 (gi_c mw_284 (gi_c mw_623 gi_n)))))))))
set_option maxRecDepth 20000 in
theorem gk_wsX11_alike : GoodIn LT wsX11_alike := (gi_c mw_994 (goodIn_app (goodIn_app (goodIn_app (goodIn_app (goodIn_app gk_wsX11_alike_r1 gk_wsX11_alike_r2) gk_wsX110) gk_wsX100) gk_wsX10) gk_wsX30))
set_option maxRecDepth 20000 in
theorem gk_wsX12_alike : GoodIn LT wsX12_alike := (gi_c mw_1000 (goodIn_app (gi_c mw_256 (gi_c mw_200 (gi_c mw_637 (gi_c mw_638 (gi_c mw_639 (gi_c mw_247 (gi_c mw_640 (gi_c mw_641 (gi_c mw_642 (gi_c mw_643 (gi_c mw_644 (gi_c mw_633 (gi_c mw_634 (gi_c mw_635 (gi_c mw_636 (gi_c mw_585 (gi_c mw_586 (gi_c mw_587 gi_n)))))))))))))))))) gk_wsX120))
set_option maxRecDepth 20000 in
theorem gk_wsX11_tend_r1 : GoodIn LT wsX11_tend_r1 := (gi_c mw_15 (gi_c mw_20 (gi_c mw_672 (gi_c mw_606 (gi_c mw_267 (gi_c mw_1002 (gi_c mw_1003 (gi_c mw_284 (gi_c mw_1004 (gi_c mw_599 (gi_c mw_1005 (gi_c mw_283 (gi_c mw_285 (gi_c mw_1006 (gi_c mw_287 (gi_c mw_288 (gi_c mw_678 (gi_c mw_679 (gi_c mw_680 (gi_c mw_450 (gi_c mw_681 (gi_c mw_682 (gi_c mw_653 (gi_c mw_654 gi_n))))))))))))))))))))))))
set_option maxRecDepth 20000 in
theorem gk_wsX11_tend_r2 : GoodIn LT wsX11_tend_r2 := (gi_c mw_655 (gi_c mw_24 (gi_c mw_656 (gi_c mw_109 (gi_c mw_615 (gi_c mw_616 (gi_c mw_617 (gi_c mw_618 (gi_c mw_114 (gi_c mw_112 (gi_c mw_118 (gi_c mw_619 (gi_c mw_113 (gi_c mw_620 (gi_c mw_608 (gi_c mw_609 (gi_c mw_610 (gi_c mw_111 gi_n))))))))))))))))))
set_option maxRecDepth 20000 in
theorem gk_wsX11_tend : GoodIn LT wsX11_tend := (gi_c mw_1001 (goodIn_app (goodIn_app (goodIn_app (goodIn_app (goodIn_app gk_wsX11_tend_r1 gk_wsX11_tend_r2) gk_wsX110) gk_wsX100) gk_wsX10) gk_wsX30))
set_option maxRecDepth 20000 in
theorem gk_wsX12_tend_r1 : GoodIn LT wsX12_tend_r1 := (gi_c mw_256 (gi_c mw_974 (gi_c mw_940 (gi_c mw_200 (gi_c mw_695 (gi_c mw_696 (gi_c mw_697 (gi_c mw_247 (gi_c mw_698 (gi_c mw_562 (gi_c mw_563 (gi_c mw_564 (gi_c mw_662 (gi_c mw_663 (gi_c mw_664 (gi_c mw_665 (gi_c mw_641 (gi_c mw_642 (gi_c mw_643 (gi_c mw_644 (gi_c mw_633 (gi_c mw_634 (gi_c mw_635 (gi_c mw_636 gi_n))))))))))))))))))))))))
set_option maxRecDepth 20000 in
theorem gk_wsX12_tend_r2 : GoodIn LT wsX12_tend_r2 := (gi_c mw_585 (gi_c mw_586 (gi_c mw_587 (gi_c mw_1008 (gi_c mw_1009 (gi_c mw_1010 (gi_c mw_941 (gi_c mw_942 (gi_c mw_943 (gi_c mw_882 (gi_c mw_883 (gi_c mw_884 gi_n))))))))))))
set_option maxRecDepth 20000 in
theorem gk_wsX12_tend : GoodIn LT wsX12_tend := (gi_c mw_1007 (goodIn_app (goodIn_app gk_wsX12_tend_r1 gk_wsX12_tend_r2) gk_wsX120))
set_option maxRecDepth 20000 in
theorem gk_wsX11_worst_r1 : GoodIn LT wsX11_worst_r1 := (gi_c mw_15 (gi_c mw_20 (gi_c mw_606 (gi_c mw_267 (gi_c mw_1002 (gi_c mw_1003 (gi_c mw_284 (gi_c mw_1004 (gi_c mw_653 (gi_c mw_654 (gi_c mw_655 (gi_c mw_24 (gi_c mw_656 (gi_c mw_109 (gi_c mw_615 (gi_c mw_616 (gi_c mw_617 (gi_c mw_618 (gi_c mw_114 (gi_c mw_112 (gi_c mw_118 (gi_c mw_619 (gi_c mw_113 (gi_c mw_620 gi_n))))))))))))))))))))))))
set_option maxRecDepth 20000 in
theorem gk_wsX11_worst_r2 : GoodIn LT wsX11_worst_r2 := (gi_c mw_608 (gi_c mw_609 (gi_c mw_610 (gi_c mw_111 gi_n))))
set_option maxRecDepth 20000 in
theorem gk_wsX11_worst : GoodIn LT wsX11_worst := (gi_c mw_1011 (goodIn_app (goodIn_app (goodIn_app (goodIn_app (goodIn_app gk_wsX11_worst_r1 gk_wsX11_worst_r2) gk_wsX110) gk_wsX100) gk_wsX10) gk_wsX30))
set_option maxRecDepth 20000 in
theorem gk_wsX12_worst : GoodIn LT wsX12_worst := (gi_c mw_1012 (goodIn_app (gi_c mw_256 (gi_c mw_200 (gi_c mw_662 (gi_c mw_663 (gi_c mw_664 (gi_c mw_247 (gi_c mw_665 (gi_c mw_641 (gi_c mw_642 (gi_c mw_643 (gi_c mw_644 (gi_c mw_633 (gi_c mw_634 (gi_c mw_635 (gi_c mw_636 (gi_c mw_585 (gi_c mw_586 (gi_c mw_587 (gi_c mw_1008 (gi_c mw_1009 (gi_c mw_1010 gi_n))))))))))))))))))))) gk_wsX120))
set_option maxRecDepth 20000 in
theorem gk_wsX11_latest_r1 : GoodIn LT wsX11_latest_r1 := (gi_c mw_15 (gi_c mw_20 (gi_c mw_682 (gi_c mw_267 (gi_c mw_47 (gi_c mw_1014 (gi_c mw_1015 (gi_c mw_1016 (gi_c mw_24 (gi_c mw_1017 (gi_c mw_118 (gi_c mw_691 (gi_c mw_770 (gi_c mw_287 (gi_c mw_284 (gi_c mw_288 (gi_c mw_766 (gi_c mw_767 (gi_c mw_768 (gi_c mw_769 (gi_c mw_117 (gi_c mw_115 (gi_c mw_692 (gi_c mw_450 gi_n))))))))))))))))))))))))
set_option maxRecDepth 20000 in
theorem gk_wsX11_latest_r2 : GoodIn LT wsX11_latest_r2 := (gi_c mw_693 gi_n)
set_option maxRecDepth 20000 in
theorem gk_wsX11_latest : GoodIn LT wsX11_latest := (gi_c mw_1013 (goodIn_app (goodIn_app (goodIn_app (goodIn_app (goodIn_app gk_wsX11_latest_r1 gk_wsX11_latest_r2) gk_wsX110) gk_wsX100) gk_wsX10) gk_wsX30))
set_option maxRecDepth 20000 in
theorem gk_wsX12_latest : GoodIn LT wsX12_latest := (gi_c mw_1018 (goodIn_app (gi_c mw_256 (gi_c mw_200 (gi_c mw_209 gi_n))) gk_wsX120))
set_option maxRecDepth 20000 in
theorem gk_wsX11_latestBy : GoodIn LT wsX11_latestBy := (gi_c mw_1019 (goodIn_app (gi_c mw_47 gi_n) gk_wsX110))
set_option maxRecDepth 20000 in
theorem gk_wsX12_latestBy : GoodIn LT wsX12_latestBy := (gi_c mw_1020 (goodIn_app (gi_c mw_256 (gi_c mw_209 gi_n)) gk_wsX120))
set_option maxRecDepth 20000 in
theorem gk_wsL_mean_r1 : GoodIn LT wsL_mean_r1 := (gi_c mw_646 (gi_c mw_1022 (gi_c mw_1023 (gi_c mw_1024 (gi_c mw_450 (gi_c mw_1025 (gi_c mw_651 (gi_c mw_652 (gi_c mw_15 (gi_c mw_267 (gi_c mw_750 (gi_c mw_751 (gi_c mw_752 (gi_c mw_24 (gi_c mw_753 (gi_c mw_118 (gi_c mw_691 (gi_c mw_117 (gi_c mw_754 (gi_c mw_728 (gi_c mw_729 (gi_c mw_730 (gi_c mw_731 (gi_c mw_692 gi_n))))))))))))))))))))))))
set_option maxRecDepth 20000 in
theorem gk_wsL_mean_r2 : GoodIn LT wsL_mean_r2 := (gi_c mw_693 (gi_c mw_755 (gi_c mw_756 (gi_c mw_757 (gi_c mw_758 (gi_c mw_759 (gi_c mw_760 (gi_c mw_761 (gi_c mw_762 (gi_c mw_763 (gi_c mw_764 (gi_c mw_765 (gi_c mw_766 (gi_c mw_767 (gi_c mw_768 (gi_c mw_769 (gi_c mw_115 (gi_c mw_770 (gi_c mw_287 (gi_c mw_284 (gi_c mw_288 (gi_c mw_1026 (gi_c mw_1027 (gi_c mw_1028 gi_n))))))))))))))))))))))))
set_option maxRecDepth 20000 in
theorem gk_wsL_meanB : GoodIn LT wsL_meanB := (gi_c mw_1021 (goodIn_app (goodIn_app (goodIn_app (goodIn_app (goodIn_app (goodIn_app gk_wsL_mean_r1 gk_wsL_mean_r2) gk_wsX110) gk_wsX100) gk_wsX30) gk_wsX10) gk_zyG))
set_option maxRecDepth 20000 in
theorem gk_wsX12_mean : GoodIn LT wsX12_mean := (gi_c mw_1029 (goodIn_app (gi_c mw_200 (gi_c mw_562 (gi_c mw_563 (gi_c mw_247 (gi_c mw_564 (gi_c mw_658 (gi_c mw_659 (gi_c mw_660 (gi_c mw_661 (gi_c mw_256 gi_n)))))))))) gk_wsX120))
set_option maxRecDepth 20000 in
theorem gk_wsX11_face_r1 : GoodIn LT wsX11_face_r1 := (gi_c mw_15 (gi_c mw_267 (gi_c mw_601 (gi_c mw_45 (gi_c mw_20 (gi_c mw_1031 (gi_c mw_602 (gi_c mw_603 (gi_c mw_604 (gi_c mw_450 (gi_c mw_605 (gi_c mw_606 (gi_c mw_611 (gi_c mw_612 (gi_c mw_613 (gi_c mw_24 (gi_c mw_614 (gi_c mw_615 (gi_c mw_616 (gi_c mw_617 (gi_c mw_618 (gi_c mw_114 (gi_c mw_112 (gi_c mw_118 gi_n))))))))))))))))))))))))
set_option maxRecDepth 20000 in
theorem gk_wsX11_face_r2 : GoodIn LT wsX11_face_r2 := (gi_c mw_619 (gi_c mw_113 (gi_c mw_620 (gi_c mw_608 (gi_c mw_609 (gi_c mw_610 (gi_c mw_111 (gi_c mw_621 (gi_c mw_622 (gi_c mw_284 (gi_c mw_623 (gi_c mw_1032 (gi_c mw_1033 (gi_c mw_1034 (gi_c mw_44 (gi_c mw_1035 (gi_c mw_1036 (gi_c mw_1037 (gi_c mw_1038 (gi_c mw_1039 (gi_c mw_183 (gi_c mw_1040 (gi_c mw_1041 (gi_c mw_187 gi_n))))))))))))))))))))))))
set_option maxRecDepth 20000 in
theorem gk_wsX11_face_r3 : GoodIn LT wsX11_face_r3 := (gi_c mw_1042 (gi_c mw_1043 (gi_c mw_1044 (gi_c mw_1045 (gi_c mw_1046 (gi_c mw_1047 (gi_c mw_188 (gi_c mw_1048 (gi_c mw_1049 (gi_c mw_1050 (gi_c mw_1051 (gi_c mw_1052 (gi_c mw_1053 (gi_c mw_1054 (gi_c mw_1055 (gi_c mw_1056 (gi_c mw_1057 (gi_c mw_1058 (gi_c mw_287 (gi_c mw_284 (gi_c mw_288 (gi_c mw_1059 (gi_c mw_1060 (gi_c mw_1061 gi_n))))))))))))))))))))))))
set_option maxRecDepth 20000 in
theorem gk_wsX11_face_r4 : GoodIn LT wsX11_face_r4 := (gi_c mw_1062 (gi_c mw_1063 (gi_c mw_1064 (gi_c mw_121 (gi_c mw_1065 (gi_c mw_1066 (gi_c mw_1067 (gi_c mw_1068 (gi_c mw_1069 (gi_c mw_1070 (gi_c mw_1071 (gi_c mw_51 (gi_c mw_1072 (gi_c mw_283 (gi_c mw_285 (gi_c mw_1073 (gi_c mw_475 (gi_c mw_476 (gi_c mw_477 (gi_c mw_1074 (gi_c mw_1075 (gi_c mw_1076 (gi_c mw_1077 (gi_c mw_1078 gi_n))))))))))))))))))))))))
set_option maxRecDepth 20000 in
theorem gk_wsX11_face_r5 : GoodIn LT wsX11_face_r5 := (gi_c mw_186 (gi_c mw_1079 (gi_c mw_1080 (gi_c mw_332 (gi_c mw_1081 (gi_c mw_1082 (gi_c mw_1083 (gi_c mw_1084 (gi_c mw_1085 (gi_c mw_1086 (gi_c mw_1087 (gi_c mw_1088 (gi_c mw_1089 (gi_c mw_191 (gi_c mw_1090 (gi_c mw_1091 (gi_c mw_1092 (gi_c mw_1093 (gi_c mw_1094 (gi_c mw_1095 (gi_c mw_1096 (gi_c mw_1097 (gi_c mw_1098 (gi_c mw_1099 gi_n))))))))))))))))))))))))
set_option maxRecDepth 20000 in
theorem gk_wsX11_face_r6 : GoodIn LT wsX11_face_r6 := (gi_c mw_1100 (gi_c mw_1101 (gi_c mw_1102 (gi_c mw_1103 (gi_c mw_1104 (gi_c mw_1105 (gi_c mw_1106 (gi_c mw_1107 (gi_c mw_1108 (gi_c mw_1109 (gi_c mw_1110 (gi_c mw_1111 (gi_c mw_189 (gi_c mw_190 (gi_c mw_192 (gi_c mw_193 (gi_c mw_194 (gi_c mw_195 (gi_c mw_196 (gi_c mw_1112 (gi_c mw_1113 (gi_c mw_1114 (gi_c mw_1115 (gi_c mw_1116 gi_n))))))))))))))))))))))))
set_option maxRecDepth 20000 in
theorem gk_wsX11_face_r7 : GoodIn LT wsX11_face_r7 := (gi_c mw_1117 (gi_c mw_1118 (gi_c mw_1119 (gi_c mw_1120 (gi_c mw_348 (gi_c mw_349 (gi_c mw_350 (gi_c mw_1121 (gi_c mw_1122 (gi_c mw_313 (gi_c mw_1123 (gi_c mw_337 (gi_c mw_1124 (gi_c mw_1125 (gi_c mw_340 (gi_c mw_1126 (gi_c mw_1127 (gi_c mw_1128 (gi_c mw_1129 (gi_c mw_355 (gi_c mw_356 (gi_c mw_357 (gi_c mw_1130 (gi_c mw_1131 gi_n))))))))))))))))))))))))
set_option maxRecDepth 20000 in
theorem gk_wsX11_face_r8 : GoodIn LT wsX11_face_r8 := (gi_c mw_1132 (gi_c mw_345 (gi_c mw_346 (gi_c mw_347 (gi_c mw_351 (gi_c mw_335 (gi_c mw_336 (gi_c mw_338 (gi_c mw_339 (gi_c mw_341 (gi_c mw_1133 (gi_c mw_1134 (gi_c mw_1135 (gi_c mw_1136 (gi_c mw_1137 (gi_c mw_1138 (gi_c mw_1139 (gi_c mw_1140 (gi_c mw_1141 (gi_c mw_1142 (gi_c mw_1143 (gi_c mw_1144 (gi_c mw_1145 (gi_c mw_1146 gi_n))))))))))))))))))))))))
set_option maxRecDepth 20000 in
theorem gk_wsX11_face_r9 : GoodIn LT wsX11_face_r9 := (gi_c mw_1147 (gi_c mw_1148 (gi_c mw_1149 (gi_c mw_1150 (gi_c mw_1151 (gi_c mw_1152 (gi_c mw_1153 (gi_c mw_1154 (gi_c mw_1155 (gi_c mw_1156 (gi_c mw_1157 (gi_c mw_1158 (gi_c mw_311 (gi_c mw_312 (gi_c mw_314 (gi_c mw_315 (gi_c mw_316 (gi_c mw_317 (gi_c mw_318 (gi_c mw_319 (gi_c mw_320 (gi_c mw_321 (gi_c mw_1159 (gi_c mw_1160 gi_n))))))))))))))))))))))))
set_option maxRecDepth 20000 in
theorem gk_wsX11_face_r10 : GoodIn LT wsX11_face_r10 := (gi_c mw_1161 (gi_c mw_1162 (gi_c mw_1163 (gi_c mw_1164 (gi_c mw_1165 (gi_c mw_1166 (gi_c mw_1167 (gi_c mw_1168 (gi_c mw_1169 (gi_c mw_1170 (gi_c mw_1171 (gi_c mw_1172 (gi_c mw_1173 (gi_c mw_1174 (gi_c mw_1175 (gi_c mw_1176 (gi_c mw_1177 (gi_c mw_1178 (gi_c mw_1179 (gi_c mw_1180 (gi_c mw_1181 (gi_c mw_1182 (gi_c mw_1183 (gi_c mw_1184 gi_n))))))))))))))))))))))))
set_option maxRecDepth 20000 in
theorem gk_wsX11_face_r11 : GoodIn LT wsX11_face_r11 := (gi_c mw_1185 (gi_c mw_757 (gi_c mw_1186 (gi_c mw_1187 (gi_c mw_1188 (gi_c mw_1189 (gi_c mw_1190 (gi_c mw_1191 (gi_c mw_1192 (gi_c mw_1193 (gi_c mw_1194 (gi_c mw_1195 (gi_c mw_1196 (gi_c mw_1197 (gi_c mw_1198 (gi_c mw_1199 (gi_c mw_607 (gi_c mw_1200 (gi_c mw_1201 (gi_c mw_1202 (gi_c mw_1203 (gi_c mw_1204 (gi_c mw_1205 (gi_c mw_1206 gi_n))))))))))))))))))))))))
set_option maxRecDepth 20000 in
theorem gk_wsX11_face_r12 : GoodIn LT wsX11_face_r12 := (gi_c mw_1207 gi_n)
set_option maxRecDepth 20000 in
theorem gk_wsX11_face : GoodIn LT wsX11_face := (gi_c mw_1030 (goodIn_app (goodIn_app (goodIn_app (goodIn_app (goodIn_app (goodIn_app gk_wsX11_face_r1 (goodIn_app gk_wsX11_face_r2 (goodIn_app gk_wsX11_face_r3 (goodIn_app gk_wsX11_face_r4 (goodIn_app gk_wsX11_face_r5 (goodIn_app gk_wsX11_face_r6 (goodIn_app gk_wsX11_face_r7 (goodIn_app gk_wsX11_face_r8 (goodIn_app gk_wsX11_face_r9 (goodIn_app gk_wsX11_face_r10 (goodIn_app gk_wsX11_face_r11 gk_wsX11_face_r12))))))))))) gk_wsX110) gk_wsX100) gk_wsX30) gk_wsX10) gk_wsJ40))
set_option maxRecDepth 20000 in
theorem gk_wsX12_face_r1 : GoodIn LT wsX12_face_r1 := (gi_c mw_256 (gi_c mw_1209 (gi_c mw_203 (gi_c mw_1210 (gi_c mw_200 (gi_c mw_1211 (gi_c mw_629 (gi_c mw_630 (gi_c mw_631 (gi_c mw_247 (gi_c mw_632 (gi_c mw_562 (gi_c mw_563 (gi_c mw_564 (gi_c mw_1212 (gi_c mw_1213 (gi_c mw_1214 (gi_c mw_1215 (gi_c mw_1216 (gi_c mw_1217 (gi_c mw_1218 (gi_c mw_1219 (gi_c mw_1220 (gi_c mw_210 gi_n))))))))))))))))))))))))
set_option maxRecDepth 20000 in
theorem gk_wsX12_face_r2 : GoodIn LT wsX12_face_r2 := (gi_c mw_1221 (gi_c mw_1222 (gi_c mw_1223 (gi_c mw_1224 (gi_c mw_637 (gi_c mw_638 (gi_c mw_639 (gi_c mw_640 (gi_c mw_641 (gi_c mw_642 (gi_c mw_643 (gi_c mw_644 (gi_c mw_633 (gi_c mw_634 (gi_c mw_635 (gi_c mw_636 (gi_c mw_585 (gi_c mw_586 (gi_c mw_587 gi_n)))))))))))))))))))
set_option maxRecDepth 20000 in
theorem gk_wsX12_face : GoodIn LT wsX12_face := (gi_c mw_1208 (goodIn_app (goodIn_app gk_wsX12_face_r1 gk_wsX12_face_r2) gk_wsX120))
set_option maxRecDepth 20000 in
theorem gk_wsX11_byteAt_r1 : GoodIn LT wsX11_byteAt_r1 := (gi_c mw_45 (gi_c mw_1200 (gi_c mw_1201 (gi_c mw_1202 (gi_c mw_44 (gi_c mw_1203 (gi_c mw_1204 (gi_c mw_1205 (gi_c mw_1038 (gi_c mw_1206 (gi_c mw_183 (gi_c mw_1207 (gi_c mw_1041 (gi_c mw_1226 (gi_c mw_1227 (gi_c mw_1228 (gi_c mw_1229 (gi_c mw_1230 (gi_c mw_1231 (gi_c mw_1232 (gi_c mw_1233 (gi_c mw_188 (gi_c mw_187 (gi_c mw_1234 gi_n))))))))))))))))))))))))
set_option maxRecDepth 20000 in
theorem gk_wsX11_byteAt_r2 : GoodIn LT wsX11_byteAt_r2 := (gi_c mw_283 (gi_c mw_284 (gi_c mw_285 (gi_c mw_1235 (gi_c mw_335 (gi_c mw_313 (gi_c mw_336 (gi_c mw_337 (gi_c mw_338 (gi_c mw_339 (gi_c mw_340 (gi_c mw_341 (gi_c mw_1236 (gi_c mw_353 (gi_c mw_191 (gi_c mw_354 (gi_c mw_355 (gi_c mw_356 (gi_c mw_357 (gi_c mw_348 (gi_c mw_349 (gi_c mw_350 gi_n))))))))))))))))))))))
set_option maxRecDepth 20000 in
theorem gk_wsX11_byteAt : GoodIn LT wsX11_byteAt := (gi_c mw_1225 (goodIn_app (goodIn_app (goodIn_app gk_wsX11_byteAt_r1 gk_wsX11_byteAt_r2) gk_wsX110) gk_wsJ40))
set_option maxRecDepth 20000 in
theorem gk_wsX12_byteAt : GoodIn LT wsX12_byteAt := (gi_c mw_1237 (goodIn_app (gi_c mw_256 (gi_c mw_1209 (gi_c mw_210 (gi_c mw_562 (gi_c mw_563 (gi_c mw_247 (gi_c mw_564 gi_n))))))) gk_wsX120))
set_option maxRecDepth 20000 in
theorem gk_wsX11_drawn_r1 : GoodIn LT wsX11_drawn_r1 := (gi_c mw_15 (gi_c mw_267 (gi_c mw_21 (gi_c mw_840 (gi_c mw_841 (gi_c mw_842 (gi_c mw_24 (gi_c mw_843 (gi_c mw_109 (gi_c mw_778 (gi_c mw_779 (gi_c mw_780 (gi_c mw_19 (gi_c mw_781 (gi_c mw_134 (gi_c mw_135 (gi_c mw_136 (gi_c mw_782 (gi_c mw_283 (gi_c mw_284 (gi_c mw_285 (gi_c mw_783 (gi_c mw_784 (gi_c mw_785 gi_n))))))))))))))))))))))))
set_option maxRecDepth 20000 in
theorem gk_wsX11_drawn_r2 : GoodIn LT wsX11_drawn_r2 := (gi_c mw_786 (gi_c mw_110 (gi_c mw_111 (gi_c mw_112 (gi_c mw_483 (gi_c mw_475 (gi_c mw_476 (gi_c mw_477 (gi_c mw_113 (gi_c mw_114 (gi_c mw_115 (gi_c mw_116 (gi_c mw_117 (gi_c mw_1239 (gi_c mw_1240 (gi_c mw_1241 (gi_c mw_1242 (gi_c mw_118 (gi_c mw_748 (gi_c mw_731 (gi_c mw_849 (gi_c mw_1243 (gi_c mw_1244 (gi_c mw_1245 gi_n))))))))))))))))))))))))
set_option maxRecDepth 20000 in
theorem gk_wsX11_drawn_r3 : GoodIn LT wsX11_drawn_r3 := (gi_c mw_1246 (gi_c mw_1247 (gi_c mw_1248 (gi_c mw_1249 (gi_c mw_1250 (gi_c mw_1251 (gi_c mw_1252 (gi_c mw_1253 (gi_c mw_620 (gi_c mw_608 (gi_c mw_609 (gi_c mw_610 (gi_c mw_1254 (gi_c mw_825 (gi_c mw_826 (gi_c mw_827 (gi_c mw_749 (gi_c mw_654 (gi_c mw_655 (gi_c mw_656 (gi_c mw_615 (gi_c mw_616 (gi_c mw_617 (gi_c mw_618 gi_n))))))))))))))))))))))))
set_option maxRecDepth 20000 in
theorem gk_wsX11_drawn_r4 : GoodIn LT wsX11_drawn_r4 := (gi_c mw_619 (gi_c mw_1255 (gi_c mw_811 (gi_c mw_812 (gi_c mw_813 (gi_c mw_1256 (gi_c mw_774 (gi_c mw_775 (gi_c mw_776 (gi_c mw_777 (gi_c mw_684 (gi_c mw_685 (gi_c mw_686 (gi_c mw_1257 (gi_c mw_788 (gi_c mw_789 (gi_c mw_790 (gi_c mw_791 (gi_c mw_1258 (gi_c mw_845 (gi_c mw_846 (gi_c mw_847 (gi_c mw_848 (gi_c mw_770 gi_n))))))))))))))))))))))))
set_option maxRecDepth 20000 in
theorem gk_wsX11_drawn_r5 : GoodIn LT wsX11_drawn_r5 := (gi_c mw_287 (gi_c mw_288 (gi_c mw_850 (gi_c mw_851 (gi_c mw_852 (gi_c mw_853 (gi_c mw_691 (gi_c mw_854 (gi_c mw_446 (gi_c mw_447 (gi_c mw_78 (gi_c mw_448 (gi_c mw_102 (gi_c mw_449 (gi_c mw_450 (gi_c mw_451 (gi_c mw_855 (gi_c mw_856 (gi_c mw_857 (gi_c mw_858 (gi_c mw_859 (gi_c mw_860 (gi_c mw_692 (gi_c mw_693 gi_n))))))))))))))))))))))))
set_option maxRecDepth 20000 in
theorem gk_wsX11_drawn_r6 : GoodIn LT wsX11_drawn_r6 := (gi_c mw_861 (gi_c mw_862 (gi_c mw_863 (gi_c mw_864 (gi_c mw_865 (gi_c mw_866 (gi_c mw_867 (gi_c mw_868 gi_n))))))))
set_option maxRecDepth 20000 in
theorem gk_wsX11_drawn : GoodIn LT wsX11_drawn := (gi_c mw_1238 (goodIn_app (goodIn_app (goodIn_app (goodIn_app (goodIn_app (goodIn_app gk_wsX11_drawn_r1 (goodIn_app gk_wsX11_drawn_r2 (goodIn_app gk_wsX11_drawn_r3 (goodIn_app gk_wsX11_drawn_r4 (goodIn_app gk_wsX11_drawn_r5 gk_wsX11_drawn_r6))))) gk_wsX110) gk_wsX100) gk_wsX30) gk_wsX40) gk_wsX10))
set_option maxRecDepth 20000 in
theorem gk_wsX12_drawn_r1 : GoodIn LT wsX12_drawn_r1 := (gi_c mw_256 (gi_c mw_200 (gi_c mw_562 (gi_c mw_563 (gi_c mw_247 (gi_c mw_564 (gi_c mw_797 (gi_c mw_798 (gi_c mw_799 (gi_c mw_800 (gi_c mw_499 (gi_c mw_205 (gi_c mw_1260 (gi_c mw_1261 (gi_c mw_1262 (gi_c mw_1263 (gi_c mw_1264 (gi_c mw_1265 (gi_c mw_1266 (gi_c mw_1267 (gi_c mw_1268 (gi_c mw_1269 (gi_c mw_1270 (gi_c mw_1271 gi_n))))))))))))))))))))))))
set_option maxRecDepth 20000 in
theorem gk_wsX12_drawn_r2 : GoodIn LT wsX12_drawn_r2 := (gi_c mw_1272 (gi_c mw_1273 (gi_c mw_633 (gi_c mw_634 (gi_c mw_635 (gi_c mw_636 (gi_c mw_585 (gi_c mw_586 (gi_c mw_587 (gi_c mw_662 (gi_c mw_663 (gi_c mw_664 (gi_c mw_665 (gi_c mw_641 (gi_c mw_642 (gi_c mw_643 (gi_c mw_644 (gi_c mw_801 (gi_c mw_802 (gi_c mw_803 (gi_c mw_804 (gi_c mw_815 (gi_c mw_816 (gi_c mw_817 gi_n))))))))))))))))))))))))
set_option maxRecDepth 20000 in
theorem gk_wsX12_drawn_r3 : GoodIn LT wsX12_drawn_r3 := (gi_c mw_818 (gi_c mw_793 (gi_c mw_794 (gi_c mw_795 (gi_c mw_796 (gi_c mw_699 (gi_c mw_700 (gi_c mw_701 (gi_c mw_702 (gi_c mw_870 (gi_c mw_871 (gi_c mw_872 (gi_c mw_873 (gi_c mw_874 (gi_c mw_875 (gi_c mw_876 (gi_c mw_877 (gi_c mw_707 (gi_c mw_708 (gi_c mw_709 (gi_c mw_710 (gi_c mw_878 (gi_c mw_879 (gi_c mw_880 gi_n))))))))))))))))))))))))
set_option maxRecDepth 20000 in
theorem gk_wsX12_drawn_r4 : GoodIn LT wsX12_drawn_r4 := (gi_c mw_881 (gi_c mw_882 (gi_c mw_883 (gi_c mw_884 gi_n))))
set_option maxRecDepth 20000 in
theorem gk_wsX12_drawn : GoodIn LT wsX12_drawn := (gi_c mw_1259 (goodIn_app (goodIn_app gk_wsX12_drawn_r1 (goodIn_app gk_wsX12_drawn_r2 (goodIn_app gk_wsX12_drawn_r3 gk_wsX12_drawn_r4))) gk_wsX120))
set_option maxRecDepth 20000 in
theorem gk_wsX11_odds_r1 : GoodIn LT wsX11_odds_r1 := (gi_c mw_25 (gi_c mw_15 (gi_c mw_267 (gi_c mw_678 (gi_c mw_679 (gi_c mw_680 (gi_c mw_450 (gi_c mw_681 (gi_c mw_20 (gi_c mw_682 (gi_c mw_896 (gi_c mw_784 (gi_c mw_785 (gi_c mw_24 (gi_c mw_786 (gi_c mw_109 (gi_c mw_110 (gi_c mw_111 (gi_c mw_112 (gi_c mw_483 (gi_c mw_475 (gi_c mw_476 (gi_c mw_477 (gi_c mw_113 gi_n))))))))))))))))))))))))
set_option maxRecDepth 20000 in
theorem gk_wsX11_odds_r2 : GoodIn LT wsX11_odds_r2 := (gi_c mw_114 (gi_c mw_115 (gi_c mw_116 (gi_c mw_117 (gi_c mw_1239 (gi_c mw_1240 (gi_c mw_1241 (gi_c mw_1242 (gi_c mw_118 (gi_c mw_748 (gi_c mw_731 (gi_c mw_849 (gi_c mw_841 (gi_c mw_842 (gi_c mw_843 (gi_c mw_1243 (gi_c mw_1244 (gi_c mw_1245 (gi_c mw_1246 (gi_c mw_1247 (gi_c mw_1248 (gi_c mw_1249 (gi_c mw_1250 (gi_c mw_1251 gi_n))))))))))))))))))))))))
set_option maxRecDepth 20000 in
theorem gk_wsX11_odds_r3 : GoodIn LT wsX11_odds_r3 := (gi_c mw_1252 (gi_c mw_1253 (gi_c mw_620 (gi_c mw_608 (gi_c mw_609 (gi_c mw_610 (gi_c mw_1254 (gi_c mw_825 (gi_c mw_826 (gi_c mw_827 (gi_c mw_749 (gi_c mw_654 (gi_c mw_655 (gi_c mw_656 (gi_c mw_615 (gi_c mw_616 (gi_c mw_617 (gi_c mw_618 (gi_c mw_619 (gi_c mw_1255 (gi_c mw_811 (gi_c mw_812 (gi_c mw_813 (gi_c mw_1256 gi_n))))))))))))))))))))))))
set_option maxRecDepth 20000 in
theorem gk_wsX11_odds_r4 : GoodIn LT wsX11_odds_r4 := (gi_c mw_774 (gi_c mw_775 (gi_c mw_776 (gi_c mw_777 (gi_c mw_684 (gi_c mw_685 (gi_c mw_686 (gi_c mw_1257 (gi_c mw_788 (gi_c mw_789 (gi_c mw_790 (gi_c mw_791 (gi_c mw_1258 (gi_c mw_845 (gi_c mw_846 (gi_c mw_847 (gi_c mw_848 (gi_c mw_283 (gi_c mw_284 (gi_c mw_285 (gi_c mw_770 (gi_c mw_287 (gi_c mw_288 (gi_c mw_850 gi_n))))))))))))))))))))))))
set_option maxRecDepth 20000 in
theorem gk_wsX11_odds_r5 : GoodIn LT wsX11_odds_r5 := (gi_c mw_851 (gi_c mw_852 (gi_c mw_853 (gi_c mw_691 (gi_c mw_854 (gi_c mw_446 (gi_c mw_447 (gi_c mw_78 (gi_c mw_448 (gi_c mw_102 (gi_c mw_449 (gi_c mw_451 (gi_c mw_855 (gi_c mw_856 (gi_c mw_857 (gi_c mw_858 (gi_c mw_859 (gi_c mw_860 (gi_c mw_692 (gi_c mw_693 (gi_c mw_861 (gi_c mw_862 (gi_c mw_863 (gi_c mw_864 gi_n))))))))))))))))))))))))
set_option maxRecDepth 20000 in
theorem gk_wsX11_odds_r6 : GoodIn LT wsX11_odds_r6 := (gi_c mw_865 (gi_c mw_866 (gi_c mw_867 (gi_c mw_868 (gi_c mw_683 gi_n)))))
set_option maxRecDepth 20000 in
theorem gk_wsX11_odds : GoodIn LT wsX11_odds := (gi_c mw_1274 (goodIn_app (goodIn_app (goodIn_app (goodIn_app (goodIn_app gk_wsX11_odds_r1 (goodIn_app gk_wsX11_odds_r2 (goodIn_app gk_wsX11_odds_r3 (goodIn_app gk_wsX11_odds_r4 (goodIn_app gk_wsX11_odds_r5 gk_wsX11_odds_r6))))) gk_wsX110) gk_wsX100) gk_wsX10) gk_wsX30))
set_option maxRecDepth 20000 in
theorem gk_wsX12_odds_r1 : GoodIn LT wsX12_odds_r1 := (gi_c mw_256 (gi_c mw_695 (gi_c mw_696 (gi_c mw_697 (gi_c mw_247 (gi_c mw_698 (gi_c mw_200 (gi_c mw_562 (gi_c mw_563 (gi_c mw_564 (gi_c mw_903 (gi_c mw_904 (gi_c mw_905 (gi_c mw_906 (gi_c mw_206 (gi_c mw_1260 (gi_c mw_1261 (gi_c mw_1262 (gi_c mw_1263 (gi_c mw_1264 (gi_c mw_1265 (gi_c mw_1266 (gi_c mw_1267 (gi_c mw_1268 gi_n))))))))))))))))))))))))
set_option maxRecDepth 20000 in
theorem gk_wsX12_odds_r2 : GoodIn LT wsX12_odds_r2 := (gi_c mw_1269 (gi_c mw_1270 (gi_c mw_1271 (gi_c mw_1272 (gi_c mw_1273 (gi_c mw_633 (gi_c mw_634 (gi_c mw_635 (gi_c mw_636 (gi_c mw_585 (gi_c mw_586 (gi_c mw_587 (gi_c mw_662 (gi_c mw_663 (gi_c mw_664 (gi_c mw_665 (gi_c mw_641 (gi_c mw_642 (gi_c mw_643 (gi_c mw_644 (gi_c mw_801 (gi_c mw_802 (gi_c mw_803 (gi_c mw_804 gi_n))))))))))))))))))))))))
set_option maxRecDepth 20000 in
theorem gk_wsX12_odds_r3 : GoodIn LT wsX12_odds_r3 := (gi_c mw_815 (gi_c mw_816 (gi_c mw_817 (gi_c mw_818 (gi_c mw_793 (gi_c mw_794 (gi_c mw_795 (gi_c mw_796 (gi_c mw_699 (gi_c mw_700 (gi_c mw_701 (gi_c mw_702 (gi_c mw_870 (gi_c mw_871 (gi_c mw_872 (gi_c mw_873 (gi_c mw_874 (gi_c mw_875 (gi_c mw_876 (gi_c mw_877 (gi_c mw_707 (gi_c mw_708 (gi_c mw_709 (gi_c mw_710 gi_n))))))))))))))))))))))))
set_option maxRecDepth 20000 in
theorem gk_wsX12_odds_r4 : GoodIn LT wsX12_odds_r4 := (gi_c mw_878 (gi_c mw_879 (gi_c mw_880 (gi_c mw_881 (gi_c mw_882 (gi_c mw_883 (gi_c mw_884 (gi_c mw_907 (gi_c mw_908 (gi_c mw_909 (gi_c mw_910 gi_n)))))))))))
set_option maxRecDepth 20000 in
theorem gk_wsX12_odds : GoodIn LT wsX12_odds := (gi_c mw_1275 (goodIn_app (goodIn_app gk_wsX12_odds_r1 (goodIn_app gk_wsX12_odds_r2 (goodIn_app gk_wsX12_odds_r3 gk_wsX12_odds_r4))) gk_wsX120))
set_option maxRecDepth 20000 in
theorem gk_wsX11_book_r1 : GoodIn LT wsX11_book_r1 := (gi_c mw_37 (gi_c mw_46 (gi_c mw_11 (gi_c mw_265 (gi_c mw_25 (gi_c mw_15 (gi_c mw_267 (gi_c mw_1277 (gi_c mw_21 (gi_c mw_1278 (gi_c mw_1279 (gi_c mw_1280 (gi_c mw_1281 (gi_c mw_36 (gi_c mw_1282 (gi_c mw_160 (gi_c mw_169 (gi_c mw_1283 (gi_c mw_278 (gi_c mw_279 (gi_c mw_10 (gi_c mw_280 (gi_c mw_72 (gi_c mw_281 gi_n))))))))))))))))))))))))
set_option maxRecDepth 20000 in
theorem gk_wsX11_book_r2 : GoodIn LT wsX11_book_r2 := (gi_c mw_282 (gi_c mw_283 (gi_c mw_284 (gi_c mw_285 (gi_c mw_64 (gi_c mw_286 (gi_c mw_287 (gi_c mw_288 (gi_c mw_62 (gi_c mw_63 (gi_c mw_65 (gi_c mw_289 (gi_c mw_290 (gi_c mw_291 (gi_c mw_292 (gi_c mw_293 (gi_c mw_294 (gi_c mw_295 (gi_c mw_6 (gi_c mw_296 (gi_c mw_53 (gi_c mw_52 (gi_c mw_297 (gi_c mw_298 gi_n))))))))))))))))))))))))
set_option maxRecDepth 20000 in
theorem gk_wsX11_book_r3 : GoodIn LT wsX11_book_r3 := (gi_c mw_299 (gi_c mw_300 (gi_c mw_301 (gi_c mw_302 (gi_c mw_303 (gi_c mw_304 (gi_c mw_305 (gi_c mw_306 (gi_c mw_307 (gi_c mw_308 (gi_c mw_309 (gi_c mw_310 (gi_c mw_311 (gi_c mw_312 (gi_c mw_313 (gi_c mw_314 (gi_c mw_315 (gi_c mw_316 (gi_c mw_317 (gi_c mw_318 (gi_c mw_319 (gi_c mw_320 (gi_c mw_321 (gi_c mw_322 gi_n))))))))))))))))))))))))
set_option maxRecDepth 20000 in
theorem gk_wsX11_book_r4 : GoodIn LT wsX11_book_r4 := (gi_c mw_323 (gi_c mw_324 (gi_c mw_325 (gi_c mw_326 (gi_c mw_327 (gi_c mw_328 (gi_c mw_329 (gi_c mw_330 (gi_c mw_331 (gi_c mw_332 (gi_c mw_333 (gi_c mw_334 (gi_c mw_335 (gi_c mw_336 (gi_c mw_337 (gi_c mw_338 (gi_c mw_339 (gi_c mw_340 (gi_c mw_341 (gi_c mw_342 (gi_c mw_343 (gi_c mw_191 (gi_c mw_344 (gi_c mw_345 gi_n))))))))))))))))))))))))
set_option maxRecDepth 20000 in
theorem gk_wsX11_book_r5 : GoodIn LT wsX11_book_r5 := (gi_c mw_346 (gi_c mw_347 (gi_c mw_348 (gi_c mw_349 (gi_c mw_350 (gi_c mw_351 (gi_c mw_352 (gi_c mw_353 (gi_c mw_354 (gi_c mw_355 (gi_c mw_356 (gi_c mw_357 (gi_c mw_358 (gi_c mw_359 (gi_c mw_360 (gi_c mw_361 (gi_c mw_67 (gi_c mw_68 (gi_c mw_69 (gi_c mw_71 (gi_c mw_362 (gi_c mw_363 (gi_c mw_364 (gi_c mw_365 gi_n))))))))))))))))))))))))
set_option maxRecDepth 20000 in
theorem gk_wsX11_book_r6 : GoodIn LT wsX11_book_r6 := (gi_c mw_366 (gi_c mw_367 (gi_c mw_368 (gi_c mw_58 (gi_c mw_59 (gi_c mw_60 (gi_c mw_61 (gi_c mw_1284 (gi_c mw_370 (gi_c mw_371 (gi_c mw_372 (gi_c mw_1285 (gi_c mw_1286 (gi_c mw_1287 (gi_c mw_1288 (gi_c mw_1289 (gi_c mw_170 (gi_c mw_1290 (gi_c mw_1291 (gi_c mw_1292 (gi_c mw_1293 (gi_c mw_430 (gi_c mw_431 (gi_c mw_432 gi_n))))))))))))))))))))))))
set_option maxRecDepth 20000 in
theorem gk_wsX11_book_r7 : GoodIn LT wsX11_book_r7 := (gi_c mw_413 (gi_c mw_392 (gi_c mw_393 (gi_c mw_394 (gi_c mw_433 (gi_c mw_407 (gi_c mw_78 (gi_c mw_408 (gi_c mw_1294 (gi_c mw_1295 (gi_c mw_1296 (gi_c mw_1297 (gi_c mw_1298 (gi_c mw_1299 (gi_c mw_1300 (gi_c mw_1301 (gi_c mw_1302 (gi_c mw_1303 (gi_c mw_1304 (gi_c mw_410 (gi_c mw_411 (gi_c mw_412 (gi_c mw_1305 (gi_c mw_1306 gi_n))))))))))))))))))))))))
set_option maxRecDepth 20000 in
theorem gk_wsX11_book_r8 : GoodIn LT wsX11_book_r8 := (gi_c mw_1307 (gi_c mw_1308 (gi_c mw_161 (gi_c mw_162 (gi_c mw_163 (gi_c mw_1309 (gi_c mw_1310 (gi_c mw_1311 (gi_c mw_1312 (gi_c mw_1313 (gi_c mw_378 (gi_c mw_379 (gi_c mw_380 (gi_c mw_1314 (gi_c mw_458 (gi_c mw_459 (gi_c mw_460 (gi_c mw_461 (gi_c mw_462 (gi_c mw_463 (gi_c mw_464 (gi_c mw_465 (gi_c mw_466 (gi_c mw_467 gi_n))))))))))))))))))))))))
set_option maxRecDepth 20000 in
theorem gk_wsX11_book_r9 : GoodIn LT wsX11_book_r9 := (gi_c mw_450 (gi_c mw_468 (gi_c mw_469 (gi_c mw_7 (gi_c mw_250 (gi_c mw_896 (gi_c mw_784 (gi_c mw_785 (gi_c mw_24 (gi_c mw_786 (gi_c mw_109 (gi_c mw_110 (gi_c mw_111 (gi_c mw_112 (gi_c mw_483 (gi_c mw_475 (gi_c mw_476 (gi_c mw_477 (gi_c mw_113 (gi_c mw_114 (gi_c mw_115 (gi_c mw_116 (gi_c mw_117 (gi_c mw_1315 gi_n))))))))))))))))))))))))
set_option maxRecDepth 20000 in
theorem gk_wsX11_book_r10 : GoodIn LT wsX11_book_r10 := (gi_c mw_1316 (gi_c mw_1317 (gi_c mw_1318 (gi_c mw_164 (gi_c mw_165 (gi_c mw_166 (gi_c mw_1319 (gi_c mw_167 (gi_c mw_1320 (gi_c mw_168 (gi_c mw_1321 (gi_c mw_1322 (gi_c mw_1323 (gi_c mw_1324 (gi_c mw_1325 (gi_c mw_774 (gi_c mw_775 (gi_c mw_776 (gi_c mw_777 (gi_c mw_684 (gi_c mw_685 (gi_c mw_686 (gi_c mw_620 (gi_c mw_608 gi_n))))))))))))))))))))))))
set_option maxRecDepth 20000 in
theorem gk_wsX11_book_r11 : GoodIn LT wsX11_book_r11 := (gi_c mw_609 (gi_c mw_610 (gi_c mw_1326 (gi_c mw_807 (gi_c mw_808 (gi_c mw_809 (gi_c mw_1327 (gi_c mw_821 (gi_c mw_822 (gi_c mw_823 (gi_c mw_1328 (gi_c mw_831 (gi_c mw_832 (gi_c mw_833 (gi_c mw_754 (gi_c mw_728 (gi_c mw_729 (gi_c mw_730 (gi_c mw_118 (gi_c mw_731 (gi_c mw_692 (gi_c mw_693 (gi_c mw_1329 (gi_c mw_841 gi_n))))))))))))))))))))))))
set_option maxRecDepth 20000 in
theorem gk_wsX11_book_r12 : GoodIn LT wsX11_book_r12 := (gi_c mw_842 (gi_c mw_843 (gi_c mw_1330 (gi_c mw_1331 (gi_c mw_1332 (gi_c mw_1333 (gi_c mw_1334 (gi_c mw_1335 (gi_c mw_788 (gi_c mw_789 (gi_c mw_790 (gi_c mw_791 (gi_c mw_1336 (gi_c mw_811 (gi_c mw_812 (gi_c mw_813 (gi_c mw_615 (gi_c mw_616 (gi_c mw_617 (gi_c mw_618 (gi_c mw_619 (gi_c mw_1337 (gi_c mw_825 (gi_c mw_826 gi_n))))))))))))))))))))))))
set_option maxRecDepth 20000 in
theorem gk_wsX11_book_r13 : GoodIn LT wsX11_book_r13 := (gi_c mw_827 (gi_c mw_749 (gi_c mw_654 (gi_c mw_655 (gi_c mw_656 (gi_c mw_1338 (gi_c mw_845 (gi_c mw_846 (gi_c mw_847 (gi_c mw_848 (gi_c mw_770 (gi_c mw_849 (gi_c mw_850 (gi_c mw_851 (gi_c mw_852 (gi_c mw_853 (gi_c mw_691 (gi_c mw_854 (gi_c mw_446 (gi_c mw_447 (gi_c mw_448 (gi_c mw_102 (gi_c mw_449 (gi_c mw_451 gi_n))))))))))))))))))))))))
set_option maxRecDepth 20000 in
theorem gk_wsX11_book_r14 : GoodIn LT wsX11_book_r14 := (gi_c mw_855 (gi_c mw_856 (gi_c mw_857 (gi_c mw_858 (gi_c mw_859 (gi_c mw_860 (gi_c mw_861 (gi_c mw_862 (gi_c mw_863 (gi_c mw_864 (gi_c mw_865 (gi_c mw_866 (gi_c mw_867 (gi_c mw_868 (gi_c mw_778 (gi_c mw_779 (gi_c mw_780 (gi_c mw_19 (gi_c mw_781 (gi_c mw_134 (gi_c mw_135 (gi_c mw_136 (gi_c mw_782 (gi_c mw_783 gi_n))))))))))))))))))))))))
set_option maxRecDepth 20000 in
theorem gk_wsX11_book : GoodIn LT wsX11_book := (gi_c mw_1276 (goodIn_app (goodIn_app (goodIn_app (goodIn_app (goodIn_app (goodIn_app (goodIn_app (goodIn_app (goodIn_app gk_wsX11_book_r1 (goodIn_app gk_wsX11_book_r2 (goodIn_app gk_wsX11_book_r3 (goodIn_app gk_wsX11_book_r4 (goodIn_app gk_wsX11_book_r5 (goodIn_app gk_wsX11_book_r6 (goodIn_app gk_wsX11_book_r7 (goodIn_app gk_wsX11_book_r8 (goodIn_app gk_wsX11_book_r9 (goodIn_app gk_wsX11_book_r10 (goodIn_app gk_wsX11_book_r11 (goodIn_app gk_wsX11_book_r12 (goodIn_app gk_wsX11_book_r13 gk_wsX11_book_r14))))))))))))) gk_wsX110) gk_wsX80) gk_wsX100) gk_wsX00) gk_wsX70) gk_wsX10) gk_wsX30) gk_wsX40))
set_option maxRecDepth 20000 in
theorem gk_wsX12_book_r1 : GoodIn LT wsX12_book_r1 := (gi_c mw_256 (gi_c mw_494 (gi_c mw_1340 (gi_c mw_497 (gi_c mw_498 (gi_c mw_211 (gi_c mw_202 (gi_c mw_200 (gi_c mw_1341 (gi_c mw_205 (gi_c mw_499 (gi_c mw_206 (gi_c mw_562 (gi_c mw_563 (gi_c mw_247 (gi_c mw_564 (gi_c mw_500 (gi_c mw_501 (gi_c mw_502 (gi_c mw_503 (gi_c mw_257 (gi_c mw_504 (gi_c mw_505 (gi_c mw_506 gi_n))))))))))))))))))))))))
set_option maxRecDepth 20000 in
theorem gk_wsX12_book_r2 : GoodIn LT wsX12_book_r2 := (gi_c mw_507 (gi_c mw_508 (gi_c mw_509 (gi_c mw_510 (gi_c mw_511 (gi_c mw_512 (gi_c mw_513 (gi_c mw_514 (gi_c mw_515 (gi_c mw_516 (gi_c mw_517 (gi_c mw_518 (gi_c mw_199 (gi_c mw_519 (gi_c mw_520 (gi_c mw_521 (gi_c mw_522 (gi_c mw_523 (gi_c mw_524 (gi_c mw_1342 (gi_c mw_1343 (gi_c mw_1344 (gi_c mw_1345 (gi_c mw_228 gi_n))))))))))))))))))))))))
set_option maxRecDepth 20000 in
theorem gk_wsX12_book_r3 : GoodIn LT wsX12_book_r3 := (gi_c mw_229 (gi_c mw_230 (gi_c mw_231 (gi_c mw_537 (gi_c mw_227 (gi_c mw_529 (gi_c mw_530 (gi_c mw_531 (gi_c mw_532 (gi_c mw_573 (gi_c mw_574 (gi_c mw_575 (gi_c mw_576 (gi_c mw_546 (gi_c mw_547 (gi_c mw_548 (gi_c mw_549 (gi_c mw_204 (gi_c mw_538 (gi_c mw_539 (gi_c mw_540 (gi_c mw_541 (gi_c mw_550 (gi_c mw_551 gi_n))))))))))))))))))))))))
set_option maxRecDepth 20000 in
theorem gk_wsX12_book_r4 : GoodIn LT wsX12_book_r4 := (gi_c mw_552 (gi_c mw_553 (gi_c mw_203 (gi_c mw_569 (gi_c mw_570 (gi_c mw_571 (gi_c mw_572 (gi_c mw_558 (gi_c mw_559 (gi_c mw_560 (gi_c mw_561 (gi_c mw_588 (gi_c mw_589 (gi_c mw_590 (gi_c mw_591 (gi_c mw_592 (gi_c mw_593 (gi_c mw_594 (gi_c mw_595 (gi_c mw_903 (gi_c mw_904 (gi_c mw_905 (gi_c mw_906 (gi_c mw_1346 gi_n))))))))))))))))))))))))
set_option maxRecDepth 20000 in
theorem gk_wsX12_book_r5 : GoodIn LT wsX12_book_r5 := (gi_c mw_1347 (gi_c mw_1348 (gi_c mw_1349 (gi_c mw_793 (gi_c mw_794 (gi_c mw_795 (gi_c mw_796 (gi_c mw_699 (gi_c mw_700 (gi_c mw_701 (gi_c mw_702 (gi_c mw_585 (gi_c mw_586 (gi_c mw_587 (gi_c mw_633 (gi_c mw_634 (gi_c mw_635 (gi_c mw_636 (gi_c mw_801 (gi_c mw_802 (gi_c mw_803 (gi_c mw_804 (gi_c mw_815 (gi_c mw_816 gi_n))))))))))))))))))))))))
set_option maxRecDepth 20000 in
theorem gk_wsX12_book_r6 : GoodIn LT wsX12_book_r6 := (gi_c mw_817 (gi_c mw_818 (gi_c mw_641 (gi_c mw_642 (gi_c mw_643 (gi_c mw_644 (gi_c mw_662 (gi_c mw_663 (gi_c mw_664 (gi_c mw_665 (gi_c mw_835 (gi_c mw_836 (gi_c mw_837 (gi_c mw_838 (gi_c mw_737 (gi_c mw_738 (gi_c mw_739 (gi_c mw_740 (gi_c mw_870 (gi_c mw_871 (gi_c mw_872 (gi_c mw_873 (gi_c mw_874 (gi_c mw_875 gi_n))))))))))))))))))))))))
set_option maxRecDepth 20000 in
theorem gk_wsX12_book_r7 : GoodIn LT wsX12_book_r7 := (gi_c mw_876 (gi_c mw_877 (gi_c mw_707 (gi_c mw_708 (gi_c mw_709 (gi_c mw_710 (gi_c mw_878 (gi_c mw_879 (gi_c mw_880 (gi_c mw_881 (gi_c mw_882 (gi_c mw_883 (gi_c mw_884 (gi_c mw_797 (gi_c mw_798 (gi_c mw_799 (gi_c mw_800 (gi_c mw_907 (gi_c mw_908 (gi_c mw_909 (gi_c mw_910 gi_n)))))))))))))))))))))
set_option maxRecDepth 20000 in
theorem gk_wsX12_book : GoodIn LT wsX12_book := (gi_c mw_1339 (goodIn_app (goodIn_app gk_wsX12_book_r1 (goodIn_app gk_wsX12_book_r2 (goodIn_app gk_wsX12_book_r3 (goodIn_app gk_wsX12_book_r4 (goodIn_app gk_wsX12_book_r5 (goodIn_app gk_wsX12_book_r6 gk_wsX12_book_r7)))))) gk_wsX120))
set_option maxRecDepth 20000 in
theorem gk_wsX11_told : GoodIn LT wsX11_told := (gi_c mw_1350 (goodIn_app (goodIn_app (gi_c mw_37 (gi_c mw_1351 (gi_c mw_1278 (gi_c mw_1277 (gi_c mw_1352 (gi_c mw_1353 gi_n)))))) gk_wsX110) gk_wsX00))
set_option maxRecDepth 20000 in
theorem gk_wsX12_told : GoodIn LT wsX12_told := (gi_c mw_1354 (goodIn_app (gi_c mw_256 (gi_c mw_1341 (gi_c mw_211 (gi_c mw_562 (gi_c mw_563 (gi_c mw_247 (gi_c mw_564 gi_n))))))) gk_wsX120))
set_option maxRecDepth 20000 in
theorem gk_wsX11_sentence_r1 : GoodIn LT wsX11_sentence_r1 := (gi_c mw_33 (gi_c mw_46 (gi_c mw_11 (gi_c mw_265 (gi_c mw_15 (gi_c mw_268 (gi_c mw_1356 (gi_c mw_1357 (gi_c mw_1358 (gi_c mw_1359 (gi_c mw_32 (gi_c mw_1360 (gi_c mw_152 (gi_c mw_153 (gi_c mw_154 (gi_c mw_1361 (gi_c mw_486 (gi_c mw_487 (gi_c mw_84 (gi_c mw_488 (gi_c mw_126 (gi_c mw_1362 (gi_c mw_278 (gi_c mw_279 gi_n))))))))))))))))))))))))
set_option maxRecDepth 20000 in
theorem gk_wsX11_sentence_r2 : GoodIn LT wsX11_sentence_r2 := (gi_c mw_10 (gi_c mw_280 (gi_c mw_72 (gi_c mw_281 (gi_c mw_282 (gi_c mw_283 (gi_c mw_284 (gi_c mw_285 (gi_c mw_64 (gi_c mw_286 (gi_c mw_287 (gi_c mw_288 (gi_c mw_62 (gi_c mw_63 (gi_c mw_65 (gi_c mw_289 (gi_c mw_290 (gi_c mw_291 (gi_c mw_292 (gi_c mw_293 (gi_c mw_294 (gi_c mw_295 (gi_c mw_6 (gi_c mw_296 gi_n))))))))))))))))))))))))
set_option maxRecDepth 20000 in
theorem gk_wsX11_sentence_r3 : GoodIn LT wsX11_sentence_r3 := (gi_c mw_53 (gi_c mw_52 (gi_c mw_297 (gi_c mw_298 (gi_c mw_299 (gi_c mw_300 (gi_c mw_301 (gi_c mw_302 (gi_c mw_303 (gi_c mw_304 (gi_c mw_305 (gi_c mw_306 (gi_c mw_307 (gi_c mw_308 (gi_c mw_309 (gi_c mw_310 (gi_c mw_311 (gi_c mw_312 (gi_c mw_313 (gi_c mw_314 (gi_c mw_315 (gi_c mw_316 (gi_c mw_317 (gi_c mw_318 gi_n))))))))))))))))))))))))
set_option maxRecDepth 20000 in
theorem gk_wsX11_sentence_r4 : GoodIn LT wsX11_sentence_r4 := (gi_c mw_319 (gi_c mw_320 (gi_c mw_321 (gi_c mw_322 (gi_c mw_323 (gi_c mw_324 (gi_c mw_325 (gi_c mw_326 (gi_c mw_327 (gi_c mw_328 (gi_c mw_329 (gi_c mw_330 (gi_c mw_331 (gi_c mw_332 (gi_c mw_333 (gi_c mw_334 (gi_c mw_335 (gi_c mw_336 (gi_c mw_337 (gi_c mw_338 (gi_c mw_339 (gi_c mw_340 (gi_c mw_341 (gi_c mw_342 gi_n))))))))))))))))))))))))
set_option maxRecDepth 20000 in
theorem gk_wsX11_sentence_r5 : GoodIn LT wsX11_sentence_r5 := (gi_c mw_343 (gi_c mw_191 (gi_c mw_344 (gi_c mw_345 (gi_c mw_346 (gi_c mw_347 (gi_c mw_348 (gi_c mw_349 (gi_c mw_350 (gi_c mw_351 (gi_c mw_352 (gi_c mw_353 (gi_c mw_354 (gi_c mw_355 (gi_c mw_356 (gi_c mw_357 (gi_c mw_358 (gi_c mw_359 (gi_c mw_360 (gi_c mw_361 (gi_c mw_67 (gi_c mw_68 (gi_c mw_69 (gi_c mw_71 gi_n))))))))))))))))))))))))
set_option maxRecDepth 20000 in
theorem gk_wsX11_sentence_r6 : GoodIn LT wsX11_sentence_r6 := (gi_c mw_362 (gi_c mw_363 (gi_c mw_364 (gi_c mw_365 (gi_c mw_366 (gi_c mw_367 (gi_c mw_368 (gi_c mw_58 (gi_c mw_59 (gi_c mw_60 (gi_c mw_61 (gi_c mw_1363 (gi_c mw_1364 (gi_c mw_1365 (gi_c mw_1366 (gi_c mw_1367 (gi_c mw_1368 (gi_c mw_1369 (gi_c mw_1370 (gi_c mw_378 (gi_c mw_379 (gi_c mw_380 (gi_c mw_1371 (gi_c mw_1372 gi_n))))))))))))))))))))))))
set_option maxRecDepth 20000 in
theorem gk_wsX11_sentence_r7 : GoodIn LT wsX11_sentence_r7 := (gi_c mw_1373 (gi_c mw_1374 (gi_c mw_1375 (gi_c mw_127 (gi_c mw_1376 (gi_c mw_1377 (gi_c mw_1378 (gi_c mw_1379 (gi_c mw_1380 (gi_c mw_1381 (gi_c mw_1382 (gi_c mw_1383 (gi_c mw_462 (gi_c mw_463 (gi_c mw_464 (gi_c mw_1384 (gi_c mw_392 (gi_c mw_393 (gi_c mw_394 (gi_c mw_1385 (gi_c mw_458 (gi_c mw_459 (gi_c mw_460 (gi_c mw_461 gi_n))))))))))))))))))))))))
set_option maxRecDepth 20000 in
theorem gk_wsX11_sentence_r8 : GoodIn LT wsX11_sentence_r8 := (gi_c mw_413 (gi_c mw_1386 (gi_c mw_1387 (gi_c mw_1388 (gi_c mw_1389 (gi_c mw_1390 (gi_c mw_1391 (gi_c mw_410 (gi_c mw_411 (gi_c mw_412 (gi_c mw_1392 (gi_c mw_1393 (gi_c mw_1394 (gi_c mw_1395 (gi_c mw_155 (gi_c mw_1396 (gi_c mw_1397 (gi_c mw_1398 (gi_c mw_1399 (gi_c mw_1400 (gi_c mw_430 (gi_c mw_431 (gi_c mw_432 (gi_c mw_433 gi_n))))))))))))))))))))))))
set_option maxRecDepth 20000 in
theorem gk_wsX11_sentence_r9 : GoodIn LT wsX11_sentence_r9 := (gi_c mw_407 (gi_c mw_78 (gi_c mw_408 (gi_c mw_1401 (gi_c mw_370 (gi_c mw_371 (gi_c mw_372 (gi_c mw_465 (gi_c mw_466 (gi_c mw_467 (gi_c mw_450 (gi_c mw_468 (gi_c mw_469 (gi_c mw_7 (gi_c mw_250 (gi_c mw_1402 (gi_c mw_1403 (gi_c mw_1404 (gi_c mw_1405 (gi_c mw_1406 (gi_c mw_475 (gi_c mw_476 (gi_c mw_477 gi_n)))))))))))))))))))))))
set_option maxRecDepth 20000 in
theorem gk_wsX11_sentence : GoodIn LT wsX11_sentence := (gi_c mw_1355 (goodIn_app (goodIn_app (goodIn_app (goodIn_app (goodIn_app (goodIn_app (goodIn_app (goodIn_app gk_wsX11_sentence_r1 (goodIn_app gk_wsX11_sentence_r2 (goodIn_app gk_wsX11_sentence_r3 (goodIn_app gk_wsX11_sentence_r4 (goodIn_app gk_wsX11_sentence_r5 (goodIn_app gk_wsX11_sentence_r6 (goodIn_app gk_wsX11_sentence_r7 (goodIn_app gk_wsX11_sentence_r8 gk_wsX11_sentence_r9)))))))) gk_wsX110) gk_wsX80) gk_wsX100) gk_wsX60) gk_wsX50) gk_wsX70) gk_wsX10))
set_option maxRecDepth 20000 in
theorem gk_wsX12_sentence_r1 : GoodIn LT wsX12_sentence_r1 := (gi_c mw_256 (gi_c mw_494 (gi_c mw_1408 (gi_c mw_1409 (gi_c mw_1410 (gi_c mw_1411 (gi_c mw_1412 (gi_c mw_497 (gi_c mw_498 (gi_c mw_200 (gi_c mw_202 (gi_c mw_500 (gi_c mw_501 (gi_c mw_502 (gi_c mw_247 (gi_c mw_503 (gi_c mw_257 (gi_c mw_504 (gi_c mw_505 (gi_c mw_506 (gi_c mw_507 (gi_c mw_508 (gi_c mw_509 (gi_c mw_510 gi_n))))))))))))))))))))))))
set_option maxRecDepth 20000 in
theorem gk_wsX12_sentence_r2 : GoodIn LT wsX12_sentence_r2 := (gi_c mw_511 (gi_c mw_512 (gi_c mw_513 (gi_c mw_514 (gi_c mw_515 (gi_c mw_516 (gi_c mw_517 (gi_c mw_518 (gi_c mw_199 (gi_c mw_519 (gi_c mw_520 (gi_c mw_521 (gi_c mw_522 (gi_c mw_523 (gi_c mw_524 (gi_c mw_1413 (gi_c mw_1414 (gi_c mw_1415 (gi_c mw_1416 (gi_c mw_212 (gi_c mw_1417 (gi_c mw_1418 (gi_c mw_1419 (gi_c mw_1420 gi_n))))))))))))))))))))))))
set_option maxRecDepth 20000 in
theorem gk_wsX12_sentence_r3 : GoodIn LT wsX12_sentence_r3 := (gi_c mw_1421 (gi_c mw_1422 (gi_c mw_1423 (gi_c mw_1424 (gi_c mw_538 (gi_c mw_539 (gi_c mw_540 (gi_c mw_541 (gi_c mw_1425 (gi_c mw_1426 (gi_c mw_1427 (gi_c mw_1428 (gi_c mw_233 (gi_c mw_232 (gi_c mw_529 (gi_c mw_530 (gi_c mw_531 (gi_c mw_532 (gi_c mw_592 (gi_c mw_593 (gi_c mw_594 (gi_c mw_595 (gi_c mw_1429 (gi_c mw_1430 gi_n))))))))))))))))))))))))
set_option maxRecDepth 20000 in
theorem gk_wsX12_sentence_r4 : GoodIn LT wsX12_sentence_r4 := (gi_c mw_1431 (gi_c mw_1432 (gi_c mw_234 (gi_c mw_537 (gi_c mw_1433 (gi_c mw_1434 (gi_c mw_1435 (gi_c mw_1436 (gi_c mw_235 (gi_c mw_236 (gi_c mw_237 (gi_c mw_238 (gi_c mw_239 (gi_c mw_240 (gi_c mw_241 (gi_c mw_242 (gi_c mw_243 (gi_c mw_573 (gi_c mw_574 (gi_c mw_575 (gi_c mw_576 (gi_c mw_546 (gi_c mw_547 (gi_c mw_548 gi_n))))))))))))))))))))))))
set_option maxRecDepth 20000 in
theorem gk_wsX12_sentence_r5 : GoodIn LT wsX12_sentence_r5 := (gi_c mw_549 (gi_c mw_204 (gi_c mw_550 (gi_c mw_551 (gi_c mw_552 (gi_c mw_553 (gi_c mw_203 gi_n)))))))
set_option maxRecDepth 20000 in
theorem gk_wsX12_sentence : GoodIn LT wsX12_sentence := (gi_c mw_1407 (goodIn_app (goodIn_app gk_wsX12_sentence_r1 (goodIn_app gk_wsX12_sentence_r2 (goodIn_app gk_wsX12_sentence_r3 (goodIn_app gk_wsX12_sentence_r4 gk_wsX12_sentence_r5)))) gk_wsX120))
set_option maxRecDepth 20000 in
theorem gk_wsX11_said_r1 : GoodIn LT wsX11_said_r1 := (gi_c mw_15 (gi_c mw_268 (gi_c mw_1438 (gi_c mw_267 (gi_c mw_20 (gi_c mw_682 (gi_c mw_1439 (gi_c mw_1440 (gi_c mw_1441 (gi_c mw_84 (gi_c mw_1442 (gi_c mw_126 (gi_c mw_127 (gi_c mw_128 (gi_c mw_1443 (gi_c mw_1444 (gi_c mw_1445 (gi_c mw_1446 (gi_c mw_1447 (gi_c mw_1448 (gi_c mw_1449 (gi_c mw_1450 (gi_c mw_1451 (gi_c mw_1452 gi_n))))))))))))))))))))))))
set_option maxRecDepth 20000 in
theorem gk_wsX11_said_r2 : GoodIn LT wsX11_said_r2 := (gi_c mw_1453 (gi_c mw_1454 (gi_c mw_1455 (gi_c mw_1456 (gi_c mw_684 (gi_c mw_685 (gi_c mw_24 (gi_c mw_686 (gi_c mw_110 (gi_c mw_1457 (gi_c mw_688 (gi_c mw_689 (gi_c mw_690 (gi_c mw_118 (gi_c mw_691 (gi_c mw_692 (gi_c mw_450 (gi_c mw_693 (gi_c mw_1458 (gi_c mw_654 (gi_c mw_655 (gi_c mw_656 (gi_c mw_109 (gi_c mw_615 gi_n))))))))))))))))))))))))
set_option maxRecDepth 20000 in
theorem gk_wsX11_said_r3 : GoodIn LT wsX11_said_r3 := (gi_c mw_616 (gi_c mw_617 (gi_c mw_618 (gi_c mw_114 (gi_c mw_112 (gi_c mw_619 (gi_c mw_113 (gi_c mw_620 (gi_c mw_608 (gi_c mw_609 (gi_c mw_610 (gi_c mw_111 (gi_c mw_1459 (gi_c mw_446 (gi_c mw_447 (gi_c mw_78 (gi_c mw_448 (gi_c mw_102 (gi_c mw_449 (gi_c mw_451 (gi_c mw_1460 (gi_c mw_1461 (gi_c mw_1462 (gi_c mw_1463 gi_n))))))))))))))))))))))))
set_option maxRecDepth 20000 in
theorem gk_wsX11_said_r4 : GoodIn LT wsX11_said_r4 := (gi_c mw_756 (gi_c mw_757 (gi_c mw_758 (gi_c mw_759 (gi_c mw_760 (gi_c mw_761 (gi_c mw_1464 (gi_c mw_1465 gi_n))))))))
set_option maxRecDepth 20000 in
theorem gk_wsX11_said : GoodIn LT wsX11_said := (gi_c mw_1437 (goodIn_app (goodIn_app (goodIn_app (goodIn_app (goodIn_app (goodIn_app gk_wsX11_said_r1 (goodIn_app gk_wsX11_said_r2 (goodIn_app gk_wsX11_said_r3 gk_wsX11_said_r4))) gk_wsX110) gk_wsX100) gk_wsX50) gk_wsX10) gk_wsX30))
set_option maxRecDepth 20000 in
theorem gk_wsX12_said_r1 : GoodIn LT wsX12_said_r1 := (gi_c mw_256 (gi_c mw_200 (gi_c mw_1467 (gi_c mw_1468 (gi_c mw_1469 (gi_c mw_247 (gi_c mw_1470 (gi_c mw_214 (gi_c mw_1471 (gi_c mw_1472 (gi_c mw_1473 (gi_c mw_1474 (gi_c mw_699 (gi_c mw_700 (gi_c mw_701 (gi_c mw_702 (gi_c mw_585 (gi_c mw_586 (gi_c mw_587 (gi_c mw_711 (gi_c mw_712 (gi_c mw_713 (gi_c mw_714 (gi_c mw_662 gi_n))))))))))))))))))))))))
set_option maxRecDepth 20000 in
theorem gk_wsX12_said_r2 : GoodIn LT wsX12_said_r2 := (gi_c mw_663 (gi_c mw_664 (gi_c mw_665 (gi_c mw_641 (gi_c mw_642 (gi_c mw_643 (gi_c mw_644 (gi_c mw_633 (gi_c mw_634 (gi_c mw_635 (gi_c mw_636 (gi_c mw_707 (gi_c mw_708 (gi_c mw_709 (gi_c mw_710 (gi_c mw_1475 (gi_c mw_1476 (gi_c mw_1477 gi_n))))))))))))))))))
set_option maxRecDepth 20000 in
theorem gk_wsX12_said : GoodIn LT wsX12_said := (gi_c mw_1466 (goodIn_app (goodIn_app gk_wsX12_said_r1 gk_wsX12_said_r2) gk_wsX120))
set_option maxRecDepth 20000 in
theorem gk_wsX11_image_r1 : GoodIn LT wsX11_image_r1 := (gi_c mw_16 (gi_c mw_15 (gi_c mw_1479 (gi_c mw_1480 (gi_c mw_1481 (gi_c mw_1482 (gi_c mw_14 (gi_c mw_1483 (gi_c mw_79 (gi_c mw_81 (gi_c mw_85 (gi_c mw_1484 (gi_c mw_471 (gi_c mw_472 (gi_c mw_78 (gi_c mw_473 (gi_c mw_90 (gi_c mw_91 (gi_c mw_92 (gi_c mw_93 (gi_c mw_94 (gi_c mw_474 (gi_c mw_475 (gi_c mw_476 gi_n))))))))))))))))))))))))
set_option maxRecDepth 20000 in
theorem gk_wsX11_image_r2 : GoodIn LT wsX11_image_r2 := (gi_c mw_477 (gi_c mw_95 (gi_c mw_96 (gi_c mw_97 (gi_c mw_98 (gi_c mw_99 (gi_c mw_100 (gi_c mw_101 (gi_c mw_102 (gi_c mw_103 (gi_c mw_104 (gi_c mw_1485 (gi_c mw_784 (gi_c mw_785 (gi_c mw_24 (gi_c mw_786 (gi_c mw_109 (gi_c mw_110 (gi_c mw_111 (gi_c mw_112 (gi_c mw_483 (gi_c mw_113 (gi_c mw_114 (gi_c mw_115 gi_n))))))))))))))))))))))))
set_option maxRecDepth 20000 in
theorem gk_wsX11_image_r3 : GoodIn LT wsX11_image_r3 := (gi_c mw_116 (gi_c mw_117 (gi_c mw_1486 (gi_c mw_1403 (gi_c mw_1404 (gi_c mw_84 (gi_c mw_1405 (gi_c mw_126 (gi_c mw_127 (gi_c mw_1406 gi_n))))))))))
set_option maxRecDepth 20000 in
theorem gk_wsX11_image : GoodIn LT wsX11_image := (gi_c mw_1478 (goodIn_app (goodIn_app (goodIn_app (goodIn_app (goodIn_app (goodIn_app gk_wsX11_image_r1 (goodIn_app gk_wsX11_image_r2 gk_wsX11_image_r3)) gk_wsX110) gk_wsX100) gk_wsX10) gk_wsX30) gk_wsX50))
set_option maxRecDepth 20000 in
theorem gk_wsX12_image : GoodIn LT wsX12_image := (gi_c mw_1487 (goodIn_app (gi_c mw_256 (gi_c mw_215 (gi_c mw_200 (gi_c mw_216 (gi_c mw_203 (gi_c mw_217 (gi_c mw_562 (gi_c mw_563 (gi_c mw_247 (gi_c mw_564 gi_n)))))))))) gk_wsX120))
set_option maxRecDepth 20000 in
theorem gk_wsX11_restore_r1 : GoodIn LT wsX11_restore_r1 := (gi_c mw_16 (gi_c mw_1479 (gi_c mw_15 (gi_c mw_21 (gi_c mw_1480 (gi_c mw_1481 (gi_c mw_1482 (gi_c mw_14 (gi_c mw_1483 (gi_c mw_79 (gi_c mw_81 (gi_c mw_85 (gi_c mw_1484 (gi_c mw_471 (gi_c mw_472 (gi_c mw_78 (gi_c mw_473 (gi_c mw_90 (gi_c mw_91 (gi_c mw_92 (gi_c mw_93 (gi_c mw_94 (gi_c mw_474 (gi_c mw_475 gi_n))))))))))))))))))))))))
set_option maxRecDepth 20000 in
theorem gk_wsX11_restore_r2 : GoodIn LT wsX11_restore_r2 := (gi_c mw_476 (gi_c mw_477 (gi_c mw_95 (gi_c mw_96 (gi_c mw_97 (gi_c mw_98 (gi_c mw_99 (gi_c mw_100 (gi_c mw_101 (gi_c mw_102 (gi_c mw_103 (gi_c mw_104 (gi_c mw_1485 (gi_c mw_784 (gi_c mw_785 (gi_c mw_24 (gi_c mw_786 (gi_c mw_109 (gi_c mw_110 (gi_c mw_111 (gi_c mw_112 (gi_c mw_483 (gi_c mw_113 (gi_c mw_114 gi_n))))))))))))))))))))))))
set_option maxRecDepth 20000 in
theorem gk_wsX11_restore_r3 : GoodIn LT wsX11_restore_r3 := (gi_c mw_115 (gi_c mw_116 (gi_c mw_117 (gi_c mw_1486 (gi_c mw_1403 (gi_c mw_1404 (gi_c mw_84 (gi_c mw_1405 (gi_c mw_126 (gi_c mw_127 (gi_c mw_1406 (gi_c mw_489 (gi_c mw_490 (gi_c mw_491 (gi_c mw_19 (gi_c mw_492 (gi_c mw_136 gi_n)))))))))))))))))
set_option maxRecDepth 20000 in
theorem gk_wsX11_restore : GoodIn LT wsX11_restore := (gi_c mw_1488 (goodIn_app (goodIn_app (goodIn_app (goodIn_app (goodIn_app (goodIn_app (goodIn_app gk_wsX11_restore_r1 (goodIn_app gk_wsX11_restore_r2 gk_wsX11_restore_r3)) gk_wsX110) gk_wsX100) gk_wsX10) gk_wsX30) gk_wsX50) gk_wsX40))
set_option maxRecDepth 20000 in
theorem gk_wsX12_restore : GoodIn LT wsX12_restore := (gi_c mw_1489 (goodIn_app (gi_c mw_256 (gi_c mw_217 (gi_c mw_200 (gi_c mw_215 (gi_c mw_203 (gi_c mw_216 (gi_c mw_499 (gi_c mw_562 (gi_c mw_563 (gi_c mw_247 (gi_c mw_564 gi_n))))))))))) gk_wsX120))
set_option maxRecDepth 20000 in
theorem gk_wsX11_count : GoodIn LT wsX11_count := (gi_c mw_1490 (goodIn_app (goodIn_app (goodIn_app (goodIn_app (gi_c mw_15 (gi_c mw_20 (gi_c mw_606 (gi_c mw_682 (gi_c mw_721 (gi_c mw_922 (gi_c mw_7 (gi_c mw_250 gi_n)))))))) gk_wsX110) gk_wsX100) gk_wsX10) gk_wsX70))
set_option maxRecDepth 20000 in
theorem gk_wsX12_count : GoodIn LT wsX12_count := (gi_c mw_1491 (goodIn_app (gi_c mw_256 (gi_c mw_257 (gi_c mw_200 (gi_c mw_562 (gi_c mw_563 (gi_c mw_247 (gi_c mw_564 gi_n))))))) gk_wsX120))
theorem gv_X11_init : GoodIn LT wsX11_init := gk_wsX11_init
theorem gv_X12_init : GoodIn LT wsX12_init := gk_wsX12_init
theorem gv_X11_feed : GoodIn LT (wsV RL 26 RX11 yX11_feed wsX11_feed) := goodIn_app (gi_c mw_1492 (gi_c mw_1493 (gi_c mw_1494 (gi_c mw_450 gi_n)))) gk_wsX11_feed
theorem gv_X12_feed : GoodIn LT (wsV RL 30 RX12 yX12_feed wsX12_feed) := goodIn_app (gi_c mw_1495 (gi_c mw_1496 (gi_c mw_1497 (gi_c mw_247 gi_n)))) gk_wsX12_feed
theorem gv_X11_end : GoodIn LT (wsV RL 31 RX11 yX11_end wsX11_end) := goodIn_app (gi_c mw_1498 (gi_c mw_1499 (gi_c mw_1500 (gi_c mw_450 gi_n)))) gk_wsX11_end
theorem gv_X12_end : GoodIn LT (wsV RL 35 RX12 yX12_end wsX12_end) := goodIn_app (gi_c mw_1501 (gi_c mw_1502 (gi_c mw_1503 (gi_c mw_247 gi_n)))) gk_wsX12_end
theorem gv_X11_burgh : GoodIn LT (wsV RL 36 RX11 yX11_burgh wsX11_burgh) := goodIn_app (gi_c mw_1504 (gi_c mw_1505 (gi_c mw_1506 (gi_c mw_450 gi_n)))) gk_wsX11_burgh
theorem gv_X12_burgh : GoodIn LT (wsV RL 40 RX12 yX12_burgh wsX12_burgh) := goodIn_app (gi_c mw_1507 (gi_c mw_1508 (gi_c mw_1509 (gi_c mw_247 gi_n)))) gk_wsX12_burgh
theorem gv_X11_fault : GoodIn LT (wsV RL 41 RX11 yX11_fault wsX11_fault) := goodIn_app (gi_c mw_1510 (gi_c mw_1511 (gi_c mw_1512 (gi_c mw_450 gi_n)))) gk_wsX11_fault
theorem gv_X12_fault : GoodIn LT (wsV RL 44 RX12 yX12_fault wsX12_fault) := goodIn_app (gi_c mw_1513 (gi_c mw_1514 (gi_c mw_1515 (gi_c mw_247 gi_n)))) gk_wsX12_fault
theorem gv_X11_clock : GoodIn LT (wsV RL 45 RX11 yX11_clock wsX11_clock) := goodIn_app (gi_c mw_1516 (gi_c mw_1517 (gi_c mw_1518 (gi_c mw_450 gi_n)))) gk_wsX11_clock
theorem gv_X12_clock : GoodIn LT (wsV RL 48 RX12 yX12_clock wsX12_clock) := goodIn_app (gi_c mw_1519 (gi_c mw_1520 (gi_c mw_1521 (gi_c mw_247 gi_n)))) gk_wsX12_clock
theorem gv_L_wrong : GoodIn LT (va_wsS RL 49 yL_wrong wsL_wrongB) := goodIn_app (gi_c mw_1522 (gi_c mw_1523 (gi_c mw_1524 gi_n))) gk_wsL_wrongB
theorem gv_X12_wrong : GoodIn LT (wsV RL 54 RX12 yX12_wrong wsX12_wrong) := goodIn_app (gi_c mw_1525 (gi_c mw_1526 (gi_c mw_1527 (gi_c mw_247 gi_n)))) gk_wsX12_wrong
theorem gv_X12_thrown : GoodIn LT (wsV RL 55 RX12 yX12_thrown wsX12_thrown) := goodIn_app (gi_c mw_1528 (gi_c mw_1529 (gi_c mw_1530 (gi_c mw_247 gi_n)))) gk_wsX12_thrown
theorem gv_L_master : GoodIn LT (va_wsS RL 58 yL_master wsL_masterB) := goodIn_app (gi_c mw_1531 (gi_c mw_1532 (gi_c mw_1524 gi_n))) gk_wsL_masterB
theorem gv_X12_master : GoodIn LT (wsV RL 61 RX12 yX12_master wsX12_master) := goodIn_app (gi_c mw_1533 (gi_c mw_1534 (gi_c mw_1535 (gi_c mw_247 gi_n)))) gk_wsX12_master
theorem gv_X11_meet : GoodIn LT (wsV RL 62 RX11 yX11_meet wsX11_meet) := goodIn_app (gi_c mw_1536 (gi_c mw_1537 (gi_c mw_1538 (gi_c mw_450 gi_n)))) gk_wsX11_meet
theorem gv_X12_meet : GoodIn LT (wsV RL 65 RX12 yX12_meet wsX12_meet) := goodIn_app (gi_c mw_1539 (gi_c mw_1540 (gi_c mw_1541 (gi_c mw_247 gi_n)))) gk_wsX12_meet
theorem gv_X11_now : GoodIn LT (wsV RL 66 RX11 yX11_now wsX11_now) := goodIn_app (gi_c mw_1542 (gi_c mw_1543 (gi_c mw_1544 (gi_c mw_450 gi_n)))) gk_wsX11_now
theorem gv_X12_now : GoodIn LT (wsV RL 69 RX12 yX12_now wsX12_now) := goodIn_app (gi_c mw_1545 (gi_c mw_1546 (gi_c mw_1547 (gi_c mw_247 gi_n)))) gk_wsX12_now
theorem gv_X11_set : GoodIn LT (wsV RL 70 RX11 yX11_set wsX11_set) := goodIn_app (gi_c mw_1548 (gi_c mw_1549 (gi_c mw_1550 (gi_c mw_450 gi_n)))) gk_wsX11_set
theorem gv_X12_set : GoodIn LT (wsV RL 73 RX12 yX12_set wsX12_set) := goodIn_app (gi_c mw_1551 (gi_c mw_1552 (gi_c mw_1553 (gi_c mw_247 gi_n)))) gk_wsX12_set
theorem gv_X11_stop : GoodIn LT (wsV RL 74 RX11 yX11_stop wsX11_stop) := goodIn_app (gi_c mw_1554 (gi_c mw_1555 (gi_c mw_1556 (gi_c mw_450 gi_n)))) gk_wsX11_stop
theorem gv_X12_stop : GoodIn LT (wsV RL 77 RX12 yX12_stop wsX12_stop) := goodIn_app (gi_c mw_1557 (gi_c mw_1558 (gi_c mw_1559 (gi_c mw_247 gi_n)))) gk_wsX12_stop
theorem gv_X11_start : GoodIn LT (wsV RL 78 RX11 yX11_start wsX11_start) := goodIn_app (gi_c mw_1560 (gi_c mw_1561 (gi_c mw_1562 (gi_c mw_450 gi_n)))) gk_wsX11_start
theorem gv_X12_start : GoodIn LT (wsV RL 81 RX12 yX12_start wsX12_start) := goodIn_app (gi_c mw_1563 (gi_c mw_1564 (gi_c mw_1565 (gi_c mw_247 gi_n)))) gk_wsX12_start
theorem gv_X11_move : GoodIn LT (wsV RL 82 RX11 yX11_move wsX11_move) := goodIn_app (gi_c mw_1566 (gi_c mw_1567 (gi_c mw_1568 (gi_c mw_450 gi_n)))) gk_wsX11_move
theorem gv_X12_move : GoodIn LT (wsV RL 85 RX12 yX12_move wsX12_move) := goodIn_app (gi_c mw_1569 (gi_c mw_1570 (gi_c mw_1571 (gi_c mw_247 gi_n)))) gk_wsX12_move
theorem gv_X11_minutes : GoodIn LT (wsV RL 86 RX11 yX11_minutes wsX11_minutes) := goodIn_app (gi_c mw_1572 (gi_c mw_1573 (gi_c mw_1574 (gi_c mw_450 gi_n)))) gk_wsX11_minutes
theorem gv_X12_minutes : GoodIn LT (wsV RL 89 RX12 yX12_minutes wsX12_minutes) := goodIn_app (gi_c mw_1575 (gi_c mw_1576 (gi_c mw_1577 (gi_c mw_247 gi_n)))) gk_wsX12_minutes
theorem gv_X11_undo : GoodIn LT (wsV RL 90 RX11 yX11_undo wsX11_undo) := goodIn_app (gi_c mw_1578 (gi_c mw_1579 (gi_c mw_1580 (gi_c mw_450 gi_n)))) gk_wsX11_undo
theorem gv_X12_undo : GoodIn LT (wsV RL 93 RX12 yX12_undo wsX12_undo) := goodIn_app (gi_c mw_1581 (gi_c mw_1582 (gi_c mw_1583 (gi_c mw_247 gi_n)))) gk_wsX12_undo
theorem gv_X11_comes : GoodIn LT (wsV RL 94 RX11 yX11_comes wsX11_comes) := goodIn_app (gi_c mw_1584 (gi_c mw_1585 (gi_c mw_1586 (gi_c mw_450 gi_n)))) gk_wsX11_comes
theorem gv_X12_comes : GoodIn LT (wsV RL 97 RX12 yX12_comes wsX12_comes) := goodIn_app (gi_c mw_1587 (gi_c mw_1588 (gi_c mw_1589 (gi_c mw_247 gi_n)))) gk_wsX12_comes
theorem gv_X11_all : GoodIn LT (wsV RL 98 RX11 yX11_all wsX11_all) := goodIn_app (gi_c mw_1590 (gi_c mw_1591 (gi_c mw_1592 (gi_c mw_450 gi_n)))) gk_wsX11_all
theorem gv_X12_all : GoodIn LT (wsV RL 101 RX12 yX12_all wsX12_all) := goodIn_app (gi_c mw_1593 (gi_c mw_1594 (gi_c mw_1595 (gi_c mw_247 gi_n)))) gk_wsX12_all
theorem gv_X11_missed : GoodIn LT (wsV RL 102 RX11 yX11_missed wsX11_missed) := goodIn_app (gi_c mw_1596 (gi_c mw_1597 (gi_c mw_1598 (gi_c mw_450 gi_n)))) gk_wsX11_missed
theorem gv_X12_missed : GoodIn LT (wsV RL 105 RX12 yX12_missed wsX12_missed) := goodIn_app (gi_c mw_1599 (gi_c mw_1600 (gi_c mw_1601 (gi_c mw_247 gi_n)))) gk_wsX12_missed
theorem gv_X11_caught : GoodIn LT (wsV RL 106 RX11 yX11_caught wsX11_caught) := goodIn_app (gi_c mw_1602 (gi_c mw_1603 (gi_c mw_1604 (gi_c mw_450 gi_n)))) gk_wsX11_caught
theorem gv_X12_caught : GoodIn LT (wsV RL 109 RX12 yX12_caught wsX12_caught) := goodIn_app (gi_c mw_1605 (gi_c mw_1606 (gi_c mw_1607 (gi_c mw_247 gi_n)))) gk_wsX12_caught
theorem gv_X11_plan : GoodIn LT (wsV RL 110 RX11 yX11_plan wsX11_plan) := goodIn_app (gi_c mw_1608 (gi_c mw_1609 (gi_c mw_1610 (gi_c mw_450 gi_n)))) gk_wsX11_plan
theorem gv_X12_plan : GoodIn LT (wsV RL 113 RX12 yX12_plan wsX12_plan) := goodIn_app (gi_c mw_1611 (gi_c mw_1612 (gi_c mw_1613 (gi_c mw_247 gi_n)))) gk_wsX12_plan
theorem gv_X11_time : GoodIn LT (wsV RL 114 RX11 yX11_time wsX11_time) := goodIn_app (gi_c mw_1614 (gi_c mw_1615 (gi_c mw_1616 (gi_c mw_450 gi_n)))) gk_wsX11_time
theorem gv_X12_time : GoodIn LT (wsV RL 117 RX12 yX12_time wsX12_time) := goodIn_app (gi_c mw_1617 (gi_c mw_1618 (gi_c mw_1619 (gi_c mw_247 gi_n)))) gk_wsX12_time
theorem gv_X11_timeFirst : GoodIn LT (wsV RL 118 RX11 yX11_timeFirst wsX11_timeFirst) := goodIn_app (gi_c mw_1620 (gi_c mw_1621 (gi_c mw_1622 (gi_c mw_450 gi_n)))) gk_wsX11_timeFirst
theorem gv_X12_timeFirst : GoodIn LT (wsV RL 121 RX12 yX12_timeFirst wsX12_timeFirst) := goodIn_app (gi_c mw_1623 (gi_c mw_1624 (gi_c mw_1625 (gi_c mw_247 gi_n)))) gk_wsX12_timeFirst
theorem gv_X11_look : GoodIn LT (wsV RL 122 RX11 yX11_look wsX11_look) := goodIn_app (gi_c mw_1626 (gi_c mw_1627 (gi_c mw_1628 (gi_c mw_450 gi_n)))) gk_wsX11_look
theorem gv_X12_look : GoodIn LT (wsV RL 125 RX12 yX12_look wsX12_look) := goodIn_app (gi_c mw_1629 (gi_c mw_1630 (gi_c mw_1631 (gi_c mw_247 gi_n)))) gk_wsX12_look
theorem gv_X11_alike : GoodIn LT (wsV RL 126 RX11 yX11_alike wsX11_alike) := goodIn_app (gi_c mw_1632 (gi_c mw_1633 (gi_c mw_1634 (gi_c mw_450 gi_n)))) gk_wsX11_alike
theorem gv_X12_alike : GoodIn LT (wsV RL 129 RX12 yX12_alike wsX12_alike) := goodIn_app (gi_c mw_1635 (gi_c mw_1636 (gi_c mw_1637 (gi_c mw_247 gi_n)))) gk_wsX12_alike
theorem gv_X11_tend : GoodIn LT (wsV RL 130 RX11 yX11_tend wsX11_tend) := goodIn_app (gi_c mw_1638 (gi_c mw_1639 (gi_c mw_1640 (gi_c mw_450 gi_n)))) gk_wsX11_tend
theorem gv_X12_tend : GoodIn LT (wsV RL 133 RX12 yX12_tend wsX12_tend) := goodIn_app (gi_c mw_1641 (gi_c mw_1642 (gi_c mw_1643 (gi_c mw_247 gi_n)))) gk_wsX12_tend
theorem gv_X11_worst : GoodIn LT (wsV RL 134 RX11 yX11_worst wsX11_worst) := goodIn_app (gi_c mw_1644 (gi_c mw_1645 (gi_c mw_1646 (gi_c mw_450 gi_n)))) gk_wsX11_worst
theorem gv_X12_worst : GoodIn LT (wsV RL 137 RX12 yX12_worst wsX12_worst) := goodIn_app (gi_c mw_1647 (gi_c mw_1648 (gi_c mw_1649 (gi_c mw_247 gi_n)))) gk_wsX12_worst
theorem gv_X11_latest : GoodIn LT (wsV RL 138 RX11 yX11_latest wsX11_latest) := goodIn_app (gi_c mw_1650 (gi_c mw_1651 (gi_c mw_1652 (gi_c mw_450 gi_n)))) gk_wsX11_latest
theorem gv_X12_latest : GoodIn LT (wsV RL 141 RX12 yX12_latest wsX12_latest) := goodIn_app (gi_c mw_1653 (gi_c mw_1654 (gi_c mw_1655 (gi_c mw_247 gi_n)))) gk_wsX12_latest
theorem gv_X11_latestBy : GoodIn LT (wsV RL 142 RX11 yX11_latestBy wsX11_latestBy) := goodIn_app (gi_c mw_1656 (gi_c mw_1657 (gi_c mw_1658 (gi_c mw_450 gi_n)))) gk_wsX11_latestBy
theorem gv_X12_latestBy : GoodIn LT (wsV RL 145 RX12 yX12_latestBy wsX12_latestBy) := goodIn_app (gi_c mw_1659 (gi_c mw_1660 (gi_c mw_1661 (gi_c mw_247 gi_n)))) gk_wsX12_latestBy
theorem gv_L_mean : GoodIn LT (va_wsS RL 146 yL_mean wsL_meanB) := goodIn_app (gi_c mw_1662 (gi_c mw_1663 (gi_c mw_1524 gi_n))) gk_wsL_meanB
theorem gv_X12_mean : GoodIn LT (wsV RL 148 RX12 yX12_mean wsX12_mean) := goodIn_app (gi_c mw_1664 (gi_c mw_1665 (gi_c mw_1666 (gi_c mw_247 gi_n)))) gk_wsX12_mean
theorem gv_X11_face : GoodIn LT (wsV RL 149 RX11 yX11_face wsX11_face) := goodIn_app (gi_c mw_1667 (gi_c mw_1668 (gi_c mw_1669 (gi_c mw_450 gi_n)))) gk_wsX11_face
theorem gv_X12_face : GoodIn LT (wsV RL 152 RX12 yX12_face wsX12_face) := goodIn_app (gi_c mw_1670 (gi_c mw_1671 (gi_c mw_1672 (gi_c mw_247 gi_n)))) gk_wsX12_face
theorem gv_X11_byteAt : GoodIn LT (wsV RL 153 RX11 yX11_byteAt wsX11_byteAt) := goodIn_app (gi_c mw_1673 (gi_c mw_1674 (gi_c mw_1675 (gi_c mw_450 gi_n)))) gk_wsX11_byteAt
theorem gv_X12_byteAt : GoodIn LT (wsV RL 156 RX12 yX12_byteAt wsX12_byteAt) := goodIn_app (gi_c mw_1676 (gi_c mw_1677 (gi_c mw_1678 (gi_c mw_247 gi_n)))) gk_wsX12_byteAt
theorem gv_X11_drawn : GoodIn LT (wsV RL 157 RX11 yX11_drawn wsX11_drawn) := goodIn_app (gi_c mw_1679 (gi_c mw_1680 (gi_c mw_1681 (gi_c mw_450 gi_n)))) gk_wsX11_drawn
theorem gv_X12_drawn : GoodIn LT (wsV RL 160 RX12 yX12_drawn wsX12_drawn) := goodIn_app (gi_c mw_1682 (gi_c mw_1683 (gi_c mw_1684 (gi_c mw_247 gi_n)))) gk_wsX12_drawn
theorem gv_X11_odds : GoodIn LT (wsV RL 161 RX11 yX11_odds wsX11_odds) := goodIn_app (gi_c mw_1685 (gi_c mw_1686 (gi_c mw_1687 (gi_c mw_450 gi_n)))) gk_wsX11_odds
theorem gv_X12_odds : GoodIn LT (wsV RL 165 RX12 yX12_odds wsX12_odds) := goodIn_app (gi_c mw_1688 (gi_c mw_1689 (gi_c mw_1690 (gi_c mw_247 gi_n)))) gk_wsX12_odds
theorem gv_X11_book : GoodIn LT (wsV RL 166 RX11 yX11_book wsX11_book) := goodIn_app (gi_c mw_1691 (gi_c mw_1692 (gi_c mw_1693 (gi_c mw_450 gi_n)))) gk_wsX11_book
theorem gv_X12_book : GoodIn LT (wsV RL 169 RX12 yX12_book wsX12_book) := goodIn_app (gi_c mw_1694 (gi_c mw_1695 (gi_c mw_1696 (gi_c mw_247 gi_n)))) gk_wsX12_book
theorem gv_X11_told : GoodIn LT (wsV RL 170 RX11 yX11_told wsX11_told) := goodIn_app (gi_c mw_1697 (gi_c mw_1698 (gi_c mw_1699 (gi_c mw_450 gi_n)))) gk_wsX11_told
theorem gv_X12_told : GoodIn LT (wsV RL 173 RX12 yX12_told wsX12_told) := goodIn_app (gi_c mw_1700 (gi_c mw_1701 (gi_c mw_1702 (gi_c mw_247 gi_n)))) gk_wsX12_told
theorem gv_X11_sentence : GoodIn LT (wsV RL 174 RX11 yX11_sentence wsX11_sentence) := goodIn_app (gi_c mw_1703 (gi_c mw_1704 (gi_c mw_1705 (gi_c mw_450 gi_n)))) gk_wsX11_sentence
theorem gv_X12_sentence : GoodIn LT (wsV RL 177 RX12 yX12_sentence wsX12_sentence) := goodIn_app (gi_c mw_1706 (gi_c mw_1707 (gi_c mw_1708 (gi_c mw_247 gi_n)))) gk_wsX12_sentence
theorem gv_X11_said : GoodIn LT (wsV RL 178 RX11 yX11_said wsX11_said) := goodIn_app (gi_c mw_1709 (gi_c mw_1710 (gi_c mw_1711 (gi_c mw_450 gi_n)))) gk_wsX11_said
theorem gv_X12_said : GoodIn LT (wsV RL 181 RX12 yX12_said wsX12_said) := goodIn_app (gi_c mw_1712 (gi_c mw_1713 (gi_c mw_1714 (gi_c mw_247 gi_n)))) gk_wsX12_said
theorem gv_X11_image : GoodIn LT (wsV RL 182 RX11 yX11_image wsX11_image) := goodIn_app (gi_c mw_1715 (gi_c mw_1716 (gi_c mw_1717 (gi_c mw_450 gi_n)))) gk_wsX11_image
theorem gv_X12_image : GoodIn LT (wsV RL 185 RX12 yX12_image wsX12_image) := goodIn_app (gi_c mw_1718 (gi_c mw_1719 (gi_c mw_1720 (gi_c mw_247 gi_n)))) gk_wsX12_image
theorem gv_X11_restore : GoodIn LT (wsV RL 186 RX11 yX11_restore wsX11_restore) := goodIn_app (gi_c mw_1721 (gi_c mw_1722 (gi_c mw_1723 (gi_c mw_450 gi_n)))) gk_wsX11_restore
theorem gv_X12_restore : GoodIn LT (wsV RL 189 RX12 yX12_restore wsX12_restore) := goodIn_app (gi_c mw_1724 (gi_c mw_1725 (gi_c mw_1726 (gi_c mw_247 gi_n)))) gk_wsX12_restore
theorem gv_X11_count : GoodIn LT (wsV RL 190 RX11 yX11_count wsX11_count) := goodIn_app (gi_c mw_1727 (gi_c mw_1728 (gi_c mw_1729 (gi_c mw_450 gi_n)))) gk_wsX11_count
theorem gv_X12_count : GoodIn LT (wsV RL 193 RX12 yX12_count wsX12_count) := goodIn_app (gi_c mw_1730 (gi_c mw_1731 (gi_c mw_1732 (gi_c mw_247 gi_n)))) gk_wsX12_count
