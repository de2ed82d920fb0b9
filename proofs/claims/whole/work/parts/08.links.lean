theorem lyw_0 : ∀ w ∈ u_ws RX0 TX0 3, w ∈ TBG := by
  intro w hw
  obtain ⟨k, hk, rfl⟩ := List.mem_map.mp hw
  have hk := List.mem_range.mp hk
  match k, hk with
  | 0, _ => exact tw_321
  | 1, _ => exact tw_323
  | 2, _ => exact tw_325
  | k + 3, hk => exact absurd hk (by omega)
theorem rc_0 : (vwCl[0]?).map (fun q => q.1) = some "DustParish$Acts" ∧ 0 < 20 := ⟨rfl, by decide⟩
theorem lyw_1 : ∀ w ∈ u_ws RX2 TX2 20, w ∈ TBG := by
  intro w hw
  obtain ⟨k, hk, rfl⟩ := List.mem_map.mp hw
  have hk := List.mem_range.mp hk
  match k, hk with
  | 0, _ => exact tw_126
  | 1, _ => exact tw_128
  | 2, _ => exact tw_130
  | 3, _ => exact tw_132
  | 4, _ => exact tw_134
  | 5, _ => exact tw_136
  | 6, _ => exact tw_138
  | 7, _ => exact tw_140
  | 8, _ => exact tw_142
  | 9, _ => exact tw_144
  | 10, _ => exact tw_146
  | 11, _ => exact tw_148
  | 12, _ => exact tw_150
  | 13, _ => exact tw_152
  | 14, _ => exact tw_154
  | 15, _ => exact tw_156
  | 16, _ => exact tw_158
  | 17, _ => exact tw_160
  | 18, _ => exact tw_162
  | 19, _ => exact tw_164
  | k + 20, hk => exact absurd hk (by omega)
theorem rc_1 : (vwCl[1]?).map (fun q => q.1) = some "DustParish$Facts" ∧ 1 < 20 := ⟨rfl, by decide⟩
theorem lyw_2 : ∀ w ∈ u_ws RX3 TX3 4, w ∈ TBG := by
  intro w hw
  obtain ⟨k, hk, rfl⟩ := List.mem_map.mp hw
  have hk := List.mem_range.mp hk
  match k, hk with
  | 0, _ => exact tw_357
  | 1, _ => exact tw_359
  | 2, _ => exact tw_361
  | 3, _ => exact tw_363
  | k + 4, hk => exact absurd hk (by omega)
theorem rc_2 : (vwCl[2]?).map (fun q => q.1) = some "DustParish$Present" ∧ 2 < 20 := ⟨rfl, by decide⟩
theorem lyw_3 : ∀ w ∈ u_ws RX4 TX4 8, w ∈ TBG := by
  intro w hw
  obtain ⟨k, hk, rfl⟩ := List.mem_map.mp hw
  have hk := List.mem_range.mp hk
  match k, hk with
  | 0, _ => exact tw_247
  | 1, _ => exact tw_249
  | 2, _ => exact tw_251
  | 3, _ => exact tw_253
  | 4, _ => exact tw_255
  | 5, _ => exact tw_257
  | 6, _ => exact tw_259
  | 7, _ => exact tw_261
  | k + 8, hk => exact absurd hk (by omega)
theorem rc_3 : (vwCl[3]?).map (fun q => q.1) = some "DustParish$Reader" ∧ 3 < 20 := ⟨rfl, by decide⟩
theorem lyw_4 : ∀ w ∈ u_ws RX5 TX5 4, w ∈ TBG := by
  intro w hw
  obtain ⟨k, hk, rfl⟩ := List.mem_map.mp hw
  have hk := List.mem_range.mp hk
  match k, hk with
  | 0, _ => exact tw_51
  | 1, _ => exact tw_53
  | 2, _ => exact tw_55
  | 3, _ => exact tw_57
  | k + 4, hk => exact absurd hk (by omega)
theorem rc_4 : (vwCl[4]?).map (fun q => q.1) = some "DustParish$Rule" ∧ 4 < 20 := ⟨rfl, by decide⟩
theorem lyw_5 : ∀ w ∈ u_ws RX6 TX6 8, w ∈ TBG := by
  intro w hw
  obtain ⟨k, hk, rfl⟩ := List.mem_map.mp hw
  have hk := List.mem_range.mp hk
  match k, hk with
  | 0, _ => exact tw_222
  | 1, _ => exact tw_224
  | 2, _ => exact tw_226
  | 3, _ => exact tw_228
  | 4, _ => exact tw_230
  | 5, _ => exact tw_232
  | 6, _ => exact tw_234
  | 7, _ => exact tw_236
  | k + 8, hk => exact absurd hk (by omega)
theorem rc_5 : (vwCl[5]?).map (fun q => q.1) = some "DustParish$RuleReader" ∧ 5 < 20 := ⟨rfl, by decide⟩
theorem lyw_6 : ∀ w ∈ u_ws RX7 TX7 4, w ∈ TBG := by
  intro w hw
  obtain ⟨k, hk, rfl⟩ := List.mem_map.mp hw
  have hk := List.mem_range.mp hk
  match k, hk with
  | 0, _ => exact tw_340
  | 1, _ => exact tw_342
  | 2, _ => exact tw_344
  | 3, _ => exact tw_346
  | k + 4, hk => exact absurd hk (by omega)
theorem rc_6 : (vwCl[6]?).map (fun q => q.1) = some "DustParish$Sights" ∧ 6 < 20 := ⟨rfl, by decide⟩
theorem lyw_7 : ∀ w ∈ u_ws RX8 TX8 6, w ∈ TBG := by
  intro w hw
  obtain ⟨k, hk, rfl⟩ := List.mem_map.mp hw
  have hk := List.mem_range.mp hk
  match k, hk with
  | 0, _ => exact tw_294
  | 1, _ => exact tw_296
  | 2, _ => exact tw_298
  | 3, _ => exact tw_300
  | 4, _ => exact tw_302
  | 5, _ => exact tw_304
  | k + 6, hk => exact absurd hk (by omega)
theorem rc_7 : (vwCl[7]?).map (fun q => q.1) = some "DustParish$State" ∧ 7 < 20 := ⟨rfl, by decide⟩
theorem lyw_8 : ∀ w ∈ u_ws RX9 TX9 7, w ∈ TBG := by
  intro w hw
  obtain ⟨k, hk, rfl⟩ := List.mem_map.mp hw
  have hk := List.mem_range.mp hk
  match k, hk with
  | 0, _ => exact tw_193
  | 1, _ => exact tw_195
  | 2, _ => exact tw_197
  | 3, _ => exact tw_199
  | 4, _ => exact tw_201
  | 5, _ => exact tw_203
  | 6, _ => exact tw_205
  | k + 7, hk => exact absurd hk (by omega)
theorem rc_8 : (vwCl[8]?).map (fun q => q.1) = some "DustParish$Tokens" ∧ 8 < 20 := ⟨rfl, by decide⟩
theorem lyw_9 : ∀ w ∈ u_ws RX10 TX10 15, w ∈ TBG := by
  intro w hw
  obtain ⟨k, hk, rfl⟩ := List.mem_map.mp hw
  have hk := List.mem_range.mp hk
  match k, hk with
  | 0, _ => exact tw_394
  | 1, _ => exact tw_396
  | 2, _ => exact tw_398
  | 3, _ => exact tw_400
  | 4, _ => exact tw_402
  | 5, _ => exact tw_404
  | 6, _ => exact tw_406
  | 7, _ => exact tw_408
  | 8, _ => exact tw_410
  | 9, _ => exact tw_412
  | 10, _ => exact tw_414
  | 11, _ => exact tw_416
  | 12, _ => exact tw_418
  | 13, _ => exact tw_420
  | 14, _ => exact tw_422
  | k + 15, hk => exact absurd hk (by omega)
theorem rc_9 : (vwCl[9]?).map (fun q => q.1) = some "DustParish" ∧ 9 < 20 := ⟨rfl, by decide⟩
theorem lyw_10 : ∀ w ∈ u_ws RX11 TX11 63, w ∈ TBG := by
  intro w hw
  obtain ⟨k, hk, rfl⟩ := List.mem_map.mp hw
  have hk := List.mem_range.mp hk
  match k, hk with
  | 0, _ => exact tw_1332
  | 1, _ => exact tw_1334
  | 2, _ => exact tw_1336
  | 3, _ => exact tw_1338
  | 4, _ => exact tw_1340
  | 5, _ => exact tw_1342
  | 6, _ => exact tw_1344
  | 7, _ => exact tw_1346
  | 8, _ => exact tw_1348
  | 9, _ => exact tw_1350
  | 10, _ => exact tw_1352
  | 11, _ => exact tw_1354
  | 12, _ => exact tw_1356
  | 13, _ => exact tw_1358
  | 14, _ => exact tw_1360
  | 15, _ => exact tw_1362
  | 16, _ => exact tw_1364
  | 17, _ => exact tw_1366
  | 18, _ => exact tw_1368
  | 19, _ => exact tw_1370
  | 20, _ => exact tw_1372
  | 21, _ => exact tw_1374
  | 22, _ => exact tw_1376
  | 23, _ => exact tw_1378
  | 24, _ => exact tw_1380
  | 25, _ => exact tw_1382
  | 26, _ => exact tw_1384
  | 27, _ => exact tw_1386
  | 28, _ => exact tw_1388
  | 29, _ => exact tw_1390
  | 30, _ => exact tw_1392
  | 31, _ => exact tw_1394
  | 32, _ => exact tw_1396
  | 33, _ => exact tw_1398
  | 34, _ => exact tw_1400
  | 35, _ => exact tw_1402
  | 36, _ => exact tw_1404
  | 37, _ => exact tw_1406
  | 38, _ => exact tw_1408
  | 39, _ => exact tw_1410
  | 40, _ => exact tw_1412
  | 41, _ => exact tw_1414
  | 42, _ => exact tw_1416
  | 43, _ => exact tw_1418
  | 44, _ => exact tw_1420
  | 45, _ => exact tw_1422
  | 46, _ => exact tw_1424
  | 47, _ => exact tw_1426
  | 48, _ => exact tw_1428
  | 49, _ => exact tw_1430
  | 50, _ => exact tw_1432
  | 51, _ => exact tw_1434
  | 52, _ => exact tw_1436
  | 53, _ => exact tw_1438
  | 54, _ => exact tw_1440
  | 55, _ => exact tw_1442
  | 56, _ => exact tw_1444
  | 57, _ => exact tw_1446
  | 58, _ => exact tw_1448
  | 59, _ => exact tw_1450
  | 60, _ => exact tw_1452
  | 61, _ => exact tw_1454
  | 62, _ => exact tw_1456
  | k + 63, hk => exact absurd hk (by omega)
theorem rc_10 : (vwCl[10]?).map (fun q => q.1) = some "DustParishModel" ∧ 10 < 20 := ⟨rfl, by decide⟩
theorem fl_X10_9 : FLK "DustParish" 9 9 0 := ⟨(RX10, TX10, 15), rfl, by decide, rfl, by decide, tw_379, lyw_9⟩
theorem fl_X10_13 : FLK "DustParish" 13 9 1 := ⟨(RX10, TX10, 15), rfl, by decide, rfl, by decide, tw_380, lyw_9⟩
theorem fl_X10_17 : FLK "DustParish" 17 9 2 := ⟨(RX10, TX10, 15), rfl, by decide, rfl, by decide, tw_381, lyw_9⟩
theorem fl_X10_23 : FLK "DustParish" 23 9 3 := ⟨(RX10, TX10, 15), rfl, by decide, rfl, by decide, tw_382, lyw_9⟩
theorem fl_X10_27 : FLK "DustParish" 27 9 4 := ⟨(RX10, TX10, 15), rfl, by decide, rfl, by decide, tw_383, lyw_9⟩
theorem fl_X10_35 : FLK "DustParish" 35 9 5 := ⟨(RX10, TX10, 15), rfl, by decide, rfl, by decide, tw_384, lyw_9⟩
theorem fl_X10_42 : FLK "DustParish" 42 9 6 := ⟨(RX10, TX10, 15), rfl, by decide, rfl, by decide, tw_385, lyw_9⟩
theorem fl_X10_46 : FLK "DustParish" 46 9 7 := ⟨(RX10, TX10, 15), rfl, by decide, rfl, by decide, tw_386, lyw_9⟩
theorem fl_X10_49 : FLK "DustParish" 49 9 8 := ⟨(RX10, TX10, 15), rfl, by decide, rfl, by decide, tw_387, lyw_9⟩
theorem fl_X10_56 : FLK "DustParish" 56 9 9 := ⟨(RX10, TX10, 15), rfl, by decide, rfl, by decide, tw_388, lyw_9⟩
theorem fl_X10_60 : FLK "DustParish" 60 9 10 := ⟨(RX10, TX10, 15), rfl, by decide, rfl, by decide, tw_389, lyw_9⟩
theorem fl_X10_64 : FLK "DustParish" 64 9 11 := ⟨(RX10, TX10, 15), rfl, by decide, rfl, by decide, tw_390, lyw_9⟩
theorem fl_X10_67 : FLK "DustParish" 67 9 12 := ⟨(RX10, TX10, 15), rfl, by decide, rfl, by decide, tw_391, lyw_9⟩
theorem fl_X10_70 : FLK "DustParish" 70 9 13 := ⟨(RX10, TX10, 15), rfl, by decide, rfl, by decide, tw_392, lyw_9⟩
theorem fl_X10_73 : FLK "DustParish" 73 9 14 := ⟨(RX10, TX10, 15), rfl, by decide, rfl, by decide, tw_393, lyw_9⟩
theorem fl_X10_94 : FLK "DustParish" 94 2 3 := ⟨(RX3, TX3, 4), rfl, by decide, rfl, by decide, tw_356, lyw_2⟩
theorem fl_X10_104 : FLK "DustParish" 104 1 0 := ⟨(RX2, TX2, 20), rfl, by decide, rfl, by decide, tw_64, lyw_1⟩
theorem fl_X10_107 : FLK "DustParish" 107 1 5 := ⟨(RX2, TX2, 20), rfl, by decide, rfl, by decide, tw_81, lyw_1⟩
theorem fl_X10_110 : FLK "DustParish" 110 1 8 := ⟨(RX2, TX2, 20), rfl, by decide, rfl, by decide, tw_87, lyw_1⟩
theorem fl_X10_113 : FLK "DustParish" 113 1 13 := ⟨(RX2, TX2, 20), rfl, by decide, rfl, by decide, tw_107, lyw_1⟩
theorem fl_X10_116 : FLK "DustParish" 116 1 15 := ⟨(RX2, TX2, 20), rfl, by decide, rfl, by decide, tw_114, lyw_1⟩
theorem fl_X10_119 : FLK "DustParish" 119 1 16 := ⟨(RX2, TX2, 20), rfl, by decide, rfl, by decide, tw_117, lyw_1⟩
theorem fl_X10_122 : FLK "DustParish" 122 2 0 := ⟨(RX3, TX3, 4), rfl, by decide, rfl, by decide, tw_350, lyw_2⟩
theorem fl_X10_125 : FLK "DustParish" 125 7 0 := ⟨(RX8, TX8, 6), rfl, by decide, rfl, by decide, tw_278, lyw_7⟩
theorem fl_X10_134 : FLK "DustParish" 134 7 1 := ⟨(RX8, TX8, 6), rfl, by decide, rfl, by decide, tw_281, lyw_7⟩
theorem fl_X10_137 : FLK "DustParish" 137 7 2 := ⟨(RX8, TX8, 6), rfl, by decide, rfl, by decide, tw_283, lyw_7⟩
theorem fl_X10_143 : FLK "DustParish" 143 2 1 := ⟨(RX3, TX3, 4), rfl, by decide, rfl, by decide, tw_352, lyw_2⟩
theorem fl_X10_147 : FLK "DustParish" 147 0 0 := ⟨(RX0, TX0, 3), rfl, by decide, rfl, by decide, tw_318, lyw_0⟩
theorem fl_X10_152 : FLK "DustParish" 152 2 2 := ⟨(RX3, TX3, 4), rfl, by decide, rfl, by decide, tw_354, lyw_2⟩
theorem fl_X10_156 : FLK "DustParish" 156 6 0 := ⟨(RX7, TX7, 4), rfl, by decide, rfl, by decide, tw_336, lyw_6⟩
theorem fl_X10_165 : FLK "DustParish" 165 1 1 := ⟨(RX2, TX2, 20), rfl, by decide, rfl, by decide, tw_68, lyw_1⟩
theorem fl_X10_168 : FLK "DustParish" 168 1 2 := ⟨(RX2, TX2, 20), rfl, by decide, rfl, by decide, tw_72, lyw_1⟩
theorem fl_X10_171 : FLK "DustParish" 171 7 3 := ⟨(RX8, TX8, 6), rfl, by decide, rfl, by decide, tw_287, lyw_7⟩
theorem fl_X10_174 : FLK "DustParish" 174 1 4 := ⟨(RX2, TX2, 20), rfl, by decide, rfl, by decide, tw_78, lyw_1⟩
theorem fl_X10_177 : FLK "DustParish" 177 7 4 := ⟨(RX8, TX8, 6), rfl, by decide, rfl, by decide, tw_290, lyw_7⟩
theorem fl_X10_192 : FLK "DustParish" 192 1 9 := ⟨(RX2, TX2, 20), rfl, by decide, rfl, by decide, tw_91, lyw_1⟩
theorem fl_X10_195 : FLK "DustParish" 195 1 10 := ⟨(RX2, TX2, 20), rfl, by decide, rfl, by decide, tw_95, lyw_1⟩
theorem fl_X10_198 : FLK "DustParish" 198 1 11 := ⟨(RX2, TX2, 20), rfl, by decide, rfl, by decide, tw_99, lyw_1⟩
theorem fl_X10_201 : FLK "DustParish" 201 1 12 := ⟨(RX2, TX2, 20), rfl, by decide, rfl, by decide, tw_103, lyw_1⟩
theorem fl_X10_229 : FLK "DustParish" 229 7 5 := ⟨(RX8, TX8, 6), rfl, by decide, rfl, by decide, tw_293, lyw_7⟩
theorem fl_X0_9 : FLK "DustParish$Acts" 9 0 0 := ⟨(RX0, TX0, 3), rfl, by decide, rfl, by decide, tw_316, lyw_0⟩
theorem fl_X0_15 : FLK "DustParish$Acts" 15 0 1 := ⟨(RX0, TX0, 3), rfl, by decide, rfl, by decide, tw_319, lyw_0⟩
theorem fl_X0_20 : FLK "DustParish$Acts" 20 0 2 := ⟨(RX0, TX0, 3), rfl, by decide, rfl, by decide, tw_320, lyw_0⟩
theorem fl_X1_9 : FLK "DustParish$Course" 9 1 13 := ⟨(RX2, TX2, 20), rfl, by decide, rfl, by decide, tw_105, lyw_1⟩
theorem fl_X1_15 : FLK "DustParish$Course" 15 7 5 := ⟨(RX8, TX8, 6), rfl, by decide, rfl, by decide, tw_292, lyw_7⟩
theorem fl_X1_21 : FLK "DustParish$Course" 21 7 0 := ⟨(RX8, TX8, 6), rfl, by decide, rfl, by decide, tw_277, lyw_7⟩
theorem fl_X1_30 : FLK "DustParish$Course" 30 1 15 := ⟨(RX2, TX2, 20), rfl, by decide, rfl, by decide, tw_113, lyw_1⟩
theorem fl_X1_37 : FLK "DustParish$Course" 37 1 0 := ⟨(RX2, TX2, 20), rfl, by decide, rfl, by decide, tw_63, lyw_1⟩
theorem fl_X1_48 : FLK "DustParish$Course" 48 1 8 := ⟨(RX2, TX2, 20), rfl, by decide, rfl, by decide, tw_86, lyw_1⟩
theorem fl_X1_59 : FLK "DustParish$Course" 59 1 9 := ⟨(RX2, TX2, 20), rfl, by decide, rfl, by decide, tw_90, lyw_1⟩
theorem fl_X1_62 : FLK "DustParish$Course" 62 7 3 := ⟨(RX8, TX8, 6), rfl, by decide, rfl, by decide, tw_286, lyw_7⟩
theorem fl_X1_65 : FLK "DustParish$Course" 65 1 10 := ⟨(RX2, TX2, 20), rfl, by decide, rfl, by decide, tw_94, lyw_1⟩
theorem fl_X1_68 : FLK "DustParish$Course" 68 1 12 := ⟨(RX2, TX2, 20), rfl, by decide, rfl, by decide, tw_102, lyw_1⟩
theorem fl_X1_71 : FLK "DustParish$Course" 71 1 11 := ⟨(RX2, TX2, 20), rfl, by decide, rfl, by decide, tw_98, lyw_1⟩
theorem fl_X1_81 : FLK "DustParish$Course" 81 7 1 := ⟨(RX8, TX8, 6), rfl, by decide, rfl, by decide, tw_280, lyw_7⟩
theorem fl_X1_84 : FLK "DustParish$Course" 84 7 4 := ⟨(RX8, TX8, 6), rfl, by decide, rfl, by decide, tw_289, lyw_7⟩
theorem fl_X1_87 : FLK "DustParish$Course" 87 1 17 := ⟨(RX2, TX2, 20), rfl, by decide, rfl, by decide, tw_122, lyw_1⟩
theorem fl_X1_97 : FLK "DustParish$Course" 97 4 0 := ⟨(RX5, TX5, 4), rfl, by decide, rfl, by decide, tw_47, lyw_4⟩
theorem fl_X1_100 : FLK "DustParish$Course" 100 1 1 := ⟨(RX2, TX2, 20), rfl, by decide, rfl, by decide, tw_67, lyw_1⟩
theorem fl_X1_103 : FLK "DustParish$Course" 103 1 2 := ⟨(RX2, TX2, 20), rfl, by decide, rfl, by decide, tw_71, lyw_1⟩
theorem fl_X1_106 : FLK "DustParish$Course" 106 1 19 := ⟨(RX2, TX2, 20), rfl, by decide, rfl, by decide, tw_125, lyw_1⟩
theorem fl_X1_125 : FLK "DustParish$Course" 125 1 16 := ⟨(RX2, TX2, 20), rfl, by decide, rfl, by decide, tw_118, lyw_1⟩
theorem fl_X2_9 : FLK "DustParish$Facts" 9 1 1 := ⟨(RX2, TX2, 20), rfl, by decide, rfl, by decide, tw_66, lyw_1⟩
theorem fl_X2_15 : FLK "DustParish$Facts" 15 1 2 := ⟨(RX2, TX2, 20), rfl, by decide, rfl, by decide, tw_70, lyw_1⟩
theorem fl_X2_18 : FLK "DustParish$Facts" 18 1 3 := ⟨(RX2, TX2, 20), rfl, by decide, rfl, by decide, tw_74, lyw_1⟩
theorem fl_X2_21 : FLK "DustParish$Facts" 21 1 4 := ⟨(RX2, TX2, 20), rfl, by decide, rfl, by decide, tw_77, lyw_1⟩
theorem fl_X2_24 : FLK "DustParish$Facts" 24 1 6 := ⟨(RX2, TX2, 20), rfl, by decide, rfl, by decide, tw_83, lyw_1⟩
theorem fl_X2_27 : FLK "DustParish$Facts" 27 1 7 := ⟨(RX2, TX2, 20), rfl, by decide, rfl, by decide, tw_84, lyw_1⟩
theorem fl_X2_30 : FLK "DustParish$Facts" 30 1 9 := ⟨(RX2, TX2, 20), rfl, by decide, rfl, by decide, tw_89, lyw_1⟩
theorem fl_X2_33 : FLK "DustParish$Facts" 33 1 10 := ⟨(RX2, TX2, 20), rfl, by decide, rfl, by decide, tw_93, lyw_1⟩
theorem fl_X2_36 : FLK "DustParish$Facts" 36 1 11 := ⟨(RX2, TX2, 20), rfl, by decide, rfl, by decide, tw_97, lyw_1⟩
theorem fl_X2_39 : FLK "DustParish$Facts" 39 1 12 := ⟨(RX2, TX2, 20), rfl, by decide, rfl, by decide, tw_101, lyw_1⟩
theorem fl_X2_42 : FLK "DustParish$Facts" 42 1 14 := ⟨(RX2, TX2, 20), rfl, by decide, rfl, by decide, tw_109, lyw_1⟩
theorem fl_X2_48 : FLK "DustParish$Facts" 48 1 17 := ⟨(RX2, TX2, 20), rfl, by decide, rfl, by decide, tw_121, lyw_1⟩
theorem fl_X2_52 : FLK "DustParish$Facts" 52 1 18 := ⟨(RX2, TX2, 20), rfl, by decide, rfl, by decide, tw_123, lyw_1⟩
theorem fl_X2_55 : FLK "DustParish$Facts" 55 1 19 := ⟨(RX2, TX2, 20), rfl, by decide, rfl, by decide, tw_124, lyw_1⟩
theorem fl_X2_58 : FLK "DustParish$Facts" 58 1 0 := ⟨(RX2, TX2, 20), rfl, by decide, rfl, by decide, tw_62, lyw_1⟩
theorem fl_X2_62 : FLK "DustParish$Facts" 62 1 5 := ⟨(RX2, TX2, 20), rfl, by decide, rfl, by decide, tw_80, lyw_1⟩
theorem fl_X2_65 : FLK "DustParish$Facts" 65 1 8 := ⟨(RX2, TX2, 20), rfl, by decide, rfl, by decide, tw_85, lyw_1⟩
theorem fl_X2_68 : FLK "DustParish$Facts" 68 1 13 := ⟨(RX2, TX2, 20), rfl, by decide, rfl, by decide, tw_106, lyw_1⟩
theorem fl_X2_71 : FLK "DustParish$Facts" 71 1 15 := ⟨(RX2, TX2, 20), rfl, by decide, rfl, by decide, tw_112, lyw_1⟩
theorem fl_X2_74 : FLK "DustParish$Facts" 74 1 16 := ⟨(RX2, TX2, 20), rfl, by decide, rfl, by decide, tw_116, lyw_1⟩
theorem fl_X3_10 : FLK "DustParish$Present" 10 2 0 := ⟨(RX3, TX3, 4), rfl, by decide, rfl, by decide, tw_349, lyw_2⟩
theorem fl_X3_19 : FLK "DustParish$Present" 19 2 1 := ⟨(RX3, TX3, 4), rfl, by decide, rfl, by decide, tw_351, lyw_2⟩
theorem fl_X3_26 : FLK "DustParish$Present" 26 2 2 := ⟨(RX3, TX3, 4), rfl, by decide, rfl, by decide, tw_353, lyw_2⟩
theorem fl_X3_30 : FLK "DustParish$Present" 30 2 3 := ⟨(RX3, TX3, 4), rfl, by decide, rfl, by decide, tw_355, lyw_2⟩
theorem fl_X3_38 : FLK "DustParish$Present" 38 0 0 := ⟨(RX0, TX0, 3), rfl, by decide, rfl, by decide, tw_317, lyw_0⟩
theorem fl_X3_42 : FLK "DustParish$Present" 42 6 0 := ⟨(RX7, TX7, 4), rfl, by decide, rfl, by decide, tw_335, lyw_6⟩
theorem fl_X4_9 : FLK "DustParish$Reader" 9 3 3 := ⟨(RX4, TX4, 8), rfl, by decide, rfl, by decide, tw_242, lyw_3⟩
theorem fl_X4_15 : FLK "DustParish$Reader" 15 3 4 := ⟨(RX4, TX4, 8), rfl, by decide, rfl, by decide, tw_243, lyw_3⟩
theorem fl_X4_19 : FLK "DustParish$Reader" 19 3 5 := ⟨(RX4, TX4, 8), rfl, by decide, rfl, by decide, tw_244, lyw_3⟩
theorem fl_X4_22 : FLK "DustParish$Reader" 22 3 6 := ⟨(RX4, TX4, 8), rfl, by decide, rfl, by decide, tw_245, lyw_3⟩
theorem fl_X4_25 : FLK "DustParish$Reader" 25 3 7 := ⟨(RX4, TX4, 8), rfl, by decide, rfl, by decide, tw_246, lyw_3⟩
theorem fl_X4_33 : FLK "DustParish$Reader" 33 3 0 := ⟨(RX4, TX4, 8), rfl, by decide, rfl, by decide, tw_239, lyw_3⟩
theorem fl_X4_39 : FLK "DustParish$Reader" 39 1 17 := ⟨(RX2, TX2, 20), rfl, by decide, rfl, by decide, tw_120, lyw_1⟩
theorem fl_X4_48 : FLK "DustParish$Reader" 48 3 1 := ⟨(RX4, TX4, 8), rfl, by decide, rfl, by decide, tw_240, lyw_3⟩
theorem fl_X4_52 : FLK "DustParish$Reader" 52 3 2 := ⟨(RX4, TX4, 8), rfl, by decide, rfl, by decide, tw_241, lyw_3⟩
theorem fl_X4_56 : FLK "DustParish$Reader" 56 8 1 := ⟨(RX9, TX9, 7), rfl, by decide, rfl, by decide, tw_183, lyw_8⟩
theorem fl_X4_66 : FLK "DustParish$Reader" 66 8 0 := ⟨(RX9, TX9, 7), rfl, by decide, rfl, by decide, tw_180, lyw_8⟩
theorem fl_X4_133 : FLK "DustParish$Reader" 133 8 2 := ⟨(RX9, TX9, 7), rfl, by decide, rfl, by decide, tw_185, lyw_8⟩
theorem fl_X4_139 : FLK "DustParish$Reader" 139 8 3 := ⟨(RX9, TX9, 7), rfl, by decide, rfl, by decide, tw_189, lyw_8⟩
theorem fl_X4_142 : FLK "DustParish$Reader" 142 1 0 := ⟨(RX2, TX2, 20), rfl, by decide, rfl, by decide, tw_65, lyw_1⟩
theorem fl_X4_145 : FLK "DustParish$Reader" 145 1 1 := ⟨(RX2, TX2, 20), rfl, by decide, rfl, by decide, tw_69, lyw_1⟩
theorem fl_X4_153 : FLK "DustParish$Reader" 153 1 2 := ⟨(RX2, TX2, 20), rfl, by decide, rfl, by decide, tw_73, lyw_1⟩
theorem fl_X4_156 : FLK "DustParish$Reader" 156 1 3 := ⟨(RX2, TX2, 20), rfl, by decide, rfl, by decide, tw_76, lyw_1⟩
theorem fl_X4_159 : FLK "DustParish$Reader" 159 1 4 := ⟨(RX2, TX2, 20), rfl, by decide, rfl, by decide, tw_79, lyw_1⟩
theorem fl_X4_162 : FLK "DustParish$Reader" 162 1 5 := ⟨(RX2, TX2, 20), rfl, by decide, rfl, by decide, tw_82, lyw_1⟩
theorem fl_X4_176 : FLK "DustParish$Reader" 176 1 8 := ⟨(RX2, TX2, 20), rfl, by decide, rfl, by decide, tw_88, lyw_1⟩
theorem fl_X4_179 : FLK "DustParish$Reader" 179 1 9 := ⟨(RX2, TX2, 20), rfl, by decide, rfl, by decide, tw_92, lyw_1⟩
theorem fl_X4_182 : FLK "DustParish$Reader" 182 1 10 := ⟨(RX2, TX2, 20), rfl, by decide, rfl, by decide, tw_96, lyw_1⟩
theorem fl_X4_185 : FLK "DustParish$Reader" 185 1 11 := ⟨(RX2, TX2, 20), rfl, by decide, rfl, by decide, tw_100, lyw_1⟩
theorem fl_X4_188 : FLK "DustParish$Reader" 188 1 12 := ⟨(RX2, TX2, 20), rfl, by decide, rfl, by decide, tw_104, lyw_1⟩
theorem fl_X4_191 : FLK "DustParish$Reader" 191 1 14 := ⟨(RX2, TX2, 20), rfl, by decide, rfl, by decide, tw_111, lyw_1⟩
theorem fl_X4_193 : FLK "DustParish$Reader" 193 1 13 := ⟨(RX2, TX2, 20), rfl, by decide, rfl, by decide, tw_108, lyw_1⟩
theorem fl_X4_196 : FLK "DustParish$Reader" 196 1 15 := ⟨(RX2, TX2, 20), rfl, by decide, rfl, by decide, tw_115, lyw_1⟩
theorem fl_X4_198 : FLK "DustParish$Reader" 198 1 16 := ⟨(RX2, TX2, 20), rfl, by decide, rfl, by decide, tw_119, lyw_1⟩
theorem fl_X5_11 : FLK "DustParish$Rule" 11 4 0 := ⟨(RX5, TX5, 4), rfl, by decide, rfl, by decide, tw_46, lyw_4⟩
theorem fl_X5_15 : FLK "DustParish$Rule" 15 4 1 := ⟨(RX5, TX5, 4), rfl, by decide, rfl, by decide, tw_48, lyw_4⟩
theorem fl_X5_19 : FLK "DustParish$Rule" 19 4 2 := ⟨(RX5, TX5, 4), rfl, by decide, rfl, by decide, tw_49, lyw_4⟩
theorem fl_X5_22 : FLK "DustParish$Rule" 22 4 3 := ⟨(RX5, TX5, 4), rfl, by decide, rfl, by decide, tw_50, lyw_4⟩
theorem fl_X6_11 : FLK "DustParish$RuleReader" 11 5 0 := ⟨(RX6, TX6, 8), rfl, by decide, rfl, by decide, tw_214, lyw_5⟩
theorem fl_X6_15 : FLK "DustParish$RuleReader" 15 5 1 := ⟨(RX6, TX6, 8), rfl, by decide, rfl, by decide, tw_215, lyw_5⟩
theorem fl_X6_19 : FLK "DustParish$RuleReader" 19 5 2 := ⟨(RX6, TX6, 8), rfl, by decide, rfl, by decide, tw_216, lyw_5⟩
theorem fl_X6_22 : FLK "DustParish$RuleReader" 22 5 3 := ⟨(RX6, TX6, 8), rfl, by decide, rfl, by decide, tw_217, lyw_5⟩
theorem fl_X6_25 : FLK "DustParish$RuleReader" 25 5 4 := ⟨(RX6, TX6, 8), rfl, by decide, rfl, by decide, tw_218, lyw_5⟩
theorem fl_X6_29 : FLK "DustParish$RuleReader" 29 5 5 := ⟨(RX6, TX6, 8), rfl, by decide, rfl, by decide, tw_219, lyw_5⟩
theorem fl_X6_32 : FLK "DustParish$RuleReader" 32 5 6 := ⟨(RX6, TX6, 8), rfl, by decide, rfl, by decide, tw_220, lyw_5⟩
theorem fl_X6_36 : FLK "DustParish$RuleReader" 36 5 7 := ⟨(RX6, TX6, 8), rfl, by decide, rfl, by decide, tw_221, lyw_5⟩
theorem fl_X6_66 : FLK "DustParish$RuleReader" 66 8 0 := ⟨(RX9, TX9, 7), rfl, by decide, rfl, by decide, tw_181, lyw_8⟩
theorem fl_X6_81 : FLK "DustParish$RuleReader" 81 8 2 := ⟨(RX9, TX9, 7), rfl, by decide, rfl, by decide, tw_186, lyw_8⟩
theorem fl_X6_87 : FLK "DustParish$RuleReader" 87 8 3 := ⟨(RX9, TX9, 7), rfl, by decide, rfl, by decide, tw_188, lyw_8⟩
theorem fl_X7_9 : FLK "DustParish$Sights" 9 6 0 := ⟨(RX7, TX7, 4), rfl, by decide, rfl, by decide, tw_334, lyw_6⟩
theorem fl_X7_15 : FLK "DustParish$Sights" 15 6 1 := ⟨(RX7, TX7, 4), rfl, by decide, rfl, by decide, tw_337, lyw_6⟩
theorem fl_X7_19 : FLK "DustParish$Sights" 19 6 2 := ⟨(RX7, TX7, 4), rfl, by decide, rfl, by decide, tw_338, lyw_6⟩
theorem fl_X7_22 : FLK "DustParish$Sights" 22 6 3 := ⟨(RX7, TX7, 4), rfl, by decide, rfl, by decide, tw_339, lyw_6⟩
theorem fl_X7_31 : FLK "DustParish$Sights" 31 7 3 := ⟨(RX8, TX8, 6), rfl, by decide, rfl, by decide, tw_285, lyw_7⟩
theorem fl_X8_9 : FLK "DustParish$State" 9 7 3 := ⟨(RX8, TX8, 6), rfl, by decide, rfl, by decide, tw_284, lyw_7⟩
theorem fl_X8_15 : FLK "DustParish$State" 15 7 4 := ⟨(RX8, TX8, 6), rfl, by decide, rfl, by decide, tw_288, lyw_7⟩
theorem fl_X8_18 : FLK "DustParish$State" 18 7 5 := ⟨(RX8, TX8, 6), rfl, by decide, rfl, by decide, tw_291, lyw_7⟩
theorem fl_X8_21 : FLK "DustParish$State" 21 7 0 := ⟨(RX8, TX8, 6), rfl, by decide, rfl, by decide, tw_276, lyw_7⟩
theorem fl_X8_25 : FLK "DustParish$State" 25 7 1 := ⟨(RX8, TX8, 6), rfl, by decide, rfl, by decide, tw_279, lyw_7⟩
theorem fl_X8_28 : FLK "DustParish$State" 28 7 2 := ⟨(RX8, TX8, 6), rfl, by decide, rfl, by decide, tw_282, lyw_7⟩
theorem fl_X8_31 : FLK "DustParish$State" 31 1 3 := ⟨(RX2, TX2, 20), rfl, by decide, rfl, by decide, tw_75, lyw_1⟩
theorem fl_X8_46 : FLK "DustParish$State" 46 1 14 := ⟨(RX2, TX2, 20), rfl, by decide, rfl, by decide, tw_110, lyw_1⟩
theorem fl_X9_9 : FLK "DustParish$Tokens" 9 8 0 := ⟨(RX9, TX9, 7), rfl, by decide, rfl, by decide, tw_179, lyw_8⟩
theorem fl_X9_13 : FLK "DustParish$Tokens" 13 8 1 := ⟨(RX9, TX9, 7), rfl, by decide, rfl, by decide, tw_182, lyw_8⟩
theorem fl_X9_16 : FLK "DustParish$Tokens" 16 8 2 := ⟨(RX9, TX9, 7), rfl, by decide, rfl, by decide, tw_184, lyw_8⟩
theorem fl_X9_19 : FLK "DustParish$Tokens" 19 8 3 := ⟨(RX9, TX9, 7), rfl, by decide, rfl, by decide, tw_187, lyw_8⟩
theorem fl_X9_23 : FLK "DustParish$Tokens" 23 8 4 := ⟨(RX9, TX9, 7), rfl, by decide, rfl, by decide, tw_190, lyw_8⟩
theorem fl_X9_26 : FLK "DustParish$Tokens" 26 8 5 := ⟨(RX9, TX9, 7), rfl, by decide, rfl, by decide, tw_191, lyw_8⟩
theorem fl_X9_29 : FLK "DustParish$Tokens" 29 8 6 := ⟨(RX9, TX9, 7), rfl, by decide, rfl, by decide, tw_192, lyw_8⟩
theorem fl_X11_17 : FLK "DustParishModel" 17 10 0 := ⟨(RX11, TX11, 63), rfl, by decide, rfl, by decide, tw_1269, lyw_10⟩
theorem fl_X11_33 : FLK "DustParishModel" 33 10 1 := ⟨(RX11, TX11, 63), rfl, by decide, rfl, by decide, tw_1270, lyw_10⟩
theorem fl_X11_36 : FLK "DustParishModel" 36 10 3 := ⟨(RX11, TX11, 63), rfl, by decide, rfl, by decide, tw_1272, lyw_10⟩
theorem fl_X11_40 : FLK "DustParishModel" 40 10 4 := ⟨(RX11, TX11, 63), rfl, by decide, rfl, by decide, tw_1273, lyw_10⟩
theorem fl_X11_42 : FLK "DustParishModel" 42 10 5 := ⟨(RX11, TX11, 63), rfl, by decide, rfl, by decide, tw_1274, lyw_10⟩
theorem fl_X11_44 : FLK "DustParishModel" 44 10 6 := ⟨(RX11, TX11, 63), rfl, by decide, rfl, by decide, tw_1275, lyw_10⟩
theorem fl_X11_47 : FLK "DustParishModel" 47 10 7 := ⟨(RX11, TX11, 63), rfl, by decide, rfl, by decide, tw_1276, lyw_10⟩
theorem fl_X11_50 : FLK "DustParishModel" 50 10 8 := ⟨(RX11, TX11, 63), rfl, by decide, rfl, by decide, tw_1277, lyw_10⟩
theorem fl_X11_53 : FLK "DustParishModel" 53 10 9 := ⟨(RX11, TX11, 63), rfl, by decide, rfl, by decide, tw_1278, lyw_10⟩
theorem fl_X11_56 : FLK "DustParishModel" 56 10 10 := ⟨(RX11, TX11, 63), rfl, by decide, rfl, by decide, tw_1279, lyw_10⟩
theorem fl_X11_59 : FLK "DustParishModel" 59 10 11 := ⟨(RX11, TX11, 63), rfl, by decide, rfl, by decide, tw_1280, lyw_10⟩
theorem fl_X11_62 : FLK "DustParishModel" 62 10 12 := ⟨(RX11, TX11, 63), rfl, by decide, rfl, by decide, tw_1281, lyw_10⟩
theorem fl_X11_65 : FLK "DustParishModel" 65 10 13 := ⟨(RX11, TX11, 63), rfl, by decide, rfl, by decide, tw_1282, lyw_10⟩
theorem fl_X11_68 : FLK "DustParishModel" 68 10 14 := ⟨(RX11, TX11, 63), rfl, by decide, rfl, by decide, tw_1283, lyw_10⟩
theorem fl_X11_71 : FLK "DustParishModel" 71 10 15 := ⟨(RX11, TX11, 63), rfl, by decide, rfl, by decide, tw_1284, lyw_10⟩
theorem fl_X11_74 : FLK "DustParishModel" 74 10 16 := ⟨(RX11, TX11, 63), rfl, by decide, rfl, by decide, tw_1285, lyw_10⟩
theorem fl_X11_77 : FLK "DustParishModel" 77 10 17 := ⟨(RX11, TX11, 63), rfl, by decide, rfl, by decide, tw_1286, lyw_10⟩
theorem fl_X11_80 : FLK "DustParishModel" 80 10 18 := ⟨(RX11, TX11, 63), rfl, by decide, rfl, by decide, tw_1287, lyw_10⟩
theorem fl_X11_83 : FLK "DustParishModel" 83 10 28 := ⟨(RX11, TX11, 63), rfl, by decide, rfl, by decide, tw_1297, lyw_10⟩
theorem fl_X11_87 : FLK "DustParishModel" 87 10 29 := ⟨(RX11, TX11, 63), rfl, by decide, rfl, by decide, tw_1298, lyw_10⟩
theorem fl_X11_89 : FLK "DustParishModel" 89 10 30 := ⟨(RX11, TX11, 63), rfl, by decide, rfl, by decide, tw_1299, lyw_10⟩
theorem fl_X11_91 : FLK "DustParishModel" 91 10 31 := ⟨(RX11, TX11, 63), rfl, by decide, rfl, by decide, tw_1300, lyw_10⟩
theorem fl_X11_94 : FLK "DustParishModel" 94 10 32 := ⟨(RX11, TX11, 63), rfl, by decide, rfl, by decide, tw_1301, lyw_10⟩
theorem fl_X11_97 : FLK "DustParishModel" 97 10 38 := ⟨(RX11, TX11, 63), rfl, by decide, rfl, by decide, tw_1307, lyw_10⟩
theorem fl_X11_100 : FLK "DustParishModel" 100 10 39 := ⟨(RX11, TX11, 63), rfl, by decide, rfl, by decide, tw_1308, lyw_10⟩
theorem fl_X11_103 : FLK "DustParishModel" 103 10 40 := ⟨(RX11, TX11, 63), rfl, by decide, rfl, by decide, tw_1309, lyw_10⟩
theorem fl_X11_106 : FLK "DustParishModel" 106 10 41 := ⟨(RX11, TX11, 63), rfl, by decide, rfl, by decide, tw_1310, lyw_10⟩
theorem fl_X11_109 : FLK "DustParishModel" 109 10 42 := ⟨(RX11, TX11, 63), rfl, by decide, rfl, by decide, tw_1311, lyw_10⟩
theorem fl_X11_112 : FLK "DustParishModel" 112 10 43 := ⟨(RX11, TX11, 63), rfl, by decide, rfl, by decide, tw_1312, lyw_10⟩
theorem fl_X11_115 : FLK "DustParishModel" 115 10 44 := ⟨(RX11, TX11, 63), rfl, by decide, rfl, by decide, tw_1313, lyw_10⟩
theorem fl_X11_118 : FLK "DustParishModel" 118 10 46 := ⟨(RX11, TX11, 63), rfl, by decide, rfl, by decide, tw_1315, lyw_10⟩
theorem fl_X11_121 : FLK "DustParishModel" 121 10 47 := ⟨(RX11, TX11, 63), rfl, by decide, rfl, by decide, tw_1316, lyw_10⟩
theorem fl_X11_124 : FLK "DustParishModel" 124 10 48 := ⟨(RX11, TX11, 63), rfl, by decide, rfl, by decide, tw_1317, lyw_10⟩
theorem fl_X11_127 : FLK "DustParishModel" 127 10 49 := ⟨(RX11, TX11, 63), rfl, by decide, rfl, by decide, tw_1318, lyw_10⟩
theorem fl_X11_130 : FLK "DustParishModel" 130 10 50 := ⟨(RX11, TX11, 63), rfl, by decide, rfl, by decide, tw_1319, lyw_10⟩
theorem fl_X11_133 : FLK "DustParishModel" 133 10 51 := ⟨(RX11, TX11, 63), rfl, by decide, rfl, by decide, tw_1320, lyw_10⟩
theorem fl_X11_136 : FLK "DustParishModel" 136 10 52 := ⟨(RX11, TX11, 63), rfl, by decide, rfl, by decide, tw_1321, lyw_10⟩
theorem fl_X11_139 : FLK "DustParishModel" 139 10 57 := ⟨(RX11, TX11, 63), rfl, by decide, rfl, by decide, tw_1326, lyw_10⟩
theorem fl_X11_142 : FLK "DustParishModel" 142 10 58 := ⟨(RX11, TX11, 63), rfl, by decide, rfl, by decide, tw_1327, lyw_10⟩
theorem fl_X11_145 : FLK "DustParishModel" 145 10 59 := ⟨(RX11, TX11, 63), rfl, by decide, rfl, by decide, tw_1328, lyw_10⟩
theorem fl_X11_148 : FLK "DustParishModel" 148 10 60 := ⟨(RX11, TX11, 63), rfl, by decide, rfl, by decide, tw_1329, lyw_10⟩
theorem fl_X11_151 : FLK "DustParishModel" 151 10 61 := ⟨(RX11, TX11, 63), rfl, by decide, rfl, by decide, tw_1330, lyw_10⟩
theorem fl_X11_154 : FLK "DustParishModel" 154 10 62 := ⟨(RX11, TX11, 63), rfl, by decide, rfl, by decide, tw_1331, lyw_10⟩
theorem fl_X11_157 : FLK "DustParishModel" 157 10 2 := ⟨(RX11, TX11, 63), rfl, by decide, rfl, by decide, tw_1271, lyw_10⟩
theorem fl_X11_166 : FLK "DustParishModel" 166 10 19 := ⟨(RX11, TX11, 63), rfl, by decide, rfl, by decide, tw_1288, lyw_10⟩
theorem fl_X11_169 : FLK "DustParishModel" 169 10 21 := ⟨(RX11, TX11, 63), rfl, by decide, rfl, by decide, tw_1290, lyw_10⟩
theorem fl_X11_172 : FLK "DustParishModel" 172 10 20 := ⟨(RX11, TX11, 63), rfl, by decide, rfl, by decide, tw_1289, lyw_10⟩
theorem fl_X11_179 : FLK "DustParishModel" 179 10 24 := ⟨(RX11, TX11, 63), rfl, by decide, rfl, by decide, tw_1293, lyw_10⟩
theorem fl_X11_182 : FLK "DustParishModel" 182 10 22 := ⟨(RX11, TX11, 63), rfl, by decide, rfl, by decide, tw_1291, lyw_10⟩
theorem fl_X11_192 : FLK "DustParishModel" 192 10 23 := ⟨(RX11, TX11, 63), rfl, by decide, rfl, by decide, tw_1292, lyw_10⟩
theorem fl_X11_205 : FLK "DustParishModel" 205 10 25 := ⟨(RX11, TX11, 63), rfl, by decide, rfl, by decide, tw_1294, lyw_10⟩
theorem fl_X11_208 : FLK "DustParishModel" 208 10 26 := ⟨(RX11, TX11, 63), rfl, by decide, rfl, by decide, tw_1295, lyw_10⟩
theorem fl_X11_211 : FLK "DustParishModel" 211 10 27 := ⟨(RX11, TX11, 63), rfl, by decide, rfl, by decide, tw_1296, lyw_10⟩
theorem fl_X11_333 : FLK "DustParishModel" 333 10 33 := ⟨(RX11, TX11, 63), rfl, by decide, rfl, by decide, tw_1302, lyw_10⟩
theorem fl_X11_335 : FLK "DustParishModel" 335 10 34 := ⟨(RX11, TX11, 63), rfl, by decide, rfl, by decide, tw_1303, lyw_10⟩
theorem fl_X11_338 : FLK "DustParishModel" 338 10 35 := ⟨(RX11, TX11, 63), rfl, by decide, rfl, by decide, tw_1304, lyw_10⟩
theorem fl_X11_341 : FLK "DustParishModel" 341 10 36 := ⟨(RX11, TX11, 63), rfl, by decide, rfl, by decide, tw_1305, lyw_10⟩
theorem fl_X11_344 : FLK "DustParishModel" 344 10 37 := ⟨(RX11, TX11, 63), rfl, by decide, rfl, by decide, tw_1306, lyw_10⟩
theorem fl_X11_347 : FLK "DustParishModel" 347 10 54 := ⟨(RX11, TX11, 63), rfl, by decide, rfl, by decide, tw_1323, lyw_10⟩
theorem fl_X11_442 : FLK "DustParishModel" 442 10 45 := ⟨(RX11, TX11, 63), rfl, by decide, rfl, by decide, tw_1314, lyw_10⟩
theorem fl_X11_474 : FLK "DustParishModel" 474 10 53 := ⟨(RX11, TX11, 63), rfl, by decide, rfl, by decide, tw_1322, lyw_10⟩
theorem fl_X11_489 : FLK "DustParishModel" 489 10 55 := ⟨(RX11, TX11, 63), rfl, by decide, rfl, by decide, tw_1324, lyw_10⟩
theorem fl_X11_492 : FLK "DustParishModel" 492 10 56 := ⟨(RX11, TX11, 63), rfl, by decide, rfl, by decide, tw_1325, lyw_10⟩
theorem pl_0_0 : PLK 0 0 .int := ⟨(RX0, TX0, 3), tyX0, rfl, rfl, rfl, tyX0_ok, nmX0⟩
theorem fv_0_0 {g : GE} {o : Nat} {v : Int32} : fval g true (FT 0 0) o v = .int v := rfl
theorem pl_0_1 : PLK 0 1 .int := ⟨(RX0, TX0, 3), tyX0, rfl, rfl, rfl, tyX0_ok, nmX0⟩
theorem fv_0_1 {g : GE} {o : Nat} {v : Int32} : fval g true (FT 0 1) o v = .int v := rfl
theorem fv_0_2 {g : GE} {o : Nat} {v : Int32} : fval g true (FT 0 2) o v = .ref (gA g (o + 1)) := rfl
theorem ly_0_2 {o : Nat} (ho : o < 395) (hk : KC o = (0, 0)) : o + 1 < 395 ∧ KC (o + 1) = (23, 40) := by
  have h : ∀ o, o < 395 → KC o = (0, 0) → o + 1 < 395 ∧ KC (o + 1) = (23, 40) := by decide +kernel
  exact h o ho hk
theorem pl_1_0 : PLK 1 0 .int := ⟨(RX2, TX2, 20), tyX2, rfl, rfl, rfl, tyX2_ok, nmX2⟩
theorem fv_1_0 {g : GE} {o : Nat} {v : Int32} : fval g true (FT 1 0) o v = .int v := rfl
theorem fv_1_1 {g : GE} {o : Nat} {v : Int32} : fval g true (FT 1 1) o v = .ref (gA g (o + 1)) := rfl
theorem ly_1_1 {o : Nat} (ho : o < 395) (hk : KC o = (1, 0)) : o + 1 < 395 ∧ KC (o + 1) = (20, 9) := by
  have h : ∀ o, o < 395 → KC o = (1, 0) → o + 1 < 395 ∧ KC (o + 1) = (20, 9) := by decide +kernel
  exact h o ho hk
theorem fv_1_2 {g : GE} {o : Nat} {v : Int32} : fval g true (FT 1 2) o v = .ref (gA g (o + 2)) := rfl
theorem ly_1_2 {o : Nat} (ho : o < 395) (hk : KC o = (1, 0)) : o + 2 < 395 ∧ KC (o + 2) = (20, 9) := by
  have h : ∀ o, o < 395 → KC o = (1, 0) → o + 2 < 395 ∧ KC (o + 2) = (20, 9) := by decide +kernel
  exact h o ho hk
theorem fv_1_3 {g : GE} {o : Nat} {v : Int32} : fval g true (FT 1 3) o v = .ref (gA g (o + 3)) := rfl
theorem ly_1_3 {o : Nat} (ho : o < 395) (hk : KC o = (1, 0)) : o + 3 < 395 ∧ KC (o + 3) = (20, 9) := by
  have h : ∀ o, o < 395 → KC o = (1, 0) → o + 3 < 395 ∧ KC (o + 3) = (20, 9) := by decide +kernel
  exact h o ho hk
theorem fv_1_4 {g : GE} {o : Nat} {v : Int32} : fval g true (FT 1 4) o v = .ref (gA g (o + 4)) := rfl
theorem ly_1_4 {o : Nat} (ho : o < 395) (hk : KC o = (1, 0)) : o + 4 < 395 ∧ KC (o + 4) = (20, 9) := by
  have h : ∀ o, o < 395 → KC o = (1, 0) → o + 4 < 395 ∧ KC (o + 4) = (20, 9) := by decide +kernel
  exact h o ho hk
theorem pl_1_5 : PLK 1 5 .int := ⟨(RX2, TX2, 20), tyX2, rfl, rfl, rfl, tyX2_ok, nmX2⟩
theorem fv_1_5 {g : GE} {o : Nat} {v : Int32} : fval g true (FT 1 5) o v = .int v := rfl
theorem fv_1_6 {g : GE} {o : Nat} {v : Int32} : fval g true (FT 1 6) o v = .ref (gA g (o + 5)) := rfl
theorem ly_1_6 {o : Nat} (ho : o < 395) (hk : KC o = (1, 0)) : o + 5 < 395 ∧ KC (o + 5) = (20, 14) := by
  have h : ∀ o, o < 395 → KC o = (1, 0) → o + 5 < 395 ∧ KC (o + 5) = (20, 14) := by decide +kernel
  exact h o ho hk
theorem fv_1_7 {g : GE} {o : Nat} {v : Int32} : fval g true (FT 1 7) o v = .ref (gA g (o + 6)) := rfl
theorem ly_1_7 {o : Nat} (ho : o < 395) (hk : KC o = (1, 0)) : o + 6 < 395 ∧ KC (o + 6) = (20, 14) := by
  have h : ∀ o, o < 395 → KC o = (1, 0) → o + 6 < 395 ∧ KC (o + 6) = (20, 14) := by decide +kernel
  exact h o ho hk
theorem pl_1_8 : PLK 1 8 .int := ⟨(RX2, TX2, 20), tyX2, rfl, rfl, rfl, tyX2_ok, nmX2⟩
theorem fv_1_8 {g : GE} {o : Nat} {v : Int32} : fval g true (FT 1 8) o v = .int v := rfl
theorem fv_1_9 {g : GE} {o : Nat} {v : Int32} : fval g true (FT 1 9) o v = .ref (gA g (o + 7)) := rfl
theorem ly_1_9 {o : Nat} (ho : o < 395) (hk : KC o = (1, 0)) : o + 7 < 395 ∧ KC (o + 7) = (20, 5) := by
  have h : ∀ o, o < 395 → KC o = (1, 0) → o + 7 < 395 ∧ KC (o + 7) = (20, 5) := by decide +kernel
  exact h o ho hk
theorem fv_1_10 {g : GE} {o : Nat} {v : Int32} : fval g true (FT 1 10) o v = .ref (gA g (o + 8)) := rfl
theorem ly_1_10 {o : Nat} (ho : o < 395) (hk : KC o = (1, 0)) : o + 8 < 395 ∧ KC (o + 8) = (20, 40) := by
  have h : ∀ o, o < 395 → KC o = (1, 0) → o + 8 < 395 ∧ KC (o + 8) = (20, 40) := by decide +kernel
  exact h o ho hk
theorem fv_1_11 {g : GE} {o : Nat} {v : Int32} : fval g true (FT 1 11) o v = .ref (gA g (o + 9)) := rfl
theorem ly_1_11 {o : Nat} (ho : o < 395) (hk : KC o = (1, 0)) : o + 9 < 395 ∧ KC (o + 9) = (20, 40) := by
  have h : ∀ o, o < 395 → KC o = (1, 0) → o + 9 < 395 ∧ KC (o + 9) = (20, 40) := by decide +kernel
  exact h o ho hk
theorem fv_1_12 {g : GE} {o : Nat} {v : Int32} : fval g true (FT 1 12) o v = .ref (gA g (o + 10)) := rfl
theorem ly_1_12 {o : Nat} (ho : o < 395) (hk : KC o = (1, 0)) : o + 10 < 395 ∧ KC (o + 10) = (20, 40) := by
  have h : ∀ o, o < 395 → KC o = (1, 0) → o + 10 < 395 ∧ KC (o + 10) = (20, 40) := by decide +kernel
  exact h o ho hk
theorem pl_1_13 : PLK 1 13 .int := ⟨(RX2, TX2, 20), tyX2, rfl, rfl, rfl, tyX2_ok, nmX2⟩
theorem fv_1_13 {g : GE} {o : Nat} {v : Int32} : fval g true (FT 1 13) o v = .int v := rfl
theorem fv_1_14 {g : GE} {o : Nat} {v : Int32} : fval g true (FT 1 14) o v = .ref (gA g (o + 11)) := rfl
theorem ly_1_14 {o : Nat} (ho : o < 395) (hk : KC o = (1, 0)) : o + 11 < 395 ∧ KC (o + 11) = (20, 10) := by
  have h : ∀ o, o < 395 → KC o = (1, 0) → o + 11 < 395 ∧ KC (o + 11) = (20, 10) := by decide +kernel
  exact h o ho hk
theorem pl_1_15 : PLK 1 15 .int := ⟨(RX2, TX2, 20), tyX2, rfl, rfl, rfl, tyX2_ok, nmX2⟩
theorem fv_1_15 {g : GE} {o : Nat} {v : Int32} : fval g true (FT 1 15) o v = .int v := rfl
theorem pl_1_16 : PLK 1 16 .int := ⟨(RX2, TX2, 20), tyX2, rfl, rfl, rfl, tyX2_ok, nmX2⟩
theorem fv_1_16 {g : GE} {o : Nat} {v : Int32} : fval g true (FT 1 16) o v = .int v := rfl
theorem fv_1_17 {g : GE} {o : Nat} {v : Int32} : fval g true (FT 1 17) o v = .ref (gA g (o + 12)) := rfl
theorem ly_1_17 {o : Nat} (ho : o < 395) (hk : KC o = (1, 0)) : o + 12 < 395 ∧ KC (o + 12) = (4, 0) := by
  have h : ∀ o, o < 395 → KC o = (1, 0) → o + 12 < 395 ∧ KC (o + 12) = (4, 0) := by decide +kernel
  exact h o ho hk
theorem fv_1_18 {g : GE} {o : Nat} {v : Int32} : fval g true (FT 1 18) o v = .ref (gA g (o + 16)) := rfl
theorem ly_1_18 {o : Nat} (ho : o < 395) (hk : KC o = (1, 0)) : o + 16 < 395 ∧ KC (o + 16) = (20, 81) := by
  have h : ∀ o, o < 395 → KC o = (1, 0) → o + 16 < 395 ∧ KC (o + 16) = (20, 81) := by decide +kernel
  exact h o ho hk
theorem fv_1_19 {g : GE} {o : Nat} {v : Int32} : fval g true (FT 1 19) o v = .ref (gA g (o + 17)) := rfl
theorem ly_1_19 {o : Nat} (ho : o < 395) (hk : KC o = (1, 0)) : o + 17 < 395 ∧ KC (o + 17) = (20, 6) := by
  have h : ∀ o, o < 395 → KC o = (1, 0) → o + 17 < 395 ∧ KC (o + 17) = (20, 6) := by decide +kernel
  exact h o ho hk
theorem fv_2_0 {g : GE} {o : Nat} {v : Int32} : fval g true (FT 2 0) o v = .ref (gA g (o + 1)) := rfl
theorem ly_2_0 {o : Nat} (ho : o < 395) (hk : KC o = (2, 0)) : o + 1 < 395 ∧ KC (o + 1) = (7, 0) := by
  have h : ∀ o, o < 395 → KC o = (2, 0) → o + 1 < 395 ∧ KC (o + 1) = (7, 0) := by decide +kernel
  exact h o ho hk
theorem fv_2_1 {g : GE} {o : Nat} {v : Int32} : fval g true (FT 2 1) o v = .ref (gA g (o + 5)) := rfl
theorem ly_2_1 {o : Nat} (ho : o < 395) (hk : KC o = (2, 0)) : o + 5 < 395 ∧ KC (o + 5) = (0, 0) := by
  have h : ∀ o, o < 395 → KC o = (2, 0) → o + 5 < 395 ∧ KC (o + 5) = (0, 0) := by decide +kernel
  exact h o ho hk
theorem fv_2_2 {g : GE} {o : Nat} {v : Int32} : fval g true (FT 2 2) o v = .ref (gA g (o + 167)) := rfl
theorem ly_2_2 {o : Nat} (ho : o < 395) (hk : KC o = (2, 0)) : o + 167 < 395 ∧ KC (o + 167) = (6, 0) := by
  have h : ∀ o, o < 395 → KC o = (2, 0) → o + 167 < 395 ∧ KC (o + 167) = (6, 0) := by decide +kernel
  exact h o ho hk
theorem fv_2_3 {g : GE} {o : Nat} {v : Int32} : fval g true (FT 2 3) o v = .ref (gA g (o + 171)) := rfl
theorem ly_2_3 {o : Nat} (ho : o < 395) (hk : KC o = (2, 0)) : o + 171 < 395 ∧ KC (o + 171) = (20, 3) := by
  have h : ∀ o, o < 395 → KC o = (2, 0) → o + 171 < 395 ∧ KC (o + 171) = (20, 3) := by decide +kernel
  exact h o ho hk
theorem fv_3_0 {g : GE} {v : Int32} : fval g true (FT 3 0) 38 v = .ref (gA g 39) := rfl
theorem fv_3_1 {g : GE} {v : Int32} : fval g true (FT 3 1) 38 v = .ref (gA g 40) := rfl
theorem pl_3_2 : PLK 3 2 (.object "DustParish$Facts") := ⟨(RX4, TX4, 8), tyX4, rfl, rfl, rfl, tyX4_ok, nmX4⟩
theorem fv_3_2 {g : GE} {o f : Nat} {v : Int32} (e : v.toNatClampNeg = f) : fval g true (FT 3 2) o v = .ref (gA g f) := by subst e; rfl
theorem pl_3_3 : PLK 3 3 .int := ⟨(RX4, TX4, 8), tyX4, rfl, rfl, rfl, tyX4_ok, nmX4⟩
theorem fv_3_3 {g : GE} {o : Nat} {v : Int32} : fval g true (FT 3 3) o v = .int v := rfl
theorem pl_3_4 : PLK 3 4 .boolean := ⟨(RX4, TX4, 8), tyX4, rfl, rfl, rfl, tyX4_ok, nmX4⟩
theorem fv_3_4 {g : GE} {o : Nat} {v : Int32} : fval g true (FT 3 4) o v = .int v := rfl
theorem pl_3_5 : PLK 3 5 .boolean := ⟨(RX4, TX4, 8), tyX4, rfl, rfl, rfl, tyX4_ok, nmX4⟩
theorem fv_3_5 {g : GE} {o : Nat} {v : Int32} : fval g true (FT 3 5) o v = .int v := rfl
theorem pl_3_6 : PLK 3 6 .boolean := ⟨(RX4, TX4, 8), tyX4, rfl, rfl, rfl, tyX4_ok, nmX4⟩
theorem fv_3_6 {g : GE} {o : Nat} {v : Int32} : fval g true (FT 3 6) o v = .int v := rfl
theorem pl_3_7 : PLK 3 7 .boolean := ⟨(RX4, TX4, 8), tyX4, rfl, rfl, rfl, tyX4_ok, nmX4⟩
theorem fv_3_7 {g : GE} {o : Nat} {v : Int32} : fval g true (FT 3 7) o v = .int v := rfl
theorem fv_4_0 {g : GE} {o : Nat} {v : Int32} : fval g true (FT 4 0) o v = .ref (gA g (o + 1)) := rfl
theorem ly_4_0 {o : Nat} (ho : o < 395) (hk : KC o = (4, 0)) : o + 1 < 395 ∧ KC (o + 1) = (20, 6) := by
  have h : ∀ o, o < 395 → KC o = (4, 0) → o + 1 < 395 ∧ KC (o + 1) = (20, 6) := by decide +kernel
  exact h o ho hk
theorem pl_4_1 : PLK 4 1 .int := ⟨(RX5, TX5, 4), tyX5, rfl, rfl, rfl, tyX5_ok, nmX5⟩
theorem fv_4_1 {g : GE} {o : Nat} {v : Int32} : fval g true (FT 4 1) o v = .int v := rfl
theorem fv_4_2 {g : GE} {o : Nat} {v : Int32} : fval g true (FT 4 2) o v = .ref (gA g (o + 2)) := rfl
theorem ly_4_2 {o : Nat} (ho : o < 395) (hk : KC o = (4, 0)) : o + 2 < 395 ∧ KC (o + 2) = (20, 700) := by
  have h : ∀ o, o < 395 → KC o = (4, 0) → o + 2 < 395 ∧ KC (o + 2) = (20, 700) := by decide +kernel
  exact h o ho hk
theorem fv_4_3 {g : GE} {o : Nat} {v : Int32} : fval g true (FT 4 3) o v = .ref (gA g (o + 3)) := rfl
theorem ly_4_3 {o : Nat} (ho : o < 395) (hk : KC o = (4, 0)) : o + 3 < 395 ∧ KC (o + 3) = (20, 40) := by
  have h : ∀ o, o < 395 → KC o = (4, 0) → o + 3 < 395 ∧ KC (o + 3) = (20, 40) := by decide +kernel
  exact h o ho hk
theorem fv_5_0 {g : GE} {v : Int32} : fval g true (FT 5 0) 40 v = .ref (gA g 41) := rfl
theorem pl_5_1 : PLK 5 1 .int := ⟨(RX6, TX6, 8), tyX6, rfl, rfl, rfl, tyX6_ok, nmX6⟩
theorem fv_5_1 {g : GE} {o : Nat} {v : Int32} : fval g true (FT 5 1) o v = .int v := rfl
theorem pl_5_2 : PLK 5 2 .int := ⟨(RX6, TX6, 8), tyX6, rfl, rfl, rfl, tyX6_ok, nmX6⟩
theorem fv_5_2 {g : GE} {o : Nat} {v : Int32} : fval g true (FT 5 2) o v = .int v := rfl
theorem pl_5_3 : PLK 5 3 .int := ⟨(RX6, TX6, 8), tyX6, rfl, rfl, rfl, tyX6_ok, nmX6⟩
theorem fv_5_3 {g : GE} {o : Nat} {v : Int32} : fval g true (FT 5 3) o v = .int v := rfl
theorem pl_5_4 : PLK 5 4 .boolean := ⟨(RX6, TX6, 8), tyX6, rfl, rfl, rfl, tyX6_ok, nmX6⟩
theorem fv_5_4 {g : GE} {o : Nat} {v : Int32} : fval g true (FT 5 4) o v = .int v := rfl
theorem pl_5_5 : PLK 5 5 .boolean := ⟨(RX6, TX6, 8), tyX6, rfl, rfl, rfl, tyX6_ok, nmX6⟩
theorem fv_5_5 {g : GE} {o : Nat} {v : Int32} : fval g true (FT 5 5) o v = .int v := rfl
theorem fv_5_6 {g : GE} {v : Int32} : fval g true (FT 5 6) 40 v = .ref (gA g 39) := rfl
theorem pl_5_7 : PLK 5 7 (.object "DustParish$Rule") := ⟨(RX6, TX6, 8), tyX6, rfl, rfl, rfl, tyX6_ok, nmX6⟩
theorem fv_5_7 {g : GE} {o f : Nat} {v : Int32} (e : v.toNatClampNeg = f) : fval g true (FT 5 7) o v = .ref (gA g f) := by subst e; rfl
theorem pl_6_0 : PLK 6 0 .int := ⟨(RX7, TX7, 4), tyX7, rfl, rfl, rfl, tyX7_ok, nmX7⟩
theorem fv_6_0 {g : GE} {o : Nat} {v : Int32} : fval g true (FT 6 0) o v = .int v := rfl
theorem fv_6_1 {g : GE} {o : Nat} {v : Int32} : fval g true (FT 6 1) o v = .ref (gA g (o + 1)) := rfl
theorem ly_6_1 {o : Nat} (ho : o < 395) (hk : KC o = (6, 0)) : o + 1 < 395 ∧ KC (o + 1) = (20, 8) := by
  have h : ∀ o, o < 395 → KC o = (6, 0) → o + 1 < 395 ∧ KC (o + 1) = (20, 8) := by decide +kernel
  exact h o ho hk
theorem fv_6_2 {g : GE} {o : Nat} {v : Int32} : fval g true (FT 6 2) o v = .ref (gA g (o + 2)) := rfl
theorem ly_6_2 {o : Nat} (ho : o < 395) (hk : KC o = (6, 0)) : o + 2 < 395 ∧ KC (o + 2) = (20, 8) := by
  have h : ∀ o, o < 395 → KC o = (6, 0) → o + 2 < 395 ∧ KC (o + 2) = (20, 8) := by decide +kernel
  exact h o ho hk
theorem fv_6_3 {g : GE} {o : Nat} {v : Int32} : fval g true (FT 6 3) o v = .ref (gA g (o + 3)) := rfl
theorem ly_6_3 {o : Nat} (ho : o < 395) (hk : KC o = (6, 0)) : o + 3 < 395 ∧ KC (o + 3) = (20, 8) := by
  have h : ∀ o, o < 395 → KC o = (6, 0) → o + 3 < 395 ∧ KC (o + 3) = (20, 8) := by decide +kernel
  exact h o ho hk
theorem pl_7_0 : PLK 7 0 .int := ⟨(RX8, TX8, 6), tyX8, rfl, rfl, rfl, tyX8_ok, nmX8⟩
theorem fv_7_0 {g : GE} {o : Nat} {v : Int32} : fval g true (FT 7 0) o v = .int v := rfl
theorem pl_7_1 : PLK 7 1 .int := ⟨(RX8, TX8, 6), tyX8, rfl, rfl, rfl, tyX8_ok, nmX8⟩
theorem fv_7_1 {g : GE} {o : Nat} {v : Int32} : fval g true (FT 7 1) o v = .int v := rfl
theorem pl_7_2 : PLK 7 2 .int := ⟨(RX8, TX8, 6), tyX8, rfl, rfl, rfl, tyX8_ok, nmX8⟩
theorem fv_7_2 {g : GE} {o : Nat} {v : Int32} : fval g true (FT 7 2) o v = .int v := rfl
theorem fv_7_3 {g : GE} {o : Nat} {v : Int32} : fval g true (FT 7 3) o v = .ref (gA g (o + 1)) := rfl
theorem ly_7_3 {o : Nat} (ho : o < 395) (hk : KC o = (7, 0)) : o + 1 < 395 ∧ KC (o + 1) = (20, 9) := by
  have h : ∀ o, o < 395 → KC o = (7, 0) → o + 1 < 395 ∧ KC (o + 1) = (20, 9) := by decide +kernel
  exact h o ho hk
theorem fv_7_4 {g : GE} {o : Nat} {v : Int32} : fval g true (FT 7 4) o v = .ref (gA g (o + 2)) := rfl
theorem ly_7_4 {o : Nat} (ho : o < 395) (hk : KC o = (7, 0)) : o + 2 < 395 ∧ KC (o + 2) = (20, 9) := by
  have h : ∀ o, o < 395 → KC o = (7, 0) → o + 2 < 395 ∧ KC (o + 2) = (20, 9) := by decide +kernel
  exact h o ho hk
theorem fv_7_5 {g : GE} {o : Nat} {v : Int32} : fval g true (FT 7 5) o v = .ref (gA g (o + 3)) := rfl
theorem ly_7_5 {o : Nat} (ho : o < 395) (hk : KC o = (7, 0)) : o + 3 < 395 ∧ KC (o + 3) = (20, 10) := by
  have h : ∀ o, o < 395 → KC o = (7, 0) → o + 3 < 395 ∧ KC (o + 3) = (20, 10) := by decide +kernel
  exact h o ho hk
theorem pl_8_0 : PLK 8 0 .int := ⟨(RX9, TX9, 7), tyX9, rfl, rfl, rfl, tyX9_ok, nmX9⟩
theorem fv_8_0 {g : GE} {o : Nat} {v : Int32} : fval g true (FT 8 0) o v = .int v := rfl
theorem pl_8_1 : PLK 8 1 .int := ⟨(RX9, TX9, 7), tyX9, rfl, rfl, rfl, tyX9_ok, nmX9⟩
theorem fv_8_1 {g : GE} {o : Nat} {v : Int32} : fval g true (FT 8 1) o v = .int v := rfl
theorem pl_8_2 : PLK 8 2 .int := ⟨(RX9, TX9, 7), tyX9, rfl, rfl, rfl, tyX9_ok, nmX9⟩
theorem fv_8_2 {g : GE} {o : Nat} {v : Int32} : fval g true (FT 8 2) o v = .int v := rfl
theorem pl_8_3 : PLK 8 3 .boolean := ⟨(RX9, TX9, 7), tyX9, rfl, rfl, rfl, tyX9_ok, nmX9⟩
theorem fv_8_3 {g : GE} {o : Nat} {v : Int32} : fval g true (FT 8 3) o v = .int v := rfl
theorem pl_8_4 : PLK 8 4 .int := ⟨(RX9, TX9, 7), tyX9, rfl, rfl, rfl, tyX9_ok, nmX9⟩
theorem fv_8_4 {g : GE} {o : Nat} {v : Int32} : fval g true (FT 8 4) o v = .int v := rfl
theorem pl_8_5 : PLK 8 5 .int := ⟨(RX9, TX9, 7), tyX9, rfl, rfl, rfl, tyX9_ok, nmX9⟩
theorem fv_8_5 {g : GE} {o : Nat} {v : Int32} : fval g true (FT 8 5) o v = .int v := rfl
theorem fv_8_6 {g : GE} {v : Int32} : fval g true (FT 8 6) 39 v = .ref (gA g 1) := rfl
theorem fv_9_0 {g : GE} {v : Int32} : fval g true (FT 9 0) 0 v = .ref (gA g 1) := rfl
theorem pl_9_1 : PLK 9 1 .int := ⟨(RX10, TX10, 15), tyX10, rfl, rfl, rfl, tyX10_ok, nmX10⟩
theorem fv_9_1 {g : GE} {o : Nat} {v : Int32} : fval g true (FT 9 1) o v = .int v := rfl
theorem pl_9_2 : PLK 9 2 .int := ⟨(RX10, TX10, 15), tyX10, rfl, rfl, rfl, tyX10_ok, nmX10⟩
theorem fv_9_2 {g : GE} {o : Nat} {v : Int32} : fval g true (FT 9 2) o v = .int v := rfl
theorem pl_9_3 : PLK 9 3 (.object "DustParish$Facts") := ⟨(RX10, TX10, 15), tyX10, rfl, rfl, rfl, tyX10_ok, nmX10⟩
theorem fv_9_3 {g : GE} {o f : Nat} {v : Int32} (e : v.toNatClampNeg = f) : fval g true (FT 9 3) o v = .ref (gA g f) := by subst e; rfl
theorem pl_9_4 : PLK 9 4 (.object "DustParish$Facts") := ⟨(RX10, TX10, 15), tyX10, rfl, rfl, rfl, tyX10_ok, nmX10⟩
theorem fv_9_4 {g : GE} {o f : Nat} {v : Int32} (e : v.toNatClampNeg = f) : fval g true (FT 9 4) o v = .ref (gA g f) := by subst e; rfl
theorem fv_9_5 {g : GE} {v : Int32} : fval g true (FT 9 5) 0 v = .ref (gA g 38) := rfl
theorem fv_9_6 {g : GE} {v : Int32} : fval g true (FT 9 6) 0 v = .ref (gA g 42) := rfl
theorem fv_9_7 {g : GE} {v : Int32} : fval g true (FT 9 7) 0 v = .ref (gA g 214) := rfl
theorem pl_9_8 : PLK 9 8 .boolean := ⟨(RX10, TX10, 15), tyX10, rfl, rfl, rfl, tyX10_ok, nmX10⟩
theorem fv_9_8 {g : GE} {o : Nat} {v : Int32} : fval g true (FT 9 8) o v = .int v := rfl
theorem fv_9_9 {g : GE} {v : Int32} : fval g true (FT 9 9) 0 v = .ref (gA g 386) := rfl
theorem fv_9_10 {g : GE} {v : Int32} : fval g true (FT 9 10) 0 v = .ref (gA g 390) := rfl
theorem fv_9_11 {g : GE} {v : Int32} : fval g true (FT 9 11) 0 v = .ref (gA g 391) := rfl
theorem fv_9_12 {g : GE} {v : Int32} : fval g true (FT 9 12) 0 v = .ref (gA g 392) := rfl
theorem fv_9_13 {g : GE} {v : Int32} : fval g true (FT 9 13) 0 v = .ref (gA g 393) := rfl
theorem fv_9_14 {g : GE} {v : Int32} : fval g true (FT 9 14) 0 v = .ref (gA g 394) := rfl
theorem fv_10_0 {g : GE} {v : Int32} : fval g true (FT 10 0) 0 v = .ref (gA g 1) := rfl
theorem fv_10_1 {g : GE} {v : Int32} : fval g true (FT 10 1) 0 v = .ref (gA g 2) := rfl
theorem pl_10_2 : PLK 10 2 .int := ⟨(RX11, TX11, 63), tyX11, rfl, rfl, rfl, tyX11_ok, nmX11⟩
theorem fv_10_2 {g : GE} {o : Nat} {v : Int32} : fval g true (FT 10 2) o v = .int v := rfl
theorem fv_10_3 {g : GE} {v : Int32} : fval g true (FT 10 3) 0 v = .ref (gA g 3) := rfl
theorem fv_10_4 {g : GE} {v : Int32} : fval g true (FT 10 4) 0 v = .ref (gA g 4) := rfl
theorem fv_10_5 {g : GE} {v : Int32} : fval g true (FT 10 5) 0 v = .ref (gA g 5) := rfl
theorem fv_10_6 {g : GE} {v : Int32} : fval g true (FT 10 6) 0 v = .ref (gA g 6) := rfl
theorem fv_10_7 {g : GE} {v : Int32} : fval g true (FT 10 7) 0 v = .ref (gA g 7) := rfl
theorem fv_10_8 {g : GE} {v : Int32} : fval g true (FT 10 8) 0 v = .ref (gA g 8) := rfl
theorem fv_10_9 {g : GE} {v : Int32} : fval g true (FT 10 9) 0 v = .ref (gA g 9) := rfl
theorem fv_10_10 {g : GE} {v : Int32} : fval g true (FT 10 10) 0 v = .ref (gA g 10) := rfl
theorem fv_10_11 {g : GE} {v : Int32} : fval g true (FT 10 11) 0 v = .ref (gA g 11) := rfl
theorem fv_10_12 {g : GE} {v : Int32} : fval g true (FT 10 12) 0 v = .ref (gA g 12) := rfl
theorem fv_10_13 {g : GE} {v : Int32} : fval g true (FT 10 13) 0 v = .ref (gA g 13) := rfl
theorem fv_10_14 {g : GE} {v : Int32} : fval g true (FT 10 14) 0 v = .ref (gA g 14) := rfl
theorem fv_10_15 {g : GE} {v : Int32} : fval g true (FT 10 15) 0 v = .ref (gA g 15) := rfl
theorem fv_10_16 {g : GE} {v : Int32} : fval g true (FT 10 16) 0 v = .ref (gA g 16) := rfl
theorem fv_10_17 {g : GE} {v : Int32} : fval g true (FT 10 17) 0 v = .ref (gA g 17) := rfl
theorem fv_10_18 {g : GE} {v : Int32} : fval g true (FT 10 18) 0 v = .ref (gA g 18) := rfl
theorem pl_10_19 : PLK 10 19 .int := ⟨(RX11, TX11, 63), tyX11, rfl, rfl, rfl, tyX11_ok, nmX11⟩
theorem fv_10_19 {g : GE} {o : Nat} {v : Int32} : fval g true (FT 10 19) o v = .int v := rfl
theorem pl_10_20 : PLK 10 20 .int := ⟨(RX11, TX11, 63), tyX11, rfl, rfl, rfl, tyX11_ok, nmX11⟩
theorem fv_10_20 {g : GE} {o : Nat} {v : Int32} : fval g true (FT 10 20) o v = .int v := rfl
theorem pl_10_21 : PLK 10 21 .int := ⟨(RX11, TX11, 63), tyX11, rfl, rfl, rfl, tyX11_ok, nmX11⟩
theorem fv_10_21 {g : GE} {o : Nat} {v : Int32} : fval g true (FT 10 21) o v = .int v := rfl
theorem pl_10_22 : PLK 10 22 .int := ⟨(RX11, TX11, 63), tyX11, rfl, rfl, rfl, tyX11_ok, nmX11⟩
theorem fv_10_22 {g : GE} {o : Nat} {v : Int32} : fval g true (FT 10 22) o v = .int v := rfl
theorem pl_10_23 : PLK 10 23 .int := ⟨(RX11, TX11, 63), tyX11, rfl, rfl, rfl, tyX11_ok, nmX11⟩
theorem fv_10_23 {g : GE} {o : Nat} {v : Int32} : fval g true (FT 10 23) o v = .int v := rfl
theorem pl_10_24 : PLK 10 24 .int := ⟨(RX11, TX11, 63), tyX11, rfl, rfl, rfl, tyX11_ok, nmX11⟩
theorem fv_10_24 {g : GE} {o : Nat} {v : Int32} : fval g true (FT 10 24) o v = .int v := rfl
theorem pl_10_25 : PLK 10 25 .int := ⟨(RX11, TX11, 63), tyX11, rfl, rfl, rfl, tyX11_ok, nmX11⟩
theorem fv_10_25 {g : GE} {o : Nat} {v : Int32} : fval g true (FT 10 25) o v = .int v := rfl
theorem pl_10_26 : PLK 10 26 .int := ⟨(RX11, TX11, 63), tyX11, rfl, rfl, rfl, tyX11_ok, nmX11⟩
theorem fv_10_26 {g : GE} {o : Nat} {v : Int32} : fval g true (FT 10 26) o v = .int v := rfl
theorem pl_10_27 : PLK 10 27 .int := ⟨(RX11, TX11, 63), tyX11, rfl, rfl, rfl, tyX11_ok, nmX11⟩
theorem fv_10_27 {g : GE} {o : Nat} {v : Int32} : fval g true (FT 10 27) o v = .int v := rfl
theorem pl_10_28 : PLK 10 28 .int := ⟨(RX11, TX11, 63), tyX11, rfl, rfl, rfl, tyX11_ok, nmX11⟩
theorem fv_10_28 {g : GE} {o : Nat} {v : Int32} : fval g true (FT 10 28) o v = .int v := rfl
theorem fv_10_29 {g : GE} {v : Int32} : fval g true (FT 10 29) 0 v = .ref (gA g 19) := rfl
theorem fv_10_30 {g : GE} {v : Int32} : fval g true (FT 10 30) 0 v = .ref (gA g 20) := rfl
theorem fv_10_31 {g : GE} {v : Int32} : fval g true (FT 10 31) 0 v = .ref (gA g 21) := rfl
theorem fv_10_32 {g : GE} {v : Int32} : fval g true (FT 10 32) 0 v = .ref (gA g 22) := rfl
theorem pl_10_33 : PLK 10 33 .int := ⟨(RX11, TX11, 63), tyX11, rfl, rfl, rfl, tyX11_ok, nmX11⟩
theorem fv_10_33 {g : GE} {o : Nat} {v : Int32} : fval g true (FT 10 33) o v = .int v := rfl
theorem pl_10_34 : PLK 10 34 .int := ⟨(RX11, TX11, 63), tyX11, rfl, rfl, rfl, tyX11_ok, nmX11⟩
theorem fv_10_34 {g : GE} {o : Nat} {v : Int32} : fval g true (FT 10 34) o v = .int v := rfl
theorem pl_10_35 : PLK 10 35 .int := ⟨(RX11, TX11, 63), tyX11, rfl, rfl, rfl, tyX11_ok, nmX11⟩
theorem fv_10_35 {g : GE} {o : Nat} {v : Int32} : fval g true (FT 10 35) o v = .int v := rfl
theorem pl_10_36 : PLK 10 36 .int := ⟨(RX11, TX11, 63), tyX11, rfl, rfl, rfl, tyX11_ok, nmX11⟩
theorem fv_10_36 {g : GE} {o : Nat} {v : Int32} : fval g true (FT 10 36) o v = .int v := rfl
theorem pl_10_37 : PLK 10 37 .int := ⟨(RX11, TX11, 63), tyX11, rfl, rfl, rfl, tyX11_ok, nmX11⟩
theorem fv_10_37 {g : GE} {o : Nat} {v : Int32} : fval g true (FT 10 37) o v = .int v := rfl
theorem fv_10_38 {g : GE} {v : Int32} : fval g true (FT 10 38) 0 v = .ref (gA g 23) := rfl
theorem fv_10_39 {g : GE} {v : Int32} : fval g true (FT 10 39) 0 v = .ref (gA g 24) := rfl
theorem fv_10_40 {g : GE} {v : Int32} : fval g true (FT 10 40) 0 v = .ref (gA g 25) := rfl
theorem fv_10_41 {g : GE} {v : Int32} : fval g true (FT 10 41) 0 v = .ref (gA g 26) := rfl
theorem fv_10_42 {g : GE} {v : Int32} : fval g true (FT 10 42) 0 v = .ref (gA g 27) := rfl
theorem fv_10_43 {g : GE} {v : Int32} : fval g true (FT 10 43) 0 v = .ref (gA g 28) := rfl
theorem fv_10_44 {g : GE} {v : Int32} : fval g true (FT 10 44) 0 v = .ref (gA g 29) := rfl
theorem pl_10_45 : PLK 10 45 .int := ⟨(RX11, TX11, 63), tyX11, rfl, rfl, rfl, tyX11_ok, nmX11⟩
theorem fv_10_45 {g : GE} {o : Nat} {v : Int32} : fval g true (FT 10 45) o v = .int v := rfl
theorem fv_10_46 {g : GE} {v : Int32} : fval g true (FT 10 46) 0 v = .ref (gA g 30) := rfl
theorem fv_10_47 {g : GE} {v : Int32} : fval g true (FT 10 47) 0 v = .ref (gA g 31) := rfl
theorem fv_10_48 {g : GE} {v : Int32} : fval g true (FT 10 48) 0 v = .ref (gA g 32) := rfl
theorem fv_10_49 {g : GE} {v : Int32} : fval g true (FT 10 49) 0 v = .ref (gA g 33) := rfl
theorem fv_10_50 {g : GE} {v : Int32} : fval g true (FT 10 50) 0 v = .ref (gA g 34) := rfl
theorem fv_10_51 {g : GE} {v : Int32} : fval g true (FT 10 51) 0 v = .ref (gA g 35) := rfl
theorem fv_10_52 {g : GE} {v : Int32} : fval g true (FT 10 52) 0 v = .ref (gA g 36) := rfl
theorem pl_10_53 : PLK 10 53 .int := ⟨(RX11, TX11, 63), tyX11, rfl, rfl, rfl, tyX11_ok, nmX11⟩
theorem fv_10_53 {g : GE} {o : Nat} {v : Int32} : fval g true (FT 10 53) o v = .int v := rfl
theorem pl_10_54 : PLK 10 54 .boolean := ⟨(RX11, TX11, 63), tyX11, rfl, rfl, rfl, tyX11_ok, nmX11⟩
theorem fv_10_54 {g : GE} {o : Nat} {v : Int32} : fval g true (FT 10 54) o v = .int v := rfl
theorem pl_10_55 : PLK 10 55 .int := ⟨(RX11, TX11, 63), tyX11, rfl, rfl, rfl, tyX11_ok, nmX11⟩
theorem fv_10_55 {g : GE} {o : Nat} {v : Int32} : fval g true (FT 10 55) o v = .int v := rfl
theorem pl_10_56 : PLK 10 56 .int := ⟨(RX11, TX11, 63), tyX11, rfl, rfl, rfl, tyX11_ok, nmX11⟩
theorem fv_10_56 {g : GE} {o : Nat} {v : Int32} : fval g true (FT 10 56) o v = .int v := rfl
theorem fv_10_57 {g : GE} {v : Int32} : fval g true (FT 10 57) 0 v = .ref (gA g 37) := rfl
theorem fv_10_58 {g : GE} {v : Int32} : fval g true (FT 10 58) 0 v = .ref (gA g 38) := rfl
theorem fv_10_59 {g : GE} {v : Int32} : fval g true (FT 10 59) 0 v = .ref (gA g 39) := rfl
theorem fv_10_60 {g : GE} {v : Int32} : fval g true (FT 10 60) 0 v = .ref (gA g 40) := rfl
theorem fv_10_61 {g : GE} {v : Int32} : fval g true (FT 10 61) 0 v = .ref (gA g 41) := rfl
theorem fv_10_62 {g : GE} {v : Int32} : fval g true (FT 10 62) 0 v = .ref (gA g 42) := rfl
theorem ly_23 {o j : Nat} (ho : o < 395) (hk : KC o = (23, 40)) (hj : j < 40) : o + 1 + 4 * j < 395 ∧ KC (o + 1 + 4 * j) = (7, 0) := by
  have h : ∀ o, o < 395 → KC o = (23, 40) → ∀ j, j < 40 → o + 1 + 4 * j < 395 ∧ KC (o + 1 + 4 * j) = (7, 0) := by decide +kernel
  exact h o ho hk j hj
theorem kc_0 : 0 < 395 ∧ KC 0 = (9, 0) := ⟨by decide, rfl⟩
theorem kc_1 : 1 < 395 ∧ KC 1 = (21, 700) := ⟨by decide, rfl⟩
theorem kc_2 : 2 < 395 ∧ KC 2 = (1, 0) := ⟨by decide, rfl⟩
theorem kc_3 : 3 < 395 ∧ KC 3 = (20, 9) := ⟨by decide, rfl⟩
theorem kc_4 : 4 < 395 ∧ KC 4 = (20, 9) := ⟨by decide, rfl⟩
theorem kc_5 : 5 < 395 ∧ KC 5 = (20, 9) := ⟨by decide, rfl⟩
theorem kc_6 : 6 < 395 ∧ KC 6 = (20, 9) := ⟨by decide, rfl⟩
theorem kc_7 : 7 < 395 ∧ KC 7 = (20, 14) := ⟨by decide, rfl⟩
theorem kc_8 : 8 < 395 ∧ KC 8 = (20, 14) := ⟨by decide, rfl⟩
theorem kc_9 : 9 < 395 ∧ KC 9 = (20, 5) := ⟨by decide, rfl⟩
theorem kc_10 : 10 < 395 ∧ KC 10 = (20, 40) := ⟨by decide, rfl⟩
theorem kc_11 : 11 < 395 ∧ KC 11 = (20, 40) := ⟨by decide, rfl⟩
theorem kc_12 : 12 < 395 ∧ KC 12 = (20, 40) := ⟨by decide, rfl⟩
theorem kc_13 : 13 < 395 ∧ KC 13 = (20, 10) := ⟨by decide, rfl⟩
theorem kc_14 : 14 < 395 ∧ KC 14 = (4, 0) := ⟨by decide, rfl⟩
theorem kc_15 : 15 < 395 ∧ KC 15 = (20, 6) := ⟨by decide, rfl⟩
theorem kc_16 : 16 < 395 ∧ KC 16 = (20, 700) := ⟨by decide, rfl⟩
theorem kc_17 : 17 < 395 ∧ KC 17 = (20, 40) := ⟨by decide, rfl⟩
theorem kc_18 : 18 < 395 ∧ KC 18 = (20, 81) := ⟨by decide, rfl⟩
theorem kc_19 : 19 < 395 ∧ KC 19 = (20, 6) := ⟨by decide, rfl⟩
theorem kc_20 : 20 < 395 ∧ KC 20 = (1, 0) := ⟨by decide, rfl⟩
theorem kc_21 : 21 < 395 ∧ KC 21 = (20, 9) := ⟨by decide, rfl⟩
theorem kc_22 : 22 < 395 ∧ KC 22 = (20, 9) := ⟨by decide, rfl⟩
theorem kc_23 : 23 < 395 ∧ KC 23 = (20, 9) := ⟨by decide, rfl⟩
theorem kc_24 : 24 < 395 ∧ KC 24 = (20, 9) := ⟨by decide, rfl⟩
theorem kc_25 : 25 < 395 ∧ KC 25 = (20, 14) := ⟨by decide, rfl⟩
theorem kc_26 : 26 < 395 ∧ KC 26 = (20, 14) := ⟨by decide, rfl⟩
theorem kc_27 : 27 < 395 ∧ KC 27 = (20, 5) := ⟨by decide, rfl⟩
theorem kc_28 : 28 < 395 ∧ KC 28 = (20, 40) := ⟨by decide, rfl⟩
theorem kc_29 : 29 < 395 ∧ KC 29 = (20, 40) := ⟨by decide, rfl⟩
theorem kc_30 : 30 < 395 ∧ KC 30 = (20, 40) := ⟨by decide, rfl⟩
theorem kc_31 : 31 < 395 ∧ KC 31 = (20, 10) := ⟨by decide, rfl⟩
theorem kc_32 : 32 < 395 ∧ KC 32 = (4, 0) := ⟨by decide, rfl⟩
theorem kc_33 : 33 < 395 ∧ KC 33 = (20, 6) := ⟨by decide, rfl⟩
theorem kc_34 : 34 < 395 ∧ KC 34 = (20, 700) := ⟨by decide, rfl⟩
theorem kc_35 : 35 < 395 ∧ KC 35 = (20, 40) := ⟨by decide, rfl⟩
theorem kc_36 : 36 < 395 ∧ KC 36 = (20, 81) := ⟨by decide, rfl⟩
theorem kc_37 : 37 < 395 ∧ KC 37 = (20, 6) := ⟨by decide, rfl⟩
theorem kc_38 : 38 < 395 ∧ KC 38 = (3, 0) := ⟨by decide, rfl⟩
theorem kc_39 : 39 < 395 ∧ KC 39 = (8, 0) := ⟨by decide, rfl⟩
theorem kc_40 : 40 < 395 ∧ KC 40 = (5, 0) := ⟨by decide, rfl⟩
theorem kc_41 : 41 < 395 ∧ KC 41 = (20, 80) := ⟨by decide, rfl⟩
theorem kc_42 : 42 < 395 ∧ KC 42 = (2, 0) := ⟨by decide, rfl⟩
theorem kc_43 : 43 < 395 ∧ KC 43 = (7, 0) := ⟨by decide, rfl⟩
theorem kc_44 : 44 < 395 ∧ KC 44 = (20, 9) := ⟨by decide, rfl⟩
theorem kc_45 : 45 < 395 ∧ KC 45 = (20, 9) := ⟨by decide, rfl⟩
theorem kc_46 : 46 < 395 ∧ KC 46 = (20, 10) := ⟨by decide, rfl⟩
theorem kc_47 : 47 < 395 ∧ KC 47 = (0, 0) := ⟨by decide, rfl⟩
theorem kc_48 : 48 < 395 ∧ KC 48 = (23, 40) := ⟨by decide, rfl⟩
theorem kc_209 : 209 < 395 ∧ KC 209 = (6, 0) := ⟨by decide, rfl⟩
theorem kc_210 : 210 < 395 ∧ KC 210 = (20, 8) := ⟨by decide, rfl⟩
theorem kc_211 : 211 < 395 ∧ KC 211 = (20, 8) := ⟨by decide, rfl⟩
theorem kc_212 : 212 < 395 ∧ KC 212 = (20, 8) := ⟨by decide, rfl⟩
theorem kc_213 : 213 < 395 ∧ KC 213 = (20, 3) := ⟨by decide, rfl⟩
theorem kc_214 : 214 < 395 ∧ KC 214 = (2, 0) := ⟨by decide, rfl⟩
theorem kc_215 : 215 < 395 ∧ KC 215 = (7, 0) := ⟨by decide, rfl⟩
theorem kc_216 : 216 < 395 ∧ KC 216 = (20, 9) := ⟨by decide, rfl⟩
theorem kc_217 : 217 < 395 ∧ KC 217 = (20, 9) := ⟨by decide, rfl⟩
theorem kc_218 : 218 < 395 ∧ KC 218 = (20, 10) := ⟨by decide, rfl⟩
theorem kc_219 : 219 < 395 ∧ KC 219 = (0, 0) := ⟨by decide, rfl⟩
theorem kc_220 : 220 < 395 ∧ KC 220 = (23, 40) := ⟨by decide, rfl⟩
theorem kc_381 : 381 < 395 ∧ KC 381 = (6, 0) := ⟨by decide, rfl⟩
theorem kc_382 : 382 < 395 ∧ KC 382 = (20, 8) := ⟨by decide, rfl⟩
theorem kc_383 : 383 < 395 ∧ KC 383 = (20, 8) := ⟨by decide, rfl⟩
theorem kc_384 : 384 < 395 ∧ KC 384 = (20, 8) := ⟨by decide, rfl⟩
theorem kc_385 : 385 < 395 ∧ KC 385 = (20, 3) := ⟨by decide, rfl⟩
theorem kc_386 : 386 < 395 ∧ KC 386 = (7, 0) := ⟨by decide, rfl⟩
theorem kc_387 : 387 < 395 ∧ KC 387 = (20, 9) := ⟨by decide, rfl⟩
theorem kc_388 : 388 < 395 ∧ KC 388 = (20, 9) := ⟨by decide, rfl⟩
theorem kc_389 : 389 < 395 ∧ KC 389 = (20, 10) := ⟨by decide, rfl⟩
theorem kc_390 : 390 < 395 ∧ KC 390 = (20, 5) := ⟨by decide, rfl⟩
theorem kc_391 : 391 < 395 ∧ KC 391 = (20, 5) := ⟨by decide, rfl⟩
theorem kc_392 : 392 < 395 ∧ KC 392 = (20, 9) := ⟨by decide, rfl⟩
theorem kc_393 : 393 < 395 ∧ KC 393 = (20, 4) := ⟨by decide, rfl⟩
theorem kc_394 : 394 < 395 ∧ KC 394 = (20, 4608) := ⟨by decide, rfl⟩
theorem km_0 : 0 < 43 ∧ KM 0 = (10, 0) := ⟨by decide, rfl⟩
theorem km_1 : 1 < 43 ∧ KM 1 = (24, 3) := ⟨by decide, rfl⟩
theorem km_2 : 2 < 43 ∧ KM 2 = (24, 6) := ⟨by decide, rfl⟩
theorem km_3 : 3 < 43 ∧ KM 3 = (20, 14) := ⟨by decide, rfl⟩
theorem km_4 : 4 < 43 ∧ KM 4 = (20, 18) := ⟨by decide, rfl⟩
theorem km_5 : 5 < 43 ∧ KM 5 = (20, 18) := ⟨by decide, rfl⟩
theorem km_6 : 6 < 43 ∧ KM 6 = (20, 18) := ⟨by decide, rfl⟩
theorem km_7 : 7 < 43 ∧ KM 7 = (20, 18) := ⟨by decide, rfl⟩
theorem km_8 : 8 < 43 ∧ KM 8 = (20, 28) := ⟨by decide, rfl⟩
theorem km_9 : 9 < 43 ∧ KM 9 = (20, 28) := ⟨by decide, rfl⟩
theorem km_10 : 10 < 43 ∧ KM 10 = (20, 28) := ⟨by decide, rfl⟩
theorem km_11 : 11 < 43 ∧ KM 11 = (20, 10) := ⟨by decide, rfl⟩
theorem km_12 : 12 < 43 ∧ KM 12 = (20, 80) := ⟨by decide, rfl⟩
theorem km_13 : 13 < 43 ∧ KM 13 = (20, 80) := ⟨by decide, rfl⟩
theorem km_14 : 14 < 43 ∧ KM 14 = (20, 80) := ⟨by decide, rfl⟩
theorem km_15 : 15 < 43 ∧ KM 15 = (20, 20) := ⟨by decide, rfl⟩
theorem km_16 : 16 < 43 ∧ KM 16 = (20, 1400) := ⟨by decide, rfl⟩
theorem km_17 : 17 < 43 ∧ KM 17 = (20, 3) := ⟨by decide, rfl⟩
theorem km_18 : 18 < 43 ∧ KM 18 = (20, 700) := ⟨by decide, rfl⟩
theorem km_19 : 19 < 43 ∧ KM 19 = (20, 9) := ⟨by decide, rfl⟩
theorem km_20 : 20 < 43 ∧ KM 20 = (20, 9) := ⟨by decide, rfl⟩
theorem km_21 : 21 < 43 ∧ KM 21 = (20, 10) := ⟨by decide, rfl⟩
theorem km_22 : 22 < 43 ∧ KM 22 = (20, 1240) := ⟨by decide, rfl⟩
theorem km_23 : 23 < 43 ∧ KM 23 = (20, 6) := ⟨by decide, rfl⟩
theorem km_24 : 24 < 43 ∧ KM 24 = (20, 64) := ⟨by decide, rfl⟩
theorem km_25 : 25 < 43 ∧ KM 25 = (20, 9) := ⟨by decide, rfl⟩
theorem km_26 : 26 < 43 ∧ KM 26 = (20, 81) := ⟨by decide, rfl⟩
theorem km_27 : 27 < 43 ∧ KM 27 = (20, 31) := ⟨by decide, rfl⟩
theorem km_28 : 28 < 43 ∧ KM 28 = (20, 5) := ⟨by decide, rfl⟩
theorem km_29 : 29 < 43 ∧ KM 29 = (20, 5) := ⟨by decide, rfl⟩
theorem km_30 : 30 < 43 ∧ KM 30 = (20, 4608) := ⟨by decide, rfl⟩
theorem km_31 : 31 < 43 ∧ KM 31 = (20, 4) := ⟨by decide, rfl⟩
theorem km_32 : 32 < 43 ∧ KM 32 = (20, 9) := ⟨by decide, rfl⟩
theorem km_33 : 33 < 43 ∧ KM 33 = (20, 8) := ⟨by decide, rfl⟩
theorem km_34 : 34 < 43 ∧ KM 34 = (20, 8) := ⟨by decide, rfl⟩
theorem km_35 : 35 < 43 ∧ KM 35 = (20, 8) := ⟨by decide, rfl⟩
theorem km_36 : 36 < 43 ∧ KM 36 = (20, 31) := ⟨by decide, rfl⟩
theorem km_37 : 37 < 43 ∧ KM 37 = (20, 31) := ⟨by decide, rfl⟩
theorem km_38 : 38 < 43 ∧ KM 38 = (20, 1240) := ⟨by decide, rfl⟩
theorem km_39 : 39 < 43 ∧ KM 39 = (20, 8) := ⟨by decide, rfl⟩
theorem km_40 : 40 < 43 ∧ KM 40 = (20, 8) := ⟨by decide, rfl⟩
theorem km_41 : 41 < 43 ∧ KM 41 = (20, 8) := ⟨by decide, rfl⟩
theorem km_42 : 42 < 43 ∧ KM 42 = (20, 3) := ⟨by decide, rfl⟩
theorem cy_yX4_init : yX4_init.cls ≠ "java/lang/invoke/MethodHandle" ∧ yX4_init.cls ≠ "java/lang/invoke/VarHandle" ∧ (parseMethodDescriptor yX4_init.desc).map (fun d => d.parameters.length) = some 2 := by decide +kernel
theorem cy_yX2_clear : yX2_clear.cls ≠ "java/lang/invoke/MethodHandle" ∧ yX2_clear.cls ≠ "java/lang/invoke/VarHandle" ∧ (parseMethodDescriptor yX2_clear.desc).map (fun d => d.parameters.length) = some 0 := by decide +kernel
theorem cl_X10_76 : CLV "DustParish" 76 yX2_clear cX2_clear 1 none 0 := ⟨⟨tw_368, tw_2, tw_371, by decide, cy_yX2_clear.1, cy_yX2_clear.2.1, cy_yX2_clear.2.2⟩, tw_369, tw_370⟩
theorem cy_yX10_append : yX10_append.cls ≠ "java/lang/invoke/MethodHandle" ∧ yX10_append.cls ≠ "java/lang/invoke/VarHandle" ∧ (parseMethodDescriptor yX10_append.desc).map (fun d => d.parameters.length) = some 1 := by decide +kernel
theorem cl_X10_79 : CLV "DustParish" 79 yX10_append cX10_append 3 none 1 := ⟨⟨tw_429, tw_1, tw_432, by decide, cy_yX10_append.1, cy_yX10_append.2.1, cy_yX10_append.2.2⟩, tw_431, ts_yX10_append⟩
theorem cy_yX4_read : yX4_read.cls ≠ "java/lang/invoke/MethodHandle" ∧ yX4_read.cls ≠ "java/lang/invoke/VarHandle" ∧ (parseMethodDescriptor yX4_read.desc).map (fun d => d.parameters.length) = some 2 := by decide +kernel
theorem cl_X10_86 : CLV "DustParish" 86 yX4_read cX4_read 5 (some .int) 2 := ⟨⟨tw_629, tw_4, tw_632, by decide, cy_yX4_read.1, cy_yX4_read.2.1, cy_yX4_read.2.2⟩, tw_630, tw_631⟩
theorem cy_yX4_place : yX4_place.cls ≠ "java/lang/invoke/MethodHandle" ∧ yX4_place.cls ≠ "java/lang/invoke/VarHandle" ∧ (parseMethodDescriptor yX4_place.desc).map (fun d => d.parameters.length) = some 0 := by decide +kernel
theorem cl_X10_90 : CLV "DustParish" 90 yX4_place cX4_place 1 (some .int) 0 := ⟨⟨tw_903, tw_4, tw_906, by decide, cy_yX4_place.1, cy_yX4_place.2.1, cy_yX4_place.2.2⟩, tw_904, tw_905⟩
theorem cy_yX2_measure : yX2_measure.cls ≠ "java/lang/invoke/MethodHandle" ∧ yX2_measure.cls ≠ "java/lang/invoke/VarHandle" ∧ (parseMethodDescriptor yX2_measure.desc).map (fun d => d.parameters.length) = some 0 := by decide +kernel
theorem cl_X10_97 : CLV "DustParish" 97 yX2_measure cX2_measure 2 none 0 := ⟨⟨tw_907, tw_2, tw_910, by decide, cy_yX2_measure.1, cy_yX2_measure.2.1, cy_yX2_measure.2.2⟩, tw_908, tw_909⟩
theorem cy_yX3_begin : yX3_begin.cls ≠ "java/lang/invoke/MethodHandle" ∧ yX3_begin.cls ≠ "java/lang/invoke/VarHandle" ∧ (parseMethodDescriptor yX3_begin.desc).map (fun d => d.parameters.length) = some 1 := by decide +kernel
theorem cl_X10_100 : CLV "DustParish" 100 yX3_begin cX3_begin 2 none 1 := ⟨⟨tw_919, tw_7, tw_922, by decide, cy_yX3_begin.1, cy_yX3_begin.2.1, cy_yX3_begin.2.2⟩, tw_920, tw_921⟩
theorem cy_yX1_dustInAll : yX1_dustInAll.cls ≠ "java/lang/invoke/MethodHandle" ∧ yX1_dustInAll.cls ≠ "java/lang/invoke/VarHandle" ∧ (parseMethodDescriptor yX1_dustInAll.desc).map (fun d => d.parameters.length) = some 2 := by decide +kernel
theorem cl_X10_128 : CLS "DustParish" 128 yX1_dustInAll cX1_dustInAll 4 (some .int) 2 := ⟨⟨tw_936, tw_24, tw_938, by decide, cy_yX1_dustInAll.1, cy_yX1_dustInAll.2.1, cy_yX1_dustInAll.2.2⟩, tw_937⟩
theorem cy_yX1_heretics : yX1_heretics.cls ≠ "java/lang/invoke/MethodHandle" ∧ yX1_heretics.cls ≠ "java/lang/invoke/VarHandle" ∧ (parseMethodDescriptor yX1_heretics.desc).map (fun d => d.parameters.length) = some 2 := by decide +kernel
theorem cl_X10_140 : CLS "DustParish" 140 yX1_heretics cX1_heretics 4 (some .int) 2 := ⟨⟨tw_521, tw_24, tw_523, by decide, cy_yX1_heretics.1, cy_yX1_heretics.2.1, cy_yX1_heretics.2.2⟩, tw_522⟩
theorem cy_yX10_needRoom : yX10_needRoom.cls ≠ "java/lang/invoke/MethodHandle" ∧ yX10_needRoom.cls ≠ "java/lang/invoke/VarHandle" ∧ (parseMethodDescriptor yX10_needRoom.desc).map (fun d => d.parameters.length) = some 1 := by decide +kernel
theorem cl_X10_162 : CLV "DustParish" 162 yX10_needRoom cX10_needRoom 2 none 1 := ⟨⟨tw_961, tw_1, tw_964, by decide, cy_yX10_needRoom.1, cy_yX10_needRoom.2.1, cy_yX10_needRoom.2.2⟩, tw_963, ts_yX10_needRoom⟩
theorem cy_yX1_titheOf : yX1_titheOf.cls ≠ "java/lang/invoke/MethodHandle" ∧ yX1_titheOf.cls ≠ "java/lang/invoke/VarHandle" ∧ (parseMethodDescriptor yX1_titheOf.desc).map (fun d => d.parameters.length) = some 3 := by decide +kernel
theorem cl_X10_180 : CLS "DustParish" 180 yX1_titheOf cX1_titheOf 5 (some .int) 3 := ⟨⟨tw_965, tw_24, tw_488, by decide, cy_yX1_titheOf.1, cy_yX1_titheOf.2.1, cy_yX1_titheOf.2.2⟩, tw_487⟩
theorem cy_yX2_doorsOf : yX2_doorsOf.cls ≠ "java/lang/invoke/MethodHandle" ∧ yX2_doorsOf.cls ≠ "java/lang/invoke/VarHandle" ∧ (parseMethodDescriptor yX2_doorsOf.desc).map (fun d => d.parameters.length) = some 1 := by decide +kernel
theorem cl_X10_184 : CLV "DustParish" 184 yX2_doorsOf cX2_doorsOf 4 (some .int) 1 := ⟨⟨tw_966, tw_2, tw_969, by decide, cy_yX2_doorsOf.1, cy_yX2_doorsOf.2.1, cy_yX2_doorsOf.2.2⟩, tw_967, tw_968⟩
theorem cy_yX2_wayFrom : yX2_wayFrom.cls ≠ "java/lang/invoke/MethodHandle" ∧ yX2_wayFrom.cls ≠ "java/lang/invoke/VarHandle" ∧ (parseMethodDescriptor yX2_wayFrom.desc).map (fun d => d.parameters.length) = some 2 := by decide +kernel
theorem cl_X10_188 : CLV "DustParish" 188 yX2_wayFrom cX2_wayFrom 3 (some .int) 2 := ⟨⟨tw_977, tw_2, tw_980, by decide, cy_yX2_wayFrom.1, cy_yX2_wayFrom.2.1, cy_yX2_wayFrom.2.2⟩, tw_978, tw_979⟩
theorem cy_yX1_windOf : yX1_windOf.cls ≠ "java/lang/invoke/MethodHandle" ∧ yX1_windOf.cls ≠ "java/lang/invoke/VarHandle" ∧ (parseMethodDescriptor yX1_windOf.desc).map (fun d => d.parameters.length) = some 3 := by decide +kernel
theorem cl_X10_204 : CLS "DustParish" 204 yX1_windOf cX1_windOf 3 (some .int) 3 := ⟨⟨tw_1002, tw_24, tw_461, by decide, cy_yX1_windOf.1, cy_yX1_windOf.2.1, cy_yX1_windOf.2.2⟩, tw_460⟩
theorem cy_yX10_refuse : yX10_refuse.cls ≠ "java/lang/invoke/MethodHandle" ∧ yX10_refuse.cls ≠ "java/lang/invoke/VarHandle" ∧ (parseMethodDescriptor yX10_refuse.desc).map (fun d => d.parameters.length) = some 1 := by decide +kernel
theorem cl_X10_207 : CLV "DustParish" 207 yX10_refuse cX10_refuse 2 (some .int) 1 := ⟨⟨tw_441, tw_1, tw_444, by decide, cy_yX10_refuse.1, cy_yX10_refuse.2.1, cy_yX10_refuse.2.2⟩, tw_443, ts_yX10_refuse⟩
theorem cy_yX0_remember : yX0_remember.cls ≠ "java/lang/invoke/MethodHandle" ∧ yX0_remember.cls ≠ "java/lang/invoke/VarHandle" ∧ (parseMethodDescriptor yX0_remember.desc).map (fun d => d.parameters.length) = some 1 := by decide +kernel
theorem cl_X10_210 : CLV "DustParish" 210 yX0_remember cX0_remember 2 none 1 := ⟨⟨tw_445, tw_9, tw_448, by decide, cy_yX0_remember.1, cy_yX0_remember.2.1, cy_yX0_remember.2.2⟩, tw_446, tw_447⟩
theorem cy_yX1_passMany : yX1_passMany.cls ≠ "java/lang/invoke/MethodHandle" ∧ yX1_passMany.cls ≠ "java/lang/invoke/VarHandle" ∧ (parseMethodDescriptor yX1_passMany.desc).map (fun d => d.parameters.length) = some 3 := by decide +kernel
theorem cl_X10_214 : CLS "DustParish" 214 yX1_passMany cX1_passMany 4 none 3 := ⟨⟨tw_456, tw_24, tw_458, by decide, cy_yX1_passMany.1, cy_yX1_passMany.2.1, cy_yX1_passMany.2.2⟩, tw_457⟩
theorem cy_yX2_hasDoor : yX2_hasDoor.cls ≠ "java/lang/invoke/MethodHandle" ∧ yX2_hasDoor.cls ≠ "java/lang/invoke/VarHandle" ∧ (parseMethodDescriptor yX2_hasDoor.desc).map (fun d => d.parameters.length) = some 2 := by decide +kernel
theorem cl_X10_218 : CLV "DustParish" 218 yX2_hasDoor cX2_hasDoor 4 (some .boolean) 2 := ⟨⟨tw_1010, tw_2, tw_800, by decide, cy_yX2_hasDoor.1, cy_yX2_hasDoor.2.1, cy_yX2_hasDoor.2.2⟩, tw_798, tw_799⟩
theorem cy_yX8_bring : yX8_bring.cls ≠ "java/lang/invoke/MethodHandle" ∧ yX8_bring.cls ≠ "java/lang/invoke/VarHandle" ∧ (parseMethodDescriptor yX8_bring.desc).map (fun d => d.parameters.length) = some 3 := by decide +kernel
theorem cl_X10_222 : CLV "DustParish" 222 yX8_bring cX8_bring 4 none 3 := ⟨⟨tw_1011, tw_8, tw_1014, by decide, cy_yX8_bring.1, cy_yX8_bring.2.1, cy_yX8_bring.2.2⟩, tw_1012, tw_1013⟩
theorem cy_yX8_steal : yX8_steal.cls ≠ "java/lang/invoke/MethodHandle" ∧ yX8_steal.cls ≠ "java/lang/invoke/VarHandle" ∧ (parseMethodDescriptor yX8_steal.desc).map (fun d => d.parameters.length) = some 2 := by decide +kernel
theorem cl_X10_226 : CLV "DustParish" 226 yX8_steal cX8_steal 4 (some .int) 2 := ⟨⟨tw_1030, tw_8, tw_1033, by decide, cy_yX8_steal.1, cy_yX8_steal.2.1, cy_yX8_steal.2.2⟩, tw_1031, tw_1032⟩
theorem cy_yX0_giveBack : yX0_giveBack.cls ≠ "java/lang/invoke/MethodHandle" ∧ yX0_giveBack.cls ≠ "java/lang/invoke/VarHandle" ∧ (parseMethodDescriptor yX0_giveBack.desc).map (fun d => d.parameters.length) = some 1 := by decide +kernel
theorem cl_X10_232 : CLV "DustParish" 232 yX0_giveBack cX0_giveBack 2 none 1 := ⟨⟨tw_512, tw_9, tw_515, by decide, cy_yX0_giveBack.1, cy_yX0_giveBack.2.1, cy_yX0_giveBack.2.2⟩, tw_513, tw_514⟩
theorem cy_yX10_needAhead : yX10_needAhead.cls ≠ "java/lang/invoke/MethodHandle" ∧ yX10_needAhead.cls ≠ "java/lang/invoke/VarHandle" ∧ (parseMethodDescriptor yX10_needAhead.desc).map (fun d => d.parameters.length) = some 1 := by decide +kernel
theorem cl_X10_235 : CLS "DustParish" 235 yX10_needAhead cX10_needAhead 1 none 1 := ⟨⟨tw_1041, tw_1, tw_1043, by decide, cy_yX10_needAhead.1, cy_yX10_needAhead.2.1, cy_yX10_needAhead.2.2⟩, tw_1042⟩
theorem cy_yX10_tryDays : yX10_tryDays.cls ≠ "java/lang/invoke/MethodHandle" ∧ yX10_tryDays.cls ≠ "java/lang/invoke/VarHandle" ∧ (parseMethodDescriptor yX10_tryDays.desc).map (fun d => d.parameters.length) = some 1 := by decide +kernel
theorem cl_X10_238 : CLV "DustParish" 238 yX10_tryDays cX10_tryDays 2 none 1 := ⟨⟨tw_1044, tw_1, tw_1047, by decide, cy_yX10_tryDays.1, cy_yX10_tryDays.2.1, cy_yX10_tryDays.2.2⟩, tw_1046, ts_yX10_tryDays⟩
theorem cy_yX8_copy : yX8_copy.cls ≠ "java/lang/invoke/MethodHandle" ∧ yX8_copy.cls ≠ "java/lang/invoke/VarHandle" ∧ (parseMethodDescriptor yX8_copy.desc).map (fun d => d.parameters.length) = some 1 := by decide +kernel
theorem cl_X10_241 : CLV "DustParish" 241 yX8_copy cX8_copy 2 none 1 := ⟨⟨tw_520, tw_8, tw_452, by decide, cy_yX8_copy.1, cy_yX8_copy.2.1, cy_yX8_copy.2.2⟩, tw_450, tw_451⟩
theorem cy_yX10_tryChange : yX10_tryChange.cls ≠ "java/lang/invoke/MethodHandle" ∧ yX10_tryChange.cls ≠ "java/lang/invoke/VarHandle" ∧ (parseMethodDescriptor yX10_tryChange.desc).map (fun d => d.parameters.length) = some 3 := by decide +kernel
theorem cl_X10_244 : CLV "DustParish" 244 yX10_tryChange cX10_tryChange 5 none 3 := ⟨⟨tw_1143, tw_1, tw_1146, by decide, cy_yX10_tryChange.1, cy_yX10_tryChange.2.1, cy_yX10_tryChange.2.2⟩, tw_1145, ts_yX10_tryChange⟩
theorem cy_yX1_pass : yX1_pass.cls ≠ "java/lang/invoke/MethodHandle" ∧ yX1_pass.cls ≠ "java/lang/invoke/VarHandle" ∧ (parseMethodDescriptor yX1_pass.desc).map (fun d => d.parameters.length) = some 4 := by decide +kernel
theorem cl_X10_247 : CLS "DustParish" 247 yX1_pass cX1_pass 5 none 4 := ⟨⟨tw_1073, tw_24, tw_464, by decide, cy_yX1_pass.1, cy_yX1_pass.2.1, cy_yX1_pass.2.2⟩, tw_463⟩
theorem cy_yX2_comesTo : yX2_comesTo.cls ≠ "java/lang/invoke/MethodHandle" ∧ yX2_comesTo.cls ≠ "java/lang/invoke/VarHandle" ∧ (parseMethodDescriptor yX2_comesTo.desc).map (fun d => d.parameters.length) = some 1 := by decide +kernel
theorem cl_X10_251 : CLV "DustParish" 251 yX2_comesTo cX2_comesTo 2 (some .int) 1 := ⟨⟨tw_1175, tw_2, tw_468, by decide, cy_yX2_comesTo.1, cy_yX2_comesTo.2.1, cy_yX2_comesTo.2.2⟩, tw_466, tw_467⟩
theorem cy_yX10_findOrder : yX10_findOrder.cls ≠ "java/lang/invoke/MethodHandle" ∧ yX10_findOrder.cls ≠ "java/lang/invoke/VarHandle" ∧ (parseMethodDescriptor yX10_findOrder.desc).map (fun d => d.parameters.length) = some 1 := by decide +kernel
theorem cl_X10_254 : CLV "DustParish" 254 yX10_findOrder cX10_findOrder 6 (some .int) 1 := ⟨⟨tw_1069, tw_1, tw_1072, by decide, cy_yX10_findOrder.1, cy_yX10_findOrder.2.1, cy_yX10_findOrder.2.2⟩, tw_1071, ts_yX10_findOrder⟩
theorem cy_yX10_nextRow : yX10_nextRow.cls ≠ "java/lang/invoke/MethodHandle" ∧ yX10_nextRow.cls ≠ "java/lang/invoke/VarHandle" ∧ (parseMethodDescriptor yX10_nextRow.desc).map (fun d => d.parameters.length) = some 2 := by decide +kernel
theorem cl_X10_263 : CLS "DustParish" 263 yX10_nextRow cX10_nextRow 6 (some .boolean) 2 := ⟨⟨tw_1075, tw_1, tw_1077, by decide, cy_yX10_nextRow.1, cy_yX10_nextRow.2.1, cy_yX10_nextRow.2.2⟩, tw_1076⟩
theorem cy_yX10_swap : yX10_swap.cls ≠ "java/lang/invoke/MethodHandle" ∧ yX10_swap.cls ≠ "java/lang/invoke/VarHandle" ∧ (parseMethodDescriptor yX10_swap.desc).map (fun d => d.parameters.length) = some 3 := by decide +kernel
theorem cl_X10_267 : CLS "DustParish" 267 yX10_swap cX10_swap 4 none 3 := ⟨⟨tw_1078, tw_1, tw_1080, by decide, cy_yX10_swap.1, cy_yX10_swap.2.1, cy_yX10_swap.2.2⟩, tw_1079⟩
theorem cy_yX1_isUnclean : yX1_isUnclean.cls ≠ "java/lang/invoke/MethodHandle" ∧ yX1_isUnclean.cls ≠ "java/lang/invoke/VarHandle" ∧ (parseMethodDescriptor yX1_isUnclean.desc).map (fun d => d.parameters.length) = some 3 := by decide +kernel
theorem cl_X10_271 : CLS "DustParish" 271 yX1_isUnclean cX1_isUnclean 3 (some .boolean) 3 := ⟨⟨tw_531, tw_24, tw_526, by decide, cy_yX1_isUnclean.1, cy_yX1_isUnclean.2.1, cy_yX1_isUnclean.2.2⟩, tw_525⟩
theorem cy_yX10_walkAll : yX10_walkAll.cls ≠ "java/lang/invoke/MethodHandle" ∧ yX10_walkAll.cls ≠ "java/lang/invoke/VarHandle" ∧ (parseMethodDescriptor yX10_walkAll.desc).map (fun d => d.parameters.length) = some 2 := by decide +kernel
theorem cl_X10_275 : CLV "DustParish" 275 yX10_walkAll cX10_walkAll 5 none 2 := ⟨⟨tw_1088, tw_1, tw_1091, by decide, cy_yX10_walkAll.1, cy_yX10_walkAll.2.1, cy_yX10_walkAll.2.2⟩, tw_1090, ts_yX10_walkAll⟩
theorem cy_yX10_shorter : yX10_shorter.cls ≠ "java/lang/invoke/MethodHandle" ∧ yX10_shorter.cls ≠ "java/lang/invoke/VarHandle" ∧ (parseMethodDescriptor yX10_shorter.desc).map (fun d => d.parameters.length) = some 2 := by decide +kernel
theorem cl_X10_279 : CLS "DustParish" 279 yX10_shorter cX10_shorter 2 (some .int) 2 := ⟨⟨tw_1097, tw_1, tw_917, by decide, cy_yX10_shorter.1, cy_yX10_shorter.2.1, cy_yX10_shorter.2.2⟩, tw_916⟩
theorem cy_yJ7_fill_53178 : yJ7_fill_53178.cls ≠ "java/lang/invoke/MethodHandle" ∧ yJ7_fill_53178.cls ≠ "java/lang/invoke/VarHandle" ∧ (parseMethodDescriptor yJ7_fill_53178.desc).map (fun d => d.parameters.length) = some 2 := by decide +kernel
theorem cl_X10_282 : CLS "DustParish" 282 yJ7_fill_53178 cJ7_fill_53178 4 none 2 := ⟨⟨tw_1092, tw_11, tw_378, by decide, cy_yJ7_fill_53178.1, cy_yJ7_fill_53178.2.1, cy_yJ7_fill_53178.2.2⟩, tw_377⟩
theorem cy_yX10_walkTo : yX10_walkTo.cls ≠ "java/lang/invoke/MethodHandle" ∧ yX10_walkTo.cls ≠ "java/lang/invoke/VarHandle" ∧ (parseMethodDescriptor yX10_walkTo.desc).map (fun d => d.parameters.length) = some 3 := by decide +kernel
theorem cl_X10_288 : CLV "DustParish" 288 yX10_walkTo cX10_walkTo 8 (some .int) 3 := ⟨⟨tw_1093, tw_1, tw_1096, by decide, cy_yX10_walkTo.1, cy_yX10_walkTo.2.1, cy_yX10_walkTo.2.2⟩, tw_1095, ts_yX10_walkTo⟩
theorem cy_yX10_evenest : yX10_evenest.cls ≠ "java/lang/invoke/MethodHandle" ∧ yX10_evenest.cls ≠ "java/lang/invoke/VarHandle" ∧ (parseMethodDescriptor yX10_evenest.desc).map (fun d => d.parameters.length) = some 3 := by decide +kernel
theorem cl_X10_297 : CLV "DustParish" 297 yX10_evenest cX10_evenest 7 (some .int) 3 := ⟨⟨tw_1105, tw_1, tw_1108, by decide, cy_yX10_evenest.1, cy_yX10_evenest.2.1, cy_yX10_evenest.2.2⟩, tw_1107, ts_yX10_evenest⟩
theorem cy_yX10_carryGrains : yX10_carryGrains.cls ≠ "java/lang/invoke/MethodHandle" ∧ yX10_carryGrains.cls ≠ "java/lang/invoke/VarHandle" ∧ (parseMethodDescriptor yX10_carryGrains.desc).map (fun d => d.parameters.length) = some 1 := by decide +kernel
theorem cl_X10_303 : CLV "DustParish" 303 yX10_carryGrains cX10_carryGrains 5 none 1 := ⟨⟨tw_1117, tw_1, tw_1120, by decide, cy_yX10_carryGrains.1, cy_yX10_carryGrains.2.1, cy_yX10_carryGrains.2.2⟩, tw_1119, ts_yX10_carryGrains⟩
theorem cy_yX2_arrives : yX2_arrives.cls ≠ "java/lang/invoke/MethodHandle" ∧ yX2_arrives.cls ≠ "java/lang/invoke/VarHandle" ∧ (parseMethodDescriptor yX2_arrives.desc).map (fun d => d.parameters.length) = some 2 := by decide +kernel
theorem cl_X10_306 : CLV "DustParish" 306 yX2_arrives cX2_arrives 3 (some .int) 2 := ⟨⟨tw_1121, tw_2, tw_482, by decide, cy_yX2_arrives.1, cy_yX2_arrives.2.1, cy_yX2_arrives.2.2⟩, tw_480, tw_481⟩
theorem cy_yX7_add : yX7_add.cls ≠ "java/lang/invoke/MethodHandle" ∧ yX7_add.cls ≠ "java/lang/invoke/VarHandle" ∧ (parseMethodDescriptor yX7_add.desc).map (fun d => d.parameters.length) = some 3 := by decide +kernel
theorem cl_X10_309 : CLV "DustParish" 309 yX7_add cX7_add 4 none 3 := ⟨⟨tw_1183, tw_10, tw_1186, by decide, cy_yX7_add.1, cy_yX7_add.2.1, cy_yX7_add.2.2⟩, tw_1184, tw_1185⟩
theorem cy_yX10_wouldBeSo : yX10_wouldBeSo.cls ≠ "java/lang/invoke/MethodHandle" ∧ yX10_wouldBeSo.cls ≠ "java/lang/invoke/VarHandle" ∧ (parseMethodDescriptor yX10_wouldBeSo.desc).map (fun d => d.parameters.length) = some 2 := by decide +kernel
theorem cl_X10_312 : CLV "DustParish" 312 yX10_wouldBeSo cX10_wouldBeSo 5 (some .boolean) 2 := ⟨⟨tw_1194, tw_1, tw_1197, by decide, cy_yX10_wouldBeSo.1, cy_yX10_wouldBeSo.2.1, cy_yX10_wouldBeSo.2.2⟩, tw_1196, ts_yX10_wouldBeSo⟩
theorem cy_yX7_lastDay : yX7_lastDay.cls ≠ "java/lang/invoke/MethodHandle" ∧ yX7_lastDay.cls ≠ "java/lang/invoke/VarHandle" ∧ (parseMethodDescriptor yX7_lastDay.desc).map (fun d => d.parameters.length) = some 0 := by decide +kernel
theorem cl_X10_315 : CLV "DustParish" 315 yX7_lastDay cX7_lastDay 3 (some .int) 0 := ⟨⟨tw_1198, tw_10, tw_1201, by decide, cy_yX7_lastDay.1, cy_yX7_lastDay.2.1, cy_yX7_lastDay.2.2⟩, tw_1199, tw_1200⟩
theorem cy_yX7_areSo : yX7_areSo.cls ≠ "java/lang/invoke/MethodHandle" ∧ yX7_areSo.cls ≠ "java/lang/invoke/VarHandle" ∧ (parseMethodDescriptor yX7_areSo.desc).map (fun d => d.parameters.length) = some 2 := by decide +kernel
theorem cl_X10_318 : CLV "DustParish" 318 yX7_areSo cX7_areSo 4 (some .boolean) 2 := ⟨⟨tw_1203, tw_10, tw_1206, by decide, cy_yX7_areSo.1, cy_yX7_areSo.2.1, cy_yX7_areSo.2.2⟩, tw_1204, tw_1205⟩
theorem cy_yX10_lowestRoom : yX10_lowestRoom.cls ≠ "java/lang/invoke/MethodHandle" ∧ yX10_lowestRoom.cls ≠ "java/lang/invoke/VarHandle" ∧ (parseMethodDescriptor yX10_lowestRoom.desc).map (fun d => d.parameters.length) = some 1 := by decide +kernel
theorem cl_X10_322 : CLV "DustParish" 322 yX10_lowestRoom cX10_lowestRoom 3 (some .int) 1 := ⟨⟨tw_1214, tw_1, tw_1217, by decide, cy_yX10_lowestRoom.1, cy_yX10_lowestRoom.2.1, cy_yX10_lowestRoom.2.2⟩, tw_1216, ts_yX10_lowestRoom⟩
theorem cy_yX10_rests : yX10_rests.cls ≠ "java/lang/invoke/MethodHandle" ∧ yX10_rests.cls ≠ "java/lang/invoke/VarHandle" ∧ (parseMethodDescriptor yX10_rests.desc).map (fun d => d.parameters.length) = some 4 := by decide +kernel
theorem cl_X10_325 : CLV "DustParish" 325 yX10_rests cX10_rests 5 (some .boolean) 4 := ⟨⟨tw_1218, tw_1, tw_1221, by decide, cy_yX10_rests.1, cy_yX10_rests.2.1, cy_yX10_rests.2.2⟩, tw_1220, ts_yX10_rests⟩
theorem cy_yX10_lossOf : yX10_lossOf.cls ≠ "java/lang/invoke/MethodHandle" ∧ yX10_lossOf.cls ≠ "java/lang/invoke/VarHandle" ∧ (parseMethodDescriptor yX10_lossOf.desc).map (fun d => d.parameters.length) = some 4 := by decide +kernel
theorem cl_X10_329 : CLV "DustParish" 329 yX10_lossOf cX10_lossOf 6 (some .int) 4 := ⟨⟨tw_1222, tw_1, tw_1225, by decide, cy_yX10_lossOf.1, cy_yX10_lossOf.2.1, cy_yX10_lossOf.2.2⟩, tw_1224, ts_yX10_lossOf⟩
theorem cy_yX10_nextSeed : yX10_nextSeed.cls ≠ "java/lang/invoke/MethodHandle" ∧ yX10_nextSeed.cls ≠ "java/lang/invoke/VarHandle" ∧ (parseMethodDescriptor yX10_nextSeed.desc).map (fun d => d.parameters.length) = some 1 := by decide +kernel
theorem cl_X10_333 : CLS "DustParish" 333 yX10_nextSeed cX10_nextSeed 1 (some .int) 1 := ⟨⟨tw_1233, tw_1, tw_1235, by decide, cy_yX10_nextSeed.1, cy_yX10_nextSeed.2.1, cy_yX10_nextSeed.2.2⟩, tw_1234⟩
theorem cy_yX10_draw : yX10_draw.cls ≠ "java/lang/invoke/MethodHandle" ∧ yX10_draw.cls ≠ "java/lang/invoke/VarHandle" ∧ (parseMethodDescriptor yX10_draw.desc).map (fun d => d.parameters.length) = some 2 := by decide +kernel
theorem cl_X10_336 : CLS "DustParish" 336 yX10_draw cX10_draw 2 (some .int) 2 := ⟨⟨tw_1237, tw_1, tw_1239, by decide, cy_yX10_draw.1, cy_yX10_draw.2.1, cy_yX10_draw.2.2⟩, tw_1238⟩
theorem cy_yX10_happen : yX10_happen.cls ≠ "java/lang/invoke/MethodHandle" ∧ yX10_happen.cls ≠ "java/lang/invoke/VarHandle" ∧ (parseMethodDescriptor yX10_happen.desc).map (fun d => d.parameters.length) = some 2 := by decide +kernel
theorem cl_X10_339 : CLV "DustParish" 339 yX10_happen cX10_happen 4 none 2 := ⟨⟨tw_1240, tw_1, tw_1243, by decide, cy_yX10_happen.1, cy_yX10_happen.2.1, cy_yX10_happen.2.2⟩, tw_1242, ts_yX10_happen⟩
theorem cy_yX10_fullestTrialRoom : yX10_fullestTrialRoom.cls ≠ "java/lang/invoke/MethodHandle" ∧ yX10_fullestTrialRoom.cls ≠ "java/lang/invoke/VarHandle" ∧ (parseMethodDescriptor yX10_fullestTrialRoom.desc).map (fun d => d.parameters.length) = some 0 := by decide +kernel
theorem cl_X10_342 : CLV "DustParish" 342 yX10_fullestTrialRoom cX10_fullestTrialRoom 3 (some .int) 0 := ⟨⟨tw_1248, tw_1, tw_1251, by decide, cy_yX10_fullestTrialRoom.1, cy_yX10_fullestTrialRoom.2.1, cy_yX10_fullestTrialRoom.2.2⟩, tw_1250, ts_yX10_fullestTrialRoom⟩
theorem cy_yX2_behindFirstDoor : yX2_behindFirstDoor.cls ≠ "java/lang/invoke/MethodHandle" ∧ yX2_behindFirstDoor.cls ≠ "java/lang/invoke/VarHandle" ∧ (parseMethodDescriptor yX2_behindFirstDoor.desc).map (fun d => d.parameters.length) = some 1 := by decide +kernel
theorem cl_X10_346 : CLV "DustParish" 346 yX2_behindFirstDoor cX2_behindFirstDoor 3 (some .int) 1 := ⟨⟨tw_1244, tw_2, tw_1247, by decide, cy_yX2_behindFirstDoor.1, cy_yX2_behindFirstDoor.2.1, cy_yX2_behindFirstDoor.2.2⟩, tw_1245, tw_1246⟩
theorem cy_yX3_copy : yX3_copy.cls ≠ "java/lang/invoke/MethodHandle" ∧ yX3_copy.cls ≠ "java/lang/invoke/VarHandle" ∧ (parseMethodDescriptor yX3_copy.desc).map (fun d => d.parameters.length) = some 1 := by decide +kernel
theorem cl_X10_349 : CLV "DustParish" 349 yX3_copy cX3_copy 2 none 1 := ⟨⟨tw_540, tw_7, tw_543, by decide, cy_yX3_copy.1, cy_yX3_copy.2.1, cy_yX3_copy.2.2⟩, tw_541, tw_542⟩
theorem cl_X0_25 : CLV "DustParish$Acts" 25 yX8_copy cX8_copy 2 none 1 := ⟨⟨tw_449, tw_8, tw_452, by decide, cy_yX8_copy.1, cy_yX8_copy.2.1, cy_yX8_copy.2.2⟩, tw_450, tw_451⟩
theorem cl_X1_24 : CLS "DustParish$Course" 24 yX1_windOf cX1_windOf 3 (some .int) 3 := ⟨⟨tw_459, tw_24, tw_461, by decide, cy_yX1_windOf.1, cy_yX1_windOf.2.1, cy_yX1_windOf.2.2⟩, tw_460⟩
theorem cl_X1_33 : CLS "DustParish$Course" 33 yX1_pass cX1_pass 5 none 4 := ⟨⟨tw_462, tw_24, tw_464, by decide, cy_yX1_pass.1, cy_yX1_pass.2.1, cy_yX1_pass.2.2⟩, tw_463⟩
theorem cl_X1_40 : CLV "DustParish$Course" 40 yX2_comesTo cX2_comesTo 2 (some .int) 1 := ⟨⟨tw_465, tw_2, tw_468, by decide, cy_yX2_comesTo.1, cy_yX2_comesTo.2.1, cy_yX2_comesTo.2.2⟩, tw_466, tw_467⟩
theorem cy_yX8_lay : yX8_lay.cls ≠ "java/lang/invoke/MethodHandle" ∧ yX8_lay.cls ≠ "java/lang/invoke/VarHandle" ∧ (parseMethodDescriptor yX8_lay.desc).map (fun d => d.parameters.length) = some 2 := by decide +kernel
theorem cl_X1_44 : CLV "DustParish$Course" 44 yX8_lay cX8_lay 3 none 2 := ⟨⟨tw_469, tw_8, tw_472, by decide, cy_yX8_lay.1, cy_yX8_lay.2.1, cy_yX8_lay.2.2⟩, tw_470, tw_471⟩
theorem cy_yX1_carry : yX1_carry.cls ≠ "java/lang/invoke/MethodHandle" ∧ yX1_carry.cls ≠ "java/lang/invoke/VarHandle" ∧ (parseMethodDescriptor yX1_carry.desc).map (fun d => d.parameters.length) = some 3 := by decide +kernel
theorem cl_X1_51 : CLS "DustParish$Course" 51 yX1_carry cX1_carry 6 none 3 := ⟨⟨tw_476, tw_24, tw_478, by decide, cy_yX1_carry.1, cy_yX1_carry.2.1, cy_yX1_carry.2.2⟩, tw_477⟩
theorem cy_yX1_tithe : yX1_tithe.cls ≠ "java/lang/invoke/MethodHandle" ∧ yX1_tithe.cls ≠ "java/lang/invoke/VarHandle" ∧ (parseMethodDescriptor yX1_tithe.desc).map (fun d => d.parameters.length) = some 2 := by decide +kernel
theorem cl_X1_55 : CLS "DustParish$Course" 55 yX1_tithe cX1_tithe 4 none 2 := ⟨⟨tw_483, tw_24, tw_485, by decide, cy_yX1_tithe.1, cy_yX1_tithe.2.1, cy_yX1_tithe.2.2⟩, tw_484⟩
theorem cl_X1_74 : CLV "DustParish$Course" 74 yX2_arrives cX2_arrives 3 (some .int) 2 := ⟨⟨tw_479, tw_2, tw_482, by decide, cy_yX2_arrives.1, cy_yX2_arrives.2.1, cy_yX2_arrives.2.2⟩, tw_480, tw_481⟩
theorem cl_X1_78 : CLS "DustParish$Course" 78 yX1_titheOf cX1_titheOf 5 (some .int) 3 := ⟨⟨tw_486, tw_24, tw_488, by decide, cy_yX1_titheOf.1, cy_yX1_titheOf.2.1, cy_yX1_titheOf.2.2⟩, tw_487⟩
theorem cy_yX5_isEmpty : yX5_isEmpty.cls ≠ "java/lang/invoke/MethodHandle" ∧ yX5_isEmpty.cls ≠ "java/lang/invoke/VarHandle" ∧ (parseMethodDescriptor yX5_isEmpty.desc).map (fun d => d.parameters.length) = some 0 := by decide +kernel
theorem cl_X1_91 : CLV "DustParish$Course" 91 yX5_isEmpty cX5_isEmpty 1 (some .boolean) 0 := ⟨⟨tw_489, tw_3, tw_492, by decide, cy_yX5_isEmpty.1, cy_yX5_isEmpty.2.1, cy_yX5_isEmpty.2.2⟩, tw_490, tw_491⟩
theorem cy_yX5_amount : yX5_amount.cls ≠ "java/lang/invoke/MethodHandle" ∧ yX5_amount.cls ≠ "java/lang/invoke/VarHandle" ∧ (parseMethodDescriptor yX5_amount.desc).map (fun d => d.parameters.length) = some 0 := by decide +kernel
theorem cl_X1_109 : CLV "DustParish$Course" 109 yX5_amount cX5_amount 4 (some .int) 0 := ⟨⟨tw_493, tw_3, tw_496, by decide, cy_yX5_amount.1, cy_yX5_amount.2.1, cy_yX5_amount.2.2⟩, tw_494, tw_495⟩
theorem cl_X1_121 : CLS "DustParish$Course" 121 yX1_isUnclean cX1_isUnclean 3 (some .boolean) 3 := ⟨⟨tw_524, tw_24, tw_526, by decide, cy_yX1_isUnclean.1, cy_yX1_isUnclean.2.1, cy_yX1_isUnclean.2.2⟩, tw_525⟩
theorem cy_yX5_clear : yX5_clear.cls ≠ "java/lang/invoke/MethodHandle" ∧ yX5_clear.cls ≠ "java/lang/invoke/VarHandle" ∧ (parseMethodDescriptor yX5_clear.desc).map (fun d => d.parameters.length) = some 0 := by decide +kernel
theorem cl_X2_77 : CLV "DustParish$Facts" 77 yX5_clear cX5_clear 1 none 0 := ⟨⟨tw_372, tw_3, tw_375, by decide, cy_yX5_clear.1, cy_yX5_clear.2.1, cy_yX5_clear.2.2⟩, tw_373, tw_374⟩
theorem cl_X2_80 : CLS "DustParish$Facts" 80 yJ7_fill_53178 cJ7_fill_53178 4 none 2 := ⟨⟨tw_376, tw_11, tw_378, by decide, cy_yJ7_fill_53178.1, cy_yJ7_fill_53178.2.1, cy_yJ7_fill_53178.2.2⟩, tw_377⟩
theorem cy_yX2_shortenBy : yX2_shortenBy.cls ≠ "java/lang/invoke/MethodHandle" ∧ yX2_shortenBy.cls ≠ "java/lang/invoke/VarHandle" ∧ (parseMethodDescriptor yX2_shortenBy.desc).map (fun d => d.parameters.length) = some 1 := by decide +kernel
theorem cl_X2_86 : CLV "DustParish$Facts" 86 yX2_shortenBy cX2_shortenBy 7 none 1 := ⟨⟨tw_911, tw_2, tw_914, by decide, cy_yX2_shortenBy.1, cy_yX2_shortenBy.2.1, cy_yX2_shortenBy.2.2⟩, tw_913, ts_yX2_shortenBy⟩
theorem cy_yX2_behind : yX2_behind.cls ≠ "java/lang/invoke/MethodHandle" ∧ yX2_behind.cls ≠ "java/lang/invoke/VarHandle" ∧ (parseMethodDescriptor yX2_behind.desc).map (fun d => d.parameters.length) = some 2 := by decide +kernel
theorem cl_X2_94 : CLV "DustParish$Facts" 94 yX2_behind cX2_behind 3 (some .int) 2 := ⟨⟨tw_801, tw_2, tw_804, by decide, cy_yX2_behind.1, cy_yX2_behind.2.1, cy_yX2_behind.2.2⟩, tw_803, ts_yX2_behind⟩
theorem cy_yX0_init : yX0_init.cls ≠ "java/lang/invoke/MethodHandle" ∧ yX0_init.cls ≠ "java/lang/invoke/VarHandle" ∧ (parseMethodDescriptor yX0_init.desc).map (fun d => d.parameters.length) = some 0 := by decide +kernel
theorem cy_yX8_begin : yX8_begin.cls ≠ "java/lang/invoke/MethodHandle" ∧ yX8_begin.cls ≠ "java/lang/invoke/VarHandle" ∧ (parseMethodDescriptor yX8_begin.desc).map (fun d => d.parameters.length) = some 1 := by decide +kernel
theorem cl_X3_34 : CLV "DustParish$Present" 34 yX8_begin cX8_begin 2 none 1 := ⟨⟨tw_923, tw_8, tw_926, by decide, cy_yX8_begin.1, cy_yX8_begin.2.1, cy_yX8_begin.2.2⟩, tw_924, tw_925⟩
theorem cl_X3_43 : CLV "DustParish$Present" 43 yX8_copy cX8_copy 2 none 1 := ⟨⟨tw_544, tw_8, tw_452, by decide, cy_yX8_copy.1, cy_yX8_copy.2.1, cy_yX8_copy.2.2⟩, tw_450, tw_451⟩
theorem cy_yX0_copy : yX0_copy.cls ≠ "java/lang/invoke/MethodHandle" ∧ yX0_copy.cls ≠ "java/lang/invoke/VarHandle" ∧ (parseMethodDescriptor yX0_copy.desc).map (fun d => d.parameters.length) = some 1 := by decide +kernel
theorem cl_X3_47 : CLV "DustParish$Present" 47 yX0_copy cX0_copy 3 none 1 := ⟨⟨tw_545, tw_9, tw_548, by decide, cy_yX0_copy.1, cy_yX0_copy.2.1, cy_yX0_copy.2.2⟩, tw_546, tw_547⟩
theorem cy_yX7_copy : yX7_copy.cls ≠ "java/lang/invoke/MethodHandle" ∧ yX7_copy.cls ≠ "java/lang/invoke/VarHandle" ∧ (parseMethodDescriptor yX7_copy.desc).map (fun d => d.parameters.length) = some 1 := by decide +kernel
theorem cl_X3_50 : CLV "DustParish$Present" 50 yX7_copy cX7_copy 2 none 1 := ⟨⟨tw_549, tw_10, tw_552, by decide, cy_yX7_copy.1, cy_yX7_copy.2.1, cy_yX7_copy.2.2⟩, tw_550, tw_551⟩
theorem cy_yX9_init : yX9_init.cls ≠ "java/lang/invoke/MethodHandle" ∧ yX9_init.cls ≠ "java/lang/invoke/VarHandle" ∧ (parseMethodDescriptor yX9_init.desc).map (fun d => d.parameters.length) = some 1 := by decide +kernel
theorem cy_yX6_init : yX6_init.cls ≠ "java/lang/invoke/MethodHandle" ∧ yX6_init.cls ≠ "java/lang/invoke/VarHandle" ∧ (parseMethodDescriptor yX6_init.desc).map (fun d => d.parameters.length) = some 2 := by decide +kernel
theorem cl_X4_59 : CLV "DustParish$Reader" 59 yX2_clear cX2_clear 1 none 0 := ⟨⟨tw_633, tw_2, tw_371, by decide, cy_yX2_clear.1, cy_yX2_clear.2.1, cy_yX2_clear.2.2⟩, tw_369, tw_370⟩
theorem cy_yX9_begin : yX9_begin.cls ≠ "java/lang/invoke/MethodHandle" ∧ yX9_begin.cls ≠ "java/lang/invoke/VarHandle" ∧ (parseMethodDescriptor yX9_begin.desc).map (fun d => d.parameters.length) = some 1 := by decide +kernel
theorem cl_X4_62 : CLV "DustParish$Reader" 62 yX9_begin cX9_begin 2 none 1 := ⟨⟨tw_634, tw_5, tw_637, by decide, cy_yX9_begin.1, cy_yX9_begin.2.1, cy_yX9_begin.2.2⟩, tw_635, tw_636⟩
theorem cy_yX4_readLine : yX4_readLine.cls ≠ "java/lang/invoke/MethodHandle" ∧ yX4_readLine.cls ≠ "java/lang/invoke/VarHandle" ∧ (parseMethodDescriptor yX4_readLine.desc).map (fun d => d.parameters.length) = some 0 := by decide +kernel
theorem cl_X4_69 : CLV "DustParish$Reader" 69 yX4_readLine cX4_readLine 1 (some .int) 0 := ⟨⟨tw_739, tw_4, tw_742, by decide, cy_yX4_readLine.1, cy_yX4_readLine.2.1, cy_yX4_readLine.2.2⟩, tw_741, ts_yX4_readLine⟩
theorem cy_yX9_isSign : yX9_isSign.cls ≠ "java/lang/invoke/MethodHandle" ∧ yX9_isSign.cls ≠ "java/lang/invoke/VarHandle" ∧ (parseMethodDescriptor yX9_isSign.desc).map (fun d => d.parameters.length) = some 1 := by decide +kernel
theorem cl_X4_73 : CLV "DustParish$Reader" 73 yX9_isSign cX9_isSign 2 (some .boolean) 1 := ⟨⟨tw_902, tw_5, tw_850, by decide, cy_yX9_isSign.1, cy_yX9_isSign.2.1, cy_yX9_isSign.2.2⟩, tw_848, tw_849⟩
theorem cy_yX9_step : yX9_step.cls ≠ "java/lang/invoke/MethodHandle" ∧ yX9_step.cls ≠ "java/lang/invoke/VarHandle" ∧ (parseMethodDescriptor yX9_step.desc).map (fun d => d.parameters.length) = some 0 := by decide +kernel
theorem cl_X4_77 : CLV "DustParish$Reader" 77 yX9_step cX9_step 1 none 0 := ⟨⟨tw_773, tw_5, tw_642, by decide, cy_yX9_step.1, cy_yX9_step.2.1, cy_yX9_step.2.2⟩, tw_640, tw_641⟩
theorem cy_yX9_isWord : yX9_isWord.cls ≠ "java/lang/invoke/MethodHandle" ∧ yX9_isWord.cls ≠ "java/lang/invoke/VarHandle" ∧ (parseMethodDescriptor yX9_isWord.desc).map (fun d => d.parameters.length) = some 1 := by decide +kernel
theorem cl_X4_82 : CLV "DustParish$Reader" 82 yX9_isWord cX9_isWord 3 (some .boolean) 1 := ⟨⟨tw_744, tw_5, tw_747, by decide, cy_yX9_isWord.1, cy_yX9_isWord.2.1, cy_yX9_isWord.2.2⟩, tw_745, tw_746⟩
theorem cy_yX4_readRoom : yX4_readRoom.cls ≠ "java/lang/invoke/MethodHandle" ∧ yX4_readRoom.cls ≠ "java/lang/invoke/VarHandle" ∧ (parseMethodDescriptor yX4_readRoom.desc).map (fun d => d.parameters.length) = some 1 := by decide +kernel
theorem cl_X4_86 : CLV "DustParish$Reader" 86 yX4_readRoom cX4_readRoom 4 (some .int) 1 := ⟨⟨tw_769, tw_4, tw_772, by decide, cy_yX4_readRoom.1, cy_yX4_readRoom.2.1, cy_yX4_readRoom.2.2⟩, tw_771, ts_yX4_readRoom⟩
theorem cy_yX4_readDoor : yX4_readDoor.cls ≠ "java/lang/invoke/MethodHandle" ∧ yX4_readDoor.cls ≠ "java/lang/invoke/VarHandle" ∧ (parseMethodDescriptor yX4_readDoor.desc).map (fun d => d.parameters.length) = some 0 := by decide +kernel
theorem cl_X4_96 : CLV "DustParish$Reader" 96 yX4_readDoor cX4_readDoor 4 (some .int) 0 := ⟨⟨tw_785, tw_4, tw_788, by decide, cy_yX4_readDoor.1, cy_yX4_readDoor.2.1, cy_yX4_readDoor.2.2⟩, tw_787, ts_yX4_readDoor⟩
theorem cy_yX4_readWind : yX4_readWind.cls ≠ "java/lang/invoke/MethodHandle" ∧ yX4_readWind.cls ≠ "java/lang/invoke/VarHandle" ∧ (parseMethodDescriptor yX4_readWind.desc).map (fun d => d.parameters.length) = some 0 := by decide +kernel
theorem cl_X4_101 : CLV "DustParish$Reader" 101 yX4_readWind cX4_readWind 1 (some .int) 0 := ⟨⟨tw_810, tw_4, tw_813, by decide, cy_yX4_readWind.1, cy_yX4_readWind.2.1, cy_yX4_readWind.2.2⟩, tw_812, ts_yX4_readWind⟩
theorem cy_yX4_readBlow : yX4_readBlow.cls ≠ "java/lang/invoke/MethodHandle" ∧ yX4_readBlow.cls ≠ "java/lang/invoke/VarHandle" ∧ (parseMethodDescriptor yX4_readBlow.desc).map (fun d => d.parameters.length) = some 0 := by decide +kernel
theorem cl_X4_106 : CLV "DustParish$Reader" 106 yX4_readBlow cX4_readBlow 4 (some .int) 0 := ⟨⟨tw_815, tw_4, tw_818, by decide, cy_yX4_readBlow.1, cy_yX4_readBlow.2.1, cy_yX4_readBlow.2.2⟩, tw_817, ts_yX4_readBlow⟩
theorem cy_yX4_readCalendar : yX4_readCalendar.cls ≠ "java/lang/invoke/MethodHandle" ∧ yX4_readCalendar.cls ≠ "java/lang/invoke/VarHandle" ∧ (parseMethodDescriptor yX4_readCalendar.desc).map (fun d => d.parameters.length) = some 0 := by decide +kernel
theorem cl_X4_111 : CLV "DustParish$Reader" 111 yX4_readCalendar cX4_readCalendar 3 (some .int) 0 := ⟨⟨tw_820, tw_4, tw_823, by decide, cy_yX4_readCalendar.1, cy_yX4_readCalendar.2.1, cy_yX4_readCalendar.2.2⟩, tw_822, ts_yX4_readCalendar⟩
theorem cy_yX4_readEvery : yX4_readEvery.cls ≠ "java/lang/invoke/MethodHandle" ∧ yX4_readEvery.cls ≠ "java/lang/invoke/VarHandle" ∧ (parseMethodDescriptor yX4_readEvery.desc).map (fun d => d.parameters.length) = some 0 := by decide +kernel
theorem cl_X4_116 : CLV "DustParish$Reader" 116 yX4_readEvery cX4_readEvery 2 (some .int) 0 := ⟨⟨tw_825, tw_4, tw_828, by decide, cy_yX4_readEvery.1, cy_yX4_readEvery.2.1, cy_yX4_readEvery.2.2⟩, tw_827, ts_yX4_readEvery⟩
theorem cy_yX4_readClean : yX4_readClean.cls ≠ "java/lang/invoke/MethodHandle" ∧ yX4_readClean.cls ≠ "java/lang/invoke/VarHandle" ∧ (parseMethodDescriptor yX4_readClean.desc).map (fun d => d.parameters.length) = some 0 := by decide +kernel
theorem cl_X4_121 : CLV "DustParish$Reader" 121 yX4_readClean cX4_readClean 2 (some .int) 0 := ⟨⟨tw_830, tw_4, tw_833, by decide, cy_yX4_readClean.1, cy_yX4_readClean.2.1, cy_yX4_readClean.2.2⟩, tw_832, ts_yX4_readClean⟩
theorem cy_yX6_read : yX6_read.cls ≠ "java/lang/invoke/MethodHandle" ∧ yX6_read.cls ≠ "java/lang/invoke/VarHandle" ∧ (parseMethodDescriptor yX6_read.desc).map (fun d => d.parameters.length) = some 1 := by decide +kernel
theorem cl_X4_126 : CLV "DustParish$Reader" 126 yX6_read cX6_read 4 (some .int) 1 := ⟨⟨tw_835, tw_6, tw_838, by decide, cy_yX6_read.1, cy_yX6_read.2.1, cy_yX6_read.2.2⟩, tw_836, tw_837⟩
theorem cy_yX4_lookAtNumber : yX4_lookAtNumber.cls ≠ "java/lang/invoke/MethodHandle" ∧ yX4_lookAtNumber.cls ≠ "java/lang/invoke/VarHandle" ∧ (parseMethodDescriptor yX4_lookAtNumber.desc).map (fun d => d.parameters.length) = some 0 := by decide +kernel
theorem cl_X4_130 : CLV "DustParish$Reader" 130 yX4_lookAtNumber cX4_lookAtNumber 1 (some .int) 0 := ⟨⟨tw_778, tw_4, tw_781, by decide, cy_yX4_lookAtNumber.1, cy_yX4_lookAtNumber.2.1, cy_yX4_lookAtNumber.2.2⟩, tw_780, ts_yX4_lookAtNumber⟩
theorem cy_yX4_lookAtRoomNumber : yX4_lookAtRoomNumber.cls ≠ "java/lang/invoke/MethodHandle" ∧ yX4_lookAtRoomNumber.cls ≠ "java/lang/invoke/VarHandle" ∧ (parseMethodDescriptor yX4_lookAtRoomNumber.desc).map (fun d => d.parameters.length) = some 0 := by decide +kernel
theorem cl_X4_136 : CLV "DustParish$Reader" 136 yX4_lookAtRoomNumber cX4_lookAtRoomNumber 2 (some .int) 0 := ⟨⟨tw_793, tw_4, tw_796, by decide, cy_yX4_lookAtRoomNumber.1, cy_yX4_lookAtRoomNumber.2.1, cy_yX4_lookAtRoomNumber.2.2⟩, tw_795, ts_yX4_lookAtRoomNumber⟩
theorem cy_yX4_readNumber : yX4_readNumber.cls ≠ "java/lang/invoke/MethodHandle" ∧ yX4_readNumber.cls ≠ "java/lang/invoke/VarHandle" ∧ (parseMethodDescriptor yX4_readNumber.desc).map (fun d => d.parameters.length) = some 2 := by decide +kernel
theorem cl_X4_149 : CLV "DustParish$Reader" 149 yX4_readNumber cX4_readNumber 4 (some .int) 2 := ⟨⟨tw_774, tw_4, tw_777, by decide, cy_yX4_readNumber.1, cy_yX4_readNumber.2.1, cy_yX4_readNumber.2.2⟩, tw_776, ts_yX4_readNumber⟩
theorem cy_yX4_readRoomNumber : yX4_readRoomNumber.cls ≠ "java/lang/invoke/MethodHandle" ∧ yX4_readRoomNumber.cls ≠ "java/lang/invoke/VarHandle" ∧ (parseMethodDescriptor yX4_readRoomNumber.desc).map (fun d => d.parameters.length) = some 0 := by decide +kernel
theorem cl_X4_165 : CLV "DustParish$Reader" 165 yX4_readRoomNumber cX4_readRoomNumber 2 (some .int) 0 := ⟨⟨tw_789, tw_4, tw_792, by decide, cy_yX4_readRoomNumber.1, cy_yX4_readRoomNumber.2.1, cy_yX4_readRoomNumber.2.2⟩, tw_791, ts_yX4_readRoomNumber⟩
theorem cl_X4_168 : CLV "DustParish$Reader" 168 yX2_hasDoor cX2_hasDoor 4 (some .boolean) 2 := ⟨⟨tw_797, tw_2, tw_800, by decide, cy_yX2_hasDoor.1, cy_yX2_hasDoor.2.1, cy_yX2_hasDoor.2.2⟩, tw_798, tw_799⟩
theorem cy_yX2_addDoor : yX2_addDoor.cls ≠ "java/lang/invoke/MethodHandle" ∧ yX2_addDoor.cls ≠ "java/lang/invoke/VarHandle" ∧ (parseMethodDescriptor yX2_addDoor.desc).map (fun d => d.parameters.length) = some 3 := by decide +kernel
theorem cl_X4_172 : CLV "DustParish$Reader" 172 yX2_addDoor cX2_addDoor 4 none 3 := ⟨⟨tw_805, tw_2, tw_808, by decide, cy_yX2_addDoor.1, cy_yX2_addDoor.2.1, cy_yX2_addDoor.2.2⟩, tw_806, tw_807⟩
theorem cy_yX5_join : yX5_join.cls ≠ "java/lang/invoke/MethodHandle" ∧ yX5_join.cls ≠ "java/lang/invoke/VarHandle" ∧ (parseMethodDescriptor yX5_join.desc).map (fun d => d.parameters.length) = some 3 := by decide +kernel
theorem cl_X5_25 : CLS "DustParish$Rule" 25 yX5_join cX5_join 3 (some .int) 3 := ⟨⟨tw_497, tw_3, tw_499, by decide, cy_yX5_join.1, cy_yX5_join.2.1, cy_yX5_join.2.2⟩, tw_498⟩
theorem cy_yX6_wantNot : yX6_wantNot.cls ≠ "java/lang/invoke/MethodHandle" ∧ yX6_wantNot.cls ≠ "java/lang/invoke/VarHandle" ∧ (parseMethodDescriptor yX6_wantNot.desc).map (fun d => d.parameters.length) = some 0 := by decide +kernel
theorem cl_X6_40 : CLV "DustParish$RuleReader" 40 yX6_wantNot cX6_wantNot 1 none 0 := ⟨⟨tw_839, tw_6, tw_842, by decide, cy_yX6_wantNot.1, cy_yX6_wantNot.2.1, cy_yX6_wantNot.2.2⟩, tw_841, ts_yX6_wantNot⟩
theorem cl_X6_43 : CLV "DustParish$RuleReader" 43 yX9_isSign cX9_isSign 2 (some .boolean) 1 := ⟨⟨tw_847, tw_5, tw_850, by decide, cy_yX9_isSign.1, cy_yX9_isSign.2.1, cy_yX9_isSign.2.2⟩, tw_848, tw_849⟩
theorem cy_yX6_release : yX6_release.cls ≠ "java/lang/invoke/MethodHandle" ∧ yX6_release.cls ≠ "java/lang/invoke/VarHandle" ∧ (parseMethodDescriptor yX6_release.desc).map (fun d => d.parameters.length) = some 1 := by decide +kernel
theorem cl_X6_49 : CLV "DustParish$RuleReader" 49 yX6_release cX6_release 2 none 1 := ⟨⟨tw_851, tw_6, tw_854, by decide, cy_yX6_release.1, cy_yX6_release.2.1, cy_yX6_release.2.2⟩, tw_853, ts_yX6_release⟩
theorem cy_yX6_readPart : yX6_readPart.cls ≠ "java/lang/invoke/MethodHandle" ∧ yX6_readPart.cls ≠ "java/lang/invoke/VarHandle" ∧ (parseMethodDescriptor yX6_readPart.desc).map (fun d => d.parameters.length) = some 0 := by decide +kernel
theorem cl_X6_53 : CLV "DustParish$RuleReader" 53 yX6_readPart cX6_readPart 3 (some .int) 0 := ⟨⟨tw_862, tw_6, tw_865, by decide, cy_yX6_readPart.1, cy_yX6_readPart.2.1, cy_yX6_readPart.2.2⟩, tw_864, ts_yX6_readPart⟩
theorem cy_yX6_readSign : yX6_readSign.cls ≠ "java/lang/invoke/MethodHandle" ∧ yX6_readSign.cls ≠ "java/lang/invoke/VarHandle" ∧ (parseMethodDescriptor yX6_readSign.desc).map (fun d => d.parameters.length) = some 0 := by decide +kernel
theorem cl_X6_57 : CLV "DustParish$RuleReader" 57 yX6_readSign cX6_readSign 3 (some .int) 0 := ⟨⟨tw_882, tw_6, tw_885, by decide, cy_yX6_readSign.1, cy_yX6_readSign.2.1, cy_yX6_readSign.2.2⟩, tw_884, ts_yX6_readSign⟩
theorem cl_X6_60 : CLV "DustParish$RuleReader" 60 yX9_step cX9_step 1 none 0 := ⟨⟨tw_901, tw_5, tw_642, by decide, cy_yX9_step.1, cy_yX9_step.2.1, cy_yX9_step.2.2⟩, tw_640, tw_641⟩
theorem cy_yX6_wantPart : yX6_wantPart.cls ≠ "java/lang/invoke/MethodHandle" ∧ yX6_wantPart.cls ≠ "java/lang/invoke/VarHandle" ∧ (parseMethodDescriptor yX6_wantPart.desc).map (fun d => d.parameters.length) = some 0 := by decide +kernel
theorem cl_X6_63 : CLV "DustParish$RuleReader" 63 yX6_wantPart cX6_wantPart 1 none 0 := ⟨⟨tw_843, tw_6, tw_846, by decide, cy_yX6_wantPart.1, cy_yX6_wantPart.2.1, cy_yX6_wantPart.2.2⟩, tw_845, ts_yX6_wantPart⟩
theorem cy_yX6_hold : yX6_hold.cls ≠ "java/lang/invoke/MethodHandle" ∧ yX6_hold.cls ≠ "java/lang/invoke/VarHandle" ∧ (parseMethodDescriptor yX6_hold.desc).map (fun d => d.parameters.length) = some 1 := by decide +kernel
theorem cl_X6_69 : CLV "DustParish$RuleReader" 69 yX6_hold cX6_hold 2 (some .int) 1 := ⟨⟨tw_866, tw_6, tw_869, by decide, cy_yX6_hold.1, cy_yX6_hold.2.1, cy_yX6_hold.2.2⟩, tw_868, ts_yX6_hold⟩
theorem cl_X6_75 : CLV "DustParish$RuleReader" 75 yX9_isWord cX9_isWord 3 (some .boolean) 1 := ⟨⟨tw_871, tw_5, tw_747, by decide, cy_yX9_isWord.1, cy_yX9_isWord.2.1, cy_yX9_isWord.2.2⟩, tw_745, tw_746⟩
theorem cy_yX5_put : yX5_put.cls ≠ "java/lang/invoke/MethodHandle" ∧ yX5_put.cls ≠ "java/lang/invoke/VarHandle" ∧ (parseMethodDescriptor yX5_put.desc).map (fun d => d.parameters.length) = some 1 := by decide +kernel
theorem cl_X6_84 : CLV "DustParish$RuleReader" 84 yX5_put cX5_put 2 none 1 := ⟨⟨tw_858, tw_3, tw_861, by decide, cy_yX5_put.1, cy_yX5_put.2.1, cy_yX5_put.2.2⟩, tw_859, tw_860⟩
theorem cy_yX6_valueAtHand : yX6_valueAtHand.cls ≠ "java/lang/invoke/MethodHandle" ∧ yX6_valueAtHand.cls ≠ "java/lang/invoke/VarHandle" ∧ (parseMethodDescriptor yX6_valueAtHand.desc).map (fun d => d.parameters.length) = some 0 := by decide +kernel
theorem cl_X6_90 : CLV "DustParish$RuleReader" 90 yX6_valueAtHand cX6_valueAtHand 1 (some .int) 0 := ⟨⟨tw_872, tw_6, tw_875, by decide, cy_yX6_valueAtHand.1, cy_yX6_valueAtHand.2.1, cy_yX6_valueAtHand.2.2⟩, tw_874, ts_yX6_valueAtHand⟩
theorem cy_yX6_close : yX6_close.cls ≠ "java/lang/invoke/MethodHandle" ∧ yX6_close.cls ≠ "java/lang/invoke/VarHandle" ∧ (parseMethodDescriptor yX6_close.desc).map (fun d => d.parameters.length) = some 0 := by decide +kernel
theorem cl_X6_105 : CLV "DustParish$RuleReader" 105 yX6_close cX6_close 1 (some .int) 0 := ⟨⟨tw_886, tw_6, tw_889, by decide, cy_yX6_close.1, cy_yX6_close.2.1, cy_yX6_close.2.2⟩, tw_888, ts_yX6_close⟩
theorem cy_yX6_signAtHand : yX6_signAtHand.cls ≠ "java/lang/invoke/MethodHandle" ∧ yX6_signAtHand.cls ≠ "java/lang/invoke/VarHandle" ∧ (parseMethodDescriptor yX6_signAtHand.desc).map (fun d => d.parameters.length) = some 0 := by decide +kernel
theorem cl_X6_108 : CLV "DustParish$RuleReader" 108 yX6_signAtHand cX6_signAtHand 1 (some .int) 0 := ⟨⟨tw_891, tw_6, tw_894, by decide, cy_yX6_signAtHand.1, cy_yX6_signAtHand.2.1, cy_yX6_signAtHand.2.2⟩, tw_893, ts_yX6_signAtHand⟩
theorem cy_yX6_strengthOf : yX6_strengthOf.cls ≠ "java/lang/invoke/MethodHandle" ∧ yX6_strengthOf.cls ≠ "java/lang/invoke/VarHandle" ∧ (parseMethodDescriptor yX6_strengthOf.desc).map (fun d => d.parameters.length) = some 1 := by decide +kernel
theorem cl_X6_111 : CLS "DustParish$RuleReader" 111 yX6_strengthOf cX6_strengthOf 1 (some .int) 1 := ⟨⟨tw_855, tw_6, tw_857, by decide, cy_yX6_strengthOf.1, cy_yX6_strengthOf.2.1, cy_yX6_strengthOf.2.2⟩, tw_856⟩
theorem cy_yX6_strengthWaiting : yX6_strengthWaiting.cls ≠ "java/lang/invoke/MethodHandle" ∧ yX6_strengthWaiting.cls ≠ "java/lang/invoke/VarHandle" ∧ (parseMethodDescriptor yX6_strengthWaiting.desc).map (fun d => d.parameters.length) = some 0 := by decide +kernel
theorem cl_X6_114 : CLV "DustParish$RuleReader" 114 yX6_strengthWaiting cX6_strengthWaiting 1 (some .int) 0 := ⟨⟨tw_897, tw_6, tw_900, by decide, cy_yX6_strengthWaiting.1, cy_yX6_strengthWaiting.2.1, cy_yX6_strengthWaiting.2.2⟩, tw_899, ts_yX6_strengthWaiting⟩
theorem cl_X8_40 : CLS "DustParish$State" 40 yJ7_fill_53178 cJ7_fill_53178 4 none 2 := ⟨⟨tw_927, tw_11, tw_378, by decide, cy_yJ7_fill_53178.1, cy_yJ7_fill_53178.2.1, cy_yJ7_fill_53178.2.2⟩, tw_377⟩
theorem cl_X8_53 : CLV "DustParish$State" 53 yX8_lay cX8_lay 3 none 2 := ⟨⟨tw_1015, tw_8, tw_472, by decide, cy_yX8_lay.1, cy_yX8_lay.2.1, cy_yX8_lay.2.2⟩, tw_470, tw_471⟩
theorem cl_X9_39 : CLV "DustParish$Tokens" 39 yX9_step cX9_step 1 none 0 := ⟨⟨tw_639, tw_5, tw_642, by decide, cy_yX9_step.1, cy_yX9_step.2.1, cy_yX9_step.2.2⟩, tw_640, tw_641⟩
theorem cy_yX9_isBlank : yX9_isBlank.cls ≠ "java/lang/invoke/MethodHandle" ∧ yX9_isBlank.cls ≠ "java/lang/invoke/VarHandle" ∧ (parseMethodDescriptor yX9_isBlank.desc).map (fun d => d.parameters.length) = some 1 := by decide +kernel
theorem cl_X9_42 : CLS "DustParish$Tokens" 42 yX9_isBlank cX9_isBlank 1 (some .boolean) 1 := ⟨⟨tw_643, tw_5, tw_645, by decide, cy_yX9_isBlank.1, cy_yX9_isBlank.2.1, cy_yX9_isBlank.2.2⟩, tw_644⟩
theorem cy_yX9_isLetter : yX9_isLetter.cls ≠ "java/lang/invoke/MethodHandle" ∧ yX9_isLetter.cls ≠ "java/lang/invoke/VarHandle" ∧ (parseMethodDescriptor yX9_isLetter.desc).map (fun d => d.parameters.length) = some 1 := by decide +kernel
theorem cl_X9_46 : CLS "DustParish$Tokens" 46 yX9_isLetter cX9_isLetter 1 (some .boolean) 1 := ⟨⟨tw_646, tw_5, tw_648, by decide, cy_yX9_isLetter.1, cy_yX9_isLetter.2.1, cy_yX9_isLetter.2.2⟩, tw_647⟩
theorem cy_yX9_isDigit : yX9_isDigit.cls ≠ "java/lang/invoke/MethodHandle" ∧ yX9_isDigit.cls ≠ "java/lang/invoke/VarHandle" ∧ (parseMethodDescriptor yX9_isDigit.desc).map (fun d => d.parameters.length) = some 1 := by decide +kernel
theorem cl_X9_49 : CLS "DustParish$Tokens" 49 yX9_isDigit cX9_isDigit 1 (some .boolean) 1 := ⟨⟨tw_649, tw_5, tw_651, by decide, cy_yX9_isDigit.1, cy_yX9_isDigit.2.1, cy_yX9_isDigit.2.2⟩, tw_650⟩
theorem cy_yX9_takeNumber : yX9_takeNumber.cls ≠ "java/lang/invoke/MethodHandle" ∧ yX9_takeNumber.cls ≠ "java/lang/invoke/VarHandle" ∧ (parseMethodDescriptor yX9_takeNumber.desc).map (fun d => d.parameters.length) = some 0 := by decide +kernel
theorem cl_X9_52 : CLV "DustParish$Tokens" 52 yX9_takeNumber cX9_takeNumber 1 none 0 := ⟨⟨tw_652, tw_5, tw_655, by decide, cy_yX9_takeNumber.1, cy_yX9_takeNumber.2.1, cy_yX9_takeNumber.2.2⟩, tw_654, ts_yX9_takeNumber⟩
theorem cy_yJ0_indexOf_0f7a4 : yJ0_indexOf_0f7a4.cls ≠ "java/lang/invoke/MethodHandle" ∧ yJ0_indexOf_0f7a4.cls ≠ "java/lang/invoke/VarHandle" ∧ (parseMethodDescriptor yJ0_indexOf_0f7a4.desc).map (fun d => d.parameters.length) = some 1 := by decide +kernel
theorem cl_X9_57 : CLV "DustParish$Tokens" 57 yJ0_indexOf_0f7a4 cJ0_indexOf_0f7a4 2 (some .int) 1 := ⟨⟨tw_657, tw_18, tw_660, by decide, cy_yJ0_indexOf_0f7a4.1, cy_yJ0_indexOf_0f7a4.2.1, cy_yJ0_indexOf_0f7a4.2.2⟩, tw_658, tw_659⟩
theorem cy_yJ0_length_8abf5 : yJ0_length_8abf5.cls ≠ "java/lang/invoke/MethodHandle" ∧ yJ0_length_8abf5.cls ≠ "java/lang/invoke/VarHandle" ∧ (parseMethodDescriptor yJ0_length_8abf5.desc).map (fun d => d.parameters.length) = some 0 := by decide +kernel
theorem cl_X9_63 : CLV "DustParish$Tokens" 63 yJ0_length_8abf5 cJ0_length_8abf5 1 (some .int) 0 := ⟨⟨tw_748, tw_18, tw_674, by decide, cy_yJ0_length_8abf5.1, cy_yJ0_length_8abf5.2.1, cy_yJ0_length_8abf5.2.2⟩, tw_672, tw_673⟩
theorem cy_yJ0_charAt_5068e : yJ0_charAt_5068e.cls ≠ "java/lang/invoke/MethodHandle" ∧ yJ0_charAt_5068e.cls ≠ "java/lang/invoke/VarHandle" ∧ (parseMethodDescriptor yJ0_charAt_5068e.desc).map (fun d => d.parameters.length) = some 1 := by decide +kernel
theorem cl_X9_66 : CLV "DustParish$Tokens" 66 yJ0_charAt_5068e cJ0_charAt_5068e 2 (some .char) 1 := ⟨⟨tw_749, tw_18, tw_752, by decide, cy_yJ0_charAt_5068e.1, cy_yJ0_charAt_5068e.2.1, cy_yJ0_charAt_5068e.2.2⟩, tw_750, tw_751⟩
theorem cy_yX10_parish : yX10_parish.cls ≠ "java/lang/invoke/MethodHandle" ∧ yX10_parish.cls ≠ "java/lang/invoke/VarHandle" ∧ (parseMethodDescriptor yX10_parish.desc).map (fun d => d.parameters.length) = some 1 := by decide +kernel
theorem cl_L_7 : CLV "DustParishLaw" 7 yX10_parish cX10_parish 4 (some .int) 1 := ⟨⟨tw_563, tw_1, tw_566, by decide, cy_yX10_parish.1, cy_yX10_parish.2.1, cy_yX10_parish.2.2⟩, tw_564, tw_565⟩
theorem cy_yX10_count : yX10_count.cls ≠ "java/lang/invoke/MethodHandle" ∧ yX10_count.cls ≠ "java/lang/invoke/VarHandle" ∧ (parseMethodDescriptor yX10_count.desc).map (fun d => d.parameters.length) = some 1 := by decide +kernel
theorem cl_L_15 : CLV "DustParishLaw" 15 yX10_count cX10_count 2 (some .int) 1 := ⟨⟨tw_932, tw_1, tw_935, by decide, cy_yX10_count.1, cy_yX10_count.2.1, cy_yX10_count.2.2⟩, tw_933, tw_934⟩
theorem cy_yX10_room : yX10_room.cls ≠ "java/lang/invoke/MethodHandle" ∧ yX10_room.cls ≠ "java/lang/invoke/VarHandle" ∧ (parseMethodDescriptor yX10_room.desc).map (fun d => d.parameters.length) = some 2 := by decide +kernel
theorem cl_L_20 : CLV "DustParishLaw" 20 yX10_room cX10_room 3 (some .int) 2 := ⟨⟨tw_957, tw_1, tw_960, by decide, cy_yX10_room.1, cy_yX10_room.2.1, cy_yX10_room.2.2⟩, tw_958, tw_959⟩
theorem cy_yX10_far : yX10_far.cls ≠ "java/lang/invoke/MethodHandle" ∧ yX10_far.cls ≠ "java/lang/invoke/VarHandle" ∧ (parseMethodDescriptor yX10_far.desc).map (fun d => d.parameters.length) = some 2 := by decide +kernel
theorem cl_L_24 : CLV "DustParishLaw" 24 yX10_far cX10_far 3 (some .int) 2 := ⟨⟨tw_973, tw_1, tw_976, by decide, cy_yX10_far.1, cy_yX10_far.2.1, cy_yX10_far.2.2⟩, tw_974, tw_975⟩
theorem cy_yX10_near : yX10_near.cls ≠ "java/lang/invoke/MethodHandle" ∧ yX10_near.cls ≠ "java/lang/invoke/VarHandle" ∧ (parseMethodDescriptor yX10_near.desc).map (fun d => d.parameters.length) = some 2 := by decide +kernel
theorem cl_L_27 : CLV "DustParishLaw" 27 yX10_near cX10_near 6 (some .int) 2 := ⟨⟨tw_984, tw_1, tw_987, by decide, cy_yX10_near.1, cy_yX10_near.2.1, cy_yX10_near.2.2⟩, tw_985, tw_986⟩
theorem cy_yX10_blow : yX10_blow.cls ≠ "java/lang/invoke/MethodHandle" ∧ yX10_blow.cls ≠ "java/lang/invoke/VarHandle" ∧ (parseMethodDescriptor yX10_blow.desc).map (fun d => d.parameters.length) = some 3 := by decide +kernel
theorem cl_L_30 : CLV "DustParishLaw" 30 yX10_blow cX10_blow 5 (some .int) 3 := ⟨⟨tw_991, tw_1, tw_994, by decide, cy_yX10_blow.1, cy_yX10_blow.2.1, cy_yX10_blow.2.2⟩, tw_992, tw_993⟩
theorem cy_yX10_wind : yX10_wind.cls ≠ "java/lang/invoke/MethodHandle" ∧ yX10_wind.cls ≠ "java/lang/invoke/VarHandle" ∧ (parseMethodDescriptor yX10_wind.desc).map (fun d => d.parameters.length) = some 1 := by decide +kernel
theorem cl_L_34 : CLV "DustParishLaw" 34 yX10_wind cX10_wind 2 (some .int) 1 := ⟨⟨tw_998, tw_1, tw_1001, by decide, cy_yX10_wind.1, cy_yX10_wind.2.1, cy_yX10_wind.2.2⟩, tw_999, tw_1000⟩
theorem cy_yX10_sweep : yX10_sweep.cls ≠ "java/lang/invoke/MethodHandle" ∧ yX10_sweep.cls ≠ "java/lang/invoke/VarHandle" ∧ (parseMethodDescriptor yX10_sweep.desc).map (fun d => d.parameters.length) = some 3 := by decide +kernel
theorem cl_L_37 : CLV "DustParishLaw" 37 yX10_sweep cX10_sweep 4 (some .int) 3 := ⟨⟨tw_1006, tw_1, tw_1009, by decide, cy_yX10_sweep.1, cy_yX10_sweep.2.1, cy_yX10_sweep.2.2⟩, tw_1007, tw_1008⟩
theorem cy_yX10_shake : yX10_shake.cls ≠ "java/lang/invoke/MethodHandle" ∧ yX10_shake.cls ≠ "java/lang/invoke/VarHandle" ∧ (parseMethodDescriptor yX10_shake.desc).map (fun d => d.parameters.length) = some 2 := by decide +kernel
theorem cl_L_40 : CLV "DustParishLaw" 40 yX10_shake cX10_shake 4 (some .int) 2 := ⟨⟨tw_1019, tw_1, tw_1022, by decide, cy_yX10_shake.1, cy_yX10_shake.2.1, cy_yX10_shake.2.2⟩, tw_1020, tw_1021⟩
theorem cy_yX10_sneeze : yX10_sneeze.cls ≠ "java/lang/invoke/MethodHandle" ∧ yX10_sneeze.cls ≠ "java/lang/invoke/VarHandle" ∧ (parseMethodDescriptor yX10_sneeze.desc).map (fun d => d.parameters.length) = some 2 := by decide +kernel
theorem cl_L_43 : CLV "DustParishLaw" 43 yX10_sneeze cX10_sneeze 3 (some .int) 2 := ⟨⟨tw_1026, tw_1, tw_1029, by decide, cy_yX10_sneeze.1, cy_yX10_sneeze.2.1, cy_yX10_sneeze.2.2⟩, tw_1027, tw_1028⟩
theorem cy_yX10_then : yX10_then.cls ≠ "java/lang/invoke/MethodHandle" ∧ yX10_then.cls ≠ "java/lang/invoke/VarHandle" ∧ (parseMethodDescriptor yX10_then.desc).map (fun d => d.parameters.length) = some 2 := by decide +kernel
theorem cl_L_46 : CLV "DustParishLaw" 46 yX10_then cX10_then 3 (some .int) 2 := ⟨⟨tw_1037, tw_1, tw_1040, by decide, cy_yX10_then.1, cy_yX10_then.2.1, cy_yX10_then.2.2⟩, tw_1038, tw_1039⟩
theorem cy_yX10_taken : yX10_taken.cls ≠ "java/lang/invoke/MethodHandle" ∧ yX10_taken.cls ≠ "java/lang/invoke/VarHandle" ∧ (parseMethodDescriptor yX10_taken.desc).map (fun d => d.parameters.length) = some 1 := by decide +kernel
theorem cl_L_49 : CLV "DustParishLaw" 49 yX10_taken cX10_taken 2 (some .int) 1 := ⟨⟨tw_1051, tw_1, tw_1054, by decide, cy_yX10_taken.1, cy_yX10_taken.2.1, cy_yX10_taken.2.2⟩, tw_1052, tw_1053⟩
theorem cy_yX10_thick : yX10_thick.cls ≠ "java/lang/invoke/MethodHandle" ∧ yX10_thick.cls ≠ "java/lang/invoke/VarHandle" ∧ (parseMethodDescriptor yX10_thick.desc).map (fun d => d.parameters.length) = some 2 := by decide +kernel
theorem cl_L_52 : CLV "DustParishLaw" 52 yX10_thick cX10_thick 4 (some .int) 2 := ⟨⟨tw_1058, tw_1, tw_1061, by decide, cy_yX10_thick.1, cy_yX10_thick.2.1, cy_yX10_thick.2.2⟩, tw_1059, tw_1060⟩
theorem cy_yX10_order : yX10_order.cls ≠ "java/lang/invoke/MethodHandle" ∧ yX10_order.cls ≠ "java/lang/invoke/VarHandle" ∧ (parseMethodDescriptor yX10_order.desc).map (fun d => d.parameters.length) = some 2 := by decide +kernel
theorem cl_L_55 : CLV "DustParishLaw" 55 yX10_order cX10_order 4 (some .int) 2 := ⟨⟨tw_1065, tw_1, tw_1068, by decide, cy_yX10_order.1, cy_yX10_order.2.1, cy_yX10_order.2.2⟩, tw_1066, tw_1067⟩
theorem cy_yX10_round : yX10_round.cls ≠ "java/lang/invoke/MethodHandle" ∧ yX10_round.cls ≠ "java/lang/invoke/VarHandle" ∧ (parseMethodDescriptor yX10_round.desc).map (fun d => d.parameters.length) = some 2 := by decide +kernel
theorem cl_L_58 : CLV "DustParishLaw" 58 yX10_round cX10_round 6 (some .int) 2 := ⟨⟨tw_1084, tw_1, tw_1087, by decide, cy_yX10_round.1, cy_yX10_round.2.1, cy_yX10_round.2.2⟩, tw_1085, tw_1086⟩
theorem cy_yX10_shares : yX10_shares.cls ≠ "java/lang/invoke/MethodHandle" ∧ yX10_shares.cls ≠ "java/lang/invoke/VarHandle" ∧ (parseMethodDescriptor yX10_shares.desc).map (fun d => d.parameters.length) = some 1 := by decide +kernel
theorem cl_L_61 : CLV "DustParishLaw" 61 yX10_shares cX10_shares 2 (some .int) 1 := ⟨⟨tw_1101, tw_1, tw_1104, by decide, cy_yX10_shares.1, cy_yX10_shares.2.1, cy_yX10_shares.2.2⟩, tw_1102, tw_1103⟩
theorem cy_yX10_from : yX10_from.cls ≠ "java/lang/invoke/MethodHandle" ∧ yX10_from.cls ≠ "java/lang/invoke/VarHandle" ∧ (parseMethodDescriptor yX10_from.desc).map (fun d => d.parameters.length) = some 3 := by decide +kernel
theorem cl_L_64 : CLV "DustParishLaw" 64 yX10_from cX10_from 5 (some .int) 3 := ⟨⟨tw_1113, tw_1, tw_1116, by decide, cy_yX10_from.1, cy_yX10_from.2.1, cy_yX10_from.2.2⟩, tw_1114, tw_1115⟩
theorem cy_yX10_poorest : yX10_poorest.cls ≠ "java/lang/invoke/MethodHandle" ∧ yX10_poorest.cls ≠ "java/lang/invoke/VarHandle" ∧ (parseMethodDescriptor yX10_poorest.desc).map (fun d => d.parameters.length) = some 1 := by decide +kernel
theorem cl_L_67 : CLV "DustParishLaw" 67 yX10_poorest cX10_poorest 4 (some .int) 1 := ⟨⟨tw_1125, tw_1, tw_1128, by decide, cy_yX10_poorest.1, cy_yX10_poorest.2.1, cy_yX10_poorest.2.2⟩, tw_1126, tw_1127⟩
theorem cy_yX10_fullest : yX10_fullest.cls ≠ "java/lang/invoke/MethodHandle" ∧ yX10_fullest.cls ≠ "java/lang/invoke/VarHandle" ∧ (parseMethodDescriptor yX10_fullest.desc).map (fun d => d.parameters.length) = some 1 := by decide +kernel
theorem cl_L_70 : CLV "DustParishLaw" 70 yX10_fullest cX10_fullest 6 (some .int) 1 := ⟨⟨tw_1132, tw_1, tw_1135, by decide, cy_yX10_fullest.1, cy_yX10_fullest.2.1, cy_yX10_fullest.2.2⟩, tw_1133, tw_1134⟩
theorem cy_yX10_change : yX10_change.cls ≠ "java/lang/invoke/MethodHandle" ∧ yX10_change.cls ≠ "java/lang/invoke/VarHandle" ∧ (parseMethodDescriptor yX10_change.desc).map (fun d => d.parameters.length) = some 1 := by decide +kernel
theorem cl_L_73 : CLV "DustParishLaw" 73 yX10_change cX10_change 6 (some .int) 1 := ⟨⟨tw_1139, tw_1, tw_1142, by decide, cy_yX10_change.1, cy_yX10_change.2.1, cy_yX10_change.2.2⟩, tw_1140, tw_1141⟩
theorem cy_yX10_lend : yX10_lend.cls ≠ "java/lang/invoke/MethodHandle" ∧ yX10_lend.cls ≠ "java/lang/invoke/VarHandle" ∧ (parseMethodDescriptor yX10_lend.desc).map (fun d => d.parameters.length) = some 1 := by decide +kernel
theorem cl_L_76 : CLV "DustParishLaw" 76 yX10_lend cX10_lend 4 (some .int) 1 := ⟨⟨tw_1150, tw_1, tw_1153, by decide, cy_yX10_lend.1, cy_yX10_lend.2.1, cy_yX10_lend.2.2⟩, tw_1151, tw_1152⟩
theorem cy_yX10_often : yX10_often.cls ≠ "java/lang/invoke/MethodHandle" ∧ yX10_often.cls ≠ "java/lang/invoke/VarHandle" ∧ (parseMethodDescriptor yX10_often.desc).map (fun d => d.parameters.length) = some 1 := by decide +kernel
theorem cl_L_79 : CLV "DustParishLaw" 79 yX10_often cX10_often 6 (some .int) 1 := ⟨⟨tw_1157, tw_1, tw_1160, by decide, cy_yX10_often.1, cy_yX10_often.2.1, cy_yX10_often.2.2⟩, tw_1158, tw_1159⟩
theorem cy_yX10_riches : yX10_riches.cls ≠ "java/lang/invoke/MethodHandle" ∧ yX10_riches.cls ≠ "java/lang/invoke/VarHandle" ∧ (parseMethodDescriptor yX10_riches.desc).map (fun d => d.parameters.length) = some 1 := by decide +kernel
theorem cl_L_82 : CLV "DustParishLaw" 82 yX10_riches cX10_riches 4 (some .int) 1 := ⟨⟨tw_1164, tw_1, tw_1167, by decide, cy_yX10_riches.1, cy_yX10_riches.2.1, cy_yX10_riches.2.2⟩, tw_1165, tw_1166⟩
theorem cy_yX10_lost : yX10_lost.cls ≠ "java/lang/invoke/MethodHandle" ∧ yX10_lost.cls ≠ "java/lang/invoke/VarHandle" ∧ (parseMethodDescriptor yX10_lost.desc).map (fun d => d.parameters.length) = some 1 := by decide +kernel
theorem cl_L_85 : CLV "DustParishLaw" 85 yX10_lost cX10_lost 4 (some .int) 1 := ⟨⟨tw_1171, tw_1, tw_1174, by decide, cy_yX10_lost.1, cy_yX10_lost.2.1, cy_yX10_lost.2.2⟩, tw_1172, tw_1173⟩
theorem cy_yX10_see : yX10_see.cls ≠ "java/lang/invoke/MethodHandle" ∧ yX10_see.cls ≠ "java/lang/invoke/VarHandle" ∧ (parseMethodDescriptor yX10_see.desc).map (fun d => d.parameters.length) = some 3 := by decide +kernel
theorem cl_L_88 : CLV "DustParishLaw" 88 yX10_see cX10_see 4 (some .int) 3 := ⟨⟨tw_1179, tw_1, tw_1182, by decide, cy_yX10_see.1, cy_yX10_see.2.1, cy_yX10_see.2.2⟩, tw_1180, tw_1181⟩
theorem cy_yX10_hand : yX10_hand.cls ≠ "java/lang/invoke/MethodHandle" ∧ yX10_hand.cls ≠ "java/lang/invoke/VarHandle" ∧ (parseMethodDescriptor yX10_hand.desc).map (fun d => d.parameters.length) = some 1 := by decide +kernel
theorem cl_L_91 : CLV "DustParishLaw" 91 yX10_hand cX10_hand 6 (some .int) 1 := ⟨⟨tw_1190, tw_1, tw_1193, by decide, cy_yX10_hand.1, cy_yX10_hand.2.1, cy_yX10_hand.2.2⟩, tw_1191, tw_1192⟩
theorem cy_yX10_game : yX10_game.cls ≠ "java/lang/invoke/MethodHandle" ∧ yX10_game.cls ≠ "java/lang/invoke/VarHandle" ∧ (parseMethodDescriptor yX10_game.desc).map (fun d => d.parameters.length) = some 3 := by decide +kernel
theorem cl_L_94 : CLV "DustParishLaw" 94 yX10_game cX10_game 9 (some .int) 3 := ⟨⟨tw_1210, tw_1, tw_1213, by decide, cy_yX10_game.1, cy_yX10_game.2.1, cy_yX10_game.2.2⟩, tw_1211, tw_1212⟩
theorem cy_yX10_years : yX10_years.cls ≠ "java/lang/invoke/MethodHandle" ∧ yX10_years.cls ≠ "java/lang/invoke/VarHandle" ∧ (parseMethodDescriptor yX10_years.desc).map (fun d => d.parameters.length) = some 3 := by decide +kernel
theorem cl_L_97 : CLV "DustParishLaw" 97 yX10_years cX10_years 8 (some .int) 3 := ⟨⟨tw_1229, tw_1, tw_1232, by decide, cy_yX10_years.1, cy_yX10_years.2.1, cy_yX10_years.2.2⟩, tw_1230, tw_1231⟩
theorem cy_yX10_init : yX10_init.cls ≠ "java/lang/invoke/MethodHandle" ∧ yX10_init.cls ≠ "java/lang/invoke/VarHandle" ∧ (parseMethodDescriptor yX10_init.desc).map (fun d => d.parameters.length) = some 0 := by decide +kernel
theorem cy_yX11_init : yX11_init.cls ≠ "java/lang/invoke/MethodHandle" ∧ yX11_init.cls ≠ "java/lang/invoke/VarHandle" ∧ (parseMethodDescriptor yX11_init.desc).map (fun d => d.parameters.length) = some 0 := by decide +kernel
theorem cy_yX10_feed : yX10_feed.cls ≠ "java/lang/invoke/MethodHandle" ∧ yX10_feed.cls ≠ "java/lang/invoke/VarHandle" ∧ (parseMethodDescriptor yX10_feed.desc).map (fun d => d.parameters.length) = some 5 := by decide +kernel
theorem cl_L_104 : CLV "DustParishLaw" 104 yX10_feed cX10_feed 6 (some .int) 5 := ⟨⟨tw_425, tw_1, tw_428, by decide, cy_yX10_feed.1, cy_yX10_feed.2.1, cy_yX10_feed.2.2⟩, tw_426, tw_427⟩
theorem cy_yX11_feed : yX11_feed.cls ≠ "java/lang/invoke/MethodHandle" ∧ yX11_feed.cls ≠ "java/lang/invoke/VarHandle" ∧ (parseMethodDescriptor yX11_feed.desc).map (fun d => d.parameters.length) = some 5 := by decide +kernel
theorem cl_L_108 : CLV "DustParishLaw" 108 yX11_feed cX11_feed 8 (some .int) 5 := ⟨⟨tw_1463, tw_12, tw_1466, by decide, cy_yX11_feed.1, cy_yX11_feed.2.1, cy_yX11_feed.2.2⟩, tw_1464, tw_1465⟩
theorem cy_yX11_parish : yX11_parish.cls ≠ "java/lang/invoke/MethodHandle" ∧ yX11_parish.cls ≠ "java/lang/invoke/VarHandle" ∧ (parseMethodDescriptor yX11_parish.desc).map (fun d => d.parameters.length) = some 1 := by decide +kernel
theorem cl_L_114 : CLV "DustParishLaw" 114 yX11_parish cX11_parish 3 (some .int) 1 := ⟨⟨tw_1467, tw_12, tw_1470, by decide, cy_yX11_parish.1, cy_yX11_parish.2.1, cy_yX11_parish.2.2⟩, tw_1468, tw_1469⟩
theorem cy_yX11_thrown : yX11_thrown.cls ≠ "java/lang/invoke/MethodHandle" ∧ yX11_thrown.cls ≠ "java/lang/invoke/VarHandle" ∧ (parseMethodDescriptor yX11_thrown.desc).map (fun d => d.parameters.length) = some 0 := by decide +kernel
theorem cl_L_115 : CLV "DustParishLaw" 115 yX11_thrown cX11_thrown 1 (some .int) 0 := ⟨⟨tw_1459, tw_12, tw_1462, by decide, cy_yX11_thrown.1, cy_yX11_thrown.2.1, cy_yX11_thrown.2.2⟩, tw_1460, tw_1461⟩
theorem cy_yX10_fault : yX10_fault.cls ≠ "java/lang/invoke/MethodHandle" ∧ yX10_fault.cls ≠ "java/lang/invoke/VarHandle" ∧ (parseMethodDescriptor yX10_fault.desc).map (fun d => d.parameters.length) = some 0 := by decide +kernel
theorem cl_L_119 : CLV "DustParishLaw" 119 yX10_fault cX10_fault 1 (some .int) 0 := ⟨⟨tw_433, tw_1, tw_436, by decide, cy_yX10_fault.1, cy_yX10_fault.2.1, cy_yX10_fault.2.2⟩, tw_434, tw_435⟩
theorem cy_yX11_fault : yX11_fault.cls ≠ "java/lang/invoke/MethodHandle" ∧ yX11_fault.cls ≠ "java/lang/invoke/VarHandle" ∧ (parseMethodDescriptor yX11_fault.desc).map (fun d => d.parameters.length) = some 0 := by decide +kernel
theorem cl_L_122 : CLV "DustParishLaw" 122 yX11_fault cX11_fault 1 (some .int) 0 := ⟨⟨tw_1610, tw_12, tw_1613, by decide, cy_yX11_fault.1, cy_yX11_fault.2.1, cy_yX11_fault.2.2⟩, tw_1611, tw_1612⟩
theorem cy_yX11_count : yX11_count.cls ≠ "java/lang/invoke/MethodHandle" ∧ yX11_count.cls ≠ "java/lang/invoke/VarHandle" ∧ (parseMethodDescriptor yX11_count.desc).map (fun d => d.parameters.length) = some 1 := by decide +kernel
theorem cl_L_125 : CLV "DustParishLaw" 125 yX11_count cX11_count 2 (some .int) 1 := ⟨⟨tw_1614, tw_12, tw_1617, by decide, cy_yX11_count.1, cy_yX11_count.2.1, cy_yX11_count.2.2⟩, tw_1615, tw_1616⟩
theorem cy_yX11_room : yX11_room.cls ≠ "java/lang/invoke/MethodHandle" ∧ yX11_room.cls ≠ "java/lang/invoke/VarHandle" ∧ (parseMethodDescriptor yX11_room.desc).map (fun d => d.parameters.length) = some 2 := by decide +kernel
theorem cl_L_129 : CLV "DustParishLaw" 129 yX11_room cX11_room 5 (some .int) 2 := ⟨⟨tw_1626, tw_12, tw_1629, by decide, cy_yX11_room.1, cy_yX11_room.2.1, cy_yX11_room.2.2⟩, tw_1627, tw_1628⟩
theorem cy_yX11_far : yX11_far.cls ≠ "java/lang/invoke/MethodHandle" ∧ yX11_far.cls ≠ "java/lang/invoke/VarHandle" ∧ (parseMethodDescriptor yX11_far.desc).map (fun d => d.parameters.length) = some 2 := by decide +kernel
theorem cl_L_132 : CLV "DustParishLaw" 132 yX11_far cX11_far 3 (some .int) 2 := ⟨⟨tw_1648, tw_12, tw_1651, by decide, cy_yX11_far.1, cy_yX11_far.2.1, cy_yX11_far.2.2⟩, tw_1649, tw_1650⟩
theorem cy_yX11_near : yX11_near.cls ≠ "java/lang/invoke/MethodHandle" ∧ yX11_near.cls ≠ "java/lang/invoke/VarHandle" ∧ (parseMethodDescriptor yX11_near.desc).map (fun d => d.parameters.length) = some 2 := by decide +kernel
theorem cl_L_135 : CLV "DustParishLaw" 135 yX11_near cX11_near 5 (some .int) 2 := ⟨⟨tw_1660, tw_12, tw_1663, by decide, cy_yX11_near.1, cy_yX11_near.2.1, cy_yX11_near.2.2⟩, tw_1661, tw_1662⟩
theorem cy_yX11_blow : yX11_blow.cls ≠ "java/lang/invoke/MethodHandle" ∧ yX11_blow.cls ≠ "java/lang/invoke/VarHandle" ∧ (parseMethodDescriptor yX11_blow.desc).map (fun d => d.parameters.length) = some 3 := by decide +kernel
theorem cl_L_139 : CLV "DustParishLaw" 139 yX11_blow cX11_blow 5 (some .int) 3 := ⟨⟨tw_1664, tw_12, tw_1667, by decide, cy_yX11_blow.1, cy_yX11_blow.2.1, cy_yX11_blow.2.2⟩, tw_1665, tw_1666⟩
theorem cy_yX11_wind : yX11_wind.cls ≠ "java/lang/invoke/MethodHandle" ∧ yX11_wind.cls ≠ "java/lang/invoke/VarHandle" ∧ (parseMethodDescriptor yX11_wind.desc).map (fun d => d.parameters.length) = some 1 := by decide +kernel
theorem cl_L_142 : CLV "DustParishLaw" 142 yX11_wind cX11_wind 2 (some .int) 1 := ⟨⟨tw_1670, tw_12, tw_1673, by decide, cy_yX11_wind.1, cy_yX11_wind.2.1, cy_yX11_wind.2.2⟩, tw_1671, tw_1672⟩
theorem cy_yX10_days : yX10_days.cls ≠ "java/lang/invoke/MethodHandle" ∧ yX10_days.cls ≠ "java/lang/invoke/VarHandle" ∧ (parseMethodDescriptor yX10_days.desc).map (fun d => d.parameters.length) = some 1 := by decide +kernel
theorem cl_L_143 : CLV "DustParishLaw" 143 yX10_days cX10_days 2 (some .int) 1 := ⟨⟨tw_437, tw_1, tw_440, by decide, cy_yX10_days.1, cy_yX10_days.2.1, cy_yX10_days.2.2⟩, tw_438, tw_439⟩
theorem cy_yX11_days : yX11_days.cls ≠ "java/lang/invoke/MethodHandle" ∧ yX11_days.cls ≠ "java/lang/invoke/VarHandle" ∧ (parseMethodDescriptor yX11_days.desc).map (fun d => d.parameters.length) = some 1 := by decide +kernel
theorem cl_L_146 : CLV "DustParishLaw" 146 yX11_days cX11_days 2 (some .int) 1 := ⟨⟨tw_1679, tw_12, tw_1682, by decide, cy_yX11_days.1, cy_yX11_days.2.1, cy_yX11_days.2.2⟩, tw_1680, tw_1681⟩
theorem cy_yX11_sweep : yX11_sweep.cls ≠ "java/lang/invoke/MethodHandle" ∧ yX11_sweep.cls ≠ "java/lang/invoke/VarHandle" ∧ (parseMethodDescriptor yX11_sweep.desc).map (fun d => d.parameters.length) = some 3 := by decide +kernel
theorem cl_L_149 : CLV "DustParishLaw" 149 yX11_sweep cX11_sweep 4 (some .int) 3 := ⟨⟨tw_1724, tw_12, tw_1727, by decide, cy_yX11_sweep.1, cy_yX11_sweep.2.1, cy_yX11_sweep.2.2⟩, tw_1725, tw_1726⟩
theorem cy_yX11_shake : yX11_shake.cls ≠ "java/lang/invoke/MethodHandle" ∧ yX11_shake.cls ≠ "java/lang/invoke/VarHandle" ∧ (parseMethodDescriptor yX11_shake.desc).map (fun d => d.parameters.length) = some 2 := by decide +kernel
theorem cl_L_152 : CLV "DustParishLaw" 152 yX11_shake cX11_shake 4 (some .int) 2 := ⟨⟨tw_1737, tw_12, tw_1740, by decide, cy_yX11_shake.1, cy_yX11_shake.2.1, cy_yX11_shake.2.2⟩, tw_1738, tw_1739⟩
theorem cy_yX11_sneeze : yX11_sneeze.cls ≠ "java/lang/invoke/MethodHandle" ∧ yX11_sneeze.cls ≠ "java/lang/invoke/VarHandle" ∧ (parseMethodDescriptor yX11_sneeze.desc).map (fun d => d.parameters.length) = some 2 := by decide +kernel
theorem cl_L_155 : CLV "DustParishLaw" 155 yX11_sneeze cX11_sneeze 3 (some .int) 2 := ⟨⟨tw_1741, tw_12, tw_1744, by decide, cy_yX11_sneeze.1, cy_yX11_sneeze.2.1, cy_yX11_sneeze.2.2⟩, tw_1742, tw_1743⟩
theorem cy_yX10_plan : yX10_plan.cls ≠ "java/lang/invoke/MethodHandle" ∧ yX10_plan.cls ≠ "java/lang/invoke/VarHandle" ∧ (parseMethodDescriptor yX10_plan.desc).map (fun d => d.parameters.length) = some 2 := by decide +kernel
theorem cl_L_156 : CLV "DustParishLaw" 156 yX10_plan cX10_plan 5 (some .int) 2 := ⟨⟨tw_504, tw_1, tw_507, by decide, cy_yX10_plan.1, cy_yX10_plan.2.1, cy_yX10_plan.2.2⟩, tw_505, tw_506⟩
theorem cy_yX11_plan : yX11_plan.cls ≠ "java/lang/invoke/MethodHandle" ∧ yX11_plan.cls ≠ "java/lang/invoke/VarHandle" ∧ (parseMethodDescriptor yX11_plan.desc).map (fun d => d.parameters.length) = some 2 := by decide +kernel
theorem cl_L_159 : CLV "DustParishLaw" 159 yX11_plan cX11_plan 4 (some .int) 2 := ⟨⟨tw_1750, tw_12, tw_1753, by decide, cy_yX11_plan.1, cy_yX11_plan.2.1, cy_yX11_plan.2.2⟩, tw_1751, tw_1752⟩
theorem cy_yX10_undo : yX10_undo.cls ≠ "java/lang/invoke/MethodHandle" ∧ yX10_undo.cls ≠ "java/lang/invoke/VarHandle" ∧ (parseMethodDescriptor yX10_undo.desc).map (fun d => d.parameters.length) = some 0 := by decide +kernel
theorem cl_L_160 : CLV "DustParishLaw" 160 yX10_undo cX10_undo 1 (some .int) 0 := ⟨⟨tw_508, tw_1, tw_511, by decide, cy_yX10_undo.1, cy_yX10_undo.2.1, cy_yX10_undo.2.2⟩, tw_509, tw_510⟩
theorem cy_yX11_undo : yX11_undo.cls ≠ "java/lang/invoke/MethodHandle" ∧ yX11_undo.cls ≠ "java/lang/invoke/VarHandle" ∧ (parseMethodDescriptor yX11_undo.desc).map (fun d => d.parameters.length) = some 0 := by decide +kernel
theorem cl_L_163 : CLV "DustParishLaw" 163 yX11_undo cX11_undo 1 (some .int) 0 := ⟨⟨tw_1754, tw_12, tw_1757, by decide, cy_yX11_undo.1, cy_yX11_undo.2.1, cy_yX11_undo.2.2⟩, tw_1755, tw_1756⟩
theorem cy_yX11_then : yX11_then.cls ≠ "java/lang/invoke/MethodHandle" ∧ yX11_then.cls ≠ "java/lang/invoke/VarHandle" ∧ (parseMethodDescriptor yX11_then.desc).map (fun d => d.parameters.length) = some 2 := by decide +kernel
theorem cl_L_166 : CLV "DustParishLaw" 166 yX11_then cX11_then 4 (some .int) 2 := ⟨⟨tw_1762, tw_12, tw_1765, by decide, cy_yX11_then.1, cy_yX11_then.2.1, cy_yX11_then.2.2⟩, tw_1763, tw_1764⟩
theorem cy_yX11_taken : yX11_taken.cls ≠ "java/lang/invoke/MethodHandle" ∧ yX11_taken.cls ≠ "java/lang/invoke/VarHandle" ∧ (parseMethodDescriptor yX11_taken.desc).map (fun d => d.parameters.length) = some 1 := by decide +kernel
theorem cl_L_169 : CLV "DustParishLaw" 169 yX11_taken cX11_taken 2 (some .int) 1 := ⟨⟨tw_1769, tw_12, tw_1772, by decide, cy_yX11_taken.1, cy_yX11_taken.2.1, cy_yX11_taken.2.2⟩, tw_1770, tw_1771⟩
theorem cy_yX11_thick : yX11_thick.cls ≠ "java/lang/invoke/MethodHandle" ∧ yX11_thick.cls ≠ "java/lang/invoke/VarHandle" ∧ (parseMethodDescriptor yX11_thick.desc).map (fun d => d.parameters.length) = some 2 := by decide +kernel
theorem cl_L_172 : CLV "DustParishLaw" 172 yX11_thick cX11_thick 5 (some .int) 2 := ⟨⟨tw_1777, tw_12, tw_1780, by decide, cy_yX11_thick.1, cy_yX11_thick.2.1, cy_yX11_thick.2.2⟩, tw_1778, tw_1779⟩
theorem cy_yX10_heresy : yX10_heresy.cls ≠ "java/lang/invoke/MethodHandle" ∧ yX10_heresy.cls ≠ "java/lang/invoke/VarHandle" ∧ (parseMethodDescriptor yX10_heresy.desc).map (fun d => d.parameters.length) = some 0 := by decide +kernel
theorem cl_L_173 : CLV "DustParishLaw" 173 yX10_heresy cX10_heresy 2 (some .int) 0 := ⟨⟨tw_516, tw_1, tw_519, by decide, cy_yX10_heresy.1, cy_yX10_heresy.2.1, cy_yX10_heresy.2.2⟩, tw_517, tw_518⟩
theorem cy_yX11_heresy : yX11_heresy.cls ≠ "java/lang/invoke/MethodHandle" ∧ yX11_heresy.cls ≠ "java/lang/invoke/VarHandle" ∧ (parseMethodDescriptor yX11_heresy.desc).map (fun d => d.parameters.length) = some 0 := by decide +kernel
theorem cl_L_176 : CLV "DustParishLaw" 176 yX11_heresy cX11_heresy 3 (some .int) 0 := ⟨⟨tw_1781, tw_12, tw_1784, by decide, cy_yX11_heresy.1, cy_yX11_heresy.2.1, cy_yX11_heresy.2.2⟩, tw_1782, tw_1783⟩
theorem cy_yX11_order : yX11_order.cls ≠ "java/lang/invoke/MethodHandle" ∧ yX11_order.cls ≠ "java/lang/invoke/VarHandle" ∧ (parseMethodDescriptor yX11_order.desc).map (fun d => d.parameters.length) = some 2 := by decide +kernel
theorem cl_L_179 : CLV "DustParishLaw" 179 yX11_order cX11_order 3 (some .int) 2 := ⟨⟨tw_1785, tw_12, tw_1788, by decide, cy_yX11_order.1, cy_yX11_order.2.1, cy_yX11_order.2.2⟩, tw_1786, tw_1787⟩
theorem cy_yX10_alms : yX10_alms.cls ≠ "java/lang/invoke/MethodHandle" ∧ yX10_alms.cls ≠ "java/lang/invoke/VarHandle" ∧ (parseMethodDescriptor yX10_alms.desc).map (fun d => d.parameters.length) = some 0 := by decide +kernel
theorem cl_L_180 : CLV "DustParishLaw" 180 yX10_alms cX10_alms 3 (some .int) 0 := ⟨⟨tw_527, tw_1, tw_530, by decide, cy_yX10_alms.1, cy_yX10_alms.2.1, cy_yX10_alms.2.2⟩, tw_528, tw_529⟩
theorem cy_yX11_alms : yX11_alms.cls ≠ "java/lang/invoke/MethodHandle" ∧ yX11_alms.cls ≠ "java/lang/invoke/VarHandle" ∧ (parseMethodDescriptor yX11_alms.desc).map (fun d => d.parameters.length) = some 0 := by decide +kernel
theorem cl_L_183 : CLV "DustParishLaw" 183 yX11_alms cX11_alms 3 (some .int) 0 := ⟨⟨tw_1800, tw_12, tw_1803, by decide, cy_yX11_alms.1, cy_yX11_alms.2.1, cy_yX11_alms.2.2⟩, tw_1801, tw_1802⟩
theorem cy_yX11_round : yX11_round.cls ≠ "java/lang/invoke/MethodHandle" ∧ yX11_round.cls ≠ "java/lang/invoke/VarHandle" ∧ (parseMethodDescriptor yX11_round.desc).map (fun d => d.parameters.length) = some 2 := by decide +kernel
theorem cl_L_186 : CLV "DustParishLaw" 186 yX11_round cX11_round 9 (some .int) 2 := ⟨⟨tw_1804, tw_12, tw_1807, by decide, cy_yX11_round.1, cy_yX11_round.2.1, cy_yX11_round.2.2⟩, tw_1805, tw_1806⟩
theorem cy_yX11_shares : yX11_shares.cls ≠ "java/lang/invoke/MethodHandle" ∧ yX11_shares.cls ≠ "java/lang/invoke/VarHandle" ∧ (parseMethodDescriptor yX11_shares.desc).map (fun d => d.parameters.length) = some 1 := by decide +kernel
theorem cl_L_189 : CLV "DustParishLaw" 189 yX11_shares cX11_shares 3 (some .int) 1 := ⟨⟨tw_1808, tw_12, tw_1811, by decide, cy_yX11_shares.1, cy_yX11_shares.2.1, cy_yX11_shares.2.2⟩, tw_1809, tw_1810⟩
theorem cy_yX11_from : yX11_from.cls ≠ "java/lang/invoke/MethodHandle" ∧ yX11_from.cls ≠ "java/lang/invoke/VarHandle" ∧ (parseMethodDescriptor yX11_from.desc).map (fun d => d.parameters.length) = some 3 := by decide +kernel
theorem cl_L_192 : CLV "DustParishLaw" 192 yX11_from cX11_from 8 (some .int) 3 := ⟨⟨tw_1817, tw_12, tw_1820, by decide, cy_yX11_from.1, cy_yX11_from.2.1, cy_yX11_from.2.2⟩, tw_1818, tw_1819⟩
theorem cy_yX11_poorest : yX11_poorest.cls ≠ "java/lang/invoke/MethodHandle" ∧ yX11_poorest.cls ≠ "java/lang/invoke/VarHandle" ∧ (parseMethodDescriptor yX11_poorest.desc).map (fun d => d.parameters.length) = some 1 := by decide +kernel
theorem cl_L_195 : CLV "DustParishLaw" 195 yX11_poorest cX11_poorest 4 (some .int) 1 := ⟨⟨tw_1822, tw_12, tw_1825, by decide, cy_yX11_poorest.1, cy_yX11_poorest.2.1, cy_yX11_poorest.2.2⟩, tw_1823, tw_1824⟩
theorem cy_yX11_fullest : yX11_fullest.cls ≠ "java/lang/invoke/MethodHandle" ∧ yX11_fullest.cls ≠ "java/lang/invoke/VarHandle" ∧ (parseMethodDescriptor yX11_fullest.desc).map (fun d => d.parameters.length) = some 1 := by decide +kernel
theorem cl_L_198 : CLV "DustParishLaw" 198 yX11_fullest cX11_fullest 5 (some .int) 1 := ⟨⟨tw_1826, tw_12, tw_1829, by decide, cy_yX11_fullest.1, cy_yX11_fullest.2.1, cy_yX11_fullest.2.2⟩, tw_1827, tw_1828⟩
theorem cy_yX11_change : yX11_change.cls ≠ "java/lang/invoke/MethodHandle" ∧ yX11_change.cls ≠ "java/lang/invoke/VarHandle" ∧ (parseMethodDescriptor yX11_change.desc).map (fun d => d.parameters.length) = some 1 := by decide +kernel
theorem cl_L_201 : CLV "DustParishLaw" 201 yX11_change cX11_change 7 (some .int) 1 := ⟨⟨tw_1830, tw_12, tw_1833, by decide, cy_yX11_change.1, cy_yX11_change.2.1, cy_yX11_change.2.2⟩, tw_1831, tw_1832⟩
theorem cy_yX11_lend : yX11_lend.cls ≠ "java/lang/invoke/MethodHandle" ∧ yX11_lend.cls ≠ "java/lang/invoke/VarHandle" ∧ (parseMethodDescriptor yX11_lend.desc).map (fun d => d.parameters.length) = some 1 := by decide +kernel
theorem cl_L_204 : CLV "DustParishLaw" 204 yX11_lend cX11_lend 4 (some .int) 1 := ⟨⟨tw_1838, tw_12, tw_1841, by decide, cy_yX11_lend.1, cy_yX11_lend.2.1, cy_yX11_lend.2.2⟩, tw_1839, tw_1840⟩
theorem cy_yX11_often : yX11_often.cls ≠ "java/lang/invoke/MethodHandle" ∧ yX11_often.cls ≠ "java/lang/invoke/VarHandle" ∧ (parseMethodDescriptor yX11_often.desc).map (fun d => d.parameters.length) = some 1 := by decide +kernel
theorem cl_L_207 : CLV "DustParishLaw" 207 yX11_often cX11_often 6 (some .int) 1 := ⟨⟨tw_1842, tw_12, tw_1845, by decide, cy_yX11_often.1, cy_yX11_often.2.1, cy_yX11_often.2.2⟩, tw_1843, tw_1844⟩
theorem cy_yX11_riches : yX11_riches.cls ≠ "java/lang/invoke/MethodHandle" ∧ yX11_riches.cls ≠ "java/lang/invoke/VarHandle" ∧ (parseMethodDescriptor yX11_riches.desc).map (fun d => d.parameters.length) = some 1 := by decide +kernel
theorem cl_L_210 : CLV "DustParishLaw" 210 yX11_riches cX11_riches 4 (some .int) 1 := ⟨⟨tw_1846, tw_12, tw_1849, by decide, cy_yX11_riches.1, cy_yX11_riches.2.1, cy_yX11_riches.2.2⟩, tw_1847, tw_1848⟩
theorem cy_yX11_lost : yX11_lost.cls ≠ "java/lang/invoke/MethodHandle" ∧ yX11_lost.cls ≠ "java/lang/invoke/VarHandle" ∧ (parseMethodDescriptor yX11_lost.desc).map (fun d => d.parameters.length) = some 1 := by decide +kernel
theorem cl_L_213 : CLV "DustParishLaw" 213 yX11_lost cX11_lost 5 (some .int) 1 := ⟨⟨tw_1851, tw_12, tw_1854, by decide, cy_yX11_lost.1, cy_yX11_lost.2.1, cy_yX11_lost.2.2⟩, tw_1852, tw_1853⟩
theorem cy_yX11_see : yX11_see.cls ≠ "java/lang/invoke/MethodHandle" ∧ yX11_see.cls ≠ "java/lang/invoke/VarHandle" ∧ (parseMethodDescriptor yX11_see.desc).map (fun d => d.parameters.length) = some 3 := by decide +kernel
theorem cl_L_216 : CLV "DustParishLaw" 216 yX11_see cX11_see 4 (some .int) 3 := ⟨⟨tw_1855, tw_12, tw_1858, by decide, cy_yX11_see.1, cy_yX11_see.2.1, cy_yX11_see.2.2⟩, tw_1856, tw_1857⟩
theorem cy_yX11_hand : yX11_hand.cls ≠ "java/lang/invoke/MethodHandle" ∧ yX11_hand.cls ≠ "java/lang/invoke/VarHandle" ∧ (parseMethodDescriptor yX11_hand.desc).map (fun d => d.parameters.length) = some 1 := by decide +kernel
theorem cl_L_219 : CLV "DustParishLaw" 219 yX11_hand cX11_hand 7 (some .int) 1 := ⟨⟨tw_1859, tw_12, tw_1862, by decide, cy_yX11_hand.1, cy_yX11_hand.2.1, cy_yX11_hand.2.2⟩, tw_1860, tw_1861⟩
theorem cy_yX10_forget : yX10_forget.cls ≠ "java/lang/invoke/MethodHandle" ∧ yX10_forget.cls ≠ "java/lang/invoke/VarHandle" ∧ (parseMethodDescriptor yX10_forget.desc).map (fun d => d.parameters.length) = some 0 := by decide +kernel
theorem cl_L_220 : CLV "DustParishLaw" 220 yX10_forget cX10_forget 1 none 0 := ⟨⟨tw_532, tw_1, tw_535, by decide, cy_yX10_forget.1, cy_yX10_forget.2.1, cy_yX10_forget.2.2⟩, tw_533, tw_534⟩
theorem cy_yX11_forget : yX11_forget.cls ≠ "java/lang/invoke/MethodHandle" ∧ yX11_forget.cls ≠ "java/lang/invoke/VarHandle" ∧ (parseMethodDescriptor yX11_forget.desc).map (fun d => d.parameters.length) = some 0 := by decide +kernel
theorem cl_L_223 : CLV "DustParishLaw" 223 yX11_forget cX11_forget 1 none 0 := ⟨⟨tw_1867, tw_12, tw_1870, by decide, cy_yX11_forget.1, cy_yX11_forget.2.1, cy_yX11_forget.2.2⟩, tw_1868, tw_1869⟩
theorem cy_yX11_game : yX11_game.cls ≠ "java/lang/invoke/MethodHandle" ∧ yX11_game.cls ≠ "java/lang/invoke/VarHandle" ∧ (parseMethodDescriptor yX11_game.desc).map (fun d => d.parameters.length) = some 3 := by decide +kernel
theorem cl_L_226 : CLV "DustParishLaw" 226 yX11_game cX11_game 11 (some .int) 3 := ⟨⟨tw_1871, tw_12, tw_1874, by decide, cy_yX11_game.1, cy_yX11_game.2.1, cy_yX11_game.2.2⟩, tw_1872, tw_1873⟩
theorem cy_yX11_years : yX11_years.cls ≠ "java/lang/invoke/MethodHandle" ∧ yX11_years.cls ≠ "java/lang/invoke/VarHandle" ∧ (parseMethodDescriptor yX11_years.desc).map (fun d => d.parameters.length) = some 3 := by decide +kernel
theorem cl_L_229 : CLV "DustParishLaw" 229 yX11_years cX11_years 8 (some .int) 3 := ⟨⟨tw_1883, tw_12, tw_1886, by decide, cy_yX11_years.1, cy_yX11_years.2.1, cy_yX11_years.2.2⟩, tw_1884, tw_1885⟩
theorem cy_yX10_image : yX10_image.cls ≠ "java/lang/invoke/MethodHandle" ∧ yX10_image.cls ≠ "java/lang/invoke/VarHandle" ∧ (parseMethodDescriptor yX10_image.desc).map (fun d => d.parameters.length) = some 0 := by decide +kernel
theorem cl_L_230 : CLV "DustParishLaw" 230 yX10_image cX10_image 1 none 0 := ⟨⟨tw_536, tw_1, tw_539, by decide, cy_yX10_image.1, cy_yX10_image.2.1, cy_yX10_image.2.2⟩, tw_537, tw_538⟩
theorem cy_yX11_image : yX11_image.cls ≠ "java/lang/invoke/MethodHandle" ∧ yX11_image.cls ≠ "java/lang/invoke/VarHandle" ∧ (parseMethodDescriptor yX11_image.desc).map (fun d => d.parameters.length) = some 0 := by decide +kernel
theorem cl_L_233 : CLV "DustParishLaw" 233 yX11_image cX11_image 1 none 0 := ⟨⟨tw_1901, tw_12, tw_1904, by decide, cy_yX11_image.1, cy_yX11_image.2.1, cy_yX11_image.2.2⟩, tw_1902, tw_1903⟩
theorem cy_yX10_restore : yX10_restore.cls ≠ "java/lang/invoke/MethodHandle" ∧ yX10_restore.cls ≠ "java/lang/invoke/VarHandle" ∧ (parseMethodDescriptor yX10_restore.desc).map (fun d => d.parameters.length) = some 0 := by decide +kernel
theorem cl_L_234 : CLV "DustParishLaw" 234 yX10_restore cX10_restore 1 (some .boolean) 0 := ⟨⟨tw_555, tw_1, tw_558, by decide, cy_yX10_restore.1, cy_yX10_restore.2.1, cy_yX10_restore.2.2⟩, tw_556, tw_557⟩
theorem cy_yX11_restore : yX11_restore.cls ≠ "java/lang/invoke/MethodHandle" ∧ yX11_restore.cls ≠ "java/lang/invoke/VarHandle" ∧ (parseMethodDescriptor yX11_restore.desc).map (fun d => d.parameters.length) = some 0 := by decide +kernel
theorem cl_L_238 : CLV "DustParishLaw" 238 yX11_restore cX11_restore 1 (some .boolean) 0 := ⟨⟨tw_1908, tw_12, tw_1911, by decide, cy_yX11_restore.1, cy_yX11_restore.2.1, cy_yX11_restore.2.2⟩, tw_1909, tw_1910⟩
theorem cy_yX11_isIn : yX11_isIn.cls ≠ "java/lang/invoke/MethodHandle" ∧ yX11_isIn.cls ≠ "java/lang/invoke/VarHandle" ∧ (parseMethodDescriptor yX11_isIn.desc).map (fun d => d.parameters.length) = some 3 := by decide +kernel
theorem cl_X11_160 : CLS "DustParishModel" 160 yX11_isIn cX11_isIn 6 (some .boolean) 3 := ⟨⟨tw_1634, tw_12, tw_1636, by decide, cy_yX11_isIn.1, cy_yX11_isIn.2.1, cy_yX11_isIn.2.2⟩, tw_1635⟩
theorem cy_yX11_byteAt : yX11_byteAt.cls ≠ "java/lang/invoke/MethodHandle" ∧ yX11_byteAt.cls ≠ "java/lang/invoke/VarHandle" ∧ (parseMethodDescriptor yX11_byteAt.desc).map (fun d => d.parameters.length) = some 1 := by decide +kernel
theorem cl_X11_175 : CLV "DustParishModel" 175 yX11_byteAt cX11_byteAt 2 (some .int) 1 := ⟨⟨tw_1479, tw_12, tw_1482, by decide, cy_yX11_byteAt.1, cy_yX11_byteAt.2.1, cy_yX11_byteAt.2.2⟩, tw_1481, ts_yX11_byteAt⟩
theorem cy_yX11_isLetter : yX11_isLetter.cls ≠ "java/lang/invoke/MethodHandle" ∧ yX11_isLetter.cls ≠ "java/lang/invoke/VarHandle" ∧ (parseMethodDescriptor yX11_isLetter.desc).map (fun d => d.parameters.length) = some 1 := by decide +kernel
theorem cl_X11_185 : CLS "DustParishModel" 185 yX11_isLetter cX11_isLetter 1 (some .boolean) 1 := ⟨⟨tw_1483, tw_12, tw_1485, by decide, cy_yX11_isLetter.1, cy_yX11_isLetter.2.1, cy_yX11_isLetter.2.2⟩, tw_1484⟩
theorem cy_yX11_isDigit : yX11_isDigit.cls ≠ "java/lang/invoke/MethodHandle" ∧ yX11_isDigit.cls ≠ "java/lang/invoke/VarHandle" ∧ (parseMethodDescriptor yX11_isDigit.desc).map (fun d => d.parameters.length) = some 1 := by decide +kernel
theorem cl_X11_189 : CLS "DustParishModel" 189 yX11_isDigit cX11_isDigit 1 (some .boolean) 1 := ⟨⟨tw_1486, tw_12, tw_1488, by decide, cy_yX11_isDigit.1, cy_yX11_isDigit.2.1, cy_yX11_isDigit.2.2⟩, tw_1487⟩
theorem cy_yX11_isMark : yX11_isMark.cls ≠ "java/lang/invoke/MethodHandle" ∧ yX11_isMark.cls ≠ "java/lang/invoke/VarHandle" ∧ (parseMethodDescriptor yX11_isMark.desc).map (fun d => d.parameters.length) = some 1 := by decide +kernel
theorem cl_X11_202 : CLS "DustParishModel" 202 yX11_isMark cX11_isMark 1 (some .boolean) 1 := ⟨⟨tw_1491, tw_12, tw_1493, by decide, cy_yX11_isMark.1, cy_yX11_isMark.2.1, cy_yX11_isMark.2.2⟩, tw_1492⟩
theorem cl_X11_214 : CLV "DustParishModel" 214 yJ0_length_8abf5 cJ0_length_8abf5 1 (some .int) 0 := ⟨⟨tw_1503, tw_18, tw_674, by decide, cy_yJ0_length_8abf5.1, cy_yJ0_length_8abf5.2.1, cy_yJ0_length_8abf5.2.2⟩, tw_672, tw_673⟩
theorem cl_X11_218 : CLV "DustParishModel" 218 yJ0_charAt_5068e cJ0_charAt_5068e 2 (some .char) 1 := ⟨⟨tw_1504, tw_18, tw_752, by decide, cy_yJ0_charAt_5068e.1, cy_yJ0_charAt_5068e.2.1, cy_yJ0_charAt_5068e.2.2⟩, tw_750, tw_751⟩
theorem cy_yX11_is : yX11_is.cls ≠ "java/lang/invoke/MethodHandle" ∧ yX11_is.cls ≠ "java/lang/invoke/VarHandle" ∧ (parseMethodDescriptor yX11_is.desc).map (fun d => d.parameters.length) = some 1 := by decide +kernel
theorem cl_X11_222 : CLV "DustParishModel" 222 yX11_is cX11_is 4 (some .boolean) 1 := ⟨⟨tw_1499, tw_12, tw_1502, by decide, cy_yX11_is.1, cy_yX11_is.2.1, cy_yX11_is.2.2⟩, tw_1501, ts_yX11_is⟩
theorem cy_yX11_isMarked : yX11_isMarked.cls ≠ "java/lang/invoke/MethodHandle" ∧ yX11_isMarked.cls ≠ "java/lang/invoke/VarHandle" ∧ (parseMethodDescriptor yX11_isMarked.desc).map (fun d => d.parameters.length) = some 1 := by decide +kernel
theorem cl_X11_226 : CLV "DustParishModel" 226 yX11_isMarked cX11_isMarked 2 (some .boolean) 1 := ⟨⟨tw_1532, tw_12, tw_1535, by decide, cy_yX11_isMarked.1, cy_yX11_isMarked.2.1, cy_yX11_isMarked.2.2⟩, tw_1534, ts_yX11_isMarked⟩
theorem cy_yX11_wrong : yX11_wrong.cls ≠ "java/lang/invoke/MethodHandle" ∧ yX11_wrong.cls ≠ "java/lang/invoke/VarHandle" ∧ (parseMethodDescriptor yX11_wrong.desc).map (fun d => d.parameters.length) = some 1 := by decide +kernel
theorem cl_X11_229 : CLV "DustParishModel" 229 yX11_wrong cX11_wrong 2 none 1 := ⟨⟨tw_1512, tw_12, tw_1515, by decide, cy_yX11_wrong.1, cy_yX11_wrong.2.1, cy_yX11_wrong.2.2⟩, tw_1514, ts_yX11_wrong⟩
theorem cy_yX11_stepOn : yX11_stepOn.cls ≠ "java/lang/invoke/MethodHandle" ∧ yX11_stepOn.cls ≠ "java/lang/invoke/VarHandle" ∧ (parseMethodDescriptor yX11_stepOn.desc).map (fun d => d.parameters.length) = some 0 := by decide +kernel
theorem cl_X11_233 : CLV "DustParishModel" 233 yX11_stepOn cX11_stepOn 2 none 0 := ⟨⟨tw_1475, tw_12, tw_1478, by decide, cy_yX11_stepOn.1, cy_yX11_stepOn.2.1, cy_yX11_stepOn.2.2⟩, tw_1477, ts_yX11_stepOn⟩
theorem cy_yX11_numberNow : yX11_numberNow.cls ≠ "java/lang/invoke/MethodHandle" ∧ yX11_numberNow.cls ≠ "java/lang/invoke/VarHandle" ∧ (parseMethodDescriptor yX11_numberNow.desc).map (fun d => d.parameters.length) = some 2 := by decide +kernel
theorem cl_X11_236 : CLV "DustParishModel" 236 yX11_numberNow cX11_numberNow 3 (some .int) 2 := ⟨⟨tw_1520, tw_12, tw_1523, by decide, cy_yX11_numberNow.1, cy_yX11_numberNow.2.1, cy_yX11_numberNow.2.2⟩, tw_1522, ts_yX11_numberNow⟩
theorem cy_yX11_roomNow : yX11_roomNow.cls ≠ "java/lang/invoke/MethodHandle" ∧ yX11_roomNow.cls ≠ "java/lang/invoke/VarHandle" ∧ (parseMethodDescriptor yX11_roomNow.desc).map (fun d => d.parameters.length) = some 0 := by decide +kernel
theorem cl_X11_239 : CLV "DustParishModel" 239 yX11_roomNow cX11_roomNow 2 (some .int) 0 := ⟨⟨tw_1584, tw_12, tw_1587, by decide, cy_yX11_roomNow.1, cy_yX11_roomNow.2.1, cy_yX11_roomNow.2.2⟩, tw_1586, ts_yX11_roomNow⟩
theorem cy_yX11_readNumber : yX11_readNumber.cls ≠ "java/lang/invoke/MethodHandle" ∧ yX11_readNumber.cls ≠ "java/lang/invoke/VarHandle" ∧ (parseMethodDescriptor yX11_readNumber.desc).map (fun d => d.parameters.length) = some 2 := by decide +kernel
theorem cl_X11_242 : CLV "DustParishModel" 242 yX11_readNumber cX11_readNumber 4 (some .int) 2 := ⟨⟨tw_1524, tw_12, tw_1527, by decide, cy_yX11_readNumber.1, cy_yX11_readNumber.2.1, cy_yX11_readNumber.2.2⟩, tw_1526, ts_yX11_readNumber⟩
theorem cy_yX11_lay : yX11_lay.cls ≠ "java/lang/invoke/MethodHandle" ∧ yX11_lay.cls ≠ "java/lang/invoke/VarHandle" ∧ (parseMethodDescriptor yX11_lay.desc).map (fun d => d.parameters.length) = some 1 := by decide +kernel
theorem cl_X11_245 : CLV "DustParishModel" 245 yX11_lay cX11_lay 2 none 1 := ⟨⟨tw_1557, tw_12, tw_1560, by decide, cy_yX11_lay.1, cy_yX11_lay.2.1, cy_yX11_lay.2.2⟩, tw_1559, ts_yX11_lay⟩
theorem cy_yX11_which : yX11_which.cls ≠ "java/lang/invoke/MethodHandle" ∧ yX11_which.cls ≠ "java/lang/invoke/VarHandle" ∧ (parseMethodDescriptor yX11_which.desc).map (fun d => d.parameters.length) = some 1 := by decide +kernel
theorem cl_X11_248 : CLV "DustParishModel" 248 yX11_which cX11_which 3 (some .int) 1 := ⟨⟨tw_1508, tw_12, tw_1511, by decide, cy_yX11_which.1, cy_yX11_which.2.1, cy_yX11_which.2.2⟩, tw_1510, ts_yX11_which⟩
theorem cy_yX11_mark : yX11_mark.cls ≠ "java/lang/invoke/MethodHandle" ∧ yX11_mark.cls ≠ "java/lang/invoke/VarHandle" ∧ (parseMethodDescriptor yX11_mark.desc).map (fun d => d.parameters.length) = some 1 := by decide +kernel
theorem cl_X11_252 : CLV "DustParishModel" 252 yX11_mark cX11_mark 2 none 1 := ⟨⟨tw_1561, tw_12, tw_1564, by decide, cy_yX11_mark.1, cy_yX11_mark.2.1, cy_yX11_mark.2.2⟩, tw_1563, ts_yX11_mark⟩
theorem cy_yX11_readExpression : yX11_readExpression.cls ≠ "java/lang/invoke/MethodHandle" ∧ yX11_readExpression.cls ≠ "java/lang/invoke/VarHandle" ∧ (parseMethodDescriptor yX11_readExpression.desc).map (fun d => d.parameters.length) = some 1 := by decide +kernel
theorem cl_X11_255 : CLV "DustParishModel" 255 yX11_readExpression cX11_readExpression 3 none 1 := ⟨⟨tw_1528, tw_12, tw_1531, by decide, cy_yX11_readExpression.1, cy_yX11_readExpression.2.1, cy_yX11_readExpression.2.2⟩, tw_1530, ts_yX11_readExpression⟩
theorem cy_yX11_readPart : yX11_readPart.cls ≠ "java/lang/invoke/MethodHandle" ∧ yX11_readPart.cls ≠ "java/lang/invoke/VarHandle" ∧ (parseMethodDescriptor yX11_readPart.desc).map (fun d => d.parameters.length) = some 1 := by decide +kernel
theorem cl_X11_258 : CLV "DustParishModel" 258 yX11_readPart cX11_readPart 3 none 1 := ⟨⟨tw_1553, tw_12, tw_1556, by decide, cy_yX11_readPart.1, cy_yX11_readPart.2.1, cy_yX11_readPart.2.2⟩, tw_1555, ts_yX11_readPart⟩
theorem cy_yX11_readProduct : yX11_readProduct.cls ≠ "java/lang/invoke/MethodHandle" ∧ yX11_readProduct.cls ≠ "java/lang/invoke/VarHandle" ∧ (parseMethodDescriptor yX11_readProduct.desc).map (fun d => d.parameters.length) = some 1 := by decide +kernel
theorem cl_X11_261 : CLV "DustParishModel" 261 yX11_readProduct cX11_readProduct 3 none 1 := ⟨⟨tw_1549, tw_12, tw_1552, by decide, cy_yX11_readProduct.1, cy_yX11_readProduct.2.1, cy_yX11_readProduct.2.2⟩, tw_1551, ts_yX11_readProduct⟩
theorem cy_yX11_readSum : yX11_readSum.cls ≠ "java/lang/invoke/MethodHandle" ∧ yX11_readSum.cls ≠ "java/lang/invoke/VarHandle" ∧ (parseMethodDescriptor yX11_readSum.desc).map (fun d => d.parameters.length) = some 1 := by decide +kernel
theorem cl_X11_266 : CLV "DustParishModel" 266 yX11_readSum cX11_readSum 3 none 1 := ⟨⟨tw_1545, tw_12, tw_1548, by decide, cy_yX11_readSum.1, cy_yX11_readSum.2.1, cy_yX11_readSum.2.2⟩, tw_1547, ts_yX11_readSum⟩
theorem cy_yX11_readNot : yX11_readNot.cls ≠ "java/lang/invoke/MethodHandle" ∧ yX11_readNot.cls ≠ "java/lang/invoke/VarHandle" ∧ (parseMethodDescriptor yX11_readNot.desc).map (fun d => d.parameters.length) = some 1 := by decide +kernel
theorem cl_X11_269 : CLV "DustParishModel" 269 yX11_readNot cX11_readNot 4 none 1 := ⟨⟨tw_1540, tw_12, tw_1543, by decide, cy_yX11_readNot.1, cy_yX11_readNot.2.1, cy_yX11_readNot.2.2⟩, tw_1542, ts_yX11_readNot⟩
theorem cy_yX11_readAnd : yX11_readAnd.cls ≠ "java/lang/invoke/MethodHandle" ∧ yX11_readAnd.cls ≠ "java/lang/invoke/VarHandle" ∧ (parseMethodDescriptor yX11_readAnd.desc).map (fun d => d.parameters.length) = some 1 := by decide +kernel
theorem cl_X11_274 : CLV "DustParishModel" 274 yX11_readAnd cX11_readAnd 2 none 1 := ⟨⟨tw_1536, tw_12, tw_1539, by decide, cy_yX11_readAnd.1, cy_yX11_readAnd.2.1, cy_yX11_readAnd.2.2⟩, tw_1538, ts_yX11_readAnd⟩
theorem cy_yX11_another : yX11_another.cls ≠ "java/lang/invoke/MethodHandle" ∧ yX11_another.cls ≠ "java/lang/invoke/VarHandle" ∧ (parseMethodDescriptor yX11_another.desc).map (fun d => d.parameters.length) = some 2 := by decide +kernel
theorem cl_X11_279 : CLV "DustParishModel" 279 yX11_another cX11_another 3 (some .boolean) 2 := ⟨⟨tw_1571, tw_12, tw_1574, by decide, cy_yX11_another.1, cy_yX11_another.2.1, cy_yX11_another.2.2⟩, tw_1573, ts_yX11_another⟩
theorem cy_yX11_readRoom : yX11_readRoom.cls ≠ "java/lang/invoke/MethodHandle" ∧ yX11_readRoom.cls ≠ "java/lang/invoke/VarHandle" ∧ (parseMethodDescriptor yX11_readRoom.desc).map (fun d => d.parameters.length) = some 0 := by decide +kernel
theorem cl_X11_283 : CLV "DustParishModel" 283 yX11_readRoom cX11_readRoom 2 (some .int) 0 := ⟨⟨tw_1580, tw_12, tw_1583, by decide, cy_yX11_readRoom.1, cy_yX11_readRoom.2.1, cy_yX11_readRoom.2.2⟩, tw_1582, ts_yX11_readRoom⟩
theorem cy_yX11_isDoor : yX11_isDoor.cls ≠ "java/lang/invoke/MethodHandle" ∧ yX11_isDoor.cls ≠ "java/lang/invoke/VarHandle" ∧ (parseMethodDescriptor yX11_isDoor.desc).map (fun d => d.parameters.length) = some 2 := by decide +kernel
theorem cl_X11_286 : CLV "DustParishModel" 286 yX11_isDoor cX11_isDoor 4 (some .boolean) 2 := ⟨⟨tw_1588, tw_12, tw_1591, by decide, cy_yX11_isDoor.1, cy_yX11_isDoor.2.1, cy_yX11_isDoor.2.2⟩, tw_1590, ts_yX11_isDoor⟩
theorem cy_yX11_sayCalendar : yX11_sayCalendar.cls ≠ "java/lang/invoke/MethodHandle" ∧ yX11_sayCalendar.cls ≠ "java/lang/invoke/VarHandle" ∧ (parseMethodDescriptor yX11_sayCalendar.desc).map (fun d => d.parameters.length) = some 0 := by decide +kernel
theorem cl_X11_299 : CLV "DustParishModel" 299 yX11_sayCalendar cX11_sayCalendar 3 none 0 := ⟨⟨tw_1516, tw_12, tw_1519, by decide, cy_yX11_sayCalendar.1, cy_yX11_sayCalendar.2.1, cy_yX11_sayCalendar.2.2⟩, tw_1518, ts_yX11_sayCalendar⟩
theorem cy_yX11_sayRoom : yX11_sayRoom.cls ≠ "java/lang/invoke/MethodHandle" ∧ yX11_sayRoom.cls ≠ "java/lang/invoke/VarHandle" ∧ (parseMethodDescriptor yX11_sayRoom.desc).map (fun d => d.parameters.length) = some 1 := by decide +kernel
theorem cl_X11_302 : CLV "DustParishModel" 302 yX11_sayRoom cX11_sayRoom 3 none 1 := ⟨⟨tw_1567, tw_12, tw_1570, by decide, cy_yX11_sayRoom.1, cy_yX11_sayRoom.2.1, cy_yX11_sayRoom.2.2⟩, tw_1569, ts_yX11_sayRoom⟩
theorem cy_yX11_sayDoor : yX11_sayDoor.cls ≠ "java/lang/invoke/MethodHandle" ∧ yX11_sayDoor.cls ≠ "java/lang/invoke/VarHandle" ∧ (parseMethodDescriptor yX11_sayDoor.desc).map (fun d => d.parameters.length) = some 0 := by decide +kernel
theorem cl_X11_307 : CLV "DustParishModel" 307 yX11_sayDoor cX11_sayDoor 4 none 0 := ⟨⟨tw_1576, tw_12, tw_1579, by decide, cy_yX11_sayDoor.1, cy_yX11_sayDoor.2.1, cy_yX11_sayDoor.2.2⟩, tw_1578, ts_yX11_sayDoor⟩
theorem cy_yX11_sayWind : yX11_sayWind.cls ≠ "java/lang/invoke/MethodHandle" ∧ yX11_sayWind.cls ≠ "java/lang/invoke/VarHandle" ∧ (parseMethodDescriptor yX11_sayWind.desc).map (fun d => d.parameters.length) = some 0 := by decide +kernel
theorem cl_X11_312 : CLV "DustParishModel" 312 yX11_sayWind cX11_sayWind 1 none 0 := ⟨⟨tw_1593, tw_12, tw_1596, by decide, cy_yX11_sayWind.1, cy_yX11_sayWind.2.1, cy_yX11_sayWind.2.2⟩, tw_1595, ts_yX11_sayWind⟩
theorem cy_yX11_sayBlow : yX11_sayBlow.cls ≠ "java/lang/invoke/MethodHandle" ∧ yX11_sayBlow.cls ≠ "java/lang/invoke/VarHandle" ∧ (parseMethodDescriptor yX11_sayBlow.desc).map (fun d => d.parameters.length) = some 0 := by decide +kernel
theorem cl_X11_317 : CLV "DustParishModel" 317 yX11_sayBlow cX11_sayBlow 5 none 0 := ⟨⟨tw_1598, tw_12, tw_1601, by decide, cy_yX11_sayBlow.1, cy_yX11_sayBlow.2.1, cy_yX11_sayBlow.2.2⟩, tw_1600, ts_yX11_sayBlow⟩
theorem cy_yX11_fail : yX11_fail.cls ≠ "java/lang/invoke/MethodHandle" ∧ yX11_fail.cls ≠ "java/lang/invoke/VarHandle" ∧ (parseMethodDescriptor yX11_fail.desc).map (fun d => d.parameters.length) = some 1 := by decide +kernel
theorem cl_X11_320 : CLV "DustParishModel" 320 yX11_fail cX11_fail 2 (some .int) 1 := ⟨⟨tw_1471, tw_12, tw_1474, by decide, cy_yX11_fail.1, cy_yX11_fail.2.1, cy_yX11_fail.2.2⟩, tw_1473, ts_yX11_fail⟩
theorem cy_yX11_readLine : yX11_readLine.cls ≠ "java/lang/invoke/MethodHandle" ∧ yX11_readLine.cls ≠ "java/lang/invoke/VarHandle" ∧ (parseMethodDescriptor yX11_readLine.desc).map (fun d => d.parameters.length) = some 1 := by decide +kernel
theorem cl_X11_323 : CLV "DustParishModel" 323 yX11_readLine cX11_readLine 4 (some .int) 1 := ⟨⟨tw_1494, tw_12, tw_1497, by decide, cy_yX11_readLine.1, cy_yX11_readLine.2.1, cy_yX11_readLine.2.2⟩, tw_1496, ts_yX11_readLine⟩
theorem cy_yX11_takeOver : yX11_takeOver.cls ≠ "java/lang/invoke/MethodHandle" ∧ yX11_takeOver.cls ≠ "java/lang/invoke/VarHandle" ∧ (parseMethodDescriptor yX11_takeOver.desc).map (fun d => d.parameters.length) = some 0 := by decide +kernel
theorem cl_X11_326 : CLV "DustParishModel" 326 yX11_takeOver cX11_takeOver 2 none 0 := ⟨⟨tw_1603, tw_12, tw_1606, by decide, cy_yX11_takeOver.1, cy_yX11_takeOver.2.1, cy_yX11_takeOver.2.2⟩, tw_1605, ts_yX11_takeOver⟩
theorem cy_yX11_takeHalf : yX11_takeHalf.cls ≠ "java/lang/invoke/MethodHandle" ∧ yX11_takeHalf.cls ≠ "java/lang/invoke/VarHandle" ∧ (parseMethodDescriptor yX11_takeHalf.desc).map (fun d => d.parameters.length) = some 1 := by decide +kernel
theorem cl_X11_329 : CLS "DustParishModel" 329 yX11_takeHalf cX11_takeHalf 2 none 1 := ⟨⟨tw_1607, tw_12, tw_1609, by decide, cy_yX11_takeHalf.1, cy_yX11_takeHalf.2.1, cy_yX11_takeHalf.2.2⟩, tw_1608⟩
theorem cy_yX11_reckon : yX11_reckon.cls ≠ "java/lang/invoke/MethodHandle" ∧ yX11_reckon.cls ≠ "java/lang/invoke/VarHandle" ∧ (parseMethodDescriptor yX11_reckon.desc).map (fun d => d.parameters.length) = some 3 := by decide +kernel
theorem cl_X11_351 : CLS "DustParishModel" 351 yX11_reckon cX11_reckon 3 (some .int) 3 := ⟨⟨tw_1645, tw_12, tw_1647, by decide, cy_yX11_reckon.1, cy_yX11_reckon.2.1, cy_yX11_reckon.2.2⟩, tw_1646⟩
theorem cy_yX11_valueNow : yX11_valueNow.cls ≠ "java/lang/invoke/MethodHandle" ∧ yX11_valueNow.cls ≠ "java/lang/invoke/VarHandle" ∧ (parseMethodDescriptor yX11_valueNow.desc).map (fun d => d.parameters.length) = some 0 := by decide +kernel
theorem cl_X11_355 : CLV "DustParishModel" 355 yX11_valueNow cX11_valueNow 4 (some .int) 0 := ⟨⟨tw_1641, tw_12, tw_1644, by decide, cy_yX11_valueNow.1, cy_yX11_valueNow.2.1, cy_yX11_valueNow.2.2⟩, tw_1643, ts_yX11_valueNow⟩
theorem cy_yX11_lays : yX11_lays.cls ≠ "java/lang/invoke/MethodHandle" ∧ yX11_lays.cls ≠ "java/lang/invoke/VarHandle" ∧ (parseMethodDescriptor yX11_lays.desc).map (fun d => d.parameters.length) = some 2 := by decide +kernel
theorem cl_X11_358 : CLV "DustParishModel" 358 yX11_lays cX11_lays 3 none 2 := ⟨⟨tw_1712, tw_12, tw_1715, by decide, cy_yX11_lays.1, cy_yX11_lays.2.1, cy_yX11_lays.2.2⟩, tw_1714, ts_yX11_lays⟩
theorem cy_yX11_tithe : yX11_tithe.cls ≠ "java/lang/invoke/MethodHandle" ∧ yX11_tithe.cls ≠ "java/lang/invoke/VarHandle" ∧ (parseMethodDescriptor yX11_tithe.desc).map (fun d => d.parameters.length) = some 1 := by decide +kernel
theorem cl_X11_362 : CLV "DustParishModel" 362 yX11_tithe cX11_tithe 4 (some .int) 1 := ⟨⟨tw_1637, tw_12, tw_1640, by decide, cy_yX11_tithe.1, cy_yX11_tithe.2.1, cy_yX11_tithe.2.2⟩, tw_1639, ts_yX11_tithe⟩
theorem cy_yX11_settle : yX11_settle.cls ≠ "java/lang/invoke/MethodHandle" ∧ yX11_settle.cls ≠ "java/lang/invoke/VarHandle" ∧ (parseMethodDescriptor yX11_settle.desc).map (fun d => d.parameters.length) = some 0 := by decide +kernel
theorem cl_X11_364 : CLV "DustParishModel" 364 yX11_settle cX11_settle 2 none 0 := ⟨⟨tw_1708, tw_12, tw_1711, by decide, cy_yX11_settle.1, cy_yX11_settle.2.1, cy_yX11_settle.2.2⟩, tw_1710, ts_yX11_settle⟩
theorem cy_yX11_blows : yX11_blows.cls ≠ "java/lang/invoke/MethodHandle" ∧ yX11_blows.cls ≠ "java/lang/invoke/VarHandle" ∧ (parseMethodDescriptor yX11_blows.desc).map (fun d => d.parameters.length) = some 1 := by decide +kernel
theorem cl_X11_367 : CLV "DustParishModel" 367 yX11_blows cX11_blows 4 none 1 := ⟨⟨tw_1716, tw_12, tw_1719, by decide, cy_yX11_blows.1, cy_yX11_blows.2.1, cy_yX11_blows.2.2⟩, tw_1718, ts_yX11_blows⟩
theorem cy_yX11_church : yX11_church.cls ≠ "java/lang/invoke/MethodHandle" ∧ yX11_church.cls ≠ "java/lang/invoke/VarHandle" ∧ (parseMethodDescriptor yX11_church.desc).map (fun d => d.parameters.length) = some 0 := by decide +kernel
theorem cl_X11_369 : CLV "DustParishModel" 369 yX11_church cX11_church 2 none 0 := ⟨⟨tw_1720, tw_12, tw_1723, by decide, cy_yX11_church.1, cy_yX11_church.2.1, cy_yX11_church.2.2⟩, tw_1722, ts_yX11_church⟩
theorem cy_yX11_windOf : yX11_windOf.cls ≠ "java/lang/invoke/MethodHandle" ∧ yX11_windOf.cls ≠ "java/lang/invoke/VarHandle" ∧ (parseMethodDescriptor yX11_windOf.desc).map (fun d => d.parameters.length) = some 1 := by decide +kernel
theorem cl_X11_372 : CLV "DustParishModel" 372 yX11_windOf cX11_windOf 2 (some .int) 1 := ⟨⟨tw_1675, tw_12, tw_1678, by decide, cy_yX11_windOf.1, cy_yX11_windOf.2.1, cy_yX11_windOf.2.2⟩, tw_1677, ts_yX11_windOf⟩
theorem cy_yX11_passes : yX11_passes.cls ≠ "java/lang/invoke/MethodHandle" ∧ yX11_passes.cls ≠ "java/lang/invoke/VarHandle" ∧ (parseMethodDescriptor yX11_passes.desc).map (fun d => d.parameters.length) = some 2 := by decide +kernel
theorem cl_X11_375 : CLV "DustParishModel" 375 yX11_passes cX11_passes 3 none 2 := ⟨⟨tw_1704, tw_12, tw_1707, by decide, cy_yX11_passes.1, cy_yX11_passes.2.1, cy_yX11_passes.2.2⟩, tw_1706, ts_yX11_passes⟩
theorem cy_yX11_aDay : yX11_aDay.cls ≠ "java/lang/invoke/MethodHandle" ∧ yX11_aDay.cls ≠ "java/lang/invoke/VarHandle" ∧ (parseMethodDescriptor yX11_aDay.desc).map (fun d => d.parameters.length) = some 0 := by decide +kernel
theorem cl_X11_378 : CLV "DustParishModel" 378 yX11_aDay cX11_aDay 1 none 0 := ⟨⟨tw_1700, tw_12, tw_1703, by decide, cy_yX11_aDay.1, cy_yX11_aDay.2.1, cy_yX11_aDay.2.2⟩, tw_1702, ts_yX11_aDay⟩
theorem cy_yX11_allDust : yX11_allDust.cls ≠ "java/lang/invoke/MethodHandle" ∧ yX11_allDust.cls ≠ "java/lang/invoke/VarHandle" ∧ (parseMethodDescriptor yX11_allDust.desc).map (fun d => d.parameters.length) = some 0 := by decide +kernel
theorem cl_X11_381 : CLV "DustParishModel" 381 yX11_allDust cX11_allDust 3 (some .int) 0 := ⟨⟨tw_1618, tw_12, tw_1621, by decide, cy_yX11_allDust.1, cy_yX11_allDust.2.1, cy_yX11_allDust.2.2⟩, tw_1620, ts_yX11_allDust⟩
theorem cy_yX11_heretics : yX11_heretics.cls ≠ "java/lang/invoke/MethodHandle" ∧ yX11_heretics.cls ≠ "java/lang/invoke/VarHandle" ∧ (parseMethodDescriptor yX11_heretics.desc).map (fun d => d.parameters.length) = some 0 := by decide +kernel
theorem cl_X11_384 : CLV "DustParishModel" 384 yX11_heretics cX11_heretics 3 (some .int) 0 := ⟨⟨tw_1622, tw_12, tw_1625, by decide, cy_yX11_heretics.1, cy_yX11_heretics.2.1, cy_yX11_heretics.2.2⟩, tw_1624, ts_yX11_heretics⟩
theorem cy_yX11_isRoom : yX11_isRoom.cls ≠ "java/lang/invoke/MethodHandle" ∧ yX11_isRoom.cls ≠ "java/lang/invoke/VarHandle" ∧ (parseMethodDescriptor yX11_isRoom.desc).map (fun d => d.parameters.length) = some 1 := by decide +kernel
theorem cl_X11_387 : CLV "DustParishModel" 387 yX11_isRoom cX11_isRoom 2 (some .boolean) 1 := ⟨⟨tw_1630, tw_12, tw_1633, by decide, cy_yX11_isRoom.1, cy_yX11_isRoom.2.1, cy_yX11_isRoom.2.2⟩, tw_1632, ts_yX11_isRoom⟩
theorem cy_yX11_tellWays : yX11_tellWays.cls ≠ "java/lang/invoke/MethodHandle" ∧ yX11_tellWays.cls ≠ "java/lang/invoke/VarHandle" ∧ (parseMethodDescriptor yX11_tellWays.desc).map (fun d => d.parameters.length) = some 0 := by decide +kernel
theorem cl_X11_391 : CLV "DustParishModel" 391 yX11_tellWays cX11_tellWays 3 none 0 := ⟨⟨tw_1652, tw_12, tw_1655, by decide, cy_yX11_tellWays.1, cy_yX11_tellWays.2.1, cy_yX11_tellWays.2.2⟩, tw_1654, ts_yX11_tellWays⟩
theorem cy_yX11_orNone : yX11_orNone.cls ≠ "java/lang/invoke/MethodHandle" ∧ yX11_orNone.cls ≠ "java/lang/invoke/VarHandle" ∧ (parseMethodDescriptor yX11_orNone.desc).map (fun d => d.parameters.length) = some 1 := by decide +kernel
theorem cl_X11_394 : CLS "DustParishModel" 394 yX11_orNone cX11_orNone 1 (some .int) 1 := ⟨⟨tw_1657, tw_12, tw_1659, by decide, cy_yX11_orNone.1, cy_yX11_orNone.2.1, cy_yX11_orNone.2.2⟩, tw_1658⟩
theorem cy_yX11_pack : yX11_pack.cls ≠ "java/lang/invoke/MethodHandle" ∧ yX11_pack.cls ≠ "java/lang/invoke/VarHandle" ∧ (parseMethodDescriptor yX11_pack.desc).map (fun d => d.parameters.length) = some 2 := by decide +kernel
theorem cl_X11_403 : CLV "DustParishModel" 403 yX11_pack cX11_pack 4 none 2 := ⟨⟨tw_1692, tw_12, tw_1695, by decide, cy_yX11_pack.1, cy_yX11_pack.2.1, cy_yX11_pack.2.2⟩, tw_1694, ts_yX11_pack⟩
theorem cy_yX11_refuse : yX11_refuse.cls ≠ "java/lang/invoke/MethodHandle" ∧ yX11_refuse.cls ≠ "java/lang/invoke/VarHandle" ∧ (parseMethodDescriptor yX11_refuse.desc).map (fun d => d.parameters.length) = some 1 := by decide +kernel
theorem cl_X11_409 : CLV "DustParishModel" 409 yX11_refuse cX11_refuse 2 (some .int) 1 := ⟨⟨tw_1684, tw_12, tw_1687, by decide, cy_yX11_refuse.1, cy_yX11_refuse.2.1, cy_yX11_refuse.2.2⟩, tw_1686, ts_yX11_refuse⟩
theorem cy_yX11_keep : yX11_keep.cls ≠ "java/lang/invoke/MethodHandle" ∧ yX11_keep.cls ≠ "java/lang/invoke/VarHandle" ∧ (parseMethodDescriptor yX11_keep.desc).map (fun d => d.parameters.length) = some 0 := by decide +kernel
theorem cl_X11_412 : CLV "DustParishModel" 412 yX11_keep cX11_keep 2 none 0 := ⟨⟨tw_1688, tw_12, tw_1691, by decide, cy_yX11_keep.1, cy_yX11_keep.2.1, cy_yX11_keep.2.2⟩, tw_1690, ts_yX11_keep⟩
theorem cy_yX11_goOn : yX11_goOn.cls ≠ "java/lang/invoke/MethodHandle" ∧ yX11_goOn.cls ≠ "java/lang/invoke/VarHandle" ∧ (parseMethodDescriptor yX11_goOn.desc).map (fun d => d.parameters.length) = some 1 := by decide +kernel
theorem cl_X11_415 : CLV "DustParishModel" 415 yX11_goOn cX11_goOn 3 none 1 := ⟨⟨tw_1696, tw_12, tw_1699, by decide, cy_yX11_goOn.1, cy_yX11_goOn.2.1, cy_yX11_goOn.2.2⟩, tw_1698, ts_yX11_goOn⟩
theorem cy_yX11_hasDoor : yX11_hasDoor.cls ≠ "java/lang/invoke/MethodHandle" ∧ yX11_hasDoor.cls ≠ "java/lang/invoke/VarHandle" ∧ (parseMethodDescriptor yX11_hasDoor.desc).map (fun d => d.parameters.length) = some 2 := by decide +kernel
theorem cl_X11_418 : CLV "DustParishModel" 418 yX11_hasDoor cX11_hasDoor 4 (some .boolean) 2 := ⟨⟨tw_1728, tw_12, tw_1731, by decide, cy_yX11_hasDoor.1, cy_yX11_hasDoor.2.1, cy_yX11_hasDoor.2.2⟩, tw_1730, ts_yX11_hasDoor⟩
theorem cy_yX11_bring : yX11_bring.cls ≠ "java/lang/invoke/MethodHandle" ∧ yX11_bring.cls ≠ "java/lang/invoke/VarHandle" ∧ (parseMethodDescriptor yX11_bring.desc).map (fun d => d.parameters.length) = some 3 := by decide +kernel
theorem cl_X11_423 : CLV "DustParishModel" 423 yX11_bring cX11_bring 4 none 3 := ⟨⟨tw_1733, tw_12, tw_1736, by decide, cy_yX11_bring.1, cy_yX11_bring.2.1, cy_yX11_bring.2.2⟩, tw_1735, ts_yX11_bring⟩
theorem cy_yX11_steal : yX11_steal.cls ≠ "java/lang/invoke/MethodHandle" ∧ yX11_steal.cls ≠ "java/lang/invoke/VarHandle" ∧ (parseMethodDescriptor yX11_steal.desc).map (fun d => d.parameters.length) = some 2 := by decide +kernel
theorem cl_X11_427 : CLV "DustParishModel" 427 yX11_steal cX11_steal 4 (some .int) 2 := ⟨⟨tw_1746, tw_12, tw_1749, by decide, cy_yX11_steal.1, cy_yX11_steal.2.1, cy_yX11_steal.2.2⟩, tw_1748, ts_yX11_steal⟩
theorem cy_yX11_unpack : yX11_unpack.cls ≠ "java/lang/invoke/MethodHandle" ∧ yX11_unpack.cls ≠ "java/lang/invoke/VarHandle" ∧ (parseMethodDescriptor yX11_unpack.desc).map (fun d => d.parameters.length) = some 2 := by decide +kernel
theorem cl_X11_430 : CLV "DustParishModel" 430 yX11_unpack cX11_unpack 4 none 2 := ⟨⟨tw_1758, tw_12, tw_1761, by decide, cy_yX11_unpack.1, cy_yX11_unpack.2.1, cy_yX11_unpack.2.2⟩, tw_1760, ts_yX11_unpack⟩
theorem cy_yX11_isAhead : yX11_isAhead.cls ≠ "java/lang/invoke/MethodHandle" ∧ yX11_isAhead.cls ≠ "java/lang/invoke/VarHandle" ∧ (parseMethodDescriptor yX11_isAhead.desc).map (fun d => d.parameters.length) = some 1 := by decide +kernel
theorem cl_X11_433 : CLS "DustParishModel" 433 yX11_isAhead cX11_isAhead 1 (some .boolean) 1 := ⟨⟨tw_1766, tw_12, tw_1768, by decide, cy_yX11_isAhead.1, cy_yX11_isAhead.2.1, cy_yX11_isAhead.2.2⟩, tw_1767⟩
theorem cy_yX11_takenIn : yX11_takenIn.cls ≠ "java/lang/invoke/MethodHandle" ∧ yX11_takenIn.cls ≠ "java/lang/invoke/VarHandle" ∧ (parseMethodDescriptor yX11_takenIn.desc).map (fun d => d.parameters.length) = some 2 := by decide +kernel
theorem cl_X11_436 : CLV "DustParishModel" 436 yX11_takenIn cX11_takenIn 5 (some .int) 2 := ⟨⟨tw_1773, tw_12, tw_1776, by decide, cy_yX11_takenIn.1, cy_yX11_takenIn.2.1, cy_yX11_takenIn.2.2⟩, tw_1775, ts_yX11_takenIn⟩
theorem cy_yX11_byOrder : yX11_byOrder.cls ≠ "java/lang/invoke/MethodHandle" ∧ yX11_byOrder.cls ≠ "java/lang/invoke/VarHandle" ∧ (parseMethodDescriptor yX11_byOrder.desc).map (fun d => d.parameters.length) = some 1 := by decide +kernel
theorem cl_X11_439 : CLV "DustParishModel" 439 yX11_byOrder cX11_byOrder 3 (some .int) 1 := ⟨⟨tw_1793, tw_12, tw_1796, by decide, cy_yX11_byOrder.1, cy_yX11_byOrder.2.1, cy_yX11_byOrder.2.2⟩, tw_1795, ts_yX11_byOrder⟩
theorem cy_yX11_isOf : yX11_isOf.cls ≠ "java/lang/invoke/MethodHandle" ∧ yX11_isOf.cls ≠ "java/lang/invoke/VarHandle" ∧ (parseMethodDescriptor yX11_isOf.desc).map (fun d => d.parameters.length) = some 2 := by decide +kernel
theorem cl_X11_445 : CLS "DustParishModel" 445 yX11_isOf cX11_isOf 2 (some .boolean) 2 := ⟨⟨tw_1797, tw_12, tw_1799, by decide, cy_yX11_isOf.1, cy_yX11_isOf.2.1, cy_yX11_isOf.2.2⟩, tw_1798⟩
theorem cy_yX11_goOrders : yX11_goOrders.cls ≠ "java/lang/invoke/MethodHandle" ∧ yX11_goOrders.cls ≠ "java/lang/invoke/VarHandle" ∧ (parseMethodDescriptor yX11_goOrders.desc).map (fun d => d.parameters.length) = some 3 := by decide +kernel
theorem cl_X11_448 : CLV "DustParishModel" 448 yX11_goOrders cX11_goOrders 6 none 3 := ⟨⟨tw_1789, tw_12, tw_1792, by decide, cy_yX11_goOrders.1, cy_yX11_goOrders.2.1, cy_yX11_goOrders.2.2⟩, tw_1791, ts_yX11_goOrders⟩
theorem cy_yX11_sharesFrom : yX11_sharesFrom.cls ≠ "java/lang/invoke/MethodHandle" ∧ yX11_sharesFrom.cls ≠ "java/lang/invoke/VarHandle" ∧ (parseMethodDescriptor yX11_sharesFrom.desc).map (fun d => d.parameters.length) = some 3 := by decide +kernel
theorem cl_X11_451 : CLV "DustParishModel" 451 yX11_sharesFrom cX11_sharesFrom 7 (some .int) 3 := ⟨⟨tw_1813, tw_12, tw_1816, by decide, cy_yX11_sharesFrom.1, cy_yX11_sharesFrom.2.1, cy_yX11_sharesFrom.2.2⟩, tw_1815, ts_yX11_sharesFrom⟩
theorem cy_yX11_exchange : yX11_exchange.cls ≠ "java/lang/invoke/MethodHandle" ∧ yX11_exchange.cls ≠ "java/lang/invoke/VarHandle" ∧ (parseMethodDescriptor yX11_exchange.desc).map (fun d => d.parameters.length) = some 2 := by decide +kernel
theorem cl_X11_458 : CLV "DustParishModel" 458 yX11_exchange cX11_exchange 4 none 2 := ⟨⟨tw_1834, tw_12, tw_1837, by decide, cy_yX11_exchange.1, cy_yX11_exchange.2.1, cy_yX11_exchange.2.2⟩, tw_1836, ts_yX11_exchange⟩
theorem cy_yX11_isAsSeen : yX11_isAsSeen.cls ≠ "java/lang/invoke/MethodHandle" ∧ yX11_isAsSeen.cls ≠ "java/lang/invoke/VarHandle" ∧ (parseMethodDescriptor yX11_isAsSeen.desc).map (fun d => d.parameters.length) = some 0 := by decide +kernel
theorem cl_X11_463 : CLV "DustParishModel" 463 yX11_isAsSeen cX11_isAsSeen 5 (some .boolean) 0 := ⟨⟨tw_1863, tw_12, tw_1866, by decide, cy_yX11_isAsSeen.1, cy_yX11_isAsSeen.2.1, cy_yX11_isAsSeen.2.2⟩, tw_1865, ts_yX11_isAsSeen⟩
theorem cy_yX11_lowest : yX11_lowest.cls ≠ "java/lang/invoke/MethodHandle" ∧ yX11_lowest.cls ≠ "java/lang/invoke/VarHandle" ∧ (parseMethodDescriptor yX11_lowest.desc).map (fun d => d.parameters.length) = some 1 := by decide +kernel
theorem cl_X11_467 : CLV "DustParishModel" 467 yX11_lowest cX11_lowest 3 (some .int) 1 := ⟨⟨tw_1875, tw_12, tw_1878, by decide, cy_yX11_lowest.1, cy_yX11_lowest.2.1, cy_yX11_lowest.2.2⟩, tw_1877, ts_yX11_lowest⟩
theorem cy_yX11_loss : yX11_loss.cls ≠ "java/lang/invoke/MethodHandle" ∧ yX11_loss.cls ≠ "java/lang/invoke/VarHandle" ∧ (parseMethodDescriptor yX11_loss.desc).map (fun d => d.parameters.length) = some 4 := by decide +kernel
theorem cl_X11_470 : CLV "DustParishModel" 470 yX11_loss cX11_loss 6 (some .int) 4 := ⟨⟨tw_1879, tw_12, tw_1882, by decide, cy_yX11_loss.1, cy_yX11_loss.2.1, cy_yX11_loss.2.2⟩, tw_1881, ts_yX11_loss⟩
theorem cy_yX11_drawOf : yX11_drawOf.cls ≠ "java/lang/invoke/MethodHandle" ∧ yX11_drawOf.cls ≠ "java/lang/invoke/VarHandle" ∧ (parseMethodDescriptor yX11_drawOf.desc).map (fun d => d.parameters.length) = some 1 := by decide +kernel
theorem cl_X11_478 : CLV "DustParishModel" 478 yX11_drawOf cX11_drawOf 2 (some .int) 1 := ⟨⟨tw_1892, tw_12, tw_1895, by decide, cy_yX11_drawOf.1, cy_yX11_drawOf.2.1, cy_yX11_drawOf.2.2⟩, tw_1894, ts_yX11_drawOf⟩
theorem cy_yX11_shakeFirst : yX11_shakeFirst.cls ≠ "java/lang/invoke/MethodHandle" ∧ yX11_shakeFirst.cls ≠ "java/lang/invoke/VarHandle" ∧ (parseMethodDescriptor yX11_shakeFirst.desc).map (fun d => d.parameters.length) = some 1 := by decide +kernel
theorem cl_X11_481 : CLV "DustParishModel" 481 yX11_shakeFirst cX11_shakeFirst 3 none 1 := ⟨⟨tw_1897, tw_12, tw_1900, by decide, cy_yX11_shakeFirst.1, cy_yX11_shakeFirst.2.1, cy_yX11_shakeFirst.2.2⟩, tw_1899, ts_yX11_shakeFirst⟩
theorem cy_yX11_something : yX11_something.cls ≠ "java/lang/invoke/MethodHandle" ∧ yX11_something.cls ≠ "java/lang/invoke/VarHandle" ∧ (parseMethodDescriptor yX11_something.desc).map (fun d => d.parameters.length) = some 0 := by decide +kernel
theorem cl_X11_486 : CLV "DustParishModel" 486 yX11_something cX11_something 3 none 0 := ⟨⟨tw_1888, tw_12, tw_1891, by decide, cy_yX11_something.1, cy_yX11_something.2.1, cy_yX11_something.2.2⟩, tw_1890, ts_yX11_something⟩
theorem cy_yX11_be : yX11_be.cls ≠ "java/lang/invoke/MethodHandle" ∧ yX11_be.cls ≠ "java/lang/invoke/VarHandle" ∧ (parseMethodDescriptor yX11_be.desc).map (fun d => d.parameters.length) = some 2 := by decide +kernel
theorem cl_X11_495 : CLS "DustParishModel" 495 yX11_be cX11_be 3 none 2 := ⟨⟨tw_1905, tw_12, tw_1907, by decide, cy_yX11_be.1, cy_yX11_be.2.1, cy_yX11_be.2.2⟩, tw_1906⟩
theorem cy_yJ0_coder_7d493 : yJ0_coder_7d493.cls ≠ "java/lang/invoke/MethodHandle" ∧ yJ0_coder_7d493.cls ≠ "java/lang/invoke/VarHandle" ∧ (parseMethodDescriptor yJ0_coder_7d493.desc).map (fun d => d.parameters.length) = some 0 := by decide +kernel
theorem cl_J0_335 : CLV "java/lang/String" 335 yJ0_coder_7d493 cJ0_coder_7d493 1 (some .byte) 0 := ⟨⟨tw_675, tw_18, tw_678, by decide, cy_yJ0_coder_7d493.1, cy_yJ0_coder_7d493.2.1, cy_yJ0_coder_7d493.2.2⟩, tw_676, tw_677⟩
theorem cy_yJ0_isLatin1_aae02 : yJ0_isLatin1_aae02.cls ≠ "java/lang/invoke/MethodHandle" ∧ yJ0_isLatin1_aae02.cls ≠ "java/lang/invoke/VarHandle" ∧ (parseMethodDescriptor yJ0_isLatin1_aae02.desc).map (fun d => d.parameters.length) = some 0 := by decide +kernel
theorem cl_J0_492 : CLV "java/lang/String" 492 yJ0_isLatin1_aae02 cJ0_isLatin1_aae02 1 (some .boolean) 0 := ⟨⟨tw_665, tw_18, tw_668, by decide, cy_yJ0_isLatin1_aae02.1, cy_yJ0_isLatin1_aae02.2.1, cy_yJ0_isLatin1_aae02.2.2⟩, tw_666, tw_667⟩
theorem cy_yJ1_charAt_3b067 : yJ1_charAt_3b067.cls ≠ "java/lang/invoke/MethodHandle" ∧ yJ1_charAt_3b067.cls ≠ "java/lang/invoke/VarHandle" ∧ (parseMethodDescriptor yJ1_charAt_3b067.desc).map (fun d => d.parameters.length) = some 2 := by decide +kernel
theorem cl_J0_495 : CLS "java/lang/String" 495 yJ1_charAt_3b067 cJ1_charAt_3b067 2 (some .char) 2 := ⟨⟨tw_753, tw_19, tw_755, by decide, cy_yJ1_charAt_3b067.1, cy_yJ1_charAt_3b067.2.1, cy_yJ1_charAt_3b067.2.2⟩, tw_754⟩
theorem cy_yJ2_charAt_3b067 : yJ2_charAt_3b067.cls ≠ "java/lang/invoke/MethodHandle" ∧ yJ2_charAt_3b067.cls ≠ "java/lang/invoke/VarHandle" ∧ (parseMethodDescriptor yJ2_charAt_3b067.desc).map (fun d => d.parameters.length) = some 2 := by decide +kernel
theorem cl_J0_498 : CLS "java/lang/String" 498 yJ2_charAt_3b067 cJ2_charAt_3b067 2 (some .char) 2 := ⟨⟨tw_762, tw_20, tw_764, by decide, cy_yJ2_charAt_3b067.1, cy_yJ2_charAt_3b067.2.1, cy_yJ2_charAt_3b067.2.2⟩, tw_763⟩
theorem cl_J0_505 : CLV "java/lang/String" 505 yJ0_length_8abf5 cJ0_length_8abf5 1 (some .int) 0 := ⟨⟨tw_671, tw_18, tw_674, by decide, cy_yJ0_length_8abf5.1, cy_yJ0_length_8abf5.2.1, cy_yJ0_length_8abf5.2.2⟩, tw_672, tw_673⟩
theorem cy_yJ0_indexOf_7cf53 : yJ0_indexOf_7cf53.cls ≠ "java/lang/invoke/MethodHandle" ∧ yJ0_indexOf_7cf53.cls ≠ "java/lang/invoke/VarHandle" ∧ (parseMethodDescriptor yJ0_indexOf_7cf53.desc).map (fun d => d.parameters.length) = some 2 := by decide +kernel
theorem cl_J0_633 : CLV "java/lang/String" 633 yJ0_indexOf_7cf53 cJ0_indexOf_7cf53 3 (some .int) 2 := ⟨⟨tw_661, tw_18, tw_664, by decide, cy_yJ0_indexOf_7cf53.1, cy_yJ0_indexOf_7cf53.2.1, cy_yJ0_indexOf_7cf53.2.2⟩, tw_662, tw_663⟩
theorem cy_yJ1_indexOf_4cfef : yJ1_indexOf_4cfef.cls ≠ "java/lang/invoke/MethodHandle" ∧ yJ1_indexOf_4cfef.cls ≠ "java/lang/invoke/VarHandle" ∧ (parseMethodDescriptor yJ1_indexOf_4cfef.desc).map (fun d => d.parameters.length) = some 4 := by decide +kernel
theorem cl_J0_637 : CLS "java/lang/String" 637 yJ1_indexOf_4cfef cJ1_indexOf_4cfef 4 (some .int) 4 := ⟨⟨tw_679, tw_19, tw_681, by decide, cy_yJ1_indexOf_4cfef.1, cy_yJ1_indexOf_4cfef.2.1, cy_yJ1_indexOf_4cfef.2.2⟩, tw_680⟩
theorem cy_yJ2_indexOf_4cfef : yJ2_indexOf_4cfef.cls ≠ "java/lang/invoke/MethodHandle" ∧ yJ2_indexOf_4cfef.cls ≠ "java/lang/invoke/VarHandle" ∧ (parseMethodDescriptor yJ2_indexOf_4cfef.desc).map (fun d => d.parameters.length) = some 4 := by decide +kernel
theorem cl_J0_640 : CLS "java/lang/String" 640 yJ2_indexOf_4cfef cJ2_indexOf_4cfef 4 (some .int) 4 := ⟨⟨tw_690, tw_20, tw_692, by decide, cy_yJ2_indexOf_4cfef.1, cy_yJ2_indexOf_4cfef.2.1, cy_yJ2_indexOf_4cfef.2.2⟩, tw_691⟩
theorem cy_yJ3_checkIndex_8e157 : yJ3_checkIndex_8e157.cls ≠ "java/lang/invoke/MethodHandle" ∧ yJ3_checkIndex_8e157.cls ≠ "java/lang/invoke/VarHandle" ∧ (parseMethodDescriptor yJ3_checkIndex_8e157.desc).map (fun d => d.parameters.length) = some 3 := by decide +kernel
theorem cl_J0_1059 : CLS "java/lang/String" 1059 yJ3_checkIndex_8e157 cJ3_checkIndex_8e157 3 (some .int) 3 := ⟨⟨tw_759, tw_21, tw_761, by decide, cy_yJ3_checkIndex_8e157.1, cy_yJ3_checkIndex_8e157.2.1, cy_yJ3_checkIndex_8e157.2.2⟩, tw_760⟩
theorem cy_yJ3_checkFromToIndex_8c36e : yJ3_checkFromToIndex_8c36e.cls ≠ "java/lang/invoke/MethodHandle" ∧ yJ3_checkFromToIndex_8c36e.cls ≠ "java/lang/invoke/VarHandle" ∧ (parseMethodDescriptor yJ3_checkFromToIndex_8c36e.desc).map (fun d => d.parameters.length) = some 4 := by decide +kernel
theorem cl_J0_1062 : CLS "java/lang/String" 1062 yJ3_checkFromToIndex_8c36e cJ3_checkFromToIndex_8c36e 4 (some .int) 4 := ⟨⟨tw_710, tw_21, tw_712, by decide, cy_yJ3_checkFromToIndex_8c36e.1, cy_yJ3_checkFromToIndex_8c36e.2.1, cy_yJ3_checkFromToIndex_8c36e.2.2⟩, tw_711⟩
theorem cy_yJ0_checkIndex_df160 : yJ0_checkIndex_df160.cls ≠ "java/lang/invoke/MethodHandle" ∧ yJ0_checkIndex_df160.cls ≠ "java/lang/invoke/VarHandle" ∧ (parseMethodDescriptor yJ0_checkIndex_df160.desc).map (fun d => d.parameters.length) = some 2 := by decide +kernel
theorem cl_J1_9 : CLS "java/lang/StringLatin1" 9 yJ0_checkIndex_df160 cJ0_checkIndex_df160 2 none 2 := ⟨⟨tw_756, tw_18, tw_758, by decide, cy_yJ0_checkIndex_df160.1, cy_yJ0_checkIndex_df160.2.1, cy_yJ0_checkIndex_df160.2.2⟩, tw_757⟩
theorem cy_yJ1_canEncode_9a6ad : yJ1_canEncode_9a6ad.cls ≠ "java/lang/invoke/MethodHandle" ∧ yJ1_canEncode_9a6ad.cls ≠ "java/lang/invoke/VarHandle" ∧ (parseMethodDescriptor yJ1_canEncode_9a6ad.desc).map (fun d => d.parameters.length) = some 1 := by decide +kernel
theorem cl_J1_88 : CLS "java/lang/StringLatin1" 88 yJ1_canEncode_9a6ad cJ1_canEncode_9a6ad 1 (some .boolean) 1 := ⟨⟨tw_682, tw_19, tw_684, by decide, cy_yJ1_canEncode_9a6ad.1, cy_yJ1_canEncode_9a6ad.2.1, cy_yJ1_canEncode_9a6ad.2.2⟩, tw_683⟩
theorem cy_yJ1_indexOfChar_4cfef : yJ1_indexOfChar_4cfef.cls ≠ "java/lang/invoke/MethodHandle" ∧ yJ1_indexOfChar_4cfef.cls ≠ "java/lang/invoke/VarHandle" ∧ (parseMethodDescriptor yJ1_indexOfChar_4cfef.desc).map (fun d => d.parameters.length) = some 4 := by decide +kernel
theorem cl_J1_95 : CLS "java/lang/StringLatin1" 95 yJ1_indexOfChar_4cfef cJ1_indexOfChar_4cfef 6 (some .int) 4 := ⟨⟨tw_687, tw_19, tw_689, by decide, cy_yJ1_indexOfChar_4cfef.1, cy_yJ1_indexOfChar_4cfef.2.1, cy_yJ1_indexOfChar_4cfef.2.2⟩, tw_688⟩
theorem cy_yJ2_length_9d52b : yJ2_length_9d52b.cls ≠ "java/lang/invoke/MethodHandle" ∧ yJ2_length_9d52b.cls ≠ "java/lang/invoke/VarHandle" ∧ (parseMethodDescriptor yJ2_length_9d52b.desc).map (fun d => d.parameters.length) = some 1 := by decide +kernel
theorem cl_J2_48 : CLS "java/lang/StringUTF16" 48 yJ2_length_9d52b cJ2_length_9d52b 1 (some .int) 1 := ⟨⟨tw_702, tw_20, tw_704, by decide, cy_yJ2_length_9d52b.1, cy_yJ2_length_9d52b.2.1, cy_yJ2_length_9d52b.2.2⟩, tw_703⟩
theorem cy_yJ2_checkIndex_2214a : yJ2_checkIndex_2214a.cls ≠ "java/lang/invoke/MethodHandle" ∧ yJ2_checkIndex_2214a.cls ≠ "java/lang/invoke/VarHandle" ∧ (parseMethodDescriptor yJ2_checkIndex_2214a.desc).map (fun d => d.parameters.length) = some 2 := by decide +kernel
theorem cl_J2_67 : CLS "java/lang/StringUTF16" 67 yJ2_checkIndex_2214a cJ2_checkIndex_2214a 2 none 2 := ⟨⟨tw_765, tw_20, tw_767, by decide, cy_yJ2_checkIndex_2214a.1, cy_yJ2_checkIndex_2214a.2.1, cy_yJ2_checkIndex_2214a.2.2⟩, tw_766⟩
theorem cy_yJ2_getChar_3b067 : yJ2_getChar_3b067.cls ≠ "java/lang/invoke/MethodHandle" ∧ yJ2_getChar_3b067.cls ≠ "java/lang/invoke/VarHandle" ∧ (parseMethodDescriptor yJ2_getChar_3b067.desc).map (fun d => d.parameters.length) = some 2 := by decide +kernel
theorem cl_J2_71 : CLS "java/lang/StringUTF16" 71 yJ2_getChar_3b067 cJ2_getChar_3b067 2 (some .char) 2 := ⟨⟨tw_716, tw_20, tw_718, by decide, cy_yJ2_getChar_3b067.1, cy_yJ2_getChar_3b067.2.1, cy_yJ2_getChar_3b067.2.2⟩, tw_717⟩
theorem cy_yJ2_checkBoundsBeginEnd_d044e : yJ2_checkBoundsBeginEnd_d044e.cls ≠ "java/lang/invoke/MethodHandle" ∧ yJ2_checkBoundsBeginEnd_d044e.cls ≠ "java/lang/invoke/VarHandle" ∧ (parseMethodDescriptor yJ2_checkBoundsBeginEnd_d044e.desc).map (fun d => d.parameters.length) = some 3 := by decide +kernel
theorem cl_J2_96 : CLS "java/lang/StringUTF16" 96 yJ2_checkBoundsBeginEnd_d044e cJ2_checkBoundsBeginEnd_d044e 3 none 3 := ⟨⟨tw_699, tw_20, tw_701, by decide, cy_yJ2_checkBoundsBeginEnd_d044e.1, cy_yJ2_checkBoundsBeginEnd_d044e.2.1, cy_yJ2_checkBoundsBeginEnd_d044e.2.2⟩, tw_700⟩
theorem cy_yJ11_highSurrogate_5068e : yJ11_highSurrogate_5068e.cls ≠ "java/lang/invoke/MethodHandle" ∧ yJ11_highSurrogate_5068e.cls ≠ "java/lang/invoke/VarHandle" ∧ (parseMethodDescriptor yJ11_highSurrogate_5068e.desc).map (fun d => d.parameters.length) = some 1 := by decide +kernel
theorem cl_J2_157 : CLS "java/lang/StringUTF16" 157 yJ11_highSurrogate_5068e cJ11_highSurrogate_5068e 1 (some .char) 1 := ⟨⟨tw_731, tw_22, tw_733, by decide, cy_yJ11_highSurrogate_5068e.1, cy_yJ11_highSurrogate_5068e.2.1, cy_yJ11_highSurrogate_5068e.2.2⟩, tw_732⟩
theorem cy_yJ11_lowSurrogate_5068e : yJ11_lowSurrogate_5068e.cls ≠ "java/lang/invoke/MethodHandle" ∧ yJ11_lowSurrogate_5068e.cls ≠ "java/lang/invoke/VarHandle" ∧ (parseMethodDescriptor yJ11_lowSurrogate_5068e.desc).map (fun d => d.parameters.length) = some 1 := by decide +kernel
theorem cl_J2_161 : CLS "java/lang/StringUTF16" 161 yJ11_lowSurrogate_5068e cJ11_lowSurrogate_5068e 1 (some .char) 1 := ⟨⟨tw_735, tw_22, tw_737, by decide, cy_yJ11_lowSurrogate_5068e.1, cy_yJ11_lowSurrogate_5068e.2.1, cy_yJ11_lowSurrogate_5068e.2.2⟩, tw_736⟩
theorem cy_yJ11_isValidCodePoint_9a6ad : yJ11_isValidCodePoint_9a6ad.cls ≠ "java/lang/invoke/MethodHandle" ∧ yJ11_isValidCodePoint_9a6ad.cls ≠ "java/lang/invoke/VarHandle" ∧ (parseMethodDescriptor yJ11_isValidCodePoint_9a6ad.desc).map (fun d => d.parameters.length) = some 1 := by decide +kernel
theorem cl_J2_164 : CLS "java/lang/StringUTF16" 164 yJ11_isValidCodePoint_9a6ad cJ11_isValidCodePoint_9a6ad 2 (some .boolean) 1 := ⟨⟨tw_728, tw_22, tw_730, by decide, cy_yJ11_isValidCodePoint_9a6ad.1, cy_yJ11_isValidCodePoint_9a6ad.2.1, cy_yJ11_isValidCodePoint_9a6ad.2.2⟩, tw_729⟩
theorem cy_yJ2_indexOfChar_4cfef : yJ2_indexOfChar_4cfef.cls ≠ "java/lang/invoke/MethodHandle" ∧ yJ2_indexOfChar_4cfef.cls ≠ "java/lang/invoke/VarHandle" ∧ (parseMethodDescriptor yJ2_indexOfChar_4cfef.desc).map (fun d => d.parameters.length) = some 4 := by decide +kernel
theorem cl_J2_228 : CLS "java/lang/StringUTF16" 228 yJ2_indexOfChar_4cfef cJ2_indexOfChar_4cfef 4 (some .int) 4 := ⟨⟨tw_696, tw_20, tw_698, by decide, cy_yJ2_indexOfChar_4cfef.1, cy_yJ2_indexOfChar_4cfef.2.1, cy_yJ2_indexOfChar_4cfef.2.2⟩, tw_697⟩
theorem cy_yJ2_indexOfSupplementary_4cfef : yJ2_indexOfSupplementary_4cfef.cls ≠ "java/lang/invoke/MethodHandle" ∧ yJ2_indexOfSupplementary_4cfef.cls ≠ "java/lang/invoke/VarHandle" ∧ (parseMethodDescriptor yJ2_indexOfSupplementary_4cfef.desc).map (fun d => d.parameters.length) = some 4 := by decide +kernel
theorem cl_J2_232 : CLS "java/lang/StringUTF16" 232 yJ2_indexOfSupplementary_4cfef cJ2_indexOfSupplementary_4cfef 7 (some .int) 4 := ⟨⟨tw_725, tw_20, tw_727, by decide, cy_yJ2_indexOfSupplementary_4cfef.1, cy_yJ2_indexOfSupplementary_4cfef.2.1, cy_yJ2_indexOfSupplementary_4cfef.2.2⟩, tw_726⟩
theorem cy_yJ0_checkBoundsBeginEnd_23922 : yJ0_checkBoundsBeginEnd_23922.cls ≠ "java/lang/invoke/MethodHandle" ∧ yJ0_checkBoundsBeginEnd_23922.cls ≠ "java/lang/invoke/VarHandle" ∧ (parseMethodDescriptor yJ0_checkBoundsBeginEnd_23922.desc).map (fun d => d.parameters.length) = some 3 := by decide +kernel
theorem cl_J2_241 : CLS "java/lang/StringUTF16" 241 yJ0_checkBoundsBeginEnd_23922 cJ0_checkBoundsBeginEnd_23922 3 none 3 := ⟨⟨tw_705, tw_18, tw_707, by decide, cy_yJ0_checkBoundsBeginEnd_23922.1, cy_yJ0_checkBoundsBeginEnd_23922.2.1, cy_yJ0_checkBoundsBeginEnd_23922.2.2⟩, tw_706⟩
theorem cy_yJ2_indexOfCharUnsafe_4cfef : yJ2_indexOfCharUnsafe_4cfef.cls ≠ "java/lang/invoke/MethodHandle" ∧ yJ2_indexOfCharUnsafe_4cfef.cls ≠ "java/lang/invoke/VarHandle" ∧ (parseMethodDescriptor yJ2_indexOfCharUnsafe_4cfef.desc).map (fun d => d.parameters.length) = some 4 := by decide +kernel
theorem cl_J2_244 : CLS "java/lang/StringUTF16" 244 yJ2_indexOfCharUnsafe_4cfef cJ2_indexOfCharUnsafe_4cfef 5 (some .int) 4 := ⟨⟨tw_713, tw_20, tw_715, by decide, cy_yJ2_indexOfCharUnsafe_4cfef.1, cy_yJ2_indexOfCharUnsafe_4cfef.2.1, cy_yJ2_indexOfCharUnsafe_4cfef.2.2⟩, tw_714⟩
theorem cl_J2_414 : CLS "java/lang/StringUTF16" 414 yJ0_checkIndex_df160 cJ0_checkIndex_df160 2 none 2 := ⟨⟨tw_768, tw_18, tw_758, by decide, cy_yJ0_checkIndex_df160.1, cy_yJ0_checkIndex_df160.2.1, cy_yJ0_checkIndex_df160.2.2⟩, tw_757⟩
theorem mmaxW : Cond.static Lib.Math.max.name ∈ TBG ∧ Cond.initialized "java/lang/Math" ∈ TBG ∧ Cond.code Lib.Math.max.name Lib.Math.max.code 2 (some .int) ∈ TBG := ⟨tw_502, tw_17, tw_503⟩
theorem mminW : Cond.static Lib.Math.min.name ∈ TBG ∧ Cond.initialized "java/lang/Math" ∈ TBG ∧ Cond.code Lib.Math.min.name Lib.Math.min.code 2 (some .int) ∈ TBG := ⟨tw_474, tw_17, tw_475⟩
theorem pn_X10 : plainName "DustParish" = true := by decide +kernel
theorem pn_X0 : plainName "DustParish$Acts" = true := by decide +kernel
theorem pn_X1 : plainName "DustParish$Course" = true := by decide +kernel
theorem pn_X2 : plainName "DustParish$Facts" = true := by decide +kernel
theorem pn_X3 : plainName "DustParish$Present" = true := by decide +kernel
theorem pn_X4 : plainName "DustParish$Reader" = true := by decide +kernel
theorem pn_X5 : plainName "DustParish$Rule" = true := by decide +kernel
theorem pn_X6 : plainName "DustParish$RuleReader" = true := by decide +kernel
theorem pn_X7 : plainName "DustParish$Sights" = true := by decide +kernel
theorem pn_X8 : plainName "DustParish$State" = true := by decide +kernel
theorem pn_X9 : plainName "DustParish$Tokens" = true := by decide +kernel
theorem pn_L : plainName "DustParishLaw" = true := by decide +kernel
theorem pn_X11 : plainName "DustParishModel" = true := by decide +kernel
theorem pn_J11 : plainName "java/lang/Character" = true := by decide +kernel
theorem pn_J0 : plainName "java/lang/String" = true := by decide +kernel
theorem pn_J1 : plainName "java/lang/StringLatin1" = true := by decide +kernel
theorem pn_J2 : plainName "java/lang/StringUTF16" = true := by decide +kernel
theorem pn_J7 : plainName "java/util/Arrays" = true := by decide +kernel
theorem pn_J3 : plainName "jdk/internal/util/Preconditions" = true := by decide +kernel
