theorem fl_M_7 : Cond.fieldLink R_M 7 "WasmMachineModel" "bytes" "[I" ∈ TB := tb 1160 (by decide +kernel) rfl
theorem fl_M_13 : Cond.fieldLink R_M 13 "WasmMachineModel" "params" "[I" ∈ TB := tb 1166 (by decide +kernel) rfl
theorem fl_M_16 : Cond.fieldLink R_M 16 "WasmMachineModel" "results" "[I" ∈ TB := tb 1167 (by decide +kernel) rfl
theorem fl_M_19 : Cond.fieldLink R_M 19 "WasmMachineModel" "typeOf" "[J" ∈ TB := tb 1170 (by decide +kernel) rfl
theorem fl_M_23 : Cond.fieldLink R_M 23 "WasmMachineModel" "changes" "[Z" ∈ TB := tb 1176 (by decide +kernel) rfl
theorem fl_M_27 : Cond.fieldLink R_M 27 "WasmMachineModel" "initial" "[I" ∈ TB := tb 1177 (by decide +kernel) rfl
theorem fl_M_30 : Cond.fieldLink R_M 30 "WasmMachineModel" "name" "[J" ∈ TB := tb 1179 (by decide +kernel) rfl
theorem fl_M_33 : Cond.fieldLink R_M 33 "WasmMachineModel" "exportKind" "[I" ∈ TB := tb 1180 (by decide +kernel) rfl
theorem fl_M_36 : Cond.fieldLink R_M 36 "WasmMachineModel" "exportIndex" "[J" ∈ TB := tb 1181 (by decide +kernel) rfl
theorem fl_M_39 : Cond.fieldLink R_M 39 "WasmMachineModel" "segmentMemory" "[J" ∈ TB := tb 1183 (by decide +kernel) rfl
theorem fl_M_42 : Cond.fieldLink R_M 42 "WasmMachineModel" "segmentAt" "[I" ∈ TB := tb 1184 (by decide +kernel) rfl
theorem fl_M_45 : Cond.fieldLink R_M 45 "WasmMachineModel" "segmentFrom" "[I" ∈ TB := tb 1185 (by decide +kernel) rfl
theorem fl_M_48 : Cond.fieldLink R_M 48 "WasmMachineModel" "segmentLength" "[I" ∈ TB := tb 1186 (by decide +kernel) rfl
theorem fl_M_51 : Cond.fieldLink R_M 51 "WasmMachineModel" "op" "[I" ∈ TB := tb 1188 (by decide +kernel) rfl
theorem fl_M_54 : Cond.fieldLink R_M 54 "WasmMachineModel" "first" "[J" ∈ TB := tb 1189 (by decide +kernel) rfl
theorem fl_M_57 : Cond.fieldLink R_M 57 "WasmMachineModel" "second" "[J" ∈ TB := tb 1190 (by decide +kernel) rfl
theorem fl_M_60 : Cond.fieldLink R_M 60 "WasmMachineModel" "inside" "[I" ∈ TB := tb 1191 (by decide +kernel) rfl
theorem fl_M_63 : Cond.fieldLink R_M 63 "WasmMachineModel" "endAt" "[I" ∈ TB := tb 1192 (by decide +kernel) rfl
theorem fl_M_66 : Cond.fieldLink R_M 66 "WasmMachineModel" "elseAt" "[I" ∈ TB := tb 1193 (by decide +kernel) rfl
theorem fl_M_69 : Cond.fieldLink R_M 69 "WasmMachineModel" "high" "[I" ∈ TB := tb 1194 (by decide +kernel) rfl
theorem fl_M_72 : Cond.fieldLink R_M 72 "WasmMachineModel" "entry" "[I" ∈ TB := tb 1195 (by decide +kernel) rfl
theorem fl_M_75 : Cond.fieldLink R_M 75 "WasmMachineModel" "begin" "[I" ∈ TB := tb 1196 (by decide +kernel) rfl
theorem fl_M_78 : Cond.fieldLink R_M 78 "WasmMachineModel" "close" "[I" ∈ TB := tb 1197 (by decide +kernel) rfl
theorem fl_M_81 : Cond.fieldLink R_M 81 "WasmMachineModel" "extra" "[I" ∈ TB := tb 1198 (by decide +kernel) rfl
theorem fl_M_84 : Cond.fieldLink R_M 84 "WasmMachineModel" "label" "[J" ∈ TB := tb 1200 (by decide +kernel) rfl
theorem fl_M_87 : Cond.fieldLink R_M 87 "WasmMachineModel" "open" "[I" ∈ TB := tb 1203 (by decide +kernel) rfl
theorem fl_M_90 : Cond.fieldLink R_M 90 "WasmMachineModel" "base" "[I" ∈ TB := tb 1204 (by decide +kernel) rfl
theorem fl_M_93 : Cond.fieldLink R_M 93 "WasmMachineModel" "dead" "[Z" ∈ TB := tb 1205 (by decide +kernel) rfl
theorem fl_M_96 : Cond.fieldLink R_M 96 "WasmMachineModel" "memory" "[I" ∈ TB := tb 1207 (by decide +kernel) rfl
theorem fl_M_99 : Cond.fieldLink R_M 99 "WasmMachineModel" "global" "[I" ∈ TB := tb 1208 (by decide +kernel) rfl
theorem fl_M_102 : Cond.fieldLink R_M 102 "WasmMachineModel" "argument" "[I" ∈ TB := tb 1210 (by decide +kernel) rfl
theorem fl_M_105 : Cond.fieldLink R_M 105 "WasmMachineModel" "function" "[I" ∈ TB := tb 1215 (by decide +kernel) rfl
theorem fl_M_108 : Cond.fieldLink R_M 108 "WasmMachineModel" "place" "[I" ∈ TB := tb 1216 (by decide +kernel) rfl
theorem fl_M_111 : Cond.fieldLink R_M 111 "WasmMachineModel" "localsAt" "[I" ∈ TB := tb 1217 (by decide +kernel) rfl
theorem fl_M_114 : Cond.fieldLink R_M 114 "WasmMachineModel" "stack" "[I" ∈ TB := tb 1218 (by decide +kernel) rfl
theorem fl_M_117 : Cond.fieldLink R_M 117 "WasmMachineModel" "word" "[I" ∈ TB := tb 1221 (by decide +kernel) rfl
theorem fl_M_120 : Cond.fieldLink R_M 120 "WasmMachineModel" "code" "I" ∈ TB := tb 1158 (by decide +kernel) rfl
theorem fl_M_124 : Cond.fieldLink R_M 124 "WasmMachineModel" "fed" "I" ∈ TB := tb 1159 (by decide +kernel) rfl
theorem fl_M_127 : Cond.fieldLink R_M 127 "WasmMachineModel" "loaded" "Z" ∈ TB := tb 1161 (by decide +kernel) rfl
theorem fl_M_131 : Cond.fieldLink R_M 131 "WasmMachineModel" "arguments" "I" ∈ TB := tb 1209 (by decide +kernel) rfl
theorem fl_M_134 : Cond.fieldLink R_M 134 "WasmMachineModel" "runs" "Z" ∈ TB := tb 1211 (by decide +kernel) rfl
theorem fl_M_137 : Cond.fieldLink R_M 137 "WasmMachineModel" "result" "I" ∈ TB := tb 1212 (by decide +kernel) rfl
theorem fl_M_140 : Cond.fieldLink R_M 140 "WasmMachineModel" "compiled" "Z" ∈ TB := tb 1219 (by decide +kernel) rfl
theorem fl_M_143 : Cond.fieldLink R_M 143 "WasmMachineModel" "words" "I" ∈ TB := tb 1220 (by decide +kernel) rfl
theorem fl_M_146 : Cond.fieldLink R_M 146 "WasmMachineModel" "pages" "I" ∈ TB := tb 1206 (by decide +kernel) rfl
theorem fl_M_149 : Cond.fieldLink R_M 149 "WasmMachineModel" "wrong" "I" ∈ TB := tb 1164 (by decide +kernel) rfl
theorem fl_M_152 : Cond.fieldLink R_M 152 "WasmMachineModel" "at" "I" ∈ TB := tb 1162 (by decide +kernel) rfl
theorem fl_M_155 : Cond.fieldLink R_M 155 "WasmMachineModel" "limit" "I" ∈ TB := tb 1163 (by decide +kernel) rfl
theorem fl_M_185 : Cond.fieldLink R_M 185 "WasmMachineModel" "bodies" "I" ∈ TB := tb 1169 (by decide +kernel) rfl
theorem fl_M_188 : Cond.fieldLink R_M 188 "WasmMachineModel" "functions" "I" ∈ TB := tb 1168 (by decide +kernel) rfl
theorem fl_M_219 : Cond.fieldLink R_M 219 "WasmMachineModel" "types" "I" ∈ TB := tb 1165 (by decide +kernel) rfl
theorem fl_M_222 : Cond.fieldLink R_M 222 "WasmMachineModel" "memories" "I" ∈ TB := tb 1171 (by decide +kernel) rfl
theorem fl_M_228 : Cond.fieldLink R_M 228 "WasmMachineModel" "capped" "Z" ∈ TB := tb 1172 (by decide +kernel) rfl
theorem fl_M_231 : Cond.fieldLink R_M 231 "WasmMachineModel" "least" "J" ∈ TB := tb 1173 (by decide +kernel) rfl
theorem fl_M_237 : Cond.fieldLink R_M 237 "WasmMachineModel" "most" "J" ∈ TB := tb 1174 (by decide +kernel) rfl
theorem fl_M_243 : Cond.fieldLink R_M 243 "WasmMachineModel" "globals" "I" ∈ TB := tb 1175 (by decide +kernel) rfl
theorem fl_M_246 : Cond.fieldLink R_M 246 "WasmMachineModel" "exports" "I" ∈ TB := tb 1178 (by decide +kernel) rfl
theorem fl_M_249 : Cond.fieldLink R_M 249 "WasmMachineModel" "segments" "I" ∈ TB := tb 1182 (by decide +kernel) rfl
theorem fl_M_263 : Cond.fieldLink R_M 263 "WasmMachineModel" "many" "I" ∈ TB := tb 1187 (by decide +kernel) rfl
theorem fl_M_273 : Cond.fieldLink R_M 273 "WasmMachineModel" "labels" "I" ∈ TB := tb 1199 (by decide +kernel) rfl
theorem fl_M_286 : Cond.fieldLink R_M 286 "WasmMachineModel" "top" "I" ∈ TB := tb 1202 (by decide +kernel) rfl
theorem fl_M_289 : Cond.fieldLink R_M 289 "WasmMachineModel" "deep" "I" ∈ TB := tb 1201 (by decide +kernel) rfl
theorem fl_M_340 : Cond.fieldLink R_M 340 "WasmMachineModel" "calls" "I" ∈ TB := tb 1213 (by decide +kernel) rfl
theorem fl_M_343 : Cond.fieldLink R_M 343 "WasmMachineModel" "sp" "I" ∈ TB := tb 1214 (by decide +kernel) rfl
theorem m_constantLong_M_166 : Cond.constantLong R_M 166 (-1) ∈ TB := tb 1430 (by decide +kernel) rfl
theorem m_constantLong_M_235 : Cond.constantLong R_M 235 4 ∈ TB := tb 1417 (by decide +kernel) rfl
theorem m_constantLong_M_261 : Cond.constantLong R_M 261 12 ∈ TB := tb 1447 (by decide +kernel) rfl
theorem m_constantLong_M_282 : Cond.constantLong R_M 282 4294967295 ∈ TB := tb 1524 (by decide +kernel) rfl
theorem m_constantLong_M_284 : Cond.constantLong R_M 284 64 ∈ TB := tb 1525 (by decide +kernel) rfl
theorem m_constant_M_355 : Cond.constant R_M 355 100000 ∈ TB := tb 1550 (by decide +kernel) rfl
theorem m_constant_M_384 : Cond.constant R_M 384 (-2147483648) ∈ TB := tb 1586 (by decide +kernel) rfl
theorem mi_M : Cond.initialized R_M ∈ TB := tb 139 (by decide +kernel) rfl
theorem mn_M_will : Cond.instanceMethod y_M_will ∈ TB := tb 1379 (by decide +kernel) rfl
theorem ml_M_158 : Cond.methodLink R_M 158 y_M_will ∈ TB := tb 1377 (by decide +kernel) rfl
theorem me_M_M_will : Cond.selects R_M y_M_will y_M_will ∈ TB := tb 75 (by decide +kernel) rfl
theorem cw_M_158 {R : Room} {s : State} {args : Array Value} (hts : ∀ w ∈ TB, w.before args s = true) (hN : NW s) (hR : 0 + 1 ≤ R.frames ∧ 8 + (3 + 11) + 0 ≤ R.locals) : CallW R s args R_M R_M 158 y_M_will b_M_will 3 none (Cond.code y_M_will b_M_will 3 none :: TB) (rmX 0 0) 0 0 2 := x_V hts hR mc_M_will mi_M ml_M_158 (by decide +kernel) mn_M_will me_M_M_will
theorem mn_M_next : Cond.instanceMethod y_M_next ∈ TB := tb 1375 (by decide +kernel) rfl
theorem ml_M_162 : Cond.methodLink R_M 162 y_M_next ∈ TB := tb 1373 (by decide +kernel) rfl
theorem me_M_M_next : Cond.selects R_M y_M_next y_M_next ∈ TB := tb 74 (by decide +kernel) rfl
theorem cw_M_162 {R : Room} {s : State} {args : Array Value} (hts : ∀ w ∈ TB, w.before args s = true) (hN : NW s) (hR : 1 + 1 ≤ R.frames ∧ 8 + (1 + 11) + 22 ≤ R.locals) : CallW R s args R_M R_M 162 y_M_next b_M_next 1 (some .int) (Cond.code y_M_next b_M_next 1 (some .int) :: TB) (rmX 1 22) 0 0 0 := x_V hts hR mc_M_next mi_M ml_M_162 (by decide +kernel) mn_M_next me_M_M_next
theorem mn_M_unsigned : Cond.instanceMethod y_M_unsigned ∈ TB := tb 1387 (by decide +kernel) rfl
theorem ml_M_168 : Cond.methodLink R_M 168 y_M_unsigned ∈ TB := tb 1385 (by decide +kernel) rfl
theorem me_M_M_unsigned : Cond.selects R_M y_M_unsigned y_M_unsigned ∈ TB := tb 77 (by decide +kernel) rfl
theorem cw_M_168 {R : Room} {s : State} {args : Array Value} (hts : ∀ w ∈ TB, w.before args s = true) (hN : NW s) (hR : 2 + 1 ≤ R.frames ∧ 8 + (6 + 11) + 42 ≤ R.locals) : CallW R s args R_M R_M 168 y_M_unsigned b_M_unsigned 6 (some .long) (Cond.code y_M_unsigned b_M_unsigned 6 (some .long) :: TB) (rmX 2 42) 0 0 0 := x_V hts hR mc_M_unsigned mi_M ml_M_168 (by decide +kernel) mn_M_unsigned me_M_M_unsigned
theorem mn_M_exactly : Cond.instanceMethod y_M_exactly ∈ TB := tb 1371 (by decide +kernel) rfl
theorem ml_M_172 : Cond.methodLink R_M 172 y_M_exactly ∈ TB := tb 1369 (by decide +kernel) rfl
theorem me_M_M_exactly : Cond.selects R_M y_M_exactly y_M_exactly ∈ TB := tb 73 (by decide +kernel) rfl
theorem cw_M_172 {R : Room} {s : State} {args : Array Value} (hts : ∀ w ∈ TB, w.before args s = true) (hN : NW s) (hR : 2 + 1 ≤ R.frames ∧ 8 + (3 + 11) + 42 ≤ R.locals) : CallW R s args R_M R_M 172 y_M_exactly b_M_exactly 3 none (Cond.code y_M_exactly b_M_exactly 3 none :: TB) (rmX 2 42) 0 0 1 := x_V hts hR mc_M_exactly mi_M ml_M_172 (by decide +kernel) mn_M_exactly me_M_M_exactly
theorem mn_M_signed : Cond.instanceMethod y_M_signed ∈ TB := tb 1428 (by decide +kernel) rfl
theorem ml_M_176 : Cond.methodLink R_M 176 y_M_signed ∈ TB := tb 1426 (by decide +kernel) rfl
theorem me_M_M_signed : Cond.selects R_M y_M_signed y_M_signed ∈ TB := tb 87 (by decide +kernel) rfl
theorem cw_M_176 {R : Room} {s : State} {args : Array Value} (hts : ∀ w ∈ TB, w.before args s = true) (hN : NW s) (hR : 2 + 1 ≤ R.frames ∧ 8 + (7 + 11) + 42 ≤ R.locals) : CallW R s args R_M R_M 176 y_M_signed b_M_signed 7 (some .int) (Cond.code y_M_signed b_M_signed 7 (some .int) :: TB) (rmX 2 42) 0 0 0 := x_V hts hR mc_M_signed mi_M ml_M_176 (by decide +kernel) mn_M_signed me_M_M_signed
theorem mn_M_ahead : Cond.instanceMethod y_M_ahead ∈ TB := tb 1383 (by decide +kernel) rfl
theorem ml_M_179 : Cond.methodLink R_M 179 y_M_ahead ∈ TB := tb 1381 (by decide +kernel) rfl
theorem me_M_M_ahead : Cond.selects R_M y_M_ahead y_M_ahead ∈ TB := tb 76 (by decide +kernel) rfl
theorem cw_M_179 {R : Room} {s : State} {args : Array Value} (hts : ∀ w ∈ TB, w.before args s = true) (hN : NW s) (hR : 3 + 1 ≤ R.frames ∧ 8 + (3 + 11) + 67 ≤ R.locals) : CallW R s args R_M R_M 179 y_M_ahead b_M_ahead 3 (some .int) (Cond.code y_M_ahead b_M_ahead 3 (some .int) :: TB) (rmX 3 67) 0 0 0 := x_V hts hR mc_M_ahead mi_M ml_M_179 (by decide +kernel) mn_M_ahead me_M_M_ahead
theorem mn_M_readSection : Cond.instanceMethod y_M_readSection ∈ TB := tb 1391 (by decide +kernel) rfl
theorem ml_M_182 : Cond.methodLink R_M 182 y_M_readSection ∈ TB := tb 1389 (by decide +kernel) rfl
theorem me_M_M_readSection : Cond.selects R_M y_M_readSection y_M_readSection ∈ TB := tb 78 (by decide +kernel) rfl
theorem cw_M_182 {R : Room} {s : State} {args : Array Value} (hts : ∀ w ∈ TB, w.before args s = true) (hN : NW s) (hR : 7 + 1 ≤ R.frames ∧ 8 + (2 + 11) + 165 ≤ R.locals) : CallW R s args R_M R_M 182 y_M_readSection b_M_readSection 2 none (Cond.code y_M_readSection b_M_readSection 2 none :: TB) (rmX 7 165) 0 0 1 := x_V hts hR mc_M_readSection mi_M ml_M_182 (by decide +kernel) mn_M_readSection me_M_M_readSection
theorem mn_M_readTypes : Cond.instanceMethod y_M_readTypes ∈ TB := tb 1395 (by decide +kernel) rfl
theorem ml_M_191 : Cond.methodLink R_M 191 y_M_readTypes ∈ TB := tb 1393 (by decide +kernel) rfl
theorem me_M_M_readTypes : Cond.selects R_M y_M_readTypes y_M_readTypes ∈ TB := tb 79 (by decide +kernel) rfl
theorem cw_M_191 {R : Room} {s : State} {args : Array Value} (hts : ∀ w ∈ TB, w.before args s = true) (hN : NW s) (hR : 4 + 1 ≤ R.frames ∧ 8 + (4 + 11) + 90 ≤ R.locals) : CallW R s args R_M R_M 191 y_M_readTypes b_M_readTypes 4 none (Cond.code y_M_readTypes b_M_readTypes 4 none :: TB) (rmX 4 90) 0 0 0 := x_V hts hR mc_M_readTypes mi_M ml_M_191 (by decide +kernel) mn_M_readTypes me_M_M_readTypes
theorem mn_M_readFunctions : Cond.instanceMethod y_M_readFunctions ∈ TB := tb 1407 (by decide +kernel) rfl
theorem ml_M_194 : Cond.methodLink R_M 194 y_M_readFunctions ∈ TB := tb 1405 (by decide +kernel) rfl
theorem me_M_M_readFunctions : Cond.selects R_M y_M_readFunctions y_M_readFunctions ∈ TB := tb 82 (by decide +kernel) rfl
theorem cw_M_194 {R : Room} {s : State} {args : Array Value} (hts : ∀ w ∈ TB, w.before args s = true) (hN : NW s) (hR : 4 + 1 ≤ R.frames ∧ 8 + (3 + 11) + 90 ≤ R.locals) : CallW R s args R_M R_M 194 y_M_readFunctions b_M_readFunctions 3 none (Cond.code y_M_readFunctions b_M_readFunctions 3 none :: TB) (rmX 4 90) 0 0 0 := x_V hts hR mc_M_readFunctions mi_M ml_M_194 (by decide +kernel) mn_M_readFunctions me_M_M_readFunctions
theorem mn_M_readMemory : Cond.instanceMethod y_M_readMemory ∈ TB := tb 1411 (by decide +kernel) rfl
theorem ml_M_197 : Cond.methodLink R_M 197 y_M_readMemory ∈ TB := tb 1409 (by decide +kernel) rfl
theorem me_M_M_readMemory : Cond.selects R_M y_M_readMemory y_M_readMemory ∈ TB := tb 83 (by decide +kernel) rfl
theorem cw_M_197 {R : Room} {s : State} {args : Array Value} (hts : ∀ w ∈ TB, w.before args s = true) (hN : NW s) (hR : 4 + 1 ≤ R.frames ∧ 8 + (1 + 11) + 90 ≤ R.locals) : CallW R s args R_M R_M 197 y_M_readMemory b_M_readMemory 1 none (Cond.code y_M_readMemory b_M_readMemory 1 none :: TB) (rmX 4 90) 0 0 0 := x_V hts hR mc_M_readMemory mi_M ml_M_197 (by decide +kernel) mn_M_readMemory me_M_M_readMemory
theorem mn_M_readGlobals : Cond.instanceMethod y_M_readGlobals ∈ TB := tb 1420 (by decide +kernel) rfl
theorem ml_M_200 : Cond.methodLink R_M 200 y_M_readGlobals ∈ TB := tb 1418 (by decide +kernel) rfl
theorem me_M_M_readGlobals : Cond.selects R_M y_M_readGlobals y_M_readGlobals ∈ TB := tb 85 (by decide +kernel) rfl
theorem cw_M_200 {R : Room} {s : State} {args : Array Value} (hts : ∀ w ∈ TB, w.before args s = true) (hN : NW s) (hR : 4 + 1 ≤ R.frames ∧ 8 + (3 + 11) + 90 ≤ R.locals) : CallW R s args R_M R_M 200 y_M_readGlobals b_M_readGlobals 3 none (Cond.code y_M_readGlobals b_M_readGlobals 3 none :: TB) (rmX 4 90) 0 0 0 := x_V hts hR mc_M_readGlobals mi_M ml_M_200 (by decide +kernel) mn_M_readGlobals me_M_M_readGlobals
theorem mn_M_readExports : Cond.instanceMethod y_M_readExports ∈ TB := tb 1433 (by decide +kernel) rfl
theorem ml_M_203 : Cond.methodLink R_M 203 y_M_readExports ∈ TB := tb 1431 (by decide +kernel) rfl
theorem me_M_M_readExports : Cond.selects R_M y_M_readExports y_M_readExports ∈ TB := tb 88 (by decide +kernel) rfl
theorem cw_M_203 {R : Room} {s : State} {args : Array Value} (hts : ∀ w ∈ TB, w.before args s = true) (hN : NW s) (hR : 4 + 1 ≤ R.frames ∧ 8 + (6 + 11) + 90 ≤ R.locals) : CallW R s args R_M R_M 203 y_M_readExports b_M_readExports 6 none (Cond.code y_M_readExports b_M_readExports 6 none :: TB) (rmX 4 90) 0 0 0 := x_V hts hR mc_M_readExports mi_M ml_M_203 (by decide +kernel) mn_M_readExports me_M_M_readExports
theorem mn_M_readCode : Cond.instanceMethod y_M_readCode ∈ TB := tb 1437 (by decide +kernel) rfl
theorem ml_M_206 : Cond.methodLink R_M 206 y_M_readCode ∈ TB := tb 1435 (by decide +kernel) rfl
theorem me_M_M_readCode : Cond.selects R_M y_M_readCode y_M_readCode ∈ TB := tb 89 (by decide +kernel) rfl
theorem cw_M_206 {R : Room} {s : State} {args : Array Value} (hts : ∀ w ∈ TB, w.before args s = true) (hN : NW s) (hR : 6 + 1 ≤ R.frames ∧ 8 + (6 + 11) + 140 ≤ R.locals) : CallW R s args R_M R_M 206 y_M_readCode b_M_readCode 6 none (Cond.code y_M_readCode b_M_readCode 6 none :: TB) (rmX 6 140) 0 0 0 := x_V hts hR mc_M_readCode mi_M ml_M_206 (by decide +kernel) mn_M_readCode me_M_M_readCode
theorem mn_M_readData : Cond.instanceMethod y_M_readData ∈ TB := tb 1461 (by decide +kernel) rfl
theorem ml_M_209 : Cond.methodLink R_M 209 y_M_readData ∈ TB := tb 1459 (by decide +kernel) rfl
theorem me_M_M_readData : Cond.selects R_M y_M_readData y_M_readData ∈ TB := tb 94 (by decide +kernel) rfl
theorem cw_M_209 {R : Room} {s : State} {args : Array Value} (hts : ∀ w ∈ TB, w.before args s = true) (hN : NW s) (hR : 4 + 1 ≤ R.frames ∧ 8 + (4 + 11) + 90 ≤ R.locals) : CallW R s args R_M R_M 209 y_M_readData b_M_readData 4 none (Cond.code y_M_readData b_M_readData 4 none :: TB) (rmX 4 90) 0 0 0 := x_V hts hR mc_M_readData mi_M ml_M_209 (by decide +kernel) mn_M_readData me_M_M_readData
theorem mn_M_count : Cond.instanceMethod y_M_count ∈ TB := tb 1399 (by decide +kernel) rfl
theorem ml_M_212 : Cond.methodLink R_M 212 y_M_count ∈ TB := tb 1397 (by decide +kernel) rfl
theorem me_M_M_count : Cond.selects R_M y_M_count y_M_count ∈ TB := tb 80 (by decide +kernel) rfl
theorem cw_M_212 {R : Room} {s : State} {args : Array Value} (hts : ∀ w ∈ TB, w.before args s = true) (hN : NW s) (hR : 3 + 1 ≤ R.frames ∧ 8 + (4 + 11) + 67 ≤ R.locals) : CallW R s args R_M R_M 212 y_M_count b_M_count 4 (some .int) (Cond.code y_M_count b_M_count 4 (some .int) :: TB) (rmX 3 67) 0 0 1 := x_V hts hR mc_M_count mi_M ml_M_212 (by decide +kernel) mn_M_count me_M_M_count
theorem mn_M_value : Cond.instanceMethod y_M_value ∈ TB := tb 1403 (by decide +kernel) rfl
theorem ml_M_216 : Cond.methodLink R_M 216 y_M_value ∈ TB := tb 1401 (by decide +kernel) rfl
theorem me_M_M_value : Cond.selects R_M y_M_value y_M_value ∈ TB := tb 81 (by decide +kernel) rfl
theorem cw_M_216 {R : Room} {s : State} {args : Array Value} (hts : ∀ w ∈ TB, w.before args s = true) (hN : NW s) (hR : 2 + 1 ≤ R.frames ∧ 8 + (2 + 11) + 42 ≤ R.locals) : CallW R s args R_M R_M 216 y_M_value b_M_value 2 none (Cond.code y_M_value b_M_value 2 none :: TB) (rmX 2 42) 0 0 0 := x_V hts hR mc_M_value mi_M ml_M_216 (by decide +kernel) mn_M_value me_M_M_value
theorem mn_M_one : Cond.instanceMethod y_M_one ∈ TB := tb 1415 (by decide +kernel) rfl
theorem ml_M_225 : Cond.methodLink R_M 225 y_M_one ∈ TB := tb 1413 (by decide +kernel) rfl
theorem me_M_M_one : Cond.selects R_M y_M_one y_M_one ∈ TB := tb 84 (by decide +kernel) rfl
theorem cw_M_225 {R : Room} {s : State} {args : Array Value} (hts : ∀ w ∈ TB, w.before args s = true) (hN : NW s) (hR : 2 + 1 ≤ R.frames ∧ 8 + (3 + 11) + 42 ≤ R.locals) : CallW R s args R_M R_M 225 y_M_one b_M_one 3 (some .int) (Cond.code y_M_one b_M_one 3 (some .int) :: TB) (rmX 2 42) 0 0 1 := x_V hts hR mc_M_one mi_M ml_M_225 (by decide +kernel) mn_M_one me_M_M_one
theorem mn_M_constant : Cond.instanceMethod y_M_constant ∈ TB := tb 1424 (by decide +kernel) rfl
theorem ml_M_240 : Cond.methodLink R_M 240 y_M_constant ∈ TB := tb 1422 (by decide +kernel) rfl
theorem me_M_M_constant : Cond.selects R_M y_M_constant y_M_constant ∈ TB := tb 86 (by decide +kernel) rfl
theorem cw_M_240 {R : Room} {s : State} {args : Array Value} (hts : ∀ w ∈ TB, w.before args s = true) (hN : NW s) (hR : 3 + 1 ≤ R.frames ∧ 8 + (2 + 11) + 68 ≤ R.locals) : CallW R s args R_M R_M 240 y_M_constant b_M_constant 2 (some .int) (Cond.code y_M_constant b_M_constant 2 (some .int) :: TB) (rmX 3 68) 0 0 0 := x_V hts hR mc_M_constant mi_M ml_M_240 (by decide +kernel) mn_M_constant me_M_M_constant
theorem mn_M_readLocals : Cond.instanceMethod y_M_readLocals ∈ TB := tb 1441 (by decide +kernel) rfl
theorem ml_M_252 : Cond.methodLink R_M 252 y_M_readLocals ∈ TB := tb 1439 (by decide +kernel) rfl
theorem me_M_M_readLocals : Cond.selects R_M y_M_readLocals y_M_readLocals ∈ TB := tb 90 (by decide +kernel) rfl
theorem cw_M_252 {R : Room} {s : State} {args : Array Value} (hts : ∀ w ∈ TB, w.before args s = true) (hN : NW s) (hR : 3 + 1 ≤ R.frames ∧ 8 + (10 + 11) + 67 ≤ R.locals) : CallW R s args R_M R_M 252 y_M_readLocals b_M_readLocals 10 none (Cond.code y_M_readLocals b_M_readLocals 10 none :: TB) (rmX 3 67) 0 0 1 := x_V hts hR mc_M_readLocals mi_M ml_M_252 (by decide +kernel) mn_M_readLocals me_M_M_readLocals
theorem mn_M_readBody : Cond.instanceMethod y_M_readBody ∈ TB := tb 1450 (by decide +kernel) rfl
theorem ml_M_255 : Cond.methodLink R_M 255 y_M_readBody ∈ TB := tb 1448 (by decide +kernel) rfl
theorem me_M_M_readBody : Cond.selects R_M y_M_readBody y_M_readBody ∈ TB := tb 92 (by decide +kernel) rfl
theorem cw_M_255 {R : Room} {s : State} {args : Array Value} (hts : ∀ w ∈ TB, w.before args s = true) (hN : NW s) (hR : 5 + 1 ≤ R.frames ∧ 8 + (7 + 11) + 114 ≤ R.locals) : CallW R s args R_M R_M 255 y_M_readBody b_M_readBody 7 none (Cond.code y_M_readBody b_M_readBody 7 none :: TB) (rmX 5 114) 0 0 1 := x_V hts hR mc_M_readBody mi_M ml_M_255 (by decide +kernel) mn_M_readBody me_M_M_readBody
theorem mn_M_parameters : Cond.instanceMethod y_M_parameters ∈ TB := tb 1445 (by decide +kernel) rfl
theorem ml_M_258 : Cond.methodLink R_M 258 y_M_parameters ∈ TB := tb 1443 (by decide +kernel) rfl
theorem me_M_M_parameters : Cond.selects R_M y_M_parameters y_M_parameters ∈ TB := tb 91 (by decide +kernel) rfl
theorem cw_M_258 {R : Room} {s : State} {args : Array Value} (hts : ∀ w ∈ TB, w.before args s = true) (hN : NW s) (hR : 0 + 1 ≤ R.frames ∧ 8 + (2 + 11) + 0 ≤ R.locals) : CallW R s args R_M R_M 258 y_M_parameters b_M_parameters 2 (some .int) (Cond.code y_M_parameters b_M_parameters 2 (some .int) :: TB) (rmX 0 0) 0 0 1 := x_V hts hR mc_M_parameters mi_M ml_M_258 (by decide +kernel) mn_M_parameters me_M_M_parameters
theorem ms_M_isKnown : Cond.static y_M_isKnown ∈ TB := tb 1453 (by decide +kernel) rfl
theorem ml_M_266 : Cond.methodLink R_M 266 y_M_isKnown ∈ TB := tb 1452 (by decide +kernel) rfl
theorem cw_M_266 {R : Room} {s : State} {args : Array Value} (hts : ∀ w ∈ TB, w.before args s = true) (hN : NW s) (hR : 0 + 1 ≤ R.frames ∧ 8 + (1 + 11) + 0 ≤ R.locals) : CallB R s args R_M 266 y_M_isKnown b_M_isKnown 1 (some .boolean) (Cond.code y_M_isKnown b_M_isKnown 1 (some .boolean) :: TB) (rmX 0 0) 0 0 1 ∧ (Cond.static y_M_isKnown).before args s = true := ⟨x_B hts hR mc_M_isKnown mi_M ml_M_266 (by decide +kernel), hts _ ms_M_isKnown⟩
theorem mn_M_readNumbers : Cond.instanceMethod y_M_readNumbers ∈ TB := tb 1457 (by decide +kernel) rfl
theorem ml_M_270 : Cond.methodLink R_M 270 y_M_readNumbers ∈ TB := tb 1455 (by decide +kernel) rfl
theorem me_M_M_readNumbers : Cond.selects R_M y_M_readNumbers y_M_readNumbers ∈ TB := tb 93 (by decide +kernel) rfl
theorem cw_M_270 {R : Room} {s : State} {args : Array Value} (hts : ∀ w ∈ TB, w.before args s = true) (hN : NW s) (hR : 4 + 1 ≤ R.frames ∧ 8 + (5 + 11) + 90 ≤ R.locals) : CallW R s args R_M R_M 270 y_M_readNumbers b_M_readNumbers 5 none (Cond.code y_M_readNumbers b_M_readNumbers 5 none :: TB) (rmX 4 90) 0 0 1 := x_V hts hR mc_M_readNumbers mi_M ml_M_270 (by decide +kernel) mn_M_readNumbers me_M_M_readNumbers
theorem mn_M_isExport : Cond.instanceMethod y_M_isExport ∈ TB := tb 1469 (by decide +kernel) rfl
theorem ml_M_276 : Cond.methodLink R_M 276 y_M_isExport ∈ TB := tb 1467 (by decide +kernel) rfl
theorem me_M_M_isExport : Cond.selects R_M y_M_isExport y_M_isExport ∈ TB := tb 96 (by decide +kernel) rfl
theorem cw_M_276 {R : Room} {s : State} {args : Array Value} (hts : ∀ w ∈ TB, w.before args s = true) (hN : NW s) (hR : 0 + 1 ≤ R.frames ∧ 8 + (5 + 11) + 0 ≤ R.locals) : CallW R s args R_M R_M 276 y_M_isExport b_M_isExport 5 (some .boolean) (Cond.code y_M_isExport b_M_isExport 5 (some .boolean) :: TB) (rmX 0 0) 0 0 1 := x_V hts hR mc_M_isExport mi_M ml_M_276 (by decide +kernel) mn_M_isExport me_M_M_isExport
theorem mn_M_validateBody : Cond.instanceMethod y_M_validateBody ∈ TB := tb 1473 (by decide +kernel) rfl
theorem ml_M_279 : Cond.methodLink R_M 279 y_M_validateBody ∈ TB := tb 1471 (by decide +kernel) rfl
theorem me_M_M_validateBody : Cond.selects R_M y_M_validateBody y_M_validateBody ∈ TB := tb 97 (by decide +kernel) rfl
theorem cw_M_279 {R : Room} {s : State} {args : Array Value} (hts : ∀ w ∈ TB, w.before args s = true) (hN : NW s) (hR : 4 + 1 ≤ R.frames ∧ 8 + (4 + 11) + 94 ≤ R.locals) : CallW R s args R_M R_M 279 y_M_validateBody b_M_validateBody 4 none (Cond.code y_M_validateBody b_M_validateBody 4 none :: TB) (rmX 4 94) 0 0 1 := x_V hts hR mc_M_validateBody mi_M ml_M_279 (by decide +kernel) mn_M_validateBody me_M_M_validateBody
theorem mn_M_resultsOf : Cond.instanceMethod y_M_resultsOf ∈ TB := tb 1493 (by decide +kernel) rfl
theorem ml_M_292 : Cond.methodLink R_M 292 y_M_resultsOf ∈ TB := tb 1491 (by decide +kernel) rfl
theorem me_M_M_resultsOf : Cond.selects R_M y_M_resultsOf y_M_resultsOf ∈ TB := tb 102 (by decide +kernel) rfl
theorem cw_M_292 {R : Room} {s : State} {args : Array Value} (hts : ∀ w ∈ TB, w.before args s = true) (hN : NW s) (hR : 0 + 1 ≤ R.frames ∧ 8 + (2 + 11) + 0 ≤ R.locals) : CallW R s args R_M R_M 292 y_M_resultsOf b_M_resultsOf 2 (some .int) (Cond.code y_M_resultsOf b_M_resultsOf 2 (some .int) :: TB) (rmX 0 0) 0 0 1 := x_V hts hR mc_M_resultsOf mi_M ml_M_292 (by decide +kernel) mn_M_resultsOf me_M_M_resultsOf
theorem mn_M_arity : Cond.instanceMethod y_M_arity ∈ TB := tb 1489 (by decide +kernel) rfl
theorem ml_M_295 : Cond.methodLink R_M 295 y_M_arity ∈ TB := tb 1487 (by decide +kernel) rfl
theorem me_M_M_arity : Cond.selects R_M y_M_arity y_M_arity ∈ TB := tb 101 (by decide +kernel) rfl
theorem cw_M_295 {R : Room} {s : State} {args : Array Value} (hts : ∀ w ∈ TB, w.before args s = true) (hN : NW s) (hR : 1 + 1 ≤ R.frames ∧ 8 + (3 + 11) + 21 ≤ R.locals) : CallW R s args R_M R_M 295 y_M_arity b_M_arity 3 (some .int) (Cond.code y_M_arity b_M_arity 3 (some .int) :: TB) (rmX 1 21) 0 0 2 := x_V hts hR mc_M_arity mi_M ml_M_295 (by decide +kernel) mn_M_arity me_M_M_arity
theorem mn_M_validateBlock : Cond.instanceMethod y_M_validateBlock ∈ TB := tb 1477 (by decide +kernel) rfl
theorem ml_M_299 : Cond.methodLink R_M 299 y_M_validateBlock ∈ TB := tb 1475 (by decide +kernel) rfl
theorem me_M_M_validateBlock : Cond.selects R_M y_M_validateBlock y_M_validateBlock ∈ TB := tb 98 (by decide +kernel) rfl
theorem cw_M_299 {R : Room} {s : State} {args : Array Value} (hts : ∀ w ∈ TB, w.before args s = true) (hN : NW s) (hR : 2 + 1 ≤ R.frames ∧ 8 + (6 + 11) + 44 ≤ R.locals) : CallW R s args R_M R_M 299 y_M_validateBlock b_M_validateBlock 6 none (Cond.code y_M_validateBlock b_M_validateBlock 6 none :: TB) (rmX 2 44) 0 0 2 := x_V hts hR mc_M_validateBlock mi_M ml_M_299 (by decide +kernel) mn_M_validateBlock me_M_M_validateBlock
theorem mn_M_validateJump : Cond.instanceMethod y_M_validateJump ∈ TB := tb 1501 (by decide +kernel) rfl
theorem ml_M_303 : Cond.methodLink R_M 303 y_M_validateJump ∈ TB := tb 1499 (by decide +kernel) rfl
theorem me_M_M_validateJump : Cond.selects R_M y_M_validateJump y_M_validateJump ∈ TB := tb 104 (by decide +kernel) rfl
theorem cw_M_303 {R : Room} {s : State} {args : Array Value} (hts : ∀ w ∈ TB, w.before args s = true) (hN : NW s) (hR : 3 + 1 ≤ R.frames ∧ 8 + (8 + 11) + 67 ≤ R.locals) : CallW R s args R_M R_M 303 y_M_validateJump b_M_validateJump 8 none (Cond.code y_M_validateJump b_M_validateJump 8 none :: TB) (rmX 3 67) 0 0 2 := x_V hts hR mc_M_validateJump mi_M ml_M_303 (by decide +kernel) mn_M_validateJump me_M_M_validateJump
theorem mn_M_validatePlain : Cond.instanceMethod y_M_validatePlain ∈ TB := tb 1509 (by decide +kernel) rfl
theorem ml_M_306 : Cond.methodLink R_M 306 y_M_validatePlain ∈ TB := tb 1507 (by decide +kernel) rfl
theorem me_M_M_validatePlain : Cond.selects R_M y_M_validatePlain y_M_validatePlain ∈ TB := tb 106 (by decide +kernel) rfl
theorem cw_M_306 {R : Room} {s : State} {args : Array Value} (hts : ∀ w ∈ TB, w.before args s = true) (hN : NW s) (hR : 2 + 1 ≤ R.frames ∧ 8 + (4 + 11) + 44 ≤ R.locals) : CallW R s args R_M R_M 306 y_M_validatePlain b_M_validatePlain 4 none (Cond.code y_M_validatePlain b_M_validatePlain 4 none :: TB) (rmX 2 44) 0 0 2 := x_V hts hR mc_M_validatePlain mi_M ml_M_306 (by decide +kernel) mn_M_validatePlain me_M_M_validatePlain
theorem mn_M_kill : Cond.instanceMethod y_M_kill ∈ TB := tb 1481 (by decide +kernel) rfl
theorem ml_M_309 : Cond.methodLink R_M 309 y_M_kill ∈ TB := tb 1479 (by decide +kernel) rfl
theorem me_M_M_kill : Cond.selects R_M y_M_kill y_M_kill ∈ TB := tb 99 (by decide +kernel) rfl
theorem cw_M_309 {R : Room} {s : State} {args : Array Value} (hts : ∀ w ∈ TB, w.before args s = true) (hN : NW s) (hR : 0 + 1 ≤ R.frames ∧ 8 + (1 + 11) + 0 ≤ R.locals) : CallW R s args R_M R_M 309 y_M_kill b_M_kill 1 none (Cond.code y_M_kill b_M_kill 1 none :: TB) (rmX 0 0) 0 0 0 := x_V hts hR mc_M_kill mi_M ml_M_309 (by decide +kernel) mn_M_kill me_M_M_kill
theorem mn_M_pop : Cond.instanceMethod y_M_pop ∈ TB := tb 1485 (by decide +kernel) rfl
theorem ml_M_312 : Cond.methodLink R_M 312 y_M_pop ∈ TB := tb 1483 (by decide +kernel) rfl
theorem me_M_M_pop : Cond.selects R_M y_M_pop y_M_pop ∈ TB := tb 100 (by decide +kernel) rfl
theorem cw_M_312 {R : Room} {s : State} {args : Array Value} (hts : ∀ w ∈ TB, w.before args s = true) (hN : NW s) (hR : 1 + 1 ≤ R.frames ∧ 8 + (3 + 11) + 22 ≤ R.locals) : CallW R s args R_M R_M 312 y_M_pop b_M_pop 3 none (Cond.code y_M_pop b_M_pop 3 none :: TB) (rmX 1 22) 0 0 1 := x_V hts hR mc_M_pop mi_M ml_M_312 (by decide +kernel) mn_M_pop me_M_M_pop
theorem mn_M_push : Cond.instanceMethod y_M_push ∈ TB := tb 1497 (by decide +kernel) rfl
theorem ml_M_315 : Cond.methodLink R_M 315 y_M_push ∈ TB := tb 1495 (by decide +kernel) rfl
theorem me_M_M_push : Cond.selects R_M y_M_push y_M_push ∈ TB := tb 103 (by decide +kernel) rfl
theorem cw_M_315 {R : Room} {s : State} {args : Array Value} (hts : ∀ w ∈ TB, w.before args s = true) (hN : NW s) (hR : 1 + 1 ≤ R.frames ∧ 8 + (2 + 11) + 22 ≤ R.locals) : CallW R s args R_M R_M 315 y_M_push b_M_push 2 none (Cond.code y_M_push b_M_push 2 none :: TB) (rmX 1 22) 0 0 1 := x_V hts hR mc_M_push mi_M ml_M_315 (by decide +kernel) mn_M_push me_M_M_push
theorem mn_M_carried : Cond.instanceMethod y_M_carried ∈ TB := tb 1505 (by decide +kernel) rfl
theorem ml_M_318 : Cond.methodLink R_M 318 y_M_carried ∈ TB := tb 1503 (by decide +kernel) rfl
theorem me_M_M_carried : Cond.selects R_M y_M_carried y_M_carried ∈ TB := tb 105 (by decide +kernel) rfl
theorem cw_M_318 {R : Room} {s : State} {args : Array Value} (hts : ∀ w ∈ TB, w.before args s = true) (hN : NW s) (hR : 2 + 1 ≤ R.frames ∧ 8 + (5 + 11) + 43 ≤ R.locals) : CallW R s args R_M R_M 318 y_M_carried b_M_carried 5 (some .int) (Cond.code y_M_carried b_M_carried 5 (some .int) :: TB) (rmX 2 43) 0 0 2 := x_V hts hR mc_M_carried mi_M ml_M_318 (by decide +kernel) mn_M_carried me_M_M_carried
theorem mn_M_locals : Cond.instanceMethod y_M_locals ∈ TB := tb 1513 (by decide +kernel) rfl
theorem ml_M_322 : Cond.methodLink R_M 322 y_M_locals ∈ TB := tb 1511 (by decide +kernel) rfl
theorem me_M_M_locals : Cond.selects R_M y_M_locals y_M_locals ∈ TB := tb 107 (by decide +kernel) rfl
theorem cw_M_322 {R : Room} {s : State} {args : Array Value} (hts : ∀ w ∈ TB, w.before args s = true) (hN : NW s) (hR : 1 + 1 ≤ R.frames ∧ 8 + (2 + 11) + 21 ≤ R.locals) : CallW R s args R_M R_M 322 y_M_locals b_M_locals 2 (some .int) (Cond.code y_M_locals b_M_locals 2 (some .int) :: TB) (rmX 1 21) 0 0 1 := x_V hts hR mc_M_locals mi_M ml_M_322 (by decide +kernel) mn_M_locals me_M_M_locals
theorem ms_M_width : Cond.static y_M_width ∈ TB := tb 1516 (by decide +kernel) rfl
theorem ml_M_325 : Cond.methodLink R_M 325 y_M_width ∈ TB := tb 1515 (by decide +kernel) rfl
theorem cw_M_325 {R : Room} {s : State} {args : Array Value} (hts : ∀ w ∈ TB, w.before args s = true) (hN : NW s) (hR : 0 + 1 ≤ R.frames ∧ 8 + (1 + 11) + 0 ≤ R.locals) : CallB R s args R_M 325 y_M_width b_M_width 1 (some .int) (Cond.code y_M_width b_M_width 1 (some .int) :: TB) (rmX 0 0) 0 0 1 ∧ (Cond.static y_M_width).before args s = true := ⟨x_B hts hR mc_M_width mi_M ml_M_325 (by decide +kernel), hts _ ms_M_width⟩
theorem ms_M_takes : Cond.static y_M_takes ∈ TB := tb 1519 (by decide +kernel) rfl
theorem ml_M_328 : Cond.methodLink R_M 328 y_M_takes ∈ TB := tb 1518 (by decide +kernel) rfl
theorem cw_M_328 {R : Room} {s : State} {args : Array Value} (hts : ∀ w ∈ TB, w.before args s = true) (hN : NW s) (hR : 0 + 1 ≤ R.frames ∧ 8 + (1 + 11) + 0 ≤ R.locals) : CallB R s args R_M 328 y_M_takes b_M_takes 1 (some .int) (Cond.code y_M_takes b_M_takes 1 (some .int) :: TB) (rmX 0 0) 0 0 1 ∧ (Cond.static y_M_takes).before args s = true := ⟨x_B hts hR mc_M_takes mi_M ml_M_328 (by decide +kernel), hts _ ms_M_takes⟩
theorem ms_M_gives : Cond.static y_M_gives ∈ TB := tb 1522 (by decide +kernel) rfl
theorem ml_M_331 : Cond.methodLink R_M 331 y_M_gives ∈ TB := tb 1521 (by decide +kernel) rfl
theorem cw_M_331 {R : Room} {s : State} {args : Array Value} (hts : ∀ w ∈ TB, w.before args s = true) (hN : NW s) (hR : 0 + 1 ≤ R.frames ∧ 8 + (1 + 11) + 0 ≤ R.locals) : CallB R s args R_M 331 y_M_gives b_M_gives 1 (some .boolean) (Cond.code y_M_gives b_M_gives 1 (some .boolean) :: TB) (rmX 0 0) 0 0 1 ∧ (Cond.static y_M_gives).before args s = true := ⟨x_B hts hR mc_M_gives mi_M ml_M_331 (by decide +kernel), hts _ ms_M_gives⟩
theorem mn_M_readModule : Cond.instanceMethod y_M_readModule ∈ TB := tb 1367 (by decide +kernel) rfl
theorem ml_M_334 : Cond.methodLink R_M 334 y_M_readModule ∈ TB := tb 1365 (by decide +kernel) rfl
theorem me_M_M_readModule : Cond.selects R_M y_M_readModule y_M_readModule ∈ TB := tb 72 (by decide +kernel) rfl
theorem cw_M_334 {R : Room} {s : State} {args : Array Value} (hts : ∀ w ∈ TB, w.before args s = true) (hN : NW s) (hR : 8 + 1 ≤ R.frames ∧ 8 + (4 + 11) + 186 ≤ R.locals) : CallW R s args R_M R_M 334 y_M_readModule b_M_readModule 4 none (Cond.code y_M_readModule b_M_readModule 4 none :: TB) (rmX 8 186) 0 0 0 := x_V hts hR mc_M_readModule mi_M ml_M_334 (by decide +kernel) mn_M_readModule me_M_M_readModule
theorem mn_M_validate : Cond.instanceMethod y_M_validate ∈ TB := tb 1465 (by decide +kernel) rfl
theorem ml_M_337 : Cond.methodLink R_M 337 y_M_validate ∈ TB := tb 1463 (by decide +kernel) rfl
theorem me_M_M_validate : Cond.selects R_M y_M_validate y_M_validate ∈ TB := tb 95 (by decide +kernel) rfl
theorem cw_M_337 {R : Room} {s : State} {args : Array Value} (hts : ∀ w ∈ TB, w.before args s = true) (hN : NW s) (hR : 5 + 1 ≤ R.frames ∧ 8 + (2 + 11) + 117 ≤ R.locals) : CallW R s args R_M R_M 337 y_M_validate b_M_validate 2 none (Cond.code y_M_validate b_M_validate 2 none :: TB) (rmX 5 117) 0 0 0 := x_V hts hR mc_M_validate mi_M ml_M_337 (by decide +kernel) mn_M_validate me_M_M_validate
theorem mn_M_enter : Cond.instanceMethod y_M_enter ∈ TB := tb 1536 (by decide +kernel) rfl
theorem ml_M_346 : Cond.methodLink R_M 346 y_M_enter ∈ TB := tb 1534 (by decide +kernel) rfl
theorem me_M_M_enter : Cond.selects R_M y_M_enter y_M_enter ∈ TB := tb 108 (by decide +kernel) rfl
theorem cw_M_346 {R : Room} {s : State} {args : Array Value} (hts : ∀ w ∈ TB, w.before args s = true) (hN : NW s) (hR : 1 + 1 ≤ R.frames ∧ 8 + (3 + 11) + 21 ≤ R.locals) : CallW R s args R_M R_M 346 y_M_enter b_M_enter 3 none (Cond.code y_M_enter b_M_enter 3 none :: TB) (rmX 1 21) 0 0 1 := x_V hts hR mc_M_enter mi_M ml_M_346 (by decide +kernel) mn_M_enter me_M_M_enter
theorem mn_M_leave : Cond.instanceMethod y_M_leave ∈ TB := tb 1548 (by decide +kernel) rfl
theorem ml_M_349 : Cond.methodLink R_M 349 y_M_leave ∈ TB := tb 1546 (by decide +kernel) rfl
theorem me_M_M_leave : Cond.selects R_M y_M_leave y_M_leave ∈ TB := tb 110 (by decide +kernel) rfl
theorem cw_M_349 {R : Room} {s : State} {args : Array Value} (hts : ∀ w ∈ TB, w.before args s = true) (hN : NW s) (hR : 1 + 1 ≤ R.frames ∧ 8 + (4 + 11) + 21 ≤ R.locals) : CallW R s args R_M R_M 349 y_M_leave b_M_leave 4 none (Cond.code y_M_leave b_M_leave 4 none :: TB) (rmX 1 21) 0 0 0 := x_V hts hR mc_M_leave mi_M ml_M_349 (by decide +kernel) mn_M_leave me_M_M_leave
theorem mn_M_settle : Cond.instanceMethod y_M_settle ∈ TB := tb 1544 (by decide +kernel) rfl
theorem ml_M_352 : Cond.methodLink R_M 352 y_M_settle ∈ TB := tb 1542 (by decide +kernel) rfl
theorem me_M_M_settle : Cond.selects R_M y_M_settle y_M_settle ∈ TB := tb 109 (by decide +kernel) rfl
theorem cw_M_352 {R : Room} {s : State} {args : Array Value} (hts : ∀ w ∈ TB, w.before args s = true) (hN : NW s) (hR : 2 + 1 ≤ R.frames ∧ 8 + (3 + 11) + 44 ≤ R.locals) : CallW R s args R_M R_M 352 y_M_settle b_M_settle 3 none (Cond.code y_M_settle b_M_settle 3 none :: TB) (rmX 2 44) 0 0 0 := x_V hts hR mc_M_settle mi_M ml_M_352 (by decide +kernel) mn_M_settle me_M_M_settle
theorem mn_M_perform : Cond.instanceMethod y_M_perform ∈ TB := tb 1553 (by decide +kernel) rfl
theorem ml_M_356 : Cond.methodLink R_M 356 y_M_perform ∈ TB := tb 1551 (by decide +kernel) rfl
theorem me_M_M_perform : Cond.selects R_M y_M_perform y_M_perform ∈ TB := tb 111 (by decide +kernel) rfl
theorem cw_M_356 {R : Room} {s : State} {args : Array Value} (hts : ∀ w ∈ TB, w.before args s = true) (hN : NW s) (hR : 4 + 1 ≤ R.frames ∧ 8 + (7 + 11) + 94 ≤ R.locals) : CallW R s args R_M R_M 356 y_M_perform b_M_perform 7 (some .int) (Cond.code y_M_perform b_M_perform 7 (some .int) :: TB) (rmX 4 94) 0 0 1 := x_V hts hR mc_M_perform mi_M ml_M_356 (by decide +kernel) mn_M_perform me_M_M_perform
theorem mn_M_control : Cond.instanceMethod y_M_control ∈ TB := tb 1557 (by decide +kernel) rfl
theorem ml_M_359 : Cond.methodLink R_M 359 y_M_control ∈ TB := tb 1555 (by decide +kernel) rfl
theorem me_M_M_control : Cond.selects R_M y_M_control y_M_control ∈ TB := tb 112 (by decide +kernel) rfl
theorem cw_M_359 {R : Room} {s : State} {args : Array Value} (hts : ∀ w ∈ TB, w.before args s = true) (hN : NW s) (hR : 3 + 1 ≤ R.frames ∧ 8 + (5 + 11) + 70 ≤ R.locals) : CallW R s args R_M R_M 359 y_M_control b_M_control 5 (some .int) (Cond.code y_M_control b_M_control 5 (some .int) :: TB) (rmX 3 70) 0 0 1 := x_V hts hR mc_M_control mi_M ml_M_359 (by decide +kernel) mn_M_control me_M_M_control
theorem mn_M_remember : Cond.instanceMethod y_M_remember ∈ TB := tb 1569 (by decide +kernel) rfl
theorem ml_M_362 : Cond.methodLink R_M 362 y_M_remember ∈ TB := tb 1567 (by decide +kernel) rfl
theorem me_M_M_remember : Cond.selects R_M y_M_remember y_M_remember ∈ TB := tb 115 (by decide +kernel) rfl
theorem cw_M_362 {R : Room} {s : State} {args : Array Value} (hts : ∀ w ∈ TB, w.before args s = true) (hN : NW s) (hR : 2 + 1 ≤ R.frames ∧ 8 + (8 + 11) + 44 ≤ R.locals) : CallW R s args R_M R_M 362 y_M_remember b_M_remember 8 (some .int) (Cond.code y_M_remember b_M_remember 8 (some .int) :: TB) (rmX 2 44) 0 0 1 := x_V hts hR mc_M_remember mi_M ml_M_362 (by decide +kernel) mn_M_remember me_M_M_remember
theorem mn_M_pull : Cond.instanceMethod y_M_pull ∈ TB := tb 1561 (by decide +kernel) rfl
theorem ml_M_365 : Cond.methodLink R_M 365 y_M_pull ∈ TB := tb 1559 (by decide +kernel) rfl
theorem me_M_M_pull : Cond.selects R_M y_M_pull y_M_pull ∈ TB := tb 113 (by decide +kernel) rfl
theorem cw_M_365 {R : Room} {s : State} {args : Array Value} (hts : ∀ w ∈ TB, w.before args s = true) (hN : NW s) (hR : 0 + 1 ≤ R.frames ∧ 8 + (1 + 11) + 0 ≤ R.locals) : CallW R s args R_M R_M 365 y_M_pull b_M_pull 1 (some .int) (Cond.code y_M_pull b_M_pull 1 (some .int) :: TB) (rmX 0 0) 0 0 0 := x_V hts hR mc_M_pull mi_M ml_M_365 (by decide +kernel) mn_M_pull me_M_M_pull
theorem mn_M_give : Cond.instanceMethod y_M_give ∈ TB := tb 1573 (by decide +kernel) rfl
theorem ml_M_368 : Cond.methodLink R_M 368 y_M_give ∈ TB := tb 1571 (by decide +kernel) rfl
theorem me_M_M_give : Cond.selects R_M y_M_give y_M_give ∈ TB := tb 116 (by decide +kernel) rfl
theorem cw_M_368 {R : Room} {s : State} {args : Array Value} (hts : ∀ w ∈ TB, w.before args s = true) (hN : NW s) (hR : 0 + 1 ≤ R.frames ∧ 8 + (2 + 11) + 0 ≤ R.locals) : CallW R s args R_M R_M 368 y_M_give b_M_give 2 none (Cond.code y_M_give b_M_give 2 none :: TB) (rmX 0 0) 0 0 1 := x_V hts hR mc_M_give mi_M ml_M_368 (by decide +kernel) mn_M_give me_M_M_give
theorem ms_M_single : Cond.static y_M_single ∈ TB := tb 1580 (by decide +kernel) rfl
theorem ml_M_371 : Cond.methodLink R_M 371 y_M_single ∈ TB := tb 1579 (by decide +kernel) rfl
theorem cw_M_371 {R : Room} {s : State} {args : Array Value} (hts : ∀ w ∈ TB, w.before args s = true) (hN : NW s) (hR : 0 + 1 ≤ R.frames ∧ 8 + (4 + 11) + 0 ≤ R.locals) : CallB R s args R_M 371 y_M_single b_M_single 4 (some .int) (Cond.code y_M_single b_M_single 4 (some .int) :: TB) (rmX 0 0) 0 0 2 ∧ (Cond.static y_M_single).before args s = true := ⟨x_B hts hR mc_M_single mi_M ml_M_371 (by decide +kernel), hts _ ms_M_single⟩
theorem mn_M_both : Cond.instanceMethod y_M_both ∈ TB := tb 1584 (by decide +kernel) rfl
theorem ml_M_374 : Cond.methodLink R_M 374 y_M_both ∈ TB := tb 1582 (by decide +kernel) rfl
theorem me_M_M_both : Cond.selects R_M y_M_both y_M_both ∈ TB := tb 118 (by decide +kernel) rfl
theorem cw_M_374 {R : Room} {s : State} {args : Array Value} (hts : ∀ w ∈ TB, w.before args s = true) (hN : NW s) (hR : 1 + 1 ≤ R.frames ∧ 8 + (4 + 11) + 26 ≤ R.locals) : CallW R s args R_M R_M 374 y_M_both b_M_both 4 (some .int) (Cond.code y_M_both b_M_both 4 (some .int) :: TB) (rmX 1 26) 0 0 1 := x_V hts hR mc_M_both mi_M ml_M_374 (by decide +kernel) mn_M_both me_M_M_both
theorem mn_M_jump : Cond.instanceMethod y_M_jump ∈ TB := tb 1565 (by decide +kernel) rfl
theorem ml_M_377 : Cond.methodLink R_M 377 y_M_jump ∈ TB := tb 1563 (by decide +kernel) rfl
theorem me_M_M_jump : Cond.selects R_M y_M_jump y_M_jump ∈ TB := tb 114 (by decide +kernel) rfl
theorem cw_M_377 {R : Room} {s : State} {args : Array Value} (hts : ∀ w ∈ TB, w.before args s = true) (hN : NW s) (hR : 2 + 1 ≤ R.frames ∧ 8 + (9 + 11) + 42 ≤ R.locals) : CallW R s args R_M R_M 377 y_M_jump b_M_jump 9 none (Cond.code y_M_jump b_M_jump 9 none :: TB) (rmX 2 42) 0 0 2 := x_V hts hR mc_M_jump mi_M ml_M_377 (by decide +kernel) mn_M_jump me_M_M_jump
theorem mn_M_read : Cond.instanceMethod y_M_read ∈ TB := tb 1577 (by decide +kernel) rfl
theorem ml_M_381 : Cond.methodLink R_M 381 y_M_read ∈ TB := tb 1575 (by decide +kernel) rfl
theorem me_M_M_read : Cond.selects R_M y_M_read y_M_read ∈ TB := tb 117 (by decide +kernel) rfl
theorem cw_M_381 {R : Room} {s : State} {args : Array Value} (hts : ∀ w ∈ TB, w.before args s = true) (hN : NW s) (hR : 1 + 1 ≤ R.frames ∧ 8 + (5 + 11) + 20 ≤ R.locals) : CallW R s args R_M R_M 381 y_M_read b_M_read 5 (some .int) (Cond.code y_M_read b_M_read 5 (some .int) :: TB) (rmX 1 20) 0 0 2 := x_V hts hR mc_M_read mi_M ml_M_381 (by decide +kernel) mn_M_read me_M_M_read
theorem ms_M_compare : Cond.static y_M_compare ∈ TB := tb 1588 (by decide +kernel) rfl
theorem ml_M_385 : Cond.methodLink R_M 385 y_M_compare ∈ TB := tb 1587 (by decide +kernel) rfl
theorem cw_M_385 {R : Room} {s : State} {args : Array Value} (hts : ∀ w ∈ TB, w.before args s = true) (hN : NW s) (hR : 0 + 1 ≤ R.frames ∧ 8 + (7 + 11) + 0 ≤ R.locals) : CallB R s args R_M 385 y_M_compare b_M_compare 7 (some .boolean) (Cond.code y_M_compare b_M_compare 7 (some .boolean) :: TB) (rmX 0 0) 0 0 3 ∧ (Cond.static y_M_compare).before args s = true := ⟨x_B hts hR mc_M_compare mi_M ml_M_385 (by decide +kernel), hts _ ms_M_compare⟩
theorem ms_M_reckon : Cond.static y_M_reckon ∈ TB := tb 1591 (by decide +kernel) rfl
theorem ml_M_389 : Cond.methodLink R_M 389 y_M_reckon ∈ TB := tb 1590 (by decide +kernel) rfl
theorem cw_M_389 {R : Room} {s : State} {args : Array Value} (hts : ∀ w ∈ TB, w.before args s = true) (hN : NW s) (hR : 0 + 1 ≤ R.frames ∧ 8 + (7 + 11) + 0 ≤ R.locals) : CallB R s args R_M 389 y_M_reckon b_M_reckon 7 (some .int) (Cond.code y_M_reckon b_M_reckon 7 (some .int) :: TB) (rmX 0 0) 0 0 3 ∧ (Cond.static y_M_reckon).before args s = true := ⟨x_B hts hR mc_M_reckon mi_M ml_M_389 (by decide +kernel), hts _ ms_M_reckon⟩
theorem ms_M_shift : Cond.static y_M_shift ∈ TB := tb 1594 (by decide +kernel) rfl
theorem ml_M_393 : Cond.methodLink R_M 393 y_M_shift ∈ TB := tb 1593 (by decide +kernel) rfl
theorem cw_M_393 {R : Room} {s : State} {args : Array Value} (hts : ∀ w ∈ TB, w.before args s = true) (hN : NW s) (hR : 0 + 1 ≤ R.frames ∧ 8 + (6 + 11) + 0 ≤ R.locals) : CallB R s args R_M 393 y_M_shift b_M_shift 6 (some .int) (Cond.code y_M_shift b_M_shift 6 (some .int) :: TB) (rmX 0 0) 0 0 3 ∧ (Cond.static y_M_shift).before args s = true := ⟨x_B hts hR mc_M_shift mi_M ml_M_393 (by decide +kernel), hts _ ms_M_shift⟩
theorem mn_M_entriesOf : Cond.instanceMethod y_M_entriesOf ∈ TB := tb 1614 (by decide +kernel) rfl
theorem ml_M_396 : Cond.methodLink R_M 396 y_M_entriesOf ∈ TB := tb 1612 (by decide +kernel) rfl
theorem me_M_M_entriesOf : Cond.selects R_M y_M_entriesOf y_M_entriesOf ∈ TB := tb 120 (by decide +kernel) rfl
theorem cw_M_396 {R : Room} {s : State} {args : Array Value} (hts : ∀ w ∈ TB, w.before args s = true) (hN : NW s) (hR : 0 + 1 ≤ R.frames ∧ 8 + (3 + 11) + 0 ≤ R.locals) : CallW R s args R_M R_M 396 y_M_entriesOf b_M_entriesOf 3 (some .int) (Cond.code y_M_entriesOf b_M_entriesOf 3 (some .int) :: TB) (rmX 0 0) 0 0 2 := x_V hts hR mc_M_entriesOf mi_M ml_M_396 (by decide +kernel) mn_M_entriesOf me_M_M_entriesOf
theorem mn_M_blockAt : Cond.instanceMethod y_M_blockAt ∈ TB := tb 1630 (by decide +kernel) rfl
theorem ml_M_399 : Cond.methodLink R_M 399 y_M_blockAt ∈ TB := tb 1628 (by decide +kernel) rfl
theorem me_M_M_blockAt : Cond.selects R_M y_M_blockAt y_M_blockAt ∈ TB := tb 124 (by decide +kernel) rfl
theorem cw_M_399 {R : Room} {s : State} {args : Array Value} (hts : ∀ w ∈ TB, w.before args s = true) (hN : NW s) (hR : 0 + 1 ≤ R.frames ∧ 8 + (7 + 11) + 0 ≤ R.locals) : CallW R s args R_M R_M 399 y_M_blockAt b_M_blockAt 7 (some .int) (Cond.code y_M_blockAt b_M_blockAt 7 (some .int) :: TB) (rmX 0 0) 0 0 2 := x_V hts hR mc_M_blockAt mi_M ml_M_399 (by decide +kernel) mn_M_blockAt me_M_M_blockAt
theorem mn_M_write : Cond.instanceMethod y_M_write ∈ TB := tb 1622 (by decide +kernel) rfl
theorem ml_M_402 : Cond.methodLink R_M 402 y_M_write ∈ TB := tb 1620 (by decide +kernel) rfl
theorem me_M_M_write : Cond.selects R_M y_M_write y_M_write ∈ TB := tb 122 (by decide +kernel) rfl
theorem cw_M_402 {R : Room} {s : State} {args : Array Value} (hts : ∀ w ∈ TB, w.before args s = true) (hN : NW s) (hR : 0 + 1 ≤ R.frames ∧ 8 + (5 + 11) + 0 ≤ R.locals) : CallW R s args R_M R_M 402 y_M_write b_M_write 5 none (Cond.code y_M_write b_M_write 5 none :: TB) (rmX 0 0) 0 0 4 := x_V hts hR mc_M_write mi_M ml_M_402 (by decide +kernel) mn_M_write me_M_M_write
theorem mn_M_target : Cond.instanceMethod y_M_target ∈ TB := tb 1626 (by decide +kernel) rfl
theorem ml_M_406 : Cond.methodLink R_M 406 y_M_target ∈ TB := tb 1624 (by decide +kernel) rfl
theorem me_M_M_target : Cond.selects R_M y_M_target y_M_target ∈ TB := tb 123 (by decide +kernel) rfl
theorem cw_M_406 {R : Room} {s : State} {args : Array Value} (hts : ∀ w ∈ TB, w.before args s = true) (hN : NW s) (hR : 1 + 1 ≤ R.frames ∧ 8 + (6 + 11) + 26 ≤ R.locals) : CallW R s args R_M R_M 406 y_M_target b_M_target 6 (some .int) (Cond.code y_M_target b_M_target 6 (some .int) :: TB) (rmX 1 26) 0 0 3 := x_V hts hR mc_M_target mi_M ml_M_406 (by decide +kernel) mn_M_target me_M_M_target
theorem mn_M_left : Cond.instanceMethod y_M_left ∈ TB := tb 1634 (by decide +kernel) rfl
theorem ml_M_410 : Cond.methodLink R_M 410 y_M_left ∈ TB := tb 1632 (by decide +kernel) rfl
theorem me_M_M_left : Cond.selects R_M y_M_left y_M_left ∈ TB := tb 125 (by decide +kernel) rfl
theorem cw_M_410 {R : Room} {s : State} {args : Array Value} (hts : ∀ w ∈ TB, w.before args s = true) (hN : NW s) (hR : 2 + 1 ≤ R.frames ∧ 8 + (7 + 11) + 42 ≤ R.locals) : CallW R s args R_M R_M 410 y_M_left b_M_left 7 (some .int) (Cond.code y_M_left b_M_left 7 (some .int) :: TB) (rmX 2 42) 0 0 3 := x_V hts hR mc_M_left mi_M ml_M_410 (by decide +kernel) mn_M_left me_M_M_left
theorem mn_M_number : Cond.instanceMethod y_M_number ∈ TB := tb 1610 (by decide +kernel) rfl
theorem ml_M_413 : Cond.methodLink R_M 413 y_M_number ∈ TB := tb 1608 (by decide +kernel) rfl
theorem me_M_M_number : Cond.selects R_M y_M_number y_M_number ∈ TB := tb 119 (by decide +kernel) rfl
theorem cw_M_413 {R : Room} {s : State} {args : Array Value} (hts : ∀ w ∈ TB, w.before args s = true) (hN : NW s) (hR : 1 + 1 ≤ R.frames ∧ 8 + (10 + 11) + 22 ≤ R.locals) : CallW R s args R_M R_M 413 y_M_number b_M_number 10 (some .int) (Cond.code y_M_number b_M_number 10 (some .int) :: TB) (rmX 1 22) 0 0 2 := x_V hts hR mc_M_number mi_M ml_M_413 (by decide +kernel) mn_M_number me_M_M_number
theorem mn_M_writeEntry : Cond.instanceMethod y_M_writeEntry ∈ TB := tb 1618 (by decide +kernel) rfl
theorem ml_M_416 : Cond.methodLink R_M 416 y_M_writeEntry ∈ TB := tb 1616 (by decide +kernel) rfl
theorem me_M_M_writeEntry : Cond.selects R_M y_M_writeEntry y_M_writeEntry ∈ TB := tb 121 (by decide +kernel) rfl
theorem cw_M_416 {R : Room} {s : State} {args : Array Value} (hts : ∀ w ∈ TB, w.before args s = true) (hN : NW s) (hR : 3 + 1 ≤ R.frames ∧ 8 + (8 + 11) + 68 ≤ R.locals) : CallW R s args R_M R_M 416 y_M_writeEntry b_M_writeEntry 8 none (Cond.code y_M_writeEntry b_M_writeEntry 8 none :: TB) (rmX 3 68) 0 0 2 := x_V hts hR mc_M_writeEntry mi_M ml_M_416 (by decide +kernel) mn_M_writeEntry me_M_M_writeEntry
