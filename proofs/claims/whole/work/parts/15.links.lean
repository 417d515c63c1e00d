theorem fl_X_10 : Cond.fieldLink R_X 10 "WasmMachine" "contents" "LWasmMachine$Contents;" ∈ TB := tb 465 (by decide +kernel) rfl
theorem fl_X_21 : Cond.fieldLink R_X 21 "WasmMachine" "reader" "LWasmMachine$Reader;" ∈ TB := tb 466 (by decide +kernel) rfl
theorem fl_X_28 : Cond.fieldLink R_X 28 "WasmMachine" "validator" "LWasmMachine$Validator;" ∈ TB := tb 467 (by decide +kernel) rfl
theorem fl_X_35 : Cond.fieldLink R_X 35 "WasmMachine" "registerCode" "LWasmMachine$RegisterCode;" ∈ TB := tb 468 (by decide +kernel) rfl
theorem fl_X_42 : Cond.fieldLink R_X 42 "WasmMachine" "store" "LWasmMachine$Store;" ∈ TB := tb 469 (by decide +kernel) rfl
theorem fl_X_51 : Cond.fieldLink R_X 51 "WasmMachine" "stackEngine" "LWasmMachine$Engine;" ∈ TB := tb 470 (by decide +kernel) rfl
theorem fl_X_60 : Cond.fieldLink R_X 60 "WasmMachine" "registerEngine" "LWasmMachine$Engine;" ∈ TB := tb 471 (by decide +kernel) rfl
theorem fl_X_68 : Cond.fieldLink R_X 68 "WasmMachine" "arguments" "LWasmMachine$Row;" ∈ TB := tb 472 (by decide +kernel) rfl
theorem fl_X_72 : Cond.fieldLink R_X 72 "WasmMachine" "active" "I" ∈ TB := tb 476 (by decide +kernel) rfl
theorem fl_X_76 : Cond.fieldLink R_X 76 "WasmMachine" "loaded" "Z" ∈ TB := tb 474 (by decide +kernel) rfl
theorem fl_X_95 : Cond.fieldLink R_X 95 "WasmMachine" "compiled" "Z" ∈ TB := tb 475 (by decide +kernel) rfl
theorem fl_X_101 : Cond.fieldLink R_X 101 "WasmMachine" "argumentCount" "I" ∈ TB := tb 473 (by decide +kernel) rfl
theorem fl_X_108 : Cond.fieldLink R_X 108 "WasmMachine$Contents" "functions" "LWasmMachine$Table;" ∈ TB := tb 188 (by decide +kernel) rfl
theorem fl_X_121 : Cond.fieldLink R_X 121 "WasmMachine" "returned" "I" ∈ TB := tb 477 (by decide +kernel) rfl
theorem fl_X_137 : Cond.fieldLink R_X 137 "WasmMachine$Engine" "value" "I" ∈ TB := tb 415 (by decide +kernel) rfl
theorem fl_X_140 : Cond.fieldLink R_X 140 "WasmMachine$Store" "pages" "I" ∈ TB := tb 355 (by decide +kernel) rfl
theorem fl_X_143 : Cond.fieldLink R_X 143 "WasmMachine$Store" "memory" "LWasmMachine$Row;" ∈ TB := tb 348 (by decide +kernel) rfl
theorem fl_X_155 : Cond.fieldLink R_X 155 "WasmMachine$RegisterCode" "words" "LWasmMachine$Row;" ∈ TB := tb 320 (by decide +kernel) rfl
theorem fl_Cont_14 : Cond.fieldLink R_Cont 14 "WasmMachine$Contents" "types" "LWasmMachine$Table;" ∈ TB := tb 180 (by decide +kernel) rfl
theorem fl_Cont_20 : Cond.fieldLink R_Cont 20 "WasmMachine$Contents" "functions" "LWasmMachine$Table;" ∈ TB := tb 183 (by decide +kernel) rfl
theorem fl_Cont_23 : Cond.fieldLink R_Cont 23 "WasmMachine$Contents" "globals" "LWasmMachine$Table;" ∈ TB := tb 189 (by decide +kernel) rfl
theorem fl_Cont_26 : Cond.fieldLink R_Cont 26 "WasmMachine$Contents" "exports" "LWasmMachine$Table;" ∈ TB := tb 193 (by decide +kernel) rfl
theorem fl_Cont_29 : Cond.fieldLink R_Cont 29 "WasmMachine$Contents" "data" "LWasmMachine$Table;" ∈ TB := tb 196 (by decide +kernel) rfl
theorem fl_Cont_32 : Cond.fieldLink R_Cont 32 "WasmMachine$Contents" "code" "LWasmMachine$Table;" ∈ TB := tb 200 (by decide +kernel) rfl
theorem fl_Cont_35 : Cond.fieldLink R_Cont 35 "WasmMachine$Contents" "places" "LWasmMachine$Table;" ∈ TB := tb 205 (by decide +kernel) rfl
theorem fl_Cont_41 : Cond.fieldLink R_Cont 41 "WasmMachine$Contents" "hasMemory" "Z" ∈ TB := tb 207 (by decide +kernel) rfl
theorem fl_Cont_45 : Cond.fieldLink R_Cont 45 "WasmMachine$Contents" "firstPages" "I" ∈ TB := tb 212 (by decide +kernel) rfl
theorem fl_Cont_49 : Cond.fieldLink R_Cont 49 "WasmMachine$Contents" "mostPages" "I" ∈ TB := tb 216 (by decide +kernel) rfl
theorem fl_Eng_14 : Cond.fieldLink R_Eng 14 "WasmMachine$Engine" "nexts" "LWasmMachine$Row;" ∈ TB := tb 394 (by decide +kernel) rfl
theorem fl_Eng_20 : Cond.fieldLink R_Eng 20 "WasmMachine$Engine" "tops" "LWasmMachine$Row;" ∈ TB := tb 395 (by decide +kernel) rfl
theorem fl_Eng_23 : Cond.fieldLink R_Eng 23 "WasmMachine$Engine" "store" "LWasmMachine$Store;" ∈ TB := tb 389 (by decide +kernel) rfl
theorem fl_Eng_27 : Cond.fieldLink R_Eng 27 "WasmMachine$Engine" "outcome" "I" ∈ TB := tb 413 (by decide +kernel) rfl
theorem fl_Eng_31 : Cond.fieldLink R_Eng 31 "WasmMachine$Engine" "value" "I" ∈ TB := tb 414 (by decide +kernel) rfl
theorem fl_Eng_34 : Cond.fieldLink R_Eng 34 "WasmMachine$Engine" "calls" "I" ∈ TB := tb 398 (by decide +kernel) rfl
theorem fl_Eng_61 : Cond.fieldLink R_Eng 61 "WasmMachine$Engine" "base" "I" ∈ TB := tb 403 (by decide +kernel) rfl
theorem fl_Eng_64 : Cond.fieldLink R_Eng 64 "WasmMachine$Store" "cells" "LWasmMachine$Row;" ∈ TB := tb 352 (by decide +kernel) rfl
theorem fl_Eng_77 : Cond.fieldLink R_Eng 77 "WasmMachine$Engine" "next" "I" ∈ TB := tb 408 (by decide +kernel) rfl
theorem fl_Rd_9 : Cond.fieldLink R_Rd 9 "WasmMachine$Reader" "bytes" "[I" ∈ TB := tb 257 (by decide +kernel) rfl
theorem fl_Rd_20 : Cond.fieldLink R_Rd 20 "WasmMachine$Reader" "open" "LWasmMachine$Row;" ∈ TB := tb 258 (by decide +kernel) rfl
theorem fl_Rd_24 : Cond.fieldLink R_Rd 24 "WasmMachine$Reader" "contents" "LWasmMachine$Contents;" ∈ TB := tb 256 (by decide +kernel) rfl
theorem fl_Rd_28 : Cond.fieldLink R_Rd 28 "WasmMachine$Reader" "fed" "I" ∈ TB := tb 260 (by decide +kernel) rfl
theorem fl_Rd_37 : Cond.fieldLink R_Rd 37 "WasmMachine$Reader" "place" "I" ∈ TB := tb 261 (by decide +kernel) rfl
theorem fl_Rd_40 : Cond.fieldLink R_Rd 40 "WasmMachine$Reader" "bound" "I" ∈ TB := tb 262 (by decide +kernel) rfl
theorem fl_Rd_43 : Cond.fieldLink R_Rd 43 "WasmMachine$Reader" "bodies" "I" ∈ TB := tb 263 (by decide +kernel) rfl
theorem fl_Rd_46 : Cond.fieldLink R_Rd 46 "WasmMachine$Reader" "fault" "I" ∈ TB := tb 264 (by decide +kernel) rfl
theorem fl_Rd_49 : Cond.fieldLink R_Rd 49 "WasmMachine$Reader" "HEADER" "[I" ∈ TB := tb 532 (by decide +kernel) rfl
theorem fl_Rd_66 : Cond.fieldLink R_Rd 66 "WasmMachine$Contents" "functions" "LWasmMachine$Table;" ∈ TB := tb 187 (by decide +kernel) rfl
theorem fl_Rd_117 : Cond.fieldLink R_Rd 117 "WasmMachine$Contents" "types" "LWasmMachine$Table;" ∈ TB := tb 182 (by decide +kernel) rfl
theorem fl_Rd_129 : Cond.fieldLink R_Rd 129 "WasmMachine$Contents" "hasMemory" "Z" ∈ TB := tb 209 (by decide +kernel) rfl
theorem fl_Rd_133 : Cond.fieldLink R_Rd 133 "WasmMachine$Contents" "firstPages" "I" ∈ TB := tb 213 (by decide +kernel) rfl
theorem fl_Rd_136 : Cond.fieldLink R_Rd 136 "WasmMachine$Contents" "mostPages" "I" ∈ TB := tb 217 (by decide +kernel) rfl
theorem fl_Rd_139 : Cond.fieldLink R_Rd 139 "WasmMachine$Contents" "globals" "LWasmMachine$Table;" ∈ TB := tb 192 (by decide +kernel) rfl
theorem fl_Rd_150 : Cond.fieldLink R_Rd 150 "WasmMachine$Contents" "exports" "LWasmMachine$Table;" ∈ TB := tb 195 (by decide +kernel) rfl
theorem fl_Rd_153 : Cond.fieldLink R_Rd 153 "WasmMachine$Contents" "data" "LWasmMachine$Table;" ∈ TB := tb 199 (by decide +kernel) rfl
theorem fl_Rd_159 : Cond.fieldLink R_Rd 159 "WasmMachine$Contents" "code" "LWasmMachine$Table;" ∈ TB := tb 204 (by decide +kernel) rfl
theorem fl_Rd_164 : Cond.fieldLink R_Rd 164 "WasmMachine$Reader" "openCount" "I" ∈ TB := tb 259 (by decide +kernel) rfl
theorem fl_Rd_204 : Cond.fieldLink R_Rd 204 "WasmMachine$Contents" "places" "LWasmMachine$Table;" ∈ TB := tb 206 (by decide +kernel) rfl
theorem fl_RC_16 : Cond.fieldLink R_RC 16 "WasmMachine$RegisterCode" "words" "LWasmMachine$Row;" ∈ TB := tb 319 (by decide +kernel) rfl
theorem fl_RC_20 : Cond.fieldLink R_RC 20 "WasmMachine$RegisterCode" "open" "LWasmMachine$Row;" ∈ TB := tb 322 (by decide +kernel) rfl
theorem fl_RC_23 : Cond.fieldLink R_RC 23 "WasmMachine$RegisterCode" "contents" "LWasmMachine$Contents;" ∈ TB := tb 321 (by decide +kernel) rfl
theorem fl_RC_27 : Cond.fieldLink R_RC 27 "WasmMachine$RegisterCode" "entries" "I" ∈ TB := tb 324 (by decide +kernel) rfl
theorem fl_RC_35 : Cond.fieldLink R_RC 35 "WasmMachine$Contents" "code" "LWasmMachine$Table;" ∈ TB := tb 202 (by decide +kernel) rfl
theorem fl_RC_41 : Cond.fieldLink R_RC 41 "WasmMachine$Contents" "functions" "LWasmMachine$Table;" ∈ TB := tb 186 (by decide +kernel) rfl
theorem fl_RC_68 : Cond.fieldLink R_RC 68 "WasmMachine$RegisterCode" "function" "I" ∈ TB := tb 325 (by decide +kernel) rfl
theorem fl_RC_71 : Cond.fieldLink R_RC 71 "WasmMachine$RegisterCode" "openCount" "I" ∈ TB := tb 323 (by decide +kernel) rfl
theorem fl_RE_9 : Cond.fieldLink R_RE 9 "WasmMachine$RegisterEngine" "code" "LWasmMachine$RegisterCode;" ∈ TB := tb 451 (by decide +kernel) rfl
theorem fl_RE_21 : Cond.fieldLink R_RE 21 "WasmMachine$RegisterEngine" "next" "I" ∈ TB := tb 404 (by decide +kernel) rfl
theorem fl_RE_35 : Cond.fieldLink R_RE 35 "WasmMachine$RegisterEngine" "base" "I" ∈ TB := tb 401 (by decide +kernel) rfl
theorem fl_RE_46 : Cond.fieldLink R_RE 46 "WasmMachine$RegisterEngine" "store" "LWasmMachine$Store;" ∈ TB := tb 390 (by decide +kernel) rfl
theorem fl_RE_56 : Cond.fieldLink R_RE 56 "WasmMachine$RegisterEngine" "outcome" "I" ∈ TB := tb 411 (by decide +kernel) rfl
theorem fl_RE_59 : Cond.fieldLink R_RE 59 "WasmMachine$Store" "cells" "LWasmMachine$Row;" ∈ TB := tb 350 (by decide +kernel) rfl
theorem fl_SE_16 : Cond.fieldLink R_SE 16 "WasmMachine$StackEngine" "labels" "LWasmMachine$Table;" ∈ TB := tb 384 (by decide +kernel) rfl
theorem fl_SE_25 : Cond.fieldLink R_SE 25 "WasmMachine$StackEngine" "functions" "LWasmMachine$Row;" ∈ TB := tb 385 (by decide +kernel) rfl
theorem fl_SE_29 : Cond.fieldLink R_SE 29 "WasmMachine$StackEngine" "depths" "LWasmMachine$Row;" ∈ TB := tb 386 (by decide +kernel) rfl
theorem fl_SE_32 : Cond.fieldLink R_SE 32 "WasmMachine$StackEngine" "contents" "LWasmMachine$Contents;" ∈ TB := tb 383 (by decide +kernel) rfl
theorem fl_SE_36 : Cond.fieldLink R_SE 36 "WasmMachine$StackEngine" "calls" "I" ∈ TB := tb 396 (by decide +kernel) rfl
theorem fl_SE_43 : Cond.fieldLink R_SE 43 "WasmMachine$StackEngine" "depth" "I" ∈ TB := tb 387 (by decide +kernel) rfl
theorem fl_SE_46 : Cond.fieldLink R_SE 46 "WasmMachine$StackEngine" "base" "I" ∈ TB := tb 399 (by decide +kernel) rfl
theorem fl_SE_49 : Cond.fieldLink R_SE 49 "WasmMachine$Contents" "functions" "LWasmMachine$Table;" ∈ TB := tb 184 (by decide +kernel) rfl
theorem fl_SE_57 : Cond.fieldLink R_SE 57 "WasmMachine$StackEngine" "top" "I" ∈ TB := tb 388 (by decide +kernel) rfl
theorem fl_SE_60 : Cond.fieldLink R_SE 60 "WasmMachine$StackEngine" "next" "I" ∈ TB := tb 406 (by decide +kernel) rfl
theorem fl_SE_63 : Cond.fieldLink R_SE 63 "WasmMachine$Contents" "code" "LWasmMachine$Table;" ∈ TB := tb 201 (by decide +kernel) rfl
theorem fl_SE_79 : Cond.fieldLink R_SE 79 "WasmMachine$StackEngine" "store" "LWasmMachine$Store;" ∈ TB := tb 392 (by decide +kernel) rfl
theorem fl_SE_89 : Cond.fieldLink R_SE 89 "WasmMachine$StackEngine" "outcome" "I" ∈ TB := tb 409 (by decide +kernel) rfl
theorem fl_SE_118 : Cond.fieldLink R_SE 118 "WasmMachine$Store" "cells" "LWasmMachine$Row;" ∈ TB := tb 351 (by decide +kernel) rfl
theorem fl_Store_14 : Cond.fieldLink R_Store 14 "WasmMachine$Store" "memory" "LWasmMachine$Row;" ∈ TB := tb 347 (by decide +kernel) rfl
theorem fl_Store_20 : Cond.fieldLink R_Store 20 "WasmMachine$Store" "cells" "LWasmMachine$Row;" ∈ TB := tb 349 (by decide +kernel) rfl
theorem fl_Store_23 : Cond.fieldLink R_Store 23 "WasmMachine$Store" "globals" "LWasmMachine$Row;" ∈ TB := tb 353 (by decide +kernel) rfl
theorem fl_Store_29 : Cond.fieldLink R_Store 29 "WasmMachine$Contents" "firstPages" "I" ∈ TB := tb 210 (by decide +kernel) rfl
theorem fl_Store_35 : Cond.fieldLink R_Store 35 "WasmMachine$Store" "pages" "I" ∈ TB := tb 354 (by decide +kernel) rfl
theorem fl_Store_38 : Cond.fieldLink R_Store 38 "WasmMachine$Contents" "mostPages" "I" ∈ TB := tb 215 (by decide +kernel) rfl
theorem fl_Store_41 : Cond.fieldLink R_Store 41 "WasmMachine$Store" "mostPages" "I" ∈ TB := tb 356 (by decide +kernel) rfl
theorem fl_Store_42 : Cond.fieldLink R_Store 42 "WasmMachine$Contents" "globals" "LWasmMachine$Table;" ∈ TB := tb 190 (by decide +kernel) rfl
theorem fl_Store_55 : Cond.fieldLink R_Store 55 "WasmMachine$Contents" "data" "LWasmMachine$Table;" ∈ TB := tb 197 (by decide +kernel) rfl
theorem fl_Val_14 : Cond.fieldLink R_Val 14 "WasmMachine$Validator" "blocks" "LWasmMachine$Table;" ∈ TB := tb 293 (by decide +kernel) rfl
theorem fl_Val_20 : Cond.fieldLink R_Val 20 "WasmMachine$Validator" "contents" "LWasmMachine$Contents;" ∈ TB := tb 292 (by decide +kernel) rfl
theorem fl_Val_24 : Cond.fieldLink R_Val 24 "WasmMachine$Validator" "fault" "I" ∈ TB := tb 297 (by decide +kernel) rfl
theorem fl_Val_31 : Cond.fieldLink R_Val 31 "WasmMachine$Contents" "mostPages" "I" ∈ TB := tb 214 (by decide +kernel) rfl
theorem fl_Val_36 : Cond.fieldLink R_Val 36 "WasmMachine$Contents" "firstPages" "I" ∈ TB := tb 211 (by decide +kernel) rfl
theorem fl_Val_43 : Cond.fieldLink R_Val 43 "WasmMachine$Contents" "exports" "LWasmMachine$Table;" ∈ TB := tb 194 (by decide +kernel) rfl
theorem fl_Val_53 : Cond.fieldLink R_Val 53 "WasmMachine$Contents" "functions" "LWasmMachine$Table;" ∈ TB := tb 185 (by decide +kernel) rfl
theorem fl_Val_62 : Cond.fieldLink R_Val 62 "WasmMachine$Contents" "types" "LWasmMachine$Table;" ∈ TB := tb 181 (by decide +kernel) rfl
theorem fl_Val_80 : Cond.fieldLink R_Val 80 "WasmMachine$Contents" "hasMemory" "Z" ∈ TB := tb 208 (by decide +kernel) rfl
theorem fl_Val_84 : Cond.fieldLink R_Val 84 "WasmMachine$Contents" "globals" "LWasmMachine$Table;" ∈ TB := tb 191 (by decide +kernel) rfl
theorem fl_Val_87 : Cond.fieldLink R_Val 87 "WasmMachine$Contents" "data" "LWasmMachine$Table;" ∈ TB := tb 198 (by decide +kernel) rfl
theorem fl_Val_93 : Cond.fieldLink R_Val 93 "WasmMachine$Validator" "function" "I" ∈ TB := tb 296 (by decide +kernel) rfl
theorem fl_Val_96 : Cond.fieldLink R_Val 96 "WasmMachine$Validator" "height" "I" ∈ TB := tb 295 (by decide +kernel) rfl
theorem fl_Val_99 : Cond.fieldLink R_Val 99 "WasmMachine$Validator" "open" "I" ∈ TB := tb 294 (by decide +kernel) rfl
theorem fl_Val_112 : Cond.fieldLink R_Val 112 "WasmMachine$Contents" "code" "LWasmMachine$Table;" ∈ TB := tb 203 (by decide +kernel) rfl
theorem fl_Row_cells : Cond.fieldLink R_Row 13 "WasmMachine$Row" "cells" "[I" ∈ TB := tb 252 (by decide +kernel) rfl
theorem fl_Table_cells : Cond.fieldLink R_Table 13 "WasmMachine$Table" "cells" "[I" ∈ TB := tb 166 (by decide +kernel) rfl
theorem fl_Table_height : Cond.fieldLink R_Table 19 "WasmMachine$Table" "height" "I" ∈ TB := tb 167 (by decide +kernel) rfl
theorem fl_Table_width : Cond.fieldLink R_Table 23 "WasmMachine$Table" "width" "I" ∈ TB := tb 168 (by decide +kernel) rfl
theorem fl_Table_count : Cond.fieldLink R_Table 26 "WasmMachine$Table" "count" "I" ∈ TB := tb 169 (by decide +kernel) rfl
theorem sf_SE_store : Cond.sameField "WasmMachine$StackEngine" "WasmMachine$Engine" "store" "LWasmMachine$Store;" ∈ TB := tb 393 (by decide +kernel) rfl
theorem sf_SE_calls : Cond.sameField "WasmMachine$StackEngine" "WasmMachine$Engine" "calls" "I" ∈ TB := tb 397 (by decide +kernel) rfl
theorem sf_SE_base : Cond.sameField "WasmMachine$StackEngine" "WasmMachine$Engine" "base" "I" ∈ TB := tb 400 (by decide +kernel) rfl
theorem sf_SE_next : Cond.sameField "WasmMachine$StackEngine" "WasmMachine$Engine" "next" "I" ∈ TB := tb 407 (by decide +kernel) rfl
theorem sf_SE_outcome : Cond.sameField "WasmMachine$StackEngine" "WasmMachine$Engine" "outcome" "I" ∈ TB := tb 410 (by decide +kernel) rfl
theorem sf_RE_store : Cond.sameField "WasmMachine$RegisterEngine" "WasmMachine$Engine" "store" "LWasmMachine$Store;" ∈ TB := tb 391 (by decide +kernel) rfl
theorem sf_RE_base : Cond.sameField "WasmMachine$RegisterEngine" "WasmMachine$Engine" "base" "I" ∈ TB := tb 402 (by decide +kernel) rfl
theorem sf_RE_next : Cond.sameField "WasmMachine$RegisterEngine" "WasmMachine$Engine" "next" "I" ∈ TB := tb 405 (by decide +kernel) rfl
theorem sf_RE_outcome : Cond.sameField "WasmMachine$RegisterEngine" "WasmMachine$Engine" "outcome" "I" ∈ TB := tb 412 (by decide +kernel) rfl
theorem m_constant_Eng_47 : Cond.constant R_Eng 47 100000 ∈ TB := tb 980 (by decide +kernel) rfl
theorem m_constant_Op_44 : Cond.constant R_Op 44 (-2147483648) ∈ TB := tb 1046 (by decide +kernel) rfl
theorem m_constantLong_Op_45 : Cond.constantLong R_Op 45 4294967295 ∈ TB := tb 1053 (by decide +kernel) rfl
theorem m_constantLong_Store_112 : Cond.constantLong R_Store 112 4294967295 ∈ TB := tb 1063 (by decide +kernel) rfl
theorem m_constant_Integer_264 : Cond.constant R_Integer 264 65536 ∈ TB := tb 1033 (by decide +kernel) rfl
theorem m_constant_Integer_265 : Cond.constant R_Integer 265 1431655765 ∈ TB := tb 1040 (by decide +kernel) rfl
theorem m_constant_Integer_266 : Cond.constant R_Integer 266 858993459 ∈ TB := tb 1041 (by decide +kernel) rfl
theorem m_constant_Integer_267 : Cond.constant R_Integer 267 252645135 ∈ TB := tb 1042 (by decide +kernel) rfl
theorem mi_Rd : Cond.initialized R_Rd ∈ TB := tb 131 (by decide +kernel) rfl
theorem mn_Rd_append : Cond.instanceMethod y_Rd_append ∈ TB := tb 510 (by decide +kernel) rfl
theorem ml_X_80 : Cond.methodLink R_X 80 y_Rd_append ∈ TB := tb 509 (by decide +kernel) rfl
theorem me_Rd_Rd_append : Cond.selects R_Rd y_Rd_append y_Rd_append ∈ TB := tb 511 (by decide +kernel) rfl
theorem cw_X_80 {R : Room} {s : State} {args : Array Value} (hts : ∀ w ∈ TB, w.before args s = true) (hN : NW s) (hR : 0 + 1 ≤ R.frames ∧ 8 + (2 + 11) + 0 ≤ R.locals) : CallW R s args R_X R_Rd 80 y_Rd_append b_Rd_append 2 (some .boolean) (Cond.code y_Rd_append b_Rd_append 2 (some .boolean) :: TB) (rmX 0 0) 0 0 1 := x_V hts hR mc_Rd_append mi_Rd ml_X_80 (by decide +kernel) mn_Rd_append me_Rd_Rd_append
theorem mn_Rd_readModule : Cond.instanceMethod y_Rd_readModule ∈ TB := tb 518 (by decide +kernel) rfl
theorem ml_X_84 : Cond.methodLink R_X 84 y_Rd_readModule ∈ TB := tb 517 (by decide +kernel) rfl
theorem me_Rd_Rd_readModule : Cond.selects R_Rd y_Rd_readModule y_Rd_readModule ∈ TB := tb 519 (by decide +kernel) rfl
theorem cw_X_84 {R : Room} {s : State} {args : Array Value} (hts : ∀ w ∈ TB, w.before args s = true) (hN : NW s) (hR : 6 + 1 ≤ R.frames ∧ 8 + (4 + 11) + 135 ≤ R.locals) : CallW R s args R_X R_Rd 84 y_Rd_readModule b_Rd_readModule 4 (some .int) (Cond.code y_Rd_readModule b_Rd_readModule 4 (some .int) :: TB) (rmX 6 135) 0 0 0 := x_V hts hR mc_Rd_readModule mi_Rd ml_X_84 (by decide +kernel) mn_Rd_readModule me_Rd_Rd_readModule
theorem mi_Val : Cond.initialized R_Val ∈ TB := tb 133 (by decide +kernel) rfl
theorem mn_Val_judge : Cond.instanceMethod y_Val_judge ∈ TB := tb 693 (by decide +kernel) rfl
theorem ml_X_88 : Cond.methodLink R_X 88 y_Val_judge ∈ TB := tb 692 (by decide +kernel) rfl
theorem me_Val_Val_judge : Cond.selects R_Val y_Val_judge y_Val_judge ∈ TB := tb 694 (by decide +kernel) rfl
theorem cw_X_88 {R : Room} {s : State} {args : Array Value} (hts : ∀ w ∈ TB, w.before args s = true) (hN : NW s) (hR : 6 + 1 ≤ R.frames ∧ 8 + (2 + 11) + 144 ≤ R.locals) : CallW R s args R_X R_Val 88 y_Val_judge b_Val_judge 2 (some .int) (Cond.code y_Val_judge b_Val_judge 2 (some .int) :: TB) (rmX 6 144) 0 0 0 := x_V hts hR mc_Val_judge mi_Val ml_X_88 (by decide +kernel) mn_Val_judge me_Val_Val_judge
theorem mi_Store : Cond.initialized R_Store ∈ TB := tb 135 (by decide +kernel) rfl
theorem mn_Store_prepare : Cond.instanceMethod y_Store_prepare ∈ TB := tb 812 (by decide +kernel) rfl
theorem ml_X_91 : Cond.methodLink R_X 91 y_Store_prepare ∈ TB := tb 811 (by decide +kernel) rfl
theorem me_Store_Store_prepare : Cond.selects R_Store y_Store_prepare y_Store_prepare ∈ TB := tb 813 (by decide +kernel) rfl
theorem cw_X_91 {R : Room} {s : State} {args : Array Value} (hts : ∀ w ∈ TB, w.before args s = true) (hN : NW s) (hR : 2 + 1 ≤ R.frames ∧ 8 + (6 + 11) + 43 ≤ R.locals) : CallW R s args R_X R_Store 91 y_Store_prepare b_Store_prepare 6 none (Cond.code y_Store_prepare b_Store_prepare 6 none :: TB) (rmX 2 43) 0 0 2 := x_V hts hR mc_Store_prepare mi_Store ml_X_91 (by decide +kernel) mn_Store_prepare me_Store_Store_prepare
theorem mi_RC : Cond.initialized R_RC ∈ TB := tb 134 (by decide +kernel) rfl
theorem mn_RC_make : Cond.instanceMethod y_RC_make ∈ TB := tb 832 (by decide +kernel) rfl
theorem ml_X_98 : Cond.methodLink R_X 98 y_RC_make ∈ TB := tb 831 (by decide +kernel) rfl
theorem me_RC_RC_make : Cond.selects R_RC y_RC_make y_RC_make ∈ TB := tb 833 (by decide +kernel) rfl
theorem cw_X_98 {R : Room} {s : State} {args : Array Value} (hts : ∀ w ∈ TB, w.before args s = true) (hN : NW s) (hR : 6 + 1 ≤ R.frames ∧ 8 + (2 + 11) + 145 ≤ R.locals) : CallW R s args R_X R_RC 98 y_RC_make b_RC_make 2 none (Cond.code y_RC_make b_RC_make 2 none :: TB) (rmX 6 145) 0 0 0 := x_V hts hR mc_RC_make mi_RC ml_X_98 (by decide +kernel) mn_RC_make me_RC_RC_make
theorem mi_Row : Cond.initialized R_Row ∈ TB := tb 132 (by decide +kernel) rfl
theorem mn_Row_set : Cond.instanceMethod y_Row_set ∈ TB := tb 637 (by decide +kernel) rfl
theorem ml_X_104 : Cond.methodLink R_X 104 y_Row_set ∈ TB := tb 897 (by decide +kernel) rfl
theorem me_Row_Row_set : Cond.selects R_Row y_Row_set y_Row_set ∈ TB := tb 638 (by decide +kernel) rfl
theorem cw_X_104 {R : Room} {s : State} {args : Array Value} (hts : ∀ w ∈ TB, w.before args s = true) (hN : NW s) (hR : 0 + 1 ≤ R.frames ∧ 8 + (3 + 11) + 0 ≤ R.locals) : CallW R s args R_X R_Row 104 y_Row_set b_Row_set 3 none (Cond.code y_Row_set b_Row_set 3 none :: TB) (rmX 0 0) 0 0 2 := x_V hts hR mc_Row_set mi_Row ml_X_104 (by decide +kernel) mn_Row_set me_Row_Row_set
theorem mi_Table : Cond.initialized R_Table ∈ TB := tb 129 (by decide +kernel) rfl
theorem mn_Table_has : Cond.instanceMethod y_Table_has ∈ TB := tb 633 (by decide +kernel) rfl
theorem ml_X_112 : Cond.methodLink R_X 112 y_Table_has ∈ TB := tb 902 (by decide +kernel) rfl
theorem me_Table_Table_has : Cond.selects R_Table y_Table_has y_Table_has ∈ TB := tb 634 (by decide +kernel) rfl
theorem cw_X_112 {R : Room} {s : State} {args : Array Value} (hts : ∀ w ∈ TB, w.before args s = true) (hN : NW s) (hR : 0 + 1 ≤ R.frames ∧ 8 + (2 + 11) + 0 ≤ R.locals) : CallW R s args R_X R_Table 112 y_Table_has b_Table_has 2 (some .boolean) (Cond.code y_Table_has b_Table_has 2 (some .boolean) :: TB) (rmX 0 0) 0 0 1 := x_V hts hR mc_Table_has mi_Table ml_X_112 (by decide +kernel) mn_Table_has me_Table_Table_has
theorem mi_Cont : Cond.initialized R_Cont ∈ TB := tb 128 (by decide +kernel) rfl
theorem mn_Cont_parametersOf : Cond.instanceMethod y_Cont_parametersOf ∈ TB := tb 625 (by decide +kernel) rfl
theorem ml_X_117 : Cond.methodLink R_X 117 y_Cont_parametersOf ∈ TB := tb 903 (by decide +kernel) rfl
theorem me_Cont_Cont_parametersOf : Cond.selects R_Cont y_Cont_parametersOf y_Cont_parametersOf ∈ TB := tb 626 (by decide +kernel) rfl
theorem cw_X_117 {R : Room} {s : State} {args : Array Value} (hts : ∀ w ∈ TB, w.before args s = true) (hN : NW s) (hR : 1 + 1 ≤ R.frames ∧ 8 + (3 + 11) + 23 ≤ R.locals) : CallW R s args R_X R_Cont 117 y_Cont_parametersOf b_Cont_parametersOf 3 (some .int) (Cond.code y_Cont_parametersOf b_Cont_parametersOf 3 (some .int) :: TB) (rmX 1 23) 0 0 1 := x_V hts hR mc_Cont_parametersOf mi_Cont ml_X_117 (by decide +kernel) mn_Cont_parametersOf me_Cont_Cont_parametersOf
theorem mi_X : Cond.initialized R_X ∈ TB := tb 127 (by decide +kernel) rfl
theorem mn_X_activeEngine : Cond.instanceMethod y_X_activeEngine ∈ TB := tb 906 (by decide +kernel) rfl
theorem ml_X_124 : Cond.methodLink R_X 124 y_X_activeEngine ∈ TB := tb 904 (by decide +kernel) rfl
theorem me_X_X_activeEngine : Cond.selects R_X y_X_activeEngine y_X_activeEngine ∈ TB := tb 54 (by decide +kernel) rfl
theorem cw_X_124 {R : Room} {s : State} {args : Array Value} (hts : ∀ w ∈ TB, w.before args s = true) (hN : NW s) (hR : 0 + 1 ≤ R.frames ∧ 8 + (1 + 11) + 0 ≤ R.locals) : CallW R s args R_X R_X 124 y_X_activeEngine b_X_activeEngine 1 (some (.object "WasmMachine$Engine")) (Cond.code y_X_activeEngine b_X_activeEngine 1 (some (.object "WasmMachine$Engine")) :: TB) (rmX 0 0) 0 0 0 := x_V hts hR mc_X_activeEngine mi_X ml_X_124 (by decide +kernel) mn_X_activeEngine me_X_X_activeEngine
theorem mi_Eng : Cond.initialized R_Eng ∈ TB := tb 136 (by decide +kernel) rfl
theorem mn_Eng_begin : Cond.instanceMethod y_Eng_begin ∈ TB := tb 909 (by decide +kernel) rfl
theorem ml_X_128 : Cond.methodLink R_X 128 y_Eng_begin ∈ TB := tb 908 (by decide +kernel) rfl
theorem me_SE_Eng_begin : Cond.selects R_SE y_Eng_begin y_Eng_begin ∈ TB := tb 912 (by decide +kernel) rfl
theorem cw_X_128_S {R : Room} {s : State} {args : Array Value} (hts : ∀ w ∈ TB, w.before args s = true) (hN : NW s) (hR : 2 + 1 ≤ R.frames ∧ 8 + (4 + 11) + 46 ≤ R.locals) : CallW R s args R_X R_SE 128 y_Eng_begin b_Eng_begin 4 none (Cond.code y_Eng_begin b_Eng_begin 4 none :: TB) (rmX 2 46) 0 0 3 := x_V hts hR mc_Eng_begin mi_Eng ml_X_128 (by decide +kernel) mn_Eng_begin me_SE_Eng_begin
theorem me_RE_Eng_begin : Cond.selects R_RE y_Eng_begin y_Eng_begin ∈ TB := tb 911 (by decide +kernel) rfl
theorem cw_X_128_R {R : Room} {s : State} {args : Array Value} (hts : ∀ w ∈ TB, w.before args s = true) (hN : NW s) (hR : 3 + 1 ≤ R.frames ∧ 8 + (4 + 11) + 65 ≤ R.locals) : CallW R s args R_X R_RE 128 y_Eng_begin b_Eng_begin 4 none (Cond.code y_Eng_begin b_Eng_begin 4 none :: TB) (rmX 3 65) 0 0 3 := x_V hts hR mc_Eng_begin mi_Eng ml_X_128 (by decide +kernel) mn_Eng_begin me_RE_Eng_begin
theorem mn_Eng_go : Cond.instanceMethod y_Eng_go ∈ TB := tb 939 (by decide +kernel) rfl
theorem ml_X_134 : Cond.methodLink R_X 134 y_Eng_go ∈ TB := tb 938 (by decide +kernel) rfl
theorem me_SE_Eng_go : Cond.selects R_SE y_Eng_go y_Eng_go ∈ TB := tb 942 (by decide +kernel) rfl
theorem cw_X_134_S {R : Room} {s : State} {args : Array Value} (hts : ∀ w ∈ TB, w.before args s = true) (hN : NW s) (hR : 6 + 1 ≤ R.frames ∧ 8 + (3 + 11) + 137 ≤ R.locals) : CallW R s args R_X R_SE 134 y_Eng_go b_Eng_go 3 (some .int) (Cond.code y_Eng_go b_Eng_go 3 (some .int) :: TB) (rmX 6 137) 0 0 1 := x_V hts hR mc_Eng_go mi_Eng ml_X_134 (by decide +kernel) mn_Eng_go me_SE_Eng_go
theorem me_RE_Eng_go : Cond.selects R_RE y_Eng_go y_Eng_go ∈ TB := tb 941 (by decide +kernel) rfl
theorem cw_X_134_R {R : Room} {s : State} {args : Array Value} (hts : ∀ w ∈ TB, w.before args s = true) (hN : NW s) (hR : 6 + 1 ≤ R.frames ∧ 8 + (3 + 11) + 136 ≤ R.locals) : CallW R s args R_X R_RE 134 y_Eng_go b_Eng_go 3 (some .int) (Cond.code y_Eng_go b_Eng_go 3 (some .int) :: TB) (rmX 6 136) 0 0 1 := x_V hts hR mc_Eng_go mi_Eng ml_X_134 (by decide +kernel) mn_Eng_go me_RE_Eng_go
theorem mn_Row_get : Cond.instanceMethod y_Row_get ∈ TB := tb 671 (by decide +kernel) rfl
theorem ml_X_146 : Cond.methodLink R_X 146 y_Row_get ∈ TB := tb 1130 (by decide +kernel) rfl
theorem me_Row_Row_get : Cond.selects R_Row y_Row_get y_Row_get ∈ TB := tb 672 (by decide +kernel) rfl
theorem cw_X_146 {R : Room} {s : State} {args : Array Value} (hts : ∀ w ∈ TB, w.before args s = true) (hN : NW s) (hR : 0 + 1 ≤ R.frames ∧ 8 + (2 + 11) + 0 ≤ R.locals) : CallW R s args R_X R_Row 146 y_Row_get b_Row_get 2 (some .int) (Cond.code y_Row_get b_Row_get 2 (some .int) :: TB) (rmX 0 0) 0 0 1 := x_V hts hR mc_Row_get mi_Row ml_X_146 (by decide +kernel) mn_Row_get me_Row_Row_get
theorem mn_RC_length : Cond.instanceMethod y_RC_length ∈ TB := tb 1136 (by decide +kernel) rfl
theorem ml_X_149 : Cond.methodLink R_X 149 y_RC_length ∈ TB := tb 1135 (by decide +kernel) rfl
theorem me_RC_RC_length : Cond.selects R_RC y_RC_length y_RC_length ∈ TB := tb 1137 (by decide +kernel) rfl
theorem cw_X_149 {R : Room} {s : State} {args : Array Value} (hts : ∀ w ∈ TB, w.before args s = true) (hN : NW s) (hR : 0 + 1 ≤ R.frames ∧ 8 + (1 + 11) + 0 ≤ R.locals) : CallW R s args R_X R_RC 149 y_RC_length b_RC_length 1 (some .int) (Cond.code y_RC_length b_RC_length 1 (some .int) :: TB) (rmX 0 0) 0 0 0 := x_V hts hR mc_RC_length mi_RC ml_X_149 (by decide +kernel) mn_RC_length me_RC_RC_length
theorem mn_X_rcodeLen : Cond.instanceMethod y_X_rcodeLen ∈ TB := tb 1132 (by decide +kernel) rfl
theorem ml_X_152 : Cond.methodLink R_X 152 y_X_rcodeLen ∈ TB := tb 1143 (by decide +kernel) rfl
theorem me_X_X_rcodeLen : Cond.selects R_X y_X_rcodeLen y_X_rcodeLen ∈ TB := tb 1133 (by decide +kernel) rfl
theorem cw_X_152 {R : Room} {s : State} {args : Array Value} (hts : ∀ w ∈ TB, w.before args s = true) (hN : NW s) (hR : 1 + 1 ≤ R.frames ∧ 8 + (1 + 11) + 20 ≤ R.locals) : CallW R s args R_X R_X 152 y_X_rcodeLen b_X_rcodeLen 1 (some .int) (Cond.code y_X_rcodeLen b_X_rcodeLen 1 (some .int) :: TB) (rmX 1 20) 0 0 0 := x_V hts hR mc_X_rcodeLen mi_X ml_X_152 (by decide +kernel) mn_X_rcodeLen me_X_X_rcodeLen
theorem mn_Rd_forget : Cond.instanceMethod y_Rd_forget ∈ TB := tb 1149 (by decide +kernel) rfl
theorem ml_X_158 : Cond.methodLink R_X 158 y_Rd_forget ∈ TB := tb 1148 (by decide +kernel) rfl
theorem me_Rd_Rd_forget : Cond.selects R_Rd y_Rd_forget y_Rd_forget ∈ TB := tb 1150 (by decide +kernel) rfl
theorem cw_X_158 {R : Room} {s : State} {args : Array Value} (hts : ∀ w ∈ TB, w.before args s = true) (hN : NW s) (hR : 0 + 1 ≤ R.frames ∧ 8 + (1 + 11) + 0 ≤ R.locals) : CallW R s args R_X R_Rd 158 y_Rd_forget b_Rd_forget 1 none (Cond.code y_Rd_forget b_Rd_forget 1 none :: TB) (rmX 0 0) 0 0 0 := x_V hts hR mc_Rd_forget mi_Rd ml_X_158 (by decide +kernel) mn_Rd_forget me_Rd_Rd_forget
theorem mn_Table_clear : Cond.instanceMethod y_Table_clear ∈ TB := tb 526 (by decide +kernel) rfl
theorem ml_Cont_38 : Cond.methodLink R_Cont 38 y_Table_clear ∈ TB := tb 525 (by decide +kernel) rfl
theorem me_Table_Table_clear : Cond.selects R_Table y_Table_clear y_Table_clear ∈ TB := tb 527 (by decide +kernel) rfl
theorem cw_Cont_38 {R : Room} {s : State} {args : Array Value} (hts : ∀ w ∈ TB, w.before args s = true) (hN : NW s) (hR : 1 + 1 ≤ R.frames ∧ 8 + (1 + 11) + 23 ≤ R.locals) : CallW R s args R_Cont R_Table 38 y_Table_clear b_Table_clear 1 none (Cond.code y_Table_clear b_Table_clear 1 none :: TB) (rmX 1 23) 0 0 0 := x_V hts hR mc_Table_clear mi_Table ml_Cont_38 (by decide +kernel) mn_Table_clear me_Table_Table_clear
theorem mn_Table_get : Cond.instanceMethod y_Table_get ∈ TB := tb 629 (by decide +kernel) rfl
theorem ml_Cont_52 : Cond.methodLink R_Cont 52 y_Table_get ∈ TB := tb 628 (by decide +kernel) rfl
theorem me_Table_Table_get : Cond.selects R_Table y_Table_get y_Table_get ∈ TB := tb 630 (by decide +kernel) rfl
theorem cw_Cont_52 {R : Room} {s : State} {args : Array Value} (hts : ∀ w ∈ TB, w.before args s = true) (hN : NW s) (hR : 0 + 1 ≤ R.frames ∧ 8 + (4 + 11) + 0 ≤ R.locals) : CallW R s args R_Cont R_Table 52 y_Table_get b_Table_get 4 (some .int) (Cond.code y_Table_get b_Table_get 4 (some .int) :: TB) (rmX 0 0) 0 0 2 := x_V hts hR mc_Table_get mi_Table ml_Cont_52 (by decide +kernel) mn_Table_get me_Table_Table_get
theorem ml_Cont_56 : Cond.methodLink R_Cont 56 y_Table_has ∈ TB := tb 632 (by decide +kernel) rfl
theorem cw_Cont_56 {R : Room} {s : State} {args : Array Value} (hts : ∀ w ∈ TB, w.before args s = true) (hN : NW s) (hR : 0 + 1 ≤ R.frames ∧ 8 + (2 + 11) + 0 ≤ R.locals) : CallW R s args R_Cont R_Table 56 y_Table_has b_Table_has 2 (some .boolean) (Cond.code y_Table_has b_Table_has 2 (some .boolean) :: TB) (rmX 0 0) 0 0 1 := x_V hts hR mc_Table_has mi_Table ml_Cont_56 (by decide +kernel) mn_Table_has me_Table_Table_has
theorem ms_X_isAbove : Cond.static y_X_isAbove ∈ TB := tb 566 (by decide +kernel) rfl
theorem cw_Cont_62 {R : Room} {s : State} {args : Array Value} (hts : ∀ w ∈ TB, w.before args s = true) (hN : NW s) (hR : 0 + 1 ≤ R.frames ∧ 8 + (2 + 11) + 0 ≤ R.locals) : va_CN R s args R_Cont 62 y_X_isAbove "WasmMachine" b_X_isAbove 2 (some .boolean) (Cond.code y_X_isAbove b_X_isAbove 2 (some .boolean) :: TB) (rmX 0 0) 0 0 2 ∧ (Cond.static y_X_isAbove).before args s = true ∧ True := ⟨va_cnB 2 hts (x_good mc_X_isAbove) rfl rfl rfl (hN _ (List.mem_of_getElem? (i := 1) rfl)) (hts _ mi_X) (by decide +kernel) hR, hts _ ms_X_isAbove, trivial⟩
theorem mn_Eng_open : Cond.instanceMethod y_Eng_open ∈ TB := tb 915 (by decide +kernel) rfl
theorem ml_Eng_37 : Cond.methodLink R_Eng 37 y_Eng_open ∈ TB := tb 914 (by decide +kernel) rfl
theorem me_SE_Eng_open : Cond.selects R_SE y_Eng_open y_Eng_open ∈ TB := tb 918 (by decide +kernel) rfl
theorem cw_Eng_37_S {R : Room} {s : State} {args : Array Value} (hts : ∀ w ∈ TB, w.before args s = true) (hN : NW s) (hR : 1 + 1 ≤ R.frames ∧ 8 + (5 + 11) + 22 ≤ R.locals) : CallW R s args R_Eng R_SE 37 y_Eng_open b_Eng_open 5 none (Cond.code y_Eng_open b_Eng_open 5 none :: TB) (rmX 1 22) 0 0 3 := x_V hts hR mc_Eng_open mi_Eng ml_Eng_37 (by decide +kernel) mn_Eng_open me_SE_Eng_open
theorem me_RE_Eng_open : Cond.selects R_RE y_Eng_open y_Eng_open ∈ TB := tb 917 (by decide +kernel) rfl
theorem cw_Eng_37_R {R : Room} {s : State} {args : Array Value} (hts : ∀ w ∈ TB, w.before args s = true) (hN : NW s) (hR : 1 + 1 ≤ R.frames ∧ 8 + (5 + 11) + 22 ≤ R.locals) : CallW R s args R_Eng R_RE 37 y_Eng_open b_Eng_open 5 none (Cond.code y_Eng_open b_Eng_open 5 none :: TB) (rmX 1 22) 0 0 3 := x_V hts hR mc_Eng_open mi_Eng ml_Eng_37 (by decide +kernel) mn_Eng_open me_RE_Eng_open
theorem mi_SE : Cond.initialized R_SE ∈ TB := tb 137 (by decide +kernel) rfl
theorem mn_SE_enter : Cond.instanceMethod y_SE_enter ∈ TB := tb 930 (by decide +kernel) rfl
theorem ml_Eng_41 : Cond.methodLink R_Eng 41 ⟨R_Eng, "enter", "(I)V"⟩ ∈ TB := tb 922 (by decide +kernel) rfl
theorem mq_Eng_enter : Cond.sameMethod R_Eng R_Eng "enter" "(I)V" ∈ TB := tb 924 (by decide +kernel) rfl
theorem me_SE_Eng_SE_enter : Cond.selects R_SE ⟨R_Eng, "enter", "(I)V"⟩ y_SE_enter ∈ TB := tb 929 (by decide +kernel) rfl
theorem cw_Eng_41_S {R : Room} {s : State} {args : Array Value} (hts : ∀ w ∈ TB, w.before args s = true) (hN : NW s) (hR : 1 + 1 ≤ R.frames ∧ 8 + (2 + 11) + 23 ≤ R.locals) : va_CU R s args R_Eng R_SE R_Eng 41 ⟨R_Eng, "enter", "(I)V"⟩ y_SE_enter b_SE_enter 2 none (Cond.code y_SE_enter b_SE_enter 2 none :: TB) (rmX 1 23) 0 0 1 := x_U hts hR mc_SE_enter mi_SE ml_Eng_41 mq_Eng_enter (va_Decl.abs (hN _ (List.mem_of_getElem? (i := 5) rfl))) me_SE_Eng_SE_enter mn_SE_enter (by decide +kernel)
theorem mi_RE : Cond.initialized R_RE ∈ TB := tb 138 (by decide +kernel) rfl
theorem mn_RE_enter : Cond.instanceMethod y_RE_enter ∈ TB := tb 926 (by decide +kernel) rfl
theorem me_RE_Eng_RE_enter : Cond.selects R_RE ⟨R_Eng, "enter", "(I)V"⟩ y_RE_enter ∈ TB := tb 925 (by decide +kernel) rfl
theorem cw_Eng_41_R {R : Room} {s : State} {args : Array Value} (hts : ∀ w ∈ TB, w.before args s = true) (hN : NW s) (hR : 2 + 1 ≤ R.frames ∧ 8 + (2 + 11) + 44 ≤ R.locals) : va_CU R s args R_Eng R_RE R_Eng 41 ⟨R_Eng, "enter", "(I)V"⟩ y_RE_enter b_RE_enter 2 none (Cond.code y_RE_enter b_RE_enter 2 none :: TB) (rmX 2 44) 0 0 1 := x_U hts hR mc_RE_enter mi_RE ml_Eng_41 mq_Eng_enter (va_Decl.abs (hN _ (List.mem_of_getElem? (i := 5) rfl))) me_RE_Eng_RE_enter mn_RE_enter (by decide +kernel)
theorem mn_Eng_passAll : Cond.instanceMethod y_Eng_passAll ∈ TB := tb 946 (by decide +kernel) rfl
theorem ml_Eng_44 : Cond.methodLink R_Eng 44 y_Eng_passAll ∈ TB := tb 944 (by decide +kernel) rfl
theorem me_SE_Eng_passAll : Cond.selects R_SE y_Eng_passAll y_Eng_passAll ∈ TB := tb 1646 (by decide +kernel) rfl
theorem cw_Eng_44_S {R : Room} {s : State} {args : Array Value} (hts : ∀ w ∈ TB, w.before args s = true) (hN : NW s) (hR : 4 + 1 ≤ R.frames ∧ 8 + (3 + 11) + 86 ≤ R.locals) : CallW R s args R_Eng R_SE 44 y_Eng_passAll b_Eng_passAll 3 none (Cond.code y_Eng_passAll b_Eng_passAll 3 none :: TB) (rmX 4 86) 0 0 0 := x_V hts hR mc_Eng_passAll mi_Eng ml_Eng_44 (by decide +kernel) mn_Eng_passAll me_SE_Eng_passAll
theorem me_RE_Eng_passAll : Cond.selects R_RE y_Eng_passAll y_Eng_passAll ∈ TB := tb 1647 (by decide +kernel) rfl
theorem cw_Eng_44_R {R : Room} {s : State} {args : Array Value} (hts : ∀ w ∈ TB, w.before args s = true) (hN : NW s) (hR : 4 + 1 ≤ R.frames ∧ 8 + (3 + 11) + 86 ≤ R.locals) : CallW R s args R_Eng R_RE 44 y_Eng_passAll b_Eng_passAll 3 none (Cond.code y_Eng_passAll b_Eng_passAll 3 none :: TB) (rmX 4 86) 0 0 0 := x_V hts hR mc_Eng_passAll mi_Eng ml_Eng_44 (by decide +kernel) mn_Eng_passAll me_RE_Eng_passAll
theorem mi_Math : Cond.initialized "java/lang/Math" ∈ TB := tb 130 (by decide +kernel) rfl
theorem ms_Math_min : Cond.static Lib.Math.min.name ∈ TB := tb 982 (by decide +kernel) rfl
theorem mc_Math_min : Cond.code Lib.Math.min.name Lib.Math.min.code 2 (some .int) ∈ TB := tb 983 (by decide +kernel) rfl
theorem ml_Eng_48 : Cond.methodLink R_Eng 48 Lib.Math.min.name ∈ TB := tb 981 (by decide +kernel) rfl
theorem mn_SE_step : Cond.instanceMethod y_SE_step ∈ TB := tb 1086 (by decide +kernel) rfl
theorem ml_Eng_54 : Cond.methodLink R_Eng 54 ⟨R_Eng, "step", "()V"⟩ ∈ TB := tb 984 (by decide +kernel) rfl
theorem mq_Eng_step : Cond.sameMethod R_Eng R_Eng "step" "()V" ∈ TB := tb 986 (by decide +kernel) rfl
theorem me_SE_Eng_SE_step : Cond.selects R_SE ⟨R_Eng, "step", "()V"⟩ y_SE_step ∈ TB := tb 1085 (by decide +kernel) rfl
theorem cw_Eng_54_S {R : Room} {s : State} {args : Array Value} (hts : ∀ w ∈ TB, w.before args s = true) (hN : NW s) (hR : 5 + 1 ≤ R.frames ∧ 8 + (4 + 11) + 114 ≤ R.locals) : va_CU R s args R_Eng R_SE R_Eng 54 ⟨R_Eng, "step", "()V"⟩ y_SE_step b_SE_step 4 none (Cond.code y_SE_step b_SE_step 4 none :: TB) (rmX 5 114) 0 0 0 := x_U hts hR mc_SE_step mi_SE ml_Eng_54 mq_Eng_step (va_Decl.abs (hN _ (List.mem_of_getElem? (i := 8) rfl))) me_SE_Eng_SE_step mn_SE_step (by decide +kernel)
theorem mn_RE_step : Cond.instanceMethod y_RE_step ∈ TB := tb 988 (by decide +kernel) rfl
theorem me_RE_Eng_RE_step : Cond.selects R_RE ⟨R_Eng, "step", "()V"⟩ y_RE_step ∈ TB := tb 987 (by decide +kernel) rfl
theorem cw_Eng_54_R {R : Room} {s : State} {args : Array Value} (hts : ∀ w ∈ TB, w.before args s = true) (hN : NW s) (hR : 5 + 1 ≤ R.frames ∧ 8 + (4 + 11) + 113 ≤ R.locals) : va_CU R s args R_Eng R_RE R_Eng 54 ⟨R_Eng, "step", "()V"⟩ y_RE_step b_RE_step 4 none (Cond.code y_RE_step b_RE_step 4 none :: TB) (rmX 5 113) 0 0 0 := x_U hts hR mc_RE_step mi_RE ml_Eng_54 mq_Eng_step (va_Decl.abs (hN _ (List.mem_of_getElem? (i := 8) rfl))) me_RE_Eng_RE_step mn_RE_step (by decide +kernel)
theorem mn_SE_pass : Cond.instanceMethod y_SE_pass ∈ TB := tb 969 (by decide +kernel) rfl
theorem ml_Eng_57 : Cond.methodLink R_Eng 57 ⟨R_Eng, "pass", "()Z"⟩ ∈ TB := tb 948 (by decide +kernel) rfl
theorem mq_Eng_pass : Cond.sameMethod R_Eng R_Eng "pass" "()Z" ∈ TB := tb 950 (by decide +kernel) rfl
theorem me_SE_Eng_SE_pass : Cond.selects R_SE ⟨R_Eng, "pass", "()Z"⟩ y_SE_pass ∈ TB := tb 968 (by decide +kernel) rfl
theorem cw_Eng_57_S {R : Room} {s : State} {args : Array Value} (hts : ∀ w ∈ TB, w.before args s = true) (hN : NW s) (hR : 3 + 1 ≤ R.frames ∧ 8 + (2 + 11) + 65 ≤ R.locals) : va_CU R s args R_Eng R_SE R_Eng 57 ⟨R_Eng, "pass", "()Z"⟩ y_SE_pass b_SE_pass 2 (some .boolean) (Cond.code y_SE_pass b_SE_pass 2 (some .boolean) :: TB) (rmX 3 65) 0 0 0 := x_U hts hR mc_SE_pass mi_SE ml_Eng_57 mq_Eng_pass (va_Decl.abs (hN _ (List.mem_of_getElem? (i := 6) rfl))) me_SE_Eng_SE_pass mn_SE_pass (by decide +kernel)
theorem mn_RE_pass : Cond.instanceMethod y_RE_pass ∈ TB := tb 952 (by decide +kernel) rfl
theorem me_RE_Eng_RE_pass : Cond.selects R_RE ⟨R_Eng, "pass", "()Z"⟩ y_RE_pass ∈ TB := tb 951 (by decide +kernel) rfl
theorem cw_Eng_57_R {R : Room} {s : State} {args : Array Value} (hts : ∀ w ∈ TB, w.before args s = true) (hN : NW s) (hR : 3 + 1 ≤ R.frames ∧ 8 + (2 + 11) + 65 ≤ R.locals) : va_CU R s args R_Eng R_RE R_Eng 57 ⟨R_Eng, "pass", "()Z"⟩ y_RE_pass b_RE_pass 2 (some .boolean) (Cond.code y_RE_pass b_RE_pass 2 (some .boolean) :: TB) (rmX 3 65) 0 0 0 := x_U hts hR mc_RE_pass mi_RE ml_Eng_57 mq_Eng_pass (va_Decl.abs (hN _ (List.mem_of_getElem? (i := 6) rfl))) me_RE_Eng_RE_pass mn_RE_pass (by decide +kernel)
theorem ml_Eng_69 : Cond.methodLink R_Eng 69 y_Row_get ∈ TB := tb 920 (by decide +kernel) rfl
theorem cw_Eng_69 {R : Room} {s : State} {args : Array Value} (hts : ∀ w ∈ TB, w.before args s = true) (hN : NW s) (hR : 0 + 1 ≤ R.frames ∧ 8 + (2 + 11) + 0 ≤ R.locals) : CallW R s args R_Eng R_Row 69 y_Row_get b_Row_get 2 (some .int) (Cond.code y_Row_get b_Row_get 2 (some .int) :: TB) (rmX 0 0) 0 0 1 := x_V hts hR mc_Row_get mi_Row ml_Eng_69 (by decide +kernel) mn_Row_get me_Row_Row_get
theorem ml_Eng_73 : Cond.methodLink R_Eng 73 y_Row_set ∈ TB := tb 921 (by decide +kernel) rfl
theorem cw_Eng_73 {R : Room} {s : State} {args : Array Value} (hts : ∀ w ∈ TB, w.before args s = true) (hN : NW s) (hR : 0 + 1 ≤ R.frames ∧ 8 + (3 + 11) + 0 ≤ R.locals) : CallW R s args R_Eng R_Row 73 y_Row_set b_Row_set 3 none (Cond.code y_Row_set b_Row_set 3 none :: TB) (rmX 0 0) 0 0 2 := x_V hts hR mc_Row_set mi_Row ml_Eng_73 (by decide +kernel) mn_Row_set me_Row_Row_set
theorem mi_Op : Cond.initialized R_Op ∈ TB := tb 141 (by decide +kernel) rfl
theorem ms_Op_isControl : Cond.static y_Op_isControl ∈ TB := tb 648 (by decide +kernel) rfl
theorem ml_Op_9 : Cond.methodLink R_Op 9 y_Op_isControl ∈ TB := tb 647 (by decide +kernel) rfl
theorem cw_Op_9 {R : Room} {s : State} {args : Array Value} (hts : ∀ w ∈ TB, w.before args s = true) (hN : NW s) (hR : 0 + 1 ≤ R.frames ∧ 8 + (1 + 11) + 0 ≤ R.locals) : CallB R s args R_Op 9 y_Op_isControl b_Op_isControl 1 (some .boolean) (Cond.code y_Op_isControl b_Op_isControl 1 (some .boolean) :: TB) (rmX 0 0) 0 0 1 ∧ (Cond.static y_Op_isControl).before args s = true := ⟨x_B hts hR mc_Op_isControl mi_Op ml_Op_9 (by decide +kernel), hts _ ms_Op_isControl⟩
theorem ms_Op_isAccess : Cond.static y_Op_isAccess ∈ TB := tb 651 (by decide +kernel) rfl
theorem ml_Op_15 : Cond.methodLink R_Op 15 y_Op_isAccess ∈ TB := tb 650 (by decide +kernel) rfl
theorem cw_Op_15 {R : Room} {s : State} {args : Array Value} (hts : ∀ w ∈ TB, w.before args s = true) (hN : NW s) (hR : 1 + 1 ≤ R.frames ∧ 8 + (1 + 11) + 20 ≤ R.locals) : CallB R s args R_Op 15 y_Op_isAccess b_Op_isAccess 1 (some .boolean) (Cond.code y_Op_isAccess b_Op_isAccess 1 (some .boolean) :: TB) (rmX 1 20) 0 0 1 ∧ (Cond.static y_Op_isAccess).before args s = true := ⟨x_B hts hR mc_Op_isAccess mi_Op ml_Op_15 (by decide +kernel), hts _ ms_Op_isAccess⟩
theorem ms_Op_isNumeric : Cond.static y_Op_isNumeric ∈ TB := tb 657 (by decide +kernel) rfl
theorem ml_Op_18 : Cond.methodLink R_Op 18 y_Op_isNumeric ∈ TB := tb 656 (by decide +kernel) rfl
theorem cw_Op_18 {R : Room} {s : State} {args : Array Value} (hts : ∀ w ∈ TB, w.before args s = true) (hN : NW s) (hR : 0 + 1 ≤ R.frames ∧ 8 + (1 + 11) + 0 ≤ R.locals) : CallB R s args R_Op 18 y_Op_isNumeric b_Op_isNumeric 1 (some .boolean) (Cond.code y_Op_isNumeric b_Op_isNumeric 1 (some .boolean) :: TB) (rmX 0 0) 0 0 1 ∧ (Cond.static y_Op_isNumeric).before args s = true := ⟨x_B hts hR mc_Op_isNumeric mi_Op ml_Op_18 (by decide +kernel), hts _ ms_Op_isNumeric⟩
theorem ms_Op_isStore : Cond.static y_Op_isStore ∈ TB := tb 654 (by decide +kernel) rfl
theorem ml_Op_21 : Cond.methodLink R_Op 21 y_Op_isStore ∈ TB := tb 653 (by decide +kernel) rfl
theorem cw_Op_21 {R : Room} {s : State} {args : Array Value} (hts : ∀ w ∈ TB, w.before args s = true) (hN : NW s) (hR : 0 + 1 ≤ R.frames ∧ 8 + (1 + 11) + 0 ≤ R.locals) : CallB R s args R_Op 21 y_Op_isStore b_Op_isStore 1 (some .boolean) (Cond.code y_Op_isStore b_Op_isStore 1 (some .boolean) :: TB) (rmX 0 0) 0 0 1 ∧ (Cond.static y_Op_isStore).before args s = true := ⟨x_B hts hR mc_Op_isStore mi_Op ml_Op_21 (by decide +kernel), hts _ ms_Op_isStore⟩
theorem mi_Integer : Cond.initialized R_Integer ∈ TB := tb 142 (by decide +kernel) rfl
theorem ms_Integer_numberOfLeadingZeros : Cond.static y_Integer_numberOfLeadingZeros ∈ TB := tb 1031 (by decide +kernel) rfl
theorem ml_Op_24 : Cond.methodLink R_Op 24 y_Integer_numberOfLeadingZeros ∈ TB := tb 1030 (by decide +kernel) rfl
theorem cw_Op_24 {R : Room} {s : State} {args : Array Value} (hts : ∀ w ∈ TB, w.before args s = true) (hN : NW s) (hR : 0 + 1 ≤ R.frames ∧ 8 + (2 + 11) + 0 ≤ R.locals) : CallB R s args R_Op 24 y_Integer_numberOfLeadingZeros b_Integer_numberOfLeadingZeros 2 (some .int) (Cond.code y_Integer_numberOfLeadingZeros b_Integer_numberOfLeadingZeros 2 (some .int) :: TB) (rmX 0 0) 0 0 1 ∧ (Cond.static y_Integer_numberOfLeadingZeros).before args s = true := ⟨x_B hts hR mc_Integer_numberOfLeadingZeros mi_Integer ml_Op_24 (by decide +kernel), hts _ ms_Integer_numberOfLeadingZeros⟩
theorem ms_Integer_numberOfTrailingZeros : Cond.static y_Integer_numberOfTrailingZeros ∈ TB := tb 1035 (by decide +kernel) rfl
theorem ml_Op_30 : Cond.methodLink R_Op 30 y_Integer_numberOfTrailingZeros ∈ TB := tb 1034 (by decide +kernel) rfl
theorem cw_Op_30 {R : Room} {s : State} {args : Array Value} (hts : ∀ w ∈ TB, w.before args s = true) (hN : NW s) (hR : 0 + 1 ≤ R.frames ∧ 8 + (2 + 11) + 0 ≤ R.locals) : CallB R s args R_Op 30 y_Integer_numberOfTrailingZeros b_Integer_numberOfTrailingZeros 2 (some .int) (Cond.code y_Integer_numberOfTrailingZeros b_Integer_numberOfTrailingZeros 2 (some .int) :: TB) (rmX 0 0) 0 0 1 ∧ (Cond.static y_Integer_numberOfTrailingZeros).before args s = true := ⟨x_B hts hR mc_Integer_numberOfTrailingZeros mi_Integer ml_Op_30 (by decide +kernel), hts _ ms_Integer_numberOfTrailingZeros⟩
theorem ms_Integer_bitCount : Cond.static y_Integer_bitCount ∈ TB := tb 1038 (by decide +kernel) rfl
theorem ml_Op_33 : Cond.methodLink R_Op 33 y_Integer_bitCount ∈ TB := tb 1037 (by decide +kernel) rfl
theorem cw_Op_33 {R : Room} {s : State} {args : Array Value} (hts : ∀ w ∈ TB, w.before args s = true) (hN : NW s) (hR : 0 + 1 ≤ R.frames ∧ 8 + (1 + 11) + 0 ≤ R.locals) : CallB R s args R_Op 33 y_Integer_bitCount b_Integer_bitCount 1 (some .int) (Cond.code y_Integer_bitCount b_Integer_bitCount 1 (some .int) :: TB) (rmX 0 0) 0 0 1 ∧ (Cond.static y_Integer_bitCount).before args s = true := ⟨x_B hts hR mc_Integer_bitCount mi_Integer ml_Op_33 (by decide +kernel), hts _ ms_Integer_bitCount⟩
theorem ms_Op_isTrue : Cond.static y_Op_isTrue ∈ TB := tb 1051 (by decide +kernel) rfl
theorem ml_Op_36 : Cond.methodLink R_Op 36 y_Op_isTrue ∈ TB := tb 1050 (by decide +kernel) rfl
theorem cw_Op_36 {R : Room} {s : State} {args : Array Value} (hts : ∀ w ∈ TB, w.before args s = true) (hN : NW s) (hR : 0 + 1 ≤ R.frames ∧ 8 + (7 + 11) + 0 ≤ R.locals) : CallB R s args R_Op 36 y_Op_isTrue b_Op_isTrue 7 (some .boolean) (Cond.code y_Op_isTrue b_Op_isTrue 7 (some .boolean) :: TB) (rmX 0 0) 0 0 3 ∧ (Cond.static y_Op_isTrue).before args s = true := ⟨x_B hts hR mc_Op_isTrue mi_Op ml_Op_36 (by decide +kernel), hts _ ms_Op_isTrue⟩
theorem ms_Op_divided : Cond.static y_Op_divided ∈ TB := tb 1055 (by decide +kernel) rfl
theorem ml_Op_40 : Cond.methodLink R_Op 40 y_Op_divided ∈ TB := tb 1054 (by decide +kernel) rfl
theorem cw_Op_40 {R : Room} {s : State} {args : Array Value} (hts : ∀ w ∈ TB, w.before args s = true) (hN : NW s) (hR : 0 + 1 ≤ R.frames ∧ 8 + (8 + 11) + 0 ≤ R.locals) : CallB R s args R_Op 40 y_Op_divided b_Op_divided 8 (some .int) (Cond.code y_Op_divided b_Op_divided 8 (some .int) :: TB) (rmX 0 0) 0 0 3 ∧ (Cond.static y_Op_divided).before args s = true := ⟨x_B hts hR mc_Op_divided mi_Op ml_Op_40 (by decide +kernel), hts _ ms_Op_divided⟩
theorem mn_Cont_clear : Cond.instanceMethod y_Cont_clear ∈ TB := tb 522 (by decide +kernel) rfl
theorem ml_Rd_32 : Cond.methodLink R_Rd 32 y_Cont_clear ∈ TB := tb 521 (by decide +kernel) rfl
theorem me_Cont_Cont_clear : Cond.selects R_Cont y_Cont_clear y_Cont_clear ∈ TB := tb 523 (by decide +kernel) rfl
theorem cw_Rd_32 {R : Room} {s : State} {args : Array Value} (hts : ∀ w ∈ TB, w.before args s = true) (hN : NW s) (hR : 2 + 1 ≤ R.frames ∧ 8 + (1 + 11) + 43 ≤ R.locals) : CallW R s args R_Rd R_Cont 32 y_Cont_clear b_Cont_clear 1 none (Cond.code y_Cont_clear b_Cont_clear 1 none :: TB) (rmX 2 43) 0 0 0 := x_V hts hR mc_Cont_clear mi_Cont ml_Rd_32 (by decide +kernel) mn_Cont_clear me_Cont_Cont_clear
theorem mn_Rd_expect : Cond.instanceMethod y_Rd_expect ∈ TB := tb 536 (by decide +kernel) rfl
theorem ml_Rd_52 : Cond.methodLink R_Rd 52 y_Rd_expect ∈ TB := tb 534 (by decide +kernel) rfl
theorem me_Rd_Rd_expect : Cond.selects R_Rd y_Rd_expect y_Rd_expect ∈ TB := tb 0 (by decide +kernel) rfl
theorem cw_Rd_52 {R : Room} {s : State} {args : Array Value} (hts : ∀ w ∈ TB, w.before args s = true) (hN : NW s) (hR : 1 + 1 ≤ R.frames ∧ 8 + (2 + 11) + 21 ≤ R.locals) : CallW R s args R_Rd R_Rd 52 y_Rd_expect b_Rd_expect 2 none (Cond.code y_Rd_expect b_Rd_expect 2 none :: TB) (rmX 1 21) 0 0 1 := x_V hts hR mc_Rd_expect mi_Rd ml_Rd_52 (by decide +kernel) mn_Rd_expect me_Rd_Rd_expect
theorem mn_Rd_nextByte : Cond.instanceMethod y_Rd_nextByte ∈ TB := tb 540 (by decide +kernel) rfl
theorem ml_Rd_55 : Cond.methodLink R_Rd 55 y_Rd_nextByte ∈ TB := tb 538 (by decide +kernel) rfl
theorem me_Rd_Rd_nextByte : Cond.selects R_Rd y_Rd_nextByte y_Rd_nextByte ∈ TB := tb 1 (by decide +kernel) rfl
theorem cw_Rd_55 {R : Room} {s : State} {args : Array Value} (hts : ∀ w ∈ TB, w.before args s = true) (hN : NW s) (hR : 0 + 1 ≤ R.frames ∧ 8 + (1 + 11) + 0 ≤ R.locals) : CallW R s args R_Rd R_Rd 55 y_Rd_nextByte b_Rd_nextByte 1 (some .int) (Cond.code y_Rd_nextByte b_Rd_nextByte 1 (some .int) :: TB) (rmX 0 0) 0 0 0 := x_V hts hR mc_Rd_nextByte mi_Rd ml_Rd_55 (by decide +kernel) mn_Rd_nextByte me_Rd_Rd_nextByte
theorem mn_Rd_judgeSection : Cond.instanceMethod y_Rd_judgeSection ∈ TB := tb 548 (by decide +kernel) rfl
theorem ml_Rd_59 : Cond.methodLink R_Rd 59 y_Rd_judgeSection ∈ TB := tb 546 (by decide +kernel) rfl
theorem me_Rd_Rd_judgeSection : Cond.selects R_Rd y_Rd_judgeSection y_Rd_judgeSection ∈ TB := tb 3 (by decide +kernel) rfl
theorem cw_Rd_59 {R : Room} {s : State} {args : Array Value} (hts : ∀ w ∈ TB, w.before args s = true) (hN : NW s) (hR : 1 + 1 ≤ R.frames ∧ 8 + (3 + 11) + 21 ≤ R.locals) : CallW R s args R_Rd R_Rd 59 y_Rd_judgeSection b_Rd_judgeSection 3 none (Cond.code y_Rd_judgeSection b_Rd_judgeSection 3 none :: TB) (rmX 1 21) 0 0 2 := x_V hts hR mc_Rd_judgeSection mi_Rd ml_Rd_59 (by decide +kernel) mn_Rd_judgeSection me_Rd_Rd_judgeSection
theorem mn_Rd_readSection : Cond.instanceMethod y_Rd_readSection ∈ TB := tb 555 (by decide +kernel) rfl
theorem ml_Rd_63 : Cond.methodLink R_Rd 63 y_Rd_readSection ∈ TB := tb 553 (by decide +kernel) rfl
theorem me_Rd_Rd_readSection : Cond.selects R_Rd y_Rd_readSection y_Rd_readSection ∈ TB := tb 4 (by decide +kernel) rfl
theorem cw_Rd_63 {R : Room} {s : State} {args : Array Value} (hts : ∀ w ∈ TB, w.before args s = true) (hN : NW s) (hR : 5 + 1 ≤ R.frames ∧ 8 + (4 + 11) + 112 ≤ R.locals) : CallW R s args R_Rd R_Rd 63 y_Rd_readSection b_Rd_readSection 4 none (Cond.code y_Rd_readSection b_Rd_readSection 4 none :: TB) (rmX 5 112) 0 0 1 := x_V hts hR mc_Rd_readSection mi_Rd ml_Rd_63 (by decide +kernel) mn_Rd_readSection me_Rd_Rd_readSection
theorem mn_Table_count : Cond.instanceMethod y_Table_count ∈ TB := tb 569 (by decide +kernel) rfl
theorem ml_Rd_70 : Cond.methodLink R_Rd 70 y_Table_count ∈ TB := tb 568 (by decide +kernel) rfl
theorem me_Table_Table_count : Cond.selects R_Table y_Table_count y_Table_count ∈ TB := tb 570 (by decide +kernel) rfl
theorem cw_Rd_70 {R : Room} {s : State} {args : Array Value} (hts : ∀ w ∈ TB, w.before args s = true) (hN : NW s) (hR : 0 + 1 ≤ R.frames ∧ 8 + (1 + 11) + 0 ≤ R.locals) : CallW R s args R_Rd R_Table 70 y_Table_count b_Table_count 1 (some .int) (Cond.code y_Table_count b_Table_count 1 (some .int) :: TB) (rmX 0 0) 0 0 0 := x_V hts hR mc_Table_count mi_Table ml_Rd_70 (by decide +kernel) mn_Table_count me_Table_Table_count
theorem mn_Rd_refuse : Cond.instanceMethod y_Rd_refuse ∈ TB := tb 544 (by decide +kernel) rfl
theorem ml_Rd_75 : Cond.methodLink R_Rd 75 y_Rd_refuse ∈ TB := tb 542 (by decide +kernel) rfl
theorem me_Rd_Rd_refuse : Cond.selects R_Rd y_Rd_refuse y_Rd_refuse ∈ TB := tb 2 (by decide +kernel) rfl
theorem cw_Rd_75 {R : Room} {s : State} {args : Array Value} (hts : ∀ w ∈ TB, w.before args s = true) (hN : NW s) (hR : 0 + 1 ≤ R.frames ∧ 8 + (2 + 11) + 0 ≤ R.locals) : CallW R s args R_Rd R_Rd 75 y_Rd_refuse b_Rd_refuse 2 none (Cond.code y_Rd_refuse b_Rd_refuse 2 none :: TB) (rmX 0 0) 0 0 1 := x_V hts hR mc_Rd_refuse mi_Rd ml_Rd_75 (by decide +kernel) mn_Rd_refuse me_Rd_Rd_refuse
theorem ms_Rd_mostOf : Cond.static y_Rd_mostOf ∈ TB := tb 551 (by decide +kernel) rfl
theorem ml_Rd_78 : Cond.methodLink R_Rd 78 y_Rd_mostOf ∈ TB := tb 550 (by decide +kernel) rfl
theorem cw_Rd_78 {R : Room} {s : State} {args : Array Value} (hts : ∀ w ∈ TB, w.before args s = true) (hN : NW s) (hR : 0 + 1 ≤ R.frames ∧ 8 + (1 + 11) + 0 ≤ R.locals) : CallB R s args R_Rd 78 y_Rd_mostOf b_Rd_mostOf 1 (some .int) (Cond.code y_Rd_mostOf b_Rd_mostOf 1 (some .int) :: TB) (rmX 0 0) 0 0 1 ∧ (Cond.static y_Rd_mostOf).before args s = true := ⟨x_B hts hR mc_Rd_mostOf mi_Rd ml_Rd_78 (by decide +kernel), hts _ ms_Rd_mostOf⟩
theorem mn_Rd_nextEnd : Cond.instanceMethod y_Rd_nextEnd ∈ TB := tb 559 (by decide +kernel) rfl
theorem ml_Rd_82 : Cond.methodLink R_Rd 82 y_Rd_nextEnd ∈ TB := tb 557 (by decide +kernel) rfl
theorem me_Rd_Rd_nextEnd : Cond.selects R_Rd y_Rd_nextEnd y_Rd_nextEnd ∈ TB := tb 5 (by decide +kernel) rfl
theorem cw_Rd_82 {R : Room} {s : State} {args : Array Value} (hts : ∀ w ∈ TB, w.before args s = true) (hN : NW s) (hR : 2 + 1 ≤ R.frames ∧ 8 + (2 + 11) + 44 ≤ R.locals) : CallW R s args R_Rd R_Rd 82 y_Rd_nextEnd b_Rd_nextEnd 2 (some .int) (Cond.code y_Rd_nextEnd b_Rd_nextEnd 2 (some .int) :: TB) (rmX 2 44) 0 0 0 := x_V hts hR mc_Rd_nextEnd mi_Rd ml_Rd_82 (by decide +kernel) mn_Rd_nextEnd me_Rd_Rd_nextEnd
theorem mn_Rd_nextUnsigned : Cond.instanceMethod y_Rd_nextUnsigned ∈ TB := tb 563 (by decide +kernel) rfl
theorem ml_Rd_85 : Cond.methodLink R_Rd 85 y_Rd_nextUnsigned ∈ TB := tb 561 (by decide +kernel) rfl
theorem me_Rd_Rd_nextUnsigned : Cond.selects R_Rd y_Rd_nextUnsigned y_Rd_nextUnsigned ∈ TB := tb 6 (by decide +kernel) rfl
theorem cw_Rd_85 {R : Room} {s : State} {args : Array Value} (hts : ∀ w ∈ TB, w.before args s = true) (hN : NW s) (hR : 1 + 1 ≤ R.frames ∧ 8 + (4 + 11) + 21 ≤ R.locals) : CallW R s args R_Rd R_Rd 85 y_Rd_nextUnsigned b_Rd_nextUnsigned 4 (some .int) (Cond.code y_Rd_nextUnsigned b_Rd_nextUnsigned 4 (some .int) :: TB) (rmX 1 21) 0 0 0 := x_V hts hR mc_Rd_nextUnsigned mi_Rd ml_Rd_85 (by decide +kernel) mn_Rd_nextUnsigned me_Rd_Rd_nextUnsigned
theorem cw_Rd_88 {R : Room} {s : State} {args : Array Value} (hts : ∀ w ∈ TB, w.before args s = true) (hN : NW s) (hR : 0 + 1 ≤ R.frames ∧ 8 + (2 + 11) + 0 ≤ R.locals) : va_CN R s args R_Rd 88 y_X_isAbove "WasmMachine" b_X_isAbove 2 (some .boolean) (Cond.code y_X_isAbove b_X_isAbove 2 (some .boolean) :: TB) (rmX 0 0) 0 0 2 ∧ (Cond.static y_X_isAbove).before args s = true ∧ True := ⟨va_cnB 2 hts (x_good mc_X_isAbove) rfl rfl rfl (hN _ (List.mem_of_getElem? (i := 0) rfl)) (hts _ mi_X) (by decide +kernel) hR, hts _ ms_X_isAbove, trivial⟩
theorem mn_Rd_readType : Cond.instanceMethod y_Rd_readType ∈ TB := tb 574 (by decide +kernel) rfl
theorem ml_Rd_92 : Cond.methodLink R_Rd 92 y_Rd_readType ∈ TB := tb 572 (by decide +kernel) rfl
theorem me_Rd_Rd_readType : Cond.selects R_Rd y_Rd_readType y_Rd_readType ∈ TB := tb 7 (by decide +kernel) rfl
theorem cw_Rd_92 {R : Room} {s : State} {args : Array Value} (hts : ∀ w ∈ TB, w.before args s = true) (hN : NW s) (hR : 3 + 1 ≤ R.frames ∧ 8 + (2 + 11) + 66 ≤ R.locals) : CallW R s args R_Rd R_Rd 92 y_Rd_readType b_Rd_readType 2 none (Cond.code y_Rd_readType b_Rd_readType 2 none :: TB) (rmX 3 66) 0 0 0 := x_V hts hR mc_Rd_readType mi_Rd ml_Rd_92 (by decide +kernel) mn_Rd_readType me_Rd_Rd_readType
theorem mn_Table_add : Cond.instanceMethod y_Table_add ∈ TB := tb 577 (by decide +kernel) rfl
theorem ml_Rd_95 : Cond.methodLink R_Rd 95 y_Table_add ∈ TB := tb 576 (by decide +kernel) rfl
theorem me_Table_Table_add : Cond.selects R_Table y_Table_add y_Table_add ∈ TB := tb 578 (by decide +kernel) rfl
theorem cw_Rd_95 {R : Room} {s : State} {args : Array Value} (hts : ∀ w ∈ TB, w.before args s = true) (hN : NW s) (hR : 0 + 1 ≤ R.frames ∧ 8 + (1 + 11) + 0 ≤ R.locals) : CallW R s args R_Rd R_Table 95 y_Table_add b_Table_add 1 (some .int) (Cond.code y_Table_add b_Table_add 1 (some .int) :: TB) (rmX 0 0) 0 0 0 := x_V hts hR mc_Table_add mi_Table ml_Rd_95 (by decide +kernel) mn_Table_add me_Table_Table_add
theorem mn_Table_set : Cond.instanceMethod y_Table_set ∈ TB := tb 589 (by decide +kernel) rfl
theorem ml_Rd_98 : Cond.methodLink R_Rd 98 y_Table_set ∈ TB := tb 588 (by decide +kernel) rfl
theorem me_Table_Table_set : Cond.selects R_Table y_Table_set y_Table_set ∈ TB := tb 590 (by decide +kernel) rfl
theorem cw_Rd_98 {R : Room} {s : State} {args : Array Value} (hts : ∀ w ∈ TB, w.before args s = true) (hN : NW s) (hR : 0 + 1 ≤ R.frames ∧ 8 + (5 + 11) + 0 ≤ R.locals) : CallW R s args R_Rd R_Table 98 y_Table_set b_Table_set 5 none (Cond.code y_Table_set b_Table_set 5 none :: TB) (rmX 0 0) 0 0 3 := x_V hts hR mc_Table_set mi_Table ml_Rd_98 (by decide +kernel) mn_Table_set me_Table_Table_set
theorem mn_Rd_readMemory : Cond.instanceMethod y_Rd_readMemory ∈ TB := tb 594 (by decide +kernel) rfl
theorem ml_Rd_102 : Cond.methodLink R_Rd 102 y_Rd_readMemory ∈ TB := tb 592 (by decide +kernel) rfl
theorem me_Rd_Rd_readMemory : Cond.selects R_Rd y_Rd_readMemory y_Rd_readMemory ∈ TB := tb 10 (by decide +kernel) rfl
theorem cw_Rd_102 {R : Room} {s : State} {args : Array Value} (hts : ∀ w ∈ TB, w.before args s = true) (hN : NW s) (hR : 2 + 1 ≤ R.frames ∧ 8 + (4 + 11) + 44 ≤ R.locals) : CallW R s args R_Rd R_Rd 102 y_Rd_readMemory b_Rd_readMemory 4 none (Cond.code y_Rd_readMemory b_Rd_readMemory 4 none :: TB) (rmX 2 44) 0 0 0 := x_V hts hR mc_Rd_readMemory mi_Rd ml_Rd_102 (by decide +kernel) mn_Rd_readMemory me_Rd_Rd_readMemory
theorem mn_Rd_readGlobal : Cond.instanceMethod y_Rd_readGlobal ∈ TB := tb 602 (by decide +kernel) rfl
theorem ml_Rd_105 : Cond.methodLink R_Rd 105 y_Rd_readGlobal ∈ TB := tb 600 (by decide +kernel) rfl
theorem me_Rd_Rd_readGlobal : Cond.selects R_Rd y_Rd_readGlobal y_Rd_readGlobal ∈ TB := tb 12 (by decide +kernel) rfl
theorem cw_Rd_105 {R : Room} {s : State} {args : Array Value} (hts : ∀ w ∈ TB, w.before args s = true) (hN : NW s) (hR : 3 + 1 ≤ R.frames ∧ 8 + (2 + 11) + 65 ≤ R.locals) : CallW R s args R_Rd R_Rd 105 y_Rd_readGlobal b_Rd_readGlobal 2 none (Cond.code y_Rd_readGlobal b_Rd_readGlobal 2 none :: TB) (rmX 3 65) 0 0 0 := x_V hts hR mc_Rd_readGlobal mi_Rd ml_Rd_105 (by decide +kernel) mn_Rd_readGlobal me_Rd_Rd_readGlobal
theorem mn_Rd_readExport : Cond.instanceMethod y_Rd_readExport ∈ TB := tb 614 (by decide +kernel) rfl
theorem ml_Rd_108 : Cond.methodLink R_Rd 108 y_Rd_readExport ∈ TB := tb 612 (by decide +kernel) rfl
theorem me_Rd_Rd_readExport : Cond.selects R_Rd y_Rd_readExport y_Rd_readExport ∈ TB := tb 15 (by decide +kernel) rfl
theorem cw_Rd_108 {R : Room} {s : State} {args : Array Value} (hts : ∀ w ∈ TB, w.before args s = true) (hN : NW s) (hR : 2 + 1 ≤ R.frames ∧ 8 + (5 + 11) + 44 ≤ R.locals) : CallW R s args R_Rd R_Rd 108 y_Rd_readExport b_Rd_readExport 5 none (Cond.code y_Rd_readExport b_Rd_readExport 5 none :: TB) (rmX 2 44) 0 0 0 := x_V hts hR mc_Rd_readExport mi_Rd ml_Rd_108 (by decide +kernel) mn_Rd_readExport me_Rd_Rd_readExport
theorem mn_Rd_readBody : Cond.instanceMethod y_Rd_readBody ∈ TB := tb 618 (by decide +kernel) rfl
theorem ml_Rd_111 : Cond.methodLink R_Rd 111 y_Rd_readBody ∈ TB := tb 616 (by decide +kernel) rfl
theorem me_Rd_Rd_readBody : Cond.selects R_Rd y_Rd_readBody y_Rd_readBody ∈ TB := tb 16 (by decide +kernel) rfl
theorem cw_Rd_111 {R : Room} {s : State} {args : Array Value} (hts : ∀ w ∈ TB, w.before args s = true) (hN : NW s) (hR : 4 + 1 ≤ R.frames ∧ 8 + (4 + 11) + 89 ≤ R.locals) : CallW R s args R_Rd R_Rd 111 y_Rd_readBody b_Rd_readBody 4 none (Cond.code y_Rd_readBody b_Rd_readBody 4 none :: TB) (rmX 4 89) 0 0 1 := x_V hts hR mc_Rd_readBody mi_Rd ml_Rd_111 (by decide +kernel) mn_Rd_readBody me_Rd_Rd_readBody
theorem mn_Rd_readData : Cond.instanceMethod y_Rd_readData ∈ TB := tb 690 (by decide +kernel) rfl
theorem ml_Rd_114 : Cond.methodLink R_Rd 114 y_Rd_readData ∈ TB := tb 688 (by decide +kernel) rfl
theorem me_Rd_Rd_readData : Cond.selects R_Rd y_Rd_readData y_Rd_readData ∈ TB := tb 24 (by decide +kernel) rfl
theorem cw_Rd_114 {R : Room} {s : State} {args : Array Value} (hts : ∀ w ∈ TB, w.before args s = true) (hN : NW s) (hR : 3 + 1 ≤ R.frames ∧ 8 + (3 + 11) + 65 ≤ R.locals) : CallW R s args R_Rd R_Rd 114 y_Rd_readData b_Rd_readData 3 none (Cond.code y_Rd_readData b_Rd_readData 3 none :: TB) (rmX 3 65) 0 0 0 := x_V hts hR mc_Rd_readData mi_Rd ml_Rd_114 (by decide +kernel) mn_Rd_readData me_Rd_Rd_readData
theorem mn_Rd_readValueTypes : Cond.instanceMethod y_Rd_readValueTypes ∈ TB := tb 582 (by decide +kernel) rfl
theorem ml_Rd_120 : Cond.methodLink R_Rd 120 y_Rd_readValueTypes ∈ TB := tb 580 (by decide +kernel) rfl
theorem me_Rd_Rd_readValueTypes : Cond.selects R_Rd y_Rd_readValueTypes y_Rd_readValueTypes ∈ TB := tb 8 (by decide +kernel) rfl
theorem cw_Rd_120 {R : Room} {s : State} {args : Array Value} (hts : ∀ w ∈ TB, w.before args s = true) (hN : NW s) (hR : 2 + 1 ≤ R.frames ∧ 8 + (3 + 11) + 44 ≤ R.locals) : CallW R s args R_Rd R_Rd 120 y_Rd_readValueTypes b_Rd_readValueTypes 3 (some .int) (Cond.code y_Rd_readValueTypes b_Rd_readValueTypes 3 (some .int) :: TB) (rmX 2 44) 0 0 0 := x_V hts hR mc_Rd_readValueTypes mi_Rd ml_Rd_120 (by decide +kernel) mn_Rd_readValueTypes me_Rd_Rd_readValueTypes
theorem mn_Rd_readValueType : Cond.instanceMethod y_Rd_readValueType ∈ TB := tb 586 (by decide +kernel) rfl
theorem ml_Rd_123 : Cond.methodLink R_Rd 123 y_Rd_readValueType ∈ TB := tb 584 (by decide +kernel) rfl
theorem me_Rd_Rd_readValueType : Cond.selects R_Rd y_Rd_readValueType y_Rd_readValueType ∈ TB := tb 9 (by decide +kernel) rfl
theorem cw_Rd_123 {R : Room} {s : State} {args : Array Value} (hts : ∀ w ∈ TB, w.before args s = true) (hN : NW s) (hR : 1 + 1 ≤ R.frames ∧ 8 + (1 + 11) + 21 ≤ R.locals) : CallW R s args R_Rd R_Rd 123 y_Rd_readValueType b_Rd_readValueType 1 none (Cond.code y_Rd_readValueType b_Rd_readValueType 1 none :: TB) (rmX 1 21) 0 0 0 := x_V hts hR mc_Rd_readValueType mi_Rd ml_Rd_123 (by decide +kernel) mn_Rd_readValueType me_Rd_Rd_readValueType
theorem mn_Rd_nextUpTo : Cond.instanceMethod y_Rd_nextUpTo ∈ TB := tb 598 (by decide +kernel) rfl
theorem ml_Rd_126 : Cond.methodLink R_Rd 126 y_Rd_nextUpTo ∈ TB := tb 596 (by decide +kernel) rfl
theorem me_Rd_Rd_nextUpTo : Cond.selects R_Rd y_Rd_nextUpTo y_Rd_nextUpTo ∈ TB := tb 11 (by decide +kernel) rfl
theorem cw_Rd_126 {R : Room} {s : State} {args : Array Value} (hts : ∀ w ∈ TB, w.before args s = true) (hN : NW s) (hR : 1 + 1 ≤ R.frames ∧ 8 + (3 + 11) + 21 ≤ R.locals) : CallW R s args R_Rd R_Rd 126 y_Rd_nextUpTo b_Rd_nextUpTo 3 (some .int) (Cond.code y_Rd_nextUpTo b_Rd_nextUpTo 3 (some .int) :: TB) (rmX 1 21) 0 0 1 := x_V hts hR mc_Rd_nextUpTo mi_Rd ml_Rd_126 (by decide +kernel) mn_Rd_nextUpTo me_Rd_Rd_nextUpTo
theorem mn_Rd_readConstant : Cond.instanceMethod y_Rd_readConstant ∈ TB := tb 606 (by decide +kernel) rfl
theorem ml_Rd_142 : Cond.methodLink R_Rd 142 y_Rd_readConstant ∈ TB := tb 604 (by decide +kernel) rfl
theorem me_Rd_Rd_readConstant : Cond.selects R_Rd y_Rd_readConstant y_Rd_readConstant ∈ TB := tb 13 (by decide +kernel) rfl
theorem cw_Rd_142 {R : Room} {s : State} {args : Array Value} (hts : ∀ w ∈ TB, w.before args s = true) (hN : NW s) (hR : 2 + 1 ≤ R.frames ∧ 8 + (2 + 11) + 44 ≤ R.locals) : CallW R s args R_Rd R_Rd 142 y_Rd_readConstant b_Rd_readConstant 2 (some .int) (Cond.code y_Rd_readConstant b_Rd_readConstant 2 (some .int) :: TB) (rmX 2 44) 0 0 0 := x_V hts hR mc_Rd_readConstant mi_Rd ml_Rd_142 (by decide +kernel) mn_Rd_readConstant me_Rd_Rd_readConstant
theorem mn_Rd_nextSigned : Cond.instanceMethod y_Rd_nextSigned ∈ TB := tb 610 (by decide +kernel) rfl
theorem ml_Rd_147 : Cond.methodLink R_Rd 147 y_Rd_nextSigned ∈ TB := tb 608 (by decide +kernel) rfl
theorem me_Rd_Rd_nextSigned : Cond.selects R_Rd y_Rd_nextSigned y_Rd_nextSigned ∈ TB := tb 14 (by decide +kernel) rfl
theorem cw_Rd_147 {R : Room} {s : State} {args : Array Value} (hts : ∀ w ∈ TB, w.before args s = true) (hN : NW s) (hR : 1 + 1 ≤ R.frames ∧ 8 + (4 + 11) + 21 ≤ R.locals) : CallW R s args R_Rd R_Rd 147 y_Rd_nextSigned b_Rd_nextSigned 4 (some .int) (Cond.code y_Rd_nextSigned b_Rd_nextSigned 4 (some .int) :: TB) (rmX 1 21) 0 0 0 := x_V hts hR mc_Rd_nextSigned mi_Rd ml_Rd_147 (by decide +kernel) mn_Rd_nextSigned me_Rd_Rd_nextSigned
theorem mn_Rd_readLocals : Cond.instanceMethod y_Rd_readLocals ∈ TB := tb 622 (by decide +kernel) rfl
theorem ml_Rd_156 : Cond.methodLink R_Rd 156 y_Rd_readLocals ∈ TB := tb 620 (by decide +kernel) rfl
theorem me_Rd_Rd_readLocals : Cond.selects R_Rd y_Rd_readLocals y_Rd_readLocals ∈ TB := tb 17 (by decide +kernel) rfl
theorem cw_Rd_156 {R : Room} {s : State} {args : Array Value} (hts : ∀ w ∈ TB, w.before args s = true) (hN : NW s) (hR : 2 + 1 ≤ R.frames ∧ 8 + (7 + 11) + 45 ≤ R.locals) : CallW R s args R_Rd R_Rd 156 y_Rd_readLocals b_Rd_readLocals 7 none (Cond.code y_Rd_readLocals b_Rd_readLocals 7 none :: TB) (rmX 2 45) 0 0 1 := x_V hts hR mc_Rd_readLocals mi_Rd ml_Rd_156 (by decide +kernel) mn_Rd_readLocals me_Rd_Rd_readLocals
theorem ml_Rd_162 : Cond.methodLink R_Rd 162 y_Row_set ∈ TB := tb 636 (by decide +kernel) rfl
theorem cw_Rd_162 {R : Room} {s : State} {args : Array Value} (hts : ∀ w ∈ TB, w.before args s = true) (hN : NW s) (hR : 0 + 1 ≤ R.frames ∧ 8 + (3 + 11) + 0 ≤ R.locals) : CallW R s args R_Rd R_Row 162 y_Row_set b_Row_set 3 none (Cond.code y_Row_set b_Row_set 3 none :: TB) (rmX 0 0) 0 0 2 := x_V hts hR mc_Row_set mi_Row ml_Rd_162 (by decide +kernel) mn_Row_set me_Row_Row_set
theorem mn_Rd_readInstruction : Cond.instanceMethod y_Rd_readInstruction ∈ TB := tb 642 (by decide +kernel) rfl
theorem ml_Rd_167 : Cond.methodLink R_Rd 167 y_Rd_readInstruction ∈ TB := tb 640 (by decide +kernel) rfl
theorem me_Rd_Rd_readInstruction : Cond.selects R_Rd y_Rd_readInstruction y_Rd_readInstruction ∈ TB := tb 18 (by decide +kernel) rfl
theorem cw_Rd_167 {R : Room} {s : State} {args : Array Value} (hts : ∀ w ∈ TB, w.before args s = true) (hN : NW s) (hR : 3 + 1 ≤ R.frames ∧ 8 + (3 + 11) + 67 ≤ R.locals) : CallW R s args R_Rd R_Rd 167 y_Rd_readInstruction b_Rd_readInstruction 3 none (Cond.code y_Rd_readInstruction b_Rd_readInstruction 3 none :: TB) (rmX 3 67) 0 0 0 := x_V hts hR mc_Rd_readInstruction mi_Rd ml_Rd_167 (by decide +kernel) mn_Rd_readInstruction me_Rd_Rd_readInstruction
theorem ml_Rd_170 : Cond.methodLink R_Rd 170 y_Cont_parametersOf ∈ TB := tb 624 (by decide +kernel) rfl
theorem cw_Rd_170 {R : Room} {s : State} {args : Array Value} (hts : ∀ w ∈ TB, w.before args s = true) (hN : NW s) (hR : 1 + 1 ≤ R.frames ∧ 8 + (3 + 11) + 23 ≤ R.locals) : CallW R s args R_Rd R_Cont 170 y_Cont_parametersOf b_Cont_parametersOf 3 (some .int) (Cond.code y_Cont_parametersOf b_Cont_parametersOf 3 (some .int) :: TB) (rmX 1 23) 0 0 1 := x_V hts hR mc_Cont_parametersOf mi_Cont ml_Rd_170 (by decide +kernel) mn_Cont_parametersOf me_Cont_Cont_parametersOf
theorem ms_Op_isKnown : Cond.static y_Op_isKnown ∈ TB := tb 645 (by decide +kernel) rfl
theorem ml_Rd_173 : Cond.methodLink R_Rd 173 y_Op_isKnown ∈ TB := tb 644 (by decide +kernel) rfl
theorem cw_Rd_173 {R : Room} {s : State} {args : Array Value} (hts : ∀ w ∈ TB, w.before args s = true) (hN : NW s) (hR : 2 + 1 ≤ R.frames ∧ 8 + (1 + 11) + 40 ≤ R.locals) : CallB R s args R_Rd 173 y_Op_isKnown b_Op_isKnown 1 (some .boolean) (Cond.code y_Op_isKnown b_Op_isKnown 1 (some .boolean) :: TB) (rmX 2 40) 0 0 1 ∧ (Cond.static y_Op_isKnown).before args s = true := ⟨x_B hts hR mc_Op_isKnown mi_Op ml_Rd_173 (by decide +kernel), hts _ ms_Op_isKnown⟩
theorem ms_Op_opensBlock : Cond.static y_Op_opensBlock ∈ TB := tb 660 (by decide +kernel) rfl
theorem ml_Rd_177 : Cond.methodLink R_Rd 177 y_Op_opensBlock ∈ TB := tb 659 (by decide +kernel) rfl
theorem cw_Rd_177 {R : Room} {s : State} {args : Array Value} (hts : ∀ w ∈ TB, w.before args s = true) (hN : NW s) (hR : 0 + 1 ≤ R.frames ∧ 8 + (1 + 11) + 0 ≤ R.locals) : CallB R s args R_Rd 177 y_Op_opensBlock b_Op_opensBlock 1 (some .boolean) (Cond.code y_Op_opensBlock b_Op_opensBlock 1 (some .boolean) :: TB) (rmX 0 0) 0 0 1 ∧ (Cond.static y_Op_opensBlock).before args s = true := ⟨x_B hts hR mc_Op_opensBlock mi_Op ml_Rd_177 (by decide +kernel), hts _ ms_Op_opensBlock⟩
theorem mn_Rd_openBlock : Cond.instanceMethod y_Rd_openBlock ∈ TB := tb 664 (by decide +kernel) rfl
theorem ml_Rd_180 : Cond.methodLink R_Rd 180 y_Rd_openBlock ∈ TB := tb 662 (by decide +kernel) rfl
theorem me_Rd_Rd_openBlock : Cond.selects R_Rd y_Rd_openBlock y_Rd_openBlock ∈ TB := tb 19 (by decide +kernel) rfl
theorem cw_Rd_180 {R : Room} {s : State} {args : Array Value} (hts : ∀ w ∈ TB, w.before args s = true) (hN : NW s) (hR : 1 + 1 ≤ R.frames ∧ 8 + (3 + 11) + 24 ≤ R.locals) : CallW R s args R_Rd R_Rd 180 y_Rd_openBlock b_Rd_openBlock 3 none (Cond.code y_Rd_openBlock b_Rd_openBlock 3 none :: TB) (rmX 1 24) 0 0 1 := x_V hts hR mc_Rd_openBlock mi_Rd ml_Rd_180 (by decide +kernel) mn_Rd_openBlock me_Rd_Rd_openBlock
theorem mn_Rd_turnBlock : Cond.instanceMethod y_Rd_turnBlock ∈ TB := tb 668 (by decide +kernel) rfl
theorem ml_Rd_183 : Cond.methodLink R_Rd 183 y_Rd_turnBlock ∈ TB := tb 666 (by decide +kernel) rfl
theorem me_Rd_Rd_turnBlock : Cond.selects R_Rd y_Rd_turnBlock y_Rd_turnBlock ∈ TB := tb 20 (by decide +kernel) rfl
theorem cw_Rd_183 {R : Room} {s : State} {args : Array Value} (hts : ∀ w ∈ TB, w.before args s = true) (hN : NW s) (hR : 1 + 1 ≤ R.frames ∧ 8 + (3 + 11) + 24 ≤ R.locals) : CallW R s args R_Rd R_Rd 183 y_Rd_turnBlock b_Rd_turnBlock 3 none (Cond.code y_Rd_turnBlock b_Rd_turnBlock 3 none :: TB) (rmX 1 24) 0 0 1 := x_V hts hR mc_Rd_turnBlock mi_Rd ml_Rd_183 (by decide +kernel) mn_Rd_turnBlock me_Rd_Rd_turnBlock
theorem mn_Rd_closeBlock : Cond.instanceMethod y_Rd_closeBlock ∈ TB := tb 677 (by decide +kernel) rfl
theorem ml_Rd_186 : Cond.methodLink R_Rd 186 y_Rd_closeBlock ∈ TB := tb 675 (by decide +kernel) rfl
theorem me_Rd_Rd_closeBlock : Cond.selects R_Rd y_Rd_closeBlock y_Rd_closeBlock ∈ TB := tb 21 (by decide +kernel) rfl
theorem cw_Rd_186 {R : Room} {s : State} {args : Array Value} (hts : ∀ w ∈ TB, w.before args s = true) (hN : NW s) (hR : 1 + 1 ≤ R.frames ∧ 8 + (4 + 11) + 24 ≤ R.locals) : CallW R s args R_Rd R_Rd 186 y_Rd_closeBlock b_Rd_closeBlock 4 none (Cond.code y_Rd_closeBlock b_Rd_closeBlock 4 none :: TB) (rmX 1 24) 0 0 1 := x_V hts hR mc_Rd_closeBlock mi_Rd ml_Rd_186 (by decide +kernel) mn_Rd_closeBlock me_Rd_Rd_closeBlock
theorem mn_Rd_readPlaces : Cond.instanceMethod y_Rd_readPlaces ∈ TB := tb 681 (by decide +kernel) rfl
theorem ml_Rd_189 : Cond.methodLink R_Rd 189 y_Rd_readPlaces ∈ TB := tb 679 (by decide +kernel) rfl
theorem me_Rd_Rd_readPlaces : Cond.selects R_Rd y_Rd_readPlaces y_Rd_readPlaces ∈ TB := tb 22 (by decide +kernel) rfl
theorem cw_Rd_189 {R : Room} {s : State} {args : Array Value} (hts : ∀ w ∈ TB, w.before args s = true) (hN : NW s) (hR : 2 + 1 ≤ R.frames ∧ 8 + (4 + 11) + 44 ≤ R.locals) : CallW R s args R_Rd R_Rd 189 y_Rd_readPlaces b_Rd_readPlaces 4 none (Cond.code y_Rd_readPlaces b_Rd_readPlaces 4 none :: TB) (rmX 2 44) 0 0 1 := x_V hts hR mc_Rd_readPlaces mi_Rd ml_Rd_189 (by decide +kernel) mn_Rd_readPlaces me_Rd_Rd_readPlaces
theorem mn_Rd_readOperands : Cond.instanceMethod y_Rd_readOperands ∈ TB := tb 685 (by decide +kernel) rfl
theorem ml_Rd_192 : Cond.methodLink R_Rd 192 y_Rd_readOperands ∈ TB := tb 683 (by decide +kernel) rfl
theorem me_Rd_Rd_readOperands : Cond.selects R_Rd y_Rd_readOperands y_Rd_readOperands ∈ TB := tb 23 (by decide +kernel) rfl
theorem cw_Rd_192 {R : Room} {s : State} {args : Array Value} (hts : ∀ w ∈ TB, w.before args s = true) (hN : NW s) (hR : 2 + 1 ≤ R.frames ∧ 8 + (3 + 11) + 44 ≤ R.locals) : CallW R s args R_Rd R_Rd 192 y_Rd_readOperands b_Rd_readOperands 3 none (Cond.code y_Rd_readOperands b_Rd_readOperands 3 none :: TB) (rmX 2 44) 0 0 2 := x_V hts hR mc_Rd_readOperands mi_Rd ml_Rd_192 (by decide +kernel) mn_Rd_readOperands me_Rd_Rd_readOperands
theorem ml_Rd_195 : Cond.methodLink R_Rd 195 y_Op_isAccess ∈ TB := tb 687 (by decide +kernel) rfl
theorem cw_Rd_195 {R : Room} {s : State} {args : Array Value} (hts : ∀ w ∈ TB, w.before args s = true) (hN : NW s) (hR : 1 + 1 ≤ R.frames ∧ 8 + (1 + 11) + 20 ≤ R.locals) : CallB R s args R_Rd 195 y_Op_isAccess b_Op_isAccess 1 (some .boolean) (Cond.code y_Op_isAccess b_Op_isAccess 1 (some .boolean) :: TB) (rmX 1 20) 0 0 1 ∧ (Cond.static y_Op_isAccess).before args s = true := ⟨x_B hts hR mc_Op_isAccess mi_Op ml_Rd_195 (by decide +kernel), hts _ ms_Op_isAccess⟩
theorem ml_Rd_198 : Cond.methodLink R_Rd 198 y_Row_get ∈ TB := tb 670 (by decide +kernel) rfl
theorem cw_Rd_198 {R : Room} {s : State} {args : Array Value} (hts : ∀ w ∈ TB, w.before args s = true) (hN : NW s) (hR : 0 + 1 ≤ R.frames ∧ 8 + (2 + 11) + 0 ≤ R.locals) : CallW R s args R_Rd R_Row 198 y_Row_get b_Row_get 2 (some .int) (Cond.code y_Row_get b_Row_get 2 (some .int) :: TB) (rmX 0 0) 0 0 1 := x_V hts hR mc_Row_get mi_Row ml_Rd_198 (by decide +kernel) mn_Row_get me_Row_Row_get
theorem ml_Rd_201 : Cond.methodLink R_Rd 201 y_Table_get ∈ TB := tb 674 (by decide +kernel) rfl
theorem cw_Rd_201 {R : Room} {s : State} {args : Array Value} (hts : ∀ w ∈ TB, w.before args s = true) (hN : NW s) (hR : 0 + 1 ≤ R.frames ∧ 8 + (4 + 11) + 0 ≤ R.locals) : CallW R s args R_Rd R_Table 201 y_Table_get b_Table_get 4 (some .int) (Cond.code y_Table_get b_Table_get 4 (some .int) :: TB) (rmX 0 0) 0 0 2 := x_V hts hR mc_Table_get mi_Table ml_Rd_201 (by decide +kernel) mn_Table_get me_Table_Table_get
theorem ml_RC_31 : Cond.methodLink R_RC 31 y_Row_get ∈ TB := tb 863 (by decide +kernel) rfl
theorem cw_RC_31 {R : Room} {s : State} {args : Array Value} (hts : ∀ w ∈ TB, w.before args s = true) (hN : NW s) (hR : 0 + 1 ≤ R.frames ∧ 8 + (2 + 11) + 0 ≤ R.locals) : CallW R s args R_RC R_Row 31 y_Row_get b_Row_get 2 (some .int) (Cond.code y_Row_get b_Row_get 2 (some .int) :: TB) (rmX 0 0) 0 0 1 := x_V hts hR mc_Row_get mi_Row ml_RC_31 (by decide +kernel) mn_Row_get me_Row_Row_get
theorem ml_RC_44 : Cond.methodLink R_RC 44 y_Table_get ∈ TB := tb 840 (by decide +kernel) rfl
theorem cw_RC_44 {R : Room} {s : State} {args : Array Value} (hts : ∀ w ∈ TB, w.before args s = true) (hN : NW s) (hR : 0 + 1 ≤ R.frames ∧ 8 + (4 + 11) + 0 ≤ R.locals) : CallW R s args R_RC R_Table 44 y_Table_get b_Table_get 4 (some .int) (Cond.code y_Table_get b_Table_get 4 (some .int) :: TB) (rmX 0 0) 0 0 2 := x_V hts hR mc_Table_get mi_Table ml_RC_44 (by decide +kernel) mn_Table_get me_Table_Table_get
theorem mn_RC_numberEntries : Cond.instanceMethod y_RC_numberEntries ∈ TB := tb 837 (by decide +kernel) rfl
theorem ml_RC_49 : Cond.methodLink R_RC 49 y_RC_numberEntries ∈ TB := tb 835 (by decide +kernel) rfl
theorem me_RC_RC_numberEntries : Cond.selects R_RC y_RC_numberEntries y_RC_numberEntries ∈ TB := tb 45 (by decide +kernel) rfl
theorem cw_RC_49 {R : Room} {s : State} {args : Array Value} (hts : ∀ w ∈ TB, w.before args s = true) (hN : NW s) (hR : 2 + 1 ≤ R.frames ∧ 8 + (5 + 11) + 46 ≤ R.locals) : CallW R s args R_RC R_RC 49 y_RC_numberEntries b_RC_numberEntries 5 none (Cond.code y_RC_numberEntries b_RC_numberEntries 5 none :: TB) (rmX 2 46) 0 0 0 := x_V hts hR mc_RC_numberEntries mi_RC ml_RC_49 (by decide +kernel) mn_RC_numberEntries me_RC_RC_numberEntries
theorem ml_RC_52 : Cond.methodLink R_RC 52 y_Table_count ∈ TB := tb 839 (by decide +kernel) rfl
theorem cw_RC_52 {R : Room} {s : State} {args : Array Value} (hts : ∀ w ∈ TB, w.before args s = true) (hN : NW s) (hR : 0 + 1 ≤ R.frames ∧ 8 + (1 + 11) + 0 ≤ R.locals) : CallW R s args R_RC R_Table 52 y_Table_count b_Table_count 1 (some .int) (Cond.code y_Table_count b_Table_count 1 (some .int) :: TB) (rmX 0 0) 0 0 0 := x_V hts hR mc_Table_count mi_Table ml_RC_52 (by decide +kernel) mn_Table_count me_Table_Table_count
theorem mn_RC_writeBody : Cond.instanceMethod y_RC_writeBody ∈ TB := tb 848 (by decide +kernel) rfl
theorem ml_RC_56 : Cond.methodLink R_RC 56 y_RC_writeBody ∈ TB := tb 846 (by decide +kernel) rfl
theorem me_RC_RC_writeBody : Cond.selects R_RC y_RC_writeBody y_RC_writeBody ∈ TB := tb 47 (by decide +kernel) rfl
theorem cw_RC_56 {R : Room} {s : State} {args : Array Value} (hts : ∀ w ∈ TB, w.before args s = true) (hN : NW s) (hR : 5 + 1 ≤ R.frames ∧ 8 + (5 + 11) + 121 ≤ R.locals) : CallW R s args R_RC R_RC 56 y_RC_writeBody b_RC_writeBody 5 none (Cond.code y_RC_writeBody b_RC_writeBody 5 none :: TB) (rmX 5 121) 0 0 1 := x_V hts hR mc_RC_writeBody mi_RC ml_RC_56 (by decide +kernel) mn_RC_writeBody me_RC_RC_writeBody
theorem ml_RC_59 : Cond.methodLink R_RC 59 y_Table_set ∈ TB := tb 841 (by decide +kernel) rfl
theorem cw_RC_59 {R : Room} {s : State} {args : Array Value} (hts : ∀ w ∈ TB, w.before args s = true) (hN : NW s) (hR : 0 + 1 ≤ R.frames ∧ 8 + (5 + 11) + 0 ≤ R.locals) : CallW R s args R_RC R_Table 59 y_Table_set b_Table_set 5 none (Cond.code y_Table_set b_Table_set 5 none :: TB) (rmX 0 0) 0 0 3 := x_V hts hR mc_Table_set mi_Table ml_RC_59 (by decide +kernel) mn_Table_set me_Table_Table_set
theorem mn_RC_entriesOf : Cond.instanceMethod y_RC_entriesOf ∈ TB := tb 844 (by decide +kernel) rfl
theorem ml_RC_63 : Cond.methodLink R_RC 63 y_RC_entriesOf ∈ TB := tb 842 (by decide +kernel) rfl
theorem me_RC_RC_entriesOf : Cond.selects R_RC y_RC_entriesOf y_RC_entriesOf ∈ TB := tb 46 (by decide +kernel) rfl
theorem cw_RC_63 {R : Room} {s : State} {args : Array Value} (hts : ∀ w ∈ TB, w.before args s = true) (hN : NW s) (hR : 1 + 1 ≤ R.frames ∧ 8 + (4 + 11) + 23 ≤ R.locals) : CallW R s args R_RC R_RC 63 y_RC_entriesOf b_RC_entriesOf 4 (some .int) (Cond.code y_RC_entriesOf b_RC_entriesOf 4 (some .int) :: TB) (rmX 1 23) 0 0 2 := x_V hts hR mc_RC_entriesOf mi_RC ml_RC_63 (by decide +kernel) mn_RC_entriesOf me_RC_RC_entriesOf
theorem mn_RC_writeInstruction : Cond.instanceMethod y_RC_writeInstruction ∈ TB := tb 852 (by decide +kernel) rfl
theorem ml_RC_74 : Cond.methodLink R_RC 74 y_RC_writeInstruction ∈ TB := tb 850 (by decide +kernel) rfl
theorem me_RC_RC_writeInstruction : Cond.selects R_RC y_RC_writeInstruction y_RC_writeInstruction ∈ TB := tb 48 (by decide +kernel) rfl
theorem cw_RC_74 {R : Room} {s : State} {args : Array Value} (hts : ∀ w ∈ TB, w.before args s = true) (hN : NW s) (hR : 4 + 1 ≤ R.frames ∧ 8 + (8 + 11) + 94 ≤ R.locals) : CallW R s args R_RC R_RC 74 y_RC_writeInstruction b_RC_writeInstruction 8 none (Cond.code y_RC_writeInstruction b_RC_writeInstruction 8 none :: TB) (rmX 4 94) 0 0 2 := x_V hts hR mc_RC_writeInstruction mi_RC ml_RC_74 (by decide +kernel) mn_RC_writeInstruction me_RC_RC_writeInstruction
theorem ml_RC_78 : Cond.methodLink R_RC 78 y_Op_opensBlock ∈ TB := tb 892 (by decide +kernel) rfl
theorem cw_RC_78 {R : Room} {s : State} {args : Array Value} (hts : ∀ w ∈ TB, w.before args s = true) (hN : NW s) (hR : 0 + 1 ≤ R.frames ∧ 8 + (1 + 11) + 0 ≤ R.locals) : CallB R s args R_RC 78 y_Op_opensBlock b_Op_opensBlock 1 (some .boolean) (Cond.code y_Op_opensBlock b_Op_opensBlock 1 (some .boolean) :: TB) (rmX 0 0) 0 0 1 ∧ (Cond.static y_Op_opensBlock).before args s = true := ⟨x_B hts hR mc_Op_opensBlock mi_Op ml_RC_78 (by decide +kernel), hts _ ms_Op_opensBlock⟩
theorem ml_RC_82 : Cond.methodLink R_RC 82 y_Row_set ∈ TB := tb 890 (by decide +kernel) rfl
theorem cw_RC_82 {R : Room} {s : State} {args : Array Value} (hts : ∀ w ∈ TB, w.before args s = true) (hN : NW s) (hR : 0 + 1 ≤ R.frames ∧ 8 + (3 + 11) + 0 ≤ R.locals) : CallW R s args R_RC R_Row 82 y_Row_set b_Row_set 3 none (Cond.code y_Row_set b_Row_set 3 none :: TB) (rmX 0 0) 0 0 2 := x_V hts hR mc_Row_set mi_Row ml_RC_82 (by decide +kernel) mn_Row_set me_Row_Row_set
theorem mn_Cont_resultsOf : Cond.instanceMethod y_Cont_resultsOf ∈ TB := tb 724 (by decide +kernel) rfl
theorem ml_RC_84 : Cond.methodLink R_RC 84 y_Cont_resultsOf ∈ TB := tb 854 (by decide +kernel) rfl
theorem me_Cont_Cont_resultsOf : Cond.selects R_Cont y_Cont_resultsOf y_Cont_resultsOf ∈ TB := tb 725 (by decide +kernel) rfl
theorem cw_RC_84 {R : Room} {s : State} {args : Array Value} (hts : ∀ w ∈ TB, w.before args s = true) (hN : NW s) (hR : 1 + 1 ≤ R.frames ∧ 8 + (3 + 11) + 23 ≤ R.locals) : CallW R s args R_RC R_Cont 84 y_Cont_resultsOf b_Cont_resultsOf 3 (some .int) (Cond.code y_Cont_resultsOf b_Cont_resultsOf 3 (some .int) :: TB) (rmX 1 23) 0 0 1 := x_V hts hR mc_Cont_resultsOf mi_Cont ml_RC_84 (by decide +kernel) mn_Cont_resultsOf me_Cont_Cont_resultsOf
theorem mn_RC_secondWord : Cond.instanceMethod y_RC_secondWord ∈ TB := tb 857 (by decide +kernel) rfl
theorem ml_RC_87 : Cond.methodLink R_RC 87 y_RC_secondWord ∈ TB := tb 855 (by decide +kernel) rfl
theorem me_RC_RC_secondWord : Cond.selects R_RC y_RC_secondWord y_RC_secondWord ∈ TB := tb 49 (by decide +kernel) rfl
theorem cw_RC_87 {R : Room} {s : State} {args : Array Value} (hts : ∀ w ∈ TB, w.before args s = true) (hN : NW s) (hR : 3 + 1 ≤ R.frames ∧ 8 + (4 + 11) + 69 ≤ R.locals) : CallW R s args R_RC R_RC 87 y_RC_secondWord b_RC_secondWord 4 (some .int) (Cond.code y_RC_secondWord b_RC_secondWord 4 (some .int) :: TB) (rmX 3 69) 0 0 2 := x_V hts hR mc_RC_secondWord mi_RC ml_RC_87 (by decide +kernel) mn_RC_secondWord me_RC_RC_secondWord
theorem mn_RC_thirdWord : Cond.instanceMethod y_RC_thirdWord ∈ TB := tb 878 (by decide +kernel) rfl
theorem ml_RC_90 : Cond.methodLink R_RC 90 y_RC_thirdWord ∈ TB := tb 876 (by decide +kernel) rfl
theorem me_RC_RC_thirdWord : Cond.selects R_RC y_RC_thirdWord y_RC_thirdWord ∈ TB := tb 51 (by decide +kernel) rfl
theorem cw_RC_90 {R : Room} {s : State} {args : Array Value} (hts : ∀ w ∈ TB, w.before args s = true) (hN : NW s) (hR : 3 + 1 ≤ R.frames ∧ 8 + (4 + 11) + 71 ≤ R.locals) : CallW R s args R_RC R_RC 90 y_RC_thirdWord b_RC_thirdWord 4 (some .int) (Cond.code y_RC_thirdWord b_RC_thirdWord 4 (some .int) :: TB) (rmX 3 71) 0 0 2 := x_V hts hR mc_RC_thirdWord mi_RC ml_RC_90 (by decide +kernel) mn_RC_thirdWord me_RC_RC_thirdWord
theorem mn_RC_write : Cond.instanceMethod y_RC_write ∈ TB := tb 888 (by decide +kernel) rfl
theorem ml_RC_93 : Cond.methodLink R_RC 93 y_RC_write ∈ TB := tb 886 (by decide +kernel) rfl
theorem me_RC_RC_write : Cond.selects R_RC y_RC_write y_RC_write ∈ TB := tb 53 (by decide +kernel) rfl
theorem cw_RC_93 {R : Room} {s : State} {args : Array Value} (hts : ∀ w ∈ TB, w.before args s = true) (hN : NW s) (hR : 1 + 1 ≤ R.frames ∧ 8 + (6 + 11) + 22 ≤ R.locals) : CallW R s args R_RC R_RC 93 y_RC_write b_RC_write 6 none (Cond.code y_RC_write b_RC_write 6 none :: TB) (rmX 1 22) 0 0 4 := x_V hts hR mc_RC_write mi_RC ml_RC_93 (by decide +kernel) mn_RC_write me_RC_RC_write
theorem mn_Cont_labelAt : Cond.instanceMethod y_Cont_labelAt ∈ TB := tb 770 (by decide +kernel) rfl
theorem ml_RC_97 : Cond.methodLink R_RC 97 y_Cont_labelAt ∈ TB := tb 891 (by decide +kernel) rfl
theorem me_Cont_Cont_labelAt : Cond.selects R_Cont y_Cont_labelAt y_Cont_labelAt ∈ TB := tb 771 (by decide +kernel) rfl
theorem cw_RC_97 {R : Room} {s : State} {args : Array Value} (hts : ∀ w ∈ TB, w.before args s = true) (hN : NW s) (hR : 1 + 1 ≤ R.frames ∧ 8 + (5 + 11) + 23 ≤ R.locals) : CallW R s args R_RC R_Cont 97 y_Cont_labelAt b_Cont_labelAt 5 (some .int) (Cond.code y_Cont_labelAt b_Cont_labelAt 5 (some .int) :: TB) (rmX 1 23) 0 0 2 := x_V hts hR mc_Cont_labelAt mi_Cont ml_RC_97 (by decide +kernel) mn_Cont_labelAt me_Cont_Cont_labelAt
theorem mn_RC_targetOf : Cond.instanceMethod y_RC_targetOf ∈ TB := tb 861 (by decide +kernel) rfl
theorem ml_RC_100 : Cond.methodLink R_RC 100 y_RC_targetOf ∈ TB := tb 859 (by decide +kernel) rfl
theorem me_RC_RC_targetOf : Cond.selects R_RC y_RC_targetOf y_RC_targetOf ∈ TB := tb 50 (by decide +kernel) rfl
theorem cw_RC_100 {R : Room} {s : State} {args : Array Value} (hts : ∀ w ∈ TB, w.before args s = true) (hN : NW s) (hR : 2 + 1 ≤ R.frames ∧ 8 + (5 + 11) + 45 ≤ R.locals) : CallW R s args R_RC R_RC 100 y_RC_targetOf b_RC_targetOf 5 (some .int) (Cond.code y_RC_targetOf b_RC_targetOf 5 (some .int) :: TB) (rmX 2 45) 0 0 1 := x_V hts hR mc_RC_targetOf mi_RC ml_RC_100 (by decide +kernel) mn_RC_targetOf me_RC_RC_targetOf
theorem mn_RC_leftAt : Cond.instanceMethod y_RC_leftAt ∈ TB := tb 882 (by decide +kernel) rfl
theorem ml_RC_103 : Cond.methodLink R_RC 103 y_RC_leftAt ∈ TB := tb 880 (by decide +kernel) rfl
theorem me_RC_RC_leftAt : Cond.selects R_RC y_RC_leftAt y_RC_leftAt ∈ TB := tb 52 (by decide +kernel) rfl
theorem cw_RC_103 {R : Room} {s : State} {args : Array Value} (hts : ∀ w ∈ TB, w.before args s = true) (hN : NW s) (hR : 2 + 1 ≤ R.frames ∧ 8 + (7 + 11) + 45 ≤ R.locals) : CallW R s args R_RC R_RC 103 y_RC_leftAt b_RC_leftAt 7 (some .int) (Cond.code y_RC_leftAt b_RC_leftAt 7 (some .int) :: TB) (rmX 2 45) 0 0 1 := x_V hts hR mc_RC_leftAt mi_RC ml_RC_103 (by decide +kernel) mn_RC_leftAt me_RC_RC_leftAt
theorem mn_Cont_otherwiseOf : Cond.instanceMethod y_Cont_otherwiseOf ∈ TB := tb 869 (by decide +kernel) rfl
theorem ml_RC_106 : Cond.methodLink R_RC 106 y_Cont_otherwiseOf ∈ TB := tb 868 (by decide +kernel) rfl
theorem me_Cont_Cont_otherwiseOf : Cond.selects R_Cont y_Cont_otherwiseOf y_Cont_otherwiseOf ∈ TB := tb 870 (by decide +kernel) rfl
theorem cw_RC_106 {R : Room} {s : State} {args : Array Value} (hts : ∀ w ∈ TB, w.before args s = true) (hN : NW s) (hR : 1 + 1 ≤ R.frames ∧ 8 + (3 + 11) + 23 ≤ R.locals) : CallW R s args R_RC R_Cont 106 y_Cont_otherwiseOf b_Cont_otherwiseOf 3 (some .int) (Cond.code y_Cont_otherwiseOf b_Cont_otherwiseOf 3 (some .int) :: TB) (rmX 1 23) 0 0 1 := x_V hts hR mc_Cont_otherwiseOf mi_Cont ml_RC_106 (by decide +kernel) mn_Cont_otherwiseOf me_Cont_Cont_otherwiseOf
theorem mn_RC_firstEntry : Cond.instanceMethod y_RC_firstEntry ∈ TB := tb 873 (by decide +kernel) rfl
theorem ml_RC_109 : Cond.methodLink R_RC 109 y_RC_firstEntry ∈ TB := tb 872 (by decide +kernel) rfl
theorem me_RC_RC_firstEntry : Cond.selects R_RC y_RC_firstEntry y_RC_firstEntry ∈ TB := tb 874 (by decide +kernel) rfl
theorem cw_RC_109 {R : Room} {s : State} {args : Array Value} (hts : ∀ w ∈ TB, w.before args s = true) (hN : NW s) (hR : 1 + 1 ≤ R.frames ∧ 8 + (2 + 11) + 23 ≤ R.locals) : CallW R s args R_RC R_RC 109 y_RC_firstEntry b_RC_firstEntry 2 (some .int) (Cond.code y_RC_firstEntry b_RC_firstEntry 2 (some .int) :: TB) (rmX 1 23) 0 0 1 := x_V hts hR mc_RC_firstEntry mi_RC ml_RC_109 (by decide +kernel) mn_RC_firstEntry me_RC_RC_firstEntry
theorem ml_RC_112 : Cond.methodLink R_RC 112 y_Cont_parametersOf ∈ TB := tb 885 (by decide +kernel) rfl
theorem cw_RC_112 {R : Room} {s : State} {args : Array Value} (hts : ∀ w ∈ TB, w.before args s = true) (hN : NW s) (hR : 1 + 1 ≤ R.frames ∧ 8 + (3 + 11) + 23 ≤ R.locals) : CallW R s args R_RC R_Cont 112 y_Cont_parametersOf b_Cont_parametersOf 3 (some .int) (Cond.code y_Cont_parametersOf b_Cont_parametersOf 3 (some .int) :: TB) (rmX 1 23) 0 0 1 := x_V hts hR mc_Cont_parametersOf mi_Cont ml_RC_112 (by decide +kernel) mn_Cont_parametersOf me_Cont_Cont_parametersOf
theorem mn_Cont_endOf : Cond.instanceMethod y_Cont_endOf ∈ TB := tb 865 (by decide +kernel) rfl
theorem ml_RC_115 : Cond.methodLink R_RC 115 y_Cont_endOf ∈ TB := tb 864 (by decide +kernel) rfl
theorem me_Cont_Cont_endOf : Cond.selects R_Cont y_Cont_endOf y_Cont_endOf ∈ TB := tb 866 (by decide +kernel) rfl
theorem cw_RC_115 {R : Room} {s : State} {args : Array Value} (hts : ∀ w ∈ TB, w.before args s = true) (hN : NW s) (hR : 1 + 1 ≤ R.frames ∧ 8 + (3 + 11) + 23 ≤ R.locals) : CallW R s args R_RC R_Cont 115 y_Cont_endOf b_Cont_endOf 3 (some .int) (Cond.code y_Cont_endOf b_Cont_endOf 3 (some .int) :: TB) (rmX 1 23) 0 0 1 := x_V hts hR mc_Cont_endOf mi_Cont ml_RC_115 (by decide +kernel) mn_Cont_endOf me_Cont_Cont_endOf
theorem mn_Cont_labelResults : Cond.instanceMethod y_Cont_labelResults ∈ TB := tb 754 (by decide +kernel) rfl
theorem ml_RC_118 : Cond.methodLink R_RC 118 y_Cont_labelResults ∈ TB := tb 884 (by decide +kernel) rfl
theorem me_Cont_Cont_labelResults : Cond.selects R_Cont y_Cont_labelResults y_Cont_labelResults ∈ TB := tb 755 (by decide +kernel) rfl
theorem cw_RC_118 {R : Room} {s : State} {args : Array Value} (hts : ∀ w ∈ TB, w.before args s = true) (hN : NW s) (hR : 1 + 1 ≤ R.frames ∧ 8 + (2 + 11) + 23 ≤ R.locals) : CallW R s args R_RC R_Cont 118 y_Cont_labelResults b_Cont_labelResults 2 (some .int) (Cond.code y_Cont_labelResults b_Cont_labelResults 2 (some .int) :: TB) (rmX 1 23) 0 0 1 := x_V hts hR mc_Cont_labelResults mi_Cont ml_RC_118 (by decide +kernel) mn_Cont_labelResults me_Cont_Cont_labelResults
theorem ml_RE_15 : Cond.methodLink R_RE 15 y_RC_firstEntry ∈ TB := tb 928 (by decide +kernel) rfl
theorem cw_RE_15 {R : Room} {s : State} {args : Array Value} (hts : ∀ w ∈ TB, w.before args s = true) (hN : NW s) (hR : 1 + 1 ≤ R.frames ∧ 8 + (2 + 11) + 23 ≤ R.locals) : CallW R s args R_RE R_RC 15 y_RC_firstEntry b_RC_firstEntry 2 (some .int) (Cond.code y_RC_firstEntry b_RC_firstEntry 2 (some .int) :: TB) (rmX 1 23) 0 0 1 := x_V hts hR mc_RC_firstEntry mi_RC ml_RE_15 (by decide +kernel) mn_RC_firstEntry me_RC_RC_firstEntry
theorem mn_RC_word : Cond.instanceMethod y_RC_word ∈ TB := tb 955 (by decide +kernel) rfl
theorem ml_RE_25 : Cond.methodLink R_RE 25 y_RC_word ∈ TB := tb 954 (by decide +kernel) rfl
theorem me_RC_RC_word : Cond.selects R_RC y_RC_word y_RC_word ∈ TB := tb 956 (by decide +kernel) rfl
theorem cw_RE_25 {R : Room} {s : State} {args : Array Value} (hts : ∀ w ∈ TB, w.before args s = true) (hN : NW s) (hR : 1 + 1 ≤ R.frames ∧ 8 + (3 + 11) + 21 ≤ R.locals) : CallW R s args R_RE R_RC 25 y_RC_word b_RC_word 3 (some .int) (Cond.code y_RC_word b_RC_word 3 (some .int) :: TB) (rmX 1 21) 0 0 2 := x_V hts hR mc_RC_word mi_RC ml_RE_25 (by decide +kernel) mn_RC_word me_RC_RC_word
theorem mn_RE_leave : Cond.instanceMethod y_RE_leave ∈ TB := tb 960 (by decide +kernel) rfl
theorem ml_RE_31 : Cond.methodLink R_RE 31 y_RE_leave ∈ TB := tb 958 (by decide +kernel) rfl
theorem me_RE_RE_leave : Cond.selects R_RE y_RE_leave y_RE_leave ∈ TB := tb 55 (by decide +kernel) rfl
theorem cw_RE_31_R {R : Room} {s : State} {args : Array Value} (hts : ∀ w ∈ TB, w.before args s = true) (hN : NW s) (hR : 2 + 1 ≤ R.frames ∧ 8 + (1 + 11) + 45 ≤ R.locals) : CallW R s args R_RE R_RE 31 y_RE_leave b_RE_leave 1 none (Cond.code y_RE_leave b_RE_leave 1 none :: TB) (rmX 2 45) 0 0 0 := x_V hts hR mc_RE_leave mi_RE ml_RE_31 (by decide +kernel) mn_RE_leave me_RE_RE_leave
theorem ml_RE_38 : Cond.methodLink R_RE 38 y_Op_isControl ∈ TB := tb 990 (by decide +kernel) rfl
theorem cw_RE_38 {R : Room} {s : State} {args : Array Value} (hts : ∀ w ∈ TB, w.before args s = true) (hN : NW s) (hR : 0 + 1 ≤ R.frames ∧ 8 + (1 + 11) + 0 ≤ R.locals) : CallB R s args R_RE 38 y_Op_isControl b_Op_isControl 1 (some .boolean) (Cond.code y_Op_isControl b_Op_isControl 1 (some .boolean) :: TB) (rmX 0 0) 0 0 1 ∧ (Cond.static y_Op_isControl).before args s = true := ⟨x_B hts hR mc_Op_isControl mi_Op ml_RE_38 (by decide +kernel), hts _ ms_Op_isControl⟩
theorem mn_RE_control : Cond.instanceMethod y_RE_control ∈ TB := tb 993 (by decide +kernel) rfl
theorem ml_RE_42 : Cond.methodLink R_RE 42 y_RE_control ∈ TB := tb 991 (by decide +kernel) rfl
theorem me_RE_RE_control : Cond.selects R_RE y_RE_control y_RE_control ∈ TB := tb 57 (by decide +kernel) rfl
theorem cw_RE_42_R {R : Room} {s : State} {args : Array Value} (hts : ∀ w ∈ TB, w.before args s = true) (hN : NW s) (hR : 4 + 1 ≤ R.frames ∧ 8 + (4 + 11) + 90 ≤ R.locals) : CallW R s args R_RE R_RE 42 y_RE_control b_RE_control 4 none (Cond.code y_RE_control b_RE_control 4 none :: TB) (rmX 4 90) 0 0 2 := x_V hts hR mc_RE_control mi_RE ml_RE_42 (by decide +kernel) mn_RE_control me_RE_RE_control
theorem mn_Store_work : Cond.instanceMethod y_Store_work ∈ TB := tb 1017 (by decide +kernel) rfl
theorem ml_RE_50 : Cond.methodLink R_RE 50 y_Store_work ∈ TB := tb 1016 (by decide +kernel) rfl
theorem me_Store_Store_work : Cond.selects R_Store y_Store_work y_Store_work ∈ TB := tb 1018 (by decide +kernel) rfl
theorem cw_RE_50 {R : Room} {s : State} {args : Array Value} (hts : ∀ w ∈ TB, w.before args s = true) (hN : NW s) (hR : 4 + 1 ≤ R.frames ∧ 8 + (5 + 11) + 88 ≤ R.locals) : CallW R s args R_RE R_Store 50 y_Store_work b_Store_work 5 (some .int) (Cond.code y_Store_work b_Store_work 5 (some .int) :: TB) (rmX 4 88) 0 0 4 := x_V hts hR mc_Store_work mi_Store ml_RE_50 (by decide +kernel) mn_Store_work me_Store_Store_work
theorem ml_RE_63 : Cond.methodLink R_RE 63 y_Row_get ∈ TB := tb 995 (by decide +kernel) rfl
theorem cw_RE_63 {R : Room} {s : State} {args : Array Value} (hts : ∀ w ∈ TB, w.before args s = true) (hN : NW s) (hR : 0 + 1 ≤ R.frames ∧ 8 + (2 + 11) + 0 ≤ R.locals) : CallW R s args R_RE R_Row 63 y_Row_get b_Row_get 2 (some .int) (Cond.code y_Row_get b_Row_get 2 (some .int) :: TB) (rmX 0 0) 0 0 1 := x_V hts hR mc_Row_get mi_Row ml_RE_63 (by decide +kernel) mn_Row_get me_Row_Row_get
theorem mn_RE_branch : Cond.instanceMethod y_RE_branch ∈ TB := tb 998 (by decide +kernel) rfl
theorem ml_RE_68 : Cond.methodLink R_RE 68 y_RE_branch ∈ TB := tb 996 (by decide +kernel) rfl
theorem me_RE_RE_branch : Cond.selects R_RE y_RE_branch y_RE_branch ∈ TB := tb 58 (by decide +kernel) rfl
theorem cw_RE_68_R {R : Room} {s : State} {args : Array Value} (hts : ∀ w ∈ TB, w.before args s = true) (hN : NW s) (hR : 2 + 1 ≤ R.frames ∧ 8 + (4 + 11) + 43 ≤ R.locals) : CallW R s args R_RE R_RE 68 y_RE_branch b_RE_branch 4 none (Cond.code y_RE_branch b_RE_branch 4 none :: TB) (rmX 2 43) 0 0 2 := x_V hts hR mc_RE_branch mi_RE ml_RE_68 (by decide +kernel) mn_RE_branch me_RE_RE_branch
theorem mn_RE_branchByTable : Cond.instanceMethod y_RE_branchByTable ∈ TB := tb 1003 (by decide +kernel) rfl
theorem ml_RE_71 : Cond.methodLink R_RE 71 y_RE_branchByTable ∈ TB := tb 1001 (by decide +kernel) rfl
theorem me_RE_RE_branchByTable : Cond.selects R_RE y_RE_branchByTable y_RE_branchByTable ∈ TB := tb 59 (by decide +kernel) rfl
theorem cw_RE_71_R {R : Room} {s : State} {args : Array Value} (hts : ∀ w ∈ TB, w.before args s = true) (hN : NW s) (hR : 3 + 1 ≤ R.frames ∧ 8 + (4 + 11) + 66 ≤ R.locals) : CallW R s args R_RE R_RE 71 y_RE_branchByTable b_RE_branchByTable 4 none (Cond.code y_RE_branchByTable b_RE_branchByTable 4 none :: TB) (rmX 3 66) 0 0 1 := x_V hts hR mc_RE_branchByTable mi_RE ml_RE_71 (by decide +kernel) mn_RE_branchByTable me_RE_RE_branchByTable
theorem mn_RE_call : Cond.instanceMethod y_RE_call ∈ TB := tb 1008 (by decide +kernel) rfl
theorem ml_RE_75 : Cond.methodLink R_RE 75 y_RE_call ∈ TB := tb 1006 (by decide +kernel) rfl
theorem me_RE_RE_call : Cond.selects R_RE y_RE_call y_RE_call ∈ TB := tb 60 (by decide +kernel) rfl
theorem cw_RE_75_R {R : Room} {s : State} {args : Array Value} (hts : ∀ w ∈ TB, w.before args s = true) (hN : NW s) (hR : 3 + 1 ≤ R.frames ∧ 8 + (3 + 11) + 68 ≤ R.locals) : CallW R s args R_RE R_RE 75 y_RE_call b_RE_call 3 none (Cond.code y_RE_call b_RE_call 3 none :: TB) (rmX 3 68) 0 0 1 := x_V hts hR mc_RE_call mi_RE ml_RE_75 (by decide +kernel) mn_RE_call me_RE_RE_call
theorem cw_RE_78 {R : Room} {s : State} {args : Array Value} (hts : ∀ w ∈ TB, w.before args s = true) (hN : NW s) (hR : 0 + 1 ≤ R.frames ∧ 8 + (2 + 11) + 0 ≤ R.locals) : va_CN R s args R_RE 78 y_X_isAbove "WasmMachine" b_X_isAbove 2 (some .boolean) (Cond.code y_X_isAbove b_X_isAbove 2 (some .boolean) :: TB) (rmX 0 0) 0 0 2 ∧ (Cond.static y_X_isAbove).before args s = true ∧ True := ⟨va_cnB 2 hts (x_good mc_X_isAbove) rfl rfl rfl (hN _ (List.mem_of_getElem? (i := 3) rfl)) (hts _ mi_X) (by decide +kernel) hR, hts _ ms_X_isAbove, trivial⟩
theorem ml_RE_82 : Cond.methodLink R_RE 82 y_Row_set ∈ TB := tb 1000 (by decide +kernel) rfl
theorem cw_RE_82 {R : Room} {s : State} {args : Array Value} (hts : ∀ w ∈ TB, w.before args s = true) (hN : NW s) (hR : 0 + 1 ≤ R.frames ∧ 8 + (3 + 11) + 0 ≤ R.locals) : CallW R s args R_RE R_Row 82 y_Row_set b_Row_set 3 none (Cond.code y_Row_set b_Row_set 3 none :: TB) (rmX 0 0) 0 0 2 := x_V hts hR mc_Row_set mi_Row ml_RE_82 (by decide +kernel) mn_Row_set me_Row_Row_set
theorem mn_Eng_openFrom : Cond.instanceMethod y_Eng_openFrom ∈ TB := tb 1014 (by decide +kernel) rfl
theorem ml_RE_85 : Cond.methodLink R_RE 85 ⟨R_RE, "openFrom", "(II)Z"⟩ ∈ TB := tb 1010 (by decide +kernel) rfl
theorem mq_RE_openFrom : Cond.sameMethod R_RE R_Eng "openFrom" "(II)Z" ∈ TB := tb 1011 (by decide +kernel) rfl
theorem me_RE_RE_Eng_openFrom : Cond.selects R_RE ⟨R_RE, "openFrom", "(II)Z"⟩ y_Eng_openFrom ∈ TB := tb 1013 (by decide +kernel) rfl
theorem cw_RE_85_R {R : Room} {s : State} {args : Array Value} (hts : ∀ w ∈ TB, w.before args s = true) (hN : NW s) (hR : 2 + 1 ≤ R.frames ∧ 8 + (3 + 11) + 46 ≤ R.locals) : va_CU R s args R_RE R_RE R_Eng 85 ⟨R_RE, "openFrom", "(II)Z"⟩ y_Eng_openFrom b_Eng_openFrom 3 (some .boolean) (Cond.code y_Eng_openFrom b_Eng_openFrom 3 (some .boolean) :: TB) (rmX 2 46) 0 0 2 := x_U hts hR mc_Eng_openFrom mi_Eng ml_RE_85 mq_RE_openFrom (va_Decl.of (hts _ mn_Eng_openFrom) (hts _ mc_Eng_openFrom)) me_RE_RE_Eng_openFrom mn_Eng_openFrom (by decide +kernel)
theorem mn_Eng_close : Cond.instanceMethod y_Eng_close ∈ TB := tb 966 (by decide +kernel) rfl
theorem ml_RE_88 : Cond.methodLink R_RE 88 ⟨R_RE, "close", "(II)I"⟩ ∈ TB := tb 962 (by decide +kernel) rfl
theorem mq_RE_close : Cond.sameMethod R_RE R_Eng "close" "(II)I" ∈ TB := tb 963 (by decide +kernel) rfl
theorem me_RE_RE_Eng_close : Cond.selects R_RE ⟨R_RE, "close", "(II)I"⟩ y_Eng_close ∈ TB := tb 965 (by decide +kernel) rfl
theorem cw_RE_88_R {R : Room} {s : State} {args : Array Value} (hts : ∀ w ∈ TB, w.before args s = true) (hN : NW s) (hR : 1 + 1 ≤ R.frames ∧ 8 + (4 + 11) + 22 ≤ R.locals) : va_CU R s args R_RE R_RE R_Eng 88 ⟨R_RE, "close", "(II)I"⟩ y_Eng_close b_Eng_close 4 (some .int) (Cond.code y_Eng_close b_Eng_close 4 (some .int) :: TB) (rmX 1 22) 0 0 2 := x_U hts hR mc_Eng_close mi_Eng ml_RE_88 mq_RE_close (va_Decl.of (hts _ mn_Eng_close) (hts _ mc_Eng_close)) me_RE_RE_Eng_close mn_Eng_close (by decide +kernel)
theorem ml_SE_40 : Cond.methodLink R_SE 40 y_Row_set ∈ TB := tb 932 (by decide +kernel) rfl
theorem cw_SE_40 {R : Room} {s : State} {args : Array Value} (hts : ∀ w ∈ TB, w.before args s = true) (hN : NW s) (hR : 0 + 1 ≤ R.frames ∧ 8 + (3 + 11) + 0 ≤ R.locals) : CallW R s args R_SE R_Row 40 y_Row_set b_Row_set 3 none (Cond.code y_Row_set b_Row_set 3 none :: TB) (rmX 0 0) 0 0 2 := x_V hts hR mc_Row_set mi_Row ml_SE_40 (by decide +kernel) mn_Row_set me_Row_Row_set
theorem ml_SE_53 : Cond.methodLink R_SE 53 y_Table_get ∈ TB := tb 933 (by decide +kernel) rfl
theorem cw_SE_53 {R : Room} {s : State} {args : Array Value} (hts : ∀ w ∈ TB, w.before args s = true) (hN : NW s) (hR : 0 + 1 ≤ R.frames ∧ 8 + (4 + 11) + 0 ≤ R.locals) : CallW R s args R_SE R_Table 53 y_Table_get b_Table_get 4 (some .int) (Cond.code y_Table_get b_Table_get 4 (some .int) :: TB) (rmX 0 0) 0 0 2 := x_V hts hR mc_Table_get mi_Table ml_SE_53 (by decide +kernel) mn_Table_get me_Table_Table_get
theorem mn_SE_leave : Cond.instanceMethod y_SE_leave ∈ TB := tb 973 (by decide +kernel) rfl
theorem ml_SE_68 : Cond.methodLink R_SE 68 y_SE_leave ∈ TB := tb 971 (by decide +kernel) rfl
theorem me_SE_SE_leave : Cond.selects R_SE y_SE_leave y_SE_leave ∈ TB := tb 56 (by decide +kernel) rfl
theorem cw_SE_68_S {R : Room} {s : State} {args : Array Value} (hts : ∀ w ∈ TB, w.before args s = true) (hN : NW s) (hR : 2 + 1 ≤ R.frames ∧ 8 + (1 + 11) + 45 ≤ R.locals) : CallW R s args R_SE R_SE 68 y_SE_leave b_SE_leave 1 none (Cond.code y_SE_leave b_SE_leave 1 none :: TB) (rmX 2 45) 0 0 0 := x_V hts hR mc_SE_leave mi_SE ml_SE_68 (by decide +kernel) mn_SE_leave me_SE_SE_leave
theorem ml_SE_72 : Cond.methodLink R_SE 72 y_Op_isControl ∈ TB := tb 1088 (by decide +kernel) rfl
theorem cw_SE_72 {R : Room} {s : State} {args : Array Value} (hts : ∀ w ∈ TB, w.before args s = true) (hN : NW s) (hR : 0 + 1 ≤ R.frames ∧ 8 + (1 + 11) + 0 ≤ R.locals) : CallB R s args R_SE 72 y_Op_isControl b_Op_isControl 1 (some .boolean) (Cond.code y_Op_isControl b_Op_isControl 1 (some .boolean) :: TB) (rmX 0 0) 0 0 1 ∧ (Cond.static y_Op_isControl).before args s = true := ⟨x_B hts hR mc_Op_isControl mi_Op ml_SE_72 (by decide +kernel), hts _ ms_Op_isControl⟩
theorem mn_SE_control : Cond.instanceMethod y_SE_control ∈ TB := tb 1091 (by decide +kernel) rfl
theorem ml_SE_76 : Cond.methodLink R_SE 76 y_SE_control ∈ TB := tb 1089 (by decide +kernel) rfl
theorem me_SE_SE_control : Cond.selects R_SE y_SE_control y_SE_control ∈ TB := tb 67 (by decide +kernel) rfl
theorem cw_SE_76_S {R : Room} {s : State} {args : Array Value} (hts : ∀ w ∈ TB, w.before args s = true) (hN : NW s) (hR : 4 + 1 ≤ R.frames ∧ 8 + (3 + 11) + 92 ≤ R.locals) : CallW R s args R_SE R_SE 76 y_SE_control b_SE_control 3 none (Cond.code y_SE_control b_SE_control 3 none :: TB) (rmX 4 92) 0 0 2 := x_V hts hR mc_SE_control mi_SE ml_SE_76 (by decide +kernel) mn_SE_control me_SE_SE_control
theorem ml_SE_83 : Cond.methodLink R_SE 83 y_Store_work ∈ TB := tb 1119 (by decide +kernel) rfl
theorem cw_SE_83 {R : Room} {s : State} {args : Array Value} (hts : ∀ w ∈ TB, w.before args s = true) (hN : NW s) (hR : 4 + 1 ≤ R.frames ∧ 8 + (5 + 11) + 88 ≤ R.locals) : CallW R s args R_SE R_Store 83 y_Store_work b_Store_work 5 (some .int) (Cond.code y_Store_work b_Store_work 5 (some .int) :: TB) (rmX 4 88) 0 0 4 := x_V hts hR mc_Store_work mi_Store ml_SE_83 (by decide +kernel) mn_Store_work me_Store_Store_work
theorem ms_Op_gives : Cond.static y_Op_gives ∈ TB := tb 805 (by decide +kernel) rfl
theorem ml_SE_92 : Cond.methodLink R_SE 92 y_Op_gives ∈ TB := tb 1120 (by decide +kernel) rfl
theorem cw_SE_92 {R : Room} {s : State} {args : Array Value} (hts : ∀ w ∈ TB, w.before args s = true) (hN : NW s) (hR : 1 + 1 ≤ R.frames ∧ 8 + (1 + 11) + 20 ≤ R.locals) : CallB R s args R_SE 92 y_Op_gives b_Op_gives 1 (some .int) (Cond.code y_Op_gives b_Op_gives 1 (some .int) :: TB) (rmX 1 20) 0 0 1 ∧ (Cond.static y_Op_gives).before args s = true := ⟨x_B hts hR mc_Op_gives mi_Op ml_SE_92 (by decide +kernel), hts _ ms_Op_gives⟩
theorem ms_Op_takes : Cond.static y_Op_takes ∈ TB := tb 802 (by decide +kernel) rfl
theorem ml_SE_96 : Cond.methodLink R_SE 96 y_Op_takes ∈ TB := tb 1121 (by decide +kernel) rfl
theorem cw_SE_96 {R : Room} {s : State} {args : Array Value} (hts : ∀ w ∈ TB, w.before args s = true) (hN : NW s) (hR : 2 + 1 ≤ R.frames ∧ 8 + (1 + 11) + 40 ≤ R.locals) : CallB R s args R_SE 96 y_Op_takes b_Op_takes 1 (some .int) (Cond.code y_Op_takes b_Op_takes 1 (some .int) :: TB) (rmX 2 40) 0 0 1 ∧ (Cond.static y_Op_takes).before args s = true := ⟨x_B hts hR mc_Op_takes mi_Op ml_SE_96 (by decide +kernel), hts _ ms_Op_takes⟩
theorem mn_SE_enterBlock : Cond.instanceMethod y_SE_enterBlock ∈ TB := tb 1095 (by decide +kernel) rfl
theorem ml_SE_99 : Cond.methodLink R_SE 99 y_SE_enterBlock ∈ TB := tb 1093 (by decide +kernel) rfl
theorem me_SE_SE_enterBlock : Cond.selects R_SE y_SE_enterBlock y_SE_enterBlock ∈ TB := tb 68 (by decide +kernel) rfl
theorem cw_SE_99_S {R : Room} {s : State} {args : Array Value} (hts : ∀ w ∈ TB, w.before args s = true) (hN : NW s) (hR : 1 + 1 ≤ R.frames ∧ 8 + (3 + 11) + 24 ≤ R.locals) : CallW R s args R_SE R_SE 99 y_SE_enterBlock b_SE_enterBlock 3 none (Cond.code y_SE_enterBlock b_SE_enterBlock 3 none :: TB) (rmX 1 24) 0 0 1 := x_V hts hR mc_SE_enterBlock mi_SE ml_SE_99 (by decide +kernel) mn_SE_enterBlock me_SE_SE_enterBlock
theorem mn_SE_pop : Cond.instanceMethod y_SE_pop ∈ TB := tb 1100 (by decide +kernel) rfl
theorem ml_SE_102 : Cond.methodLink R_SE 102 y_SE_pop ∈ TB := tb 1098 (by decide +kernel) rfl
theorem me_SE_SE_pop : Cond.selects R_SE y_SE_pop y_SE_pop ∈ TB := tb 69 (by decide +kernel) rfl
theorem cw_SE_102_S {R : Room} {s : State} {args : Array Value} (hts : ∀ w ∈ TB, w.before args s = true) (hN : NW s) (hR : 1 + 1 ≤ R.frames ∧ 8 + (1 + 11) + 21 ≤ R.locals) : CallW R s args R_SE R_SE 102 y_SE_pop b_SE_pop 1 (some .int) (Cond.code y_SE_pop b_SE_pop 1 (some .int) :: TB) (rmX 1 21) 0 0 0 := x_V hts hR mc_SE_pop mi_SE ml_SE_102 (by decide +kernel) mn_SE_pop me_SE_SE_pop
theorem ml_SE_106 : Cond.methodLink R_SE 106 y_Cont_otherwiseOf ∈ TB := tb 1102 (by decide +kernel) rfl
theorem cw_SE_106 {R : Room} {s : State} {args : Array Value} (hts : ∀ w ∈ TB, w.before args s = true) (hN : NW s) (hR : 1 + 1 ≤ R.frames ∧ 8 + (3 + 11) + 23 ≤ R.locals) : CallW R s args R_SE R_Cont 106 y_Cont_otherwiseOf b_Cont_otherwiseOf 3 (some .int) (Cond.code y_Cont_otherwiseOf b_Cont_otherwiseOf 3 (some .int) :: TB) (rmX 1 23) 0 0 1 := x_V hts hR mc_Cont_otherwiseOf mi_Cont ml_SE_106 (by decide +kernel) mn_Cont_otherwiseOf me_Cont_Cont_otherwiseOf
theorem mn_SE_branch : Cond.instanceMethod y_SE_branch ∈ TB := tb 1105 (by decide +kernel) rfl
theorem ml_SE_109 : Cond.methodLink R_SE 109 y_SE_branch ∈ TB := tb 1103 (by decide +kernel) rfl
theorem me_SE_SE_branch : Cond.selects R_SE y_SE_branch y_SE_branch ∈ TB := tb 70 (by decide +kernel) rfl
theorem cw_SE_109_S {R : Room} {s : State} {args : Array Value} (hts : ∀ w ∈ TB, w.before args s = true) (hN : NW s) (hR : 3 + 1 ≤ R.frames ∧ 8 + (8 + 11) + 65 ≤ R.locals) : CallW R s args R_SE R_SE 109 y_SE_branch b_SE_branch 8 none (Cond.code y_SE_branch b_SE_branch 8 none :: TB) (rmX 3 65) 0 0 1 := x_V hts hR mc_SE_branch mi_SE ml_SE_109 (by decide +kernel) mn_SE_branch me_SE_SE_branch
theorem ml_SE_112 : Cond.methodLink R_SE 112 y_Cont_labelAt ∈ TB := tb 1109 (by decide +kernel) rfl
theorem cw_SE_112 {R : Room} {s : State} {args : Array Value} (hts : ∀ w ∈ TB, w.before args s = true) (hN : NW s) (hR : 1 + 1 ≤ R.frames ∧ 8 + (5 + 11) + 23 ≤ R.locals) : CallW R s args R_SE R_Cont 112 y_Cont_labelAt b_Cont_labelAt 5 (some .int) (Cond.code y_Cont_labelAt b_Cont_labelAt 5 (some .int) :: TB) (rmX 1 23) 0 0 2 := x_V hts hR mc_Cont_labelAt mi_Cont ml_SE_112 (by decide +kernel) mn_Cont_labelAt me_Cont_Cont_labelAt
theorem mn_SE_call : Cond.instanceMethod y_SE_call ∈ TB := tb 1112 (by decide +kernel) rfl
theorem ml_SE_115 : Cond.methodLink R_SE 115 y_SE_call ∈ TB := tb 1110 (by decide +kernel) rfl
theorem me_SE_SE_call : Cond.selects R_SE y_SE_call y_SE_call ∈ TB := tb 71 (by decide +kernel) rfl
theorem cw_SE_115_S {R : Room} {s : State} {args : Array Value} (hts : ∀ w ∈ TB, w.before args s = true) (hN : NW s) (hR : 3 + 1 ≤ R.frames ∧ 8 + (2 + 11) + 68 ≤ R.locals) : CallW R s args R_SE R_SE 115 y_SE_call b_SE_call 2 none (Cond.code y_SE_call b_SE_call 2 none :: TB) (rmX 3 68) 0 0 1 := x_V hts hR mc_SE_call mi_SE ml_SE_115 (by decide +kernel) mn_SE_call me_SE_SE_call
theorem ml_SE_121 : Cond.methodLink R_SE 121 y_Row_get ∈ TB := tb 975 (by decide +kernel) rfl
theorem cw_SE_121 {R : Room} {s : State} {args : Array Value} (hts : ∀ w ∈ TB, w.before args s = true) (hN : NW s) (hR : 0 + 1 ≤ R.frames ∧ 8 + (2 + 11) + 0 ≤ R.locals) : CallW R s args R_SE R_Row 121 y_Row_get b_Row_get 2 (some .int) (Cond.code y_Row_get b_Row_get 2 (some .int) :: TB) (rmX 0 0) 0 0 1 := x_V hts hR mc_Row_get mi_Row ml_SE_121 (by decide +kernel) mn_Row_get me_Row_Row_get
theorem ml_SE_123 : Cond.methodLink R_SE 123 y_Table_set ∈ TB := tb 1097 (by decide +kernel) rfl
theorem cw_SE_123 {R : Room} {s : State} {args : Array Value} (hts : ∀ w ∈ TB, w.before args s = true) (hN : NW s) (hR : 0 + 1 ≤ R.frames ∧ 8 + (5 + 11) + 0 ≤ R.locals) : CallW R s args R_SE R_Table 123 y_Table_set b_Table_set 5 none (Cond.code y_Table_set b_Table_set 5 none :: TB) (rmX 0 0) 0 0 3 := x_V hts hR mc_Table_set mi_Table ml_SE_123 (by decide +kernel) mn_Table_set me_Table_Table_set
theorem ml_SE_126 : Cond.methodLink R_SE 126 y_Cont_labelResults ∈ TB := tb 1107 (by decide +kernel) rfl
theorem cw_SE_126 {R : Room} {s : State} {args : Array Value} (hts : ∀ w ∈ TB, w.before args s = true) (hN : NW s) (hR : 1 + 1 ≤ R.frames ∧ 8 + (2 + 11) + 23 ≤ R.locals) : CallW R s args R_SE R_Cont 126 y_Cont_labelResults b_Cont_labelResults 2 (some .int) (Cond.code y_Cont_labelResults b_Cont_labelResults 2 (some .int) :: TB) (rmX 1 23) 0 0 1 := x_V hts hR mc_Cont_labelResults mi_Cont ml_SE_126 (by decide +kernel) mn_Cont_labelResults me_Cont_Cont_labelResults
theorem ml_SE_129 : Cond.methodLink R_SE 129 y_Cont_endOf ∈ TB := tb 1108 (by decide +kernel) rfl
theorem cw_SE_129 {R : Room} {s : State} {args : Array Value} (hts : ∀ w ∈ TB, w.before args s = true) (hN : NW s) (hR : 1 + 1 ≤ R.frames ∧ 8 + (3 + 11) + 23 ≤ R.locals) : CallW R s args R_SE R_Cont 129 y_Cont_endOf b_Cont_endOf 3 (some .int) (Cond.code y_Cont_endOf b_Cont_endOf 3 (some .int) :: TB) (rmX 1 23) 0 0 1 := x_V hts hR mc_Cont_endOf mi_Cont ml_SE_129 (by decide +kernel) mn_Cont_endOf me_Cont_Cont_endOf
theorem ml_SE_132 : Cond.methodLink R_SE 132 y_Cont_parametersOf ∈ TB := tb 1114 (by decide +kernel) rfl
theorem cw_SE_132 {R : Room} {s : State} {args : Array Value} (hts : ∀ w ∈ TB, w.before args s = true) (hN : NW s) (hR : 1 + 1 ≤ R.frames ∧ 8 + (3 + 11) + 23 ≤ R.locals) : CallW R s args R_SE R_Cont 132 y_Cont_parametersOf b_Cont_parametersOf 3 (some .int) (Cond.code y_Cont_parametersOf b_Cont_parametersOf 3 (some .int) :: TB) (rmX 1 23) 0 0 1 := x_V hts hR mc_Cont_parametersOf mi_Cont ml_SE_132 (by decide +kernel) mn_Cont_parametersOf me_Cont_Cont_parametersOf
theorem ml_SE_135 : Cond.methodLink R_SE 135 ⟨R_SE, "openFrom", "(II)Z"⟩ ∈ TB := tb 1115 (by decide +kernel) rfl
theorem mq_SE_openFrom : Cond.sameMethod R_SE R_Eng "openFrom" "(II)Z" ∈ TB := tb 1116 (by decide +kernel) rfl
theorem me_SE_SE_Eng_openFrom : Cond.selects R_SE ⟨R_SE, "openFrom", "(II)Z"⟩ y_Eng_openFrom ∈ TB := tb 1117 (by decide +kernel) rfl
theorem cw_SE_135_S {R : Room} {s : State} {args : Array Value} (hts : ∀ w ∈ TB, w.before args s = true) (hN : NW s) (hR : 2 + 1 ≤ R.frames ∧ 8 + (3 + 11) + 46 ≤ R.locals) : va_CU R s args R_SE R_SE R_Eng 135 ⟨R_SE, "openFrom", "(II)Z"⟩ y_Eng_openFrom b_Eng_openFrom 3 (some .boolean) (Cond.code y_Eng_openFrom b_Eng_openFrom 3 (some .boolean) :: TB) (rmX 2 46) 0 0 2 := x_U hts hR mc_Eng_openFrom mi_Eng ml_SE_135 mq_SE_openFrom (va_Decl.of (hts _ mn_Eng_openFrom) (hts _ mc_Eng_openFrom)) me_SE_SE_Eng_openFrom mn_Eng_openFrom (by decide +kernel)
theorem ml_SE_139 : Cond.methodLink R_SE 139 y_SE_enter ∈ TB := tb 1118 (by decide +kernel) rfl
theorem me_SE_SE_enter : Cond.selects R_SE y_SE_enter y_SE_enter ∈ TB := tb 1645 (by decide +kernel) rfl
theorem cw_SE_139_S {R : Room} {s : State} {args : Array Value} (hts : ∀ w ∈ TB, w.before args s = true) (hN : NW s) (hR : 1 + 1 ≤ R.frames ∧ 8 + (2 + 11) + 23 ≤ R.locals) : CallW R s args R_SE R_SE 139 y_SE_enter b_SE_enter 2 none (Cond.code y_SE_enter b_SE_enter 2 none :: TB) (rmX 1 23) 0 0 1 := x_V hts hR mc_SE_enter mi_SE ml_SE_139 (by decide +kernel) mn_SE_enter me_SE_SE_enter
theorem ml_SE_142 : Cond.methodLink R_SE 142 y_Cont_resultsOf ∈ TB := tb 976 (by decide +kernel) rfl
theorem cw_SE_142 {R : Room} {s : State} {args : Array Value} (hts : ∀ w ∈ TB, w.before args s = true) (hN : NW s) (hR : 1 + 1 ≤ R.frames ∧ 8 + (3 + 11) + 23 ≤ R.locals) : CallW R s args R_SE R_Cont 142 y_Cont_resultsOf b_Cont_resultsOf 3 (some .int) (Cond.code y_Cont_resultsOf b_Cont_resultsOf 3 (some .int) :: TB) (rmX 1 23) 0 0 1 := x_V hts hR mc_Cont_resultsOf mi_Cont ml_SE_142 (by decide +kernel) mn_Cont_resultsOf me_Cont_Cont_resultsOf
theorem ml_SE_145 : Cond.methodLink R_SE 145 ⟨R_SE, "close", "(II)I"⟩ ∈ TB := tb 977 (by decide +kernel) rfl
theorem mq_SE_close : Cond.sameMethod R_SE R_Eng "close" "(II)I" ∈ TB := tb 978 (by decide +kernel) rfl
theorem me_SE_SE_Eng_close : Cond.selects R_SE ⟨R_SE, "close", "(II)I"⟩ y_Eng_close ∈ TB := tb 979 (by decide +kernel) rfl
theorem cw_SE_145_S {R : Room} {s : State} {args : Array Value} (hts : ∀ w ∈ TB, w.before args s = true) (hN : NW s) (hR : 1 + 1 ≤ R.frames ∧ 8 + (4 + 11) + 22 ≤ R.locals) : va_CU R s args R_SE R_SE R_Eng 145 ⟨R_SE, "close", "(II)I"⟩ y_Eng_close b_Eng_close 4 (some .int) (Cond.code y_Eng_close b_Eng_close 4 (some .int) :: TB) (rmX 1 22) 0 0 2 := x_U hts hR mc_Eng_close mi_Eng ml_SE_145 mq_SE_close (va_Decl.of (hts _ mn_Eng_close) (hts _ mc_Eng_close)) me_SE_SE_Eng_close mn_Eng_close (by decide +kernel)
theorem mn_Row_clear : Cond.instanceMethod y_Row_clear ∈ TB := tb 816 (by decide +kernel) rfl
theorem ml_Store_26 : Cond.methodLink R_Store 26 y_Row_clear ∈ TB := tb 815 (by decide +kernel) rfl
theorem me_Row_Row_clear : Cond.selects R_Row y_Row_clear y_Row_clear ∈ TB := tb 817 (by decide +kernel) rfl
theorem cw_Store_26 {R : Room} {s : State} {args : Array Value} (hts : ∀ w ∈ TB, w.before args s = true) (hN : NW s) (hR : 1 + 1 ≤ R.frames ∧ 8 + (1 + 11) + 23 ≤ R.locals) : CallW R s args R_Store R_Row 26 y_Row_clear b_Row_clear 1 none (Cond.code y_Row_clear b_Row_clear 1 none :: TB) (rmX 1 23) 0 0 0 := x_V hts hR mc_Row_clear mi_Row ml_Store_26 (by decide +kernel) mn_Row_clear me_Row_Row_clear
theorem ml_Store_45 : Cond.methodLink R_Store 45 y_Table_get ∈ TB := tb 820 (by decide +kernel) rfl
theorem cw_Store_45 {R : Room} {s : State} {args : Array Value} (hts : ∀ w ∈ TB, w.before args s = true) (hN : NW s) (hR : 0 + 1 ≤ R.frames ∧ 8 + (4 + 11) + 0 ≤ R.locals) : CallW R s args R_Store R_Table 45 y_Table_get b_Table_get 4 (some .int) (Cond.code y_Table_get b_Table_get 4 (some .int) :: TB) (rmX 0 0) 0 0 2 := x_V hts hR mc_Table_get mi_Table ml_Store_45 (by decide +kernel) mn_Table_get me_Table_Table_get
theorem ml_Store_51 : Cond.methodLink R_Store 51 y_Row_set ∈ TB := tb 821 (by decide +kernel) rfl
theorem cw_Store_51 {R : Room} {s : State} {args : Array Value} (hts : ∀ w ∈ TB, w.before args s = true) (hN : NW s) (hR : 0 + 1 ≤ R.frames ∧ 8 + (3 + 11) + 0 ≤ R.locals) : CallW R s args R_Store R_Row 51 y_Row_set b_Row_set 3 none (Cond.code y_Row_set b_Row_set 3 none :: TB) (rmX 0 0) 0 0 2 := x_V hts hR mc_Row_set mi_Row ml_Store_51 (by decide +kernel) mn_Row_set me_Row_Row_set
theorem ml_Store_58 : Cond.methodLink R_Store 58 y_Table_count ∈ TB := tb 822 (by decide +kernel) rfl
theorem cw_Store_58 {R : Room} {s : State} {args : Array Value} (hts : ∀ w ∈ TB, w.before args s = true) (hN : NW s) (hR : 0 + 1 ≤ R.frames ∧ 8 + (1 + 11) + 0 ≤ R.locals) : CallW R s args R_Store R_Table 58 y_Table_count b_Table_count 1 (some .int) (Cond.code y_Table_count b_Table_count 1 (some .int) :: TB) (rmX 0 0) 0 0 0 := x_V hts hR mc_Table_count mi_Table ml_Store_58 (by decide +kernel) mn_Table_count me_Table_Table_count
theorem mn_Rd_byteAt : Cond.instanceMethod y_Rd_byteAt ∈ TB := tb 824 (by decide +kernel) rfl
theorem ml_Store_62 : Cond.methodLink R_Store 62 y_Rd_byteAt ∈ TB := tb 823 (by decide +kernel) rfl
theorem me_Rd_Rd_byteAt : Cond.selects R_Rd y_Rd_byteAt y_Rd_byteAt ∈ TB := tb 825 (by decide +kernel) rfl
theorem cw_Store_62 {R : Room} {s : State} {args : Array Value} (hts : ∀ w ∈ TB, w.before args s = true) (hN : NW s) (hR : 0 + 1 ≤ R.frames ∧ 8 + (2 + 11) + 0 ≤ R.locals) : CallW R s args R_Store R_Rd 62 y_Rd_byteAt b_Rd_byteAt 2 (some .int) (Cond.code y_Rd_byteAt b_Rd_byteAt 2 (some .int) :: TB) (rmX 0 0) 0 0 1 := x_V hts hR mc_Rd_byteAt mi_Rd ml_Store_62 (by decide +kernel) mn_Rd_byteAt me_Rd_Rd_byteAt
theorem ml_Store_68 : Cond.methodLink R_Store 68 y_Op_isNumeric ∈ TB := tb 1020 (by decide +kernel) rfl
theorem cw_Store_68 {R : Room} {s : State} {args : Array Value} (hts : ∀ w ∈ TB, w.before args s = true) (hN : NW s) (hR : 0 + 1 ≤ R.frames ∧ 8 + (1 + 11) + 0 ≤ R.locals) : CallB R s args R_Store 68 y_Op_isNumeric b_Op_isNumeric 1 (some .boolean) (Cond.code y_Op_isNumeric b_Op_isNumeric 1 (some .boolean) :: TB) (rmX 0 0) 0 0 1 ∧ (Cond.static y_Op_isNumeric).before args s = true := ⟨x_B hts hR mc_Op_isNumeric mi_Op ml_Store_68 (by decide +kernel), hts _ ms_Op_isNumeric⟩
theorem mn_Store_compute : Cond.instanceMethod y_Store_compute ∈ TB := tb 1023 (by decide +kernel) rfl
theorem ml_Store_74 : Cond.methodLink R_Store 74 y_Store_compute ∈ TB := tb 1021 (by decide +kernel) rfl
theorem me_Store_Store_compute : Cond.selects R_Store y_Store_compute y_Store_compute ∈ TB := tb 61 (by decide +kernel) rfl
theorem cw_Store_74 {R : Room} {s : State} {args : Array Value} (hts : ∀ w ∈ TB, w.before args s = true) (hN : NW s) (hR : 3 + 1 ≤ R.frames ∧ 8 + (6 + 11) + 60 ≤ R.locals) : CallW R s args R_Store R_Store 74 y_Store_compute b_Store_compute 6 (some .int) (Cond.code y_Store_compute b_Store_compute 6 (some .int) :: TB) (rmX 3 60) 0 0 2 := x_V hts hR mc_Store_compute mi_Store ml_Store_74 (by decide +kernel) mn_Store_compute me_Store_Store_compute
theorem ml_Store_77 : Cond.methodLink R_Store 77 y_Op_isAccess ∈ TB := tb 1057 (by decide +kernel) rfl
theorem cw_Store_77 {R : Room} {s : State} {args : Array Value} (hts : ∀ w ∈ TB, w.before args s = true) (hN : NW s) (hR : 1 + 1 ≤ R.frames ∧ 8 + (1 + 11) + 20 ≤ R.locals) : CallB R s args R_Store 77 y_Op_isAccess b_Op_isAccess 1 (some .boolean) (Cond.code y_Op_isAccess b_Op_isAccess 1 (some .boolean) :: TB) (rmX 1 20) 0 0 1 ∧ (Cond.static y_Op_isAccess).before args s = true := ⟨x_B hts hR mc_Op_isAccess mi_Op ml_Store_77 (by decide +kernel), hts _ ms_Op_isAccess⟩
theorem mn_Store_access : Cond.instanceMethod y_Store_access ∈ TB := tb 1060 (by decide +kernel) rfl
theorem ml_Store_80 : Cond.methodLink R_Store 80 y_Store_access ∈ TB := tb 1058 (by decide +kernel) rfl
theorem me_Store_Store_access : Cond.selects R_Store y_Store_access y_Store_access ∈ TB := tb 62 (by decide +kernel) rfl
theorem cw_Store_80 {R : Room} {s : State} {args : Array Value} (hts : ∀ w ∈ TB, w.before args s = true) (hN : NW s) (hR : 3 + 1 ≤ R.frames ∧ 8 + (9 + 11) + 60 ≤ R.locals) : CallW R s args R_Store R_Store 80 y_Store_access b_Store_access 9 (some .int) (Cond.code y_Store_access b_Store_access 9 (some .int) :: TB) (rmX 3 60) 0 0 3 := x_V hts hR mc_Store_access mi_Store ml_Store_80 (by decide +kernel) mn_Store_access me_Store_Store_access
theorem mn_Store_move : Cond.instanceMethod y_Store_move ∈ TB := tb 1078 (by decide +kernel) rfl
theorem ml_Store_84 : Cond.methodLink R_Store 84 y_Store_move ∈ TB := tb 1076 (by decide +kernel) rfl
theorem me_Store_Store_move : Cond.selects R_Store y_Store_move y_Store_move ∈ TB := tb 65 (by decide +kernel) rfl
theorem cw_Store_84 {R : Room} {s : State} {args : Array Value} (hts : ∀ w ∈ TB, w.before args s = true) (hN : NW s) (hR : 2 + 1 ≤ R.frames ∧ 8 + (6 + 11) + 42 ≤ R.locals) : CallW R s args R_Store R_Store 84 y_Store_move b_Store_move 6 none (Cond.code y_Store_move b_Store_move 6 none :: TB) (rmX 2 42) 0 0 4 := x_V hts hR mc_Store_move mi_Store ml_Store_84 (by decide +kernel) mn_Store_move me_Store_Store_move
theorem ml_Store_88 : Cond.methodLink R_Store 88 y_Row_get ∈ TB := tb 1025 (by decide +kernel) rfl
theorem cw_Store_88 {R : Room} {s : State} {args : Array Value} (hts : ∀ w ∈ TB, w.before args s = true) (hN : NW s) (hR : 0 + 1 ≤ R.frames ∧ 8 + (2 + 11) + 0 ≤ R.locals) : CallW R s args R_Store R_Row 88 y_Row_get b_Row_get 2 (some .int) (Cond.code y_Row_get b_Row_get 2 (some .int) :: TB) (rmX 0 0) 0 0 1 := x_V hts hR mc_Row_get mi_Row ml_Store_88 (by decide +kernel) mn_Row_get me_Row_Row_get
theorem mn_Store_growBy : Cond.instanceMethod y_Store_growBy ∈ TB := tb 1082 (by decide +kernel) rfl
theorem ml_Store_90 : Cond.methodLink R_Store 90 y_Store_growBy ∈ TB := tb 1080 (by decide +kernel) rfl
theorem me_Store_Store_growBy : Cond.selects R_Store y_Store_growBy y_Store_growBy ∈ TB := tb 66 (by decide +kernel) rfl
theorem cw_Store_90 {R : Room} {s : State} {args : Array Value} (hts : ∀ w ∈ TB, w.before args s = true) (hN : NW s) (hR : 1 + 1 ≤ R.frames ∧ 8 + (2 + 11) + 21 ≤ R.locals) : CallW R s args R_Store R_Store 90 y_Store_growBy b_Store_growBy 2 (some .int) (Cond.code y_Store_growBy b_Store_growBy 2 (some .int) :: TB) (rmX 1 21) 0 0 1 := x_V hts hR mc_Store_growBy mi_Store ml_Store_90 (by decide +kernel) mn_Store_growBy me_Store_Store_growBy
theorem cw_Store_93 {R : Room} {s : State} {args : Array Value} (hts : ∀ w ∈ TB, w.before args s = true) (hN : NW s) (hR : 0 + 1 ≤ R.frames ∧ 8 + (2 + 11) + 0 ≤ R.locals) : va_CN R s args R_Store 93 y_X_isAbove "WasmMachine" b_X_isAbove 2 (some .boolean) (Cond.code y_X_isAbove b_X_isAbove 2 (some .boolean) :: TB) (rmX 0 0) 0 0 2 ∧ (Cond.static y_X_isAbove).before args s = true ∧ True := ⟨va_cnB 2 hts (x_good mc_X_isAbove) rfl rfl rfl (hN _ (List.mem_of_getElem? (i := 4) rfl)) (hts _ mi_X) (by decide +kernel) hR, hts _ ms_X_isAbove, trivial⟩
theorem ml_Store_97 : Cond.methodLink R_Store 97 y_Op_takes ∈ TB := tb 1026 (by decide +kernel) rfl
theorem cw_Store_97 {R : Room} {s : State} {args : Array Value} (hts : ∀ w ∈ TB, w.before args s = true) (hN : NW s) (hR : 2 + 1 ≤ R.frames ∧ 8 + (1 + 11) + 40 ≤ R.locals) : CallB R s args R_Store 97 y_Op_takes b_Op_takes 1 (some .int) (Cond.code y_Op_takes b_Op_takes 1 (some .int) :: TB) (rmX 2 40) 0 0 1 ∧ (Cond.static y_Op_takes).before args s = true := ⟨x_B hts hR mc_Op_takes mi_Op ml_Store_97 (by decide +kernel), hts _ ms_Op_takes⟩
theorem ms_Op_ofOne : Cond.static y_Op_ofOne ∈ TB := tb 1028 (by decide +kernel) rfl
theorem ml_Store_100 : Cond.methodLink R_Store 100 y_Op_ofOne ∈ TB := tb 1027 (by decide +kernel) rfl
theorem cw_Store_100 {R : Room} {s : State} {args : Array Value} (hts : ∀ w ∈ TB, w.before args s = true) (hN : NW s) (hR : 1 + 1 ≤ R.frames ∧ 8 + (2 + 11) + 21 ≤ R.locals) : CallB R s args R_Store 100 y_Op_ofOne b_Op_ofOne 2 (some .int) (Cond.code y_Op_ofOne b_Op_ofOne 2 (some .int) :: TB) (rmX 1 21) 0 0 2 ∧ (Cond.static y_Op_ofOne).before args s = true := ⟨x_B hts hR mc_Op_ofOne mi_Op ml_Store_100 (by decide +kernel), hts _ ms_Op_ofOne⟩
theorem ms_Op_trapOf : Cond.static y_Op_trapOf ∈ TB := tb 1044 (by decide +kernel) rfl
theorem ml_Store_103 : Cond.methodLink R_Store 103 y_Op_trapOf ∈ TB := tb 1043 (by decide +kernel) rfl
theorem cw_Store_103 {R : Room} {s : State} {args : Array Value} (hts : ∀ w ∈ TB, w.before args s = true) (hN : NW s) (hR : 0 + 1 ≤ R.frames ∧ 8 + (3 + 11) + 0 ≤ R.locals) : CallB R s args R_Store 103 y_Op_trapOf b_Op_trapOf 3 (some .int) (Cond.code y_Op_trapOf b_Op_trapOf 3 (some .int) :: TB) (rmX 0 0) 0 0 3 ∧ (Cond.static y_Op_trapOf).before args s = true := ⟨x_B hts hR mc_Op_trapOf mi_Op ml_Store_103 (by decide +kernel), hts _ ms_Op_trapOf⟩
theorem ms_Op_ofTwo : Cond.static y_Op_ofTwo ∈ TB := tb 1048 (by decide +kernel) rfl
theorem ml_Store_106 : Cond.methodLink R_Store 106 y_Op_ofTwo ∈ TB := tb 1047 (by decide +kernel) rfl
theorem cw_Store_106 {R : Room} {s : State} {args : Array Value} (hts : ∀ w ∈ TB, w.before args s = true) (hN : NW s) (hR : 1 + 1 ≤ R.frames ∧ 8 + (3 + 11) + 27 ≤ R.locals) : CallB R s args R_Store 106 y_Op_ofTwo b_Op_ofTwo 3 (some .int) (Cond.code y_Op_ofTwo b_Op_ofTwo 3 (some .int) :: TB) (rmX 1 27) 0 0 3 ∧ (Cond.static y_Op_ofTwo).before args s = true := ⟨x_B hts hR mc_Op_ofTwo mi_Op ml_Store_106 (by decide +kernel), hts _ ms_Op_ofTwo⟩
theorem ms_Op_width : Cond.static y_Op_width ∈ TB := tb 799 (by decide +kernel) rfl
theorem ml_Store_109 : Cond.methodLink R_Store 109 y_Op_width ∈ TB := tb 1062 (by decide +kernel) rfl
theorem cw_Store_109 {R : Room} {s : State} {args : Array Value} (hts : ∀ w ∈ TB, w.before args s = true) (hN : NW s) (hR : 0 + 1 ≤ R.frames ∧ 8 + (1 + 11) + 0 ≤ R.locals) : CallB R s args R_Store 109 y_Op_width b_Op_width 1 (some .int) (Cond.code y_Op_width b_Op_width 1 (some .int) :: TB) (rmX 0 0) 0 0 1 ∧ (Cond.static y_Op_width).before args s = true := ⟨x_B hts hR mc_Op_width mi_Op ml_Store_109 (by decide +kernel), hts _ ms_Op_width⟩
theorem ml_Store_114 : Cond.methodLink R_Store 114 y_Op_isStore ∈ TB := tb 1064 (by decide +kernel) rfl
theorem cw_Store_114 {R : Room} {s : State} {args : Array Value} (hts : ∀ w ∈ TB, w.before args s = true) (hN : NW s) (hR : 0 + 1 ≤ R.frames ∧ 8 + (1 + 11) + 0 ≤ R.locals) : CallB R s args R_Store 114 y_Op_isStore b_Op_isStore 1 (some .boolean) (Cond.code y_Op_isStore b_Op_isStore 1 (some .boolean) :: TB) (rmX 0 0) 0 0 1 ∧ (Cond.static y_Op_isStore).before args s = true := ⟨x_B hts hR mc_Op_isStore mi_Op ml_Store_114 (by decide +kernel), hts _ ms_Op_isStore⟩
theorem mn_Store_write : Cond.instanceMethod y_Store_write ∈ TB := tb 1067 (by decide +kernel) rfl
theorem ml_Store_117 : Cond.methodLink R_Store 117 y_Store_write ∈ TB := tb 1065 (by decide +kernel) rfl
theorem me_Store_Store_write : Cond.selects R_Store y_Store_write y_Store_write ∈ TB := tb 63 (by decide +kernel) rfl
theorem cw_Store_117 {R : Room} {s : State} {args : Array Value} (hts : ∀ w ∈ TB, w.before args s = true) (hN : NW s) (hR : 1 + 1 ≤ R.frames ∧ 8 + (5 + 11) + 22 ≤ R.locals) : CallW R s args R_Store R_Store 117 y_Store_write b_Store_write 5 none (Cond.code y_Store_write b_Store_write 5 none :: TB) (rmX 1 22) 0 0 3 := x_V hts hR mc_Store_write mi_Store ml_Store_117 (by decide +kernel) mn_Store_write me_Store_Store_write
theorem mn_Store_read : Cond.instanceMethod y_Store_read ∈ TB := tb 1071 (by decide +kernel) rfl
theorem ml_Store_121 : Cond.methodLink R_Store 121 y_Store_read ∈ TB := tb 1069 (by decide +kernel) rfl
theorem me_Store_Store_read : Cond.selects R_Store y_Store_read y_Store_read ∈ TB := tb 64 (by decide +kernel) rfl
theorem cw_Store_121 {R : Room} {s : State} {args : Array Value} (hts : ∀ w ∈ TB, w.before args s = true) (hN : NW s) (hR : 1 + 1 ≤ R.frames ∧ 8 + (5 + 11) + 21 ≤ R.locals) : CallW R s args R_Store R_Store 121 y_Store_read b_Store_read 5 (some .int) (Cond.code y_Store_read b_Store_read 5 (some .int) :: TB) (rmX 1 21) 0 0 2 := x_V hts hR mc_Store_read mi_Store ml_Store_121 (by decide +kernel) mn_Store_read me_Store_Store_read
theorem ms_Store_signed : Cond.static y_Store_signed ∈ TB := tb 1074 (by decide +kernel) rfl
theorem ml_Store_124 : Cond.methodLink R_Store 124 y_Store_signed ∈ TB := tb 1073 (by decide +kernel) rfl
theorem cw_Store_124 {R : Room} {s : State} {args : Array Value} (hts : ∀ w ∈ TB, w.before args s = true) (hN : NW s) (hR : 0 + 1 ≤ R.frames ∧ 8 + (2 + 11) + 0 ≤ R.locals) : CallB R s args R_Store 124 y_Store_signed b_Store_signed 2 (some .int) (Cond.code y_Store_signed b_Store_signed 2 (some .int) :: TB) (rmX 0 0) 0 0 2 ∧ (Cond.static y_Store_signed).before args s = true := ⟨x_B hts hR mc_Store_signed mi_Store ml_Store_124 (by decide +kernel), hts _ ms_Store_signed⟩
theorem mn_Val_judgeTypes : Cond.instanceMethod y_Val_judgeTypes ∈ TB := tb 698 (by decide +kernel) rfl
theorem ml_Val_28 : Cond.methodLink R_Val 28 y_Val_judgeTypes ∈ TB := tb 696 (by decide +kernel) rfl
theorem me_Val_Val_judgeTypes : Cond.selects R_Val y_Val_judgeTypes y_Val_judgeTypes ∈ TB := tb 25 (by decide +kernel) rfl
theorem cw_Val_28 {R : Room} {s : State} {args : Array Value} (hts : ∀ w ∈ TB, w.before args s = true) (hN : NW s) (hR : 1 + 1 ≤ R.frames ∧ 8 + (2 + 11) + 23 ≤ R.locals) : CallW R s args R_Val R_Val 28 y_Val_judgeTypes b_Val_judgeTypes 2 none (Cond.code y_Val_judgeTypes b_Val_judgeTypes 2 none :: TB) (rmX 1 23) 0 0 0 := x_V hts hR mc_Val_judgeTypes mi_Val ml_Val_28 (by decide +kernel) mn_Val_judgeTypes me_Val_Val_judgeTypes
theorem mn_Val_refuse : Cond.instanceMethod y_Val_refuse ∈ TB := tb 704 (by decide +kernel) rfl
theorem ml_Val_39 : Cond.methodLink R_Val 39 y_Val_refuse ∈ TB := tb 702 (by decide +kernel) rfl
theorem me_Val_Val_refuse : Cond.selects R_Val y_Val_refuse y_Val_refuse ∈ TB := tb 26 (by decide +kernel) rfl
theorem cw_Val_39 {R : Room} {s : State} {args : Array Value} (hts : ∀ w ∈ TB, w.before args s = true) (hN : NW s) (hR : 0 + 1 ≤ R.frames ∧ 8 + (2 + 11) + 0 ≤ R.locals) : CallW R s args R_Val R_Val 39 y_Val_refuse b_Val_refuse 2 none (Cond.code y_Val_refuse b_Val_refuse 2 none :: TB) (rmX 0 0) 0 0 1 := x_V hts hR mc_Val_refuse mi_Val ml_Val_39 (by decide +kernel) mn_Val_refuse me_Val_Val_refuse
theorem ml_Val_46 : Cond.methodLink R_Val 46 y_Table_count ∈ TB := tb 700 (by decide +kernel) rfl
theorem cw_Val_46 {R : Room} {s : State} {args : Array Value} (hts : ∀ w ∈ TB, w.before args s = true) (hN : NW s) (hR : 0 + 1 ≤ R.frames ∧ 8 + (1 + 11) + 0 ≤ R.locals) : CallW R s args R_Val R_Table 46 y_Table_count b_Table_count 1 (some .int) (Cond.code y_Table_count b_Table_count 1 (some .int) :: TB) (rmX 0 0) 0 0 0 := x_V hts hR mc_Table_count mi_Table ml_Val_46 (by decide +kernel) mn_Table_count me_Table_Table_count
theorem mn_Val_judgeExport : Cond.instanceMethod y_Val_judgeExport ∈ TB := tb 709 (by decide +kernel) rfl
theorem ml_Val_50 : Cond.methodLink R_Val 50 y_Val_judgeExport ∈ TB := tb 707 (by decide +kernel) rfl
theorem me_Val_Val_judgeExport : Cond.selects R_Val y_Val_judgeExport y_Val_judgeExport ∈ TB := tb 27 (by decide +kernel) rfl
theorem cw_Val_50 {R : Room} {s : State} {args : Array Value} (hts : ∀ w ∈ TB, w.before args s = true) (hN : NW s) (hR : 2 + 1 ≤ R.frames ∧ 8 + (3 + 11) + 47 ≤ R.locals) : CallW R s args R_Val R_Val 50 y_Val_judgeExport b_Val_judgeExport 3 none (Cond.code y_Val_judgeExport b_Val_judgeExport 3 none :: TB) (rmX 2 47) 0 0 1 := x_V hts hR mc_Val_judgeExport mi_Val ml_Val_50 (by decide +kernel) mn_Val_judgeExport me_Val_Val_judgeExport
theorem mn_Val_judgeBody : Cond.instanceMethod y_Val_judgeBody ∈ TB := tb 721 (by decide +kernel) rfl
theorem ml_Val_56 : Cond.methodLink R_Val 56 y_Val_judgeBody ∈ TB := tb 719 (by decide +kernel) rfl
theorem me_Val_Val_judgeBody : Cond.selects R_Val y_Val_judgeBody y_Val_judgeBody ∈ TB := tb 30 (by decide +kernel) rfl
theorem cw_Val_56 {R : Room} {s : State} {args : Array Value} (hts : ∀ w ∈ TB, w.before args s = true) (hN : NW s) (hR : 5 + 1 ≤ R.frames ∧ 8 + (5 + 11) + 120 ≤ R.locals) : CallW R s args R_Val R_Val 56 y_Val_judgeBody b_Val_judgeBody 5 none (Cond.code y_Val_judgeBody b_Val_judgeBody 5 none :: TB) (rmX 5 120) 0 0 1 := x_V hts hR mc_Val_judgeBody mi_Val ml_Val_56 (by decide +kernel) mn_Val_judgeBody me_Val_Val_judgeBody
theorem mn_Val_judgeData : Cond.instanceMethod y_Val_judgeData ∈ TB := tb 809 (by decide +kernel) rfl
theorem ml_Val_59 : Cond.methodLink R_Val 59 y_Val_judgeData ∈ TB := tb 807 (by decide +kernel) rfl
theorem me_Val_Val_judgeData : Cond.selects R_Val y_Val_judgeData y_Val_judgeData ∈ TB := tb 44 (by decide +kernel) rfl
theorem cw_Val_59 {R : Room} {s : State} {args : Array Value} (hts : ∀ w ∈ TB, w.before args s = true) (hN : NW s) (hR : 1 + 1 ≤ R.frames ∧ 8 + (3 + 11) + 23 ≤ R.locals) : CallW R s args R_Val R_Val 59 y_Val_judgeData b_Val_judgeData 3 none (Cond.code y_Val_judgeData b_Val_judgeData 3 none :: TB) (rmX 1 23) 0 0 0 := x_V hts hR mc_Val_judgeData mi_Val ml_Val_59 (by decide +kernel) mn_Val_judgeData me_Val_Val_judgeData
theorem ml_Val_65 : Cond.methodLink R_Val 65 y_Table_get ∈ TB := tb 701 (by decide +kernel) rfl
theorem cw_Val_65 {R : Room} {s : State} {args : Array Value} (hts : ∀ w ∈ TB, w.before args s = true) (hN : NW s) (hR : 0 + 1 ≤ R.frames ∧ 8 + (4 + 11) + 0 ≤ R.locals) : CallW R s args R_Val R_Table 65 y_Table_get b_Table_get 4 (some .int) (Cond.code y_Table_get b_Table_get 4 (some .int) :: TB) (rmX 0 0) 0 0 2 := x_V hts hR mc_Table_get mi_Table ml_Val_65 (by decide +kernel) mn_Table_get me_Table_Table_get
theorem ml_Val_69 : Cond.methodLink R_Val 69 y_Table_has ∈ TB := tb 706 (by decide +kernel) rfl
theorem cw_Val_69 {R : Room} {s : State} {args : Array Value} (hts : ∀ w ∈ TB, w.before args s = true) (hN : NW s) (hR : 0 + 1 ≤ R.frames ∧ 8 + (2 + 11) + 0 ≤ R.locals) : CallW R s args R_Val R_Table 69 y_Table_has b_Table_has 2 (some .boolean) (Cond.code y_Table_has b_Table_has 2 (some .boolean) :: TB) (rmX 0 0) 0 0 1 := x_V hts hR mc_Table_has mi_Table ml_Val_69 (by decide +kernel) mn_Table_has me_Table_Table_has
theorem mn_Val_isThere : Cond.instanceMethod y_Val_isThere ∈ TB := tb 713 (by decide +kernel) rfl
theorem ml_Val_73 : Cond.methodLink R_Val 73 y_Val_isThere ∈ TB := tb 711 (by decide +kernel) rfl
theorem me_Val_Val_isThere : Cond.selects R_Val y_Val_isThere y_Val_isThere ∈ TB := tb 28 (by decide +kernel) rfl
theorem cw_Val_73 {R : Room} {s : State} {args : Array Value} (hts : ∀ w ∈ TB, w.before args s = true) (hN : NW s) (hR : 1 + 1 ≤ R.frames ∧ 8 + (3 + 11) + 21 ≤ R.locals) : CallW R s args R_Val R_Val 73 y_Val_isThere b_Val_isThere 3 (some .boolean) (Cond.code y_Val_isThere b_Val_isThere 3 (some .boolean) :: TB) (rmX 1 21) 0 0 2 := x_V hts hR mc_Val_isThere mi_Val ml_Val_73 (by decide +kernel) mn_Val_isThere me_Val_Val_isThere
theorem mn_Val_haveSameName : Cond.instanceMethod y_Val_haveSameName ∈ TB := tb 717 (by decide +kernel) rfl
theorem ml_Val_77 : Cond.methodLink R_Val 77 y_Val_haveSameName ∈ TB := tb 715 (by decide +kernel) rfl
theorem me_Val_Val_haveSameName : Cond.selects R_Val y_Val_haveSameName y_Val_haveSameName ∈ TB := tb 29 (by decide +kernel) rfl
theorem cw_Val_77 {R : Room} {s : State} {args : Array Value} (hts : ∀ w ∈ TB, w.before args s = true) (hN : NW s) (hR : 1 + 1 ≤ R.frames ∧ 8 + (5 + 11) + 23 ≤ R.locals) : CallW R s args R_Val R_Val 77 y_Val_haveSameName b_Val_haveSameName 5 (some .boolean) (Cond.code y_Val_haveSameName b_Val_haveSameName 5 (some .boolean) :: TB) (rmX 1 23) 0 0 2 := x_V hts hR mc_Val_haveSameName mi_Val ml_Val_77 (by decide +kernel) mn_Val_haveSameName me_Val_Val_haveSameName
theorem cw_Val_90 {R : Room} {s : State} {args : Array Value} (hts : ∀ w ∈ TB, w.before args s = true) (hN : NW s) (hR : 0 + 1 ≤ R.frames ∧ 8 + (2 + 11) + 0 ≤ R.locals) : va_CN R s args R_Val 90 y_X_isAbove "WasmMachine" b_X_isAbove 2 (some .boolean) (Cond.code y_X_isAbove b_X_isAbove 2 (some .boolean) :: TB) (rmX 0 0) 0 0 2 ∧ (Cond.static y_X_isAbove).before args s = true ∧ True := ⟨va_cnB 2 hts (x_good mc_X_isAbove) rfl rfl rfl (hN _ (List.mem_of_getElem? (i := 2) rfl)) (hts _ mi_X) (by decide +kernel) hR, hts _ ms_X_isAbove, trivial⟩
theorem ml_Val_102 : Cond.methodLink R_Val 102 y_Cont_resultsOf ∈ TB := tb 723 (by decide +kernel) rfl
theorem cw_Val_102 {R : Room} {s : State} {args : Array Value} (hts : ∀ w ∈ TB, w.before args s = true) (hN : NW s) (hR : 1 + 1 ≤ R.frames ∧ 8 + (3 + 11) + 23 ≤ R.locals) : CallW R s args R_Val R_Cont 102 y_Cont_resultsOf b_Cont_resultsOf 3 (some .int) (Cond.code y_Cont_resultsOf b_Cont_resultsOf 3 (some .int) :: TB) (rmX 1 23) 0 0 1 := x_V hts hR mc_Cont_resultsOf mi_Cont ml_Val_102 (by decide +kernel) mn_Cont_resultsOf me_Cont_Cont_resultsOf
theorem mn_Val_openBlock : Cond.instanceMethod y_Val_openBlock ∈ TB := tb 729 (by decide +kernel) rfl
theorem ml_Val_108 : Cond.methodLink R_Val 108 y_Val_openBlock ∈ TB := tb 727 (by decide +kernel) rfl
theorem me_Val_Val_openBlock : Cond.selects R_Val y_Val_openBlock y_Val_openBlock ∈ TB := tb 31 (by decide +kernel) rfl
theorem cw_Val_108 {R : Room} {s : State} {args : Array Value} (hts : ∀ w ∈ TB, w.before args s = true) (hN : NW s) (hR : 3 + 1 ≤ R.frames ∧ 8 + (5 + 11) + 64 ≤ R.locals) : CallW R s args R_Val R_Val 108 y_Val_openBlock b_Val_openBlock 5 none (Cond.code y_Val_openBlock b_Val_openBlock 5 none :: TB) (rmX 3 64) 0 0 3 := x_V hts hR mc_Val_openBlock mi_Val ml_Val_108 (by decide +kernel) mn_Val_openBlock me_Val_Val_openBlock
theorem ml_Val_115 : Cond.methodLink R_Val 115 y_Table_set ∈ TB := tb 739 (by decide +kernel) rfl
theorem cw_Val_115 {R : Room} {s : State} {args : Array Value} (hts : ∀ w ∈ TB, w.before args s = true) (hN : NW s) (hR : 0 + 1 ≤ R.frames ∧ 8 + (5 + 11) + 0 ≤ R.locals) : CallW R s args R_Val R_Table 115 y_Table_set b_Table_set 5 none (Cond.code y_Table_set b_Table_set 5 none :: TB) (rmX 0 0) 0 0 3 := x_V hts hR mc_Table_set mi_Table ml_Val_115 (by decide +kernel) mn_Table_set me_Table_Table_set
theorem mn_Val_isAlive : Cond.instanceMethod y_Val_isAlive ∈ TB := tb 733 (by decide +kernel) rfl
theorem ml_Val_118 : Cond.methodLink R_Val 118 y_Val_isAlive ∈ TB := tb 731 (by decide +kernel) rfl
theorem me_Val_Val_isAlive : Cond.selects R_Val y_Val_isAlive y_Val_isAlive ∈ TB := tb 32 (by decide +kernel) rfl
theorem cw_Val_118 {R : Room} {s : State} {args : Array Value} (hts : ∀ w ∈ TB, w.before args s = true) (hN : NW s) (hR : 2 + 1 ≤ R.frames ∧ 8 + (1 + 11) + 44 ≤ R.locals) : CallW R s args R_Val R_Val 118 y_Val_isAlive b_Val_isAlive 1 (some .int) (Cond.code y_Val_isAlive b_Val_isAlive 1 (some .int) :: TB) (rmX 2 44) 0 0 0 := x_V hts hR mc_Val_isAlive mi_Val ml_Val_118 (by decide +kernel) mn_Val_isAlive me_Val_Val_isAlive
theorem mn_Val_judgeInstruction : Cond.instanceMethod y_Val_judgeInstruction ∈ TB := tb 742 (by decide +kernel) rfl
theorem ml_Val_121 : Cond.methodLink R_Val 121 y_Val_judgeInstruction ∈ TB := tb 740 (by decide +kernel) rfl
theorem me_Val_Val_judgeInstruction : Cond.selects R_Val y_Val_judgeInstruction y_Val_judgeInstruction ∈ TB := tb 34 (by decide +kernel) rfl
theorem cw_Val_121 {R : Room} {s : State} {args : Array Value} (hts : ∀ w ∈ TB, w.before args s = true) (hN : NW s) (hR : 4 + 1 ≤ R.frames ∧ 8 + (4 + 11) + 97 ≤ R.locals) : CallW R s args R_Val R_Val 121 y_Val_judgeInstruction b_Val_judgeInstruction 4 none (Cond.code y_Val_judgeInstruction b_Val_judgeInstruction 4 none :: TB) (rmX 4 97) 0 0 3 := x_V hts hR mc_Val_judgeInstruction mi_Val ml_Val_121 (by decide +kernel) mn_Val_judgeInstruction me_Val_Val_judgeInstruction
theorem mn_Val_inner : Cond.instanceMethod y_Val_inner ∈ TB := tb 737 (by decide +kernel) rfl
theorem ml_Val_124 : Cond.methodLink R_Val 124 y_Val_inner ∈ TB := tb 735 (by decide +kernel) rfl
theorem me_Val_Val_inner : Cond.selects R_Val y_Val_inner y_Val_inner ∈ TB := tb 33 (by decide +kernel) rfl
theorem cw_Val_124 {R : Room} {s : State} {args : Array Value} (hts : ∀ w ∈ TB, w.before args s = true) (hN : NW s) (hR : 1 + 1 ≤ R.frames ∧ 8 + (2 + 11) + 23 ≤ R.locals) : CallW R s args R_Val R_Val 124 y_Val_inner b_Val_inner 2 (some .int) (Cond.code y_Val_inner b_Val_inner 2 (some .int) :: TB) (rmX 1 23) 0 0 1 := x_V hts hR mc_Val_inner mi_Val ml_Val_124 (by decide +kernel) mn_Val_inner me_Val_Val_inner
theorem ml_Val_127 : Cond.methodLink R_Val 127 y_Op_opensBlock ∈ TB := tb 744 (by decide +kernel) rfl
theorem cw_Val_127 {R : Room} {s : State} {args : Array Value} (hts : ∀ w ∈ TB, w.before args s = true) (hN : NW s) (hR : 0 + 1 ≤ R.frames ∧ 8 + (1 + 11) + 0 ≤ R.locals) : CallB R s args R_Val 127 y_Op_opensBlock b_Op_opensBlock 1 (some .boolean) (Cond.code y_Op_opensBlock b_Op_opensBlock 1 (some .boolean) :: TB) (rmX 0 0) 0 0 1 ∧ (Cond.static y_Op_opensBlock).before args s = true := ⟨x_B hts hR mc_Op_opensBlock mi_Op ml_Val_127 (by decide +kernel), hts _ ms_Op_opensBlock⟩
theorem mn_Val_take : Cond.instanceMethod y_Val_take ∈ TB := tb 747 (by decide +kernel) rfl
theorem ml_Val_130 : Cond.methodLink R_Val 130 y_Val_take ∈ TB := tb 745 (by decide +kernel) rfl
theorem me_Val_Val_take : Cond.selects R_Val y_Val_take y_Val_take ∈ TB := tb 35 (by decide +kernel) rfl
theorem cw_Val_130 {R : Room} {s : State} {args : Array Value} (hts : ∀ w ∈ TB, w.before args s = true) (hN : NW s) (hR : 2 + 1 ≤ R.frames ∧ 8 + (3 + 11) + 44 ≤ R.locals) : CallW R s args R_Val R_Val 130 y_Val_take b_Val_take 3 none (Cond.code y_Val_take b_Val_take 3 none :: TB) (rmX 2 44) 0 0 1 := x_V hts hR mc_Val_take mi_Val ml_Val_130 (by decide +kernel) mn_Val_take me_Val_Val_take
theorem mn_Cont_blockResults : Cond.instanceMethod y_Cont_blockResults ∈ TB := tb 750 (by decide +kernel) rfl
theorem ml_Val_133 : Cond.methodLink R_Val 133 y_Cont_blockResults ∈ TB := tb 749 (by decide +kernel) rfl
theorem me_Cont_Cont_blockResults : Cond.selects R_Cont y_Cont_blockResults y_Cont_blockResults ∈ TB := tb 751 (by decide +kernel) rfl
theorem cw_Val_133 {R : Room} {s : State} {args : Array Value} (hts : ∀ w ∈ TB, w.before args s = true) (hN : NW s) (hR : 1 + 1 ≤ R.frames ∧ 8 + (2 + 11) + 23 ≤ R.locals) : CallW R s args R_Val R_Cont 133 y_Cont_blockResults b_Cont_blockResults 2 (some .int) (Cond.code y_Cont_blockResults b_Cont_blockResults 2 (some .int) :: TB) (rmX 1 23) 0 0 1 := x_V hts hR mc_Cont_blockResults mi_Cont ml_Val_133 (by decide +kernel) mn_Cont_blockResults me_Cont_Cont_blockResults
theorem ml_Val_136 : Cond.methodLink R_Val 136 y_Cont_labelResults ∈ TB := tb 753 (by decide +kernel) rfl
theorem cw_Val_136 {R : Room} {s : State} {args : Array Value} (hts : ∀ w ∈ TB, w.before args s = true) (hN : NW s) (hR : 1 + 1 ≤ R.frames ∧ 8 + (2 + 11) + 23 ≤ R.locals) : CallW R s args R_Val R_Cont 136 y_Cont_labelResults b_Cont_labelResults 2 (some .int) (Cond.code y_Cont_labelResults b_Cont_labelResults 2 (some .int) :: TB) (rmX 1 23) 0 0 1 := x_V hts hR mc_Cont_labelResults mi_Cont ml_Val_136 (by decide +kernel) mn_Cont_labelResults me_Cont_Cont_labelResults
theorem mn_Val_closeBlock : Cond.instanceMethod y_Val_closeBlock ∈ TB := tb 759 (by decide +kernel) rfl
theorem ml_Val_139 : Cond.methodLink R_Val 139 y_Val_closeBlock ∈ TB := tb 757 (by decide +kernel) rfl
theorem me_Val_Val_closeBlock : Cond.selects R_Val y_Val_closeBlock y_Val_closeBlock ∈ TB := tb 36 (by decide +kernel) rfl
theorem cw_Val_139 {R : Room} {s : State} {args : Array Value} (hts : ∀ w ∈ TB, w.before args s = true) (hN : NW s) (hR : 3 + 1 ≤ R.frames ∧ 8 + (3 + 11) + 66 ≤ R.locals) : CallW R s args R_Val R_Val 139 y_Val_closeBlock b_Val_closeBlock 3 none (Cond.code y_Val_closeBlock b_Val_closeBlock 3 none :: TB) (rmX 3 66) 0 0 1 := x_V hts hR mc_Val_closeBlock mi_Val ml_Val_139 (by decide +kernel) mn_Val_closeBlock me_Val_Val_closeBlock
theorem mn_Val_judgeBranch : Cond.instanceMethod y_Val_judgeBranch ∈ TB := tb 767 (by decide +kernel) rfl
theorem ml_Val_142 : Cond.methodLink R_Val 142 y_Val_judgeBranch ∈ TB := tb 765 (by decide +kernel) rfl
theorem me_Val_Val_judgeBranch : Cond.selects R_Val y_Val_judgeBranch y_Val_judgeBranch ∈ TB := tb 38 (by decide +kernel) rfl
theorem cw_Val_142 {R : Room} {s : State} {args : Array Value} (hts : ∀ w ∈ TB, w.before args s = true) (hN : NW s) (hR : 3 + 1 ≤ R.frames ∧ 8 + (6 + 11) + 72 ≤ R.locals) : CallW R s args R_Val R_Val 142 y_Val_judgeBranch b_Val_judgeBranch 6 none (Cond.code y_Val_judgeBranch b_Val_judgeBranch 6 none :: TB) (rmX 3 72) 0 0 3 := x_V hts hR mc_Val_judgeBranch mi_Val ml_Val_142 (by decide +kernel) mn_Val_judgeBranch me_Val_Val_judgeBranch
theorem ml_Val_145 : Cond.methodLink R_Val 145 y_Op_isControl ∈ TB := tb 787 (by decide +kernel) rfl
theorem cw_Val_145 {R : Room} {s : State} {args : Array Value} (hts : ∀ w ∈ TB, w.before args s = true) (hN : NW s) (hR : 0 + 1 ≤ R.frames ∧ 8 + (1 + 11) + 0 ≤ R.locals) : CallB R s args R_Val 145 y_Op_isControl b_Op_isControl 1 (some .boolean) (Cond.code y_Op_isControl b_Op_isControl 1 (some .boolean) :: TB) (rmX 0 0) 0 0 1 ∧ (Cond.static y_Op_isControl).before args s = true := ⟨x_B hts hR mc_Op_isControl mi_Op ml_Val_145 (by decide +kernel), hts _ ms_Op_isControl⟩
theorem mn_Val_judgeOtherControl : Cond.instanceMethod y_Val_judgeOtherControl ∈ TB := tb 790 (by decide +kernel) rfl
theorem ml_Val_148 : Cond.methodLink R_Val 148 y_Val_judgeOtherControl ∈ TB := tb 788 (by decide +kernel) rfl
theorem me_Val_Val_judgeOtherControl : Cond.selects R_Val y_Val_judgeOtherControl y_Val_judgeOtherControl ∈ TB := tb 42 (by decide +kernel) rfl
theorem cw_Val_148 {R : Room} {s : State} {args : Array Value} (hts : ∀ w ∈ TB, w.before args s = true) (hN : NW s) (hR : 3 + 1 ≤ R.frames ∧ 8 + (3 + 11) + 66 ≤ R.locals) : CallW R s args R_Val R_Val 148 y_Val_judgeOtherControl b_Val_judgeOtherControl 3 none (Cond.code y_Val_judgeOtherControl b_Val_judgeOtherControl 3 none :: TB) (rmX 3 66) 0 0 2 := x_V hts hR mc_Val_judgeOtherControl mi_Val ml_Val_148 (by decide +kernel) mn_Val_judgeOtherControl me_Val_Val_judgeOtherControl
theorem mn_Val_judgeOperands : Cond.instanceMethod y_Val_judgeOperands ∈ TB := tb 795 (by decide +kernel) rfl
theorem ml_Val_151 : Cond.methodLink R_Val 151 y_Val_judgeOperands ∈ TB := tb 793 (by decide +kernel) rfl
theorem me_Val_Val_judgeOperands : Cond.selects R_Val y_Val_judgeOperands y_Val_judgeOperands ∈ TB := tb 43 (by decide +kernel) rfl
theorem cw_Val_151 {R : Room} {s : State} {args : Array Value} (hts : ∀ w ∈ TB, w.before args s = true) (hN : NW s) (hR : 2 + 1 ≤ R.frames ∧ 8 + (5 + 11) + 40 ≤ R.locals) : CallW R s args R_Val R_Val 151 y_Val_judgeOperands b_Val_judgeOperands 5 none (Cond.code y_Val_judgeOperands b_Val_judgeOperands 5 none :: TB) (rmX 2 40) 0 0 3 := x_V hts hR mc_Val_judgeOperands mi_Val ml_Val_151 (by decide +kernel) mn_Val_judgeOperands me_Val_Val_judgeOperands
theorem ml_Val_154 : Cond.methodLink R_Val 154 y_Op_takes ∈ TB := tb 801 (by decide +kernel) rfl
theorem cw_Val_154 {R : Room} {s : State} {args : Array Value} (hts : ∀ w ∈ TB, w.before args s = true) (hN : NW s) (hR : 2 + 1 ≤ R.frames ∧ 8 + (1 + 11) + 40 ≤ R.locals) : CallB R s args R_Val 154 y_Op_takes b_Op_takes 1 (some .int) (Cond.code y_Op_takes b_Op_takes 1 (some .int) :: TB) (rmX 2 40) 0 0 1 ∧ (Cond.static y_Op_takes).before args s = true := ⟨x_B hts hR mc_Op_takes mi_Op ml_Val_154 (by decide +kernel), hts _ ms_Op_takes⟩
theorem ml_Val_157 : Cond.methodLink R_Val 157 y_Op_gives ∈ TB := tb 804 (by decide +kernel) rfl
theorem cw_Val_157 {R : Room} {s : State} {args : Array Value} (hts : ∀ w ∈ TB, w.before args s = true) (hN : NW s) (hR : 1 + 1 ≤ R.frames ∧ 8 + (1 + 11) + 20 ≤ R.locals) : CallB R s args R_Val 157 y_Op_gives b_Op_gives 1 (some .int) (Cond.code y_Op_gives b_Op_gives 1 (some .int) :: TB) (rmX 1 20) 0 0 1 ∧ (Cond.static y_Op_gives).before args s = true := ⟨x_B hts hR mc_Op_gives mi_Op ml_Val_157 (by decide +kernel), hts _ ms_Op_gives⟩
theorem mn_Val_give : Cond.instanceMethod y_Val_give ∈ TB := tb 763 (by decide +kernel) rfl
theorem ml_Val_160 : Cond.methodLink R_Val 160 y_Val_give ∈ TB := tb 761 (by decide +kernel) rfl
theorem me_Val_Val_give : Cond.selects R_Val y_Val_give y_Val_give ∈ TB := tb 37 (by decide +kernel) rfl
theorem cw_Val_160 {R : Room} {s : State} {args : Array Value} (hts : ∀ w ∈ TB, w.before args s = true) (hN : NW s) (hR : 1 + 1 ≤ R.frames ∧ 8 + (2 + 11) + 21 ≤ R.locals) : CallW R s args R_Val R_Val 160 y_Val_give b_Val_give 2 none (Cond.code y_Val_give b_Val_give 2 none :: TB) (rmX 1 21) 0 0 1 := x_V hts hR mc_Val_give mi_Val ml_Val_160 (by decide +kernel) mn_Val_give me_Val_Val_give
theorem ml_Val_163 : Cond.methodLink R_Val 163 y_Cont_labelAt ∈ TB := tb 769 (by decide +kernel) rfl
theorem cw_Val_163 {R : Room} {s : State} {args : Array Value} (hts : ∀ w ∈ TB, w.before args s = true) (hN : NW s) (hR : 1 + 1 ≤ R.frames ∧ 8 + (5 + 11) + 23 ≤ R.locals) : CallW R s args R_Val R_Cont 163 y_Cont_labelAt b_Cont_labelAt 5 (some .int) (Cond.code y_Cont_labelAt b_Cont_labelAt 5 (some .int) :: TB) (rmX 1 23) 0 0 2 := x_V hts hR mc_Cont_labelAt mi_Cont ml_Val_163 (by decide +kernel) mn_Cont_labelAt me_Cont_Cont_labelAt
theorem mn_Val_takenBy : Cond.instanceMethod y_Val_takenBy ∈ TB := tb 777 (by decide +kernel) rfl
theorem ml_Val_166 : Cond.methodLink R_Val 166 y_Val_takenBy ∈ TB := tb 775 (by decide +kernel) rfl
theorem me_Val_Val_takenBy : Cond.selects R_Val y_Val_takenBy y_Val_takenBy ∈ TB := tb 39 (by decide +kernel) rfl
theorem cw_Val_166 {R : Room} {s : State} {args : Array Value} (hts : ∀ w ∈ TB, w.before args s = true) (hN : NW s) (hR : 1 + 1 ≤ R.frames ∧ 8 + (2 + 11) + 23 ≤ R.locals) : CallW R s args R_Val R_Val 166 y_Val_takenBy b_Val_takenBy 2 (some .int) (Cond.code y_Val_takenBy b_Val_takenBy 2 (some .int) :: TB) (rmX 1 23) 0 0 1 := x_V hts hR mc_Val_takenBy mi_Val ml_Val_166 (by decide +kernel) mn_Val_takenBy me_Val_Val_takenBy
theorem mn_Val_judgePlaces : Cond.instanceMethod y_Val_judgePlaces ∈ TB := tb 781 (by decide +kernel) rfl
theorem ml_Val_169 : Cond.methodLink R_Val 169 y_Val_judgePlaces ∈ TB := tb 779 (by decide +kernel) rfl
theorem me_Val_Val_judgePlaces : Cond.selects R_Val y_Val_judgePlaces y_Val_judgePlaces ∈ TB := tb 40 (by decide +kernel) rfl
theorem cw_Val_169 {R : Room} {s : State} {args : Array Value} (hts : ∀ w ∈ TB, w.before args s = true) (hN : NW s) (hR : 2 + 1 ≤ R.frames ∧ 8 + (6 + 11) + 47 ≤ R.locals) : CallW R s args R_Val R_Val 169 y_Val_judgePlaces b_Val_judgePlaces 6 none (Cond.code y_Val_judgePlaces b_Val_judgePlaces 6 none :: TB) (rmX 2 47) 0 0 3 := x_V hts hR mc_Val_judgePlaces mi_Val ml_Val_169 (by decide +kernel) mn_Val_judgePlaces me_Val_Val_judgePlaces
theorem mn_Val_leadAway : Cond.instanceMethod y_Val_leadAway ∈ TB := tb 785 (by decide +kernel) rfl
theorem ml_Val_172 : Cond.methodLink R_Val 172 y_Val_leadAway ∈ TB := tb 783 (by decide +kernel) rfl
theorem me_Val_Val_leadAway : Cond.selects R_Val y_Val_leadAway y_Val_leadAway ∈ TB := tb 41 (by decide +kernel) rfl
theorem cw_Val_172 {R : Room} {s : State} {args : Array Value} (hts : ∀ w ∈ TB, w.before args s = true) (hN : NW s) (hR : 2 + 1 ≤ R.frames ∧ 8 + (1 + 11) + 44 ≤ R.locals) : CallW R s args R_Val R_Val 172 y_Val_leadAway b_Val_leadAway 1 none (Cond.code y_Val_leadAway b_Val_leadAway 1 none :: TB) (rmX 2 44) 0 0 0 := x_V hts hR mc_Val_leadAway mi_Val ml_Val_172 (by decide +kernel) mn_Val_leadAway me_Val_Val_leadAway
theorem ml_Val_175 : Cond.methodLink R_Val 175 y_Cont_parametersOf ∈ TB := tb 792 (by decide +kernel) rfl
theorem cw_Val_175 {R : Room} {s : State} {args : Array Value} (hts : ∀ w ∈ TB, w.before args s = true) (hN : NW s) (hR : 1 + 1 ≤ R.frames ∧ 8 + (3 + 11) + 23 ≤ R.locals) : CallW R s args R_Val R_Cont 175 y_Cont_parametersOf b_Cont_parametersOf 3 (some .int) (Cond.code y_Cont_parametersOf b_Cont_parametersOf 3 (some .int) :: TB) (rmX 1 23) 0 0 1 := x_V hts hR mc_Cont_parametersOf mi_Cont ml_Val_175 (by decide +kernel) mn_Cont_parametersOf me_Cont_Cont_parametersOf
theorem ml_Val_178 : Cond.methodLink R_Val 178 y_Op_isAccess ∈ TB := tb 797 (by decide +kernel) rfl
theorem cw_Val_178 {R : Room} {s : State} {args : Array Value} (hts : ∀ w ∈ TB, w.before args s = true) (hN : NW s) (hR : 1 + 1 ≤ R.frames ∧ 8 + (1 + 11) + 20 ≤ R.locals) : CallB R s args R_Val 178 y_Op_isAccess b_Op_isAccess 1 (some .boolean) (Cond.code y_Op_isAccess b_Op_isAccess 1 (some .boolean) :: TB) (rmX 1 20) 0 0 1 ∧ (Cond.static y_Op_isAccess).before args s = true := ⟨x_B hts hR mc_Op_isAccess mi_Op ml_Val_178 (by decide +kernel), hts _ ms_Op_isAccess⟩
theorem ml_Val_181 : Cond.methodLink R_Val 181 y_Op_width ∈ TB := tb 798 (by decide +kernel) rfl
theorem cw_Val_181 {R : Room} {s : State} {args : Array Value} (hts : ∀ w ∈ TB, w.before args s = true) (hN : NW s) (hR : 0 + 1 ≤ R.frames ∧ 8 + (1 + 11) + 0 ≤ R.locals) : CallB R s args R_Val 181 y_Op_width b_Op_width 1 (some .int) (Cond.code y_Op_width b_Op_width 1 (some .int) :: TB) (rmX 0 0) 0 0 1 ∧ (Cond.static y_Op_width).before args s = true := ⟨x_B hts hR mc_Op_width mi_Op ml_Val_181 (by decide +kernel), hts _ ms_Op_width⟩
theorem mi_Arrays : Cond.initialized R_Arrays ∈ TB := tb 140 (by decide +kernel) rfl
theorem ms_Arrays_fill : Cond.static y_Arrays_fill ∈ TB := tb 530 (by decide +kernel) rfl
theorem ml_Row_fill : Cond.methodLink R_Row 19 y_Arrays_fill ∈ TB := tb 819 (by decide +kernel) rfl
theorem cw_Row_fill {R : Room} {s : State} {args : Array Value} (hts : ∀ w ∈ TB, w.before args s = true) (hN : NW s) (hR : 0 + 1 ≤ R.frames ∧ 8 + (4 + 11) + 0 ≤ R.locals) : CallB R s args R_Row 19 y_Arrays_fill b_Arrays_fill 4 none (Cond.code y_Arrays_fill b_Arrays_fill 4 none :: TB) (rmX 0 0) 0 0 2 ∧ (Cond.static y_Arrays_fill).before args s = true := ⟨x_B hts hR mc_Arrays_fill mi_Arrays ml_Row_fill (by decide +kernel), hts _ ms_Arrays_fill⟩
theorem ml_Table_fill : Cond.methodLink R_Table 29 y_Arrays_fill ∈ TB := tb 529 (by decide +kernel) rfl
theorem cw_Table_fill {R : Room} {s : State} {args : Array Value} (hts : ∀ w ∈ TB, w.before args s = true) (hN : NW s) (hR : 0 + 1 ≤ R.frames ∧ 8 + (4 + 11) + 0 ≤ R.locals) : CallB R s args R_Table 29 y_Arrays_fill b_Arrays_fill 4 none (Cond.code y_Arrays_fill b_Arrays_fill 4 none :: TB) (rmX 0 0) 0 0 2 ∧ (Cond.static y_Arrays_fill).before args s = true := ⟨x_B hts hR mc_Arrays_fill mi_Arrays ml_Table_fill (by decide +kernel), hts _ ms_Arrays_fill⟩
