theorem d_law_0 : decode code 0 = .ok (.new 7, 3) := by decide +kernel
theorem d_law_3 : decode code 3 = .ok (.dup, 1) := by decide +kernel
theorem d_law_4 : decode code 4 = .ok (.invokespecial 9, 3) := by decide +kernel
theorem d_law_7 : decode code 7 = .ok (.astore_n 1, 1) := by decide +kernel
theorem d_law_8 : decode code 8 = .ok (.new 10, 3) := by decide +kernel
theorem d_law_11 : decode code 11 = .ok (.dup, 1) := by decide +kernel
theorem d_law_12 : decode code 12 = .ok (.invokespecial 12, 3) := by decide +kernel
theorem d_law_15 : decode code 15 = .ok (.astore_n 2, 1) := by decide +kernel
theorem d_law_16 : decode code 16 = .ok (.iconst 0, 1) := by decide +kernel
theorem d_law_17 : decode code 17 = .ok (.istore_n 3, 1) := by decide +kernel
theorem d_law_18 : decode code 18 = .ok (.iload_n 3, 1) := by decide +kernel
theorem d_law_19 : decode code 19 = .ok (.aload_n 0, 1) := by decide +kernel
theorem d_law_20 : decode code 20 = .ok (.arraylength, 1) := by decide +kernel
theorem d_law_21 : decode code 21 = .ok (.iconst 3, 1) := by decide +kernel
theorem d_law_22 : decode code 22 = .ok (.isub, 1) := by decide +kernel
theorem d_law_23 : decode code 23 = .ok (.if_icmp .gt 286, 3) := by decide +kernel
theorem d_law_26 : decode code 26 = .ok (.aload_n 0, 1) := by decide +kernel
theorem d_law_27 : decode code 27 = .ok (.iload_n 3, 1) := by decide +kernel
theorem d_law_28 : decode code 28 = .ok (.iaload, 1) := by decide +kernel
theorem d_law_29 : decode code 29 = .ok (.bipush 15, 2) := by decide +kernel
theorem d_law_31 : decode code 31 = .ok (.iand, 1) := by decide +kernel
theorem d_law_32 : decode code 32 = .ok (.tableswitch 271 0 10 #[60, 83, 96, 109, 132, 165, 188, 201, 224, 237, 260], 60) := by decide +kernel
theorem d_law_92 : decode code 92 = .ok (.aload_n 1, 1) := by decide +kernel
theorem d_law_93 : decode code 93 = .ok (.aload_n 0, 1) := by decide +kernel
theorem d_law_94 : decode code 94 = .ok (.iload_n 3, 1) := by decide +kernel
theorem d_law_95 : decode code 95 = .ok (.iconst 1, 1) := by decide +kernel
theorem d_law_96 : decode code 96 = .ok (.iadd, 1) := by decide +kernel
theorem d_law_97 : decode code 97 = .ok (.iaload, 1) := by decide +kernel
theorem d_law_98 : decode code 98 = .ok (.invokevirtual 13, 3) := by decide +kernel
theorem d_law_101 : decode code 101 = .ok (.aload_n 2, 1) := by decide +kernel
theorem d_law_102 : decode code 102 = .ok (.aload_n 0, 1) := by decide +kernel
theorem d_law_103 : decode code 103 = .ok (.iload_n 3, 1) := by decide +kernel
theorem d_law_104 : decode code 104 = .ok (.iconst 1, 1) := by decide +kernel
theorem d_law_105 : decode code 105 = .ok (.iadd, 1) := by decide +kernel
theorem d_law_106 : decode code 106 = .ok (.iaload, 1) := by decide +kernel
theorem d_law_107 : decode code 107 = .ok (.invokevirtual 17, 3) := by decide +kernel
theorem d_law_110 : decode code 110 = .ok (.if_icmp .eq 193, 3) := by decide +kernel
theorem d_law_113 : decode code 113 = .ok (.iconst 0, 1) := by decide +kernel
theorem d_law_114 : decode code 114 = .ok (.ireturn, 1) := by decide +kernel
theorem d_law_115 : decode code 115 = .ok (.aload_n 1, 1) := by decide +kernel
theorem d_law_116 : decode code 116 = .ok (.invokevirtual 18, 3) := by decide +kernel
theorem d_law_119 : decode code 119 = .ok (.aload_n 2, 1) := by decide +kernel
theorem d_law_120 : decode code 120 = .ok (.invokevirtual 22, 3) := by decide +kernel
theorem d_law_123 : decode code 123 = .ok (.if_icmp .eq 180, 3) := by decide +kernel
theorem d_law_126 : decode code 126 = .ok (.iconst 0, 1) := by decide +kernel
theorem d_law_127 : decode code 127 = .ok (.ireturn, 1) := by decide +kernel
theorem d_law_128 : decode code 128 = .ok (.aload_n 1, 1) := by decide +kernel
theorem d_law_129 : decode code 129 = .ok (.invokevirtual 23, 3) := by decide +kernel
theorem d_law_132 : decode code 132 = .ok (.aload_n 2, 1) := by decide +kernel
theorem d_law_133 : decode code 133 = .ok (.invokevirtual 26, 3) := by decide +kernel
theorem d_law_136 : decode code 136 = .ok (.if_icmp .eq 167, 3) := by decide +kernel
theorem d_law_139 : decode code 139 = .ok (.iconst 0, 1) := by decide +kernel
theorem d_law_140 : decode code 140 = .ok (.ireturn, 1) := by decide +kernel
theorem d_law_141 : decode code 141 = .ok (.aload_n 1, 1) := by decide +kernel
theorem d_law_142 : decode code 142 = .ok (.aload_n 0, 1) := by decide +kernel
theorem d_law_143 : decode code 143 = .ok (.iload_n 3, 1) := by decide +kernel
theorem d_law_144 : decode code 144 = .ok (.iconst 1, 1) := by decide +kernel
theorem d_law_145 : decode code 145 = .ok (.iadd, 1) := by decide +kernel
theorem d_law_146 : decode code 146 = .ok (.iaload, 1) := by decide +kernel
theorem d_law_147 : decode code 147 = .ok (.invokevirtual 27, 3) := by decide +kernel
theorem d_law_150 : decode code 150 = .ok (.aload_n 2, 1) := by decide +kernel
theorem d_law_151 : decode code 151 = .ok (.aload_n 0, 1) := by decide +kernel
theorem d_law_152 : decode code 152 = .ok (.iload_n 3, 1) := by decide +kernel
theorem d_law_153 : decode code 153 = .ok (.iconst 1, 1) := by decide +kernel
theorem d_law_154 : decode code 154 = .ok (.iadd, 1) := by decide +kernel
theorem d_law_155 : decode code 155 = .ok (.iaload, 1) := by decide +kernel
theorem d_law_156 : decode code 156 = .ok (.invokevirtual 30, 3) := by decide +kernel
theorem d_law_159 : decode code 159 = .ok (.if_icmp .eq 144, 3) := by decide +kernel
theorem d_law_162 : decode code 162 = .ok (.iconst 0, 1) := by decide +kernel
theorem d_law_163 : decode code 163 = .ok (.ireturn, 1) := by decide +kernel
theorem d_law_164 : decode code 164 = .ok (.aload_n 1, 1) := by decide +kernel
theorem d_law_165 : decode code 165 = .ok (.aload_n 0, 1) := by decide +kernel
theorem d_law_166 : decode code 166 = .ok (.iload_n 3, 1) := by decide +kernel
theorem d_law_167 : decode code 167 = .ok (.iconst 1, 1) := by decide +kernel
theorem d_law_168 : decode code 168 = .ok (.iadd, 1) := by decide +kernel
theorem d_law_169 : decode code 169 = .ok (.iaload, 1) := by decide +kernel
theorem d_law_170 : decode code 170 = .ok (.aload_n 0, 1) := by decide +kernel
theorem d_law_171 : decode code 171 = .ok (.iload_n 3, 1) := by decide +kernel
theorem d_law_172 : decode code 172 = .ok (.iconst 2, 1) := by decide +kernel
theorem d_law_173 : decode code 173 = .ok (.iadd, 1) := by decide +kernel
theorem d_law_174 : decode code 174 = .ok (.iaload, 1) := by decide +kernel
theorem d_law_175 : decode code 175 = .ok (.invokevirtual 31, 3) := by decide +kernel
theorem d_law_178 : decode code 178 = .ok (.aload_n 2, 1) := by decide +kernel
theorem d_law_179 : decode code 179 = .ok (.aload_n 0, 1) := by decide +kernel
theorem d_law_180 : decode code 180 = .ok (.iload_n 3, 1) := by decide +kernel
theorem d_law_181 : decode code 181 = .ok (.iconst 1, 1) := by decide +kernel
theorem d_law_182 : decode code 182 = .ok (.iadd, 1) := by decide +kernel
theorem d_law_183 : decode code 183 = .ok (.iaload, 1) := by decide +kernel
theorem d_law_184 : decode code 184 = .ok (.aload_n 0, 1) := by decide +kernel
theorem d_law_185 : decode code 185 = .ok (.iload_n 3, 1) := by decide +kernel
theorem d_law_186 : decode code 186 = .ok (.iconst 2, 1) := by decide +kernel
theorem d_law_187 : decode code 187 = .ok (.iadd, 1) := by decide +kernel
theorem d_law_188 : decode code 188 = .ok (.iaload, 1) := by decide +kernel
theorem d_law_189 : decode code 189 = .ok (.invokevirtual 35, 3) := by decide +kernel
theorem d_law_192 : decode code 192 = .ok (.if_icmp .eq 111, 3) := by decide +kernel
theorem d_law_195 : decode code 195 = .ok (.iconst 0, 1) := by decide +kernel
theorem d_law_196 : decode code 196 = .ok (.ireturn, 1) := by decide +kernel
theorem d_law_197 : decode code 197 = .ok (.aload_n 1, 1) := by decide +kernel
theorem d_law_198 : decode code 198 = .ok (.aload_n 0, 1) := by decide +kernel
theorem d_law_199 : decode code 199 = .ok (.iload_n 3, 1) := by decide +kernel
theorem d_law_200 : decode code 200 = .ok (.iconst 1, 1) := by decide +kernel
theorem d_law_201 : decode code 201 = .ok (.iadd, 1) := by decide +kernel
theorem d_law_202 : decode code 202 = .ok (.iaload, 1) := by decide +kernel
theorem d_law_203 : decode code 203 = .ok (.invokevirtual 36, 3) := by decide +kernel
theorem d_law_206 : decode code 206 = .ok (.aload_n 2, 1) := by decide +kernel
theorem d_law_207 : decode code 207 = .ok (.aload_n 0, 1) := by decide +kernel
theorem d_law_208 : decode code 208 = .ok (.iload_n 3, 1) := by decide +kernel
theorem d_law_209 : decode code 209 = .ok (.iconst 1, 1) := by decide +kernel
theorem d_law_210 : decode code 210 = .ok (.iadd, 1) := by decide +kernel
theorem d_law_211 : decode code 211 = .ok (.iaload, 1) := by decide +kernel
theorem d_law_212 : decode code 212 = .ok (.invokevirtual 40, 3) := by decide +kernel
theorem d_law_215 : decode code 215 = .ok (.if_icmp .eq 88, 3) := by decide +kernel
theorem d_law_218 : decode code 218 = .ok (.iconst 0, 1) := by decide +kernel
theorem d_law_219 : decode code 219 = .ok (.ireturn, 1) := by decide +kernel
theorem d_law_220 : decode code 220 = .ok (.aload_n 1, 1) := by decide +kernel
theorem d_law_221 : decode code 221 = .ok (.invokevirtual 41, 3) := by decide +kernel
theorem d_law_224 : decode code 224 = .ok (.aload_n 2, 1) := by decide +kernel
theorem d_law_225 : decode code 225 = .ok (.invokevirtual 44, 3) := by decide +kernel
theorem d_law_228 : decode code 228 = .ok (.if_icmp .eq 75, 3) := by decide +kernel
theorem d_law_231 : decode code 231 = .ok (.iconst 0, 1) := by decide +kernel
theorem d_law_232 : decode code 232 = .ok (.ireturn, 1) := by decide +kernel
theorem d_law_233 : decode code 233 = .ok (.aload_n 1, 1) := by decide +kernel
theorem d_law_234 : decode code 234 = .ok (.aload_n 0, 1) := by decide +kernel
theorem d_law_235 : decode code 235 = .ok (.iload_n 3, 1) := by decide +kernel
theorem d_law_236 : decode code 236 = .ok (.iconst 1, 1) := by decide +kernel
theorem d_law_237 : decode code 237 = .ok (.iadd, 1) := by decide +kernel
theorem d_law_238 : decode code 238 = .ok (.iaload, 1) := by decide +kernel
theorem d_law_239 : decode code 239 = .ok (.invokevirtual 45, 3) := by decide +kernel
theorem d_law_242 : decode code 242 = .ok (.aload_n 2, 1) := by decide +kernel
theorem d_law_243 : decode code 243 = .ok (.aload_n 0, 1) := by decide +kernel
theorem d_law_244 : decode code 244 = .ok (.iload_n 3, 1) := by decide +kernel
theorem d_law_245 : decode code 245 = .ok (.iconst 1, 1) := by decide +kernel
theorem d_law_246 : decode code 246 = .ok (.iadd, 1) := by decide +kernel
theorem d_law_247 : decode code 247 = .ok (.iaload, 1) := by decide +kernel
theorem d_law_248 : decode code 248 = .ok (.invokevirtual 48, 3) := by decide +kernel
theorem d_law_251 : decode code 251 = .ok (.if_icmp .eq 52, 3) := by decide +kernel
theorem d_law_254 : decode code 254 = .ok (.iconst 0, 1) := by decide +kernel
theorem d_law_255 : decode code 255 = .ok (.ireturn, 1) := by decide +kernel
theorem d_law_256 : decode code 256 = .ok (.aload_n 1, 1) := by decide +kernel
theorem d_law_257 : decode code 257 = .ok (.invokevirtual 49, 3) := by decide +kernel
theorem d_law_260 : decode code 260 = .ok (.aload_n 2, 1) := by decide +kernel
theorem d_law_261 : decode code 261 = .ok (.invokevirtual 52, 3) := by decide +kernel
theorem d_law_264 : decode code 264 = .ok (.if_icmp .eq 39, 3) := by decide +kernel
theorem d_law_267 : decode code 267 = .ok (.iconst 0, 1) := by decide +kernel
theorem d_law_268 : decode code 268 = .ok (.ireturn, 1) := by decide +kernel
theorem d_law_269 : decode code 269 = .ok (.aload_n 1, 1) := by decide +kernel
theorem d_law_270 : decode code 270 = .ok (.aload_n 0, 1) := by decide +kernel
theorem d_law_271 : decode code 271 = .ok (.iload_n 3, 1) := by decide +kernel
theorem d_law_272 : decode code 272 = .ok (.iconst 1, 1) := by decide +kernel
theorem d_law_273 : decode code 273 = .ok (.iadd, 1) := by decide +kernel
theorem d_law_274 : decode code 274 = .ok (.iaload, 1) := by decide +kernel
theorem d_law_275 : decode code 275 = .ok (.invokevirtual 53, 3) := by decide +kernel
theorem d_law_278 : decode code 278 = .ok (.aload_n 2, 1) := by decide +kernel
theorem d_law_279 : decode code 279 = .ok (.aload_n 0, 1) := by decide +kernel
theorem d_law_280 : decode code 280 = .ok (.iload_n 3, 1) := by decide +kernel
theorem d_law_281 : decode code 281 = .ok (.iconst 1, 1) := by decide +kernel
theorem d_law_282 : decode code 282 = .ok (.iadd, 1) := by decide +kernel
theorem d_law_283 : decode code 283 = .ok (.iaload, 1) := by decide +kernel
theorem d_law_284 : decode code 284 = .ok (.invokevirtual 56, 3) := by decide +kernel
theorem d_law_287 : decode code 287 = .ok (.if_icmp .eq 16, 3) := by decide +kernel
theorem d_law_290 : decode code 290 = .ok (.iconst 0, 1) := by decide +kernel
theorem d_law_291 : decode code 291 = .ok (.ireturn, 1) := by decide +kernel
theorem d_law_292 : decode code 292 = .ok (.aload_n 1, 1) := by decide +kernel
theorem d_law_293 : decode code 293 = .ok (.invokevirtual 57, 3) := by decide +kernel
theorem d_law_296 : decode code 296 = .ok (.aload_n 2, 1) := by decide +kernel
theorem d_law_297 : decode code 297 = .ok (.invokevirtual 60, 3) := by decide +kernel
theorem d_law_300 : decode code 300 = .ok (.goto 3, 3) := by decide +kernel
theorem d_law_303 : decode code 303 = .ok (.iinc 3 3, 3) := by decide +kernel
theorem d_law_306 : decode code 306 = .ok (.goto (-288), 3) := by decide +kernel
theorem d_law_309 : decode code 309 = .ok (.iconst 1, 1) := by decide +kernel
theorem d_law_310 : decode code 310 = .ok (.ireturn, 1) := by decide +kernel
def Sim_feed (I : St → SM → Prop) : Prop := ∀ (s : St) (t : SM) (x : Int32), I s t → ∃ (r : Int32) (s1 : St) (t1 : SM), f_X_feed x s = some (r, s1) ∧ f_M_feed x t = some (r, t1) ∧ I s1 t1
def Sim_load (I : St → SM → Prop) : Prop := ∀ (s : St) (t : SM), I s t → ∃ (r : Int32) (s1 : St) (t1 : SM), f_X_load s = some (r, s1) ∧ f_M_load t = some (r, t1) ∧ I s1 t1
def Sim_compile (I : St → SM → Prop) : Prop := ∀ (s : St) (t : SM), I s t → ∃ (r : Int32) (s1 : St) (t1 : SM), f_X_compile s = some (r, s1) ∧ f_M_compile t = some (r, t1) ∧ I s1 t1
def Sim_arg (I : St → SM → Prop) : Prop := ∀ (s : St) (t : SM) (x : Int32), I s t → ∃ (r : Int32) (s1 : St) (t1 : SM), f_X_arg x s = some (r, s1) ∧ f_M_arg x t = some (r, t1) ∧ I s1 t1
def Sim_start (I : St → SM → Prop) : Prop := ∀ (s : St) (t : SM) (x y : Int32), I s t → ∃ (r : Int32) (s1 : St) (t1 : SM), (f_X_start_6 x y s = some (r, s1) ∨ f_X_start_7 x y s = some (r, s1)) ∧ f_M_start x y t = some (r, t1) ∧ I s1 t1
def Sim_run (I : St → SM → Prop) : Prop := ∀ (s : St) (t : SM) (x : Int32), I s t → ∃ (r : Int32) (s1 : St) (t1 : SM), (f_X_run_6 x s = some (r, s1) ∨ f_X_run_7 x s = some (r, s1)) ∧ f_M_run x t = some (r, t1) ∧ I s1 t1
def Sim_result (I : St → SM → Prop) : Prop := ∀ (s : St) (t : SM), I s t → ∃ (r : Int32) (t1 : SM), f_X_result s = some r ∧ f_M_result t = some (r, t1) ∧ I s t1
def Sim_peekMem (I : St → SM → Prop) : Prop := ∀ (s : St) (t : SM) (x : Int32), I s t → ∃ (r : Int32) (t1 : SM), f_X_peekMem s x = some r ∧ f_M_peekMem x t = some (r, t1) ∧ I s t1
def Sim_rcodeLen (I : St → SM → Prop) : Prop := ∀ (s : St) (t : SM), I s t → ∃ (r : Int32) (t1 : SM), f_X_rcodeLen s = some r ∧ f_M_rcodeLen t = some (r, t1) ∧ I s t1
def Sim_rcode (I : St → SM → Prop) : Prop := ∀ (s : St) (t : SM) (x : Int32), I s t → ∃ (r : Int32) (t1 : SM), f_X_rcode s x = some r ∧ f_M_rcode x t = some (r, t1) ∧ I s t1
def Sim_reset (I : St → SM → Prop) : Prop := ∀ (s : St) (t : SM), I s t → ∃ (s1 : St) (t1 : SM), f_X_reset s = some s1 ∧ f_M_reset t = some t1 ∧ I s1 t1
def Sim (I : St → SM → Prop) : Prop := Sim_feed I ∧ Sim_load I ∧ Sim_compile I ∧ Sim_arg I ∧ Sim_start I ∧ Sim_run I ∧ Sim_result I ∧ Sim_peekMem I ∧ Sim_rcodeLen I ∧ Sim_rcode I ∧ Sim_reset I
theorem mn_X_feed : Cond.instanceMethod y_X_feed ∈ TB := tb 506 (by decide +kernel) rfl
theorem ml_law_13 : Cond.methodLink "WasmMachineLaw" 13 y_X_feed ∈ TB := tb 505 (by decide +kernel) rfl
theorem me_X_X_feed : Cond.selects R_X y_X_feed y_X_feed ∈ TB := tb 507 (by decide +kernel) rfl
theorem cw_law_13 {s : State} {args : Array Value} (hts : ∀ w ∈ TB, w.before args s = true) : CallW room_1 s args R_law R_X 13 y_X_feed b_X_feed 2 (some .boolean) (Cond.code y_X_feed b_X_feed 2 (some .boolean) :: TB) (rmX 1 21) 0 0 1 := x_V hts ⟨by decide, by decide⟩ mc_X_feed mi_X ml_law_13 (by decide +kernel) mn_X_feed me_X_X_feed
theorem mn_M_feed : Cond.instanceMethod y_M_feed ∈ TB := tb 1358 (by decide +kernel) rfl
theorem ml_law_17 : Cond.methodLink "WasmMachineLaw" 17 y_M_feed ∈ TB := tb 1357 (by decide +kernel) rfl
theorem me_M_M_feed : Cond.selects R_M y_M_feed y_M_feed ∈ TB := tb 1359 (by decide +kernel) rfl
theorem cw_law_17 {s : State} {args : Array Value} (hts : ∀ w ∈ TB, w.before args s = true) : CallW room_1 s args R_law R_M 17 y_M_feed b_M_feed 2 (some .boolean) (Cond.code y_M_feed b_M_feed 2 (some .boolean) :: TB) (rmX 0 0) 0 0 1 := x_V hts ⟨by decide, by decide⟩ mc_M_feed mi_M ml_law_17 (by decide +kernel) mn_M_feed me_M_M_feed
theorem mn_X_load : Cond.instanceMethod y_X_load ∈ TB := tb 514 (by decide +kernel) rfl
theorem ml_law_18 : Cond.methodLink "WasmMachineLaw" 18 y_X_load ∈ TB := tb 513 (by decide +kernel) rfl
theorem me_X_X_load : Cond.selects R_X y_X_load y_X_load ∈ TB := tb 515 (by decide +kernel) rfl
theorem cw_law_18 {s : State} {args : Array Value} (hts : ∀ w ∈ TB, w.before args s = true) : CallW room_1 s args R_law R_X 18 y_X_load b_X_load 2 (some .int) (Cond.code y_X_load b_X_load 2 (some .int) :: TB) (rmX 7 165) 0 0 0 := x_V hts ⟨by decide, by decide⟩ mc_X_load mi_X ml_law_18 (by decide +kernel) mn_X_load me_X_X_load
theorem mn_M_load : Cond.instanceMethod y_M_load ∈ TB := tb 1362 (by decide +kernel) rfl
theorem ml_law_22 : Cond.methodLink "WasmMachineLaw" 22 y_M_load ∈ TB := tb 1361 (by decide +kernel) rfl
theorem me_M_M_load : Cond.selects R_M y_M_load y_M_load ∈ TB := tb 1363 (by decide +kernel) rfl
theorem cw_law_22 {s : State} {args : Array Value} (hts : ∀ w ∈ TB, w.before args s = true) : CallW room_1 s args R_law R_M 22 y_M_load b_M_load 3 (some .int) (Cond.code y_M_load b_M_load 3 (some .int) :: TB) (rmX 9 209) 0 0 0 := x_V hts ⟨by decide, by decide⟩ mc_M_load mi_M ml_law_22 (by decide +kernel) mn_M_load me_M_M_load
theorem mn_X_compile : Cond.instanceMethod y_X_compile ∈ TB := tb 828 (by decide +kernel) rfl
theorem ml_law_23 : Cond.methodLink "WasmMachineLaw" 23 y_X_compile ∈ TB := tb 827 (by decide +kernel) rfl
theorem me_X_X_compile : Cond.selects R_X y_X_compile y_X_compile ∈ TB := tb 829 (by decide +kernel) rfl
theorem cw_law_23 {s : State} {args : Array Value} (hts : ∀ w ∈ TB, w.before args s = true) : CallW room_1 s args R_law R_X 23 y_X_compile b_X_compile 1 (some .int) (Cond.code y_X_compile b_X_compile 1 (some .int) :: TB) (rmX 7 166) 0 0 0 := x_V hts ⟨by decide, by decide⟩ mc_X_compile mi_X ml_law_23 (by decide +kernel) mn_X_compile me_X_X_compile
theorem mn_M_compile : Cond.instanceMethod y_M_compile ∈ TB := tb 1605 (by decide +kernel) rfl
theorem ml_law_26 : Cond.methodLink "WasmMachineLaw" 26 y_M_compile ∈ TB := tb 1604 (by decide +kernel) rfl
theorem me_M_M_compile : Cond.selects R_M y_M_compile y_M_compile ∈ TB := tb 1606 (by decide +kernel) rfl
theorem cw_law_26 {s : State} {args : Array Value} (hts : ∀ w ∈ TB, w.before args s = true) : CallW room_1 s args R_law R_M 26 y_M_compile b_M_compile 5 (some .int) (Cond.code y_M_compile b_M_compile 5 (some .int) :: TB) (rmX 4 95) 0 0 0 := x_V hts ⟨by decide, by decide⟩ mc_M_compile mi_M ml_law_26 (by decide +kernel) mn_M_compile me_M_M_compile
theorem mn_X_arg : Cond.instanceMethod y_X_arg ∈ TB := tb 894 (by decide +kernel) rfl
theorem ml_law_27 : Cond.methodLink "WasmMachineLaw" 27 y_X_arg ∈ TB := tb 893 (by decide +kernel) rfl
theorem me_X_X_arg : Cond.selects R_X y_X_arg y_X_arg ∈ TB := tb 895 (by decide +kernel) rfl
theorem cw_law_27 {s : State} {args : Array Value} (hts : ∀ w ∈ TB, w.before args s = true) : CallW room_1 s args R_law R_X 27 y_X_arg b_X_arg 2 (some .boolean) (Cond.code y_X_arg b_X_arg 2 (some .boolean) :: TB) (rmX 1 22) 0 0 1 := x_V hts ⟨by decide, by decide⟩ mc_X_arg mi_X ml_law_27 (by decide +kernel) mn_X_arg me_X_X_arg
theorem mn_M_arg : Cond.instanceMethod y_M_arg ∈ TB := tb 1527 (by decide +kernel) rfl
theorem ml_law_30 : Cond.methodLink "WasmMachineLaw" 30 y_M_arg ∈ TB := tb 1526 (by decide +kernel) rfl
theorem me_M_M_arg : Cond.selects R_M y_M_arg y_M_arg ∈ TB := tb 1528 (by decide +kernel) rfl
theorem cw_law_30 {s : State} {args : Array Value} (hts : ∀ w ∈ TB, w.before args s = true) : CallW room_1 s args R_law R_M 30 y_M_arg b_M_arg 2 (some .boolean) (Cond.code y_M_arg b_M_arg 2 (some .boolean) :: TB) (rmX 0 0) 0 0 1 := x_V hts ⟨by decide, by decide⟩ mc_M_arg mi_M ml_law_30 (by decide +kernel) mn_M_arg me_M_M_arg
theorem mn_X_start : Cond.instanceMethod y_X_start ∈ TB := tb 899 (by decide +kernel) rfl
theorem ml_law_31 : Cond.methodLink "WasmMachineLaw" 31 y_X_start ∈ TB := tb 898 (by decide +kernel) rfl
theorem me_X_X_start : Cond.selects R_X y_X_start y_X_start ∈ TB := tb 900 (by decide +kernel) rfl
theorem cw_law_31 {s : State} {args : Array Value} (hts : ∀ w ∈ TB, w.before args s = true) : CallW room_1 s args R_law R_X 31 y_X_start b_X_start 3 (some .int) (Cond.code y_X_start b_X_start 3 (some .int) :: TB) (rmX 3 69) 0 0 2 := x_V hts ⟨by decide, by decide⟩ mc_X_start mi_X ml_law_31 (by decide +kernel) mn_X_start me_X_X_start
theorem cw_law_31_7 {s : State} {args : Array Value} (hts : ∀ w ∈ TB, w.before args s = true) : CallW room_1 s args R_law R_X 31 y_X_start b_X_start 3 (some .int) (Cond.code y_X_start b_X_start 3 (some .int) :: TB) (rmX 4 88) 0 0 2 := x_V hts ⟨by decide, by decide⟩ mc_X_start mi_X ml_law_31 (by decide +kernel) mn_X_start me_X_X_start
theorem mn_M_start : Cond.instanceMethod y_M_start ∈ TB := tb 1531 (by decide +kernel) rfl
theorem ml_law_35 : Cond.methodLink "WasmMachineLaw" 35 y_M_start ∈ TB := tb 1530 (by decide +kernel) rfl
theorem me_M_M_start : Cond.selects R_M y_M_start y_M_start ∈ TB := tb 1532 (by decide +kernel) rfl
theorem cw_law_35 {s : State} {args : Array Value} (hts : ∀ w ∈ TB, w.before args s = true) : CallW room_1 s args R_law R_M 35 y_M_start b_M_start 4 (some .int) (Cond.code y_M_start b_M_start 4 (some .int) :: TB) (rmX 2 43) 0 0 2 := x_V hts ⟨by decide, by decide⟩ mc_M_start mi_M ml_law_35 (by decide +kernel) mn_M_start me_M_M_start
theorem mn_X_run : Cond.instanceMethod y_X_run ∈ TB := tb 935 (by decide +kernel) rfl
theorem ml_law_36 : Cond.methodLink "WasmMachineLaw" 36 y_X_run ∈ TB := tb 934 (by decide +kernel) rfl
theorem me_X_X_run : Cond.selects R_X y_X_run y_X_run ∈ TB := tb 936 (by decide +kernel) rfl
theorem cw_law_36 {s : State} {args : Array Value} (hts : ∀ w ∈ TB, w.before args s = true) : CallW room_1 s args R_law R_X 36 y_X_run b_X_run 4 (some .int) (Cond.code y_X_run b_X_run 4 (some .int) :: TB) (rmX 7 159) 0 0 1 := x_V hts ⟨by decide, by decide⟩ mc_X_run mi_X ml_law_36 (by decide +kernel) mn_X_run me_X_X_run
theorem cw_law_36_7 {s : State} {args : Array Value} (hts : ∀ w ∈ TB, w.before args s = true) : CallW room_1 s args R_law R_X 36 y_X_run b_X_run 4 (some .int) (Cond.code y_X_run b_X_run 4 (some .int) :: TB) (rmX 7 158) 0 0 1 := x_V hts ⟨by decide, by decide⟩ mc_X_run mi_X ml_law_36 (by decide +kernel) mn_X_run me_X_X_run
theorem mn_M_run : Cond.instanceMethod y_M_run ∈ TB := tb 1539 (by decide +kernel) rfl
theorem ml_law_40 : Cond.methodLink "WasmMachineLaw" 40 y_M_run ∈ TB := tb 1538 (by decide +kernel) rfl
theorem me_M_M_run : Cond.selects R_M y_M_run y_M_run ∈ TB := tb 1540 (by decide +kernel) rfl
theorem cw_law_40 {s : State} {args : Array Value} (hts : ∀ w ∈ TB, w.before args s = true) : CallW room_1 s args R_law R_M 40 y_M_run b_M_run 5 (some .int) (Cond.code y_M_run b_M_run 5 (some .int) :: TB) (rmX 5 120) 0 0 1 := x_V hts ⟨by decide, by decide⟩ mc_M_run mi_M ml_law_40 (by decide +kernel) mn_M_run me_M_M_run
theorem mn_X_result : Cond.instanceMethod y_X_result ∈ TB := tb 1123 (by decide +kernel) rfl
theorem ml_law_41 : Cond.methodLink "WasmMachineLaw" 41 y_X_result ∈ TB := tb 1122 (by decide +kernel) rfl
theorem me_X_X_result : Cond.selects R_X y_X_result y_X_result ∈ TB := tb 1124 (by decide +kernel) rfl
theorem cw_law_41 {s : State} {args : Array Value} (hts : ∀ w ∈ TB, w.before args s = true) : CallW room_1 s args R_law R_X 41 y_X_result b_X_result 1 (some .int) (Cond.code y_X_result b_X_result 1 (some .int) :: TB) (rmX 0 0) 0 0 0 := x_V hts ⟨by decide, by decide⟩ mc_X_result mi_X ml_law_41 (by decide +kernel) mn_X_result me_X_X_result
theorem mn_M_result : Cond.instanceMethod y_M_result ∈ TB := tb 1597 (by decide +kernel) rfl
theorem ml_law_44 : Cond.methodLink "WasmMachineLaw" 44 y_M_result ∈ TB := tb 1596 (by decide +kernel) rfl
theorem me_M_M_result : Cond.selects R_M y_M_result y_M_result ∈ TB := tb 1598 (by decide +kernel) rfl
theorem cw_law_44 {s : State} {args : Array Value} (hts : ∀ w ∈ TB, w.before args s = true) : CallW room_1 s args R_law R_M 44 y_M_result b_M_result 1 (some .int) (Cond.code y_M_result b_M_result 1 (some .int) :: TB) (rmX 0 0) 0 0 0 := x_V hts ⟨by decide, by decide⟩ mc_M_result mi_M ml_law_44 (by decide +kernel) mn_M_result me_M_M_result
theorem mn_X_peekMem : Cond.instanceMethod y_X_peekMem ∈ TB := tb 1127 (by decide +kernel) rfl
theorem ml_law_45 : Cond.methodLink "WasmMachineLaw" 45 y_X_peekMem ∈ TB := tb 1126 (by decide +kernel) rfl
theorem me_X_X_peekMem : Cond.selects R_X y_X_peekMem y_X_peekMem ∈ TB := tb 1128 (by decide +kernel) rfl
theorem cw_law_45 {s : State} {args : Array Value} (hts : ∀ w ∈ TB, w.before args s = true) : CallW room_1 s args R_law R_X 45 y_X_peekMem b_X_peekMem 2 (some .int) (Cond.code y_X_peekMem b_X_peekMem 2 (some .int) :: TB) (rmX 1 21) 0 0 1 := x_V hts ⟨by decide, by decide⟩ mc_X_peekMem mi_X ml_law_45 (by decide +kernel) mn_X_peekMem me_X_X_peekMem
theorem mn_M_peekMem : Cond.instanceMethod y_M_peekMem ∈ TB := tb 1601 (by decide +kernel) rfl
theorem ml_law_48 : Cond.methodLink "WasmMachineLaw" 48 y_M_peekMem ∈ TB := tb 1600 (by decide +kernel) rfl
theorem me_M_M_peekMem : Cond.selects R_M y_M_peekMem y_M_peekMem ∈ TB := tb 1602 (by decide +kernel) rfl
theorem cw_law_48 {s : State} {args : Array Value} (hts : ∀ w ∈ TB, w.before args s = true) : CallW room_1 s args R_law R_M 48 y_M_peekMem b_M_peekMem 2 (some .int) (Cond.code y_M_peekMem b_M_peekMem 2 (some .int) :: TB) (rmX 0 0) 0 0 1 := x_V hts ⟨by decide, by decide⟩ mc_M_peekMem mi_M ml_law_48 (by decide +kernel) mn_M_peekMem me_M_M_peekMem
theorem ml_law_49 : Cond.methodLink "WasmMachineLaw" 49 y_X_rcodeLen ∈ TB := tb 1131 (by decide +kernel) rfl
theorem cw_law_49 {s : State} {args : Array Value} (hts : ∀ w ∈ TB, w.before args s = true) : CallW room_1 s args R_law R_X 49 y_X_rcodeLen b_X_rcodeLen 1 (some .int) (Cond.code y_X_rcodeLen b_X_rcodeLen 1 (some .int) :: TB) (rmX 1 20) 0 0 0 := x_V hts ⟨by decide, by decide⟩ mc_X_rcodeLen mi_X ml_law_49 (by decide +kernel) mn_X_rcodeLen me_X_X_rcodeLen
theorem mn_M_rcodeLen : Cond.instanceMethod y_M_rcodeLen ∈ TB := tb 1637 (by decide +kernel) rfl
theorem ml_law_52 : Cond.methodLink "WasmMachineLaw" 52 y_M_rcodeLen ∈ TB := tb 1636 (by decide +kernel) rfl
theorem me_M_M_rcodeLen : Cond.selects R_M y_M_rcodeLen y_M_rcodeLen ∈ TB := tb 1638 (by decide +kernel) rfl
theorem cw_law_52 {s : State} {args : Array Value} (hts : ∀ w ∈ TB, w.before args s = true) : CallW room_1 s args R_law R_M 52 y_M_rcodeLen b_M_rcodeLen 1 (some .int) (Cond.code y_M_rcodeLen b_M_rcodeLen 1 (some .int) :: TB) (rmX 0 0) 0 0 0 := x_V hts ⟨by decide, by decide⟩ mc_M_rcodeLen mi_M ml_law_52 (by decide +kernel) mn_M_rcodeLen me_M_M_rcodeLen
theorem mn_X_rcode : Cond.instanceMethod y_X_rcode ∈ TB := tb 1140 (by decide +kernel) rfl
theorem ml_law_53 : Cond.methodLink "WasmMachineLaw" 53 y_X_rcode ∈ TB := tb 1139 (by decide +kernel) rfl
theorem me_X_X_rcode : Cond.selects R_X y_X_rcode y_X_rcode ∈ TB := tb 1141 (by decide +kernel) rfl
theorem cw_law_53 {s : State} {args : Array Value} (hts : ∀ w ∈ TB, w.before args s = true) : CallW room_1 s args R_law R_X 53 y_X_rcode b_X_rcode 2 (some .int) (Cond.code y_X_rcode b_X_rcode 2 (some .int) :: TB) (rmX 2 40) 0 0 1 := x_V hts ⟨by decide, by decide⟩ mc_X_rcode mi_X ml_law_53 (by decide +kernel) mn_X_rcode me_X_X_rcode
theorem mn_M_rcode : Cond.instanceMethod y_M_rcode ∈ TB := tb 1641 (by decide +kernel) rfl
theorem ml_law_56 : Cond.methodLink "WasmMachineLaw" 56 y_M_rcode ∈ TB := tb 1640 (by decide +kernel) rfl
theorem me_M_M_rcode : Cond.selects R_M y_M_rcode y_M_rcode ∈ TB := tb 1642 (by decide +kernel) rfl
theorem cw_law_56 {s : State} {args : Array Value} (hts : ∀ w ∈ TB, w.before args s = true) : CallW room_1 s args R_law R_M 56 y_M_rcode b_M_rcode 2 (some .int) (Cond.code y_M_rcode b_M_rcode 2 (some .int) :: TB) (rmX 0 0) 0 0 1 := x_V hts ⟨by decide, by decide⟩ mc_M_rcode mi_M ml_law_56 (by decide +kernel) mn_M_rcode me_M_M_rcode
theorem mn_X_reset : Cond.instanceMethod y_X_reset ∈ TB := tb 1145 (by decide +kernel) rfl
theorem ml_law_57 : Cond.methodLink "WasmMachineLaw" 57 y_X_reset ∈ TB := tb 1144 (by decide +kernel) rfl
theorem me_X_X_reset : Cond.selects R_X y_X_reset y_X_reset ∈ TB := tb 1146 (by decide +kernel) rfl
theorem cw_law_57 {s : State} {args : Array Value} (hts : ∀ w ∈ TB, w.before args s = true) : CallW room_1 s args R_law R_X 57 y_X_reset b_X_reset 1 none (Cond.code y_X_reset b_X_reset 1 none :: TB) (rmX 1 20) 0 0 0 := x_V hts ⟨by decide, by decide⟩ mc_X_reset mi_X ml_law_57 (by decide +kernel) mn_X_reset me_X_X_reset
theorem mn_M_reset : Cond.instanceMethod y_M_reset ∈ TB := tb 1354 (by decide +kernel) rfl
theorem ml_law_60 : Cond.methodLink "WasmMachineLaw" 60 y_M_reset ∈ TB := tb 1353 (by decide +kernel) rfl
theorem me_M_M_reset : Cond.selects R_M y_M_reset y_M_reset ∈ TB := tb 1355 (by decide +kernel) rfl
theorem cw_law_60 {s : State} {args : Array Value} (hts : ∀ w ∈ TB, w.before args s = true) : CallW room_1 s args R_law R_M 60 y_M_reset b_M_reset 1 none (Cond.code y_M_reset b_M_reset 1 none :: TB) (rmX 0 0) 0 0 0 := x_V hts ⟨by decide, by decide⟩ mc_M_reset mi_M ml_law_60 (by decide +kernel) mn_M_reset me_M_M_reset
