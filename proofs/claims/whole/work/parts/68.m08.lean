-- M_remember
def f_M_remember_236 (x1 : Int32) (x2 : Int32) (s : SM) : Option (Int32 × SM) :=
    lt1 (x1 + 1) fun v1 =>
    gi (s.1 0 22) 9 <|
    lt1 (stI s 33 (Int32.toNatClampNeg (s.1 0 22)) v1) fun s2 =>
    some (0, s2)
def f_M_remember_186 : Nat → Int32 → Int32 → Int32 → Int32 → Int64 → Int32 → SM → Option (Int32 × SM)
  | 0, _, _, _, _, _, _, _ => none
  | n + 1, x1, x2, x3, x4, x5, x7, s =>
    if x3 ≤ x7 then
      f_M_remember_236 x1 x2 s
    else
      lt1 (Int64.toInt32 x5) fun v1 =>
      lt1 (v1 + x7) fun v2 =>
      lt1 (8 * x7) fun v3 =>
      lt1 (x4 >>> (v3 &&& 31)) fun v4 =>
      lt1 (v4 &&& 255) fun v5 =>
      gi v2 256 <|
      lt1 (stI s 29 (Int32.toNatClampNeg v2) v5) fun s6 =>
      lt1 (x7 + (1)) fun v7 =>
      f_M_remember_186 n x1 x2 x3 x4 x5 v7 s6
def f_M_remember_138 (x1 : Int32) (x2 : Int32) (x3 : Int32) (y0 : Int32) (s : SM) : Option (Int32 × SM) :=
    bd (f_M_pull s) fun r2 s1 =>
    lt1 (Int32.toInt64 r2) fun v3 =>
    lt1 (v3 &&& 4294967295) fun v4 =>
    gi x1 250 <|
    lt1 (s1.2 16 (Int32.toNatClampNeg x1)) fun v5 =>
    lt1 (v4 + v5) fun v6 =>
    lt1 (Int32.toInt64 x3) fun v7 =>
    lt1 (v6 + v7) fun v8 =>
    lt1 (64 * s1.1 0 18) fun v9 =>
    lt1 (Int32.toInt64 v9) fun v10 =>
    lt1 (lg_cmp v8 v10) fun v11 =>
    if v11 ≤ 0 then
      if x2 ≤ 53 then
        lt1 (Int64.toInt32 v6) fun v12 =>
        bd1 (f_M_read s1 x2 v12) fun r13 =>
        bd1 (f_M_give r13 s1) fun s14 =>
        f_M_remember_236 x1 x2 s14
      else
        f_M_remember_186 FU x1 x2 x3 y0 v6 0 s1
    else
      some (5, s1)
def f_M_remember_113 (x1 : Int32) (x2 : Int32) (x3 : Int64) (x5 : Int32) (x6 : Int32) (y1 : Int32) (s : SM) : Option (Int32 × SM) :=
    bd1 (f_M_give y1 s) fun s1 =>
    f_M_remember_236 x1 x2 s1
def f_M_remember_98 (x1 : Int32) (x2 : Int32) (x3 : Int64) (x5 : Int32) (x6 : Int32) (y1 : Int32) (s : SM) : Option (Int32 × SM) :=
    lt1 (stI s 0 18 y1) fun s1 =>
    if x5 = 0 then
      f_M_remember_113 x1 x2 x3 x5 x6 ((-1)) s1
    else
      f_M_remember_113 x1 x2 x3 x5 x6 x6 s1
def f_M_remember_75 (x1 : Int32) (x2 : Int32) (x3 : Int64) (y0 : Int32) (s : SM) : Option (Int32 × SM) :=
    if y0 = 0 then
      f_M_remember_98 x1 x2 x3 y0 (s.1 0 18) (s.1 0 18) s
    else
      lt1 (Int64.toInt32 x3) fun v1 =>
      f_M_remember_98 x1 x2 x3 y0 (s.1 0 18) v1 s
def f_M_remember_74 (x1 : Int32) (x2 : Int32) (x3 : Int64) (s : SM) : Option (Int32 × SM) :=
    f_M_remember_75 x1 x2 x3 0 s
def f_M_remember_70 (x1 : Int32) (x2 : Int32) (x3 : Int64) (s : SM) : Option (Int32 × SM) :=
    f_M_remember_75 x1 x2 x3 1 s
def f_M_remember (x1 : Int32) (s : SM) : Option (Int32 × SM) :=
    gi x1 250 <|
    lt1 (s.1 14 (Int32.toNatClampNeg x1)) fun v1 =>
    if v1 = 63 then
      bd1 (f_M_give (s.1 0 18) s) fun s13 =>
      f_M_remember_236 x1 v1 s13
    else
      if v1 = 64 then
        bd (f_M_pull s) fun r6 s5 =>
        lt1 (Int32.toInt64 r6) fun v7 =>
        lt1 (v7 &&& 4294967295) fun v8 =>
        lt1 (Int32.toInt64 (s5.1 0 18)) fun v9 =>
        lt1 (v8 + v9) fun v10 =>
        lt1 (lg_cmp v10 4) fun v11 =>
        if 0 < v11 then
          f_M_remember_74 x1 v1 v10 s5
        else
          if s5.1 0 10 = 0 then
            f_M_remember_70 x1 v1 v10 s5
          else
            lt1 (lg_cmp v10 (s5.2 0 1)) fun v12 =>
            if 0 < v12 then
              f_M_remember_74 x1 v1 v10 s5
            else
              f_M_remember_70 x1 v1 v10 s5
      else
        bd1 (f_M_width v1) fun r2 =>
        if v1 ≤ 53 then
          f_M_remember_138 x1 v1 r2 0 s
        else
          bd (f_M_pull s) fun r4 s3 =>
          f_M_remember_138 x1 v1 r2 r4 s3
section WALK
variable {p : Program} {l : Launch} {e : Env} {ss : State} {m : MethodId} {args : Array Value} {below : List Frame} {meth : Method} {c : Code} {Q : State → Prop} {g : GX} {A : Nat → Prop}
set_option maxHeartbeats 4000000 in
set_option maxRecDepth 100000 in
theorem w_M_remember_236 {z : Int32 × SM} (C : Cx g A p m c b_M_remember 8 ss args R_M) (hQ : ∀ (pc : Nat) (H : Heap) (locs : List Loc) (ls : Array Slot), XW g A ss (wM g z.2) H locs → decode b_M_remember pc = .ok (.ireturn, 1) → W p l e (rmX 2 44) ss m args below meth c H locs 0 0 Q (F0 m pc ls [.int z.1])) : ∀ (x1 : Int32) (x2 : Int32) (s : SM) (H : Heap) (locs : List Loc) (ls : Array Slot), XW g A ss (wM g s) H locs → lv_has ls 8 [(0, .ref (g.q 60)), (1, .int x1), (2, .int x2)] → f_M_remember_236 x1 x2 s = some z → W p l e (rmX 2 44) ss m args below meth c H locs 0 0 Q (F0 m 236 ls []) := by
  have ⟨⟨hx, hb, hml, hown, hts⟩, hK, hA, hN⟩ := C
  intro x1 x2 s H locs ls hX hl h
  rw [f_M_remember_236] at h
  refine lv_aload_n hx hb d_M_remember_236 rfl (lv_at hl 0 rfl) ?_
  refine gm_place C hX fl_M_108 d_M_remember_237 ?_
  refine lv_aload_n hx hb d_M_remember_240 rfl (lv_at hl 0 rfl) ?_
  refine gm_calls C hX fl_M_340 d_M_remember_241 ?_
  refine lv_iload_n hx hb d_M_remember_244 rfl (lv_at hl 1 rfl) ?_
  refine lv_iconst (v := 1) hx hb d_M_remember_245 (by decide) ?_
  obtain ⟨v1, ev1, h⟩ := lt1_e h
  refine x_iadd hx hb d_M_remember_246 ev1 ?_
  obtain ⟨hz247, h⟩ := gi_e h
  obtain ⟨s2, es2, h⟩ := lt1_e h
  refine asm_33 C hX hz247 d_M_remember_247 (fun H locs hX => ?_)
  rw [← es2] at hX
  refine lv_iconst (v := 0) hx hb d_M_remember_248 (by decide) ?_
  obtain rfl := so1 h
  exact hQ _ H locs ls hX d_M_remember_249
set_option maxHeartbeats 4000000 in
set_option maxRecDepth 100000 in
theorem w_M_remember_186 {z : Int32 × SM} (C : Cx g A p m c b_M_remember 8 ss args R_M) (hQ : ∀ (pc : Nat) (H : Heap) (locs : List Loc) (ls : Array Slot), XW g A ss (wM g z.2) H locs → decode b_M_remember pc = .ok (.ireturn, 1) → W p l e (rmX 2 44) ss m args below meth c H locs 0 0 Q (F0 m pc ls [.int z.1])) (n : Nat) : ∀ (x1 : Int32) (x2 : Int32) (x3 : Int32) (x4 : Int32) (x5 : Int64) (x7 : Int32) (s : SM) (H : Heap) (locs : List Loc) (ls : Array Slot), XW g A ss (wM g s) H locs → lv_has ls 8 [(0, .ref (g.q 60)), (1, .int x1), (2, .int x2), (3, .int x3), (4, .int x4), (5, .long x5), (7, .int x7)] → f_M_remember_186 n x1 x2 x3 x4 x5 x7 s = some z → W p l e (rmX 2 44) ss m args below meth c H locs 0 0 Q (F0 m 186 ls []) := by
  have ⟨⟨hx, hb, hml, hown, hts⟩, hK, hA, hN⟩ := C
  induction n with
  | zero => intro x1 x2 x3 x4 x5 x7 s H locs ls hX hl h; cases h
  | succ n ih =>
    intro x1 x2 x3 x4 x5 x7 s H locs ls hX hl h
    rw [f_M_remember_186] at h
    refine lv_iload hx hb d_M_remember_186 (lv_at hl 6 rfl) ?_
    refine lv_iload_n hx hb d_M_remember_188 rfl (lv_at hl 3 rfl) ?_
    refine lv_icmp_ge (tgt := 221) hx hb d_M_remember_189 (by decide) (fun c189 => ?_) (fun c189 => ?_)
    · have h := ite_t c189 h
      refine lv_goto (tgt := 236) hx hb d_M_remember_221 (by decide) ?_
      exact w_M_remember_236 C hQ x1 x2 s H locs ls hX (lv_sub hl [0, 1, 2] rfl) h
    · have h := ite_f c189 h
      refine lv_aload_n hx hb d_M_remember_192 rfl (lv_at hl 0 rfl) ?_
      refine gm_memory C hX fl_M_96 d_M_remember_193 ?_
      refine lv_lload hx hb d_M_remember_196 (lv_at hl 5 rfl) ?_
      obtain ⟨v1, ev1, h⟩ := lt1_e h
      refine lv_l2i hx hb d_M_remember_198 ev1.symm ?_
      refine lv_iload hx hb d_M_remember_199 (lv_at hl 6 rfl) ?_
      obtain ⟨v2, ev2, h⟩ := lt1_e h
      refine x_iadd hx hb d_M_remember_201 ev2 ?_
      refine lv_iload hx hb d_M_remember_202 (lv_at hl 4 rfl) ?_
      refine lv_bipush (v := 8) hx hb d_M_remember_204 (by decide) ?_
      refine lv_iload hx hb d_M_remember_206 (lv_at hl 6 rfl) ?_
      obtain ⟨v3, ev3, h⟩ := lt1_e h
      refine x_imul hx hb d_M_remember_208 ev3 ?_
      obtain ⟨v4, ev4, h⟩ := lt1_e h
      refine x_ishr hx hb d_M_remember_209 ev4 ?_
      refine lv_sipush (v := 255) hx hb d_M_remember_210 (by decide) ?_
      obtain ⟨v5, ev5, h⟩ := lt1_e h
      refine x_iand hx hb d_M_remember_213 ev5 ?_
      obtain ⟨hz214, h⟩ := gi_e h
      obtain ⟨s6, es6, h⟩ := lt1_e h
      refine asm_29 C hX hz214 d_M_remember_214 (fun H locs hX => ?_)
      rw [← es6] at hX
      obtain ⟨v7, ev7, h⟩ := lt1_e h
      refine lv_iinc (v := v7) (lv' := [(7, .int v7), (0, .ref (g.q 60)), (1, .int x1), (2, .int x2), (3, .int x3), (4, .int x4), (5, .long x5)]) hx hb d_M_remember_215 hl (k := 6) rfl (by rw [ev7]; rfl) (by decide) rfl (fun ls hl => ?_)
      refine lv_goto (tgt := 186) hx hb d_M_remember_218 (by decide) ?_
      exact ih x1 x2 x3 x4 x5 v7 s6 H locs ls hX (lv_sub hl [1, 2, 3, 4, 5, 6, 0] rfl) h
set_option maxHeartbeats 4000000 in
set_option maxRecDepth 100000 in
theorem w_M_remember_138 {z : Int32 × SM} (C : Cx g A p m c b_M_remember 8 ss args R_M) (hQ : ∀ (pc : Nat) (H : Heap) (locs : List Loc) (ls : Array Slot), XW g A ss (wM g z.2) H locs → decode b_M_remember pc = .ok (.ireturn, 1) → W p l e (rmX 2 44) ss m args below meth c H locs 0 0 Q (F0 m pc ls [.int z.1])) : ∀ (x1 : Int32) (x2 : Int32) (x3 : Int32) (y0 : Int32) (s : SM) (H : Heap) (locs : List Loc) (ls : Array Slot), XW g A ss (wM g s) H locs → lv_has ls 8 [(0, .ref (g.q 60)), (1, .int x1), (2, .int x2), (3, .int x3)] → f_M_remember_138 x1 x2 x3 y0 s = some z → W p l e (rmX 2 44) ss m args below meth c H locs 0 0 Q (F0 m 138 ls [.int y0]) := by
  have ⟨⟨hx, hb, hml, hown, hts⟩, hK, hA, hN⟩ := C
  intro x1 x2 x3 y0 s H locs ls hX hl h
  rw [f_M_remember_138] at h
  refine lv_istore (lv' := [(4, .int y0), (0, .ref (g.q 60)), (1, .int x1), (2, .int x2), (3, .int x3)]) hx hb d_M_remember_138 hl (by decide) rfl (fun ls hl => ?_)
  refine lv_aload_n hx hb d_M_remember_140 rfl (lv_at hl 1 rfl) ?_
  obtain ⟨r2, s1, hc141, h⟩ := bd_e h
  refine x_vI (As := []) (rest := []) C hX (c_M_pull l g s (r2, s1) hc141) (cw_M_365 C.1.2.2.2.2 C.2.2.2 ⟨by decide, by decide⟩) (x_rc C hX vg_0 rfl) rfl hl.1 rfl (lv_room (Nat.le_of_ble_eq_true rfl)) d_M_remember_141 ⟨Nat.le_refl _, Nat.le_refl _⟩ (fun H locs hX => ?_)
  obtain ⟨v3, ev3, h⟩ := lt1_e h
  refine lv_i2l hx hb d_M_remember_144 ev3.symm ?_
  refine lv_ldc2 (v := 4294967295) hx hb hown (hts _ m_constantLong_M_282) d_M_remember_145 ?_
  obtain ⟨v4, ev4, h⟩ := lt1_e h
  refine x_land hx hb d_M_remember_148 ev4 ?_
  refine lv_aload_n hx hb d_M_remember_149 rfl (lv_at hl 1 rfl) ?_
  refine gm_second C hX fl_M_57 d_M_remember_150 ?_
  refine lv_iload_n hx hb d_M_remember_153 rfl (lv_at hl 2 rfl) ?_
  obtain ⟨hz154, h⟩ := gi_e h
  obtain ⟨v5, ev5, h⟩ := lt1_e h
  refine alm_16 C hX hz154 d_M_remember_154 ev5 ?_
  obtain ⟨v6, ev6, h⟩ := lt1_e h
  refine x_ladd hx hb d_M_remember_155 ev6 ?_
  refine lv_lstore (lv' := [(5, .long v6), (4, .int y0), (0, .ref (g.q 60)), (1, .int x1), (2, .int x2), (3, .int x3)]) hx hb d_M_remember_156 hl (by decide) rfl (fun ls hl => ?_)
  refine lv_lload hx hb d_M_remember_158 (lv_at hl 0 rfl) ?_
  refine lv_iload_n hx hb d_M_remember_160 rfl (lv_at hl 5 rfl) ?_
  obtain ⟨v7, ev7, h⟩ := lt1_e h
  refine lv_i2l hx hb d_M_remember_161 ev7.symm ?_
  obtain ⟨v8, ev8, h⟩ := lt1_e h
  refine x_ladd hx hb d_M_remember_162 ev8 ?_
  refine lv_bipush (v := 64) hx hb d_M_remember_163 (by decide) ?_
  refine lv_aload_n hx hb d_M_remember_165 rfl (lv_at hl 2 rfl) ?_
  refine gm_pages C hX fl_M_146 d_M_remember_166 ?_
  obtain ⟨v9, ev9, h⟩ := lt1_e h
  refine x_imul hx hb d_M_remember_169 ev9 ?_
  obtain ⟨v10, ev10, h⟩ := lt1_e h
  refine lv_i2l hx hb d_M_remember_170 ev10.symm ?_
  obtain ⟨v11, ev11, h⟩ := lt1_e h
  refine x_lcmp hx hb d_M_remember_171 ev11 ?_
  refine lv_if_le (tgt := 177) hx hb d_M_remember_172 (by decide) (fun c172 => ?_) (fun c172 => ?_)
  · have h := ite_t c172 h
    refine lv_iload_n hx hb d_M_remember_177 rfl (lv_at hl 4 rfl) ?_
    refine lv_bipush (v := 53) hx hb d_M_remember_178 (by decide) ?_
    refine lv_icmp_le (tgt := 224) hx hb d_M_remember_180 (by decide) (fun c180 => ?_) (fun c180 => ?_)
    · have h := ite_t c180 h
      refine lv_aload_n hx hb d_M_remember_224 rfl (lv_at hl 2 rfl) ?_
      refine lv_aload_n hx hb d_M_remember_225 rfl (lv_at hl 2 rfl) ?_
      refine lv_iload_n hx hb d_M_remember_226 rfl (lv_at hl 4 rfl) ?_
      refine lv_lload hx hb d_M_remember_227 (lv_at hl 0 rfl) ?_
      obtain ⟨v12, ev12, h⟩ := lt1_e h
      refine lv_l2i hx hb d_M_remember_229 ev12.symm ?_
      obtain ⟨r13, hc230, h⟩ := bd1_e h
      refine x_vI (As := [.int x2, .int v12]) (rest := [.ref (g.q 60)]) C hX (c_M_read l g x2 v12 s1 r13 hc230) (cw_M_381 C.1.2.2.2.2 C.2.2.2 ⟨by decide, by decide⟩) (x_rc C hX vg_0 rfl) rfl hl.1 rfl (lv_room (Nat.le_of_ble_eq_true rfl)) d_M_remember_230 ⟨Nat.le_refl _, Nat.le_refl _⟩ (fun H locs hX => ?_)
      obtain ⟨s14, hc233, h⟩ := bd1_e h
      refine x_vV (As := [.int r13]) (rest := []) C hX (c_M_give l g r13 s1 s14 hc233) (cw_M_368 C.1.2.2.2.2 C.2.2.2 ⟨by decide, by decide⟩) (x_rc C hX vg_0 rfl) rfl hl.1 rfl (lv_room (Nat.le_of_ble_eq_true rfl)) d_M_remember_233 ⟨Nat.le_refl _, Nat.le_refl _⟩ (fun H locs hX => ?_)
      exact w_M_remember_236 C hQ x1 x2 s14 H locs ls hX (lv_sub hl [2, 3, 4] rfl) h
    · have h := ite_f c180 h
      refine lv_iconst (v := 0) hx hb d_M_remember_183 (by decide) ?_
      refine lv_istore (lv' := [(7, .int 0), (5, .long v6), (4, .int y0), (0, .ref (g.q 60)), (1, .int x1), (2, .int x2), (3, .int x3)]) hx hb d_M_remember_184 hl (by decide) rfl (fun ls hl => ?_)
      exact w_M_remember_186 C hQ FU x1 x2 x3 y0 v6 0 s1 H locs ls hX (lv_sub hl [3, 4, 5, 6, 2, 1, 0] rfl) h
  · have h := ite_f c172 h
    refine lv_iconst (v := 5) hx hb d_M_remember_175 (by decide) ?_
    obtain rfl := so1 h
    exact hQ _ H locs ls hX d_M_remember_176
set_option maxHeartbeats 4000000 in
set_option maxRecDepth 100000 in
theorem w_M_remember_113 {z : Int32 × SM} (C : Cx g A p m c b_M_remember 8 ss args R_M) (hQ : ∀ (pc : Nat) (H : Heap) (locs : List Loc) (ls : Array Slot), XW g A ss (wM g z.2) H locs → decode b_M_remember pc = .ok (.ireturn, 1) → W p l e (rmX 2 44) ss m args below meth c H locs 0 0 Q (F0 m pc ls [.int z.1])) : ∀ (x1 : Int32) (x2 : Int32) (x3 : Int64) (x5 : Int32) (x6 : Int32) (y1 : Int32) (s : SM) (H : Heap) (locs : List Loc) (ls : Array Slot), XW g A ss (wM g s) H locs → lv_has ls 8 [(0, .ref (g.q 60)), (1, .int x1), (2, .int x2), (3, .long x3), (5, .int x5), (6, .int x6)] → f_M_remember_113 x1 x2 x3 x5 x6 y1 s = some z → W p l e (rmX 2 44) ss m args below meth c H locs 0 0 Q (F0 m 113 ls [.int y1, .ref (g.q 60)]) := by
  have ⟨⟨hx, hb, hml, hown, hts⟩, hK, hA, hN⟩ := C
  intro x1 x2 x3 x5 x6 y1 s H locs ls hX hl h
  rw [f_M_remember_113] at h
  obtain ⟨s1, hc113, h⟩ := bd1_e h
  refine x_vV (As := [.int y1]) (rest := []) C hX (c_M_give l g y1 s s1 hc113) (cw_M_368 C.1.2.2.2.2 C.2.2.2 ⟨by decide, by decide⟩) (x_rc C hX vg_0 rfl) rfl hl.1 rfl (lv_room (Nat.le_of_ble_eq_true rfl)) d_M_remember_113 ⟨Nat.le_refl _, Nat.le_refl _⟩ (fun H locs hX => ?_)
  refine lv_goto (tgt := 236) hx hb d_M_remember_116 (by decide) ?_
  exact w_M_remember_236 C hQ x1 x2 s1 H locs ls hX (lv_sub hl [0, 1, 2] rfl) h
set_option maxHeartbeats 4000000 in
set_option maxRecDepth 100000 in
theorem w_M_remember_98 {z : Int32 × SM} (C : Cx g A p m c b_M_remember 8 ss args R_M) (hQ : ∀ (pc : Nat) (H : Heap) (locs : List Loc) (ls : Array Slot), XW g A ss (wM g z.2) H locs → decode b_M_remember pc = .ok (.ireturn, 1) → W p l e (rmX 2 44) ss m args below meth c H locs 0 0 Q (F0 m pc ls [.int z.1])) : ∀ (x1 : Int32) (x2 : Int32) (x3 : Int64) (x5 : Int32) (x6 : Int32) (y1 : Int32) (s : SM) (H : Heap) (locs : List Loc) (ls : Array Slot), XW g A ss (wM g s) H locs → lv_has ls 8 [(0, .ref (g.q 60)), (1, .int x1), (2, .int x2), (3, .long x3), (5, .int x5), (6, .int x6)] → f_M_remember_98 x1 x2 x3 x5 x6 y1 s = some z → W p l e (rmX 2 44) ss m args below meth c H locs 0 0 Q (F0 m 98 ls [.int y1, .ref (g.q 60)]) := by
  have ⟨⟨hx, hb, hml, hown, hts⟩, hK, hA, hN⟩ := C
  intro x1 x2 x3 x5 x6 y1 s H locs ls hX hl h
  rw [f_M_remember_98] at h
  obtain ⟨s1, es1, h⟩ := lt1_e h
  refine pm_pages C hX fl_M_146 d_M_remember_98 (fun H locs hX => ?_)
  rw [← es1] at hX
  refine lv_aload_n hx hb d_M_remember_101 rfl (lv_at hl 0 rfl) ?_
  refine lv_iload hx hb d_M_remember_102 (lv_at hl 4 rfl) ?_
  refine lv_if_eq (tgt := 112) hx hb d_M_remember_104 (by decide) (fun c104 => ?_) (fun c104 => ?_)
  · have h := ite_t c104 h
    refine lv_iconst (v := (-1)) hx hb d_M_remember_112 (by decide) ?_
    exact w_M_remember_113 C hQ x1 x2 x3 x5 x6 ((-1)) s1 H locs ls hX hl h
  · have h := ite_f c104 h
    refine lv_iload hx hb d_M_remember_107 (lv_at hl 5 rfl) ?_
    refine lv_goto (tgt := 113) hx hb d_M_remember_109 (by decide) ?_
    exact w_M_remember_113 C hQ x1 x2 x3 x5 x6 x6 s1 H locs ls hX hl h
set_option maxHeartbeats 4000000 in
set_option maxRecDepth 100000 in
theorem w_M_remember_75 {z : Int32 × SM} (C : Cx g A p m c b_M_remember 8 ss args R_M) (hQ : ∀ (pc : Nat) (H : Heap) (locs : List Loc) (ls : Array Slot), XW g A ss (wM g z.2) H locs → decode b_M_remember pc = .ok (.ireturn, 1) → W p l e (rmX 2 44) ss m args below meth c H locs 0 0 Q (F0 m pc ls [.int z.1])) : ∀ (x1 : Int32) (x2 : Int32) (x3 : Int64) (y0 : Int32) (s : SM) (H : Heap) (locs : List Loc) (ls : Array Slot), XW g A ss (wM g s) H locs → lv_has ls 8 [(0, .ref (g.q 60)), (1, .int x1), (2, .int x2), (3, .long x3)] → f_M_remember_75 x1 x2 x3 y0 s = some z → W p l e (rmX 2 44) ss m args below meth c H locs 0 0 Q (F0 m 75 ls [.int y0]) := by
  have ⟨⟨hx, hb, hml, hown, hts⟩, hK, hA, hN⟩ := C
  intro x1 x2 x3 y0 s H locs ls hX hl h
  rw [f_M_remember_75] at h
  refine lv_istore (lv' := [(5, .int y0), (0, .ref (g.q 60)), (1, .int x1), (2, .int x2), (3, .long x3)]) hx hb d_M_remember_75 hl (by decide) rfl (fun ls hl => ?_)
  refine lv_aload_n hx hb d_M_remember_77 rfl (lv_at hl 1 rfl) ?_
  refine gm_pages C hX fl_M_146 d_M_remember_78 ?_
  refine lv_istore (lv' := [(6, .int (s.1 0 18)), (5, .int y0), (0, .ref (g.q 60)), (1, .int x1), (2, .int x2), (3, .long x3)]) hx hb d_M_remember_81 hl (by decide) rfl (fun ls hl => ?_)
  refine lv_aload_n hx hb d_M_remember_83 rfl (lv_at hl 2 rfl) ?_
  refine lv_iload hx hb d_M_remember_84 (lv_at hl 1 rfl) ?_
  refine lv_if_eq (tgt := 94) hx hb d_M_remember_86 (by decide) (fun c86 => ?_) (fun c86 => ?_)
  · have h := ite_t c86 h
    refine lv_aload_n hx hb d_M_remember_94 rfl (lv_at hl 2 rfl) ?_
    refine gm_pages C hX fl_M_146 d_M_remember_95 ?_
    exact w_M_remember_98 C hQ x1 x2 x3 y0 (s.1 0 18) (s.1 0 18) s H locs ls hX (lv_sub hl [2, 3, 4, 5, 1, 0] rfl) h
  · have h := ite_f c86 h
    refine lv_lload_n hx hb d_M_remember_89 rfl (lv_at hl 5 rfl) ?_
    obtain ⟨v1, ev1, h⟩ := lt1_e h
    refine lv_l2i hx hb d_M_remember_90 ev1.symm ?_
    refine lv_goto (tgt := 98) hx hb d_M_remember_91 (by decide) ?_
    exact w_M_remember_98 C hQ x1 x2 x3 y0 (s.1 0 18) v1 s H locs ls hX (lv_sub hl [2, 3, 4, 5, 1, 0] rfl) h
set_option maxHeartbeats 4000000 in
set_option maxRecDepth 100000 in
theorem w_M_remember_74 {z : Int32 × SM} (C : Cx g A p m c b_M_remember 8 ss args R_M) (hQ : ∀ (pc : Nat) (H : Heap) (locs : List Loc) (ls : Array Slot), XW g A ss (wM g z.2) H locs → decode b_M_remember pc = .ok (.ireturn, 1) → W p l e (rmX 2 44) ss m args below meth c H locs 0 0 Q (F0 m pc ls [.int z.1])) : ∀ (x1 : Int32) (x2 : Int32) (x3 : Int64) (s : SM) (H : Heap) (locs : List Loc) (ls : Array Slot), XW g A ss (wM g s) H locs → lv_has ls 8 [(0, .ref (g.q 60)), (1, .int x1), (2, .int x2), (3, .long x3)] → f_M_remember_74 x1 x2 x3 s = some z → W p l e (rmX 2 44) ss m args below meth c H locs 0 0 Q (F0 m 74 ls []) := by
  have ⟨⟨hx, hb, hml, hown, hts⟩, hK, hA, hN⟩ := C
  intro x1 x2 x3 s H locs ls hX hl h
  rw [f_M_remember_74] at h
  refine lv_iconst (v := 0) hx hb d_M_remember_74 (by decide) ?_
  exact w_M_remember_75 C hQ x1 x2 x3 0 s H locs ls hX hl h
set_option maxHeartbeats 4000000 in
set_option maxRecDepth 100000 in
theorem w_M_remember_70 {z : Int32 × SM} (C : Cx g A p m c b_M_remember 8 ss args R_M) (hQ : ∀ (pc : Nat) (H : Heap) (locs : List Loc) (ls : Array Slot), XW g A ss (wM g z.2) H locs → decode b_M_remember pc = .ok (.ireturn, 1) → W p l e (rmX 2 44) ss m args below meth c H locs 0 0 Q (F0 m pc ls [.int z.1])) : ∀ (x1 : Int32) (x2 : Int32) (x3 : Int64) (s : SM) (H : Heap) (locs : List Loc) (ls : Array Slot), XW g A ss (wM g s) H locs → lv_has ls 8 [(0, .ref (g.q 60)), (1, .int x1), (2, .int x2), (3, .long x3)] → f_M_remember_70 x1 x2 x3 s = some z → W p l e (rmX 2 44) ss m args below meth c H locs 0 0 Q (F0 m 70 ls []) := by
  have ⟨⟨hx, hb, hml, hown, hts⟩, hK, hA, hN⟩ := C
  intro x1 x2 x3 s H locs ls hX hl h
  rw [f_M_remember_70] at h
  refine lv_iconst (v := 1) hx hb d_M_remember_70 (by decide) ?_
  refine lv_goto (tgt := 75) hx hb d_M_remember_71 (by decide) ?_
  exact w_M_remember_75 C hQ x1 x2 x3 1 s H locs ls hX hl h
set_option maxHeartbeats 4000000 in
set_option maxRecDepth 100000 in
theorem w_M_remember {z : Int32 × SM} (C : Cx g A p m c b_M_remember 8 ss args R_M) (hQ : ∀ (pc : Nat) (H : Heap) (locs : List Loc) (ls : Array Slot), XW g A ss (wM g z.2) H locs → decode b_M_remember pc = .ok (.ireturn, 1) → W p l e (rmX 2 44) ss m args below meth c H locs 0 0 Q (F0 m pc ls [.int z.1])) : ∀ (x1 : Int32) (s : SM) (H : Heap) (locs : List Loc) (ls : Array Slot), XW g A ss (wM g s) H locs → lv_has ls 8 [(0, .ref (g.q 60)), (1, .int x1)] → f_M_remember x1 s = some z → W p l e (rmX 2 44) ss m args below meth c H locs 0 0 Q (F0 m 0 ls []) := by
  have ⟨⟨hx, hb, hml, hown, hts⟩, hK, hA, hN⟩ := C
  intro x1 s H locs ls hX hl h
  rw [f_M_remember] at h
  refine lv_aload_n hx hb d_M_remember_0 rfl (lv_at hl 0 rfl) ?_
  refine gm_op C hX fl_M_51 d_M_remember_1 ?_
  refine lv_iload_n hx hb d_M_remember_4 rfl (lv_at hl 1 rfl) ?_
  obtain ⟨hz5, h⟩ := gi_e h
  obtain ⟨v1, ev1, h⟩ := lt1_e h
  refine alm_14 C hX hz5 d_M_remember_5 ev1 ?_
  refine lv_istore_n (lv' := [(2, .int v1), (0, .ref (g.q 60)), (1, .int x1)]) hx hb d_M_remember_6 rfl hl (by decide) rfl (fun ls hl => ?_)
  refine lv_iload_n hx hb d_M_remember_7 rfl (lv_at hl 0 rfl) ?_
  refine lv_bipush (v := 63) hx hb d_M_remember_8 (by decide) ?_
  refine lv_icmp_ne (tgt := 24) hx hb d_M_remember_10 (by decide) (fun c10 => ?_) (fun c10 => ?_)
  · have h := ite_f c10 h
    refine lv_iload_n hx hb d_M_remember_24 rfl (lv_at hl 0 rfl) ?_
    refine lv_bipush (v := 64) hx hb d_M_remember_25 (by decide) ?_
    refine lv_icmp_ne (tgt := 119) hx hb d_M_remember_27 (by decide) (fun c27 => ?_) (fun c27 => ?_)
    · have h := ite_f c27 h
      refine lv_iload_n hx hb d_M_remember_119 rfl (lv_at hl 0 rfl) ?_
      obtain ⟨r2, hc120, h⟩ := bd1_e h
      refine x_sI (As := [.int v1]) (rest := []) C hX (c_M_width l g v1 r2 hc120 _) (cw_M_325 C.1.2.2.2.2 C.2.2.2 ⟨by decide, by decide⟩) rfl hl.1 rfl (lv_room (Nat.le_of_ble_eq_true rfl)) d_M_remember_120 ⟨Nat.le_refl _, Nat.le_refl _⟩ (fun H locs hX => ?_)
      refine lv_istore_n (lv' := [(3, .int r2), (2, .int v1), (0, .ref (g.q 60)), (1, .int x1)]) hx hb d_M_remember_123 rfl hl (by decide) rfl (fun ls hl => ?_)
      refine lv_iload_n hx hb d_M_remember_124 rfl (lv_at hl 1 rfl) ?_
      refine lv_bipush (v := 53) hx hb d_M_remember_125 (by decide) ?_
      refine lv_icmp_le (tgt := 137) hx hb d_M_remember_127 (by decide) (fun c127 => ?_) (fun c127 => ?_)
      · have h := ite_t c127 h
        refine lv_iconst (v := 0) hx hb d_M_remember_137 (by decide) ?_
        exact w_M_remember_138 C hQ x1 v1 r2 0 s H locs ls hX (lv_sub hl [2, 3, 1, 0] rfl) h
      · have h := ite_f c127 h
        refine lv_aload_n hx hb d_M_remember_130 rfl (lv_at hl 2 rfl) ?_
        obtain ⟨r4, s3, hc131, h⟩ := bd_e h
        refine x_vI (As := []) (rest := []) C hX (c_M_pull l g s (r4, s3) hc131) (cw_M_365 C.1.2.2.2.2 C.2.2.2 ⟨by decide, by decide⟩) (x_rc C hX vg_0 rfl) rfl hl.1 rfl (lv_room (Nat.le_of_ble_eq_true rfl)) d_M_remember_131 ⟨Nat.le_refl _, Nat.le_refl _⟩ (fun H locs hX => ?_)
        refine lv_goto (tgt := 138) hx hb d_M_remember_134 (by decide) ?_
        exact w_M_remember_138 C hQ x1 v1 r2 r4 s3 H locs ls hX (lv_sub hl [2, 3, 1, 0] rfl) h
    · have h := ite_t c27 h
      refine lv_aload_n hx hb d_M_remember_30 rfl (lv_at hl 1 rfl) ?_
      obtain ⟨r6, s5, hc31, h⟩ := bd_e h
      refine x_vI (As := []) (rest := []) C hX (c_M_pull l g s (r6, s5) hc31) (cw_M_365 C.1.2.2.2.2 C.2.2.2 ⟨by decide, by decide⟩) (x_rc C hX vg_0 rfl) rfl hl.1 rfl (lv_room (Nat.le_of_ble_eq_true rfl)) d_M_remember_31 ⟨Nat.le_refl _, Nat.le_refl _⟩ (fun H locs hX => ?_)
      obtain ⟨v7, ev7, h⟩ := lt1_e h
      refine lv_i2l hx hb d_M_remember_34 ev7.symm ?_
      refine lv_ldc2 (v := 4294967295) hx hb hown (hts _ m_constantLong_M_282) d_M_remember_35 ?_
      obtain ⟨v8, ev8, h⟩ := lt1_e h
      refine x_land hx hb d_M_remember_38 ev8 ?_
      refine lv_aload_n hx hb d_M_remember_39 rfl (lv_at hl 1 rfl) ?_
      refine gm_pages C hX fl_M_146 d_M_remember_40 ?_
      obtain ⟨v9, ev9, h⟩ := lt1_e h
      refine lv_i2l hx hb d_M_remember_43 ev9.symm ?_
      obtain ⟨v10, ev10, h⟩ := lt1_e h
      refine x_ladd hx hb d_M_remember_44 ev10 ?_
      refine lv_lstore_n (lv' := [(3, .long v10), (2, .int v1), (0, .ref (g.q 60)), (1, .int x1)]) hx hb d_M_remember_45 rfl hl (by decide) rfl (fun ls hl => ?_)
      refine lv_lload_n hx hb d_M_remember_46 rfl (lv_at hl 0 rfl) ?_
      refine lv_ldc2 (v := 4) hx hb hown (hts _ m_constantLong_M_235) d_M_remember_47 ?_
      obtain ⟨v11, ev11, h⟩ := lt1_e h
      refine x_lcmp hx hb d_M_remember_50 ev11 ?_
      refine lv_if_gt (tgt := 74) hx hb d_M_remember_51 (by decide) (fun c51 => ?_) (fun c51 => ?_)
      · have h := ite_t c51 h
        exact w_M_remember_74 C hQ x1 v1 v10 s5 H locs ls hX (lv_sub hl [2, 3, 1, 0] rfl) h
      · have h := ite_f c51 h
        refine lv_aload_n hx hb d_M_remember_54 rfl (lv_at hl 2 rfl) ?_
        refine gm_capped C hX fl_M_228 d_M_remember_55 ?_
        refine lv_if_eq (tgt := 70) hx hb d_M_remember_58 (by decide) (fun c58 => ?_) (fun c58 => ?_)
        · have h := ite_t c58 h
          exact w_M_remember_70 C hQ x1 v1 v10 s5 H locs ls hX (lv_sub hl [2, 3, 1, 0] rfl) h
        · have h := ite_f c58 h
          refine lv_lload_n hx hb d_M_remember_61 rfl (lv_at hl 0 rfl) ?_
          refine lv_aload_n hx hb d_M_remember_62 rfl (lv_at hl 2 rfl) ?_
          refine gm_most C hX fl_M_237 d_M_remember_63 ?_
          obtain ⟨v12, ev12, h⟩ := lt1_e h
          refine x_lcmp hx hb d_M_remember_66 ev12 ?_
          refine lv_if_gt (tgt := 74) hx hb d_M_remember_67 (by decide) (fun c67 => ?_) (fun c67 => ?_)
          · have h := ite_t c67 h
            exact w_M_remember_74 C hQ x1 v1 v10 s5 H locs ls hX (lv_sub hl [2, 3, 1, 0] rfl) h
          · have h := ite_f c67 h
            exact w_M_remember_70 C hQ x1 v1 v10 s5 H locs ls hX (lv_sub hl [2, 3, 1, 0] rfl) h
  · have h := ite_t c10 h
    refine lv_aload_n hx hb d_M_remember_13 rfl (lv_at hl 1 rfl) ?_
    refine lv_aload_n hx hb d_M_remember_14 rfl (lv_at hl 1 rfl) ?_
    refine gm_pages C hX fl_M_146 d_M_remember_15 ?_
    obtain ⟨s13, hc18, h⟩ := bd1_e h
    refine x_vV (As := [.int (s.1 0 18)]) (rest := []) C hX (c_M_give l g (s.1 0 18) s s13 hc18) (cw_M_368 C.1.2.2.2.2 C.2.2.2 ⟨by decide, by decide⟩) (x_rc C hX vg_0 rfl) rfl hl.1 rfl (lv_room (Nat.le_of_ble_eq_true rfl)) d_M_remember_18 ⟨Nat.le_refl _, Nat.le_refl _⟩ (fun H locs hX => ?_)
    refine lv_goto (tgt := 236) hx hb d_M_remember_21 (by decide) ?_
    exact w_M_remember_236 C hQ x1 v1 s13 H locs ls hX (lv_sub hl [1, 2, 0] rfl) h
end WALK
theorem c_M_remember (l : Launch) (g : GX) (x1 : Int32) (s : SM) (z : Int32 × SM) (h : f_M_remember x1 s = some z) : MI l g y_M_remember b_M_remember 8 (some .int) 2 44 [.ref (g.q 60), .int x1] (wM g s) z.1 (wM g z.2) :=
  MI.mk (own := R_M) (by decide) rfl (Nat.le_of_ble_eq_true rfl) fun p e ss m below meth c A Q C hQ ls hX hl => w_M_remember C hQ x1 s _ _ ls hX hl h
-- M_single
def f_M_single_85 (x0 : Int32) (x1 : Int32) (x2 : Int32) : Option Int32 :=
    some (x2)
def f_M_single_76 (k48 : Int32 → Int32 → Int32 → Option Int32) (x0 : Int32) (x1 : Int32) (x2 : Int32) (y0 : Int32) : Option Int32 :=
    if y0 = 0 then
      lt1 (x2 + (1)) fun v1 =>
      k48 x0 x1 v1
    else
      f_M_single_85 x0 x1 x2
def f_M_single_48 : Nat → Int32 → Int32 → Int32 → Option Int32
  | 0, _, _, _ => none
  | n + 1, x0, x1, x2 =>
    if 32 ≤ x2 then
      f_M_single_85 x0 x1 x2
    else
      if x0 = 103 then
        lt1 (31 - x2) fun v3 =>
        lt1 (x1 >>> (v3 &&& 31)) fun v4 =>
        lt1 (v4 &&& 1) fun v5 =>
        f_M_single_76 (f_M_single_48 n) x0 x1 x2 v5
      else
        lt1 (x1 >>> (x2 &&& 31)) fun v1 =>
        lt1 (v1 &&& 1) fun v2 =>
        f_M_single_76 (f_M_single_48 n) x0 x1 x2 v2
def f_M_single_26 : Nat → Int32 → Int32 → Int32 → Int32 → Option Int32
  | 0, _, _, _, _ => none
  | n + 1, x0, x1, x2, x3 =>
    if 32 ≤ x3 then
      some (x2)
    else
      lt1 (x1 >>> (x3 &&& 31)) fun v1 =>
      lt1 (v1 &&& 1) fun v2 =>
      lt1 (x2 + v2) fun v3 =>
      lt1 (x3 + (1)) fun v4 =>
      f_M_single_26 n x0 x1 v3 v4
def f_M_single_15 (x0 : Int32) (x1 : Int32) (y0 : Int32) : Option Int32 :=
    some (y0)
def f_M_single (x0 : Int32) (x1 : Int32) : Option Int32 :=
    if x0 = 69 then
      if x1 = 0 then
        f_M_single_15 x0 x1 1
      else
        f_M_single_15 x0 x1 0
    else
      if x0 = 105 then
        f_M_single_26 FU x0 x1 0 0
      else
        f_M_single_48 FU x0 x1 0
section WALK
variable {p : Program} {l : Launch} {e : Env} {ss : State} {m : MethodId} {args : Array Value} {below : List Frame} {meth : Method} {c : Code} {Q : State → Prop} {g : GX} {A : Nat → Prop}
set_option maxHeartbeats 4000000 in
set_option maxRecDepth 100000 in
theorem w_M_single_85 {ws : va_W} {z : Int32} (C : Cx g A p m c b_M_single 4 ss args R_M) (hQ : ∀ (pc : Nat) (H : Heap) (locs : List Loc) (ls : Array Slot), XW g A ss ws H locs → decode b_M_single pc = .ok (.ireturn, 1) → W p l e (rmX 0 0) ss m args below meth c H locs 0 0 Q (F0 m pc ls [.int z])) : ∀ (x0 : Int32) (x1 : Int32) (x2 : Int32) (H : Heap) (locs : List Loc) (ls : Array Slot), XW g A ss ws H locs → lv_has ls 4 [(0, .int x0), (1, .int x1), (2, .int x2)] → f_M_single_85 x0 x1 x2 = some z → W p l e (rmX 0 0) ss m args below meth c H locs 0 0 Q (F0 m 85 ls []) := by
  have ⟨⟨hx, hb, hml, hown, hts⟩, hK, hA, hN⟩ := C
  intro x0 x1 x2 H locs ls hX hl h
  rw [f_M_single_85] at h
  refine lv_iload_n hx hb d_M_single_85 rfl (lv_at hl 2 rfl) ?_
  obtain rfl := so1 h
  exact hQ _ H locs ls hX d_M_single_86
set_option maxHeartbeats 4000000 in
set_option maxRecDepth 100000 in
theorem w_M_single_76 {ws : va_W} {z : Int32} (C : Cx g A p m c b_M_single 4 ss args R_M) (hQ : ∀ (pc : Nat) (H : Heap) (locs : List Loc) (ls : Array Slot), XW g A ss ws H locs → decode b_M_single pc = .ok (.ireturn, 1) → W p l e (rmX 0 0) ss m args below meth c H locs 0 0 Q (F0 m pc ls [.int z])) (k48 : Int32 → Int32 → Int32 → Option Int32) (hk48 : ∀ (x0 : Int32) (x1 : Int32) (x2 : Int32) (H : Heap) (locs : List Loc) (ls : Array Slot), XW g A ss ws H locs → lv_has ls 4 [(0, .int x0), (1, .int x1), (2, .int x2)] → k48 x0 x1 x2 = some z → W p l e (rmX 0 0) ss m args below meth c H locs 0 0 Q (F0 m 48 ls [])) : ∀ (x0 : Int32) (x1 : Int32) (x2 : Int32) (y0 : Int32) (H : Heap) (locs : List Loc) (ls : Array Slot), XW g A ss ws H locs → lv_has ls 4 [(0, .int x0), (1, .int x1), (2, .int x2)] → f_M_single_76 k48 x0 x1 x2 y0 = some z → W p l e (rmX 0 0) ss m args below meth c H locs 0 0 Q (F0 m 76 ls [.int y0]) := by
  have ⟨⟨hx, hb, hml, hown, hts⟩, hK, hA, hN⟩ := C
  intro x0 x1 x2 y0 H locs ls hX hl h
  rw [f_M_single_76] at h
  refine lv_if_ne (tgt := 85) hx hb d_M_single_76 (by decide) (fun c76 => ?_) (fun c76 => ?_)
  · have h := ite_f c76 h
    exact w_M_single_85 C hQ x0 x1 x2 H locs ls hX hl h
  · have h := ite_t c76 h
    obtain ⟨v1, ev1, h⟩ := lt1_e h
    refine lv_iinc (v := v1) (lv' := [(2, .int v1), (0, .int x0), (1, .int x1)]) hx hb d_M_single_79 hl (k := 2) rfl (by rw [ev1]; rfl) (by decide) rfl (fun ls hl => ?_)
    refine lv_goto (tgt := 48) hx hb d_M_single_82 (by decide) ?_
    exact hk48 x0 x1 v1 H locs ls hX (lv_sub hl [1, 2, 0] rfl) h
set_option maxHeartbeats 4000000 in
set_option maxRecDepth 100000 in
theorem w_M_single_48 {ws : va_W} {z : Int32} (C : Cx g A p m c b_M_single 4 ss args R_M) (hQ : ∀ (pc : Nat) (H : Heap) (locs : List Loc) (ls : Array Slot), XW g A ss ws H locs → decode b_M_single pc = .ok (.ireturn, 1) → W p l e (rmX 0 0) ss m args below meth c H locs 0 0 Q (F0 m pc ls [.int z])) (n : Nat) : ∀ (x0 : Int32) (x1 : Int32) (x2 : Int32) (H : Heap) (locs : List Loc) (ls : Array Slot), XW g A ss ws H locs → lv_has ls 4 [(0, .int x0), (1, .int x1), (2, .int x2)] → f_M_single_48 n x0 x1 x2 = some z → W p l e (rmX 0 0) ss m args below meth c H locs 0 0 Q (F0 m 48 ls []) := by
  have ⟨⟨hx, hb, hml, hown, hts⟩, hK, hA, hN⟩ := C
  induction n with
  | zero => intro x0 x1 x2 H locs ls hX hl h; cases h
  | succ n ih =>
    intro x0 x1 x2 H locs ls hX hl h
    rw [f_M_single_48] at h
    refine lv_iload_n hx hb d_M_single_48 rfl (lv_at hl 2 rfl) ?_
    refine lv_bipush (v := 32) hx hb d_M_single_49 (by decide) ?_
    refine lv_icmp_ge (tgt := 85) hx hb d_M_single_51 (by decide) (fun c51 => ?_) (fun c51 => ?_)
    · have h := ite_t c51 h
      exact w_M_single_85 C hQ x0 x1 x2 H locs ls hX hl h
    · have h := ite_f c51 h
      refine lv_iload_n hx hb d_M_single_54 rfl (lv_at hl 0 rfl) ?_
      refine lv_bipush (v := 103) hx hb d_M_single_55 (by decide) ?_
      refine lv_icmp_ne (tgt := 71) hx hb d_M_single_57 (by decide) (fun c57 => ?_) (fun c57 => ?_)
      · have h := ite_f c57 h
        refine lv_iload_n hx hb d_M_single_71 rfl (lv_at hl 1 rfl) ?_
        refine lv_iload_n hx hb d_M_single_72 rfl (lv_at hl 2 rfl) ?_
        obtain ⟨v1, ev1, h⟩ := lt1_e h
        refine x_ishr hx hb d_M_single_73 ev1 ?_
        refine lv_iconst (v := 1) hx hb d_M_single_74 (by decide) ?_
        obtain ⟨v2, ev2, h⟩ := lt1_e h
        refine x_iand hx hb d_M_single_75 ev2 ?_
        exact w_M_single_76 C hQ (f_M_single_48 n) ih x0 x1 x2 v2 H locs ls hX hl h
      · have h := ite_t c57 h
        refine lv_iload_n hx hb d_M_single_60 rfl (lv_at hl 1 rfl) ?_
        refine lv_bipush (v := 31) hx hb d_M_single_61 (by decide) ?_
        refine lv_iload_n hx hb d_M_single_63 rfl (lv_at hl 2 rfl) ?_
        obtain ⟨v3, ev3, h⟩ := lt1_e h
        refine x_isub hx hb d_M_single_64 ev3 ?_
        obtain ⟨v4, ev4, h⟩ := lt1_e h
        refine x_ishr hx hb d_M_single_65 ev4 ?_
        refine lv_iconst (v := 1) hx hb d_M_single_66 (by decide) ?_
        obtain ⟨v5, ev5, h⟩ := lt1_e h
        refine x_iand hx hb d_M_single_67 ev5 ?_
        refine lv_goto (tgt := 76) hx hb d_M_single_68 (by decide) ?_
        exact w_M_single_76 C hQ (f_M_single_48 n) ih x0 x1 x2 v5 H locs ls hX hl h
set_option maxHeartbeats 4000000 in
set_option maxRecDepth 100000 in
theorem w_M_single_26 {ws : va_W} {z : Int32} (C : Cx g A p m c b_M_single 4 ss args R_M) (hQ : ∀ (pc : Nat) (H : Heap) (locs : List Loc) (ls : Array Slot), XW g A ss ws H locs → decode b_M_single pc = .ok (.ireturn, 1) → W p l e (rmX 0 0) ss m args below meth c H locs 0 0 Q (F0 m pc ls [.int z])) (n : Nat) : ∀ (x0 : Int32) (x1 : Int32) (x2 : Int32) (x3 : Int32) (H : Heap) (locs : List Loc) (ls : Array Slot), XW g A ss ws H locs → lv_has ls 4 [(0, .int x0), (1, .int x1), (2, .int x2), (3, .int x3)] → f_M_single_26 n x0 x1 x2 x3 = some z → W p l e (rmX 0 0) ss m args below meth c H locs 0 0 Q (F0 m 26 ls []) := by
  have ⟨⟨hx, hb, hml, hown, hts⟩, hK, hA, hN⟩ := C
  induction n with
  | zero => intro x0 x1 x2 x3 H locs ls hX hl h; cases h
  | succ n ih =>
    intro x0 x1 x2 x3 H locs ls hX hl h
    rw [f_M_single_26] at h
    refine lv_iload_n hx hb d_M_single_26 rfl (lv_at hl 3 rfl) ?_
    refine lv_bipush (v := 32) hx hb d_M_single_27 (by decide) ?_
    refine lv_icmp_ge (tgt := 46) hx hb d_M_single_29 (by decide) (fun c29 => ?_) (fun c29 => ?_)
    · have h := ite_t c29 h
      refine lv_iload_n hx hb d_M_single_46 rfl (lv_at hl 2 rfl) ?_
      obtain rfl := so1 h
      exact hQ _ H locs ls hX d_M_single_47
    · have h := ite_f c29 h
      refine lv_iload_n hx hb d_M_single_32 rfl (lv_at hl 2 rfl) ?_
      refine lv_iload_n hx hb d_M_single_33 rfl (lv_at hl 1 rfl) ?_
      refine lv_iload_n hx hb d_M_single_34 rfl (lv_at hl 3 rfl) ?_
      obtain ⟨v1, ev1, h⟩ := lt1_e h
      refine x_ishr hx hb d_M_single_35 ev1 ?_
      refine lv_iconst (v := 1) hx hb d_M_single_36 (by decide) ?_
      obtain ⟨v2, ev2, h⟩ := lt1_e h
      refine x_iand hx hb d_M_single_37 ev2 ?_
      obtain ⟨v3, ev3, h⟩ := lt1_e h
      refine x_iadd hx hb d_M_single_38 ev3 ?_
      refine lv_istore_n (lv' := [(2, .int v3), (0, .int x0), (1, .int x1), (3, .int x3)]) hx hb d_M_single_39 rfl hl (by decide) rfl (fun ls hl => ?_)
      obtain ⟨v4, ev4, h⟩ := lt1_e h
      refine lv_iinc (v := v4) (lv' := [(3, .int v4), (2, .int v3), (0, .int x0), (1, .int x1)]) hx hb d_M_single_40 hl (k := 3) rfl (by rw [ev4]; rfl) (by decide) rfl (fun ls hl => ?_)
      refine lv_goto (tgt := 26) hx hb d_M_single_43 (by decide) ?_
      exact ih x0 x1 v3 v4 H locs ls hX (lv_sub hl [2, 3, 1, 0] rfl) h
set_option maxHeartbeats 4000000 in
set_option maxRecDepth 100000 in
theorem w_M_single_15 {ws : va_W} {z : Int32} (C : Cx g A p m c b_M_single 4 ss args R_M) (hQ : ∀ (pc : Nat) (H : Heap) (locs : List Loc) (ls : Array Slot), XW g A ss ws H locs → decode b_M_single pc = .ok (.ireturn, 1) → W p l e (rmX 0 0) ss m args below meth c H locs 0 0 Q (F0 m pc ls [.int z])) : ∀ (x0 : Int32) (x1 : Int32) (y0 : Int32) (H : Heap) (locs : List Loc) (ls : Array Slot), XW g A ss ws H locs → lv_has ls 4 [(0, .int x0), (1, .int x1)] → f_M_single_15 x0 x1 y0 = some z → W p l e (rmX 0 0) ss m args below meth c H locs 0 0 Q (F0 m 15 ls [.int y0]) := by
  have ⟨⟨hx, hb, hml, hown, hts⟩, hK, hA, hN⟩ := C
  intro x0 x1 y0 H locs ls hX hl h
  rw [f_M_single_15] at h
  obtain rfl := so1 h
  exact hQ _ H locs ls hX d_M_single_15
set_option maxHeartbeats 4000000 in
set_option maxRecDepth 100000 in
theorem w_M_single {ws : va_W} {z : Int32} (C : Cx g A p m c b_M_single 4 ss args R_M) (hQ : ∀ (pc : Nat) (H : Heap) (locs : List Loc) (ls : Array Slot), XW g A ss ws H locs → decode b_M_single pc = .ok (.ireturn, 1) → W p l e (rmX 0 0) ss m args below meth c H locs 0 0 Q (F0 m pc ls [.int z])) : ∀ (x0 : Int32) (x1 : Int32) (H : Heap) (locs : List Loc) (ls : Array Slot), XW g A ss ws H locs → lv_has ls 4 [(0, .int x0), (1, .int x1)] → f_M_single x0 x1 = some z → W p l e (rmX 0 0) ss m args below meth c H locs 0 0 Q (F0 m 0 ls []) := by
  have ⟨⟨hx, hb, hml, hown, hts⟩, hK, hA, hN⟩ := C
  intro x0 x1 H locs ls hX hl h
  rw [f_M_single] at h
  refine lv_iload_n hx hb d_M_single_0 rfl (lv_at hl 0 rfl) ?_
  refine lv_bipush (v := 69) hx hb d_M_single_1 (by decide) ?_
  refine lv_icmp_ne (tgt := 16) hx hb d_M_single_3 (by decide) (fun c3 => ?_) (fun c3 => ?_)
  · have h := ite_f c3 h
    refine lv_iconst (v := 0) hx hb d_M_single_16 (by decide) ?_
    refine lv_istore_n (lv' := [(2, .int 0), (0, .int x0), (1, .int x1)]) hx hb d_M_single_17 rfl hl (by decide) rfl (fun ls hl => ?_)
    refine lv_iload_n hx hb d_M_single_18 rfl (lv_at hl 1 rfl) ?_
    refine lv_bipush (v := 105) hx hb d_M_single_19 (by decide) ?_
    refine lv_icmp_ne (tgt := 48) hx hb d_M_single_21 (by decide) (fun c21 => ?_) (fun c21 => ?_)
    · have h := ite_f c21 h
      exact w_M_single_48 C hQ FU x0 x1 0 H locs ls hX (lv_sub hl [1, 2, 0] rfl) h
    · have h := ite_t c21 h
      refine lv_iconst (v := 0) hx hb d_M_single_24 (by decide) ?_
      refine lv_istore_n (lv' := [(3, .int 0), (2, .int 0), (0, .int x0), (1, .int x1)]) hx hb d_M_single_25 rfl hl (by decide) rfl (fun ls hl => ?_)
      exact w_M_single_26 C hQ FU x0 x1 0 0 H locs ls hX (lv_sub hl [2, 3, 1, 0] rfl) h
  · have h := ite_t c3 h
    refine lv_iload_n hx hb d_M_single_6 rfl (lv_at hl 1 rfl) ?_
    refine lv_if_ne (tgt := 14) hx hb d_M_single_7 (by decide) (fun c7 => ?_) (fun c7 => ?_)
    · have h := ite_f c7 h
      refine lv_iconst (v := 0) hx hb d_M_single_14 (by decide) ?_
      exact w_M_single_15 C hQ x0 x1 0 H locs ls hX hl h
    · have h := ite_t c7 h
      refine lv_iconst (v := 1) hx hb d_M_single_10 (by decide) ?_
      refine lv_goto (tgt := 15) hx hb d_M_single_11 (by decide) ?_
      exact w_M_single_15 C hQ x0 x1 1 H locs ls hX hl h
end WALK
theorem c_M_single (l : Launch) (g : GX) (x0 : Int32) (x1 : Int32) (z : Int32) (h : f_M_single x0 x1 = some z) (ws : va_W) : MI l g y_M_single b_M_single 4 (some .int) 0 0 [.int x0, .int x1] ws z ws :=
  MI.mk (own := R_M) (by decide) rfl (Nat.le_of_ble_eq_true rfl) fun p e ss m below meth c A Q C hQ ls hX hl => w_M_single C hQ x0 x1 _ _ ls hX hl h
-- M_compare
def f_M_compare_146 (x0 : Int32) (x1 : Int32) (x2 : Int32) (x3 : Int64) (x5 : Int64) (y0 : Int32) : Option Int32 :=
    bz y0 <|
    some (y0)
def f_M_compare_69 (x0 : Int32) (x1 : Int32) (x2 : Int32) (x3 : Int64) (y0 : Int64) : Option Int32 :=
    if 74 ≤ x0 then
      if 76 ≤ x0 then
        if 78 ≤ x0 then
          lt1 (lg_cmp x3 y0) fun v1 =>
          if v1 < 0 then
            f_M_compare_146 x0 x1 x2 x3 y0 0
          else
            f_M_compare_146 x0 x1 x2 x3 y0 1
        else
          lt1 (lg_cmp x3 y0) fun v2 =>
          if 0 < v2 then
            f_M_compare_146 x0 x1 x2 x3 y0 0
          else
            f_M_compare_146 x0 x1 x2 x3 y0 1
      else
        lt1 (lg_cmp x3 y0) fun v3 =>
        if v3 ≤ 0 then
          f_M_compare_146 x0 x1 x2 x3 y0 0
        else
          f_M_compare_146 x0 x1 x2 x3 y0 1
    else
      lt1 (lg_cmp x3 y0) fun v4 =>
      if 0 ≤ v4 then
        f_M_compare_146 x0 x1 x2 x3 y0 0
      else
        f_M_compare_146 x0 x1 x2 x3 y0 1
def f_M_compare_51 (x0 : Int32) (x1 : Int32) (x2 : Int32) (y0 : Int64) : Option Int32 :=
    gzi (2) <|
    lt1 (x0 - x0 / 2 * 2) fun v1 =>
    if v1 = 0 then
      lt1 (Int32.toInt64 x2) fun v4 =>
      f_M_compare_69 x0 x1 x2 y0 v4
    else
      lt1 (Int32.toInt64 x2) fun v2 =>
      lt1 (v2 &&& 4294967295) fun v3 =>
      f_M_compare_69 x0 x1 x2 y0 v3
def f_M_compare_33 (x0 : Int32) (x1 : Int32) (x2 : Int32) (y0 : Int32) : Option Int32 :=
    bz y0 <|
    some (y0)
def f_M_compare_16 (x0 : Int32) (x1 : Int32) (x2 : Int32) (y0 : Int32) : Option Int32 :=
    bz y0 <|
    some (y0)
def f_M_compare (x0 : Int32) (x1 : Int32) (x2 : Int32) : Option Int32 :=
    if x0 = 70 then
      if x1 = x2 then
        f_M_compare_16 x0 x1 x2 1
      else
        f_M_compare_16 x0 x1 x2 0
    else
      if x0 = 71 then
        if x1 = x2 then
          f_M_compare_33 x0 x1 x2 0
        else
          f_M_compare_33 x0 x1 x2 1
      else
        gzi (2) <|
        lt1 (x0 - x0 / 2 * 2) fun v1 =>
        if v1 = 0 then
          lt1 (Int32.toInt64 x1) fun v4 =>
          f_M_compare_51 x0 x1 x2 v4
        else
          lt1 (Int32.toInt64 x1) fun v2 =>
          lt1 (v2 &&& 4294967295) fun v3 =>
          f_M_compare_51 x0 x1 x2 v3
section WALK
variable {p : Program} {l : Launch} {e : Env} {ss : State} {m : MethodId} {args : Array Value} {below : List Frame} {meth : Method} {c : Code} {Q : State → Prop} {g : GX} {A : Nat → Prop}
set_option maxHeartbeats 4000000 in
set_option maxRecDepth 100000 in
theorem w_M_compare_146 {ws : va_W} {z : Int32} (C : Cx g A p m c b_M_compare 7 ss args R_M) (hQ : ∀ (pc : Nat) (H : Heap) (locs : List Loc) (ls : Array Slot), XW g A ss ws H locs → (z = 0 ∨ z = 1) → decode b_M_compare pc = .ok (.ireturn, 1) → W p l e (rmX 0 0) ss m args below meth c H locs 0 0 Q (F0 m pc ls [.int z])) : ∀ (x0 : Int32) (x1 : Int32) (x2 : Int32) (x3 : Int64) (x5 : Int64) (y0 : Int32) (H : Heap) (locs : List Loc) (ls : Array Slot), XW g A ss ws H locs → lv_has ls 7 [(0, .int x0), (1, .int x1), (2, .int x2), (3, .long x3), (5, .long x5)] → f_M_compare_146 x0 x1 x2 x3 x5 y0 = some z → W p l e (rmX 0 0) ss m args below meth c H locs 0 0 Q (F0 m 146 ls [.int y0]) := by
  have ⟨⟨hx, hb, hml, hown, hts⟩, hK, hA, hN⟩ := C
  intro x0 x1 x2 x3 x5 y0 H locs ls hX hl h
  rw [f_M_compare_146] at h
  obtain ⟨hz, h⟩ := bz_e h
  obtain rfl := so1 h
  exact hQ _ H locs ls hX hz d_M_compare_146
set_option maxHeartbeats 4000000 in
set_option maxRecDepth 100000 in
theorem w_M_compare_69 {ws : va_W} {z : Int32} (C : Cx g A p m c b_M_compare 7 ss args R_M) (hQ : ∀ (pc : Nat) (H : Heap) (locs : List Loc) (ls : Array Slot), XW g A ss ws H locs → (z = 0 ∨ z = 1) → decode b_M_compare pc = .ok (.ireturn, 1) → W p l e (rmX 0 0) ss m args below meth c H locs 0 0 Q (F0 m pc ls [.int z])) : ∀ (x0 : Int32) (x1 : Int32) (x2 : Int32) (x3 : Int64) (y0 : Int64) (H : Heap) (locs : List Loc) (ls : Array Slot), XW g A ss ws H locs → lv_has ls 7 [(0, .int x0), (1, .int x1), (2, .int x2), (3, .long x3)] → f_M_compare_69 x0 x1 x2 x3 y0 = some z → W p l e (rmX 0 0) ss m args below meth c H locs 0 0 Q (F0 m 69 ls [.long y0]) := by
  have ⟨⟨hx, hb, hml, hown, hts⟩, hK, hA, hN⟩ := C
  intro x0 x1 x2 x3 y0 H locs ls hX hl h
  rw [f_M_compare_69] at h
  refine lv_lstore (lv' := [(5, .long y0), (0, .int x0), (1, .int x1), (2, .int x2), (3, .long x3)]) hx hb d_M_compare_69 hl (by decide) rfl (fun ls hl => ?_)
  refine lv_iload_n hx hb d_M_compare_71 rfl (lv_at hl 1 rfl) ?_
  refine lv_bipush (v := 74) hx hb d_M_compare_72 (by decide) ?_
  refine lv_icmp_ge (tgt := 92) hx hb d_M_compare_74 (by decide) (fun c74 => ?_) (fun c74 => ?_)
  · have h := ite_t c74 h
    refine lv_iload_n hx hb d_M_compare_92 rfl (lv_at hl 1 rfl) ?_
    refine lv_bipush (v := 76) hx hb d_M_compare_93 (by decide) ?_
    refine lv_icmp_ge (tgt := 113) hx hb d_M_compare_95 (by decide) (fun c95 => ?_) (fun c95 => ?_)
    · have h := ite_t c95 h
      refine lv_iload_n hx hb d_M_compare_113 rfl (lv_at hl 1 rfl) ?_
      refine lv_bipush (v := 78) hx hb d_M_compare_114 (by decide) ?_
      refine lv_icmp_ge (tgt := 134) hx hb d_M_compare_116 (by decide) (fun c116 => ?_) (fun c116 => ?_)
      · have h := ite_t c116 h
        refine lv_lload_n hx hb d_M_compare_134 rfl (lv_at hl 4 rfl) ?_
        refine lv_lload hx hb d_M_compare_135 (lv_at hl 0 rfl) ?_
        obtain ⟨v1, ev1, h⟩ := lt1_e h
        refine x_lcmp hx hb d_M_compare_137 ev1 ?_
        refine lv_if_lt (tgt := 145) hx hb d_M_compare_138 (by decide) (fun c138 => ?_) (fun c138 => ?_)
        · have h := ite_t c138 h
          refine lv_iconst (v := 0) hx hb d_M_compare_145 (by decide) ?_
          exact w_M_compare_146 C hQ x0 x1 x2 x3 y0 0 H locs ls hX (lv_sub hl [1, 2, 3, 4, 0] rfl) h
        · have h := ite_f c138 h
          refine lv_iconst (v := 1) hx hb d_M_compare_141 (by decide) ?_
          refine lv_goto (tgt := 146) hx hb d_M_compare_142 (by decide) ?_
          exact w_M_compare_146 C hQ x0 x1 x2 x3 y0 1 H locs ls hX (lv_sub hl [1, 2, 3, 4, 0] rfl) h
      · have h := ite_f c116 h
        refine lv_lload_n hx hb d_M_compare_119 rfl (lv_at hl 4 rfl) ?_
        refine lv_lload hx hb d_M_compare_120 (lv_at hl 0 rfl) ?_
        obtain ⟨v2, ev2, h⟩ := lt1_e h
        refine x_lcmp hx hb d_M_compare_122 ev2 ?_
        refine lv_if_gt (tgt := 130) hx hb d_M_compare_123 (by decide) (fun c123 => ?_) (fun c123 => ?_)
        · have h := ite_t c123 h
          refine lv_iconst (v := 0) hx hb d_M_compare_130 (by decide) ?_
          refine lv_goto (tgt := 146) hx hb d_M_compare_131 (by decide) ?_
          exact w_M_compare_146 C hQ x0 x1 x2 x3 y0 0 H locs ls hX (lv_sub hl [1, 2, 3, 4, 0] rfl) h
        · have h := ite_f c123 h
          refine lv_iconst (v := 1) hx hb d_M_compare_126 (by decide) ?_
          refine lv_goto (tgt := 146) hx hb d_M_compare_127 (by decide) ?_
          exact w_M_compare_146 C hQ x0 x1 x2 x3 y0 1 H locs ls hX (lv_sub hl [1, 2, 3, 4, 0] rfl) h
    · have h := ite_f c95 h
      refine lv_lload_n hx hb d_M_compare_98 rfl (lv_at hl 4 rfl) ?_
      refine lv_lload hx hb d_M_compare_99 (lv_at hl 0 rfl) ?_
      obtain ⟨v3, ev3, h⟩ := lt1_e h
      refine x_lcmp hx hb d_M_compare_101 ev3 ?_
      refine lv_if_le (tgt := 109) hx hb d_M_compare_102 (by decide) (fun c102 => ?_) (fun c102 => ?_)
      · have h := ite_t c102 h
        refine lv_iconst (v := 0) hx hb d_M_compare_109 (by decide) ?_
        refine lv_goto (tgt := 146) hx hb d_M_compare_110 (by decide) ?_
        exact w_M_compare_146 C hQ x0 x1 x2 x3 y0 0 H locs ls hX (lv_sub hl [1, 2, 3, 4, 0] rfl) h
      · have h := ite_f c102 h
        refine lv_iconst (v := 1) hx hb d_M_compare_105 (by decide) ?_
        refine lv_goto (tgt := 146) hx hb d_M_compare_106 (by decide) ?_
        exact w_M_compare_146 C hQ x0 x1 x2 x3 y0 1 H locs ls hX (lv_sub hl [1, 2, 3, 4, 0] rfl) h
  · have h := ite_f c74 h
    refine lv_lload_n hx hb d_M_compare_77 rfl (lv_at hl 4 rfl) ?_
    refine lv_lload hx hb d_M_compare_78 (lv_at hl 0 rfl) ?_
    obtain ⟨v4, ev4, h⟩ := lt1_e h
    refine x_lcmp hx hb d_M_compare_80 ev4 ?_
    refine lv_if_ge (tgt := 88) hx hb d_M_compare_81 (by decide) (fun c81 => ?_) (fun c81 => ?_)
    · have h := ite_t c81 h
      refine lv_iconst (v := 0) hx hb d_M_compare_88 (by decide) ?_
      refine lv_goto (tgt := 146) hx hb d_M_compare_89 (by decide) ?_
      exact w_M_compare_146 C hQ x0 x1 x2 x3 y0 0 H locs ls hX (lv_sub hl [1, 2, 3, 4, 0] rfl) h
    · have h := ite_f c81 h
      refine lv_iconst (v := 1) hx hb d_M_compare_84 (by decide) ?_
      refine lv_goto (tgt := 146) hx hb d_M_compare_85 (by decide) ?_
      exact w_M_compare_146 C hQ x0 x1 x2 x3 y0 1 H locs ls hX (lv_sub hl [1, 2, 3, 4, 0] rfl) h
set_option maxHeartbeats 4000000 in
set_option maxRecDepth 100000 in
theorem w_M_compare_51 {ws : va_W} {z : Int32} (C : Cx g A p m c b_M_compare 7 ss args R_M) (hQ : ∀ (pc : Nat) (H : Heap) (locs : List Loc) (ls : Array Slot), XW g A ss ws H locs → (z = 0 ∨ z = 1) → decode b_M_compare pc = .ok (.ireturn, 1) → W p l e (rmX 0 0) ss m args below meth c H locs 0 0 Q (F0 m pc ls [.int z])) : ∀ (x0 : Int32) (x1 : Int32) (x2 : Int32) (y0 : Int64) (H : Heap) (locs : List Loc) (ls : Array Slot), XW g A ss ws H locs → lv_has ls 7 [(0, .int x0), (1, .int x1), (2, .int x2)] → f_M_compare_51 x0 x1 x2 y0 = some z → W p l e (rmX 0 0) ss m args below meth c H locs 0 0 Q (F0 m 51 ls [.long y0]) := by
  have ⟨⟨hx, hb, hml, hown, hts⟩, hK, hA, hN⟩ := C
  intro x0 x1 x2 y0 H locs ls hX hl h
  rw [f_M_compare_51] at h
  refine lv_lstore_n (lv' := [(3, .long y0), (0, .int x0), (1, .int x1), (2, .int x2)]) hx hb d_M_compare_51 rfl hl (by decide) rfl (fun ls hl => ?_)
  refine lv_iload_n hx hb d_M_compare_52 rfl (lv_at hl 1 rfl) ?_
  refine lv_iconst (v := 2) hx hb d_M_compare_53 (by decide) ?_
  obtain ⟨hz54, h⟩ := gzi_e h
  obtain ⟨v1, ev1, h⟩ := lt1_e h
  refine x_irem hx hb d_M_compare_54 hz54 ev1 ?_
  refine lv_if_ne (tgt := 63) hx hb d_M_compare_55 (by decide) (fun c55 => ?_) (fun c55 => ?_)
  · have h := ite_f c55 h
    refine lv_iload_n hx hb d_M_compare_63 rfl (lv_at hl 3 rfl) ?_
    obtain ⟨v2, ev2, h⟩ := lt1_e h
    refine lv_i2l hx hb d_M_compare_64 ev2.symm ?_
    refine lv_ldc2 (v := 4294967295) hx hb hown (hts _ m_constantLong_M_282) d_M_compare_65 ?_
    obtain ⟨v3, ev3, h⟩ := lt1_e h
    refine x_land hx hb d_M_compare_68 ev3 ?_
    exact w_M_compare_69 C hQ x0 x1 x2 y0 v3 H locs ls hX (lv_sub hl [1, 2, 3, 0] rfl) h
  · have h := ite_t c55 h
    refine lv_iload_n hx hb d_M_compare_58 rfl (lv_at hl 3 rfl) ?_
    obtain ⟨v4, ev4, h⟩ := lt1_e h
    refine lv_i2l hx hb d_M_compare_59 ev4.symm ?_
    refine lv_goto (tgt := 69) hx hb d_M_compare_60 (by decide) ?_
    exact w_M_compare_69 C hQ x0 x1 x2 y0 v4 H locs ls hX (lv_sub hl [1, 2, 3, 0] rfl) h
set_option maxHeartbeats 4000000 in
set_option maxRecDepth 100000 in
theorem w_M_compare_33 {ws : va_W} {z : Int32} (C : Cx g A p m c b_M_compare 7 ss args R_M) (hQ : ∀ (pc : Nat) (H : Heap) (locs : List Loc) (ls : Array Slot), XW g A ss ws H locs → (z = 0 ∨ z = 1) → decode b_M_compare pc = .ok (.ireturn, 1) → W p l e (rmX 0 0) ss m args below meth c H locs 0 0 Q (F0 m pc ls [.int z])) : ∀ (x0 : Int32) (x1 : Int32) (x2 : Int32) (y0 : Int32) (H : Heap) (locs : List Loc) (ls : Array Slot), XW g A ss ws H locs → lv_has ls 7 [(0, .int x0), (1, .int x1), (2, .int x2)] → f_M_compare_33 x0 x1 x2 y0 = some z → W p l e (rmX 0 0) ss m args below meth c H locs 0 0 Q (F0 m 33 ls [.int y0]) := by
  have ⟨⟨hx, hb, hml, hown, hts⟩, hK, hA, hN⟩ := C
  intro x0 x1 x2 y0 H locs ls hX hl h
  rw [f_M_compare_33] at h
  obtain ⟨hz, h⟩ := bz_e h
  obtain rfl := so1 h
  exact hQ _ H locs ls hX hz d_M_compare_33
set_option maxHeartbeats 4000000 in
set_option maxRecDepth 100000 in
theorem w_M_compare_16 {ws : va_W} {z : Int32} (C : Cx g A p m c b_M_compare 7 ss args R_M) (hQ : ∀ (pc : Nat) (H : Heap) (locs : List Loc) (ls : Array Slot), XW g A ss ws H locs → (z = 0 ∨ z = 1) → decode b_M_compare pc = .ok (.ireturn, 1) → W p l e (rmX 0 0) ss m args below meth c H locs 0 0 Q (F0 m pc ls [.int z])) : ∀ (x0 : Int32) (x1 : Int32) (x2 : Int32) (y0 : Int32) (H : Heap) (locs : List Loc) (ls : Array Slot), XW g A ss ws H locs → lv_has ls 7 [(0, .int x0), (1, .int x1), (2, .int x2)] → f_M_compare_16 x0 x1 x2 y0 = some z → W p l e (rmX 0 0) ss m args below meth c H locs 0 0 Q (F0 m 16 ls [.int y0]) := by
  have ⟨⟨hx, hb, hml, hown, hts⟩, hK, hA, hN⟩ := C
  intro x0 x1 x2 y0 H locs ls hX hl h
  rw [f_M_compare_16] at h
  obtain ⟨hz, h⟩ := bz_e h
  obtain rfl := so1 h
  exact hQ _ H locs ls hX hz d_M_compare_16
set_option maxHeartbeats 4000000 in
set_option maxRecDepth 100000 in
theorem w_M_compare {ws : va_W} {z : Int32} (C : Cx g A p m c b_M_compare 7 ss args R_M) (hQ : ∀ (pc : Nat) (H : Heap) (locs : List Loc) (ls : Array Slot), XW g A ss ws H locs → (z = 0 ∨ z = 1) → decode b_M_compare pc = .ok (.ireturn, 1) → W p l e (rmX 0 0) ss m args below meth c H locs 0 0 Q (F0 m pc ls [.int z])) : ∀ (x0 : Int32) (x1 : Int32) (x2 : Int32) (H : Heap) (locs : List Loc) (ls : Array Slot), XW g A ss ws H locs → lv_has ls 7 [(0, .int x0), (1, .int x1), (2, .int x2)] → f_M_compare x0 x1 x2 = some z → W p l e (rmX 0 0) ss m args below meth c H locs 0 0 Q (F0 m 0 ls []) := by
  have ⟨⟨hx, hb, hml, hown, hts⟩, hK, hA, hN⟩ := C
  intro x0 x1 x2 H locs ls hX hl h
  rw [f_M_compare] at h
  refine lv_iload_n hx hb d_M_compare_0 rfl (lv_at hl 0 rfl) ?_
  refine lv_bipush (v := 70) hx hb d_M_compare_1 (by decide) ?_
  refine lv_icmp_ne (tgt := 17) hx hb d_M_compare_3 (by decide) (fun c3 => ?_) (fun c3 => ?_)
  · have h := ite_f c3 h
    refine lv_iload_n hx hb d_M_compare_17 rfl (lv_at hl 0 rfl) ?_
    refine lv_bipush (v := 71) hx hb d_M_compare_18 (by decide) ?_
    refine lv_icmp_ne (tgt := 34) hx hb d_M_compare_20 (by decide) (fun c20 => ?_) (fun c20 => ?_)
    · have h := ite_f c20 h
      refine lv_iload_n hx hb d_M_compare_34 rfl (lv_at hl 0 rfl) ?_
      refine lv_iconst (v := 2) hx hb d_M_compare_35 (by decide) ?_
      obtain ⟨hz36, h⟩ := gzi_e h
      obtain ⟨v1, ev1, h⟩ := lt1_e h
      refine x_irem hx hb d_M_compare_36 hz36 ev1 ?_
      refine lv_if_ne (tgt := 45) hx hb d_M_compare_37 (by decide) (fun c37 => ?_) (fun c37 => ?_)
      · have h := ite_f c37 h
        refine lv_iload_n hx hb d_M_compare_45 rfl (lv_at hl 1 rfl) ?_
        obtain ⟨v2, ev2, h⟩ := lt1_e h
        refine lv_i2l hx hb d_M_compare_46 ev2.symm ?_
        refine lv_ldc2 (v := 4294967295) hx hb hown (hts _ m_constantLong_M_282) d_M_compare_47 ?_
        obtain ⟨v3, ev3, h⟩ := lt1_e h
        refine x_land hx hb d_M_compare_50 ev3 ?_
        exact w_M_compare_51 C hQ x0 x1 x2 v3 H locs ls hX hl h
      · have h := ite_t c37 h
        refine lv_iload_n hx hb d_M_compare_40 rfl (lv_at hl 1 rfl) ?_
        obtain ⟨v4, ev4, h⟩ := lt1_e h
        refine lv_i2l hx hb d_M_compare_41 ev4.symm ?_
        refine lv_goto (tgt := 51) hx hb d_M_compare_42 (by decide) ?_
        exact w_M_compare_51 C hQ x0 x1 x2 v4 H locs ls hX hl h
    · have h := ite_t c20 h
      refine lv_iload_n hx hb d_M_compare_23 rfl (lv_at hl 1 rfl) ?_
      refine lv_iload_n hx hb d_M_compare_24 rfl (lv_at hl 2 rfl) ?_
      refine lv_icmp_eq (tgt := 32) hx hb d_M_compare_25 (by decide) (fun c25 => ?_) (fun c25 => ?_)
      · have h := ite_t c25 h
        refine lv_iconst (v := 0) hx hb d_M_compare_32 (by decide) ?_
        exact w_M_compare_33 C hQ x0 x1 x2 0 H locs ls hX hl h
      · have h := ite_f c25 h
        refine lv_iconst (v := 1) hx hb d_M_compare_28 (by decide) ?_
        refine lv_goto (tgt := 33) hx hb d_M_compare_29 (by decide) ?_
        exact w_M_compare_33 C hQ x0 x1 x2 1 H locs ls hX hl h
  · have h := ite_t c3 h
    refine lv_iload_n hx hb d_M_compare_6 rfl (lv_at hl 1 rfl) ?_
    refine lv_iload_n hx hb d_M_compare_7 rfl (lv_at hl 2 rfl) ?_
    refine lv_icmp_ne (tgt := 15) hx hb d_M_compare_8 (by decide) (fun c8 => ?_) (fun c8 => ?_)
    · have h := ite_f c8 h
      refine lv_iconst (v := 0) hx hb d_M_compare_15 (by decide) ?_
      exact w_M_compare_16 C hQ x0 x1 x2 0 H locs ls hX hl h
    · have h := ite_t c8 h
      refine lv_iconst (v := 1) hx hb d_M_compare_11 (by decide) ?_
      refine lv_goto (tgt := 16) hx hb d_M_compare_12 (by decide) ?_
      exact w_M_compare_16 C hQ x0 x1 x2 1 H locs ls hX hl h
end WALK
theorem c_M_compare (l : Launch) (g : GX) (x0 : Int32) (x1 : Int32) (x2 : Int32) (z : Int32) (h : f_M_compare x0 x1 x2 = some z) (ws : va_W) : MI l g y_M_compare b_M_compare 7 (some .boolean) 0 0 [.int x0, .int x1, .int x2] ws z ws :=
  MI.mkZ (own := R_M) (by decide) rfl (Nat.le_of_ble_eq_true rfl) fun p e ss m below meth c A Q C hQ ls hX hl => w_M_compare C hQ x0 x1 x2 _ _ ls hX hl h
-- M_reckon
def f_M_reckon_102 (x0 : Int32) (x1 : Int32) (x2 : Int32) (x3 : Int64) (x5 : Int64) (y0 : Int32) : Option Int32 :=
    some (y0)
def f_M_reckon (x0 : Int32) (x1 : Int32) (x2 : Int32) : Option Int32 :=
    lt1 (Int32.toInt64 x1) fun v1 =>
    lt1 (v1 &&& 4294967295) fun v2 =>
    lt1 (Int32.toInt64 x2) fun v3 =>
    lt1 (v3 &&& 4294967295) fun v4 =>
    if x0 = 106 then
      lt1 (x1 + x2) fun v5 =>
      some (v5)
    else if x0 = 107 then
      lt1 (x1 - x2) fun v6 =>
      some (v6)
    else if x0 = 108 then
      lt1 (x1 * x2) fun v7 =>
      some (v7)
    else if x0 = 109 then
      gzi (x2) <|
      lt1 (x1 / x2) fun v8 =>
      some (v8)
    else if x0 = 110 then
      gzl (v4) <|
      lt1 (v2 / v4) fun v9 =>
      lt1 (Int64.toInt32 v9) fun v10 =>
      some (v10)
    else if x0 = 111 then
      if x2 = (-1) then
        f_M_reckon_102 x0 x1 x2 v2 v4 0
      else
        gzi (x2) <|
        lt1 (x1 - x1 / x2 * x2) fun v11 =>
        f_M_reckon_102 x0 x1 x2 v2 v4 v11
    else if x0 = 112 then
      gzl (v4) <|
      lt1 (v2 - v2 / v4 * v4) fun v12 =>
      lt1 (Int64.toInt32 v12) fun v13 =>
      some (v13)
    else if x0 = 113 then
      lt1 (x1 &&& x2) fun v14 =>
      some (v14)
    else if x0 = 114 then
      lt1 (x1 ||| x2) fun v15 =>
      some (v15)
    else 
      lt1 (x1 ^^^ x2) fun v16 =>
      some (v16)
section WALK
variable {p : Program} {l : Launch} {e : Env} {ss : State} {m : MethodId} {args : Array Value} {below : List Frame} {meth : Method} {c : Code} {Q : State → Prop} {g : GX} {A : Nat → Prop}
set_option maxHeartbeats 4000000 in
set_option maxRecDepth 100000 in
theorem w_M_reckon_102 {ws : va_W} {z : Int32} (C : Cx g A p m c b_M_reckon 7 ss args R_M) (hQ : ∀ (pc : Nat) (H : Heap) (locs : List Loc) (ls : Array Slot), XW g A ss ws H locs → decode b_M_reckon pc = .ok (.ireturn, 1) → W p l e (rmX 0 0) ss m args below meth c H locs 0 0 Q (F0 m pc ls [.int z])) : ∀ (x0 : Int32) (x1 : Int32) (x2 : Int32) (x3 : Int64) (x5 : Int64) (y0 : Int32) (H : Heap) (locs : List Loc) (ls : Array Slot), XW g A ss ws H locs → lv_has ls 7 [(0, .int x0), (1, .int x1), (2, .int x2), (3, .long x3), (5, .long x5)] → f_M_reckon_102 x0 x1 x2 x3 x5 y0 = some z → W p l e (rmX 0 0) ss m args below meth c H locs 0 0 Q (F0 m 102 ls [.int y0]) := by
  have ⟨⟨hx, hb, hml, hown, hts⟩, hK, hA, hN⟩ := C
  intro x0 x1 x2 x3 x5 y0 H locs ls hX hl h
  rw [f_M_reckon_102] at h
  obtain rfl := so1 h
  exact hQ _ H locs ls hX d_M_reckon_102
set_option maxHeartbeats 4000000 in
set_option maxRecDepth 100000 in
theorem w_M_reckon {ws : va_W} {z : Int32} (C : Cx g A p m c b_M_reckon 7 ss args R_M) (hQ : ∀ (pc : Nat) (H : Heap) (locs : List Loc) (ls : Array Slot), XW g A ss ws H locs → decode b_M_reckon pc = .ok (.ireturn, 1) → W p l e (rmX 0 0) ss m args below meth c H locs 0 0 Q (F0 m pc ls [.int z])) : ∀ (x0 : Int32) (x1 : Int32) (x2 : Int32) (H : Heap) (locs : List Loc) (ls : Array Slot), XW g A ss ws H locs → lv_has ls 7 [(0, .int x0), (1, .int x1), (2, .int x2)] → f_M_reckon x0 x1 x2 = some z → W p l e (rmX 0 0) ss m args below meth c H locs 0 0 Q (F0 m 0 ls []) := by
  have ⟨⟨hx, hb, hml, hown, hts⟩, hK, hA, hN⟩ := C
  intro x0 x1 x2 H locs ls hX hl h
  rw [f_M_reckon] at h
  refine lv_iload_n hx hb d_M_reckon_0 rfl (lv_at hl 1 rfl) ?_
  obtain ⟨v1, ev1, h⟩ := lt1_e h
  refine lv_i2l hx hb d_M_reckon_1 ev1.symm ?_
  refine lv_ldc2 (v := 4294967295) hx hb hown (hts _ m_constantLong_M_282) d_M_reckon_2 ?_
  obtain ⟨v2, ev2, h⟩ := lt1_e h
  refine x_land hx hb d_M_reckon_5 ev2 ?_
  refine lv_lstore_n (lv' := [(3, .long v2), (0, .int x0), (1, .int x1), (2, .int x2)]) hx hb d_M_reckon_6 rfl hl (by decide) rfl (fun ls hl => ?_)
  refine lv_iload_n hx hb d_M_reckon_7 rfl (lv_at hl 3 rfl) ?_
  obtain ⟨v3, ev3, h⟩ := lt1_e h
  refine lv_i2l hx hb d_M_reckon_8 ev3.symm ?_
  refine lv_ldc2 (v := 4294967295) hx hb hown (hts _ m_constantLong_M_282) d_M_reckon_9 ?_
  obtain ⟨v4, ev4, h⟩ := lt1_e h
  refine x_land hx hb d_M_reckon_12 ev4 ?_
  refine lv_lstore (lv' := [(5, .long v4), (3, .long v2), (0, .int x0), (1, .int x1), (2, .int x2)]) hx hb d_M_reckon_13 hl (by decide) rfl (fun ls hl => ?_)
  refine lv_iload_n hx hb d_M_reckon_15 rfl (lv_at hl 2 rfl) ?_
  by_cases c16_0 : x0 = 106
  · have h := ite_t c16_0 h
    refine lv_tableIn (tgt := 68) hx hb d_M_reckon_16 (by rw [c16_0]; decide) (by rw [c16_0]; decide) (by rw [c16_0]; rfl) (by decide) ?_
    refine lv_iload_n hx hb d_M_reckon_68 rfl (lv_at hl 3 rfl) ?_
    refine lv_iload_n hx hb d_M_reckon_69 rfl (lv_at hl 4 rfl) ?_
    obtain ⟨v5, ev5, h⟩ := lt1_e h
    refine x_iadd hx hb d_M_reckon_70 ev5 ?_
    obtain rfl := so1 h
    exact hQ _ H locs ls hX d_M_reckon_71
  have h := ite_f c16_0 h
  by_cases c16_1 : x0 = 107
  · have h := ite_t c16_1 h
    refine lv_tableIn (tgt := 72) hx hb d_M_reckon_16 (by rw [c16_1]; decide) (by rw [c16_1]; decide) (by rw [c16_1]; rfl) (by decide) ?_
    refine lv_iload_n hx hb d_M_reckon_72 rfl (lv_at hl 3 rfl) ?_
    refine lv_iload_n hx hb d_M_reckon_73 rfl (lv_at hl 4 rfl) ?_
    obtain ⟨v6, ev6, h⟩ := lt1_e h
    refine x_isub hx hb d_M_reckon_74 ev6 ?_
    obtain rfl := so1 h
    exact hQ _ H locs ls hX d_M_reckon_75
  have h := ite_f c16_1 h
  by_cases c16_2 : x0 = 108
  · have h := ite_t c16_2 h
    refine lv_tableIn (tgt := 76) hx hb d_M_reckon_16 (by rw [c16_2]; decide) (by rw [c16_2]; decide) (by rw [c16_2]; rfl) (by decide) ?_
    refine lv_iload_n hx hb d_M_reckon_76 rfl (lv_at hl 3 rfl) ?_
    refine lv_iload_n hx hb d_M_reckon_77 rfl (lv_at hl 4 rfl) ?_
    obtain ⟨v7, ev7, h⟩ := lt1_e h
    refine x_imul hx hb d_M_reckon_78 ev7 ?_
    obtain rfl := so1 h
    exact hQ _ H locs ls hX d_M_reckon_79
  have h := ite_f c16_2 h
  by_cases c16_3 : x0 = 109
  · have h := ite_t c16_3 h
    refine lv_tableIn (tgt := 80) hx hb d_M_reckon_16 (by rw [c16_3]; decide) (by rw [c16_3]; decide) (by rw [c16_3]; rfl) (by decide) ?_
    refine lv_iload_n hx hb d_M_reckon_80 rfl (lv_at hl 3 rfl) ?_
    refine lv_iload_n hx hb d_M_reckon_81 rfl (lv_at hl 4 rfl) ?_
    obtain ⟨hz82, h⟩ := gzi_e h
    obtain ⟨v8, ev8, h⟩ := lt1_e h
    refine x_idiv hx hb d_M_reckon_82 hz82 ev8 ?_
    obtain rfl := so1 h
    exact hQ _ H locs ls hX d_M_reckon_83
  have h := ite_f c16_3 h
  by_cases c16_4 : x0 = 110
  · have h := ite_t c16_4 h
    refine lv_tableIn (tgt := 84) hx hb d_M_reckon_16 (by rw [c16_4]; decide) (by rw [c16_4]; decide) (by rw [c16_4]; rfl) (by decide) ?_
    refine lv_lload_n hx hb d_M_reckon_84 rfl (lv_at hl 1 rfl) ?_
    refine lv_lload hx hb d_M_reckon_85 (lv_at hl 0 rfl) ?_
    obtain ⟨hz87, h⟩ := gzl_e h
    obtain ⟨v9, ev9, h⟩ := lt1_e h
    refine x_ldiv hx hb d_M_reckon_87 hz87 ev9 ?_
    obtain ⟨v10, ev10, h⟩ := lt1_e h
    refine lv_l2i hx hb d_M_reckon_88 ev10.symm ?_
    obtain rfl := so1 h
    exact hQ _ H locs ls hX d_M_reckon_89
  have h := ite_f c16_4 h
  by_cases c16_5 : x0 = 111
  · have h := ite_t c16_5 h
    refine lv_tableIn (tgt := 90) hx hb d_M_reckon_16 (by rw [c16_5]; decide) (by rw [c16_5]; decide) (by rw [c16_5]; rfl) (by decide) ?_
    refine lv_iload_n hx hb d_M_reckon_90 rfl (lv_at hl 4 rfl) ?_
    refine lv_iconst (v := (-1)) hx hb d_M_reckon_91 (by decide) ?_
    refine lv_icmp_ne (tgt := 99) hx hb d_M_reckon_92 (by decide) (fun c92 => ?_) (fun c92 => ?_)
    · have h := ite_f c92 h
      refine lv_iload_n hx hb d_M_reckon_99 rfl (lv_at hl 3 rfl) ?_
      refine lv_iload_n hx hb d_M_reckon_100 rfl (lv_at hl 4 rfl) ?_
      obtain ⟨hz101, h⟩ := gzi_e h
      obtain ⟨v11, ev11, h⟩ := lt1_e h
      refine x_irem hx hb d_M_reckon_101 hz101 ev11 ?_
      exact w_M_reckon_102 C hQ x0 x1 x2 v2 v4 v11 H locs ls hX (lv_sub hl [2, 3, 4, 1, 0] rfl) h
    · have h := ite_t c92 h
      refine lv_iconst (v := 0) hx hb d_M_reckon_95 (by decide) ?_
      refine lv_goto (tgt := 102) hx hb d_M_reckon_96 (by decide) ?_
      exact w_M_reckon_102 C hQ x0 x1 x2 v2 v4 0 H locs ls hX (lv_sub hl [2, 3, 4, 1, 0] rfl) h
  have h := ite_f c16_5 h
  by_cases c16_6 : x0 = 112
  · have h := ite_t c16_6 h
    refine lv_tableIn (tgt := 103) hx hb d_M_reckon_16 (by rw [c16_6]; decide) (by rw [c16_6]; decide) (by rw [c16_6]; rfl) (by decide) ?_
    refine lv_lload_n hx hb d_M_reckon_103 rfl (lv_at hl 1 rfl) ?_
    refine lv_lload hx hb d_M_reckon_104 (lv_at hl 0 rfl) ?_
    obtain ⟨hz106, h⟩ := gzl_e h
    obtain ⟨v12, ev12, h⟩ := lt1_e h
    refine x_lrem hx hb d_M_reckon_106 hz106 ev12 ?_
    obtain ⟨v13, ev13, h⟩ := lt1_e h
    refine lv_l2i hx hb d_M_reckon_107 ev13.symm ?_
    obtain rfl := so1 h
    exact hQ _ H locs ls hX d_M_reckon_108
  have h := ite_f c16_6 h
  by_cases c16_7 : x0 = 113
  · have h := ite_t c16_7 h
    refine lv_tableIn (tgt := 109) hx hb d_M_reckon_16 (by rw [c16_7]; decide) (by rw [c16_7]; decide) (by rw [c16_7]; rfl) (by decide) ?_
    refine lv_iload_n hx hb d_M_reckon_109 rfl (lv_at hl 3 rfl) ?_
    refine lv_iload_n hx hb d_M_reckon_110 rfl (lv_at hl 4 rfl) ?_
    obtain ⟨v14, ev14, h⟩ := lt1_e h
    refine x_iand hx hb d_M_reckon_111 ev14 ?_
    obtain rfl := so1 h
    exact hQ _ H locs ls hX d_M_reckon_112
  have h := ite_f c16_7 h
  by_cases c16_8 : x0 = 114
  · have h := ite_t c16_8 h
    refine lv_tableIn (tgt := 113) hx hb d_M_reckon_16 (by rw [c16_8]; decide) (by rw [c16_8]; decide) (by rw [c16_8]; rfl) (by decide) ?_
    refine lv_iload_n hx hb d_M_reckon_113 rfl (lv_at hl 3 rfl) ?_
    refine lv_iload_n hx hb d_M_reckon_114 rfl (lv_at hl 4 rfl) ?_
    obtain ⟨v15, ev15, h⟩ := lt1_e h
    refine x_ior hx hb d_M_reckon_115 ev15 ?_
    obtain rfl := so1 h
    exact hQ _ H locs ls hX d_M_reckon_116
  have h := ite_f c16_8 h
  have hz := And.intro trivial trivial
  have hn0 := lv_neT c16_0 (a := 106) (by decide)
  have hn1 := lv_neT c16_1 (a := 107) (by decide)
  have hn2 := lv_neT c16_2 (a := 108) (by decide)
  have hn3 := lv_neT c16_3 (a := 109) (by decide)
  have hn4 := lv_neT c16_4 (a := 110) (by decide)
  have hn5 := lv_neT c16_5 (a := 111) (by decide)
  have hn6 := lv_neT c16_6 (a := 112) (by decide)
  have hn7 := lv_neT c16_7 (a := 113) (by decide)
  have hn8 := lv_neT c16_8 (a := 114) (by decide)
  refine lv_tableOut (tgt := 117) hx hb d_M_reckon_16 (by omega) (by decide) ?_
  refine lv_iload_n hx hb d_M_reckon_117 rfl (lv_at hl 3 rfl) ?_
  refine lv_iload_n hx hb d_M_reckon_118 rfl (lv_at hl 4 rfl) ?_
  obtain ⟨v16, ev16, h⟩ := lt1_e h
  refine x_ixor hx hb d_M_reckon_119 ev16 ?_
  obtain rfl := so1 h
  exact hQ _ H locs ls hX d_M_reckon_120
end WALK
theorem c_M_reckon (l : Launch) (g : GX) (x0 : Int32) (x1 : Int32) (x2 : Int32) (z : Int32) (h : f_M_reckon x0 x1 x2 = some z) (ws : va_W) : MI l g y_M_reckon b_M_reckon 7 (some .int) 0 0 [.int x0, .int x1, .int x2] ws z ws :=
  MI.mk (own := R_M) (by decide) rfl (Nat.le_of_ble_eq_true rfl) fun p e ss m below meth c A Q C hQ ls hX hl => w_M_reckon C hQ x0 x1 x2 _ _ ls hX hl h
-- M_shift
def f_M_shift_94 (x0 : Int32) (x1 : Int32) (x2 : Int32) (x3 : Int32) (x4 : Int32) (x5 : Int32) (y0 : Int32) : Option Int32 :=
    some (y0)
def f_M_shift_43 (x0 : Int32) (x1 : Int32) (x2 : Int32) (x3 : Int32) (x4 : Int32) (y0 : Int32) : Option Int32 :=
    if x0 = 116 then
      lt1 (x1 <<< (x3 &&& 31)) fun v3 =>
      f_M_shift_94 x0 x1 x2 x3 x4 y0 v3
    else
      if x0 = 117 then
        lt1 (x1 >>> (x3 &&& 31)) fun v2 =>
        f_M_shift_94 x0 x1 x2 x3 x4 y0 v2
      else
        if x0 = 118 then
          lt1 (ush x1 x3) fun v1 =>
          f_M_shift_94 x0 x1 x2 x3 x4 y0 v1
        else
          if x0 = 119 then
            f_M_shift_94 x0 x1 x2 x3 x4 y0 x4
          else
            f_M_shift_94 x0 x1 x2 x3 x4 y0 y0
def f_M_shift_23 (x0 : Int32) (x1 : Int32) (x2 : Int32) (x3 : Int32) (y0 : Int32) : Option Int32 :=
    if x3 = 0 then
      f_M_shift_43 x0 x1 x2 x3 y0 x1
    else
      lt1 (ush x1 x3) fun v1 =>
      lt1 (32 - x3) fun v2 =>
      lt1 (x1 <<< (v2 &&& 31)) fun v3 =>
      lt1 (v1 ||| v3) fun v4 =>
      f_M_shift_43 x0 x1 x2 x3 y0 v4
def f_M_shift (x0 : Int32) (x1 : Int32) (x2 : Int32) : Option Int32 :=
    lt1 (x2 &&& 31) fun v1 =>
    if v1 = 0 then
      f_M_shift_23 x0 x1 x2 v1 x1
    else
      lt1 (x1 <<< (v1 &&& 31)) fun v2 =>
      lt1 (32 - v1) fun v3 =>
      lt1 (ush x1 v3) fun v4 =>
      lt1 (v2 ||| v4) fun v5 =>
      f_M_shift_23 x0 x1 x2 v1 v5
section WALK
variable {p : Program} {l : Launch} {e : Env} {ss : State} {m : MethodId} {args : Array Value} {below : List Frame} {meth : Method} {c : Code} {Q : State → Prop} {g : GX} {A : Nat → Prop}
set_option maxHeartbeats 4000000 in
set_option maxRecDepth 100000 in
theorem w_M_shift_94 {ws : va_W} {z : Int32} (C : Cx g A p m c b_M_shift 6 ss args R_M) (hQ : ∀ (pc : Nat) (H : Heap) (locs : List Loc) (ls : Array Slot), XW g A ss ws H locs → decode b_M_shift pc = .ok (.ireturn, 1) → W p l e (rmX 0 0) ss m args below meth c H locs 0 0 Q (F0 m pc ls [.int z])) : ∀ (x0 : Int32) (x1 : Int32) (x2 : Int32) (x3 : Int32) (x4 : Int32) (x5 : Int32) (y0 : Int32) (H : Heap) (locs : List Loc) (ls : Array Slot), XW g A ss ws H locs → lv_has ls 6 [(0, .int x0), (1, .int x1), (2, .int x2), (3, .int x3), (4, .int x4), (5, .int x5)] → f_M_shift_94 x0 x1 x2 x3 x4 x5 y0 = some z → W p l e (rmX 0 0) ss m args below meth c H locs 0 0 Q (F0 m 94 ls [.int y0]) := by
  have ⟨⟨hx, hb, hml, hown, hts⟩, hK, hA, hN⟩ := C
  intro x0 x1 x2 x3 x4 x5 y0 H locs ls hX hl h
  rw [f_M_shift_94] at h
  obtain rfl := so1 h
  exact hQ _ H locs ls hX d_M_shift_94
set_option maxHeartbeats 4000000 in
set_option maxRecDepth 100000 in
theorem w_M_shift_43 {ws : va_W} {z : Int32} (C : Cx g A p m c b_M_shift 6 ss args R_M) (hQ : ∀ (pc : Nat) (H : Heap) (locs : List Loc) (ls : Array Slot), XW g A ss ws H locs → decode b_M_shift pc = .ok (.ireturn, 1) → W p l e (rmX 0 0) ss m args below meth c H locs 0 0 Q (F0 m pc ls [.int z])) : ∀ (x0 : Int32) (x1 : Int32) (x2 : Int32) (x3 : Int32) (x4 : Int32) (y0 : Int32) (H : Heap) (locs : List Loc) (ls : Array Slot), XW g A ss ws H locs → lv_has ls 6 [(0, .int x0), (1, .int x1), (2, .int x2), (3, .int x3), (4, .int x4)] → f_M_shift_43 x0 x1 x2 x3 x4 y0 = some z → W p l e (rmX 0 0) ss m args below meth c H locs 0 0 Q (F0 m 43 ls [.int y0]) := by
  have ⟨⟨hx, hb, hml, hown, hts⟩, hK, hA, hN⟩ := C
  intro x0 x1 x2 x3 x4 y0 H locs ls hX hl h
  rw [f_M_shift_43] at h
  refine lv_istore (lv' := [(5, .int y0), (0, .int x0), (1, .int x1), (2, .int x2), (3, .int x3), (4, .int x4)]) hx hb d_M_shift_43 hl (by decide) rfl (fun ls hl => ?_)
  refine lv_iload_n hx hb d_M_shift_45 rfl (lv_at hl 1 rfl) ?_
  refine lv_bipush (v := 116) hx hb d_M_shift_46 (by decide) ?_
  refine lv_icmp_ne (tgt := 57) hx hb d_M_shift_48 (by decide) (fun c48 => ?_) (fun c48 => ?_)
  · have h := ite_f c48 h
    refine lv_iload_n hx hb d_M_shift_57 rfl (lv_at hl 1 rfl) ?_
    refine lv_bipush (v := 117) hx hb d_M_shift_58 (by decide) ?_
    refine lv_icmp_ne (tgt := 69) hx hb d_M_shift_60 (by decide) (fun c60 => ?_) (fun c60 => ?_)
    · have h := ite_f c60 h
      refine lv_iload_n hx hb d_M_shift_69 rfl (lv_at hl 1 rfl) ?_
      refine lv_bipush (v := 118) hx hb d_M_shift_70 (by decide) ?_
      refine lv_icmp_ne (tgt := 81) hx hb d_M_shift_72 (by decide) (fun c72 => ?_) (fun c72 => ?_)
      · have h := ite_f c72 h
        refine lv_iload_n hx hb d_M_shift_81 rfl (lv_at hl 1 rfl) ?_
        refine lv_bipush (v := 119) hx hb d_M_shift_82 (by decide) ?_
        refine lv_icmp_ne (tgt := 92) hx hb d_M_shift_84 (by decide) (fun c84 => ?_) (fun c84 => ?_)
        · have h := ite_f c84 h
          refine lv_iload hx hb d_M_shift_92 (lv_at hl 0 rfl) ?_
          exact w_M_shift_94 C hQ x0 x1 x2 x3 x4 y0 y0 H locs ls hX (lv_sub hl [1, 2, 3, 4, 5, 0] rfl) h
        · have h := ite_t c84 h
          refine lv_iload hx hb d_M_shift_87 (lv_at hl 5 rfl) ?_
          refine lv_goto (tgt := 94) hx hb d_M_shift_89 (by decide) ?_
          exact w_M_shift_94 C hQ x0 x1 x2 x3 x4 y0 x4 H locs ls hX (lv_sub hl [1, 2, 3, 4, 5, 0] rfl) h
      · have h := ite_t c72 h
        refine lv_iload_n hx hb d_M_shift_75 rfl (lv_at hl 2 rfl) ?_
        refine lv_iload_n hx hb d_M_shift_76 rfl (lv_at hl 4 rfl) ?_
        obtain ⟨v1, ev1, h⟩ := lt1_e h
        refine lv_iushr hx hb d_M_shift_77 ev1.symm ?_
        refine lv_goto (tgt := 94) hx hb d_M_shift_78 (by decide) ?_
        exact w_M_shift_94 C hQ x0 x1 x2 x3 x4 y0 v1 H locs ls hX (lv_sub hl [1, 2, 3, 4, 5, 0] rfl) h
    · have h := ite_t c60 h
      refine lv_iload_n hx hb d_M_shift_63 rfl (lv_at hl 2 rfl) ?_
      refine lv_iload_n hx hb d_M_shift_64 rfl (lv_at hl 4 rfl) ?_
      obtain ⟨v2, ev2, h⟩ := lt1_e h
      refine x_ishr hx hb d_M_shift_65 ev2 ?_
      refine lv_goto (tgt := 94) hx hb d_M_shift_66 (by decide) ?_
      exact w_M_shift_94 C hQ x0 x1 x2 x3 x4 y0 v2 H locs ls hX (lv_sub hl [1, 2, 3, 4, 5, 0] rfl) h
  · have h := ite_t c48 h
    refine lv_iload_n hx hb d_M_shift_51 rfl (lv_at hl 2 rfl) ?_
    refine lv_iload_n hx hb d_M_shift_52 rfl (lv_at hl 4 rfl) ?_
    obtain ⟨v3, ev3, h⟩ := lt1_e h
    refine x_ishl hx hb d_M_shift_53 ev3 ?_
    refine lv_goto (tgt := 94) hx hb d_M_shift_54 (by decide) ?_
    exact w_M_shift_94 C hQ x0 x1 x2 x3 x4 y0 v3 H locs ls hX (lv_sub hl [1, 2, 3, 4, 5, 0] rfl) h
set_option maxHeartbeats 4000000 in
set_option maxRecDepth 100000 in
theorem w_M_shift_23 {ws : va_W} {z : Int32} (C : Cx g A p m c b_M_shift 6 ss args R_M) (hQ : ∀ (pc : Nat) (H : Heap) (locs : List Loc) (ls : Array Slot), XW g A ss ws H locs → decode b_M_shift pc = .ok (.ireturn, 1) → W p l e (rmX 0 0) ss m args below meth c H locs 0 0 Q (F0 m pc ls [.int z])) : ∀ (x0 : Int32) (x1 : Int32) (x2 : Int32) (x3 : Int32) (y0 : Int32) (H : Heap) (locs : List Loc) (ls : Array Slot), XW g A ss ws H locs → lv_has ls 6 [(0, .int x0), (1, .int x1), (2, .int x2), (3, .int x3)] → f_M_shift_23 x0 x1 x2 x3 y0 = some z → W p l e (rmX 0 0) ss m args below meth c H locs 0 0 Q (F0 m 23 ls [.int y0]) := by
  have ⟨⟨hx, hb, hml, hown, hts⟩, hK, hA, hN⟩ := C
  intro x0 x1 x2 x3 y0 H locs ls hX hl h
  rw [f_M_shift_23] at h
  refine lv_istore (lv' := [(4, .int y0), (0, .int x0), (1, .int x1), (2, .int x2), (3, .int x3)]) hx hb d_M_shift_23 hl (by decide) rfl (fun ls hl => ?_)
  refine lv_iload_n hx hb d_M_shift_25 rfl (lv_at hl 4 rfl) ?_
  refine lv_if_ne (tgt := 33) hx hb d_M_shift_26 (by decide) (fun c26 => ?_) (fun c26 => ?_)
  · have h := ite_f c26 h
    refine lv_iload_n hx hb d_M_shift_33 rfl (lv_at hl 2 rfl) ?_
    refine lv_iload_n hx hb d_M_shift_34 rfl (lv_at hl 4 rfl) ?_
    obtain ⟨v1, ev1, h⟩ := lt1_e h
    refine lv_iushr hx hb d_M_shift_35 ev1.symm ?_
    refine lv_iload_n hx hb d_M_shift_36 rfl (lv_at hl 2 rfl) ?_
    refine lv_bipush (v := 32) hx hb d_M_shift_37 (by decide) ?_
    refine lv_iload_n hx hb d_M_shift_39 rfl (lv_at hl 4 rfl) ?_
    obtain ⟨v2, ev2, h⟩ := lt1_e h
    refine x_isub hx hb d_M_shift_40 ev2 ?_
    obtain ⟨v3, ev3, h⟩ := lt1_e h
    refine x_ishl hx hb d_M_shift_41 ev3 ?_
    obtain ⟨v4, ev4, h⟩ := lt1_e h
    refine x_ior hx hb d_M_shift_42 ev4 ?_
    exact w_M_shift_43 C hQ x0 x1 x2 x3 y0 v4 H locs ls hX (lv_sub hl [1, 2, 3, 4, 0] rfl) h
  · have h := ite_t c26 h
    refine lv_iload_n hx hb d_M_shift_29 rfl (lv_at hl 2 rfl) ?_
    refine lv_goto (tgt := 43) hx hb d_M_shift_30 (by decide) ?_
    exact w_M_shift_43 C hQ x0 x1 x2 x3 y0 x1 H locs ls hX (lv_sub hl [1, 2, 3, 4, 0] rfl) h
set_option maxHeartbeats 4000000 in
set_option maxRecDepth 100000 in
theorem w_M_shift {ws : va_W} {z : Int32} (C : Cx g A p m c b_M_shift 6 ss args R_M) (hQ : ∀ (pc : Nat) (H : Heap) (locs : List Loc) (ls : Array Slot), XW g A ss ws H locs → decode b_M_shift pc = .ok (.ireturn, 1) → W p l e (rmX 0 0) ss m args below meth c H locs 0 0 Q (F0 m pc ls [.int z])) : ∀ (x0 : Int32) (x1 : Int32) (x2 : Int32) (H : Heap) (locs : List Loc) (ls : Array Slot), XW g A ss ws H locs → lv_has ls 6 [(0, .int x0), (1, .int x1), (2, .int x2)] → f_M_shift x0 x1 x2 = some z → W p l e (rmX 0 0) ss m args below meth c H locs 0 0 Q (F0 m 0 ls []) := by
  have ⟨⟨hx, hb, hml, hown, hts⟩, hK, hA, hN⟩ := C
  intro x0 x1 x2 H locs ls hX hl h
  rw [f_M_shift] at h
  refine lv_iload_n hx hb d_M_shift_0 rfl (lv_at hl 2 rfl) ?_
  refine lv_bipush (v := 31) hx hb d_M_shift_1 (by decide) ?_
  obtain ⟨v1, ev1, h⟩ := lt1_e h
  refine x_iand hx hb d_M_shift_3 ev1 ?_
  refine lv_istore_n (lv' := [(3, .int v1), (0, .int x0), (1, .int x1), (2, .int x2)]) hx hb d_M_shift_4 rfl hl (by decide) rfl (fun ls hl => ?_)
  refine lv_iload_n hx hb d_M_shift_5 rfl (lv_at hl 0 rfl) ?_
  refine lv_if_ne (tgt := 13) hx hb d_M_shift_6 (by decide) (fun c6 => ?_) (fun c6 => ?_)
  · have h := ite_f c6 h
    refine lv_iload_n hx hb d_M_shift_13 rfl (lv_at hl 2 rfl) ?_
    refine lv_iload_n hx hb d_M_shift_14 rfl (lv_at hl 0 rfl) ?_
    obtain ⟨v2, ev2, h⟩ := lt1_e h
    refine x_ishl hx hb d_M_shift_15 ev2 ?_
    refine lv_iload_n hx hb d_M_shift_16 rfl (lv_at hl 2 rfl) ?_
    refine lv_bipush (v := 32) hx hb d_M_shift_17 (by decide) ?_
    refine lv_iload_n hx hb d_M_shift_19 rfl (lv_at hl 0 rfl) ?_
    obtain ⟨v3, ev3, h⟩ := lt1_e h
    refine x_isub hx hb d_M_shift_20 ev3 ?_
    obtain ⟨v4, ev4, h⟩ := lt1_e h
    refine lv_iushr hx hb d_M_shift_21 ev4.symm ?_
    obtain ⟨v5, ev5, h⟩ := lt1_e h
    refine x_ior hx hb d_M_shift_22 ev5 ?_
    exact w_M_shift_23 C hQ x0 x1 x2 v1 v5 H locs ls hX (lv_sub hl [1, 2, 3, 0] rfl) h
  · have h := ite_t c6 h
    refine lv_iload_n hx hb d_M_shift_9 rfl (lv_at hl 2 rfl) ?_
    refine lv_goto (tgt := 23) hx hb d_M_shift_10 (by decide) ?_
    exact w_M_shift_23 C hQ x0 x1 x2 v1 x1 H locs ls hX (lv_sub hl [1, 2, 3, 0] rfl) h
end WALK
theorem c_M_shift (l : Launch) (g : GX) (x0 : Int32) (x1 : Int32) (x2 : Int32) (z : Int32) (h : f_M_shift x0 x1 x2 = some z) (ws : va_W) : MI l g y_M_shift b_M_shift 6 (some .int) 0 0 [.int x0, .int x1, .int x2] ws z ws :=
  MI.mk (own := R_M) (by decide) rfl (Nat.le_of_ble_eq_true rfl) fun p e ss m below meth c A Q C hQ ls hX hl => w_M_shift C hQ x0 x1 x2 _ _ ls hX hl h
-- M_both
def f_M_both_93 (x1 : Int32) (x2 : Int32) (x3 : Int32) (y1 : Int32) (s : SM) : Option (Int32 × SM) :=
    bd1 (f_M_give y1 s) fun s1 =>
    some (0, s1)
def f_M_both_48 (x1 : Int32) (x2 : Int32) (x3 : Int32) (s : SM) : Option (Int32 × SM) :=
    if 80 ≤ x1 then
      if 116 ≤ x1 then
        bd1 (f_M_shift x1 x3 x2) fun r1 =>
        f_M_both_93 x1 x2 x3 r1 s
      else
        bd1 (f_M_reckon x1 x3 x2) fun r2 =>
        f_M_both_93 x1 x2 x3 r2 s
    else
      bd1 (f_M_compare x1 x3 x2) fun r3 =>
      if r3 = 0 then
        f_M_both_93 x1 x2 x3 0 s
      else
        f_M_both_93 x1 x2 x3 1 s
def f_M_both_28 (x1 : Int32) (x2 : Int32) (x3 : Int32) (s : SM) : Option (Int32 × SM) :=
    if x1 = 109 then
      if x3 = (-2147483648) then
        if x2 = (-1) then
          some (4, s)
        else
          f_M_both_48 x1 x2 x3 s
      else
        f_M_both_48 x1 x2 x3 s
    else
      f_M_both_48 x1 x2 x3 s
def f_M_both (x1 : Int32) (s : SM) : Option (Int32 × SM) :=
    bd (f_M_pull s) fun r2 s1 =>
    bd (f_M_pull s1) fun r4 s3 =>
    if x1 ≤ 108 then
      f_M_both_28 x1 r2 r4 s3
    else
      if 113 ≤ x1 then
        f_M_both_28 x1 r2 r4 s3
      else
        if r2 = 0 then
          some (3, s3)
        else
          f_M_both_28 x1 r2 r4 s3
section WALK
variable {p : Program} {l : Launch} {e : Env} {ss : State} {m : MethodId} {args : Array Value} {below : List Frame} {meth : Method} {c : Code} {Q : State → Prop} {g : GX} {A : Nat → Prop}
set_option maxHeartbeats 4000000 in
set_option maxRecDepth 100000 in
theorem w_M_both_93 {z : Int32 × SM} (C : Cx g A p m c b_M_both 4 ss args R_M) (hQ : ∀ (pc : Nat) (H : Heap) (locs : List Loc) (ls : Array Slot), XW g A ss (wM g z.2) H locs → decode b_M_both pc = .ok (.ireturn, 1) → W p l e (rmX 1 26) ss m args below meth c H locs 0 0 Q (F0 m pc ls [.int z.1])) : ∀ (x1 : Int32) (x2 : Int32) (x3 : Int32) (y1 : Int32) (s : SM) (H : Heap) (locs : List Loc) (ls : Array Slot), XW g A ss (wM g s) H locs → lv_has ls 4 [(0, .ref (g.q 60)), (1, .int x1), (2, .int x2), (3, .int x3)] → f_M_both_93 x1 x2 x3 y1 s = some z → W p l e (rmX 1 26) ss m args below meth c H locs 0 0 Q (F0 m 93 ls [.int y1, .ref (g.q 60)]) := by
  have ⟨⟨hx, hb, hml, hown, hts⟩, hK, hA, hN⟩ := C
  intro x1 x2 x3 y1 s H locs ls hX hl h
  rw [f_M_both_93] at h
  obtain ⟨s1, hc93, h⟩ := bd1_e h
  refine x_vV (As := [.int y1]) (rest := []) C hX (c_M_give l g y1 s s1 hc93) (cw_M_368 C.1.2.2.2.2 C.2.2.2 ⟨by decide, by decide⟩) (x_rc C hX vg_0 rfl) rfl hl.1 rfl (lv_room (Nat.le_of_ble_eq_true rfl)) d_M_both_93 ⟨Nat.le_refl _, Nat.le_refl _⟩ (fun H locs hX => ?_)
  refine lv_iconst (v := 0) hx hb d_M_both_96 (by decide) ?_
  obtain rfl := so1 h
  exact hQ _ H locs ls hX d_M_both_97
set_option maxHeartbeats 4000000 in
set_option maxRecDepth 100000 in
theorem w_M_both_48 {z : Int32 × SM} (C : Cx g A p m c b_M_both 4 ss args R_M) (hQ : ∀ (pc : Nat) (H : Heap) (locs : List Loc) (ls : Array Slot), XW g A ss (wM g z.2) H locs → decode b_M_both pc = .ok (.ireturn, 1) → W p l e (rmX 1 26) ss m args below meth c H locs 0 0 Q (F0 m pc ls [.int z.1])) : ∀ (x1 : Int32) (x2 : Int32) (x3 : Int32) (s : SM) (H : Heap) (locs : List Loc) (ls : Array Slot), XW g A ss (wM g s) H locs → lv_has ls 4 [(0, .ref (g.q 60)), (1, .int x1), (2, .int x2), (3, .int x3)] → f_M_both_48 x1 x2 x3 s = some z → W p l e (rmX 1 26) ss m args below meth c H locs 0 0 Q (F0 m 48 ls []) := by
  have ⟨⟨hx, hb, hml, hown, hts⟩, hK, hA, hN⟩ := C
  intro x1 x2 x3 s H locs ls hX hl h
  rw [f_M_both_48] at h
  refine lv_aload_n hx hb d_M_both_48 rfl (lv_at hl 0 rfl) ?_
  refine lv_iload_n hx hb d_M_both_49 rfl (lv_at hl 1 rfl) ?_
  refine lv_bipush (v := 80) hx hb d_M_both_50 (by decide) ?_
  refine lv_icmp_ge (tgt := 72) hx hb d_M_both_52 (by decide) (fun c52 => ?_) (fun c52 => ?_)
  · have h := ite_t c52 h
    refine lv_iload_n hx hb d_M_both_72 rfl (lv_at hl 1 rfl) ?_
    refine lv_bipush (v := 116) hx hb d_M_both_73 (by decide) ?_
    refine lv_icmp_ge (tgt := 87) hx hb d_M_both_75 (by decide) (fun c75 => ?_) (fun c75 => ?_)
    · have h := ite_t c75 h
      refine lv_iload_n hx hb d_M_both_87 rfl (lv_at hl 1 rfl) ?_
      refine lv_iload_n hx hb d_M_both_88 rfl (lv_at hl 3 rfl) ?_
      refine lv_iload_n hx hb d_M_both_89 rfl (lv_at hl 2 rfl) ?_
      obtain ⟨r1, hc90, h⟩ := bd1_e h
      refine x_sI (As := [.int x1, .int x3, .int x2]) (rest := [.ref (g.q 60)]) C hX (c_M_shift l g x1 x3 x2 r1 hc90 _) (cw_M_393 C.1.2.2.2.2 C.2.2.2 ⟨by decide, by decide⟩) rfl hl.1 rfl (lv_room (Nat.le_of_ble_eq_true rfl)) d_M_both_90 ⟨Nat.le_refl _, Nat.le_refl _⟩ (fun H locs hX => ?_)
      exact w_M_both_93 C hQ x1 x2 x3 r1 s H locs ls hX hl h
    · have h := ite_f c75 h
      refine lv_iload_n hx hb d_M_both_78 rfl (lv_at hl 1 rfl) ?_
      refine lv_iload_n hx hb d_M_both_79 rfl (lv_at hl 3 rfl) ?_
      refine lv_iload_n hx hb d_M_both_80 rfl (lv_at hl 2 rfl) ?_
      obtain ⟨r2, hc81, h⟩ := bd1_e h
      refine x_sI (As := [.int x1, .int x3, .int x2]) (rest := [.ref (g.q 60)]) C hX (c_M_reckon l g x1 x3 x2 r2 hc81 _) (cw_M_389 C.1.2.2.2.2 C.2.2.2 ⟨by decide, by decide⟩) rfl hl.1 rfl (lv_room (Nat.le_of_ble_eq_true rfl)) d_M_both_81 ⟨Nat.le_refl _, Nat.le_refl _⟩ (fun H locs hX => ?_)
      refine lv_goto (tgt := 93) hx hb d_M_both_84 (by decide) ?_
      exact w_M_both_93 C hQ x1 x2 x3 r2 s H locs ls hX hl h
  · have h := ite_f c52 h
    refine lv_iload_n hx hb d_M_both_55 rfl (lv_at hl 1 rfl) ?_
    refine lv_iload_n hx hb d_M_both_56 rfl (lv_at hl 3 rfl) ?_
    refine lv_iload_n hx hb d_M_both_57 rfl (lv_at hl 2 rfl) ?_
    obtain ⟨r3, hc58, h⟩ := bd1_e h
    refine x_sI (As := [.int x1, .int x3, .int x2]) (rest := [.ref (g.q 60)]) C hX (c_M_compare l g x1 x3 x2 r3 hc58 _) (cw_M_385 C.1.2.2.2.2 C.2.2.2 ⟨by decide, by decide⟩) rfl hl.1 rfl (lv_room (Nat.le_of_ble_eq_true rfl)) d_M_both_58 ⟨Nat.le_refl _, Nat.le_refl _⟩ (fun H locs hX => ?_)
    refine lv_if_eq (tgt := 68) hx hb d_M_both_61 (by decide) (fun c61 => ?_) (fun c61 => ?_)
    · have h := ite_t c61 h
      refine lv_iconst (v := 0) hx hb d_M_both_68 (by decide) ?_
      refine lv_goto (tgt := 93) hx hb d_M_both_69 (by decide) ?_
      exact w_M_both_93 C hQ x1 x2 x3 0 s H locs ls hX hl h
    · have h := ite_f c61 h
      refine lv_iconst (v := 1) hx hb d_M_both_64 (by decide) ?_
      refine lv_goto (tgt := 93) hx hb d_M_both_65 (by decide) ?_
      exact w_M_both_93 C hQ x1 x2 x3 1 s H locs ls hX hl h
set_option maxHeartbeats 4000000 in
set_option maxRecDepth 100000 in
theorem w_M_both_28 {z : Int32 × SM} (C : Cx g A p m c b_M_both 4 ss args R_M) (hQ : ∀ (pc : Nat) (H : Heap) (locs : List Loc) (ls : Array Slot), XW g A ss (wM g z.2) H locs → decode b_M_both pc = .ok (.ireturn, 1) → W p l e (rmX 1 26) ss m args below meth c H locs 0 0 Q (F0 m pc ls [.int z.1])) : ∀ (x1 : Int32) (x2 : Int32) (x3 : Int32) (s : SM) (H : Heap) (locs : List Loc) (ls : Array Slot), XW g A ss (wM g s) H locs → lv_has ls 4 [(0, .ref (g.q 60)), (1, .int x1), (2, .int x2), (3, .int x3)] → f_M_both_28 x1 x2 x3 s = some z → W p l e (rmX 1 26) ss m args below meth c H locs 0 0 Q (F0 m 28 ls []) := by
  have ⟨⟨hx, hb, hml, hown, hts⟩, hK, hA, hN⟩ := C
  intro x1 x2 x3 s H locs ls hX hl h
  rw [f_M_both_28] at h
  refine lv_iload_n hx hb d_M_both_28 rfl (lv_at hl 1 rfl) ?_
  refine lv_bipush (v := 109) hx hb d_M_both_29 (by decide) ?_
  refine lv_icmp_ne (tgt := 48) hx hb d_M_both_31 (by decide) (fun c31 => ?_) (fun c31 => ?_)
  · have h := ite_f c31 h
    exact w_M_both_48 C hQ x1 x2 x3 s H locs ls hX hl h
  · have h := ite_t c31 h
    refine lv_iload_n hx hb d_M_both_34 rfl (lv_at hl 3 rfl) ?_
    refine lv_ldcw (v := (-2147483648)) hx hb hown (hts _ m_constant_M_384) d_M_both_35 ?_
    refine lv_icmp_ne (tgt := 48) hx hb d_M_both_38 (by decide) (fun c38 => ?_) (fun c38 => ?_)
    · have h := ite_f c38 h
      exact w_M_both_48 C hQ x1 x2 x3 s H locs ls hX hl h
    · have h := ite_t c38 h
      refine lv_iload_n hx hb d_M_both_41 rfl (lv_at hl 2 rfl) ?_
      refine lv_iconst (v := (-1)) hx hb d_M_both_42 (by decide) ?_
      refine lv_icmp_ne (tgt := 48) hx hb d_M_both_43 (by decide) (fun c43 => ?_) (fun c43 => ?_)
      · have h := ite_f c43 h
        exact w_M_both_48 C hQ x1 x2 x3 s H locs ls hX hl h
      · have h := ite_t c43 h
        refine lv_iconst (v := 4) hx hb d_M_both_46 (by decide) ?_
        obtain rfl := so1 h
        exact hQ _ H locs ls hX d_M_both_47
set_option maxHeartbeats 4000000 in
set_option maxRecDepth 100000 in
theorem w_M_both {z : Int32 × SM} (C : Cx g A p m c b_M_both 4 ss args R_M) (hQ : ∀ (pc : Nat) (H : Heap) (locs : List Loc) (ls : Array Slot), XW g A ss (wM g z.2) H locs → decode b_M_both pc = .ok (.ireturn, 1) → W p l e (rmX 1 26) ss m args below meth c H locs 0 0 Q (F0 m pc ls [.int z.1])) : ∀ (x1 : Int32) (s : SM) (H : Heap) (locs : List Loc) (ls : Array Slot), XW g A ss (wM g s) H locs → lv_has ls 4 [(0, .ref (g.q 60)), (1, .int x1)] → f_M_both x1 s = some z → W p l e (rmX 1 26) ss m args below meth c H locs 0 0 Q (F0 m 0 ls []) := by
  have ⟨⟨hx, hb, hml, hown, hts⟩, hK, hA, hN⟩ := C
  intro x1 s H locs ls hX hl h
  rw [f_M_both] at h
  refine lv_aload_n hx hb d_M_both_0 rfl (lv_at hl 0 rfl) ?_
  obtain ⟨r2, s1, hc1, h⟩ := bd_e h
  refine x_vI (As := []) (rest := []) C hX (c_M_pull l g s (r2, s1) hc1) (cw_M_365 C.1.2.2.2.2 C.2.2.2 ⟨by decide, by decide⟩) (x_rc C hX vg_0 rfl) rfl hl.1 rfl (lv_room (Nat.le_of_ble_eq_true rfl)) d_M_both_1 ⟨Nat.le_refl _, Nat.le_refl _⟩ (fun H locs hX => ?_)
  refine lv_istore_n (lv' := [(2, .int r2), (0, .ref (g.q 60)), (1, .int x1)]) hx hb d_M_both_4 rfl hl (by decide) rfl (fun ls hl => ?_)
  refine lv_aload_n hx hb d_M_both_5 rfl (lv_at hl 1 rfl) ?_
  obtain ⟨r4, s3, hc6, h⟩ := bd_e h
  refine x_vI (As := []) (rest := []) C hX (c_M_pull l g s1 (r4, s3) hc6) (cw_M_365 C.1.2.2.2.2 C.2.2.2 ⟨by decide, by decide⟩) (x_rc C hX vg_0 rfl) rfl hl.1 rfl (lv_room (Nat.le_of_ble_eq_true rfl)) d_M_both_6 ⟨Nat.le_refl _, Nat.le_refl _⟩ (fun H locs hX => ?_)
  refine lv_istore_n (lv' := [(3, .int r4), (2, .int r2), (0, .ref (g.q 60)), (1, .int x1)]) hx hb d_M_both_9 rfl hl (by decide) rfl (fun ls hl => ?_)
  refine lv_iload_n hx hb d_M_both_10 rfl (lv_at hl 3 rfl) ?_
  refine lv_bipush (v := 108) hx hb d_M_both_11 (by decide) ?_
  refine lv_icmp_le (tgt := 28) hx hb d_M_both_13 (by decide) (fun c13 => ?_) (fun c13 => ?_)
  · have h := ite_t c13 h
    exact w_M_both_28 C hQ x1 r2 r4 s3 H locs ls hX (lv_sub hl [2, 3, 1, 0] rfl) h
  · have h := ite_f c13 h
    refine lv_iload_n hx hb d_M_both_16 rfl (lv_at hl 3 rfl) ?_
    refine lv_bipush (v := 113) hx hb d_M_both_17 (by decide) ?_
    refine lv_icmp_ge (tgt := 28) hx hb d_M_both_19 (by decide) (fun c19 => ?_) (fun c19 => ?_)
    · have h := ite_t c19 h
      exact w_M_both_28 C hQ x1 r2 r4 s3 H locs ls hX (lv_sub hl [2, 3, 1, 0] rfl) h
    · have h := ite_f c19 h
      refine lv_iload_n hx hb d_M_both_22 rfl (lv_at hl 1 rfl) ?_
      refine lv_if_ne (tgt := 28) hx hb d_M_both_23 (by decide) (fun c23 => ?_) (fun c23 => ?_)
      · have h := ite_f c23 h
        exact w_M_both_28 C hQ x1 r2 r4 s3 H locs ls hX (lv_sub hl [2, 3, 1, 0] rfl) h
      · have h := ite_t c23 h
        refine lv_iconst (v := 3) hx hb d_M_both_26 (by decide) ?_
        obtain rfl := so1 h
        exact hQ _ H locs ls hX d_M_both_27
end WALK
theorem c_M_both (l : Launch) (g : GX) (x1 : Int32) (s : SM) (z : Int32 × SM) (h : f_M_both x1 s = some z) : MI l g y_M_both b_M_both 4 (some .int) 1 26 [.ref (g.q 60), .int x1] (wM g s) z.1 (wM g z.2) :=
  MI.mk (own := R_M) (by decide) rfl (Nat.le_of_ble_eq_true rfl) fun p e ss m below meth c A Q C hQ ls hX hl => w_M_both C hQ x1 s _ _ ls hX hl h
