-- M_load
def f_M_load_188 (k178 : Int32 → SM → Option (Int32 × SM)) : Nat → Int32 → Int32 → SM → Option (Int32 × SM)
  | 0, _, _, _ => none
  | n + 1, x1, x2, s =>
    gi x1 4 <|
    lt1 (s.1 13 (Int32.toNatClampNeg x1)) fun v1 =>
    if v1 ≤ x2 then
      lt1 (x1 + (1)) fun v2 =>
      k178 v2 s
    else
      gi x1 4 <|
      lt1 (s.1 11 (Int32.toNatClampNeg x1)) fun v3 =>
      lt1 (v3 + x2) fun v4 =>
      gi x1 4 <|
      lt1 (s.1 12 (Int32.toNatClampNeg x1)) fun v5 =>
      lt1 (v5 + x2) fun v6 =>
      gi v6 240 <|
      lt1 (s.1 1 (Int32.toNatClampNeg v6)) fun v7 =>
      gi v4 256 <|
      lt1 (stI s 29 (Int32.toNatClampNeg v4) v7) fun s8 =>
      lt1 (x2 + (1)) fun v9 =>
      f_M_load_188 k178 n x1 v9 s8
def f_M_load_178 : Nat → Int32 → SM → Option (Int32 × SM)
  | 0, _, _ => none
  | n + 1, x1, s =>
    if s.1 0 13 ≤ x1 then
      some (0, s)
    else
      f_M_load_188 (f_M_load_178 n) FU x1 0 s
def f_M_load_150 : Nat → Int32 → SM → Option (Int32 × SM)
  | 0, _, _ => none
  | n + 1, x1, s =>
    if s.1 0 11 ≤ x1 then
      f_M_load_178 FU 0 s
    else
      gi x1 4 <|
      lt1 (s.1 6 (Int32.toNatClampNeg x1)) fun v1 =>
      gi x1 4 <|
      lt1 (stI s 30 (Int32.toNatClampNeg x1) v1) fun s2 =>
      lt1 (x1 + (1)) fun v3 =>
      f_M_load_150 n v3 s2
def f_M_load_128 : Nat → Int32 → SM → Option (Int32 × SM)
  | 0, _, _ => none
  | n + 1, x1, s =>
    if 256 ≤ x1 then
      f_M_load_150 FU 0 s
    else
      gi x1 256 <|
      lt1 (stI s 29 (Int32.toNatClampNeg x1) 0) fun s1 =>
      lt1 (x1 + (1)) fun v2 =>
      f_M_load_128 n v2 s1
def f_M_load_123 (y1 : Int32) (s : SM) : Option (Int32 × SM) :=
    lt1 (stI s 0 18 y1) fun s1 =>
    f_M_load_128 FU 0 s1
def f_M_load_89 (s : SM) : Option (Int32 × SM) :=
    if s.1 0 5 ≤ 0 then
      lt1 (stI s 0 2 1) fun s1 =>
      if s1.1 0 9 ≤ 0 then
        f_M_load_123 0 s1
      else
        lt1 (Int64.toInt32 (s1.2 0 0)) fun v2 =>
        f_M_load_123 v2 s1
    else
      some (s.1 0 5, s)
def f_M_load (s : SM) : Option (Int32 × SM) :=
    lt1 (stI s 0 0 0) fun s1 =>
    if s1.1 0 2 = 0 then
      lt1 (stI s1 0 5 0) fun s2 =>
      lt1 (stI s2 0 6 0) fun s3 =>
      lt1 (stI s3 0 7 0) fun s4 =>
      lt1 (stI s4 0 8 0) fun s5 =>
      lt1 (stI s5 0 9 0) fun s6 =>
      lt1 (stI s6 0 10 0) fun s7 =>
      lt1 (stL s7 0 0 0) fun s8 =>
      lt1 (stI s8 0 11 0) fun s9 =>
      lt1 (stI s9 0 12 0) fun s10 =>
      lt1 (stI s10 0 13 0) fun s11 =>
      lt1 (stI s11 0 14 0) fun s12 =>
      lt1 (stI s12 0 15 0) fun s13 =>
      bd1 (f_M_readModule s13) fun s14 =>
      if s14.1 0 5 = 0 then
        bd1 (f_M_validate s14) fun s15 =>
        f_M_load_89 s15
      else
        f_M_load_89 s14
    else
      some (5, s1)
section WALK
variable {p : Program} {l : Launch} {e : Env} {ss : State} {m : MethodId} {args : Array Value} {below : List Frame} {meth : Method} {c : Code} {Q : State → Prop} {g : GX} {A : Nat → Prop}
set_option maxHeartbeats 4000000 in
set_option maxRecDepth 100000 in
theorem w_M_load_188 {z : Int32 × SM} (C : Cx g A p m c b_M_load 3 ss args R_M) (hQ : ∀ (pc : Nat) (H : Heap) (locs : List Loc) (ls : Array Slot), XW g A ss (wM g z.2) H locs → decode b_M_load pc = .ok (.ireturn, 1) → W p l e (rmX 9 209) ss m args below meth c H locs 0 0 Q (F0 m pc ls [.int z.1])) (k178 : Int32 → SM → Option (Int32 × SM)) (hk178 : ∀ (x1 : Int32) (s : SM) (H : Heap) (locs : List Loc) (ls : Array Slot), XW g A ss (wM g s) H locs → lv_has ls 3 [(0, .ref (g.q 60)), (1, .int x1)] → k178 x1 s = some z → W p l e (rmX 9 209) ss m args below meth c H locs 0 0 Q (F0 m 178 ls [])) (n : Nat) : ∀ (x1 : Int32) (x2 : Int32) (s : SM) (H : Heap) (locs : List Loc) (ls : Array Slot), XW g A ss (wM g s) H locs → lv_has ls 3 [(0, .ref (g.q 60)), (1, .int x1), (2, .int x2)] → f_M_load_188 k178 n x1 x2 s = some z → W p l e (rmX 9 209) ss m args below meth c H locs 0 0 Q (F0 m 188 ls []) := by
  have ⟨⟨hx, hb, hml, hown, hts⟩, hK, hA, hN⟩ := C
  induction n with
  | zero => intro x1 x2 s H locs ls hX hl h; cases h
  | succ n ih =>
    intro x1 x2 s H locs ls hX hl h
    rw [f_M_load_188] at h
    refine lv_iload_n hx hb d_M_load_188 rfl (lv_at hl 2 rfl) ?_
    refine lv_aload_n hx hb d_M_load_189 rfl (lv_at hl 0 rfl) ?_
    refine gm_segmentLength C hX fl_M_48 d_M_load_190 ?_
    refine lv_iload_n hx hb d_M_load_193 rfl (lv_at hl 1 rfl) ?_
    obtain ⟨hz194, h⟩ := gi_e h
    obtain ⟨v1, ev1, h⟩ := lt1_e h
    refine alm_13 C hX hz194 d_M_load_194 ev1 ?_
    refine lv_icmp_ge (tgt := 230) hx hb d_M_load_195 (by decide) (fun c195 => ?_) (fun c195 => ?_)
    · have h := ite_t c195 h
      obtain ⟨v2, ev2, h⟩ := lt1_e h
      refine lv_iinc (v := v2) (lv' := [(1, .int v2), (0, .ref (g.q 60)), (2, .int x2)]) hx hb d_M_load_230 hl (k := 1) rfl (by rw [ev2]; rfl) (by decide) rfl (fun ls hl => ?_)
      refine lv_goto (tgt := 178) hx hb d_M_load_233 (by decide) ?_
      exact hk178 v2 s H locs ls hX (lv_sub hl [1, 0] rfl) h
    · have h := ite_f c195 h
      refine lv_aload_n hx hb d_M_load_198 rfl (lv_at hl 0 rfl) ?_
      refine gm_memory C hX fl_M_96 d_M_load_199 ?_
      refine lv_aload_n hx hb d_M_load_202 rfl (lv_at hl 0 rfl) ?_
      refine gm_segmentAt C hX fl_M_42 d_M_load_203 ?_
      refine lv_iload_n hx hb d_M_load_206 rfl (lv_at hl 1 rfl) ?_
      obtain ⟨hz207, h⟩ := gi_e h
      obtain ⟨v3, ev3, h⟩ := lt1_e h
      refine alm_11 C hX hz207 d_M_load_207 ev3 ?_
      refine lv_iload_n hx hb d_M_load_208 rfl (lv_at hl 2 rfl) ?_
      obtain ⟨v4, ev4, h⟩ := lt1_e h
      refine x_iadd hx hb d_M_load_209 ev4 ?_
      refine lv_aload_n hx hb d_M_load_210 rfl (lv_at hl 0 rfl) ?_
      refine gm_bytes C hX fl_M_7 d_M_load_211 ?_
      refine lv_aload_n hx hb d_M_load_214 rfl (lv_at hl 0 rfl) ?_
      refine gm_segmentFrom C hX fl_M_45 d_M_load_215 ?_
      refine lv_iload_n hx hb d_M_load_218 rfl (lv_at hl 1 rfl) ?_
      obtain ⟨hz219, h⟩ := gi_e h
      obtain ⟨v5, ev5, h⟩ := lt1_e h
      refine alm_12 C hX hz219 d_M_load_219 ev5 ?_
      refine lv_iload_n hx hb d_M_load_220 rfl (lv_at hl 2 rfl) ?_
      obtain ⟨v6, ev6, h⟩ := lt1_e h
      refine x_iadd hx hb d_M_load_221 ev6 ?_
      obtain ⟨hz222, h⟩ := gi_e h
      obtain ⟨v7, ev7, h⟩ := lt1_e h
      refine alm_1 C hX hz222 d_M_load_222 ev7 ?_
      obtain ⟨hz223, h⟩ := gi_e h
      obtain ⟨s8, es8, h⟩ := lt1_e h
      refine asm_29 C hX hz223 d_M_load_223 (fun H locs hX => ?_)
      rw [← es8] at hX
      obtain ⟨v9, ev9, h⟩ := lt1_e h
      refine lv_iinc (v := v9) (lv' := [(2, .int v9), (0, .ref (g.q 60)), (1, .int x1)]) hx hb d_M_load_224 hl (k := 2) rfl (by rw [ev9]; rfl) (by decide) rfl (fun ls hl => ?_)
      refine lv_goto (tgt := 188) hx hb d_M_load_227 (by decide) ?_
      exact ih x1 v9 s8 H locs ls hX (lv_sub hl [1, 2, 0] rfl) h
set_option maxHeartbeats 4000000 in
set_option maxRecDepth 100000 in
theorem w_M_load_178 {z : Int32 × SM} (C : Cx g A p m c b_M_load 3 ss args R_M) (hQ : ∀ (pc : Nat) (H : Heap) (locs : List Loc) (ls : Array Slot), XW g A ss (wM g z.2) H locs → decode b_M_load pc = .ok (.ireturn, 1) → W p l e (rmX 9 209) ss m args below meth c H locs 0 0 Q (F0 m pc ls [.int z.1])) (n : Nat) : ∀ (x1 : Int32) (s : SM) (H : Heap) (locs : List Loc) (ls : Array Slot), XW g A ss (wM g s) H locs → lv_has ls 3 [(0, .ref (g.q 60)), (1, .int x1)] → f_M_load_178 n x1 s = some z → W p l e (rmX 9 209) ss m args below meth c H locs 0 0 Q (F0 m 178 ls []) := by
  have ⟨⟨hx, hb, hml, hown, hts⟩, hK, hA, hN⟩ := C
  induction n with
  | zero => intro x1 s H locs ls hX hl h; cases h
  | succ n ih =>
    intro x1 s H locs ls hX hl h
    rw [f_M_load_178] at h
    refine lv_iload_n hx hb d_M_load_178 rfl (lv_at hl 1 rfl) ?_
    refine lv_aload_n hx hb d_M_load_179 rfl (lv_at hl 0 rfl) ?_
    refine gm_segments C hX fl_M_249 d_M_load_180 ?_
    refine lv_icmp_ge (tgt := 236) hx hb d_M_load_183 (by decide) (fun c183 => ?_) (fun c183 => ?_)
    · have h := ite_t c183 h
      refine lv_iconst (v := 0) hx hb d_M_load_236 (by decide) ?_
      obtain rfl := so1 h
      exact hQ _ H locs ls hX d_M_load_237
    · have h := ite_f c183 h
      refine lv_iconst (v := 0) hx hb d_M_load_186 (by decide) ?_
      refine lv_istore_n (lv' := [(2, .int 0), (0, .ref (g.q 60)), (1, .int x1)]) hx hb d_M_load_187 rfl hl (by decide) rfl (fun ls hl => ?_)
      exact w_M_load_188 C hQ (f_M_load_178 n) ih FU x1 0 s H locs ls hX (lv_sub hl [1, 2, 0] rfl) h
set_option maxHeartbeats 4000000 in
set_option maxRecDepth 100000 in
theorem w_M_load_150 {z : Int32 × SM} (C : Cx g A p m c b_M_load 3 ss args R_M) (hQ : ∀ (pc : Nat) (H : Heap) (locs : List Loc) (ls : Array Slot), XW g A ss (wM g z.2) H locs → decode b_M_load pc = .ok (.ireturn, 1) → W p l e (rmX 9 209) ss m args below meth c H locs 0 0 Q (F0 m pc ls [.int z.1])) (n : Nat) : ∀ (x1 : Int32) (s : SM) (H : Heap) (locs : List Loc) (ls : Array Slot), XW g A ss (wM g s) H locs → lv_has ls 3 [(0, .ref (g.q 60)), (1, .int x1)] → f_M_load_150 n x1 s = some z → W p l e (rmX 9 209) ss m args below meth c H locs 0 0 Q (F0 m 150 ls []) := by
  have ⟨⟨hx, hb, hml, hown, hts⟩, hK, hA, hN⟩ := C
  induction n with
  | zero => intro x1 s H locs ls hX hl h; cases h
  | succ n ih =>
    intro x1 s H locs ls hX hl h
    rw [f_M_load_150] at h
    refine lv_iload_n hx hb d_M_load_150 rfl (lv_at hl 1 rfl) ?_
    refine lv_aload_n hx hb d_M_load_151 rfl (lv_at hl 0 rfl) ?_
    refine gm_globals C hX fl_M_243 d_M_load_152 ?_
    refine lv_icmp_ge (tgt := 176) hx hb d_M_load_155 (by decide) (fun c155 => ?_) (fun c155 => ?_)
    · have h := ite_t c155 h
      refine lv_iconst (v := 0) hx hb d_M_load_176 (by decide) ?_
      refine lv_istore_n (lv' := [(1, .int 0), (0, .ref (g.q 60))]) hx hb d_M_load_177 rfl hl (by decide) rfl (fun ls hl => ?_)
      exact w_M_load_178 C hQ FU 0 s H locs ls hX (lv_sub hl [1, 0] rfl) h
    · have h := ite_f c155 h
      refine lv_aload_n hx hb d_M_load_158 rfl (lv_at hl 0 rfl) ?_
      refine gm_global C hX fl_M_99 d_M_load_159 ?_
      refine lv_iload_n hx hb d_M_load_162 rfl (lv_at hl 1 rfl) ?_
      refine lv_aload_n hx hb d_M_load_163 rfl (lv_at hl 0 rfl) ?_
      refine gm_initial C hX fl_M_27 d_M_load_164 ?_
      refine lv_iload_n hx hb d_M_load_167 rfl (lv_at hl 1 rfl) ?_
      obtain ⟨hz168, h⟩ := gi_e h
      obtain ⟨v1, ev1, h⟩ := lt1_e h
      refine alm_6 C hX hz168 d_M_load_168 ev1 ?_
      obtain ⟨hz169, h⟩ := gi_e h
      obtain ⟨s2, es2, h⟩ := lt1_e h
      refine asm_30 C hX hz169 d_M_load_169 (fun H locs hX => ?_)
      rw [← es2] at hX
      obtain ⟨v3, ev3, h⟩ := lt1_e h
      refine lv_iinc (v := v3) (lv' := [(1, .int v3), (0, .ref (g.q 60))]) hx hb d_M_load_170 hl (k := 1) rfl (by rw [ev3]; rfl) (by decide) rfl (fun ls hl => ?_)
      refine lv_goto (tgt := 150) hx hb d_M_load_173 (by decide) ?_
      exact ih v3 s2 H locs ls hX (lv_sub hl [1, 0] rfl) h
set_option maxHeartbeats 4000000 in
set_option maxRecDepth 100000 in
theorem w_M_load_128 {z : Int32 × SM} (C : Cx g A p m c b_M_load 3 ss args R_M) (hQ : ∀ (pc : Nat) (H : Heap) (locs : List Loc) (ls : Array Slot), XW g A ss (wM g z.2) H locs → decode b_M_load pc = .ok (.ireturn, 1) → W p l e (rmX 9 209) ss m args below meth c H locs 0 0 Q (F0 m pc ls [.int z.1])) (n : Nat) : ∀ (x1 : Int32) (s : SM) (H : Heap) (locs : List Loc) (ls : Array Slot), XW g A ss (wM g s) H locs → lv_has ls 3 [(0, .ref (g.q 60)), (1, .int x1)] → f_M_load_128 n x1 s = some z → W p l e (rmX 9 209) ss m args below meth c H locs 0 0 Q (F0 m 128 ls []) := by
  have ⟨⟨hx, hb, hml, hown, hts⟩, hK, hA, hN⟩ := C
  induction n with
  | zero => intro x1 s H locs ls hX hl h; cases h
  | succ n ih =>
    intro x1 s H locs ls hX hl h
    rw [f_M_load_128] at h
    refine lv_iload_n hx hb d_M_load_128 rfl (lv_at hl 1 rfl) ?_
    refine lv_sipush (v := 256) hx hb d_M_load_129 (by decide) ?_
    refine lv_icmp_ge (tgt := 148) hx hb d_M_load_132 (by decide) (fun c132 => ?_) (fun c132 => ?_)
    · have h := ite_t c132 h
      refine lv_iconst (v := 0) hx hb d_M_load_148 (by decide) ?_
      refine lv_istore_n (lv' := [(1, .int 0), (0, .ref (g.q 60))]) hx hb d_M_load_149 rfl hl (by decide) rfl (fun ls hl => ?_)
      exact w_M_load_150 C hQ FU 0 s H locs ls hX (lv_sub hl [1, 0] rfl) h
    · have h := ite_f c132 h
      refine lv_aload_n hx hb d_M_load_135 rfl (lv_at hl 0 rfl) ?_
      refine gm_memory C hX fl_M_96 d_M_load_136 ?_
      refine lv_iload_n hx hb d_M_load_139 rfl (lv_at hl 1 rfl) ?_
      refine lv_iconst (v := 0) hx hb d_M_load_140 (by decide) ?_
      obtain ⟨hz141, h⟩ := gi_e h
      obtain ⟨s1, es1, h⟩ := lt1_e h
      refine asm_29 C hX hz141 d_M_load_141 (fun H locs hX => ?_)
      rw [← es1] at hX
      obtain ⟨v2, ev2, h⟩ := lt1_e h
      refine lv_iinc (v := v2) (lv' := [(1, .int v2), (0, .ref (g.q 60))]) hx hb d_M_load_142 hl (k := 1) rfl (by rw [ev2]; rfl) (by decide) rfl (fun ls hl => ?_)
      refine lv_goto (tgt := 128) hx hb d_M_load_145 (by decide) ?_
      exact ih v2 s1 H locs ls hX (lv_sub hl [1, 0] rfl) h
set_option maxHeartbeats 4000000 in
set_option maxRecDepth 100000 in
theorem w_M_load_123 {z : Int32 × SM} (C : Cx g A p m c b_M_load 3 ss args R_M) (hQ : ∀ (pc : Nat) (H : Heap) (locs : List Loc) (ls : Array Slot), XW g A ss (wM g z.2) H locs → decode b_M_load pc = .ok (.ireturn, 1) → W p l e (rmX 9 209) ss m args below meth c H locs 0 0 Q (F0 m pc ls [.int z.1])) : ∀ (y1 : Int32) (s : SM) (H : Heap) (locs : List Loc) (ls : Array Slot), XW g A ss (wM g s) H locs → lv_has ls 3 [(0, .ref (g.q 60))] → f_M_load_123 y1 s = some z → W p l e (rmX 9 209) ss m args below meth c H locs 0 0 Q (F0 m 123 ls [.int y1, .ref (g.q 60)]) := by
  have ⟨⟨hx, hb, hml, hown, hts⟩, hK, hA, hN⟩ := C
  intro y1 s H locs ls hX hl h
  rw [f_M_load_123] at h
  obtain ⟨s1, es1, h⟩ := lt1_e h
  refine pm_pages C hX fl_M_146 d_M_load_123 (fun H locs hX => ?_)
  rw [← es1] at hX
  refine lv_iconst (v := 0) hx hb d_M_load_126 (by decide) ?_
  refine lv_istore_n (lv' := [(1, .int 0), (0, .ref (g.q 60))]) hx hb d_M_load_127 rfl hl (by decide) rfl (fun ls hl => ?_)
  exact w_M_load_128 C hQ FU 0 s1 H locs ls hX (lv_sub hl [1, 0] rfl) h
set_option maxHeartbeats 4000000 in
set_option maxRecDepth 100000 in
theorem w_M_load_89 {z : Int32 × SM} (C : Cx g A p m c b_M_load 3 ss args R_M) (hQ : ∀ (pc : Nat) (H : Heap) (locs : List Loc) (ls : Array Slot), XW g A ss (wM g z.2) H locs → decode b_M_load pc = .ok (.ireturn, 1) → W p l e (rmX 9 209) ss m args below meth c H locs 0 0 Q (F0 m pc ls [.int z.1])) : ∀ (s : SM) (H : Heap) (locs : List Loc) (ls : Array Slot), XW g A ss (wM g s) H locs → lv_has ls 3 [(0, .ref (g.q 60))] → f_M_load_89 s = some z → W p l e (rmX 9 209) ss m args below meth c H locs 0 0 Q (F0 m 89 ls []) := by
  have ⟨⟨hx, hb, hml, hown, hts⟩, hK, hA, hN⟩ := C
  intro s H locs ls hX hl h
  rw [f_M_load_89] at h
  refine lv_aload_n hx hb d_M_load_89 rfl (lv_at hl 0 rfl) ?_
  refine gm_wrong C hX fl_M_149 d_M_load_90 ?_
  refine lv_if_le (tgt := 101) hx hb d_M_load_93 (by decide) (fun c93 => ?_) (fun c93 => ?_)
  · have h := ite_t c93 h
    refine lv_aload_n hx hb d_M_load_101 rfl (lv_at hl 0 rfl) ?_
    refine lv_iconst (v := 1) hx hb d_M_load_102 (by decide) ?_
    obtain ⟨s1, es1, h⟩ := lt1_e h
    refine pm_loaded C hX fl_M_127 (Or.inr rfl) d_M_load_103 (fun H locs hX => ?_)
    rw [← es1] at hX
    refine lv_aload_n hx hb d_M_load_106 rfl (lv_at hl 0 rfl) ?_
    refine lv_aload_n hx hb d_M_load_107 rfl (lv_at hl 0 rfl) ?_
    refine gm_memories C hX fl_M_222 d_M_load_108 ?_
    refine lv_if_le (tgt := 122) hx hb d_M_load_111 (by decide) (fun c111 => ?_) (fun c111 => ?_)
    · have h := ite_t c111 h
      refine lv_iconst (v := 0) hx hb d_M_load_122 (by decide) ?_
      exact w_M_load_123 C hQ 0 s1 H locs ls hX hl h
    · have h := ite_f c111 h
      refine lv_aload_n hx hb d_M_load_114 rfl (lv_at hl 0 rfl) ?_
      refine gm_least C hX fl_M_231 d_M_load_115 ?_
      obtain ⟨v2, ev2, h⟩ := lt1_e h
      refine lv_l2i hx hb d_M_load_118 ev2.symm ?_
      refine lv_goto (tgt := 123) hx hb d_M_load_119 (by decide) ?_
      exact w_M_load_123 C hQ v2 s1 H locs ls hX hl h
  · have h := ite_f c93 h
    refine lv_aload_n hx hb d_M_load_96 rfl (lv_at hl 0 rfl) ?_
    refine gm_wrong C hX fl_M_149 d_M_load_97 ?_
    obtain rfl := so1 h
    exact hQ _ H locs ls hX d_M_load_100
set_option maxHeartbeats 4000000 in
set_option maxRecDepth 100000 in
theorem w_M_load {z : Int32 × SM} (C : Cx g A p m c b_M_load 3 ss args R_M) (hQ : ∀ (pc : Nat) (H : Heap) (locs : List Loc) (ls : Array Slot), XW g A ss (wM g z.2) H locs → decode b_M_load pc = .ok (.ireturn, 1) → W p l e (rmX 9 209) ss m args below meth c H locs 0 0 Q (F0 m pc ls [.int z.1])) : ∀ (s : SM) (H : Heap) (locs : List Loc) (ls : Array Slot), XW g A ss (wM g s) H locs → lv_has ls 3 [(0, .ref (g.q 60))] → f_M_load s = some z → W p l e (rmX 9 209) ss m args below meth c H locs 0 0 Q (F0 m 0 ls []) := by
  have ⟨⟨hx, hb, hml, hown, hts⟩, hK, hA, hN⟩ := C
  intro s H locs ls hX hl h
  rw [f_M_load] at h
  refine lv_aload_n hx hb d_M_load_0 rfl (lv_at hl 0 rfl) ?_
  refine lv_iconst (v := 0) hx hb d_M_load_1 (by decide) ?_
  obtain ⟨s1, es1, h⟩ := lt1_e h
  refine pm_code C hX fl_M_120 d_M_load_2 (fun H locs hX => ?_)
  rw [← es1] at hX
  refine lv_aload_n hx hb d_M_load_5 rfl (lv_at hl 0 rfl) ?_
  refine gm_loaded C hX fl_M_127 d_M_load_6 ?_
  refine lv_if_eq (tgt := 14) hx hb d_M_load_9 (by decide) (fun c9 => ?_) (fun c9 => ?_)
  · have h := ite_t c9 h
    refine lv_aload_n hx hb d_M_load_14 rfl (lv_at hl 0 rfl) ?_
    refine lv_iconst (v := 0) hx hb d_M_load_15 (by decide) ?_
    obtain ⟨s2, es2, h⟩ := lt1_e h
    refine pm_wrong C hX fl_M_149 d_M_load_16 (fun H locs hX => ?_)
    rw [← es2] at hX
    refine lv_aload_n hx hb d_M_load_19 rfl (lv_at hl 0 rfl) ?_
    refine lv_iconst (v := 0) hx hb d_M_load_20 (by decide) ?_
    obtain ⟨s3, es3, h⟩ := lt1_e h
    refine pm_types C hX fl_M_219 d_M_load_21 (fun H locs hX => ?_)
    rw [← es3] at hX
    refine lv_aload_n hx hb d_M_load_24 rfl (lv_at hl 0 rfl) ?_
    refine lv_iconst (v := 0) hx hb d_M_load_25 (by decide) ?_
    obtain ⟨s4, es4, h⟩ := lt1_e h
    refine pm_functions C hX fl_M_188 d_M_load_26 (fun H locs hX => ?_)
    rw [← es4] at hX
    refine lv_aload_n hx hb d_M_load_29 rfl (lv_at hl 0 rfl) ?_
    refine lv_iconst (v := 0) hx hb d_M_load_30 (by decide) ?_
    obtain ⟨s5, es5, h⟩ := lt1_e h
    refine pm_bodies C hX fl_M_185 d_M_load_31 (fun H locs hX => ?_)
    rw [← es5] at hX
    refine lv_aload_n hx hb d_M_load_34 rfl (lv_at hl 0 rfl) ?_
    refine lv_iconst (v := 0) hx hb d_M_load_35 (by decide) ?_
    obtain ⟨s6, es6, h⟩ := lt1_e h
    refine pm_memories C hX fl_M_222 d_M_load_36 (fun H locs hX => ?_)
    rw [← es6] at hX
    refine lv_aload_n hx hb d_M_load_39 rfl (lv_at hl 0 rfl) ?_
    refine lv_iconst (v := 0) hx hb d_M_load_40 (by decide) ?_
    obtain ⟨s7, es7, h⟩ := lt1_e h
    refine pm_capped C hX fl_M_228 (Or.inl rfl) d_M_load_41 (fun H locs hX => ?_)
    rw [← es7] at hX
    refine lv_aload_n hx hb d_M_load_44 rfl (lv_at hl 0 rfl) ?_
    refine lv_lconst (v := 0) hx hb d_M_load_45 (by decide) ?_
    obtain ⟨s8, es8, h⟩ := lt1_e h
    refine pm_least C hX fl_M_231 d_M_load_46 (fun H locs hX => ?_)
    rw [← es8] at hX
    refine lv_aload_n hx hb d_M_load_49 rfl (lv_at hl 0 rfl) ?_
    refine lv_iconst (v := 0) hx hb d_M_load_50 (by decide) ?_
    obtain ⟨s9, es9, h⟩ := lt1_e h
    refine pm_globals C hX fl_M_243 d_M_load_51 (fun H locs hX => ?_)
    rw [← es9] at hX
    refine lv_aload_n hx hb d_M_load_54 rfl (lv_at hl 0 rfl) ?_
    refine lv_iconst (v := 0) hx hb d_M_load_55 (by decide) ?_
    obtain ⟨s10, es10, h⟩ := lt1_e h
    refine pm_exports C hX fl_M_246 d_M_load_56 (fun H locs hX => ?_)
    rw [← es10] at hX
    refine lv_aload_n hx hb d_M_load_59 rfl (lv_at hl 0 rfl) ?_
    refine lv_iconst (v := 0) hx hb d_M_load_60 (by decide) ?_
    obtain ⟨s11, es11, h⟩ := lt1_e h
    refine pm_segments C hX fl_M_249 d_M_load_61 (fun H locs hX => ?_)
    rw [← es11] at hX
    refine lv_aload_n hx hb d_M_load_64 rfl (lv_at hl 0 rfl) ?_
    refine lv_iconst (v := 0) hx hb d_M_load_65 (by decide) ?_
    obtain ⟨s12, es12, h⟩ := lt1_e h
    refine pm_many C hX fl_M_263 d_M_load_66 (fun H locs hX => ?_)
    rw [← es12] at hX
    refine lv_aload_n hx hb d_M_load_69 rfl (lv_at hl 0 rfl) ?_
    refine lv_iconst (v := 0) hx hb d_M_load_70 (by decide) ?_
    obtain ⟨s13, es13, h⟩ := lt1_e h
    refine pm_labels C hX fl_M_273 d_M_load_71 (fun H locs hX => ?_)
    rw [← es13] at hX
    refine lv_aload_n hx hb d_M_load_74 rfl (lv_at hl 0 rfl) ?_
    obtain ⟨s14, hc75, h⟩ := bd1_e h
    refine x_vV (As := []) (rest := []) C hX (c_M_readModule l g s13 s14 hc75) (cw_M_334 C.1.2.2.2.2 C.2.2.2 ⟨by decide, by decide⟩) (x_rc C hX vg_0 rfl) rfl hl.1 rfl (lv_room (Nat.le_of_ble_eq_true rfl)) d_M_load_75 ⟨Nat.le_refl _, Nat.le_refl _⟩ (fun H locs hX => ?_)
    refine lv_aload_n hx hb d_M_load_78 rfl (lv_at hl 0 rfl) ?_
    refine gm_wrong C hX fl_M_149 d_M_load_79 ?_
    refine lv_if_ne (tgt := 89) hx hb d_M_load_82 (by decide) (fun c82 => ?_) (fun c82 => ?_)
    · have h := ite_f c82 h
      exact w_M_load_89 C hQ s14 H locs ls hX hl h
    · have h := ite_t c82 h
      refine lv_aload_n hx hb d_M_load_85 rfl (lv_at hl 0 rfl) ?_
      obtain ⟨s15, hc86, h⟩ := bd1_e h
      refine x_vV (As := []) (rest := []) C hX (c_M_validate l g s14 s15 hc86) (cw_M_337 C.1.2.2.2.2 C.2.2.2 ⟨by decide, by decide⟩) (x_rc C hX vg_0 rfl) rfl hl.1 rfl (lv_room (Nat.le_of_ble_eq_true rfl)) d_M_load_86 ⟨Nat.le_refl _, Nat.le_refl _⟩ (fun H locs hX => ?_)
      exact w_M_load_89 C hQ s15 H locs ls hX hl h
  · have h := ite_f c9 h
    refine lv_iconst (v := 5) hx hb d_M_load_12 (by decide) ?_
    obtain rfl := so1 h
    exact hQ _ H locs ls hX d_M_load_13
end WALK
theorem c_M_load (l : Launch) (g : GX) (s : SM) (z : Int32 × SM) (h : f_M_load s = some z) : MI l g y_M_load b_M_load 3 (some .int) 9 209 [.ref (g.q 60)] (wM g s) z.1 (wM g z.2) :=
  MI.mk (own := R_M) (by decide) rfl (Nat.le_of_ble_eq_true rfl) fun p e ss m below meth c A Q C hQ ls hX hl => w_M_load C hQ s _ _ ls hX hl h
-- M_entriesOf
def f_M_entriesOf_51 (s : SM) (x1 : Int32) (x2 : Int32) (y0 : Int32) : Option Int32 :=
    some (y0)
def f_M_entriesOf_26 (s : SM) (x1 : Int32) (x2 : Int32) (y0 : Int32) : Option Int32 :=
    some (y0)
def f_M_entriesOf (s : SM) (x1 : Int32) (x2 : Int32) : Option Int32 :=
    gi x2 250 <|
    lt1 (s.1 14 (Int32.toNatClampNeg x2)) fun v1 =>
    if v1 = 11 then
      gi x1 8 <|
      lt1 (s.1 23 (Int32.toNatClampNeg x1)) fun v6 =>
      if x2 = v6 then
        f_M_entriesOf_26 s x1 x2 1
      else
        f_M_entriesOf_26 s x1 x2 0
    else
      gi x2 250 <|
      lt1 (s.1 14 (Int32.toNatClampNeg x2)) fun v2 =>
      if v2 = 14 then
        gi x2 250 <|
        lt1 (s.2 15 (Int32.toNatClampNeg x2)) fun v3 =>
        lt1 (Int64.toInt32 v3) fun v4 =>
        lt1 (2 + v4) fun v5 =>
        f_M_entriesOf_51 s x1 x2 v5
      else
        f_M_entriesOf_51 s x1 x2 1
section WALK
variable {p : Program} {l : Launch} {e : Env} {ss : State} {m : MethodId} {args : Array Value} {below : List Frame} {meth : Method} {c : Code} {Q : State → Prop} {g : GX} {A : Nat → Prop}
set_option maxHeartbeats 4000000 in
set_option maxRecDepth 100000 in
theorem w_M_entriesOf_51 {s : SM} {z : Int32} (C : Cx g A p m c b_M_entriesOf 3 ss args R_M) (hQ : ∀ (pc : Nat) (H : Heap) (locs : List Loc) (ls : Array Slot), XW g A ss (wM g s) H locs → decode b_M_entriesOf pc = .ok (.ireturn, 1) → W p l e (rmX 0 0) ss m args below meth c H locs 0 0 Q (F0 m pc ls [.int z])) : ∀ (x1 : Int32) (x2 : Int32) (y0 : Int32) (H : Heap) (locs : List Loc) (ls : Array Slot), XW g A ss (wM g s) H locs → lv_has ls 3 [(0, .ref (g.q 60)), (1, .int x1), (2, .int x2)] → f_M_entriesOf_51 s x1 x2 y0 = some z → W p l e (rmX 0 0) ss m args below meth c H locs 0 0 Q (F0 m 51 ls [.int y0]) := by
  have ⟨⟨hx, hb, hml, hown, hts⟩, hK, hA, hN⟩ := C
  intro x1 x2 y0 H locs ls hX hl h
  rw [f_M_entriesOf_51] at h
  obtain rfl := so1 h
  exact hQ _ H locs ls hX d_M_entriesOf_51
set_option maxHeartbeats 4000000 in
set_option maxRecDepth 100000 in
theorem w_M_entriesOf_26 {s : SM} {z : Int32} (C : Cx g A p m c b_M_entriesOf 3 ss args R_M) (hQ : ∀ (pc : Nat) (H : Heap) (locs : List Loc) (ls : Array Slot), XW g A ss (wM g s) H locs → decode b_M_entriesOf pc = .ok (.ireturn, 1) → W p l e (rmX 0 0) ss m args below meth c H locs 0 0 Q (F0 m pc ls [.int z])) : ∀ (x1 : Int32) (x2 : Int32) (y0 : Int32) (H : Heap) (locs : List Loc) (ls : Array Slot), XW g A ss (wM g s) H locs → lv_has ls 3 [(0, .ref (g.q 60)), (1, .int x1), (2, .int x2)] → f_M_entriesOf_26 s x1 x2 y0 = some z → W p l e (rmX 0 0) ss m args below meth c H locs 0 0 Q (F0 m 26 ls [.int y0]) := by
  have ⟨⟨hx, hb, hml, hown, hts⟩, hK, hA, hN⟩ := C
  intro x1 x2 y0 H locs ls hX hl h
  rw [f_M_entriesOf_26] at h
  obtain rfl := so1 h
  exact hQ _ H locs ls hX d_M_entriesOf_26
set_option maxHeartbeats 4000000 in
set_option maxRecDepth 100000 in
theorem w_M_entriesOf {s : SM} {z : Int32} (C : Cx g A p m c b_M_entriesOf 3 ss args R_M) (hQ : ∀ (pc : Nat) (H : Heap) (locs : List Loc) (ls : Array Slot), XW g A ss (wM g s) H locs → decode b_M_entriesOf pc = .ok (.ireturn, 1) → W p l e (rmX 0 0) ss m args below meth c H locs 0 0 Q (F0 m pc ls [.int z])) : ∀ (x1 : Int32) (x2 : Int32) (H : Heap) (locs : List Loc) (ls : Array Slot), XW g A ss (wM g s) H locs → lv_has ls 3 [(0, .ref (g.q 60)), (1, .int x1), (2, .int x2)] → f_M_entriesOf s x1 x2 = some z → W p l e (rmX 0 0) ss m args below meth c H locs 0 0 Q (F0 m 0 ls []) := by
  have ⟨⟨hx, hb, hml, hown, hts⟩, hK, hA, hN⟩ := C
  intro x1 x2 H locs ls hX hl h
  rw [f_M_entriesOf] at h
  refine lv_aload_n hx hb d_M_entriesOf_0 rfl (lv_at hl 0 rfl) ?_
  refine gm_op C hX fl_M_51 d_M_entriesOf_1 ?_
  refine lv_iload_n hx hb d_M_entriesOf_4 rfl (lv_at hl 2 rfl) ?_
  obtain ⟨hz5, h⟩ := gi_e h
  obtain ⟨v1, ev1, h⟩ := lt1_e h
  refine alm_14 C hX hz5 d_M_entriesOf_5 ev1 ?_
  refine lv_bipush (v := 11) hx hb d_M_entriesOf_6 (by decide) ?_
  refine lv_icmp_ne (tgt := 27) hx hb d_M_entriesOf_8 (by decide) (fun c8 => ?_) (fun c8 => ?_)
  · have h := ite_f c8 h
    refine lv_aload_n hx hb d_M_entriesOf_27 rfl (lv_at hl 0 rfl) ?_
    refine gm_op C hX fl_M_51 d_M_entriesOf_28 ?_
    refine lv_iload_n hx hb d_M_entriesOf_31 rfl (lv_at hl 2 rfl) ?_
    obtain ⟨hz32, h⟩ := gi_e h
    obtain ⟨v2, ev2, h⟩ := lt1_e h
    refine alm_14 C hX hz32 d_M_entriesOf_32 ev2 ?_
    refine lv_bipush (v := 14) hx hb d_M_entriesOf_33 (by decide) ?_
    refine lv_icmp_ne (tgt := 50) hx hb d_M_entriesOf_35 (by decide) (fun c35 => ?_) (fun c35 => ?_)
    · have h := ite_f c35 h
      refine lv_iconst (v := 1) hx hb d_M_entriesOf_50 (by decide) ?_
      exact w_M_entriesOf_51 C hQ x1 x2 1 H locs ls hX hl h
    · have h := ite_t c35 h
      refine lv_iconst (v := 2) hx hb d_M_entriesOf_38 (by decide) ?_
      refine lv_aload_n hx hb d_M_entriesOf_39 rfl (lv_at hl 0 rfl) ?_
      refine gm_first C hX fl_M_54 d_M_entriesOf_40 ?_
      refine lv_iload_n hx hb d_M_entriesOf_43 rfl (lv_at hl 2 rfl) ?_
      obtain ⟨hz44, h⟩ := gi_e h
      obtain ⟨v3, ev3, h⟩ := lt1_e h
      refine alm_15 C hX hz44 d_M_entriesOf_44 ev3 ?_
      obtain ⟨v4, ev4, h⟩ := lt1_e h
      refine lv_l2i hx hb d_M_entriesOf_45 ev4.symm ?_
      obtain ⟨v5, ev5, h⟩ := lt1_e h
      refine x_iadd hx hb d_M_entriesOf_46 ev5 ?_
      refine lv_goto (tgt := 51) hx hb d_M_entriesOf_47 (by decide) ?_
      exact w_M_entriesOf_51 C hQ x1 x2 v5 H locs ls hX hl h
  · have h := ite_t c8 h
    refine lv_iload_n hx hb d_M_entriesOf_11 rfl (lv_at hl 2 rfl) ?_
    refine lv_aload_n hx hb d_M_entriesOf_12 rfl (lv_at hl 0 rfl) ?_
    refine gm_close C hX fl_M_78 d_M_entriesOf_13 ?_
    refine lv_iload_n hx hb d_M_entriesOf_16 rfl (lv_at hl 1 rfl) ?_
    obtain ⟨hz17, h⟩ := gi_e h
    obtain ⟨v6, ev6, h⟩ := lt1_e h
    refine alm_23 C hX hz17 d_M_entriesOf_17 ev6 ?_
    refine lv_icmp_ne (tgt := 25) hx hb d_M_entriesOf_18 (by decide) (fun c18 => ?_) (fun c18 => ?_)
    · have h := ite_f c18 h
      refine lv_iconst (v := 0) hx hb d_M_entriesOf_25 (by decide) ?_
      exact w_M_entriesOf_26 C hQ x1 x2 0 H locs ls hX hl h
    · have h := ite_t c18 h
      refine lv_iconst (v := 1) hx hb d_M_entriesOf_21 (by decide) ?_
      refine lv_goto (tgt := 26) hx hb d_M_entriesOf_22 (by decide) ?_
      exact w_M_entriesOf_26 C hQ x1 x2 1 H locs ls hX hl h
end WALK
theorem c_M_entriesOf (l : Launch) (g : GX) (x1 : Int32) (x2 : Int32) (s : SM) (z : Int32) (h : f_M_entriesOf s x1 x2 = some z) : MI l g y_M_entriesOf b_M_entriesOf 3 (some .int) 0 0 [.ref (g.q 60), .int x1, .int x2] (wM g s) z (wM g s) :=
  MI.mk (own := R_M) (by decide) rfl (Nat.le_of_ble_eq_true rfl) fun p e ss m below meth c A Q C hQ ls hX hl => w_M_entriesOf C hQ x1 x2 _ _ ls hX hl h
-- M_number
def f_M_number_193 (k16 : Int32 → Int32 → Int32 → Int32 → Int32 → Int32 → SM → Option (Int32 × SM)) (x1 : Int32) (x2 : Int32) (x3 : Int32) (x4 : Int32) (x5 : Int32) (x6 : Int32) (x7 : Int32) (x8 : Int32) (x9 : Int32) (s : SM) : Option (Int32 × SM) :=
    lt1 (x6 + (1)) fun v1 =>
    k16 x1 x2 x3 x4 x5 v1 s
def f_M_number_190 (k16 : Int32 → Int32 → Int32 → Int32 → Int32 → Int32 → SM → Option (Int32 × SM)) (x1 : Int32) (x2 : Int32) (x3 : Int32) (x4 : Int32) (x5 : Int32) (x6 : Int32) (x7 : Int32) (x8 : Int32) (x9 : Int32) (s : SM) : Option (Int32 × SM) :=
    f_M_number_193 k16 x1 x2 x3 1 x5 x6 x7 x8 x9 s
def f_M_number_159 (k16 : Int32 → Int32 → Int32 → Int32 → Int32 → Int32 → SM → Option (Int32 × SM)) (x1 : Int32) (x2 : Int32) (x3 : Int32) (x4 : Int32) (x5 : Int32) (x6 : Int32) (x7 : Int32) (x8 : Int32) (x9 : Int32) (s : SM) : Option (Int32 × SM) :=
    if x4 = 0 then
      if x7 = 0 then
        f_M_number_190 k16 x1 x2 x3 x4 x5 x6 x7 x8 x9 s
      else
        if x7 = 12 then
          f_M_number_190 k16 x1 x2 x3 x4 x5 x6 x7 x8 x9 s
        else
          if x7 = 14 then
            f_M_number_190 k16 x1 x2 x3 x4 x5 x6 x7 x8 x9 s
          else
            if x7 = 15 then
              f_M_number_190 k16 x1 x2 x3 x4 x5 x6 x7 x8 x9 s
            else
              f_M_number_193 k16 x1 x2 x3 x4 x5 x6 x7 x8 x9 s
    else
      f_M_number_193 k16 x1 x2 x3 x4 x5 x6 x7 x8 x9 s
def f_M_number_143 (k16 : Int32 → Int32 → Int32 → Int32 → Int32 → Int32 → SM → Option (Int32 × SM)) (x1 : Int32) (x2 : Int32) (x3 : Int32) (x4 : Int32) (x5 : Int32) (x6 : Int32) (x7 : Int32) (x8 : Int32) (x9 : Int32) (s : SM) : Option (Int32 × SM) :=
    if x4 = 0 then
      f_M_number_159 k16 x1 x2 x3 x4 x5 x6 x7 x8 x9 s
    else
      if x9 = 0 then
        f_M_number_159 k16 x1 x2 x3 x4 x5 x6 x7 x8 x9 s
      else
        f_M_number_193 k16 x1 x2 x3 0 x5 x6 x7 x8 x9 s
def f_M_number_104 (k16 : Int32 → Int32 → Int32 → Int32 → Int32 → Int32 → SM → Option (Int32 × SM)) (x1 : Int32) (x2 : Int32) (x3 : Int32) (x4 : Int32) (x5 : Int32) (x6 : Int32) (x7 : Int32) (x8 : Int32) (x9 : Int32) (s : SM) : Option (Int32 × SM) :=
    bd1 (f_M_entriesOf s x1 x6) fun r1 =>
    lt1 (x3 + r1) fun v2 =>
    f_M_number_143 k16 x1 x2 v2 x4 x5 x6 x7 x8 x9 s
def f_M_number_86 (k16 : Int32 → Int32 → Int32 → Int32 → Int32 → Int32 → SM → Option (Int32 × SM)) (x1 : Int32) (x2 : Int32) (x3 : Int32) (x4 : Int32) (x5 : Int32) (x6 : Int32) (x7 : Int32) (x8 : Int32) (y0 : Int32) (s : SM) : Option (Int32 × SM) :=
    if x4 = 0 then
      f_M_number_104 k16 x1 x2 x3 x4 x5 x6 x7 x8 y0 s
    else
      gi x1 8 <|
      lt1 (s.1 23 (Int32.toNatClampNeg x1)) fun v1 =>
      if x6 = v1 then
        f_M_number_104 k16 x1 x2 x3 x4 x5 x6 x7 x8 y0 s
      else
        if x8 = 0 then
          if x7 = 11 then
            if x5 ≤ 0 then
              f_M_number_143 k16 x1 x2 x3 x4 x5 x6 x7 x8 y0 s
            else
              lt1 (x5 + (-1)) fun v2 =>
              f_M_number_143 k16 x1 x2 x3 x4 v2 x6 x7 x8 y0 s
          else
            f_M_number_143 k16 x1 x2 x3 x4 x5 x6 x7 x8 y0 s
        else
          lt1 (x5 + (1)) fun v3 =>
          f_M_number_143 k16 x1 x2 x3 x4 v3 x6 x7 x8 y0 s
def f_M_number_85 (k16 : Int32 → Int32 → Int32 → Int32 → Int32 → Int32 → SM → Option (Int32 × SM)) (x1 : Int32) (x2 : Int32) (x3 : Int32) (x4 : Int32) (x5 : Int32) (x6 : Int32) (x7 : Int32) (x8 : Int32) (s : SM) : Option (Int32 × SM) :=
    f_M_number_86 k16 x1 x2 x3 x4 x5 x6 x7 x8 0 s
def f_M_number_76 (k16 : Int32 → Int32 → Int32 → Int32 → Int32 → Int32 → SM → Option (Int32 × SM)) (x1 : Int32) (x2 : Int32) (x3 : Int32) (x4 : Int32) (x5 : Int32) (x6 : Int32) (x7 : Int32) (x8 : Int32) (s : SM) : Option (Int32 × SM) :=
    if x5 = 0 then
      f_M_number_86 k16 x1 x2 x3 x4 x5 x6 x7 x8 1 s
    else
      f_M_number_85 k16 x1 x2 x3 x4 x5 x6 x7 x8 s
def f_M_number_61 (k16 : Int32 → Int32 → Int32 → Int32 → Int32 → Int32 → SM → Option (Int32 × SM)) (x1 : Int32) (x2 : Int32) (x3 : Int32) (x4 : Int32) (x5 : Int32) (x6 : Int32) (x7 : Int32) (y0 : Int32) (s : SM) : Option (Int32 × SM) :=
    if x7 = 5 then
      f_M_number_76 k16 x1 x2 x3 x4 x5 x6 x7 y0 s
    else
      if x7 = 11 then
        f_M_number_76 k16 x1 x2 x3 x4 x5 x6 x7 y0 s
      else
        f_M_number_85 k16 x1 x2 x3 x4 x5 x6 x7 y0 s
def f_M_number_60 (k16 : Int32 → Int32 → Int32 → Int32 → Int32 → Int32 → SM → Option (Int32 × SM)) (x1 : Int32) (x2 : Int32) (x3 : Int32) (x4 : Int32) (x5 : Int32) (x6 : Int32) (x7 : Int32) (s : SM) : Option (Int32 × SM) :=
    f_M_number_61 k16 x1 x2 x3 x4 x5 x6 x7 0 s
def f_M_number_16 : Nat → Int32 → Int32 → Int32 → Int32 → Int32 → Int32 → SM → Option (Int32 × SM)
  | 0, _, _, _, _, _, _, _ => none
  | n + 1, x1, x2, x3, x4, x5, x6, s =>
    gi x1 8 <|
    lt1 (s.1 23 (Int32.toNatClampNeg x1)) fun v1 =>
    if v1 < x6 then
      some (x3, s)
    else
      gi x6 250 <|
      lt1 (s.1 14 (Int32.toNatClampNeg x6)) fun v2 =>
      gi x6 251 <|
      lt1 (stI s 21 (Int32.toNatClampNeg x6) x3) fun s3 =>
      if v2 < 2 then
        f_M_number_60 (f_M_number_16 n) x1 x2 x3 x4 x5 x6 v2 s3
      else
        if 4 < v2 then
          f_M_number_60 (f_M_number_16 n) x1 x2 x3 x4 x5 x6 v2 s3
        else
          f_M_number_61 (f_M_number_16 n) x1 x2 x3 x4 x5 x6 v2 1 s3
def f_M_number (x1 : Int32) (x2 : Int32) (s : SM) : Option (Int32 × SM) :=
    gi x1 8 <|
    lt1 (s.1 22 (Int32.toNatClampNeg x1)) fun v1 =>
    f_M_number_16 FU x1 x2 x2 0 0 v1 s
section WALK
variable {p : Program} {l : Launch} {e : Env} {ss : State} {m : MethodId} {args : Array Value} {below : List Frame} {meth : Method} {c : Code} {Q : State → Prop} {g : GX} {A : Nat → Prop}
set_option maxHeartbeats 4000000 in
set_option maxRecDepth 100000 in
theorem w_M_number_193 {z : Int32 × SM} (C : Cx g A p m c b_M_number 10 ss args R_M) (hQ : ∀ (pc : Nat) (H : Heap) (locs : List Loc) (ls : Array Slot), XW g A ss (wM g z.2) H locs → decode b_M_number pc = .ok (.ireturn, 1) → W p l e (rmX 1 22) ss m args below meth c H locs 0 0 Q (F0 m pc ls [.int z.1])) (k16 : Int32 → Int32 → Int32 → Int32 → Int32 → Int32 → SM → Option (Int32 × SM)) (hk16 : ∀ (x1 : Int32) (x2 : Int32) (x3 : Int32) (x4 : Int32) (x5 : Int32) (x6 : Int32) (s : SM) (H : Heap) (locs : List Loc) (ls : Array Slot), XW g A ss (wM g s) H locs → lv_has ls 10 [(0, .ref (g.q 60)), (1, .int x1), (2, .int x2), (3, .int x3), (4, .int x4), (5, .int x5), (6, .int x6)] → k16 x1 x2 x3 x4 x5 x6 s = some z → W p l e (rmX 1 22) ss m args below meth c H locs 0 0 Q (F0 m 16 ls [])) : ∀ (x1 : Int32) (x2 : Int32) (x3 : Int32) (x4 : Int32) (x5 : Int32) (x6 : Int32) (x7 : Int32) (x8 : Int32) (x9 : Int32) (s : SM) (H : Heap) (locs : List Loc) (ls : Array Slot), XW g A ss (wM g s) H locs → lv_has ls 10 [(0, .ref (g.q 60)), (1, .int x1), (2, .int x2), (3, .int x3), (4, .int x4), (5, .int x5), (6, .int x6), (7, .int x7), (8, .int x8), (9, .int x9)] → f_M_number_193 k16 x1 x2 x3 x4 x5 x6 x7 x8 x9 s = some z → W p l e (rmX 1 22) ss m args below meth c H locs 0 0 Q (F0 m 193 ls []) := by
  have ⟨⟨hx, hb, hml, hown, hts⟩, hK, hA, hN⟩ := C
  intro x1 x2 x3 x4 x5 x6 x7 x8 x9 s H locs ls hX hl h
  rw [f_M_number_193] at h
  obtain ⟨v1, ev1, h⟩ := lt1_e h
  refine lv_iinc (v := v1) (lv' := [(6, .int v1), (0, .ref (g.q 60)), (1, .int x1), (2, .int x2), (3, .int x3), (4, .int x4), (5, .int x5), (7, .int x7), (8, .int x8), (9, .int x9)]) hx hb d_M_number_193 hl (k := 6) rfl (by rw [ev1]; rfl) (by decide) rfl (fun ls hl => ?_)
  refine lv_goto (tgt := 16) hx hb d_M_number_196 (by decide) ?_
  exact hk16 x1 x2 x3 x4 x5 v1 s H locs ls hX (lv_sub hl [1, 2, 3, 4, 5, 6, 0] rfl) h
set_option maxHeartbeats 4000000 in
set_option maxRecDepth 100000 in
theorem w_M_number_190 {z : Int32 × SM} (C : Cx g A p m c b_M_number 10 ss args R_M) (hQ : ∀ (pc : Nat) (H : Heap) (locs : List Loc) (ls : Array Slot), XW g A ss (wM g z.2) H locs → decode b_M_number pc = .ok (.ireturn, 1) → W p l e (rmX 1 22) ss m args below meth c H locs 0 0 Q (F0 m pc ls [.int z.1])) (k16 : Int32 → Int32 → Int32 → Int32 → Int32 → Int32 → SM → Option (Int32 × SM)) (hk16 : ∀ (x1 : Int32) (x2 : Int32) (x3 : Int32) (x4 : Int32) (x5 : Int32) (x6 : Int32) (s : SM) (H : Heap) (locs : List Loc) (ls : Array Slot), XW g A ss (wM g s) H locs → lv_has ls 10 [(0, .ref (g.q 60)), (1, .int x1), (2, .int x2), (3, .int x3), (4, .int x4), (5, .int x5), (6, .int x6)] → k16 x1 x2 x3 x4 x5 x6 s = some z → W p l e (rmX 1 22) ss m args below meth c H locs 0 0 Q (F0 m 16 ls [])) : ∀ (x1 : Int32) (x2 : Int32) (x3 : Int32) (x4 : Int32) (x5 : Int32) (x6 : Int32) (x7 : Int32) (x8 : Int32) (x9 : Int32) (s : SM) (H : Heap) (locs : List Loc) (ls : Array Slot), XW g A ss (wM g s) H locs → lv_has ls 10 [(0, .ref (g.q 60)), (1, .int x1), (2, .int x2), (3, .int x3), (4, .int x4), (5, .int x5), (6, .int x6), (7, .int x7), (8, .int x8), (9, .int x9)] → f_M_number_190 k16 x1 x2 x3 x4 x5 x6 x7 x8 x9 s = some z → W p l e (rmX 1 22) ss m args below meth c H locs 0 0 Q (F0 m 190 ls []) := by
  have ⟨⟨hx, hb, hml, hown, hts⟩, hK, hA, hN⟩ := C
  intro x1 x2 x3 x4 x5 x6 x7 x8 x9 s H locs ls hX hl h
  rw [f_M_number_190] at h
  refine lv_iconst (v := 1) hx hb d_M_number_190 (by decide) ?_
  refine lv_istore (lv' := [(4, .int 1), (0, .ref (g.q 60)), (1, .int x1), (2, .int x2), (3, .int x3), (5, .int x5), (6, .int x6), (7, .int x7), (8, .int x8), (9, .int x9)]) hx hb d_M_number_191 hl (by decide) rfl (fun ls hl => ?_)
  exact w_M_number_193 C hQ k16 hk16 x1 x2 x3 1 x5 x6 x7 x8 x9 s H locs ls hX (lv_sub hl [1, 2, 3, 4, 0, 5, 6, 7, 8, 9] rfl) h
set_option maxHeartbeats 4000000 in
set_option maxRecDepth 100000 in
theorem w_M_number_159 {z : Int32 × SM} (C : Cx g A p m c b_M_number 10 ss args R_M) (hQ : ∀ (pc : Nat) (H : Heap) (locs : List Loc) (ls : Array Slot), XW g A ss (wM g z.2) H locs → decode b_M_number pc = .ok (.ireturn, 1) → W p l e (rmX 1 22) ss m args below meth c H locs 0 0 Q (F0 m pc ls [.int z.1])) (k16 : Int32 → Int32 → Int32 → Int32 → Int32 → Int32 → SM → Option (Int32 × SM)) (hk16 : ∀ (x1 : Int32) (x2 : Int32) (x3 : Int32) (x4 : Int32) (x5 : Int32) (x6 : Int32) (s : SM) (H : Heap) (locs : List Loc) (ls : Array Slot), XW g A ss (wM g s) H locs → lv_has ls 10 [(0, .ref (g.q 60)), (1, .int x1), (2, .int x2), (3, .int x3), (4, .int x4), (5, .int x5), (6, .int x6)] → k16 x1 x2 x3 x4 x5 x6 s = some z → W p l e (rmX 1 22) ss m args below meth c H locs 0 0 Q (F0 m 16 ls [])) : ∀ (x1 : Int32) (x2 : Int32) (x3 : Int32) (x4 : Int32) (x5 : Int32) (x6 : Int32) (x7 : Int32) (x8 : Int32) (x9 : Int32) (s : SM) (H : Heap) (locs : List Loc) (ls : Array Slot), XW g A ss (wM g s) H locs → lv_has ls 10 [(0, .ref (g.q 60)), (1, .int x1), (2, .int x2), (3, .int x3), (4, .int x4), (5, .int x5), (6, .int x6), (7, .int x7), (8, .int x8), (9, .int x9)] → f_M_number_159 k16 x1 x2 x3 x4 x5 x6 x7 x8 x9 s = some z → W p l e (rmX 1 22) ss m args below meth c H locs 0 0 Q (F0 m 159 ls []) := by
  have ⟨⟨hx, hb, hml, hown, hts⟩, hK, hA, hN⟩ := C
  intro x1 x2 x3 x4 x5 x6 x7 x8 x9 s H locs ls hX hl h
  rw [f_M_number_159] at h
  refine lv_iload hx hb d_M_number_159 (lv_at hl 4 rfl) ?_
  refine lv_if_ne (tgt := 193) hx hb d_M_number_161 (by decide) (fun c161 => ?_) (fun c161 => ?_)
  · have h := ite_f c161 h
    exact w_M_number_193 C hQ k16 hk16 x1 x2 x3 x4 x5 x6 x7 x8 x9 s H locs ls hX hl h
  · have h := ite_t c161 h
    refine lv_iload hx hb d_M_number_164 (lv_at hl 7 rfl) ?_
    refine lv_if_eq (tgt := 190) hx hb d_M_number_166 (by decide) (fun c166 => ?_) (fun c166 => ?_)
    · have h := ite_t c166 h
      exact w_M_number_190 C hQ k16 hk16 x1 x2 x3 x4 x5 x6 x7 x8 x9 s H locs ls hX hl h
    · have h := ite_f c166 h
      refine lv_iload hx hb d_M_number_169 (lv_at hl 7 rfl) ?_
      refine lv_bipush (v := 12) hx hb d_M_number_171 (by decide) ?_
      refine lv_icmp_eq (tgt := 190) hx hb d_M_number_173 (by decide) (fun c173 => ?_) (fun c173 => ?_)
      · have h := ite_t c173 h
        exact w_M_number_190 C hQ k16 hk16 x1 x2 x3 x4 x5 x6 x7 x8 x9 s H locs ls hX hl h
      · have h := ite_f c173 h
        refine lv_iload hx hb d_M_number_176 (lv_at hl 7 rfl) ?_
        refine lv_bipush (v := 14) hx hb d_M_number_178 (by decide) ?_
        refine lv_icmp_eq (tgt := 190) hx hb d_M_number_180 (by decide) (fun c180 => ?_) (fun c180 => ?_)
        · have h := ite_t c180 h
          exact w_M_number_190 C hQ k16 hk16 x1 x2 x3 x4 x5 x6 x7 x8 x9 s H locs ls hX hl h
        · have h := ite_f c180 h
          refine lv_iload hx hb d_M_number_183 (lv_at hl 7 rfl) ?_
          refine lv_bipush (v := 15) hx hb d_M_number_185 (by decide) ?_
          refine lv_icmp_ne (tgt := 193) hx hb d_M_number_187 (by decide) (fun c187 => ?_) (fun c187 => ?_)
          · have h := ite_f c187 h
            exact w_M_number_193 C hQ k16 hk16 x1 x2 x3 x4 x5 x6 x7 x8 x9 s H locs ls hX hl h
          · have h := ite_t c187 h
            exact w_M_number_190 C hQ k16 hk16 x1 x2 x3 x4 x5 x6 x7 x8 x9 s H locs ls hX hl h
set_option maxHeartbeats 4000000 in
set_option maxRecDepth 100000 in
theorem w_M_number_143 {z : Int32 × SM} (C : Cx g A p m c b_M_number 10 ss args R_M) (hQ : ∀ (pc : Nat) (H : Heap) (locs : List Loc) (ls : Array Slot), XW g A ss (wM g z.2) H locs → decode b_M_number pc = .ok (.ireturn, 1) → W p l e (rmX 1 22) ss m args below meth c H locs 0 0 Q (F0 m pc ls [.int z.1])) (k16 : Int32 → Int32 → Int32 → Int32 → Int32 → Int32 → SM → Option (Int32 × SM)) (hk16 : ∀ (x1 : Int32) (x2 : Int32) (x3 : Int32) (x4 : Int32) (x5 : Int32) (x6 : Int32) (s : SM) (H : Heap) (locs : List Loc) (ls : Array Slot), XW g A ss (wM g s) H locs → lv_has ls 10 [(0, .ref (g.q 60)), (1, .int x1), (2, .int x2), (3, .int x3), (4, .int x4), (5, .int x5), (6, .int x6)] → k16 x1 x2 x3 x4 x5 x6 s = some z → W p l e (rmX 1 22) ss m args below meth c H locs 0 0 Q (F0 m 16 ls [])) : ∀ (x1 : Int32) (x2 : Int32) (x3 : Int32) (x4 : Int32) (x5 : Int32) (x6 : Int32) (x7 : Int32) (x8 : Int32) (x9 : Int32) (s : SM) (H : Heap) (locs : List Loc) (ls : Array Slot), XW g A ss (wM g s) H locs → lv_has ls 10 [(0, .ref (g.q 60)), (1, .int x1), (2, .int x2), (3, .int x3), (4, .int x4), (5, .int x5), (6, .int x6), (7, .int x7), (8, .int x8), (9, .int x9)] → f_M_number_143 k16 x1 x2 x3 x4 x5 x6 x7 x8 x9 s = some z → W p l e (rmX 1 22) ss m args below meth c H locs 0 0 Q (F0 m 143 ls []) := by
  have ⟨⟨hx, hb, hml, hown, hts⟩, hK, hA, hN⟩ := C
  intro x1 x2 x3 x4 x5 x6 x7 x8 x9 s H locs ls hX hl h
  rw [f_M_number_143] at h
  refine lv_iload hx hb d_M_number_143 (lv_at hl 4 rfl) ?_
  refine lv_if_eq (tgt := 159) hx hb d_M_number_145 (by decide) (fun c145 => ?_) (fun c145 => ?_)
  · have h := ite_t c145 h
    exact w_M_number_159 C hQ k16 hk16 x1 x2 x3 x4 x5 x6 x7 x8 x9 s H locs ls hX hl h
  · have h := ite_f c145 h
    refine lv_iload hx hb d_M_number_148 (lv_at hl 9 rfl) ?_
    refine lv_if_eq (tgt := 159) hx hb d_M_number_150 (by decide) (fun c150 => ?_) (fun c150 => ?_)
    · have h := ite_t c150 h
      exact w_M_number_159 C hQ k16 hk16 x1 x2 x3 x4 x5 x6 x7 x8 x9 s H locs ls hX hl h
    · have h := ite_f c150 h
      refine lv_iconst (v := 0) hx hb d_M_number_153 (by decide) ?_
      refine lv_istore (lv' := [(4, .int 0), (0, .ref (g.q 60)), (1, .int x1), (2, .int x2), (3, .int x3), (5, .int x5), (6, .int x6), (7, .int x7), (8, .int x8), (9, .int x9)]) hx hb d_M_number_154 hl (by decide) rfl (fun ls hl => ?_)
      refine lv_goto (tgt := 193) hx hb d_M_number_156 (by decide) ?_
      exact w_M_number_193 C hQ k16 hk16 x1 x2 x3 0 x5 x6 x7 x8 x9 s H locs ls hX (lv_sub hl [1, 2, 3, 4, 0, 5, 6, 7, 8, 9] rfl) h
set_option maxHeartbeats 4000000 in
set_option maxRecDepth 100000 in
theorem w_M_number_104 {z : Int32 × SM} (C : Cx g A p m c b_M_number 10 ss args R_M) (hQ : ∀ (pc : Nat) (H : Heap) (locs : List Loc) (ls : Array Slot), XW g A ss (wM g z.2) H locs → decode b_M_number pc = .ok (.ireturn, 1) → W p l e (rmX 1 22) ss m args below meth c H locs 0 0 Q (F0 m pc ls [.int z.1])) (k16 : Int32 → Int32 → Int32 → Int32 → Int32 → Int32 → SM → Option (Int32 × SM)) (hk16 : ∀ (x1 : Int32) (x2 : Int32) (x3 : Int32) (x4 : Int32) (x5 : Int32) (x6 : Int32) (s : SM) (H : Heap) (locs : List Loc) (ls : Array Slot), XW g A ss (wM g s) H locs → lv_has ls 10 [(0, .ref (g.q 60)), (1, .int x1), (2, .int x2), (3, .int x3), (4, .int x4), (5, .int x5), (6, .int x6)] → k16 x1 x2 x3 x4 x5 x6 s = some z → W p l e (rmX 1 22) ss m args below meth c H locs 0 0 Q (F0 m 16 ls [])) : ∀ (x1 : Int32) (x2 : Int32) (x3 : Int32) (x4 : Int32) (x5 : Int32) (x6 : Int32) (x7 : Int32) (x8 : Int32) (x9 : Int32) (s : SM) (H : Heap) (locs : List Loc) (ls : Array Slot), XW g A ss (wM g s) H locs → lv_has ls 10 [(0, .ref (g.q 60)), (1, .int x1), (2, .int x2), (3, .int x3), (4, .int x4), (5, .int x5), (6, .int x6), (7, .int x7), (8, .int x8), (9, .int x9)] → f_M_number_104 k16 x1 x2 x3 x4 x5 x6 x7 x8 x9 s = some z → W p l e (rmX 1 22) ss m args below meth c H locs 0 0 Q (F0 m 104 ls []) := by
  have ⟨⟨hx, hb, hml, hown, hts⟩, hK, hA, hN⟩ := C
  intro x1 x2 x3 x4 x5 x6 x7 x8 x9 s H locs ls hX hl h
  rw [f_M_number_104] at h
  refine lv_iload_n hx hb d_M_number_104 rfl (lv_at hl 3 rfl) ?_
  refine lv_aload_n hx hb d_M_number_105 rfl (lv_at hl 0 rfl) ?_
  refine lv_iload_n hx hb d_M_number_106 rfl (lv_at hl 1 rfl) ?_
  refine lv_iload hx hb d_M_number_107 (lv_at hl 6 rfl) ?_
  obtain ⟨r1, hc109, h⟩ := bd1_e h
  refine x_vI (As := [.int x1, .int x6]) (rest := [.int x3]) C hX (c_M_entriesOf l g x1 x6 s r1 hc109) (cw_M_396 C.1.2.2.2.2 C.2.2.2 ⟨by decide, by decide⟩) (x_rc C hX vg_0 rfl) rfl hl.1 rfl (lv_room (Nat.le_of_ble_eq_true rfl)) d_M_number_109 ⟨Nat.le_refl _, Nat.le_refl _⟩ (fun H locs hX => ?_)
  obtain ⟨v2, ev2, h⟩ := lt1_e h
  refine x_iadd hx hb d_M_number_112 ev2 ?_
  refine lv_istore_n (lv' := [(3, .int v2), (0, .ref (g.q 60)), (1, .int x1), (2, .int x2), (4, .int x4), (5, .int x5), (6, .int x6), (7, .int x7), (8, .int x8), (9, .int x9)]) hx hb d_M_number_113 rfl hl (by decide) rfl (fun ls hl => ?_)
  refine lv_goto (tgt := 143) hx hb d_M_number_114 (by decide) ?_
  exact w_M_number_143 C hQ k16 hk16 x1 x2 v2 x4 x5 x6 x7 x8 x9 s H locs ls hX (lv_sub hl [1, 2, 3, 0, 4, 5, 6, 7, 8, 9] rfl) h
set_option maxHeartbeats 4000000 in
set_option maxRecDepth 100000 in
theorem w_M_number_86 {z : Int32 × SM} (C : Cx g A p m c b_M_number 10 ss args R_M) (hQ : ∀ (pc : Nat) (H : Heap) (locs : List Loc) (ls : Array Slot), XW g A ss (wM g z.2) H locs → decode b_M_number pc = .ok (.ireturn, 1) → W p l e (rmX 1 22) ss m args below meth c H locs 0 0 Q (F0 m pc ls [.int z.1])) (k16 : Int32 → Int32 → Int32 → Int32 → Int32 → Int32 → SM → Option (Int32 × SM)) (hk16 : ∀ (x1 : Int32) (x2 : Int32) (x3 : Int32) (x4 : Int32) (x5 : Int32) (x6 : Int32) (s : SM) (H : Heap) (locs : List Loc) (ls : Array Slot), XW g A ss (wM g s) H locs → lv_has ls 10 [(0, .ref (g.q 60)), (1, .int x1), (2, .int x2), (3, .int x3), (4, .int x4), (5, .int x5), (6, .int x6)] → k16 x1 x2 x3 x4 x5 x6 s = some z → W p l e (rmX 1 22) ss m args below meth c H locs 0 0 Q (F0 m 16 ls [])) : ∀ (x1 : Int32) (x2 : Int32) (x3 : Int32) (x4 : Int32) (x5 : Int32) (x6 : Int32) (x7 : Int32) (x8 : Int32) (y0 : Int32) (s : SM) (H : Heap) (locs : List Loc) (ls : Array Slot), XW g A ss (wM g s) H locs → lv_has ls 10 [(0, .ref (g.q 60)), (1, .int x1), (2, .int x2), (3, .int x3), (4, .int x4), (5, .int x5), (6, .int x6), (7, .int x7), (8, .int x8)] → f_M_number_86 k16 x1 x2 x3 x4 x5 x6 x7 x8 y0 s = some z → W p l e (rmX 1 22) ss m args below meth c H locs 0 0 Q (F0 m 86 ls [.int y0]) := by
  have ⟨⟨hx, hb, hml, hown, hts⟩, hK, hA, hN⟩ := C
  intro x1 x2 x3 x4 x5 x6 x7 x8 y0 s H locs ls hX hl h
  rw [f_M_number_86] at h
  refine lv_istore (lv' := [(9, .int y0), (0, .ref (g.q 60)), (1, .int x1), (2, .int x2), (3, .int x3), (4, .int x4), (5, .int x5), (6, .int x6), (7, .int x7), (8, .int x8)]) hx hb d_M_number_86 hl (by decide) rfl (fun ls hl => ?_)
  refine lv_iload hx hb d_M_number_88 (lv_at hl 5 rfl) ?_
  refine lv_if_eq (tgt := 104) hx hb d_M_number_90 (by decide) (fun c90 => ?_) (fun c90 => ?_)
  · have h := ite_t c90 h
    exact w_M_number_104 C hQ k16 hk16 x1 x2 x3 x4 x5 x6 x7 x8 y0 s H locs ls hX (lv_sub hl [1, 2, 3, 4, 5, 6, 7, 8, 9, 0] rfl) h
  · have h := ite_f c90 h
    refine lv_iload hx hb d_M_number_93 (lv_at hl 7 rfl) ?_
    refine lv_aload_n hx hb d_M_number_95 rfl (lv_at hl 1 rfl) ?_
    refine gm_close C hX fl_M_78 d_M_number_96 ?_
    refine lv_iload_n hx hb d_M_number_99 rfl (lv_at hl 2 rfl) ?_
    obtain ⟨hz100, h⟩ := gi_e h
    obtain ⟨v1, ev1, h⟩ := lt1_e h
    refine alm_23 C hX hz100 d_M_number_100 ev1 ?_
    refine lv_icmp_ne (tgt := 117) hx hb d_M_number_101 (by decide) (fun c101 => ?_) (fun c101 => ?_)
    · have h := ite_f c101 h
      refine lv_iload hx hb d_M_number_117 (lv_at hl 9 rfl) ?_
      refine lv_if_eq (tgt := 128) hx hb d_M_number_119 (by decide) (fun c119 => ?_) (fun c119 => ?_)
      · have h := ite_t c119 h
        refine lv_iload hx hb d_M_number_128 (lv_at hl 8 rfl) ?_
        refine lv_bipush (v := 11) hx hb d_M_number_130 (by decide) ?_
        refine lv_icmp_ne (tgt := 143) hx hb d_M_number_132 (by decide) (fun c132 => ?_) (fun c132 => ?_)
        · have h := ite_f c132 h
          exact w_M_number_143 C hQ k16 hk16 x1 x2 x3 x4 x5 x6 x7 x8 y0 s H locs ls hX (lv_sub hl [1, 2, 3, 4, 5, 6, 7, 8, 9, 0] rfl) h
        · have h := ite_t c132 h
          refine lv_iload hx hb d_M_number_135 (lv_at hl 6 rfl) ?_
          refine lv_if_le (tgt := 143) hx hb d_M_number_137 (by decide) (fun c137 => ?_) (fun c137 => ?_)
          · have h := ite_t c137 h
            exact w_M_number_143 C hQ k16 hk16 x1 x2 x3 x4 x5 x6 x7 x8 y0 s H locs ls hX (lv_sub hl [1, 2, 3, 4, 5, 6, 7, 8, 9, 0] rfl) h
          · have h := ite_f c137 h
            obtain ⟨v2, ev2, h⟩ := lt1_e h
            refine lv_iinc (v := v2) (lv' := [(5, .int v2), (9, .int y0), (0, .ref (g.q 60)), (1, .int x1), (2, .int x2), (3, .int x3), (4, .int x4), (6, .int x6), (7, .int x7), (8, .int x8)]) hx hb d_M_number_140 hl (k := 6) rfl (by rw [ev2]; rfl) (by decide) rfl (fun ls hl => ?_)
            exact w_M_number_143 C hQ k16 hk16 x1 x2 x3 x4 v2 x6 x7 x8 y0 s H locs ls hX (lv_sub hl [2, 3, 4, 5, 6, 0, 7, 8, 9, 1] rfl) h
      · have h := ite_f c119 h
        obtain ⟨v3, ev3, h⟩ := lt1_e h
        refine lv_iinc (v := v3) (lv' := [(5, .int v3), (9, .int y0), (0, .ref (g.q 60)), (1, .int x1), (2, .int x2), (3, .int x3), (4, .int x4), (6, .int x6), (7, .int x7), (8, .int x8)]) hx hb d_M_number_122 hl (k := 6) rfl (by rw [ev3]; rfl) (by decide) rfl (fun ls hl => ?_)
        refine lv_goto (tgt := 143) hx hb d_M_number_125 (by decide) ?_
        exact w_M_number_143 C hQ k16 hk16 x1 x2 x3 x4 v3 x6 x7 x8 y0 s H locs ls hX (lv_sub hl [2, 3, 4, 5, 6, 0, 7, 8, 9, 1] rfl) h
    · have h := ite_t c101 h
      exact w_M_number_104 C hQ k16 hk16 x1 x2 x3 x4 x5 x6 x7 x8 y0 s H locs ls hX (lv_sub hl [1, 2, 3, 4, 5, 6, 7, 8, 9, 0] rfl) h
set_option maxHeartbeats 4000000 in
set_option maxRecDepth 100000 in
theorem w_M_number_85 {z : Int32 × SM} (C : Cx g A p m c b_M_number 10 ss args R_M) (hQ : ∀ (pc : Nat) (H : Heap) (locs : List Loc) (ls : Array Slot), XW g A ss (wM g z.2) H locs → decode b_M_number pc = .ok (.ireturn, 1) → W p l e (rmX 1 22) ss m args below meth c H locs 0 0 Q (F0 m pc ls [.int z.1])) (k16 : Int32 → Int32 → Int32 → Int32 → Int32 → Int32 → SM → Option (Int32 × SM)) (hk16 : ∀ (x1 : Int32) (x2 : Int32) (x3 : Int32) (x4 : Int32) (x5 : Int32) (x6 : Int32) (s : SM) (H : Heap) (locs : List Loc) (ls : Array Slot), XW g A ss (wM g s) H locs → lv_has ls 10 [(0, .ref (g.q 60)), (1, .int x1), (2, .int x2), (3, .int x3), (4, .int x4), (5, .int x5), (6, .int x6)] → k16 x1 x2 x3 x4 x5 x6 s = some z → W p l e (rmX 1 22) ss m args below meth c H locs 0 0 Q (F0 m 16 ls [])) : ∀ (x1 : Int32) (x2 : Int32) (x3 : Int32) (x4 : Int32) (x5 : Int32) (x6 : Int32) (x7 : Int32) (x8 : Int32) (s : SM) (H : Heap) (locs : List Loc) (ls : Array Slot), XW g A ss (wM g s) H locs → lv_has ls 10 [(0, .ref (g.q 60)), (1, .int x1), (2, .int x2), (3, .int x3), (4, .int x4), (5, .int x5), (6, .int x6), (7, .int x7), (8, .int x8)] → f_M_number_85 k16 x1 x2 x3 x4 x5 x6 x7 x8 s = some z → W p l e (rmX 1 22) ss m args below meth c H locs 0 0 Q (F0 m 85 ls []) := by
  have ⟨⟨hx, hb, hml, hown, hts⟩, hK, hA, hN⟩ := C
  intro x1 x2 x3 x4 x5 x6 x7 x8 s H locs ls hX hl h
  rw [f_M_number_85] at h
  refine lv_iconst (v := 0) hx hb d_M_number_85 (by decide) ?_
  exact w_M_number_86 C hQ k16 hk16 x1 x2 x3 x4 x5 x6 x7 x8 0 s H locs ls hX hl h
set_option maxHeartbeats 4000000 in
set_option maxRecDepth 100000 in
theorem w_M_number_76 {z : Int32 × SM} (C : Cx g A p m c b_M_number 10 ss args R_M) (hQ : ∀ (pc : Nat) (H : Heap) (locs : List Loc) (ls : Array Slot), XW g A ss (wM g z.2) H locs → decode b_M_number pc = .ok (.ireturn, 1) → W p l e (rmX 1 22) ss m args below meth c H locs 0 0 Q (F0 m pc ls [.int z.1])) (k16 : Int32 → Int32 → Int32 → Int32 → Int32 → Int32 → SM → Option (Int32 × SM)) (hk16 : ∀ (x1 : Int32) (x2 : Int32) (x3 : Int32) (x4 : Int32) (x5 : Int32) (x6 : Int32) (s : SM) (H : Heap) (locs : List Loc) (ls : Array Slot), XW g A ss (wM g s) H locs → lv_has ls 10 [(0, .ref (g.q 60)), (1, .int x1), (2, .int x2), (3, .int x3), (4, .int x4), (5, .int x5), (6, .int x6)] → k16 x1 x2 x3 x4 x5 x6 s = some z → W p l e (rmX 1 22) ss m args below meth c H locs 0 0 Q (F0 m 16 ls [])) : ∀ (x1 : Int32) (x2 : Int32) (x3 : Int32) (x4 : Int32) (x5 : Int32) (x6 : Int32) (x7 : Int32) (x8 : Int32) (s : SM) (H : Heap) (locs : List Loc) (ls : Array Slot), XW g A ss (wM g s) H locs → lv_has ls 10 [(0, .ref (g.q 60)), (1, .int x1), (2, .int x2), (3, .int x3), (4, .int x4), (5, .int x5), (6, .int x6), (7, .int x7), (8, .int x8)] → f_M_number_76 k16 x1 x2 x3 x4 x5 x6 x7 x8 s = some z → W p l e (rmX 1 22) ss m args below meth c H locs 0 0 Q (F0 m 76 ls []) := by
  have ⟨⟨hx, hb, hml, hown, hts⟩, hK, hA, hN⟩ := C
  intro x1 x2 x3 x4 x5 x6 x7 x8 s H locs ls hX hl h
  rw [f_M_number_76] at h
  refine lv_iload hx hb d_M_number_76 (lv_at hl 5 rfl) ?_
  refine lv_if_ne (tgt := 85) hx hb d_M_number_78 (by decide) (fun c78 => ?_) (fun c78 => ?_)
  · have h := ite_f c78 h
    exact w_M_number_85 C hQ k16 hk16 x1 x2 x3 x4 x5 x6 x7 x8 s H locs ls hX hl h
  · have h := ite_t c78 h
    refine lv_iconst (v := 1) hx hb d_M_number_81 (by decide) ?_
    refine lv_goto (tgt := 86) hx hb d_M_number_82 (by decide) ?_
    exact w_M_number_86 C hQ k16 hk16 x1 x2 x3 x4 x5 x6 x7 x8 1 s H locs ls hX hl h
set_option maxHeartbeats 4000000 in
set_option maxRecDepth 100000 in
theorem w_M_number_61 {z : Int32 × SM} (C : Cx g A p m c b_M_number 10 ss args R_M) (hQ : ∀ (pc : Nat) (H : Heap) (locs : List Loc) (ls : Array Slot), XW g A ss (wM g z.2) H locs → decode b_M_number pc = .ok (.ireturn, 1) → W p l e (rmX 1 22) ss m args below meth c H locs 0 0 Q (F0 m pc ls [.int z.1])) (k16 : Int32 → Int32 → Int32 → Int32 → Int32 → Int32 → SM → Option (Int32 × SM)) (hk16 : ∀ (x1 : Int32) (x2 : Int32) (x3 : Int32) (x4 : Int32) (x5 : Int32) (x6 : Int32) (s : SM) (H : Heap) (locs : List Loc) (ls : Array Slot), XW g A ss (wM g s) H locs → lv_has ls 10 [(0, .ref (g.q 60)), (1, .int x1), (2, .int x2), (3, .int x3), (4, .int x4), (5, .int x5), (6, .int x6)] → k16 x1 x2 x3 x4 x5 x6 s = some z → W p l e (rmX 1 22) ss m args below meth c H locs 0 0 Q (F0 m 16 ls [])) : ∀ (x1 : Int32) (x2 : Int32) (x3 : Int32) (x4 : Int32) (x5 : Int32) (x6 : Int32) (x7 : Int32) (y0 : Int32) (s : SM) (H : Heap) (locs : List Loc) (ls : Array Slot), XW g A ss (wM g s) H locs → lv_has ls 10 [(0, .ref (g.q 60)), (1, .int x1), (2, .int x2), (3, .int x3), (4, .int x4), (5, .int x5), (6, .int x6), (7, .int x7)] → f_M_number_61 k16 x1 x2 x3 x4 x5 x6 x7 y0 s = some z → W p l e (rmX 1 22) ss m args below meth c H locs 0 0 Q (F0 m 61 ls [.int y0]) := by
  have ⟨⟨hx, hb, hml, hown, hts⟩, hK, hA, hN⟩ := C
  intro x1 x2 x3 x4 x5 x6 x7 y0 s H locs ls hX hl h
  rw [f_M_number_61] at h
  refine lv_istore (lv' := [(8, .int y0), (0, .ref (g.q 60)), (1, .int x1), (2, .int x2), (3, .int x3), (4, .int x4), (5, .int x5), (6, .int x6), (7, .int x7)]) hx hb d_M_number_61 hl (by decide) rfl (fun ls hl => ?_)
  refine lv_iload hx hb d_M_number_63 (lv_at hl 8 rfl) ?_
  refine lv_iconst (v := 5) hx hb d_M_number_65 (by decide) ?_
  refine lv_icmp_eq (tgt := 76) hx hb d_M_number_66 (by decide) (fun c66 => ?_) (fun c66 => ?_)
  · have h := ite_t c66 h
    exact w_M_number_76 C hQ k16 hk16 x1 x2 x3 x4 x5 x6 x7 y0 s H locs ls hX (lv_sub hl [1, 2, 3, 4, 5, 6, 7, 8, 0] rfl) h
  · have h := ite_f c66 h
    refine lv_iload hx hb d_M_number_69 (lv_at hl 8 rfl) ?_
    refine lv_bipush (v := 11) hx hb d_M_number_71 (by decide) ?_
    refine lv_icmp_ne (tgt := 85) hx hb d_M_number_73 (by decide) (fun c73 => ?_) (fun c73 => ?_)
    · have h := ite_f c73 h
      exact w_M_number_85 C hQ k16 hk16 x1 x2 x3 x4 x5 x6 x7 y0 s H locs ls hX (lv_sub hl [1, 2, 3, 4, 5, 6, 7, 8, 0] rfl) h
    · have h := ite_t c73 h
      exact w_M_number_76 C hQ k16 hk16 x1 x2 x3 x4 x5 x6 x7 y0 s H locs ls hX (lv_sub hl [1, 2, 3, 4, 5, 6, 7, 8, 0] rfl) h
set_option maxHeartbeats 4000000 in
set_option maxRecDepth 100000 in
theorem w_M_number_60 {z : Int32 × SM} (C : Cx g A p m c b_M_number 10 ss args R_M) (hQ : ∀ (pc : Nat) (H : Heap) (locs : List Loc) (ls : Array Slot), XW g A ss (wM g z.2) H locs → decode b_M_number pc = .ok (.ireturn, 1) → W p l e (rmX 1 22) ss m args below meth c H locs 0 0 Q (F0 m pc ls [.int z.1])) (k16 : Int32 → Int32 → Int32 → Int32 → Int32 → Int32 → SM → Option (Int32 × SM)) (hk16 : ∀ (x1 : Int32) (x2 : Int32) (x3 : Int32) (x4 : Int32) (x5 : Int32) (x6 : Int32) (s : SM) (H : Heap) (locs : List Loc) (ls : Array Slot), XW g A ss (wM g s) H locs → lv_has ls 10 [(0, .ref (g.q 60)), (1, .int x1), (2, .int x2), (3, .int x3), (4, .int x4), (5, .int x5), (6, .int x6)] → k16 x1 x2 x3 x4 x5 x6 s = some z → W p l e (rmX 1 22) ss m args below meth c H locs 0 0 Q (F0 m 16 ls [])) : ∀ (x1 : Int32) (x2 : Int32) (x3 : Int32) (x4 : Int32) (x5 : Int32) (x6 : Int32) (x7 : Int32) (s : SM) (H : Heap) (locs : List Loc) (ls : Array Slot), XW g A ss (wM g s) H locs → lv_has ls 10 [(0, .ref (g.q 60)), (1, .int x1), (2, .int x2), (3, .int x3), (4, .int x4), (5, .int x5), (6, .int x6), (7, .int x7)] → f_M_number_60 k16 x1 x2 x3 x4 x5 x6 x7 s = some z → W p l e (rmX 1 22) ss m args below meth c H locs 0 0 Q (F0 m 60 ls []) := by
  have ⟨⟨hx, hb, hml, hown, hts⟩, hK, hA, hN⟩ := C
  intro x1 x2 x3 x4 x5 x6 x7 s H locs ls hX hl h
  rw [f_M_number_60] at h
  refine lv_iconst (v := 0) hx hb d_M_number_60 (by decide) ?_
  exact w_M_number_61 C hQ k16 hk16 x1 x2 x3 x4 x5 x6 x7 0 s H locs ls hX hl h
set_option maxHeartbeats 4000000 in
set_option maxRecDepth 100000 in
theorem w_M_number_16 {z : Int32 × SM} (C : Cx g A p m c b_M_number 10 ss args R_M) (hQ : ∀ (pc : Nat) (H : Heap) (locs : List Loc) (ls : Array Slot), XW g A ss (wM g z.2) H locs → decode b_M_number pc = .ok (.ireturn, 1) → W p l e (rmX 1 22) ss m args below meth c H locs 0 0 Q (F0 m pc ls [.int z.1])) (n : Nat) : ∀ (x1 : Int32) (x2 : Int32) (x3 : Int32) (x4 : Int32) (x5 : Int32) (x6 : Int32) (s : SM) (H : Heap) (locs : List Loc) (ls : Array Slot), XW g A ss (wM g s) H locs → lv_has ls 10 [(0, .ref (g.q 60)), (1, .int x1), (2, .int x2), (3, .int x3), (4, .int x4), (5, .int x5), (6, .int x6)] → f_M_number_16 n x1 x2 x3 x4 x5 x6 s = some z → W p l e (rmX 1 22) ss m args below meth c H locs 0 0 Q (F0 m 16 ls []) := by
  have ⟨⟨hx, hb, hml, hown, hts⟩, hK, hA, hN⟩ := C
  induction n with
  | zero => intro x1 x2 x3 x4 x5 x6 s H locs ls hX hl h; cases h
  | succ n ih =>
    intro x1 x2 x3 x4 x5 x6 s H locs ls hX hl h
    rw [f_M_number_16] at h
    refine lv_iload hx hb d_M_number_16 (lv_at hl 6 rfl) ?_
    refine lv_aload_n hx hb d_M_number_18 rfl (lv_at hl 0 rfl) ?_
    refine gm_close C hX fl_M_78 d_M_number_19 ?_
    refine lv_iload_n hx hb d_M_number_22 rfl (lv_at hl 1 rfl) ?_
    obtain ⟨hz23, h⟩ := gi_e h
    obtain ⟨v1, ev1, h⟩ := lt1_e h
    refine alm_23 C hX hz23 d_M_number_23 ev1 ?_
    refine lv_icmp_gt (tgt := 199) hx hb d_M_number_24 (by decide) (fun c24 => ?_) (fun c24 => ?_)
    · have h := ite_t c24 h
      refine lv_iload_n hx hb d_M_number_199 rfl (lv_at hl 3 rfl) ?_
      obtain rfl := so1 h
      exact hQ _ H locs ls hX d_M_number_200
    · have h := ite_f c24 h
      refine lv_aload_n hx hb d_M_number_27 rfl (lv_at hl 0 rfl) ?_
      refine gm_op C hX fl_M_51 d_M_number_28 ?_
      refine lv_iload hx hb d_M_number_31 (lv_at hl 6 rfl) ?_
      obtain ⟨hz33, h⟩ := gi_e h
      obtain ⟨v2, ev2, h⟩ := lt1_e h
      refine alm_14 C hX hz33 d_M_number_33 ev2 ?_
      refine lv_istore (lv' := [(7, .int v2), (0, .ref (g.q 60)), (1, .int x1), (2, .int x2), (3, .int x3), (4, .int x4), (5, .int x5), (6, .int x6)]) hx hb d_M_number_34 hl (by decide) rfl (fun ls hl => ?_)
      refine lv_aload_n hx hb d_M_number_36 rfl (lv_at hl 1 rfl) ?_
      refine gm_entry C hX fl_M_72 d_M_number_37 ?_
      refine lv_iload hx hb d_M_number_40 (lv_at hl 7 rfl) ?_
      refine lv_iload_n hx hb d_M_number_42 rfl (lv_at hl 4 rfl) ?_
      obtain ⟨hz43, h⟩ := gi_e h
      obtain ⟨s3, es3, h⟩ := lt1_e h
      refine asm_21 C hX hz43 d_M_number_43 (fun H locs hX => ?_)
      rw [← es3] at hX
      refine lv_iload hx hb d_M_number_44 (lv_at hl 0 rfl) ?_
      refine lv_iconst (v := 2) hx hb d_M_number_46 (by decide) ?_
      refine lv_icmp_lt (tgt := 60) hx hb d_M_number_47 (by decide) (fun c47 => ?_) (fun c47 => ?_)
      · have h := ite_t c47 h
        exact w_M_number_60 C hQ (f_M_number_16 n) ih x1 x2 x3 x4 x5 x6 v2 s3 H locs ls hX (lv_sub hl [1, 2, 3, 4, 5, 6, 7, 0] rfl) h
      · have h := ite_f c47 h
        refine lv_iload hx hb d_M_number_50 (lv_at hl 0 rfl) ?_
        refine lv_iconst (v := 4) hx hb d_M_number_52 (by decide) ?_
        refine lv_icmp_gt (tgt := 60) hx hb d_M_number_53 (by decide) (fun c53 => ?_) (fun c53 => ?_)
        · have h := ite_t c53 h
          exact w_M_number_60 C hQ (f_M_number_16 n) ih x1 x2 x3 x4 x5 x6 v2 s3 H locs ls hX (lv_sub hl [1, 2, 3, 4, 5, 6, 7, 0] rfl) h
        · have h := ite_f c53 h
          refine lv_iconst (v := 1) hx hb d_M_number_56 (by decide) ?_
          refine lv_goto (tgt := 61) hx hb d_M_number_57 (by decide) ?_
          exact w_M_number_61 C hQ (f_M_number_16 n) ih x1 x2 x3 x4 x5 x6 v2 1 s3 H locs ls hX (lv_sub hl [1, 2, 3, 4, 5, 6, 7, 0] rfl) h
set_option maxHeartbeats 4000000 in
set_option maxRecDepth 100000 in
theorem w_M_number {z : Int32 × SM} (C : Cx g A p m c b_M_number 10 ss args R_M) (hQ : ∀ (pc : Nat) (H : Heap) (locs : List Loc) (ls : Array Slot), XW g A ss (wM g z.2) H locs → decode b_M_number pc = .ok (.ireturn, 1) → W p l e (rmX 1 22) ss m args below meth c H locs 0 0 Q (F0 m pc ls [.int z.1])) : ∀ (x1 : Int32) (x2 : Int32) (s : SM) (H : Heap) (locs : List Loc) (ls : Array Slot), XW g A ss (wM g s) H locs → lv_has ls 10 [(0, .ref (g.q 60)), (1, .int x1), (2, .int x2)] → f_M_number x1 x2 s = some z → W p l e (rmX 1 22) ss m args below meth c H locs 0 0 Q (F0 m 0 ls []) := by
  have ⟨⟨hx, hb, hml, hown, hts⟩, hK, hA, hN⟩ := C
  intro x1 x2 s H locs ls hX hl h
  rw [f_M_number] at h
  refine lv_iload_n hx hb d_M_number_0 rfl (lv_at hl 2 rfl) ?_
  refine lv_istore_n (lv' := [(3, .int x2), (0, .ref (g.q 60)), (1, .int x1), (2, .int x2)]) hx hb d_M_number_1 rfl hl (by decide) rfl (fun ls hl => ?_)
  refine lv_iconst (v := 0) hx hb d_M_number_2 (by decide) ?_
  refine lv_istore (lv' := [(4, .int 0), (3, .int x2), (0, .ref (g.q 60)), (1, .int x1), (2, .int x2)]) hx hb d_M_number_3 hl (by decide) rfl (fun ls hl => ?_)
  refine lv_iconst (v := 0) hx hb d_M_number_5 (by decide) ?_
  refine lv_istore (lv' := [(5, .int 0), (4, .int 0), (3, .int x2), (0, .ref (g.q 60)), (1, .int x1), (2, .int x2)]) hx hb d_M_number_6 hl (by decide) rfl (fun ls hl => ?_)
  refine lv_aload_n hx hb d_M_number_8 rfl (lv_at hl 3 rfl) ?_
  refine gm_begin C hX fl_M_75 d_M_number_9 ?_
  refine lv_iload_n hx hb d_M_number_12 rfl (lv_at hl 4 rfl) ?_
  obtain ⟨hz13, h⟩ := gi_e h
  obtain ⟨v1, ev1, h⟩ := lt1_e h
  refine alm_22 C hX hz13 d_M_number_13 ev1 ?_
  refine lv_istore (lv' := [(6, .int v1), (5, .int 0), (4, .int 0), (3, .int x2), (0, .ref (g.q 60)), (1, .int x1), (2, .int x2)]) hx hb d_M_number_14 hl (by decide) rfl (fun ls hl => ?_)
  exact w_M_number_16 C hQ FU x1 x2 x2 0 0 v1 s H locs ls hX (lv_sub hl [4, 5, 6, 3, 2, 1, 0] rfl) h
end WALK
theorem c_M_number (l : Launch) (g : GX) (x1 : Int32) (x2 : Int32) (s : SM) (z : Int32 × SM) (h : f_M_number x1 x2 s = some z) : MI l g y_M_number b_M_number 10 (some .int) 1 22 [.ref (g.q 60), .int x1, .int x2] (wM g s) z.1 (wM g z.2) :=
  MI.mk (own := R_M) (by decide) rfl (Nat.le_of_ble_eq_true rfl) fun p e ss m below meth c A Q C hQ ls hX hl => w_M_number C hQ x1 x2 s _ _ ls hX hl h
-- M_write
def f_M_write (x1 : Int32) (x2 : Int32) (x3 : Int32) (x4 : Int32) (s : SM) : Option SM :=
    gi (s.1 0 25) 2400 <|
    lt1 (stI s 36 (Int32.toNatClampNeg (s.1 0 25)) x1) fun s1 =>
    lt1 (s1.1 0 25 + 1) fun v2 =>
    gi v2 2400 <|
    lt1 (stI s1 36 (Int32.toNatClampNeg v2) x2) fun s3 =>
    lt1 (s3.1 0 25 + 2) fun v4 =>
    gi v4 2400 <|
    lt1 (stI s3 36 (Int32.toNatClampNeg v4) x3) fun s5 =>
    lt1 (s5.1 0 25 + 3) fun v6 =>
    gi v6 2400 <|
    lt1 (stI s5 36 (Int32.toNatClampNeg v6) x4) fun s7 =>
    lt1 (s7.1 0 25 + 4) fun v8 =>
    lt1 (stI s7 0 25 v8) fun s9 =>
    some s9
section WALK
variable {p : Program} {l : Launch} {e : Env} {ss : State} {m : MethodId} {args : Array Value} {below : List Frame} {meth : Method} {c : Code} {Q : State → Prop} {g : GX} {A : Nat → Prop}
set_option maxHeartbeats 4000000 in
set_option maxRecDepth 100000 in
theorem w_M_write {z : SM} (C : Cx g A p m c b_M_write 5 ss args R_M) (hQ : ∀ (pc : Nat) (H : Heap) (locs : List Loc) (ls : Array Slot), XW g A ss (wM g z) H locs → decode b_M_write pc = .ok (.return_, 1) → W p l e (rmX 0 0) ss m args below meth c H locs 0 0 Q (F0 m pc ls [])) : ∀ (x1 : Int32) (x2 : Int32) (x3 : Int32) (x4 : Int32) (s : SM) (H : Heap) (locs : List Loc) (ls : Array Slot), XW g A ss (wM g s) H locs → lv_has ls 5 [(0, .ref (g.q 60)), (1, .int x1), (2, .int x2), (3, .int x3), (4, .int x4)] → f_M_write x1 x2 x3 x4 s = some z → W p l e (rmX 0 0) ss m args below meth c H locs 0 0 Q (F0 m 0 ls []) := by
  have ⟨⟨hx, hb, hml, hown, hts⟩, hK, hA, hN⟩ := C
  intro x1 x2 x3 x4 s H locs ls hX hl h
  rw [f_M_write] at h
  refine lv_aload_n hx hb d_M_write_0 rfl (lv_at hl 0 rfl) ?_
  refine gm_word C hX fl_M_117 d_M_write_1 ?_
  refine lv_aload_n hx hb d_M_write_4 rfl (lv_at hl 0 rfl) ?_
  refine gm_words C hX fl_M_143 d_M_write_5 ?_
  refine lv_iload_n hx hb d_M_write_8 rfl (lv_at hl 1 rfl) ?_
  obtain ⟨hz9, h⟩ := gi_e h
  obtain ⟨s1, es1, h⟩ := lt1_e h
  refine asm_36 C hX hz9 d_M_write_9 (fun H locs hX => ?_)
  rw [← es1] at hX
  refine lv_aload_n hx hb d_M_write_10 rfl (lv_at hl 0 rfl) ?_
  refine gm_word C hX fl_M_117 d_M_write_11 ?_
  refine lv_aload_n hx hb d_M_write_14 rfl (lv_at hl 0 rfl) ?_
  refine gm_words C hX fl_M_143 d_M_write_15 ?_
  refine lv_iconst (v := 1) hx hb d_M_write_18 (by decide) ?_
  obtain ⟨v2, ev2, h⟩ := lt1_e h
  refine x_iadd hx hb d_M_write_19 ev2 ?_
  refine lv_iload_n hx hb d_M_write_20 rfl (lv_at hl 2 rfl) ?_
  obtain ⟨hz21, h⟩ := gi_e h
  obtain ⟨s3, es3, h⟩ := lt1_e h
  refine asm_36 C hX hz21 d_M_write_21 (fun H locs hX => ?_)
  rw [← es3] at hX
  refine lv_aload_n hx hb d_M_write_22 rfl (lv_at hl 0 rfl) ?_
  refine gm_word C hX fl_M_117 d_M_write_23 ?_
  refine lv_aload_n hx hb d_M_write_26 rfl (lv_at hl 0 rfl) ?_
  refine gm_words C hX fl_M_143 d_M_write_27 ?_
  refine lv_iconst (v := 2) hx hb d_M_write_30 (by decide) ?_
  obtain ⟨v4, ev4, h⟩ := lt1_e h
  refine x_iadd hx hb d_M_write_31 ev4 ?_
  refine lv_iload_n hx hb d_M_write_32 rfl (lv_at hl 3 rfl) ?_
  obtain ⟨hz33, h⟩ := gi_e h
  obtain ⟨s5, es5, h⟩ := lt1_e h
  refine asm_36 C hX hz33 d_M_write_33 (fun H locs hX => ?_)
  rw [← es5] at hX
  refine lv_aload_n hx hb d_M_write_34 rfl (lv_at hl 0 rfl) ?_
  refine gm_word C hX fl_M_117 d_M_write_35 ?_
  refine lv_aload_n hx hb d_M_write_38 rfl (lv_at hl 0 rfl) ?_
  refine gm_words C hX fl_M_143 d_M_write_39 ?_
  refine lv_iconst (v := 3) hx hb d_M_write_42 (by decide) ?_
  obtain ⟨v6, ev6, h⟩ := lt1_e h
  refine x_iadd hx hb d_M_write_43 ev6 ?_
  refine lv_iload hx hb d_M_write_44 (lv_at hl 4 rfl) ?_
  obtain ⟨hz46, h⟩ := gi_e h
  obtain ⟨s7, es7, h⟩ := lt1_e h
  refine asm_36 C hX hz46 d_M_write_46 (fun H locs hX => ?_)
  rw [← es7] at hX
  refine lv_aload_n hx hb d_M_write_47 rfl (lv_at hl 0 rfl) ?_
  refine lv_dup hx hb d_M_write_48 rfl ?_
  refine gm_words C hX fl_M_143 d_M_write_49 ?_
  refine lv_iconst (v := 4) hx hb d_M_write_52 (by decide) ?_
  obtain ⟨v8, ev8, h⟩ := lt1_e h
  refine x_iadd hx hb d_M_write_53 ev8 ?_
  obtain ⟨s9, es9, h⟩ := lt1_e h
  refine pm_words C hX fl_M_143 d_M_write_54 (fun H locs hX => ?_)
  rw [← es9] at hX
  obtain rfl := so1 h
  exact hQ _ H locs ls hX d_M_write_57
end WALK
theorem c_M_write (l : Launch) (g : GX) (x1 : Int32) (x2 : Int32) (x3 : Int32) (x4 : Int32) (s : SM) (z : SM) (h : f_M_write x1 x2 x3 x4 s = some z) : MV l g y_M_write b_M_write 5 none 0 0 [.ref (g.q 60), .int x1, .int x2, .int x3, .int x4] (wM g s) (wM g z) :=
  MV.mk (own := R_M) (by decide) rfl (Nat.le_of_ble_eq_true rfl) fun p e ss m below meth c A Q C hQ ls hX hl => w_M_write C hQ x1 x2 x3 x4 s _ _ ls hX hl h
-- M_blockAt
def f_M_blockAt_42 (s : SM) (x1 : Int32) (x2 : Int64) (x4 : Int32) (x5 : Int64) : Option Int32 :=
    some (x4)
def f_M_blockAt_11 (s : SM) : Nat → Int32 → Int64 → Int32 → Int64 → Option Int32
  | 0, _, _, _, _ => none
  | n + 1, x1, x2, x4, x5 =>
    lt1 (lg_cmp x5 x2) fun v1 =>
    if 0 ≤ v1 then
      f_M_blockAt_42 s x1 x2 x4 x5
    else
      if x4 = (-1) then
        f_M_blockAt_42 s x1 x2 x4 x5
      else
        gi x4 250 <|
        lt1 (s.1 17 (Int32.toNatClampNeg x4)) fun v2 =>
        lt1 (x5 + 1) fun v3 =>
        f_M_blockAt_11 s n x1 x2 v2 v3
def f_M_blockAt (s : SM) (x1 : Int32) (x2 : Int64) : Option Int32 :=
    gi x1 250 <|
    lt1 (s.1 17 (Int32.toNatClampNeg x1)) fun v1 =>
    f_M_blockAt_11 s FU x1 x2 v1 0
section WALK
variable {p : Program} {l : Launch} {e : Env} {ss : State} {m : MethodId} {args : Array Value} {below : List Frame} {meth : Method} {c : Code} {Q : State → Prop} {g : GX} {A : Nat → Prop}
set_option maxHeartbeats 4000000 in
set_option maxRecDepth 100000 in
theorem w_M_blockAt_42 {s : SM} {z : Int32} (C : Cx g A p m c b_M_blockAt 7 ss args R_M) (hQ : ∀ (pc : Nat) (H : Heap) (locs : List Loc) (ls : Array Slot), XW g A ss (wM g s) H locs → decode b_M_blockAt pc = .ok (.ireturn, 1) → W p l e (rmX 0 0) ss m args below meth c H locs 0 0 Q (F0 m pc ls [.int z])) : ∀ (x1 : Int32) (x2 : Int64) (x4 : Int32) (x5 : Int64) (H : Heap) (locs : List Loc) (ls : Array Slot), XW g A ss (wM g s) H locs → lv_has ls 7 [(0, .ref (g.q 60)), (1, .int x1), (2, .long x2), (4, .int x4), (5, .long x5)] → f_M_blockAt_42 s x1 x2 x4 x5 = some z → W p l e (rmX 0 0) ss m args below meth c H locs 0 0 Q (F0 m 42 ls []) := by
  have ⟨⟨hx, hb, hml, hown, hts⟩, hK, hA, hN⟩ := C
  intro x1 x2 x4 x5 H locs ls hX hl h
  rw [f_M_blockAt_42] at h
  refine lv_iload hx hb d_M_blockAt_42 (lv_at hl 3 rfl) ?_
  obtain rfl := so1 h
  exact hQ _ H locs ls hX d_M_blockAt_44
set_option maxHeartbeats 4000000 in
set_option maxRecDepth 100000 in
theorem w_M_blockAt_11 {s : SM} {z : Int32} (C : Cx g A p m c b_M_blockAt 7 ss args R_M) (hQ : ∀ (pc : Nat) (H : Heap) (locs : List Loc) (ls : Array Slot), XW g A ss (wM g s) H locs → decode b_M_blockAt pc = .ok (.ireturn, 1) → W p l e (rmX 0 0) ss m args below meth c H locs 0 0 Q (F0 m pc ls [.int z])) (n : Nat) : ∀ (x1 : Int32) (x2 : Int64) (x4 : Int32) (x5 : Int64) (H : Heap) (locs : List Loc) (ls : Array Slot), XW g A ss (wM g s) H locs → lv_has ls 7 [(0, .ref (g.q 60)), (1, .int x1), (2, .long x2), (4, .int x4), (5, .long x5)] → f_M_blockAt_11 s n x1 x2 x4 x5 = some z → W p l e (rmX 0 0) ss m args below meth c H locs 0 0 Q (F0 m 11 ls []) := by
  have ⟨⟨hx, hb, hml, hown, hts⟩, hK, hA, hN⟩ := C
  induction n with
  | zero => intro x1 x2 x4 x5 H locs ls hX hl h; cases h
  | succ n ih =>
    intro x1 x2 x4 x5 H locs ls hX hl h
    rw [f_M_blockAt_11] at h
    refine lv_lload hx hb d_M_blockAt_11 (lv_at hl 4 rfl) ?_
    refine lv_lload_n hx hb d_M_blockAt_13 rfl (lv_at hl 2 rfl) ?_
    obtain ⟨v1, ev1, h⟩ := lt1_e h
    refine x_lcmp hx hb d_M_blockAt_14 ev1 ?_
    refine lv_if_ge (tgt := 42) hx hb d_M_blockAt_15 (by decide) (fun c15 => ?_) (fun c15 => ?_)
    · have h := ite_t c15 h
      exact w_M_blockAt_42 C hQ x1 x2 x4 x5 H locs ls hX hl h
    · have h := ite_f c15 h
      refine lv_iload hx hb d_M_blockAt_18 (lv_at hl 3 rfl) ?_
      refine lv_iconst (v := (-1)) hx hb d_M_blockAt_20 (by decide) ?_
      refine lv_icmp_eq (tgt := 42) hx hb d_M_blockAt_21 (by decide) (fun c21 => ?_) (fun c21 => ?_)
      · have h := ite_t c21 h
        exact w_M_blockAt_42 C hQ x1 x2 x4 x5 H locs ls hX hl h
      · have h := ite_f c21 h
        refine lv_aload_n hx hb d_M_blockAt_24 rfl (lv_at hl 0 rfl) ?_
        refine gm_inside C hX fl_M_60 d_M_blockAt_25 ?_
        refine lv_iload hx hb d_M_blockAt_28 (lv_at hl 3 rfl) ?_
        obtain ⟨hz30, h⟩ := gi_e h
        obtain ⟨v2, ev2, h⟩ := lt1_e h
        refine alm_17 C hX hz30 d_M_blockAt_30 ev2 ?_
        refine lv_istore (lv' := [(4, .int v2), (0, .ref (g.q 60)), (1, .int x1), (2, .long x2), (5, .long x5)]) hx hb d_M_blockAt_31 hl (by decide) rfl (fun ls hl => ?_)
        refine lv_lload hx hb d_M_blockAt_33 (lv_at hl 4 rfl) ?_
        refine lv_lconst (v := 1) hx hb d_M_blockAt_35 (by decide) ?_
        obtain ⟨v3, ev3, h⟩ := lt1_e h
        refine x_ladd hx hb d_M_blockAt_36 ev3 ?_
        refine lv_lstore (lv' := [(5, .long v3), (4, .int v2), (0, .ref (g.q 60)), (1, .int x1), (2, .long x2)]) hx hb d_M_blockAt_37 hl (by decide) rfl (fun ls hl => ?_)
        refine lv_goto (tgt := 11) hx hb d_M_blockAt_39 (by decide) ?_
        exact ih x1 x2 v2 v3 H locs ls hX (lv_sub hl [2, 3, 4, 1, 0] rfl) h
set_option maxHeartbeats 4000000 in
set_option maxRecDepth 100000 in
theorem w_M_blockAt {s : SM} {z : Int32} (C : Cx g A p m c b_M_blockAt 7 ss args R_M) (hQ : ∀ (pc : Nat) (H : Heap) (locs : List Loc) (ls : Array Slot), XW g A ss (wM g s) H locs → decode b_M_blockAt pc = .ok (.ireturn, 1) → W p l e (rmX 0 0) ss m args below meth c H locs 0 0 Q (F0 m pc ls [.int z])) : ∀ (x1 : Int32) (x2 : Int64) (H : Heap) (locs : List Loc) (ls : Array Slot), XW g A ss (wM g s) H locs → lv_has ls 7 [(0, .ref (g.q 60)), (1, .int x1), (2, .long x2)] → f_M_blockAt s x1 x2 = some z → W p l e (rmX 0 0) ss m args below meth c H locs 0 0 Q (F0 m 0 ls []) := by
  have ⟨⟨hx, hb, hml, hown, hts⟩, hK, hA, hN⟩ := C
  intro x1 x2 H locs ls hX hl h
  rw [f_M_blockAt] at h
  refine lv_aload_n hx hb d_M_blockAt_0 rfl (lv_at hl 0 rfl) ?_
  refine gm_inside C hX fl_M_60 d_M_blockAt_1 ?_
  refine lv_iload_n hx hb d_M_blockAt_4 rfl (lv_at hl 1 rfl) ?_
  obtain ⟨hz5, h⟩ := gi_e h
  obtain ⟨v1, ev1, h⟩ := lt1_e h
  refine alm_17 C hX hz5 d_M_blockAt_5 ev1 ?_
  refine lv_istore (lv' := [(4, .int v1), (0, .ref (g.q 60)), (1, .int x1), (2, .long x2)]) hx hb d_M_blockAt_6 hl (by decide) rfl (fun ls hl => ?_)
  refine lv_lconst (v := 0) hx hb d_M_blockAt_8 (by decide) ?_
  refine lv_lstore (lv' := [(5, .long 0), (4, .int v1), (0, .ref (g.q 60)), (1, .int x1), (2, .long x2)]) hx hb d_M_blockAt_9 hl (by decide) rfl (fun ls hl => ?_)
  exact w_M_blockAt_11 C hQ FU x1 x2 v1 0 H locs ls hX (lv_sub hl [2, 3, 4, 1, 0] rfl) h
end WALK
theorem c_M_blockAt (l : Launch) (g : GX) (x1 : Int32) (x2 : Int64) (s : SM) (z : Int32) (h : f_M_blockAt s x1 x2 = some z) : MI l g y_M_blockAt b_M_blockAt 7 (some .int) 0 0 [.ref (g.q 60), .int x1, .long x2] (wM g s) z (wM g s) :=
  MI.mk (own := R_M) (by decide) rfl (Nat.le_of_ble_eq_true rfl) fun p e ss m below meth c A Q C hQ ls hX hl => w_M_blockAt C hQ x1 x2 _ _ ls hX hl h
-- M_target
def f_M_target_61 (s : SM) (x1 : Int32) (x2 : Int32) (x3 : Int64) (x5 : Int32) (y0 : Int32) : Option Int32 :=
    some (y0)
def f_M_target (s : SM) (x1 : Int32) (x2 : Int32) (x3 : Int64) : Option Int32 :=
    bd1 (f_M_blockAt s x2 x3) fun r1 =>
    if r1 = (-1) then
      gi x1 8 <|
      lt1 (s.1 23 (Int32.toNatClampNeg x1)) fun v7 =>
      gi v7 251 <|
      lt1 (s.1 21 (Int32.toNatClampNeg v7)) fun v8 =>
      some (v8)
    else
      gi r1 250 <|
      lt1 (s.1 14 (Int32.toNatClampNeg r1)) fun v2 =>
      if v2 = 3 then
        lt1 (r1 + 1) fun v5 =>
        gi v5 251 <|
        lt1 (s.1 21 (Int32.toNatClampNeg v5)) fun v6 =>
        f_M_target_61 s x1 x2 x3 r1 v6
      else
        gi r1 250 <|
        lt1 (s.1 18 (Int32.toNatClampNeg r1)) fun v3 =>
        gi v3 251 <|
        lt1 (s.1 21 (Int32.toNatClampNeg v3)) fun v4 =>
        f_M_target_61 s x1 x2 x3 r1 v4
section WALK
variable {p : Program} {l : Launch} {e : Env} {ss : State} {m : MethodId} {args : Array Value} {below : List Frame} {meth : Method} {c : Code} {Q : State → Prop} {g : GX} {A : Nat → Prop}
set_option maxHeartbeats 4000000 in
set_option maxRecDepth 100000 in
theorem w_M_target_61 {s : SM} {z : Int32} (C : Cx g A p m c b_M_target 6 ss args R_M) (hQ : ∀ (pc : Nat) (H : Heap) (locs : List Loc) (ls : Array Slot), XW g A ss (wM g s) H locs → decode b_M_target pc = .ok (.ireturn, 1) → W p l e (rmX 1 26) ss m args below meth c H locs 0 0 Q (F0 m pc ls [.int z])) : ∀ (x1 : Int32) (x2 : Int32) (x3 : Int64) (x5 : Int32) (y0 : Int32) (H : Heap) (locs : List Loc) (ls : Array Slot), XW g A ss (wM g s) H locs → lv_has ls 6 [(0, .ref (g.q 60)), (1, .int x1), (2, .int x2), (3, .long x3), (5, .int x5)] → f_M_target_61 s x1 x2 x3 x5 y0 = some z → W p l e (rmX 1 26) ss m args below meth c H locs 0 0 Q (F0 m 61 ls [.int y0]) := by
  have ⟨⟨hx, hb, hml, hown, hts⟩, hK, hA, hN⟩ := C
  intro x1 x2 x3 x5 y0 H locs ls hX hl h
  rw [f_M_target_61] at h
  obtain rfl := so1 h
  exact hQ _ H locs ls hX d_M_target_61
set_option maxHeartbeats 4000000 in
set_option maxRecDepth 100000 in
theorem w_M_target {s : SM} {z : Int32} (C : Cx g A p m c b_M_target 6 ss args R_M) (hQ : ∀ (pc : Nat) (H : Heap) (locs : List Loc) (ls : Array Slot), XW g A ss (wM g s) H locs → decode b_M_target pc = .ok (.ireturn, 1) → W p l e (rmX 1 26) ss m args below meth c H locs 0 0 Q (F0 m pc ls [.int z])) : ∀ (x1 : Int32) (x2 : Int32) (x3 : Int64) (H : Heap) (locs : List Loc) (ls : Array Slot), XW g A ss (wM g s) H locs → lv_has ls 6 [(0, .ref (g.q 60)), (1, .int x1), (2, .int x2), (3, .long x3)] → f_M_target s x1 x2 x3 = some z → W p l e (rmX 1 26) ss m args below meth c H locs 0 0 Q (F0 m 0 ls []) := by
  have ⟨⟨hx, hb, hml, hown, hts⟩, hK, hA, hN⟩ := C
  intro x1 x2 x3 H locs ls hX hl h
  rw [f_M_target] at h
  refine lv_aload_n hx hb d_M_target_0 rfl (lv_at hl 0 rfl) ?_
  refine lv_iload_n hx hb d_M_target_1 rfl (lv_at hl 2 rfl) ?_
  refine lv_lload_n hx hb d_M_target_2 rfl (lv_at hl 3 rfl) ?_
  obtain ⟨r1, hc3, h⟩ := bd1_e h
  refine x_vI (As := [.int x2, .long x3]) (rest := []) C hX (c_M_blockAt l g x2 x3 s r1 hc3) (cw_M_399 C.1.2.2.2.2 C.2.2.2 ⟨by decide, by decide⟩) (x_rc C hX vg_0 rfl) rfl hl.1 rfl (lv_room (Nat.le_of_ble_eq_true rfl)) d_M_target_3 ⟨Nat.le_refl _, Nat.le_refl _⟩ (fun H locs hX => ?_)
  refine lv_istore (lv' := [(5, .int r1), (0, .ref (g.q 60)), (1, .int x1), (2, .int x2), (3, .long x3)]) hx hb d_M_target_6 hl (by decide) rfl (fun ls hl => ?_)
  refine lv_iload hx hb d_M_target_8 (lv_at hl 0 rfl) ?_
  refine lv_iconst (v := (-1)) hx hb d_M_target_10 (by decide) ?_
  refine lv_icmp_ne (tgt := 26) hx hb d_M_target_11 (by decide) (fun c11 => ?_) (fun c11 => ?_)
  · have h := ite_f c11 h
    refine lv_aload_n hx hb d_M_target_26 rfl (lv_at hl 1 rfl) ?_
    refine gm_op C hX fl_M_51 d_M_target_27 ?_
    refine lv_iload hx hb d_M_target_30 (lv_at hl 0 rfl) ?_
    obtain ⟨hz32, h⟩ := gi_e h
    obtain ⟨v2, ev2, h⟩ := lt1_e h
    refine alm_14 C hX hz32 d_M_target_32 ev2 ?_
    refine lv_iconst (v := 3) hx hb d_M_target_33 (by decide) ?_
    refine lv_icmp_ne (tgt := 49) hx hb d_M_target_34 (by decide) (fun c34 => ?_) (fun c34 => ?_)
    · have h := ite_f c34 h
      refine lv_aload_n hx hb d_M_target_49 rfl (lv_at hl 1 rfl) ?_
      refine gm_entry C hX fl_M_72 d_M_target_50 ?_
      refine lv_aload_n hx hb d_M_target_53 rfl (lv_at hl 1 rfl) ?_
      refine gm_endAt C hX fl_M_63 d_M_target_54 ?_
      refine lv_iload hx hb d_M_target_57 (lv_at hl 0 rfl) ?_
      obtain ⟨hz59, h⟩ := gi_e h
      obtain ⟨v3, ev3, h⟩ := lt1_e h
      refine alm_18 C hX hz59 d_M_target_59 ev3 ?_
      obtain ⟨hz60, h⟩ := gi_e h
      obtain ⟨v4, ev4, h⟩ := lt1_e h
      refine alm_21 C hX hz60 d_M_target_60 ev4 ?_
      exact w_M_target_61 C hQ x1 x2 x3 r1 v4 H locs ls hX (lv_sub hl [1, 2, 3, 4, 0] rfl) h
    · have h := ite_t c34 h
      refine lv_aload_n hx hb d_M_target_37 rfl (lv_at hl 1 rfl) ?_
      refine gm_entry C hX fl_M_72 d_M_target_38 ?_
      refine lv_iload hx hb d_M_target_41 (lv_at hl 0 rfl) ?_
      refine lv_iconst (v := 1) hx hb d_M_target_43 (by decide) ?_
      obtain ⟨v5, ev5, h⟩ := lt1_e h
      refine x_iadd hx hb d_M_target_44 ev5 ?_
      obtain ⟨hz45, h⟩ := gi_e h
      obtain ⟨v6, ev6, h⟩ := lt1_e h
      refine alm_21 C hX hz45 d_M_target_45 ev6 ?_
      refine lv_goto (tgt := 61) hx hb d_M_target_46 (by decide) ?_
      exact w_M_target_61 C hQ x1 x2 x3 r1 v6 H locs ls hX (lv_sub hl [1, 2, 3, 4, 0] rfl) h
  · have h := ite_t c11 h
    refine lv_aload_n hx hb d_M_target_14 rfl (lv_at hl 1 rfl) ?_
    refine gm_entry C hX fl_M_72 d_M_target_15 ?_
    refine lv_aload_n hx hb d_M_target_18 rfl (lv_at hl 1 rfl) ?_
    refine gm_close C hX fl_M_78 d_M_target_19 ?_
    refine lv_iload_n hx hb d_M_target_22 rfl (lv_at hl 2 rfl) ?_
    obtain ⟨hz23, h⟩ := gi_e h
    obtain ⟨v7, ev7, h⟩ := lt1_e h
    refine alm_23 C hX hz23 d_M_target_23 ev7 ?_
    obtain ⟨hz24, h⟩ := gi_e h
    obtain ⟨v8, ev8, h⟩ := lt1_e h
    refine alm_21 C hX hz24 d_M_target_24 ev8 ?_
    obtain rfl := so1 h
    exact hQ _ H locs ls hX d_M_target_25
end WALK
theorem c_M_target (l : Launch) (g : GX) (x1 : Int32) (x2 : Int32) (x3 : Int64) (s : SM) (z : Int32) (h : f_M_target s x1 x2 x3 = some z) : MI l g y_M_target b_M_target 6 (some .int) 1 26 [.ref (g.q 60), .int x1, .int x2, .long x3] (wM g s) z (wM g s) :=
  MI.mk (own := R_M) (by decide) rfl (Nat.le_of_ble_eq_true rfl) fun p e ss m below meth c A Q C hQ ls hX hl => w_M_target C hQ x1 x2 x3 _ _ ls hX hl h
-- M_left
def f_M_left_87 (s : SM) (x1 : Int32) (x2 : Int32) (x3 : Int64) (x5 : Int32) (x6 : Int32) (y0 : Int32) (y1 : Int32) : Option Int32 :=
    lt1 (y0 + y1) fun v1 =>
    some (v1)
def f_M_left_51 (s : SM) (x1 : Int32) (x2 : Int32) (x3 : Int64) (x5 : Int32) (y0 : Int32) (y1 : Int32) : Option Int32 :=
    lt1 (y0 - y1) fun v1 =>
    bd1 (f_M_locals s x1) fun r2 =>
    lt1 (r2 + v1) fun v3 =>
    lt1 (2 * v3) fun v4 =>
    gi x5 250 <|
    lt1 (s.1 14 (Int32.toNatClampNeg x5)) fun v5 =>
    if v5 = 3 then
      f_M_left_87 s x1 x2 x3 x5 v1 v4 0
    else
      gi x5 250 <|
      lt1 (s.2 15 (Int32.toNatClampNeg x5)) fun v6 =>
      lt1 (Int64.toInt32 v6) fun v7 =>
      f_M_left_87 s x1 x2 x3 x5 v1 v4 v7
def f_M_left (s : SM) (x1 : Int32) (x2 : Int32) (x3 : Int64) : Option Int32 :=
    bd1 (f_M_blockAt s x2 x3) fun r1 =>
    if r1 = (-1) then
      bd1 (f_M_locals s x1) fun r4 =>
      lt1 (2 * r4) fun v5 =>
      bd1 (f_M_resultsOf s x1) fun r6 =>
      lt1 (v5 + r6) fun v7 =>
      some (v7)
    else
      gi r1 250 <|
      lt1 (s.1 20 (Int32.toNatClampNeg r1)) fun v2 =>
      gi r1 250 <|
      lt1 (s.1 14 (Int32.toNatClampNeg r1)) fun v3 =>
      if v3 = 4 then
        f_M_left_51 s x1 x2 x3 r1 v2 1
      else
        f_M_left_51 s x1 x2 x3 r1 v2 0
section WALK
variable {p : Program} {l : Launch} {e : Env} {ss : State} {m : MethodId} {args : Array Value} {below : List Frame} {meth : Method} {c : Code} {Q : State → Prop} {g : GX} {A : Nat → Prop}
set_option maxHeartbeats 4000000 in
set_option maxRecDepth 100000 in
theorem w_M_left_87 {s : SM} {z : Int32} (C : Cx g A p m c b_M_left 7 ss args R_M) (hQ : ∀ (pc : Nat) (H : Heap) (locs : List Loc) (ls : Array Slot), XW g A ss (wM g s) H locs → decode b_M_left pc = .ok (.ireturn, 1) → W p l e (rmX 2 42) ss m args below meth c H locs 0 0 Q (F0 m pc ls [.int z])) : ∀ (x1 : Int32) (x2 : Int32) (x3 : Int64) (x5 : Int32) (x6 : Int32) (y0 : Int32) (y1 : Int32) (H : Heap) (locs : List Loc) (ls : Array Slot), XW g A ss (wM g s) H locs → lv_has ls 7 [(0, .ref (g.q 60)), (1, .int x1), (2, .int x2), (3, .long x3), (5, .int x5), (6, .int x6)] → f_M_left_87 s x1 x2 x3 x5 x6 y0 y1 = some z → W p l e (rmX 2 42) ss m args below meth c H locs 0 0 Q (F0 m 87 ls [.int y1, .int y0]) := by
  have ⟨⟨hx, hb, hml, hown, hts⟩, hK, hA, hN⟩ := C
  intro x1 x2 x3 x5 x6 y0 y1 H locs ls hX hl h
  rw [f_M_left_87] at h
  obtain ⟨v1, ev1, h⟩ := lt1_e h
  refine x_iadd hx hb d_M_left_87 ev1 ?_
  obtain rfl := so1 h
  exact hQ _ H locs ls hX d_M_left_88
set_option maxHeartbeats 4000000 in
set_option maxRecDepth 100000 in
theorem w_M_left_51 {s : SM} {z : Int32} (C : Cx g A p m c b_M_left 7 ss args R_M) (hQ : ∀ (pc : Nat) (H : Heap) (locs : List Loc) (ls : Array Slot), XW g A ss (wM g s) H locs → decode b_M_left pc = .ok (.ireturn, 1) → W p l e (rmX 2 42) ss m args below meth c H locs 0 0 Q (F0 m pc ls [.int z])) : ∀ (x1 : Int32) (x2 : Int32) (x3 : Int64) (x5 : Int32) (y0 : Int32) (y1 : Int32) (H : Heap) (locs : List Loc) (ls : Array Slot), XW g A ss (wM g s) H locs → lv_has ls 7 [(0, .ref (g.q 60)), (1, .int x1), (2, .int x2), (3, .long x3), (5, .int x5)] → f_M_left_51 s x1 x2 x3 x5 y0 y1 = some z → W p l e (rmX 2 42) ss m args below meth c H locs 0 0 Q (F0 m 51 ls [.int y1, .int y0]) := by
  have ⟨⟨hx, hb, hml, hown, hts⟩, hK, hA, hN⟩ := C
  intro x1 x2 x3 x5 y0 y1 H locs ls hX hl h
  rw [f_M_left_51] at h
  obtain ⟨v1, ev1, h⟩ := lt1_e h
  refine x_isub hx hb d_M_left_51 ev1 ?_
  refine lv_istore (lv' := [(6, .int v1), (0, .ref (g.q 60)), (1, .int x1), (2, .int x2), (3, .long x3), (5, .int x5)]) hx hb d_M_left_52 hl (by decide) rfl (fun ls hl => ?_)
  refine lv_iconst (v := 2) hx hb d_M_left_54 (by decide) ?_
  refine lv_aload_n hx hb d_M_left_55 rfl (lv_at hl 1 rfl) ?_
  refine lv_iload_n hx hb d_M_left_56 rfl (lv_at hl 2 rfl) ?_
  obtain ⟨r2, hc57, h⟩ := bd1_e h
  refine x_vI (As := [.int x1]) (rest := [.int 2]) C hX (c_M_locals l g x1 s r2 hc57) (cw_M_322 C.1.2.2.2.2 C.2.2.2 ⟨by decide, by decide⟩) (x_rc C hX vg_0 rfl) rfl hl.1 rfl (lv_room (Nat.le_of_ble_eq_true rfl)) d_M_left_57 ⟨Nat.le_refl _, Nat.le_refl _⟩ (fun H locs hX => ?_)
  refine lv_iload hx hb d_M_left_60 (lv_at hl 0 rfl) ?_
  obtain ⟨v3, ev3, h⟩ := lt1_e h
  refine x_iadd hx hb d_M_left_62 ev3 ?_
  obtain ⟨v4, ev4, h⟩ := lt1_e h
  refine x_imul hx hb d_M_left_63 ev4 ?_
  refine lv_aload_n hx hb d_M_left_64 rfl (lv_at hl 1 rfl) ?_
  refine gm_op C hX fl_M_51 d_M_left_65 ?_
  refine lv_iload hx hb d_M_left_68 (lv_at hl 5 rfl) ?_
  obtain ⟨hz70, h⟩ := gi_e h
  obtain ⟨v5, ev5, h⟩ := lt1_e h
  refine alm_14 C hX hz70 d_M_left_70 ev5 ?_
  refine lv_iconst (v := 3) hx hb d_M_left_71 (by decide) ?_
  refine lv_icmp_ne (tgt := 79) hx hb d_M_left_72 (by decide) (fun c72 => ?_) (fun c72 => ?_)
  · have h := ite_f c72 h
    refine lv_aload_n hx hb d_M_left_79 rfl (lv_at hl 1 rfl) ?_
    refine gm_first C hX fl_M_54 d_M_left_80 ?_
    refine lv_iload hx hb d_M_left_83 (lv_at hl 5 rfl) ?_
    obtain ⟨hz85, h⟩ := gi_e h
    obtain ⟨v6, ev6, h⟩ := lt1_e h
    refine alm_15 C hX hz85 d_M_left_85 ev6 ?_
    obtain ⟨v7, ev7, h⟩ := lt1_e h
    refine lv_l2i hx hb d_M_left_86 ev7.symm ?_
    exact w_M_left_87 C hQ x1 x2 x3 x5 v1 v4 v7 H locs ls hX (lv_sub hl [1, 2, 3, 4, 5, 0] rfl) h
  · have h := ite_t c72 h
    refine lv_iconst (v := 0) hx hb d_M_left_75 (by decide) ?_
    refine lv_goto (tgt := 87) hx hb d_M_left_76 (by decide) ?_
    exact w_M_left_87 C hQ x1 x2 x3 x5 v1 v4 0 H locs ls hX (lv_sub hl [1, 2, 3, 4, 5, 0] rfl) h
set_option maxHeartbeats 4000000 in
set_option maxRecDepth 100000 in
theorem w_M_left {s : SM} {z : Int32} (C : Cx g A p m c b_M_left 7 ss args R_M) (hQ : ∀ (pc : Nat) (H : Heap) (locs : List Loc) (ls : Array Slot), XW g A ss (wM g s) H locs → decode b_M_left pc = .ok (.ireturn, 1) → W p l e (rmX 2 42) ss m args below meth c H locs 0 0 Q (F0 m pc ls [.int z])) : ∀ (x1 : Int32) (x2 : Int32) (x3 : Int64) (H : Heap) (locs : List Loc) (ls : Array Slot), XW g A ss (wM g s) H locs → lv_has ls 7 [(0, .ref (g.q 60)), (1, .int x1), (2, .int x2), (3, .long x3)] → f_M_left s x1 x2 x3 = some z → W p l e (rmX 2 42) ss m args below meth c H locs 0 0 Q (F0 m 0 ls []) := by
  have ⟨⟨hx, hb, hml, hown, hts⟩, hK, hA, hN⟩ := C
  intro x1 x2 x3 H locs ls hX hl h
  rw [f_M_left] at h
  refine lv_aload_n hx hb d_M_left_0 rfl (lv_at hl 0 rfl) ?_
  refine lv_iload_n hx hb d_M_left_1 rfl (lv_at hl 2 rfl) ?_
  refine lv_lload_n hx hb d_M_left_2 rfl (lv_at hl 3 rfl) ?_
  obtain ⟨r1, hc3, h⟩ := bd1_e h
  refine x_vI (As := [.int x2, .long x3]) (rest := []) C hX (c_M_blockAt l g x2 x3 s r1 hc3) (cw_M_399 C.1.2.2.2.2 C.2.2.2 ⟨by decide, by decide⟩) (x_rc C hX vg_0 rfl) rfl hl.1 rfl (lv_room (Nat.le_of_ble_eq_true rfl)) d_M_left_3 ⟨Nat.le_refl _, Nat.le_refl _⟩ (fun H locs hX => ?_)
  refine lv_istore (lv' := [(5, .int r1), (0, .ref (g.q 60)), (1, .int x1), (2, .int x2), (3, .long x3)]) hx hb d_M_left_6 hl (by decide) rfl (fun ls hl => ?_)
  refine lv_iload hx hb d_M_left_8 (lv_at hl 0 rfl) ?_
  refine lv_iconst (v := (-1)) hx hb d_M_left_10 (by decide) ?_
  refine lv_icmp_ne (tgt := 28) hx hb d_M_left_11 (by decide) (fun c11 => ?_) (fun c11 => ?_)
  · have h := ite_f c11 h
    refine lv_aload_n hx hb d_M_left_28 rfl (lv_at hl 1 rfl) ?_
    refine gm_high C hX fl_M_69 d_M_left_29 ?_
    refine lv_iload hx hb d_M_left_32 (lv_at hl 0 rfl) ?_
    obtain ⟨hz34, h⟩ := gi_e h
    obtain ⟨v2, ev2, h⟩ := lt1_e h
    refine alm_20 C hX hz34 d_M_left_34 ev2 ?_
    refine lv_aload_n hx hb d_M_left_35 rfl (lv_at hl 1 rfl) ?_
    refine gm_op C hX fl_M_51 d_M_left_36 ?_
    refine lv_iload hx hb d_M_left_39 (lv_at hl 0 rfl) ?_
    obtain ⟨hz41, h⟩ := gi_e h
    obtain ⟨v3, ev3, h⟩ := lt1_e h
    refine alm_14 C hX hz41 d_M_left_41 ev3 ?_
    refine lv_iconst (v := 4) hx hb d_M_left_42 (by decide) ?_
    refine lv_icmp_ne (tgt := 50) hx hb d_M_left_43 (by decide) (fun c43 => ?_) (fun c43 => ?_)
    · have h := ite_f c43 h
      refine lv_iconst (v := 0) hx hb d_M_left_50 (by decide) ?_
      exact w_M_left_51 C hQ x1 x2 x3 r1 v2 0 H locs ls hX (lv_sub hl [1, 2, 3, 4, 0] rfl) h
    · have h := ite_t c43 h
      refine lv_iconst (v := 1) hx hb d_M_left_46 (by decide) ?_
      refine lv_goto (tgt := 51) hx hb d_M_left_47 (by decide) ?_
      exact w_M_left_51 C hQ x1 x2 x3 r1 v2 1 H locs ls hX (lv_sub hl [1, 2, 3, 4, 0] rfl) h
  · have h := ite_t c11 h
    refine lv_iconst (v := 2) hx hb d_M_left_14 (by decide) ?_
    refine lv_aload_n hx hb d_M_left_15 rfl (lv_at hl 1 rfl) ?_
    refine lv_iload_n hx hb d_M_left_16 rfl (lv_at hl 2 rfl) ?_
    obtain ⟨r4, hc17, h⟩ := bd1_e h
    refine x_vI (As := [.int x1]) (rest := [.int 2]) C hX (c_M_locals l g x1 s r4 hc17) (cw_M_322 C.1.2.2.2.2 C.2.2.2 ⟨by decide, by decide⟩) (x_rc C hX vg_0 rfl) rfl hl.1 rfl (lv_room (Nat.le_of_ble_eq_true rfl)) d_M_left_17 ⟨Nat.le_refl _, Nat.le_refl _⟩ (fun H locs hX => ?_)
    obtain ⟨v5, ev5, h⟩ := lt1_e h
    refine x_imul hx hb d_M_left_20 ev5 ?_
    refine lv_aload_n hx hb d_M_left_21 rfl (lv_at hl 1 rfl) ?_
    refine lv_iload_n hx hb d_M_left_22 rfl (lv_at hl 2 rfl) ?_
    obtain ⟨r6, hc23, h⟩ := bd1_e h
    refine x_vI (As := [.int x1]) (rest := [.int v5]) C hX (c_M_resultsOf l g x1 s r6 hc23) (cw_M_292 C.1.2.2.2.2 C.2.2.2 ⟨by decide, by decide⟩) (x_rc C hX vg_0 rfl) rfl hl.1 rfl (lv_room (Nat.le_of_ble_eq_true rfl)) d_M_left_23 ⟨Nat.le_refl _, Nat.le_refl _⟩ (fun H locs hX => ?_)
    obtain ⟨v7, ev7, h⟩ := lt1_e h
    refine x_iadd hx hb d_M_left_26 ev7 ?_
    obtain rfl := so1 h
    exact hQ _ H locs ls hX d_M_left_27
end WALK
theorem c_M_left (l : Launch) (g : GX) (x1 : Int32) (x2 : Int32) (x3 : Int64) (s : SM) (z : Int32) (h : f_M_left s x1 x2 x3 = some z) : MI l g y_M_left b_M_left 7 (some .int) 2 42 [.ref (g.q 60), .int x1, .int x2, .long x3] (wM g s) z (wM g s) :=
  MI.mk (own := R_M) (by decide) rfl (Nat.le_of_ble_eq_true rfl) fun p e ss m below meth c A Q C hQ ls hX hl => w_M_left C hQ x1 x2 x3 _ _ ls hX hl h
