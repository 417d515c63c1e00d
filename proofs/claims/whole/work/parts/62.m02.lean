-- M_readBody
def f_M_readBody_266 (x1 : Int32) (x2 : Int32) (x3 : Int32) (x4 : Int32) (s : SM) : Option SM :=
    lt1 (s.1 0 14 - 1) fun v1 =>
    gi x1 8 <|
    lt1 (stI s 23 (Int32.toNatClampNeg x1) v1) fun s2 =>
    some s2
def f_M_readBody_253 (k17 : Int32 → Int32 → Int32 → Int32 → SM → Option SM) (x1 : Int32) (x2 : Int32) (x3 : Int32) (x4 : Int32) (x5 : Int32) (x6 : Int32) (s : SM) : Option SM :=
    lt1 (s.1 0 14 + 1) fun v1 =>
    lt1 (stI s 0 14 v1) fun s2 =>
    k17 x1 x2 x3 x4 s2
def f_M_readBody_246 (k17 : Int32 → Int32 → Int32 → Int32 → SM → Option SM) (x1 : Int32) (x2 : Int32) (x3 : Int32) (x4 : Int32) (x5 : Int32) (x6 : Int32) (y1 : Int32) (s : SM) : Option SM :=
    bd1 (f_M_will y1 2 s) fun s1 =>
    f_M_readBody_253 k17 x1 x6 x3 x4 x5 x6 s1
def f_M_readBody_219 (k17 : Int32 → Int32 → Int32 → Int32 → SM → Option SM) (x1 : Int32) (x2 : Int32) (x3 : Int32) (x4 : Int32) (x5 : Int32) (x6 : Int32) (s : SM) : Option SM :=
    if x5 < 2 then
      f_M_readBody_253 k17 x1 x2 x3 x4 x5 x6 s
    else
      if 4 < x5 then
        f_M_readBody_253 k17 x1 x2 x3 x4 x5 x6 s
      else
        lt1 (x3 + (1)) fun v1 =>
        if 10 < v1 then
          f_M_readBody_246 k17 x1 x2 v1 x4 x5 x6 0 s
        else
          f_M_readBody_246 k17 x1 x2 v1 x4 x5 x6 1 s
def f_M_readBody_185 (k17 : Int32 → Int32 → Int32 → Int32 → SM → Option SM) (x1 : Int32) (x2 : Int32) (x3 : Int32) (x4 : Int32) (x5 : Int32) (x6 : Int32) (y0 : Int32) (s : SM) : Option SM :=
    if y0 = 0 then
      f_M_readBody_219 k17 x1 x2 x3 y0 x5 x6 s
    else
      gi x2 250 <|
      lt1 (stI s 18 (Int32.toNatClampNeg x2) x6) fun s1 =>
      gi x2 250 <|
      lt1 (s1.1 17 (Int32.toNatClampNeg x2)) fun v2 =>
      lt1 (x3 + (-1)) fun v3 =>
      f_M_readBody_219 k17 x1 v2 v3 y0 x5 x6 s1
def f_M_readBody_145 (k17 : Int32 → Int32 → Int32 → Int32 → SM → Option SM) (x1 : Int32) (x2 : Int32) (x3 : Int32) (x4 : Int32) (x5 : Int32) (x6 : Int32) (y1 : Int32) (s : SM) : Option SM :=
    bd1 (f_M_will y1 1 s) fun s1 =>
    if s1.1 0 5 ≤ 0 then
      gi x2 250 <|
      lt1 (stI s1 19 (Int32.toNatClampNeg x2) x6) fun s2 =>
      f_M_readBody_219 k17 x1 x2 x3 x4 x5 x6 s2
    else
      some s1
def f_M_readBody_144 (k17 : Int32 → Int32 → Int32 → Int32 → SM → Option SM) (x1 : Int32) (x2 : Int32) (x3 : Int32) (x4 : Int32) (x5 : Int32) (x6 : Int32) (s : SM) : Option SM :=
    f_M_readBody_145 k17 x1 x2 x3 x4 x5 x6 0 s
def f_M_readBody_17 : Nat → Int32 → Int32 → Int32 → Int32 → SM → Option SM
  | 0, _, _, _, _, _ => none
  | n + 1, x1, x2, x3, x4, s =>
    if x4 = 0 then
      f_M_readBody_266 x1 x2 x3 x4 s
    else
      if s.1 0 5 = 0 then
        bd (f_M_next s) fun r2 s1 =>
        bd1 (f_M_isKnown r2) fun r3 =>
        bd1 (f_M_will r3 2 s1) fun s4 =>
        if s4.1 0 5 ≤ 0 then
          gi (s4.1 0 14) 250 <|
          lt1 (stI s4 14 (Int32.toNatClampNeg (s4.1 0 14)) r2) fun s5 =>
          gi (s4.1 0 14) 250 <|
          lt1 (stL s5 15 (Int32.toNatClampNeg (s4.1 0 14)) 0) fun s6 =>
          gi (s4.1 0 14) 250 <|
          lt1 (stL s6 16 (Int32.toNatClampNeg (s4.1 0 14)) 0) fun s7 =>
          gi (s4.1 0 14) 250 <|
          lt1 (stI s7 17 (Int32.toNatClampNeg (s4.1 0 14)) x2) fun s8 =>
          gi (s4.1 0 14) 250 <|
          lt1 (stI s8 18 (Int32.toNatClampNeg (s4.1 0 14)) ((-1))) fun s9 =>
          gi (s4.1 0 14) 250 <|
          lt1 (stI s9 19 (Int32.toNatClampNeg (s4.1 0 14)) ((-1))) fun s10 =>
          if r2 = 5 then
            if x2 = (-1) then
              f_M_readBody_144 (f_M_readBody_17 n) x1 x2 x3 x4 r2 (s4.1 0 14) s10
            else
              gi x2 250 <|
              lt1 (s10.1 14 (Int32.toNatClampNeg x2)) fun v12 =>
              if v12 = 4 then
                gi x2 250 <|
                lt1 (s10.1 19 (Int32.toNatClampNeg x2)) fun v13 =>
                if v13 = (-1) then
                  f_M_readBody_145 (f_M_readBody_17 n) x1 x2 x3 x4 r2 (s4.1 0 14) 1 s10
                else
                  f_M_readBody_144 (f_M_readBody_17 n) x1 x2 x3 x4 r2 (s4.1 0 14) s10
              else
                f_M_readBody_144 (f_M_readBody_17 n) x1 x2 x3 x4 r2 (s4.1 0 14) s10
          else
            if r2 = 11 then
              if x2 = (-1) then
                f_M_readBody_185 (f_M_readBody_17 n) x1 x2 x3 x4 r2 (s4.1 0 14) 0 s10
              else
                f_M_readBody_185 (f_M_readBody_17 n) x1 x2 x3 x4 r2 (s4.1 0 14) 1 s10
            else
              bd1 (f_M_readNumbers (s4.1 0 14) s10) fun s11 =>
              f_M_readBody_219 (f_M_readBody_17 n) x1 x2 x3 x4 r2 (s4.1 0 14) s11
        else
          some s4
      else
        f_M_readBody_266 x1 x2 x3 x4 s
def f_M_readBody (x1 : Int32) (s : SM) : Option SM :=
    gi x1 8 <|
    lt1 (stI s 22 (Int32.toNatClampNeg x1) (s.1 0 14)) fun s1 =>
    f_M_readBody_17 FU x1 ((-1)) 0 1 s1
section WALK
variable {p : Program} {l : Launch} {e : Env} {ss : State} {m : MethodId} {args : Array Value} {below : List Frame} {meth : Method} {c : Code} {Q : State → Prop} {g : GX} {A : Nat → Prop}
set_option maxHeartbeats 4000000 in
set_option maxRecDepth 100000 in
theorem w_M_readBody_266 {z : SM} (C : Cx g A p m c b_M_readBody 7 ss args R_M) (hQ : ∀ (pc : Nat) (H : Heap) (locs : List Loc) (ls : Array Slot), XW g A ss (wM g z) H locs → decode b_M_readBody pc = .ok (.return_, 1) → W p l e (rmX 5 114) ss m args below meth c H locs 0 0 Q (F0 m pc ls [])) : ∀ (x1 : Int32) (x2 : Int32) (x3 : Int32) (x4 : Int32) (s : SM) (H : Heap) (locs : List Loc) (ls : Array Slot), XW g A ss (wM g s) H locs → lv_has ls 7 [(0, .ref (g.q 60)), (1, .int x1), (2, .int x2), (3, .int x3), (4, .int x4)] → f_M_readBody_266 x1 x2 x3 x4 s = some z → W p l e (rmX 5 114) ss m args below meth c H locs 0 0 Q (F0 m 266 ls []) := by
  have ⟨⟨hx, hb, hml, hown, hts⟩, hK, hA, hN⟩ := C
  intro x1 x2 x3 x4 s H locs ls hX hl h
  rw [f_M_readBody_266] at h
  refine lv_aload_n hx hb d_M_readBody_266 rfl (lv_at hl 0 rfl) ?_
  refine gm_close C hX fl_M_78 d_M_readBody_267 ?_
  refine lv_iload_n hx hb d_M_readBody_270 rfl (lv_at hl 1 rfl) ?_
  refine lv_aload_n hx hb d_M_readBody_271 rfl (lv_at hl 0 rfl) ?_
  refine gm_many C hX fl_M_263 d_M_readBody_272 ?_
  refine lv_iconst (v := 1) hx hb d_M_readBody_275 (by decide) ?_
  obtain ⟨v1, ev1, h⟩ := lt1_e h
  refine x_isub hx hb d_M_readBody_276 ev1 ?_
  obtain ⟨hz277, h⟩ := gi_e h
  obtain ⟨s2, es2, h⟩ := lt1_e h
  refine asm_23 C hX hz277 d_M_readBody_277 (fun H locs hX => ?_)
  rw [← es2] at hX
  obtain rfl := so1 h
  exact hQ _ H locs ls hX d_M_readBody_278
set_option maxHeartbeats 4000000 in
set_option maxRecDepth 100000 in
theorem w_M_readBody_253 {z : SM} (C : Cx g A p m c b_M_readBody 7 ss args R_M) (hQ : ∀ (pc : Nat) (H : Heap) (locs : List Loc) (ls : Array Slot), XW g A ss (wM g z) H locs → decode b_M_readBody pc = .ok (.return_, 1) → W p l e (rmX 5 114) ss m args below meth c H locs 0 0 Q (F0 m pc ls [])) (k17 : Int32 → Int32 → Int32 → Int32 → SM → Option SM) (hk17 : ∀ (x1 : Int32) (x2 : Int32) (x3 : Int32) (x4 : Int32) (s : SM) (H : Heap) (locs : List Loc) (ls : Array Slot), XW g A ss (wM g s) H locs → lv_has ls 7 [(0, .ref (g.q 60)), (1, .int x1), (2, .int x2), (3, .int x3), (4, .int x4)] → k17 x1 x2 x3 x4 s = some z → W p l e (rmX 5 114) ss m args below meth c H locs 0 0 Q (F0 m 17 ls [])) : ∀ (x1 : Int32) (x2 : Int32) (x3 : Int32) (x4 : Int32) (x5 : Int32) (x6 : Int32) (s : SM) (H : Heap) (locs : List Loc) (ls : Array Slot), XW g A ss (wM g s) H locs → lv_has ls 7 [(0, .ref (g.q 60)), (1, .int x1), (2, .int x2), (3, .int x3), (4, .int x4), (5, .int x5), (6, .int x6)] → f_M_readBody_253 k17 x1 x2 x3 x4 x5 x6 s = some z → W p l e (rmX 5 114) ss m args below meth c H locs 0 0 Q (F0 m 253 ls []) := by
  have ⟨⟨hx, hb, hml, hown, hts⟩, hK, hA, hN⟩ := C
  intro x1 x2 x3 x4 x5 x6 s H locs ls hX hl h
  rw [f_M_readBody_253] at h
  refine lv_aload_n hx hb d_M_readBody_253 rfl (lv_at hl 0 rfl) ?_
  refine lv_dup hx hb d_M_readBody_254 rfl ?_
  refine gm_many C hX fl_M_263 d_M_readBody_255 ?_
  refine lv_iconst (v := 1) hx hb d_M_readBody_258 (by decide) ?_
  obtain ⟨v1, ev1, h⟩ := lt1_e h
  refine x_iadd hx hb d_M_readBody_259 ev1 ?_
  obtain ⟨s2, es2, h⟩ := lt1_e h
  refine pm_many C hX fl_M_263 d_M_readBody_260 (fun H locs hX => ?_)
  rw [← es2] at hX
  refine lv_goto (tgt := 17) hx hb d_M_readBody_263 (by decide) ?_
  exact hk17 x1 x2 x3 x4 s2 H locs ls hX (lv_sub hl [0, 1, 2, 3, 4] rfl) h
set_option maxHeartbeats 4000000 in
set_option maxRecDepth 100000 in
theorem w_M_readBody_246 {z : SM} (C : Cx g A p m c b_M_readBody 7 ss args R_M) (hQ : ∀ (pc : Nat) (H : Heap) (locs : List Loc) (ls : Array Slot), XW g A ss (wM g z) H locs → decode b_M_readBody pc = .ok (.return_, 1) → W p l e (rmX 5 114) ss m args below meth c H locs 0 0 Q (F0 m pc ls [])) (k17 : Int32 → Int32 → Int32 → Int32 → SM → Option SM) (hk17 : ∀ (x1 : Int32) (x2 : Int32) (x3 : Int32) (x4 : Int32) (s : SM) (H : Heap) (locs : List Loc) (ls : Array Slot), XW g A ss (wM g s) H locs → lv_has ls 7 [(0, .ref (g.q 60)), (1, .int x1), (2, .int x2), (3, .int x3), (4, .int x4)] → k17 x1 x2 x3 x4 s = some z → W p l e (rmX 5 114) ss m args below meth c H locs 0 0 Q (F0 m 17 ls [])) : ∀ (x1 : Int32) (x2 : Int32) (x3 : Int32) (x4 : Int32) (x5 : Int32) (x6 : Int32) (y1 : Int32) (s : SM) (H : Heap) (locs : List Loc) (ls : Array Slot), XW g A ss (wM g s) H locs → lv_has ls 7 [(0, .ref (g.q 60)), (1, .int x1), (2, .int x2), (3, .int x3), (4, .int x4), (5, .int x5), (6, .int x6)] → f_M_readBody_246 k17 x1 x2 x3 x4 x5 x6 y1 s = some z → W p l e (rmX 5 114) ss m args below meth c H locs 0 0 Q (F0 m 246 ls [.int y1, .ref (g.q 60)]) := by
  have ⟨⟨hx, hb, hml, hown, hts⟩, hK, hA, hN⟩ := C
  intro x1 x2 x3 x4 x5 x6 y1 s H locs ls hX hl h
  rw [f_M_readBody_246] at h
  refine lv_iconst (v := 2) hx hb d_M_readBody_246 (by decide) ?_
  obtain ⟨s1, hc247, h⟩ := bd1_e h
  refine x_vV (As := [.int y1, .int 2]) (rest := []) C hX (c_M_will l g y1 2 s s1 hc247) (cw_M_158 C.1.2.2.2.2 C.2.2.2 ⟨by decide, by decide⟩) (x_rc C hX vg_0 rfl) rfl hl.1 rfl (lv_room (Nat.le_of_ble_eq_true rfl)) d_M_readBody_247 ⟨Nat.le_refl _, Nat.le_refl _⟩ (fun H locs hX => ?_)
  refine lv_iload hx hb d_M_readBody_250 (lv_at hl 6 rfl) ?_
  refine lv_istore_n (lv' := [(2, .int x6), (0, .ref (g.q 60)), (1, .int x1), (3, .int x3), (4, .int x4), (5, .int x5), (6, .int x6)]) hx hb d_M_readBody_252 rfl hl (by decide) rfl (fun ls hl => ?_)
  exact w_M_readBody_253 C hQ k17 hk17 x1 x6 x3 x4 x5 x6 s1 H locs ls hX (lv_sub hl [1, 2, 0, 3, 4, 5, 6] rfl) h
set_option maxHeartbeats 4000000 in
set_option maxRecDepth 100000 in
theorem w_M_readBody_219 {z : SM} (C : Cx g A p m c b_M_readBody 7 ss args R_M) (hQ : ∀ (pc : Nat) (H : Heap) (locs : List Loc) (ls : Array Slot), XW g A ss (wM g z) H locs → decode b_M_readBody pc = .ok (.return_, 1) → W p l e (rmX 5 114) ss m args below meth c H locs 0 0 Q (F0 m pc ls [])) (k17 : Int32 → Int32 → Int32 → Int32 → SM → Option SM) (hk17 : ∀ (x1 : Int32) (x2 : Int32) (x3 : Int32) (x4 : Int32) (s : SM) (H : Heap) (locs : List Loc) (ls : Array Slot), XW g A ss (wM g s) H locs → lv_has ls 7 [(0, .ref (g.q 60)), (1, .int x1), (2, .int x2), (3, .int x3), (4, .int x4)] → k17 x1 x2 x3 x4 s = some z → W p l e (rmX 5 114) ss m args below meth c H locs 0 0 Q (F0 m 17 ls [])) : ∀ (x1 : Int32) (x2 : Int32) (x3 : Int32) (x4 : Int32) (x5 : Int32) (x6 : Int32) (s : SM) (H : Heap) (locs : List Loc) (ls : Array Slot), XW g A ss (wM g s) H locs → lv_has ls 7 [(0, .ref (g.q 60)), (1, .int x1), (2, .int x2), (3, .int x3), (4, .int x4), (5, .int x5), (6, .int x6)] → f_M_readBody_219 k17 x1 x2 x3 x4 x5 x6 s = some z → W p l e (rmX 5 114) ss m args below meth c H locs 0 0 Q (F0 m 219 ls []) := by
  have ⟨⟨hx, hb, hml, hown, hts⟩, hK, hA, hN⟩ := C
  intro x1 x2 x3 x4 x5 x6 s H locs ls hX hl h
  rw [f_M_readBody_219] at h
  refine lv_iload hx hb d_M_readBody_219 (lv_at hl 5 rfl) ?_
  refine lv_iconst (v := 2) hx hb d_M_readBody_221 (by decide) ?_
  refine lv_icmp_lt (tgt := 253) hx hb d_M_readBody_222 (by decide) (fun c222 => ?_) (fun c222 => ?_)
  · have h := ite_t c222 h
    exact w_M_readBody_253 C hQ k17 hk17 x1 x2 x3 x4 x5 x6 s H locs ls hX hl h
  · have h := ite_f c222 h
    refine lv_iload hx hb d_M_readBody_225 (lv_at hl 5 rfl) ?_
    refine lv_iconst (v := 4) hx hb d_M_readBody_227 (by decide) ?_
    refine lv_icmp_gt (tgt := 253) hx hb d_M_readBody_228 (by decide) (fun c228 => ?_) (fun c228 => ?_)
    · have h := ite_t c228 h
      exact w_M_readBody_253 C hQ k17 hk17 x1 x2 x3 x4 x5 x6 s H locs ls hX hl h
    · have h := ite_f c228 h
      obtain ⟨v1, ev1, h⟩ := lt1_e h
      refine lv_iinc (v := v1) (lv' := [(3, .int v1), (0, .ref (g.q 60)), (1, .int x1), (2, .int x2), (4, .int x4), (5, .int x5), (6, .int x6)]) hx hb d_M_readBody_231 hl (k := 3) rfl (by rw [ev1]; rfl) (by decide) rfl (fun ls hl => ?_)
      refine lv_aload_n hx hb d_M_readBody_234 rfl (lv_at hl 1 rfl) ?_
      refine lv_iload_n hx hb d_M_readBody_235 rfl (lv_at hl 0 rfl) ?_
      refine lv_bipush (v := 10) hx hb d_M_readBody_236 (by decide) ?_
      refine lv_icmp_gt (tgt := 245) hx hb d_M_readBody_238 (by decide) (fun c238 => ?_) (fun c238 => ?_)
      · have h := ite_t c238 h
        refine lv_iconst (v := 0) hx hb d_M_readBody_245 (by decide) ?_
        exact w_M_readBody_246 C hQ k17 hk17 x1 x2 v1 x4 x5 x6 0 s H locs ls hX (lv_sub hl [1, 2, 3, 0, 4, 5, 6] rfl) h
      · have h := ite_f c238 h
        refine lv_iconst (v := 1) hx hb d_M_readBody_241 (by decide) ?_
        refine lv_goto (tgt := 246) hx hb d_M_readBody_242 (by decide) ?_
        exact w_M_readBody_246 C hQ k17 hk17 x1 x2 v1 x4 x5 x6 1 s H locs ls hX (lv_sub hl [1, 2, 3, 0, 4, 5, 6] rfl) h
set_option maxHeartbeats 4000000 in
set_option maxRecDepth 100000 in
theorem w_M_readBody_185 {z : SM} (C : Cx g A p m c b_M_readBody 7 ss args R_M) (hQ : ∀ (pc : Nat) (H : Heap) (locs : List Loc) (ls : Array Slot), XW g A ss (wM g z) H locs → decode b_M_readBody pc = .ok (.return_, 1) → W p l e (rmX 5 114) ss m args below meth c H locs 0 0 Q (F0 m pc ls [])) (k17 : Int32 → Int32 → Int32 → Int32 → SM → Option SM) (hk17 : ∀ (x1 : Int32) (x2 : Int32) (x3 : Int32) (x4 : Int32) (s : SM) (H : Heap) (locs : List Loc) (ls : Array Slot), XW g A ss (wM g s) H locs → lv_has ls 7 [(0, .ref (g.q 60)), (1, .int x1), (2, .int x2), (3, .int x3), (4, .int x4)] → k17 x1 x2 x3 x4 s = some z → W p l e (rmX 5 114) ss m args below meth c H locs 0 0 Q (F0 m 17 ls [])) : ∀ (x1 : Int32) (x2 : Int32) (x3 : Int32) (x4 : Int32) (x5 : Int32) (x6 : Int32) (y0 : Int32) (s : SM) (H : Heap) (locs : List Loc) (ls : Array Slot), XW g A ss (wM g s) H locs → lv_has ls 7 [(0, .ref (g.q 60)), (1, .int x1), (2, .int x2), (3, .int x3), (4, .int x4), (5, .int x5), (6, .int x6)] → f_M_readBody_185 k17 x1 x2 x3 x4 x5 x6 y0 s = some z → W p l e (rmX 5 114) ss m args below meth c H locs 0 0 Q (F0 m 185 ls [.int y0]) := by
  have ⟨⟨hx, hb, hml, hown, hts⟩, hK, hA, hN⟩ := C
  intro x1 x2 x3 x4 x5 x6 y0 s H locs ls hX hl h
  rw [f_M_readBody_185] at h
  refine lv_istore (lv' := [(4, .int y0), (0, .ref (g.q 60)), (1, .int x1), (2, .int x2), (3, .int x3), (5, .int x5), (6, .int x6)]) hx hb d_M_readBody_185 hl (by decide) rfl (fun ls hl => ?_)
  refine lv_iload hx hb d_M_readBody_187 (lv_at hl 0 rfl) ?_
  refine lv_if_eq (tgt := 219) hx hb d_M_readBody_189 (by decide) (fun c189 => ?_) (fun c189 => ?_)
  · have h := ite_t c189 h
    exact w_M_readBody_219 C hQ k17 hk17 x1 x2 x3 y0 x5 x6 s H locs ls hX (lv_sub hl [1, 2, 3, 4, 0, 5, 6] rfl) h
  · have h := ite_f c189 h
    refine lv_aload_n hx hb d_M_readBody_192 rfl (lv_at hl 1 rfl) ?_
    refine gm_endAt C hX fl_M_63 d_M_readBody_193 ?_
    refine lv_iload_n hx hb d_M_readBody_196 rfl (lv_at hl 3 rfl) ?_
    refine lv_iload hx hb d_M_readBody_197 (lv_at hl 6 rfl) ?_
    obtain ⟨hz199, h⟩ := gi_e h
    obtain ⟨s1, es1, h⟩ := lt1_e h
    refine asm_18 C hX hz199 d_M_readBody_199 (fun H locs hX => ?_)
    rw [← es1] at hX
    refine lv_aload_n hx hb d_M_readBody_200 rfl (lv_at hl 1 rfl) ?_
    refine gm_inside C hX fl_M_60 d_M_readBody_201 ?_
    refine lv_iload_n hx hb d_M_readBody_204 rfl (lv_at hl 3 rfl) ?_
    obtain ⟨hz205, h⟩ := gi_e h
    obtain ⟨v2, ev2, h⟩ := lt1_e h
    refine alm_17 C hX hz205 d_M_readBody_205 ev2 ?_
    refine lv_istore_n (lv' := [(2, .int v2), (4, .int y0), (0, .ref (g.q 60)), (1, .int x1), (3, .int x3), (5, .int x5), (6, .int x6)]) hx hb d_M_readBody_206 rfl hl (by decide) rfl (fun ls hl => ?_)
    obtain ⟨v3, ev3, h⟩ := lt1_e h
    refine lv_iinc (v := v3) (lv' := [(3, .int v3), (2, .int v2), (4, .int y0), (0, .ref (g.q 60)), (1, .int x1), (5, .int x5), (6, .int x6)]) hx hb d_M_readBody_207 hl (k := 4) rfl (by rw [ev3]; rfl) (by decide) rfl (fun ls hl => ?_)
    refine lv_goto (tgt := 219) hx hb d_M_readBody_210 (by decide) ?_
    exact w_M_readBody_219 C hQ k17 hk17 x1 v2 v3 y0 x5 x6 s1 H locs ls hX (lv_sub hl [3, 4, 1, 0, 2, 5, 6] rfl) h
set_option maxHeartbeats 4000000 in
set_option maxRecDepth 100000 in
theorem w_M_readBody_145 {z : SM} (C : Cx g A p m c b_M_readBody 7 ss args R_M) (hQ : ∀ (pc : Nat) (H : Heap) (locs : List Loc) (ls : Array Slot), XW g A ss (wM g z) H locs → decode b_M_readBody pc = .ok (.return_, 1) → W p l e (rmX 5 114) ss m args below meth c H locs 0 0 Q (F0 m pc ls [])) (k17 : Int32 → Int32 → Int32 → Int32 → SM → Option SM) (hk17 : ∀ (x1 : Int32) (x2 : Int32) (x3 : Int32) (x4 : Int32) (s : SM) (H : Heap) (locs : List Loc) (ls : Array Slot), XW g A ss (wM g s) H locs → lv_has ls 7 [(0, .ref (g.q 60)), (1, .int x1), (2, .int x2), (3, .int x3), (4, .int x4)] → k17 x1 x2 x3 x4 s = some z → W p l e (rmX 5 114) ss m args below meth c H locs 0 0 Q (F0 m 17 ls [])) : ∀ (x1 : Int32) (x2 : Int32) (x3 : Int32) (x4 : Int32) (x5 : Int32) (x6 : Int32) (y1 : Int32) (s : SM) (H : Heap) (locs : List Loc) (ls : Array Slot), XW g A ss (wM g s) H locs → lv_has ls 7 [(0, .ref (g.q 60)), (1, .int x1), (2, .int x2), (3, .int x3), (4, .int x4), (5, .int x5), (6, .int x6)] → f_M_readBody_145 k17 x1 x2 x3 x4 x5 x6 y1 s = some z → W p l e (rmX 5 114) ss m args below meth c H locs 0 0 Q (F0 m 145 ls [.int y1, .ref (g.q 60)]) := by
  have ⟨⟨hx, hb, hml, hown, hts⟩, hK, hA, hN⟩ := C
  intro x1 x2 x3 x4 x5 x6 y1 s H locs ls hX hl h
  rw [f_M_readBody_145] at h
  refine lv_iconst (v := 1) hx hb d_M_readBody_145 (by decide) ?_
  obtain ⟨s1, hc146, h⟩ := bd1_e h
  refine x_vV (As := [.int y1, .int 1]) (rest := []) C hX (c_M_will l g y1 1 s s1 hc146) (cw_M_158 C.1.2.2.2.2 C.2.2.2 ⟨by decide, by decide⟩) (x_rc C hX vg_0 rfl) rfl hl.1 rfl (lv_room (Nat.le_of_ble_eq_true rfl)) d_M_readBody_146 ⟨Nat.le_refl _, Nat.le_refl _⟩ (fun H locs hX => ?_)
  refine lv_aload_n hx hb d_M_readBody_149 rfl (lv_at hl 0 rfl) ?_
  refine gm_wrong C hX fl_M_149 d_M_readBody_150 ?_
  refine lv_if_le (tgt := 157) hx hb d_M_readBody_153 (by decide) (fun c153 => ?_) (fun c153 => ?_)
  · have h := ite_t c153 h
    refine lv_aload_n hx hb d_M_readBody_157 rfl (lv_at hl 0 rfl) ?_
    refine gm_elseAt C hX fl_M_66 d_M_readBody_158 ?_
    refine lv_iload_n hx hb d_M_readBody_161 rfl (lv_at hl 2 rfl) ?_
    refine lv_iload hx hb d_M_readBody_162 (lv_at hl 6 rfl) ?_
    obtain ⟨hz164, h⟩ := gi_e h
    obtain ⟨s2, es2, h⟩ := lt1_e h
    refine asm_19 C hX hz164 d_M_readBody_164 (fun H locs hX => ?_)
    rw [← es2] at hX
    refine lv_goto (tgt := 219) hx hb d_M_readBody_165 (by decide) ?_
    exact w_M_readBody_219 C hQ k17 hk17 x1 x2 x3 x4 x5 x6 s2 H locs ls hX hl h
  · have h := ite_f c153 h
    obtain rfl := so1 h
    exact hQ _ H locs ls hX d_M_readBody_156
set_option maxHeartbeats 4000000 in
set_option maxRecDepth 100000 in
theorem w_M_readBody_144 {z : SM} (C : Cx g A p m c b_M_readBody 7 ss args R_M) (hQ : ∀ (pc : Nat) (H : Heap) (locs : List Loc) (ls : Array Slot), XW g A ss (wM g z) H locs → decode b_M_readBody pc = .ok (.return_, 1) → W p l e (rmX 5 114) ss m args below meth c H locs 0 0 Q (F0 m pc ls [])) (k17 : Int32 → Int32 → Int32 → Int32 → SM → Option SM) (hk17 : ∀ (x1 : Int32) (x2 : Int32) (x3 : Int32) (x4 : Int32) (s : SM) (H : Heap) (locs : List Loc) (ls : Array Slot), XW g A ss (wM g s) H locs → lv_has ls 7 [(0, .ref (g.q 60)), (1, .int x1), (2, .int x2), (3, .int x3), (4, .int x4)] → k17 x1 x2 x3 x4 s = some z → W p l e (rmX 5 114) ss m args below meth c H locs 0 0 Q (F0 m 17 ls [])) : ∀ (x1 : Int32) (x2 : Int32) (x3 : Int32) (x4 : Int32) (x5 : Int32) (x6 : Int32) (s : SM) (H : Heap) (locs : List Loc) (ls : Array Slot), XW g A ss (wM g s) H locs → lv_has ls 7 [(0, .ref (g.q 60)), (1, .int x1), (2, .int x2), (3, .int x3), (4, .int x4), (5, .int x5), (6, .int x6)] → f_M_readBody_144 k17 x1 x2 x3 x4 x5 x6 s = some z → W p l e (rmX 5 114) ss m args below meth c H locs 0 0 Q (F0 m 144 ls [.ref (g.q 60)]) := by
  have ⟨⟨hx, hb, hml, hown, hts⟩, hK, hA, hN⟩ := C
  intro x1 x2 x3 x4 x5 x6 s H locs ls hX hl h
  rw [f_M_readBody_144] at h
  refine lv_iconst (v := 0) hx hb d_M_readBody_144 (by decide) ?_
  exact w_M_readBody_145 C hQ k17 hk17 x1 x2 x3 x4 x5 x6 0 s H locs ls hX hl h
set_option maxHeartbeats 4000000 in
set_option maxRecDepth 100000 in
theorem w_M_readBody_17 {z : SM} (C : Cx g A p m c b_M_readBody 7 ss args R_M) (hQ : ∀ (pc : Nat) (H : Heap) (locs : List Loc) (ls : Array Slot), XW g A ss (wM g z) H locs → decode b_M_readBody pc = .ok (.return_, 1) → W p l e (rmX 5 114) ss m args below meth c H locs 0 0 Q (F0 m pc ls [])) (n : Nat) : ∀ (x1 : Int32) (x2 : Int32) (x3 : Int32) (x4 : Int32) (s : SM) (H : Heap) (locs : List Loc) (ls : Array Slot), XW g A ss (wM g s) H locs → lv_has ls 7 [(0, .ref (g.q 60)), (1, .int x1), (2, .int x2), (3, .int x3), (4, .int x4)] → f_M_readBody_17 n x1 x2 x3 x4 s = some z → W p l e (rmX 5 114) ss m args below meth c H locs 0 0 Q (F0 m 17 ls []) := by
  have ⟨⟨hx, hb, hml, hown, hts⟩, hK, hA, hN⟩ := C
  induction n with
  | zero => intro x1 x2 x3 x4 s H locs ls hX hl h; cases h
  | succ n ih =>
    intro x1 x2 x3 x4 s H locs ls hX hl h
    rw [f_M_readBody_17] at h
    refine lv_iload hx hb d_M_readBody_17 (lv_at hl 4 rfl) ?_
    refine lv_if_eq (tgt := 266) hx hb d_M_readBody_19 (by decide) (fun c19 => ?_) (fun c19 => ?_)
    · have h := ite_t c19 h
      exact w_M_readBody_266 C hQ x1 x2 x3 x4 s H locs ls hX hl h
    · have h := ite_f c19 h
      refine lv_aload_n hx hb d_M_readBody_22 rfl (lv_at hl 0 rfl) ?_
      refine gm_wrong C hX fl_M_149 d_M_readBody_23 ?_
      refine lv_if_ne (tgt := 266) hx hb d_M_readBody_26 (by decide) (fun c26 => ?_) (fun c26 => ?_)
      · have h := ite_f c26 h
        exact w_M_readBody_266 C hQ x1 x2 x3 x4 s H locs ls hX hl h
      · have h := ite_t c26 h
        refine lv_aload_n hx hb d_M_readBody_29 rfl (lv_at hl 0 rfl) ?_
        obtain ⟨r2, s1, hc30, h⟩ := bd_e h
        refine x_vI (As := []) (rest := []) C hX (c_M_next l g s (r2, s1) hc30) (cw_M_162 C.1.2.2.2.2 C.2.2.2 ⟨by decide, by decide⟩) (x_rc C hX vg_0 rfl) rfl hl.1 rfl (lv_room (Nat.le_of_ble_eq_true rfl)) d_M_readBody_30 ⟨Nat.le_refl _, Nat.le_refl _⟩ (fun H locs hX => ?_)
        refine lv_istore (lv' := [(5, .int r2), (0, .ref (g.q 60)), (1, .int x1), (2, .int x2), (3, .int x3), (4, .int x4)]) hx hb d_M_readBody_33 hl (by decide) rfl (fun ls hl => ?_)
        refine lv_aload_n hx hb d_M_readBody_35 rfl (lv_at hl 1 rfl) ?_
        refine lv_iload hx hb d_M_readBody_36 (lv_at hl 0 rfl) ?_
        obtain ⟨r3, hc38, h⟩ := bd1_e h
        refine x_sI (As := [.int r2]) (rest := [.ref (g.q 60)]) C hX (c_M_isKnown l g r2 r3 hc38 _) (cw_M_266 C.1.2.2.2.2 C.2.2.2 ⟨by decide, by decide⟩) rfl hl.1 rfl (lv_room (Nat.le_of_ble_eq_true rfl)) d_M_readBody_38 ⟨Nat.le_refl _, Nat.le_refl _⟩ (fun H locs hX => ?_)
        refine lv_iconst (v := 2) hx hb d_M_readBody_41 (by decide) ?_
        obtain ⟨s4, hc42, h⟩ := bd1_e h
        refine x_vV (As := [.int r3, .int 2]) (rest := []) C hX (c_M_will l g r3 2 s1 s4 hc42) (cw_M_158 C.1.2.2.2.2 C.2.2.2 ⟨by decide, by decide⟩) (x_rc C hX vg_0 rfl) rfl hl.1 rfl (lv_room (Nat.le_of_ble_eq_true rfl)) d_M_readBody_42 ⟨Nat.le_refl _, Nat.le_refl _⟩ (fun H locs hX => ?_)
        refine lv_aload_n hx hb d_M_readBody_45 rfl (lv_at hl 1 rfl) ?_
        refine gm_wrong C hX fl_M_149 d_M_readBody_46 ?_
        refine lv_if_le (tgt := 53) hx hb d_M_readBody_49 (by decide) (fun c49 => ?_) (fun c49 => ?_)
        · have h := ite_t c49 h
          refine lv_aload_n hx hb d_M_readBody_53 rfl (lv_at hl 1 rfl) ?_
          refine gm_many C hX fl_M_263 d_M_readBody_54 ?_
          refine lv_istore (lv' := [(6, .int (s4.1 0 14)), (5, .int r2), (0, .ref (g.q 60)), (1, .int x1), (2, .int x2), (3, .int x3), (4, .int x4)]) hx hb d_M_readBody_57 hl (by decide) rfl (fun ls hl => ?_)
          refine lv_aload_n hx hb d_M_readBody_59 rfl (lv_at hl 2 rfl) ?_
          refine gm_op C hX fl_M_51 d_M_readBody_60 ?_
          refine lv_iload hx hb d_M_readBody_63 (lv_at hl 0 rfl) ?_
          refine lv_iload hx hb d_M_readBody_65 (lv_at hl 1 rfl) ?_
          obtain ⟨hz67, h⟩ := gi_e h
          obtain ⟨s5, es5, h⟩ := lt1_e h
          refine asm_14 C hX hz67 d_M_readBody_67 (fun H locs hX => ?_)
          rw [← es5] at hX
          refine lv_aload_n hx hb d_M_readBody_68 rfl (lv_at hl 2 rfl) ?_
          refine gm_first C hX fl_M_54 d_M_readBody_69 ?_
          refine lv_iload hx hb d_M_readBody_72 (lv_at hl 0 rfl) ?_
          refine lv_lconst (v := 0) hx hb d_M_readBody_74 (by decide) ?_
          obtain ⟨hz75, h⟩ := gi_e h
          obtain ⟨s6, es6, h⟩ := lt1_e h
          refine asm_15 C hX hz75 d_M_readBody_75 (fun H locs hX => ?_)
          rw [← es6] at hX
          refine lv_aload_n hx hb d_M_readBody_76 rfl (lv_at hl 2 rfl) ?_
          refine gm_second C hX fl_M_57 d_M_readBody_77 ?_
          refine lv_iload hx hb d_M_readBody_80 (lv_at hl 0 rfl) ?_
          refine lv_lconst (v := 0) hx hb d_M_readBody_82 (by decide) ?_
          obtain ⟨hz83, h⟩ := gi_e h
          obtain ⟨s7, es7, h⟩ := lt1_e h
          refine asm_16 C hX hz83 d_M_readBody_83 (fun H locs hX => ?_)
          rw [← es7] at hX
          refine lv_aload_n hx hb d_M_readBody_84 rfl (lv_at hl 2 rfl) ?_
          refine gm_inside C hX fl_M_60 d_M_readBody_85 ?_
          refine lv_iload hx hb d_M_readBody_88 (lv_at hl 0 rfl) ?_
          refine lv_iload_n hx hb d_M_readBody_90 rfl (lv_at hl 4 rfl) ?_
          obtain ⟨hz91, h⟩ := gi_e h
          obtain ⟨s8, es8, h⟩ := lt1_e h
          refine asm_17 C hX hz91 d_M_readBody_91 (fun H locs hX => ?_)
          rw [← es8] at hX
          refine lv_aload_n hx hb d_M_readBody_92 rfl (lv_at hl 2 rfl) ?_
          refine gm_endAt C hX fl_M_63 d_M_readBody_93 ?_
          refine lv_iload hx hb d_M_readBody_96 (lv_at hl 0 rfl) ?_
          refine lv_iconst (v := (-1)) hx hb d_M_readBody_98 (by decide) ?_
          obtain ⟨hz99, h⟩ := gi_e h
          obtain ⟨s9, es9, h⟩ := lt1_e h
          refine asm_18 C hX hz99 d_M_readBody_99 (fun H locs hX => ?_)
          rw [← es9] at hX
          refine lv_aload_n hx hb d_M_readBody_100 rfl (lv_at hl 2 rfl) ?_
          refine gm_elseAt C hX fl_M_66 d_M_readBody_101 ?_
          refine lv_iload hx hb d_M_readBody_104 (lv_at hl 0 rfl) ?_
          refine lv_iconst (v := (-1)) hx hb d_M_readBody_106 (by decide) ?_
          obtain ⟨hz107, h⟩ := gi_e h
          obtain ⟨s10, es10, h⟩ := lt1_e h
          refine asm_19 C hX hz107 d_M_readBody_107 (fun H locs hX => ?_)
          rw [← es10] at hX
          refine lv_iload hx hb d_M_readBody_108 (lv_at hl 1 rfl) ?_
          refine lv_iconst (v := 5) hx hb d_M_readBody_110 (by decide) ?_
          refine lv_icmp_ne (tgt := 168) hx hb d_M_readBody_111 (by decide) (fun c111 => ?_) (fun c111 => ?_)
          · have h := ite_f c111 h
            refine lv_iload hx hb d_M_readBody_168 (lv_at hl 1 rfl) ?_
            refine lv_bipush (v := 11) hx hb d_M_readBody_170 (by decide) ?_
            refine lv_icmp_ne (tgt := 213) hx hb d_M_readBody_172 (by decide) (fun c172 => ?_) (fun c172 => ?_)
            · have h := ite_f c172 h
              refine lv_aload_n hx hb d_M_readBody_213 rfl (lv_at hl 2 rfl) ?_
              refine lv_iload hx hb d_M_readBody_214 (lv_at hl 0 rfl) ?_
              obtain ⟨s11, hc216, h⟩ := bd1_e h
              refine x_vV (As := [.int (s4.1 0 14)]) (rest := []) C hX (c_M_readNumbers l g (s4.1 0 14) s10 s11 hc216) (cw_M_270 C.1.2.2.2.2 C.2.2.2 ⟨by decide, by decide⟩) (x_rc C hX vg_0 rfl) rfl hl.1 rfl (lv_room (Nat.le_of_ble_eq_true rfl)) d_M_readBody_216 ⟨Nat.le_refl _, Nat.le_refl _⟩ (fun H locs hX => ?_)
              exact w_M_readBody_219 C hQ (f_M_readBody_17 n) ih x1 x2 x3 x4 r2 (s4.1 0 14) s11 H locs ls hX (lv_sub hl [2, 3, 4, 5, 6, 1, 0] rfl) h
            · have h := ite_t c172 h
              refine lv_iload_n hx hb d_M_readBody_175 rfl (lv_at hl 4 rfl) ?_
              refine lv_iconst (v := (-1)) hx hb d_M_readBody_176 (by decide) ?_
              refine lv_icmp_eq (tgt := 184) hx hb d_M_readBody_177 (by decide) (fun c177 => ?_) (fun c177 => ?_)
              · have h := ite_t c177 h
                refine lv_iconst (v := 0) hx hb d_M_readBody_184 (by decide) ?_
                exact w_M_readBody_185 C hQ (f_M_readBody_17 n) ih x1 x2 x3 x4 r2 (s4.1 0 14) 0 s10 H locs ls hX (lv_sub hl [2, 3, 4, 5, 6, 1, 0] rfl) h
              · have h := ite_f c177 h
                refine lv_iconst (v := 1) hx hb d_M_readBody_180 (by decide) ?_
                refine lv_goto (tgt := 185) hx hb d_M_readBody_181 (by decide) ?_
                exact w_M_readBody_185 C hQ (f_M_readBody_17 n) ih x1 x2 x3 x4 r2 (s4.1 0 14) 1 s10 H locs ls hX (lv_sub hl [2, 3, 4, 5, 6, 1, 0] rfl) h
          · have h := ite_t c111 h
            refine lv_aload_n hx hb d_M_readBody_114 rfl (lv_at hl 2 rfl) ?_
            refine lv_iload_n hx hb d_M_readBody_115 rfl (lv_at hl 4 rfl) ?_
            refine lv_iconst (v := (-1)) hx hb d_M_readBody_116 (by decide) ?_
            refine lv_icmp_eq (tgt := 144) hx hb d_M_readBody_117 (by decide) (fun c117 => ?_) (fun c117 => ?_)
            · have h := ite_t c117 h
              exact w_M_readBody_144 C hQ (f_M_readBody_17 n) ih x1 x2 x3 x4 r2 (s4.1 0 14) s10 H locs ls hX (lv_sub hl [2, 3, 4, 5, 6, 1, 0] rfl) h
            · have h := ite_f c117 h
              refine lv_aload_n hx hb d_M_readBody_120 rfl (lv_at hl 2 rfl) ?_
              refine gm_op C hX fl_M_51 d_M_readBody_121 ?_
              refine lv_iload_n hx hb d_M_readBody_124 rfl (lv_at hl 4 rfl) ?_
              obtain ⟨hz125, h⟩ := gi_e h
              obtain ⟨v12, ev12, h⟩ := lt1_e h
              refine alm_14 C hX hz125 d_M_readBody_125 ev12 ?_
              refine lv_iconst (v := 4) hx hb d_M_readBody_126 (by decide) ?_
              refine lv_icmp_ne (tgt := 144) hx hb d_M_readBody_127 (by decide) (fun c127 => ?_) (fun c127 => ?_)
              · have h := ite_f c127 h
                exact w_M_readBody_144 C hQ (f_M_readBody_17 n) ih x1 x2 x3 x4 r2 (s4.1 0 14) s10 H locs ls hX (lv_sub hl [2, 3, 4, 5, 6, 1, 0] rfl) h
              · have h := ite_t c127 h
                refine lv_aload_n hx hb d_M_readBody_130 rfl (lv_at hl 2 rfl) ?_
                refine gm_elseAt C hX fl_M_66 d_M_readBody_131 ?_
                refine lv_iload_n hx hb d_M_readBody_134 rfl (lv_at hl 4 rfl) ?_
                obtain ⟨hz135, h⟩ := gi_e h
                obtain ⟨v13, ev13, h⟩ := lt1_e h
                refine alm_19 C hX hz135 d_M_readBody_135 ev13 ?_
                refine lv_iconst (v := (-1)) hx hb d_M_readBody_136 (by decide) ?_
                refine lv_icmp_ne (tgt := 144) hx hb d_M_readBody_137 (by decide) (fun c137 => ?_) (fun c137 => ?_)
                · have h := ite_f c137 h
                  exact w_M_readBody_144 C hQ (f_M_readBody_17 n) ih x1 x2 x3 x4 r2 (s4.1 0 14) s10 H locs ls hX (lv_sub hl [2, 3, 4, 5, 6, 1, 0] rfl) h
                · have h := ite_t c137 h
                  refine lv_iconst (v := 1) hx hb d_M_readBody_140 (by decide) ?_
                  refine lv_goto (tgt := 145) hx hb d_M_readBody_141 (by decide) ?_
                  exact w_M_readBody_145 C hQ (f_M_readBody_17 n) ih x1 x2 x3 x4 r2 (s4.1 0 14) 1 s10 H locs ls hX (lv_sub hl [2, 3, 4, 5, 6, 1, 0] rfl) h
        · have h := ite_f c49 h
          obtain rfl := so1 h
          exact hQ _ H locs ls hX d_M_readBody_52
set_option maxHeartbeats 4000000 in
set_option maxRecDepth 100000 in
theorem w_M_readBody {z : SM} (C : Cx g A p m c b_M_readBody 7 ss args R_M) (hQ : ∀ (pc : Nat) (H : Heap) (locs : List Loc) (ls : Array Slot), XW g A ss (wM g z) H locs → decode b_M_readBody pc = .ok (.return_, 1) → W p l e (rmX 5 114) ss m args below meth c H locs 0 0 Q (F0 m pc ls [])) : ∀ (x1 : Int32) (s : SM) (H : Heap) (locs : List Loc) (ls : Array Slot), XW g A ss (wM g s) H locs → lv_has ls 7 [(0, .ref (g.q 60)), (1, .int x1)] → f_M_readBody x1 s = some z → W p l e (rmX 5 114) ss m args below meth c H locs 0 0 Q (F0 m 0 ls []) := by
  have ⟨⟨hx, hb, hml, hown, hts⟩, hK, hA, hN⟩ := C
  intro x1 s H locs ls hX hl h
  rw [f_M_readBody] at h
  refine lv_aload_n hx hb d_M_readBody_0 rfl (lv_at hl 0 rfl) ?_
  refine gm_begin C hX fl_M_75 d_M_readBody_1 ?_
  refine lv_iload_n hx hb d_M_readBody_4 rfl (lv_at hl 1 rfl) ?_
  refine lv_aload_n hx hb d_M_readBody_5 rfl (lv_at hl 0 rfl) ?_
  refine gm_many C hX fl_M_263 d_M_readBody_6 ?_
  obtain ⟨hz9, h⟩ := gi_e h
  obtain ⟨s1, es1, h⟩ := lt1_e h
  refine asm_22 C hX hz9 d_M_readBody_9 (fun H locs hX => ?_)
  rw [← es1] at hX
  refine lv_iconst (v := (-1)) hx hb d_M_readBody_10 (by decide) ?_
  refine lv_istore_n (lv' := [(2, .int ((-1))), (0, .ref (g.q 60)), (1, .int x1)]) hx hb d_M_readBody_11 rfl hl (by decide) rfl (fun ls hl => ?_)
  refine lv_iconst (v := 0) hx hb d_M_readBody_12 (by decide) ?_
  refine lv_istore_n (lv' := [(3, .int 0), (2, .int ((-1))), (0, .ref (g.q 60)), (1, .int x1)]) hx hb d_M_readBody_13 rfl hl (by decide) rfl (fun ls hl => ?_)
  refine lv_iconst (v := 1) hx hb d_M_readBody_14 (by decide) ?_
  refine lv_istore (lv' := [(4, .int 1), (3, .int 0), (2, .int ((-1))), (0, .ref (g.q 60)), (1, .int x1)]) hx hb d_M_readBody_15 hl (by decide) rfl (fun ls hl => ?_)
  exact w_M_readBody_17 C hQ FU x1 ((-1)) 0 1 s1 H locs ls hX (lv_sub hl [3, 4, 2, 1, 0] rfl) h
end WALK
theorem c_M_readBody (l : Launch) (g : GX) (x1 : Int32) (s : SM) (z : SM) (h : f_M_readBody x1 s = some z) : MV l g y_M_readBody b_M_readBody 7 none 5 114 [.ref (g.q 60), .int x1] (wM g s) (wM g z) :=
  MV.mk (own := R_M) (by decide) rfl (Nat.le_of_ble_eq_true rfl) fun p e ss m below meth c A Q C hQ ls hX hl => w_M_readBody C hQ x1 s _ _ ls hX hl h
-- M_readCode
def f_M_readCode_118 (x1 : Int64) (x3 : Int32) (x4 : Int32) (s : SM) : Option SM :=
    lt1 (stI s 0 4 x3) fun s1 =>
    some s1
def f_M_readCode_100 (k33 : Int64 → Int32 → Int32 → SM → Option SM) (x1 : Int64) (x3 : Int32) (x4 : Int32) (x5 : Int32) (y1 : Int32) (s : SM) : Option SM :=
    bd1 (f_M_will y1 1 s) fun s1 =>
    lt1 (x4 + 1) fun v2 =>
    lt1 (stI s1 0 8 v2) fun s3 =>
    lt1 (x4 + (1)) fun v4 =>
    k33 x1 x3 v4 s3
def f_M_readCode_33 : Nat → Int64 → Int32 → Int32 → SM → Option SM
  | 0, _, _, _, _ => none
  | n + 1, x1, x3, x4, s =>
    lt1 (Int32.toInt64 x4) fun v1 =>
    lt1 (lg_cmp v1 x1) fun v2 =>
    if 0 ≤ v2 then
      f_M_readCode_118 x1 x3 x4 s
    else
      if s.1 0 5 = 0 then
        lt1 (stI s 0 4 x3) fun s3 =>
        bd (f_M_ahead s3) fun r5 s4 =>
        if s4.1 0 5 ≤ 0 then
          lt1 (stI s4 0 4 r5) fun s6 =>
          bd1 (f_M_readLocals x4 s6) fun s7 =>
          bd1 (f_M_readBody x4 s7) fun s8 =>
          if s8.1 0 3 = r5 then
            f_M_readCode_100 (f_M_readCode_33 n) x1 x3 x4 r5 1 s8
          else
            f_M_readCode_100 (f_M_readCode_33 n) x1 x3 x4 r5 0 s8
        else
          some s4
      else
        f_M_readCode_118 x1 x3 x4 s
def f_M_readCode_21 (x1 : Int64) (y1 : Int32) (s : SM) : Option SM :=
    bd1 (f_M_will y1 1 s) fun s1 =>
    f_M_readCode_33 FU x1 (s1.1 0 4) 0 s1
def f_M_readCode (s : SM) : Option SM :=
    bd (f_M_unsigned s) fun r2 s1 =>
    lt1 (Int32.toInt64 (s1.1 0 7)) fun v3 =>
    lt1 (lg_cmp r2 v3) fun v4 =>
    if v4 = 0 then
      f_M_readCode_21 r2 1 s1
    else
      f_M_readCode_21 r2 0 s1
section WALK
variable {p : Program} {l : Launch} {e : Env} {ss : State} {m : MethodId} {args : Array Value} {below : List Frame} {meth : Method} {c : Code} {Q : State → Prop} {g : GX} {A : Nat → Prop}
set_option maxHeartbeats 4000000 in
set_option maxRecDepth 100000 in
theorem w_M_readCode_118 {z : SM} (C : Cx g A p m c b_M_readCode 6 ss args R_M) (hQ : ∀ (pc : Nat) (H : Heap) (locs : List Loc) (ls : Array Slot), XW g A ss (wM g z) H locs → decode b_M_readCode pc = .ok (.return_, 1) → W p l e (rmX 6 140) ss m args below meth c H locs 0 0 Q (F0 m pc ls [])) : ∀ (x1 : Int64) (x3 : Int32) (x4 : Int32) (s : SM) (H : Heap) (locs : List Loc) (ls : Array Slot), XW g A ss (wM g s) H locs → lv_has ls 6 [(0, .ref (g.q 60)), (1, .long x1), (3, .int x3), (4, .int x4)] → f_M_readCode_118 x1 x3 x4 s = some z → W p l e (rmX 6 140) ss m args below meth c H locs 0 0 Q (F0 m 118 ls []) := by
  have ⟨⟨hx, hb, hml, hown, hts⟩, hK, hA, hN⟩ := C
  intro x1 x3 x4 s H locs ls hX hl h
  rw [f_M_readCode_118] at h
  refine lv_aload_n hx hb d_M_readCode_118 rfl (lv_at hl 0 rfl) ?_
  refine lv_iload_n hx hb d_M_readCode_119 rfl (lv_at hl 2 rfl) ?_
  obtain ⟨s1, es1, h⟩ := lt1_e h
  refine pm_limit C hX fl_M_155 d_M_readCode_120 (fun H locs hX => ?_)
  rw [← es1] at hX
  obtain rfl := so1 h
  exact hQ _ H locs ls hX d_M_readCode_123
set_option maxHeartbeats 4000000 in
set_option maxRecDepth 100000 in
theorem w_M_readCode_100 {z : SM} (C : Cx g A p m c b_M_readCode 6 ss args R_M) (hQ : ∀ (pc : Nat) (H : Heap) (locs : List Loc) (ls : Array Slot), XW g A ss (wM g z) H locs → decode b_M_readCode pc = .ok (.return_, 1) → W p l e (rmX 6 140) ss m args below meth c H locs 0 0 Q (F0 m pc ls [])) (k33 : Int64 → Int32 → Int32 → SM → Option SM) (hk33 : ∀ (x1 : Int64) (x3 : Int32) (x4 : Int32) (s : SM) (H : Heap) (locs : List Loc) (ls : Array Slot), XW g A ss (wM g s) H locs → lv_has ls 6 [(0, .ref (g.q 60)), (1, .long x1), (3, .int x3), (4, .int x4)] → k33 x1 x3 x4 s = some z → W p l e (rmX 6 140) ss m args below meth c H locs 0 0 Q (F0 m 33 ls [])) : ∀ (x1 : Int64) (x3 : Int32) (x4 : Int32) (x5 : Int32) (y1 : Int32) (s : SM) (H : Heap) (locs : List Loc) (ls : Array Slot), XW g A ss (wM g s) H locs → lv_has ls 6 [(0, .ref (g.q 60)), (1, .long x1), (3, .int x3), (4, .int x4), (5, .int x5)] → f_M_readCode_100 k33 x1 x3 x4 x5 y1 s = some z → W p l e (rmX 6 140) ss m args below meth c H locs 0 0 Q (F0 m 100 ls [.int y1, .ref (g.q 60)]) := by
  have ⟨⟨hx, hb, hml, hown, hts⟩, hK, hA, hN⟩ := C
  intro x1 x3 x4 x5 y1 s H locs ls hX hl h
  rw [f_M_readCode_100] at h
  refine lv_iconst (v := 1) hx hb d_M_readCode_100 (by decide) ?_
  obtain ⟨s1, hc101, h⟩ := bd1_e h
  refine x_vV (As := [.int y1, .int 1]) (rest := []) C hX (c_M_will l g y1 1 s s1 hc101) (cw_M_158 C.1.2.2.2.2 C.2.2.2 ⟨by decide, by decide⟩) (x_rc C hX vg_0 rfl) rfl hl.1 rfl (lv_room (Nat.le_of_ble_eq_true rfl)) d_M_readCode_101 ⟨Nat.le_refl _, Nat.le_refl _⟩ (fun H locs hX => ?_)
  refine lv_aload_n hx hb d_M_readCode_104 rfl (lv_at hl 0 rfl) ?_
  refine lv_iload hx hb d_M_readCode_105 (lv_at hl 3 rfl) ?_
  refine lv_iconst (v := 1) hx hb d_M_readCode_107 (by decide) ?_
  obtain ⟨v2, ev2, h⟩ := lt1_e h
  refine x_iadd hx hb d_M_readCode_108 ev2 ?_
  obtain ⟨s3, es3, h⟩ := lt1_e h
  refine pm_bodies C hX fl_M_185 d_M_readCode_109 (fun H locs hX => ?_)
  rw [← es3] at hX
  obtain ⟨v4, ev4, h⟩ := lt1_e h
  refine lv_iinc (v := v4) (lv' := [(4, .int v4), (0, .ref (g.q 60)), (1, .long x1), (3, .int x3), (5, .int x5)]) hx hb d_M_readCode_112 hl (k := 3) rfl (by rw [ev4]; rfl) (by decide) rfl (fun ls hl => ?_)
  refine lv_goto (tgt := 33) hx hb d_M_readCode_115 (by decide) ?_
  exact hk33 x1 x3 v4 s3 H locs ls hX (lv_sub hl [1, 2, 3, 0] rfl) h
set_option maxHeartbeats 4000000 in
set_option maxRecDepth 100000 in
theorem w_M_readCode_33 {z : SM} (C : Cx g A p m c b_M_readCode 6 ss args R_M) (hQ : ∀ (pc : Nat) (H : Heap) (locs : List Loc) (ls : Array Slot), XW g A ss (wM g z) H locs → decode b_M_readCode pc = .ok (.return_, 1) → W p l e (rmX 6 140) ss m args below meth c H locs 0 0 Q (F0 m pc ls [])) (n : Nat) : ∀ (x1 : Int64) (x3 : Int32) (x4 : Int32) (s : SM) (H : Heap) (locs : List Loc) (ls : Array Slot), XW g A ss (wM g s) H locs → lv_has ls 6 [(0, .ref (g.q 60)), (1, .long x1), (3, .int x3), (4, .int x4)] → f_M_readCode_33 n x1 x3 x4 s = some z → W p l e (rmX 6 140) ss m args below meth c H locs 0 0 Q (F0 m 33 ls []) := by
  have ⟨⟨hx, hb, hml, hown, hts⟩, hK, hA, hN⟩ := C
  induction n with
  | zero => intro x1 x3 x4 s H locs ls hX hl h; cases h
  | succ n ih =>
    intro x1 x3 x4 s H locs ls hX hl h
    rw [f_M_readCode_33] at h
    refine lv_iload hx hb d_M_readCode_33 (lv_at hl 3 rfl) ?_
    obtain ⟨v1, ev1, h⟩ := lt1_e h
    refine lv_i2l hx hb d_M_readCode_35 ev1.symm ?_
    refine lv_lload_n hx hb d_M_readCode_36 rfl (lv_at hl 1 rfl) ?_
    obtain ⟨v2, ev2, h⟩ := lt1_e h
    refine x_lcmp hx hb d_M_readCode_37 ev2 ?_
    refine lv_if_ge (tgt := 118) hx hb d_M_readCode_38 (by decide) (fun c38 => ?_) (fun c38 => ?_)
    · have h := ite_t c38 h
      exact w_M_readCode_118 C hQ x1 x3 x4 s H locs ls hX hl h
    · have h := ite_f c38 h
      refine lv_aload_n hx hb d_M_readCode_41 rfl (lv_at hl 0 rfl) ?_
      refine gm_wrong C hX fl_M_149 d_M_readCode_42 ?_
      refine lv_if_ne (tgt := 118) hx hb d_M_readCode_45 (by decide) (fun c45 => ?_) (fun c45 => ?_)
      · have h := ite_f c45 h
        exact w_M_readCode_118 C hQ x1 x3 x4 s H locs ls hX hl h
      · have h := ite_t c45 h
        refine lv_aload_n hx hb d_M_readCode_48 rfl (lv_at hl 0 rfl) ?_
        refine lv_iload_n hx hb d_M_readCode_49 rfl (lv_at hl 2 rfl) ?_
        obtain ⟨s3, es3, h⟩ := lt1_e h
        refine pm_limit C hX fl_M_155 d_M_readCode_50 (fun H locs hX => ?_)
        rw [← es3] at hX
        refine lv_aload_n hx hb d_M_readCode_53 rfl (lv_at hl 0 rfl) ?_
        obtain ⟨r5, s4, hc54, h⟩ := bd_e h
        refine x_vI (As := []) (rest := []) C hX (c_M_ahead l g s3 (r5, s4) hc54) (cw_M_179 C.1.2.2.2.2 C.2.2.2 ⟨by decide, by decide⟩) (x_rc C hX vg_0 rfl) rfl hl.1 rfl (lv_room (Nat.le_of_ble_eq_true rfl)) d_M_readCode_54 ⟨Nat.le_refl _, Nat.le_refl _⟩ (fun H locs hX => ?_)
        refine lv_istore (lv' := [(5, .int r5), (0, .ref (g.q 60)), (1, .long x1), (3, .int x3), (4, .int x4)]) hx hb d_M_readCode_57 hl (by decide) rfl (fun ls hl => ?_)
        refine lv_aload_n hx hb d_M_readCode_59 rfl (lv_at hl 1 rfl) ?_
        refine gm_wrong C hX fl_M_149 d_M_readCode_60 ?_
        refine lv_if_le (tgt := 67) hx hb d_M_readCode_63 (by decide) (fun c63 => ?_) (fun c63 => ?_)
        · have h := ite_t c63 h
          refine lv_aload_n hx hb d_M_readCode_67 rfl (lv_at hl 1 rfl) ?_
          refine lv_iload hx hb d_M_readCode_68 (lv_at hl 0 rfl) ?_
          obtain ⟨s6, es6, h⟩ := lt1_e h
          refine pm_limit C hX fl_M_155 d_M_readCode_70 (fun H locs hX => ?_)
          rw [← es6] at hX
          refine lv_aload_n hx hb d_M_readCode_73 rfl (lv_at hl 1 rfl) ?_
          refine lv_iload hx hb d_M_readCode_74 (lv_at hl 4 rfl) ?_
          obtain ⟨s7, hc76, h⟩ := bd1_e h
          refine x_vV (As := [.int x4]) (rest := []) C hX (c_M_readLocals l g x4 s6 s7 hc76) (cw_M_252 C.1.2.2.2.2 C.2.2.2 ⟨by decide, by decide⟩) (x_rc C hX vg_0 rfl) rfl hl.1 rfl (lv_room (Nat.le_of_ble_eq_true rfl)) d_M_readCode_76 ⟨Nat.le_refl _, Nat.le_refl _⟩ (fun H locs hX => ?_)
          refine lv_aload_n hx hb d_M_readCode_79 rfl (lv_at hl 1 rfl) ?_
          refine lv_iload hx hb d_M_readCode_80 (lv_at hl 4 rfl) ?_
          obtain ⟨s8, hc82, h⟩ := bd1_e h
          refine x_vV (As := [.int x4]) (rest := []) C hX (c_M_readBody l g x4 s7 s8 hc82) (cw_M_255 C.1.2.2.2.2 C.2.2.2 ⟨by decide, by decide⟩) (x_rc C hX vg_0 rfl) rfl hl.1 rfl (lv_room (Nat.le_of_ble_eq_true rfl)) d_M_readCode_82 ⟨Nat.le_refl _, Nat.le_refl _⟩ (fun H locs hX => ?_)
          refine lv_aload_n hx hb d_M_readCode_85 rfl (lv_at hl 1 rfl) ?_
          refine lv_aload_n hx hb d_M_readCode_86 rfl (lv_at hl 1 rfl) ?_
          refine gm_at C hX fl_M_152 d_M_readCode_87 ?_
          refine lv_iload hx hb d_M_readCode_90 (lv_at hl 0 rfl) ?_
          refine lv_icmp_ne (tgt := 99) hx hb d_M_readCode_92 (by decide) (fun c92 => ?_) (fun c92 => ?_)
          · have h := ite_f c92 h
            refine lv_iconst (v := 0) hx hb d_M_readCode_99 (by decide) ?_
            exact w_M_readCode_100 C hQ (f_M_readCode_33 n) ih x1 x3 x4 r5 0 s8 H locs ls hX (lv_sub hl [1, 2, 3, 4, 0] rfl) h
          · have h := ite_t c92 h
            refine lv_iconst (v := 1) hx hb d_M_readCode_95 (by decide) ?_
            refine lv_goto (tgt := 100) hx hb d_M_readCode_96 (by decide) ?_
            exact w_M_readCode_100 C hQ (f_M_readCode_33 n) ih x1 x3 x4 r5 1 s8 H locs ls hX (lv_sub hl [1, 2, 3, 4, 0] rfl) h
        · have h := ite_f c63 h
          obtain rfl := so1 h
          exact hQ _ H locs ls hX d_M_readCode_66
set_option maxHeartbeats 4000000 in
set_option maxRecDepth 100000 in
theorem w_M_readCode_21 {z : SM} (C : Cx g A p m c b_M_readCode 6 ss args R_M) (hQ : ∀ (pc : Nat) (H : Heap) (locs : List Loc) (ls : Array Slot), XW g A ss (wM g z) H locs → decode b_M_readCode pc = .ok (.return_, 1) → W p l e (rmX 6 140) ss m args below meth c H locs 0 0 Q (F0 m pc ls [])) : ∀ (x1 : Int64) (y1 : Int32) (s : SM) (H : Heap) (locs : List Loc) (ls : Array Slot), XW g A ss (wM g s) H locs → lv_has ls 6 [(0, .ref (g.q 60)), (1, .long x1)] → f_M_readCode_21 x1 y1 s = some z → W p l e (rmX 6 140) ss m args below meth c H locs 0 0 Q (F0 m 21 ls [.int y1, .ref (g.q 60)]) := by
  have ⟨⟨hx, hb, hml, hown, hts⟩, hK, hA, hN⟩ := C
  intro x1 y1 s H locs ls hX hl h
  rw [f_M_readCode_21] at h
  refine lv_iconst (v := 1) hx hb d_M_readCode_21 (by decide) ?_
  obtain ⟨s1, hc22, h⟩ := bd1_e h
  refine x_vV (As := [.int y1, .int 1]) (rest := []) C hX (c_M_will l g y1 1 s s1 hc22) (cw_M_158 C.1.2.2.2.2 C.2.2.2 ⟨by decide, by decide⟩) (x_rc C hX vg_0 rfl) rfl hl.1 rfl (lv_room (Nat.le_of_ble_eq_true rfl)) d_M_readCode_22 ⟨Nat.le_refl _, Nat.le_refl _⟩ (fun H locs hX => ?_)
  refine lv_aload_n hx hb d_M_readCode_25 rfl (lv_at hl 0 rfl) ?_
  refine gm_limit C hX fl_M_155 d_M_readCode_26 ?_
  refine lv_istore_n (lv' := [(3, .int (s1.1 0 4)), (0, .ref (g.q 60)), (1, .long x1)]) hx hb d_M_readCode_29 rfl hl (by decide) rfl (fun ls hl => ?_)
  refine lv_iconst (v := 0) hx hb d_M_readCode_30 (by decide) ?_
  refine lv_istore (lv' := [(4, .int 0), (3, .int (s1.1 0 4)), (0, .ref (g.q 60)), (1, .long x1)]) hx hb d_M_readCode_31 hl (by decide) rfl (fun ls hl => ?_)
  exact w_M_readCode_33 C hQ FU x1 (s1.1 0 4) 0 s1 H locs ls hX (lv_sub hl [2, 3, 1, 0] rfl) h
set_option maxHeartbeats 4000000 in
set_option maxRecDepth 100000 in
theorem w_M_readCode {z : SM} (C : Cx g A p m c b_M_readCode 6 ss args R_M) (hQ : ∀ (pc : Nat) (H : Heap) (locs : List Loc) (ls : Array Slot), XW g A ss (wM g z) H locs → decode b_M_readCode pc = .ok (.return_, 1) → W p l e (rmX 6 140) ss m args below meth c H locs 0 0 Q (F0 m pc ls [])) : ∀ (s : SM) (H : Heap) (locs : List Loc) (ls : Array Slot), XW g A ss (wM g s) H locs → lv_has ls 6 [(0, .ref (g.q 60))] → f_M_readCode s = some z → W p l e (rmX 6 140) ss m args below meth c H locs 0 0 Q (F0 m 0 ls []) := by
  have ⟨⟨hx, hb, hml, hown, hts⟩, hK, hA, hN⟩ := C
  intro s H locs ls hX hl h
  rw [f_M_readCode] at h
  refine lv_aload_n hx hb d_M_readCode_0 rfl (lv_at hl 0 rfl) ?_
  obtain ⟨r2, s1, hc1, h⟩ := bd_e h
  refine x_vL (As := []) (rest := []) C hX (c_M_unsigned l g s (r2, s1) hc1) (cw_M_168 C.1.2.2.2.2 C.2.2.2 ⟨by decide, by decide⟩) (x_rc C hX vg_0 rfl) rfl hl.1 rfl (lv_room (Nat.le_of_ble_eq_true rfl)) d_M_readCode_1 ⟨Nat.le_refl _, Nat.le_refl _⟩ (fun H locs hX => ?_)
  refine lv_lstore_n (lv' := [(1, .long r2), (0, .ref (g.q 60))]) hx hb d_M_readCode_4 rfl hl (by decide) rfl (fun ls hl => ?_)
  refine lv_aload_n hx hb d_M_readCode_5 rfl (lv_at hl 1 rfl) ?_
  refine lv_lload_n hx hb d_M_readCode_6 rfl (lv_at hl 0 rfl) ?_
  refine lv_aload_n hx hb d_M_readCode_7 rfl (lv_at hl 1 rfl) ?_
  refine gm_functions C hX fl_M_188 d_M_readCode_8 ?_
  obtain ⟨v3, ev3, h⟩ := lt1_e h
  refine lv_i2l hx hb d_M_readCode_11 ev3.symm ?_
  obtain ⟨v4, ev4, h⟩ := lt1_e h
  refine x_lcmp hx hb d_M_readCode_12 ev4 ?_
  refine lv_if_ne (tgt := 20) hx hb d_M_readCode_13 (by decide) (fun c13 => ?_) (fun c13 => ?_)
  · have h := ite_f c13 h
    refine lv_iconst (v := 0) hx hb d_M_readCode_20 (by decide) ?_
    exact w_M_readCode_21 C hQ r2 0 s1 H locs ls hX (lv_sub hl [1, 0] rfl) h
  · have h := ite_t c13 h
    refine lv_iconst (v := 1) hx hb d_M_readCode_16 (by decide) ?_
    refine lv_goto (tgt := 21) hx hb d_M_readCode_17 (by decide) ?_
    exact w_M_readCode_21 C hQ r2 1 s1 H locs ls hX (lv_sub hl [1, 0] rfl) h
end WALK
theorem c_M_readCode (l : Launch) (g : GX) (s : SM) (z : SM) (h : f_M_readCode s = some z) : MV l g y_M_readCode b_M_readCode 6 none 6 140 [.ref (g.q 60)] (wM g s) (wM g z) :=
  MV.mk (own := R_M) (by decide) rfl (Nat.le_of_ble_eq_true rfl) fun p e ss m below meth c A Q C hQ ls hX hl => w_M_readCode C hQ s _ _ ls hX hl h
-- M_readData
def f_M_readData_86 (x1 : Int32) (x2 : Int32) (s : SM) : Option SM :=
    lt1 (stI s 0 13 x1) fun s1 =>
    some s1
def f_M_readData_8 : Nat → Int32 → Int32 → SM → Option SM
  | 0, _, _, _ => none
  | n + 1, x1, x2, s =>
    if x1 ≤ x2 then
      f_M_readData_86 x1 x2 s
    else
      if s.1 0 5 = 0 then
        bd (f_M_unsigned s) fun r2 s1 =>
        gi x2 4 <|
        lt1 (stL s1 10 (Int32.toNatClampNeg x2) r2) fun s3 =>
        bd (f_M_constant s3) fun r5 s4 =>
        gi x2 4 <|
        lt1 (stI s4 11 (Int32.toNatClampNeg x2) r5) fun s6 =>
        bd (f_M_ahead s6) fun r8 s7 =>
        if s7.1 0 5 ≤ 0 then
          gi x2 4 <|
          lt1 (stI s7 12 (Int32.toNatClampNeg x2) (s7.1 0 3)) fun s9 =>
          lt1 (r8 - s9.1 0 3) fun v10 =>
          gi x2 4 <|
          lt1 (stI s9 13 (Int32.toNatClampNeg x2) v10) fun s11 =>
          lt1 (stI s11 0 3 r8) fun s12 =>
          lt1 (x2 + (1)) fun v13 =>
          f_M_readData_8 n x1 v13 s12
        else
          some s7
      else
        f_M_readData_86 x1 x2 s
def f_M_readData (s : SM) : Option SM :=
    bd (f_M_count 4 s) fun r2 s1 =>
    f_M_readData_8 FU r2 0 s1
section WALK
variable {p : Program} {l : Launch} {e : Env} {ss : State} {m : MethodId} {args : Array Value} {below : List Frame} {meth : Method} {c : Code} {Q : State → Prop} {g : GX} {A : Nat → Prop}
set_option maxHeartbeats 4000000 in
set_option maxRecDepth 100000 in
theorem w_M_readData_86 {z : SM} (C : Cx g A p m c b_M_readData 4 ss args R_M) (hQ : ∀ (pc : Nat) (H : Heap) (locs : List Loc) (ls : Array Slot), XW g A ss (wM g z) H locs → decode b_M_readData pc = .ok (.return_, 1) → W p l e (rmX 4 90) ss m args below meth c H locs 0 0 Q (F0 m pc ls [])) : ∀ (x1 : Int32) (x2 : Int32) (s : SM) (H : Heap) (locs : List Loc) (ls : Array Slot), XW g A ss (wM g s) H locs → lv_has ls 4 [(0, .ref (g.q 60)), (1, .int x1), (2, .int x2)] → f_M_readData_86 x1 x2 s = some z → W p l e (rmX 4 90) ss m args below meth c H locs 0 0 Q (F0 m 86 ls []) := by
  have ⟨⟨hx, hb, hml, hown, hts⟩, hK, hA, hN⟩ := C
  intro x1 x2 s H locs ls hX hl h
  rw [f_M_readData_86] at h
  refine lv_aload_n hx hb d_M_readData_86 rfl (lv_at hl 0 rfl) ?_
  refine lv_iload_n hx hb d_M_readData_87 rfl (lv_at hl 1 rfl) ?_
  obtain ⟨s1, es1, h⟩ := lt1_e h
  refine pm_segments C hX fl_M_249 d_M_readData_88 (fun H locs hX => ?_)
  rw [← es1] at hX
  obtain rfl := so1 h
  exact hQ _ H locs ls hX d_M_readData_91
set_option maxHeartbeats 4000000 in
set_option maxRecDepth 100000 in
theorem w_M_readData_8 {z : SM} (C : Cx g A p m c b_M_readData 4 ss args R_M) (hQ : ∀ (pc : Nat) (H : Heap) (locs : List Loc) (ls : Array Slot), XW g A ss (wM g z) H locs → decode b_M_readData pc = .ok (.return_, 1) → W p l e (rmX 4 90) ss m args below meth c H locs 0 0 Q (F0 m pc ls [])) (n : Nat) : ∀ (x1 : Int32) (x2 : Int32) (s : SM) (H : Heap) (locs : List Loc) (ls : Array Slot), XW g A ss (wM g s) H locs → lv_has ls 4 [(0, .ref (g.q 60)), (1, .int x1), (2, .int x2)] → f_M_readData_8 n x1 x2 s = some z → W p l e (rmX 4 90) ss m args below meth c H locs 0 0 Q (F0 m 8 ls []) := by
  have ⟨⟨hx, hb, hml, hown, hts⟩, hK, hA, hN⟩ := C
  induction n with
  | zero => intro x1 x2 s H locs ls hX hl h; cases h
  | succ n ih =>
    intro x1 x2 s H locs ls hX hl h
    rw [f_M_readData_8] at h
    refine lv_iload_n hx hb d_M_readData_8 rfl (lv_at hl 2 rfl) ?_
    refine lv_iload_n hx hb d_M_readData_9 rfl (lv_at hl 1 rfl) ?_
    refine lv_icmp_ge (tgt := 86) hx hb d_M_readData_10 (by decide) (fun c10 => ?_) (fun c10 => ?_)
    · have h := ite_t c10 h
      exact w_M_readData_86 C hQ x1 x2 s H locs ls hX hl h
    · have h := ite_f c10 h
      refine lv_aload_n hx hb d_M_readData_13 rfl (lv_at hl 0 rfl) ?_
      refine gm_wrong C hX fl_M_149 d_M_readData_14 ?_
      refine lv_if_ne (tgt := 86) hx hb d_M_readData_17 (by decide) (fun c17 => ?_) (fun c17 => ?_)
      · have h := ite_f c17 h
        exact w_M_readData_86 C hQ x1 x2 s H locs ls hX hl h
      · have h := ite_t c17 h
        refine lv_aload_n hx hb d_M_readData_20 rfl (lv_at hl 0 rfl) ?_
        refine gm_segmentMemory C hX fl_M_39 d_M_readData_21 ?_
        refine lv_iload_n hx hb d_M_readData_24 rfl (lv_at hl 2 rfl) ?_
        refine lv_aload_n hx hb d_M_readData_25 rfl (lv_at hl 0 rfl) ?_
        obtain ⟨r2, s1, hc26, h⟩ := bd_e h
        refine x_vL (As := []) (rest := [.int x2, .ref (g.q 70)]) C hX (c_M_unsigned l g s (r2, s1) hc26) (cw_M_168 C.1.2.2.2.2 C.2.2.2 ⟨by decide, by decide⟩) (x_rc C hX vg_0 rfl) rfl hl.1 rfl (lv_room (Nat.le_of_ble_eq_true rfl)) d_M_readData_26 ⟨Nat.le_refl _, Nat.le_refl _⟩ (fun H locs hX => ?_)
        obtain ⟨hz29, h⟩ := gi_e h
        obtain ⟨s3, es3, h⟩ := lt1_e h
        refine asm_10 C hX hz29 d_M_readData_29 (fun H locs hX => ?_)
        rw [← es3] at hX
        refine lv_aload_n hx hb d_M_readData_30 rfl (lv_at hl 0 rfl) ?_
        refine gm_segmentAt C hX fl_M_42 d_M_readData_31 ?_
        refine lv_iload_n hx hb d_M_readData_34 rfl (lv_at hl 2 rfl) ?_
        refine lv_aload_n hx hb d_M_readData_35 rfl (lv_at hl 0 rfl) ?_
        obtain ⟨r5, s4, hc36, h⟩ := bd_e h
        refine x_vI (As := []) (rest := [.int x2, .ref (g.q 71)]) C hX (c_M_constant l g s3 (r5, s4) hc36) (cw_M_240 C.1.2.2.2.2 C.2.2.2 ⟨by decide, by decide⟩) (x_rc C hX vg_0 rfl) rfl hl.1 rfl (lv_room (Nat.le_of_ble_eq_true rfl)) d_M_readData_36 ⟨Nat.le_refl _, Nat.le_refl _⟩ (fun H locs hX => ?_)
        obtain ⟨hz39, h⟩ := gi_e h
        obtain ⟨s6, es6, h⟩ := lt1_e h
        refine asm_11 C hX hz39 d_M_readData_39 (fun H locs hX => ?_)
        rw [← es6] at hX
        refine lv_aload_n hx hb d_M_readData_40 rfl (lv_at hl 0 rfl) ?_
        obtain ⟨r8, s7, hc41, h⟩ := bd_e h
        refine x_vI (As := []) (rest := []) C hX (c_M_ahead l g s6 (r8, s7) hc41) (cw_M_179 C.1.2.2.2.2 C.2.2.2 ⟨by decide, by decide⟩) (x_rc C hX vg_0 rfl) rfl hl.1 rfl (lv_room (Nat.le_of_ble_eq_true rfl)) d_M_readData_41 ⟨Nat.le_refl _, Nat.le_refl _⟩ (fun H locs hX => ?_)
        refine lv_istore_n (lv' := [(3, .int r8), (0, .ref (g.q 60)), (1, .int x1), (2, .int x2)]) hx hb d_M_readData_44 rfl hl (by decide) rfl (fun ls hl => ?_)
        refine lv_aload_n hx hb d_M_readData_45 rfl (lv_at hl 1 rfl) ?_
        refine gm_wrong C hX fl_M_149 d_M_readData_46 ?_
        refine lv_if_le (tgt := 53) hx hb d_M_readData_49 (by decide) (fun c49 => ?_) (fun c49 => ?_)
        · have h := ite_t c49 h
          refine lv_aload_n hx hb d_M_readData_53 rfl (lv_at hl 1 rfl) ?_
          refine gm_segmentFrom C hX fl_M_45 d_M_readData_54 ?_
          refine lv_iload_n hx hb d_M_readData_57 rfl (lv_at hl 3 rfl) ?_
          refine lv_aload_n hx hb d_M_readData_58 rfl (lv_at hl 1 rfl) ?_
          refine gm_at C hX fl_M_152 d_M_readData_59 ?_
          obtain ⟨hz62, h⟩ := gi_e h
          obtain ⟨s9, es9, h⟩ := lt1_e h
          refine asm_12 C hX hz62 d_M_readData_62 (fun H locs hX => ?_)
          rw [← es9] at hX
          refine lv_aload_n hx hb d_M_readData_63 rfl (lv_at hl 1 rfl) ?_
          refine gm_segmentLength C hX fl_M_48 d_M_readData_64 ?_
          refine lv_iload_n hx hb d_M_readData_67 rfl (lv_at hl 3 rfl) ?_
          refine lv_iload_n hx hb d_M_readData_68 rfl (lv_at hl 0 rfl) ?_
          refine lv_aload_n hx hb d_M_readData_69 rfl (lv_at hl 1 rfl) ?_
          refine gm_at C hX fl_M_152 d_M_readData_70 ?_
          obtain ⟨v10, ev10, h⟩ := lt1_e h
          refine x_isub hx hb d_M_readData_73 ev10 ?_
          obtain ⟨hz74, h⟩ := gi_e h
          obtain ⟨s11, es11, h⟩ := lt1_e h
          refine asm_13 C hX hz74 d_M_readData_74 (fun H locs hX => ?_)
          rw [← es11] at hX
          refine lv_aload_n hx hb d_M_readData_75 rfl (lv_at hl 1 rfl) ?_
          refine lv_iload_n hx hb d_M_readData_76 rfl (lv_at hl 0 rfl) ?_
          obtain ⟨s12, es12, h⟩ := lt1_e h
          refine pm_at C hX fl_M_152 d_M_readData_77 (fun H locs hX => ?_)
          rw [← es12] at hX
          obtain ⟨v13, ev13, h⟩ := lt1_e h
          refine lv_iinc (v := v13) (lv' := [(2, .int v13), (3, .int r8), (0, .ref (g.q 60)), (1, .int x1)]) hx hb d_M_readData_80 hl (k := 3) rfl (by rw [ev13]; rfl) (by decide) rfl (fun ls hl => ?_)
          refine lv_goto (tgt := 8) hx hb d_M_readData_83 (by decide) ?_
          exact ih x1 v13 s12 H locs ls hX (lv_sub hl [2, 3, 0] rfl) h
        · have h := ite_f c49 h
          obtain rfl := so1 h
          exact hQ _ H locs ls hX d_M_readData_52
set_option maxHeartbeats 4000000 in
set_option maxRecDepth 100000 in
theorem w_M_readData {z : SM} (C : Cx g A p m c b_M_readData 4 ss args R_M) (hQ : ∀ (pc : Nat) (H : Heap) (locs : List Loc) (ls : Array Slot), XW g A ss (wM g z) H locs → decode b_M_readData pc = .ok (.return_, 1) → W p l e (rmX 4 90) ss m args below meth c H locs 0 0 Q (F0 m pc ls [])) : ∀ (s : SM) (H : Heap) (locs : List Loc) (ls : Array Slot), XW g A ss (wM g s) H locs → lv_has ls 4 [(0, .ref (g.q 60))] → f_M_readData s = some z → W p l e (rmX 4 90) ss m args below meth c H locs 0 0 Q (F0 m 0 ls []) := by
  have ⟨⟨hx, hb, hml, hown, hts⟩, hK, hA, hN⟩ := C
  intro s H locs ls hX hl h
  rw [f_M_readData] at h
  refine lv_aload_n hx hb d_M_readData_0 rfl (lv_at hl 0 rfl) ?_
  refine lv_iconst (v := 4) hx hb d_M_readData_1 (by decide) ?_
  obtain ⟨r2, s1, hc2, h⟩ := bd_e h
  refine x_vI (As := [.int 4]) (rest := []) C hX (c_M_count l g 4 s (r2, s1) hc2) (cw_M_212 C.1.2.2.2.2 C.2.2.2 ⟨by decide, by decide⟩) (x_rc C hX vg_0 rfl) rfl hl.1 rfl (lv_room (Nat.le_of_ble_eq_true rfl)) d_M_readData_2 ⟨Nat.le_refl _, Nat.le_refl _⟩ (fun H locs hX => ?_)
  refine lv_istore_n (lv' := [(1, .int r2), (0, .ref (g.q 60))]) hx hb d_M_readData_5 rfl hl (by decide) rfl (fun ls hl => ?_)
  refine lv_iconst (v := 0) hx hb d_M_readData_6 (by decide) ?_
  refine lv_istore_n (lv' := [(2, .int 0), (1, .int r2), (0, .ref (g.q 60))]) hx hb d_M_readData_7 rfl hl (by decide) rfl (fun ls hl => ?_)
  exact w_M_readData_8 C hQ FU r2 0 s1 H locs ls hX (lv_sub hl [2, 1, 0] rfl) h
end WALK
theorem c_M_readData (l : Launch) (g : GX) (s : SM) (z : SM) (h : f_M_readData s = some z) : MV l g y_M_readData b_M_readData 4 none 4 90 [.ref (g.q 60)] (wM g s) (wM g z) :=
  MV.mk (own := R_M) (by decide) rfl (Nat.le_of_ble_eq_true rfl) fun p e ss m below meth c A Q C hQ ls hX hl => w_M_readData C hQ s _ _ ls hX hl h
-- M_readSection
def f_M_readSection_79 (x1 : Int32) (s : SM) : Option SM :=
    some s
def f_M_readSection (x1 : Int32) (s : SM) : Option SM :=
    if x1 = 1 then
      bd1 (f_M_readTypes s) fun s7 =>
      f_M_readSection_79 x1 s7
    else
      if x1 = 3 then
        bd1 (f_M_readFunctions s) fun s6 =>
        f_M_readSection_79 x1 s6
      else
        if x1 = 5 then
          bd1 (f_M_readMemory s) fun s5 =>
          f_M_readSection_79 x1 s5
        else
          if x1 = 6 then
            bd1 (f_M_readGlobals s) fun s4 =>
            f_M_readSection_79 x1 s4
          else
            if x1 = 7 then
              bd1 (f_M_readExports s) fun s3 =>
              f_M_readSection_79 x1 s3
            else
              if x1 = 10 then
                bd1 (f_M_readCode s) fun s2 =>
                f_M_readSection_79 x1 s2
              else
                bd1 (f_M_readData s) fun s1 =>
                f_M_readSection_79 x1 s1
section WALK
variable {p : Program} {l : Launch} {e : Env} {ss : State} {m : MethodId} {args : Array Value} {below : List Frame} {meth : Method} {c : Code} {Q : State → Prop} {g : GX} {A : Nat → Prop}
set_option maxHeartbeats 4000000 in
set_option maxRecDepth 100000 in
theorem w_M_readSection_79 {z : SM} (C : Cx g A p m c b_M_readSection 2 ss args R_M) (hQ : ∀ (pc : Nat) (H : Heap) (locs : List Loc) (ls : Array Slot), XW g A ss (wM g z) H locs → decode b_M_readSection pc = .ok (.return_, 1) → W p l e (rmX 7 165) ss m args below meth c H locs 0 0 Q (F0 m pc ls [])) : ∀ (x1 : Int32) (s : SM) (H : Heap) (locs : List Loc) (ls : Array Slot), XW g A ss (wM g s) H locs → lv_has ls 2 [(0, .ref (g.q 60)), (1, .int x1)] → f_M_readSection_79 x1 s = some z → W p l e (rmX 7 165) ss m args below meth c H locs 0 0 Q (F0 m 79 ls []) := by
  have ⟨⟨hx, hb, hml, hown, hts⟩, hK, hA, hN⟩ := C
  intro x1 s H locs ls hX hl h
  rw [f_M_readSection_79] at h
  obtain rfl := so1 h
  exact hQ _ H locs ls hX d_M_readSection_79
set_option maxHeartbeats 4000000 in
set_option maxRecDepth 100000 in
theorem w_M_readSection {z : SM} (C : Cx g A p m c b_M_readSection 2 ss args R_M) (hQ : ∀ (pc : Nat) (H : Heap) (locs : List Loc) (ls : Array Slot), XW g A ss (wM g z) H locs → decode b_M_readSection pc = .ok (.return_, 1) → W p l e (rmX 7 165) ss m args below meth c H locs 0 0 Q (F0 m pc ls [])) : ∀ (x1 : Int32) (s : SM) (H : Heap) (locs : List Loc) (ls : Array Slot), XW g A ss (wM g s) H locs → lv_has ls 2 [(0, .ref (g.q 60)), (1, .int x1)] → f_M_readSection x1 s = some z → W p l e (rmX 7 165) ss m args below meth c H locs 0 0 Q (F0 m 0 ls []) := by
  have ⟨⟨hx, hb, hml, hown, hts⟩, hK, hA, hN⟩ := C
  intro x1 s H locs ls hX hl h
  rw [f_M_readSection] at h
  refine lv_iload_n hx hb d_M_readSection_0 rfl (lv_at hl 1 rfl) ?_
  refine lv_iconst (v := 1) hx hb d_M_readSection_1 (by decide) ?_
  refine lv_icmp_ne (tgt := 12) hx hb d_M_readSection_2 (by decide) (fun c2 => ?_) (fun c2 => ?_)
  · have h := ite_f c2 h
    refine lv_iload_n hx hb d_M_readSection_12 rfl (lv_at hl 1 rfl) ?_
    refine lv_iconst (v := 3) hx hb d_M_readSection_13 (by decide) ?_
    refine lv_icmp_ne (tgt := 24) hx hb d_M_readSection_14 (by decide) (fun c14 => ?_) (fun c14 => ?_)
    · have h := ite_f c14 h
      refine lv_iload_n hx hb d_M_readSection_24 rfl (lv_at hl 1 rfl) ?_
      refine lv_iconst (v := 5) hx hb d_M_readSection_25 (by decide) ?_
      refine lv_icmp_ne (tgt := 36) hx hb d_M_readSection_26 (by decide) (fun c26 => ?_) (fun c26 => ?_)
      · have h := ite_f c26 h
        refine lv_iload_n hx hb d_M_readSection_36 rfl (lv_at hl 1 rfl) ?_
        refine lv_bipush (v := 6) hx hb d_M_readSection_37 (by decide) ?_
        refine lv_icmp_ne (tgt := 49) hx hb d_M_readSection_39 (by decide) (fun c39 => ?_) (fun c39 => ?_)
        · have h := ite_f c39 h
          refine lv_iload_n hx hb d_M_readSection_49 rfl (lv_at hl 1 rfl) ?_
          refine lv_bipush (v := 7) hx hb d_M_readSection_50 (by decide) ?_
          refine lv_icmp_ne (tgt := 62) hx hb d_M_readSection_52 (by decide) (fun c52 => ?_) (fun c52 => ?_)
          · have h := ite_f c52 h
            refine lv_iload_n hx hb d_M_readSection_62 rfl (lv_at hl 1 rfl) ?_
            refine lv_bipush (v := 10) hx hb d_M_readSection_63 (by decide) ?_
            refine lv_icmp_ne (tgt := 75) hx hb d_M_readSection_65 (by decide) (fun c65 => ?_) (fun c65 => ?_)
            · have h := ite_f c65 h
              refine lv_aload_n hx hb d_M_readSection_75 rfl (lv_at hl 0 rfl) ?_
              obtain ⟨s1, hc76, h⟩ := bd1_e h
              refine x_vV (As := []) (rest := []) C hX (c_M_readData l g s s1 hc76) (cw_M_209 C.1.2.2.2.2 C.2.2.2 ⟨by decide, by decide⟩) (x_rc C hX vg_0 rfl) rfl hl.1 rfl (lv_room (Nat.le_of_ble_eq_true rfl)) d_M_readSection_76 ⟨Nat.le_refl _, Nat.le_refl _⟩ (fun H locs hX => ?_)
              exact w_M_readSection_79 C hQ x1 s1 H locs ls hX hl h
            · have h := ite_t c65 h
              refine lv_aload_n hx hb d_M_readSection_68 rfl (lv_at hl 0 rfl) ?_
              obtain ⟨s2, hc69, h⟩ := bd1_e h
              refine x_vV (As := []) (rest := []) C hX (c_M_readCode l g s s2 hc69) (cw_M_206 C.1.2.2.2.2 C.2.2.2 ⟨by decide, by decide⟩) (x_rc C hX vg_0 rfl) rfl hl.1 rfl (lv_room (Nat.le_of_ble_eq_true rfl)) d_M_readSection_69 ⟨Nat.le_refl _, Nat.le_refl _⟩ (fun H locs hX => ?_)
              refine lv_goto (tgt := 79) hx hb d_M_readSection_72 (by decide) ?_
              exact w_M_readSection_79 C hQ x1 s2 H locs ls hX hl h
          · have h := ite_t c52 h
            refine lv_aload_n hx hb d_M_readSection_55 rfl (lv_at hl 0 rfl) ?_
            obtain ⟨s3, hc56, h⟩ := bd1_e h
            refine x_vV (As := []) (rest := []) C hX (c_M_readExports l g s s3 hc56) (cw_M_203 C.1.2.2.2.2 C.2.2.2 ⟨by decide, by decide⟩) (x_rc C hX vg_0 rfl) rfl hl.1 rfl (lv_room (Nat.le_of_ble_eq_true rfl)) d_M_readSection_56 ⟨Nat.le_refl _, Nat.le_refl _⟩ (fun H locs hX => ?_)
            refine lv_goto (tgt := 79) hx hb d_M_readSection_59 (by decide) ?_
            exact w_M_readSection_79 C hQ x1 s3 H locs ls hX hl h
        · have h := ite_t c39 h
          refine lv_aload_n hx hb d_M_readSection_42 rfl (lv_at hl 0 rfl) ?_
          obtain ⟨s4, hc43, h⟩ := bd1_e h
          refine x_vV (As := []) (rest := []) C hX (c_M_readGlobals l g s s4 hc43) (cw_M_200 C.1.2.2.2.2 C.2.2.2 ⟨by decide, by decide⟩) (x_rc C hX vg_0 rfl) rfl hl.1 rfl (lv_room (Nat.le_of_ble_eq_true rfl)) d_M_readSection_43 ⟨Nat.le_refl _, Nat.le_refl _⟩ (fun H locs hX => ?_)
          refine lv_goto (tgt := 79) hx hb d_M_readSection_46 (by decide) ?_
          exact w_M_readSection_79 C hQ x1 s4 H locs ls hX hl h
      · have h := ite_t c26 h
        refine lv_aload_n hx hb d_M_readSection_29 rfl (lv_at hl 0 rfl) ?_
        obtain ⟨s5, hc30, h⟩ := bd1_e h
        refine x_vV (As := []) (rest := []) C hX (c_M_readMemory l g s s5 hc30) (cw_M_197 C.1.2.2.2.2 C.2.2.2 ⟨by decide, by decide⟩) (x_rc C hX vg_0 rfl) rfl hl.1 rfl (lv_room (Nat.le_of_ble_eq_true rfl)) d_M_readSection_30 ⟨Nat.le_refl _, Nat.le_refl _⟩ (fun H locs hX => ?_)
        refine lv_goto (tgt := 79) hx hb d_M_readSection_33 (by decide) ?_
        exact w_M_readSection_79 C hQ x1 s5 H locs ls hX hl h
    · have h := ite_t c14 h
      refine lv_aload_n hx hb d_M_readSection_17 rfl (lv_at hl 0 rfl) ?_
      obtain ⟨s6, hc18, h⟩ := bd1_e h
      refine x_vV (As := []) (rest := []) C hX (c_M_readFunctions l g s s6 hc18) (cw_M_194 C.1.2.2.2.2 C.2.2.2 ⟨by decide, by decide⟩) (x_rc C hX vg_0 rfl) rfl hl.1 rfl (lv_room (Nat.le_of_ble_eq_true rfl)) d_M_readSection_18 ⟨Nat.le_refl _, Nat.le_refl _⟩ (fun H locs hX => ?_)
      refine lv_goto (tgt := 79) hx hb d_M_readSection_21 (by decide) ?_
      exact w_M_readSection_79 C hQ x1 s6 H locs ls hX hl h
  · have h := ite_t c2 h
    refine lv_aload_n hx hb d_M_readSection_5 rfl (lv_at hl 0 rfl) ?_
    obtain ⟨s7, hc6, h⟩ := bd1_e h
    refine x_vV (As := []) (rest := []) C hX (c_M_readTypes l g s s7 hc6) (cw_M_191 C.1.2.2.2.2 C.2.2.2 ⟨by decide, by decide⟩) (x_rc C hX vg_0 rfl) rfl hl.1 rfl (lv_room (Nat.le_of_ble_eq_true rfl)) d_M_readSection_6 ⟨Nat.le_refl _, Nat.le_refl _⟩ (fun H locs hX => ?_)
    refine lv_goto (tgt := 79) hx hb d_M_readSection_9 (by decide) ?_
    exact w_M_readSection_79 C hQ x1 s7 H locs ls hX hl h
end WALK
theorem c_M_readSection (l : Launch) (g : GX) (x1 : Int32) (s : SM) (z : SM) (h : f_M_readSection x1 s = some z) : MV l g y_M_readSection b_M_readSection 2 none 7 165 [.ref (g.q 60), .int x1] (wM g s) (wM g z) :=
  MV.mk (own := R_M) (by decide) rfl (Nat.le_of_ble_eq_true rfl) fun p e ss m below meth c A Q C hQ ls hX hl => w_M_readSection C hQ x1 s _ _ ls hX hl h
-- M_readModule
def f_M_readModule_225 (x1 : Int32) (y1 : Int32) (s : SM) : Option SM :=
    bd1 (f_M_will y1 1 s) fun s1 =>
    some s1
def f_M_readModule_208 (x1 : Int32) (s : SM) : Option SM :=
    if s.1 0 8 = s.1 0 7 then
      f_M_readModule_225 x1 1 s
    else
      f_M_readModule_225 x1 0 s
def f_M_readModule_201 (k73 : Int32 → SM → Option SM) (x1 : Int32) (x2 : Int32) (x3 : Int32) (y1 : Int32) (s : SM) : Option SM :=
    bd1 (f_M_will y1 1 s) fun s1 =>
    k73 x1 s1
def f_M_readModule_158 (k73 : Int32 → SM → Option SM) (x1 : Int32) (x2 : Int32) (y1 : Int32) (s : SM) : Option SM :=
    bd1 (f_M_will y1 2 s) fun s1 =>
    bd (f_M_ahead s1) fun r3 s2 =>
    if s2.1 0 5 ≤ 0 then
      lt1 (stI s2 0 4 r3) fun s4 =>
      bd1 (f_M_readSection x2 s4) fun s5 =>
      if s5.1 0 3 = r3 then
        f_M_readModule_201 k73 x2 x2 r3 1 s5
      else
        f_M_readModule_201 k73 x2 x2 r3 0 s5
    else
      some s2
def f_M_readModule_153 (k73 : Int32 → SM → Option SM) (x1 : Int32) (x2 : Int32) (s : SM) : Option SM :=
    f_M_readModule_158 k73 x1 x2 1 s
def f_M_readModule_147 (k73 : Int32 → SM → Option SM) (x1 : Int32) (x2 : Int32) (s : SM) : Option SM :=
    if x2 ≤ 9 then
      f_M_readModule_158 k73 x1 x2 0 s
    else
      f_M_readModule_153 k73 x1 x2 s
def f_M_readModule_121 (k73 : Int32 → SM → Option SM) (x1 : Int32) (x2 : Int32) (y1 : Int32) (s : SM) : Option SM :=
    bd1 (f_M_will y1 1 s) fun s1 =>
    if x2 = 1 then
      f_M_readModule_153 k73 x1 x2 s1
    else
      if x2 = 3 then
        f_M_readModule_153 k73 x1 x2 s1
      else
        if x2 ≤ 4 then
          f_M_readModule_147 k73 x1 x2 s1
        else
          if x2 < 8 then
            f_M_readModule_153 k73 x1 x2 s1
          else
            f_M_readModule_147 k73 x1 x2 s1
def f_M_readModule_120 (k73 : Int32 → SM → Option SM) (x1 : Int32) (x2 : Int32) (s : SM) : Option SM :=
    f_M_readModule_121 k73 x1 x2 0 s
def f_M_readModule_73 : Nat → Int32 → SM → Option SM
  | 0, _, _ => none
  | n + 1, x1, s =>
    if s.1 0 1 ≤ s.1 0 3 then
      f_M_readModule_208 x1 s
    else
      if s.1 0 5 = 0 then
        lt1 (stI s 0 4 (s.1 0 1)) fun s1 =>
        bd (f_M_next s1) fun r3 s2 =>
        if 12 ≤ r3 then
          f_M_readModule_120 (f_M_readModule_73 n) x1 r3 s2
        else
          if r3 ≤ x1 then
            f_M_readModule_120 (f_M_readModule_73 n) x1 r3 s2
          else
            f_M_readModule_121 (f_M_readModule_73 n) x1 r3 1 s2
      else
        f_M_readModule_208 x1 s
def f_M_readModule_62 (k15 : Int32 → SM → Option SM) (x1 : Int32) (y1 : Int32) (s : SM) : Option SM :=
    bd1 (f_M_exactly y1 s) fun s1 =>
    lt1 (x1 + (1)) fun v2 =>
    k15 v2 s1
def f_M_readModule_15 : Nat → Int32 → SM → Option SM
  | 0, _, _ => none
  | n + 1, x1, s =>
    if 8 ≤ x1 then
      f_M_readModule_73 FU ((-1)) s
    else
      if x1 = 1 then
        f_M_readModule_62 (f_M_readModule_15 n) x1 97 s
      else
        if x1 = 2 then
          f_M_readModule_62 (f_M_readModule_15 n) x1 115 s
        else
          if x1 = 3 then
            f_M_readModule_62 (f_M_readModule_15 n) x1 109 s
          else
            if x1 = 4 then
              f_M_readModule_62 (f_M_readModule_15 n) x1 1 s
            else
              f_M_readModule_62 (f_M_readModule_15 n) x1 0 s
def f_M_readModule (s : SM) : Option SM :=
    lt1 (stI s 0 4 (s.1 0 1)) fun s1 =>
    lt1 (stI s1 0 3 0) fun s2 =>
    f_M_readModule_15 FU 0 s2
section WALK
variable {p : Program} {l : Launch} {e : Env} {ss : State} {m : MethodId} {args : Array Value} {below : List Frame} {meth : Method} {c : Code} {Q : State → Prop} {g : GX} {A : Nat → Prop}
set_option maxHeartbeats 4000000 in
set_option maxRecDepth 100000 in
theorem w_M_readModule_225 {z : SM} (C : Cx g A p m c b_M_readModule 4 ss args R_M) (hQ : ∀ (pc : Nat) (H : Heap) (locs : List Loc) (ls : Array Slot), XW g A ss (wM g z) H locs → decode b_M_readModule pc = .ok (.return_, 1) → W p l e (rmX 8 186) ss m args below meth c H locs 0 0 Q (F0 m pc ls [])) : ∀ (x1 : Int32) (y1 : Int32) (s : SM) (H : Heap) (locs : List Loc) (ls : Array Slot), XW g A ss (wM g s) H locs → lv_has ls 4 [(0, .ref (g.q 60)), (1, .int x1)] → f_M_readModule_225 x1 y1 s = some z → W p l e (rmX 8 186) ss m args below meth c H locs 0 0 Q (F0 m 225 ls [.int y1, .ref (g.q 60)]) := by
  have ⟨⟨hx, hb, hml, hown, hts⟩, hK, hA, hN⟩ := C
  intro x1 y1 s H locs ls hX hl h
  rw [f_M_readModule_225] at h
  refine lv_iconst (v := 1) hx hb d_M_readModule_225 (by decide) ?_
  obtain ⟨s1, hc226, h⟩ := bd1_e h
  refine x_vV (As := [.int y1, .int 1]) (rest := []) C hX (c_M_will l g y1 1 s s1 hc226) (cw_M_158 C.1.2.2.2.2 C.2.2.2 ⟨by decide, by decide⟩) (x_rc C hX vg_0 rfl) rfl hl.1 rfl (lv_room (Nat.le_of_ble_eq_true rfl)) d_M_readModule_226 ⟨Nat.le_refl _, Nat.le_refl _⟩ (fun H locs hX => ?_)
  obtain rfl := so1 h
  exact hQ _ H locs ls hX d_M_readModule_229
set_option maxHeartbeats 4000000 in
set_option maxRecDepth 100000 in
theorem w_M_readModule_208 {z : SM} (C : Cx g A p m c b_M_readModule 4 ss args R_M) (hQ : ∀ (pc : Nat) (H : Heap) (locs : List Loc) (ls : Array Slot), XW g A ss (wM g z) H locs → decode b_M_readModule pc = .ok (.return_, 1) → W p l e (rmX 8 186) ss m args below meth c H locs 0 0 Q (F0 m pc ls [])) : ∀ (x1 : Int32) (s : SM) (H : Heap) (locs : List Loc) (ls : Array Slot), XW g A ss (wM g s) H locs → lv_has ls 4 [(0, .ref (g.q 60)), (1, .int x1)] → f_M_readModule_208 x1 s = some z → W p l e (rmX 8 186) ss m args below meth c H locs 0 0 Q (F0 m 208 ls []) := by
  have ⟨⟨hx, hb, hml, hown, hts⟩, hK, hA, hN⟩ := C
  intro x1 s H locs ls hX hl h
  rw [f_M_readModule_208] at h
  refine lv_aload_n hx hb d_M_readModule_208 rfl (lv_at hl 0 rfl) ?_
  refine lv_aload_n hx hb d_M_readModule_209 rfl (lv_at hl 0 rfl) ?_
  refine gm_bodies C hX fl_M_185 d_M_readModule_210 ?_
  refine lv_aload_n hx hb d_M_readModule_213 rfl (lv_at hl 0 rfl) ?_
  refine gm_functions C hX fl_M_188 d_M_readModule_214 ?_
  refine lv_icmp_ne (tgt := 224) hx hb d_M_readModule_217 (by decide) (fun c217 => ?_) (fun c217 => ?_)
  · have h := ite_f c217 h
    refine lv_iconst (v := 0) hx hb d_M_readModule_224 (by decide) ?_
    exact w_M_readModule_225 C hQ x1 0 s H locs ls hX hl h
  · have h := ite_t c217 h
    refine lv_iconst (v := 1) hx hb d_M_readModule_220 (by decide) ?_
    refine lv_goto (tgt := 225) hx hb d_M_readModule_221 (by decide) ?_
    exact w_M_readModule_225 C hQ x1 1 s H locs ls hX hl h
set_option maxHeartbeats 4000000 in
set_option maxRecDepth 100000 in
theorem w_M_readModule_201 {z : SM} (C : Cx g A p m c b_M_readModule 4 ss args R_M) (hQ : ∀ (pc : Nat) (H : Heap) (locs : List Loc) (ls : Array Slot), XW g A ss (wM g z) H locs → decode b_M_readModule pc = .ok (.return_, 1) → W p l e (rmX 8 186) ss m args below meth c H locs 0 0 Q (F0 m pc ls [])) (k73 : Int32 → SM → Option SM) (hk73 : ∀ (x1 : Int32) (s : SM) (H : Heap) (locs : List Loc) (ls : Array Slot), XW g A ss (wM g s) H locs → lv_has ls 4 [(0, .ref (g.q 60)), (1, .int x1)] → k73 x1 s = some z → W p l e (rmX 8 186) ss m args below meth c H locs 0 0 Q (F0 m 73 ls [])) : ∀ (x1 : Int32) (x2 : Int32) (x3 : Int32) (y1 : Int32) (s : SM) (H : Heap) (locs : List Loc) (ls : Array Slot), XW g A ss (wM g s) H locs → lv_has ls 4 [(0, .ref (g.q 60)), (1, .int x1), (2, .int x2), (3, .int x3)] → f_M_readModule_201 k73 x1 x2 x3 y1 s = some z → W p l e (rmX 8 186) ss m args below meth c H locs 0 0 Q (F0 m 201 ls [.int y1, .ref (g.q 60)]) := by
  have ⟨⟨hx, hb, hml, hown, hts⟩, hK, hA, hN⟩ := C
  intro x1 x2 x3 y1 s H locs ls hX hl h
  rw [f_M_readModule_201] at h
  refine lv_iconst (v := 1) hx hb d_M_readModule_201 (by decide) ?_
  obtain ⟨s1, hc202, h⟩ := bd1_e h
  refine x_vV (As := [.int y1, .int 1]) (rest := []) C hX (c_M_will l g y1 1 s s1 hc202) (cw_M_158 C.1.2.2.2.2 C.2.2.2 ⟨by decide, by decide⟩) (x_rc C hX vg_0 rfl) rfl hl.1 rfl (lv_room (Nat.le_of_ble_eq_true rfl)) d_M_readModule_202 ⟨Nat.le_refl _, Nat.le_refl _⟩ (fun H locs hX => ?_)
  refine lv_goto (tgt := 73) hx hb d_M_readModule_205 (by decide) ?_
  exact hk73 x1 s1 H locs ls hX (lv_sub hl [0, 1] rfl) h
set_option maxHeartbeats 4000000 in
set_option maxRecDepth 100000 in
theorem w_M_readModule_158 {z : SM} (C : Cx g A p m c b_M_readModule 4 ss args R_M) (hQ : ∀ (pc : Nat) (H : Heap) (locs : List Loc) (ls : Array Slot), XW g A ss (wM g z) H locs → decode b_M_readModule pc = .ok (.return_, 1) → W p l e (rmX 8 186) ss m args below meth c H locs 0 0 Q (F0 m pc ls [])) (k73 : Int32 → SM → Option SM) (hk73 : ∀ (x1 : Int32) (s : SM) (H : Heap) (locs : List Loc) (ls : Array Slot), XW g A ss (wM g s) H locs → lv_has ls 4 [(0, .ref (g.q 60)), (1, .int x1)] → k73 x1 s = some z → W p l e (rmX 8 186) ss m args below meth c H locs 0 0 Q (F0 m 73 ls [])) : ∀ (x1 : Int32) (x2 : Int32) (y1 : Int32) (s : SM) (H : Heap) (locs : List Loc) (ls : Array Slot), XW g A ss (wM g s) H locs → lv_has ls 4 [(0, .ref (g.q 60)), (1, .int x1), (2, .int x2)] → f_M_readModule_158 k73 x1 x2 y1 s = some z → W p l e (rmX 8 186) ss m args below meth c H locs 0 0 Q (F0 m 158 ls [.int y1, .ref (g.q 60)]) := by
  have ⟨⟨hx, hb, hml, hown, hts⟩, hK, hA, hN⟩ := C
  intro x1 x2 y1 s H locs ls hX hl h
  rw [f_M_readModule_158] at h
  refine lv_iconst (v := 2) hx hb d_M_readModule_158 (by decide) ?_
  obtain ⟨s1, hc159, h⟩ := bd1_e h
  refine x_vV (As := [.int y1, .int 2]) (rest := []) C hX (c_M_will l g y1 2 s s1 hc159) (cw_M_158 C.1.2.2.2.2 C.2.2.2 ⟨by decide, by decide⟩) (x_rc C hX vg_0 rfl) rfl hl.1 rfl (lv_room (Nat.le_of_ble_eq_true rfl)) d_M_readModule_159 ⟨Nat.le_refl _, Nat.le_refl _⟩ (fun H locs hX => ?_)
  refine lv_iload_n hx hb d_M_readModule_162 rfl (lv_at hl 2 rfl) ?_
  refine lv_istore_n (lv' := [(1, .int x2), (0, .ref (g.q 60)), (2, .int x2)]) hx hb d_M_readModule_163 rfl hl (by decide) rfl (fun ls hl => ?_)
  refine lv_aload_n hx hb d_M_readModule_164 rfl (lv_at hl 1 rfl) ?_
  obtain ⟨r3, s2, hc165, h⟩ := bd_e h
  refine x_vI (As := []) (rest := []) C hX (c_M_ahead l g s1 (r3, s2) hc165) (cw_M_179 C.1.2.2.2.2 C.2.2.2 ⟨by decide, by decide⟩) (x_rc C hX vg_0 rfl) rfl hl.1 rfl (lv_room (Nat.le_of_ble_eq_true rfl)) d_M_readModule_165 ⟨Nat.le_refl _, Nat.le_refl _⟩ (fun H locs hX => ?_)
  refine lv_istore_n (lv' := [(3, .int r3), (1, .int x2), (0, .ref (g.q 60)), (2, .int x2)]) hx hb d_M_readModule_168 rfl hl (by decide) rfl (fun ls hl => ?_)
  refine lv_aload_n hx hb d_M_readModule_169 rfl (lv_at hl 2 rfl) ?_
  refine gm_wrong C hX fl_M_149 d_M_readModule_170 ?_
  refine lv_if_le (tgt := 177) hx hb d_M_readModule_173 (by decide) (fun c173 => ?_) (fun c173 => ?_)
  · have h := ite_t c173 h
    refine lv_aload_n hx hb d_M_readModule_177 rfl (lv_at hl 2 rfl) ?_
    refine lv_iload_n hx hb d_M_readModule_178 rfl (lv_at hl 0 rfl) ?_
    obtain ⟨s4, es4, h⟩ := lt1_e h
    refine pm_limit C hX fl_M_155 d_M_readModule_179 (fun H locs hX => ?_)
    rw [← es4] at hX
    refine lv_aload_n hx hb d_M_readModule_182 rfl (lv_at hl 2 rfl) ?_
    refine lv_iload_n hx hb d_M_readModule_183 rfl (lv_at hl 3 rfl) ?_
    obtain ⟨s5, hc184, h⟩ := bd1_e h
    refine x_vV (As := [.int x2]) (rest := []) C hX (c_M_readSection l g x2 s4 s5 hc184) (cw_M_182 C.1.2.2.2.2 C.2.2.2 ⟨by decide, by decide⟩) (x_rc C hX vg_0 rfl) rfl hl.1 rfl (lv_room (Nat.le_of_ble_eq_true rfl)) d_M_readModule_184 ⟨Nat.le_refl _, Nat.le_refl _⟩ (fun H locs hX => ?_)
    refine lv_aload_n hx hb d_M_readModule_187 rfl (lv_at hl 2 rfl) ?_
    refine lv_aload_n hx hb d_M_readModule_188 rfl (lv_at hl 2 rfl) ?_
    refine gm_at C hX fl_M_152 d_M_readModule_189 ?_
    refine lv_iload_n hx hb d_M_readModule_192 rfl (lv_at hl 0 rfl) ?_
    refine lv_icmp_ne (tgt := 200) hx hb d_M_readModule_193 (by decide) (fun c193 => ?_) (fun c193 => ?_)
    · have h := ite_f c193 h
      refine lv_iconst (v := 0) hx hb d_M_readModule_200 (by decide) ?_
      exact w_M_readModule_201 C hQ k73 hk73 x2 x2 r3 0 s5 H locs ls hX (lv_sub hl [2, 1, 3, 0] rfl) h
    · have h := ite_t c193 h
      refine lv_iconst (v := 1) hx hb d_M_readModule_196 (by decide) ?_
      refine lv_goto (tgt := 201) hx hb d_M_readModule_197 (by decide) ?_
      exact w_M_readModule_201 C hQ k73 hk73 x2 x2 r3 1 s5 H locs ls hX (lv_sub hl [2, 1, 3, 0] rfl) h
  · have h := ite_f c173 h
    obtain rfl := so1 h
    exact hQ _ H locs ls hX d_M_readModule_176
set_option maxHeartbeats 4000000 in
set_option maxRecDepth 100000 in
theorem w_M_readModule_153 {z : SM} (C : Cx g A p m c b_M_readModule 4 ss args R_M) (hQ : ∀ (pc : Nat) (H : Heap) (locs : List Loc) (ls : Array Slot), XW g A ss (wM g z) H locs → decode b_M_readModule pc = .ok (.return_, 1) → W p l e (rmX 8 186) ss m args below meth c H locs 0 0 Q (F0 m pc ls [])) (k73 : Int32 → SM → Option SM) (hk73 : ∀ (x1 : Int32) (s : SM) (H : Heap) (locs : List Loc) (ls : Array Slot), XW g A ss (wM g s) H locs → lv_has ls 4 [(0, .ref (g.q 60)), (1, .int x1)] → k73 x1 s = some z → W p l e (rmX 8 186) ss m args below meth c H locs 0 0 Q (F0 m 73 ls [])) : ∀ (x1 : Int32) (x2 : Int32) (s : SM) (H : Heap) (locs : List Loc) (ls : Array Slot), XW g A ss (wM g s) H locs → lv_has ls 4 [(0, .ref (g.q 60)), (1, .int x1), (2, .int x2)] → f_M_readModule_153 k73 x1 x2 s = some z → W p l e (rmX 8 186) ss m args below meth c H locs 0 0 Q (F0 m 153 ls [.ref (g.q 60)]) := by
  have ⟨⟨hx, hb, hml, hown, hts⟩, hK, hA, hN⟩ := C
  intro x1 x2 s H locs ls hX hl h
  rw [f_M_readModule_153] at h
  refine lv_iconst (v := 1) hx hb d_M_readModule_153 (by decide) ?_
  refine lv_goto (tgt := 158) hx hb d_M_readModule_154 (by decide) ?_
  exact w_M_readModule_158 C hQ k73 hk73 x1 x2 1 s H locs ls hX hl h
set_option maxHeartbeats 4000000 in
set_option maxRecDepth 100000 in
theorem w_M_readModule_147 {z : SM} (C : Cx g A p m c b_M_readModule 4 ss args R_M) (hQ : ∀ (pc : Nat) (H : Heap) (locs : List Loc) (ls : Array Slot), XW g A ss (wM g z) H locs → decode b_M_readModule pc = .ok (.return_, 1) → W p l e (rmX 8 186) ss m args below meth c H locs 0 0 Q (F0 m pc ls [])) (k73 : Int32 → SM → Option SM) (hk73 : ∀ (x1 : Int32) (s : SM) (H : Heap) (locs : List Loc) (ls : Array Slot), XW g A ss (wM g s) H locs → lv_has ls 4 [(0, .ref (g.q 60)), (1, .int x1)] → k73 x1 s = some z → W p l e (rmX 8 186) ss m args below meth c H locs 0 0 Q (F0 m 73 ls [])) : ∀ (x1 : Int32) (x2 : Int32) (s : SM) (H : Heap) (locs : List Loc) (ls : Array Slot), XW g A ss (wM g s) H locs → lv_has ls 4 [(0, .ref (g.q 60)), (1, .int x1), (2, .int x2)] → f_M_readModule_147 k73 x1 x2 s = some z → W p l e (rmX 8 186) ss m args below meth c H locs 0 0 Q (F0 m 147 ls [.ref (g.q 60)]) := by
  have ⟨⟨hx, hb, hml, hown, hts⟩, hK, hA, hN⟩ := C
  intro x1 x2 s H locs ls hX hl h
  rw [f_M_readModule_147] at h
  refine lv_iload_n hx hb d_M_readModule_147 rfl (lv_at hl 2 rfl) ?_
  refine lv_bipush (v := 9) hx hb d_M_readModule_148 (by decide) ?_
  refine lv_icmp_le (tgt := 157) hx hb d_M_readModule_150 (by decide) (fun c150 => ?_) (fun c150 => ?_)
  · have h := ite_t c150 h
    refine lv_iconst (v := 0) hx hb d_M_readModule_157 (by decide) ?_
    exact w_M_readModule_158 C hQ k73 hk73 x1 x2 0 s H locs ls hX hl h
  · have h := ite_f c150 h
    exact w_M_readModule_153 C hQ k73 hk73 x1 x2 s H locs ls hX hl h
set_option maxHeartbeats 4000000 in
set_option maxRecDepth 100000 in
theorem w_M_readModule_121 {z : SM} (C : Cx g A p m c b_M_readModule 4 ss args R_M) (hQ : ∀ (pc : Nat) (H : Heap) (locs : List Loc) (ls : Array Slot), XW g A ss (wM g z) H locs → decode b_M_readModule pc = .ok (.return_, 1) → W p l e (rmX 8 186) ss m args below meth c H locs 0 0 Q (F0 m pc ls [])) (k73 : Int32 → SM → Option SM) (hk73 : ∀ (x1 : Int32) (s : SM) (H : Heap) (locs : List Loc) (ls : Array Slot), XW g A ss (wM g s) H locs → lv_has ls 4 [(0, .ref (g.q 60)), (1, .int x1)] → k73 x1 s = some z → W p l e (rmX 8 186) ss m args below meth c H locs 0 0 Q (F0 m 73 ls [])) : ∀ (x1 : Int32) (x2 : Int32) (y1 : Int32) (s : SM) (H : Heap) (locs : List Loc) (ls : Array Slot), XW g A ss (wM g s) H locs → lv_has ls 4 [(0, .ref (g.q 60)), (1, .int x1), (2, .int x2)] → f_M_readModule_121 k73 x1 x2 y1 s = some z → W p l e (rmX 8 186) ss m args below meth c H locs 0 0 Q (F0 m 121 ls [.int y1, .ref (g.q 60)]) := by
  have ⟨⟨hx, hb, hml, hown, hts⟩, hK, hA, hN⟩ := C
  intro x1 x2 y1 s H locs ls hX hl h
  rw [f_M_readModule_121] at h
  refine lv_iconst (v := 1) hx hb d_M_readModule_121 (by decide) ?_
  obtain ⟨s1, hc122, h⟩ := bd1_e h
  refine x_vV (As := [.int y1, .int 1]) (rest := []) C hX (c_M_will l g y1 1 s s1 hc122) (cw_M_158 C.1.2.2.2.2 C.2.2.2 ⟨by decide, by decide⟩) (x_rc C hX vg_0 rfl) rfl hl.1 rfl (lv_room (Nat.le_of_ble_eq_true rfl)) d_M_readModule_122 ⟨Nat.le_refl _, Nat.le_refl _⟩ (fun H locs hX => ?_)
  refine lv_aload_n hx hb d_M_readModule_125 rfl (lv_at hl 0 rfl) ?_
  refine lv_iload_n hx hb d_M_readModule_126 rfl (lv_at hl 2 rfl) ?_
  refine lv_iconst (v := 1) hx hb d_M_readModule_127 (by decide) ?_
  refine lv_icmp_eq (tgt := 153) hx hb d_M_readModule_128 (by decide) (fun c128 => ?_) (fun c128 => ?_)
  · have h := ite_t c128 h
    exact w_M_readModule_153 C hQ k73 hk73 x1 x2 s1 H locs ls hX hl h
  · have h := ite_f c128 h
    refine lv_iload_n hx hb d_M_readModule_131 rfl (lv_at hl 2 rfl) ?_
    refine lv_iconst (v := 3) hx hb d_M_readModule_132 (by decide) ?_
    refine lv_icmp_eq (tgt := 153) hx hb d_M_readModule_133 (by decide) (fun c133 => ?_) (fun c133 => ?_)
    · have h := ite_t c133 h
      exact w_M_readModule_153 C hQ k73 hk73 x1 x2 s1 H locs ls hX hl h
    · have h := ite_f c133 h
      refine lv_iload_n hx hb d_M_readModule_136 rfl (lv_at hl 2 rfl) ?_
      refine lv_iconst (v := 4) hx hb d_M_readModule_137 (by decide) ?_
      refine lv_icmp_le (tgt := 147) hx hb d_M_readModule_138 (by decide) (fun c138 => ?_) (fun c138 => ?_)
      · have h := ite_t c138 h
        exact w_M_readModule_147 C hQ k73 hk73 x1 x2 s1 H locs ls hX hl h
      · have h := ite_f c138 h
        refine lv_iload_n hx hb d_M_readModule_141 rfl (lv_at hl 2 rfl) ?_
        refine lv_bipush (v := 8) hx hb d_M_readModule_142 (by decide) ?_
        refine lv_icmp_lt (tgt := 153) hx hb d_M_readModule_144 (by decide) (fun c144 => ?_) (fun c144 => ?_)
        · have h := ite_t c144 h
          exact w_M_readModule_153 C hQ k73 hk73 x1 x2 s1 H locs ls hX hl h
        · have h := ite_f c144 h
          exact w_M_readModule_147 C hQ k73 hk73 x1 x2 s1 H locs ls hX hl h
set_option maxHeartbeats 4000000 in
set_option maxRecDepth 100000 in
theorem w_M_readModule_120 {z : SM} (C : Cx g A p m c b_M_readModule 4 ss args R_M) (hQ : ∀ (pc : Nat) (H : Heap) (locs : List Loc) (ls : Array Slot), XW g A ss (wM g z) H locs → decode b_M_readModule pc = .ok (.return_, 1) → W p l e (rmX 8 186) ss m args below meth c H locs 0 0 Q (F0 m pc ls [])) (k73 : Int32 → SM → Option SM) (hk73 : ∀ (x1 : Int32) (s : SM) (H : Heap) (locs : List Loc) (ls : Array Slot), XW g A ss (wM g s) H locs → lv_has ls 4 [(0, .ref (g.q 60)), (1, .int x1)] → k73 x1 s = some z → W p l e (rmX 8 186) ss m args below meth c H locs 0 0 Q (F0 m 73 ls [])) : ∀ (x1 : Int32) (x2 : Int32) (s : SM) (H : Heap) (locs : List Loc) (ls : Array Slot), XW g A ss (wM g s) H locs → lv_has ls 4 [(0, .ref (g.q 60)), (1, .int x1), (2, .int x2)] → f_M_readModule_120 k73 x1 x2 s = some z → W p l e (rmX 8 186) ss m args below meth c H locs 0 0 Q (F0 m 120 ls [.ref (g.q 60)]) := by
  have ⟨⟨hx, hb, hml, hown, hts⟩, hK, hA, hN⟩ := C
  intro x1 x2 s H locs ls hX hl h
  rw [f_M_readModule_120] at h
  refine lv_iconst (v := 0) hx hb d_M_readModule_120 (by decide) ?_
  exact w_M_readModule_121 C hQ k73 hk73 x1 x2 0 s H locs ls hX hl h
set_option maxHeartbeats 4000000 in
set_option maxRecDepth 100000 in
theorem w_M_readModule_73 {z : SM} (C : Cx g A p m c b_M_readModule 4 ss args R_M) (hQ : ∀ (pc : Nat) (H : Heap) (locs : List Loc) (ls : Array Slot), XW g A ss (wM g z) H locs → decode b_M_readModule pc = .ok (.return_, 1) → W p l e (rmX 8 186) ss m args below meth c H locs 0 0 Q (F0 m pc ls [])) (n : Nat) : ∀ (x1 : Int32) (s : SM) (H : Heap) (locs : List Loc) (ls : Array Slot), XW g A ss (wM g s) H locs → lv_has ls 4 [(0, .ref (g.q 60)), (1, .int x1)] → f_M_readModule_73 n x1 s = some z → W p l e (rmX 8 186) ss m args below meth c H locs 0 0 Q (F0 m 73 ls []) := by
  have ⟨⟨hx, hb, hml, hown, hts⟩, hK, hA, hN⟩ := C
  induction n with
  | zero => intro x1 s H locs ls hX hl h; cases h
  | succ n ih =>
    intro x1 s H locs ls hX hl h
    rw [f_M_readModule_73] at h
    refine lv_aload_n hx hb d_M_readModule_73 rfl (lv_at hl 0 rfl) ?_
    refine gm_at C hX fl_M_152 d_M_readModule_74 ?_
    refine lv_aload_n hx hb d_M_readModule_77 rfl (lv_at hl 0 rfl) ?_
    refine gm_fed C hX fl_M_124 d_M_readModule_78 ?_
    refine lv_icmp_ge (tgt := 208) hx hb d_M_readModule_81 (by decide) (fun c81 => ?_) (fun c81 => ?_)
    · have h := ite_t c81 h
      exact w_M_readModule_208 C hQ x1 s H locs ls hX hl h
    · have h := ite_f c81 h
      refine lv_aload_n hx hb d_M_readModule_84 rfl (lv_at hl 0 rfl) ?_
      refine gm_wrong C hX fl_M_149 d_M_readModule_85 ?_
      refine lv_if_ne (tgt := 208) hx hb d_M_readModule_88 (by decide) (fun c88 => ?_) (fun c88 => ?_)
      · have h := ite_f c88 h
        exact w_M_readModule_208 C hQ x1 s H locs ls hX hl h
      · have h := ite_t c88 h
        refine lv_aload_n hx hb d_M_readModule_91 rfl (lv_at hl 0 rfl) ?_
        refine lv_aload_n hx hb d_M_readModule_92 rfl (lv_at hl 0 rfl) ?_
        refine gm_fed C hX fl_M_124 d_M_readModule_93 ?_
        obtain ⟨s1, es1, h⟩ := lt1_e h
        refine pm_limit C hX fl_M_155 d_M_readModule_96 (fun H locs hX => ?_)
        rw [← es1] at hX
        refine lv_aload_n hx hb d_M_readModule_99 rfl (lv_at hl 0 rfl) ?_
        obtain ⟨r3, s2, hc100, h⟩ := bd_e h
        refine x_vI (As := []) (rest := []) C hX (c_M_next l g s1 (r3, s2) hc100) (cw_M_162 C.1.2.2.2.2 C.2.2.2 ⟨by decide, by decide⟩) (x_rc C hX vg_0 rfl) rfl hl.1 rfl (lv_room (Nat.le_of_ble_eq_true rfl)) d_M_readModule_100 ⟨Nat.le_refl _, Nat.le_refl _⟩ (fun H locs hX => ?_)
        refine lv_istore_n (lv' := [(2, .int r3), (0, .ref (g.q 60)), (1, .int x1)]) hx hb d_M_readModule_103 rfl hl (by decide) rfl (fun ls hl => ?_)
        refine lv_aload_n hx hb d_M_readModule_104 rfl (lv_at hl 1 rfl) ?_
        refine lv_iload_n hx hb d_M_readModule_105 rfl (lv_at hl 0 rfl) ?_
        refine lv_bipush (v := 12) hx hb d_M_readModule_106 (by decide) ?_
        refine lv_icmp_ge (tgt := 120) hx hb d_M_readModule_108 (by decide) (fun c108 => ?_) (fun c108 => ?_)
        · have h := ite_t c108 h
          exact w_M_readModule_120 C hQ (f_M_readModule_73 n) ih x1 r3 s2 H locs ls hX (lv_sub hl [1, 2, 0] rfl) h
        · have h := ite_f c108 h
          refine lv_iload_n hx hb d_M_readModule_111 rfl (lv_at hl 0 rfl) ?_
          refine lv_iload_n hx hb d_M_readModule_112 rfl (lv_at hl 2 rfl) ?_
          refine lv_icmp_le (tgt := 120) hx hb d_M_readModule_113 (by decide) (fun c113 => ?_) (fun c113 => ?_)
          · have h := ite_t c113 h
            exact w_M_readModule_120 C hQ (f_M_readModule_73 n) ih x1 r3 s2 H locs ls hX (lv_sub hl [1, 2, 0] rfl) h
          · have h := ite_f c113 h
            refine lv_iconst (v := 1) hx hb d_M_readModule_116 (by decide) ?_
            refine lv_goto (tgt := 121) hx hb d_M_readModule_117 (by decide) ?_
            exact w_M_readModule_121 C hQ (f_M_readModule_73 n) ih x1 r3 1 s2 H locs ls hX (lv_sub hl [1, 2, 0] rfl) h
set_option maxHeartbeats 4000000 in
set_option maxRecDepth 100000 in
theorem w_M_readModule_62 {z : SM} (C : Cx g A p m c b_M_readModule 4 ss args R_M) (hQ : ∀ (pc : Nat) (H : Heap) (locs : List Loc) (ls : Array Slot), XW g A ss (wM g z) H locs → decode b_M_readModule pc = .ok (.return_, 1) → W p l e (rmX 8 186) ss m args below meth c H locs 0 0 Q (F0 m pc ls [])) (k15 : Int32 → SM → Option SM) (hk15 : ∀ (x1 : Int32) (s : SM) (H : Heap) (locs : List Loc) (ls : Array Slot), XW g A ss (wM g s) H locs → lv_has ls 4 [(0, .ref (g.q 60)), (1, .int x1)] → k15 x1 s = some z → W p l e (rmX 8 186) ss m args below meth c H locs 0 0 Q (F0 m 15 ls [])) : ∀ (x1 : Int32) (y1 : Int32) (s : SM) (H : Heap) (locs : List Loc) (ls : Array Slot), XW g A ss (wM g s) H locs → lv_has ls 4 [(0, .ref (g.q 60)), (1, .int x1)] → f_M_readModule_62 k15 x1 y1 s = some z → W p l e (rmX 8 186) ss m args below meth c H locs 0 0 Q (F0 m 62 ls [.int y1, .ref (g.q 60)]) := by
  have ⟨⟨hx, hb, hml, hown, hts⟩, hK, hA, hN⟩ := C
  intro x1 y1 s H locs ls hX hl h
  rw [f_M_readModule_62] at h
  obtain ⟨s1, hc62, h⟩ := bd1_e h
  refine x_vV (As := [.int y1]) (rest := []) C hX (c_M_exactly l g y1 s s1 hc62) (cw_M_172 C.1.2.2.2.2 C.2.2.2 ⟨by decide, by decide⟩) (x_rc C hX vg_0 rfl) rfl hl.1 rfl (lv_room (Nat.le_of_ble_eq_true rfl)) d_M_readModule_62 ⟨Nat.le_refl _, Nat.le_refl _⟩ (fun H locs hX => ?_)
  obtain ⟨v2, ev2, h⟩ := lt1_e h
  refine lv_iinc (v := v2) (lv' := [(1, .int v2), (0, .ref (g.q 60))]) hx hb d_M_readModule_65 hl (k := 1) rfl (by rw [ev2]; rfl) (by decide) rfl (fun ls hl => ?_)
  refine lv_goto (tgt := 15) hx hb d_M_readModule_68 (by decide) ?_
  exact hk15 v2 s1 H locs ls hX (lv_sub hl [1, 0] rfl) h
set_option maxHeartbeats 4000000 in
set_option maxRecDepth 100000 in
theorem w_M_readModule_15 {z : SM} (C : Cx g A p m c b_M_readModule 4 ss args R_M) (hQ : ∀ (pc : Nat) (H : Heap) (locs : List Loc) (ls : Array Slot), XW g A ss (wM g z) H locs → decode b_M_readModule pc = .ok (.return_, 1) → W p l e (rmX 8 186) ss m args below meth c H locs 0 0 Q (F0 m pc ls [])) (n : Nat) : ∀ (x1 : Int32) (s : SM) (H : Heap) (locs : List Loc) (ls : Array Slot), XW g A ss (wM g s) H locs → lv_has ls 4 [(0, .ref (g.q 60)), (1, .int x1)] → f_M_readModule_15 n x1 s = some z → W p l e (rmX 8 186) ss m args below meth c H locs 0 0 Q (F0 m 15 ls []) := by
  have ⟨⟨hx, hb, hml, hown, hts⟩, hK, hA, hN⟩ := C
  induction n with
  | zero => intro x1 s H locs ls hX hl h; cases h
  | succ n ih =>
    intro x1 s H locs ls hX hl h
    rw [f_M_readModule_15] at h
    refine lv_iload_n hx hb d_M_readModule_15 rfl (lv_at hl 1 rfl) ?_
    refine lv_bipush (v := 8) hx hb d_M_readModule_16 (by decide) ?_
    refine lv_icmp_ge (tgt := 71) hx hb d_M_readModule_18 (by decide) (fun c18 => ?_) (fun c18 => ?_)
    · have h := ite_t c18 h
      refine lv_iconst (v := (-1)) hx hb d_M_readModule_71 (by decide) ?_
      refine lv_istore_n (lv' := [(1, .int ((-1))), (0, .ref (g.q 60))]) hx hb d_M_readModule_72 rfl hl (by decide) rfl (fun ls hl => ?_)
      exact w_M_readModule_73 C hQ FU ((-1)) s H locs ls hX (lv_sub hl [1, 0] rfl) h
    · have h := ite_f c18 h
      refine lv_aload_n hx hb d_M_readModule_21 rfl (lv_at hl 0 rfl) ?_
      refine lv_iload_n hx hb d_M_readModule_22 rfl (lv_at hl 1 rfl) ?_
      refine lv_iconst (v := 1) hx hb d_M_readModule_23 (by decide) ?_
      refine lv_icmp_ne (tgt := 32) hx hb d_M_readModule_24 (by decide) (fun c24 => ?_) (fun c24 => ?_)
      · have h := ite_f c24 h
        refine lv_iload_n hx hb d_M_readModule_32 rfl (lv_at hl 1 rfl) ?_
        refine lv_iconst (v := 2) hx hb d_M_readModule_33 (by decide) ?_
        refine lv_icmp_ne (tgt := 42) hx hb d_M_readModule_34 (by decide) (fun c34 => ?_) (fun c34 => ?_)
        · have h := ite_f c34 h
          refine lv_iload_n hx hb d_M_readModule_42 rfl (lv_at hl 1 rfl) ?_
          refine lv_iconst (v := 3) hx hb d_M_readModule_43 (by decide) ?_
          refine lv_icmp_ne (tgt := 52) hx hb d_M_readModule_44 (by decide) (fun c44 => ?_) (fun c44 => ?_)
          · have h := ite_f c44 h
            refine lv_iload_n hx hb d_M_readModule_52 rfl (lv_at hl 1 rfl) ?_
            refine lv_iconst (v := 4) hx hb d_M_readModule_53 (by decide) ?_
            refine lv_icmp_ne (tgt := 61) hx hb d_M_readModule_54 (by decide) (fun c54 => ?_) (fun c54 => ?_)
            · have h := ite_f c54 h
              refine lv_iconst (v := 0) hx hb d_M_readModule_61 (by decide) ?_
              exact w_M_readModule_62 C hQ (f_M_readModule_15 n) ih x1 0 s H locs ls hX hl h
            · have h := ite_t c54 h
              refine lv_iconst (v := 1) hx hb d_M_readModule_57 (by decide) ?_
              refine lv_goto (tgt := 62) hx hb d_M_readModule_58 (by decide) ?_
              exact w_M_readModule_62 C hQ (f_M_readModule_15 n) ih x1 1 s H locs ls hX hl h
          · have h := ite_t c44 h
            refine lv_bipush (v := 109) hx hb d_M_readModule_47 (by decide) ?_
            refine lv_goto (tgt := 62) hx hb d_M_readModule_49 (by decide) ?_
            exact w_M_readModule_62 C hQ (f_M_readModule_15 n) ih x1 109 s H locs ls hX hl h
        · have h := ite_t c34 h
          refine lv_bipush (v := 115) hx hb d_M_readModule_37 (by decide) ?_
          refine lv_goto (tgt := 62) hx hb d_M_readModule_39 (by decide) ?_
          exact w_M_readModule_62 C hQ (f_M_readModule_15 n) ih x1 115 s H locs ls hX hl h
      · have h := ite_t c24 h
        refine lv_bipush (v := 97) hx hb d_M_readModule_27 (by decide) ?_
        refine lv_goto (tgt := 62) hx hb d_M_readModule_29 (by decide) ?_
        exact w_M_readModule_62 C hQ (f_M_readModule_15 n) ih x1 97 s H locs ls hX hl h
set_option maxHeartbeats 4000000 in
set_option maxRecDepth 100000 in
theorem w_M_readModule {z : SM} (C : Cx g A p m c b_M_readModule 4 ss args R_M) (hQ : ∀ (pc : Nat) (H : Heap) (locs : List Loc) (ls : Array Slot), XW g A ss (wM g z) H locs → decode b_M_readModule pc = .ok (.return_, 1) → W p l e (rmX 8 186) ss m args below meth c H locs 0 0 Q (F0 m pc ls [])) : ∀ (s : SM) (H : Heap) (locs : List Loc) (ls : Array Slot), XW g A ss (wM g s) H locs → lv_has ls 4 [(0, .ref (g.q 60))] → f_M_readModule s = some z → W p l e (rmX 8 186) ss m args below meth c H locs 0 0 Q (F0 m 0 ls []) := by
  have ⟨⟨hx, hb, hml, hown, hts⟩, hK, hA, hN⟩ := C
  intro s H locs ls hX hl h
  rw [f_M_readModule] at h
  refine lv_aload_n hx hb d_M_readModule_0 rfl (lv_at hl 0 rfl) ?_
  refine lv_aload_n hx hb d_M_readModule_1 rfl (lv_at hl 0 rfl) ?_
  refine gm_fed C hX fl_M_124 d_M_readModule_2 ?_
  obtain ⟨s1, es1, h⟩ := lt1_e h
  refine pm_limit C hX fl_M_155 d_M_readModule_5 (fun H locs hX => ?_)
  rw [← es1] at hX
  refine lv_aload_n hx hb d_M_readModule_8 rfl (lv_at hl 0 rfl) ?_
  refine lv_iconst (v := 0) hx hb d_M_readModule_9 (by decide) ?_
  obtain ⟨s2, es2, h⟩ := lt1_e h
  refine pm_at C hX fl_M_152 d_M_readModule_10 (fun H locs hX => ?_)
  rw [← es2] at hX
  refine lv_iconst (v := 0) hx hb d_M_readModule_13 (by decide) ?_
  refine lv_istore_n (lv' := [(1, .int 0), (0, .ref (g.q 60))]) hx hb d_M_readModule_14 rfl hl (by decide) rfl (fun ls hl => ?_)
  exact w_M_readModule_15 C hQ FU 0 s2 H locs ls hX (lv_sub hl [1, 0] rfl) h
end WALK
theorem c_M_readModule (l : Launch) (g : GX) (s : SM) (z : SM) (h : f_M_readModule s = some z) : MV l g y_M_readModule b_M_readModule 4 none 8 186 [.ref (g.q 60)] (wM g s) (wM g z) :=
  MV.mk (own := R_M) (by decide) rfl (Nat.le_of_ble_eq_true rfl) fun p e ss m below meth c A Q C hQ ls hX hl => w_M_readModule C hQ s _ _ ls hX hl h
