-- M_perform
def f_M_perform_308 (x1 : Int32) (x2 : Int32) (x3 : Int32) (s : SM) : Option (Int32 × SM) :=
    some (0, s)
def f_M_perform_139 (x1 : Int32) (x2 : Int32) (x3 : Int32) (x4 : Int32) (x5 : Int32) (x6 : Int32) (y1 : Int32) (s : SM) : Option (Int32 × SM) :=
    bd1 (f_M_give y1 s) fun s1 =>
    f_M_perform_308 x1 x2 x3 s1
def f_M_perform_81 (x1 : Int32) (x2 : Int32) (y0 : Int32) (y1 : Int32) (s : SM) : Option (Int32 × SM) :=
    lt1 (y0 + y1) fun v1 =>
    if x2 = 26 then
      lt1 (s.1 0 23 - 1) fun v35 =>
      lt1 (stI s 0 23 v35) fun s36 =>
      f_M_perform_308 x1 x2 v1 s36
    else
      if x2 = 27 then
        bd (f_M_pull s) fun r30 s29 =>
        bd (f_M_pull s29) fun r32 s31 =>
        bd (f_M_pull s31) fun r34 s33 =>
        if r30 = 0 then
          f_M_perform_139 x1 x2 v1 r30 r32 r34 r32 s33
        else
          f_M_perform_139 x1 x2 v1 r30 r32 r34 r34 s33
      else
        if x2 = 32 then
          gi v1 400 <|
          lt1 (s.1 35 (Int32.toNatClampNeg v1)) fun v27 =>
          bd1 (f_M_give v27 s) fun s28 =>
          f_M_perform_308 x1 x2 v1 s28
        else
          if x2 = 33 then
            bd (f_M_pull s) fun r25 s24 =>
            gi v1 400 <|
            lt1 (stI s24 35 (Int32.toNatClampNeg v1) r25) fun s26 =>
            f_M_perform_308 x1 x2 v1 s26
          else
            if x2 = 34 then
              lt1 (s.1 0 23 - 1) fun v21 =>
              gi v21 400 <|
              lt1 (s.1 35 (Int32.toNatClampNeg v21)) fun v22 =>
              gi v1 400 <|
              lt1 (stI s 35 (Int32.toNatClampNeg v1) v22) fun s23 =>
              f_M_perform_308 x1 x2 v1 s23
            else
              if x2 = 35 then
                gi x1 250 <|
                lt1 (s.2 15 (Int32.toNatClampNeg x1)) fun v17 =>
                lt1 (Int64.toInt32 v17) fun v18 =>
                gi v18 4 <|
                lt1 (s.1 30 (Int32.toNatClampNeg v18)) fun v19 =>
                bd1 (f_M_give v19 s) fun s20 =>
                f_M_perform_308 x1 x2 v1 s20
              else
                if x2 = 36 then
                  gi x1 250 <|
                  lt1 (s.2 15 (Int32.toNatClampNeg x1)) fun v12 =>
                  lt1 (Int64.toInt32 v12) fun v13 =>
                  bd (f_M_pull s) fun r15 s14 =>
                  gi v13 4 <|
                  lt1 (stI s14 30 (Int32.toNatClampNeg v13) r15) fun s16 =>
                  f_M_perform_308 x1 x2 v1 s16
                else
                  if x2 = 65 then
                    gi x1 250 <|
                    lt1 (s.2 15 (Int32.toNatClampNeg x1)) fun v9 =>
                    lt1 (Int64.toInt32 v9) fun v10 =>
                    bd1 (f_M_give v10 s) fun s11 =>
                    f_M_perform_308 x1 x2 v1 s11
                  else
                    bd1 (f_M_takes x2) fun r2 =>
                    if r2 = 1 then
                      bd (f_M_pull s) fun r6 s5 =>
                      bd1 (f_M_single x2 r6) fun r7 =>
                      bd1 (f_M_give r7 s5) fun s8 =>
                      f_M_perform_308 x1 x2 v1 s8
                    else
                      bd (f_M_both x2 s) fun r4 s3 =>
                      some (r4, s3)
def f_M_perform_80 (x1 : Int32) (x2 : Int32) (y0 : Int32) (s : SM) : Option (Int32 × SM) :=
    f_M_perform_81 x1 x2 y0 0 s
def f_M_perform_37 (x1 : Int32) (x2 : Int32) (s : SM) : Option (Int32 × SM) :=
    lt1 (x1 + 1) fun v1 =>
    gi (s.1 0 22) 9 <|
    lt1 (stI s 33 (Int32.toNatClampNeg (s.1 0 22)) v1) fun s2 =>
    gi (s2.1 0 22) 9 <|
    lt1 (s2.1 34 (Int32.toNatClampNeg (s2.1 0 22))) fun v3 =>
    if x2 ≤ 31 then
      f_M_perform_80 x1 x2 v3 s2
    else
      if 35 ≤ x2 then
        f_M_perform_80 x1 x2 v3 s2
      else
        gi x1 250 <|
        lt1 (s2.2 15 (Int32.toNatClampNeg x1)) fun v4 =>
        lt1 (Int64.toInt32 v4) fun v5 =>
        f_M_perform_81 x1 x2 v3 v5 s2
def f_M_perform (x1 : Int32) (s : SM) : Option (Int32 × SM) :=
    gi x1 250 <|
    lt1 (s.1 14 (Int32.toNatClampNeg x1)) fun v1 =>
    if 17 ≤ v1 then
      if v1 ≤ 39 then
        f_M_perform_37 x1 v1 s
      else
        if 65 ≤ v1 then
          f_M_perform_37 x1 v1 s
        else
          bd (f_M_remember x1 s) fun r3 s2 =>
          some (r3, s2)
    else
      bd (f_M_control x1 s) fun r5 s4 =>
      some (r5, s4)
section WALK
variable {p : Program} {l : Launch} {e : Env} {ss : State} {m : MethodId} {args : Array Value} {below : List Frame} {meth : Method} {c : Code} {Q : State → Prop} {g : GX} {A : Nat → Prop}
set_option maxHeartbeats 4000000 in
set_option maxRecDepth 100000 in
theorem w_M_perform_308 {z : Int32 × SM} (C : Cx g A p m c b_M_perform 7 ss args R_M) (hQ : ∀ (pc : Nat) (H : Heap) (locs : List Loc) (ls : Array Slot), XW g A ss (wM g z.2) H locs → decode b_M_perform pc = .ok (.ireturn, 1) → W p l e (rmX 4 94) ss m args below meth c H locs 0 0 Q (F0 m pc ls [.int z.1])) : ∀ (x1 : Int32) (x2 : Int32) (x3 : Int32) (s : SM) (H : Heap) (locs : List Loc) (ls : Array Slot), XW g A ss (wM g s) H locs → lv_has ls 7 [(0, .ref (g.q 60)), (1, .int x1), (2, .int x2), (3, .int x3)] → f_M_perform_308 x1 x2 x3 s = some z → W p l e (rmX 4 94) ss m args below meth c H locs 0 0 Q (F0 m 308 ls []) := by
  have ⟨⟨hx, hb, hml, hown, hts⟩, hK, hA, hN⟩ := C
  intro x1 x2 x3 s H locs ls hX hl h
  rw [f_M_perform_308] at h
  refine lv_iconst (v := 0) hx hb d_M_perform_308 (by decide) ?_
  obtain rfl := so1 h
  exact hQ _ H locs ls hX d_M_perform_309
set_option maxHeartbeats 4000000 in
set_option maxRecDepth 100000 in
theorem w_M_perform_139 {z : Int32 × SM} (C : Cx g A p m c b_M_perform 7 ss args R_M) (hQ : ∀ (pc : Nat) (H : Heap) (locs : List Loc) (ls : Array Slot), XW g A ss (wM g z.2) H locs → decode b_M_perform pc = .ok (.ireturn, 1) → W p l e (rmX 4 94) ss m args below meth c H locs 0 0 Q (F0 m pc ls [.int z.1])) : ∀ (x1 : Int32) (x2 : Int32) (x3 : Int32) (x4 : Int32) (x5 : Int32) (x6 : Int32) (y1 : Int32) (s : SM) (H : Heap) (locs : List Loc) (ls : Array Slot), XW g A ss (wM g s) H locs → lv_has ls 7 [(0, .ref (g.q 60)), (1, .int x1), (2, .int x2), (3, .int x3), (4, .int x4), (5, .int x5), (6, .int x6)] → f_M_perform_139 x1 x2 x3 x4 x5 x6 y1 s = some z → W p l e (rmX 4 94) ss m args below meth c H locs 0 0 Q (F0 m 139 ls [.int y1, .ref (g.q 60)]) := by
  have ⟨⟨hx, hb, hml, hown, hts⟩, hK, hA, hN⟩ := C
  intro x1 x2 x3 x4 x5 x6 y1 s H locs ls hX hl h
  rw [f_M_perform_139] at h
  obtain ⟨s1, hc139, h⟩ := bd1_e h
  refine x_vV (As := [.int y1]) (rest := []) C hX (c_M_give l g y1 s s1 hc139) (cw_M_368 C.1.2.2.2.2 C.2.2.2 ⟨by decide, by decide⟩) (x_rc C hX vg_0 rfl) rfl hl.1 rfl (lv_room (Nat.le_of_ble_eq_true rfl)) d_M_perform_139 ⟨Nat.le_refl _, Nat.le_refl _⟩ (fun H locs hX => ?_)
  refine lv_goto (tgt := 308) hx hb d_M_perform_142 (by decide) ?_
  exact w_M_perform_308 C hQ x1 x2 x3 s1 H locs ls hX (lv_sub hl [0, 1, 2, 3] rfl) h
set_option maxHeartbeats 4000000 in
set_option maxRecDepth 100000 in
theorem w_M_perform_81 {z : Int32 × SM} (C : Cx g A p m c b_M_perform 7 ss args R_M) (hQ : ∀ (pc : Nat) (H : Heap) (locs : List Loc) (ls : Array Slot), XW g A ss (wM g z.2) H locs → decode b_M_perform pc = .ok (.ireturn, 1) → W p l e (rmX 4 94) ss m args below meth c H locs 0 0 Q (F0 m pc ls [.int z.1])) : ∀ (x1 : Int32) (x2 : Int32) (y0 : Int32) (y1 : Int32) (s : SM) (H : Heap) (locs : List Loc) (ls : Array Slot), XW g A ss (wM g s) H locs → lv_has ls 7 [(0, .ref (g.q 60)), (1, .int x1), (2, .int x2)] → f_M_perform_81 x1 x2 y0 y1 s = some z → W p l e (rmX 4 94) ss m args below meth c H locs 0 0 Q (F0 m 81 ls [.int y1, .int y0]) := by
  have ⟨⟨hx, hb, hml, hown, hts⟩, hK, hA, hN⟩ := C
  intro x1 x2 y0 y1 s H locs ls hX hl h
  rw [f_M_perform_81] at h
  obtain ⟨v1, ev1, h⟩ := lt1_e h
  refine x_iadd hx hb d_M_perform_81 ev1 ?_
  refine lv_istore_n (lv' := [(3, .int v1), (0, .ref (g.q 60)), (1, .int x1), (2, .int x2)]) hx hb d_M_perform_82 rfl hl (by decide) rfl (fun ls hl => ?_)
  refine lv_iload_n hx hb d_M_perform_83 rfl (lv_at hl 3 rfl) ?_
  refine lv_bipush (v := 26) hx hb d_M_perform_84 (by decide) ?_
  refine lv_icmp_ne (tgt := 102) hx hb d_M_perform_86 (by decide) (fun c86 => ?_) (fun c86 => ?_)
  · have h := ite_f c86 h
    refine lv_iload_n hx hb d_M_perform_102 rfl (lv_at hl 3 rfl) ?_
    refine lv_bipush (v := 27) hx hb d_M_perform_103 (by decide) ?_
    refine lv_icmp_ne (tgt := 145) hx hb d_M_perform_105 (by decide) (fun c105 => ?_) (fun c105 => ?_)
    · have h := ite_f c105 h
      refine lv_iload_n hx hb d_M_perform_145 rfl (lv_at hl 3 rfl) ?_
      refine lv_bipush (v := 32) hx hb d_M_perform_146 (by decide) ?_
      refine lv_icmp_ne (tgt := 164) hx hb d_M_perform_148 (by decide) (fun c148 => ?_) (fun c148 => ?_)
      · have h := ite_f c148 h
        refine lv_iload_n hx hb d_M_perform_164 rfl (lv_at hl 3 rfl) ?_
        refine lv_bipush (v := 33) hx hb d_M_perform_165 (by decide) ?_
        refine lv_icmp_ne (tgt := 183) hx hb d_M_perform_167 (by decide) (fun c167 => ?_) (fun c167 => ?_)
        · have h := ite_f c167 h
          refine lv_iload_n hx hb d_M_perform_183 rfl (lv_at hl 3 rfl) ?_
          refine lv_bipush (v := 34) hx hb d_M_perform_184 (by decide) ?_
          refine lv_icmp_ne (tgt := 209) hx hb d_M_perform_186 (by decide) (fun c186 => ?_) (fun c186 => ?_)
          · have h := ite_f c186 h
            refine lv_iload_n hx hb d_M_perform_209 rfl (lv_at hl 3 rfl) ?_
            refine lv_bipush (v := 35) hx hb d_M_perform_210 (by decide) ?_
            refine lv_icmp_ne (tgt := 234) hx hb d_M_perform_212 (by decide) (fun c212 => ?_) (fun c212 => ?_)
            · have h := ite_f c212 h
              refine lv_iload_n hx hb d_M_perform_234 rfl (lv_at hl 3 rfl) ?_
              refine lv_bipush (v := 36) hx hb d_M_perform_235 (by decide) ?_
              refine lv_icmp_ne (tgt := 259) hx hb d_M_perform_237 (by decide) (fun c237 => ?_) (fun c237 => ?_)
              · have h := ite_f c237 h
                refine lv_iload_n hx hb d_M_perform_259 rfl (lv_at hl 3 rfl) ?_
                refine lv_bipush (v := 65) hx hb d_M_perform_260 (by decide) ?_
                refine lv_icmp_ne (tgt := 279) hx hb d_M_perform_262 (by decide) (fun c262 => ?_) (fun c262 => ?_)
                · have h := ite_f c262 h
                  refine lv_iload_n hx hb d_M_perform_279 rfl (lv_at hl 3 rfl) ?_
                  obtain ⟨r2, hc280, h⟩ := bd1_e h
                  refine x_sI (As := [.int x2]) (rest := []) C hX (c_M_takes l g x2 r2 hc280 _) (cw_M_328 C.1.2.2.2.2 C.2.2.2 ⟨by decide, by decide⟩) rfl hl.1 rfl (lv_room (Nat.le_of_ble_eq_true rfl)) d_M_perform_280 ⟨Nat.le_refl _, Nat.le_refl _⟩ (fun H locs hX => ?_)
                  refine lv_iconst (v := 1) hx hb d_M_perform_283 (by decide) ?_
                  refine lv_icmp_ne (tgt := 302) hx hb d_M_perform_284 (by decide) (fun c284 => ?_) (fun c284 => ?_)
                  · have h := ite_f c284 h
                    refine lv_aload_n hx hb d_M_perform_302 rfl (lv_at hl 1 rfl) ?_
                    refine lv_iload_n hx hb d_M_perform_303 rfl (lv_at hl 3 rfl) ?_
                    obtain ⟨r4, s3, hc304, h⟩ := bd_e h
                    refine x_vI (As := [.int x2]) (rest := []) C hX (c_M_both l g x2 s (r4, s3) hc304) (cw_M_374 C.1.2.2.2.2 C.2.2.2 ⟨by decide, by decide⟩) (x_rc C hX vg_0 rfl) rfl hl.1 rfl (lv_room (Nat.le_of_ble_eq_true rfl)) d_M_perform_304 ⟨Nat.le_refl _, Nat.le_refl _⟩ (fun H locs hX => ?_)
                    obtain rfl := so1 h
                    exact hQ _ H locs ls hX d_M_perform_307
                  · have h := ite_t c284 h
                    refine lv_aload_n hx hb d_M_perform_287 rfl (lv_at hl 1 rfl) ?_
                    refine lv_iload_n hx hb d_M_perform_288 rfl (lv_at hl 3 rfl) ?_
                    refine lv_aload_n hx hb d_M_perform_289 rfl (lv_at hl 1 rfl) ?_
                    obtain ⟨r6, s5, hc290, h⟩ := bd_e h
                    refine x_vI (As := []) (rest := [.int x2, .ref (g.q 60)]) C hX (c_M_pull l g s (r6, s5) hc290) (cw_M_365 C.1.2.2.2.2 C.2.2.2 ⟨by decide, by decide⟩) (x_rc C hX vg_0 rfl) rfl hl.1 rfl (lv_room (Nat.le_of_ble_eq_true rfl)) d_M_perform_290 ⟨Nat.le_refl _, Nat.le_refl _⟩ (fun H locs hX => ?_)
                    obtain ⟨r7, hc293, h⟩ := bd1_e h
                    refine x_sI (As := [.int x2, .int r6]) (rest := [.ref (g.q 60)]) C hX (c_M_single l g x2 r6 r7 hc293 _) (cw_M_371 C.1.2.2.2.2 C.2.2.2 ⟨by decide, by decide⟩) rfl hl.1 rfl (lv_room (Nat.le_of_ble_eq_true rfl)) d_M_perform_293 ⟨Nat.le_refl _, Nat.le_refl _⟩ (fun H locs hX => ?_)
                    obtain ⟨s8, hc296, h⟩ := bd1_e h
                    refine x_vV (As := [.int r7]) (rest := []) C hX (c_M_give l g r7 s5 s8 hc296) (cw_M_368 C.1.2.2.2.2 C.2.2.2 ⟨by decide, by decide⟩) (x_rc C hX vg_0 rfl) rfl hl.1 rfl (lv_room (Nat.le_of_ble_eq_true rfl)) d_M_perform_296 ⟨Nat.le_refl _, Nat.le_refl _⟩ (fun H locs hX => ?_)
                    refine lv_goto (tgt := 308) hx hb d_M_perform_299 (by decide) ?_
                    exact w_M_perform_308 C hQ x1 x2 v1 s8 H locs ls hX (lv_sub hl [1, 2, 3, 0] rfl) h
                · have h := ite_t c262 h
                  refine lv_aload_n hx hb d_M_perform_265 rfl (lv_at hl 1 rfl) ?_
                  refine lv_aload_n hx hb d_M_perform_266 rfl (lv_at hl 1 rfl) ?_
                  refine gm_first C hX fl_M_54 d_M_perform_267 ?_
                  refine lv_iload_n hx hb d_M_perform_270 rfl (lv_at hl 2 rfl) ?_
                  obtain ⟨hz271, h⟩ := gi_e h
                  obtain ⟨v9, ev9, h⟩ := lt1_e h
                  refine alm_15 C hX hz271 d_M_perform_271 ev9 ?_
                  obtain ⟨v10, ev10, h⟩ := lt1_e h
                  refine lv_l2i hx hb d_M_perform_272 ev10.symm ?_
                  obtain ⟨s11, hc273, h⟩ := bd1_e h
                  refine x_vV (As := [.int v10]) (rest := []) C hX (c_M_give l g v10 s s11 hc273) (cw_M_368 C.1.2.2.2.2 C.2.2.2 ⟨by decide, by decide⟩) (x_rc C hX vg_0 rfl) rfl hl.1 rfl (lv_room (Nat.le_of_ble_eq_true rfl)) d_M_perform_273 ⟨Nat.le_refl _, Nat.le_refl _⟩ (fun H locs hX => ?_)
                  refine lv_goto (tgt := 308) hx hb d_M_perform_276 (by decide) ?_
                  exact w_M_perform_308 C hQ x1 x2 v1 s11 H locs ls hX (lv_sub hl [1, 2, 3, 0] rfl) h
              · have h := ite_t c237 h
                refine lv_aload_n hx hb d_M_perform_240 rfl (lv_at hl 1 rfl) ?_
                refine gm_global C hX fl_M_99 d_M_perform_241 ?_
                refine lv_aload_n hx hb d_M_perform_244 rfl (lv_at hl 1 rfl) ?_
                refine gm_first C hX fl_M_54 d_M_perform_245 ?_
                refine lv_iload_n hx hb d_M_perform_248 rfl (lv_at hl 2 rfl) ?_
                obtain ⟨hz249, h⟩ := gi_e h
                obtain ⟨v12, ev12, h⟩ := lt1_e h
                refine alm_15 C hX hz249 d_M_perform_249 ev12 ?_
                obtain ⟨v13, ev13, h⟩ := lt1_e h
                refine lv_l2i hx hb d_M_perform_250 ev13.symm ?_
                refine lv_aload_n hx hb d_M_perform_251 rfl (lv_at hl 1 rfl) ?_
                obtain ⟨r15, s14, hc252, h⟩ := bd_e h
                refine x_vI (As := []) (rest := [.int v13, .ref (g.q 90)]) C hX (c_M_pull l g s (r15, s14) hc252) (cw_M_365 C.1.2.2.2.2 C.2.2.2 ⟨by decide, by decide⟩) (x_rc C hX vg_0 rfl) rfl hl.1 rfl (lv_room (Nat.le_of_ble_eq_true rfl)) d_M_perform_252 ⟨Nat.le_refl _, Nat.le_refl _⟩ (fun H locs hX => ?_)
                obtain ⟨hz255, h⟩ := gi_e h
                obtain ⟨s16, es16, h⟩ := lt1_e h
                refine asm_30 C hX hz255 d_M_perform_255 (fun H locs hX => ?_)
                rw [← es16] at hX
                refine lv_goto (tgt := 308) hx hb d_M_perform_256 (by decide) ?_
                exact w_M_perform_308 C hQ x1 x2 v1 s16 H locs ls hX (lv_sub hl [1, 2, 3, 0] rfl) h
            · have h := ite_t c212 h
              refine lv_aload_n hx hb d_M_perform_215 rfl (lv_at hl 1 rfl) ?_
              refine lv_aload_n hx hb d_M_perform_216 rfl (lv_at hl 1 rfl) ?_
              refine gm_global C hX fl_M_99 d_M_perform_217 ?_
              refine lv_aload_n hx hb d_M_perform_220 rfl (lv_at hl 1 rfl) ?_
              refine gm_first C hX fl_M_54 d_M_perform_221 ?_
              refine lv_iload_n hx hb d_M_perform_224 rfl (lv_at hl 2 rfl) ?_
              obtain ⟨hz225, h⟩ := gi_e h
              obtain ⟨v17, ev17, h⟩ := lt1_e h
              refine alm_15 C hX hz225 d_M_perform_225 ev17 ?_
              obtain ⟨v18, ev18, h⟩ := lt1_e h
              refine lv_l2i hx hb d_M_perform_226 ev18.symm ?_
              obtain ⟨hz227, h⟩ := gi_e h
              obtain ⟨v19, ev19, h⟩ := lt1_e h
              refine alm_30 C hX hz227 d_M_perform_227 ev19 ?_
              obtain ⟨s20, hc228, h⟩ := bd1_e h
              refine x_vV (As := [.int v19]) (rest := []) C hX (c_M_give l g v19 s s20 hc228) (cw_M_368 C.1.2.2.2.2 C.2.2.2 ⟨by decide, by decide⟩) (x_rc C hX vg_0 rfl) rfl hl.1 rfl (lv_room (Nat.le_of_ble_eq_true rfl)) d_M_perform_228 ⟨Nat.le_refl _, Nat.le_refl _⟩ (fun H locs hX => ?_)
              refine lv_goto (tgt := 308) hx hb d_M_perform_231 (by decide) ?_
              exact w_M_perform_308 C hQ x1 x2 v1 s20 H locs ls hX (lv_sub hl [1, 2, 3, 0] rfl) h
          · have h := ite_t c186 h
            refine lv_aload_n hx hb d_M_perform_189 rfl (lv_at hl 1 rfl) ?_
            refine gm_stack C hX fl_M_114 d_M_perform_190 ?_
            refine lv_iload_n hx hb d_M_perform_193 rfl (lv_at hl 0 rfl) ?_
            refine lv_aload_n hx hb d_M_perform_194 rfl (lv_at hl 1 rfl) ?_
            refine gm_stack C hX fl_M_114 d_M_perform_195 ?_
            refine lv_aload_n hx hb d_M_perform_198 rfl (lv_at hl 1 rfl) ?_
            refine gm_sp C hX fl_M_343 d_M_perform_199 ?_
            refine lv_iconst (v := 1) hx hb d_M_perform_202 (by decide) ?_
            obtain ⟨v21, ev21, h⟩ := lt1_e h
            refine x_isub hx hb d_M_perform_203 ev21 ?_
            obtain ⟨hz204, h⟩ := gi_e h
            obtain ⟨v22, ev22, h⟩ := lt1_e h
            refine alm_35 C hX hz204 d_M_perform_204 ev22 ?_
            obtain ⟨hz205, h⟩ := gi_e h
            obtain ⟨s23, es23, h⟩ := lt1_e h
            refine asm_35 C hX hz205 d_M_perform_205 (fun H locs hX => ?_)
            rw [← es23] at hX
            refine lv_goto (tgt := 308) hx hb d_M_perform_206 (by decide) ?_
            exact w_M_perform_308 C hQ x1 x2 v1 s23 H locs ls hX (lv_sub hl [1, 2, 3, 0] rfl) h
        · have h := ite_t c167 h
          refine lv_aload_n hx hb d_M_perform_170 rfl (lv_at hl 1 rfl) ?_
          refine gm_stack C hX fl_M_114 d_M_perform_171 ?_
          refine lv_iload_n hx hb d_M_perform_174 rfl (lv_at hl 0 rfl) ?_
          refine lv_aload_n hx hb d_M_perform_175 rfl (lv_at hl 1 rfl) ?_
          obtain ⟨r25, s24, hc176, h⟩ := bd_e h
          refine x_vI (As := []) (rest := [.int v1, .ref (g.q 95)]) C hX (c_M_pull l g s (r25, s24) hc176) (cw_M_365 C.1.2.2.2.2 C.2.2.2 ⟨by decide, by decide⟩) (x_rc C hX vg_0 rfl) rfl hl.1 rfl (lv_room (Nat.le_of_ble_eq_true rfl)) d_M_perform_176 ⟨Nat.le_refl _, Nat.le_refl _⟩ (fun H locs hX => ?_)
          obtain ⟨hz179, h⟩ := gi_e h
          obtain ⟨s26, es26, h⟩ := lt1_e h
          refine asm_35 C hX hz179 d_M_perform_179 (fun H locs hX => ?_)
          rw [← es26] at hX
          refine lv_goto (tgt := 308) hx hb d_M_perform_180 (by decide) ?_
          exact w_M_perform_308 C hQ x1 x2 v1 s26 H locs ls hX (lv_sub hl [1, 2, 3, 0] rfl) h
      · have h := ite_t c148 h
        refine lv_aload_n hx hb d_M_perform_151 rfl (lv_at hl 1 rfl) ?_
        refine lv_aload_n hx hb d_M_perform_152 rfl (lv_at hl 1 rfl) ?_
        refine gm_stack C hX fl_M_114 d_M_perform_153 ?_
        refine lv_iload_n hx hb d_M_perform_156 rfl (lv_at hl 0 rfl) ?_
        obtain ⟨hz157, h⟩ := gi_e h
        obtain ⟨v27, ev27, h⟩ := lt1_e h
        refine alm_35 C hX hz157 d_M_perform_157 ev27 ?_
        obtain ⟨s28, hc158, h⟩ := bd1_e h
        refine x_vV (As := [.int v27]) (rest := []) C hX (c_M_give l g v27 s s28 hc158) (cw_M_368 C.1.2.2.2.2 C.2.2.2 ⟨by decide, by decide⟩) (x_rc C hX vg_0 rfl) rfl hl.1 rfl (lv_room (Nat.le_of_ble_eq_true rfl)) d_M_perform_158 ⟨Nat.le_refl _, Nat.le_refl _⟩ (fun H locs hX => ?_)
        refine lv_goto (tgt := 308) hx hb d_M_perform_161 (by decide) ?_
        exact w_M_perform_308 C hQ x1 x2 v1 s28 H locs ls hX (lv_sub hl [1, 2, 3, 0] rfl) h
    · have h := ite_t c105 h
      refine lv_aload_n hx hb d_M_perform_108 rfl (lv_at hl 1 rfl) ?_
      obtain ⟨r30, s29, hc109, h⟩ := bd_e h
      refine x_vI (As := []) (rest := []) C hX (c_M_pull l g s (r30, s29) hc109) (cw_M_365 C.1.2.2.2.2 C.2.2.2 ⟨by decide, by decide⟩) (x_rc C hX vg_0 rfl) rfl hl.1 rfl (lv_room (Nat.le_of_ble_eq_true rfl)) d_M_perform_109 ⟨Nat.le_refl _, Nat.le_refl _⟩ (fun H locs hX => ?_)
      refine lv_istore (lv' := [(4, .int r30), (3, .int v1), (0, .ref (g.q 60)), (1, .int x1), (2, .int x2)]) hx hb d_M_perform_112 hl (by decide) rfl (fun ls hl => ?_)
      refine lv_aload_n hx hb d_M_perform_114 rfl (lv_at hl 2 rfl) ?_
      obtain ⟨r32, s31, hc115, h⟩ := bd_e h
      refine x_vI (As := []) (rest := []) C hX (c_M_pull l g s29 (r32, s31) hc115) (cw_M_365 C.1.2.2.2.2 C.2.2.2 ⟨by decide, by decide⟩) (x_rc C hX vg_0 rfl) rfl hl.1 rfl (lv_room (Nat.le_of_ble_eq_true rfl)) d_M_perform_115 ⟨Nat.le_refl _, Nat.le_refl _⟩ (fun H locs hX => ?_)
      refine lv_istore (lv' := [(5, .int r32), (4, .int r30), (3, .int v1), (0, .ref (g.q 60)), (1, .int x1), (2, .int x2)]) hx hb d_M_perform_118 hl (by decide) rfl (fun ls hl => ?_)
      refine lv_aload_n hx hb d_M_perform_120 rfl (lv_at hl 3 rfl) ?_
      obtain ⟨r34, s33, hc121, h⟩ := bd_e h
      refine x_vI (As := []) (rest := []) C hX (c_M_pull l g s31 (r34, s33) hc121) (cw_M_365 C.1.2.2.2.2 C.2.2.2 ⟨by decide, by decide⟩) (x_rc C hX vg_0 rfl) rfl hl.1 rfl (lv_room (Nat.le_of_ble_eq_true rfl)) d_M_perform_121 ⟨Nat.le_refl _, Nat.le_refl _⟩ (fun H locs hX => ?_)
      refine lv_istore (lv' := [(6, .int r34), (5, .int r32), (4, .int r30), (3, .int v1), (0, .ref (g.q 60)), (1, .int x1), (2, .int x2)]) hx hb d_M_perform_124 hl (by decide) rfl (fun ls hl => ?_)
      refine lv_aload_n hx hb d_M_perform_126 rfl (lv_at hl 4 rfl) ?_
      refine lv_iload hx hb d_M_perform_127 (lv_at hl 2 rfl) ?_
      refine lv_if_eq (tgt := 137) hx hb d_M_perform_129 (by decide) (fun c129 => ?_) (fun c129 => ?_)
      · have h := ite_t c129 h
        refine lv_iload hx hb d_M_perform_137 (lv_at hl 1 rfl) ?_
        exact w_M_perform_139 C hQ x1 x2 v1 r30 r32 r34 r32 s33 H locs ls hX (lv_sub hl [4, 5, 6, 3, 2, 1, 0] rfl) h
      · have h := ite_f c129 h
        refine lv_iload hx hb d_M_perform_132 (lv_at hl 0 rfl) ?_
        refine lv_goto (tgt := 139) hx hb d_M_perform_134 (by decide) ?_
        exact w_M_perform_139 C hQ x1 x2 v1 r30 r32 r34 r34 s33 H locs ls hX (lv_sub hl [4, 5, 6, 3, 2, 1, 0] rfl) h
  · have h := ite_t c86 h
    refine lv_aload_n hx hb d_M_perform_89 rfl (lv_at hl 1 rfl) ?_
    refine lv_dup hx hb d_M_perform_90 rfl ?_
    refine gm_sp C hX fl_M_343 d_M_perform_91 ?_
    refine lv_iconst (v := 1) hx hb d_M_perform_94 (by decide) ?_
    obtain ⟨v35, ev35, h⟩ := lt1_e h
    refine x_isub hx hb d_M_perform_95 ev35 ?_
    obtain ⟨s36, es36, h⟩ := lt1_e h
    refine pm_sp C hX fl_M_343 d_M_perform_96 (fun H locs hX => ?_)
    rw [← es36] at hX
    refine lv_goto (tgt := 308) hx hb d_M_perform_99 (by decide) ?_
    exact w_M_perform_308 C hQ x1 x2 v1 s36 H locs ls hX (lv_sub hl [1, 2, 3, 0] rfl) h
set_option maxHeartbeats 4000000 in
set_option maxRecDepth 100000 in
theorem w_M_perform_80 {z : Int32 × SM} (C : Cx g A p m c b_M_perform 7 ss args R_M) (hQ : ∀ (pc : Nat) (H : Heap) (locs : List Loc) (ls : Array Slot), XW g A ss (wM g z.2) H locs → decode b_M_perform pc = .ok (.ireturn, 1) → W p l e (rmX 4 94) ss m args below meth c H locs 0 0 Q (F0 m pc ls [.int z.1])) : ∀ (x1 : Int32) (x2 : Int32) (y0 : Int32) (s : SM) (H : Heap) (locs : List Loc) (ls : Array Slot), XW g A ss (wM g s) H locs → lv_has ls 7 [(0, .ref (g.q 60)), (1, .int x1), (2, .int x2)] → f_M_perform_80 x1 x2 y0 s = some z → W p l e (rmX 4 94) ss m args below meth c H locs 0 0 Q (F0 m 80 ls [.int y0]) := by
  have ⟨⟨hx, hb, hml, hown, hts⟩, hK, hA, hN⟩ := C
  intro x1 x2 y0 s H locs ls hX hl h
  rw [f_M_perform_80] at h
  refine lv_iconst (v := 0) hx hb d_M_perform_80 (by decide) ?_
  exact w_M_perform_81 C hQ x1 x2 y0 0 s H locs ls hX hl h
set_option maxHeartbeats 4000000 in
set_option maxRecDepth 100000 in
theorem w_M_perform_37 {z : Int32 × SM} (C : Cx g A p m c b_M_perform 7 ss args R_M) (hQ : ∀ (pc : Nat) (H : Heap) (locs : List Loc) (ls : Array Slot), XW g A ss (wM g z.2) H locs → decode b_M_perform pc = .ok (.ireturn, 1) → W p l e (rmX 4 94) ss m args below meth c H locs 0 0 Q (F0 m pc ls [.int z.1])) : ∀ (x1 : Int32) (x2 : Int32) (s : SM) (H : Heap) (locs : List Loc) (ls : Array Slot), XW g A ss (wM g s) H locs → lv_has ls 7 [(0, .ref (g.q 60)), (1, .int x1), (2, .int x2)] → f_M_perform_37 x1 x2 s = some z → W p l e (rmX 4 94) ss m args below meth c H locs 0 0 Q (F0 m 37 ls []) := by
  have ⟨⟨hx, hb, hml, hown, hts⟩, hK, hA, hN⟩ := C
  intro x1 x2 s H locs ls hX hl h
  rw [f_M_perform_37] at h
  refine lv_aload_n hx hb d_M_perform_37 rfl (lv_at hl 0 rfl) ?_
  refine gm_place C hX fl_M_108 d_M_perform_38 ?_
  refine lv_aload_n hx hb d_M_perform_41 rfl (lv_at hl 0 rfl) ?_
  refine gm_calls C hX fl_M_340 d_M_perform_42 ?_
  refine lv_iload_n hx hb d_M_perform_45 rfl (lv_at hl 1 rfl) ?_
  refine lv_iconst (v := 1) hx hb d_M_perform_46 (by decide) ?_
  obtain ⟨v1, ev1, h⟩ := lt1_e h
  refine x_iadd hx hb d_M_perform_47 ev1 ?_
  obtain ⟨hz48, h⟩ := gi_e h
  obtain ⟨s2, es2, h⟩ := lt1_e h
  refine asm_33 C hX hz48 d_M_perform_48 (fun H locs hX => ?_)
  rw [← es2] at hX
  refine lv_aload_n hx hb d_M_perform_49 rfl (lv_at hl 0 rfl) ?_
  refine gm_localsAt C hX fl_M_111 d_M_perform_50 ?_
  refine lv_aload_n hx hb d_M_perform_53 rfl (lv_at hl 0 rfl) ?_
  refine gm_calls C hX fl_M_340 d_M_perform_54 ?_
  obtain ⟨hz57, h⟩ := gi_e h
  obtain ⟨v3, ev3, h⟩ := lt1_e h
  refine alm_34 C hX hz57 d_M_perform_57 ev3 ?_
  refine lv_iload_n hx hb d_M_perform_58 rfl (lv_at hl 2 rfl) ?_
  refine lv_bipush (v := 31) hx hb d_M_perform_59 (by decide) ?_
  refine lv_icmp_le (tgt := 80) hx hb d_M_perform_61 (by decide) (fun c61 => ?_) (fun c61 => ?_)
  · have h := ite_t c61 h
    exact w_M_perform_80 C hQ x1 x2 v3 s2 H locs ls hX hl h
  · have h := ite_f c61 h
    refine lv_iload_n hx hb d_M_perform_64 rfl (lv_at hl 2 rfl) ?_
    refine lv_bipush (v := 35) hx hb d_M_perform_65 (by decide) ?_
    refine lv_icmp_ge (tgt := 80) hx hb d_M_perform_67 (by decide) (fun c67 => ?_) (fun c67 => ?_)
    · have h := ite_t c67 h
      exact w_M_perform_80 C hQ x1 x2 v3 s2 H locs ls hX hl h
    · have h := ite_f c67 h
      refine lv_aload_n hx hb d_M_perform_70 rfl (lv_at hl 0 rfl) ?_
      refine gm_first C hX fl_M_54 d_M_perform_71 ?_
      refine lv_iload_n hx hb d_M_perform_74 rfl (lv_at hl 1 rfl) ?_
      obtain ⟨hz75, h⟩ := gi_e h
      obtain ⟨v4, ev4, h⟩ := lt1_e h
      refine alm_15 C hX hz75 d_M_perform_75 ev4 ?_
      obtain ⟨v5, ev5, h⟩ := lt1_e h
      refine lv_l2i hx hb d_M_perform_76 ev5.symm ?_
      refine lv_goto (tgt := 81) hx hb d_M_perform_77 (by decide) ?_
      exact w_M_perform_81 C hQ x1 x2 v3 v5 s2 H locs ls hX hl h
set_option maxHeartbeats 4000000 in
set_option maxRecDepth 100000 in
theorem w_M_perform {z : Int32 × SM} (C : Cx g A p m c b_M_perform 7 ss args R_M) (hQ : ∀ (pc : Nat) (H : Heap) (locs : List Loc) (ls : Array Slot), XW g A ss (wM g z.2) H locs → decode b_M_perform pc = .ok (.ireturn, 1) → W p l e (rmX 4 94) ss m args below meth c H locs 0 0 Q (F0 m pc ls [.int z.1])) : ∀ (x1 : Int32) (s : SM) (H : Heap) (locs : List Loc) (ls : Array Slot), XW g A ss (wM g s) H locs → lv_has ls 7 [(0, .ref (g.q 60)), (1, .int x1)] → f_M_perform x1 s = some z → W p l e (rmX 4 94) ss m args below meth c H locs 0 0 Q (F0 m 0 ls []) := by
  have ⟨⟨hx, hb, hml, hown, hts⟩, hK, hA, hN⟩ := C
  intro x1 s H locs ls hX hl h
  rw [f_M_perform] at h
  refine lv_aload_n hx hb d_M_perform_0 rfl (lv_at hl 0 rfl) ?_
  refine gm_op C hX fl_M_51 d_M_perform_1 ?_
  refine lv_iload_n hx hb d_M_perform_4 rfl (lv_at hl 1 rfl) ?_
  obtain ⟨hz5, h⟩ := gi_e h
  obtain ⟨v1, ev1, h⟩ := lt1_e h
  refine alm_14 C hX hz5 d_M_perform_5 ev1 ?_
  refine lv_istore_n (lv' := [(2, .int v1), (0, .ref (g.q 60)), (1, .int x1)]) hx hb d_M_perform_6 rfl hl (by decide) rfl (fun ls hl => ?_)
  refine lv_iload_n hx hb d_M_perform_7 rfl (lv_at hl 0 rfl) ?_
  refine lv_bipush (v := 17) hx hb d_M_perform_8 (by decide) ?_
  refine lv_icmp_ge (tgt := 19) hx hb d_M_perform_10 (by decide) (fun c10 => ?_) (fun c10 => ?_)
  · have h := ite_t c10 h
    refine lv_iload_n hx hb d_M_perform_19 rfl (lv_at hl 0 rfl) ?_
    refine lv_bipush (v := 39) hx hb d_M_perform_20 (by decide) ?_
    refine lv_icmp_le (tgt := 37) hx hb d_M_perform_22 (by decide) (fun c22 => ?_) (fun c22 => ?_)
    · have h := ite_t c22 h
      exact w_M_perform_37 C hQ x1 v1 s H locs ls hX (lv_sub hl [1, 2, 0] rfl) h
    · have h := ite_f c22 h
      refine lv_iload_n hx hb d_M_perform_25 rfl (lv_at hl 0 rfl) ?_
      refine lv_bipush (v := 65) hx hb d_M_perform_26 (by decide) ?_
      refine lv_icmp_ge (tgt := 37) hx hb d_M_perform_28 (by decide) (fun c28 => ?_) (fun c28 => ?_)
      · have h := ite_t c28 h
        exact w_M_perform_37 C hQ x1 v1 s H locs ls hX (lv_sub hl [1, 2, 0] rfl) h
      · have h := ite_f c28 h
        refine lv_aload_n hx hb d_M_perform_31 rfl (lv_at hl 1 rfl) ?_
        refine lv_iload_n hx hb d_M_perform_32 rfl (lv_at hl 2 rfl) ?_
        obtain ⟨r3, s2, hc33, h⟩ := bd_e h
        refine x_vI (As := [.int x1]) (rest := []) C hX (c_M_remember l g x1 s (r3, s2) hc33) (cw_M_362 C.1.2.2.2.2 C.2.2.2 ⟨by decide, by decide⟩) (x_rc C hX vg_0 rfl) rfl hl.1 rfl (lv_room (Nat.le_of_ble_eq_true rfl)) d_M_perform_33 ⟨Nat.le_refl _, Nat.le_refl _⟩ (fun H locs hX => ?_)
        obtain rfl := so1 h
        exact hQ _ H locs ls hX d_M_perform_36
  · have h := ite_f c10 h
    refine lv_aload_n hx hb d_M_perform_13 rfl (lv_at hl 1 rfl) ?_
    refine lv_iload_n hx hb d_M_perform_14 rfl (lv_at hl 2 rfl) ?_
    obtain ⟨r5, s4, hc15, h⟩ := bd_e h
    refine x_vI (As := [.int x1]) (rest := []) C hX (c_M_control l g x1 s (r5, s4) hc15) (cw_M_359 C.1.2.2.2.2 C.2.2.2 ⟨by decide, by decide⟩) (x_rc C hX vg_0 rfl) rfl hl.1 rfl (lv_room (Nat.le_of_ble_eq_true rfl)) d_M_perform_15 ⟨Nat.le_refl _, Nat.le_refl _⟩ (fun H locs hX => ?_)
    obtain rfl := so1 h
    exact hQ _ H locs ls hX d_M_perform_18
end WALK
theorem c_M_perform (l : Launch) (g : GX) (x1 : Int32) (s : SM) (z : Int32 × SM) (h : f_M_perform x1 s = some z) : MI l g y_M_perform b_M_perform 7 (some .int) 4 94 [.ref (g.q 60), .int x1] (wM g s) z.1 (wM g z.2) :=
  MI.mk (own := R_M) (by decide) rfl (Nat.le_of_ble_eq_true rfl) fun p e ss m below meth c A Q C hQ ls hX hl => w_M_perform C hQ x1 s _ _ ls hX hl h
-- M_run
def f_M_run_106 (x1 : Int32) (x2 : Int32) (x3 : Int32) (y0 : Int32) (s : SM) : Option (Int32 × SM) :=
    some (y0, s)
def f_M_run_94 (x1 : Int32) (x2 : Int32) (x3 : Int32) (s : SM) : Option (Int32 × SM) :=
    if s.1 0 20 = 0 then
      f_M_run_106 x1 x2 x3 1 s
    else
      f_M_run_106 x1 x2 x3 0 s
def f_M_run_39 : Nat → Int32 → Int32 → Int32 → SM → Option (Int32 × SM)
  | 0, _, _, _, _ => none
  | n + 1, x1, x2, x3, s =>
    if x2 ≤ x3 then
      f_M_run_94 x1 x2 x3 s
    else
      if s.1 0 20 = 0 then
        f_M_run_94 x1 x2 x3 s
      else
        gi (s.1 0 22) 9 <|
        lt1 (s.1 33 (Int32.toNatClampNeg (s.1 0 22))) fun v1 =>
        bd (f_M_perform v1 s) fun r3 s2 =>
        if r3 ≤ 0 then
          bd1 (f_M_settle s2) fun s4 =>
          lt1 (x3 + (1)) fun v5 =>
          f_M_run_39 n x1 x2 v5 s4
        else
          lt1 (stI s2 0 20 0) fun s6 =>
          lt1 (stI s6 0 21 0) fun s7 =>
          some (r3, s7)
def f_M_run_36 (x1 : Int32) (y0 : Int32) (s : SM) : Option (Int32 × SM) :=
    f_M_run_39 FU x1 y0 0 s
def f_M_run_16 (x1 : Int32) (s : SM) : Option (Int32 × SM) :=
    some ((-1), s)
def f_M_run (x1 : Int32) (s : SM) : Option (Int32 × SM) :=
    lt1 (stI s 0 0 0) fun s1 =>
    if s1.1 0 20 = 0 then
      f_M_run_16 x1 s1
    else
      if 0 ≤ x1 then
        bd1 (f_M_settle s1) fun s2 =>
        if x1 ≤ 100000 then
          f_M_run_36 x1 x1 s2
        else
          f_M_run_36 x1 100000 s2
      else
        f_M_run_16 x1 s1
section WALK
variable {p : Program} {l : Launch} {e : Env} {ss : State} {m : MethodId} {args : Array Value} {below : List Frame} {meth : Method} {c : Code} {Q : State → Prop} {g : GX} {A : Nat → Prop}
set_option maxHeartbeats 4000000 in
set_option maxRecDepth 100000 in
theorem w_M_run_106 {z : Int32 × SM} (C : Cx g A p m c b_M_run 5 ss args R_M) (hQ : ∀ (pc : Nat) (H : Heap) (locs : List Loc) (ls : Array Slot), XW g A ss (wM g z.2) H locs → decode b_M_run pc = .ok (.ireturn, 1) → W p l e (rmX 5 120) ss m args below meth c H locs 0 0 Q (F0 m pc ls [.int z.1])) : ∀ (x1 : Int32) (x2 : Int32) (x3 : Int32) (y0 : Int32) (s : SM) (H : Heap) (locs : List Loc) (ls : Array Slot), XW g A ss (wM g s) H locs → lv_has ls 5 [(0, .ref (g.q 60)), (1, .int x1), (2, .int x2), (3, .int x3)] → f_M_run_106 x1 x2 x3 y0 s = some z → W p l e (rmX 5 120) ss m args below meth c H locs 0 0 Q (F0 m 106 ls [.int y0]) := by
  have ⟨⟨hx, hb, hml, hown, hts⟩, hK, hA, hN⟩ := C
  intro x1 x2 x3 y0 s H locs ls hX hl h
  rw [f_M_run_106] at h
  obtain rfl := so1 h
  exact hQ _ H locs ls hX d_M_run_106
set_option maxHeartbeats 4000000 in
set_option maxRecDepth 100000 in
theorem w_M_run_94 {z : Int32 × SM} (C : Cx g A p m c b_M_run 5 ss args R_M) (hQ : ∀ (pc : Nat) (H : Heap) (locs : List Loc) (ls : Array Slot), XW g A ss (wM g z.2) H locs → decode b_M_run pc = .ok (.ireturn, 1) → W p l e (rmX 5 120) ss m args below meth c H locs 0 0 Q (F0 m pc ls [.int z.1])) : ∀ (x1 : Int32) (x2 : Int32) (x3 : Int32) (s : SM) (H : Heap) (locs : List Loc) (ls : Array Slot), XW g A ss (wM g s) H locs → lv_has ls 5 [(0, .ref (g.q 60)), (1, .int x1), (2, .int x2), (3, .int x3)] → f_M_run_94 x1 x2 x3 s = some z → W p l e (rmX 5 120) ss m args below meth c H locs 0 0 Q (F0 m 94 ls []) := by
  have ⟨⟨hx, hb, hml, hown, hts⟩, hK, hA, hN⟩ := C
  intro x1 x2 x3 s H locs ls hX hl h
  rw [f_M_run_94] at h
  refine lv_aload_n hx hb d_M_run_94 rfl (lv_at hl 0 rfl) ?_
  refine gm_runs C hX fl_M_134 d_M_run_95 ?_
  refine lv_if_eq (tgt := 105) hx hb d_M_run_98 (by decide) (fun c98 => ?_) (fun c98 => ?_)
  · have h := ite_t c98 h
    refine lv_iconst (v := 1) hx hb d_M_run_105 (by decide) ?_
    exact w_M_run_106 C hQ x1 x2 x3 1 s H locs ls hX hl h
  · have h := ite_f c98 h
    refine lv_iconst (v := 0) hx hb d_M_run_101 (by decide) ?_
    refine lv_goto (tgt := 106) hx hb d_M_run_102 (by decide) ?_
    exact w_M_run_106 C hQ x1 x2 x3 0 s H locs ls hX hl h
set_option maxHeartbeats 4000000 in
set_option maxRecDepth 100000 in
theorem w_M_run_39 {z : Int32 × SM} (C : Cx g A p m c b_M_run 5 ss args R_M) (hQ : ∀ (pc : Nat) (H : Heap) (locs : List Loc) (ls : Array Slot), XW g A ss (wM g z.2) H locs → decode b_M_run pc = .ok (.ireturn, 1) → W p l e (rmX 5 120) ss m args below meth c H locs 0 0 Q (F0 m pc ls [.int z.1])) (n : Nat) : ∀ (x1 : Int32) (x2 : Int32) (x3 : Int32) (s : SM) (H : Heap) (locs : List Loc) (ls : Array Slot), XW g A ss (wM g s) H locs → lv_has ls 5 [(0, .ref (g.q 60)), (1, .int x1), (2, .int x2), (3, .int x3)] → f_M_run_39 n x1 x2 x3 s = some z → W p l e (rmX 5 120) ss m args below meth c H locs 0 0 Q (F0 m 39 ls []) := by
  have ⟨⟨hx, hb, hml, hown, hts⟩, hK, hA, hN⟩ := C
  induction n with
  | zero => intro x1 x2 x3 s H locs ls hX hl h; cases h
  | succ n ih =>
    intro x1 x2 x3 s H locs ls hX hl h
    rw [f_M_run_39] at h
    refine lv_iload_n hx hb d_M_run_39 rfl (lv_at hl 3 rfl) ?_
    refine lv_iload_n hx hb d_M_run_40 rfl (lv_at hl 2 rfl) ?_
    refine lv_icmp_ge (tgt := 94) hx hb d_M_run_41 (by decide) (fun c41 => ?_) (fun c41 => ?_)
    · have h := ite_t c41 h
      exact w_M_run_94 C hQ x1 x2 x3 s H locs ls hX hl h
    · have h := ite_f c41 h
      refine lv_aload_n hx hb d_M_run_44 rfl (lv_at hl 0 rfl) ?_
      refine gm_runs C hX fl_M_134 d_M_run_45 ?_
      refine lv_if_eq (tgt := 94) hx hb d_M_run_48 (by decide) (fun c48 => ?_) (fun c48 => ?_)
      · have h := ite_t c48 h
        exact w_M_run_94 C hQ x1 x2 x3 s H locs ls hX hl h
      · have h := ite_f c48 h
        refine lv_aload_n hx hb d_M_run_51 rfl (lv_at hl 0 rfl) ?_
        refine lv_aload_n hx hb d_M_run_52 rfl (lv_at hl 0 rfl) ?_
        refine gm_place C hX fl_M_108 d_M_run_53 ?_
        refine lv_aload_n hx hb d_M_run_56 rfl (lv_at hl 0 rfl) ?_
        refine gm_calls C hX fl_M_340 d_M_run_57 ?_
        obtain ⟨hz60, h⟩ := gi_e h
        obtain ⟨v1, ev1, h⟩ := lt1_e h
        refine alm_33 C hX hz60 d_M_run_60 ev1 ?_
        obtain ⟨r3, s2, hc61, h⟩ := bd_e h
        refine x_vI (As := [.int v1]) (rest := []) C hX (c_M_perform l g v1 s (r3, s2) hc61) (cw_M_356 C.1.2.2.2.2 C.2.2.2 ⟨by decide, by decide⟩) (x_rc C hX vg_0 rfl) rfl hl.1 rfl (lv_room (Nat.le_of_ble_eq_true rfl)) d_M_run_61 ⟨Nat.le_refl _, Nat.le_refl _⟩ (fun H locs hX => ?_)
        refine lv_istore (lv' := [(4, .int r3), (0, .ref (g.q 60)), (1, .int x1), (2, .int x2), (3, .int x3)]) hx hb d_M_run_64 hl (by decide) rfl (fun ls hl => ?_)
        refine lv_iload hx hb d_M_run_66 (lv_at hl 0 rfl) ?_
        refine lv_if_le (tgt := 84) hx hb d_M_run_68 (by decide) (fun c68 => ?_) (fun c68 => ?_)
        · have h := ite_t c68 h
          refine lv_aload_n hx hb d_M_run_84 rfl (lv_at hl 1 rfl) ?_
          obtain ⟨s4, hc85, h⟩ := bd1_e h
          refine x_vV (As := []) (rest := []) C hX (c_M_settle l g s2 s4 hc85) (cw_M_352 C.1.2.2.2.2 C.2.2.2 ⟨by decide, by decide⟩) (x_rc C hX vg_0 rfl) rfl hl.1 rfl (lv_room (Nat.le_of_ble_eq_true rfl)) d_M_run_85 ⟨Nat.le_refl _, Nat.le_refl _⟩ (fun H locs hX => ?_)
          obtain ⟨v5, ev5, h⟩ := lt1_e h
          refine lv_iinc (v := v5) (lv' := [(3, .int v5), (4, .int r3), (0, .ref (g.q 60)), (1, .int x1), (2, .int x2)]) hx hb d_M_run_88 hl (k := 4) rfl (by rw [ev5]; rfl) (by decide) rfl (fun ls hl => ?_)
          refine lv_goto (tgt := 39) hx hb d_M_run_91 (by decide) ?_
          exact ih x1 x2 v5 s4 H locs ls hX (lv_sub hl [2, 3, 4, 0] rfl) h
        · have h := ite_f c68 h
          refine lv_aload_n hx hb d_M_run_71 rfl (lv_at hl 1 rfl) ?_
          refine lv_iconst (v := 0) hx hb d_M_run_72 (by decide) ?_
          obtain ⟨s6, es6, h⟩ := lt1_e h
          refine pm_runs C hX fl_M_134 (Or.inl rfl) d_M_run_73 (fun H locs hX => ?_)
          rw [← es6] at hX
          refine lv_aload_n hx hb d_M_run_76 rfl (lv_at hl 1 rfl) ?_
          refine lv_iconst (v := 0) hx hb d_M_run_77 (by decide) ?_
          obtain ⟨s7, es7, h⟩ := lt1_e h
          refine pm_result C hX fl_M_137 d_M_run_78 (fun H locs hX => ?_)
          rw [← es7] at hX
          refine lv_iload hx hb d_M_run_81 (lv_at hl 0 rfl) ?_
          obtain rfl := so1 h
          exact hQ _ H locs ls hX d_M_run_83
set_option maxHeartbeats 4000000 in
set_option maxRecDepth 100000 in
theorem w_M_run_36 {z : Int32 × SM} (C : Cx g A p m c b_M_run 5 ss args R_M) (hQ : ∀ (pc : Nat) (H : Heap) (locs : List Loc) (ls : Array Slot), XW g A ss (wM g z.2) H locs → decode b_M_run pc = .ok (.ireturn, 1) → W p l e (rmX 5 120) ss m args below meth c H locs 0 0 Q (F0 m pc ls [.int z.1])) : ∀ (x1 : Int32) (y0 : Int32) (s : SM) (H : Heap) (locs : List Loc) (ls : Array Slot), XW g A ss (wM g s) H locs → lv_has ls 5 [(0, .ref (g.q 60)), (1, .int x1)] → f_M_run_36 x1 y0 s = some z → W p l e (rmX 5 120) ss m args below meth c H locs 0 0 Q (F0 m 36 ls [.int y0]) := by
  have ⟨⟨hx, hb, hml, hown, hts⟩, hK, hA, hN⟩ := C
  intro x1 y0 s H locs ls hX hl h
  rw [f_M_run_36] at h
  refine lv_istore_n (lv' := [(2, .int y0), (0, .ref (g.q 60)), (1, .int x1)]) hx hb d_M_run_36 rfl hl (by decide) rfl (fun ls hl => ?_)
  refine lv_iconst (v := 0) hx hb d_M_run_37 (by decide) ?_
  refine lv_istore_n (lv' := [(3, .int 0), (2, .int y0), (0, .ref (g.q 60)), (1, .int x1)]) hx hb d_M_run_38 rfl hl (by decide) rfl (fun ls hl => ?_)
  exact w_M_run_39 C hQ FU x1 y0 0 s H locs ls hX (lv_sub hl [2, 3, 1, 0] rfl) h
set_option maxHeartbeats 4000000 in
set_option maxRecDepth 100000 in
theorem w_M_run_16 {z : Int32 × SM} (C : Cx g A p m c b_M_run 5 ss args R_M) (hQ : ∀ (pc : Nat) (H : Heap) (locs : List Loc) (ls : Array Slot), XW g A ss (wM g z.2) H locs → decode b_M_run pc = .ok (.ireturn, 1) → W p l e (rmX 5 120) ss m args below meth c H locs 0 0 Q (F0 m pc ls [.int z.1])) : ∀ (x1 : Int32) (s : SM) (H : Heap) (locs : List Loc) (ls : Array Slot), XW g A ss (wM g s) H locs → lv_has ls 5 [(0, .ref (g.q 60)), (1, .int x1)] → f_M_run_16 x1 s = some z → W p l e (rmX 5 120) ss m args below meth c H locs 0 0 Q (F0 m 16 ls []) := by
  have ⟨⟨hx, hb, hml, hown, hts⟩, hK, hA, hN⟩ := C
  intro x1 s H locs ls hX hl h
  rw [f_M_run_16] at h
  refine lv_iconst (v := (-1)) hx hb d_M_run_16 (by decide) ?_
  obtain rfl := so1 h
  exact hQ _ H locs ls hX d_M_run_17
set_option maxHeartbeats 4000000 in
set_option maxRecDepth 100000 in
theorem w_M_run {z : Int32 × SM} (C : Cx g A p m c b_M_run 5 ss args R_M) (hQ : ∀ (pc : Nat) (H : Heap) (locs : List Loc) (ls : Array Slot), XW g A ss (wM g z.2) H locs → decode b_M_run pc = .ok (.ireturn, 1) → W p l e (rmX 5 120) ss m args below meth c H locs 0 0 Q (F0 m pc ls [.int z.1])) : ∀ (x1 : Int32) (s : SM) (H : Heap) (locs : List Loc) (ls : Array Slot), XW g A ss (wM g s) H locs → lv_has ls 5 [(0, .ref (g.q 60)), (1, .int x1)] → f_M_run x1 s = some z → W p l e (rmX 5 120) ss m args below meth c H locs 0 0 Q (F0 m 0 ls []) := by
  have ⟨⟨hx, hb, hml, hown, hts⟩, hK, hA, hN⟩ := C
  intro x1 s H locs ls hX hl h
  rw [f_M_run] at h
  refine lv_aload_n hx hb d_M_run_0 rfl (lv_at hl 0 rfl) ?_
  refine lv_iconst (v := 0) hx hb d_M_run_1 (by decide) ?_
  obtain ⟨s1, es1, h⟩ := lt1_e h
  refine pm_code C hX fl_M_120 d_M_run_2 (fun H locs hX => ?_)
  rw [← es1] at hX
  refine lv_aload_n hx hb d_M_run_5 rfl (lv_at hl 0 rfl) ?_
  refine gm_runs C hX fl_M_134 d_M_run_6 ?_
  refine lv_if_eq (tgt := 16) hx hb d_M_run_9 (by decide) (fun c9 => ?_) (fun c9 => ?_)
  · have h := ite_t c9 h
    exact w_M_run_16 C hQ x1 s1 H locs ls hX hl h
  · have h := ite_f c9 h
    refine lv_iload_n hx hb d_M_run_12 rfl (lv_at hl 1 rfl) ?_
    refine lv_if_ge (tgt := 18) hx hb d_M_run_13 (by decide) (fun c13 => ?_) (fun c13 => ?_)
    · have h := ite_t c13 h
      refine lv_aload_n hx hb d_M_run_18 rfl (lv_at hl 0 rfl) ?_
      obtain ⟨s2, hc19, h⟩ := bd1_e h
      refine x_vV (As := []) (rest := []) C hX (c_M_settle l g s1 s2 hc19) (cw_M_352 C.1.2.2.2.2 C.2.2.2 ⟨by decide, by decide⟩) (x_rc C hX vg_0 rfl) rfl hl.1 rfl (lv_room (Nat.le_of_ble_eq_true rfl)) d_M_run_19 ⟨Nat.le_refl _, Nat.le_refl _⟩ (fun H locs hX => ?_)
      refine lv_iload_n hx hb d_M_run_22 rfl (lv_at hl 1 rfl) ?_
      refine lv_ldcw (v := 100000) hx hb hown (hts _ m_constant_M_355) d_M_run_23 ?_
      refine lv_icmp_le (tgt := 35) hx hb d_M_run_26 (by decide) (fun c26 => ?_) (fun c26 => ?_)
      · have h := ite_t c26 h
        refine lv_iload_n hx hb d_M_run_35 rfl (lv_at hl 1 rfl) ?_
        exact w_M_run_36 C hQ x1 x1 s2 H locs ls hX hl h
      · have h := ite_f c26 h
        refine lv_ldcw (v := 100000) hx hb hown (hts _ m_constant_M_355) d_M_run_29 ?_
        refine lv_goto (tgt := 36) hx hb d_M_run_32 (by decide) ?_
        exact w_M_run_36 C hQ x1 100000 s2 H locs ls hX hl h
    · have h := ite_f c13 h
      exact w_M_run_16 C hQ x1 s1 H locs ls hX hl h
end WALK
theorem c_M_run (l : Launch) (g : GX) (x1 : Int32) (s : SM) (z : Int32 × SM) (h : f_M_run x1 s = some z) : MI l g y_M_run b_M_run 5 (some .int) 5 120 [.ref (g.q 60), .int x1] (wM g s) z.1 (wM g z.2) :=
  MI.mk (own := R_M) (by decide) rfl (Nat.le_of_ble_eq_true rfl) fun p e ss m below meth c A Q C hQ ls hX hl => w_M_run C hQ x1 s _ _ ls hX hl h
-- M_result
def f_M_result (s : SM) : Option (Int32 × SM) :=
    lt1 (stI s 0 0 0) fun s1 =>
    some (s1.1 0 21, s1)
section WALK
variable {p : Program} {l : Launch} {e : Env} {ss : State} {m : MethodId} {args : Array Value} {below : List Frame} {meth : Method} {c : Code} {Q : State → Prop} {g : GX} {A : Nat → Prop}
set_option maxHeartbeats 4000000 in
set_option maxRecDepth 100000 in
theorem w_M_result {z : Int32 × SM} (C : Cx g A p m c b_M_result 1 ss args R_M) (hQ : ∀ (pc : Nat) (H : Heap) (locs : List Loc) (ls : Array Slot), XW g A ss (wM g z.2) H locs → decode b_M_result pc = .ok (.ireturn, 1) → W p l e (rmX 0 0) ss m args below meth c H locs 0 0 Q (F0 m pc ls [.int z.1])) : ∀ (s : SM) (H : Heap) (locs : List Loc) (ls : Array Slot), XW g A ss (wM g s) H locs → lv_has ls 1 [(0, .ref (g.q 60))] → f_M_result s = some z → W p l e (rmX 0 0) ss m args below meth c H locs 0 0 Q (F0 m 0 ls []) := by
  have ⟨⟨hx, hb, hml, hown, hts⟩, hK, hA, hN⟩ := C
  intro s H locs ls hX hl h
  rw [f_M_result] at h
  refine lv_aload_n hx hb d_M_result_0 rfl (lv_at hl 0 rfl) ?_
  refine lv_iconst (v := 0) hx hb d_M_result_1 (by decide) ?_
  obtain ⟨s1, es1, h⟩ := lt1_e h
  refine pm_code C hX fl_M_120 d_M_result_2 (fun H locs hX => ?_)
  rw [← es1] at hX
  refine lv_aload_n hx hb d_M_result_5 rfl (lv_at hl 0 rfl) ?_
  refine gm_result C hX fl_M_137 d_M_result_6 ?_
  obtain rfl := so1 h
  exact hQ _ H locs ls hX d_M_result_9
end WALK
theorem c_M_result (l : Launch) (g : GX) (s : SM) (z : Int32 × SM) (h : f_M_result s = some z) : MI l g y_M_result b_M_result 1 (some .int) 0 0 [.ref (g.q 60)] (wM g s) z.1 (wM g z.2) :=
  MI.mk (own := R_M) (by decide) rfl (Nat.le_of_ble_eq_true rfl) fun p e ss m below meth c A Q C hQ ls hX hl => w_M_result C hQ s _ _ ls hX hl h
-- M_peekMem
def f_M_peekMem_30 (x1 : Int32) (y0 : Int32) (s : SM) : Option (Int32 × SM) :=
    some (y0, s)
def f_M_peekMem_29 (x1 : Int32) (s : SM) : Option (Int32 × SM) :=
    f_M_peekMem_30 x1 ((-1)) s
def f_M_peekMem (x1 : Int32) (s : SM) : Option (Int32 × SM) :=
    lt1 (stI s 0 0 0) fun s1 =>
    if x1 < 0 then
      f_M_peekMem_29 x1 s1
    else
      lt1 (64 * s1.1 0 18) fun v2 =>
      if v2 ≤ x1 then
        f_M_peekMem_29 x1 s1
      else
        gi x1 256 <|
        lt1 (s1.1 29 (Int32.toNatClampNeg x1)) fun v3 =>
        f_M_peekMem_30 x1 v3 s1
section WALK
variable {p : Program} {l : Launch} {e : Env} {ss : State} {m : MethodId} {args : Array Value} {below : List Frame} {meth : Method} {c : Code} {Q : State → Prop} {g : GX} {A : Nat → Prop}
set_option maxHeartbeats 4000000 in
set_option maxRecDepth 100000 in
theorem w_M_peekMem_30 {z : Int32 × SM} (C : Cx g A p m c b_M_peekMem 2 ss args R_M) (hQ : ∀ (pc : Nat) (H : Heap) (locs : List Loc) (ls : Array Slot), XW g A ss (wM g z.2) H locs → decode b_M_peekMem pc = .ok (.ireturn, 1) → W p l e (rmX 0 0) ss m args below meth c H locs 0 0 Q (F0 m pc ls [.int z.1])) : ∀ (x1 : Int32) (y0 : Int32) (s : SM) (H : Heap) (locs : List Loc) (ls : Array Slot), XW g A ss (wM g s) H locs → lv_has ls 2 [(0, .ref (g.q 60)), (1, .int x1)] → f_M_peekMem_30 x1 y0 s = some z → W p l e (rmX 0 0) ss m args below meth c H locs 0 0 Q (F0 m 30 ls [.int y0]) := by
  have ⟨⟨hx, hb, hml, hown, hts⟩, hK, hA, hN⟩ := C
  intro x1 y0 s H locs ls hX hl h
  rw [f_M_peekMem_30] at h
  obtain rfl := so1 h
  exact hQ _ H locs ls hX d_M_peekMem_30
set_option maxHeartbeats 4000000 in
set_option maxRecDepth 100000 in
theorem w_M_peekMem_29 {z : Int32 × SM} (C : Cx g A p m c b_M_peekMem 2 ss args R_M) (hQ : ∀ (pc : Nat) (H : Heap) (locs : List Loc) (ls : Array Slot), XW g A ss (wM g z.2) H locs → decode b_M_peekMem pc = .ok (.ireturn, 1) → W p l e (rmX 0 0) ss m args below meth c H locs 0 0 Q (F0 m pc ls [.int z.1])) : ∀ (x1 : Int32) (s : SM) (H : Heap) (locs : List Loc) (ls : Array Slot), XW g A ss (wM g s) H locs → lv_has ls 2 [(0, .ref (g.q 60)), (1, .int x1)] → f_M_peekMem_29 x1 s = some z → W p l e (rmX 0 0) ss m args below meth c H locs 0 0 Q (F0 m 29 ls []) := by
  have ⟨⟨hx, hb, hml, hown, hts⟩, hK, hA, hN⟩ := C
  intro x1 s H locs ls hX hl h
  rw [f_M_peekMem_29] at h
  refine lv_iconst (v := (-1)) hx hb d_M_peekMem_29 (by decide) ?_
  exact w_M_peekMem_30 C hQ x1 ((-1)) s H locs ls hX hl h
set_option maxHeartbeats 4000000 in
set_option maxRecDepth 100000 in
theorem w_M_peekMem {z : Int32 × SM} (C : Cx g A p m c b_M_peekMem 2 ss args R_M) (hQ : ∀ (pc : Nat) (H : Heap) (locs : List Loc) (ls : Array Slot), XW g A ss (wM g z.2) H locs → decode b_M_peekMem pc = .ok (.ireturn, 1) → W p l e (rmX 0 0) ss m args below meth c H locs 0 0 Q (F0 m pc ls [.int z.1])) : ∀ (x1 : Int32) (s : SM) (H : Heap) (locs : List Loc) (ls : Array Slot), XW g A ss (wM g s) H locs → lv_has ls 2 [(0, .ref (g.q 60)), (1, .int x1)] → f_M_peekMem x1 s = some z → W p l e (rmX 0 0) ss m args below meth c H locs 0 0 Q (F0 m 0 ls []) := by
  have ⟨⟨hx, hb, hml, hown, hts⟩, hK, hA, hN⟩ := C
  intro x1 s H locs ls hX hl h
  rw [f_M_peekMem] at h
  refine lv_aload_n hx hb d_M_peekMem_0 rfl (lv_at hl 0 rfl) ?_
  refine lv_iconst (v := 0) hx hb d_M_peekMem_1 (by decide) ?_
  obtain ⟨s1, es1, h⟩ := lt1_e h
  refine pm_code C hX fl_M_120 d_M_peekMem_2 (fun H locs hX => ?_)
  rw [← es1] at hX
  refine lv_iload_n hx hb d_M_peekMem_5 rfl (lv_at hl 1 rfl) ?_
  refine lv_if_lt (tgt := 29) hx hb d_M_peekMem_6 (by decide) (fun c6 => ?_) (fun c6 => ?_)
  · have h := ite_t c6 h
    exact w_M_peekMem_29 C hQ x1 s1 H locs ls hX hl h
  · have h := ite_f c6 h
    refine lv_iload_n hx hb d_M_peekMem_9 rfl (lv_at hl 1 rfl) ?_
    refine lv_bipush (v := 64) hx hb d_M_peekMem_10 (by decide) ?_
    refine lv_aload_n hx hb d_M_peekMem_12 rfl (lv_at hl 0 rfl) ?_
    refine gm_pages C hX fl_M_146 d_M_peekMem_13 ?_
    obtain ⟨v2, ev2, h⟩ := lt1_e h
    refine x_imul hx hb d_M_peekMem_16 ev2 ?_
    refine lv_icmp_ge (tgt := 29) hx hb d_M_peekMem_17 (by decide) (fun c17 => ?_) (fun c17 => ?_)
    · have h := ite_t c17 h
      exact w_M_peekMem_29 C hQ x1 s1 H locs ls hX hl h
    · have h := ite_f c17 h
      refine lv_aload_n hx hb d_M_peekMem_20 rfl (lv_at hl 0 rfl) ?_
      refine gm_memory C hX fl_M_96 d_M_peekMem_21 ?_
      refine lv_iload_n hx hb d_M_peekMem_24 rfl (lv_at hl 1 rfl) ?_
      obtain ⟨hz25, h⟩ := gi_e h
      obtain ⟨v3, ev3, h⟩ := lt1_e h
      refine alm_29 C hX hz25 d_M_peekMem_25 ev3 ?_
      refine lv_goto (tgt := 30) hx hb d_M_peekMem_26 (by decide) ?_
      exact w_M_peekMem_30 C hQ x1 v3 s1 H locs ls hX hl h
end WALK
theorem c_M_peekMem (l : Launch) (g : GX) (x1 : Int32) (s : SM) (z : Int32 × SM) (h : f_M_peekMem x1 s = some z) : MI l g y_M_peekMem b_M_peekMem 2 (some .int) 0 0 [.ref (g.q 60), .int x1] (wM g s) z.1 (wM g z.2) :=
  MI.mk (own := R_M) (by decide) rfl (Nat.le_of_ble_eq_true rfl) fun p e ss m below meth c A Q C hQ ls hX hl => w_M_peekMem C hQ x1 s _ _ ls hX hl h
-- M_rcodeLen
def f_M_rcodeLen (s : SM) : Option (Int32 × SM) :=
    lt1 (stI s 0 0 0) fun s1 =>
    some (s1.1 0 25, s1)
section WALK
variable {p : Program} {l : Launch} {e : Env} {ss : State} {m : MethodId} {args : Array Value} {below : List Frame} {meth : Method} {c : Code} {Q : State → Prop} {g : GX} {A : Nat → Prop}
set_option maxHeartbeats 4000000 in
set_option maxRecDepth 100000 in
theorem w_M_rcodeLen {z : Int32 × SM} (C : Cx g A p m c b_M_rcodeLen 1 ss args R_M) (hQ : ∀ (pc : Nat) (H : Heap) (locs : List Loc) (ls : Array Slot), XW g A ss (wM g z.2) H locs → decode b_M_rcodeLen pc = .ok (.ireturn, 1) → W p l e (rmX 0 0) ss m args below meth c H locs 0 0 Q (F0 m pc ls [.int z.1])) : ∀ (s : SM) (H : Heap) (locs : List Loc) (ls : Array Slot), XW g A ss (wM g s) H locs → lv_has ls 1 [(0, .ref (g.q 60))] → f_M_rcodeLen s = some z → W p l e (rmX 0 0) ss m args below meth c H locs 0 0 Q (F0 m 0 ls []) := by
  have ⟨⟨hx, hb, hml, hown, hts⟩, hK, hA, hN⟩ := C
  intro s H locs ls hX hl h
  rw [f_M_rcodeLen] at h
  refine lv_aload_n hx hb d_M_rcodeLen_0 rfl (lv_at hl 0 rfl) ?_
  refine lv_iconst (v := 0) hx hb d_M_rcodeLen_1 (by decide) ?_
  obtain ⟨s1, es1, h⟩ := lt1_e h
  refine pm_code C hX fl_M_120 d_M_rcodeLen_2 (fun H locs hX => ?_)
  rw [← es1] at hX
  refine lv_aload_n hx hb d_M_rcodeLen_5 rfl (lv_at hl 0 rfl) ?_
  refine gm_words C hX fl_M_143 d_M_rcodeLen_6 ?_
  obtain rfl := so1 h
  exact hQ _ H locs ls hX d_M_rcodeLen_9
end WALK
theorem c_M_rcodeLen (l : Launch) (g : GX) (s : SM) (z : Int32 × SM) (h : f_M_rcodeLen s = some z) : MI l g y_M_rcodeLen b_M_rcodeLen 1 (some .int) 0 0 [.ref (g.q 60)] (wM g s) z.1 (wM g z.2) :=
  MI.mk (own := R_M) (by decide) rfl (Nat.le_of_ble_eq_true rfl) fun p e ss m below meth c A Q C hQ ls hX hl => w_M_rcodeLen C hQ s _ _ ls hX hl h
-- M_rcode
def f_M_rcode_27 (x1 : Int32) (y0 : Int32) (s : SM) : Option (Int32 × SM) :=
    some (y0, s)
def f_M_rcode_26 (x1 : Int32) (s : SM) : Option (Int32 × SM) :=
    f_M_rcode_27 x1 ((-1)) s
def f_M_rcode (x1 : Int32) (s : SM) : Option (Int32 × SM) :=
    lt1 (stI s 0 0 0) fun s1 =>
    if x1 < 0 then
      f_M_rcode_26 x1 s1
    else
      if s1.1 0 25 ≤ x1 then
        f_M_rcode_26 x1 s1
      else
        gi x1 2400 <|
        lt1 (s1.1 36 (Int32.toNatClampNeg x1)) fun v2 =>
        f_M_rcode_27 x1 v2 s1
section WALK
variable {p : Program} {l : Launch} {e : Env} {ss : State} {m : MethodId} {args : Array Value} {below : List Frame} {meth : Method} {c : Code} {Q : State → Prop} {g : GX} {A : Nat → Prop}
set_option maxHeartbeats 4000000 in
set_option maxRecDepth 100000 in
theorem w_M_rcode_27 {z : Int32 × SM} (C : Cx g A p m c b_M_rcode 2 ss args R_M) (hQ : ∀ (pc : Nat) (H : Heap) (locs : List Loc) (ls : Array Slot), XW g A ss (wM g z.2) H locs → decode b_M_rcode pc = .ok (.ireturn, 1) → W p l e (rmX 0 0) ss m args below meth c H locs 0 0 Q (F0 m pc ls [.int z.1])) : ∀ (x1 : Int32) (y0 : Int32) (s : SM) (H : Heap) (locs : List Loc) (ls : Array Slot), XW g A ss (wM g s) H locs → lv_has ls 2 [(0, .ref (g.q 60)), (1, .int x1)] → f_M_rcode_27 x1 y0 s = some z → W p l e (rmX 0 0) ss m args below meth c H locs 0 0 Q (F0 m 27 ls [.int y0]) := by
  have ⟨⟨hx, hb, hml, hown, hts⟩, hK, hA, hN⟩ := C
  intro x1 y0 s H locs ls hX hl h
  rw [f_M_rcode_27] at h
  obtain rfl := so1 h
  exact hQ _ H locs ls hX d_M_rcode_27
set_option maxHeartbeats 4000000 in
set_option maxRecDepth 100000 in
theorem w_M_rcode_26 {z : Int32 × SM} (C : Cx g A p m c b_M_rcode 2 ss args R_M) (hQ : ∀ (pc : Nat) (H : Heap) (locs : List Loc) (ls : Array Slot), XW g A ss (wM g z.2) H locs → decode b_M_rcode pc = .ok (.ireturn, 1) → W p l e (rmX 0 0) ss m args below meth c H locs 0 0 Q (F0 m pc ls [.int z.1])) : ∀ (x1 : Int32) (s : SM) (H : Heap) (locs : List Loc) (ls : Array Slot), XW g A ss (wM g s) H locs → lv_has ls 2 [(0, .ref (g.q 60)), (1, .int x1)] → f_M_rcode_26 x1 s = some z → W p l e (rmX 0 0) ss m args below meth c H locs 0 0 Q (F0 m 26 ls []) := by
  have ⟨⟨hx, hb, hml, hown, hts⟩, hK, hA, hN⟩ := C
  intro x1 s H locs ls hX hl h
  rw [f_M_rcode_26] at h
  refine lv_iconst (v := (-1)) hx hb d_M_rcode_26 (by decide) ?_
  exact w_M_rcode_27 C hQ x1 ((-1)) s H locs ls hX hl h
set_option maxHeartbeats 4000000 in
set_option maxRecDepth 100000 in
theorem w_M_rcode {z : Int32 × SM} (C : Cx g A p m c b_M_rcode 2 ss args R_M) (hQ : ∀ (pc : Nat) (H : Heap) (locs : List Loc) (ls : Array Slot), XW g A ss (wM g z.2) H locs → decode b_M_rcode pc = .ok (.ireturn, 1) → W p l e (rmX 0 0) ss m args below meth c H locs 0 0 Q (F0 m pc ls [.int z.1])) : ∀ (x1 : Int32) (s : SM) (H : Heap) (locs : List Loc) (ls : Array Slot), XW g A ss (wM g s) H locs → lv_has ls 2 [(0, .ref (g.q 60)), (1, .int x1)] → f_M_rcode x1 s = some z → W p l e (rmX 0 0) ss m args below meth c H locs 0 0 Q (F0 m 0 ls []) := by
  have ⟨⟨hx, hb, hml, hown, hts⟩, hK, hA, hN⟩ := C
  intro x1 s H locs ls hX hl h
  rw [f_M_rcode] at h
  refine lv_aload_n hx hb d_M_rcode_0 rfl (lv_at hl 0 rfl) ?_
  refine lv_iconst (v := 0) hx hb d_M_rcode_1 (by decide) ?_
  obtain ⟨s1, es1, h⟩ := lt1_e h
  refine pm_code C hX fl_M_120 d_M_rcode_2 (fun H locs hX => ?_)
  rw [← es1] at hX
  refine lv_iload_n hx hb d_M_rcode_5 rfl (lv_at hl 1 rfl) ?_
  refine lv_if_lt (tgt := 26) hx hb d_M_rcode_6 (by decide) (fun c6 => ?_) (fun c6 => ?_)
  · have h := ite_t c6 h
    exact w_M_rcode_26 C hQ x1 s1 H locs ls hX hl h
  · have h := ite_f c6 h
    refine lv_iload_n hx hb d_M_rcode_9 rfl (lv_at hl 1 rfl) ?_
    refine lv_aload_n hx hb d_M_rcode_10 rfl (lv_at hl 0 rfl) ?_
    refine gm_words C hX fl_M_143 d_M_rcode_11 ?_
    refine lv_icmp_ge (tgt := 26) hx hb d_M_rcode_14 (by decide) (fun c14 => ?_) (fun c14 => ?_)
    · have h := ite_t c14 h
      exact w_M_rcode_26 C hQ x1 s1 H locs ls hX hl h
    · have h := ite_f c14 h
      refine lv_aload_n hx hb d_M_rcode_17 rfl (lv_at hl 0 rfl) ?_
      refine gm_word C hX fl_M_117 d_M_rcode_18 ?_
      refine lv_iload_n hx hb d_M_rcode_21 rfl (lv_at hl 1 rfl) ?_
      obtain ⟨hz22, h⟩ := gi_e h
      obtain ⟨v2, ev2, h⟩ := lt1_e h
      refine alm_36 C hX hz22 d_M_rcode_22 ev2 ?_
      refine lv_goto (tgt := 27) hx hb d_M_rcode_23 (by decide) ?_
      exact w_M_rcode_27 C hQ x1 v2 s1 H locs ls hX hl h
end WALK
theorem c_M_rcode (l : Launch) (g : GX) (x1 : Int32) (s : SM) (z : Int32 × SM) (h : f_M_rcode x1 s = some z) : MI l g y_M_rcode b_M_rcode 2 (some .int) 0 0 [.ref (g.q 60), .int x1] (wM g s) z.1 (wM g z.2) :=
  MI.mk (own := R_M) (by decide) rfl (Nat.le_of_ble_eq_true rfl) fun p e ss m below meth c A Q C hQ ls hX hl => w_M_rcode C hQ x1 s _ _ ls hX hl h
-- M_reset
def f_M_reset (s : SM) : Option SM :=
    lt1 (stI s 0 0 0) fun s1 =>
    lt1 (stI s1 0 1 0) fun s2 =>
    lt1 (stI s2 0 2 0) fun s3 =>
    lt1 (stI s3 0 19 0) fun s4 =>
    lt1 (stI s4 0 20 0) fun s5 =>
    lt1 (stI s5 0 21 0) fun s6 =>
    lt1 (stI s6 0 24 0) fun s7 =>
    lt1 (stI s7 0 25 0) fun s8 =>
    lt1 (stI s8 0 18 0) fun s9 =>
    some s9
section WALK
variable {p : Program} {l : Launch} {e : Env} {ss : State} {m : MethodId} {args : Array Value} {below : List Frame} {meth : Method} {c : Code} {Q : State → Prop} {g : GX} {A : Nat → Prop}
set_option maxHeartbeats 4000000 in
set_option maxRecDepth 100000 in
theorem w_M_reset {z : SM} (C : Cx g A p m c b_M_reset 1 ss args R_M) (hQ : ∀ (pc : Nat) (H : Heap) (locs : List Loc) (ls : Array Slot), XW g A ss (wM g z) H locs → decode b_M_reset pc = .ok (.return_, 1) → W p l e (rmX 0 0) ss m args below meth c H locs 0 0 Q (F0 m pc ls [])) : ∀ (s : SM) (H : Heap) (locs : List Loc) (ls : Array Slot), XW g A ss (wM g s) H locs → lv_has ls 1 [(0, .ref (g.q 60))] → f_M_reset s = some z → W p l e (rmX 0 0) ss m args below meth c H locs 0 0 Q (F0 m 0 ls []) := by
  have ⟨⟨hx, hb, hml, hown, hts⟩, hK, hA, hN⟩ := C
  intro s H locs ls hX hl h
  rw [f_M_reset] at h
  refine lv_aload_n hx hb d_M_reset_0 rfl (lv_at hl 0 rfl) ?_
  refine lv_iconst (v := 0) hx hb d_M_reset_1 (by decide) ?_
  obtain ⟨s1, es1, h⟩ := lt1_e h
  refine pm_code C hX fl_M_120 d_M_reset_2 (fun H locs hX => ?_)
  rw [← es1] at hX
  refine lv_aload_n hx hb d_M_reset_5 rfl (lv_at hl 0 rfl) ?_
  refine lv_iconst (v := 0) hx hb d_M_reset_6 (by decide) ?_
  obtain ⟨s2, es2, h⟩ := lt1_e h
  refine pm_fed C hX fl_M_124 d_M_reset_7 (fun H locs hX => ?_)
  rw [← es2] at hX
  refine lv_aload_n hx hb d_M_reset_10 rfl (lv_at hl 0 rfl) ?_
  refine lv_iconst (v := 0) hx hb d_M_reset_11 (by decide) ?_
  obtain ⟨s3, es3, h⟩ := lt1_e h
  refine pm_loaded C hX fl_M_127 (Or.inl rfl) d_M_reset_12 (fun H locs hX => ?_)
  rw [← es3] at hX
  refine lv_aload_n hx hb d_M_reset_15 rfl (lv_at hl 0 rfl) ?_
  refine lv_iconst (v := 0) hx hb d_M_reset_16 (by decide) ?_
  obtain ⟨s4, es4, h⟩ := lt1_e h
  refine pm_arguments C hX fl_M_131 d_M_reset_17 (fun H locs hX => ?_)
  rw [← es4] at hX
  refine lv_aload_n hx hb d_M_reset_20 rfl (lv_at hl 0 rfl) ?_
  refine lv_iconst (v := 0) hx hb d_M_reset_21 (by decide) ?_
  obtain ⟨s5, es5, h⟩ := lt1_e h
  refine pm_runs C hX fl_M_134 (Or.inl rfl) d_M_reset_22 (fun H locs hX => ?_)
  rw [← es5] at hX
  refine lv_aload_n hx hb d_M_reset_25 rfl (lv_at hl 0 rfl) ?_
  refine lv_iconst (v := 0) hx hb d_M_reset_26 (by decide) ?_
  obtain ⟨s6, es6, h⟩ := lt1_e h
  refine pm_result C hX fl_M_137 d_M_reset_27 (fun H locs hX => ?_)
  rw [← es6] at hX
  refine lv_aload_n hx hb d_M_reset_30 rfl (lv_at hl 0 rfl) ?_
  refine lv_iconst (v := 0) hx hb d_M_reset_31 (by decide) ?_
  obtain ⟨s7, es7, h⟩ := lt1_e h
  refine pm_compiled C hX fl_M_140 (Or.inl rfl) d_M_reset_32 (fun H locs hX => ?_)
  rw [← es7] at hX
  refine lv_aload_n hx hb d_M_reset_35 rfl (lv_at hl 0 rfl) ?_
  refine lv_iconst (v := 0) hx hb d_M_reset_36 (by decide) ?_
  obtain ⟨s8, es8, h⟩ := lt1_e h
  refine pm_words C hX fl_M_143 d_M_reset_37 (fun H locs hX => ?_)
  rw [← es8] at hX
  refine lv_aload_n hx hb d_M_reset_40 rfl (lv_at hl 0 rfl) ?_
  refine lv_iconst (v := 0) hx hb d_M_reset_41 (by decide) ?_
  obtain ⟨s9, es9, h⟩ := lt1_e h
  refine pm_pages C hX fl_M_146 d_M_reset_42 (fun H locs hX => ?_)
  rw [← es9] at hX
  obtain rfl := so1 h
  exact hQ _ H locs ls hX d_M_reset_45
end WALK
theorem c_M_reset (l : Launch) (g : GX) (s : SM) (z : SM) (h : f_M_reset s = some z) : MV l g y_M_reset b_M_reset 1 none 0 0 [.ref (g.q 60)] (wM g s) (wM g z) :=
  MV.mk (own := R_M) (by decide) rfl (Nat.le_of_ble_eq_true rfl) fun p e ss m below meth c A Q C hQ ls hX hl => w_M_reset C hQ s _ _ ls hX hl h
