-- M_writeEntry
def f_M_writeEntry_409 (x1 : Int32) (x2 : Int32) (x3 : Int32) (x4 : Int32) (s : SM) : Option SM :=
    some s
def f_M_writeEntry_405 (x1 : Int32) (x2 : Int32) (x3 : Int32) (x4 : Int32) (x5 : Int32) (y1 : Int32) (y2 : Int32) (y3 : Int32) (s : SM) : Option SM :=
    bd1 (f_M_write y1 y2 y3 0 s) fun s1 =>
    f_M_writeEntry_409 x1 x2 x3 x4 s1
def f_M_writeEntry_404 (x1 : Int32) (x2 : Int32) (x3 : Int32) (x4 : Int32) (x5 : Int32) (y1 : Int32) (y2 : Int32) (s : SM) : Option SM :=
    f_M_writeEntry_405 x1 x2 x3 x4 x5 y1 y2 0 s
def f_M_writeEntry_361 (x1 : Int32) (x2 : Int32) (x3 : Int32) (x4 : Int32) (y0 : Int32) (s : SM) : Option SM :=
    if y0 = 0 then
      if x3 ≤ 39 then
        f_M_writeEntry_404 x1 x2 x3 x4 y0 x3 x4 s
      else
        if 60 ≤ x3 then
          f_M_writeEntry_404 x1 x2 x3 x4 y0 x3 x4 s
        else
          gi x2 250 <|
          lt1 (s.2 16 (Int32.toNatClampNeg x2)) fun v1 =>
          lt1 (Int64.toInt32 v1) fun v2 =>
          f_M_writeEntry_405 x1 x2 x3 x4 y0 x3 x4 v2 s
    else
      gi x2 250 <|
      lt1 (s.2 15 (Int32.toNatClampNeg x2)) fun v3 =>
      lt1 (Int64.toInt32 v3) fun v4 =>
      f_M_writeEntry_405 x1 x2 x3 x4 y0 x3 x4 v4 s
def f_M_writeEntry_356 (x1 : Int32) (x2 : Int32) (x3 : Int32) (x4 : Int32) (s : SM) : Option SM :=
    f_M_writeEntry_361 x1 x2 x3 x4 1 s
def f_M_writeEntry_350 (x1 : Int32) (x2 : Int32) (x3 : Int32) (x4 : Int32) (s : SM) : Option SM :=
    if x3 = 65 then
      f_M_writeEntry_356 x1 x2 x3 x4 s
    else
      f_M_writeEntry_361 x1 x2 x3 x4 0 s
def f_M_writeEntry_234 (x1 : Int32) (x2 : Int32) (x3 : Int32) (x4 : Int32) (y1 : Int32) (y2 : Int32) (y3 : Int32) (s : SM) : Option SM :=
    bd1 (f_M_write y1 y2 y3 0 s) fun s1 =>
    f_M_writeEntry_409 x1 x2 x3 x4 s1
def f_M_writeEntry_123 : Nat → Int32 → Int32 → Int32 → Int32 → Int32 → SM → Option SM
  | 0, _, _, _, _, _, _ => none
  | n + 1, x1, x2, x3, x4, x5, s =>
    lt1 (Int32.toInt64 x5) fun v1 =>
    gi x2 250 <|
    lt1 (s.2 15 (Int32.toNatClampNeg x2)) fun v2 =>
    lt1 (lg_cmp v1 v2) fun v3 =>
    if 0 < v3 then
      f_M_writeEntry_409 x1 x2 x3 x4 s
    else
      gi x2 250 <|
      lt1 (s.2 16 (Int32.toNatClampNeg x2)) fun v4 =>
      lt1 (Int64.toInt32 v4) fun v5 =>
      lt1 (v5 + x5) fun v6 =>
      gi v6 250 <|
      lt1 (s.2 25 (Int32.toNatClampNeg v6)) fun v7 =>
      lt1 (x4 - 1) fun v8 =>
      bd1 (f_M_target s x1 x2 v7) fun r9 =>
      bd1 (f_M_left s x1 x2 v7) fun r10 =>
      bd1 (f_M_write 12 v8 r9 r10 s) fun s11 =>
      lt1 (x5 + (1)) fun v12 =>
      f_M_writeEntry_123 n x1 x2 x3 x4 v12 s11
def f_M_writeEntry_65 (x1 : Int32) (x2 : Int32) (x3 : Int32) (x4 : Int32) (s : SM) : Option SM :=
    gi x2 250 <|
    lt1 (s.2 15 (Int32.toNatClampNeg x2)) fun v1 =>
    bd1 (f_M_target s x1 x2 v1) fun r2 =>
    gi x2 250 <|
    lt1 (s.2 15 (Int32.toNatClampNeg x2)) fun v3 =>
    bd1 (f_M_left s x1 x2 v3) fun r4 =>
    bd1 (f_M_write x3 x4 r2 r4 s) fun s5 =>
    f_M_writeEntry_409 x1 x2 x3 x4 s5
def f_M_writeEntry (x1 : Int32) (x2 : Int32) (s : SM) : Option SM :=
    gi x2 250 <|
    lt1 (s.1 14 (Int32.toNatClampNeg x2)) fun v1 =>
    bd1 (f_M_locals s x1) fun r2 =>
    gi x2 250 <|
    lt1 (s.1 20 (Int32.toNatClampNeg x2)) fun v3 =>
    lt1 (r2 + v3) fun v4 =>
    if v1 = 11 then
      bd1 (f_M_locals s x1) fun r26 =>
      bd1 (f_M_resultsOf s x1) fun r27 =>
      lt1 (r26 + r27) fun v28 =>
      bd1 (f_M_resultsOf s x1) fun r29 =>
      bd1 (f_M_write 11 v28 0 r29 s) fun s30 =>
      f_M_writeEntry_409 x1 x2 v1 v4 s30
    else
      if v1 = 12 then
        f_M_writeEntry_65 x1 x2 v1 v4 s
      else
        if v1 = 13 then
          f_M_writeEntry_65 x1 x2 v1 v4 s
        else
          if v1 = 14 then
            gi x2 250 <|
            lt1 (s.2 15 (Int32.toNatClampNeg x2)) fun v23 =>
            lt1 (Int64.toInt32 v23) fun v24 =>
            bd1 (f_M_write v1 v4 v24 0 s) fun s25 =>
            f_M_writeEntry_123 FU x1 x2 v1 v4 0 s25
          else
            if v1 = 4 then
              gi x2 250 <|
              lt1 (s.1 19 (Int32.toNatClampNeg x2)) fun v17 =>
              if v17 = (-1) then
                gi x2 250 <|
                lt1 (s.1 18 (Int32.toNatClampNeg x2)) fun v21 =>
                gi v21 251 <|
                lt1 (s.1 21 (Int32.toNatClampNeg v21)) fun v22 =>
                f_M_writeEntry_234 x1 x2 v1 v4 v1 v4 v22 s
              else
                gi x2 250 <|
                lt1 (s.1 19 (Int32.toNatClampNeg x2)) fun v18 =>
                lt1 (v18 + 1) fun v19 =>
                gi v19 251 <|
                lt1 (s.1 21 (Int32.toNatClampNeg v19)) fun v20 =>
                f_M_writeEntry_234 x1 x2 v1 v4 v1 v4 v20 s
            else
              if v1 = 5 then
                gi x2 250 <|
                lt1 (s.1 17 (Int32.toNatClampNeg x2)) fun v13 =>
                gi v13 250 <|
                lt1 (s.1 18 (Int32.toNatClampNeg v13)) fun v14 =>
                gi v14 251 <|
                lt1 (s.1 21 (Int32.toNatClampNeg v14)) fun v15 =>
                bd1 (f_M_write v1 v4 v15 0 s) fun s16 =>
                f_M_writeEntry_409 x1 x2 v1 v4 s16
              else
                if v1 = 16 then
                  gi x2 250 <|
                  lt1 (s.2 15 (Int32.toNatClampNeg x2)) fun v7 =>
                  lt1 (Int64.toInt32 v7) fun v8 =>
                  gi v8 8 <|
                  lt1 (s.1 22 (Int32.toNatClampNeg v8)) fun v9 =>
                  gi v9 251 <|
                  lt1 (s.1 21 (Int32.toNatClampNeg v9)) fun v10 =>
                  bd1 (f_M_parameters s v8) fun r11 =>
                  bd1 (f_M_write v1 v4 v10 r11 s) fun s12 =>
                  f_M_writeEntry_409 x1 x2 v1 v4 s12
                else
                  if v1 = 15 then
                    bd1 (f_M_resultsOf s x1) fun r5 =>
                    bd1 (f_M_write v1 v4 0 r5 s) fun s6 =>
                    f_M_writeEntry_409 x1 x2 v1 v4 s6
                  else
                    if v1 ≤ 31 then
                      f_M_writeEntry_350 x1 x2 v1 v4 s
                    else
                      if v1 < 37 then
                        f_M_writeEntry_356 x1 x2 v1 v4 s
                      else
                        f_M_writeEntry_350 x1 x2 v1 v4 s
section WALK
variable {p : Program} {l : Launch} {e : Env} {ss : State} {m : MethodId} {args : Array Value} {below : List Frame} {meth : Method} {c : Code} {Q : State → Prop} {g : GX} {A : Nat → Prop}
set_option maxHeartbeats 4000000 in
set_option maxRecDepth 100000 in
theorem w_M_writeEntry_409 {z : SM} (C : Cx g A p m c b_M_writeEntry 8 ss args R_M) (hQ : ∀ (pc : Nat) (H : Heap) (locs : List Loc) (ls : Array Slot), XW g A ss (wM g z) H locs → decode b_M_writeEntry pc = .ok (.return_, 1) → W p l e (rmX 3 68) ss m args below meth c H locs 0 0 Q (F0 m pc ls [])) : ∀ (x1 : Int32) (x2 : Int32) (x3 : Int32) (x4 : Int32) (s : SM) (H : Heap) (locs : List Loc) (ls : Array Slot), XW g A ss (wM g s) H locs → lv_has ls 8 [(0, .ref (g.q 60)), (1, .int x1), (2, .int x2), (3, .int x3), (4, .int x4)] → f_M_writeEntry_409 x1 x2 x3 x4 s = some z → W p l e (rmX 3 68) ss m args below meth c H locs 0 0 Q (F0 m 409 ls []) := by
  have ⟨⟨hx, hb, hml, hown, hts⟩, hK, hA, hN⟩ := C
  intro x1 x2 x3 x4 s H locs ls hX hl h
  rw [f_M_writeEntry_409] at h
  obtain rfl := so1 h
  exact hQ _ H locs ls hX d_M_writeEntry_409
set_option maxHeartbeats 4000000 in
set_option maxRecDepth 100000 in
theorem w_M_writeEntry_405 {z : SM} (C : Cx g A p m c b_M_writeEntry 8 ss args R_M) (hQ : ∀ (pc : Nat) (H : Heap) (locs : List Loc) (ls : Array Slot), XW g A ss (wM g z) H locs → decode b_M_writeEntry pc = .ok (.return_, 1) → W p l e (rmX 3 68) ss m args below meth c H locs 0 0 Q (F0 m pc ls [])) : ∀ (x1 : Int32) (x2 : Int32) (x3 : Int32) (x4 : Int32) (x5 : Int32) (y1 : Int32) (y2 : Int32) (y3 : Int32) (s : SM) (H : Heap) (locs : List Loc) (ls : Array Slot), XW g A ss (wM g s) H locs → lv_has ls 8 [(0, .ref (g.q 60)), (1, .int x1), (2, .int x2), (3, .int x3), (4, .int x4), (5, .int x5)] → f_M_writeEntry_405 x1 x2 x3 x4 x5 y1 y2 y3 s = some z → W p l e (rmX 3 68) ss m args below meth c H locs 0 0 Q (F0 m 405 ls [.int y3, .int y2, .int y1, .ref (g.q 60)]) := by
  have ⟨⟨hx, hb, hml, hown, hts⟩, hK, hA, hN⟩ := C
  intro x1 x2 x3 x4 x5 y1 y2 y3 s H locs ls hX hl h
  rw [f_M_writeEntry_405] at h
  refine lv_iconst (v := 0) hx hb d_M_writeEntry_405 (by decide) ?_
  obtain ⟨s1, hc406, h⟩ := bd1_e h
  refine x_vV (As := [.int y1, .int y2, .int y3, .int 0]) (rest := []) C hX (c_M_write l g y1 y2 y3 0 s s1 hc406) (cw_M_402 C.1.2.2.2.2 C.2.2.2 ⟨by decide, by decide⟩) (x_rc C hX vg_0 rfl) rfl hl.1 rfl (lv_room (Nat.le_of_ble_eq_true rfl)) d_M_writeEntry_406 ⟨Nat.le_refl _, Nat.le_refl _⟩ (fun H locs hX => ?_)
  exact w_M_writeEntry_409 C hQ x1 x2 x3 x4 s1 H locs ls hX (lv_sub hl [0, 1, 2, 3, 4] rfl) h
set_option maxHeartbeats 4000000 in
set_option maxRecDepth 100000 in
theorem w_M_writeEntry_404 {z : SM} (C : Cx g A p m c b_M_writeEntry 8 ss args R_M) (hQ : ∀ (pc : Nat) (H : Heap) (locs : List Loc) (ls : Array Slot), XW g A ss (wM g z) H locs → decode b_M_writeEntry pc = .ok (.return_, 1) → W p l e (rmX 3 68) ss m args below meth c H locs 0 0 Q (F0 m pc ls [])) : ∀ (x1 : Int32) (x2 : Int32) (x3 : Int32) (x4 : Int32) (x5 : Int32) (y1 : Int32) (y2 : Int32) (s : SM) (H : Heap) (locs : List Loc) (ls : Array Slot), XW g A ss (wM g s) H locs → lv_has ls 8 [(0, .ref (g.q 60)), (1, .int x1), (2, .int x2), (3, .int x3), (4, .int x4), (5, .int x5)] → f_M_writeEntry_404 x1 x2 x3 x4 x5 y1 y2 s = some z → W p l e (rmX 3 68) ss m args below meth c H locs 0 0 Q (F0 m 404 ls [.int y2, .int y1, .ref (g.q 60)]) := by
  have ⟨⟨hx, hb, hml, hown, hts⟩, hK, hA, hN⟩ := C
  intro x1 x2 x3 x4 x5 y1 y2 s H locs ls hX hl h
  rw [f_M_writeEntry_404] at h
  refine lv_iconst (v := 0) hx hb d_M_writeEntry_404 (by decide) ?_
  exact w_M_writeEntry_405 C hQ x1 x2 x3 x4 x5 y1 y2 0 s H locs ls hX hl h
set_option maxHeartbeats 4000000 in
set_option maxRecDepth 100000 in
theorem w_M_writeEntry_361 {z : SM} (C : Cx g A p m c b_M_writeEntry 8 ss args R_M) (hQ : ∀ (pc : Nat) (H : Heap) (locs : List Loc) (ls : Array Slot), XW g A ss (wM g z) H locs → decode b_M_writeEntry pc = .ok (.return_, 1) → W p l e (rmX 3 68) ss m args below meth c H locs 0 0 Q (F0 m pc ls [])) : ∀ (x1 : Int32) (x2 : Int32) (x3 : Int32) (x4 : Int32) (y0 : Int32) (s : SM) (H : Heap) (locs : List Loc) (ls : Array Slot), XW g A ss (wM g s) H locs → lv_has ls 8 [(0, .ref (g.q 60)), (1, .int x1), (2, .int x2), (3, .int x3), (4, .int x4)] → f_M_writeEntry_361 x1 x2 x3 x4 y0 s = some z → W p l e (rmX 3 68) ss m args below meth c H locs 0 0 Q (F0 m 361 ls [.int y0]) := by
  have ⟨⟨hx, hb, hml, hown, hts⟩, hK, hA, hN⟩ := C
  intro x1 x2 x3 x4 y0 s H locs ls hX hl h
  rw [f_M_writeEntry_361] at h
  refine lv_istore (lv' := [(5, .int y0), (0, .ref (g.q 60)), (1, .int x1), (2, .int x2), (3, .int x3), (4, .int x4)]) hx hb d_M_writeEntry_361 hl (by decide) rfl (fun ls hl => ?_)
  refine lv_aload_n hx hb d_M_writeEntry_363 rfl (lv_at hl 1 rfl) ?_
  refine lv_iload_n hx hb d_M_writeEntry_364 rfl (lv_at hl 4 rfl) ?_
  refine lv_iload hx hb d_M_writeEntry_365 (lv_at hl 5 rfl) ?_
  refine lv_iload hx hb d_M_writeEntry_367 (lv_at hl 0 rfl) ?_
  refine lv_if_eq (tgt := 382) hx hb d_M_writeEntry_369 (by decide) (fun c369 => ?_) (fun c369 => ?_)
  · have h := ite_t c369 h
    refine lv_iload_n hx hb d_M_writeEntry_382 rfl (lv_at hl 4 rfl) ?_
    refine lv_bipush (v := 39) hx hb d_M_writeEntry_383 (by decide) ?_
    refine lv_icmp_le (tgt := 404) hx hb d_M_writeEntry_385 (by decide) (fun c385 => ?_) (fun c385 => ?_)
    · have h := ite_t c385 h
      exact w_M_writeEntry_404 C hQ x1 x2 x3 x4 y0 x3 x4 s H locs ls hX (lv_sub hl [1, 2, 3, 4, 5, 0] rfl) h
    · have h := ite_f c385 h
      refine lv_iload_n hx hb d_M_writeEntry_388 rfl (lv_at hl 4 rfl) ?_
      refine lv_bipush (v := 60) hx hb d_M_writeEntry_389 (by decide) ?_
      refine lv_icmp_ge (tgt := 404) hx hb d_M_writeEntry_391 (by decide) (fun c391 => ?_) (fun c391 => ?_)
      · have h := ite_t c391 h
        exact w_M_writeEntry_404 C hQ x1 x2 x3 x4 y0 x3 x4 s H locs ls hX (lv_sub hl [1, 2, 3, 4, 5, 0] rfl) h
      · have h := ite_f c391 h
        refine lv_aload_n hx hb d_M_writeEntry_394 rfl (lv_at hl 1 rfl) ?_
        refine gm_second C hX fl_M_57 d_M_writeEntry_395 ?_
        refine lv_iload_n hx hb d_M_writeEntry_398 rfl (lv_at hl 3 rfl) ?_
        obtain ⟨hz399, h⟩ := gi_e h
        obtain ⟨v1, ev1, h⟩ := lt1_e h
        refine alm_16 C hX hz399 d_M_writeEntry_399 ev1 ?_
        obtain ⟨v2, ev2, h⟩ := lt1_e h
        refine lv_l2i hx hb d_M_writeEntry_400 ev2.symm ?_
        refine lv_goto (tgt := 405) hx hb d_M_writeEntry_401 (by decide) ?_
        exact w_M_writeEntry_405 C hQ x1 x2 x3 x4 y0 x3 x4 v2 s H locs ls hX (lv_sub hl [1, 2, 3, 4, 5, 0] rfl) h
  · have h := ite_f c369 h
    refine lv_aload_n hx hb d_M_writeEntry_372 rfl (lv_at hl 1 rfl) ?_
    refine gm_first C hX fl_M_54 d_M_writeEntry_373 ?_
    refine lv_iload_n hx hb d_M_writeEntry_376 rfl (lv_at hl 3 rfl) ?_
    obtain ⟨hz377, h⟩ := gi_e h
    obtain ⟨v3, ev3, h⟩ := lt1_e h
    refine alm_15 C hX hz377 d_M_writeEntry_377 ev3 ?_
    obtain ⟨v4, ev4, h⟩ := lt1_e h
    refine lv_l2i hx hb d_M_writeEntry_378 ev4.symm ?_
    refine lv_goto (tgt := 405) hx hb d_M_writeEntry_379 (by decide) ?_
    exact w_M_writeEntry_405 C hQ x1 x2 x3 x4 y0 x3 x4 v4 s H locs ls hX (lv_sub hl [1, 2, 3, 4, 5, 0] rfl) h
set_option maxHeartbeats 4000000 in
set_option maxRecDepth 100000 in
theorem w_M_writeEntry_356 {z : SM} (C : Cx g A p m c b_M_writeEntry 8 ss args R_M) (hQ : ∀ (pc : Nat) (H : Heap) (locs : List Loc) (ls : Array Slot), XW g A ss (wM g z) H locs → decode b_M_writeEntry pc = .ok (.return_, 1) → W p l e (rmX 3 68) ss m args below meth c H locs 0 0 Q (F0 m pc ls [])) : ∀ (x1 : Int32) (x2 : Int32) (x3 : Int32) (x4 : Int32) (s : SM) (H : Heap) (locs : List Loc) (ls : Array Slot), XW g A ss (wM g s) H locs → lv_has ls 8 [(0, .ref (g.q 60)), (1, .int x1), (2, .int x2), (3, .int x3), (4, .int x4)] → f_M_writeEntry_356 x1 x2 x3 x4 s = some z → W p l e (rmX 3 68) ss m args below meth c H locs 0 0 Q (F0 m 356 ls []) := by
  have ⟨⟨hx, hb, hml, hown, hts⟩, hK, hA, hN⟩ := C
  intro x1 x2 x3 x4 s H locs ls hX hl h
  rw [f_M_writeEntry_356] at h
  refine lv_iconst (v := 1) hx hb d_M_writeEntry_356 (by decide) ?_
  refine lv_goto (tgt := 361) hx hb d_M_writeEntry_357 (by decide) ?_
  exact w_M_writeEntry_361 C hQ x1 x2 x3 x4 1 s H locs ls hX hl h
set_option maxHeartbeats 4000000 in
set_option maxRecDepth 100000 in
theorem w_M_writeEntry_350 {z : SM} (C : Cx g A p m c b_M_writeEntry 8 ss args R_M) (hQ : ∀ (pc : Nat) (H : Heap) (locs : List Loc) (ls : Array Slot), XW g A ss (wM g z) H locs → decode b_M_writeEntry pc = .ok (.return_, 1) → W p l e (rmX 3 68) ss m args below meth c H locs 0 0 Q (F0 m pc ls [])) : ∀ (x1 : Int32) (x2 : Int32) (x3 : Int32) (x4 : Int32) (s : SM) (H : Heap) (locs : List Loc) (ls : Array Slot), XW g A ss (wM g s) H locs → lv_has ls 8 [(0, .ref (g.q 60)), (1, .int x1), (2, .int x2), (3, .int x3), (4, .int x4)] → f_M_writeEntry_350 x1 x2 x3 x4 s = some z → W p l e (rmX 3 68) ss m args below meth c H locs 0 0 Q (F0 m 350 ls []) := by
  have ⟨⟨hx, hb, hml, hown, hts⟩, hK, hA, hN⟩ := C
  intro x1 x2 x3 x4 s H locs ls hX hl h
  rw [f_M_writeEntry_350] at h
  refine lv_iload_n hx hb d_M_writeEntry_350 rfl (lv_at hl 3 rfl) ?_
  refine lv_bipush (v := 65) hx hb d_M_writeEntry_351 (by decide) ?_
  refine lv_icmp_ne (tgt := 360) hx hb d_M_writeEntry_353 (by decide) (fun c353 => ?_) (fun c353 => ?_)
  · have h := ite_f c353 h
    refine lv_iconst (v := 0) hx hb d_M_writeEntry_360 (by decide) ?_
    exact w_M_writeEntry_361 C hQ x1 x2 x3 x4 0 s H locs ls hX hl h
  · have h := ite_t c353 h
    exact w_M_writeEntry_356 C hQ x1 x2 x3 x4 s H locs ls hX hl h
set_option maxHeartbeats 4000000 in
set_option maxRecDepth 100000 in
theorem w_M_writeEntry_234 {z : SM} (C : Cx g A p m c b_M_writeEntry 8 ss args R_M) (hQ : ∀ (pc : Nat) (H : Heap) (locs : List Loc) (ls : Array Slot), XW g A ss (wM g z) H locs → decode b_M_writeEntry pc = .ok (.return_, 1) → W p l e (rmX 3 68) ss m args below meth c H locs 0 0 Q (F0 m pc ls [])) : ∀ (x1 : Int32) (x2 : Int32) (x3 : Int32) (x4 : Int32) (y1 : Int32) (y2 : Int32) (y3 : Int32) (s : SM) (H : Heap) (locs : List Loc) (ls : Array Slot), XW g A ss (wM g s) H locs → lv_has ls 8 [(0, .ref (g.q 60)), (1, .int x1), (2, .int x2), (3, .int x3), (4, .int x4)] → f_M_writeEntry_234 x1 x2 x3 x4 y1 y2 y3 s = some z → W p l e (rmX 3 68) ss m args below meth c H locs 0 0 Q (F0 m 234 ls [.int y3, .int y2, .int y1, .ref (g.q 60)]) := by
  have ⟨⟨hx, hb, hml, hown, hts⟩, hK, hA, hN⟩ := C
  intro x1 x2 x3 x4 y1 y2 y3 s H locs ls hX hl h
  rw [f_M_writeEntry_234] at h
  refine lv_iconst (v := 0) hx hb d_M_writeEntry_234 (by decide) ?_
  obtain ⟨s1, hc235, h⟩ := bd1_e h
  refine x_vV (As := [.int y1, .int y2, .int y3, .int 0]) (rest := []) C hX (c_M_write l g y1 y2 y3 0 s s1 hc235) (cw_M_402 C.1.2.2.2.2 C.2.2.2 ⟨by decide, by decide⟩) (x_rc C hX vg_0 rfl) rfl hl.1 rfl (lv_room (Nat.le_of_ble_eq_true rfl)) d_M_writeEntry_235 ⟨Nat.le_refl _, Nat.le_refl _⟩ (fun H locs hX => ?_)
  refine lv_goto (tgt := 409) hx hb d_M_writeEntry_238 (by decide) ?_
  exact w_M_writeEntry_409 C hQ x1 x2 x3 x4 s1 H locs ls hX hl h
set_option maxHeartbeats 4000000 in
set_option maxRecDepth 100000 in
theorem w_M_writeEntry_123 {z : SM} (C : Cx g A p m c b_M_writeEntry 8 ss args R_M) (hQ : ∀ (pc : Nat) (H : Heap) (locs : List Loc) (ls : Array Slot), XW g A ss (wM g z) H locs → decode b_M_writeEntry pc = .ok (.return_, 1) → W p l e (rmX 3 68) ss m args below meth c H locs 0 0 Q (F0 m pc ls [])) (n : Nat) : ∀ (x1 : Int32) (x2 : Int32) (x3 : Int32) (x4 : Int32) (x5 : Int32) (s : SM) (H : Heap) (locs : List Loc) (ls : Array Slot), XW g A ss (wM g s) H locs → lv_has ls 8 [(0, .ref (g.q 60)), (1, .int x1), (2, .int x2), (3, .int x3), (4, .int x4), (5, .int x5)] → f_M_writeEntry_123 n x1 x2 x3 x4 x5 s = some z → W p l e (rmX 3 68) ss m args below meth c H locs 0 0 Q (F0 m 123 ls []) := by
  have ⟨⟨hx, hb, hml, hown, hts⟩, hK, hA, hN⟩ := C
  induction n with
  | zero => intro x1 x2 x3 x4 x5 s H locs ls hX hl h; cases h
  | succ n ih =>
    intro x1 x2 x3 x4 x5 s H locs ls hX hl h
    rw [f_M_writeEntry_123] at h
    refine lv_iload hx hb d_M_writeEntry_123 (lv_at hl 5 rfl) ?_
    obtain ⟨v1, ev1, h⟩ := lt1_e h
    refine lv_i2l hx hb d_M_writeEntry_125 ev1.symm ?_
    refine lv_aload_n hx hb d_M_writeEntry_126 rfl (lv_at hl 0 rfl) ?_
    refine gm_first C hX fl_M_54 d_M_writeEntry_127 ?_
    refine lv_iload_n hx hb d_M_writeEntry_130 rfl (lv_at hl 2 rfl) ?_
    obtain ⟨hz131, h⟩ := gi_e h
    obtain ⟨v2, ev2, h⟩ := lt1_e h
    refine alm_15 C hX hz131 d_M_writeEntry_131 ev2 ?_
    obtain ⟨v3, ev3, h⟩ := lt1_e h
    refine x_lcmp hx hb d_M_writeEntry_132 ev3 ?_
    refine lv_if_gt (tgt := 185) hx hb d_M_writeEntry_133 (by decide) (fun c133 => ?_) (fun c133 => ?_)
    · have h := ite_t c133 h
      refine lv_goto (tgt := 409) hx hb d_M_writeEntry_185 (by decide) ?_
      exact w_M_writeEntry_409 C hQ x1 x2 x3 x4 s H locs ls hX (lv_sub hl [0, 1, 2, 3, 4] rfl) h
    · have h := ite_f c133 h
      refine lv_aload_n hx hb d_M_writeEntry_136 rfl (lv_at hl 0 rfl) ?_
      refine gm_label C hX fl_M_84 d_M_writeEntry_137 ?_
      refine lv_aload_n hx hb d_M_writeEntry_140 rfl (lv_at hl 0 rfl) ?_
      refine gm_second C hX fl_M_57 d_M_writeEntry_141 ?_
      refine lv_iload_n hx hb d_M_writeEntry_144 rfl (lv_at hl 2 rfl) ?_
      obtain ⟨hz145, h⟩ := gi_e h
      obtain ⟨v4, ev4, h⟩ := lt1_e h
      refine alm_16 C hX hz145 d_M_writeEntry_145 ev4 ?_
      obtain ⟨v5, ev5, h⟩ := lt1_e h
      refine lv_l2i hx hb d_M_writeEntry_146 ev5.symm ?_
      refine lv_iload hx hb d_M_writeEntry_147 (lv_at hl 5 rfl) ?_
      obtain ⟨v6, ev6, h⟩ := lt1_e h
      refine x_iadd hx hb d_M_writeEntry_149 ev6 ?_
      obtain ⟨hz150, h⟩ := gi_e h
      obtain ⟨v7, ev7, h⟩ := lt1_e h
      refine alm_25 C hX hz150 d_M_writeEntry_150 ev7 ?_
      refine lv_lstore (lv' := [(6, .long v7), (0, .ref (g.q 60)), (1, .int x1), (2, .int x2), (3, .int x3), (4, .int x4), (5, .int x5)]) hx hb d_M_writeEntry_151 hl (by decide) rfl (fun ls hl => ?_)
      refine lv_aload_n hx hb d_M_writeEntry_153 rfl (lv_at hl 1 rfl) ?_
      refine lv_bipush (v := 12) hx hb d_M_writeEntry_154 (by decide) ?_
      refine lv_iload hx hb d_M_writeEntry_156 (lv_at hl 5 rfl) ?_
      refine lv_iconst (v := 1) hx hb d_M_writeEntry_158 (by decide) ?_
      obtain ⟨v8, ev8, h⟩ := lt1_e h
      refine x_isub hx hb d_M_writeEntry_159 ev8 ?_
      refine lv_aload_n hx hb d_M_writeEntry_160 rfl (lv_at hl 1 rfl) ?_
      refine lv_iload_n hx hb d_M_writeEntry_161 rfl (lv_at hl 2 rfl) ?_
      refine lv_iload_n hx hb d_M_writeEntry_162 rfl (lv_at hl 3 rfl) ?_
      refine lv_lload hx hb d_M_writeEntry_163 (lv_at hl 0 rfl) ?_
      obtain ⟨r9, hc165, h⟩ := bd1_e h
      refine x_vI (As := [.int x1, .int x2, .long v7]) (rest := [.int v8, .int 12, .ref (g.q 60)]) C hX (c_M_target l g x1 x2 v7 s r9 hc165) (cw_M_406 C.1.2.2.2.2 C.2.2.2 ⟨by decide, by decide⟩) (x_rc C hX vg_0 rfl) rfl hl.1 rfl (lv_room (Nat.le_of_ble_eq_true rfl)) d_M_writeEntry_165 ⟨Nat.le_refl _, Nat.le_refl _⟩ (fun H locs hX => ?_)
      refine lv_aload_n hx hb d_M_writeEntry_168 rfl (lv_at hl 1 rfl) ?_
      refine lv_iload_n hx hb d_M_writeEntry_169 rfl (lv_at hl 2 rfl) ?_
      refine lv_iload_n hx hb d_M_writeEntry_170 rfl (lv_at hl 3 rfl) ?_
      refine lv_lload hx hb d_M_writeEntry_171 (lv_at hl 0 rfl) ?_
      obtain ⟨r10, hc173, h⟩ := bd1_e h
      refine x_vI (As := [.int x1, .int x2, .long v7]) (rest := [.int r9, .int v8, .int 12, .ref (g.q 60)]) C hX (c_M_left l g x1 x2 v7 s r10 hc173) (cw_M_410 C.1.2.2.2.2 C.2.2.2 ⟨by decide, by decide⟩) (x_rc C hX vg_0 rfl) rfl hl.1 rfl (lv_room (Nat.le_of_ble_eq_true rfl)) d_M_writeEntry_173 ⟨Nat.le_refl _, Nat.le_refl _⟩ (fun H locs hX => ?_)
      obtain ⟨s11, hc176, h⟩ := bd1_e h
      refine x_vV (As := [.int 12, .int v8, .int r9, .int r10]) (rest := []) C hX (c_M_write l g 12 v8 r9 r10 s s11 hc176) (cw_M_402 C.1.2.2.2.2 C.2.2.2 ⟨by decide, by decide⟩) (x_rc C hX vg_0 rfl) rfl hl.1 rfl (lv_room (Nat.le_of_ble_eq_true rfl)) d_M_writeEntry_176 ⟨Nat.le_refl _, Nat.le_refl _⟩ (fun H locs hX => ?_)
      obtain ⟨v12, ev12, h⟩ := lt1_e h
      refine lv_iinc (v := v12) (lv' := [(5, .int v12), (6, .long v7), (0, .ref (g.q 60)), (1, .int x1), (2, .int x2), (3, .int x3), (4, .int x4)]) hx hb d_M_writeEntry_179 hl (k := 6) rfl (by rw [ev12]; rfl) (by decide) rfl (fun ls hl => ?_)
      refine lv_goto (tgt := 123) hx hb d_M_writeEntry_182 (by decide) ?_
      exact ih x1 x2 x3 x4 v12 s11 H locs ls hX (lv_sub hl [2, 3, 4, 5, 6, 0] rfl) h
set_option maxHeartbeats 4000000 in
set_option maxRecDepth 100000 in
theorem w_M_writeEntry_65 {z : SM} (C : Cx g A p m c b_M_writeEntry 8 ss args R_M) (hQ : ∀ (pc : Nat) (H : Heap) (locs : List Loc) (ls : Array Slot), XW g A ss (wM g z) H locs → decode b_M_writeEntry pc = .ok (.return_, 1) → W p l e (rmX 3 68) ss m args below meth c H locs 0 0 Q (F0 m pc ls [])) : ∀ (x1 : Int32) (x2 : Int32) (x3 : Int32) (x4 : Int32) (s : SM) (H : Heap) (locs : List Loc) (ls : Array Slot), XW g A ss (wM g s) H locs → lv_has ls 8 [(0, .ref (g.q 60)), (1, .int x1), (2, .int x2), (3, .int x3), (4, .int x4)] → f_M_writeEntry_65 x1 x2 x3 x4 s = some z → W p l e (rmX 3 68) ss m args below meth c H locs 0 0 Q (F0 m 65 ls []) := by
  have ⟨⟨hx, hb, hml, hown, hts⟩, hK, hA, hN⟩ := C
  intro x1 x2 x3 x4 s H locs ls hX hl h
  rw [f_M_writeEntry_65] at h
  refine lv_aload_n hx hb d_M_writeEntry_65 rfl (lv_at hl 0 rfl) ?_
  refine lv_iload_n hx hb d_M_writeEntry_66 rfl (lv_at hl 3 rfl) ?_
  refine lv_iload hx hb d_M_writeEntry_67 (lv_at hl 4 rfl) ?_
  refine lv_aload_n hx hb d_M_writeEntry_69 rfl (lv_at hl 0 rfl) ?_
  refine lv_iload_n hx hb d_M_writeEntry_70 rfl (lv_at hl 1 rfl) ?_
  refine lv_iload_n hx hb d_M_writeEntry_71 rfl (lv_at hl 2 rfl) ?_
  refine lv_aload_n hx hb d_M_writeEntry_72 rfl (lv_at hl 0 rfl) ?_
  refine gm_first C hX fl_M_54 d_M_writeEntry_73 ?_
  refine lv_iload_n hx hb d_M_writeEntry_76 rfl (lv_at hl 2 rfl) ?_
  obtain ⟨hz77, h⟩ := gi_e h
  obtain ⟨v1, ev1, h⟩ := lt1_e h
  refine alm_15 C hX hz77 d_M_writeEntry_77 ev1 ?_
  obtain ⟨r2, hc78, h⟩ := bd1_e h
  refine x_vI (As := [.int x1, .int x2, .long v1]) (rest := [.int x4, .int x3, .ref (g.q 60)]) C hX (c_M_target l g x1 x2 v1 s r2 hc78) (cw_M_406 C.1.2.2.2.2 C.2.2.2 ⟨by decide, by decide⟩) (x_rc C hX vg_0 rfl) rfl hl.1 rfl (lv_room (Nat.le_of_ble_eq_true rfl)) d_M_writeEntry_78 ⟨Nat.le_refl _, Nat.le_refl _⟩ (fun H locs hX => ?_)
  refine lv_aload_n hx hb d_M_writeEntry_81 rfl (lv_at hl 0 rfl) ?_
  refine lv_iload_n hx hb d_M_writeEntry_82 rfl (lv_at hl 1 rfl) ?_
  refine lv_iload_n hx hb d_M_writeEntry_83 rfl (lv_at hl 2 rfl) ?_
  refine lv_aload_n hx hb d_M_writeEntry_84 rfl (lv_at hl 0 rfl) ?_
  refine gm_first C hX fl_M_54 d_M_writeEntry_85 ?_
  refine lv_iload_n hx hb d_M_writeEntry_88 rfl (lv_at hl 2 rfl) ?_
  obtain ⟨hz89, h⟩ := gi_e h
  obtain ⟨v3, ev3, h⟩ := lt1_e h
  refine alm_15 C hX hz89 d_M_writeEntry_89 ev3 ?_
  obtain ⟨r4, hc90, h⟩ := bd1_e h
  refine x_vI (As := [.int x1, .int x2, .long v3]) (rest := [.int r2, .int x4, .int x3, .ref (g.q 60)]) C hX (c_M_left l g x1 x2 v3 s r4 hc90) (cw_M_410 C.1.2.2.2.2 C.2.2.2 ⟨by decide, by decide⟩) (x_rc C hX vg_0 rfl) rfl hl.1 rfl (lv_room (Nat.le_of_ble_eq_true rfl)) d_M_writeEntry_90 ⟨Nat.le_refl _, Nat.le_refl _⟩ (fun H locs hX => ?_)
  obtain ⟨s5, hc93, h⟩ := bd1_e h
  refine x_vV (As := [.int x3, .int x4, .int r2, .int r4]) (rest := []) C hX (c_M_write l g x3 x4 r2 r4 s s5 hc93) (cw_M_402 C.1.2.2.2.2 C.2.2.2 ⟨by decide, by decide⟩) (x_rc C hX vg_0 rfl) rfl hl.1 rfl (lv_room (Nat.le_of_ble_eq_true rfl)) d_M_writeEntry_93 ⟨Nat.le_refl _, Nat.le_refl _⟩ (fun H locs hX => ?_)
  refine lv_goto (tgt := 409) hx hb d_M_writeEntry_96 (by decide) ?_
  exact w_M_writeEntry_409 C hQ x1 x2 x3 x4 s5 H locs ls hX hl h
set_option maxHeartbeats 4000000 in
set_option maxRecDepth 100000 in
theorem w_M_writeEntry {z : SM} (C : Cx g A p m c b_M_writeEntry 8 ss args R_M) (hQ : ∀ (pc : Nat) (H : Heap) (locs : List Loc) (ls : Array Slot), XW g A ss (wM g z) H locs → decode b_M_writeEntry pc = .ok (.return_, 1) → W p l e (rmX 3 68) ss m args below meth c H locs 0 0 Q (F0 m pc ls [])) : ∀ (x1 : Int32) (x2 : Int32) (s : SM) (H : Heap) (locs : List Loc) (ls : Array Slot), XW g A ss (wM g s) H locs → lv_has ls 8 [(0, .ref (g.q 60)), (1, .int x1), (2, .int x2)] → f_M_writeEntry x1 x2 s = some z → W p l e (rmX 3 68) ss m args below meth c H locs 0 0 Q (F0 m 0 ls []) := by
  have ⟨⟨hx, hb, hml, hown, hts⟩, hK, hA, hN⟩ := C
  intro x1 x2 s H locs ls hX hl h
  rw [f_M_writeEntry] at h
  refine lv_aload_n hx hb d_M_writeEntry_0 rfl (lv_at hl 0 rfl) ?_
  refine gm_op C hX fl_M_51 d_M_writeEntry_1 ?_
  refine lv_iload_n hx hb d_M_writeEntry_4 rfl (lv_at hl 2 rfl) ?_
  obtain ⟨hz5, h⟩ := gi_e h
  obtain ⟨v1, ev1, h⟩ := lt1_e h
  refine alm_14 C hX hz5 d_M_writeEntry_5 ev1 ?_
  refine lv_istore_n (lv' := [(3, .int v1), (0, .ref (g.q 60)), (1, .int x1), (2, .int x2)]) hx hb d_M_writeEntry_6 rfl hl (by decide) rfl (fun ls hl => ?_)
  refine lv_aload_n hx hb d_M_writeEntry_7 rfl (lv_at hl 1 rfl) ?_
  refine lv_iload_n hx hb d_M_writeEntry_8 rfl (lv_at hl 2 rfl) ?_
  obtain ⟨r2, hc9, h⟩ := bd1_e h
  refine x_vI (As := [.int x1]) (rest := []) C hX (c_M_locals l g x1 s r2 hc9) (cw_M_322 C.1.2.2.2.2 C.2.2.2 ⟨by decide, by decide⟩) (x_rc C hX vg_0 rfl) rfl hl.1 rfl (lv_room (Nat.le_of_ble_eq_true rfl)) d_M_writeEntry_9 ⟨Nat.le_refl _, Nat.le_refl _⟩ (fun H locs hX => ?_)
  refine lv_aload_n hx hb d_M_writeEntry_12 rfl (lv_at hl 1 rfl) ?_
  refine gm_high C hX fl_M_69 d_M_writeEntry_13 ?_
  refine lv_iload_n hx hb d_M_writeEntry_16 rfl (lv_at hl 3 rfl) ?_
  obtain ⟨hz17, h⟩ := gi_e h
  obtain ⟨v3, ev3, h⟩ := lt1_e h
  refine alm_20 C hX hz17 d_M_writeEntry_17 ev3 ?_
  obtain ⟨v4, ev4, h⟩ := lt1_e h
  refine x_iadd hx hb d_M_writeEntry_18 ev4 ?_
  refine lv_istore (lv' := [(4, .int v4), (3, .int v1), (0, .ref (g.q 60)), (1, .int x1), (2, .int x2)]) hx hb d_M_writeEntry_19 hl (by decide) rfl (fun ls hl => ?_)
  refine lv_iload_n hx hb d_M_writeEntry_21 rfl (lv_at hl 1 rfl) ?_
  refine lv_bipush (v := 11) hx hb d_M_writeEntry_22 (by decide) ?_
  refine lv_icmp_ne (tgt := 53) hx hb d_M_writeEntry_24 (by decide) (fun c24 => ?_) (fun c24 => ?_)
  · have h := ite_f c24 h
    refine lv_iload_n hx hb d_M_writeEntry_53 rfl (lv_at hl 1 rfl) ?_
    refine lv_bipush (v := 12) hx hb d_M_writeEntry_54 (by decide) ?_
    refine lv_icmp_eq (tgt := 65) hx hb d_M_writeEntry_56 (by decide) (fun c56 => ?_) (fun c56 => ?_)
    · have h := ite_t c56 h
      exact w_M_writeEntry_65 C hQ x1 x2 v1 v4 s H locs ls hX (lv_sub hl [2, 3, 4, 1, 0] rfl) h
    · have h := ite_f c56 h
      refine lv_iload_n hx hb d_M_writeEntry_59 rfl (lv_at hl 1 rfl) ?_
      refine lv_bipush (v := 13) hx hb d_M_writeEntry_60 (by decide) ?_
      refine lv_icmp_ne (tgt := 99) hx hb d_M_writeEntry_62 (by decide) (fun c62 => ?_) (fun c62 => ?_)
      · have h := ite_f c62 h
        refine lv_iload_n hx hb d_M_writeEntry_99 rfl (lv_at hl 1 rfl) ?_
        refine lv_bipush (v := 14) hx hb d_M_writeEntry_100 (by decide) ?_
        refine lv_icmp_ne (tgt := 188) hx hb d_M_writeEntry_102 (by decide) (fun c102 => ?_) (fun c102 => ?_)
        · have h := ite_f c102 h
          refine lv_iload_n hx hb d_M_writeEntry_188 rfl (lv_at hl 1 rfl) ?_
          refine lv_iconst (v := 4) hx hb d_M_writeEntry_189 (by decide) ?_
          refine lv_icmp_ne (tgt := 241) hx hb d_M_writeEntry_190 (by decide) (fun c190 => ?_) (fun c190 => ?_)
          · have h := ite_f c190 h
            refine lv_iload_n hx hb d_M_writeEntry_241 rfl (lv_at hl 1 rfl) ?_
            refine lv_iconst (v := 5) hx hb d_M_writeEntry_242 (by decide) ?_
            refine lv_icmp_ne (tgt := 273) hx hb d_M_writeEntry_243 (by decide) (fun c243 => ?_) (fun c243 => ?_)
            · have h := ite_f c243 h
              refine lv_iload_n hx hb d_M_writeEntry_273 rfl (lv_at hl 1 rfl) ?_
              refine lv_bipush (v := 16) hx hb d_M_writeEntry_274 (by decide) ?_
              refine lv_icmp_ne (tgt := 316) hx hb d_M_writeEntry_276 (by decide) (fun c276 => ?_) (fun c276 => ?_)
              · have h := ite_f c276 h
                refine lv_iload_n hx hb d_M_writeEntry_316 rfl (lv_at hl 1 rfl) ?_
                refine lv_bipush (v := 15) hx hb d_M_writeEntry_317 (by decide) ?_
                refine lv_icmp_ne (tgt := 338) hx hb d_M_writeEntry_319 (by decide) (fun c319 => ?_) (fun c319 => ?_)
                · have h := ite_f c319 h
                  refine lv_iload_n hx hb d_M_writeEntry_338 rfl (lv_at hl 1 rfl) ?_
                  refine lv_bipush (v := 31) hx hb d_M_writeEntry_339 (by decide) ?_
                  refine lv_icmp_le (tgt := 350) hx hb d_M_writeEntry_341 (by decide) (fun c341 => ?_) (fun c341 => ?_)
                  · have h := ite_t c341 h
                    exact w_M_writeEntry_350 C hQ x1 x2 v1 v4 s H locs ls hX (lv_sub hl [2, 3, 4, 1, 0] rfl) h
                  · have h := ite_f c341 h
                    refine lv_iload_n hx hb d_M_writeEntry_344 rfl (lv_at hl 1 rfl) ?_
                    refine lv_bipush (v := 37) hx hb d_M_writeEntry_345 (by decide) ?_
                    refine lv_icmp_lt (tgt := 356) hx hb d_M_writeEntry_347 (by decide) (fun c347 => ?_) (fun c347 => ?_)
                    · have h := ite_t c347 h
                      exact w_M_writeEntry_356 C hQ x1 x2 v1 v4 s H locs ls hX (lv_sub hl [2, 3, 4, 1, 0] rfl) h
                    · have h := ite_f c347 h
                      exact w_M_writeEntry_350 C hQ x1 x2 v1 v4 s H locs ls hX (lv_sub hl [2, 3, 4, 1, 0] rfl) h
                · have h := ite_t c319 h
                  refine lv_aload_n hx hb d_M_writeEntry_322 rfl (lv_at hl 2 rfl) ?_
                  refine lv_iload_n hx hb d_M_writeEntry_323 rfl (lv_at hl 1 rfl) ?_
                  refine lv_iload hx hb d_M_writeEntry_324 (lv_at hl 0 rfl) ?_
                  refine lv_iconst (v := 0) hx hb d_M_writeEntry_326 (by decide) ?_
                  refine lv_aload_n hx hb d_M_writeEntry_327 rfl (lv_at hl 2 rfl) ?_
                  refine lv_iload_n hx hb d_M_writeEntry_328 rfl (lv_at hl 3 rfl) ?_
                  obtain ⟨r5, hc329, h⟩ := bd1_e h
                  refine x_vI (As := [.int x1]) (rest := [.int 0, .int v4, .int v1, .ref (g.q 60)]) C hX (c_M_resultsOf l g x1 s r5 hc329) (cw_M_292 C.1.2.2.2.2 C.2.2.2 ⟨by decide, by decide⟩) (x_rc C hX vg_0 rfl) rfl hl.1 rfl (lv_room (Nat.le_of_ble_eq_true rfl)) d_M_writeEntry_329 ⟨Nat.le_refl _, Nat.le_refl _⟩ (fun H locs hX => ?_)
                  obtain ⟨s6, hc332, h⟩ := bd1_e h
                  refine x_vV (As := [.int v1, .int v4, .int 0, .int r5]) (rest := []) C hX (c_M_write l g v1 v4 0 r5 s s6 hc332) (cw_M_402 C.1.2.2.2.2 C.2.2.2 ⟨by decide, by decide⟩) (x_rc C hX vg_0 rfl) rfl hl.1 rfl (lv_room (Nat.le_of_ble_eq_true rfl)) d_M_writeEntry_332 ⟨Nat.le_refl _, Nat.le_refl _⟩ (fun H locs hX => ?_)
                  refine lv_goto (tgt := 409) hx hb d_M_writeEntry_335 (by decide) ?_
                  exact w_M_writeEntry_409 C hQ x1 x2 v1 v4 s6 H locs ls hX (lv_sub hl [2, 3, 4, 1, 0] rfl) h
              · have h := ite_t c276 h
                refine lv_aload_n hx hb d_M_writeEntry_279 rfl (lv_at hl 2 rfl) ?_
                refine gm_first C hX fl_M_54 d_M_writeEntry_280 ?_
                refine lv_iload_n hx hb d_M_writeEntry_283 rfl (lv_at hl 4 rfl) ?_
                obtain ⟨hz284, h⟩ := gi_e h
                obtain ⟨v7, ev7, h⟩ := lt1_e h
                refine alm_15 C hX hz284 d_M_writeEntry_284 ev7 ?_
                obtain ⟨v8, ev8, h⟩ := lt1_e h
                refine lv_l2i hx hb d_M_writeEntry_285 ev8.symm ?_
                refine lv_istore (lv' := [(5, .int v8), (4, .int v4), (3, .int v1), (0, .ref (g.q 60)), (1, .int x1), (2, .int x2)]) hx hb d_M_writeEntry_286 hl (by decide) rfl (fun ls hl => ?_)
                refine lv_aload_n hx hb d_M_writeEntry_288 rfl (lv_at hl 3 rfl) ?_
                refine lv_iload_n hx hb d_M_writeEntry_289 rfl (lv_at hl 2 rfl) ?_
                refine lv_iload hx hb d_M_writeEntry_290 (lv_at hl 1 rfl) ?_
                refine lv_aload_n hx hb d_M_writeEntry_292 rfl (lv_at hl 3 rfl) ?_
                refine gm_entry C hX fl_M_72 d_M_writeEntry_293 ?_
                refine lv_aload_n hx hb d_M_writeEntry_296 rfl (lv_at hl 3 rfl) ?_
                refine gm_begin C hX fl_M_75 d_M_writeEntry_297 ?_
                refine lv_iload hx hb d_M_writeEntry_300 (lv_at hl 0 rfl) ?_
                obtain ⟨hz302, h⟩ := gi_e h
                obtain ⟨v9, ev9, h⟩ := lt1_e h
                refine alm_22 C hX hz302 d_M_writeEntry_302 ev9 ?_
                obtain ⟨hz303, h⟩ := gi_e h
                obtain ⟨v10, ev10, h⟩ := lt1_e h
                refine alm_21 C hX hz303 d_M_writeEntry_303 ev10 ?_
                refine lv_aload_n hx hb d_M_writeEntry_304 rfl (lv_at hl 3 rfl) ?_
                refine lv_iload hx hb d_M_writeEntry_305 (lv_at hl 0 rfl) ?_
                obtain ⟨r11, hc307, h⟩ := bd1_e h
                refine x_vI (As := [.int v8]) (rest := [.int v10, .int v4, .int v1, .ref (g.q 60)]) C hX (c_M_parameters l g v8 s r11 hc307) (cw_M_258 C.1.2.2.2.2 C.2.2.2 ⟨by decide, by decide⟩) (x_rc C hX vg_0 rfl) rfl hl.1 rfl (lv_room (Nat.le_of_ble_eq_true rfl)) d_M_writeEntry_307 ⟨Nat.le_refl _, Nat.le_refl _⟩ (fun H locs hX => ?_)
                obtain ⟨s12, hc310, h⟩ := bd1_e h
                refine x_vV (As := [.int v1, .int v4, .int v10, .int r11]) (rest := []) C hX (c_M_write l g v1 v4 v10 r11 s s12 hc310) (cw_M_402 C.1.2.2.2.2 C.2.2.2 ⟨by decide, by decide⟩) (x_rc C hX vg_0 rfl) rfl hl.1 rfl (lv_room (Nat.le_of_ble_eq_true rfl)) d_M_writeEntry_310 ⟨Nat.le_refl _, Nat.le_refl _⟩ (fun H locs hX => ?_)
                refine lv_goto (tgt := 409) hx hb d_M_writeEntry_313 (by decide) ?_
                exact w_M_writeEntry_409 C hQ x1 x2 v1 v4 s12 H locs ls hX (lv_sub hl [3, 4, 5, 2, 1] rfl) h
            · have h := ite_t c243 h
              refine lv_aload_n hx hb d_M_writeEntry_246 rfl (lv_at hl 2 rfl) ?_
              refine lv_iload_n hx hb d_M_writeEntry_247 rfl (lv_at hl 1 rfl) ?_
              refine lv_iload hx hb d_M_writeEntry_248 (lv_at hl 0 rfl) ?_
              refine lv_aload_n hx hb d_M_writeEntry_250 rfl (lv_at hl 2 rfl) ?_
              refine gm_entry C hX fl_M_72 d_M_writeEntry_251 ?_
              refine lv_aload_n hx hb d_M_writeEntry_254 rfl (lv_at hl 2 rfl) ?_
              refine gm_endAt C hX fl_M_63 d_M_writeEntry_255 ?_
              refine lv_aload_n hx hb d_M_writeEntry_258 rfl (lv_at hl 2 rfl) ?_
              refine gm_inside C hX fl_M_60 d_M_writeEntry_259 ?_
              refine lv_iload_n hx hb d_M_writeEntry_262 rfl (lv_at hl 4 rfl) ?_
              obtain ⟨hz263, h⟩ := gi_e h
              obtain ⟨v13, ev13, h⟩ := lt1_e h
              refine alm_17 C hX hz263 d_M_writeEntry_263 ev13 ?_
              obtain ⟨hz264, h⟩ := gi_e h
              obtain ⟨v14, ev14, h⟩ := lt1_e h
              refine alm_18 C hX hz264 d_M_writeEntry_264 ev14 ?_
              obtain ⟨hz265, h⟩ := gi_e h
              obtain ⟨v15, ev15, h⟩ := lt1_e h
              refine alm_21 C hX hz265 d_M_writeEntry_265 ev15 ?_
              refine lv_iconst (v := 0) hx hb d_M_writeEntry_266 (by decide) ?_
              obtain ⟨s16, hc267, h⟩ := bd1_e h
              refine x_vV (As := [.int v1, .int v4, .int v15, .int 0]) (rest := []) C hX (c_M_write l g v1 v4 v15 0 s s16 hc267) (cw_M_402 C.1.2.2.2.2 C.2.2.2 ⟨by decide, by decide⟩) (x_rc C hX vg_0 rfl) rfl hl.1 rfl (lv_room (Nat.le_of_ble_eq_true rfl)) d_M_writeEntry_267 ⟨Nat.le_refl _, Nat.le_refl _⟩ (fun H locs hX => ?_)
              refine lv_goto (tgt := 409) hx hb d_M_writeEntry_270 (by decide) ?_
              exact w_M_writeEntry_409 C hQ x1 x2 v1 v4 s16 H locs ls hX (lv_sub hl [2, 3, 4, 1, 0] rfl) h
          · have h := ite_t c190 h
            refine lv_aload_n hx hb d_M_writeEntry_193 rfl (lv_at hl 2 rfl) ?_
            refine lv_iload_n hx hb d_M_writeEntry_194 rfl (lv_at hl 1 rfl) ?_
            refine lv_iload hx hb d_M_writeEntry_195 (lv_at hl 0 rfl) ?_
            refine lv_aload_n hx hb d_M_writeEntry_197 rfl (lv_at hl 2 rfl) ?_
            refine gm_elseAt C hX fl_M_66 d_M_writeEntry_198 ?_
            refine lv_iload_n hx hb d_M_writeEntry_201 rfl (lv_at hl 4 rfl) ?_
            obtain ⟨hz202, h⟩ := gi_e h
            obtain ⟨v17, ev17, h⟩ := lt1_e h
            refine alm_19 C hX hz202 d_M_writeEntry_202 ev17 ?_
            refine lv_iconst (v := (-1)) hx hb d_M_writeEntry_203 (by decide) ?_
            refine lv_icmp_ne (tgt := 221) hx hb d_M_writeEntry_204 (by decide) (fun c204 => ?_) (fun c204 => ?_)
            · have h := ite_f c204 h
              refine lv_aload_n hx hb d_M_writeEntry_221 rfl (lv_at hl 2 rfl) ?_
              refine gm_entry C hX fl_M_72 d_M_writeEntry_222 ?_
              refine lv_aload_n hx hb d_M_writeEntry_225 rfl (lv_at hl 2 rfl) ?_
              refine gm_elseAt C hX fl_M_66 d_M_writeEntry_226 ?_
              refine lv_iload_n hx hb d_M_writeEntry_229 rfl (lv_at hl 4 rfl) ?_
              obtain ⟨hz230, h⟩ := gi_e h
              obtain ⟨v18, ev18, h⟩ := lt1_e h
              refine alm_19 C hX hz230 d_M_writeEntry_230 ev18 ?_
              refine lv_iconst (v := 1) hx hb d_M_writeEntry_231 (by decide) ?_
              obtain ⟨v19, ev19, h⟩ := lt1_e h
              refine x_iadd hx hb d_M_writeEntry_232 ev19 ?_
              obtain ⟨hz233, h⟩ := gi_e h
              obtain ⟨v20, ev20, h⟩ := lt1_e h
              refine alm_21 C hX hz233 d_M_writeEntry_233 ev20 ?_
              exact w_M_writeEntry_234 C hQ x1 x2 v1 v4 v1 v4 v20 s H locs ls hX (lv_sub hl [2, 3, 4, 1, 0] rfl) h
            · have h := ite_t c204 h
              refine lv_aload_n hx hb d_M_writeEntry_207 rfl (lv_at hl 2 rfl) ?_
              refine gm_entry C hX fl_M_72 d_M_writeEntry_208 ?_
              refine lv_aload_n hx hb d_M_writeEntry_211 rfl (lv_at hl 2 rfl) ?_
              refine gm_endAt C hX fl_M_63 d_M_writeEntry_212 ?_
              refine lv_iload_n hx hb d_M_writeEntry_215 rfl (lv_at hl 4 rfl) ?_
              obtain ⟨hz216, h⟩ := gi_e h
              obtain ⟨v21, ev21, h⟩ := lt1_e h
              refine alm_18 C hX hz216 d_M_writeEntry_216 ev21 ?_
              obtain ⟨hz217, h⟩ := gi_e h
              obtain ⟨v22, ev22, h⟩ := lt1_e h
              refine alm_21 C hX hz217 d_M_writeEntry_217 ev22 ?_
              refine lv_goto (tgt := 234) hx hb d_M_writeEntry_218 (by decide) ?_
              exact w_M_writeEntry_234 C hQ x1 x2 v1 v4 v1 v4 v22 s H locs ls hX (lv_sub hl [2, 3, 4, 1, 0] rfl) h
        · have h := ite_t c102 h
          refine lv_aload_n hx hb d_M_writeEntry_105 rfl (lv_at hl 2 rfl) ?_
          refine lv_iload_n hx hb d_M_writeEntry_106 rfl (lv_at hl 1 rfl) ?_
          refine lv_iload hx hb d_M_writeEntry_107 (lv_at hl 0 rfl) ?_
          refine lv_aload_n hx hb d_M_writeEntry_109 rfl (lv_at hl 2 rfl) ?_
          refine gm_first C hX fl_M_54 d_M_writeEntry_110 ?_
          refine lv_iload_n hx hb d_M_writeEntry_113 rfl (lv_at hl 4 rfl) ?_
          obtain ⟨hz114, h⟩ := gi_e h
          obtain ⟨v23, ev23, h⟩ := lt1_e h
          refine alm_15 C hX hz114 d_M_writeEntry_114 ev23 ?_
          obtain ⟨v24, ev24, h⟩ := lt1_e h
          refine lv_l2i hx hb d_M_writeEntry_115 ev24.symm ?_
          refine lv_iconst (v := 0) hx hb d_M_writeEntry_116 (by decide) ?_
          obtain ⟨s25, hc117, h⟩ := bd1_e h
          refine x_vV (As := [.int v1, .int v4, .int v24, .int 0]) (rest := []) C hX (c_M_write l g v1 v4 v24 0 s s25 hc117) (cw_M_402 C.1.2.2.2.2 C.2.2.2 ⟨by decide, by decide⟩) (x_rc C hX vg_0 rfl) rfl hl.1 rfl (lv_room (Nat.le_of_ble_eq_true rfl)) d_M_writeEntry_117 ⟨Nat.le_refl _, Nat.le_refl _⟩ (fun H locs hX => ?_)
          refine lv_iconst (v := 0) hx hb d_M_writeEntry_120 (by decide) ?_
          refine lv_istore (lv' := [(5, .int 0), (4, .int v4), (3, .int v1), (0, .ref (g.q 60)), (1, .int x1), (2, .int x2)]) hx hb d_M_writeEntry_121 hl (by decide) rfl (fun ls hl => ?_)
          exact w_M_writeEntry_123 C hQ FU x1 x2 v1 v4 0 s25 H locs ls hX (lv_sub hl [3, 4, 5, 2, 1, 0] rfl) h
      · have h := ite_t c62 h
        exact w_M_writeEntry_65 C hQ x1 x2 v1 v4 s H locs ls hX (lv_sub hl [2, 3, 4, 1, 0] rfl) h
  · have h := ite_t c24 h
    refine lv_aload_n hx hb d_M_writeEntry_27 rfl (lv_at hl 2 rfl) ?_
    refine lv_bipush (v := 11) hx hb d_M_writeEntry_28 (by decide) ?_
    refine lv_aload_n hx hb d_M_writeEntry_30 rfl (lv_at hl 2 rfl) ?_
    refine lv_iload_n hx hb d_M_writeEntry_31 rfl (lv_at hl 3 rfl) ?_
    obtain ⟨r26, hc32, h⟩ := bd1_e h
    refine x_vI (As := [.int x1]) (rest := [.int 11, .ref (g.q 60)]) C hX (c_M_locals l g x1 s r26 hc32) (cw_M_322 C.1.2.2.2.2 C.2.2.2 ⟨by decide, by decide⟩) (x_rc C hX vg_0 rfl) rfl hl.1 rfl (lv_room (Nat.le_of_ble_eq_true rfl)) d_M_writeEntry_32 ⟨Nat.le_refl _, Nat.le_refl _⟩ (fun H locs hX => ?_)
    refine lv_aload_n hx hb d_M_writeEntry_35 rfl (lv_at hl 2 rfl) ?_
    refine lv_iload_n hx hb d_M_writeEntry_36 rfl (lv_at hl 3 rfl) ?_
    obtain ⟨r27, hc37, h⟩ := bd1_e h
    refine x_vI (As := [.int x1]) (rest := [.int r26, .int 11, .ref (g.q 60)]) C hX (c_M_resultsOf l g x1 s r27 hc37) (cw_M_292 C.1.2.2.2.2 C.2.2.2 ⟨by decide, by decide⟩) (x_rc C hX vg_0 rfl) rfl hl.1 rfl (lv_room (Nat.le_of_ble_eq_true rfl)) d_M_writeEntry_37 ⟨Nat.le_refl _, Nat.le_refl _⟩ (fun H locs hX => ?_)
    obtain ⟨v28, ev28, h⟩ := lt1_e h
    refine x_iadd hx hb d_M_writeEntry_40 ev28 ?_
    refine lv_iconst (v := 0) hx hb d_M_writeEntry_41 (by decide) ?_
    refine lv_aload_n hx hb d_M_writeEntry_42 rfl (lv_at hl 2 rfl) ?_
    refine lv_iload_n hx hb d_M_writeEntry_43 rfl (lv_at hl 3 rfl) ?_
    obtain ⟨r29, hc44, h⟩ := bd1_e h
    refine x_vI (As := [.int x1]) (rest := [.int 0, .int v28, .int 11, .ref (g.q 60)]) C hX (c_M_resultsOf l g x1 s r29 hc44) (cw_M_292 C.1.2.2.2.2 C.2.2.2 ⟨by decide, by decide⟩) (x_rc C hX vg_0 rfl) rfl hl.1 rfl (lv_room (Nat.le_of_ble_eq_true rfl)) d_M_writeEntry_44 ⟨Nat.le_refl _, Nat.le_refl _⟩ (fun H locs hX => ?_)
    obtain ⟨s30, hc47, h⟩ := bd1_e h
    refine x_vV (As := [.int 11, .int v28, .int 0, .int r29]) (rest := []) C hX (c_M_write l g 11 v28 0 r29 s s30 hc47) (cw_M_402 C.1.2.2.2.2 C.2.2.2 ⟨by decide, by decide⟩) (x_rc C hX vg_0 rfl) rfl hl.1 rfl (lv_room (Nat.le_of_ble_eq_true rfl)) d_M_writeEntry_47 ⟨Nat.le_refl _, Nat.le_refl _⟩ (fun H locs hX => ?_)
    refine lv_goto (tgt := 409) hx hb d_M_writeEntry_50 (by decide) ?_
    exact w_M_writeEntry_409 C hQ x1 x2 v1 v4 s30 H locs ls hX (lv_sub hl [2, 3, 4, 1, 0] rfl) h
end WALK
theorem c_M_writeEntry (l : Launch) (g : GX) (x1 : Int32) (x2 : Int32) (s : SM) (z : SM) (h : f_M_writeEntry x1 x2 s = some z) : MV l g y_M_writeEntry b_M_writeEntry 8 none 3 68 [.ref (g.q 60), .int x1, .int x2] (wM g s) (wM g z) :=
  MV.mk (own := R_M) (by decide) rfl (Nat.le_of_ble_eq_true rfl) fun p e ss m below meth c A Q C hQ ls hX hl => w_M_writeEntry C hQ x1 x2 s _ _ ls hX hl h
-- M_compile
def f_M_compile_143 (k51 : Int32 → Int32 → SM → Option (Int32 × SM)) (k66 : Int32 → Int32 → Int32 → SM → Option (Int32 × SM)) (x1 : Int32) (x2 : Int32) (x3 : Int32) (x4 : Int32) (s : SM) : Option (Int32 × SM) :=
    lt1 (x3 + (1)) fun v1 =>
    k66 x1 x2 v1 s
def f_M_compile_124 (k51 : Int32 → Int32 → SM → Option (Int32 × SM)) (k66 : Int32 → Int32 → Int32 → SM → Option (Int32 × SM)) (x1 : Int32) (x2 : Int32) (x3 : Int32) (y0 : Int32) (s : SM) : Option (Int32 × SM) :=
    gi x3 251 <|
    lt1 (s.1 21 (Int32.toNatClampNeg x3)) fun v1 =>
    if y0 ≤ v1 then
      f_M_compile_143 k51 k66 x1 x2 x3 y0 s
    else
      bd1 (f_M_writeEntry x2 x3 s) fun s2 =>
      f_M_compile_143 k51 k66 x1 x2 x3 y0 s2
def f_M_compile_66 (k51 : Int32 → Int32 → SM → Option (Int32 × SM)) : Nat → Int32 → Int32 → Int32 → SM → Option (Int32 × SM)
  | 0, _, _, _, _ => none
  | n + 1, x1, x2, x3, s =>
    gi x2 8 <|
    lt1 (s.1 23 (Int32.toNatClampNeg x2)) fun v1 =>
    if v1 < x3 then
      lt1 (x2 + (1)) fun v2 =>
      k51 x1 v2 s
    else
      gi x2 8 <|
      lt1 (s.1 23 (Int32.toNatClampNeg x2)) fun v3 =>
      if v3 ≤ x3 then
        lt1 (x2 + 1) fun v4 =>
        if s.1 0 7 ≤ v4 then
          f_M_compile_124 k51 (f_M_compile_66 k51 n) x1 x2 x3 x1 s
        else
          lt1 (x2 + 1) fun v5 =>
          gi v5 8 <|
          lt1 (s.1 22 (Int32.toNatClampNeg v5)) fun v6 =>
          gi v6 251 <|
          lt1 (s.1 21 (Int32.toNatClampNeg v6)) fun v7 =>
          f_M_compile_124 k51 (f_M_compile_66 k51 n) x1 x2 x3 v7 s
      else
        lt1 (x3 + 1) fun v8 =>
        gi v8 251 <|
        lt1 (s.1 21 (Int32.toNatClampNeg v8)) fun v9 =>
        f_M_compile_124 k51 (f_M_compile_66 k51 n) x1 x2 x3 v9 s
def f_M_compile_51 : Nat → Int32 → Int32 → SM → Option (Int32 × SM)
  | 0, _, _, _ => none
  | n + 1, x1, x2, s =>
    if s.1 0 7 ≤ x2 then
      some (0, s)
    else
      gi x2 8 <|
      lt1 (s.1 22 (Int32.toNatClampNeg x2)) fun v1 =>
      f_M_compile_66 (f_M_compile_51 n) FU x1 x2 v1 s
def f_M_compile_28 : Nat → Int32 → Int32 → SM → Option (Int32 × SM)
  | 0, _, _, _ => none
  | n + 1, x1, x2, s =>
    if s.1 0 7 ≤ x2 then
      f_M_compile_51 FU x1 0 s
    else
      bd (f_M_number x2 x1 s) fun r2 s1 =>
      lt1 (x2 + (1)) fun v3 =>
      f_M_compile_28 n r2 v3 s1
def f_M_compile (s : SM) : Option (Int32 × SM) :=
    lt1 (stI s 0 0 0) fun s1 =>
    if s1.1 0 2 = 0 then
      some (1, s1)
    else
      lt1 (stI s1 0 24 1) fun s2 =>
      lt1 (stI s2 0 25 0) fun s3 =>
      f_M_compile_28 FU 0 0 s3
section WALK
variable {p : Program} {l : Launch} {e : Env} {ss : State} {m : MethodId} {args : Array Value} {below : List Frame} {meth : Method} {c : Code} {Q : State → Prop} {g : GX} {A : Nat → Prop}
set_option maxHeartbeats 4000000 in
set_option maxRecDepth 100000 in
theorem w_M_compile_143 {z : Int32 × SM} (C : Cx g A p m c b_M_compile 5 ss args R_M) (hQ : ∀ (pc : Nat) (H : Heap) (locs : List Loc) (ls : Array Slot), XW g A ss (wM g z.2) H locs → decode b_M_compile pc = .ok (.ireturn, 1) → W p l e (rmX 4 95) ss m args below meth c H locs 0 0 Q (F0 m pc ls [.int z.1])) (k51 : Int32 → Int32 → SM → Option (Int32 × SM)) (hk51 : ∀ (x1 : Int32) (x2 : Int32) (s : SM) (H : Heap) (locs : List Loc) (ls : Array Slot), XW g A ss (wM g s) H locs → lv_has ls 5 [(0, .ref (g.q 60)), (1, .int x1), (2, .int x2)] → k51 x1 x2 s = some z → W p l e (rmX 4 95) ss m args below meth c H locs 0 0 Q (F0 m 51 ls [])) (k66 : Int32 → Int32 → Int32 → SM → Option (Int32 × SM)) (hk66 : ∀ (x1 : Int32) (x2 : Int32) (x3 : Int32) (s : SM) (H : Heap) (locs : List Loc) (ls : Array Slot), XW g A ss (wM g s) H locs → lv_has ls 5 [(0, .ref (g.q 60)), (1, .int x1), (2, .int x2), (3, .int x3)] → k66 x1 x2 x3 s = some z → W p l e (rmX 4 95) ss m args below meth c H locs 0 0 Q (F0 m 66 ls [])) : ∀ (x1 : Int32) (x2 : Int32) (x3 : Int32) (x4 : Int32) (s : SM) (H : Heap) (locs : List Loc) (ls : Array Slot), XW g A ss (wM g s) H locs → lv_has ls 5 [(0, .ref (g.q 60)), (1, .int x1), (2, .int x2), (3, .int x3), (4, .int x4)] → f_M_compile_143 k51 k66 x1 x2 x3 x4 s = some z → W p l e (rmX 4 95) ss m args below meth c H locs 0 0 Q (F0 m 143 ls []) := by
  have ⟨⟨hx, hb, hml, hown, hts⟩, hK, hA, hN⟩ := C
  intro x1 x2 x3 x4 s H locs ls hX hl h
  rw [f_M_compile_143] at h
  obtain ⟨v1, ev1, h⟩ := lt1_e h
  refine lv_iinc (v := v1) (lv' := [(3, .int v1), (0, .ref (g.q 60)), (1, .int x1), (2, .int x2), (4, .int x4)]) hx hb d_M_compile_143 hl (k := 3) rfl (by rw [ev1]; rfl) (by decide) rfl (fun ls hl => ?_)
  refine lv_goto (tgt := 66) hx hb d_M_compile_146 (by decide) ?_
  exact hk66 x1 x2 v1 s H locs ls hX (lv_sub hl [1, 2, 3, 0] rfl) h
set_option maxHeartbeats 4000000 in
set_option maxRecDepth 100000 in
theorem w_M_compile_124 {z : Int32 × SM} (C : Cx g A p m c b_M_compile 5 ss args R_M) (hQ : ∀ (pc : Nat) (H : Heap) (locs : List Loc) (ls : Array Slot), XW g A ss (wM g z.2) H locs → decode b_M_compile pc = .ok (.ireturn, 1) → W p l e (rmX 4 95) ss m args below meth c H locs 0 0 Q (F0 m pc ls [.int z.1])) (k51 : Int32 → Int32 → SM → Option (Int32 × SM)) (hk51 : ∀ (x1 : Int32) (x2 : Int32) (s : SM) (H : Heap) (locs : List Loc) (ls : Array Slot), XW g A ss (wM g s) H locs → lv_has ls 5 [(0, .ref (g.q 60)), (1, .int x1), (2, .int x2)] → k51 x1 x2 s = some z → W p l e (rmX 4 95) ss m args below meth c H locs 0 0 Q (F0 m 51 ls [])) (k66 : Int32 → Int32 → Int32 → SM → Option (Int32 × SM)) (hk66 : ∀ (x1 : Int32) (x2 : Int32) (x3 : Int32) (s : SM) (H : Heap) (locs : List Loc) (ls : Array Slot), XW g A ss (wM g s) H locs → lv_has ls 5 [(0, .ref (g.q 60)), (1, .int x1), (2, .int x2), (3, .int x3)] → k66 x1 x2 x3 s = some z → W p l e (rmX 4 95) ss m args below meth c H locs 0 0 Q (F0 m 66 ls [])) : ∀ (x1 : Int32) (x2 : Int32) (x3 : Int32) (y0 : Int32) (s : SM) (H : Heap) (locs : List Loc) (ls : Array Slot), XW g A ss (wM g s) H locs → lv_has ls 5 [(0, .ref (g.q 60)), (1, .int x1), (2, .int x2), (3, .int x3)] → f_M_compile_124 k51 k66 x1 x2 x3 y0 s = some z → W p l e (rmX 4 95) ss m args below meth c H locs 0 0 Q (F0 m 124 ls [.int y0]) := by
  have ⟨⟨hx, hb, hml, hown, hts⟩, hK, hA, hN⟩ := C
  intro x1 x2 x3 y0 s H locs ls hX hl h
  rw [f_M_compile_124] at h
  refine lv_istore (lv' := [(4, .int y0), (0, .ref (g.q 60)), (1, .int x1), (2, .int x2), (3, .int x3)]) hx hb d_M_compile_124 hl (by decide) rfl (fun ls hl => ?_)
  refine lv_iload hx hb d_M_compile_126 (lv_at hl 0 rfl) ?_
  refine lv_aload_n hx hb d_M_compile_128 rfl (lv_at hl 1 rfl) ?_
  refine gm_entry C hX fl_M_72 d_M_compile_129 ?_
  refine lv_iload_n hx hb d_M_compile_132 rfl (lv_at hl 4 rfl) ?_
  obtain ⟨hz133, h⟩ := gi_e h
  obtain ⟨v1, ev1, h⟩ := lt1_e h
  refine alm_21 C hX hz133 d_M_compile_133 ev1 ?_
  refine lv_icmp_le (tgt := 143) hx hb d_M_compile_134 (by decide) (fun c134 => ?_) (fun c134 => ?_)
  · have h := ite_t c134 h
    exact w_M_compile_143 C hQ k51 hk51 k66 hk66 x1 x2 x3 y0 s H locs ls hX (lv_sub hl [1, 2, 3, 4, 0] rfl) h
  · have h := ite_f c134 h
    refine lv_aload_n hx hb d_M_compile_137 rfl (lv_at hl 1 rfl) ?_
    refine lv_iload_n hx hb d_M_compile_138 rfl (lv_at hl 3 rfl) ?_
    refine lv_iload_n hx hb d_M_compile_139 rfl (lv_at hl 4 rfl) ?_
    obtain ⟨s2, hc140, h⟩ := bd1_e h
    refine x_vV (As := [.int x2, .int x3]) (rest := []) C hX (c_M_writeEntry l g x2 x3 s s2 hc140) (cw_M_416 C.1.2.2.2.2 C.2.2.2 ⟨by decide, by decide⟩) (x_rc C hX vg_0 rfl) rfl hl.1 rfl (lv_room (Nat.le_of_ble_eq_true rfl)) d_M_compile_140 ⟨Nat.le_refl _, Nat.le_refl _⟩ (fun H locs hX => ?_)
    exact w_M_compile_143 C hQ k51 hk51 k66 hk66 x1 x2 x3 y0 s2 H locs ls hX (lv_sub hl [1, 2, 3, 4, 0] rfl) h
set_option maxHeartbeats 4000000 in
set_option maxRecDepth 100000 in
theorem w_M_compile_66 {z : Int32 × SM} (C : Cx g A p m c b_M_compile 5 ss args R_M) (hQ : ∀ (pc : Nat) (H : Heap) (locs : List Loc) (ls : Array Slot), XW g A ss (wM g z.2) H locs → decode b_M_compile pc = .ok (.ireturn, 1) → W p l e (rmX 4 95) ss m args below meth c H locs 0 0 Q (F0 m pc ls [.int z.1])) (k51 : Int32 → Int32 → SM → Option (Int32 × SM)) (hk51 : ∀ (x1 : Int32) (x2 : Int32) (s : SM) (H : Heap) (locs : List Loc) (ls : Array Slot), XW g A ss (wM g s) H locs → lv_has ls 5 [(0, .ref (g.q 60)), (1, .int x1), (2, .int x2)] → k51 x1 x2 s = some z → W p l e (rmX 4 95) ss m args below meth c H locs 0 0 Q (F0 m 51 ls [])) (n : Nat) : ∀ (x1 : Int32) (x2 : Int32) (x3 : Int32) (s : SM) (H : Heap) (locs : List Loc) (ls : Array Slot), XW g A ss (wM g s) H locs → lv_has ls 5 [(0, .ref (g.q 60)), (1, .int x1), (2, .int x2), (3, .int x3)] → f_M_compile_66 k51 n x1 x2 x3 s = some z → W p l e (rmX 4 95) ss m args below meth c H locs 0 0 Q (F0 m 66 ls []) := by
  have ⟨⟨hx, hb, hml, hown, hts⟩, hK, hA, hN⟩ := C
  induction n with
  | zero => intro x1 x2 x3 s H locs ls hX hl h; cases h
  | succ n ih =>
    intro x1 x2 x3 s H locs ls hX hl h
    rw [f_M_compile_66] at h
    refine lv_iload_n hx hb d_M_compile_66 rfl (lv_at hl 3 rfl) ?_
    refine lv_aload_n hx hb d_M_compile_67 rfl (lv_at hl 0 rfl) ?_
    refine gm_close C hX fl_M_78 d_M_compile_68 ?_
    refine lv_iload_n hx hb d_M_compile_71 rfl (lv_at hl 2 rfl) ?_
    obtain ⟨hz72, h⟩ := gi_e h
    obtain ⟨v1, ev1, h⟩ := lt1_e h
    refine alm_23 C hX hz72 d_M_compile_72 ev1 ?_
    refine lv_icmp_gt (tgt := 149) hx hb d_M_compile_73 (by decide) (fun c73 => ?_) (fun c73 => ?_)
    · have h := ite_t c73 h
      obtain ⟨v2, ev2, h⟩ := lt1_e h
      refine lv_iinc (v := v2) (lv' := [(2, .int v2), (0, .ref (g.q 60)), (1, .int x1), (3, .int x3)]) hx hb d_M_compile_149 hl (k := 2) rfl (by rw [ev2]; rfl) (by decide) rfl (fun ls hl => ?_)
      refine lv_goto (tgt := 51) hx hb d_M_compile_152 (by decide) ?_
      exact hk51 x1 v2 s H locs ls hX (lv_sub hl [1, 2, 0] rfl) h
    · have h := ite_f c73 h
      refine lv_iload_n hx hb d_M_compile_76 rfl (lv_at hl 3 rfl) ?_
      refine lv_aload_n hx hb d_M_compile_77 rfl (lv_at hl 0 rfl) ?_
      refine gm_close C hX fl_M_78 d_M_compile_78 ?_
      refine lv_iload_n hx hb d_M_compile_81 rfl (lv_at hl 2 rfl) ?_
      obtain ⟨hz82, h⟩ := gi_e h
      obtain ⟨v3, ev3, h⟩ := lt1_e h
      refine alm_23 C hX hz82 d_M_compile_82 ev3 ?_
      refine lv_icmp_ge (tgt := 97) hx hb d_M_compile_83 (by decide) (fun c83 => ?_) (fun c83 => ?_)
      · have h := ite_t c83 h
        refine lv_iload_n hx hb d_M_compile_97 rfl (lv_at hl 2 rfl) ?_
        refine lv_iconst (v := 1) hx hb d_M_compile_98 (by decide) ?_
        obtain ⟨v4, ev4, h⟩ := lt1_e h
        refine x_iadd hx hb d_M_compile_99 ev4 ?_
        refine lv_aload_n hx hb d_M_compile_100 rfl (lv_at hl 0 rfl) ?_
        refine gm_functions C hX fl_M_188 d_M_compile_101 ?_
        refine lv_icmp_ge (tgt := 123) hx hb d_M_compile_104 (by decide) (fun c104 => ?_) (fun c104 => ?_)
        · have h := ite_t c104 h
          refine lv_iload_n hx hb d_M_compile_123 rfl (lv_at hl 1 rfl) ?_
          exact w_M_compile_124 C hQ k51 hk51 (f_M_compile_66 k51 n) ih x1 x2 x3 x1 s H locs ls hX hl h
        · have h := ite_f c104 h
          refine lv_aload_n hx hb d_M_compile_107 rfl (lv_at hl 0 rfl) ?_
          refine gm_entry C hX fl_M_72 d_M_compile_108 ?_
          refine lv_aload_n hx hb d_M_compile_111 rfl (lv_at hl 0 rfl) ?_
          refine gm_begin C hX fl_M_75 d_M_compile_112 ?_
          refine lv_iload_n hx hb d_M_compile_115 rfl (lv_at hl 2 rfl) ?_
          refine lv_iconst (v := 1) hx hb d_M_compile_116 (by decide) ?_
          obtain ⟨v5, ev5, h⟩ := lt1_e h
          refine x_iadd hx hb d_M_compile_117 ev5 ?_
          obtain ⟨hz118, h⟩ := gi_e h
          obtain ⟨v6, ev6, h⟩ := lt1_e h
          refine alm_22 C hX hz118 d_M_compile_118 ev6 ?_
          obtain ⟨hz119, h⟩ := gi_e h
          obtain ⟨v7, ev7, h⟩ := lt1_e h
          refine alm_21 C hX hz119 d_M_compile_119 ev7 ?_
          refine lv_goto (tgt := 124) hx hb d_M_compile_120 (by decide) ?_
          exact w_M_compile_124 C hQ k51 hk51 (f_M_compile_66 k51 n) ih x1 x2 x3 v7 s H locs ls hX hl h
      · have h := ite_f c83 h
        refine lv_aload_n hx hb d_M_compile_86 rfl (lv_at hl 0 rfl) ?_
        refine gm_entry C hX fl_M_72 d_M_compile_87 ?_
        refine lv_iload_n hx hb d_M_compile_90 rfl (lv_at hl 3 rfl) ?_
        refine lv_iconst (v := 1) hx hb d_M_compile_91 (by decide) ?_
        obtain ⟨v8, ev8, h⟩ := lt1_e h
        refine x_iadd hx hb d_M_compile_92 ev8 ?_
        obtain ⟨hz93, h⟩ := gi_e h
        obtain ⟨v9, ev9, h⟩ := lt1_e h
        refine alm_21 C hX hz93 d_M_compile_93 ev9 ?_
        refine lv_goto (tgt := 124) hx hb d_M_compile_94 (by decide) ?_
        exact w_M_compile_124 C hQ k51 hk51 (f_M_compile_66 k51 n) ih x1 x2 x3 v9 s H locs ls hX hl h
set_option maxHeartbeats 4000000 in
set_option maxRecDepth 100000 in
theorem w_M_compile_51 {z : Int32 × SM} (C : Cx g A p m c b_M_compile 5 ss args R_M) (hQ : ∀ (pc : Nat) (H : Heap) (locs : List Loc) (ls : Array Slot), XW g A ss (wM g z.2) H locs → decode b_M_compile pc = .ok (.ireturn, 1) → W p l e (rmX 4 95) ss m args below meth c H locs 0 0 Q (F0 m pc ls [.int z.1])) (n : Nat) : ∀ (x1 : Int32) (x2 : Int32) (s : SM) (H : Heap) (locs : List Loc) (ls : Array Slot), XW g A ss (wM g s) H locs → lv_has ls 5 [(0, .ref (g.q 60)), (1, .int x1), (2, .int x2)] → f_M_compile_51 n x1 x2 s = some z → W p l e (rmX 4 95) ss m args below meth c H locs 0 0 Q (F0 m 51 ls []) := by
  have ⟨⟨hx, hb, hml, hown, hts⟩, hK, hA, hN⟩ := C
  induction n with
  | zero => intro x1 x2 s H locs ls hX hl h; cases h
  | succ n ih =>
    intro x1 x2 s H locs ls hX hl h
    rw [f_M_compile_51] at h
    refine lv_iload_n hx hb d_M_compile_51 rfl (lv_at hl 2 rfl) ?_
    refine lv_aload_n hx hb d_M_compile_52 rfl (lv_at hl 0 rfl) ?_
    refine gm_functions C hX fl_M_188 d_M_compile_53 ?_
    refine lv_icmp_ge (tgt := 155) hx hb d_M_compile_56 (by decide) (fun c56 => ?_) (fun c56 => ?_)
    · have h := ite_t c56 h
      refine lv_iconst (v := 0) hx hb d_M_compile_155 (by decide) ?_
      obtain rfl := so1 h
      exact hQ _ H locs ls hX d_M_compile_156
    · have h := ite_f c56 h
      refine lv_aload_n hx hb d_M_compile_59 rfl (lv_at hl 0 rfl) ?_
      refine gm_begin C hX fl_M_75 d_M_compile_60 ?_
      refine lv_iload_n hx hb d_M_compile_63 rfl (lv_at hl 2 rfl) ?_
      obtain ⟨hz64, h⟩ := gi_e h
      obtain ⟨v1, ev1, h⟩ := lt1_e h
      refine alm_22 C hX hz64 d_M_compile_64 ev1 ?_
      refine lv_istore_n (lv' := [(3, .int v1), (0, .ref (g.q 60)), (1, .int x1), (2, .int x2)]) hx hb d_M_compile_65 rfl hl (by decide) rfl (fun ls hl => ?_)
      exact w_M_compile_66 C hQ (f_M_compile_51 n) ih FU x1 x2 v1 s H locs ls hX (lv_sub hl [1, 2, 3, 0] rfl) h
set_option maxHeartbeats 4000000 in
set_option maxRecDepth 100000 in
theorem w_M_compile_28 {z : Int32 × SM} (C : Cx g A p m c b_M_compile 5 ss args R_M) (hQ : ∀ (pc : Nat) (H : Heap) (locs : List Loc) (ls : Array Slot), XW g A ss (wM g z.2) H locs → decode b_M_compile pc = .ok (.ireturn, 1) → W p l e (rmX 4 95) ss m args below meth c H locs 0 0 Q (F0 m pc ls [.int z.1])) (n : Nat) : ∀ (x1 : Int32) (x2 : Int32) (s : SM) (H : Heap) (locs : List Loc) (ls : Array Slot), XW g A ss (wM g s) H locs → lv_has ls 5 [(0, .ref (g.q 60)), (1, .int x1), (2, .int x2)] → f_M_compile_28 n x1 x2 s = some z → W p l e (rmX 4 95) ss m args below meth c H locs 0 0 Q (F0 m 28 ls []) := by
  have ⟨⟨hx, hb, hml, hown, hts⟩, hK, hA, hN⟩ := C
  induction n with
  | zero => intro x1 x2 s H locs ls hX hl h; cases h
  | succ n ih =>
    intro x1 x2 s H locs ls hX hl h
    rw [f_M_compile_28] at h
    refine lv_iload_n hx hb d_M_compile_28 rfl (lv_at hl 2 rfl) ?_
    refine lv_aload_n hx hb d_M_compile_29 rfl (lv_at hl 0 rfl) ?_
    refine gm_functions C hX fl_M_188 d_M_compile_30 ?_
    refine lv_icmp_ge (tgt := 49) hx hb d_M_compile_33 (by decide) (fun c33 => ?_) (fun c33 => ?_)
    · have h := ite_t c33 h
      refine lv_iconst (v := 0) hx hb d_M_compile_49 (by decide) ?_
      refine lv_istore_n (lv' := [(2, .int 0), (0, .ref (g.q 60)), (1, .int x1)]) hx hb d_M_compile_50 rfl hl (by decide) rfl (fun ls hl => ?_)
      exact w_M_compile_51 C hQ FU x1 0 s H locs ls hX (lv_sub hl [1, 2, 0] rfl) h
    · have h := ite_f c33 h
      refine lv_aload_n hx hb d_M_compile_36 rfl (lv_at hl 0 rfl) ?_
      refine lv_iload_n hx hb d_M_compile_37 rfl (lv_at hl 2 rfl) ?_
      refine lv_iload_n hx hb d_M_compile_38 rfl (lv_at hl 1 rfl) ?_
      obtain ⟨r2, s1, hc39, h⟩ := bd_e h
      refine x_vI (As := [.int x2, .int x1]) (rest := []) C hX (c_M_number l g x2 x1 s (r2, s1) hc39) (cw_M_413 C.1.2.2.2.2 C.2.2.2 ⟨by decide, by decide⟩) (x_rc C hX vg_0 rfl) rfl hl.1 rfl (lv_room (Nat.le_of_ble_eq_true rfl)) d_M_compile_39 ⟨Nat.le_refl _, Nat.le_refl _⟩ (fun H locs hX => ?_)
      refine lv_istore_n (lv' := [(1, .int r2), (0, .ref (g.q 60)), (2, .int x2)]) hx hb d_M_compile_42 rfl hl (by decide) rfl (fun ls hl => ?_)
      obtain ⟨v3, ev3, h⟩ := lt1_e h
      refine lv_iinc (v := v3) (lv' := [(2, .int v3), (1, .int r2), (0, .ref (g.q 60))]) hx hb d_M_compile_43 hl (k := 2) rfl (by rw [ev3]; rfl) (by decide) rfl (fun ls hl => ?_)
      refine lv_goto (tgt := 28) hx hb d_M_compile_46 (by decide) ?_
      exact ih r2 v3 s1 H locs ls hX (lv_sub hl [2, 1, 0] rfl) h
set_option maxHeartbeats 4000000 in
set_option maxRecDepth 100000 in
theorem w_M_compile {z : Int32 × SM} (C : Cx g A p m c b_M_compile 5 ss args R_M) (hQ : ∀ (pc : Nat) (H : Heap) (locs : List Loc) (ls : Array Slot), XW g A ss (wM g z.2) H locs → decode b_M_compile pc = .ok (.ireturn, 1) → W p l e (rmX 4 95) ss m args below meth c H locs 0 0 Q (F0 m pc ls [.int z.1])) : ∀ (s : SM) (H : Heap) (locs : List Loc) (ls : Array Slot), XW g A ss (wM g s) H locs → lv_has ls 5 [(0, .ref (g.q 60))] → f_M_compile s = some z → W p l e (rmX 4 95) ss m args below meth c H locs 0 0 Q (F0 m 0 ls []) := by
  have ⟨⟨hx, hb, hml, hown, hts⟩, hK, hA, hN⟩ := C
  intro s H locs ls hX hl h
  rw [f_M_compile] at h
  refine lv_aload_n hx hb d_M_compile_0 rfl (lv_at hl 0 rfl) ?_
  refine lv_iconst (v := 0) hx hb d_M_compile_1 (by decide) ?_
  obtain ⟨s1, es1, h⟩ := lt1_e h
  refine pm_code C hX fl_M_120 d_M_compile_2 (fun H locs hX => ?_)
  rw [← es1] at hX
  refine lv_aload_n hx hb d_M_compile_5 rfl (lv_at hl 0 rfl) ?_
  refine gm_loaded C hX fl_M_127 d_M_compile_6 ?_
  refine lv_if_ne (tgt := 14) hx hb d_M_compile_9 (by decide) (fun c9 => ?_) (fun c9 => ?_)
  · have h := ite_f c9 h
    refine lv_aload_n hx hb d_M_compile_14 rfl (lv_at hl 0 rfl) ?_
    refine lv_iconst (v := 1) hx hb d_M_compile_15 (by decide) ?_
    obtain ⟨s2, es2, h⟩ := lt1_e h
    refine pm_compiled C hX fl_M_140 (Or.inr rfl) d_M_compile_16 (fun H locs hX => ?_)
    rw [← es2] at hX
    refine lv_aload_n hx hb d_M_compile_19 rfl (lv_at hl 0 rfl) ?_
    refine lv_iconst (v := 0) hx hb d_M_compile_20 (by decide) ?_
    obtain ⟨s3, es3, h⟩ := lt1_e h
    refine pm_words C hX fl_M_143 d_M_compile_21 (fun H locs hX => ?_)
    rw [← es3] at hX
    refine lv_iconst (v := 0) hx hb d_M_compile_24 (by decide) ?_
    refine lv_istore_n (lv' := [(1, .int 0), (0, .ref (g.q 60))]) hx hb d_M_compile_25 rfl hl (by decide) rfl (fun ls hl => ?_)
    refine lv_iconst (v := 0) hx hb d_M_compile_26 (by decide) ?_
    refine lv_istore_n (lv' := [(2, .int 0), (1, .int 0), (0, .ref (g.q 60))]) hx hb d_M_compile_27 rfl hl (by decide) rfl (fun ls hl => ?_)
    exact w_M_compile_28 C hQ FU 0 0 s3 H locs ls hX (lv_sub hl [2, 1, 0] rfl) h
  · have h := ite_t c9 h
    refine lv_iconst (v := 1) hx hb d_M_compile_12 (by decide) ?_
    obtain rfl := so1 h
    exact hQ _ H locs ls hX d_M_compile_13
end WALK
theorem c_M_compile (l : Launch) (g : GX) (s : SM) (z : Int32 × SM) (h : f_M_compile s = some z) : MI l g y_M_compile b_M_compile 5 (some .int) 4 95 [.ref (g.q 60)] (wM g s) z.1 (wM g z.2) :=
  MI.mk (own := R_M) (by decide) rfl (Nat.le_of_ble_eq_true rfl) fun p e ss m below meth c A Q C hQ ls hX hl => w_M_compile C hQ s _ _ ls hX hl h
-- M_arg
def f_M_arg_27 (x1 : Int32) (s : SM) : Option (Int32 × SM) :=
    bz 0 <|
    some (0, s)
def f_M_arg (x1 : Int32) (s : SM) : Option (Int32 × SM) :=
    lt1 (stI s 0 0 0) fun s1 =>
    if s1.1 0 2 = 0 then
      f_M_arg_27 x1 s1
    else
      if s1.1 0 20 = 0 then
        if s1.1 0 19 = 4 then
          f_M_arg_27 x1 s1
        else
          gi (s1.1 0 19) 4 <|
          lt1 (stI s1 31 (Int32.toNatClampNeg (s1.1 0 19)) x1) fun s2 =>
          lt1 (s2.1 0 19 + 1) fun v3 =>
          lt1 (stI s2 0 19 v3) fun s4 =>
          bz 1 <|
          some (1, s4)
      else
        f_M_arg_27 x1 s1
section WALK
variable {p : Program} {l : Launch} {e : Env} {ss : State} {m : MethodId} {args : Array Value} {below : List Frame} {meth : Method} {c : Code} {Q : State → Prop} {g : GX} {A : Nat → Prop}
set_option maxHeartbeats 4000000 in
set_option maxRecDepth 100000 in
theorem w_M_arg_27 {z : Int32 × SM} (C : Cx g A p m c b_M_arg 2 ss args R_M) (hQ : ∀ (pc : Nat) (H : Heap) (locs : List Loc) (ls : Array Slot), XW g A ss (wM g z.2) H locs → (z.1 = 0 ∨ z.1 = 1) → decode b_M_arg pc = .ok (.ireturn, 1) → W p l e (rmX 0 0) ss m args below meth c H locs 0 0 Q (F0 m pc ls [.int z.1])) : ∀ (x1 : Int32) (s : SM) (H : Heap) (locs : List Loc) (ls : Array Slot), XW g A ss (wM g s) H locs → lv_has ls 2 [(0, .ref (g.q 60)), (1, .int x1)] → f_M_arg_27 x1 s = some z → W p l e (rmX 0 0) ss m args below meth c H locs 0 0 Q (F0 m 27 ls []) := by
  have ⟨⟨hx, hb, hml, hown, hts⟩, hK, hA, hN⟩ := C
  intro x1 s H locs ls hX hl h
  rw [f_M_arg_27] at h
  refine lv_iconst (v := 0) hx hb d_M_arg_27 (by decide) ?_
  obtain ⟨hz, h⟩ := bz_e h
  obtain rfl := so1 h
  exact hQ _ H locs ls hX hz d_M_arg_28
set_option maxHeartbeats 4000000 in
set_option maxRecDepth 100000 in
theorem w_M_arg {z : Int32 × SM} (C : Cx g A p m c b_M_arg 2 ss args R_M) (hQ : ∀ (pc : Nat) (H : Heap) (locs : List Loc) (ls : Array Slot), XW g A ss (wM g z.2) H locs → (z.1 = 0 ∨ z.1 = 1) → decode b_M_arg pc = .ok (.ireturn, 1) → W p l e (rmX 0 0) ss m args below meth c H locs 0 0 Q (F0 m pc ls [.int z.1])) : ∀ (x1 : Int32) (s : SM) (H : Heap) (locs : List Loc) (ls : Array Slot), XW g A ss (wM g s) H locs → lv_has ls 2 [(0, .ref (g.q 60)), (1, .int x1)] → f_M_arg x1 s = some z → W p l e (rmX 0 0) ss m args below meth c H locs 0 0 Q (F0 m 0 ls []) := by
  have ⟨⟨hx, hb, hml, hown, hts⟩, hK, hA, hN⟩ := C
  intro x1 s H locs ls hX hl h
  rw [f_M_arg] at h
  refine lv_aload_n hx hb d_M_arg_0 rfl (lv_at hl 0 rfl) ?_
  refine lv_iconst (v := 0) hx hb d_M_arg_1 (by decide) ?_
  obtain ⟨s1, es1, h⟩ := lt1_e h
  refine pm_code C hX fl_M_120 d_M_arg_2 (fun H locs hX => ?_)
  rw [← es1] at hX
  refine lv_aload_n hx hb d_M_arg_5 rfl (lv_at hl 0 rfl) ?_
  refine gm_loaded C hX fl_M_127 d_M_arg_6 ?_
  refine lv_if_eq (tgt := 27) hx hb d_M_arg_9 (by decide) (fun c9 => ?_) (fun c9 => ?_)
  · have h := ite_t c9 h
    exact w_M_arg_27 C hQ x1 s1 H locs ls hX hl h
  · have h := ite_f c9 h
    refine lv_aload_n hx hb d_M_arg_12 rfl (lv_at hl 0 rfl) ?_
    refine gm_runs C hX fl_M_134 d_M_arg_13 ?_
    refine lv_if_ne (tgt := 27) hx hb d_M_arg_16 (by decide) (fun c16 => ?_) (fun c16 => ?_)
    · have h := ite_f c16 h
      exact w_M_arg_27 C hQ x1 s1 H locs ls hX hl h
    · have h := ite_t c16 h
      refine lv_aload_n hx hb d_M_arg_19 rfl (lv_at hl 0 rfl) ?_
      refine gm_arguments C hX fl_M_131 d_M_arg_20 ?_
      refine lv_iconst (v := 4) hx hb d_M_arg_23 (by decide) ?_
      refine lv_icmp_ne (tgt := 29) hx hb d_M_arg_24 (by decide) (fun c24 => ?_) (fun c24 => ?_)
      · have h := ite_f c24 h
        refine lv_aload_n hx hb d_M_arg_29 rfl (lv_at hl 0 rfl) ?_
        refine gm_argument C hX fl_M_102 d_M_arg_30 ?_
        refine lv_aload_n hx hb d_M_arg_33 rfl (lv_at hl 0 rfl) ?_
        refine gm_arguments C hX fl_M_131 d_M_arg_34 ?_
        refine lv_iload_n hx hb d_M_arg_37 rfl (lv_at hl 1 rfl) ?_
        obtain ⟨hz38, h⟩ := gi_e h
        obtain ⟨s2, es2, h⟩ := lt1_e h
        refine asm_31 C hX hz38 d_M_arg_38 (fun H locs hX => ?_)
        rw [← es2] at hX
        refine lv_aload_n hx hb d_M_arg_39 rfl (lv_at hl 0 rfl) ?_
        refine lv_dup hx hb d_M_arg_40 rfl ?_
        refine gm_arguments C hX fl_M_131 d_M_arg_41 ?_
        refine lv_iconst (v := 1) hx hb d_M_arg_44 (by decide) ?_
        obtain ⟨v3, ev3, h⟩ := lt1_e h
        refine x_iadd hx hb d_M_arg_45 ev3 ?_
        obtain ⟨s4, es4, h⟩ := lt1_e h
        refine pm_arguments C hX fl_M_131 d_M_arg_46 (fun H locs hX => ?_)
        rw [← es4] at hX
        refine lv_iconst (v := 1) hx hb d_M_arg_49 (by decide) ?_
        obtain ⟨hz, h⟩ := bz_e h
        obtain rfl := so1 h
        exact hQ _ H locs ls hX hz d_M_arg_50
      · have h := ite_t c24 h
        exact w_M_arg_27 C hQ x1 s1 H locs ls hX hl h
end WALK
theorem c_M_arg (l : Launch) (g : GX) (x1 : Int32) (s : SM) (z : Int32 × SM) (h : f_M_arg x1 s = some z) : MI l g y_M_arg b_M_arg 2 (some .boolean) 0 0 [.ref (g.q 60), .int x1] (wM g s) z.1 (wM g z.2) :=
  MI.mkZ (own := R_M) (by decide) rfl (Nat.le_of_ble_eq_true rfl) fun p e ss m below meth c A Q C hQ ls hX hl => w_M_arg C hQ x1 s _ _ ls hX hl h
-- M_enter
def f_M_enter_56 : Nat → Int32 → Int32 → SM → Option SM
  | 0, _, _, _ => none
  | n + 1, x1, x2, s =>
    gi x1 8 <|
    lt1 (s.1 24 (Int32.toNatClampNeg x1)) fun v1 =>
    if v1 ≤ x2 then
      some s
    else
      gi (s.1 0 23) 400 <|
      lt1 (stI s 35 (Int32.toNatClampNeg (s.1 0 23)) 0) fun s2 =>
      lt1 (s2.1 0 23 + 1) fun v3 =>
      lt1 (stI s2 0 23 v3) fun s4 =>
      lt1 (x2 + (1)) fun v5 =>
      f_M_enter_56 n x1 v5 s4
def f_M_enter (x1 : Int32) (s : SM) : Option SM :=
    lt1 (s.1 0 22 + 1) fun v1 =>
    lt1 (stI s 0 22 v1) fun s2 =>
    gi (s2.1 0 22) 9 <|
    lt1 (stI s2 32 (Int32.toNatClampNeg (s2.1 0 22)) x1) fun s3 =>
    gi x1 8 <|
    lt1 (s3.1 22 (Int32.toNatClampNeg x1)) fun v4 =>
    gi (s3.1 0 22) 9 <|
    lt1 (stI s3 33 (Int32.toNatClampNeg (s3.1 0 22)) v4) fun s5 =>
    bd1 (f_M_parameters s5 x1) fun r6 =>
    lt1 (s5.1 0 23 - r6) fun v7 =>
    gi (s5.1 0 22) 9 <|
    lt1 (stI s5 34 (Int32.toNatClampNeg (s5.1 0 22)) v7) fun s8 =>
    f_M_enter_56 FU x1 0 s8
section WALK
variable {p : Program} {l : Launch} {e : Env} {ss : State} {m : MethodId} {args : Array Value} {below : List Frame} {meth : Method} {c : Code} {Q : State → Prop} {g : GX} {A : Nat → Prop}
set_option maxHeartbeats 4000000 in
set_option maxRecDepth 100000 in
theorem w_M_enter_56 {z : SM} (C : Cx g A p m c b_M_enter 3 ss args R_M) (hQ : ∀ (pc : Nat) (H : Heap) (locs : List Loc) (ls : Array Slot), XW g A ss (wM g z) H locs → decode b_M_enter pc = .ok (.return_, 1) → W p l e (rmX 1 21) ss m args below meth c H locs 0 0 Q (F0 m pc ls [])) (n : Nat) : ∀ (x1 : Int32) (x2 : Int32) (s : SM) (H : Heap) (locs : List Loc) (ls : Array Slot), XW g A ss (wM g s) H locs → lv_has ls 3 [(0, .ref (g.q 60)), (1, .int x1), (2, .int x2)] → f_M_enter_56 n x1 x2 s = some z → W p l e (rmX 1 21) ss m args below meth c H locs 0 0 Q (F0 m 56 ls []) := by
  have ⟨⟨hx, hb, hml, hown, hts⟩, hK, hA, hN⟩ := C
  induction n with
  | zero => intro x1 x2 s H locs ls hX hl h; cases h
  | succ n ih =>
    intro x1 x2 s H locs ls hX hl h
    rw [f_M_enter_56] at h
    refine lv_iload_n hx hb d_M_enter_56 rfl (lv_at hl 2 rfl) ?_
    refine lv_aload_n hx hb d_M_enter_57 rfl (lv_at hl 0 rfl) ?_
    refine gm_extra C hX fl_M_81 d_M_enter_58 ?_
    refine lv_iload_n hx hb d_M_enter_61 rfl (lv_at hl 1 rfl) ?_
    obtain ⟨hz62, h⟩ := gi_e h
    obtain ⟨v1, ev1, h⟩ := lt1_e h
    refine alm_24 C hX hz62 d_M_enter_62 ev1 ?_
    refine lv_icmp_ge (tgt := 92) hx hb d_M_enter_63 (by decide) (fun c63 => ?_) (fun c63 => ?_)
    · have h := ite_t c63 h
      obtain rfl := so1 h
      exact hQ _ H locs ls hX d_M_enter_92
    · have h := ite_f c63 h
      refine lv_aload_n hx hb d_M_enter_66 rfl (lv_at hl 0 rfl) ?_
      refine gm_stack C hX fl_M_114 d_M_enter_67 ?_
      refine lv_aload_n hx hb d_M_enter_70 rfl (lv_at hl 0 rfl) ?_
      refine gm_sp C hX fl_M_343 d_M_enter_71 ?_
      refine lv_iconst (v := 0) hx hb d_M_enter_74 (by decide) ?_
      obtain ⟨hz75, h⟩ := gi_e h
      obtain ⟨s2, es2, h⟩ := lt1_e h
      refine asm_35 C hX hz75 d_M_enter_75 (fun H locs hX => ?_)
      rw [← es2] at hX
      refine lv_aload_n hx hb d_M_enter_76 rfl (lv_at hl 0 rfl) ?_
      refine lv_dup hx hb d_M_enter_77 rfl ?_
      refine gm_sp C hX fl_M_343 d_M_enter_78 ?_
      refine lv_iconst (v := 1) hx hb d_M_enter_81 (by decide) ?_
      obtain ⟨v3, ev3, h⟩ := lt1_e h
      refine x_iadd hx hb d_M_enter_82 ev3 ?_
      obtain ⟨s4, es4, h⟩ := lt1_e h
      refine pm_sp C hX fl_M_343 d_M_enter_83 (fun H locs hX => ?_)
      rw [← es4] at hX
      obtain ⟨v5, ev5, h⟩ := lt1_e h
      refine lv_iinc (v := v5) (lv' := [(2, .int v5), (0, .ref (g.q 60)), (1, .int x1)]) hx hb d_M_enter_86 hl (k := 2) rfl (by rw [ev5]; rfl) (by decide) rfl (fun ls hl => ?_)
      refine lv_goto (tgt := 56) hx hb d_M_enter_89 (by decide) ?_
      exact ih x1 v5 s4 H locs ls hX (lv_sub hl [1, 2, 0] rfl) h
set_option maxHeartbeats 4000000 in
set_option maxRecDepth 100000 in
theorem w_M_enter {z : SM} (C : Cx g A p m c b_M_enter 3 ss args R_M) (hQ : ∀ (pc : Nat) (H : Heap) (locs : List Loc) (ls : Array Slot), XW g A ss (wM g z) H locs → decode b_M_enter pc = .ok (.return_, 1) → W p l e (rmX 1 21) ss m args below meth c H locs 0 0 Q (F0 m pc ls [])) : ∀ (x1 : Int32) (s : SM) (H : Heap) (locs : List Loc) (ls : Array Slot), XW g A ss (wM g s) H locs → lv_has ls 3 [(0, .ref (g.q 60)), (1, .int x1)] → f_M_enter x1 s = some z → W p l e (rmX 1 21) ss m args below meth c H locs 0 0 Q (F0 m 0 ls []) := by
  have ⟨⟨hx, hb, hml, hown, hts⟩, hK, hA, hN⟩ := C
  intro x1 s H locs ls hX hl h
  rw [f_M_enter] at h
  refine lv_aload_n hx hb d_M_enter_0 rfl (lv_at hl 0 rfl) ?_
  refine lv_dup hx hb d_M_enter_1 rfl ?_
  refine gm_calls C hX fl_M_340 d_M_enter_2 ?_
  refine lv_iconst (v := 1) hx hb d_M_enter_5 (by decide) ?_
  obtain ⟨v1, ev1, h⟩ := lt1_e h
  refine x_iadd hx hb d_M_enter_6 ev1 ?_
  obtain ⟨s2, es2, h⟩ := lt1_e h
  refine pm_calls C hX fl_M_340 d_M_enter_7 (fun H locs hX => ?_)
  rw [← es2] at hX
  refine lv_aload_n hx hb d_M_enter_10 rfl (lv_at hl 0 rfl) ?_
  refine gm_function C hX fl_M_105 d_M_enter_11 ?_
  refine lv_aload_n hx hb d_M_enter_14 rfl (lv_at hl 0 rfl) ?_
  refine gm_calls C hX fl_M_340 d_M_enter_15 ?_
  refine lv_iload_n hx hb d_M_enter_18 rfl (lv_at hl 1 rfl) ?_
  obtain ⟨hz19, h⟩ := gi_e h
  obtain ⟨s3, es3, h⟩ := lt1_e h
  refine asm_32 C hX hz19 d_M_enter_19 (fun H locs hX => ?_)
  rw [← es3] at hX
  refine lv_aload_n hx hb d_M_enter_20 rfl (lv_at hl 0 rfl) ?_
  refine gm_place C hX fl_M_108 d_M_enter_21 ?_
  refine lv_aload_n hx hb d_M_enter_24 rfl (lv_at hl 0 rfl) ?_
  refine gm_calls C hX fl_M_340 d_M_enter_25 ?_
  refine lv_aload_n hx hb d_M_enter_28 rfl (lv_at hl 0 rfl) ?_
  refine gm_begin C hX fl_M_75 d_M_enter_29 ?_
  refine lv_iload_n hx hb d_M_enter_32 rfl (lv_at hl 1 rfl) ?_
  obtain ⟨hz33, h⟩ := gi_e h
  obtain ⟨v4, ev4, h⟩ := lt1_e h
  refine alm_22 C hX hz33 d_M_enter_33 ev4 ?_
  obtain ⟨hz34, h⟩ := gi_e h
  obtain ⟨s5, es5, h⟩ := lt1_e h
  refine asm_33 C hX hz34 d_M_enter_34 (fun H locs hX => ?_)
  rw [← es5] at hX
  refine lv_aload_n hx hb d_M_enter_35 rfl (lv_at hl 0 rfl) ?_
  refine gm_localsAt C hX fl_M_111 d_M_enter_36 ?_
  refine lv_aload_n hx hb d_M_enter_39 rfl (lv_at hl 0 rfl) ?_
  refine gm_calls C hX fl_M_340 d_M_enter_40 ?_
  refine lv_aload_n hx hb d_M_enter_43 rfl (lv_at hl 0 rfl) ?_
  refine gm_sp C hX fl_M_343 d_M_enter_44 ?_
  refine lv_aload_n hx hb d_M_enter_47 rfl (lv_at hl 0 rfl) ?_
  refine lv_iload_n hx hb d_M_enter_48 rfl (lv_at hl 1 rfl) ?_
  obtain ⟨r6, hc49, h⟩ := bd1_e h
  refine x_vI (As := [.int x1]) (rest := [.int (s5.1 0 23), .int (s5.1 0 22), .ref (g.q 94)]) C hX (c_M_parameters l g x1 s5 r6 hc49) (cw_M_258 C.1.2.2.2.2 C.2.2.2 ⟨by decide, by decide⟩) (x_rc C hX vg_0 rfl) rfl hl.1 rfl (lv_room (Nat.le_of_ble_eq_true rfl)) d_M_enter_49 ⟨Nat.le_refl _, Nat.le_refl _⟩ (fun H locs hX => ?_)
  obtain ⟨v7, ev7, h⟩ := lt1_e h
  refine x_isub hx hb d_M_enter_52 ev7 ?_
  obtain ⟨hz53, h⟩ := gi_e h
  obtain ⟨s8, es8, h⟩ := lt1_e h
  refine asm_34 C hX hz53 d_M_enter_53 (fun H locs hX => ?_)
  rw [← es8] at hX
  refine lv_iconst (v := 0) hx hb d_M_enter_54 (by decide) ?_
  refine lv_istore_n (lv' := [(2, .int 0), (0, .ref (g.q 60)), (1, .int x1)]) hx hb d_M_enter_55 rfl hl (by decide) rfl (fun ls hl => ?_)
  exact w_M_enter_56 C hQ FU x1 0 s8 H locs ls hX (lv_sub hl [1, 2, 0] rfl) h
end WALK
theorem c_M_enter (l : Launch) (g : GX) (x1 : Int32) (s : SM) (z : SM) (h : f_M_enter x1 s = some z) : MV l g y_M_enter b_M_enter 3 none 1 21 [.ref (g.q 60), .int x1] (wM g s) (wM g z) :=
  MV.mk (own := R_M) (by decide) rfl (Nat.le_of_ble_eq_true rfl) fun p e ss m below meth c A Q C hQ ls hX hl => w_M_enter C hQ x1 s _ _ ls hX hl h
-- M_start
def f_M_start_69 : Nat → Int32 → Int32 → Int32 → SM → Option (Int32 × SM)
  | 0, _, _, _, _ => none
  | n + 1, x1, x2, x3, s =>
    if s.1 0 19 ≤ x3 then
      lt1 (stI s 0 23 (s.1 0 19)) fun s1 =>
      lt1 (stI s1 0 22 0) fun s2 =>
      bd1 (f_M_enter x1 s2) fun s3 =>
      lt1 (stI s3 0 19 0) fun s4 =>
      lt1 (stI s4 0 20 1) fun s5 =>
      lt1 (stI s5 0 21 0) fun s6 =>
      some (0, s6)
    else
      gi x3 4 <|
      lt1 (s.1 31 (Int32.toNatClampNeg x3)) fun v7 =>
      gi x3 400 <|
      lt1 (stI s 35 (Int32.toNatClampNeg x3) v7) fun s8 =>
      lt1 (x3 + (1)) fun v9 =>
      f_M_start_69 n x1 x2 v9 s8
def f_M_start_67 (x1 : Int32) (x2 : Int32) (s : SM) : Option (Int32 × SM) :=
    f_M_start_69 FU x1 x2 0 s
def f_M_start_65 (x1 : Int32) (x2 : Int32) (s : SM) : Option (Int32 × SM) :=
    some (4, s)
def f_M_start_33 (x1 : Int32) (x2 : Int32) (s : SM) : Option (Int32 × SM) :=
    some (2, s)
def f_M_start_19 (x1 : Int32) (x2 : Int32) (s : SM) : Option (Int32 × SM) :=
    some (1, s)
def f_M_start (x1 : Int32) (x2 : Int32) (s : SM) : Option (Int32 × SM) :=
    lt1 (stI s 0 0 0) fun s1 =>
    if s1.1 0 2 = 0 then
      f_M_start_19 x1 x2 s1
    else
      if s1.1 0 20 = 0 then
        if x1 < 0 then
          f_M_start_33 x1 x2 s1
        else
          if x1 < s1.1 0 7 then
            bd1 (f_M_parameters s1 x1) fun r2 =>
            if s1.1 0 19 = r2 then
              if x2 = 0 then
                f_M_start_67 x1 x2 s1
              else
                if x2 = 1 then
                  if s1.1 0 24 = 0 then
                    f_M_start_65 x1 x2 s1
                  else
                    f_M_start_67 x1 x2 s1
                else
                  f_M_start_65 x1 x2 s1
            else
              some (3, s1)
          else
            f_M_start_33 x1 x2 s1
      else
        f_M_start_19 x1 x2 s1
section WALK
variable {p : Program} {l : Launch} {e : Env} {ss : State} {m : MethodId} {args : Array Value} {below : List Frame} {meth : Method} {c : Code} {Q : State → Prop} {g : GX} {A : Nat → Prop}
set_option maxHeartbeats 4000000 in
set_option maxRecDepth 100000 in
theorem w_M_start_69 {z : Int32 × SM} (C : Cx g A p m c b_M_start 4 ss args R_M) (hQ : ∀ (pc : Nat) (H : Heap) (locs : List Loc) (ls : Array Slot), XW g A ss (wM g z.2) H locs → decode b_M_start pc = .ok (.ireturn, 1) → W p l e (rmX 2 43) ss m args below meth c H locs 0 0 Q (F0 m pc ls [.int z.1])) (n : Nat) : ∀ (x1 : Int32) (x2 : Int32) (x3 : Int32) (s : SM) (H : Heap) (locs : List Loc) (ls : Array Slot), XW g A ss (wM g s) H locs → lv_has ls 4 [(0, .ref (g.q 60)), (1, .int x1), (2, .int x2), (3, .int x3)] → f_M_start_69 n x1 x2 x3 s = some z → W p l e (rmX 2 43) ss m args below meth c H locs 0 0 Q (F0 m 69 ls []) := by
  have ⟨⟨hx, hb, hml, hown, hts⟩, hK, hA, hN⟩ := C
  induction n with
  | zero => intro x1 x2 x3 s H locs ls hX hl h; cases h
  | succ n ih =>
    intro x1 x2 x3 s H locs ls hX hl h
    rw [f_M_start_69] at h
    refine lv_iload_n hx hb d_M_start_69 rfl (lv_at hl 3 rfl) ?_
    refine lv_aload_n hx hb d_M_start_70 rfl (lv_at hl 0 rfl) ?_
    refine gm_arguments C hX fl_M_131 d_M_start_71 ?_
    refine lv_icmp_ge (tgt := 95) hx hb d_M_start_74 (by decide) (fun c74 => ?_) (fun c74 => ?_)
    · have h := ite_t c74 h
      refine lv_aload_n hx hb d_M_start_95 rfl (lv_at hl 0 rfl) ?_
      refine lv_aload_n hx hb d_M_start_96 rfl (lv_at hl 0 rfl) ?_
      refine gm_arguments C hX fl_M_131 d_M_start_97 ?_
      obtain ⟨s1, es1, h⟩ := lt1_e h
      refine pm_sp C hX fl_M_343 d_M_start_100 (fun H locs hX => ?_)
      rw [← es1] at hX
      refine lv_aload_n hx hb d_M_start_103 rfl (lv_at hl 0 rfl) ?_
      refine lv_iconst (v := 0) hx hb d_M_start_104 (by decide) ?_
      obtain ⟨s2, es2, h⟩ := lt1_e h
      refine pm_calls C hX fl_M_340 d_M_start_105 (fun H locs hX => ?_)
      rw [← es2] at hX
      refine lv_aload_n hx hb d_M_start_108 rfl (lv_at hl 0 rfl) ?_
      refine lv_iload_n hx hb d_M_start_109 rfl (lv_at hl 1 rfl) ?_
      obtain ⟨s3, hc110, h⟩ := bd1_e h
      refine x_vV (As := [.int x1]) (rest := []) C hX (c_M_enter l g x1 s2 s3 hc110) (cw_M_346 C.1.2.2.2.2 C.2.2.2 ⟨by decide, by decide⟩) (x_rc C hX vg_0 rfl) rfl hl.1 rfl (lv_room (Nat.le_of_ble_eq_true rfl)) d_M_start_110 ⟨Nat.le_refl _, Nat.le_refl _⟩ (fun H locs hX => ?_)
      refine lv_aload_n hx hb d_M_start_113 rfl (lv_at hl 0 rfl) ?_
      refine lv_iconst (v := 0) hx hb d_M_start_114 (by decide) ?_
      obtain ⟨s4, es4, h⟩ := lt1_e h
      refine pm_arguments C hX fl_M_131 d_M_start_115 (fun H locs hX => ?_)
      rw [← es4] at hX
      refine lv_aload_n hx hb d_M_start_118 rfl (lv_at hl 0 rfl) ?_
      refine lv_iconst (v := 1) hx hb d_M_start_119 (by decide) ?_
      obtain ⟨s5, es5, h⟩ := lt1_e h
      refine pm_runs C hX fl_M_134 (Or.inr rfl) d_M_start_120 (fun H locs hX => ?_)
      rw [← es5] at hX
      refine lv_aload_n hx hb d_M_start_123 rfl (lv_at hl 0 rfl) ?_
      refine lv_iconst (v := 0) hx hb d_M_start_124 (by decide) ?_
      obtain ⟨s6, es6, h⟩ := lt1_e h
      refine pm_result C hX fl_M_137 d_M_start_125 (fun H locs hX => ?_)
      rw [← es6] at hX
      refine lv_iconst (v := 0) hx hb d_M_start_128 (by decide) ?_
      obtain rfl := so1 h
      exact hQ _ H locs ls hX d_M_start_129
    · have h := ite_f c74 h
      refine lv_aload_n hx hb d_M_start_77 rfl (lv_at hl 0 rfl) ?_
      refine gm_stack C hX fl_M_114 d_M_start_78 ?_
      refine lv_iload_n hx hb d_M_start_81 rfl (lv_at hl 3 rfl) ?_
      refine lv_aload_n hx hb d_M_start_82 rfl (lv_at hl 0 rfl) ?_
      refine gm_argument C hX fl_M_102 d_M_start_83 ?_
      refine lv_iload_n hx hb d_M_start_86 rfl (lv_at hl 3 rfl) ?_
      obtain ⟨hz87, h⟩ := gi_e h
      obtain ⟨v7, ev7, h⟩ := lt1_e h
      refine alm_31 C hX hz87 d_M_start_87 ev7 ?_
      obtain ⟨hz88, h⟩ := gi_e h
      obtain ⟨s8, es8, h⟩ := lt1_e h
      refine asm_35 C hX hz88 d_M_start_88 (fun H locs hX => ?_)
      rw [← es8] at hX
      obtain ⟨v9, ev9, h⟩ := lt1_e h
      refine lv_iinc (v := v9) (lv' := [(3, .int v9), (0, .ref (g.q 60)), (1, .int x1), (2, .int x2)]) hx hb d_M_start_89 hl (k := 3) rfl (by rw [ev9]; rfl) (by decide) rfl (fun ls hl => ?_)
      refine lv_goto (tgt := 69) hx hb d_M_start_92 (by decide) ?_
      exact ih x1 x2 v9 s8 H locs ls hX (lv_sub hl [1, 2, 3, 0] rfl) h
set_option maxHeartbeats 4000000 in
set_option maxRecDepth 100000 in
theorem w_M_start_67 {z : Int32 × SM} (C : Cx g A p m c b_M_start 4 ss args R_M) (hQ : ∀ (pc : Nat) (H : Heap) (locs : List Loc) (ls : Array Slot), XW g A ss (wM g z.2) H locs → decode b_M_start pc = .ok (.ireturn, 1) → W p l e (rmX 2 43) ss m args below meth c H locs 0 0 Q (F0 m pc ls [.int z.1])) : ∀ (x1 : Int32) (x2 : Int32) (s : SM) (H : Heap) (locs : List Loc) (ls : Array Slot), XW g A ss (wM g s) H locs → lv_has ls 4 [(0, .ref (g.q 60)), (1, .int x1), (2, .int x2)] → f_M_start_67 x1 x2 s = some z → W p l e (rmX 2 43) ss m args below meth c H locs 0 0 Q (F0 m 67 ls []) := by
  have ⟨⟨hx, hb, hml, hown, hts⟩, hK, hA, hN⟩ := C
  intro x1 x2 s H locs ls hX hl h
  rw [f_M_start_67] at h
  refine lv_iconst (v := 0) hx hb d_M_start_67 (by decide) ?_
  refine lv_istore_n (lv' := [(3, .int 0), (0, .ref (g.q 60)), (1, .int x1), (2, .int x2)]) hx hb d_M_start_68 rfl hl (by decide) rfl (fun ls hl => ?_)
  exact w_M_start_69 C hQ FU x1 x2 0 s H locs ls hX (lv_sub hl [1, 2, 3, 0] rfl) h
set_option maxHeartbeats 4000000 in
set_option maxRecDepth 100000 in
theorem w_M_start_65 {z : Int32 × SM} (C : Cx g A p m c b_M_start 4 ss args R_M) (hQ : ∀ (pc : Nat) (H : Heap) (locs : List Loc) (ls : Array Slot), XW g A ss (wM g z.2) H locs → decode b_M_start pc = .ok (.ireturn, 1) → W p l e (rmX 2 43) ss m args below meth c H locs 0 0 Q (F0 m pc ls [.int z.1])) : ∀ (x1 : Int32) (x2 : Int32) (s : SM) (H : Heap) (locs : List Loc) (ls : Array Slot), XW g A ss (wM g s) H locs → lv_has ls 4 [(0, .ref (g.q 60)), (1, .int x1), (2, .int x2)] → f_M_start_65 x1 x2 s = some z → W p l e (rmX 2 43) ss m args below meth c H locs 0 0 Q (F0 m 65 ls []) := by
  have ⟨⟨hx, hb, hml, hown, hts⟩, hK, hA, hN⟩ := C
  intro x1 x2 s H locs ls hX hl h
  rw [f_M_start_65] at h
  refine lv_iconst (v := 4) hx hb d_M_start_65 (by decide) ?_
  obtain rfl := so1 h
  exact hQ _ H locs ls hX d_M_start_66
set_option maxHeartbeats 4000000 in
set_option maxRecDepth 100000 in
theorem w_M_start_33 {z : Int32 × SM} (C : Cx g A p m c b_M_start 4 ss args R_M) (hQ : ∀ (pc : Nat) (H : Heap) (locs : List Loc) (ls : Array Slot), XW g A ss (wM g z.2) H locs → decode b_M_start pc = .ok (.ireturn, 1) → W p l e (rmX 2 43) ss m args below meth c H locs 0 0 Q (F0 m pc ls [.int z.1])) : ∀ (x1 : Int32) (x2 : Int32) (s : SM) (H : Heap) (locs : List Loc) (ls : Array Slot), XW g A ss (wM g s) H locs → lv_has ls 4 [(0, .ref (g.q 60)), (1, .int x1), (2, .int x2)] → f_M_start_33 x1 x2 s = some z → W p l e (rmX 2 43) ss m args below meth c H locs 0 0 Q (F0 m 33 ls []) := by
  have ⟨⟨hx, hb, hml, hown, hts⟩, hK, hA, hN⟩ := C
  intro x1 x2 s H locs ls hX hl h
  rw [f_M_start_33] at h
  refine lv_iconst (v := 2) hx hb d_M_start_33 (by decide) ?_
  obtain rfl := so1 h
  exact hQ _ H locs ls hX d_M_start_34
set_option maxHeartbeats 4000000 in
set_option maxRecDepth 100000 in
theorem w_M_start_19 {z : Int32 × SM} (C : Cx g A p m c b_M_start 4 ss args R_M) (hQ : ∀ (pc : Nat) (H : Heap) (locs : List Loc) (ls : Array Slot), XW g A ss (wM g z.2) H locs → decode b_M_start pc = .ok (.ireturn, 1) → W p l e (rmX 2 43) ss m args below meth c H locs 0 0 Q (F0 m pc ls [.int z.1])) : ∀ (x1 : Int32) (x2 : Int32) (s : SM) (H : Heap) (locs : List Loc) (ls : Array Slot), XW g A ss (wM g s) H locs → lv_has ls 4 [(0, .ref (g.q 60)), (1, .int x1), (2, .int x2)] → f_M_start_19 x1 x2 s = some z → W p l e (rmX 2 43) ss m args below meth c H locs 0 0 Q (F0 m 19 ls []) := by
  have ⟨⟨hx, hb, hml, hown, hts⟩, hK, hA, hN⟩ := C
  intro x1 x2 s H locs ls hX hl h
  rw [f_M_start_19] at h
  refine lv_iconst (v := 1) hx hb d_M_start_19 (by decide) ?_
  obtain rfl := so1 h
  exact hQ _ H locs ls hX d_M_start_20
set_option maxHeartbeats 4000000 in
set_option maxRecDepth 100000 in
theorem w_M_start {z : Int32 × SM} (C : Cx g A p m c b_M_start 4 ss args R_M) (hQ : ∀ (pc : Nat) (H : Heap) (locs : List Loc) (ls : Array Slot), XW g A ss (wM g z.2) H locs → decode b_M_start pc = .ok (.ireturn, 1) → W p l e (rmX 2 43) ss m args below meth c H locs 0 0 Q (F0 m pc ls [.int z.1])) : ∀ (x1 : Int32) (x2 : Int32) (s : SM) (H : Heap) (locs : List Loc) (ls : Array Slot), XW g A ss (wM g s) H locs → lv_has ls 4 [(0, .ref (g.q 60)), (1, .int x1), (2, .int x2)] → f_M_start x1 x2 s = some z → W p l e (rmX 2 43) ss m args below meth c H locs 0 0 Q (F0 m 0 ls []) := by
  have ⟨⟨hx, hb, hml, hown, hts⟩, hK, hA, hN⟩ := C
  intro x1 x2 s H locs ls hX hl h
  rw [f_M_start] at h
  refine lv_aload_n hx hb d_M_start_0 rfl (lv_at hl 0 rfl) ?_
  refine lv_iconst (v := 0) hx hb d_M_start_1 (by decide) ?_
  obtain ⟨s1, es1, h⟩ := lt1_e h
  refine pm_code C hX fl_M_120 d_M_start_2 (fun H locs hX => ?_)
  rw [← es1] at hX
  refine lv_aload_n hx hb d_M_start_5 rfl (lv_at hl 0 rfl) ?_
  refine gm_loaded C hX fl_M_127 d_M_start_6 ?_
  refine lv_if_eq (tgt := 19) hx hb d_M_start_9 (by decide) (fun c9 => ?_) (fun c9 => ?_)
  · have h := ite_t c9 h
    exact w_M_start_19 C hQ x1 x2 s1 H locs ls hX hl h
  · have h := ite_f c9 h
    refine lv_aload_n hx hb d_M_start_12 rfl (lv_at hl 0 rfl) ?_
    refine gm_runs C hX fl_M_134 d_M_start_13 ?_
    refine lv_if_eq (tgt := 21) hx hb d_M_start_16 (by decide) (fun c16 => ?_) (fun c16 => ?_)
    · have h := ite_t c16 h
      refine lv_iload_n hx hb d_M_start_21 rfl (lv_at hl 1 rfl) ?_
      refine lv_if_lt (tgt := 33) hx hb d_M_start_22 (by decide) (fun c22 => ?_) (fun c22 => ?_)
      · have h := ite_t c22 h
        exact w_M_start_33 C hQ x1 x2 s1 H locs ls hX hl h
      · have h := ite_f c22 h
        refine lv_iload_n hx hb d_M_start_25 rfl (lv_at hl 1 rfl) ?_
        refine lv_aload_n hx hb d_M_start_26 rfl (lv_at hl 0 rfl) ?_
        refine gm_functions C hX fl_M_188 d_M_start_27 ?_
        refine lv_icmp_lt (tgt := 35) hx hb d_M_start_30 (by decide) (fun c30 => ?_) (fun c30 => ?_)
        · have h := ite_t c30 h
          refine lv_aload_n hx hb d_M_start_35 rfl (lv_at hl 0 rfl) ?_
          refine gm_arguments C hX fl_M_131 d_M_start_36 ?_
          refine lv_aload_n hx hb d_M_start_39 rfl (lv_at hl 0 rfl) ?_
          refine lv_iload_n hx hb d_M_start_40 rfl (lv_at hl 1 rfl) ?_
          obtain ⟨r2, hc41, h⟩ := bd1_e h
          refine x_vI (As := [.int x1]) (rest := [.int (s1.1 0 19)]) C hX (c_M_parameters l g x1 s1 r2 hc41) (cw_M_258 C.1.2.2.2.2 C.2.2.2 ⟨by decide, by decide⟩) (x_rc C hX vg_0 rfl) rfl hl.1 rfl (lv_room (Nat.le_of_ble_eq_true rfl)) d_M_start_41 ⟨Nat.le_refl _, Nat.le_refl _⟩ (fun H locs hX => ?_)
          refine lv_icmp_eq (tgt := 49) hx hb d_M_start_44 (by decide) (fun c44 => ?_) (fun c44 => ?_)
          · have h := ite_t c44 h
            refine lv_iload_n hx hb d_M_start_49 rfl (lv_at hl 2 rfl) ?_
            refine lv_if_eq (tgt := 67) hx hb d_M_start_50 (by decide) (fun c50 => ?_) (fun c50 => ?_)
            · have h := ite_t c50 h
              exact w_M_start_67 C hQ x1 x2 s1 H locs ls hX hl h
            · have h := ite_f c50 h
              refine lv_iload_n hx hb d_M_start_53 rfl (lv_at hl 2 rfl) ?_
              refine lv_iconst (v := 1) hx hb d_M_start_54 (by decide) ?_
              refine lv_icmp_ne (tgt := 65) hx hb d_M_start_55 (by decide) (fun c55 => ?_) (fun c55 => ?_)
              · have h := ite_f c55 h
                exact w_M_start_65 C hQ x1 x2 s1 H locs ls hX hl h
              · have h := ite_t c55 h
                refine lv_aload_n hx hb d_M_start_58 rfl (lv_at hl 0 rfl) ?_
                refine gm_compiled C hX fl_M_140 d_M_start_59 ?_
                refine lv_if_ne (tgt := 67) hx hb d_M_start_62 (by decide) (fun c62 => ?_) (fun c62 => ?_)
                · have h := ite_f c62 h
                  exact w_M_start_67 C hQ x1 x2 s1 H locs ls hX hl h
                · have h := ite_t c62 h
                  exact w_M_start_65 C hQ x1 x2 s1 H locs ls hX hl h
          · have h := ite_f c44 h
            refine lv_iconst (v := 3) hx hb d_M_start_47 (by decide) ?_
            obtain rfl := so1 h
            exact hQ _ H locs ls hX d_M_start_48
        · have h := ite_f c30 h
          exact w_M_start_33 C hQ x1 x2 s1 H locs ls hX hl h
    · have h := ite_f c16 h
      exact w_M_start_19 C hQ x1 x2 s1 H locs ls hX hl h
end WALK
theorem c_M_start (l : Launch) (g : GX) (x1 : Int32) (x2 : Int32) (s : SM) (z : Int32 × SM) (h : f_M_start x1 x2 s = some z) : MI l g y_M_start b_M_start 4 (some .int) 2 43 [.ref (g.q 60), .int x1, .int x2] (wM g s) z.1 (wM g z.2) :=
  MI.mk (own := R_M) (by decide) rfl (Nat.le_of_ble_eq_true rfl) fun p e ss m below meth c A Q C hQ ls hX hl => w_M_start C hQ x1 x2 s _ _ ls hX hl h
