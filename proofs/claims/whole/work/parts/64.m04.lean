-- M_gives
def f_M_gives_35 (x0 : Int32) (y0 : Int32) : Option Int32 :=
    bz y0 <|
    some (y0)
def f_M_gives_34 (x0 : Int32) : Option Int32 :=
    f_M_gives_35 x0 0
def f_M_gives_30 (x0 : Int32) : Option Int32 :=
    f_M_gives_35 x0 1
def f_M_gives (x0 : Int32) : Option Int32 :=
    if x0 = 26 then
      f_M_gives_34 x0
    else
      if x0 = 33 then
        f_M_gives_34 x0
      else
        if x0 = 36 then
          f_M_gives_34 x0
        else
          if x0 < 54 then
            f_M_gives_30 x0
          else
            if x0 ≤ 59 then
              f_M_gives_34 x0
            else
              f_M_gives_30 x0
section WALK
variable {p : Program} {l : Launch} {e : Env} {ss : State} {m : MethodId} {args : Array Value} {below : List Frame} {meth : Method} {c : Code} {Q : State → Prop} {g : GX} {A : Nat → Prop}
set_option maxHeartbeats 4000000 in
set_option maxRecDepth 100000 in
theorem w_M_gives_35 {ws : va_W} {z : Int32} (C : Cx g A p m c b_M_gives 1 ss args R_M) (hQ : ∀ (pc : Nat) (H : Heap) (locs : List Loc) (ls : Array Slot), XW g A ss ws H locs → (z = 0 ∨ z = 1) → decode b_M_gives pc = .ok (.ireturn, 1) → W p l e (rmX 0 0) ss m args below meth c H locs 0 0 Q (F0 m pc ls [.int z])) : ∀ (x0 : Int32) (y0 : Int32) (H : Heap) (locs : List Loc) (ls : Array Slot), XW g A ss ws H locs → lv_has ls 1 [(0, .int x0)] → f_M_gives_35 x0 y0 = some z → W p l e (rmX 0 0) ss m args below meth c H locs 0 0 Q (F0 m 35 ls [.int y0]) := by
  have ⟨⟨hx, hb, hml, hown, hts⟩, hK, hA, hN⟩ := C
  intro x0 y0 H locs ls hX hl h
  rw [f_M_gives_35] at h
  obtain ⟨hz, h⟩ := bz_e h
  obtain rfl := so1 h
  exact hQ _ H locs ls hX hz d_M_gives_35
set_option maxHeartbeats 4000000 in
set_option maxRecDepth 100000 in
theorem w_M_gives_34 {ws : va_W} {z : Int32} (C : Cx g A p m c b_M_gives 1 ss args R_M) (hQ : ∀ (pc : Nat) (H : Heap) (locs : List Loc) (ls : Array Slot), XW g A ss ws H locs → (z = 0 ∨ z = 1) → decode b_M_gives pc = .ok (.ireturn, 1) → W p l e (rmX 0 0) ss m args below meth c H locs 0 0 Q (F0 m pc ls [.int z])) : ∀ (x0 : Int32) (H : Heap) (locs : List Loc) (ls : Array Slot), XW g A ss ws H locs → lv_has ls 1 [(0, .int x0)] → f_M_gives_34 x0 = some z → W p l e (rmX 0 0) ss m args below meth c H locs 0 0 Q (F0 m 34 ls []) := by
  have ⟨⟨hx, hb, hml, hown, hts⟩, hK, hA, hN⟩ := C
  intro x0 H locs ls hX hl h
  rw [f_M_gives_34] at h
  refine lv_iconst (v := 0) hx hb d_M_gives_34 (by decide) ?_
  exact w_M_gives_35 C hQ x0 0 H locs ls hX hl h
set_option maxHeartbeats 4000000 in
set_option maxRecDepth 100000 in
theorem w_M_gives_30 {ws : va_W} {z : Int32} (C : Cx g A p m c b_M_gives 1 ss args R_M) (hQ : ∀ (pc : Nat) (H : Heap) (locs : List Loc) (ls : Array Slot), XW g A ss ws H locs → (z = 0 ∨ z = 1) → decode b_M_gives pc = .ok (.ireturn, 1) → W p l e (rmX 0 0) ss m args below meth c H locs 0 0 Q (F0 m pc ls [.int z])) : ∀ (x0 : Int32) (H : Heap) (locs : List Loc) (ls : Array Slot), XW g A ss ws H locs → lv_has ls 1 [(0, .int x0)] → f_M_gives_30 x0 = some z → W p l e (rmX 0 0) ss m args below meth c H locs 0 0 Q (F0 m 30 ls []) := by
  have ⟨⟨hx, hb, hml, hown, hts⟩, hK, hA, hN⟩ := C
  intro x0 H locs ls hX hl h
  rw [f_M_gives_30] at h
  refine lv_iconst (v := 1) hx hb d_M_gives_30 (by decide) ?_
  refine lv_goto (tgt := 35) hx hb d_M_gives_31 (by decide) ?_
  exact w_M_gives_35 C hQ x0 1 H locs ls hX hl h
set_option maxHeartbeats 4000000 in
set_option maxRecDepth 100000 in
theorem w_M_gives {ws : va_W} {z : Int32} (C : Cx g A p m c b_M_gives 1 ss args R_M) (hQ : ∀ (pc : Nat) (H : Heap) (locs : List Loc) (ls : Array Slot), XW g A ss ws H locs → (z = 0 ∨ z = 1) → decode b_M_gives pc = .ok (.ireturn, 1) → W p l e (rmX 0 0) ss m args below meth c H locs 0 0 Q (F0 m pc ls [.int z])) : ∀ (x0 : Int32) (H : Heap) (locs : List Loc) (ls : Array Slot), XW g A ss ws H locs → lv_has ls 1 [(0, .int x0)] → f_M_gives x0 = some z → W p l e (rmX 0 0) ss m args below meth c H locs 0 0 Q (F0 m 0 ls []) := by
  have ⟨⟨hx, hb, hml, hown, hts⟩, hK, hA, hN⟩ := C
  intro x0 H locs ls hX hl h
  rw [f_M_gives] at h
  refine lv_iload_n hx hb d_M_gives_0 rfl (lv_at hl 0 rfl) ?_
  refine lv_bipush (v := 26) hx hb d_M_gives_1 (by decide) ?_
  refine lv_icmp_eq (tgt := 34) hx hb d_M_gives_3 (by decide) (fun c3 => ?_) (fun c3 => ?_)
  · have h := ite_t c3 h
    exact w_M_gives_34 C hQ x0 H locs ls hX hl h
  · have h := ite_f c3 h
    refine lv_iload_n hx hb d_M_gives_6 rfl (lv_at hl 0 rfl) ?_
    refine lv_bipush (v := 33) hx hb d_M_gives_7 (by decide) ?_
    refine lv_icmp_eq (tgt := 34) hx hb d_M_gives_9 (by decide) (fun c9 => ?_) (fun c9 => ?_)
    · have h := ite_t c9 h
      exact w_M_gives_34 C hQ x0 H locs ls hX hl h
    · have h := ite_f c9 h
      refine lv_iload_n hx hb d_M_gives_12 rfl (lv_at hl 0 rfl) ?_
      refine lv_bipush (v := 36) hx hb d_M_gives_13 (by decide) ?_
      refine lv_icmp_eq (tgt := 34) hx hb d_M_gives_15 (by decide) (fun c15 => ?_) (fun c15 => ?_)
      · have h := ite_t c15 h
        exact w_M_gives_34 C hQ x0 H locs ls hX hl h
      · have h := ite_f c15 h
        refine lv_iload_n hx hb d_M_gives_18 rfl (lv_at hl 0 rfl) ?_
        refine lv_bipush (v := 54) hx hb d_M_gives_19 (by decide) ?_
        refine lv_icmp_lt (tgt := 30) hx hb d_M_gives_21 (by decide) (fun c21 => ?_) (fun c21 => ?_)
        · have h := ite_t c21 h
          exact w_M_gives_30 C hQ x0 H locs ls hX hl h
        · have h := ite_f c21 h
          refine lv_iload_n hx hb d_M_gives_24 rfl (lv_at hl 0 rfl) ?_
          refine lv_bipush (v := 59) hx hb d_M_gives_25 (by decide) ?_
          refine lv_icmp_le (tgt := 34) hx hb d_M_gives_27 (by decide) (fun c27 => ?_) (fun c27 => ?_)
          · have h := ite_t c27 h
            exact w_M_gives_34 C hQ x0 H locs ls hX hl h
          · have h := ite_f c27 h
            exact w_M_gives_30 C hQ x0 H locs ls hX hl h
end WALK
theorem c_M_gives (l : Launch) (g : GX) (x0 : Int32) (z : Int32) (h : f_M_gives x0 = some z) (ws : va_W) : MI l g y_M_gives b_M_gives 1 (some .boolean) 0 0 [.int x0] ws z ws :=
  MI.mkZ (own := R_M) (by decide) rfl (Nat.le_of_ble_eq_true rfl) fun p e ss m below meth c A Q C hQ ls hX hl => w_M_gives C hQ x0 _ _ ls hX hl h
-- M_validatePlain
def f_M_validatePlain_220 (x1 : Int32) (x2 : Int32) (x3 : Int32) (s : SM) : Option SM :=
    some s
def f_M_validatePlain_192 (x1 : Int32) (x2 : Int32) (x3 : Int32) (s : SM) : Option SM :=
    if s.1 0 5 ≤ 0 then
      bd1 (f_M_takes x3) fun r1 =>
      bd1 (f_M_pop r1 s) fun s2 =>
      bd1 (f_M_gives x3) fun r3 =>
      if r3 = 0 then
        f_M_validatePlain_220 x1 x2 x3 s2
      else
        bd1 (f_M_push 1 s2) fun s4 =>
        f_M_validatePlain_220 x1 x2 x3 s4
    else
      some s
def f_M_validatePlain_188 (x1 : Int32) (x2 : Int32) (x3 : Int32) (y1 : Int32) (s : SM) : Option SM :=
    bd1 (f_M_will y1 3 s) fun s1 =>
    f_M_validatePlain_192 x1 x2 x3 s1
def f_M_validatePlain_178 (x1 : Int32) (x2 : Int32) (x3 : Int32) (y1 : Int64) (y2 : Int32) (s : SM) : Option SM :=
    lt1 (Int32.toInt64 y2) fun v1 =>
    lt1 (lg_cmp y1 v1) fun v2 =>
    if 0 < v2 then
      f_M_validatePlain_188 x1 x2 x3 0 s
    else
      f_M_validatePlain_188 x1 x2 x3 1 s
def f_M_validatePlain_141 (x1 : Int32) (x2 : Int32) (x3 : Int32) (s : SM) : Option SM :=
    if x3 ≤ 39 then
      f_M_validatePlain_192 x1 x2 x3 s
    else
      if 60 ≤ x3 then
        f_M_validatePlain_192 x1 x2 x3 s
      else
        gi x2 250 <|
        lt1 (s.2 15 (Int32.toNatClampNeg x2)) fun v1 =>
        bd1 (f_M_width x3) fun r2 =>
        if r2 = 4 then
          f_M_validatePlain_178 x1 x2 x3 v1 2 s
        else
          bd1 (f_M_width x3) fun r3 =>
          lt1 (r3 - 1) fun v4 =>
          f_M_validatePlain_178 x1 x2 x3 v1 v4 s
def f_M_validatePlain_137 (x1 : Int32) (x2 : Int32) (x3 : Int32) (y1 : Int32) (s : SM) : Option SM :=
    bd1 (f_M_will y1 3 s) fun s1 =>
    f_M_validatePlain_141 x1 x2 x3 s1
def f_M_validatePlain_112 (x1 : Int32) (x2 : Int32) (x3 : Int32) (s : SM) : Option SM :=
    if x3 ≤ 39 then
      f_M_validatePlain_141 x1 x2 x3 s
    else
      if 65 ≤ x3 then
        f_M_validatePlain_141 x1 x2 x3 s
      else
        if s.1 0 9 ≤ 0 then
          f_M_validatePlain_137 x1 x2 x3 0 s
        else
          f_M_validatePlain_137 x1 x2 x3 1 s
def f_M_validatePlain_82 (x1 : Int32) (x2 : Int32) (x3 : Int32) (s : SM) : Option SM :=
    if s.1 0 5 = 0 then
      if x3 = 36 then
        gi x2 250 <|
        lt1 (s.2 15 (Int32.toNatClampNeg x2)) fun v1 =>
        lt1 (Int64.toInt32 v1) fun v2 =>
        gi v2 4 <|
        lt1 (s.1 5 (Int32.toNatClampNeg v2)) fun v3 =>
        bd1 (f_M_will v3 3 s) fun s4 =>
        f_M_validatePlain_112 x1 x2 x3 s4
      else
        f_M_validatePlain_112 x1 x2 x3 s
    else
      f_M_validatePlain_112 x1 x2 x3 s
def f_M_validatePlain_78 (x1 : Int32) (x2 : Int32) (x3 : Int32) (y1 : Int32) (s : SM) : Option SM :=
    bd1 (f_M_will y1 3 s) fun s1 =>
    f_M_validatePlain_82 x1 x2 x3 s1
def f_M_validatePlain_57 (x1 : Int32) (x2 : Int32) (x3 : Int32) (s : SM) : Option SM :=
    gi x2 250 <|
    lt1 (s.2 15 (Int32.toNatClampNeg x2)) fun v1 =>
    lt1 (Int32.toInt64 (s.1 0 11)) fun v2 =>
    lt1 (lg_cmp v1 v2) fun v3 =>
    if 0 ≤ v3 then
      f_M_validatePlain_78 x1 x2 x3 0 s
    else
      f_M_validatePlain_78 x1 x2 x3 1 s
def f_M_validatePlain_45 (x1 : Int32) (x2 : Int32) (x3 : Int32) (s : SM) : Option SM :=
    if x3 = 35 then
      f_M_validatePlain_57 x1 x2 x3 s
    else
      if x3 = 36 then
        f_M_validatePlain_57 x1 x2 x3 s
      else
        f_M_validatePlain_82 x1 x2 x3 s
def f_M_validatePlain_41 (x1 : Int32) (x2 : Int32) (x3 : Int32) (y1 : Int32) (s : SM) : Option SM :=
    bd1 (f_M_will y1 3 s) fun s1 =>
    f_M_validatePlain_45 x1 x2 x3 s1
def f_M_validatePlain (x1 : Int32) (x2 : Int32) (s : SM) : Option SM :=
    gi x2 250 <|
    lt1 (s.1 14 (Int32.toNatClampNeg x2)) fun v1 =>
    if v1 ≤ 31 then
      f_M_validatePlain_45 x1 x2 v1 s
    else
      if 35 ≤ v1 then
        f_M_validatePlain_45 x1 x2 v1 s
      else
        gi x2 250 <|
        lt1 (s.2 15 (Int32.toNatClampNeg x2)) fun v2 =>
        bd1 (f_M_locals s x1) fun r3 =>
        lt1 (Int32.toInt64 r3) fun v4 =>
        lt1 (lg_cmp v2 v4) fun v5 =>
        if 0 ≤ v5 then
          f_M_validatePlain_41 x1 x2 v1 0 s
        else
          f_M_validatePlain_41 x1 x2 v1 1 s
section WALK
variable {p : Program} {l : Launch} {e : Env} {ss : State} {m : MethodId} {args : Array Value} {below : List Frame} {meth : Method} {c : Code} {Q : State → Prop} {g : GX} {A : Nat → Prop}
set_option maxHeartbeats 4000000 in
set_option maxRecDepth 100000 in
theorem w_M_validatePlain_220 {z : SM} (C : Cx g A p m c b_M_validatePlain 4 ss args R_M) (hQ : ∀ (pc : Nat) (H : Heap) (locs : List Loc) (ls : Array Slot), XW g A ss (wM g z) H locs → decode b_M_validatePlain pc = .ok (.return_, 1) → W p l e (rmX 2 44) ss m args below meth c H locs 0 0 Q (F0 m pc ls [])) : ∀ (x1 : Int32) (x2 : Int32) (x3 : Int32) (s : SM) (H : Heap) (locs : List Loc) (ls : Array Slot), XW g A ss (wM g s) H locs → lv_has ls 4 [(0, .ref (g.q 60)), (1, .int x1), (2, .int x2), (3, .int x3)] → f_M_validatePlain_220 x1 x2 x3 s = some z → W p l e (rmX 2 44) ss m args below meth c H locs 0 0 Q (F0 m 220 ls []) := by
  have ⟨⟨hx, hb, hml, hown, hts⟩, hK, hA, hN⟩ := C
  intro x1 x2 x3 s H locs ls hX hl h
  rw [f_M_validatePlain_220] at h
  obtain rfl := so1 h
  exact hQ _ H locs ls hX d_M_validatePlain_220
set_option maxHeartbeats 4000000 in
set_option maxRecDepth 100000 in
theorem w_M_validatePlain_192 {z : SM} (C : Cx g A p m c b_M_validatePlain 4 ss args R_M) (hQ : ∀ (pc : Nat) (H : Heap) (locs : List Loc) (ls : Array Slot), XW g A ss (wM g z) H locs → decode b_M_validatePlain pc = .ok (.return_, 1) → W p l e (rmX 2 44) ss m args below meth c H locs 0 0 Q (F0 m pc ls [])) : ∀ (x1 : Int32) (x2 : Int32) (x3 : Int32) (s : SM) (H : Heap) (locs : List Loc) (ls : Array Slot), XW g A ss (wM g s) H locs → lv_has ls 4 [(0, .ref (g.q 60)), (1, .int x1), (2, .int x2), (3, .int x3)] → f_M_validatePlain_192 x1 x2 x3 s = some z → W p l e (rmX 2 44) ss m args below meth c H locs 0 0 Q (F0 m 192 ls []) := by
  have ⟨⟨hx, hb, hml, hown, hts⟩, hK, hA, hN⟩ := C
  intro x1 x2 x3 s H locs ls hX hl h
  rw [f_M_validatePlain_192] at h
  refine lv_aload_n hx hb d_M_validatePlain_192 rfl (lv_at hl 0 rfl) ?_
  refine gm_wrong C hX fl_M_149 d_M_validatePlain_193 ?_
  refine lv_if_le (tgt := 200) hx hb d_M_validatePlain_196 (by decide) (fun c196 => ?_) (fun c196 => ?_)
  · have h := ite_t c196 h
    refine lv_aload_n hx hb d_M_validatePlain_200 rfl (lv_at hl 0 rfl) ?_
    refine lv_iload_n hx hb d_M_validatePlain_201 rfl (lv_at hl 3 rfl) ?_
    obtain ⟨r1, hc202, h⟩ := bd1_e h
    refine x_sI (As := [.int x3]) (rest := [.ref (g.q 60)]) C hX (c_M_takes l g x3 r1 hc202 _) (cw_M_328 C.1.2.2.2.2 C.2.2.2 ⟨by decide, by decide⟩) rfl hl.1 rfl (lv_room (Nat.le_of_ble_eq_true rfl)) d_M_validatePlain_202 ⟨Nat.le_refl _, Nat.le_refl _⟩ (fun H locs hX => ?_)
    obtain ⟨s2, hc205, h⟩ := bd1_e h
    refine x_vV (As := [.int r1]) (rest := []) C hX (c_M_pop l g r1 s s2 hc205) (cw_M_312 C.1.2.2.2.2 C.2.2.2 ⟨by decide, by decide⟩) (x_rc C hX vg_0 rfl) rfl hl.1 rfl (lv_room (Nat.le_of_ble_eq_true rfl)) d_M_validatePlain_205 ⟨Nat.le_refl _, Nat.le_refl _⟩ (fun H locs hX => ?_)
    refine lv_iload_n hx hb d_M_validatePlain_208 rfl (lv_at hl 3 rfl) ?_
    obtain ⟨r3, hc209, h⟩ := bd1_e h
    refine x_sI (As := [.int x3]) (rest := []) C hX (c_M_gives l g x3 r3 hc209 _) (cw_M_331 C.1.2.2.2.2 C.2.2.2 ⟨by decide, by decide⟩) rfl hl.1 rfl (lv_room (Nat.le_of_ble_eq_true rfl)) d_M_validatePlain_209 ⟨Nat.le_refl _, Nat.le_refl _⟩ (fun H locs hX => ?_)
    refine lv_if_eq (tgt := 220) hx hb d_M_validatePlain_212 (by decide) (fun c212 => ?_) (fun c212 => ?_)
    · have h := ite_t c212 h
      exact w_M_validatePlain_220 C hQ x1 x2 x3 s2 H locs ls hX hl h
    · have h := ite_f c212 h
      refine lv_aload_n hx hb d_M_validatePlain_215 rfl (lv_at hl 0 rfl) ?_
      refine lv_iconst (v := 1) hx hb d_M_validatePlain_216 (by decide) ?_
      obtain ⟨s4, hc217, h⟩ := bd1_e h
      refine x_vV (As := [.int 1]) (rest := []) C hX (c_M_push l g 1 s2 s4 hc217) (cw_M_315 C.1.2.2.2.2 C.2.2.2 ⟨by decide, by decide⟩) (x_rc C hX vg_0 rfl) rfl hl.1 rfl (lv_room (Nat.le_of_ble_eq_true rfl)) d_M_validatePlain_217 ⟨Nat.le_refl _, Nat.le_refl _⟩ (fun H locs hX => ?_)
      exact w_M_validatePlain_220 C hQ x1 x2 x3 s4 H locs ls hX hl h
  · have h := ite_f c196 h
    obtain rfl := so1 h
    exact hQ _ H locs ls hX d_M_validatePlain_199
set_option maxHeartbeats 4000000 in
set_option maxRecDepth 100000 in
theorem w_M_validatePlain_188 {z : SM} (C : Cx g A p m c b_M_validatePlain 4 ss args R_M) (hQ : ∀ (pc : Nat) (H : Heap) (locs : List Loc) (ls : Array Slot), XW g A ss (wM g z) H locs → decode b_M_validatePlain pc = .ok (.return_, 1) → W p l e (rmX 2 44) ss m args below meth c H locs 0 0 Q (F0 m pc ls [])) : ∀ (x1 : Int32) (x2 : Int32) (x3 : Int32) (y1 : Int32) (s : SM) (H : Heap) (locs : List Loc) (ls : Array Slot), XW g A ss (wM g s) H locs → lv_has ls 4 [(0, .ref (g.q 60)), (1, .int x1), (2, .int x2), (3, .int x3)] → f_M_validatePlain_188 x1 x2 x3 y1 s = some z → W p l e (rmX 2 44) ss m args below meth c H locs 0 0 Q (F0 m 188 ls [.int y1, .ref (g.q 60)]) := by
  have ⟨⟨hx, hb, hml, hown, hts⟩, hK, hA, hN⟩ := C
  intro x1 x2 x3 y1 s H locs ls hX hl h
  rw [f_M_validatePlain_188] at h
  refine lv_iconst (v := 3) hx hb d_M_validatePlain_188 (by decide) ?_
  obtain ⟨s1, hc189, h⟩ := bd1_e h
  refine x_vV (As := [.int y1, .int 3]) (rest := []) C hX (c_M_will l g y1 3 s s1 hc189) (cw_M_158 C.1.2.2.2.2 C.2.2.2 ⟨by decide, by decide⟩) (x_rc C hX vg_0 rfl) rfl hl.1 rfl (lv_room (Nat.le_of_ble_eq_true rfl)) d_M_validatePlain_189 ⟨Nat.le_refl _, Nat.le_refl _⟩ (fun H locs hX => ?_)
  exact w_M_validatePlain_192 C hQ x1 x2 x3 s1 H locs ls hX hl h
set_option maxHeartbeats 4000000 in
set_option maxRecDepth 100000 in
theorem w_M_validatePlain_178 {z : SM} (C : Cx g A p m c b_M_validatePlain 4 ss args R_M) (hQ : ∀ (pc : Nat) (H : Heap) (locs : List Loc) (ls : Array Slot), XW g A ss (wM g z) H locs → decode b_M_validatePlain pc = .ok (.return_, 1) → W p l e (rmX 2 44) ss m args below meth c H locs 0 0 Q (F0 m pc ls [])) : ∀ (x1 : Int32) (x2 : Int32) (x3 : Int32) (y1 : Int64) (y2 : Int32) (s : SM) (H : Heap) (locs : List Loc) (ls : Array Slot), XW g A ss (wM g s) H locs → lv_has ls 4 [(0, .ref (g.q 60)), (1, .int x1), (2, .int x2), (3, .int x3)] → f_M_validatePlain_178 x1 x2 x3 y1 y2 s = some z → W p l e (rmX 2 44) ss m args below meth c H locs 0 0 Q (F0 m 178 ls [.int y2, .long y1, .ref (g.q 60)]) := by
  have ⟨⟨hx, hb, hml, hown, hts⟩, hK, hA, hN⟩ := C
  intro x1 x2 x3 y1 y2 s H locs ls hX hl h
  rw [f_M_validatePlain_178] at h
  obtain ⟨v1, ev1, h⟩ := lt1_e h
  refine lv_i2l hx hb d_M_validatePlain_178 ev1.symm ?_
  obtain ⟨v2, ev2, h⟩ := lt1_e h
  refine x_lcmp hx hb d_M_validatePlain_179 ev2 ?_
  refine lv_if_gt (tgt := 187) hx hb d_M_validatePlain_180 (by decide) (fun c180 => ?_) (fun c180 => ?_)
  · have h := ite_t c180 h
    refine lv_iconst (v := 0) hx hb d_M_validatePlain_187 (by decide) ?_
    exact w_M_validatePlain_188 C hQ x1 x2 x3 0 s H locs ls hX hl h
  · have h := ite_f c180 h
    refine lv_iconst (v := 1) hx hb d_M_validatePlain_183 (by decide) ?_
    refine lv_goto (tgt := 188) hx hb d_M_validatePlain_184 (by decide) ?_
    exact w_M_validatePlain_188 C hQ x1 x2 x3 1 s H locs ls hX hl h
set_option maxHeartbeats 4000000 in
set_option maxRecDepth 100000 in
theorem w_M_validatePlain_141 {z : SM} (C : Cx g A p m c b_M_validatePlain 4 ss args R_M) (hQ : ∀ (pc : Nat) (H : Heap) (locs : List Loc) (ls : Array Slot), XW g A ss (wM g z) H locs → decode b_M_validatePlain pc = .ok (.return_, 1) → W p l e (rmX 2 44) ss m args below meth c H locs 0 0 Q (F0 m pc ls [])) : ∀ (x1 : Int32) (x2 : Int32) (x3 : Int32) (s : SM) (H : Heap) (locs : List Loc) (ls : Array Slot), XW g A ss (wM g s) H locs → lv_has ls 4 [(0, .ref (g.q 60)), (1, .int x1), (2, .int x2), (3, .int x3)] → f_M_validatePlain_141 x1 x2 x3 s = some z → W p l e (rmX 2 44) ss m args below meth c H locs 0 0 Q (F0 m 141 ls []) := by
  have ⟨⟨hx, hb, hml, hown, hts⟩, hK, hA, hN⟩ := C
  intro x1 x2 x3 s H locs ls hX hl h
  rw [f_M_validatePlain_141] at h
  refine lv_iload_n hx hb d_M_validatePlain_141 rfl (lv_at hl 3 rfl) ?_
  refine lv_bipush (v := 39) hx hb d_M_validatePlain_142 (by decide) ?_
  refine lv_icmp_le (tgt := 192) hx hb d_M_validatePlain_144 (by decide) (fun c144 => ?_) (fun c144 => ?_)
  · have h := ite_t c144 h
    exact w_M_validatePlain_192 C hQ x1 x2 x3 s H locs ls hX hl h
  · have h := ite_f c144 h
    refine lv_iload_n hx hb d_M_validatePlain_147 rfl (lv_at hl 3 rfl) ?_
    refine lv_bipush (v := 60) hx hb d_M_validatePlain_148 (by decide) ?_
    refine lv_icmp_ge (tgt := 192) hx hb d_M_validatePlain_150 (by decide) (fun c150 => ?_) (fun c150 => ?_)
    · have h := ite_t c150 h
      exact w_M_validatePlain_192 C hQ x1 x2 x3 s H locs ls hX hl h
    · have h := ite_f c150 h
      refine lv_aload_n hx hb d_M_validatePlain_153 rfl (lv_at hl 0 rfl) ?_
      refine lv_aload_n hx hb d_M_validatePlain_154 rfl (lv_at hl 0 rfl) ?_
      refine gm_first C hX fl_M_54 d_M_validatePlain_155 ?_
      refine lv_iload_n hx hb d_M_validatePlain_158 rfl (lv_at hl 2 rfl) ?_
      obtain ⟨hz159, h⟩ := gi_e h
      obtain ⟨v1, ev1, h⟩ := lt1_e h
      refine alm_15 C hX hz159 d_M_validatePlain_159 ev1 ?_
      refine lv_iload_n hx hb d_M_validatePlain_160 rfl (lv_at hl 3 rfl) ?_
      obtain ⟨r2, hc161, h⟩ := bd1_e h
      refine x_sI (As := [.int x3]) (rest := [.long v1, .ref (g.q 60)]) C hX (c_M_width l g x3 r2 hc161 _) (cw_M_325 C.1.2.2.2.2 C.2.2.2 ⟨by decide, by decide⟩) rfl hl.1 rfl (lv_room (Nat.le_of_ble_eq_true rfl)) d_M_validatePlain_161 ⟨Nat.le_refl _, Nat.le_refl _⟩ (fun H locs hX => ?_)
      refine lv_iconst (v := 4) hx hb d_M_validatePlain_164 (by decide) ?_
      refine lv_icmp_ne (tgt := 172) hx hb d_M_validatePlain_165 (by decide) (fun c165 => ?_) (fun c165 => ?_)
      · have h := ite_f c165 h
        refine lv_iload_n hx hb d_M_validatePlain_172 rfl (lv_at hl 3 rfl) ?_
        obtain ⟨r3, hc173, h⟩ := bd1_e h
        refine x_sI (As := [.int x3]) (rest := [.long v1, .ref (g.q 60)]) C hX (c_M_width l g x3 r3 hc173 _) (cw_M_325 C.1.2.2.2.2 C.2.2.2 ⟨by decide, by decide⟩) rfl hl.1 rfl (lv_room (Nat.le_of_ble_eq_true rfl)) d_M_validatePlain_173 ⟨Nat.le_refl _, Nat.le_refl _⟩ (fun H locs hX => ?_)
        refine lv_iconst (v := 1) hx hb d_M_validatePlain_176 (by decide) ?_
        obtain ⟨v4, ev4, h⟩ := lt1_e h
        refine x_isub hx hb d_M_validatePlain_177 ev4 ?_
        exact w_M_validatePlain_178 C hQ x1 x2 x3 v1 v4 s H locs ls hX hl h
      · have h := ite_t c165 h
        refine lv_iconst (v := 2) hx hb d_M_validatePlain_168 (by decide) ?_
        refine lv_goto (tgt := 178) hx hb d_M_validatePlain_169 (by decide) ?_
        exact w_M_validatePlain_178 C hQ x1 x2 x3 v1 2 s H locs ls hX hl h
set_option maxHeartbeats 4000000 in
set_option maxRecDepth 100000 in
theorem w_M_validatePlain_137 {z : SM} (C : Cx g A p m c b_M_validatePlain 4 ss args R_M) (hQ : ∀ (pc : Nat) (H : Heap) (locs : List Loc) (ls : Array Slot), XW g A ss (wM g z) H locs → decode b_M_validatePlain pc = .ok (.return_, 1) → W p l e (rmX 2 44) ss m args below meth c H locs 0 0 Q (F0 m pc ls [])) : ∀ (x1 : Int32) (x2 : Int32) (x3 : Int32) (y1 : Int32) (s : SM) (H : Heap) (locs : List Loc) (ls : Array Slot), XW g A ss (wM g s) H locs → lv_has ls 4 [(0, .ref (g.q 60)), (1, .int x1), (2, .int x2), (3, .int x3)] → f_M_validatePlain_137 x1 x2 x3 y1 s = some z → W p l e (rmX 2 44) ss m args below meth c H locs 0 0 Q (F0 m 137 ls [.int y1, .ref (g.q 60)]) := by
  have ⟨⟨hx, hb, hml, hown, hts⟩, hK, hA, hN⟩ := C
  intro x1 x2 x3 y1 s H locs ls hX hl h
  rw [f_M_validatePlain_137] at h
  refine lv_iconst (v := 3) hx hb d_M_validatePlain_137 (by decide) ?_
  obtain ⟨s1, hc138, h⟩ := bd1_e h
  refine x_vV (As := [.int y1, .int 3]) (rest := []) C hX (c_M_will l g y1 3 s s1 hc138) (cw_M_158 C.1.2.2.2.2 C.2.2.2 ⟨by decide, by decide⟩) (x_rc C hX vg_0 rfl) rfl hl.1 rfl (lv_room (Nat.le_of_ble_eq_true rfl)) d_M_validatePlain_138 ⟨Nat.le_refl _, Nat.le_refl _⟩ (fun H locs hX => ?_)
  exact w_M_validatePlain_141 C hQ x1 x2 x3 s1 H locs ls hX hl h
set_option maxHeartbeats 4000000 in
set_option maxRecDepth 100000 in
theorem w_M_validatePlain_112 {z : SM} (C : Cx g A p m c b_M_validatePlain 4 ss args R_M) (hQ : ∀ (pc : Nat) (H : Heap) (locs : List Loc) (ls : Array Slot), XW g A ss (wM g z) H locs → decode b_M_validatePlain pc = .ok (.return_, 1) → W p l e (rmX 2 44) ss m args below meth c H locs 0 0 Q (F0 m pc ls [])) : ∀ (x1 : Int32) (x2 : Int32) (x3 : Int32) (s : SM) (H : Heap) (locs : List Loc) (ls : Array Slot), XW g A ss (wM g s) H locs → lv_has ls 4 [(0, .ref (g.q 60)), (1, .int x1), (2, .int x2), (3, .int x3)] → f_M_validatePlain_112 x1 x2 x3 s = some z → W p l e (rmX 2 44) ss m args below meth c H locs 0 0 Q (F0 m 112 ls []) := by
  have ⟨⟨hx, hb, hml, hown, hts⟩, hK, hA, hN⟩ := C
  intro x1 x2 x3 s H locs ls hX hl h
  rw [f_M_validatePlain_112] at h
  refine lv_iload_n hx hb d_M_validatePlain_112 rfl (lv_at hl 3 rfl) ?_
  refine lv_bipush (v := 39) hx hb d_M_validatePlain_113 (by decide) ?_
  refine lv_icmp_le (tgt := 141) hx hb d_M_validatePlain_115 (by decide) (fun c115 => ?_) (fun c115 => ?_)
  · have h := ite_t c115 h
    exact w_M_validatePlain_141 C hQ x1 x2 x3 s H locs ls hX hl h
  · have h := ite_f c115 h
    refine lv_iload_n hx hb d_M_validatePlain_118 rfl (lv_at hl 3 rfl) ?_
    refine lv_bipush (v := 65) hx hb d_M_validatePlain_119 (by decide) ?_
    refine lv_icmp_ge (tgt := 141) hx hb d_M_validatePlain_121 (by decide) (fun c121 => ?_) (fun c121 => ?_)
    · have h := ite_t c121 h
      exact w_M_validatePlain_141 C hQ x1 x2 x3 s H locs ls hX hl h
    · have h := ite_f c121 h
      refine lv_aload_n hx hb d_M_validatePlain_124 rfl (lv_at hl 0 rfl) ?_
      refine lv_aload_n hx hb d_M_validatePlain_125 rfl (lv_at hl 0 rfl) ?_
      refine gm_memories C hX fl_M_222 d_M_validatePlain_126 ?_
      refine lv_if_le (tgt := 136) hx hb d_M_validatePlain_129 (by decide) (fun c129 => ?_) (fun c129 => ?_)
      · have h := ite_t c129 h
        refine lv_iconst (v := 0) hx hb d_M_validatePlain_136 (by decide) ?_
        exact w_M_validatePlain_137 C hQ x1 x2 x3 0 s H locs ls hX hl h
      · have h := ite_f c129 h
        refine lv_iconst (v := 1) hx hb d_M_validatePlain_132 (by decide) ?_
        refine lv_goto (tgt := 137) hx hb d_M_validatePlain_133 (by decide) ?_
        exact w_M_validatePlain_137 C hQ x1 x2 x3 1 s H locs ls hX hl h
set_option maxHeartbeats 4000000 in
set_option maxRecDepth 100000 in
theorem w_M_validatePlain_82 {z : SM} (C : Cx g A p m c b_M_validatePlain 4 ss args R_M) (hQ : ∀ (pc : Nat) (H : Heap) (locs : List Loc) (ls : Array Slot), XW g A ss (wM g z) H locs → decode b_M_validatePlain pc = .ok (.return_, 1) → W p l e (rmX 2 44) ss m args below meth c H locs 0 0 Q (F0 m pc ls [])) : ∀ (x1 : Int32) (x2 : Int32) (x3 : Int32) (s : SM) (H : Heap) (locs : List Loc) (ls : Array Slot), XW g A ss (wM g s) H locs → lv_has ls 4 [(0, .ref (g.q 60)), (1, .int x1), (2, .int x2), (3, .int x3)] → f_M_validatePlain_82 x1 x2 x3 s = some z → W p l e (rmX 2 44) ss m args below meth c H locs 0 0 Q (F0 m 82 ls []) := by
  have ⟨⟨hx, hb, hml, hown, hts⟩, hK, hA, hN⟩ := C
  intro x1 x2 x3 s H locs ls hX hl h
  rw [f_M_validatePlain_82] at h
  refine lv_aload_n hx hb d_M_validatePlain_82 rfl (lv_at hl 0 rfl) ?_
  refine gm_wrong C hX fl_M_149 d_M_validatePlain_83 ?_
  refine lv_if_ne (tgt := 112) hx hb d_M_validatePlain_86 (by decide) (fun c86 => ?_) (fun c86 => ?_)
  · have h := ite_f c86 h
    exact w_M_validatePlain_112 C hQ x1 x2 x3 s H locs ls hX hl h
  · have h := ite_t c86 h
    refine lv_iload_n hx hb d_M_validatePlain_89 rfl (lv_at hl 3 rfl) ?_
    refine lv_bipush (v := 36) hx hb d_M_validatePlain_90 (by decide) ?_
    refine lv_icmp_ne (tgt := 112) hx hb d_M_validatePlain_92 (by decide) (fun c92 => ?_) (fun c92 => ?_)
    · have h := ite_f c92 h
      exact w_M_validatePlain_112 C hQ x1 x2 x3 s H locs ls hX hl h
    · have h := ite_t c92 h
      refine lv_aload_n hx hb d_M_validatePlain_95 rfl (lv_at hl 0 rfl) ?_
      refine lv_aload_n hx hb d_M_validatePlain_96 rfl (lv_at hl 0 rfl) ?_
      refine gm_changes C hX fl_M_23 d_M_validatePlain_97 ?_
      refine lv_aload_n hx hb d_M_validatePlain_100 rfl (lv_at hl 0 rfl) ?_
      refine gm_first C hX fl_M_54 d_M_validatePlain_101 ?_
      refine lv_iload_n hx hb d_M_validatePlain_104 rfl (lv_at hl 2 rfl) ?_
      obtain ⟨hz105, h⟩ := gi_e h
      obtain ⟨v1, ev1, h⟩ := lt1_e h
      refine alm_15 C hX hz105 d_M_validatePlain_105 ev1 ?_
      obtain ⟨v2, ev2, h⟩ := lt1_e h
      refine lv_l2i hx hb d_M_validatePlain_106 ev2.symm ?_
      obtain ⟨hz107, h⟩ := gi_e h
      obtain ⟨v3, ev3, h⟩ := lt1_e h
      refine alm_5 C hX hz107 d_M_validatePlain_107 ev3 ?_
      refine lv_iconst (v := 3) hx hb d_M_validatePlain_108 (by decide) ?_
      obtain ⟨s4, hc109, h⟩ := bd1_e h
      refine x_vV (As := [.int v3, .int 3]) (rest := []) C hX (c_M_will l g v3 3 s s4 hc109) (cw_M_158 C.1.2.2.2.2 C.2.2.2 ⟨by decide, by decide⟩) (x_rc C hX vg_0 rfl) rfl hl.1 rfl (lv_room (Nat.le_of_ble_eq_true rfl)) d_M_validatePlain_109 ⟨Nat.le_refl _, Nat.le_refl _⟩ (fun H locs hX => ?_)
      exact w_M_validatePlain_112 C hQ x1 x2 x3 s4 H locs ls hX hl h
set_option maxHeartbeats 4000000 in
set_option maxRecDepth 100000 in
theorem w_M_validatePlain_78 {z : SM} (C : Cx g A p m c b_M_validatePlain 4 ss args R_M) (hQ : ∀ (pc : Nat) (H : Heap) (locs : List Loc) (ls : Array Slot), XW g A ss (wM g z) H locs → decode b_M_validatePlain pc = .ok (.return_, 1) → W p l e (rmX 2 44) ss m args below meth c H locs 0 0 Q (F0 m pc ls [])) : ∀ (x1 : Int32) (x2 : Int32) (x3 : Int32) (y1 : Int32) (s : SM) (H : Heap) (locs : List Loc) (ls : Array Slot), XW g A ss (wM g s) H locs → lv_has ls 4 [(0, .ref (g.q 60)), (1, .int x1), (2, .int x2), (3, .int x3)] → f_M_validatePlain_78 x1 x2 x3 y1 s = some z → W p l e (rmX 2 44) ss m args below meth c H locs 0 0 Q (F0 m 78 ls [.int y1, .ref (g.q 60)]) := by
  have ⟨⟨hx, hb, hml, hown, hts⟩, hK, hA, hN⟩ := C
  intro x1 x2 x3 y1 s H locs ls hX hl h
  rw [f_M_validatePlain_78] at h
  refine lv_iconst (v := 3) hx hb d_M_validatePlain_78 (by decide) ?_
  obtain ⟨s1, hc79, h⟩ := bd1_e h
  refine x_vV (As := [.int y1, .int 3]) (rest := []) C hX (c_M_will l g y1 3 s s1 hc79) (cw_M_158 C.1.2.2.2.2 C.2.2.2 ⟨by decide, by decide⟩) (x_rc C hX vg_0 rfl) rfl hl.1 rfl (lv_room (Nat.le_of_ble_eq_true rfl)) d_M_validatePlain_79 ⟨Nat.le_refl _, Nat.le_refl _⟩ (fun H locs hX => ?_)
  exact w_M_validatePlain_82 C hQ x1 x2 x3 s1 H locs ls hX hl h
set_option maxHeartbeats 4000000 in
set_option maxRecDepth 100000 in
theorem w_M_validatePlain_57 {z : SM} (C : Cx g A p m c b_M_validatePlain 4 ss args R_M) (hQ : ∀ (pc : Nat) (H : Heap) (locs : List Loc) (ls : Array Slot), XW g A ss (wM g z) H locs → decode b_M_validatePlain pc = .ok (.return_, 1) → W p l e (rmX 2 44) ss m args below meth c H locs 0 0 Q (F0 m pc ls [])) : ∀ (x1 : Int32) (x2 : Int32) (x3 : Int32) (s : SM) (H : Heap) (locs : List Loc) (ls : Array Slot), XW g A ss (wM g s) H locs → lv_has ls 4 [(0, .ref (g.q 60)), (1, .int x1), (2, .int x2), (3, .int x3)] → f_M_validatePlain_57 x1 x2 x3 s = some z → W p l e (rmX 2 44) ss m args below meth c H locs 0 0 Q (F0 m 57 ls []) := by
  have ⟨⟨hx, hb, hml, hown, hts⟩, hK, hA, hN⟩ := C
  intro x1 x2 x3 s H locs ls hX hl h
  rw [f_M_validatePlain_57] at h
  refine lv_aload_n hx hb d_M_validatePlain_57 rfl (lv_at hl 0 rfl) ?_
  refine lv_aload_n hx hb d_M_validatePlain_58 rfl (lv_at hl 0 rfl) ?_
  refine gm_first C hX fl_M_54 d_M_validatePlain_59 ?_
  refine lv_iload_n hx hb d_M_validatePlain_62 rfl (lv_at hl 2 rfl) ?_
  obtain ⟨hz63, h⟩ := gi_e h
  obtain ⟨v1, ev1, h⟩ := lt1_e h
  refine alm_15 C hX hz63 d_M_validatePlain_63 ev1 ?_
  refine lv_aload_n hx hb d_M_validatePlain_64 rfl (lv_at hl 0 rfl) ?_
  refine gm_globals C hX fl_M_243 d_M_validatePlain_65 ?_
  obtain ⟨v2, ev2, h⟩ := lt1_e h
  refine lv_i2l hx hb d_M_validatePlain_68 ev2.symm ?_
  obtain ⟨v3, ev3, h⟩ := lt1_e h
  refine x_lcmp hx hb d_M_validatePlain_69 ev3 ?_
  refine lv_if_ge (tgt := 77) hx hb d_M_validatePlain_70 (by decide) (fun c70 => ?_) (fun c70 => ?_)
  · have h := ite_t c70 h
    refine lv_iconst (v := 0) hx hb d_M_validatePlain_77 (by decide) ?_
    exact w_M_validatePlain_78 C hQ x1 x2 x3 0 s H locs ls hX hl h
  · have h := ite_f c70 h
    refine lv_iconst (v := 1) hx hb d_M_validatePlain_73 (by decide) ?_
    refine lv_goto (tgt := 78) hx hb d_M_validatePlain_74 (by decide) ?_
    exact w_M_validatePlain_78 C hQ x1 x2 x3 1 s H locs ls hX hl h
set_option maxHeartbeats 4000000 in
set_option maxRecDepth 100000 in
theorem w_M_validatePlain_45 {z : SM} (C : Cx g A p m c b_M_validatePlain 4 ss args R_M) (hQ : ∀ (pc : Nat) (H : Heap) (locs : List Loc) (ls : Array Slot), XW g A ss (wM g z) H locs → decode b_M_validatePlain pc = .ok (.return_, 1) → W p l e (rmX 2 44) ss m args below meth c H locs 0 0 Q (F0 m pc ls [])) : ∀ (x1 : Int32) (x2 : Int32) (x3 : Int32) (s : SM) (H : Heap) (locs : List Loc) (ls : Array Slot), XW g A ss (wM g s) H locs → lv_has ls 4 [(0, .ref (g.q 60)), (1, .int x1), (2, .int x2), (3, .int x3)] → f_M_validatePlain_45 x1 x2 x3 s = some z → W p l e (rmX 2 44) ss m args below meth c H locs 0 0 Q (F0 m 45 ls []) := by
  have ⟨⟨hx, hb, hml, hown, hts⟩, hK, hA, hN⟩ := C
  intro x1 x2 x3 s H locs ls hX hl h
  rw [f_M_validatePlain_45] at h
  refine lv_iload_n hx hb d_M_validatePlain_45 rfl (lv_at hl 3 rfl) ?_
  refine lv_bipush (v := 35) hx hb d_M_validatePlain_46 (by decide) ?_
  refine lv_icmp_eq (tgt := 57) hx hb d_M_validatePlain_48 (by decide) (fun c48 => ?_) (fun c48 => ?_)
  · have h := ite_t c48 h
    exact w_M_validatePlain_57 C hQ x1 x2 x3 s H locs ls hX hl h
  · have h := ite_f c48 h
    refine lv_iload_n hx hb d_M_validatePlain_51 rfl (lv_at hl 3 rfl) ?_
    refine lv_bipush (v := 36) hx hb d_M_validatePlain_52 (by decide) ?_
    refine lv_icmp_ne (tgt := 82) hx hb d_M_validatePlain_54 (by decide) (fun c54 => ?_) (fun c54 => ?_)
    · have h := ite_f c54 h
      exact w_M_validatePlain_82 C hQ x1 x2 x3 s H locs ls hX hl h
    · have h := ite_t c54 h
      exact w_M_validatePlain_57 C hQ x1 x2 x3 s H locs ls hX hl h
set_option maxHeartbeats 4000000 in
set_option maxRecDepth 100000 in
theorem w_M_validatePlain_41 {z : SM} (C : Cx g A p m c b_M_validatePlain 4 ss args R_M) (hQ : ∀ (pc : Nat) (H : Heap) (locs : List Loc) (ls : Array Slot), XW g A ss (wM g z) H locs → decode b_M_validatePlain pc = .ok (.return_, 1) → W p l e (rmX 2 44) ss m args below meth c H locs 0 0 Q (F0 m pc ls [])) : ∀ (x1 : Int32) (x2 : Int32) (x3 : Int32) (y1 : Int32) (s : SM) (H : Heap) (locs : List Loc) (ls : Array Slot), XW g A ss (wM g s) H locs → lv_has ls 4 [(0, .ref (g.q 60)), (1, .int x1), (2, .int x2), (3, .int x3)] → f_M_validatePlain_41 x1 x2 x3 y1 s = some z → W p l e (rmX 2 44) ss m args below meth c H locs 0 0 Q (F0 m 41 ls [.int y1, .ref (g.q 60)]) := by
  have ⟨⟨hx, hb, hml, hown, hts⟩, hK, hA, hN⟩ := C
  intro x1 x2 x3 y1 s H locs ls hX hl h
  rw [f_M_validatePlain_41] at h
  refine lv_iconst (v := 3) hx hb d_M_validatePlain_41 (by decide) ?_
  obtain ⟨s1, hc42, h⟩ := bd1_e h
  refine x_vV (As := [.int y1, .int 3]) (rest := []) C hX (c_M_will l g y1 3 s s1 hc42) (cw_M_158 C.1.2.2.2.2 C.2.2.2 ⟨by decide, by decide⟩) (x_rc C hX vg_0 rfl) rfl hl.1 rfl (lv_room (Nat.le_of_ble_eq_true rfl)) d_M_validatePlain_42 ⟨Nat.le_refl _, Nat.le_refl _⟩ (fun H locs hX => ?_)
  exact w_M_validatePlain_45 C hQ x1 x2 x3 s1 H locs ls hX hl h
set_option maxHeartbeats 4000000 in
set_option maxRecDepth 100000 in
theorem w_M_validatePlain {z : SM} (C : Cx g A p m c b_M_validatePlain 4 ss args R_M) (hQ : ∀ (pc : Nat) (H : Heap) (locs : List Loc) (ls : Array Slot), XW g A ss (wM g z) H locs → decode b_M_validatePlain pc = .ok (.return_, 1) → W p l e (rmX 2 44) ss m args below meth c H locs 0 0 Q (F0 m pc ls [])) : ∀ (x1 : Int32) (x2 : Int32) (s : SM) (H : Heap) (locs : List Loc) (ls : Array Slot), XW g A ss (wM g s) H locs → lv_has ls 4 [(0, .ref (g.q 60)), (1, .int x1), (2, .int x2)] → f_M_validatePlain x1 x2 s = some z → W p l e (rmX 2 44) ss m args below meth c H locs 0 0 Q (F0 m 0 ls []) := by
  have ⟨⟨hx, hb, hml, hown, hts⟩, hK, hA, hN⟩ := C
  intro x1 x2 s H locs ls hX hl h
  rw [f_M_validatePlain] at h
  refine lv_aload_n hx hb d_M_validatePlain_0 rfl (lv_at hl 0 rfl) ?_
  refine gm_op C hX fl_M_51 d_M_validatePlain_1 ?_
  refine lv_iload_n hx hb d_M_validatePlain_4 rfl (lv_at hl 2 rfl) ?_
  obtain ⟨hz5, h⟩ := gi_e h
  obtain ⟨v1, ev1, h⟩ := lt1_e h
  refine alm_14 C hX hz5 d_M_validatePlain_5 ev1 ?_
  refine lv_istore_n (lv' := [(3, .int v1), (0, .ref (g.q 60)), (1, .int x1), (2, .int x2)]) hx hb d_M_validatePlain_6 rfl hl (by decide) rfl (fun ls hl => ?_)
  refine lv_iload_n hx hb d_M_validatePlain_7 rfl (lv_at hl 0 rfl) ?_
  refine lv_bipush (v := 31) hx hb d_M_validatePlain_8 (by decide) ?_
  refine lv_icmp_le (tgt := 45) hx hb d_M_validatePlain_10 (by decide) (fun c10 => ?_) (fun c10 => ?_)
  · have h := ite_t c10 h
    exact w_M_validatePlain_45 C hQ x1 x2 v1 s H locs ls hX (lv_sub hl [1, 2, 3, 0] rfl) h
  · have h := ite_f c10 h
    refine lv_iload_n hx hb d_M_validatePlain_13 rfl (lv_at hl 0 rfl) ?_
    refine lv_bipush (v := 35) hx hb d_M_validatePlain_14 (by decide) ?_
    refine lv_icmp_ge (tgt := 45) hx hb d_M_validatePlain_16 (by decide) (fun c16 => ?_) (fun c16 => ?_)
    · have h := ite_t c16 h
      exact w_M_validatePlain_45 C hQ x1 x2 v1 s H locs ls hX (lv_sub hl [1, 2, 3, 0] rfl) h
    · have h := ite_f c16 h
      refine lv_aload_n hx hb d_M_validatePlain_19 rfl (lv_at hl 1 rfl) ?_
      refine lv_aload_n hx hb d_M_validatePlain_20 rfl (lv_at hl 1 rfl) ?_
      refine gm_first C hX fl_M_54 d_M_validatePlain_21 ?_
      refine lv_iload_n hx hb d_M_validatePlain_24 rfl (lv_at hl 3 rfl) ?_
      obtain ⟨hz25, h⟩ := gi_e h
      obtain ⟨v2, ev2, h⟩ := lt1_e h
      refine alm_15 C hX hz25 d_M_validatePlain_25 ev2 ?_
      refine lv_aload_n hx hb d_M_validatePlain_26 rfl (lv_at hl 1 rfl) ?_
      refine lv_iload_n hx hb d_M_validatePlain_27 rfl (lv_at hl 2 rfl) ?_
      obtain ⟨r3, hc28, h⟩ := bd1_e h
      refine x_vI (As := [.int x1]) (rest := [.long v2, .ref (g.q 60)]) C hX (c_M_locals l g x1 s r3 hc28) (cw_M_322 C.1.2.2.2.2 C.2.2.2 ⟨by decide, by decide⟩) (x_rc C hX vg_0 rfl) rfl hl.1 rfl (lv_room (Nat.le_of_ble_eq_true rfl)) d_M_validatePlain_28 ⟨Nat.le_refl _, Nat.le_refl _⟩ (fun H locs hX => ?_)
      obtain ⟨v4, ev4, h⟩ := lt1_e h
      refine lv_i2l hx hb d_M_validatePlain_31 ev4.symm ?_
      obtain ⟨v5, ev5, h⟩ := lt1_e h
      refine x_lcmp hx hb d_M_validatePlain_32 ev5 ?_
      refine lv_if_ge (tgt := 40) hx hb d_M_validatePlain_33 (by decide) (fun c33 => ?_) (fun c33 => ?_)
      · have h := ite_t c33 h
        refine lv_iconst (v := 0) hx hb d_M_validatePlain_40 (by decide) ?_
        exact w_M_validatePlain_41 C hQ x1 x2 v1 0 s H locs ls hX (lv_sub hl [1, 2, 3, 0] rfl) h
      · have h := ite_f c33 h
        refine lv_iconst (v := 1) hx hb d_M_validatePlain_36 (by decide) ?_
        refine lv_goto (tgt := 41) hx hb d_M_validatePlain_37 (by decide) ?_
        exact w_M_validatePlain_41 C hQ x1 x2 v1 1 s H locs ls hX (lv_sub hl [1, 2, 3, 0] rfl) h
end WALK
theorem c_M_validatePlain (l : Launch) (g : GX) (x1 : Int32) (x2 : Int32) (s : SM) (z : SM) (h : f_M_validatePlain x1 x2 s = some z) : MV l g y_M_validatePlain b_M_validatePlain 4 none 2 44 [.ref (g.q 60), .int x1, .int x2] (wM g s) (wM g z) :=
  MV.mk (own := R_M) (by decide) rfl (Nat.le_of_ble_eq_true rfl) fun p e ss m below meth c A Q C hQ ls hX hl => w_M_validatePlain C hQ x1 x2 s _ _ ls hX hl h
-- M_validateBlock
def f_M_validateBlock_241 (x1 : Int32) (x2 : Int32) (x3 : Int32) (s : SM) : Option SM :=
    some s
def f_M_validateBlock_231 (x1 : Int32) (x2 : Int32) (x3 : Int32) (x4 : Int32) (x5 : Int32) (y1 : Int32) (y2 : Int32) (s : SM) : Option SM :=
    lt1 (y1 - y2) fun v1 =>
    lt1 (stI s 0 16 v1) fun s2 =>
    bd1 (f_M_push x5 s2) fun s3 =>
    f_M_validateBlock_241 x1 x2 x3 s3
def f_M_validateBlock_195 (x1 : Int32) (x2 : Int32) (x3 : Int32) (x4 : Int32) (x5 : Int32) (y1 : Int32) (s : SM) : Option SM :=
    bd1 (f_M_will y1 3 s) fun s1 =>
    if x3 = 5 then
      gi (s1.1 0 16) 16 <|
      bz 0 <|
      lt1 (stI s1 28 (Int32.toNatClampNeg (s1.1 0 16)) 0) fun s2 =>
      some s2
    else
      if x4 = (-1) then
        f_M_validateBlock_231 x1 x2 x3 x4 x5 (s1.1 0 16) 0 s1
      else
        f_M_validateBlock_231 x1 x2 x3 x4 x5 (s1.1 0 16) 1 s1
def f_M_validateBlock_190 (x1 : Int32) (x2 : Int32) (x3 : Int32) (x4 : Int32) (x5 : Int32) (s : SM) : Option SM :=
    f_M_validateBlock_195 x1 x2 x3 x4 x5 1 s
def f_M_validateBlock_147 (x1 : Int32) (x2 : Int32) (x3 : Int32) (x4 : Int32) (x5 : Int32) (y1 : Int32) (s : SM) : Option SM :=
    bd1 (f_M_will y1 3 s) fun s1 =>
    if x3 = 5 then
      f_M_validateBlock_190 x1 x2 x3 x4 x5 s1
    else
      if x4 = (-1) then
        f_M_validateBlock_190 x1 x2 x3 x4 x5 s1
      else
        gi x4 250 <|
        lt1 (s1.1 14 (Int32.toNatClampNeg x4)) fun v2 =>
        if v2 = 4 then
          gi x4 250 <|
          lt1 (s1.1 19 (Int32.toNatClampNeg x4)) fun v3 =>
          if v3 = (-1) then
            if x5 = 0 then
              f_M_validateBlock_190 x1 x2 x3 x4 x5 s1
            else
              f_M_validateBlock_195 x1 x2 x3 x4 x5 0 s1
          else
            f_M_validateBlock_190 x1 x2 x3 x4 x5 s1
        else
          f_M_validateBlock_190 x1 x2 x3 x4 x5 s1
def f_M_validateBlock_99 (x1 : Int32) (x2 : Int32) (x3 : Int32) (s : SM) : Option SM :=
    gi (s.1 0 16) 16 <|
    lt1 (s.1 26 (Int32.toNatClampNeg (s.1 0 16))) fun v1 =>
    bd1 (f_M_arity s x1 v1) fun r2 =>
    bd1 (f_M_pop r2 s) fun s3 =>
    gi (s3.1 0 16) 16 <|
    lt1 (s3.1 27 (Int32.toNatClampNeg (s3.1 0 16))) fun v4 =>
    if s3.1 0 17 = v4 then
      f_M_validateBlock_147 x1 x2 x3 v1 r2 1 s3
    else
      f_M_validateBlock_147 x1 x2 x3 v1 r2 0 s3
def f_M_validateBlock_88 (x1 : Int32) (x2 : Int32) (x3 : Int32) (s : SM) : Option SM :=
    if x3 = 5 then
      f_M_validateBlock_99 x1 x2 x3 s
    else
      if x3 = 11 then
        f_M_validateBlock_99 x1 x2 x3 s
      else
        f_M_validateBlock_241 x1 x2 x3 s
def f_M_validateBlock_39 (x1 : Int32) (x2 : Int32) (x3 : Int32) (y1 : Int32) (s : SM) : Option SM :=
    bd1 (f_M_pop y1 s) fun s1 =>
    lt1 (s1.1 0 16 + 1) fun v2 =>
    lt1 (stI s1 0 16 v2) fun s3 =>
    gi (s3.1 0 16) 16 <|
    lt1 (stI s3 26 (Int32.toNatClampNeg (s3.1 0 16)) x2) fun s4 =>
    gi (s4.1 0 16) 16 <|
    lt1 (stI s4 27 (Int32.toNatClampNeg (s4.1 0 16)) (s4.1 0 17)) fun s5 =>
    gi (s5.1 0 16) 16 <|
    bz 0 <|
    lt1 (stI s5 28 (Int32.toNatClampNeg (s5.1 0 16)) 0) fun s6 =>
    f_M_validateBlock_241 x1 x2 x3 s6
def f_M_validateBlock (x1 : Int32) (x2 : Int32) (s : SM) : Option SM :=
    gi x2 250 <|
    lt1 (s.1 14 (Int32.toNatClampNeg x2)) fun v1 =>
    if v1 = 0 then
      bd1 (f_M_kill s) fun s2 =>
      f_M_validateBlock_241 x1 x2 v1 s2
    else
      if v1 < 2 then
        f_M_validateBlock_88 x1 x2 v1 s
      else
        if 4 < v1 then
          f_M_validateBlock_88 x1 x2 v1 s
        else
          if v1 = 4 then
            f_M_validateBlock_39 x1 x2 v1 1 s
          else
            f_M_validateBlock_39 x1 x2 v1 0 s
section WALK
variable {p : Program} {l : Launch} {e : Env} {ss : State} {m : MethodId} {args : Array Value} {below : List Frame} {meth : Method} {c : Code} {Q : State → Prop} {g : GX} {A : Nat → Prop}
set_option maxHeartbeats 4000000 in
set_option maxRecDepth 100000 in
theorem w_M_validateBlock_241 {z : SM} (C : Cx g A p m c b_M_validateBlock 6 ss args R_M) (hQ : ∀ (pc : Nat) (H : Heap) (locs : List Loc) (ls : Array Slot), XW g A ss (wM g z) H locs → decode b_M_validateBlock pc = .ok (.return_, 1) → W p l e (rmX 2 44) ss m args below meth c H locs 0 0 Q (F0 m pc ls [])) : ∀ (x1 : Int32) (x2 : Int32) (x3 : Int32) (s : SM) (H : Heap) (locs : List Loc) (ls : Array Slot), XW g A ss (wM g s) H locs → lv_has ls 6 [(0, .ref (g.q 60)), (1, .int x1), (2, .int x2), (3, .int x3)] → f_M_validateBlock_241 x1 x2 x3 s = some z → W p l e (rmX 2 44) ss m args below meth c H locs 0 0 Q (F0 m 241 ls []) := by
  have ⟨⟨hx, hb, hml, hown, hts⟩, hK, hA, hN⟩ := C
  intro x1 x2 x3 s H locs ls hX hl h
  rw [f_M_validateBlock_241] at h
  obtain rfl := so1 h
  exact hQ _ H locs ls hX d_M_validateBlock_241
set_option maxHeartbeats 4000000 in
set_option maxRecDepth 100000 in
theorem w_M_validateBlock_231 {z : SM} (C : Cx g A p m c b_M_validateBlock 6 ss args R_M) (hQ : ∀ (pc : Nat) (H : Heap) (locs : List Loc) (ls : Array Slot), XW g A ss (wM g z) H locs → decode b_M_validateBlock pc = .ok (.return_, 1) → W p l e (rmX 2 44) ss m args below meth c H locs 0 0 Q (F0 m pc ls [])) : ∀ (x1 : Int32) (x2 : Int32) (x3 : Int32) (x4 : Int32) (x5 : Int32) (y1 : Int32) (y2 : Int32) (s : SM) (H : Heap) (locs : List Loc) (ls : Array Slot), XW g A ss (wM g s) H locs → lv_has ls 6 [(0, .ref (g.q 60)), (1, .int x1), (2, .int x2), (3, .int x3), (4, .int x4), (5, .int x5)] → f_M_validateBlock_231 x1 x2 x3 x4 x5 y1 y2 s = some z → W p l e (rmX 2 44) ss m args below meth c H locs 0 0 Q (F0 m 231 ls [.int y2, .int y1, .ref (g.q 60)]) := by
  have ⟨⟨hx, hb, hml, hown, hts⟩, hK, hA, hN⟩ := C
  intro x1 x2 x3 x4 x5 y1 y2 s H locs ls hX hl h
  rw [f_M_validateBlock_231] at h
  obtain ⟨v1, ev1, h⟩ := lt1_e h
  refine x_isub hx hb d_M_validateBlock_231 ev1 ?_
  obtain ⟨s2, es2, h⟩ := lt1_e h
  refine pm_deep C hX fl_M_289 d_M_validateBlock_232 (fun H locs hX => ?_)
  rw [← es2] at hX
  refine lv_aload_n hx hb d_M_validateBlock_235 rfl (lv_at hl 0 rfl) ?_
  refine lv_iload hx hb d_M_validateBlock_236 (lv_at hl 5 rfl) ?_
  obtain ⟨s3, hc238, h⟩ := bd1_e h
  refine x_vV (As := [.int x5]) (rest := []) C hX (c_M_push l g x5 s2 s3 hc238) (cw_M_315 C.1.2.2.2.2 C.2.2.2 ⟨by decide, by decide⟩) (x_rc C hX vg_0 rfl) rfl hl.1 rfl (lv_room (Nat.le_of_ble_eq_true rfl)) d_M_validateBlock_238 ⟨Nat.le_refl _, Nat.le_refl _⟩ (fun H locs hX => ?_)
  exact w_M_validateBlock_241 C hQ x1 x2 x3 s3 H locs ls hX (lv_sub hl [0, 1, 2, 3] rfl) h
set_option maxHeartbeats 4000000 in
set_option maxRecDepth 100000 in
theorem w_M_validateBlock_195 {z : SM} (C : Cx g A p m c b_M_validateBlock 6 ss args R_M) (hQ : ∀ (pc : Nat) (H : Heap) (locs : List Loc) (ls : Array Slot), XW g A ss (wM g z) H locs → decode b_M_validateBlock pc = .ok (.return_, 1) → W p l e (rmX 2 44) ss m args below meth c H locs 0 0 Q (F0 m pc ls [])) : ∀ (x1 : Int32) (x2 : Int32) (x3 : Int32) (x4 : Int32) (x5 : Int32) (y1 : Int32) (s : SM) (H : Heap) (locs : List Loc) (ls : Array Slot), XW g A ss (wM g s) H locs → lv_has ls 6 [(0, .ref (g.q 60)), (1, .int x1), (2, .int x2), (3, .int x3), (4, .int x4), (5, .int x5)] → f_M_validateBlock_195 x1 x2 x3 x4 x5 y1 s = some z → W p l e (rmX 2 44) ss m args below meth c H locs 0 0 Q (F0 m 195 ls [.int y1, .ref (g.q 60)]) := by
  have ⟨⟨hx, hb, hml, hown, hts⟩, hK, hA, hN⟩ := C
  intro x1 x2 x3 x4 x5 y1 s H locs ls hX hl h
  rw [f_M_validateBlock_195] at h
  refine lv_iconst (v := 3) hx hb d_M_validateBlock_195 (by decide) ?_
  obtain ⟨s1, hc196, h⟩ := bd1_e h
  refine x_vV (As := [.int y1, .int 3]) (rest := []) C hX (c_M_will l g y1 3 s s1 hc196) (cw_M_158 C.1.2.2.2.2 C.2.2.2 ⟨by decide, by decide⟩) (x_rc C hX vg_0 rfl) rfl hl.1 rfl (lv_room (Nat.le_of_ble_eq_true rfl)) d_M_validateBlock_196 ⟨Nat.le_refl _, Nat.le_refl _⟩ (fun H locs hX => ?_)
  refine lv_iload_n hx hb d_M_validateBlock_199 rfl (lv_at hl 3 rfl) ?_
  refine lv_iconst (v := 5) hx hb d_M_validateBlock_200 (by decide) ?_
  refine lv_icmp_ne (tgt := 215) hx hb d_M_validateBlock_201 (by decide) (fun c201 => ?_) (fun c201 => ?_)
  · have h := ite_f c201 h
    refine lv_aload_n hx hb d_M_validateBlock_215 rfl (lv_at hl 0 rfl) ?_
    refine lv_dup hx hb d_M_validateBlock_216 rfl ?_
    refine gm_deep C hX fl_M_289 d_M_validateBlock_217 ?_
    refine lv_iload hx hb d_M_validateBlock_220 (lv_at hl 4 rfl) ?_
    refine lv_iconst (v := (-1)) hx hb d_M_validateBlock_222 (by decide) ?_
    refine lv_icmp_ne (tgt := 230) hx hb d_M_validateBlock_223 (by decide) (fun c223 => ?_) (fun c223 => ?_)
    · have h := ite_f c223 h
      refine lv_iconst (v := 1) hx hb d_M_validateBlock_230 (by decide) ?_
      exact w_M_validateBlock_231 C hQ x1 x2 x3 x4 x5 (s1.1 0 16) 1 s1 H locs ls hX hl h
    · have h := ite_t c223 h
      refine lv_iconst (v := 0) hx hb d_M_validateBlock_226 (by decide) ?_
      refine lv_goto (tgt := 231) hx hb d_M_validateBlock_227 (by decide) ?_
      exact w_M_validateBlock_231 C hQ x1 x2 x3 x4 x5 (s1.1 0 16) 0 s1 H locs ls hX hl h
  · have h := ite_t c201 h
    refine lv_aload_n hx hb d_M_validateBlock_204 rfl (lv_at hl 0 rfl) ?_
    refine gm_dead C hX fl_M_93 d_M_validateBlock_205 ?_
    refine lv_aload_n hx hb d_M_validateBlock_208 rfl (lv_at hl 0 rfl) ?_
    refine gm_deep C hX fl_M_289 d_M_validateBlock_209 ?_
    refine lv_iconst (v := 0) hx hb d_M_validateBlock_212 (by decide) ?_
    obtain ⟨hz213, h⟩ := gi_e h
    obtain ⟨hb213, h⟩ := bz_e h
    obtain ⟨s2, es2, h⟩ := lt1_e h
    refine asm_28 C hX hz213 hb213 d_M_validateBlock_213 (fun H locs hX => ?_)
    rw [← es2] at hX
    obtain rfl := so1 h
    exact hQ _ H locs ls hX d_M_validateBlock_214
set_option maxHeartbeats 4000000 in
set_option maxRecDepth 100000 in
theorem w_M_validateBlock_190 {z : SM} (C : Cx g A p m c b_M_validateBlock 6 ss args R_M) (hQ : ∀ (pc : Nat) (H : Heap) (locs : List Loc) (ls : Array Slot), XW g A ss (wM g z) H locs → decode b_M_validateBlock pc = .ok (.return_, 1) → W p l e (rmX 2 44) ss m args below meth c H locs 0 0 Q (F0 m pc ls [])) : ∀ (x1 : Int32) (x2 : Int32) (x3 : Int32) (x4 : Int32) (x5 : Int32) (s : SM) (H : Heap) (locs : List Loc) (ls : Array Slot), XW g A ss (wM g s) H locs → lv_has ls 6 [(0, .ref (g.q 60)), (1, .int x1), (2, .int x2), (3, .int x3), (4, .int x4), (5, .int x5)] → f_M_validateBlock_190 x1 x2 x3 x4 x5 s = some z → W p l e (rmX 2 44) ss m args below meth c H locs 0 0 Q (F0 m 190 ls [.ref (g.q 60)]) := by
  have ⟨⟨hx, hb, hml, hown, hts⟩, hK, hA, hN⟩ := C
  intro x1 x2 x3 x4 x5 s H locs ls hX hl h
  rw [f_M_validateBlock_190] at h
  refine lv_iconst (v := 1) hx hb d_M_validateBlock_190 (by decide) ?_
  refine lv_goto (tgt := 195) hx hb d_M_validateBlock_191 (by decide) ?_
  exact w_M_validateBlock_195 C hQ x1 x2 x3 x4 x5 1 s H locs ls hX hl h
set_option maxHeartbeats 4000000 in
set_option maxRecDepth 100000 in
theorem w_M_validateBlock_147 {z : SM} (C : Cx g A p m c b_M_validateBlock 6 ss args R_M) (hQ : ∀ (pc : Nat) (H : Heap) (locs : List Loc) (ls : Array Slot), XW g A ss (wM g z) H locs → decode b_M_validateBlock pc = .ok (.return_, 1) → W p l e (rmX 2 44) ss m args below meth c H locs 0 0 Q (F0 m pc ls [])) : ∀ (x1 : Int32) (x2 : Int32) (x3 : Int32) (x4 : Int32) (x5 : Int32) (y1 : Int32) (s : SM) (H : Heap) (locs : List Loc) (ls : Array Slot), XW g A ss (wM g s) H locs → lv_has ls 6 [(0, .ref (g.q 60)), (1, .int x1), (2, .int x2), (3, .int x3), (4, .int x4), (5, .int x5)] → f_M_validateBlock_147 x1 x2 x3 x4 x5 y1 s = some z → W p l e (rmX 2 44) ss m args below meth c H locs 0 0 Q (F0 m 147 ls [.int y1, .ref (g.q 60)]) := by
  have ⟨⟨hx, hb, hml, hown, hts⟩, hK, hA, hN⟩ := C
  intro x1 x2 x3 x4 x5 y1 s H locs ls hX hl h
  rw [f_M_validateBlock_147] at h
  refine lv_iconst (v := 3) hx hb d_M_validateBlock_147 (by decide) ?_
  obtain ⟨s1, hc148, h⟩ := bd1_e h
  refine x_vV (As := [.int y1, .int 3]) (rest := []) C hX (c_M_will l g y1 3 s s1 hc148) (cw_M_158 C.1.2.2.2.2 C.2.2.2 ⟨by decide, by decide⟩) (x_rc C hX vg_0 rfl) rfl hl.1 rfl (lv_room (Nat.le_of_ble_eq_true rfl)) d_M_validateBlock_148 ⟨Nat.le_refl _, Nat.le_refl _⟩ (fun H locs hX => ?_)
  refine lv_aload_n hx hb d_M_validateBlock_151 rfl (lv_at hl 0 rfl) ?_
  refine lv_iload_n hx hb d_M_validateBlock_152 rfl (lv_at hl 3 rfl) ?_
  refine lv_iconst (v := 5) hx hb d_M_validateBlock_153 (by decide) ?_
  refine lv_icmp_eq (tgt := 190) hx hb d_M_validateBlock_154 (by decide) (fun c154 => ?_) (fun c154 => ?_)
  · have h := ite_t c154 h
    exact w_M_validateBlock_190 C hQ x1 x2 x3 x4 x5 s1 H locs ls hX hl h
  · have h := ite_f c154 h
    refine lv_iload hx hb d_M_validateBlock_157 (lv_at hl 4 rfl) ?_
    refine lv_iconst (v := (-1)) hx hb d_M_validateBlock_159 (by decide) ?_
    refine lv_icmp_eq (tgt := 190) hx hb d_M_validateBlock_160 (by decide) (fun c160 => ?_) (fun c160 => ?_)
    · have h := ite_t c160 h
      exact w_M_validateBlock_190 C hQ x1 x2 x3 x4 x5 s1 H locs ls hX hl h
    · have h := ite_f c160 h
      refine lv_aload_n hx hb d_M_validateBlock_163 rfl (lv_at hl 0 rfl) ?_
      refine gm_op C hX fl_M_51 d_M_validateBlock_164 ?_
      refine lv_iload hx hb d_M_validateBlock_167 (lv_at hl 4 rfl) ?_
      obtain ⟨hz169, h⟩ := gi_e h
      obtain ⟨v2, ev2, h⟩ := lt1_e h
      refine alm_14 C hX hz169 d_M_validateBlock_169 ev2 ?_
      refine lv_iconst (v := 4) hx hb d_M_validateBlock_170 (by decide) ?_
      refine lv_icmp_ne (tgt := 190) hx hb d_M_validateBlock_171 (by decide) (fun c171 => ?_) (fun c171 => ?_)
      · have h := ite_f c171 h
        exact w_M_validateBlock_190 C hQ x1 x2 x3 x4 x5 s1 H locs ls hX hl h
      · have h := ite_t c171 h
        refine lv_aload_n hx hb d_M_validateBlock_174 rfl (lv_at hl 0 rfl) ?_
        refine gm_elseAt C hX fl_M_66 d_M_validateBlock_175 ?_
        refine lv_iload hx hb d_M_validateBlock_178 (lv_at hl 4 rfl) ?_
        obtain ⟨hz180, h⟩ := gi_e h
        obtain ⟨v3, ev3, h⟩ := lt1_e h
        refine alm_19 C hX hz180 d_M_validateBlock_180 ev3 ?_
        refine lv_iconst (v := (-1)) hx hb d_M_validateBlock_181 (by decide) ?_
        refine lv_icmp_ne (tgt := 190) hx hb d_M_validateBlock_182 (by decide) (fun c182 => ?_) (fun c182 => ?_)
        · have h := ite_f c182 h
          exact w_M_validateBlock_190 C hQ x1 x2 x3 x4 x5 s1 H locs ls hX hl h
        · have h := ite_t c182 h
          refine lv_iload hx hb d_M_validateBlock_185 (lv_at hl 5 rfl) ?_
          refine lv_if_ne (tgt := 194) hx hb d_M_validateBlock_187 (by decide) (fun c187 => ?_) (fun c187 => ?_)
          · have h := ite_f c187 h
            refine lv_iconst (v := 0) hx hb d_M_validateBlock_194 (by decide) ?_
            exact w_M_validateBlock_195 C hQ x1 x2 x3 x4 x5 0 s1 H locs ls hX hl h
          · have h := ite_t c187 h
            exact w_M_validateBlock_190 C hQ x1 x2 x3 x4 x5 s1 H locs ls hX hl h
set_option maxHeartbeats 4000000 in
set_option maxRecDepth 100000 in
theorem w_M_validateBlock_99 {z : SM} (C : Cx g A p m c b_M_validateBlock 6 ss args R_M) (hQ : ∀ (pc : Nat) (H : Heap) (locs : List Loc) (ls : Array Slot), XW g A ss (wM g z) H locs → decode b_M_validateBlock pc = .ok (.return_, 1) → W p l e (rmX 2 44) ss m args below meth c H locs 0 0 Q (F0 m pc ls [])) : ∀ (x1 : Int32) (x2 : Int32) (x3 : Int32) (s : SM) (H : Heap) (locs : List Loc) (ls : Array Slot), XW g A ss (wM g s) H locs → lv_has ls 6 [(0, .ref (g.q 60)), (1, .int x1), (2, .int x2), (3, .int x3)] → f_M_validateBlock_99 x1 x2 x3 s = some z → W p l e (rmX 2 44) ss m args below meth c H locs 0 0 Q (F0 m 99 ls []) := by
  have ⟨⟨hx, hb, hml, hown, hts⟩, hK, hA, hN⟩ := C
  intro x1 x2 x3 s H locs ls hX hl h
  rw [f_M_validateBlock_99] at h
  refine lv_aload_n hx hb d_M_validateBlock_99 rfl (lv_at hl 0 rfl) ?_
  refine gm_open C hX fl_M_87 d_M_validateBlock_100 ?_
  refine lv_aload_n hx hb d_M_validateBlock_103 rfl (lv_at hl 0 rfl) ?_
  refine gm_deep C hX fl_M_289 d_M_validateBlock_104 ?_
  obtain ⟨hz107, h⟩ := gi_e h
  obtain ⟨v1, ev1, h⟩ := lt1_e h
  refine alm_26 C hX hz107 d_M_validateBlock_107 ev1 ?_
  refine lv_istore (lv' := [(4, .int v1), (0, .ref (g.q 60)), (1, .int x1), (2, .int x2), (3, .int x3)]) hx hb d_M_validateBlock_108 hl (by decide) rfl (fun ls hl => ?_)
  refine lv_aload_n hx hb d_M_validateBlock_110 rfl (lv_at hl 1 rfl) ?_
  refine lv_iload_n hx hb d_M_validateBlock_111 rfl (lv_at hl 2 rfl) ?_
  refine lv_iload hx hb d_M_validateBlock_112 (lv_at hl 0 rfl) ?_
  obtain ⟨r2, hc114, h⟩ := bd1_e h
  refine x_vI (As := [.int x1, .int v1]) (rest := []) C hX (c_M_arity l g x1 v1 s r2 hc114) (cw_M_295 C.1.2.2.2.2 C.2.2.2 ⟨by decide, by decide⟩) (x_rc C hX vg_0 rfl) rfl hl.1 rfl (lv_room (Nat.le_of_ble_eq_true rfl)) d_M_validateBlock_114 ⟨Nat.le_refl _, Nat.le_refl _⟩ (fun H locs hX => ?_)
  refine lv_istore (lv' := [(5, .int r2), (4, .int v1), (0, .ref (g.q 60)), (1, .int x1), (2, .int x2), (3, .int x3)]) hx hb d_M_validateBlock_117 hl (by decide) rfl (fun ls hl => ?_)
  refine lv_aload_n hx hb d_M_validateBlock_119 rfl (lv_at hl 2 rfl) ?_
  refine lv_iload hx hb d_M_validateBlock_120 (lv_at hl 0 rfl) ?_
  obtain ⟨s3, hc122, h⟩ := bd1_e h
  refine x_vV (As := [.int r2]) (rest := []) C hX (c_M_pop l g r2 s s3 hc122) (cw_M_312 C.1.2.2.2.2 C.2.2.2 ⟨by decide, by decide⟩) (x_rc C hX vg_0 rfl) rfl hl.1 rfl (lv_room (Nat.le_of_ble_eq_true rfl)) d_M_validateBlock_122 ⟨Nat.le_refl _, Nat.le_refl _⟩ (fun H locs hX => ?_)
  refine lv_aload_n hx hb d_M_validateBlock_125 rfl (lv_at hl 2 rfl) ?_
  refine lv_aload_n hx hb d_M_validateBlock_126 rfl (lv_at hl 2 rfl) ?_
  refine gm_top C hX fl_M_286 d_M_validateBlock_127 ?_
  refine lv_aload_n hx hb d_M_validateBlock_130 rfl (lv_at hl 2 rfl) ?_
  refine gm_base C hX fl_M_90 d_M_validateBlock_131 ?_
  refine lv_aload_n hx hb d_M_validateBlock_134 rfl (lv_at hl 2 rfl) ?_
  refine gm_deep C hX fl_M_289 d_M_validateBlock_135 ?_
  obtain ⟨hz138, h⟩ := gi_e h
  obtain ⟨v4, ev4, h⟩ := lt1_e h
  refine alm_27 C hX hz138 d_M_validateBlock_138 ev4 ?_
  refine lv_icmp_ne (tgt := 146) hx hb d_M_validateBlock_139 (by decide) (fun c139 => ?_) (fun c139 => ?_)
  · have h := ite_f c139 h
    refine lv_iconst (v := 0) hx hb d_M_validateBlock_146 (by decide) ?_
    exact w_M_validateBlock_147 C hQ x1 x2 x3 v1 r2 0 s3 H locs ls hX (lv_sub hl [2, 3, 4, 5, 1, 0] rfl) h
  · have h := ite_t c139 h
    refine lv_iconst (v := 1) hx hb d_M_validateBlock_142 (by decide) ?_
    refine lv_goto (tgt := 147) hx hb d_M_validateBlock_143 (by decide) ?_
    exact w_M_validateBlock_147 C hQ x1 x2 x3 v1 r2 1 s3 H locs ls hX (lv_sub hl [2, 3, 4, 5, 1, 0] rfl) h
set_option maxHeartbeats 4000000 in
set_option maxRecDepth 100000 in
theorem w_M_validateBlock_88 {z : SM} (C : Cx g A p m c b_M_validateBlock 6 ss args R_M) (hQ : ∀ (pc : Nat) (H : Heap) (locs : List Loc) (ls : Array Slot), XW g A ss (wM g z) H locs → decode b_M_validateBlock pc = .ok (.return_, 1) → W p l e (rmX 2 44) ss m args below meth c H locs 0 0 Q (F0 m pc ls [])) : ∀ (x1 : Int32) (x2 : Int32) (x3 : Int32) (s : SM) (H : Heap) (locs : List Loc) (ls : Array Slot), XW g A ss (wM g s) H locs → lv_has ls 6 [(0, .ref (g.q 60)), (1, .int x1), (2, .int x2), (3, .int x3)] → f_M_validateBlock_88 x1 x2 x3 s = some z → W p l e (rmX 2 44) ss m args below meth c H locs 0 0 Q (F0 m 88 ls []) := by
  have ⟨⟨hx, hb, hml, hown, hts⟩, hK, hA, hN⟩ := C
  intro x1 x2 x3 s H locs ls hX hl h
  rw [f_M_validateBlock_88] at h
  refine lv_iload_n hx hb d_M_validateBlock_88 rfl (lv_at hl 3 rfl) ?_
  refine lv_iconst (v := 5) hx hb d_M_validateBlock_89 (by decide) ?_
  refine lv_icmp_eq (tgt := 99) hx hb d_M_validateBlock_90 (by decide) (fun c90 => ?_) (fun c90 => ?_)
  · have h := ite_t c90 h
    exact w_M_validateBlock_99 C hQ x1 x2 x3 s H locs ls hX hl h
  · have h := ite_f c90 h
    refine lv_iload_n hx hb d_M_validateBlock_93 rfl (lv_at hl 3 rfl) ?_
    refine lv_bipush (v := 11) hx hb d_M_validateBlock_94 (by decide) ?_
    refine lv_icmp_ne (tgt := 241) hx hb d_M_validateBlock_96 (by decide) (fun c96 => ?_) (fun c96 => ?_)
    · have h := ite_f c96 h
      exact w_M_validateBlock_241 C hQ x1 x2 x3 s H locs ls hX hl h
    · have h := ite_t c96 h
      exact w_M_validateBlock_99 C hQ x1 x2 x3 s H locs ls hX hl h
set_option maxHeartbeats 4000000 in
set_option maxRecDepth 100000 in
theorem w_M_validateBlock_39 {z : SM} (C : Cx g A p m c b_M_validateBlock 6 ss args R_M) (hQ : ∀ (pc : Nat) (H : Heap) (locs : List Loc) (ls : Array Slot), XW g A ss (wM g z) H locs → decode b_M_validateBlock pc = .ok (.return_, 1) → W p l e (rmX 2 44) ss m args below meth c H locs 0 0 Q (F0 m pc ls [])) : ∀ (x1 : Int32) (x2 : Int32) (x3 : Int32) (y1 : Int32) (s : SM) (H : Heap) (locs : List Loc) (ls : Array Slot), XW g A ss (wM g s) H locs → lv_has ls 6 [(0, .ref (g.q 60)), (1, .int x1), (2, .int x2), (3, .int x3)] → f_M_validateBlock_39 x1 x2 x3 y1 s = some z → W p l e (rmX 2 44) ss m args below meth c H locs 0 0 Q (F0 m 39 ls [.int y1, .ref (g.q 60)]) := by
  have ⟨⟨hx, hb, hml, hown, hts⟩, hK, hA, hN⟩ := C
  intro x1 x2 x3 y1 s H locs ls hX hl h
  rw [f_M_validateBlock_39] at h
  obtain ⟨s1, hc39, h⟩ := bd1_e h
  refine x_vV (As := [.int y1]) (rest := []) C hX (c_M_pop l g y1 s s1 hc39) (cw_M_312 C.1.2.2.2.2 C.2.2.2 ⟨by decide, by decide⟩) (x_rc C hX vg_0 rfl) rfl hl.1 rfl (lv_room (Nat.le_of_ble_eq_true rfl)) d_M_validateBlock_39 ⟨Nat.le_refl _, Nat.le_refl _⟩ (fun H locs hX => ?_)
  refine lv_aload_n hx hb d_M_validateBlock_42 rfl (lv_at hl 0 rfl) ?_
  refine lv_dup hx hb d_M_validateBlock_43 rfl ?_
  refine gm_deep C hX fl_M_289 d_M_validateBlock_44 ?_
  refine lv_iconst (v := 1) hx hb d_M_validateBlock_47 (by decide) ?_
  obtain ⟨v2, ev2, h⟩ := lt1_e h
  refine x_iadd hx hb d_M_validateBlock_48 ev2 ?_
  obtain ⟨s3, es3, h⟩ := lt1_e h
  refine pm_deep C hX fl_M_289 d_M_validateBlock_49 (fun H locs hX => ?_)
  rw [← es3] at hX
  refine lv_aload_n hx hb d_M_validateBlock_52 rfl (lv_at hl 0 rfl) ?_
  refine gm_open C hX fl_M_87 d_M_validateBlock_53 ?_
  refine lv_aload_n hx hb d_M_validateBlock_56 rfl (lv_at hl 0 rfl) ?_
  refine gm_deep C hX fl_M_289 d_M_validateBlock_57 ?_
  refine lv_iload_n hx hb d_M_validateBlock_60 rfl (lv_at hl 2 rfl) ?_
  obtain ⟨hz61, h⟩ := gi_e h
  obtain ⟨s4, es4, h⟩ := lt1_e h
  refine asm_26 C hX hz61 d_M_validateBlock_61 (fun H locs hX => ?_)
  rw [← es4] at hX
  refine lv_aload_n hx hb d_M_validateBlock_62 rfl (lv_at hl 0 rfl) ?_
  refine gm_base C hX fl_M_90 d_M_validateBlock_63 ?_
  refine lv_aload_n hx hb d_M_validateBlock_66 rfl (lv_at hl 0 rfl) ?_
  refine gm_deep C hX fl_M_289 d_M_validateBlock_67 ?_
  refine lv_aload_n hx hb d_M_validateBlock_70 rfl (lv_at hl 0 rfl) ?_
  refine gm_top C hX fl_M_286 d_M_validateBlock_71 ?_
  obtain ⟨hz74, h⟩ := gi_e h
  obtain ⟨s5, es5, h⟩ := lt1_e h
  refine asm_27 C hX hz74 d_M_validateBlock_74 (fun H locs hX => ?_)
  rw [← es5] at hX
  refine lv_aload_n hx hb d_M_validateBlock_75 rfl (lv_at hl 0 rfl) ?_
  refine gm_dead C hX fl_M_93 d_M_validateBlock_76 ?_
  refine lv_aload_n hx hb d_M_validateBlock_79 rfl (lv_at hl 0 rfl) ?_
  refine gm_deep C hX fl_M_289 d_M_validateBlock_80 ?_
  refine lv_iconst (v := 0) hx hb d_M_validateBlock_83 (by decide) ?_
  obtain ⟨hz84, h⟩ := gi_e h
  obtain ⟨hb84, h⟩ := bz_e h
  obtain ⟨s6, es6, h⟩ := lt1_e h
  refine asm_28 C hX hz84 hb84 d_M_validateBlock_84 (fun H locs hX => ?_)
  rw [← es6] at hX
  refine lv_goto (tgt := 241) hx hb d_M_validateBlock_85 (by decide) ?_
  exact w_M_validateBlock_241 C hQ x1 x2 x3 s6 H locs ls hX hl h
set_option maxHeartbeats 4000000 in
set_option maxRecDepth 100000 in
theorem w_M_validateBlock {z : SM} (C : Cx g A p m c b_M_validateBlock 6 ss args R_M) (hQ : ∀ (pc : Nat) (H : Heap) (locs : List Loc) (ls : Array Slot), XW g A ss (wM g z) H locs → decode b_M_validateBlock pc = .ok (.return_, 1) → W p l e (rmX 2 44) ss m args below meth c H locs 0 0 Q (F0 m pc ls [])) : ∀ (x1 : Int32) (x2 : Int32) (s : SM) (H : Heap) (locs : List Loc) (ls : Array Slot), XW g A ss (wM g s) H locs → lv_has ls 6 [(0, .ref (g.q 60)), (1, .int x1), (2, .int x2)] → f_M_validateBlock x1 x2 s = some z → W p l e (rmX 2 44) ss m args below meth c H locs 0 0 Q (F0 m 0 ls []) := by
  have ⟨⟨hx, hb, hml, hown, hts⟩, hK, hA, hN⟩ := C
  intro x1 x2 s H locs ls hX hl h
  rw [f_M_validateBlock] at h
  refine lv_aload_n hx hb d_M_validateBlock_0 rfl (lv_at hl 0 rfl) ?_
  refine gm_op C hX fl_M_51 d_M_validateBlock_1 ?_
  refine lv_iload_n hx hb d_M_validateBlock_4 rfl (lv_at hl 2 rfl) ?_
  obtain ⟨hz5, h⟩ := gi_e h
  obtain ⟨v1, ev1, h⟩ := lt1_e h
  refine alm_14 C hX hz5 d_M_validateBlock_5 ev1 ?_
  refine lv_istore_n (lv' := [(3, .int v1), (0, .ref (g.q 60)), (1, .int x1), (2, .int x2)]) hx hb d_M_validateBlock_6 rfl hl (by decide) rfl (fun ls hl => ?_)
  refine lv_iload_n hx hb d_M_validateBlock_7 rfl (lv_at hl 0 rfl) ?_
  refine lv_if_ne (tgt := 18) hx hb d_M_validateBlock_8 (by decide) (fun c8 => ?_) (fun c8 => ?_)
  · have h := ite_f c8 h
    refine lv_iload_n hx hb d_M_validateBlock_18 rfl (lv_at hl 0 rfl) ?_
    refine lv_iconst (v := 2) hx hb d_M_validateBlock_19 (by decide) ?_
    refine lv_icmp_lt (tgt := 88) hx hb d_M_validateBlock_20 (by decide) (fun c20 => ?_) (fun c20 => ?_)
    · have h := ite_t c20 h
      exact w_M_validateBlock_88 C hQ x1 x2 v1 s H locs ls hX (lv_sub hl [1, 2, 3, 0] rfl) h
    · have h := ite_f c20 h
      refine lv_iload_n hx hb d_M_validateBlock_23 rfl (lv_at hl 0 rfl) ?_
      refine lv_iconst (v := 4) hx hb d_M_validateBlock_24 (by decide) ?_
      refine lv_icmp_gt (tgt := 88) hx hb d_M_validateBlock_25 (by decide) (fun c25 => ?_) (fun c25 => ?_)
      · have h := ite_t c25 h
        exact w_M_validateBlock_88 C hQ x1 x2 v1 s H locs ls hX (lv_sub hl [1, 2, 3, 0] rfl) h
      · have h := ite_f c25 h
        refine lv_aload_n hx hb d_M_validateBlock_28 rfl (lv_at hl 1 rfl) ?_
        refine lv_iload_n hx hb d_M_validateBlock_29 rfl (lv_at hl 0 rfl) ?_
        refine lv_iconst (v := 4) hx hb d_M_validateBlock_30 (by decide) ?_
        refine lv_icmp_ne (tgt := 38) hx hb d_M_validateBlock_31 (by decide) (fun c31 => ?_) (fun c31 => ?_)
        · have h := ite_f c31 h
          refine lv_iconst (v := 0) hx hb d_M_validateBlock_38 (by decide) ?_
          exact w_M_validateBlock_39 C hQ x1 x2 v1 0 s H locs ls hX (lv_sub hl [1, 2, 3, 0] rfl) h
        · have h := ite_t c31 h
          refine lv_iconst (v := 1) hx hb d_M_validateBlock_34 (by decide) ?_
          refine lv_goto (tgt := 39) hx hb d_M_validateBlock_35 (by decide) ?_
          exact w_M_validateBlock_39 C hQ x1 x2 v1 1 s H locs ls hX (lv_sub hl [1, 2, 3, 0] rfl) h
  · have h := ite_t c8 h
    refine lv_aload_n hx hb d_M_validateBlock_11 rfl (lv_at hl 1 rfl) ?_
    obtain ⟨s2, hc12, h⟩ := bd1_e h
    refine x_vV (As := []) (rest := []) C hX (c_M_kill l g s s2 hc12) (cw_M_309 C.1.2.2.2.2 C.2.2.2 ⟨by decide, by decide⟩) (x_rc C hX vg_0 rfl) rfl hl.1 rfl (lv_room (Nat.le_of_ble_eq_true rfl)) d_M_validateBlock_12 ⟨Nat.le_refl _, Nat.le_refl _⟩ (fun H locs hX => ?_)
    refine lv_goto (tgt := 241) hx hb d_M_validateBlock_15 (by decide) ?_
    exact w_M_validateBlock_241 C hQ x1 x2 v1 s2 H locs ls hX (lv_sub hl [1, 2, 3, 0] rfl) h
end WALK
theorem c_M_validateBlock (l : Launch) (g : GX) (x1 : Int32) (x2 : Int32) (s : SM) (z : SM) (h : f_M_validateBlock x1 x2 s = some z) : MV l g y_M_validateBlock b_M_validateBlock 6 none 2 44 [.ref (g.q 60), .int x1, .int x2] (wM g s) (wM g z) :=
  MV.mk (own := R_M) (by decide) rfl (Nat.le_of_ble_eq_true rfl) fun p e ss m below meth c A Q C hQ ls hX hl => w_M_validateBlock C hQ x1 x2 s _ _ ls hX hl h
-- M_validateBody
def f_M_validateBody_120 (x1 : Int32) (x2 : Int32) (s : SM) : Option SM :=
    some s
def f_M_validateBody_114 (k38 : Int32 → Int32 → SM → Option SM) (x1 : Int32) (x2 : Int32) (x3 : Int32) (s : SM) : Option SM :=
    lt1 (x2 + (1)) fun v1 =>
    k38 x1 v1 s
def f_M_validateBody_84 (k38 : Int32 → Int32 → SM → Option SM) (x1 : Int32) (x2 : Int32) (x3 : Int32) (s : SM) : Option SM :=
    bd1 (f_M_validateBlock x1 x2 s) fun s1 =>
    f_M_validateBody_114 k38 x1 x2 x3 s1
def f_M_validateBody_38 : Nat → Int32 → Int32 → SM → Option SM
  | 0, _, _, _ => none
  | n + 1, x1, x2, s =>
    gi x1 8 <|
    lt1 (s.1 23 (Int32.toNatClampNeg x1)) fun v1 =>
    if v1 < x2 then
      f_M_validateBody_120 x1 x2 s
    else
      if s.1 0 5 = 0 then
        gi x2 250 <|
        lt1 (stI s 20 (Int32.toNatClampNeg x2) (s.1 0 17)) fun s2 =>
        gi x2 250 <|
        lt1 (s2.1 14 (Int32.toNatClampNeg x2)) fun v3 =>
        if v3 < 6 then
          f_M_validateBody_84 (f_M_validateBody_38 n) x1 x2 v3 s2
        else
          if v3 = 11 then
            f_M_validateBody_84 (f_M_validateBody_38 n) x1 x2 v3 s2
          else
            if 17 ≤ v3 then
              bd1 (f_M_validatePlain x1 x2 s2) fun s4 =>
              f_M_validateBody_114 (f_M_validateBody_38 n) x1 x2 v3 s4
            else
              bd1 (f_M_validateJump x1 x2 s2) fun s5 =>
              f_M_validateBody_114 (f_M_validateBody_38 n) x1 x2 v3 s5
      else
        f_M_validateBody_120 x1 x2 s
def f_M_validateBody (x1 : Int32) (s : SM) : Option SM :=
    lt1 (stI s 0 16 0) fun s1 =>
    lt1 (stI s1 0 17 0) fun s2 =>
    gi 0 16 <|
    lt1 (stI s2 26 (Int32.toNatClampNeg 0) ((-1))) fun s3 =>
    gi 0 16 <|
    lt1 (stI s3 27 (Int32.toNatClampNeg 0) 0) fun s4 =>
    gi 0 16 <|
    bz 0 <|
    lt1 (stI s4 28 (Int32.toNatClampNeg 0) 0) fun s5 =>
    gi x1 8 <|
    lt1 (s5.1 22 (Int32.toNatClampNeg x1)) fun v6 =>
    f_M_validateBody_38 FU x1 v6 s5
section WALK
variable {p : Program} {l : Launch} {e : Env} {ss : State} {m : MethodId} {args : Array Value} {below : List Frame} {meth : Method} {c : Code} {Q : State → Prop} {g : GX} {A : Nat → Prop}
set_option maxHeartbeats 4000000 in
set_option maxRecDepth 100000 in
theorem w_M_validateBody_120 {z : SM} (C : Cx g A p m c b_M_validateBody 4 ss args R_M) (hQ : ∀ (pc : Nat) (H : Heap) (locs : List Loc) (ls : Array Slot), XW g A ss (wM g z) H locs → decode b_M_validateBody pc = .ok (.return_, 1) → W p l e (rmX 4 94) ss m args below meth c H locs 0 0 Q (F0 m pc ls [])) : ∀ (x1 : Int32) (x2 : Int32) (s : SM) (H : Heap) (locs : List Loc) (ls : Array Slot), XW g A ss (wM g s) H locs → lv_has ls 4 [(0, .ref (g.q 60)), (1, .int x1), (2, .int x2)] → f_M_validateBody_120 x1 x2 s = some z → W p l e (rmX 4 94) ss m args below meth c H locs 0 0 Q (F0 m 120 ls []) := by
  have ⟨⟨hx, hb, hml, hown, hts⟩, hK, hA, hN⟩ := C
  intro x1 x2 s H locs ls hX hl h
  rw [f_M_validateBody_120] at h
  obtain rfl := so1 h
  exact hQ _ H locs ls hX d_M_validateBody_120
set_option maxHeartbeats 4000000 in
set_option maxRecDepth 100000 in
theorem w_M_validateBody_114 {z : SM} (C : Cx g A p m c b_M_validateBody 4 ss args R_M) (hQ : ∀ (pc : Nat) (H : Heap) (locs : List Loc) (ls : Array Slot), XW g A ss (wM g z) H locs → decode b_M_validateBody pc = .ok (.return_, 1) → W p l e (rmX 4 94) ss m args below meth c H locs 0 0 Q (F0 m pc ls [])) (k38 : Int32 → Int32 → SM → Option SM) (hk38 : ∀ (x1 : Int32) (x2 : Int32) (s : SM) (H : Heap) (locs : List Loc) (ls : Array Slot), XW g A ss (wM g s) H locs → lv_has ls 4 [(0, .ref (g.q 60)), (1, .int x1), (2, .int x2)] → k38 x1 x2 s = some z → W p l e (rmX 4 94) ss m args below meth c H locs 0 0 Q (F0 m 38 ls [])) : ∀ (x1 : Int32) (x2 : Int32) (x3 : Int32) (s : SM) (H : Heap) (locs : List Loc) (ls : Array Slot), XW g A ss (wM g s) H locs → lv_has ls 4 [(0, .ref (g.q 60)), (1, .int x1), (2, .int x2), (3, .int x3)] → f_M_validateBody_114 k38 x1 x2 x3 s = some z → W p l e (rmX 4 94) ss m args below meth c H locs 0 0 Q (F0 m 114 ls []) := by
  have ⟨⟨hx, hb, hml, hown, hts⟩, hK, hA, hN⟩ := C
  intro x1 x2 x3 s H locs ls hX hl h
  rw [f_M_validateBody_114] at h
  obtain ⟨v1, ev1, h⟩ := lt1_e h
  refine lv_iinc (v := v1) (lv' := [(2, .int v1), (0, .ref (g.q 60)), (1, .int x1), (3, .int x3)]) hx hb d_M_validateBody_114 hl (k := 2) rfl (by rw [ev1]; rfl) (by decide) rfl (fun ls hl => ?_)
  refine lv_goto (tgt := 38) hx hb d_M_validateBody_117 (by decide) ?_
  exact hk38 x1 v1 s H locs ls hX (lv_sub hl [1, 2, 0] rfl) h
set_option maxHeartbeats 4000000 in
set_option maxRecDepth 100000 in
theorem w_M_validateBody_84 {z : SM} (C : Cx g A p m c b_M_validateBody 4 ss args R_M) (hQ : ∀ (pc : Nat) (H : Heap) (locs : List Loc) (ls : Array Slot), XW g A ss (wM g z) H locs → decode b_M_validateBody pc = .ok (.return_, 1) → W p l e (rmX 4 94) ss m args below meth c H locs 0 0 Q (F0 m pc ls [])) (k38 : Int32 → Int32 → SM → Option SM) (hk38 : ∀ (x1 : Int32) (x2 : Int32) (s : SM) (H : Heap) (locs : List Loc) (ls : Array Slot), XW g A ss (wM g s) H locs → lv_has ls 4 [(0, .ref (g.q 60)), (1, .int x1), (2, .int x2)] → k38 x1 x2 s = some z → W p l e (rmX 4 94) ss m args below meth c H locs 0 0 Q (F0 m 38 ls [])) : ∀ (x1 : Int32) (x2 : Int32) (x3 : Int32) (s : SM) (H : Heap) (locs : List Loc) (ls : Array Slot), XW g A ss (wM g s) H locs → lv_has ls 4 [(0, .ref (g.q 60)), (1, .int x1), (2, .int x2), (3, .int x3)] → f_M_validateBody_84 k38 x1 x2 x3 s = some z → W p l e (rmX 4 94) ss m args below meth c H locs 0 0 Q (F0 m 84 ls []) := by
  have ⟨⟨hx, hb, hml, hown, hts⟩, hK, hA, hN⟩ := C
  intro x1 x2 x3 s H locs ls hX hl h
  rw [f_M_validateBody_84] at h
  refine lv_aload_n hx hb d_M_validateBody_84 rfl (lv_at hl 0 rfl) ?_
  refine lv_iload_n hx hb d_M_validateBody_85 rfl (lv_at hl 1 rfl) ?_
  refine lv_iload_n hx hb d_M_validateBody_86 rfl (lv_at hl 2 rfl) ?_
  obtain ⟨s1, hc87, h⟩ := bd1_e h
  refine x_vV (As := [.int x1, .int x2]) (rest := []) C hX (c_M_validateBlock l g x1 x2 s s1 hc87) (cw_M_299 C.1.2.2.2.2 C.2.2.2 ⟨by decide, by decide⟩) (x_rc C hX vg_0 rfl) rfl hl.1 rfl (lv_room (Nat.le_of_ble_eq_true rfl)) d_M_validateBody_87 ⟨Nat.le_refl _, Nat.le_refl _⟩ (fun H locs hX => ?_)
  refine lv_goto (tgt := 114) hx hb d_M_validateBody_90 (by decide) ?_
  exact w_M_validateBody_114 C hQ k38 hk38 x1 x2 x3 s1 H locs ls hX hl h
set_option maxHeartbeats 4000000 in
set_option maxRecDepth 100000 in
theorem w_M_validateBody_38 {z : SM} (C : Cx g A p m c b_M_validateBody 4 ss args R_M) (hQ : ∀ (pc : Nat) (H : Heap) (locs : List Loc) (ls : Array Slot), XW g A ss (wM g z) H locs → decode b_M_validateBody pc = .ok (.return_, 1) → W p l e (rmX 4 94) ss m args below meth c H locs 0 0 Q (F0 m pc ls [])) (n : Nat) : ∀ (x1 : Int32) (x2 : Int32) (s : SM) (H : Heap) (locs : List Loc) (ls : Array Slot), XW g A ss (wM g s) H locs → lv_has ls 4 [(0, .ref (g.q 60)), (1, .int x1), (2, .int x2)] → f_M_validateBody_38 n x1 x2 s = some z → W p l e (rmX 4 94) ss m args below meth c H locs 0 0 Q (F0 m 38 ls []) := by
  have ⟨⟨hx, hb, hml, hown, hts⟩, hK, hA, hN⟩ := C
  induction n with
  | zero => intro x1 x2 s H locs ls hX hl h; cases h
  | succ n ih =>
    intro x1 x2 s H locs ls hX hl h
    rw [f_M_validateBody_38] at h
    refine lv_iload_n hx hb d_M_validateBody_38 rfl (lv_at hl 2 rfl) ?_
    refine lv_aload_n hx hb d_M_validateBody_39 rfl (lv_at hl 0 rfl) ?_
    refine gm_close C hX fl_M_78 d_M_validateBody_40 ?_
    refine lv_iload_n hx hb d_M_validateBody_43 rfl (lv_at hl 1 rfl) ?_
    obtain ⟨hz44, h⟩ := gi_e h
    obtain ⟨v1, ev1, h⟩ := lt1_e h
    refine alm_23 C hX hz44 d_M_validateBody_44 ev1 ?_
    refine lv_icmp_gt (tgt := 120) hx hb d_M_validateBody_45 (by decide) (fun c45 => ?_) (fun c45 => ?_)
    · have h := ite_t c45 h
      exact w_M_validateBody_120 C hQ x1 x2 s H locs ls hX hl h
    · have h := ite_f c45 h
      refine lv_aload_n hx hb d_M_validateBody_48 rfl (lv_at hl 0 rfl) ?_
      refine gm_wrong C hX fl_M_149 d_M_validateBody_49 ?_
      refine lv_if_ne (tgt := 120) hx hb d_M_validateBody_52 (by decide) (fun c52 => ?_) (fun c52 => ?_)
      · have h := ite_f c52 h
        exact w_M_validateBody_120 C hQ x1 x2 s H locs ls hX hl h
      · have h := ite_t c52 h
        refine lv_aload_n hx hb d_M_validateBody_55 rfl (lv_at hl 0 rfl) ?_
        refine gm_high C hX fl_M_69 d_M_validateBody_56 ?_
        refine lv_iload_n hx hb d_M_validateBody_59 rfl (lv_at hl 2 rfl) ?_
        refine lv_aload_n hx hb d_M_validateBody_60 rfl (lv_at hl 0 rfl) ?_
        refine gm_top C hX fl_M_286 d_M_validateBody_61 ?_
        obtain ⟨hz64, h⟩ := gi_e h
        obtain ⟨s2, es2, h⟩ := lt1_e h
        refine asm_20 C hX hz64 d_M_validateBody_64 (fun H locs hX => ?_)
        rw [← es2] at hX
        refine lv_aload_n hx hb d_M_validateBody_65 rfl (lv_at hl 0 rfl) ?_
        refine gm_op C hX fl_M_51 d_M_validateBody_66 ?_
        refine lv_iload_n hx hb d_M_validateBody_69 rfl (lv_at hl 2 rfl) ?_
        obtain ⟨hz70, h⟩ := gi_e h
        obtain ⟨v3, ev3, h⟩ := lt1_e h
        refine alm_14 C hX hz70 d_M_validateBody_70 ev3 ?_
        refine lv_istore_n (lv' := [(3, .int v3), (0, .ref (g.q 60)), (1, .int x1), (2, .int x2)]) hx hb d_M_validateBody_71 rfl hl (by decide) rfl (fun ls hl => ?_)
        refine lv_iload_n hx hb d_M_validateBody_72 rfl (lv_at hl 0 rfl) ?_
        refine lv_bipush (v := 6) hx hb d_M_validateBody_73 (by decide) ?_
        refine lv_icmp_lt (tgt := 84) hx hb d_M_validateBody_75 (by decide) (fun c75 => ?_) (fun c75 => ?_)
        · have h := ite_t c75 h
          exact w_M_validateBody_84 C hQ (f_M_validateBody_38 n) ih x1 x2 v3 s2 H locs ls hX (lv_sub hl [1, 2, 3, 0] rfl) h
        · have h := ite_f c75 h
          refine lv_iload_n hx hb d_M_validateBody_78 rfl (lv_at hl 0 rfl) ?_
          refine lv_bipush (v := 11) hx hb d_M_validateBody_79 (by decide) ?_
          refine lv_icmp_ne (tgt := 93) hx hb d_M_validateBody_81 (by decide) (fun c81 => ?_) (fun c81 => ?_)
          · have h := ite_f c81 h
            refine lv_iload_n hx hb d_M_validateBody_93 rfl (lv_at hl 0 rfl) ?_
            refine lv_bipush (v := 17) hx hb d_M_validateBody_94 (by decide) ?_
            refine lv_icmp_ge (tgt := 108) hx hb d_M_validateBody_96 (by decide) (fun c96 => ?_) (fun c96 => ?_)
            · have h := ite_t c96 h
              refine lv_aload_n hx hb d_M_validateBody_108 rfl (lv_at hl 1 rfl) ?_
              refine lv_iload_n hx hb d_M_validateBody_109 rfl (lv_at hl 2 rfl) ?_
              refine lv_iload_n hx hb d_M_validateBody_110 rfl (lv_at hl 3 rfl) ?_
              obtain ⟨s4, hc111, h⟩ := bd1_e h
              refine x_vV (As := [.int x1, .int x2]) (rest := []) C hX (c_M_validatePlain l g x1 x2 s2 s4 hc111) (cw_M_306 C.1.2.2.2.2 C.2.2.2 ⟨by decide, by decide⟩) (x_rc C hX vg_0 rfl) rfl hl.1 rfl (lv_room (Nat.le_of_ble_eq_true rfl)) d_M_validateBody_111 ⟨Nat.le_refl _, Nat.le_refl _⟩ (fun H locs hX => ?_)
              exact w_M_validateBody_114 C hQ (f_M_validateBody_38 n) ih x1 x2 v3 s4 H locs ls hX (lv_sub hl [1, 2, 3, 0] rfl) h
            · have h := ite_f c96 h
              refine lv_aload_n hx hb d_M_validateBody_99 rfl (lv_at hl 1 rfl) ?_
              refine lv_iload_n hx hb d_M_validateBody_100 rfl (lv_at hl 2 rfl) ?_
              refine lv_iload_n hx hb d_M_validateBody_101 rfl (lv_at hl 3 rfl) ?_
              obtain ⟨s5, hc102, h⟩ := bd1_e h
              refine x_vV (As := [.int x1, .int x2]) (rest := []) C hX (c_M_validateJump l g x1 x2 s2 s5 hc102) (cw_M_303 C.1.2.2.2.2 C.2.2.2 ⟨by decide, by decide⟩) (x_rc C hX vg_0 rfl) rfl hl.1 rfl (lv_room (Nat.le_of_ble_eq_true rfl)) d_M_validateBody_102 ⟨Nat.le_refl _, Nat.le_refl _⟩ (fun H locs hX => ?_)
              refine lv_goto (tgt := 114) hx hb d_M_validateBody_105 (by decide) ?_
              exact w_M_validateBody_114 C hQ (f_M_validateBody_38 n) ih x1 x2 v3 s5 H locs ls hX (lv_sub hl [1, 2, 3, 0] rfl) h
          · have h := ite_t c81 h
            exact w_M_validateBody_84 C hQ (f_M_validateBody_38 n) ih x1 x2 v3 s2 H locs ls hX (lv_sub hl [1, 2, 3, 0] rfl) h
set_option maxHeartbeats 4000000 in
set_option maxRecDepth 100000 in
theorem w_M_validateBody {z : SM} (C : Cx g A p m c b_M_validateBody 4 ss args R_M) (hQ : ∀ (pc : Nat) (H : Heap) (locs : List Loc) (ls : Array Slot), XW g A ss (wM g z) H locs → decode b_M_validateBody pc = .ok (.return_, 1) → W p l e (rmX 4 94) ss m args below meth c H locs 0 0 Q (F0 m pc ls [])) : ∀ (x1 : Int32) (s : SM) (H : Heap) (locs : List Loc) (ls : Array Slot), XW g A ss (wM g s) H locs → lv_has ls 4 [(0, .ref (g.q 60)), (1, .int x1)] → f_M_validateBody x1 s = some z → W p l e (rmX 4 94) ss m args below meth c H locs 0 0 Q (F0 m 0 ls []) := by
  have ⟨⟨hx, hb, hml, hown, hts⟩, hK, hA, hN⟩ := C
  intro x1 s H locs ls hX hl h
  rw [f_M_validateBody] at h
  refine lv_aload_n hx hb d_M_validateBody_0 rfl (lv_at hl 0 rfl) ?_
  refine lv_iconst (v := 0) hx hb d_M_validateBody_1 (by decide) ?_
  obtain ⟨s1, es1, h⟩ := lt1_e h
  refine pm_deep C hX fl_M_289 d_M_validateBody_2 (fun H locs hX => ?_)
  rw [← es1] at hX
  refine lv_aload_n hx hb d_M_validateBody_5 rfl (lv_at hl 0 rfl) ?_
  refine lv_iconst (v := 0) hx hb d_M_validateBody_6 (by decide) ?_
  obtain ⟨s2, es2, h⟩ := lt1_e h
  refine pm_top C hX fl_M_286 d_M_validateBody_7 (fun H locs hX => ?_)
  rw [← es2] at hX
  refine lv_aload_n hx hb d_M_validateBody_10 rfl (lv_at hl 0 rfl) ?_
  refine gm_open C hX fl_M_87 d_M_validateBody_11 ?_
  refine lv_iconst (v := 0) hx hb d_M_validateBody_14 (by decide) ?_
  refine lv_iconst (v := (-1)) hx hb d_M_validateBody_15 (by decide) ?_
  obtain ⟨hz16, h⟩ := gi_e h
  obtain ⟨s3, es3, h⟩ := lt1_e h
  refine asm_26 C hX hz16 d_M_validateBody_16 (fun H locs hX => ?_)
  rw [← es3] at hX
  refine lv_aload_n hx hb d_M_validateBody_17 rfl (lv_at hl 0 rfl) ?_
  refine gm_base C hX fl_M_90 d_M_validateBody_18 ?_
  refine lv_iconst (v := 0) hx hb d_M_validateBody_21 (by decide) ?_
  refine lv_iconst (v := 0) hx hb d_M_validateBody_22 (by decide) ?_
  obtain ⟨hz23, h⟩ := gi_e h
  obtain ⟨s4, es4, h⟩ := lt1_e h
  refine asm_27 C hX hz23 d_M_validateBody_23 (fun H locs hX => ?_)
  rw [← es4] at hX
  refine lv_aload_n hx hb d_M_validateBody_24 rfl (lv_at hl 0 rfl) ?_
  refine gm_dead C hX fl_M_93 d_M_validateBody_25 ?_
  refine lv_iconst (v := 0) hx hb d_M_validateBody_28 (by decide) ?_
  refine lv_iconst (v := 0) hx hb d_M_validateBody_29 (by decide) ?_
  obtain ⟨hz30, h⟩ := gi_e h
  obtain ⟨hb30, h⟩ := bz_e h
  obtain ⟨s5, es5, h⟩ := lt1_e h
  refine asm_28 C hX hz30 hb30 d_M_validateBody_30 (fun H locs hX => ?_)
  rw [← es5] at hX
  refine lv_aload_n hx hb d_M_validateBody_31 rfl (lv_at hl 0 rfl) ?_
  refine gm_begin C hX fl_M_75 d_M_validateBody_32 ?_
  refine lv_iload_n hx hb d_M_validateBody_35 rfl (lv_at hl 1 rfl) ?_
  obtain ⟨hz36, h⟩ := gi_e h
  obtain ⟨v6, ev6, h⟩ := lt1_e h
  refine alm_22 C hX hz36 d_M_validateBody_36 ev6 ?_
  refine lv_istore_n (lv' := [(2, .int v6), (0, .ref (g.q 60)), (1, .int x1)]) hx hb d_M_validateBody_37 rfl hl (by decide) rfl (fun ls hl => ?_)
  exact w_M_validateBody_38 C hQ FU x1 v6 s5 H locs ls hX (lv_sub hl [1, 2, 0] rfl) h
end WALK
theorem c_M_validateBody (l : Launch) (g : GX) (x1 : Int32) (s : SM) (z : SM) (h : f_M_validateBody x1 s = some z) : MV l g y_M_validateBody b_M_validateBody 4 none 4 94 [.ref (g.q 60), .int x1] (wM g s) (wM g z) :=
  MV.mk (own := R_M) (by decide) rfl (Nat.le_of_ble_eq_true rfl) fun p e ss m below meth c A Q C hQ ls hX hl => w_M_validateBody C hQ x1 s _ _ ls hX hl h
-- M_validate
def f_M_validate_258 (k213 : Int32 → SM → Option SM) (x1 : Int32) (y1 : Int32) (s : SM) : Option SM :=
    bd1 (f_M_will y1 4 s) fun s1 =>
    lt1 (x1 + (1)) fun v2 =>
    k213 v2 s1
def f_M_validate_213 : Nat → Int32 → SM → Option SM
  | 0, _, _ => none
  | n + 1, x1, s =>
    if s.1 0 13 ≤ x1 then
      some s
    else
      gi x1 4 <|
      lt1 (s.1 11 (Int32.toNatClampNeg x1)) fun v1 =>
      lt1 (Int32.toInt64 v1) fun v2 =>
      lt1 (v2 &&& 4294967295) fun v3 =>
      gi x1 4 <|
      lt1 (s.1 13 (Int32.toNatClampNeg x1)) fun v4 =>
      lt1 (Int32.toInt64 v4) fun v5 =>
      lt1 (v3 + v5) fun v6 =>
      lt1 (64 * s.2 0 0) fun v7 =>
      lt1 (lg_cmp v6 v7) fun v8 =>
      if 0 < v8 then
        f_M_validate_258 (f_M_validate_213 n) x1 0 s
      else
        f_M_validate_258 (f_M_validate_213 n) x1 1 s
def f_M_validate_201 (k169 : Int32 → SM → Option SM) (x1 : Int32) (y1 : Int32) (s : SM) : Option SM :=
    bd1 (f_M_will y1 3 s) fun s1 =>
    lt1 (x1 + (1)) fun v2 =>
    k169 v2 s1
def f_M_validate_200 (k169 : Int32 → SM → Option SM) (x1 : Int32) (s : SM) : Option SM :=
    f_M_validate_201 k169 x1 0 s
def f_M_validate_169 : Nat → Int32 → SM → Option SM
  | 0, _, _ => none
  | n + 1, x1, s =>
    if s.1 0 13 ≤ x1 then
      f_M_validate_213 FU 0 s
    else
      if s.1 0 9 ≤ 0 then
        f_M_validate_200 (f_M_validate_169 n) x1 s
      else
        gi x1 4 <|
        lt1 (s.2 10 (Int32.toNatClampNeg x1)) fun v1 =>
        lt1 (lg_cmp v1 0) fun v2 =>
        if v2 = 0 then
          f_M_validate_201 (f_M_validate_169 n) x1 1 s
        else
          f_M_validate_200 (f_M_validate_169 n) x1 s
def f_M_validate_167 (x1 : Int32) (s : SM) : Option SM :=
    f_M_validate_169 FU 0 s
def f_M_validate_141 : Nat → Int32 → SM → Option SM
  | 0, _, _ => none
  | n + 1, x1, s =>
    if s.1 0 7 ≤ x1 then
      f_M_validate_167 x1 s
    else
      if s.1 0 5 = 0 then
        bd1 (f_M_validateBody x1 s) fun s1 =>
        lt1 (x1 + (1)) fun v2 =>
        f_M_validate_141 n v2 s1
      else
        f_M_validate_167 x1 s
def f_M_validate_115 : Nat → Int32 → SM → Option SM
  | 0, _, _ => none
  | n + 1, x1, s =>
    if s.1 0 12 ≤ x1 then
      f_M_validate_141 FU 0 s
    else
      bd1 (f_M_isExport s x1) fun r1 =>
      bd1 (f_M_will r1 3 s) fun s2 =>
      lt1 (x1 + (1)) fun v3 =>
      f_M_validate_115 n v3 s2
def f_M_validate_109 (x1 : Int32) (y1 : Int32) (s : SM) : Option SM :=
    bd1 (f_M_will y1 3 s) fun s1 =>
    f_M_validate_115 FU 0 s1
def f_M_validate_104 (x1 : Int32) (s : SM) : Option SM :=
    f_M_validate_109 x1 1 s
def f_M_validate_67 (k38 : Int32 → SM → Option SM) (x1 : Int32) (y1 : Int32) (s : SM) : Option SM :=
    bd1 (f_M_will y1 3 s) fun s1 =>
    lt1 (x1 + (1)) fun v2 =>
    k38 v2 s1
def f_M_validate_38 : Nat → Int32 → SM → Option SM
  | 0, _, _ => none
  | n + 1, x1, s =>
    if s.1 0 7 ≤ x1 then
      if s.1 0 9 = 0 then
        f_M_validate_104 x1 s
      else
        if s.1 0 10 = 0 then
          f_M_validate_104 x1 s
        else
          lt1 (lg_cmp (s.2 0 1) (s.2 0 0)) fun v1 =>
          if v1 < 0 then
            f_M_validate_109 x1 0 s
          else
            f_M_validate_104 x1 s
    else
      gi x1 8 <|
      lt1 (s.2 4 (Int32.toNatClampNeg x1)) fun v2 =>
      lt1 (Int32.toInt64 (s.1 0 6)) fun v3 =>
      lt1 (lg_cmp v2 v3) fun v4 =>
      if 0 ≤ v4 then
        f_M_validate_67 (f_M_validate_38 n) x1 0 s
      else
        f_M_validate_67 (f_M_validate_38 n) x1 1 s
def f_M_validate_26 (k2 : Int32 → SM → Option SM) (x1 : Int32) (y1 : Int32) (s : SM) : Option SM :=
    bd1 (f_M_will y1 3 s) fun s1 =>
    lt1 (x1 + (1)) fun v2 =>
    k2 v2 s1
def f_M_validate_2 : Nat → Int32 → SM → Option SM
  | 0, _, _ => none
  | n + 1, x1, s =>
    if s.1 0 6 ≤ x1 then
      f_M_validate_38 FU 0 s
    else
      gi x1 8 <|
      lt1 (s.1 3 (Int32.toNatClampNeg x1)) fun v1 =>
      if 2 ≤ v1 then
        f_M_validate_26 (f_M_validate_2 n) x1 0 s
      else
        f_M_validate_26 (f_M_validate_2 n) x1 1 s
def f_M_validate (s : SM) : Option SM :=
    f_M_validate_2 FU 0 s
section WALK
variable {p : Program} {l : Launch} {e : Env} {ss : State} {m : MethodId} {args : Array Value} {below : List Frame} {meth : Method} {c : Code} {Q : State → Prop} {g : GX} {A : Nat → Prop}
set_option maxHeartbeats 4000000 in
set_option maxRecDepth 100000 in
theorem w_M_validate_258 {z : SM} (C : Cx g A p m c b_M_validate 2 ss args R_M) (hQ : ∀ (pc : Nat) (H : Heap) (locs : List Loc) (ls : Array Slot), XW g A ss (wM g z) H locs → decode b_M_validate pc = .ok (.return_, 1) → W p l e (rmX 5 117) ss m args below meth c H locs 0 0 Q (F0 m pc ls [])) (k213 : Int32 → SM → Option SM) (hk213 : ∀ (x1 : Int32) (s : SM) (H : Heap) (locs : List Loc) (ls : Array Slot), XW g A ss (wM g s) H locs → lv_has ls 2 [(0, .ref (g.q 60)), (1, .int x1)] → k213 x1 s = some z → W p l e (rmX 5 117) ss m args below meth c H locs 0 0 Q (F0 m 213 ls [])) : ∀ (x1 : Int32) (y1 : Int32) (s : SM) (H : Heap) (locs : List Loc) (ls : Array Slot), XW g A ss (wM g s) H locs → lv_has ls 2 [(0, .ref (g.q 60)), (1, .int x1)] → f_M_validate_258 k213 x1 y1 s = some z → W p l e (rmX 5 117) ss m args below meth c H locs 0 0 Q (F0 m 258 ls [.int y1, .ref (g.q 60)]) := by
  have ⟨⟨hx, hb, hml, hown, hts⟩, hK, hA, hN⟩ := C
  intro x1 y1 s H locs ls hX hl h
  rw [f_M_validate_258] at h
  refine lv_iconst (v := 4) hx hb d_M_validate_258 (by decide) ?_
  obtain ⟨s1, hc259, h⟩ := bd1_e h
  refine x_vV (As := [.int y1, .int 4]) (rest := []) C hX (c_M_will l g y1 4 s s1 hc259) (cw_M_158 C.1.2.2.2.2 C.2.2.2 ⟨by decide, by decide⟩) (x_rc C hX vg_0 rfl) rfl hl.1 rfl (lv_room (Nat.le_of_ble_eq_true rfl)) d_M_validate_259 ⟨Nat.le_refl _, Nat.le_refl _⟩ (fun H locs hX => ?_)
  obtain ⟨v2, ev2, h⟩ := lt1_e h
  refine lv_iinc (v := v2) (lv' := [(1, .int v2), (0, .ref (g.q 60))]) hx hb d_M_validate_262 hl (k := 1) rfl (by rw [ev2]; rfl) (by decide) rfl (fun ls hl => ?_)
  refine lv_goto (tgt := 213) hx hb d_M_validate_265 (by decide) ?_
  exact hk213 v2 s1 H locs ls hX (lv_sub hl [1, 0] rfl) h
set_option maxHeartbeats 4000000 in
set_option maxRecDepth 100000 in
theorem w_M_validate_213 {z : SM} (C : Cx g A p m c b_M_validate 2 ss args R_M) (hQ : ∀ (pc : Nat) (H : Heap) (locs : List Loc) (ls : Array Slot), XW g A ss (wM g z) H locs → decode b_M_validate pc = .ok (.return_, 1) → W p l e (rmX 5 117) ss m args below meth c H locs 0 0 Q (F0 m pc ls [])) (n : Nat) : ∀ (x1 : Int32) (s : SM) (H : Heap) (locs : List Loc) (ls : Array Slot), XW g A ss (wM g s) H locs → lv_has ls 2 [(0, .ref (g.q 60)), (1, .int x1)] → f_M_validate_213 n x1 s = some z → W p l e (rmX 5 117) ss m args below meth c H locs 0 0 Q (F0 m 213 ls []) := by
  have ⟨⟨hx, hb, hml, hown, hts⟩, hK, hA, hN⟩ := C
  induction n with
  | zero => intro x1 s H locs ls hX hl h; cases h
  | succ n ih =>
    intro x1 s H locs ls hX hl h
    rw [f_M_validate_213] at h
    refine lv_iload_n hx hb d_M_validate_213 rfl (lv_at hl 1 rfl) ?_
    refine lv_aload_n hx hb d_M_validate_214 rfl (lv_at hl 0 rfl) ?_
    refine gm_segments C hX fl_M_249 d_M_validate_215 ?_
    refine lv_icmp_ge (tgt := 268) hx hb d_M_validate_218 (by decide) (fun c218 => ?_) (fun c218 => ?_)
    · have h := ite_t c218 h
      obtain rfl := so1 h
      exact hQ _ H locs ls hX d_M_validate_268
    · have h := ite_f c218 h
      refine lv_aload_n hx hb d_M_validate_221 rfl (lv_at hl 0 rfl) ?_
      refine lv_aload_n hx hb d_M_validate_222 rfl (lv_at hl 0 rfl) ?_
      refine gm_segmentAt C hX fl_M_42 d_M_validate_223 ?_
      refine lv_iload_n hx hb d_M_validate_226 rfl (lv_at hl 1 rfl) ?_
      obtain ⟨hz227, h⟩ := gi_e h
      obtain ⟨v1, ev1, h⟩ := lt1_e h
      refine alm_11 C hX hz227 d_M_validate_227 ev1 ?_
      obtain ⟨v2, ev2, h⟩ := lt1_e h
      refine lv_i2l hx hb d_M_validate_228 ev2.symm ?_
      refine lv_ldc2 (v := 4294967295) hx hb hown (hts _ m_constantLong_M_282) d_M_validate_229 ?_
      obtain ⟨v3, ev3, h⟩ := lt1_e h
      refine x_land hx hb d_M_validate_232 ev3 ?_
      refine lv_aload_n hx hb d_M_validate_233 rfl (lv_at hl 0 rfl) ?_
      refine gm_segmentLength C hX fl_M_48 d_M_validate_234 ?_
      refine lv_iload_n hx hb d_M_validate_237 rfl (lv_at hl 1 rfl) ?_
      obtain ⟨hz238, h⟩ := gi_e h
      obtain ⟨v4, ev4, h⟩ := lt1_e h
      refine alm_13 C hX hz238 d_M_validate_238 ev4 ?_
      obtain ⟨v5, ev5, h⟩ := lt1_e h
      refine lv_i2l hx hb d_M_validate_239 ev5.symm ?_
      obtain ⟨v6, ev6, h⟩ := lt1_e h
      refine x_ladd hx hb d_M_validate_240 ev6 ?_
      refine lv_ldc2 (v := 64) hx hb hown (hts _ m_constantLong_M_284) d_M_validate_241 ?_
      refine lv_aload_n hx hb d_M_validate_244 rfl (lv_at hl 0 rfl) ?_
      refine gm_least C hX fl_M_231 d_M_validate_245 ?_
      obtain ⟨v7, ev7, h⟩ := lt1_e h
      refine x_lmul hx hb d_M_validate_248 ev7 ?_
      obtain ⟨v8, ev8, h⟩ := lt1_e h
      refine x_lcmp hx hb d_M_validate_249 ev8 ?_
      refine lv_if_gt (tgt := 257) hx hb d_M_validate_250 (by decide) (fun c250 => ?_) (fun c250 => ?_)
      · have h := ite_t c250 h
        refine lv_iconst (v := 0) hx hb d_M_validate_257 (by decide) ?_
        exact w_M_validate_258 C hQ (f_M_validate_213 n) ih x1 0 s H locs ls hX hl h
      · have h := ite_f c250 h
        refine lv_iconst (v := 1) hx hb d_M_validate_253 (by decide) ?_
        refine lv_goto (tgt := 258) hx hb d_M_validate_254 (by decide) ?_
        exact w_M_validate_258 C hQ (f_M_validate_213 n) ih x1 1 s H locs ls hX hl h
set_option maxHeartbeats 4000000 in
set_option maxRecDepth 100000 in
theorem w_M_validate_201 {z : SM} (C : Cx g A p m c b_M_validate 2 ss args R_M) (hQ : ∀ (pc : Nat) (H : Heap) (locs : List Loc) (ls : Array Slot), XW g A ss (wM g z) H locs → decode b_M_validate pc = .ok (.return_, 1) → W p l e (rmX 5 117) ss m args below meth c H locs 0 0 Q (F0 m pc ls [])) (k169 : Int32 → SM → Option SM) (hk169 : ∀ (x1 : Int32) (s : SM) (H : Heap) (locs : List Loc) (ls : Array Slot), XW g A ss (wM g s) H locs → lv_has ls 2 [(0, .ref (g.q 60)), (1, .int x1)] → k169 x1 s = some z → W p l e (rmX 5 117) ss m args below meth c H locs 0 0 Q (F0 m 169 ls [])) : ∀ (x1 : Int32) (y1 : Int32) (s : SM) (H : Heap) (locs : List Loc) (ls : Array Slot), XW g A ss (wM g s) H locs → lv_has ls 2 [(0, .ref (g.q 60)), (1, .int x1)] → f_M_validate_201 k169 x1 y1 s = some z → W p l e (rmX 5 117) ss m args below meth c H locs 0 0 Q (F0 m 201 ls [.int y1, .ref (g.q 60)]) := by
  have ⟨⟨hx, hb, hml, hown, hts⟩, hK, hA, hN⟩ := C
  intro x1 y1 s H locs ls hX hl h
  rw [f_M_validate_201] at h
  refine lv_iconst (v := 3) hx hb d_M_validate_201 (by decide) ?_
  obtain ⟨s1, hc202, h⟩ := bd1_e h
  refine x_vV (As := [.int y1, .int 3]) (rest := []) C hX (c_M_will l g y1 3 s s1 hc202) (cw_M_158 C.1.2.2.2.2 C.2.2.2 ⟨by decide, by decide⟩) (x_rc C hX vg_0 rfl) rfl hl.1 rfl (lv_room (Nat.le_of_ble_eq_true rfl)) d_M_validate_202 ⟨Nat.le_refl _, Nat.le_refl _⟩ (fun H locs hX => ?_)
  obtain ⟨v2, ev2, h⟩ := lt1_e h
  refine lv_iinc (v := v2) (lv' := [(1, .int v2), (0, .ref (g.q 60))]) hx hb d_M_validate_205 hl (k := 1) rfl (by rw [ev2]; rfl) (by decide) rfl (fun ls hl => ?_)
  refine lv_goto (tgt := 169) hx hb d_M_validate_208 (by decide) ?_
  exact hk169 v2 s1 H locs ls hX (lv_sub hl [1, 0] rfl) h
set_option maxHeartbeats 4000000 in
set_option maxRecDepth 100000 in
theorem w_M_validate_200 {z : SM} (C : Cx g A p m c b_M_validate 2 ss args R_M) (hQ : ∀ (pc : Nat) (H : Heap) (locs : List Loc) (ls : Array Slot), XW g A ss (wM g z) H locs → decode b_M_validate pc = .ok (.return_, 1) → W p l e (rmX 5 117) ss m args below meth c H locs 0 0 Q (F0 m pc ls [])) (k169 : Int32 → SM → Option SM) (hk169 : ∀ (x1 : Int32) (s : SM) (H : Heap) (locs : List Loc) (ls : Array Slot), XW g A ss (wM g s) H locs → lv_has ls 2 [(0, .ref (g.q 60)), (1, .int x1)] → k169 x1 s = some z → W p l e (rmX 5 117) ss m args below meth c H locs 0 0 Q (F0 m 169 ls [])) : ∀ (x1 : Int32) (s : SM) (H : Heap) (locs : List Loc) (ls : Array Slot), XW g A ss (wM g s) H locs → lv_has ls 2 [(0, .ref (g.q 60)), (1, .int x1)] → f_M_validate_200 k169 x1 s = some z → W p l e (rmX 5 117) ss m args below meth c H locs 0 0 Q (F0 m 200 ls [.ref (g.q 60)]) := by
  have ⟨⟨hx, hb, hml, hown, hts⟩, hK, hA, hN⟩ := C
  intro x1 s H locs ls hX hl h
  rw [f_M_validate_200] at h
  refine lv_iconst (v := 0) hx hb d_M_validate_200 (by decide) ?_
  exact w_M_validate_201 C hQ k169 hk169 x1 0 s H locs ls hX hl h
set_option maxHeartbeats 4000000 in
set_option maxRecDepth 100000 in
theorem w_M_validate_169 {z : SM} (C : Cx g A p m c b_M_validate 2 ss args R_M) (hQ : ∀ (pc : Nat) (H : Heap) (locs : List Loc) (ls : Array Slot), XW g A ss (wM g z) H locs → decode b_M_validate pc = .ok (.return_, 1) → W p l e (rmX 5 117) ss m args below meth c H locs 0 0 Q (F0 m pc ls [])) (n : Nat) : ∀ (x1 : Int32) (s : SM) (H : Heap) (locs : List Loc) (ls : Array Slot), XW g A ss (wM g s) H locs → lv_has ls 2 [(0, .ref (g.q 60)), (1, .int x1)] → f_M_validate_169 n x1 s = some z → W p l e (rmX 5 117) ss m args below meth c H locs 0 0 Q (F0 m 169 ls []) := by
  have ⟨⟨hx, hb, hml, hown, hts⟩, hK, hA, hN⟩ := C
  induction n with
  | zero => intro x1 s H locs ls hX hl h; cases h
  | succ n ih =>
    intro x1 s H locs ls hX hl h
    rw [f_M_validate_169] at h
    refine lv_iload_n hx hb d_M_validate_169 rfl (lv_at hl 1 rfl) ?_
    refine lv_aload_n hx hb d_M_validate_170 rfl (lv_at hl 0 rfl) ?_
    refine gm_segments C hX fl_M_249 d_M_validate_171 ?_
    refine lv_icmp_ge (tgt := 211) hx hb d_M_validate_174 (by decide) (fun c174 => ?_) (fun c174 => ?_)
    · have h := ite_t c174 h
      refine lv_iconst (v := 0) hx hb d_M_validate_211 (by decide) ?_
      refine lv_istore_n (lv' := [(1, .int 0), (0, .ref (g.q 60))]) hx hb d_M_validate_212 rfl hl (by decide) rfl (fun ls hl => ?_)
      exact w_M_validate_213 C hQ FU 0 s H locs ls hX (lv_sub hl [1, 0] rfl) h
    · have h := ite_f c174 h
      refine lv_aload_n hx hb d_M_validate_177 rfl (lv_at hl 0 rfl) ?_
      refine lv_aload_n hx hb d_M_validate_178 rfl (lv_at hl 0 rfl) ?_
      refine gm_memories C hX fl_M_222 d_M_validate_179 ?_
      refine lv_if_le (tgt := 200) hx hb d_M_validate_182 (by decide) (fun c182 => ?_) (fun c182 => ?_)
      · have h := ite_t c182 h
        exact w_M_validate_200 C hQ (f_M_validate_169 n) ih x1 s H locs ls hX hl h
      · have h := ite_f c182 h
        refine lv_aload_n hx hb d_M_validate_185 rfl (lv_at hl 0 rfl) ?_
        refine gm_segmentMemory C hX fl_M_39 d_M_validate_186 ?_
        refine lv_iload_n hx hb d_M_validate_189 rfl (lv_at hl 1 rfl) ?_
        obtain ⟨hz190, h⟩ := gi_e h
        obtain ⟨v1, ev1, h⟩ := lt1_e h
        refine alm_10 C hX hz190 d_M_validate_190 ev1 ?_
        refine lv_lconst (v := 0) hx hb d_M_validate_191 (by decide) ?_
        obtain ⟨v2, ev2, h⟩ := lt1_e h
        refine x_lcmp hx hb d_M_validate_192 ev2 ?_
        refine lv_if_ne (tgt := 200) hx hb d_M_validate_193 (by decide) (fun c193 => ?_) (fun c193 => ?_)
        · have h := ite_f c193 h
          exact w_M_validate_200 C hQ (f_M_validate_169 n) ih x1 s H locs ls hX hl h
        · have h := ite_t c193 h
          refine lv_iconst (v := 1) hx hb d_M_validate_196 (by decide) ?_
          refine lv_goto (tgt := 201) hx hb d_M_validate_197 (by decide) ?_
          exact w_M_validate_201 C hQ (f_M_validate_169 n) ih x1 1 s H locs ls hX hl h
set_option maxHeartbeats 4000000 in
set_option maxRecDepth 100000 in
theorem w_M_validate_167 {z : SM} (C : Cx g A p m c b_M_validate 2 ss args R_M) (hQ : ∀ (pc : Nat) (H : Heap) (locs : List Loc) (ls : Array Slot), XW g A ss (wM g z) H locs → decode b_M_validate pc = .ok (.return_, 1) → W p l e (rmX 5 117) ss m args below meth c H locs 0 0 Q (F0 m pc ls [])) : ∀ (x1 : Int32) (s : SM) (H : Heap) (locs : List Loc) (ls : Array Slot), XW g A ss (wM g s) H locs → lv_has ls 2 [(0, .ref (g.q 60)), (1, .int x1)] → f_M_validate_167 x1 s = some z → W p l e (rmX 5 117) ss m args below meth c H locs 0 0 Q (F0 m 167 ls []) := by
  have ⟨⟨hx, hb, hml, hown, hts⟩, hK, hA, hN⟩ := C
  intro x1 s H locs ls hX hl h
  rw [f_M_validate_167] at h
  refine lv_iconst (v := 0) hx hb d_M_validate_167 (by decide) ?_
  refine lv_istore_n (lv' := [(1, .int 0), (0, .ref (g.q 60))]) hx hb d_M_validate_168 rfl hl (by decide) rfl (fun ls hl => ?_)
  exact w_M_validate_169 C hQ FU 0 s H locs ls hX (lv_sub hl [1, 0] rfl) h
set_option maxHeartbeats 4000000 in
set_option maxRecDepth 100000 in
theorem w_M_validate_141 {z : SM} (C : Cx g A p m c b_M_validate 2 ss args R_M) (hQ : ∀ (pc : Nat) (H : Heap) (locs : List Loc) (ls : Array Slot), XW g A ss (wM g z) H locs → decode b_M_validate pc = .ok (.return_, 1) → W p l e (rmX 5 117) ss m args below meth c H locs 0 0 Q (F0 m pc ls [])) (n : Nat) : ∀ (x1 : Int32) (s : SM) (H : Heap) (locs : List Loc) (ls : Array Slot), XW g A ss (wM g s) H locs → lv_has ls 2 [(0, .ref (g.q 60)), (1, .int x1)] → f_M_validate_141 n x1 s = some z → W p l e (rmX 5 117) ss m args below meth c H locs 0 0 Q (F0 m 141 ls []) := by
  have ⟨⟨hx, hb, hml, hown, hts⟩, hK, hA, hN⟩ := C
  induction n with
  | zero => intro x1 s H locs ls hX hl h; cases h
  | succ n ih =>
    intro x1 s H locs ls hX hl h
    rw [f_M_validate_141] at h
    refine lv_iload_n hx hb d_M_validate_141 rfl (lv_at hl 1 rfl) ?_
    refine lv_aload_n hx hb d_M_validate_142 rfl (lv_at hl 0 rfl) ?_
    refine gm_functions C hX fl_M_188 d_M_validate_143 ?_
    refine lv_icmp_ge (tgt := 167) hx hb d_M_validate_146 (by decide) (fun c146 => ?_) (fun c146 => ?_)
    · have h := ite_t c146 h
      exact w_M_validate_167 C hQ x1 s H locs ls hX hl h
    · have h := ite_f c146 h
      refine lv_aload_n hx hb d_M_validate_149 rfl (lv_at hl 0 rfl) ?_
      refine gm_wrong C hX fl_M_149 d_M_validate_150 ?_
      refine lv_if_ne (tgt := 167) hx hb d_M_validate_153 (by decide) (fun c153 => ?_) (fun c153 => ?_)
      · have h := ite_f c153 h
        exact w_M_validate_167 C hQ x1 s H locs ls hX hl h
      · have h := ite_t c153 h
        refine lv_aload_n hx hb d_M_validate_156 rfl (lv_at hl 0 rfl) ?_
        refine lv_iload_n hx hb d_M_validate_157 rfl (lv_at hl 1 rfl) ?_
        obtain ⟨s1, hc158, h⟩ := bd1_e h
        refine x_vV (As := [.int x1]) (rest := []) C hX (c_M_validateBody l g x1 s s1 hc158) (cw_M_279 C.1.2.2.2.2 C.2.2.2 ⟨by decide, by decide⟩) (x_rc C hX vg_0 rfl) rfl hl.1 rfl (lv_room (Nat.le_of_ble_eq_true rfl)) d_M_validate_158 ⟨Nat.le_refl _, Nat.le_refl _⟩ (fun H locs hX => ?_)
        obtain ⟨v2, ev2, h⟩ := lt1_e h
        refine lv_iinc (v := v2) (lv' := [(1, .int v2), (0, .ref (g.q 60))]) hx hb d_M_validate_161 hl (k := 1) rfl (by rw [ev2]; rfl) (by decide) rfl (fun ls hl => ?_)
        refine lv_goto (tgt := 141) hx hb d_M_validate_164 (by decide) ?_
        exact ih v2 s1 H locs ls hX (lv_sub hl [1, 0] rfl) h
set_option maxHeartbeats 4000000 in
set_option maxRecDepth 100000 in
theorem w_M_validate_115 {z : SM} (C : Cx g A p m c b_M_validate 2 ss args R_M) (hQ : ∀ (pc : Nat) (H : Heap) (locs : List Loc) (ls : Array Slot), XW g A ss (wM g z) H locs → decode b_M_validate pc = .ok (.return_, 1) → W p l e (rmX 5 117) ss m args below meth c H locs 0 0 Q (F0 m pc ls [])) (n : Nat) : ∀ (x1 : Int32) (s : SM) (H : Heap) (locs : List Loc) (ls : Array Slot), XW g A ss (wM g s) H locs → lv_has ls 2 [(0, .ref (g.q 60)), (1, .int x1)] → f_M_validate_115 n x1 s = some z → W p l e (rmX 5 117) ss m args below meth c H locs 0 0 Q (F0 m 115 ls []) := by
  have ⟨⟨hx, hb, hml, hown, hts⟩, hK, hA, hN⟩ := C
  induction n with
  | zero => intro x1 s H locs ls hX hl h; cases h
  | succ n ih =>
    intro x1 s H locs ls hX hl h
    rw [f_M_validate_115] at h
    refine lv_iload_n hx hb d_M_validate_115 rfl (lv_at hl 1 rfl) ?_
    refine lv_aload_n hx hb d_M_validate_116 rfl (lv_at hl 0 rfl) ?_
    refine gm_exports C hX fl_M_246 d_M_validate_117 ?_
    refine lv_icmp_ge (tgt := 139) hx hb d_M_validate_120 (by decide) (fun c120 => ?_) (fun c120 => ?_)
    · have h := ite_t c120 h
      refine lv_iconst (v := 0) hx hb d_M_validate_139 (by decide) ?_
      refine lv_istore_n (lv' := [(1, .int 0), (0, .ref (g.q 60))]) hx hb d_M_validate_140 rfl hl (by decide) rfl (fun ls hl => ?_)
      exact w_M_validate_141 C hQ FU 0 s H locs ls hX (lv_sub hl [1, 0] rfl) h
    · have h := ite_f c120 h
      refine lv_aload_n hx hb d_M_validate_123 rfl (lv_at hl 0 rfl) ?_
      refine lv_aload_n hx hb d_M_validate_124 rfl (lv_at hl 0 rfl) ?_
      refine lv_iload_n hx hb d_M_validate_125 rfl (lv_at hl 1 rfl) ?_
      obtain ⟨r1, hc126, h⟩ := bd1_e h
      refine x_vI (As := [.int x1]) (rest := [.ref (g.q 60)]) C hX (c_M_isExport l g x1 s r1 hc126) (cw_M_276 C.1.2.2.2.2 C.2.2.2 ⟨by decide, by decide⟩) (x_rc C hX vg_0 rfl) rfl hl.1 rfl (lv_room (Nat.le_of_ble_eq_true rfl)) d_M_validate_126 ⟨Nat.le_refl _, Nat.le_refl _⟩ (fun H locs hX => ?_)
      refine lv_iconst (v := 3) hx hb d_M_validate_129 (by decide) ?_
      obtain ⟨s2, hc130, h⟩ := bd1_e h
      refine x_vV (As := [.int r1, .int 3]) (rest := []) C hX (c_M_will l g r1 3 s s2 hc130) (cw_M_158 C.1.2.2.2.2 C.2.2.2 ⟨by decide, by decide⟩) (x_rc C hX vg_0 rfl) rfl hl.1 rfl (lv_room (Nat.le_of_ble_eq_true rfl)) d_M_validate_130 ⟨Nat.le_refl _, Nat.le_refl _⟩ (fun H locs hX => ?_)
      obtain ⟨v3, ev3, h⟩ := lt1_e h
      refine lv_iinc (v := v3) (lv' := [(1, .int v3), (0, .ref (g.q 60))]) hx hb d_M_validate_133 hl (k := 1) rfl (by rw [ev3]; rfl) (by decide) rfl (fun ls hl => ?_)
      refine lv_goto (tgt := 115) hx hb d_M_validate_136 (by decide) ?_
      exact ih v3 s2 H locs ls hX (lv_sub hl [1, 0] rfl) h
set_option maxHeartbeats 4000000 in
set_option maxRecDepth 100000 in
theorem w_M_validate_109 {z : SM} (C : Cx g A p m c b_M_validate 2 ss args R_M) (hQ : ∀ (pc : Nat) (H : Heap) (locs : List Loc) (ls : Array Slot), XW g A ss (wM g z) H locs → decode b_M_validate pc = .ok (.return_, 1) → W p l e (rmX 5 117) ss m args below meth c H locs 0 0 Q (F0 m pc ls [])) : ∀ (x1 : Int32) (y1 : Int32) (s : SM) (H : Heap) (locs : List Loc) (ls : Array Slot), XW g A ss (wM g s) H locs → lv_has ls 2 [(0, .ref (g.q 60)), (1, .int x1)] → f_M_validate_109 x1 y1 s = some z → W p l e (rmX 5 117) ss m args below meth c H locs 0 0 Q (F0 m 109 ls [.int y1, .ref (g.q 60)]) := by
  have ⟨⟨hx, hb, hml, hown, hts⟩, hK, hA, hN⟩ := C
  intro x1 y1 s H locs ls hX hl h
  rw [f_M_validate_109] at h
  refine lv_iconst (v := 3) hx hb d_M_validate_109 (by decide) ?_
  obtain ⟨s1, hc110, h⟩ := bd1_e h
  refine x_vV (As := [.int y1, .int 3]) (rest := []) C hX (c_M_will l g y1 3 s s1 hc110) (cw_M_158 C.1.2.2.2.2 C.2.2.2 ⟨by decide, by decide⟩) (x_rc C hX vg_0 rfl) rfl hl.1 rfl (lv_room (Nat.le_of_ble_eq_true rfl)) d_M_validate_110 ⟨Nat.le_refl _, Nat.le_refl _⟩ (fun H locs hX => ?_)
  refine lv_iconst (v := 0) hx hb d_M_validate_113 (by decide) ?_
  refine lv_istore_n (lv' := [(1, .int 0), (0, .ref (g.q 60))]) hx hb d_M_validate_114 rfl hl (by decide) rfl (fun ls hl => ?_)
  exact w_M_validate_115 C hQ FU 0 s1 H locs ls hX (lv_sub hl [1, 0] rfl) h
set_option maxHeartbeats 4000000 in
set_option maxRecDepth 100000 in
theorem w_M_validate_104 {z : SM} (C : Cx g A p m c b_M_validate 2 ss args R_M) (hQ : ∀ (pc : Nat) (H : Heap) (locs : List Loc) (ls : Array Slot), XW g A ss (wM g z) H locs → decode b_M_validate pc = .ok (.return_, 1) → W p l e (rmX 5 117) ss m args below meth c H locs 0 0 Q (F0 m pc ls [])) : ∀ (x1 : Int32) (s : SM) (H : Heap) (locs : List Loc) (ls : Array Slot), XW g A ss (wM g s) H locs → lv_has ls 2 [(0, .ref (g.q 60)), (1, .int x1)] → f_M_validate_104 x1 s = some z → W p l e (rmX 5 117) ss m args below meth c H locs 0 0 Q (F0 m 104 ls [.ref (g.q 60)]) := by
  have ⟨⟨hx, hb, hml, hown, hts⟩, hK, hA, hN⟩ := C
  intro x1 s H locs ls hX hl h
  rw [f_M_validate_104] at h
  refine lv_iconst (v := 1) hx hb d_M_validate_104 (by decide) ?_
  refine lv_goto (tgt := 109) hx hb d_M_validate_105 (by decide) ?_
  exact w_M_validate_109 C hQ x1 1 s H locs ls hX hl h
set_option maxHeartbeats 4000000 in
set_option maxRecDepth 100000 in
theorem w_M_validate_67 {z : SM} (C : Cx g A p m c b_M_validate 2 ss args R_M) (hQ : ∀ (pc : Nat) (H : Heap) (locs : List Loc) (ls : Array Slot), XW g A ss (wM g z) H locs → decode b_M_validate pc = .ok (.return_, 1) → W p l e (rmX 5 117) ss m args below meth c H locs 0 0 Q (F0 m pc ls [])) (k38 : Int32 → SM → Option SM) (hk38 : ∀ (x1 : Int32) (s : SM) (H : Heap) (locs : List Loc) (ls : Array Slot), XW g A ss (wM g s) H locs → lv_has ls 2 [(0, .ref (g.q 60)), (1, .int x1)] → k38 x1 s = some z → W p l e (rmX 5 117) ss m args below meth c H locs 0 0 Q (F0 m 38 ls [])) : ∀ (x1 : Int32) (y1 : Int32) (s : SM) (H : Heap) (locs : List Loc) (ls : Array Slot), XW g A ss (wM g s) H locs → lv_has ls 2 [(0, .ref (g.q 60)), (1, .int x1)] → f_M_validate_67 k38 x1 y1 s = some z → W p l e (rmX 5 117) ss m args below meth c H locs 0 0 Q (F0 m 67 ls [.int y1, .ref (g.q 60)]) := by
  have ⟨⟨hx, hb, hml, hown, hts⟩, hK, hA, hN⟩ := C
  intro x1 y1 s H locs ls hX hl h
  rw [f_M_validate_67] at h
  refine lv_iconst (v := 3) hx hb d_M_validate_67 (by decide) ?_
  obtain ⟨s1, hc68, h⟩ := bd1_e h
  refine x_vV (As := [.int y1, .int 3]) (rest := []) C hX (c_M_will l g y1 3 s s1 hc68) (cw_M_158 C.1.2.2.2.2 C.2.2.2 ⟨by decide, by decide⟩) (x_rc C hX vg_0 rfl) rfl hl.1 rfl (lv_room (Nat.le_of_ble_eq_true rfl)) d_M_validate_68 ⟨Nat.le_refl _, Nat.le_refl _⟩ (fun H locs hX => ?_)
  obtain ⟨v2, ev2, h⟩ := lt1_e h
  refine lv_iinc (v := v2) (lv' := [(1, .int v2), (0, .ref (g.q 60))]) hx hb d_M_validate_71 hl (k := 1) rfl (by rw [ev2]; rfl) (by decide) rfl (fun ls hl => ?_)
  refine lv_goto (tgt := 38) hx hb d_M_validate_74 (by decide) ?_
  exact hk38 v2 s1 H locs ls hX (lv_sub hl [1, 0] rfl) h
set_option maxHeartbeats 4000000 in
set_option maxRecDepth 100000 in
theorem w_M_validate_38 {z : SM} (C : Cx g A p m c b_M_validate 2 ss args R_M) (hQ : ∀ (pc : Nat) (H : Heap) (locs : List Loc) (ls : Array Slot), XW g A ss (wM g z) H locs → decode b_M_validate pc = .ok (.return_, 1) → W p l e (rmX 5 117) ss m args below meth c H locs 0 0 Q (F0 m pc ls [])) (n : Nat) : ∀ (x1 : Int32) (s : SM) (H : Heap) (locs : List Loc) (ls : Array Slot), XW g A ss (wM g s) H locs → lv_has ls 2 [(0, .ref (g.q 60)), (1, .int x1)] → f_M_validate_38 n x1 s = some z → W p l e (rmX 5 117) ss m args below meth c H locs 0 0 Q (F0 m 38 ls []) := by
  have ⟨⟨hx, hb, hml, hown, hts⟩, hK, hA, hN⟩ := C
  induction n with
  | zero => intro x1 s H locs ls hX hl h; cases h
  | succ n ih =>
    intro x1 s H locs ls hX hl h
    rw [f_M_validate_38] at h
    refine lv_iload_n hx hb d_M_validate_38 rfl (lv_at hl 1 rfl) ?_
    refine lv_aload_n hx hb d_M_validate_39 rfl (lv_at hl 0 rfl) ?_
    refine gm_functions C hX fl_M_188 d_M_validate_40 ?_
    refine lv_icmp_ge (tgt := 77) hx hb d_M_validate_43 (by decide) (fun c43 => ?_) (fun c43 => ?_)
    · have h := ite_t c43 h
      refine lv_aload_n hx hb d_M_validate_77 rfl (lv_at hl 0 rfl) ?_
      refine lv_aload_n hx hb d_M_validate_78 rfl (lv_at hl 0 rfl) ?_
      refine gm_memories C hX fl_M_222 d_M_validate_79 ?_
      refine lv_if_eq (tgt := 104) hx hb d_M_validate_82 (by decide) (fun c82 => ?_) (fun c82 => ?_)
      · have h := ite_t c82 h
        exact w_M_validate_104 C hQ x1 s H locs ls hX hl h
      · have h := ite_f c82 h
        refine lv_aload_n hx hb d_M_validate_85 rfl (lv_at hl 0 rfl) ?_
        refine gm_capped C hX fl_M_228 d_M_validate_86 ?_
        refine lv_if_eq (tgt := 104) hx hb d_M_validate_89 (by decide) (fun c89 => ?_) (fun c89 => ?_)
        · have h := ite_t c89 h
          exact w_M_validate_104 C hQ x1 s H locs ls hX hl h
        · have h := ite_f c89 h
          refine lv_aload_n hx hb d_M_validate_92 rfl (lv_at hl 0 rfl) ?_
          refine gm_most C hX fl_M_237 d_M_validate_93 ?_
          refine lv_aload_n hx hb d_M_validate_96 rfl (lv_at hl 0 rfl) ?_
          refine gm_least C hX fl_M_231 d_M_validate_97 ?_
          obtain ⟨v1, ev1, h⟩ := lt1_e h
          refine x_lcmp hx hb d_M_validate_100 ev1 ?_
          refine lv_if_lt (tgt := 108) hx hb d_M_validate_101 (by decide) (fun c101 => ?_) (fun c101 => ?_)
          · have h := ite_t c101 h
            refine lv_iconst (v := 0) hx hb d_M_validate_108 (by decide) ?_
            exact w_M_validate_109 C hQ x1 0 s H locs ls hX hl h
          · have h := ite_f c101 h
            exact w_M_validate_104 C hQ x1 s H locs ls hX hl h
    · have h := ite_f c43 h
      refine lv_aload_n hx hb d_M_validate_46 rfl (lv_at hl 0 rfl) ?_
      refine lv_aload_n hx hb d_M_validate_47 rfl (lv_at hl 0 rfl) ?_
      refine gm_typeOf C hX fl_M_19 d_M_validate_48 ?_
      refine lv_iload_n hx hb d_M_validate_51 rfl (lv_at hl 1 rfl) ?_
      obtain ⟨hz52, h⟩ := gi_e h
      obtain ⟨v2, ev2, h⟩ := lt1_e h
      refine alm_4 C hX hz52 d_M_validate_52 ev2 ?_
      refine lv_aload_n hx hb d_M_validate_53 rfl (lv_at hl 0 rfl) ?_
      refine gm_types C hX fl_M_219 d_M_validate_54 ?_
      obtain ⟨v3, ev3, h⟩ := lt1_e h
      refine lv_i2l hx hb d_M_validate_57 ev3.symm ?_
      obtain ⟨v4, ev4, h⟩ := lt1_e h
      refine x_lcmp hx hb d_M_validate_58 ev4 ?_
      refine lv_if_ge (tgt := 66) hx hb d_M_validate_59 (by decide) (fun c59 => ?_) (fun c59 => ?_)
      · have h := ite_t c59 h
        refine lv_iconst (v := 0) hx hb d_M_validate_66 (by decide) ?_
        exact w_M_validate_67 C hQ (f_M_validate_38 n) ih x1 0 s H locs ls hX hl h
      · have h := ite_f c59 h
        refine lv_iconst (v := 1) hx hb d_M_validate_62 (by decide) ?_
        refine lv_goto (tgt := 67) hx hb d_M_validate_63 (by decide) ?_
        exact w_M_validate_67 C hQ (f_M_validate_38 n) ih x1 1 s H locs ls hX hl h
set_option maxHeartbeats 4000000 in
set_option maxRecDepth 100000 in
theorem w_M_validate_26 {z : SM} (C : Cx g A p m c b_M_validate 2 ss args R_M) (hQ : ∀ (pc : Nat) (H : Heap) (locs : List Loc) (ls : Array Slot), XW g A ss (wM g z) H locs → decode b_M_validate pc = .ok (.return_, 1) → W p l e (rmX 5 117) ss m args below meth c H locs 0 0 Q (F0 m pc ls [])) (k2 : Int32 → SM → Option SM) (hk2 : ∀ (x1 : Int32) (s : SM) (H : Heap) (locs : List Loc) (ls : Array Slot), XW g A ss (wM g s) H locs → lv_has ls 2 [(0, .ref (g.q 60)), (1, .int x1)] → k2 x1 s = some z → W p l e (rmX 5 117) ss m args below meth c H locs 0 0 Q (F0 m 2 ls [])) : ∀ (x1 : Int32) (y1 : Int32) (s : SM) (H : Heap) (locs : List Loc) (ls : Array Slot), XW g A ss (wM g s) H locs → lv_has ls 2 [(0, .ref (g.q 60)), (1, .int x1)] → f_M_validate_26 k2 x1 y1 s = some z → W p l e (rmX 5 117) ss m args below meth c H locs 0 0 Q (F0 m 26 ls [.int y1, .ref (g.q 60)]) := by
  have ⟨⟨hx, hb, hml, hown, hts⟩, hK, hA, hN⟩ := C
  intro x1 y1 s H locs ls hX hl h
  rw [f_M_validate_26] at h
  refine lv_iconst (v := 3) hx hb d_M_validate_26 (by decide) ?_
  obtain ⟨s1, hc27, h⟩ := bd1_e h
  refine x_vV (As := [.int y1, .int 3]) (rest := []) C hX (c_M_will l g y1 3 s s1 hc27) (cw_M_158 C.1.2.2.2.2 C.2.2.2 ⟨by decide, by decide⟩) (x_rc C hX vg_0 rfl) rfl hl.1 rfl (lv_room (Nat.le_of_ble_eq_true rfl)) d_M_validate_27 ⟨Nat.le_refl _, Nat.le_refl _⟩ (fun H locs hX => ?_)
  obtain ⟨v2, ev2, h⟩ := lt1_e h
  refine lv_iinc (v := v2) (lv' := [(1, .int v2), (0, .ref (g.q 60))]) hx hb d_M_validate_30 hl (k := 1) rfl (by rw [ev2]; rfl) (by decide) rfl (fun ls hl => ?_)
  refine lv_goto (tgt := 2) hx hb d_M_validate_33 (by decide) ?_
  exact hk2 v2 s1 H locs ls hX (lv_sub hl [1, 0] rfl) h
set_option maxHeartbeats 4000000 in
set_option maxRecDepth 100000 in
theorem w_M_validate_2 {z : SM} (C : Cx g A p m c b_M_validate 2 ss args R_M) (hQ : ∀ (pc : Nat) (H : Heap) (locs : List Loc) (ls : Array Slot), XW g A ss (wM g z) H locs → decode b_M_validate pc = .ok (.return_, 1) → W p l e (rmX 5 117) ss m args below meth c H locs 0 0 Q (F0 m pc ls [])) (n : Nat) : ∀ (x1 : Int32) (s : SM) (H : Heap) (locs : List Loc) (ls : Array Slot), XW g A ss (wM g s) H locs → lv_has ls 2 [(0, .ref (g.q 60)), (1, .int x1)] → f_M_validate_2 n x1 s = some z → W p l e (rmX 5 117) ss m args below meth c H locs 0 0 Q (F0 m 2 ls []) := by
  have ⟨⟨hx, hb, hml, hown, hts⟩, hK, hA, hN⟩ := C
  induction n with
  | zero => intro x1 s H locs ls hX hl h; cases h
  | succ n ih =>
    intro x1 s H locs ls hX hl h
    rw [f_M_validate_2] at h
    refine lv_iload_n hx hb d_M_validate_2 rfl (lv_at hl 1 rfl) ?_
    refine lv_aload_n hx hb d_M_validate_3 rfl (lv_at hl 0 rfl) ?_
    refine gm_types C hX fl_M_219 d_M_validate_4 ?_
    refine lv_icmp_ge (tgt := 36) hx hb d_M_validate_7 (by decide) (fun c7 => ?_) (fun c7 => ?_)
    · have h := ite_t c7 h
      refine lv_iconst (v := 0) hx hb d_M_validate_36 (by decide) ?_
      refine lv_istore_n (lv' := [(1, .int 0), (0, .ref (g.q 60))]) hx hb d_M_validate_37 rfl hl (by decide) rfl (fun ls hl => ?_)
      exact w_M_validate_38 C hQ FU 0 s H locs ls hX (lv_sub hl [1, 0] rfl) h
    · have h := ite_f c7 h
      refine lv_aload_n hx hb d_M_validate_10 rfl (lv_at hl 0 rfl) ?_
      refine lv_aload_n hx hb d_M_validate_11 rfl (lv_at hl 0 rfl) ?_
      refine gm_results C hX fl_M_16 d_M_validate_12 ?_
      refine lv_iload_n hx hb d_M_validate_15 rfl (lv_at hl 1 rfl) ?_
      obtain ⟨hz16, h⟩ := gi_e h
      obtain ⟨v1, ev1, h⟩ := lt1_e h
      refine alm_3 C hX hz16 d_M_validate_16 ev1 ?_
      refine lv_iconst (v := 2) hx hb d_M_validate_17 (by decide) ?_
      refine lv_icmp_ge (tgt := 25) hx hb d_M_validate_18 (by decide) (fun c18 => ?_) (fun c18 => ?_)
      · have h := ite_t c18 h
        refine lv_iconst (v := 0) hx hb d_M_validate_25 (by decide) ?_
        exact w_M_validate_26 C hQ (f_M_validate_2 n) ih x1 0 s H locs ls hX hl h
      · have h := ite_f c18 h
        refine lv_iconst (v := 1) hx hb d_M_validate_21 (by decide) ?_
        refine lv_goto (tgt := 26) hx hb d_M_validate_22 (by decide) ?_
        exact w_M_validate_26 C hQ (f_M_validate_2 n) ih x1 1 s H locs ls hX hl h
set_option maxHeartbeats 4000000 in
set_option maxRecDepth 100000 in
theorem w_M_validate {z : SM} (C : Cx g A p m c b_M_validate 2 ss args R_M) (hQ : ∀ (pc : Nat) (H : Heap) (locs : List Loc) (ls : Array Slot), XW g A ss (wM g z) H locs → decode b_M_validate pc = .ok (.return_, 1) → W p l e (rmX 5 117) ss m args below meth c H locs 0 0 Q (F0 m pc ls [])) : ∀ (s : SM) (H : Heap) (locs : List Loc) (ls : Array Slot), XW g A ss (wM g s) H locs → lv_has ls 2 [(0, .ref (g.q 60))] → f_M_validate s = some z → W p l e (rmX 5 117) ss m args below meth c H locs 0 0 Q (F0 m 0 ls []) := by
  have ⟨⟨hx, hb, hml, hown, hts⟩, hK, hA, hN⟩ := C
  intro s H locs ls hX hl h
  rw [f_M_validate] at h
  refine lv_iconst (v := 0) hx hb d_M_validate_0 (by decide) ?_
  refine lv_istore_n (lv' := [(1, .int 0), (0, .ref (g.q 60))]) hx hb d_M_validate_1 rfl hl (by decide) rfl (fun ls hl => ?_)
  exact w_M_validate_2 C hQ FU 0 s H locs ls hX (lv_sub hl [1, 0] rfl) h
end WALK
theorem c_M_validate (l : Launch) (g : GX) (s : SM) (z : SM) (h : f_M_validate s = some z) : MV l g y_M_validate b_M_validate 2 none 5 117 [.ref (g.q 60)] (wM g s) (wM g z) :=
  MV.mk (own := R_M) (by decide) rfl (Nat.le_of_ble_eq_true rfl) fun p e ss m below meth c A Q C hQ ls hX hl => w_M_validate C hQ s _ _ ls hX hl h
