-- Op_divided
def f_Op_divided_86 (x0 : Int32) (x1 : Int32) (x2 : Int32) (x3 : Int32) (x4 : Int64) (x6 : Int64) (y0 : Int64) : Option Int32 :=
    lt1 (Int64.toInt32 y0) fun v1 =>
    some (v1)
def f_Op_divided_73 (x0 : Int32) (x1 : Int32) (x2 : Int32) (x3 : Int32) (x4 : Int64) (x6 : Int64) : Option Int32 :=
    gzl (x6) <|
    lt1 (x4 / x6) fun v1 =>
    f_Op_divided_86 x0 x1 x2 x3 x4 x6 v1
def f_Op_divided_50 (x0 : Int32) (x1 : Int32) (x2 : Int32) (x3 : Int32) (x4 : Int64) (y0 : Int64) : Option Int32 :=
    lt1 (lg_cmp y0 0) fun v1 =>
    if v1 = 0 then
      some (0)
    else
      if x0 = 109 then
        f_Op_divided_73 x0 x1 x2 x3 x4 y0
      else
        if x0 = 110 then
          f_Op_divided_73 x0 x1 x2 x3 x4 y0
        else
          gzl (y0) <|
          lt1 (x4 - x4 / y0 * y0) fun v2 =>
          f_Op_divided_86 x0 x1 x2 x3 x4 y0 v2
def f_Op_divided_33 (x0 : Int32) (x1 : Int32) (x2 : Int32) (x3 : Int32) (y0 : Int64) : Option Int32 :=
    if x3 = 0 then
      lt1 (Int32.toInt64 x2) fun v1 =>
      lt1 (v1 &&& 4294967295) fun v2 =>
      f_Op_divided_50 x0 x1 x2 x3 y0 v2
    else
      lt1 (Int32.toInt64 x2) fun v3 =>
      f_Op_divided_50 x0 x1 x2 x3 y0 v3
def f_Op_divided_17 (x0 : Int32) (x1 : Int32) (x2 : Int32) (y0 : Int32) : Option Int32 :=
    if y0 = 0 then
      lt1 (Int32.toInt64 x1) fun v1 =>
      lt1 (v1 &&& 4294967295) fun v2 =>
      f_Op_divided_33 x0 x1 x2 y0 v2
    else
      lt1 (Int32.toInt64 x1) fun v3 =>
      f_Op_divided_33 x0 x1 x2 y0 v3
def f_Op_divided_12 (x0 : Int32) (x1 : Int32) (x2 : Int32) : Option Int32 :=
    f_Op_divided_17 x0 x1 x2 1
def f_Op_divided (x0 : Int32) (x1 : Int32) (x2 : Int32) : Option Int32 :=
    if x0 = 109 then
      f_Op_divided_12 x0 x1 x2
    else
      if x0 = 111 then
        f_Op_divided_12 x0 x1 x2
      else
        f_Op_divided_17 x0 x1 x2 0
section WALK
variable {p : Program} {l : Launch} {e : Env} {ss : State} {m : MethodId} {args : Array Value} {below : List Frame} {meth : Method} {c : Code} {Q : State → Prop} {g : GX} {A : Nat → Prop}
set_option maxHeartbeats 4000000 in
set_option maxRecDepth 100000 in
theorem w_Op_divided_86 {ws : va_W} {z : Int32} (C : Cx g A p m c b_Op_divided 8 ss args R_Op) (hQ : ∀ (pc : Nat) (H : Heap) (locs : List Loc) (ls : Array Slot), XW g A ss ws H locs → decode b_Op_divided pc = .ok (.ireturn, 1) → W p l e (rmX 0 0) ss m args below meth c H locs 0 0 Q (F0 m pc ls [.int z])) : ∀ (x0 : Int32) (x1 : Int32) (x2 : Int32) (x3 : Int32) (x4 : Int64) (x6 : Int64) (y0 : Int64) (H : Heap) (locs : List Loc) (ls : Array Slot), XW g A ss ws H locs → lv_has ls 8 [(0, .int x0), (1, .int x1), (2, .int x2), (3, .int x3), (4, .long x4), (6, .long x6)] → f_Op_divided_86 x0 x1 x2 x3 x4 x6 y0 = some z → W p l e (rmX 0 0) ss m args below meth c H locs 0 0 Q (F0 m 86 ls [.long y0]) := by
  have ⟨⟨hx, hb, hml, hown, hts⟩, hK, hA, hN⟩ := C
  intro x0 x1 x2 x3 x4 x6 y0 H locs ls hX hl h
  rw [f_Op_divided_86] at h
  obtain ⟨v1, ev1, h⟩ := lt1_e h
  refine lv_l2i hx hb d_Op_divided_86 ev1.symm ?_
  obtain rfl := so1 h
  exact hQ _ H locs ls hX d_Op_divided_87
set_option maxHeartbeats 4000000 in
set_option maxRecDepth 100000 in
theorem w_Op_divided_73 {ws : va_W} {z : Int32} (C : Cx g A p m c b_Op_divided 8 ss args R_Op) (hQ : ∀ (pc : Nat) (H : Heap) (locs : List Loc) (ls : Array Slot), XW g A ss ws H locs → decode b_Op_divided pc = .ok (.ireturn, 1) → W p l e (rmX 0 0) ss m args below meth c H locs 0 0 Q (F0 m pc ls [.int z])) : ∀ (x0 : Int32) (x1 : Int32) (x2 : Int32) (x3 : Int32) (x4 : Int64) (x6 : Int64) (H : Heap) (locs : List Loc) (ls : Array Slot), XW g A ss ws H locs → lv_has ls 8 [(0, .int x0), (1, .int x1), (2, .int x2), (3, .int x3), (4, .long x4), (6, .long x6)] → f_Op_divided_73 x0 x1 x2 x3 x4 x6 = some z → W p l e (rmX 0 0) ss m args below meth c H locs 0 0 Q (F0 m 73 ls []) := by
  have ⟨⟨hx, hb, hml, hown, hts⟩, hK, hA, hN⟩ := C
  intro x0 x1 x2 x3 x4 x6 H locs ls hX hl h
  rw [f_Op_divided_73] at h
  refine lv_lload hx hb d_Op_divided_73 (lv_at hl 4 rfl) ?_
  refine lv_lload hx hb d_Op_divided_75 (lv_at hl 5 rfl) ?_
  obtain ⟨hz77, h⟩ := gzl_e h
  obtain ⟨v1, ev1, h⟩ := lt1_e h
  refine x_ldiv hx hb d_Op_divided_77 hz77 ev1 ?_
  refine lv_goto (tgt := 86) hx hb d_Op_divided_78 (by decide) ?_
  exact w_Op_divided_86 C hQ x0 x1 x2 x3 x4 x6 v1 H locs ls hX hl h
set_option maxHeartbeats 4000000 in
set_option maxRecDepth 100000 in
theorem w_Op_divided_50 {ws : va_W} {z : Int32} (C : Cx g A p m c b_Op_divided 8 ss args R_Op) (hQ : ∀ (pc : Nat) (H : Heap) (locs : List Loc) (ls : Array Slot), XW g A ss ws H locs → decode b_Op_divided pc = .ok (.ireturn, 1) → W p l e (rmX 0 0) ss m args below meth c H locs 0 0 Q (F0 m pc ls [.int z])) : ∀ (x0 : Int32) (x1 : Int32) (x2 : Int32) (x3 : Int32) (x4 : Int64) (y0 : Int64) (H : Heap) (locs : List Loc) (ls : Array Slot), XW g A ss ws H locs → lv_has ls 8 [(0, .int x0), (1, .int x1), (2, .int x2), (3, .int x3), (4, .long x4)] → f_Op_divided_50 x0 x1 x2 x3 x4 y0 = some z → W p l e (rmX 0 0) ss m args below meth c H locs 0 0 Q (F0 m 50 ls [.long y0]) := by
  have ⟨⟨hx, hb, hml, hown, hts⟩, hK, hA, hN⟩ := C
  intro x0 x1 x2 x3 x4 y0 H locs ls hX hl h
  rw [f_Op_divided_50] at h
  refine lv_lstore (lv' := [(6, .long y0), (0, .int x0), (1, .int x1), (2, .int x2), (3, .int x3), (4, .long x4)]) hx hb d_Op_divided_50 hl (by decide) rfl (fun ls hl => ?_)
  refine lv_lload hx hb d_Op_divided_52 (lv_at hl 0 rfl) ?_
  refine lv_lconst (v := 0) hx hb d_Op_divided_54 (by decide) ?_
  obtain ⟨v1, ev1, h⟩ := lt1_e h
  refine x_lcmp hx hb d_Op_divided_55 ev1 ?_
  refine lv_if_ne (tgt := 61) hx hb d_Op_divided_56 (by decide) (fun c56 => ?_) (fun c56 => ?_)
  · have h := ite_f c56 h
    refine lv_iload_n hx hb d_Op_divided_61 rfl (lv_at hl 1 rfl) ?_
    refine lv_bipush (v := 109) hx hb d_Op_divided_62 (by decide) ?_
    refine lv_icmp_eq (tgt := 73) hx hb d_Op_divided_64 (by decide) (fun c64 => ?_) (fun c64 => ?_)
    · have h := ite_t c64 h
      exact w_Op_divided_73 C hQ x0 x1 x2 x3 x4 y0 H locs ls hX (lv_sub hl [1, 2, 3, 4, 5, 0] rfl) h
    · have h := ite_f c64 h
      refine lv_iload_n hx hb d_Op_divided_67 rfl (lv_at hl 1 rfl) ?_
      refine lv_bipush (v := 110) hx hb d_Op_divided_68 (by decide) ?_
      refine lv_icmp_ne (tgt := 81) hx hb d_Op_divided_70 (by decide) (fun c70 => ?_) (fun c70 => ?_)
      · have h := ite_f c70 h
        refine lv_lload hx hb d_Op_divided_81 (lv_at hl 5 rfl) ?_
        refine lv_lload hx hb d_Op_divided_83 (lv_at hl 0 rfl) ?_
        obtain ⟨hz85, h⟩ := gzl_e h
        obtain ⟨v2, ev2, h⟩ := lt1_e h
        refine x_lrem hx hb d_Op_divided_85 hz85 ev2 ?_
        exact w_Op_divided_86 C hQ x0 x1 x2 x3 x4 y0 v2 H locs ls hX (lv_sub hl [1, 2, 3, 4, 5, 0] rfl) h
      · have h := ite_t c70 h
        exact w_Op_divided_73 C hQ x0 x1 x2 x3 x4 y0 H locs ls hX (lv_sub hl [1, 2, 3, 4, 5, 0] rfl) h
  · have h := ite_t c56 h
    refine lv_iconst (v := 0) hx hb d_Op_divided_59 (by decide) ?_
    obtain rfl := so1 h
    exact hQ _ H locs ls hX d_Op_divided_60
set_option maxHeartbeats 4000000 in
set_option maxRecDepth 100000 in
theorem w_Op_divided_33 {ws : va_W} {z : Int32} (C : Cx g A p m c b_Op_divided 8 ss args R_Op) (hQ : ∀ (pc : Nat) (H : Heap) (locs : List Loc) (ls : Array Slot), XW g A ss ws H locs → decode b_Op_divided pc = .ok (.ireturn, 1) → W p l e (rmX 0 0) ss m args below meth c H locs 0 0 Q (F0 m pc ls [.int z])) : ∀ (x0 : Int32) (x1 : Int32) (x2 : Int32) (x3 : Int32) (y0 : Int64) (H : Heap) (locs : List Loc) (ls : Array Slot), XW g A ss ws H locs → lv_has ls 8 [(0, .int x0), (1, .int x1), (2, .int x2), (3, .int x3)] → f_Op_divided_33 x0 x1 x2 x3 y0 = some z → W p l e (rmX 0 0) ss m args below meth c H locs 0 0 Q (F0 m 33 ls [.long y0]) := by
  have ⟨⟨hx, hb, hml, hown, hts⟩, hK, hA, hN⟩ := C
  intro x0 x1 x2 x3 y0 H locs ls hX hl h
  rw [f_Op_divided_33] at h
  refine lv_lstore (lv' := [(4, .long y0), (0, .int x0), (1, .int x1), (2, .int x2), (3, .int x3)]) hx hb d_Op_divided_33 hl (by decide) rfl (fun ls hl => ?_)
  refine lv_iload_n hx hb d_Op_divided_35 rfl (lv_at hl 4 rfl) ?_
  refine lv_if_eq (tgt := 44) hx hb d_Op_divided_36 (by decide) (fun c36 => ?_) (fun c36 => ?_)
  · have h := ite_t c36 h
    refine lv_iload_n hx hb d_Op_divided_44 rfl (lv_at hl 3 rfl) ?_
    obtain ⟨v1, ev1, h⟩ := lt1_e h
    refine lv_i2l hx hb d_Op_divided_45 ev1.symm ?_
    refine lv_ldc2 (v := 4294967295) hx hb hown (hts _ m_constantLong_Op_45) d_Op_divided_46 ?_
    obtain ⟨v2, ev2, h⟩ := lt1_e h
    refine x_land hx hb d_Op_divided_49 ev2 ?_
    exact w_Op_divided_50 C hQ x0 x1 x2 x3 y0 v2 H locs ls hX (lv_sub hl [1, 2, 3, 4, 0] rfl) h
  · have h := ite_f c36 h
    refine lv_iload_n hx hb d_Op_divided_39 rfl (lv_at hl 3 rfl) ?_
    obtain ⟨v3, ev3, h⟩ := lt1_e h
    refine lv_i2l hx hb d_Op_divided_40 ev3.symm ?_
    refine lv_goto (tgt := 50) hx hb d_Op_divided_41 (by decide) ?_
    exact w_Op_divided_50 C hQ x0 x1 x2 x3 y0 v3 H locs ls hX (lv_sub hl [1, 2, 3, 4, 0] rfl) h
set_option maxHeartbeats 4000000 in
set_option maxRecDepth 100000 in
theorem w_Op_divided_17 {ws : va_W} {z : Int32} (C : Cx g A p m c b_Op_divided 8 ss args R_Op) (hQ : ∀ (pc : Nat) (H : Heap) (locs : List Loc) (ls : Array Slot), XW g A ss ws H locs → decode b_Op_divided pc = .ok (.ireturn, 1) → W p l e (rmX 0 0) ss m args below meth c H locs 0 0 Q (F0 m pc ls [.int z])) : ∀ (x0 : Int32) (x1 : Int32) (x2 : Int32) (y0 : Int32) (H : Heap) (locs : List Loc) (ls : Array Slot), XW g A ss ws H locs → lv_has ls 8 [(0, .int x0), (1, .int x1), (2, .int x2)] → f_Op_divided_17 x0 x1 x2 y0 = some z → W p l e (rmX 0 0) ss m args below meth c H locs 0 0 Q (F0 m 17 ls [.int y0]) := by
  have ⟨⟨hx, hb, hml, hown, hts⟩, hK, hA, hN⟩ := C
  intro x0 x1 x2 y0 H locs ls hX hl h
  rw [f_Op_divided_17] at h
  refine lv_istore_n (lv' := [(3, .int y0), (0, .int x0), (1, .int x1), (2, .int x2)]) hx hb d_Op_divided_17 rfl hl (by decide) rfl (fun ls hl => ?_)
  refine lv_iload_n hx hb d_Op_divided_18 rfl (lv_at hl 0 rfl) ?_
  refine lv_if_eq (tgt := 27) hx hb d_Op_divided_19 (by decide) (fun c19 => ?_) (fun c19 => ?_)
  · have h := ite_t c19 h
    refine lv_iload_n hx hb d_Op_divided_27 rfl (lv_at hl 2 rfl) ?_
    obtain ⟨v1, ev1, h⟩ := lt1_e h
    refine lv_i2l hx hb d_Op_divided_28 ev1.symm ?_
    refine lv_ldc2 (v := 4294967295) hx hb hown (hts _ m_constantLong_Op_45) d_Op_divided_29 ?_
    obtain ⟨v2, ev2, h⟩ := lt1_e h
    refine x_land hx hb d_Op_divided_32 ev2 ?_
    exact w_Op_divided_33 C hQ x0 x1 x2 y0 v2 H locs ls hX (lv_sub hl [1, 2, 3, 0] rfl) h
  · have h := ite_f c19 h
    refine lv_iload_n hx hb d_Op_divided_22 rfl (lv_at hl 2 rfl) ?_
    obtain ⟨v3, ev3, h⟩ := lt1_e h
    refine lv_i2l hx hb d_Op_divided_23 ev3.symm ?_
    refine lv_goto (tgt := 33) hx hb d_Op_divided_24 (by decide) ?_
    exact w_Op_divided_33 C hQ x0 x1 x2 y0 v3 H locs ls hX (lv_sub hl [1, 2, 3, 0] rfl) h
set_option maxHeartbeats 4000000 in
set_option maxRecDepth 100000 in
theorem w_Op_divided_12 {ws : va_W} {z : Int32} (C : Cx g A p m c b_Op_divided 8 ss args R_Op) (hQ : ∀ (pc : Nat) (H : Heap) (locs : List Loc) (ls : Array Slot), XW g A ss ws H locs → decode b_Op_divided pc = .ok (.ireturn, 1) → W p l e (rmX 0 0) ss m args below meth c H locs 0 0 Q (F0 m pc ls [.int z])) : ∀ (x0 : Int32) (x1 : Int32) (x2 : Int32) (H : Heap) (locs : List Loc) (ls : Array Slot), XW g A ss ws H locs → lv_has ls 8 [(0, .int x0), (1, .int x1), (2, .int x2)] → f_Op_divided_12 x0 x1 x2 = some z → W p l e (rmX 0 0) ss m args below meth c H locs 0 0 Q (F0 m 12 ls []) := by
  have ⟨⟨hx, hb, hml, hown, hts⟩, hK, hA, hN⟩ := C
  intro x0 x1 x2 H locs ls hX hl h
  rw [f_Op_divided_12] at h
  refine lv_iconst (v := 1) hx hb d_Op_divided_12 (by decide) ?_
  refine lv_goto (tgt := 17) hx hb d_Op_divided_13 (by decide) ?_
  exact w_Op_divided_17 C hQ x0 x1 x2 1 H locs ls hX hl h
set_option maxHeartbeats 4000000 in
set_option maxRecDepth 100000 in
theorem w_Op_divided {ws : va_W} {z : Int32} (C : Cx g A p m c b_Op_divided 8 ss args R_Op) (hQ : ∀ (pc : Nat) (H : Heap) (locs : List Loc) (ls : Array Slot), XW g A ss ws H locs → decode b_Op_divided pc = .ok (.ireturn, 1) → W p l e (rmX 0 0) ss m args below meth c H locs 0 0 Q (F0 m pc ls [.int z])) : ∀ (x0 : Int32) (x1 : Int32) (x2 : Int32) (H : Heap) (locs : List Loc) (ls : Array Slot), XW g A ss ws H locs → lv_has ls 8 [(0, .int x0), (1, .int x1), (2, .int x2)] → f_Op_divided x0 x1 x2 = some z → W p l e (rmX 0 0) ss m args below meth c H locs 0 0 Q (F0 m 0 ls []) := by
  have ⟨⟨hx, hb, hml, hown, hts⟩, hK, hA, hN⟩ := C
  intro x0 x1 x2 H locs ls hX hl h
  rw [f_Op_divided] at h
  refine lv_iload_n hx hb d_Op_divided_0 rfl (lv_at hl 0 rfl) ?_
  refine lv_bipush (v := 109) hx hb d_Op_divided_1 (by decide) ?_
  refine lv_icmp_eq (tgt := 12) hx hb d_Op_divided_3 (by decide) (fun c3 => ?_) (fun c3 => ?_)
  · have h := ite_t c3 h
    exact w_Op_divided_12 C hQ x0 x1 x2 H locs ls hX hl h
  · have h := ite_f c3 h
    refine lv_iload_n hx hb d_Op_divided_6 rfl (lv_at hl 0 rfl) ?_
    refine lv_bipush (v := 111) hx hb d_Op_divided_7 (by decide) ?_
    refine lv_icmp_ne (tgt := 16) hx hb d_Op_divided_9 (by decide) (fun c9 => ?_) (fun c9 => ?_)
    · have h := ite_f c9 h
      refine lv_iconst (v := 0) hx hb d_Op_divided_16 (by decide) ?_
      exact w_Op_divided_17 C hQ x0 x1 x2 0 H locs ls hX hl h
    · have h := ite_t c9 h
      exact w_Op_divided_12 C hQ x0 x1 x2 H locs ls hX hl h
end WALK
theorem c_Op_divided (l : Launch) (g : GX) (x0 : Int32) (x1 : Int32) (x2 : Int32) (z : Int32) (h : f_Op_divided x0 x1 x2 = some z) (ws : va_W) : MI l g y_Op_divided b_Op_divided 8 (some .int) 0 0 [.int x0, .int x1, .int x2] ws z ws :=
  MI.mk (own := R_Op) (by decide) rfl (Nat.le_of_ble_eq_true rfl) fun p e ss m below meth c A Q C hQ ls hX hl => w_Op_divided C hQ x0 x1 x2 _ _ ls hX hl h
-- Op_ofTwo
def f_Op_ofTwo_158 (x0 : Int32) (x1 : Int32) (x2 : Int32) : Option Int32 :=
    bd1 (f_Op_divided x0 x1 x2) fun r1 =>
    some (r1)
def f_Op_ofTwo_27 (x0 : Int32) (x1 : Int32) (x2 : Int32) : Option Int32 :=
    if x0 = 106 then
      lt1 (x1 + x2) fun v1 =>
      some (v1)
    else if x0 = 107 then
      lt1 (x1 - x2) fun v2 =>
      some (v2)
    else if x0 = 108 then
      lt1 (x1 * x2) fun v3 =>
      some (v3)
    else if x0 = 113 then
      lt1 (x1 &&& x2) fun v4 =>
      some (v4)
    else if x0 = 114 then
      lt1 (x1 ||| x2) fun v5 =>
      some (v5)
    else if x0 = 115 then
      lt1 (x1 ^^^ x2) fun v6 =>
      some (v6)
    else if x0 = 116 then
      lt1 (x1 <<< (x2 &&& 31)) fun v7 =>
      some (v7)
    else if x0 = 117 then
      lt1 (x1 >>> (x2 &&& 31)) fun v8 =>
      some (v8)
    else if x0 = 118 then
      lt1 (ush x1 x2) fun v9 =>
      some (v9)
    else if x0 = 119 then
      lt1 (x1 <<< (x2 &&& 31)) fun v10 =>
      lt1 (-x2) fun v11 =>
      lt1 (ush x1 v11) fun v12 =>
      lt1 (v10 ||| v12) fun v13 =>
      some (v13)
    else if x0 = 120 then
      lt1 (ush x1 x2) fun v14 =>
      lt1 (-x2) fun v15 =>
      lt1 (x1 <<< (v15 &&& 31)) fun v16 =>
      lt1 (v14 ||| v16) fun v17 =>
      some (v17)
    else 
      f_Op_ofTwo_158 x0 x1 x2
def f_Op_ofTwo_26 (x0 : Int32) (x1 : Int32) (x2 : Int32) (y0 : Int32) : Option Int32 :=
    some (y0)
def f_Op_ofTwo (x0 : Int32) (x1 : Int32) (x2 : Int32) : Option Int32 :=
    if x0 < 70 then
      f_Op_ofTwo_27 x0 x1 x2
    else
      if 79 < x0 then
        f_Op_ofTwo_27 x0 x1 x2
      else
        bd1 (f_Op_isTrue x0 x1 x2) fun r1 =>
        if r1 = 0 then
          f_Op_ofTwo_26 x0 x1 x2 0
        else
          f_Op_ofTwo_26 x0 x1 x2 1
section WALK
variable {p : Program} {l : Launch} {e : Env} {ss : State} {m : MethodId} {args : Array Value} {below : List Frame} {meth : Method} {c : Code} {Q : State → Prop} {g : GX} {A : Nat → Prop}
set_option maxHeartbeats 4000000 in
set_option maxRecDepth 100000 in
theorem w_Op_ofTwo_158 {ws : va_W} {z : Int32} (C : Cx g A p m c b_Op_ofTwo 3 ss args R_Op) (hQ : ∀ (pc : Nat) (H : Heap) (locs : List Loc) (ls : Array Slot), XW g A ss ws H locs → decode b_Op_ofTwo pc = .ok (.ireturn, 1) → W p l e (rmX 1 27) ss m args below meth c H locs 0 0 Q (F0 m pc ls [.int z])) : ∀ (x0 : Int32) (x1 : Int32) (x2 : Int32) (H : Heap) (locs : List Loc) (ls : Array Slot), XW g A ss ws H locs → lv_has ls 3 [(0, .int x0), (1, .int x1), (2, .int x2)] → f_Op_ofTwo_158 x0 x1 x2 = some z → W p l e (rmX 1 27) ss m args below meth c H locs 0 0 Q (F0 m 158 ls []) := by
  have ⟨⟨hx, hb, hml, hown, hts⟩, hK, hA, hN⟩ := C
  intro x0 x1 x2 H locs ls hX hl h
  rw [f_Op_ofTwo_158] at h
  refine lv_iload_n hx hb d_Op_ofTwo_158 rfl (lv_at hl 0 rfl) ?_
  refine lv_iload_n hx hb d_Op_ofTwo_159 rfl (lv_at hl 1 rfl) ?_
  refine lv_iload_n hx hb d_Op_ofTwo_160 rfl (lv_at hl 2 rfl) ?_
  obtain ⟨r1, hc161, h⟩ := bd1_e h
  refine x_sI (As := [.int x0, .int x1, .int x2]) (rest := []) C hX (c_Op_divided l g x0 x1 x2 r1 hc161 _) (cw_Op_40 C.1.2.2.2.2 C.2.2.2 ⟨by decide, by decide⟩) rfl hl.1 rfl (lv_room (Nat.le_of_ble_eq_true rfl)) d_Op_ofTwo_161 ⟨Nat.le_refl _, Nat.le_refl _⟩ (fun H locs hX => ?_)
  obtain rfl := so1 h
  exact hQ _ H locs ls hX d_Op_ofTwo_164
set_option maxHeartbeats 4000000 in
set_option maxRecDepth 100000 in
theorem w_Op_ofTwo_27 {ws : va_W} {z : Int32} (C : Cx g A p m c b_Op_ofTwo 3 ss args R_Op) (hQ : ∀ (pc : Nat) (H : Heap) (locs : List Loc) (ls : Array Slot), XW g A ss ws H locs → decode b_Op_ofTwo pc = .ok (.ireturn, 1) → W p l e (rmX 1 27) ss m args below meth c H locs 0 0 Q (F0 m pc ls [.int z])) : ∀ (x0 : Int32) (x1 : Int32) (x2 : Int32) (H : Heap) (locs : List Loc) (ls : Array Slot), XW g A ss ws H locs → lv_has ls 3 [(0, .int x0), (1, .int x1), (2, .int x2)] → f_Op_ofTwo_27 x0 x1 x2 = some z → W p l e (rmX 1 27) ss m args below meth c H locs 0 0 Q (F0 m 27 ls []) := by
  have ⟨⟨hx, hb, hml, hown, hts⟩, hK, hA, hN⟩ := C
  intro x0 x1 x2 H locs ls hX hl h
  rw [f_Op_ofTwo_27] at h
  refine lv_iload_n hx hb d_Op_ofTwo_27 rfl (lv_at hl 0 rfl) ?_
  by_cases c28_0 : x0 = 106
  · have h := ite_t c28_0 h
    refine lv_tableIn (tgt := 104) hx hb d_Op_ofTwo_28 (by rw [c28_0]; decide) (by rw [c28_0]; decide) (by rw [c28_0]; rfl) (by decide) ?_
    refine lv_iload_n hx hb d_Op_ofTwo_104 rfl (lv_at hl 1 rfl) ?_
    refine lv_iload_n hx hb d_Op_ofTwo_105 rfl (lv_at hl 2 rfl) ?_
    obtain ⟨v1, ev1, h⟩ := lt1_e h
    refine x_iadd hx hb d_Op_ofTwo_106 ev1 ?_
    obtain rfl := so1 h
    exact hQ _ H locs ls hX d_Op_ofTwo_107
  have h := ite_f c28_0 h
  by_cases c28_1 : x0 = 107
  · have h := ite_t c28_1 h
    refine lv_tableIn (tgt := 108) hx hb d_Op_ofTwo_28 (by rw [c28_1]; decide) (by rw [c28_1]; decide) (by rw [c28_1]; rfl) (by decide) ?_
    refine lv_iload_n hx hb d_Op_ofTwo_108 rfl (lv_at hl 1 rfl) ?_
    refine lv_iload_n hx hb d_Op_ofTwo_109 rfl (lv_at hl 2 rfl) ?_
    obtain ⟨v2, ev2, h⟩ := lt1_e h
    refine x_isub hx hb d_Op_ofTwo_110 ev2 ?_
    obtain rfl := so1 h
    exact hQ _ H locs ls hX d_Op_ofTwo_111
  have h := ite_f c28_1 h
  by_cases c28_2 : x0 = 108
  · have h := ite_t c28_2 h
    refine lv_tableIn (tgt := 112) hx hb d_Op_ofTwo_28 (by rw [c28_2]; decide) (by rw [c28_2]; decide) (by rw [c28_2]; rfl) (by decide) ?_
    refine lv_iload_n hx hb d_Op_ofTwo_112 rfl (lv_at hl 1 rfl) ?_
    refine lv_iload_n hx hb d_Op_ofTwo_113 rfl (lv_at hl 2 rfl) ?_
    obtain ⟨v3, ev3, h⟩ := lt1_e h
    refine x_imul hx hb d_Op_ofTwo_114 ev3 ?_
    obtain rfl := so1 h
    exact hQ _ H locs ls hX d_Op_ofTwo_115
  have h := ite_f c28_2 h
  by_cases c28_3 : x0 = 113
  · have h := ite_t c28_3 h
    refine lv_tableIn (tgt := 116) hx hb d_Op_ofTwo_28 (by rw [c28_3]; decide) (by rw [c28_3]; decide) (by rw [c28_3]; rfl) (by decide) ?_
    refine lv_iload_n hx hb d_Op_ofTwo_116 rfl (lv_at hl 1 rfl) ?_
    refine lv_iload_n hx hb d_Op_ofTwo_117 rfl (lv_at hl 2 rfl) ?_
    obtain ⟨v4, ev4, h⟩ := lt1_e h
    refine x_iand hx hb d_Op_ofTwo_118 ev4 ?_
    obtain rfl := so1 h
    exact hQ _ H locs ls hX d_Op_ofTwo_119
  have h := ite_f c28_3 h
  by_cases c28_4 : x0 = 114
  · have h := ite_t c28_4 h
    refine lv_tableIn (tgt := 120) hx hb d_Op_ofTwo_28 (by rw [c28_4]; decide) (by rw [c28_4]; decide) (by rw [c28_4]; rfl) (by decide) ?_
    refine lv_iload_n hx hb d_Op_ofTwo_120 rfl (lv_at hl 1 rfl) ?_
    refine lv_iload_n hx hb d_Op_ofTwo_121 rfl (lv_at hl 2 rfl) ?_
    obtain ⟨v5, ev5, h⟩ := lt1_e h
    refine x_ior hx hb d_Op_ofTwo_122 ev5 ?_
    obtain rfl := so1 h
    exact hQ _ H locs ls hX d_Op_ofTwo_123
  have h := ite_f c28_4 h
  by_cases c28_5 : x0 = 115
  · have h := ite_t c28_5 h
    refine lv_tableIn (tgt := 124) hx hb d_Op_ofTwo_28 (by rw [c28_5]; decide) (by rw [c28_5]; decide) (by rw [c28_5]; rfl) (by decide) ?_
    refine lv_iload_n hx hb d_Op_ofTwo_124 rfl (lv_at hl 1 rfl) ?_
    refine lv_iload_n hx hb d_Op_ofTwo_125 rfl (lv_at hl 2 rfl) ?_
    obtain ⟨v6, ev6, h⟩ := lt1_e h
    refine x_ixor hx hb d_Op_ofTwo_126 ev6 ?_
    obtain rfl := so1 h
    exact hQ _ H locs ls hX d_Op_ofTwo_127
  have h := ite_f c28_5 h
  by_cases c28_6 : x0 = 116
  · have h := ite_t c28_6 h
    refine lv_tableIn (tgt := 128) hx hb d_Op_ofTwo_28 (by rw [c28_6]; decide) (by rw [c28_6]; decide) (by rw [c28_6]; rfl) (by decide) ?_
    refine lv_iload_n hx hb d_Op_ofTwo_128 rfl (lv_at hl 1 rfl) ?_
    refine lv_iload_n hx hb d_Op_ofTwo_129 rfl (lv_at hl 2 rfl) ?_
    obtain ⟨v7, ev7, h⟩ := lt1_e h
    refine x_ishl hx hb d_Op_ofTwo_130 ev7 ?_
    obtain rfl := so1 h
    exact hQ _ H locs ls hX d_Op_ofTwo_131
  have h := ite_f c28_6 h
  by_cases c28_7 : x0 = 117
  · have h := ite_t c28_7 h
    refine lv_tableIn (tgt := 132) hx hb d_Op_ofTwo_28 (by rw [c28_7]; decide) (by rw [c28_7]; decide) (by rw [c28_7]; rfl) (by decide) ?_
    refine lv_iload_n hx hb d_Op_ofTwo_132 rfl (lv_at hl 1 rfl) ?_
    refine lv_iload_n hx hb d_Op_ofTwo_133 rfl (lv_at hl 2 rfl) ?_
    obtain ⟨v8, ev8, h⟩ := lt1_e h
    refine x_ishr hx hb d_Op_ofTwo_134 ev8 ?_
    obtain rfl := so1 h
    exact hQ _ H locs ls hX d_Op_ofTwo_135
  have h := ite_f c28_7 h
  by_cases c28_8 : x0 = 118
  · have h := ite_t c28_8 h
    refine lv_tableIn (tgt := 136) hx hb d_Op_ofTwo_28 (by rw [c28_8]; decide) (by rw [c28_8]; decide) (by rw [c28_8]; rfl) (by decide) ?_
    refine lv_iload_n hx hb d_Op_ofTwo_136 rfl (lv_at hl 1 rfl) ?_
    refine lv_iload_n hx hb d_Op_ofTwo_137 rfl (lv_at hl 2 rfl) ?_
    obtain ⟨v9, ev9, h⟩ := lt1_e h
    refine lv_iushr hx hb d_Op_ofTwo_138 ev9.symm ?_
    obtain rfl := so1 h
    exact hQ _ H locs ls hX d_Op_ofTwo_139
  have h := ite_f c28_8 h
  by_cases c28_9 : x0 = 119
  · have h := ite_t c28_9 h
    refine lv_tableIn (tgt := 140) hx hb d_Op_ofTwo_28 (by rw [c28_9]; decide) (by rw [c28_9]; decide) (by rw [c28_9]; rfl) (by decide) ?_
    refine lv_iload_n hx hb d_Op_ofTwo_140 rfl (lv_at hl 1 rfl) ?_
    refine lv_iload_n hx hb d_Op_ofTwo_141 rfl (lv_at hl 2 rfl) ?_
    obtain ⟨v10, ev10, h⟩ := lt1_e h
    refine x_ishl hx hb d_Op_ofTwo_142 ev10 ?_
    refine lv_iload_n hx hb d_Op_ofTwo_143 rfl (lv_at hl 1 rfl) ?_
    refine lv_iload_n hx hb d_Op_ofTwo_144 rfl (lv_at hl 2 rfl) ?_
    obtain ⟨v11, ev11, h⟩ := lt1_e h
    refine x_ineg hx hb d_Op_ofTwo_145 ev11 ?_
    obtain ⟨v12, ev12, h⟩ := lt1_e h
    refine lv_iushr hx hb d_Op_ofTwo_146 ev12.symm ?_
    obtain ⟨v13, ev13, h⟩ := lt1_e h
    refine x_ior hx hb d_Op_ofTwo_147 ev13 ?_
    obtain rfl := so1 h
    exact hQ _ H locs ls hX d_Op_ofTwo_148
  have h := ite_f c28_9 h
  by_cases c28_10 : x0 = 120
  · have h := ite_t c28_10 h
    refine lv_tableIn (tgt := 149) hx hb d_Op_ofTwo_28 (by rw [c28_10]; decide) (by rw [c28_10]; decide) (by rw [c28_10]; rfl) (by decide) ?_
    refine lv_iload_n hx hb d_Op_ofTwo_149 rfl (lv_at hl 1 rfl) ?_
    refine lv_iload_n hx hb d_Op_ofTwo_150 rfl (lv_at hl 2 rfl) ?_
    obtain ⟨v14, ev14, h⟩ := lt1_e h
    refine lv_iushr hx hb d_Op_ofTwo_151 ev14.symm ?_
    refine lv_iload_n hx hb d_Op_ofTwo_152 rfl (lv_at hl 1 rfl) ?_
    refine lv_iload_n hx hb d_Op_ofTwo_153 rfl (lv_at hl 2 rfl) ?_
    obtain ⟨v15, ev15, h⟩ := lt1_e h
    refine x_ineg hx hb d_Op_ofTwo_154 ev15 ?_
    obtain ⟨v16, ev16, h⟩ := lt1_e h
    refine x_ishl hx hb d_Op_ofTwo_155 ev16 ?_
    obtain ⟨v17, ev17, h⟩ := lt1_e h
    refine x_ior hx hb d_Op_ofTwo_156 ev17 ?_
    obtain rfl := so1 h
    exact hQ _ H locs ls hX d_Op_ofTwo_157
  have h := ite_f c28_10 h
  by_cases c28_g109 : x0 = 109
  · refine lv_tableIn (tgt := 158) hx hb d_Op_ofTwo_28 (by rw [c28_g109]; decide) (by rw [c28_g109]; decide) (by rw [c28_g109]; rfl) (by decide) ?_
    exact w_Op_ofTwo_158 C hQ x0 x1 x2 H locs ls hX hl h
  by_cases c28_g110 : x0 = 110
  · refine lv_tableIn (tgt := 158) hx hb d_Op_ofTwo_28 (by rw [c28_g110]; decide) (by rw [c28_g110]; decide) (by rw [c28_g110]; rfl) (by decide) ?_
    exact w_Op_ofTwo_158 C hQ x0 x1 x2 H locs ls hX hl h
  by_cases c28_g111 : x0 = 111
  · refine lv_tableIn (tgt := 158) hx hb d_Op_ofTwo_28 (by rw [c28_g111]; decide) (by rw [c28_g111]; decide) (by rw [c28_g111]; rfl) (by decide) ?_
    exact w_Op_ofTwo_158 C hQ x0 x1 x2 H locs ls hX hl h
  by_cases c28_g112 : x0 = 112
  · refine lv_tableIn (tgt := 158) hx hb d_Op_ofTwo_28 (by rw [c28_g112]; decide) (by rw [c28_g112]; decide) (by rw [c28_g112]; rfl) (by decide) ?_
    exact w_Op_ofTwo_158 C hQ x0 x1 x2 H locs ls hX hl h
  have hz := And.intro trivial trivial
  have hn0 := lv_neT c28_0 (a := 106) (by decide)
  have hn1 := lv_neT c28_1 (a := 107) (by decide)
  have hn2 := lv_neT c28_2 (a := 108) (by decide)
  have hn3 := lv_neT c28_3 (a := 113) (by decide)
  have hn4 := lv_neT c28_4 (a := 114) (by decide)
  have hn5 := lv_neT c28_5 (a := 115) (by decide)
  have hn6 := lv_neT c28_6 (a := 116) (by decide)
  have hn7 := lv_neT c28_7 (a := 117) (by decide)
  have hn8 := lv_neT c28_8 (a := 118) (by decide)
  have hn9 := lv_neT c28_9 (a := 119) (by decide)
  have hn10 := lv_neT c28_10 (a := 120) (by decide)
  have hn11 := lv_neT c28_g109 (a := 109) (by decide)
  have hn12 := lv_neT c28_g110 (a := 110) (by decide)
  have hn13 := lv_neT c28_g111 (a := 111) (by decide)
  have hn14 := lv_neT c28_g112 (a := 112) (by decide)
  refine lv_tableOut (tgt := 158) hx hb d_Op_ofTwo_28 (by omega) (by decide) ?_
  exact w_Op_ofTwo_158 C hQ x0 x1 x2 H locs ls hX hl h
set_option maxHeartbeats 4000000 in
set_option maxRecDepth 100000 in
theorem w_Op_ofTwo_26 {ws : va_W} {z : Int32} (C : Cx g A p m c b_Op_ofTwo 3 ss args R_Op) (hQ : ∀ (pc : Nat) (H : Heap) (locs : List Loc) (ls : Array Slot), XW g A ss ws H locs → decode b_Op_ofTwo pc = .ok (.ireturn, 1) → W p l e (rmX 1 27) ss m args below meth c H locs 0 0 Q (F0 m pc ls [.int z])) : ∀ (x0 : Int32) (x1 : Int32) (x2 : Int32) (y0 : Int32) (H : Heap) (locs : List Loc) (ls : Array Slot), XW g A ss ws H locs → lv_has ls 3 [(0, .int x0), (1, .int x1), (2, .int x2)] → f_Op_ofTwo_26 x0 x1 x2 y0 = some z → W p l e (rmX 1 27) ss m args below meth c H locs 0 0 Q (F0 m 26 ls [.int y0]) := by
  have ⟨⟨hx, hb, hml, hown, hts⟩, hK, hA, hN⟩ := C
  intro x0 x1 x2 y0 H locs ls hX hl h
  rw [f_Op_ofTwo_26] at h
  obtain rfl := so1 h
  exact hQ _ H locs ls hX d_Op_ofTwo_26
set_option maxHeartbeats 4000000 in
set_option maxRecDepth 100000 in
theorem w_Op_ofTwo {ws : va_W} {z : Int32} (C : Cx g A p m c b_Op_ofTwo 3 ss args R_Op) (hQ : ∀ (pc : Nat) (H : Heap) (locs : List Loc) (ls : Array Slot), XW g A ss ws H locs → decode b_Op_ofTwo pc = .ok (.ireturn, 1) → W p l e (rmX 1 27) ss m args below meth c H locs 0 0 Q (F0 m pc ls [.int z])) : ∀ (x0 : Int32) (x1 : Int32) (x2 : Int32) (H : Heap) (locs : List Loc) (ls : Array Slot), XW g A ss ws H locs → lv_has ls 3 [(0, .int x0), (1, .int x1), (2, .int x2)] → f_Op_ofTwo x0 x1 x2 = some z → W p l e (rmX 1 27) ss m args below meth c H locs 0 0 Q (F0 m 0 ls []) := by
  have ⟨⟨hx, hb, hml, hown, hts⟩, hK, hA, hN⟩ := C
  intro x0 x1 x2 H locs ls hX hl h
  rw [f_Op_ofTwo] at h
  refine lv_iload_n hx hb d_Op_ofTwo_0 rfl (lv_at hl 0 rfl) ?_
  refine lv_bipush (v := 70) hx hb d_Op_ofTwo_1 (by decide) ?_
  refine lv_icmp_lt (tgt := 27) hx hb d_Op_ofTwo_3 (by decide) (fun c3 => ?_) (fun c3 => ?_)
  · have h := ite_t c3 h
    exact w_Op_ofTwo_27 C hQ x0 x1 x2 H locs ls hX hl h
  · have h := ite_f c3 h
    refine lv_iload_n hx hb d_Op_ofTwo_6 rfl (lv_at hl 0 rfl) ?_
    refine lv_bipush (v := 79) hx hb d_Op_ofTwo_7 (by decide) ?_
    refine lv_icmp_gt (tgt := 27) hx hb d_Op_ofTwo_9 (by decide) (fun c9 => ?_) (fun c9 => ?_)
    · have h := ite_t c9 h
      exact w_Op_ofTwo_27 C hQ x0 x1 x2 H locs ls hX hl h
    · have h := ite_f c9 h
      refine lv_iload_n hx hb d_Op_ofTwo_12 rfl (lv_at hl 0 rfl) ?_
      refine lv_iload_n hx hb d_Op_ofTwo_13 rfl (lv_at hl 1 rfl) ?_
      refine lv_iload_n hx hb d_Op_ofTwo_14 rfl (lv_at hl 2 rfl) ?_
      obtain ⟨r1, hc15, h⟩ := bd1_e h
      refine x_sI (As := [.int x0, .int x1, .int x2]) (rest := []) C hX (c_Op_isTrue l g x0 x1 x2 r1 hc15 _) (cw_Op_36 C.1.2.2.2.2 C.2.2.2 ⟨by decide, by decide⟩) rfl hl.1 rfl (lv_room (Nat.le_of_ble_eq_true rfl)) d_Op_ofTwo_15 ⟨Nat.le_refl _, Nat.le_refl _⟩ (fun H locs hX => ?_)
      refine lv_if_eq (tgt := 25) hx hb d_Op_ofTwo_18 (by decide) (fun c18 => ?_) (fun c18 => ?_)
      · have h := ite_t c18 h
        refine lv_iconst (v := 0) hx hb d_Op_ofTwo_25 (by decide) ?_
        exact w_Op_ofTwo_26 C hQ x0 x1 x2 0 H locs ls hX hl h
      · have h := ite_f c18 h
        refine lv_iconst (v := 1) hx hb d_Op_ofTwo_21 (by decide) ?_
        refine lv_goto (tgt := 26) hx hb d_Op_ofTwo_22 (by decide) ?_
        exact w_Op_ofTwo_26 C hQ x0 x1 x2 1 H locs ls hX hl h
end WALK
theorem c_Op_ofTwo (l : Launch) (g : GX) (x0 : Int32) (x1 : Int32) (x2 : Int32) (z : Int32) (h : f_Op_ofTwo x0 x1 x2 = some z) (ws : va_W) : MI l g y_Op_ofTwo b_Op_ofTwo 3 (some .int) 1 27 [.int x0, .int x1, .int x2] ws z ws :=
  MI.mk (own := R_Op) (by decide) rfl (Nat.le_of_ble_eq_true rfl) fun p e ss m below meth c A Q C hQ ls hX hl => w_Op_ofTwo C hQ x0 x1 x2 _ _ ls hX hl h
-- Store_compute
def f_Store_compute_79 (x1 : Int32) (x2 : Int32) (x3 : Int32) (x4 : Int32) (x5 : Int32) (s : St) : Option (Int32 × St) :=
    some (x5, s)
def f_Store_compute (x1 : Int32) (x2 : Int32) (s : St) : Option (Int32 × St) :=
    lt1 (x2 - 1) fun v1 =>
    lt1 (rGet 224 (s 36) v1) fun r2 =>
    bd1 (f_Op_takes x1) fun r3 =>
    if r3 = 1 then
      lt1 (x2 - 1) fun v10 =>
      bd1 (f_Op_ofOne x1 r2) fun r11 =>
      lt1 (rSet s 36 224 v10 r11) fun s12 =>
      some (0, s12)
    else
      lt1 (x2 - 2) fun v4 =>
      lt1 (rGet 224 (s 36) v4) fun r5 =>
      bd1 (f_Op_trapOf x1 r5 r2) fun r6 =>
      if r6 = 0 then
        lt1 (x2 - 2) fun v7 =>
        bd1 (f_Op_ofTwo x1 r5 r2) fun r8 =>
        lt1 (rSet s 36 224 v7 r8) fun s9 =>
        f_Store_compute_79 x1 x2 r2 r5 r6 s9
      else
        f_Store_compute_79 x1 x2 r2 r5 r6 s
section WALK
variable {p : Program} {l : Launch} {e : Env} {ss : State} {m : MethodId} {args : Array Value} {below : List Frame} {meth : Method} {c : Code} {Q : State → Prop} {g : GX} {A : Nat → Prop}
set_option maxHeartbeats 4000000 in
set_option maxRecDepth 100000 in
theorem w_Store_compute_79 {z : Int32 × St} (C : Cx g A p m c b_Store_compute 6 ss args R_Store) (hQ : ∀ (pc : Nat) (H : Heap) (locs : List Loc) (ls : Array Slot), XW g A ss (wX g z.2) H locs → decode b_Store_compute pc = .ok (.ireturn, 1) → W p l e (rmX 3 60) ss m args below meth c H locs 0 0 Q (F0 m pc ls [.int z.1])) : ∀ (x1 : Int32) (x2 : Int32) (x3 : Int32) (x4 : Int32) (x5 : Int32) (s : St) (H : Heap) (locs : List Loc) (ls : Array Slot), XW g A ss (wX g s) H locs → lv_has ls 6 [(0, .ref (g.q 5)), (1, .int x1), (2, .int x2), (3, .int x3), (4, .int x4), (5, .int x5)] → f_Store_compute_79 x1 x2 x3 x4 x5 s = some z → W p l e (rmX 3 60) ss m args below meth c H locs 0 0 Q (F0 m 79 ls []) := by
  have ⟨⟨hx, hb, hml, hown, hts⟩, hK, hA, hN⟩ := C
  intro x1 x2 x3 x4 x5 s H locs ls hX hl h
  rw [f_Store_compute_79] at h
  refine lv_iload hx hb d_Store_compute_79 (lv_at hl 5 rfl) ?_
  obtain rfl := so1 h
  exact hQ _ H locs ls hX d_Store_compute_81
set_option maxHeartbeats 4000000 in
set_option maxRecDepth 100000 in
theorem w_Store_compute {z : Int32 × St} (C : Cx g A p m c b_Store_compute 6 ss args R_Store) (hQ : ∀ (pc : Nat) (H : Heap) (locs : List Loc) (ls : Array Slot), XW g A ss (wX g z.2) H locs → decode b_Store_compute pc = .ok (.ireturn, 1) → W p l e (rmX 3 60) ss m args below meth c H locs 0 0 Q (F0 m pc ls [.int z.1])) : ∀ (x1 : Int32) (x2 : Int32) (s : St) (H : Heap) (locs : List Loc) (ls : Array Slot), XW g A ss (wX g s) H locs → lv_has ls 6 [(0, .ref (g.q 5)), (1, .int x1), (2, .int x2)] → f_Store_compute x1 x2 s = some z → W p l e (rmX 3 60) ss m args below meth c H locs 0 0 Q (F0 m 0 ls []) := by
  have ⟨⟨hx, hb, hml, hown, hts⟩, hK, hA, hN⟩ := C
  intro x1 x2 s H locs ls hX hl h
  rw [f_Store_compute] at h
  refine lv_aload_n hx hb d_Store_compute_0 rfl (lv_at hl 0 rfl) ?_
  refine gf_5_cells C hX fl_Store_20 d_Store_compute_1 ?_
  refine lv_iload_n hx hb d_Store_compute_4 rfl (lv_at hl 2 rfl) ?_
  refine lv_iconst (v := 1) hx hb d_Store_compute_5 (by decide) ?_
  obtain ⟨v1, ev1, h⟩ := lt1_e h
  refine x_isub hx hb d_Store_compute_6 ev1 ?_
  obtain ⟨r2, er2, h⟩ := lt1_e h
  refine x_vI (r := r2) (ws' := wX g s) (As := [.int v1]) (rest := []) C hX (by rw [er2]; exact cRowGet_35 l g s v1) (cw_Store_88 C.1.2.2.2.2 C.2.2.2 ⟨by decide, by decide⟩) (x_rc C hX wg_35 rfl) rfl hl.1 rfl (lv_room (Nat.le_of_ble_eq_true rfl)) d_Store_compute_7 ⟨Nat.le_refl _, Nat.le_refl _⟩ (fun H locs hX => ?_)
  refine lv_istore_n (lv' := [(3, .int r2), (0, .ref (g.q 5)), (1, .int x1), (2, .int x2)]) hx hb d_Store_compute_10 rfl hl (by decide) rfl (fun ls hl => ?_)
  refine lv_iload_n hx hb d_Store_compute_11 rfl (lv_at hl 2 rfl) ?_
  obtain ⟨r3, hc12, h⟩ := bd1_e h
  refine x_sI (As := [.int x1]) (rest := []) C hX (c_Op_takes l g x1 r3 hc12 _) (cw_Store_97 C.1.2.2.2.2 C.2.2.2 ⟨by decide, by decide⟩) rfl hl.1 rfl (lv_room (Nat.le_of_ble_eq_true rfl)) d_Store_compute_12 ⟨Nat.le_refl _, Nat.le_refl _⟩ (fun H locs hX => ?_)
  refine lv_iconst (v := 1) hx hb d_Store_compute_15 (by decide) ?_
  refine lv_icmp_ne (tgt := 36) hx hb d_Store_compute_16 (by decide) (fun c16 => ?_) (fun c16 => ?_)
  · have h := ite_f c16 h
    refine lv_aload_n hx hb d_Store_compute_36 rfl (lv_at hl 1 rfl) ?_
    refine gf_5_cells C hX fl_Store_20 d_Store_compute_37 ?_
    refine lv_iload_n hx hb d_Store_compute_40 rfl (lv_at hl 3 rfl) ?_
    refine lv_iconst (v := 2) hx hb d_Store_compute_41 (by decide) ?_
    obtain ⟨v4, ev4, h⟩ := lt1_e h
    refine x_isub hx hb d_Store_compute_42 ev4 ?_
    obtain ⟨r5, er5, h⟩ := lt1_e h
    refine x_vI (r := r5) (ws' := wX g s) (As := [.int v4]) (rest := []) C hX (by rw [er5]; exact cRowGet_35 l g s v4) (cw_Store_88 C.1.2.2.2.2 C.2.2.2 ⟨by decide, by decide⟩) (x_rc C hX wg_35 rfl) rfl hl.1 rfl (lv_room (Nat.le_of_ble_eq_true rfl)) d_Store_compute_43 ⟨Nat.le_refl _, Nat.le_refl _⟩ (fun H locs hX => ?_)
    refine lv_istore (lv' := [(4, .int r5), (3, .int r2), (0, .ref (g.q 5)), (1, .int x1), (2, .int x2)]) hx hb d_Store_compute_46 hl (by decide) rfl (fun ls hl => ?_)
    refine lv_iload_n hx hb d_Store_compute_48 rfl (lv_at hl 3 rfl) ?_
    refine lv_iload hx hb d_Store_compute_49 (lv_at hl 0 rfl) ?_
    refine lv_iload_n hx hb d_Store_compute_51 rfl (lv_at hl 1 rfl) ?_
    obtain ⟨r6, hc52, h⟩ := bd1_e h
    refine x_sI (As := [.int x1, .int r5, .int r2]) (rest := []) C hX (c_Op_trapOf l g x1 r5 r2 r6 hc52 _) (cw_Store_103 C.1.2.2.2.2 C.2.2.2 ⟨by decide, by decide⟩) rfl hl.1 rfl (lv_room (Nat.le_of_ble_eq_true rfl)) d_Store_compute_52 ⟨Nat.le_refl _, Nat.le_refl _⟩ (fun H locs hX => ?_)
    refine lv_istore (lv' := [(5, .int r6), (4, .int r5), (3, .int r2), (0, .ref (g.q 5)), (1, .int x1), (2, .int x2)]) hx hb d_Store_compute_55 hl (by decide) rfl (fun ls hl => ?_)
    refine lv_iload hx hb d_Store_compute_57 (lv_at hl 0 rfl) ?_
    refine lv_if_ne (tgt := 79) hx hb d_Store_compute_59 (by decide) (fun c59 => ?_) (fun c59 => ?_)
    · have h := ite_f c59 h
      exact w_Store_compute_79 C hQ x1 x2 r2 r5 r6 s H locs ls hX (lv_sub hl [3, 4, 5, 2, 1, 0] rfl) h
    · have h := ite_t c59 h
      refine lv_aload_n hx hb d_Store_compute_62 rfl (lv_at hl 3 rfl) ?_
      refine gf_5_cells C hX fl_Store_20 d_Store_compute_63 ?_
      refine lv_iload_n hx hb d_Store_compute_66 rfl (lv_at hl 5 rfl) ?_
      refine lv_iconst (v := 2) hx hb d_Store_compute_67 (by decide) ?_
      obtain ⟨v7, ev7, h⟩ := lt1_e h
      refine x_isub hx hb d_Store_compute_68 ev7 ?_
      refine lv_iload_n hx hb d_Store_compute_69 rfl (lv_at hl 4 rfl) ?_
      refine lv_iload hx hb d_Store_compute_70 (lv_at hl 1 rfl) ?_
      refine lv_iload_n hx hb d_Store_compute_72 rfl (lv_at hl 2 rfl) ?_
      obtain ⟨r8, hc73, h⟩ := bd1_e h
      refine x_sI (As := [.int x1, .int r5, .int r2]) (rest := [.int v7, .ref (g.q 35)]) C hX (c_Op_ofTwo l g x1 r5 r2 r8 hc73 _) (cw_Store_106 C.1.2.2.2.2 C.2.2.2 ⟨by decide, by decide⟩) rfl hl.1 rfl (lv_room (Nat.le_of_ble_eq_true rfl)) d_Store_compute_73 ⟨Nat.le_refl _, Nat.le_refl _⟩ (fun H locs hX => ?_)
      obtain ⟨s9, es9, h⟩ := lt1_e h
      refine x_vV (ws' := wX g s9) (As := [.int v7, .int r8]) (rest := []) C hX (by rw [es9]; exact cRowSet_35 l g s v7 r8) (cw_Store_51 C.1.2.2.2.2 C.2.2.2 ⟨by decide, by decide⟩) (x_rc C hX wg_35 rfl) rfl hl.1 rfl (lv_room (Nat.le_of_ble_eq_true rfl)) d_Store_compute_76 ⟨Nat.le_refl _, Nat.le_refl _⟩ (fun H locs hX => ?_)
      exact w_Store_compute_79 C hQ x1 x2 r2 r5 r6 s9 H locs ls hX (lv_sub hl [3, 4, 5, 2, 1, 0] rfl) h
  · have h := ite_t c16 h
    refine lv_aload_n hx hb d_Store_compute_19 rfl (lv_at hl 1 rfl) ?_
    refine gf_5_cells C hX fl_Store_20 d_Store_compute_20 ?_
    refine lv_iload_n hx hb d_Store_compute_23 rfl (lv_at hl 3 rfl) ?_
    refine lv_iconst (v := 1) hx hb d_Store_compute_24 (by decide) ?_
    obtain ⟨v10, ev10, h⟩ := lt1_e h
    refine x_isub hx hb d_Store_compute_25 ev10 ?_
    refine lv_iload_n hx hb d_Store_compute_26 rfl (lv_at hl 2 rfl) ?_
    refine lv_iload_n hx hb d_Store_compute_27 rfl (lv_at hl 0 rfl) ?_
    obtain ⟨r11, hc28, h⟩ := bd1_e h
    refine x_sI (As := [.int x1, .int r2]) (rest := [.int v10, .ref (g.q 35)]) C hX (c_Op_ofOne l g x1 r2 r11 hc28 _) (cw_Store_100 C.1.2.2.2.2 C.2.2.2 ⟨by decide, by decide⟩) rfl hl.1 rfl (lv_room (Nat.le_of_ble_eq_true rfl)) d_Store_compute_28 ⟨Nat.le_refl _, Nat.le_refl _⟩ (fun H locs hX => ?_)
    obtain ⟨s12, es12, h⟩ := lt1_e h
    refine x_vV (ws' := wX g s12) (As := [.int v10, .int r11]) (rest := []) C hX (by rw [es12]; exact cRowSet_35 l g s v10 r11) (cw_Store_51 C.1.2.2.2.2 C.2.2.2 ⟨by decide, by decide⟩) (x_rc C hX wg_35 rfl) rfl hl.1 rfl (lv_room (Nat.le_of_ble_eq_true rfl)) d_Store_compute_31 ⟨Nat.le_refl _, Nat.le_refl _⟩ (fun H locs hX => ?_)
    refine lv_iconst (v := 0) hx hb d_Store_compute_34 (by decide) ?_
    obtain rfl := so1 h
    exact hQ _ H locs ls hX d_Store_compute_35
end WALK
theorem c_Store_compute (l : Launch) (g : GX) (x1 : Int32) (x2 : Int32) (s : St) (z : Int32 × St) (h : f_Store_compute x1 x2 s = some z) : MI l g y_Store_compute b_Store_compute 6 (some .int) 3 60 [.ref (g.q 5), .int x1, .int x2] (wX g s) z.1 (wX g z.2) :=
  MI.mk (own := R_Store) (by decide) rfl (Nat.le_of_ble_eq_true rfl) fun p e ss m below meth c A Q C hQ ls hX hl => w_Store_compute C hQ x1 x2 s _ _ ls hX hl h
-- Store_write
def f_Store_write_43 (x1 : Int32) (x2 : Int32) (x3 : Int32) (x4 : Int32) (s : St) : Option St :=
    some s
def f_Store_write_3 : Nat → Int32 → Int32 → Int32 → Int32 → St → Option St
  | 0, _, _, _, _, _ => none
  | n + 1, x1, x2, x3, x4, s =>
    if 4 ≤ x4 then
      f_Store_write_43 x1 x2 x3 x4 s
    else
      if x2 ≤ x4 then
        f_Store_write_43 x1 x2 x3 x4 s
      else
        lt1 (x1 + x4) fun v1 =>
        lt1 (8 * x4) fun v2 =>
        lt1 (ush x3 v2) fun v3 =>
        lt1 (v3 &&& 255) fun v4 =>
        lt1 (rSet s 34 256 v1 v4) fun s5 =>
        lt1 (x4 + (1)) fun v6 =>
        f_Store_write_3 n x1 x2 x3 v6 s5
def f_Store_write (x1 : Int32) (x2 : Int32) (x3 : Int32) (s : St) : Option St :=
    f_Store_write_3 FU x1 x2 x3 0 s
section WALK
variable {p : Program} {l : Launch} {e : Env} {ss : State} {m : MethodId} {args : Array Value} {below : List Frame} {meth : Method} {c : Code} {Q : State → Prop} {g : GX} {A : Nat → Prop}
set_option maxHeartbeats 4000000 in
set_option maxRecDepth 100000 in
theorem w_Store_write_43 {z : St} (C : Cx g A p m c b_Store_write 5 ss args R_Store) (hQ : ∀ (pc : Nat) (H : Heap) (locs : List Loc) (ls : Array Slot), XW g A ss (wX g z) H locs → decode b_Store_write pc = .ok (.return_, 1) → W p l e (rmX 1 22) ss m args below meth c H locs 0 0 Q (F0 m pc ls [])) : ∀ (x1 : Int32) (x2 : Int32) (x3 : Int32) (x4 : Int32) (s : St) (H : Heap) (locs : List Loc) (ls : Array Slot), XW g A ss (wX g s) H locs → lv_has ls 5 [(0, .ref (g.q 5)), (1, .int x1), (2, .int x2), (3, .int x3), (4, .int x4)] → f_Store_write_43 x1 x2 x3 x4 s = some z → W p l e (rmX 1 22) ss m args below meth c H locs 0 0 Q (F0 m 43 ls []) := by
  have ⟨⟨hx, hb, hml, hown, hts⟩, hK, hA, hN⟩ := C
  intro x1 x2 x3 x4 s H locs ls hX hl h
  rw [f_Store_write_43] at h
  obtain rfl := so1 h
  exact hQ _ H locs ls hX d_Store_write_43
set_option maxHeartbeats 4000000 in
set_option maxRecDepth 100000 in
theorem w_Store_write_3 {z : St} (C : Cx g A p m c b_Store_write 5 ss args R_Store) (hQ : ∀ (pc : Nat) (H : Heap) (locs : List Loc) (ls : Array Slot), XW g A ss (wX g z) H locs → decode b_Store_write pc = .ok (.return_, 1) → W p l e (rmX 1 22) ss m args below meth c H locs 0 0 Q (F0 m pc ls [])) (n : Nat) : ∀ (x1 : Int32) (x2 : Int32) (x3 : Int32) (x4 : Int32) (s : St) (H : Heap) (locs : List Loc) (ls : Array Slot), XW g A ss (wX g s) H locs → lv_has ls 5 [(0, .ref (g.q 5)), (1, .int x1), (2, .int x2), (3, .int x3), (4, .int x4)] → f_Store_write_3 n x1 x2 x3 x4 s = some z → W p l e (rmX 1 22) ss m args below meth c H locs 0 0 Q (F0 m 3 ls []) := by
  have ⟨⟨hx, hb, hml, hown, hts⟩, hK, hA, hN⟩ := C
  induction n with
  | zero => intro x1 x2 x3 x4 s H locs ls hX hl h; cases h
  | succ n ih =>
    intro x1 x2 x3 x4 s H locs ls hX hl h
    rw [f_Store_write_3] at h
    refine lv_iload hx hb d_Store_write_3 (lv_at hl 4 rfl) ?_
    refine lv_iconst (v := 4) hx hb d_Store_write_5 (by decide) ?_
    refine lv_icmp_ge (tgt := 43) hx hb d_Store_write_6 (by decide) (fun c6 => ?_) (fun c6 => ?_)
    · have h := ite_t c6 h
      exact w_Store_write_43 C hQ x1 x2 x3 x4 s H locs ls hX hl h
    · have h := ite_f c6 h
      refine lv_iload hx hb d_Store_write_9 (lv_at hl 4 rfl) ?_
      refine lv_iload_n hx hb d_Store_write_11 rfl (lv_at hl 2 rfl) ?_
      refine lv_icmp_ge (tgt := 43) hx hb d_Store_write_12 (by decide) (fun c12 => ?_) (fun c12 => ?_)
      · have h := ite_t c12 h
        exact w_Store_write_43 C hQ x1 x2 x3 x4 s H locs ls hX hl h
      · have h := ite_f c12 h
        refine lv_aload_n hx hb d_Store_write_15 rfl (lv_at hl 0 rfl) ?_
        refine gf_5_memory C hX fl_Store_14 d_Store_write_16 ?_
        refine lv_iload_n hx hb d_Store_write_19 rfl (lv_at hl 1 rfl) ?_
        refine lv_iload hx hb d_Store_write_20 (lv_at hl 4 rfl) ?_
        obtain ⟨v1, ev1, h⟩ := lt1_e h
        refine x_iadd hx hb d_Store_write_22 ev1 ?_
        refine lv_iload_n hx hb d_Store_write_23 rfl (lv_at hl 3 rfl) ?_
        refine lv_bipush (v := 8) hx hb d_Store_write_24 (by decide) ?_
        refine lv_iload hx hb d_Store_write_26 (lv_at hl 4 rfl) ?_
        obtain ⟨v2, ev2, h⟩ := lt1_e h
        refine x_imul hx hb d_Store_write_28 ev2 ?_
        obtain ⟨v3, ev3, h⟩ := lt1_e h
        refine lv_iushr hx hb d_Store_write_29 ev3.symm ?_
        refine lv_sipush (v := 255) hx hb d_Store_write_30 (by decide) ?_
        obtain ⟨v4, ev4, h⟩ := lt1_e h
        refine x_iand hx hb d_Store_write_33 ev4 ?_
        obtain ⟨s5, es5, h⟩ := lt1_e h
        refine x_vV (ws' := wX g s5) (As := [.int v1, .int v4]) (rest := []) C hX (by rw [es5]; exact cRowSet_33 l g s v1 v4) (cw_Store_51 C.1.2.2.2.2 C.2.2.2 ⟨by decide, by decide⟩) (x_rc C hX wg_33 rfl) rfl hl.1 rfl (lv_room (Nat.le_of_ble_eq_true rfl)) d_Store_write_34 ⟨Nat.le_refl _, Nat.le_refl _⟩ (fun H locs hX => ?_)
        obtain ⟨v6, ev6, h⟩ := lt1_e h
        refine lv_iinc (v := v6) (lv' := [(4, .int v6), (0, .ref (g.q 5)), (1, .int x1), (2, .int x2), (3, .int x3)]) hx hb d_Store_write_37 hl (k := 4) rfl (by rw [ev6]; rfl) (by decide) rfl (fun ls hl => ?_)
        refine lv_goto (tgt := 3) hx hb d_Store_write_40 (by decide) ?_
        exact ih x1 x2 x3 v6 s5 H locs ls hX (lv_sub hl [1, 2, 3, 4, 0] rfl) h
set_option maxHeartbeats 4000000 in
set_option maxRecDepth 100000 in
theorem w_Store_write {z : St} (C : Cx g A p m c b_Store_write 5 ss args R_Store) (hQ : ∀ (pc : Nat) (H : Heap) (locs : List Loc) (ls : Array Slot), XW g A ss (wX g z) H locs → decode b_Store_write pc = .ok (.return_, 1) → W p l e (rmX 1 22) ss m args below meth c H locs 0 0 Q (F0 m pc ls [])) : ∀ (x1 : Int32) (x2 : Int32) (x3 : Int32) (s : St) (H : Heap) (locs : List Loc) (ls : Array Slot), XW g A ss (wX g s) H locs → lv_has ls 5 [(0, .ref (g.q 5)), (1, .int x1), (2, .int x2), (3, .int x3)] → f_Store_write x1 x2 x3 s = some z → W p l e (rmX 1 22) ss m args below meth c H locs 0 0 Q (F0 m 0 ls []) := by
  have ⟨⟨hx, hb, hml, hown, hts⟩, hK, hA, hN⟩ := C
  intro x1 x2 x3 s H locs ls hX hl h
  rw [f_Store_write] at h
  refine lv_iconst (v := 0) hx hb d_Store_write_0 (by decide) ?_
  refine lv_istore (lv' := [(4, .int 0), (0, .ref (g.q 5)), (1, .int x1), (2, .int x2), (3, .int x3)]) hx hb d_Store_write_1 hl (by decide) rfl (fun ls hl => ?_)
  exact w_Store_write_3 C hQ FU x1 x2 x3 0 s H locs ls hX (lv_sub hl [1, 2, 3, 4, 0] rfl) h
end WALK
theorem c_Store_write (l : Launch) (g : GX) (x1 : Int32) (x2 : Int32) (x3 : Int32) (s : St) (z : St) (h : f_Store_write x1 x2 x3 s = some z) : MV l g y_Store_write b_Store_write 5 none 1 22 [.ref (g.q 5), .int x1, .int x2, .int x3] (wX g s) (wX g z) :=
  MV.mk (own := R_Store) (by decide) rfl (Nat.le_of_ble_eq_true rfl) fun p e ss m below meth c A Q C hQ ls hX hl => w_Store_write C hQ x1 x2 x3 s _ _ ls hX hl h
-- Store_read
def f_Store_read_43 (s : St) (x1 : Int32) (x2 : Int32) (x3 : Int32) (x4 : Int32) : Option Int32 :=
    some (x3)
def f_Store_read_5 (s : St) : Nat → Int32 → Int32 → Int32 → Int32 → Option Int32
  | 0, _, _, _, _ => none
  | n + 1, x1, x2, x3, x4 =>
    if 4 ≤ x4 then
      f_Store_read_43 s x1 x2 x3 x4
    else
      if x2 ≤ x4 then
        f_Store_read_43 s x1 x2 x3 x4
      else
        lt1 (x1 + x4) fun v1 =>
        lt1 (rGet 256 (s 34) v1) fun r2 =>
        lt1 (8 * x4) fun v3 =>
        lt1 (r2 <<< (v3 &&& 31)) fun v4 =>
        lt1 (x3 ||| v4) fun v5 =>
        lt1 (x4 + (1)) fun v6 =>
        f_Store_read_5 s n x1 x2 v5 v6
def f_Store_read (s : St) (x1 : Int32) (x2 : Int32) : Option Int32 :=
    f_Store_read_5 s FU x1 x2 0 0
section WALK
variable {p : Program} {l : Launch} {e : Env} {ss : State} {m : MethodId} {args : Array Value} {below : List Frame} {meth : Method} {c : Code} {Q : State → Prop} {g : GX} {A : Nat → Prop}
set_option maxHeartbeats 4000000 in
set_option maxRecDepth 100000 in
theorem w_Store_read_43 {s : St} {z : Int32} (C : Cx g A p m c b_Store_read 5 ss args R_Store) (hQ : ∀ (pc : Nat) (H : Heap) (locs : List Loc) (ls : Array Slot), XW g A ss (wX g s) H locs → decode b_Store_read pc = .ok (.ireturn, 1) → W p l e (rmX 1 21) ss m args below meth c H locs 0 0 Q (F0 m pc ls [.int z])) : ∀ (x1 : Int32) (x2 : Int32) (x3 : Int32) (x4 : Int32) (H : Heap) (locs : List Loc) (ls : Array Slot), XW g A ss (wX g s) H locs → lv_has ls 5 [(0, .ref (g.q 5)), (1, .int x1), (2, .int x2), (3, .int x3), (4, .int x4)] → f_Store_read_43 s x1 x2 x3 x4 = some z → W p l e (rmX 1 21) ss m args below meth c H locs 0 0 Q (F0 m 43 ls []) := by
  have ⟨⟨hx, hb, hml, hown, hts⟩, hK, hA, hN⟩ := C
  intro x1 x2 x3 x4 H locs ls hX hl h
  rw [f_Store_read_43] at h
  refine lv_iload_n hx hb d_Store_read_43 rfl (lv_at hl 3 rfl) ?_
  obtain rfl := so1 h
  exact hQ _ H locs ls hX d_Store_read_44
set_option maxHeartbeats 4000000 in
set_option maxRecDepth 100000 in
theorem w_Store_read_5 {s : St} {z : Int32} (C : Cx g A p m c b_Store_read 5 ss args R_Store) (hQ : ∀ (pc : Nat) (H : Heap) (locs : List Loc) (ls : Array Slot), XW g A ss (wX g s) H locs → decode b_Store_read pc = .ok (.ireturn, 1) → W p l e (rmX 1 21) ss m args below meth c H locs 0 0 Q (F0 m pc ls [.int z])) (n : Nat) : ∀ (x1 : Int32) (x2 : Int32) (x3 : Int32) (x4 : Int32) (H : Heap) (locs : List Loc) (ls : Array Slot), XW g A ss (wX g s) H locs → lv_has ls 5 [(0, .ref (g.q 5)), (1, .int x1), (2, .int x2), (3, .int x3), (4, .int x4)] → f_Store_read_5 s n x1 x2 x3 x4 = some z → W p l e (rmX 1 21) ss m args below meth c H locs 0 0 Q (F0 m 5 ls []) := by
  have ⟨⟨hx, hb, hml, hown, hts⟩, hK, hA, hN⟩ := C
  induction n with
  | zero => intro x1 x2 x3 x4 H locs ls hX hl h; cases h
  | succ n ih =>
    intro x1 x2 x3 x4 H locs ls hX hl h
    rw [f_Store_read_5] at h
    refine lv_iload hx hb d_Store_read_5 (lv_at hl 4 rfl) ?_
    refine lv_iconst (v := 4) hx hb d_Store_read_7 (by decide) ?_
    refine lv_icmp_ge (tgt := 43) hx hb d_Store_read_8 (by decide) (fun c8 => ?_) (fun c8 => ?_)
    · have h := ite_t c8 h
      exact w_Store_read_43 C hQ x1 x2 x3 x4 H locs ls hX hl h
    · have h := ite_f c8 h
      refine lv_iload hx hb d_Store_read_11 (lv_at hl 4 rfl) ?_
      refine lv_iload_n hx hb d_Store_read_13 rfl (lv_at hl 2 rfl) ?_
      refine lv_icmp_ge (tgt := 43) hx hb d_Store_read_14 (by decide) (fun c14 => ?_) (fun c14 => ?_)
      · have h := ite_t c14 h
        exact w_Store_read_43 C hQ x1 x2 x3 x4 H locs ls hX hl h
      · have h := ite_f c14 h
        refine lv_iload_n hx hb d_Store_read_17 rfl (lv_at hl 3 rfl) ?_
        refine lv_aload_n hx hb d_Store_read_18 rfl (lv_at hl 0 rfl) ?_
        refine gf_5_memory C hX fl_Store_14 d_Store_read_19 ?_
        refine lv_iload_n hx hb d_Store_read_22 rfl (lv_at hl 1 rfl) ?_
        refine lv_iload hx hb d_Store_read_23 (lv_at hl 4 rfl) ?_
        obtain ⟨v1, ev1, h⟩ := lt1_e h
        refine x_iadd hx hb d_Store_read_25 ev1 ?_
        obtain ⟨r2, er2, h⟩ := lt1_e h
        refine x_vI (r := r2) (ws' := wX g s) (As := [.int v1]) (rest := [.int x3]) C hX (by rw [er2]; exact cRowGet_33 l g s v1) (cw_Store_88 C.1.2.2.2.2 C.2.2.2 ⟨by decide, by decide⟩) (x_rc C hX wg_33 rfl) rfl hl.1 rfl (lv_room (Nat.le_of_ble_eq_true rfl)) d_Store_read_26 ⟨Nat.le_refl _, Nat.le_refl _⟩ (fun H locs hX => ?_)
        refine lv_bipush (v := 8) hx hb d_Store_read_29 (by decide) ?_
        refine lv_iload hx hb d_Store_read_31 (lv_at hl 4 rfl) ?_
        obtain ⟨v3, ev3, h⟩ := lt1_e h
        refine x_imul hx hb d_Store_read_33 ev3 ?_
        obtain ⟨v4, ev4, h⟩ := lt1_e h
        refine x_ishl hx hb d_Store_read_34 ev4 ?_
        obtain ⟨v5, ev5, h⟩ := lt1_e h
        refine x_ior hx hb d_Store_read_35 ev5 ?_
        refine lv_istore_n (lv' := [(3, .int v5), (0, .ref (g.q 5)), (1, .int x1), (2, .int x2), (4, .int x4)]) hx hb d_Store_read_36 rfl hl (by decide) rfl (fun ls hl => ?_)
        obtain ⟨v6, ev6, h⟩ := lt1_e h
        refine lv_iinc (v := v6) (lv' := [(4, .int v6), (3, .int v5), (0, .ref (g.q 5)), (1, .int x1), (2, .int x2)]) hx hb d_Store_read_37 hl (k := 4) rfl (by rw [ev6]; rfl) (by decide) rfl (fun ls hl => ?_)
        refine lv_goto (tgt := 5) hx hb d_Store_read_40 (by decide) ?_
        exact ih x1 x2 v5 v6 H locs ls hX (lv_sub hl [2, 3, 4, 1, 0] rfl) h
set_option maxHeartbeats 4000000 in
set_option maxRecDepth 100000 in
theorem w_Store_read {s : St} {z : Int32} (C : Cx g A p m c b_Store_read 5 ss args R_Store) (hQ : ∀ (pc : Nat) (H : Heap) (locs : List Loc) (ls : Array Slot), XW g A ss (wX g s) H locs → decode b_Store_read pc = .ok (.ireturn, 1) → W p l e (rmX 1 21) ss m args below meth c H locs 0 0 Q (F0 m pc ls [.int z])) : ∀ (x1 : Int32) (x2 : Int32) (H : Heap) (locs : List Loc) (ls : Array Slot), XW g A ss (wX g s) H locs → lv_has ls 5 [(0, .ref (g.q 5)), (1, .int x1), (2, .int x2)] → f_Store_read s x1 x2 = some z → W p l e (rmX 1 21) ss m args below meth c H locs 0 0 Q (F0 m 0 ls []) := by
  have ⟨⟨hx, hb, hml, hown, hts⟩, hK, hA, hN⟩ := C
  intro x1 x2 H locs ls hX hl h
  rw [f_Store_read] at h
  refine lv_iconst (v := 0) hx hb d_Store_read_0 (by decide) ?_
  refine lv_istore_n (lv' := [(3, .int 0), (0, .ref (g.q 5)), (1, .int x1), (2, .int x2)]) hx hb d_Store_read_1 rfl hl (by decide) rfl (fun ls hl => ?_)
  refine lv_iconst (v := 0) hx hb d_Store_read_2 (by decide) ?_
  refine lv_istore (lv' := [(4, .int 0), (3, .int 0), (0, .ref (g.q 5)), (1, .int x1), (2, .int x2)]) hx hb d_Store_read_3 hl (by decide) rfl (fun ls hl => ?_)
  exact w_Store_read_5 C hQ FU x1 x2 0 0 H locs ls hX (lv_sub hl [2, 3, 4, 1, 0] rfl) h
end WALK
theorem c_Store_read (l : Launch) (g : GX) (x1 : Int32) (x2 : Int32) (s : St) (z : Int32) (h : f_Store_read s x1 x2 = some z) : MI l g y_Store_read b_Store_read 5 (some .int) 1 21 [.ref (g.q 5), .int x1, .int x2] (wX g s) z (wX g s) :=
  MI.mk (own := R_Store) (by decide) rfl (Nat.le_of_ble_eq_true rfl) fun p e ss m below meth c A Q C hQ ls hX hl => w_Store_read C hQ x1 x2 _ _ ls hX hl h
-- Store_signed
def f_Store_signed_21 (x0 : Int32) (x1 : Int32) (y0 : Int32) : Option Int32 :=
    some (y0)
def f_Store_signed (x0 : Int32) (x1 : Int32) : Option Int32 :=
    if x0 = 44 then
      lt1 (x1.toInt8.toInt32) fun v2 =>
      some (v2)
    else
      if x0 = 46 then
        lt1 (x1.toInt16.toInt32) fun v1 =>
        f_Store_signed_21 x0 x1 v1
      else
        f_Store_signed_21 x0 x1 x1
section WALK
variable {p : Program} {l : Launch} {e : Env} {ss : State} {m : MethodId} {args : Array Value} {below : List Frame} {meth : Method} {c : Code} {Q : State → Prop} {g : GX} {A : Nat → Prop}
set_option maxHeartbeats 4000000 in
set_option maxRecDepth 100000 in
theorem w_Store_signed_21 {ws : va_W} {z : Int32} (C : Cx g A p m c b_Store_signed 2 ss args R_Store) (hQ : ∀ (pc : Nat) (H : Heap) (locs : List Loc) (ls : Array Slot), XW g A ss ws H locs → decode b_Store_signed pc = .ok (.ireturn, 1) → W p l e (rmX 0 0) ss m args below meth c H locs 0 0 Q (F0 m pc ls [.int z])) : ∀ (x0 : Int32) (x1 : Int32) (y0 : Int32) (H : Heap) (locs : List Loc) (ls : Array Slot), XW g A ss ws H locs → lv_has ls 2 [(0, .int x0), (1, .int x1)] → f_Store_signed_21 x0 x1 y0 = some z → W p l e (rmX 0 0) ss m args below meth c H locs 0 0 Q (F0 m 21 ls [.int y0]) := by
  have ⟨⟨hx, hb, hml, hown, hts⟩, hK, hA, hN⟩ := C
  intro x0 x1 y0 H locs ls hX hl h
  rw [f_Store_signed_21] at h
  obtain rfl := so1 h
  exact hQ _ H locs ls hX d_Store_signed_21
set_option maxHeartbeats 4000000 in
set_option maxRecDepth 100000 in
theorem w_Store_signed {ws : va_W} {z : Int32} (C : Cx g A p m c b_Store_signed 2 ss args R_Store) (hQ : ∀ (pc : Nat) (H : Heap) (locs : List Loc) (ls : Array Slot), XW g A ss ws H locs → decode b_Store_signed pc = .ok (.ireturn, 1) → W p l e (rmX 0 0) ss m args below meth c H locs 0 0 Q (F0 m pc ls [.int z])) : ∀ (x0 : Int32) (x1 : Int32) (H : Heap) (locs : List Loc) (ls : Array Slot), XW g A ss ws H locs → lv_has ls 2 [(0, .int x0), (1, .int x1)] → f_Store_signed x0 x1 = some z → W p l e (rmX 0 0) ss m args below meth c H locs 0 0 Q (F0 m 0 ls []) := by
  have ⟨⟨hx, hb, hml, hown, hts⟩, hK, hA, hN⟩ := C
  intro x0 x1 H locs ls hX hl h
  rw [f_Store_signed] at h
  refine lv_iload_n hx hb d_Store_signed_0 rfl (lv_at hl 0 rfl) ?_
  refine lv_bipush (v := 44) hx hb d_Store_signed_1 (by decide) ?_
  refine lv_icmp_ne (tgt := 9) hx hb d_Store_signed_3 (by decide) (fun c3 => ?_) (fun c3 => ?_)
  · have h := ite_f c3 h
    refine lv_iload_n hx hb d_Store_signed_9 rfl (lv_at hl 0 rfl) ?_
    refine lv_bipush (v := 46) hx hb d_Store_signed_10 (by decide) ?_
    refine lv_icmp_ne (tgt := 20) hx hb d_Store_signed_12 (by decide) (fun c12 => ?_) (fun c12 => ?_)
    · have h := ite_f c12 h
      refine lv_iload_n hx hb d_Store_signed_20 rfl (lv_at hl 1 rfl) ?_
      exact w_Store_signed_21 C hQ x0 x1 x1 H locs ls hX hl h
    · have h := ite_t c12 h
      refine lv_iload_n hx hb d_Store_signed_15 rfl (lv_at hl 1 rfl) ?_
      obtain ⟨v1, ev1, h⟩ := lt1_e h
      refine lv_i2s hx hb d_Store_signed_16 ev1.symm ?_
      refine lv_goto (tgt := 21) hx hb d_Store_signed_17 (by decide) ?_
      exact w_Store_signed_21 C hQ x0 x1 v1 H locs ls hX hl h
  · have h := ite_t c3 h
    refine lv_iload_n hx hb d_Store_signed_6 rfl (lv_at hl 1 rfl) ?_
    obtain ⟨v2, ev2, h⟩ := lt1_e h
    refine lv_i2b hx hb d_Store_signed_7 ev2.symm ?_
    obtain rfl := so1 h
    exact hQ _ H locs ls hX d_Store_signed_8
end WALK
theorem c_Store_signed (l : Launch) (g : GX) (x0 : Int32) (x1 : Int32) (z : Int32) (h : f_Store_signed x0 x1 = some z) (ws : va_W) : MI l g y_Store_signed b_Store_signed 2 (some .int) 0 0 [.int x0, .int x1] ws z ws :=
  MI.mk (own := R_Store) (by decide) rfl (Nat.le_of_ble_eq_true rfl) fun p e ss m below meth c A Q C hQ ls hX hl => w_Store_signed C hQ x0 x1 _ _ ls hX hl h
-- Store_access
def f_Store_access_111 (x1 : Int32) (x2 : Int32) (x3 : Int32) (x4 : Int32) (x5 : Int32) (x6 : Int64) (x8 : Int32) (s : St) : Option (Int32 × St) :=
    some (0, s)
def f_Store_access (x1 : Int32) (x2 : Int32) (x3 : Int32) (s : St) : Option (Int32 × St) :=
    bd1 (f_Op_width x1) fun r1 =>
    bd1 (f_Op_takes x1) fun r2 =>
    lt1 (x3 - r2) fun v3 =>
    lt1 (rGet 224 (s 36) v3) fun r4 =>
    lt1 (Int32.toInt64 r4) fun v5 =>
    lt1 (v5 &&& 4294967295) fun v6 =>
    lt1 (Int32.toInt64 x2) fun v7 =>
    lt1 (v7 &&& 4294967295) fun v8 =>
    lt1 (v6 + v8) fun v9 =>
    lt1 (Int32.toInt64 r1) fun v10 =>
    lt1 (v9 + v10) fun v11 =>
    lt1 (s 5 0 * 64) fun v12 =>
    lt1 (Int32.toInt64 v12) fun v13 =>
    lt1 (lg_cmp v11 v13) fun v14 =>
    if v14 ≤ 0 then
      lt1 (Int64.toInt32 v9) fun v15 =>
      bd1 (f_Op_isStore x1) fun r16 =>
      if r16 = 0 then
        bd1 (f_Store_read s v15 r1) fun r17 =>
        bd1 (f_Store_signed x1 r17) fun r18 =>
        lt1 (rSet s 36 224 v3 r18) fun s19 =>
        f_Store_access_111 x1 x2 x3 r1 v3 v9 v15 s19
      else
        lt1 (x3 - 1) fun v20 =>
        lt1 (rGet 224 (s 36) v20) fun r21 =>
        bd1 (f_Store_write v15 r1 r21 s) fun s22 =>
        f_Store_access_111 x1 x2 x3 r1 v3 v9 v15 s22
    else
      some (5, s)
section WALK
variable {p : Program} {l : Launch} {e : Env} {ss : State} {m : MethodId} {args : Array Value} {below : List Frame} {meth : Method} {c : Code} {Q : State → Prop} {g : GX} {A : Nat → Prop}
set_option maxHeartbeats 4000000 in
set_option maxRecDepth 100000 in
theorem w_Store_access_111 {z : Int32 × St} (C : Cx g A p m c b_Store_access 9 ss args R_Store) (hQ : ∀ (pc : Nat) (H : Heap) (locs : List Loc) (ls : Array Slot), XW g A ss (wX g z.2) H locs → decode b_Store_access pc = .ok (.ireturn, 1) → W p l e (rmX 3 60) ss m args below meth c H locs 0 0 Q (F0 m pc ls [.int z.1])) : ∀ (x1 : Int32) (x2 : Int32) (x3 : Int32) (x4 : Int32) (x5 : Int32) (x6 : Int64) (x8 : Int32) (s : St) (H : Heap) (locs : List Loc) (ls : Array Slot), XW g A ss (wX g s) H locs → lv_has ls 9 [(0, .ref (g.q 5)), (1, .int x1), (2, .int x2), (3, .int x3), (4, .int x4), (5, .int x5), (6, .long x6), (8, .int x8)] → f_Store_access_111 x1 x2 x3 x4 x5 x6 x8 s = some z → W p l e (rmX 3 60) ss m args below meth c H locs 0 0 Q (F0 m 111 ls []) := by
  have ⟨⟨hx, hb, hml, hown, hts⟩, hK, hA, hN⟩ := C
  intro x1 x2 x3 x4 x5 x6 x8 s H locs ls hX hl h
  rw [f_Store_access_111] at h
  refine lv_iconst (v := 0) hx hb d_Store_access_111 (by decide) ?_
  obtain rfl := so1 h
  exact hQ _ H locs ls hX d_Store_access_112
set_option maxHeartbeats 4000000 in
set_option maxRecDepth 100000 in
theorem w_Store_access {z : Int32 × St} (C : Cx g A p m c b_Store_access 9 ss args R_Store) (hQ : ∀ (pc : Nat) (H : Heap) (locs : List Loc) (ls : Array Slot), XW g A ss (wX g z.2) H locs → decode b_Store_access pc = .ok (.ireturn, 1) → W p l e (rmX 3 60) ss m args below meth c H locs 0 0 Q (F0 m pc ls [.int z.1])) : ∀ (x1 : Int32) (x2 : Int32) (x3 : Int32) (s : St) (H : Heap) (locs : List Loc) (ls : Array Slot), XW g A ss (wX g s) H locs → lv_has ls 9 [(0, .ref (g.q 5)), (1, .int x1), (2, .int x2), (3, .int x3)] → f_Store_access x1 x2 x3 s = some z → W p l e (rmX 3 60) ss m args below meth c H locs 0 0 Q (F0 m 0 ls []) := by
  have ⟨⟨hx, hb, hml, hown, hts⟩, hK, hA, hN⟩ := C
  intro x1 x2 x3 s H locs ls hX hl h
  rw [f_Store_access] at h
  refine lv_iload_n hx hb d_Store_access_0 rfl (lv_at hl 1 rfl) ?_
  obtain ⟨r1, hc1, h⟩ := bd1_e h
  refine x_sI (As := [.int x1]) (rest := []) C hX (c_Op_width l g x1 r1 hc1 _) (cw_Store_109 C.1.2.2.2.2 C.2.2.2 ⟨by decide, by decide⟩) rfl hl.1 rfl (lv_room (Nat.le_of_ble_eq_true rfl)) d_Store_access_1 ⟨Nat.le_refl _, Nat.le_refl _⟩ (fun H locs hX => ?_)
  refine lv_istore (lv' := [(4, .int r1), (0, .ref (g.q 5)), (1, .int x1), (2, .int x2), (3, .int x3)]) hx hb d_Store_access_4 hl (by decide) rfl (fun ls hl => ?_)
  refine lv_iload_n hx hb d_Store_access_6 rfl (lv_at hl 4 rfl) ?_
  refine lv_iload_n hx hb d_Store_access_7 rfl (lv_at hl 2 rfl) ?_
  obtain ⟨r2, hc8, h⟩ := bd1_e h
  refine x_sI (As := [.int x1]) (rest := [.int x3]) C hX (c_Op_takes l g x1 r2 hc8 _) (cw_Store_97 C.1.2.2.2.2 C.2.2.2 ⟨by decide, by decide⟩) rfl hl.1 rfl (lv_room (Nat.le_of_ble_eq_true rfl)) d_Store_access_8 ⟨Nat.le_refl _, Nat.le_refl _⟩ (fun H locs hX => ?_)
  obtain ⟨v3, ev3, h⟩ := lt1_e h
  refine x_isub hx hb d_Store_access_11 ev3 ?_
  refine lv_istore (lv' := [(5, .int v3), (4, .int r1), (0, .ref (g.q 5)), (1, .int x1), (2, .int x2), (3, .int x3)]) hx hb d_Store_access_12 hl (by decide) rfl (fun ls hl => ?_)
  refine lv_aload_n hx hb d_Store_access_14 rfl (lv_at hl 2 rfl) ?_
  refine gf_5_cells C hX fl_Store_20 d_Store_access_15 ?_
  refine lv_iload hx hb d_Store_access_18 (lv_at hl 0 rfl) ?_
  obtain ⟨r4, er4, h⟩ := lt1_e h
  refine x_vI (r := r4) (ws' := wX g s) (As := [.int v3]) (rest := []) C hX (by rw [er4]; exact cRowGet_35 l g s v3) (cw_Store_88 C.1.2.2.2.2 C.2.2.2 ⟨by decide, by decide⟩) (x_rc C hX wg_35 rfl) rfl hl.1 rfl (lv_room (Nat.le_of_ble_eq_true rfl)) d_Store_access_20 ⟨Nat.le_refl _, Nat.le_refl _⟩ (fun H locs hX => ?_)
  obtain ⟨v5, ev5, h⟩ := lt1_e h
  refine lv_i2l hx hb d_Store_access_23 ev5.symm ?_
  refine lv_ldc2 (v := 4294967295) hx hb hown (hts _ m_constantLong_Store_112) d_Store_access_24 ?_
  obtain ⟨v6, ev6, h⟩ := lt1_e h
  refine x_land hx hb d_Store_access_27 ev6 ?_
  refine lv_iload_n hx hb d_Store_access_28 rfl (lv_at hl 4 rfl) ?_
  obtain ⟨v7, ev7, h⟩ := lt1_e h
  refine lv_i2l hx hb d_Store_access_29 ev7.symm ?_
  refine lv_ldc2 (v := 4294967295) hx hb hown (hts _ m_constantLong_Store_112) d_Store_access_30 ?_
  obtain ⟨v8, ev8, h⟩ := lt1_e h
  refine x_land hx hb d_Store_access_33 ev8 ?_
  obtain ⟨v9, ev9, h⟩ := lt1_e h
  refine x_ladd hx hb d_Store_access_34 ev9 ?_
  refine lv_lstore (lv' := [(6, .long v9), (5, .int v3), (4, .int r1), (0, .ref (g.q 5)), (1, .int x1), (2, .int x2), (3, .int x3)]) hx hb d_Store_access_35 hl (by decide) rfl (fun ls hl => ?_)
  refine lv_lload hx hb d_Store_access_37 (lv_at hl 0 rfl) ?_
  refine lv_iload hx hb d_Store_access_39 (lv_at hl 2 rfl) ?_
  obtain ⟨v10, ev10, h⟩ := lt1_e h
  refine lv_i2l hx hb d_Store_access_41 ev10.symm ?_
  obtain ⟨v11, ev11, h⟩ := lt1_e h
  refine x_ladd hx hb d_Store_access_42 ev11 ?_
  refine lv_aload_n hx hb d_Store_access_43 rfl (lv_at hl 3 rfl) ?_
  refine gf_5_pages C hX fl_Store_35 d_Store_access_44 ?_
  refine lv_bipush (v := 64) hx hb d_Store_access_47 (by decide) ?_
  obtain ⟨v12, ev12, h⟩ := lt1_e h
  refine x_imul hx hb d_Store_access_49 ev12 ?_
  obtain ⟨v13, ev13, h⟩ := lt1_e h
  refine lv_i2l hx hb d_Store_access_50 ev13.symm ?_
  obtain ⟨v14, ev14, h⟩ := lt1_e h
  refine x_lcmp hx hb d_Store_access_51 ev14 ?_
  refine lv_if_le (tgt := 57) hx hb d_Store_access_52 (by decide) (fun c52 => ?_) (fun c52 => ?_)
  · have h := ite_t c52 h
    refine lv_lload hx hb d_Store_access_57 (lv_at hl 0 rfl) ?_
    obtain ⟨v15, ev15, h⟩ := lt1_e h
    refine lv_l2i hx hb d_Store_access_59 ev15.symm ?_
    refine lv_istore (lv' := [(8, .int v15), (6, .long v9), (5, .int v3), (4, .int r1), (0, .ref (g.q 5)), (1, .int x1), (2, .int x2), (3, .int x3)]) hx hb d_Store_access_60 hl (by decide) rfl (fun ls hl => ?_)
    refine lv_iload_n hx hb d_Store_access_62 rfl (lv_at hl 5 rfl) ?_
    obtain ⟨r16, hc63, h⟩ := bd1_e h
    refine x_sI (As := [.int x1]) (rest := []) C hX (c_Op_isStore l g x1 r16 hc63 _) (cw_Store_114 C.1.2.2.2.2 C.2.2.2 ⟨by decide, by decide⟩) rfl hl.1 rfl (lv_room (Nat.le_of_ble_eq_true rfl)) d_Store_access_63 ⟨Nat.le_refl _, Nat.le_refl _⟩ (fun H locs hX => ?_)
    refine lv_if_eq (tgt := 90) hx hb d_Store_access_66 (by decide) (fun c66 => ?_) (fun c66 => ?_)
    · have h := ite_t c66 h
      refine lv_aload_n hx hb d_Store_access_90 rfl (lv_at hl 4 rfl) ?_
      refine gf_5_cells C hX fl_Store_20 d_Store_access_91 ?_
      refine lv_iload hx hb d_Store_access_94 (lv_at hl 2 rfl) ?_
      refine lv_iload_n hx hb d_Store_access_96 rfl (lv_at hl 5 rfl) ?_
      refine lv_aload_n hx hb d_Store_access_97 rfl (lv_at hl 4 rfl) ?_
      refine lv_iload hx hb d_Store_access_98 (lv_at hl 0 rfl) ?_
      refine lv_iload hx hb d_Store_access_100 (lv_at hl 3 rfl) ?_
      obtain ⟨r17, hc102, h⟩ := bd1_e h
      refine x_vI (As := [.int v15, .int r1]) (rest := [.int x1, .int v3, .ref (g.q 35)]) C hX (c_Store_read l g v15 r1 s r17 hc102) (cw_Store_121 C.1.2.2.2.2 C.2.2.2 ⟨by decide, by decide⟩) (x_rc C hX wg_5 rfl) rfl hl.1 rfl (lv_room (Nat.le_of_ble_eq_true rfl)) d_Store_access_102 ⟨Nat.le_refl _, Nat.le_refl _⟩ (fun H locs hX => ?_)
      obtain ⟨r18, hc105, h⟩ := bd1_e h
      refine x_sI (As := [.int x1, .int r17]) (rest := [.int v3, .ref (g.q 35)]) C hX (c_Store_signed l g x1 r17 r18 hc105 _) (cw_Store_124 C.1.2.2.2.2 C.2.2.2 ⟨by decide, by decide⟩) rfl hl.1 rfl (lv_room (Nat.le_of_ble_eq_true rfl)) d_Store_access_105 ⟨Nat.le_refl _, Nat.le_refl _⟩ (fun H locs hX => ?_)
      obtain ⟨s19, es19, h⟩ := lt1_e h
      refine x_vV (ws' := wX g s19) (As := [.int v3, .int r18]) (rest := []) C hX (by rw [es19]; exact cRowSet_35 l g s v3 r18) (cw_Store_51 C.1.2.2.2.2 C.2.2.2 ⟨by decide, by decide⟩) (x_rc C hX wg_35 rfl) rfl hl.1 rfl (lv_room (Nat.le_of_ble_eq_true rfl)) d_Store_access_108 ⟨Nat.le_refl _, Nat.le_refl _⟩ (fun H locs hX => ?_)
      exact w_Store_access_111 C hQ x1 x2 x3 r1 v3 v9 v15 s19 H locs ls hX (lv_sub hl [4, 5, 6, 7, 3, 2, 1, 0] rfl) h
    · have h := ite_f c66 h
      refine lv_aload_n hx hb d_Store_access_69 rfl (lv_at hl 4 rfl) ?_
      refine lv_iload hx hb d_Store_access_70 (lv_at hl 0 rfl) ?_
      refine lv_iload hx hb d_Store_access_72 (lv_at hl 3 rfl) ?_
      refine lv_aload_n hx hb d_Store_access_74 rfl (lv_at hl 4 rfl) ?_
      refine gf_5_cells C hX fl_Store_20 d_Store_access_75 ?_
      refine lv_iload_n hx hb d_Store_access_78 rfl (lv_at hl 7 rfl) ?_
      refine lv_iconst (v := 1) hx hb d_Store_access_79 (by decide) ?_
      obtain ⟨v20, ev20, h⟩ := lt1_e h
      refine x_isub hx hb d_Store_access_80 ev20 ?_
      obtain ⟨r21, er21, h⟩ := lt1_e h
      refine x_vI (r := r21) (ws' := wX g s) (As := [.int v20]) (rest := [.int r1, .int v15, .ref (g.q 5)]) C hX (by rw [er21]; exact cRowGet_35 l g s v20) (cw_Store_88 C.1.2.2.2.2 C.2.2.2 ⟨by decide, by decide⟩) (x_rc C hX wg_35 rfl) rfl hl.1 rfl (lv_room (Nat.le_of_ble_eq_true rfl)) d_Store_access_81 ⟨Nat.le_refl _, Nat.le_refl _⟩ (fun H locs hX => ?_)
      obtain ⟨s22, hc84, h⟩ := bd1_e h
      refine x_vV (As := [.int v15, .int r1, .int r21]) (rest := []) C hX (c_Store_write l g v15 r1 r21 s s22 hc84) (cw_Store_117 C.1.2.2.2.2 C.2.2.2 ⟨by decide, by decide⟩) (x_rc C hX wg_5 rfl) rfl hl.1 rfl (lv_room (Nat.le_of_ble_eq_true rfl)) d_Store_access_84 ⟨Nat.le_refl _, Nat.le_refl _⟩ (fun H locs hX => ?_)
      refine lv_goto (tgt := 111) hx hb d_Store_access_87 (by decide) ?_
      exact w_Store_access_111 C hQ x1 x2 x3 r1 v3 v9 v15 s22 H locs ls hX (lv_sub hl [4, 5, 6, 7, 3, 2, 1, 0] rfl) h
  · have h := ite_f c52 h
    refine lv_iconst (v := 5) hx hb d_Store_access_55 (by decide) ?_
    obtain rfl := so1 h
    exact hQ _ H locs ls hX d_Store_access_56
end WALK
theorem c_Store_access (l : Launch) (g : GX) (x1 : Int32) (x2 : Int32) (x3 : Int32) (s : St) (z : Int32 × St) (h : f_Store_access x1 x2 x3 s = some z) : MI l g y_Store_access b_Store_access 9 (some .int) 3 60 [.ref (g.q 5), .int x1, .int x2, .int x3] (wX g s) z.1 (wX g z.2) :=
  MI.mk (own := R_Store) (by decide) rfl (Nat.le_of_ble_eq_true rfl) fun p e ss m below meth c A Q C hQ ls hX hl => w_Store_access C hQ x1 x2 x3 s _ _ ls hX hl h
-- Store_growBy
def f_Store_growBy (x1 : Int32) (s : St) : Option (Int32 × St) :=
    lt1 (s 5 1 - s 5 0) fun v1 =>
    bd1 (f_X_isAbove x1 v1) fun r2 =>
    if r2 = 0 then
      lt1 (s 5 0 + x1) fun v3 =>
      lt1 (stp s 5 0 v3) fun s4 =>
      lt1 (s4 5 0 - x1) fun v5 =>
      some (v5, s4)
    else
      some ((-1), s)
section WALK
variable {p : Program} {l : Launch} {e : Env} {ss : State} {m : MethodId} {args : Array Value} {below : List Frame} {meth : Method} {c : Code} {Q : State → Prop} {g : GX} {A : Nat → Prop}
set_option maxHeartbeats 4000000 in
set_option maxRecDepth 100000 in
theorem w_Store_growBy {z : Int32 × St} (C : Cx g A p m c b_Store_growBy 2 ss args R_Store) (hQ : ∀ (pc : Nat) (H : Heap) (locs : List Loc) (ls : Array Slot), XW g A ss (wX g z.2) H locs → decode b_Store_growBy pc = .ok (.ireturn, 1) → W p l e (rmX 1 21) ss m args below meth c H locs 0 0 Q (F0 m pc ls [.int z.1])) : ∀ (x1 : Int32) (s : St) (H : Heap) (locs : List Loc) (ls : Array Slot), XW g A ss (wX g s) H locs → lv_has ls 2 [(0, .ref (g.q 5)), (1, .int x1)] → f_Store_growBy x1 s = some z → W p l e (rmX 1 21) ss m args below meth c H locs 0 0 Q (F0 m 0 ls []) := by
  have ⟨⟨hx, hb, hml, hown, hts⟩, hK, hA, hN⟩ := C
  intro x1 s H locs ls hX hl h
  rw [f_Store_growBy] at h
  refine lv_iload_n hx hb d_Store_growBy_0 rfl (lv_at hl 1 rfl) ?_
  refine lv_aload_n hx hb d_Store_growBy_1 rfl (lv_at hl 0 rfl) ?_
  refine gf_5_mostPages C hX fl_Store_41 d_Store_growBy_2 ?_
  refine lv_aload_n hx hb d_Store_growBy_5 rfl (lv_at hl 0 rfl) ?_
  refine gf_5_pages C hX fl_Store_35 d_Store_growBy_6 ?_
  obtain ⟨v1, ev1, h⟩ := lt1_e h
  refine x_isub hx hb d_Store_growBy_9 ev1 ?_
  obtain ⟨r2, hc10, h⟩ := bd1_e h
  refine x_sNI (As := [.int x1, .int v1]) (rest := []) C hX (c_X_isAbove l g x1 v1 r2 hc10 _) (cw_Store_93 C.1.2.2.2.2 C.2.2.2 ⟨by decide, by decide⟩) rfl hl.1 rfl (lv_room (Nat.le_of_ble_eq_true rfl)) d_Store_growBy_10 ⟨Nat.le_refl _, Nat.le_refl _⟩ (fun H locs hX => ?_)
  refine lv_if_eq (tgt := 18) hx hb d_Store_growBy_13 (by decide) (fun c13 => ?_) (fun c13 => ?_)
  · have h := ite_t c13 h
    refine lv_aload_n hx hb d_Store_growBy_18 rfl (lv_at hl 0 rfl) ?_
    refine lv_dup hx hb d_Store_growBy_19 rfl ?_
    refine gf_5_pages C hX fl_Store_35 d_Store_growBy_20 ?_
    refine lv_iload_n hx hb d_Store_growBy_23 rfl (lv_at hl 1 rfl) ?_
    obtain ⟨v3, ev3, h⟩ := lt1_e h
    refine x_iadd hx hb d_Store_growBy_24 ev3 ?_
    obtain ⟨s4, es4, h⟩ := lt1_e h
    refine pf_5_pages C hX fl_Store_35 d_Store_growBy_25 (fun H locs hX => ?_)
    rw [← es4] at hX
    refine lv_aload_n hx hb d_Store_growBy_28 rfl (lv_at hl 0 rfl) ?_
    refine gf_5_pages C hX fl_Store_35 d_Store_growBy_29 ?_
    refine lv_iload_n hx hb d_Store_growBy_32 rfl (lv_at hl 1 rfl) ?_
    obtain ⟨v5, ev5, h⟩ := lt1_e h
    refine x_isub hx hb d_Store_growBy_33 ev5 ?_
    obtain rfl := so1 h
    exact hQ _ H locs ls hX d_Store_growBy_34
  · have h := ite_f c13 h
    refine lv_iconst (v := (-1)) hx hb d_Store_growBy_16 (by decide) ?_
    obtain rfl := so1 h
    exact hQ _ H locs ls hX d_Store_growBy_17
end WALK
theorem c_Store_growBy (l : Launch) (g : GX) (x1 : Int32) (s : St) (z : Int32 × St) (h : f_Store_growBy x1 s = some z) : MI l g y_Store_growBy b_Store_growBy 2 (some .int) 1 21 [.ref (g.q 5), .int x1] (wX g s) z.1 (wX g z.2) :=
  MI.mk (own := R_Store) (by decide) rfl (Nat.le_of_ble_eq_true rfl) fun p e ss m below meth c A Q C hQ ls hX hl => w_Store_growBy C hQ x1 s _ _ ls hX hl h
-- Store_move
def f_Store_move_252 (x1 : Int32) (x2 : Int32) (x3 : Int32) (x4 : Int32) (x5 : Int32) (s : St) : Option St :=
    some s
def f_Store_move_155 (x1 : Int32) (x2 : Int32) (x3 : Int32) (x4 : Int32) (x5 : Int32) (s : St) : Option St :=
    lt1 (x3 + x2) fun v1 =>
    lt1 (rSet s 36 224 v1 x5) fun s2 =>
    f_Store_move_252 x1 x2 x3 x4 x5 s2
def f_Store_move_124 (x1 : Int32) (x2 : Int32) (x3 : Int32) (x4 : Int32) (x5 : Int32) (y1 : Int32) (y3 : Int32) (s : St) : Option St :=
    lt1 (rGet 224 (s 36) y3) fun r1 =>
    lt1 (rSet s 36 224 y1 r1) fun s2 =>
    f_Store_move_252 x1 x2 x3 x4 x5 s2
def f_Store_move (x1 : Int32) (x2 : Int32) (x3 : Int32) (x4 : Int32) (s : St) : Option St :=
    lt1 (x4 - 1) fun v1 =>
    lt1 (rGet 224 (s 36) v1) fun r2 =>
    if x1 = 27 then
      lt1 (x4 - 3) fun v3 =>
      if r2 = 0 then
        lt1 (x4 - 2) fun v4 =>
        f_Store_move_124 x1 x2 x3 x4 r2 v3 v4 s
      else
        lt1 (x4 - 3) fun v5 =>
        f_Store_move_124 x1 x2 x3 x4 r2 v3 v5 s
    else if x1 = 32 then
      lt1 (x3 + x2) fun v6 =>
      lt1 (rGet 224 (s 36) v6) fun r7 =>
      lt1 (rSet s 36 224 x4 r7) fun s8 =>
      f_Store_move_252 x1 x2 x3 x4 r2 s8
    else if x1 = 33 then
      f_Store_move_155 x1 x2 x3 x4 r2 s
    else if x1 = 34 then
      f_Store_move_155 x1 x2 x3 x4 r2 s
    else if x1 = 35 then
      lt1 (rGet 4 (s 38) x2) fun r9 =>
      lt1 (rSet s 36 224 x4 r9) fun s10 =>
      f_Store_move_252 x1 x2 x3 x4 r2 s10
    else if x1 = 36 then
      lt1 (rSet s 38 4 x2 r2) fun s11 =>
      f_Store_move_252 x1 x2 x3 x4 r2 s11
    else if x1 = 63 then
      lt1 (rSet s 36 224 x4 (s 5 0)) fun s12 =>
      f_Store_move_252 x1 x2 x3 x4 r2 s12
    else if x1 = 64 then
      lt1 (x4 - 1) fun v13 =>
      bd (f_Store_growBy r2 s) fun r15 s14 =>
      lt1 (rSet s14 36 224 v13 r15) fun s16 =>
      f_Store_move_252 x1 x2 x3 x4 r2 s16
    else if x1 = 65 then
      lt1 (rSet s 36 224 x4 x2) fun s17 =>
      f_Store_move_252 x1 x2 x3 x4 r2 s17
    else 
      f_Store_move_252 x1 x2 x3 x4 r2 s
section WALK
variable {p : Program} {l : Launch} {e : Env} {ss : State} {m : MethodId} {args : Array Value} {below : List Frame} {meth : Method} {c : Code} {Q : State → Prop} {g : GX} {A : Nat → Prop}
set_option maxHeartbeats 4000000 in
set_option maxRecDepth 100000 in
theorem w_Store_move_252 {z : St} (C : Cx g A p m c b_Store_move 6 ss args R_Store) (hQ : ∀ (pc : Nat) (H : Heap) (locs : List Loc) (ls : Array Slot), XW g A ss (wX g z) H locs → decode b_Store_move pc = .ok (.return_, 1) → W p l e (rmX 2 42) ss m args below meth c H locs 0 0 Q (F0 m pc ls [])) : ∀ (x1 : Int32) (x2 : Int32) (x3 : Int32) (x4 : Int32) (x5 : Int32) (s : St) (H : Heap) (locs : List Loc) (ls : Array Slot), XW g A ss (wX g s) H locs → lv_has ls 6 [(0, .ref (g.q 5)), (1, .int x1), (2, .int x2), (3, .int x3), (4, .int x4), (5, .int x5)] → f_Store_move_252 x1 x2 x3 x4 x5 s = some z → W p l e (rmX 2 42) ss m args below meth c H locs 0 0 Q (F0 m 252 ls []) := by
  have ⟨⟨hx, hb, hml, hown, hts⟩, hK, hA, hN⟩ := C
  intro x1 x2 x3 x4 x5 s H locs ls hX hl h
  rw [f_Store_move_252] at h
  obtain rfl := so1 h
  exact hQ _ H locs ls hX d_Store_move_252
set_option maxHeartbeats 4000000 in
set_option maxRecDepth 100000 in
theorem w_Store_move_155 {z : St} (C : Cx g A p m c b_Store_move 6 ss args R_Store) (hQ : ∀ (pc : Nat) (H : Heap) (locs : List Loc) (ls : Array Slot), XW g A ss (wX g z) H locs → decode b_Store_move pc = .ok (.return_, 1) → W p l e (rmX 2 42) ss m args below meth c H locs 0 0 Q (F0 m pc ls [])) : ∀ (x1 : Int32) (x2 : Int32) (x3 : Int32) (x4 : Int32) (x5 : Int32) (s : St) (H : Heap) (locs : List Loc) (ls : Array Slot), XW g A ss (wX g s) H locs → lv_has ls 6 [(0, .ref (g.q 5)), (1, .int x1), (2, .int x2), (3, .int x3), (4, .int x4), (5, .int x5)] → f_Store_move_155 x1 x2 x3 x4 x5 s = some z → W p l e (rmX 2 42) ss m args below meth c H locs 0 0 Q (F0 m 155 ls []) := by
  have ⟨⟨hx, hb, hml, hown, hts⟩, hK, hA, hN⟩ := C
  intro x1 x2 x3 x4 x5 s H locs ls hX hl h
  rw [f_Store_move_155] at h
  refine lv_aload_n hx hb d_Store_move_155 rfl (lv_at hl 0 rfl) ?_
  refine gf_5_cells C hX fl_Store_20 d_Store_move_156 ?_
  refine lv_iload_n hx hb d_Store_move_159 rfl (lv_at hl 3 rfl) ?_
  refine lv_iload_n hx hb d_Store_move_160 rfl (lv_at hl 2 rfl) ?_
  obtain ⟨v1, ev1, h⟩ := lt1_e h
  refine x_iadd hx hb d_Store_move_161 ev1 ?_
  refine lv_iload hx hb d_Store_move_162 (lv_at hl 5 rfl) ?_
  obtain ⟨s2, es2, h⟩ := lt1_e h
  refine x_vV (ws' := wX g s2) (As := [.int v1, .int x5]) (rest := []) C hX (by rw [es2]; exact cRowSet_35 l g s v1 x5) (cw_Store_51 C.1.2.2.2.2 C.2.2.2 ⟨by decide, by decide⟩) (x_rc C hX wg_35 rfl) rfl hl.1 rfl (lv_room (Nat.le_of_ble_eq_true rfl)) d_Store_move_164 ⟨Nat.le_refl _, Nat.le_refl _⟩ (fun H locs hX => ?_)
  refine lv_goto (tgt := 252) hx hb d_Store_move_167 (by decide) ?_
  exact w_Store_move_252 C hQ x1 x2 x3 x4 x5 s2 H locs ls hX hl h
set_option maxHeartbeats 4000000 in
set_option maxRecDepth 100000 in
theorem w_Store_move_124 {z : St} (C : Cx g A p m c b_Store_move 6 ss args R_Store) (hQ : ∀ (pc : Nat) (H : Heap) (locs : List Loc) (ls : Array Slot), XW g A ss (wX g z) H locs → decode b_Store_move pc = .ok (.return_, 1) → W p l e (rmX 2 42) ss m args below meth c H locs 0 0 Q (F0 m pc ls [])) : ∀ (x1 : Int32) (x2 : Int32) (x3 : Int32) (x4 : Int32) (x5 : Int32) (y1 : Int32) (y3 : Int32) (s : St) (H : Heap) (locs : List Loc) (ls : Array Slot), XW g A ss (wX g s) H locs → lv_has ls 6 [(0, .ref (g.q 5)), (1, .int x1), (2, .int x2), (3, .int x3), (4, .int x4), (5, .int x5)] → f_Store_move_124 x1 x2 x3 x4 x5 y1 y3 s = some z → W p l e (rmX 2 42) ss m args below meth c H locs 0 0 Q (F0 m 124 ls [.int y3, .ref (g.q 35), .int y1, .ref (g.q 35)]) := by
  have ⟨⟨hx, hb, hml, hown, hts⟩, hK, hA, hN⟩ := C
  intro x1 x2 x3 x4 x5 y1 y3 s H locs ls hX hl h
  rw [f_Store_move_124] at h
  obtain ⟨r1, er1, h⟩ := lt1_e h
  refine x_vI (r := r1) (ws' := wX g s) (As := [.int y3]) (rest := [.int y1, .ref (g.q 35)]) C hX (by rw [er1]; exact cRowGet_35 l g s y3) (cw_Store_88 C.1.2.2.2.2 C.2.2.2 ⟨by decide, by decide⟩) (x_rc C hX wg_35 rfl) rfl hl.1 rfl (lv_room (Nat.le_of_ble_eq_true rfl)) d_Store_move_124 ⟨Nat.le_refl _, Nat.le_refl _⟩ (fun H locs hX => ?_)
  obtain ⟨s2, es2, h⟩ := lt1_e h
  refine x_vV (ws' := wX g s2) (As := [.int y1, .int r1]) (rest := []) C hX (by rw [es2]; exact cRowSet_35 l g s y1 r1) (cw_Store_51 C.1.2.2.2.2 C.2.2.2 ⟨by decide, by decide⟩) (x_rc C hX wg_35 rfl) rfl hl.1 rfl (lv_room (Nat.le_of_ble_eq_true rfl)) d_Store_move_127 ⟨Nat.le_refl _, Nat.le_refl _⟩ (fun H locs hX => ?_)
  refine lv_goto (tgt := 252) hx hb d_Store_move_130 (by decide) ?_
  exact w_Store_move_252 C hQ x1 x2 x3 x4 x5 s2 H locs ls hX hl h
set_option maxHeartbeats 4000000 in
set_option maxRecDepth 100000 in
theorem w_Store_move {z : St} (C : Cx g A p m c b_Store_move 6 ss args R_Store) (hQ : ∀ (pc : Nat) (H : Heap) (locs : List Loc) (ls : Array Slot), XW g A ss (wX g z) H locs → decode b_Store_move pc = .ok (.return_, 1) → W p l e (rmX 2 42) ss m args below meth c H locs 0 0 Q (F0 m pc ls [])) : ∀ (x1 : Int32) (x2 : Int32) (x3 : Int32) (x4 : Int32) (s : St) (H : Heap) (locs : List Loc) (ls : Array Slot), XW g A ss (wX g s) H locs → lv_has ls 6 [(0, .ref (g.q 5)), (1, .int x1), (2, .int x2), (3, .int x3), (4, .int x4)] → f_Store_move x1 x2 x3 x4 s = some z → W p l e (rmX 2 42) ss m args below meth c H locs 0 0 Q (F0 m 0 ls []) := by
  have ⟨⟨hx, hb, hml, hown, hts⟩, hK, hA, hN⟩ := C
  intro x1 x2 x3 x4 s H locs ls hX hl h
  rw [f_Store_move] at h
  refine lv_aload_n hx hb d_Store_move_0 rfl (lv_at hl 0 rfl) ?_
  refine gf_5_cells C hX fl_Store_20 d_Store_move_1 ?_
  refine lv_iload hx hb d_Store_move_4 (lv_at hl 4 rfl) ?_
  refine lv_iconst (v := 1) hx hb d_Store_move_6 (by decide) ?_
  obtain ⟨v1, ev1, h⟩ := lt1_e h
  refine x_isub hx hb d_Store_move_7 ev1 ?_
  obtain ⟨r2, er2, h⟩ := lt1_e h
  refine x_vI (r := r2) (ws' := wX g s) (As := [.int v1]) (rest := []) C hX (by rw [er2]; exact cRowGet_35 l g s v1) (cw_Store_88 C.1.2.2.2.2 C.2.2.2 ⟨by decide, by decide⟩) (x_rc C hX wg_35 rfl) rfl hl.1 rfl (lv_room (Nat.le_of_ble_eq_true rfl)) d_Store_move_8 ⟨Nat.le_refl _, Nat.le_refl _⟩ (fun H locs hX => ?_)
  refine lv_istore (lv' := [(5, .int r2), (0, .ref (g.q 5)), (1, .int x1), (2, .int x2), (3, .int x3), (4, .int x4)]) hx hb d_Store_move_11 hl (by decide) rfl (fun ls hl => ?_)
  refine lv_iload_n hx hb d_Store_move_13 rfl (lv_at hl 2 rfl) ?_
  by_cases c14_0 : x1 = 27
  · have h := ite_t c14_0 h
    refine lv_lookup (tgt := 96) hx hb d_Store_move_14 (by decide) (by rw [c14_0] <;> rfl) (by decide) ?_
    refine lv_aload_n hx hb d_Store_move_96 rfl (lv_at hl 1 rfl) ?_
    refine gf_5_cells C hX fl_Store_20 d_Store_move_97 ?_
    refine lv_iload hx hb d_Store_move_100 (lv_at hl 5 rfl) ?_
    refine lv_iconst (v := 3) hx hb d_Store_move_102 (by decide) ?_
    obtain ⟨v3, ev3, h⟩ := lt1_e h
    refine x_isub hx hb d_Store_move_103 ev3 ?_
    refine lv_aload_n hx hb d_Store_move_104 rfl (lv_at hl 1 rfl) ?_
    refine gf_5_cells C hX fl_Store_20 d_Store_move_105 ?_
    refine lv_iload hx hb d_Store_move_108 (lv_at hl 0 rfl) ?_
    refine lv_if_eq (tgt := 120) hx hb d_Store_move_110 (by decide) (fun c110 => ?_) (fun c110 => ?_)
    · have h := ite_t c110 h
      refine lv_iload hx hb d_Store_move_120 (lv_at hl 5 rfl) ?_
      refine lv_iconst (v := 2) hx hb d_Store_move_122 (by decide) ?_
      obtain ⟨v4, ev4, h⟩ := lt1_e h
      refine x_isub hx hb d_Store_move_123 ev4 ?_
      exact w_Store_move_124 C hQ x1 x2 x3 x4 r2 v3 v4 s H locs ls hX (lv_sub hl [1, 2, 3, 4, 5, 0] rfl) h
    · have h := ite_f c110 h
      refine lv_iload hx hb d_Store_move_113 (lv_at hl 5 rfl) ?_
      refine lv_iconst (v := 3) hx hb d_Store_move_115 (by decide) ?_
      obtain ⟨v5, ev5, h⟩ := lt1_e h
      refine x_isub hx hb d_Store_move_116 ev5 ?_
      refine lv_goto (tgt := 124) hx hb d_Store_move_117 (by decide) ?_
      exact w_Store_move_124 C hQ x1 x2 x3 x4 r2 v3 v5 s H locs ls hX (lv_sub hl [1, 2, 3, 4, 5, 0] rfl) h
  have h := ite_f c14_0 h
  by_cases c14_1 : x1 = 32
  · have h := ite_t c14_1 h
    refine lv_lookup (tgt := 133) hx hb d_Store_move_14 (by decide) (by rw [c14_1] <;> rfl) (by decide) ?_
    refine lv_aload_n hx hb d_Store_move_133 rfl (lv_at hl 1 rfl) ?_
    refine gf_5_cells C hX fl_Store_20 d_Store_move_134 ?_
    refine lv_iload hx hb d_Store_move_137 (lv_at hl 5 rfl) ?_
    refine lv_aload_n hx hb d_Store_move_139 rfl (lv_at hl 1 rfl) ?_
    refine gf_5_cells C hX fl_Store_20 d_Store_move_140 ?_
    refine lv_iload_n hx hb d_Store_move_143 rfl (lv_at hl 4 rfl) ?_
    refine lv_iload_n hx hb d_Store_move_144 rfl (lv_at hl 3 rfl) ?_
    obtain ⟨v6, ev6, h⟩ := lt1_e h
    refine x_iadd hx hb d_Store_move_145 ev6 ?_
    obtain ⟨r7, er7, h⟩ := lt1_e h
    refine x_vI (r := r7) (ws' := wX g s) (As := [.int v6]) (rest := [.int x4, .ref (g.q 35)]) C hX (by rw [er7]; exact cRowGet_35 l g s v6) (cw_Store_88 C.1.2.2.2.2 C.2.2.2 ⟨by decide, by decide⟩) (x_rc C hX wg_35 rfl) rfl hl.1 rfl (lv_room (Nat.le_of_ble_eq_true rfl)) d_Store_move_146 ⟨Nat.le_refl _, Nat.le_refl _⟩ (fun H locs hX => ?_)
    obtain ⟨s8, es8, h⟩ := lt1_e h
    refine x_vV (ws' := wX g s8) (As := [.int x4, .int r7]) (rest := []) C hX (by rw [es8]; exact cRowSet_35 l g s x4 r7) (cw_Store_51 C.1.2.2.2.2 C.2.2.2 ⟨by decide, by decide⟩) (x_rc C hX wg_35 rfl) rfl hl.1 rfl (lv_room (Nat.le_of_ble_eq_true rfl)) d_Store_move_149 ⟨Nat.le_refl _, Nat.le_refl _⟩ (fun H locs hX => ?_)
    refine lv_goto (tgt := 252) hx hb d_Store_move_152 (by decide) ?_
    exact w_Store_move_252 C hQ x1 x2 x3 x4 r2 s8 H locs ls hX (lv_sub hl [1, 2, 3, 4, 5, 0] rfl) h
  have h := ite_f c14_1 h
  by_cases c14_2 : x1 = 33
  · have h := ite_t c14_2 h
    refine lv_lookup (tgt := 155) hx hb d_Store_move_14 (by decide) (by rw [c14_2] <;> rfl) (by decide) ?_
    exact w_Store_move_155 C hQ x1 x2 x3 x4 r2 s H locs ls hX (lv_sub hl [1, 2, 3, 4, 5, 0] rfl) h
  have h := ite_f c14_2 h
  by_cases c14_3 : x1 = 34
  · have h := ite_t c14_3 h
    refine lv_lookup (tgt := 155) hx hb d_Store_move_14 (by decide) (by rw [c14_3] <;> rfl) (by decide) ?_
    exact w_Store_move_155 C hQ x1 x2 x3 x4 r2 s H locs ls hX (lv_sub hl [1, 2, 3, 4, 5, 0] rfl) h
  have h := ite_f c14_3 h
  by_cases c14_4 : x1 = 35
  · have h := ite_t c14_4 h
    refine lv_lookup (tgt := 170) hx hb d_Store_move_14 (by decide) (by rw [c14_4] <;> rfl) (by decide) ?_
    refine lv_aload_n hx hb d_Store_move_170 rfl (lv_at hl 1 rfl) ?_
    refine gf_5_cells C hX fl_Store_20 d_Store_move_171 ?_
    refine lv_iload hx hb d_Store_move_174 (lv_at hl 5 rfl) ?_
    refine lv_aload_n hx hb d_Store_move_176 rfl (lv_at hl 1 rfl) ?_
    refine gf_5_globals C hX fl_Store_23 d_Store_move_177 ?_
    refine lv_iload_n hx hb d_Store_move_180 rfl (lv_at hl 3 rfl) ?_
    obtain ⟨r9, er9, h⟩ := lt1_e h
    refine x_vI (r := r9) (ws' := wX g s) (As := [.int x2]) (rest := [.int x4, .ref (g.q 35)]) C hX (by rw [er9]; exact cRowGet_37 l g s x2) (cw_Store_88 C.1.2.2.2.2 C.2.2.2 ⟨by decide, by decide⟩) (x_rc C hX wg_37 rfl) rfl hl.1 rfl (lv_room (Nat.le_of_ble_eq_true rfl)) d_Store_move_181 ⟨Nat.le_refl _, Nat.le_refl _⟩ (fun H locs hX => ?_)
    obtain ⟨s10, es10, h⟩ := lt1_e h
    refine x_vV (ws' := wX g s10) (As := [.int x4, .int r9]) (rest := []) C hX (by rw [es10]; exact cRowSet_35 l g s x4 r9) (cw_Store_51 C.1.2.2.2.2 C.2.2.2 ⟨by decide, by decide⟩) (x_rc C hX wg_35 rfl) rfl hl.1 rfl (lv_room (Nat.le_of_ble_eq_true rfl)) d_Store_move_184 ⟨Nat.le_refl _, Nat.le_refl _⟩ (fun H locs hX => ?_)
    refine lv_goto (tgt := 252) hx hb d_Store_move_187 (by decide) ?_
    exact w_Store_move_252 C hQ x1 x2 x3 x4 r2 s10 H locs ls hX (lv_sub hl [1, 2, 3, 4, 5, 0] rfl) h
  have h := ite_f c14_4 h
  by_cases c14_5 : x1 = 36
  · have h := ite_t c14_5 h
    refine lv_lookup (tgt := 190) hx hb d_Store_move_14 (by decide) (by rw [c14_5] <;> rfl) (by decide) ?_
    refine lv_aload_n hx hb d_Store_move_190 rfl (lv_at hl 1 rfl) ?_
    refine gf_5_globals C hX fl_Store_23 d_Store_move_191 ?_
    refine lv_iload_n hx hb d_Store_move_194 rfl (lv_at hl 3 rfl) ?_
    refine lv_iload hx hb d_Store_move_195 (lv_at hl 0 rfl) ?_
    obtain ⟨s11, es11, h⟩ := lt1_e h
    refine x_vV (ws' := wX g s11) (As := [.int x2, .int r2]) (rest := []) C hX (by rw [es11]; exact cRowSet_37 l g s x2 r2) (cw_Store_51 C.1.2.2.2.2 C.2.2.2 ⟨by decide, by decide⟩) (x_rc C hX wg_37 rfl) rfl hl.1 rfl (lv_room (Nat.le_of_ble_eq_true rfl)) d_Store_move_197 ⟨Nat.le_refl _, Nat.le_refl _⟩ (fun H locs hX => ?_)
    refine lv_goto (tgt := 252) hx hb d_Store_move_200 (by decide) ?_
    exact w_Store_move_252 C hQ x1 x2 x3 x4 r2 s11 H locs ls hX (lv_sub hl [1, 2, 3, 4, 5, 0] rfl) h
  have h := ite_f c14_5 h
  by_cases c14_6 : x1 = 63
  · have h := ite_t c14_6 h
    refine lv_lookup (tgt := 203) hx hb d_Store_move_14 (by decide) (by rw [c14_6] <;> rfl) (by decide) ?_
    refine lv_aload_n hx hb d_Store_move_203 rfl (lv_at hl 1 rfl) ?_
    refine gf_5_cells C hX fl_Store_20 d_Store_move_204 ?_
    refine lv_iload hx hb d_Store_move_207 (lv_at hl 5 rfl) ?_
    refine lv_aload_n hx hb d_Store_move_209 rfl (lv_at hl 1 rfl) ?_
    refine gf_5_pages C hX fl_Store_35 d_Store_move_210 ?_
    obtain ⟨s12, es12, h⟩ := lt1_e h
    refine x_vV (ws' := wX g s12) (As := [.int x4, .int (s 5 0)]) (rest := []) C hX (by rw [es12]; exact cRowSet_35 l g s x4 (s 5 0)) (cw_Store_51 C.1.2.2.2.2 C.2.2.2 ⟨by decide, by decide⟩) (x_rc C hX wg_35 rfl) rfl hl.1 rfl (lv_room (Nat.le_of_ble_eq_true rfl)) d_Store_move_213 ⟨Nat.le_refl _, Nat.le_refl _⟩ (fun H locs hX => ?_)
    refine lv_goto (tgt := 252) hx hb d_Store_move_216 (by decide) ?_
    exact w_Store_move_252 C hQ x1 x2 x3 x4 r2 s12 H locs ls hX (lv_sub hl [1, 2, 3, 4, 5, 0] rfl) h
  have h := ite_f c14_6 h
  by_cases c14_7 : x1 = 64
  · have h := ite_t c14_7 h
    refine lv_lookup (tgt := 219) hx hb d_Store_move_14 (by decide) (by rw [c14_7] <;> rfl) (by decide) ?_
    refine lv_aload_n hx hb d_Store_move_219 rfl (lv_at hl 1 rfl) ?_
    refine gf_5_cells C hX fl_Store_20 d_Store_move_220 ?_
    refine lv_iload hx hb d_Store_move_223 (lv_at hl 5 rfl) ?_
    refine lv_iconst (v := 1) hx hb d_Store_move_225 (by decide) ?_
    obtain ⟨v13, ev13, h⟩ := lt1_e h
    refine x_isub hx hb d_Store_move_226 ev13 ?_
    refine lv_aload_n hx hb d_Store_move_227 rfl (lv_at hl 1 rfl) ?_
    refine lv_iload hx hb d_Store_move_228 (lv_at hl 0 rfl) ?_
    obtain ⟨r15, s14, hc230, h⟩ := bd_e h
    refine x_vI (As := [.int r2]) (rest := [.int v13, .ref (g.q 35)]) C hX (c_Store_growBy l g r2 s (r15, s14) hc230) (cw_Store_90 C.1.2.2.2.2 C.2.2.2 ⟨by decide, by decide⟩) (x_rc C hX wg_5 rfl) rfl hl.1 rfl (lv_room (Nat.le_of_ble_eq_true rfl)) d_Store_move_230 ⟨Nat.le_refl _, Nat.le_refl _⟩ (fun H locs hX => ?_)
    obtain ⟨s16, es16, h⟩ := lt1_e h
    refine x_vV (ws' := wX g s16) (As := [.int v13, .int r15]) (rest := []) C hX (by rw [es16]; exact cRowSet_35 l g s14 v13 r15) (cw_Store_51 C.1.2.2.2.2 C.2.2.2 ⟨by decide, by decide⟩) (x_rc C hX wg_35 rfl) rfl hl.1 rfl (lv_room (Nat.le_of_ble_eq_true rfl)) d_Store_move_233 ⟨Nat.le_refl _, Nat.le_refl _⟩ (fun H locs hX => ?_)
    refine lv_goto (tgt := 252) hx hb d_Store_move_236 (by decide) ?_
    exact w_Store_move_252 C hQ x1 x2 x3 x4 r2 s16 H locs ls hX (lv_sub hl [1, 2, 3, 4, 5, 0] rfl) h
  have h := ite_f c14_7 h
  by_cases c14_8 : x1 = 65
  · have h := ite_t c14_8 h
    refine lv_lookup (tgt := 239) hx hb d_Store_move_14 (by decide) (by rw [c14_8] <;> rfl) (by decide) ?_
    refine lv_aload_n hx hb d_Store_move_239 rfl (lv_at hl 1 rfl) ?_
    refine gf_5_cells C hX fl_Store_20 d_Store_move_240 ?_
    refine lv_iload hx hb d_Store_move_243 (lv_at hl 5 rfl) ?_
    refine lv_iload_n hx hb d_Store_move_245 rfl (lv_at hl 3 rfl) ?_
    obtain ⟨s17, es17, h⟩ := lt1_e h
    refine x_vV (ws' := wX g s17) (As := [.int x4, .int x2]) (rest := []) C hX (by rw [es17]; exact cRowSet_35 l g s x4 x2) (cw_Store_51 C.1.2.2.2.2 C.2.2.2 ⟨by decide, by decide⟩) (x_rc C hX wg_35 rfl) rfl hl.1 rfl (lv_room (Nat.le_of_ble_eq_true rfl)) d_Store_move_246 ⟨Nat.le_refl _, Nat.le_refl _⟩ (fun H locs hX => ?_)
    refine lv_goto (tgt := 252) hx hb d_Store_move_249 (by decide) ?_
    exact w_Store_move_252 C hQ x1 x2 x3 x4 r2 s17 H locs ls hX (lv_sub hl [1, 2, 3, 4, 5, 0] rfl) h
  have h := ite_f c14_8 h
  refine lv_lookup (tgt := 252) (off := 238) hx hb d_Store_move_14 (by decide) (by simp [Jvm.Op.lookupswitch.offset, Ne.symm (lv_neT c14_0 (a := 27) (by decide)), Ne.symm (lv_neT c14_1 (a := 32) (by decide)), Ne.symm (lv_neT c14_2 (a := 33) (by decide)), Ne.symm (lv_neT c14_3 (a := 34) (by decide)), Ne.symm (lv_neT c14_4 (a := 35) (by decide)), Ne.symm (lv_neT c14_5 (a := 36) (by decide)), Ne.symm (lv_neT c14_6 (a := 63) (by decide)), Ne.symm (lv_neT c14_7 (a := 64) (by decide)), Ne.symm (lv_neT c14_8 (a := 65) (by decide))]) (by decide) ?_
  exact w_Store_move_252 C hQ x1 x2 x3 x4 r2 s H locs ls hX (lv_sub hl [1, 2, 3, 4, 5, 0] rfl) h
end WALK
theorem c_Store_move (l : Launch) (g : GX) (x1 : Int32) (x2 : Int32) (x3 : Int32) (x4 : Int32) (s : St) (z : St) (h : f_Store_move x1 x2 x3 x4 s = some z) : MV l g y_Store_move b_Store_move 6 none 2 42 [.ref (g.q 5), .int x1, .int x2, .int x3, .int x4] (wX g s) (wX g z) :=
  MV.mk (own := R_Store) (by decide) rfl (Nat.le_of_ble_eq_true rfl) fun p e ss m below meth c A Q C hQ ls hX hl => w_Store_move C hQ x1 x2 x3 x4 s _ _ ls hX hl h
