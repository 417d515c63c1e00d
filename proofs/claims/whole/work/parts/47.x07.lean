-- Op_ofOne
def f_Op_ofOne_45 (x0 : Int32) (x1 : Int32) (y0 : Int32) : Option Int32 :=
    some (y0)
def f_Op_ofOne (x0 : Int32) (x1 : Int32) : Option Int32 :=
    if x0 = 69 then
      if x1 = 0 then
        f_Op_ofOne_45 x0 x1 1
      else
        f_Op_ofOne_45 x0 x1 0
    else if x0 = 103 then
      bd1 (f_Integer_numberOfLeadingZeros x1) fun r1 =>
      some (r1)
    else if x0 = 104 then
      bd1 (f_Integer_numberOfTrailingZeros x1) fun r2 =>
      some (r2)
    else 
      bd1 (f_Integer_bitCount x1) fun r3 =>
      some (r3)
section WALK
variable {p : Program} {l : Launch} {e : Env} {ss : State} {m : MethodId} {args : Array Value} {below : List Frame} {meth : Method} {c : Code} {Q : State → Prop} {g : GX} {A : Nat → Prop}
set_option maxHeartbeats 4000000 in
set_option maxRecDepth 100000 in
theorem w_Op_ofOne_45 {ws : va_W} {z : Int32} (C : Cx g A p m c b_Op_ofOne 2 ss args R_Op) (hQ : ∀ (pc : Nat) (H : Heap) (locs : List Loc) (ls : Array Slot), XW g A ss ws H locs → decode b_Op_ofOne pc = .ok (.ireturn, 1) → W p l e (rmX 1 21) ss m args below meth c H locs 0 0 Q (F0 m pc ls [.int z])) : ∀ (x0 : Int32) (x1 : Int32) (y0 : Int32) (H : Heap) (locs : List Loc) (ls : Array Slot), XW g A ss ws H locs → lv_has ls 2 [(0, .int x0), (1, .int x1)] → f_Op_ofOne_45 x0 x1 y0 = some z → W p l e (rmX 1 21) ss m args below meth c H locs 0 0 Q (F0 m 45 ls [.int y0]) := by
  have ⟨⟨hx, hb, hml, hown, hts⟩, hK, hA, hN⟩ := C
  intro x0 x1 y0 H locs ls hX hl h
  rw [f_Op_ofOne_45] at h
  obtain rfl := so1 h
  exact hQ _ H locs ls hX d_Op_ofOne_45
set_option maxHeartbeats 4000000 in
set_option maxRecDepth 100000 in
theorem w_Op_ofOne {ws : va_W} {z : Int32} (C : Cx g A p m c b_Op_ofOne 2 ss args R_Op) (hQ : ∀ (pc : Nat) (H : Heap) (locs : List Loc) (ls : Array Slot), XW g A ss ws H locs → decode b_Op_ofOne pc = .ok (.ireturn, 1) → W p l e (rmX 1 21) ss m args below meth c H locs 0 0 Q (F0 m pc ls [.int z])) : ∀ (x0 : Int32) (x1 : Int32) (H : Heap) (locs : List Loc) (ls : Array Slot), XW g A ss ws H locs → lv_has ls 2 [(0, .int x0), (1, .int x1)] → f_Op_ofOne x0 x1 = some z → W p l e (rmX 1 21) ss m args below meth c H locs 0 0 Q (F0 m 0 ls []) := by
  have ⟨⟨hx, hb, hml, hown, hts⟩, hK, hA, hN⟩ := C
  intro x0 x1 H locs ls hX hl h
  rw [f_Op_ofOne] at h
  refine lv_iload_n hx hb d_Op_ofOne_0 rfl (lv_at hl 0 rfl) ?_
  by_cases c1_0 : x0 = 69
  · have h := ite_t c1_0 h
    refine lv_lookup (tgt := 36) hx hb d_Op_ofOne_1 (by decide) (by rw [c1_0] <;> rfl) (by decide) ?_
    refine lv_iload_n hx hb d_Op_ofOne_36 rfl (lv_at hl 1 rfl) ?_
    refine lv_if_ne (tgt := 44) hx hb d_Op_ofOne_37 (by decide) (fun c37 => ?_) (fun c37 => ?_)
    · have h := ite_f c37 h
      refine lv_iconst (v := 0) hx hb d_Op_ofOne_44 (by decide) ?_
      exact w_Op_ofOne_45 C hQ x0 x1 0 H locs ls hX hl h
    · have h := ite_t c37 h
      refine lv_iconst (v := 1) hx hb d_Op_ofOne_40 (by decide) ?_
      refine lv_goto (tgt := 45) hx hb d_Op_ofOne_41 (by decide) ?_
      exact w_Op_ofOne_45 C hQ x0 x1 1 H locs ls hX hl h
  have h := ite_f c1_0 h
  by_cases c1_1 : x0 = 103
  · have h := ite_t c1_1 h
    refine lv_lookup (tgt := 46) hx hb d_Op_ofOne_1 (by decide) (by rw [c1_1] <;> rfl) (by decide) ?_
    refine lv_iload_n hx hb d_Op_ofOne_46 rfl (lv_at hl 1 rfl) ?_
    obtain ⟨r1, hc47, h⟩ := bd1_e h
    refine x_sI (As := [.int x1]) (rest := []) C hX (c_Integer_numberOfLeadingZeros l g x1 r1 hc47 _) (cw_Op_24 C.1.2.2.2.2 C.2.2.2 ⟨by decide, by decide⟩) rfl hl.1 rfl (lv_room (Nat.le_of_ble_eq_true rfl)) d_Op_ofOne_47 ⟨Nat.le_refl _, Nat.le_refl _⟩ (fun H locs hX => ?_)
    obtain rfl := so1 h
    exact hQ _ H locs ls hX d_Op_ofOne_50
  have h := ite_f c1_1 h
  by_cases c1_2 : x0 = 104
  · have h := ite_t c1_2 h
    refine lv_lookup (tgt := 51) hx hb d_Op_ofOne_1 (by decide) (by rw [c1_2] <;> rfl) (by decide) ?_
    refine lv_iload_n hx hb d_Op_ofOne_51 rfl (lv_at hl 1 rfl) ?_
    obtain ⟨r2, hc52, h⟩ := bd1_e h
    refine x_sI (As := [.int x1]) (rest := []) C hX (c_Integer_numberOfTrailingZeros l g x1 r2 hc52 _) (cw_Op_30 C.1.2.2.2.2 C.2.2.2 ⟨by decide, by decide⟩) rfl hl.1 rfl (lv_room (Nat.le_of_ble_eq_true rfl)) d_Op_ofOne_52 ⟨Nat.le_refl _, Nat.le_refl _⟩ (fun H locs hX => ?_)
    obtain rfl := so1 h
    exact hQ _ H locs ls hX d_Op_ofOne_55
  have h := ite_f c1_2 h
  refine lv_lookup (tgt := 56) (off := 55) hx hb d_Op_ofOne_1 (by decide) (by simp [Jvm.Op.lookupswitch.offset, Ne.symm (lv_neT c1_0 (a := 69) (by decide)), Ne.symm (lv_neT c1_1 (a := 103) (by decide)), Ne.symm (lv_neT c1_2 (a := 104) (by decide))]) (by decide) ?_
  refine lv_iload_n hx hb d_Op_ofOne_56 rfl (lv_at hl 1 rfl) ?_
  obtain ⟨r3, hc57, h⟩ := bd1_e h
  refine x_sI (As := [.int x1]) (rest := []) C hX (c_Integer_bitCount l g x1 r3 hc57 _) (cw_Op_33 C.1.2.2.2.2 C.2.2.2 ⟨by decide, by decide⟩) rfl hl.1 rfl (lv_room (Nat.le_of_ble_eq_true rfl)) d_Op_ofOne_57 ⟨Nat.le_refl _, Nat.le_refl _⟩ (fun H locs hX => ?_)
  obtain rfl := so1 h
  exact hQ _ H locs ls hX d_Op_ofOne_60
end WALK
theorem c_Op_ofOne (l : Launch) (g : GX) (x0 : Int32) (x1 : Int32) (z : Int32) (h : f_Op_ofOne x0 x1 = some z) (ws : va_W) : MI l g y_Op_ofOne b_Op_ofOne 2 (some .int) 1 21 [.int x0, .int x1] ws z ws :=
  MI.mk (own := R_Op) (by decide) rfl (Nat.le_of_ble_eq_true rfl) fun p e ss m below meth c A Q C hQ ls hX hl => w_Op_ofOne C hQ x0 x1 _ _ ls hX hl h
-- Op_trapOf
def f_Op_trapOf_42 (x0 : Int32) (x1 : Int32) (x2 : Int32) (y0 : Int32) : Option Int32 :=
    some (y0)
def f_Op_trapOf_41 (x0 : Int32) (x1 : Int32) (x2 : Int32) : Option Int32 :=
    f_Op_trapOf_42 x0 x1 x2 0
def f_Op_trapOf_12 (x0 : Int32) (x1 : Int32) (x2 : Int32) : Option Int32 :=
    some (0)
def f_Op_trapOf (x0 : Int32) (x1 : Int32) (x2 : Int32) : Option Int32 :=
    if x0 < 109 then
      f_Op_trapOf_12 x0 x1 x2
    else
      if x0 ≤ 112 then
        if x2 = 0 then
          some (3)
        else
          if x0 = 109 then
            if x1 = (-2147483648) then
              if x2 = (-1) then
                f_Op_trapOf_42 x0 x1 x2 4
              else
                f_Op_trapOf_41 x0 x1 x2
            else
              f_Op_trapOf_41 x0 x1 x2
          else
            f_Op_trapOf_41 x0 x1 x2
      else
        f_Op_trapOf_12 x0 x1 x2
section WALK
variable {p : Program} {l : Launch} {e : Env} {ss : State} {m : MethodId} {args : Array Value} {below : List Frame} {meth : Method} {c : Code} {Q : State → Prop} {g : GX} {A : Nat → Prop}
set_option maxHeartbeats 4000000 in
set_option maxRecDepth 100000 in
theorem w_Op_trapOf_42 {ws : va_W} {z : Int32} (C : Cx g A p m c b_Op_trapOf 3 ss args R_Op) (hQ : ∀ (pc : Nat) (H : Heap) (locs : List Loc) (ls : Array Slot), XW g A ss ws H locs → decode b_Op_trapOf pc = .ok (.ireturn, 1) → W p l e (rmX 0 0) ss m args below meth c H locs 0 0 Q (F0 m pc ls [.int z])) : ∀ (x0 : Int32) (x1 : Int32) (x2 : Int32) (y0 : Int32) (H : Heap) (locs : List Loc) (ls : Array Slot), XW g A ss ws H locs → lv_has ls 3 [(0, .int x0), (1, .int x1), (2, .int x2)] → f_Op_trapOf_42 x0 x1 x2 y0 = some z → W p l e (rmX 0 0) ss m args below meth c H locs 0 0 Q (F0 m 42 ls [.int y0]) := by
  have ⟨⟨hx, hb, hml, hown, hts⟩, hK, hA, hN⟩ := C
  intro x0 x1 x2 y0 H locs ls hX hl h
  rw [f_Op_trapOf_42] at h
  obtain rfl := so1 h
  exact hQ _ H locs ls hX d_Op_trapOf_42
set_option maxHeartbeats 4000000 in
set_option maxRecDepth 100000 in
theorem w_Op_trapOf_41 {ws : va_W} {z : Int32} (C : Cx g A p m c b_Op_trapOf 3 ss args R_Op) (hQ : ∀ (pc : Nat) (H : Heap) (locs : List Loc) (ls : Array Slot), XW g A ss ws H locs → decode b_Op_trapOf pc = .ok (.ireturn, 1) → W p l e (rmX 0 0) ss m args below meth c H locs 0 0 Q (F0 m pc ls [.int z])) : ∀ (x0 : Int32) (x1 : Int32) (x2 : Int32) (H : Heap) (locs : List Loc) (ls : Array Slot), XW g A ss ws H locs → lv_has ls 3 [(0, .int x0), (1, .int x1), (2, .int x2)] → f_Op_trapOf_41 x0 x1 x2 = some z → W p l e (rmX 0 0) ss m args below meth c H locs 0 0 Q (F0 m 41 ls []) := by
  have ⟨⟨hx, hb, hml, hown, hts⟩, hK, hA, hN⟩ := C
  intro x0 x1 x2 H locs ls hX hl h
  rw [f_Op_trapOf_41] at h
  refine lv_iconst (v := 0) hx hb d_Op_trapOf_41 (by decide) ?_
  exact w_Op_trapOf_42 C hQ x0 x1 x2 0 H locs ls hX hl h
set_option maxHeartbeats 4000000 in
set_option maxRecDepth 100000 in
theorem w_Op_trapOf_12 {ws : va_W} {z : Int32} (C : Cx g A p m c b_Op_trapOf 3 ss args R_Op) (hQ : ∀ (pc : Nat) (H : Heap) (locs : List Loc) (ls : Array Slot), XW g A ss ws H locs → decode b_Op_trapOf pc = .ok (.ireturn, 1) → W p l e (rmX 0 0) ss m args below meth c H locs 0 0 Q (F0 m pc ls [.int z])) : ∀ (x0 : Int32) (x1 : Int32) (x2 : Int32) (H : Heap) (locs : List Loc) (ls : Array Slot), XW g A ss ws H locs → lv_has ls 3 [(0, .int x0), (1, .int x1), (2, .int x2)] → f_Op_trapOf_12 x0 x1 x2 = some z → W p l e (rmX 0 0) ss m args below meth c H locs 0 0 Q (F0 m 12 ls []) := by
  have ⟨⟨hx, hb, hml, hown, hts⟩, hK, hA, hN⟩ := C
  intro x0 x1 x2 H locs ls hX hl h
  rw [f_Op_trapOf_12] at h
  refine lv_iconst (v := 0) hx hb d_Op_trapOf_12 (by decide) ?_
  obtain rfl := so1 h
  exact hQ _ H locs ls hX d_Op_trapOf_13
set_option maxHeartbeats 4000000 in
set_option maxRecDepth 100000 in
theorem w_Op_trapOf {ws : va_W} {z : Int32} (C : Cx g A p m c b_Op_trapOf 3 ss args R_Op) (hQ : ∀ (pc : Nat) (H : Heap) (locs : List Loc) (ls : Array Slot), XW g A ss ws H locs → decode b_Op_trapOf pc = .ok (.ireturn, 1) → W p l e (rmX 0 0) ss m args below meth c H locs 0 0 Q (F0 m pc ls [.int z])) : ∀ (x0 : Int32) (x1 : Int32) (x2 : Int32) (H : Heap) (locs : List Loc) (ls : Array Slot), XW g A ss ws H locs → lv_has ls 3 [(0, .int x0), (1, .int x1), (2, .int x2)] → f_Op_trapOf x0 x1 x2 = some z → W p l e (rmX 0 0) ss m args below meth c H locs 0 0 Q (F0 m 0 ls []) := by
  have ⟨⟨hx, hb, hml, hown, hts⟩, hK, hA, hN⟩ := C
  intro x0 x1 x2 H locs ls hX hl h
  rw [f_Op_trapOf] at h
  refine lv_iload_n hx hb d_Op_trapOf_0 rfl (lv_at hl 0 rfl) ?_
  refine lv_bipush (v := 109) hx hb d_Op_trapOf_1 (by decide) ?_
  refine lv_icmp_lt (tgt := 12) hx hb d_Op_trapOf_3 (by decide) (fun c3 => ?_) (fun c3 => ?_)
  · have h := ite_t c3 h
    exact w_Op_trapOf_12 C hQ x0 x1 x2 H locs ls hX hl h
  · have h := ite_f c3 h
    refine lv_iload_n hx hb d_Op_trapOf_6 rfl (lv_at hl 0 rfl) ?_
    refine lv_bipush (v := 112) hx hb d_Op_trapOf_7 (by decide) ?_
    refine lv_icmp_le (tgt := 14) hx hb d_Op_trapOf_9 (by decide) (fun c9 => ?_) (fun c9 => ?_)
    · have h := ite_t c9 h
      refine lv_iload_n hx hb d_Op_trapOf_14 rfl (lv_at hl 2 rfl) ?_
      refine lv_if_ne (tgt := 20) hx hb d_Op_trapOf_15 (by decide) (fun c15 => ?_) (fun c15 => ?_)
      · have h := ite_f c15 h
        refine lv_iload_n hx hb d_Op_trapOf_20 rfl (lv_at hl 0 rfl) ?_
        refine lv_bipush (v := 109) hx hb d_Op_trapOf_21 (by decide) ?_
        refine lv_icmp_ne (tgt := 41) hx hb d_Op_trapOf_23 (by decide) (fun c23 => ?_) (fun c23 => ?_)
        · have h := ite_f c23 h
          exact w_Op_trapOf_41 C hQ x0 x1 x2 H locs ls hX hl h
        · have h := ite_t c23 h
          refine lv_iload_n hx hb d_Op_trapOf_26 rfl (lv_at hl 1 rfl) ?_
          refine lv_ldc (v := (-2147483648)) hx hb hown (hts _ m_constant_Op_44) d_Op_trapOf_27 ?_
          refine lv_icmp_ne (tgt := 41) hx hb d_Op_trapOf_29 (by decide) (fun c29 => ?_) (fun c29 => ?_)
          · have h := ite_f c29 h
            exact w_Op_trapOf_41 C hQ x0 x1 x2 H locs ls hX hl h
          · have h := ite_t c29 h
            refine lv_iload_n hx hb d_Op_trapOf_32 rfl (lv_at hl 2 rfl) ?_
            refine lv_iconst (v := (-1)) hx hb d_Op_trapOf_33 (by decide) ?_
            refine lv_icmp_ne (tgt := 41) hx hb d_Op_trapOf_34 (by decide) (fun c34 => ?_) (fun c34 => ?_)
            · have h := ite_f c34 h
              exact w_Op_trapOf_41 C hQ x0 x1 x2 H locs ls hX hl h
            · have h := ite_t c34 h
              refine lv_iconst (v := 4) hx hb d_Op_trapOf_37 (by decide) ?_
              refine lv_goto (tgt := 42) hx hb d_Op_trapOf_38 (by decide) ?_
              exact w_Op_trapOf_42 C hQ x0 x1 x2 4 H locs ls hX hl h
      · have h := ite_t c15 h
        refine lv_iconst (v := 3) hx hb d_Op_trapOf_18 (by decide) ?_
        obtain rfl := so1 h
        exact hQ _ H locs ls hX d_Op_trapOf_19
    · have h := ite_f c9 h
      exact w_Op_trapOf_12 C hQ x0 x1 x2 H locs ls hX hl h
end WALK
theorem c_Op_trapOf (l : Launch) (g : GX) (x0 : Int32) (x1 : Int32) (x2 : Int32) (z : Int32) (h : f_Op_trapOf x0 x1 x2 = some z) (ws : va_W) : MI l g y_Op_trapOf b_Op_trapOf 3 (some .int) 0 0 [.int x0, .int x1, .int x2] ws z ws :=
  MI.mk (own := R_Op) (by decide) rfl (Nat.le_of_ble_eq_true rfl) fun p e ss m below meth c A Q C hQ ls hX hl => w_Op_trapOf C hQ x0 x1 x2 _ _ ls hX hl h
-- Op_isTrue
def f_Op_isTrue_185 (x0 : Int32) (x1 : Int32) (x2 : Int32) (x3 : Int64) (x5 : Int64) (y0 : Int32) : Option Int32 :=
    bz y0 <|
    some (y0)
def f_Op_isTrue_172 (x0 : Int32) (x1 : Int32) (x2 : Int32) (x3 : Int64) (x5 : Int64) (y0 : Int32) : Option Int32 :=
    bz y0 <|
    some (y0)
def f_Op_isTrue_161 (x0 : Int32) (x1 : Int32) (x2 : Int32) (x3 : Int64) (x5 : Int64) (y0 : Int32) : Option Int32 :=
    bz y0 <|
    some (y0)
def f_Op_isTrue_148 (x0 : Int32) (x1 : Int32) (x2 : Int32) (x3 : Int64) (x5 : Int64) (y0 : Int32) : Option Int32 :=
    bz y0 <|
    some (y0)
def f_Op_isTrue_137 (x0 : Int32) (x1 : Int32) (x2 : Int32) (x3 : Int64) (x5 : Int64) (y0 : Int32) : Option Int32 :=
    bz y0 <|
    some (y0)
def f_Op_isTrue_124 (x0 : Int32) (x1 : Int32) (x2 : Int32) (x3 : Int64) (x5 : Int64) (y0 : Int32) : Option Int32 :=
    bz y0 <|
    some (y0)
def f_Op_isTrue_113 (x0 : Int32) (x1 : Int32) (x2 : Int32) (x3 : Int64) (x5 : Int64) (y0 : Int32) : Option Int32 :=
    bz y0 <|
    some (y0)
def f_Op_isTrue_100 (x0 : Int32) (x1 : Int32) (x2 : Int32) (x3 : Int64) (x5 : Int64) (y0 : Int32) : Option Int32 :=
    bz y0 <|
    some (y0)
def f_Op_isTrue_89 (x0 : Int32) (x1 : Int32) (x2 : Int32) (x3 : Int64) (x5 : Int64) (y0 : Int32) : Option Int32 :=
    bz y0 <|
    some (y0)
def f_Op_isTrue_78 (x0 : Int32) (x1 : Int32) (x2 : Int32) (x3 : Int64) (x5 : Int64) (y0 : Int32) : Option Int32 :=
    bz y0 <|
    some (y0)
def f_Op_isTrue (x0 : Int32) (x1 : Int32) (x2 : Int32) : Option Int32 :=
    lt1 (Int32.toInt64 x1) fun v1 =>
    lt1 (v1 &&& 4294967295) fun v2 =>
    lt1 (Int32.toInt64 x2) fun v3 =>
    lt1 (v3 &&& 4294967295) fun v4 =>
    if x0 = 70 then
      if x1 = x2 then
        f_Op_isTrue_78 x0 x1 x2 v2 v4 1
      else
        f_Op_isTrue_78 x0 x1 x2 v2 v4 0
    else if x0 = 71 then
      if x1 = x2 then
        f_Op_isTrue_89 x0 x1 x2 v2 v4 0
      else
        f_Op_isTrue_89 x0 x1 x2 v2 v4 1
    else if x0 = 72 then
      if x2 ≤ x1 then
        f_Op_isTrue_100 x0 x1 x2 v2 v4 0
      else
        f_Op_isTrue_100 x0 x1 x2 v2 v4 1
    else if x0 = 73 then
      lt1 (lg_cmp v2 v4) fun v5 =>
      if 0 ≤ v5 then
        f_Op_isTrue_113 x0 x1 x2 v2 v4 0
      else
        f_Op_isTrue_113 x0 x1 x2 v2 v4 1
    else if x0 = 74 then
      if x1 ≤ x2 then
        f_Op_isTrue_124 x0 x1 x2 v2 v4 0
      else
        f_Op_isTrue_124 x0 x1 x2 v2 v4 1
    else if x0 = 75 then
      lt1 (lg_cmp v2 v4) fun v6 =>
      if v6 ≤ 0 then
        f_Op_isTrue_137 x0 x1 x2 v2 v4 0
      else
        f_Op_isTrue_137 x0 x1 x2 v2 v4 1
    else if x0 = 76 then
      if x2 < x1 then
        f_Op_isTrue_148 x0 x1 x2 v2 v4 0
      else
        f_Op_isTrue_148 x0 x1 x2 v2 v4 1
    else if x0 = 77 then
      lt1 (lg_cmp v2 v4) fun v7 =>
      if 0 < v7 then
        f_Op_isTrue_161 x0 x1 x2 v2 v4 0
      else
        f_Op_isTrue_161 x0 x1 x2 v2 v4 1
    else if x0 = 78 then
      if x1 < x2 then
        f_Op_isTrue_172 x0 x1 x2 v2 v4 0
      else
        f_Op_isTrue_172 x0 x1 x2 v2 v4 1
    else 
      lt1 (lg_cmp v2 v4) fun v8 =>
      if v8 < 0 then
        f_Op_isTrue_185 x0 x1 x2 v2 v4 0
      else
        f_Op_isTrue_185 x0 x1 x2 v2 v4 1
section WALK
variable {p : Program} {l : Launch} {e : Env} {ss : State} {m : MethodId} {args : Array Value} {below : List Frame} {meth : Method} {c : Code} {Q : State → Prop} {g : GX} {A : Nat → Prop}
set_option maxHeartbeats 4000000 in
set_option maxRecDepth 100000 in
theorem w_Op_isTrue_185 {ws : va_W} {z : Int32} (C : Cx g A p m c b_Op_isTrue 7 ss args R_Op) (hQ : ∀ (pc : Nat) (H : Heap) (locs : List Loc) (ls : Array Slot), XW g A ss ws H locs → (z = 0 ∨ z = 1) → decode b_Op_isTrue pc = .ok (.ireturn, 1) → W p l e (rmX 0 0) ss m args below meth c H locs 0 0 Q (F0 m pc ls [.int z])) : ∀ (x0 : Int32) (x1 : Int32) (x2 : Int32) (x3 : Int64) (x5 : Int64) (y0 : Int32) (H : Heap) (locs : List Loc) (ls : Array Slot), XW g A ss ws H locs → lv_has ls 7 [(0, .int x0), (1, .int x1), (2, .int x2), (3, .long x3), (5, .long x5)] → f_Op_isTrue_185 x0 x1 x2 x3 x5 y0 = some z → W p l e (rmX 0 0) ss m args below meth c H locs 0 0 Q (F0 m 185 ls [.int y0]) := by
  have ⟨⟨hx, hb, hml, hown, hts⟩, hK, hA, hN⟩ := C
  intro x0 x1 x2 x3 x5 y0 H locs ls hX hl h
  rw [f_Op_isTrue_185] at h
  obtain ⟨hz, h⟩ := bz_e h
  obtain rfl := so1 h
  exact hQ _ H locs ls hX hz d_Op_isTrue_185
set_option maxHeartbeats 4000000 in
set_option maxRecDepth 100000 in
theorem w_Op_isTrue_172 {ws : va_W} {z : Int32} (C : Cx g A p m c b_Op_isTrue 7 ss args R_Op) (hQ : ∀ (pc : Nat) (H : Heap) (locs : List Loc) (ls : Array Slot), XW g A ss ws H locs → (z = 0 ∨ z = 1) → decode b_Op_isTrue pc = .ok (.ireturn, 1) → W p l e (rmX 0 0) ss m args below meth c H locs 0 0 Q (F0 m pc ls [.int z])) : ∀ (x0 : Int32) (x1 : Int32) (x2 : Int32) (x3 : Int64) (x5 : Int64) (y0 : Int32) (H : Heap) (locs : List Loc) (ls : Array Slot), XW g A ss ws H locs → lv_has ls 7 [(0, .int x0), (1, .int x1), (2, .int x2), (3, .long x3), (5, .long x5)] → f_Op_isTrue_172 x0 x1 x2 x3 x5 y0 = some z → W p l e (rmX 0 0) ss m args below meth c H locs 0 0 Q (F0 m 172 ls [.int y0]) := by
  have ⟨⟨hx, hb, hml, hown, hts⟩, hK, hA, hN⟩ := C
  intro x0 x1 x2 x3 x5 y0 H locs ls hX hl h
  rw [f_Op_isTrue_172] at h
  obtain ⟨hz, h⟩ := bz_e h
  obtain rfl := so1 h
  exact hQ _ H locs ls hX hz d_Op_isTrue_172
set_option maxHeartbeats 4000000 in
set_option maxRecDepth 100000 in
theorem w_Op_isTrue_161 {ws : va_W} {z : Int32} (C : Cx g A p m c b_Op_isTrue 7 ss args R_Op) (hQ : ∀ (pc : Nat) (H : Heap) (locs : List Loc) (ls : Array Slot), XW g A ss ws H locs → (z = 0 ∨ z = 1) → decode b_Op_isTrue pc = .ok (.ireturn, 1) → W p l e (rmX 0 0) ss m args below meth c H locs 0 0 Q (F0 m pc ls [.int z])) : ∀ (x0 : Int32) (x1 : Int32) (x2 : Int32) (x3 : Int64) (x5 : Int64) (y0 : Int32) (H : Heap) (locs : List Loc) (ls : Array Slot), XW g A ss ws H locs → lv_has ls 7 [(0, .int x0), (1, .int x1), (2, .int x2), (3, .long x3), (5, .long x5)] → f_Op_isTrue_161 x0 x1 x2 x3 x5 y0 = some z → W p l e (rmX 0 0) ss m args below meth c H locs 0 0 Q (F0 m 161 ls [.int y0]) := by
  have ⟨⟨hx, hb, hml, hown, hts⟩, hK, hA, hN⟩ := C
  intro x0 x1 x2 x3 x5 y0 H locs ls hX hl h
  rw [f_Op_isTrue_161] at h
  obtain ⟨hz, h⟩ := bz_e h
  obtain rfl := so1 h
  exact hQ _ H locs ls hX hz d_Op_isTrue_161
set_option maxHeartbeats 4000000 in
set_option maxRecDepth 100000 in
theorem w_Op_isTrue_148 {ws : va_W} {z : Int32} (C : Cx g A p m c b_Op_isTrue 7 ss args R_Op) (hQ : ∀ (pc : Nat) (H : Heap) (locs : List Loc) (ls : Array Slot), XW g A ss ws H locs → (z = 0 ∨ z = 1) → decode b_Op_isTrue pc = .ok (.ireturn, 1) → W p l e (rmX 0 0) ss m args below meth c H locs 0 0 Q (F0 m pc ls [.int z])) : ∀ (x0 : Int32) (x1 : Int32) (x2 : Int32) (x3 : Int64) (x5 : Int64) (y0 : Int32) (H : Heap) (locs : List Loc) (ls : Array Slot), XW g A ss ws H locs → lv_has ls 7 [(0, .int x0), (1, .int x1), (2, .int x2), (3, .long x3), (5, .long x5)] → f_Op_isTrue_148 x0 x1 x2 x3 x5 y0 = some z → W p l e (rmX 0 0) ss m args below meth c H locs 0 0 Q (F0 m 148 ls [.int y0]) := by
  have ⟨⟨hx, hb, hml, hown, hts⟩, hK, hA, hN⟩ := C
  intro x0 x1 x2 x3 x5 y0 H locs ls hX hl h
  rw [f_Op_isTrue_148] at h
  obtain ⟨hz, h⟩ := bz_e h
  obtain rfl := so1 h
  exact hQ _ H locs ls hX hz d_Op_isTrue_148
set_option maxHeartbeats 4000000 in
set_option maxRecDepth 100000 in
theorem w_Op_isTrue_137 {ws : va_W} {z : Int32} (C : Cx g A p m c b_Op_isTrue 7 ss args R_Op) (hQ : ∀ (pc : Nat) (H : Heap) (locs : List Loc) (ls : Array Slot), XW g A ss ws H locs → (z = 0 ∨ z = 1) → decode b_Op_isTrue pc = .ok (.ireturn, 1) → W p l e (rmX 0 0) ss m args below meth c H locs 0 0 Q (F0 m pc ls [.int z])) : ∀ (x0 : Int32) (x1 : Int32) (x2 : Int32) (x3 : Int64) (x5 : Int64) (y0 : Int32) (H : Heap) (locs : List Loc) (ls : Array Slot), XW g A ss ws H locs → lv_has ls 7 [(0, .int x0), (1, .int x1), (2, .int x2), (3, .long x3), (5, .long x5)] → f_Op_isTrue_137 x0 x1 x2 x3 x5 y0 = some z → W p l e (rmX 0 0) ss m args below meth c H locs 0 0 Q (F0 m 137 ls [.int y0]) := by
  have ⟨⟨hx, hb, hml, hown, hts⟩, hK, hA, hN⟩ := C
  intro x0 x1 x2 x3 x5 y0 H locs ls hX hl h
  rw [f_Op_isTrue_137] at h
  obtain ⟨hz, h⟩ := bz_e h
  obtain rfl := so1 h
  exact hQ _ H locs ls hX hz d_Op_isTrue_137
set_option maxHeartbeats 4000000 in
set_option maxRecDepth 100000 in
theorem w_Op_isTrue_124 {ws : va_W} {z : Int32} (C : Cx g A p m c b_Op_isTrue 7 ss args R_Op) (hQ : ∀ (pc : Nat) (H : Heap) (locs : List Loc) (ls : Array Slot), XW g A ss ws H locs → (z = 0 ∨ z = 1) → decode b_Op_isTrue pc = .ok (.ireturn, 1) → W p l e (rmX 0 0) ss m args below meth c H locs 0 0 Q (F0 m pc ls [.int z])) : ∀ (x0 : Int32) (x1 : Int32) (x2 : Int32) (x3 : Int64) (x5 : Int64) (y0 : Int32) (H : Heap) (locs : List Loc) (ls : Array Slot), XW g A ss ws H locs → lv_has ls 7 [(0, .int x0), (1, .int x1), (2, .int x2), (3, .long x3), (5, .long x5)] → f_Op_isTrue_124 x0 x1 x2 x3 x5 y0 = some z → W p l e (rmX 0 0) ss m args below meth c H locs 0 0 Q (F0 m 124 ls [.int y0]) := by
  have ⟨⟨hx, hb, hml, hown, hts⟩, hK, hA, hN⟩ := C
  intro x0 x1 x2 x3 x5 y0 H locs ls hX hl h
  rw [f_Op_isTrue_124] at h
  obtain ⟨hz, h⟩ := bz_e h
  obtain rfl := so1 h
  exact hQ _ H locs ls hX hz d_Op_isTrue_124
set_option maxHeartbeats 4000000 in
set_option maxRecDepth 100000 in
theorem w_Op_isTrue_113 {ws : va_W} {z : Int32} (C : Cx g A p m c b_Op_isTrue 7 ss args R_Op) (hQ : ∀ (pc : Nat) (H : Heap) (locs : List Loc) (ls : Array Slot), XW g A ss ws H locs → (z = 0 ∨ z = 1) → decode b_Op_isTrue pc = .ok (.ireturn, 1) → W p l e (rmX 0 0) ss m args below meth c H locs 0 0 Q (F0 m pc ls [.int z])) : ∀ (x0 : Int32) (x1 : Int32) (x2 : Int32) (x3 : Int64) (x5 : Int64) (y0 : Int32) (H : Heap) (locs : List Loc) (ls : Array Slot), XW g A ss ws H locs → lv_has ls 7 [(0, .int x0), (1, .int x1), (2, .int x2), (3, .long x3), (5, .long x5)] → f_Op_isTrue_113 x0 x1 x2 x3 x5 y0 = some z → W p l e (rmX 0 0) ss m args below meth c H locs 0 0 Q (F0 m 113 ls [.int y0]) := by
  have ⟨⟨hx, hb, hml, hown, hts⟩, hK, hA, hN⟩ := C
  intro x0 x1 x2 x3 x5 y0 H locs ls hX hl h
  rw [f_Op_isTrue_113] at h
  obtain ⟨hz, h⟩ := bz_e h
  obtain rfl := so1 h
  exact hQ _ H locs ls hX hz d_Op_isTrue_113
set_option maxHeartbeats 4000000 in
set_option maxRecDepth 100000 in
theorem w_Op_isTrue_100 {ws : va_W} {z : Int32} (C : Cx g A p m c b_Op_isTrue 7 ss args R_Op) (hQ : ∀ (pc : Nat) (H : Heap) (locs : List Loc) (ls : Array Slot), XW g A ss ws H locs → (z = 0 ∨ z = 1) → decode b_Op_isTrue pc = .ok (.ireturn, 1) → W p l e (rmX 0 0) ss m args below meth c H locs 0 0 Q (F0 m pc ls [.int z])) : ∀ (x0 : Int32) (x1 : Int32) (x2 : Int32) (x3 : Int64) (x5 : Int64) (y0 : Int32) (H : Heap) (locs : List Loc) (ls : Array Slot), XW g A ss ws H locs → lv_has ls 7 [(0, .int x0), (1, .int x1), (2, .int x2), (3, .long x3), (5, .long x5)] → f_Op_isTrue_100 x0 x1 x2 x3 x5 y0 = some z → W p l e (rmX 0 0) ss m args below meth c H locs 0 0 Q (F0 m 100 ls [.int y0]) := by
  have ⟨⟨hx, hb, hml, hown, hts⟩, hK, hA, hN⟩ := C
  intro x0 x1 x2 x3 x5 y0 H locs ls hX hl h
  rw [f_Op_isTrue_100] at h
  obtain ⟨hz, h⟩ := bz_e h
  obtain rfl := so1 h
  exact hQ _ H locs ls hX hz d_Op_isTrue_100
set_option maxHeartbeats 4000000 in
set_option maxRecDepth 100000 in
theorem w_Op_isTrue_89 {ws : va_W} {z : Int32} (C : Cx g A p m c b_Op_isTrue 7 ss args R_Op) (hQ : ∀ (pc : Nat) (H : Heap) (locs : List Loc) (ls : Array Slot), XW g A ss ws H locs → (z = 0 ∨ z = 1) → decode b_Op_isTrue pc = .ok (.ireturn, 1) → W p l e (rmX 0 0) ss m args below meth c H locs 0 0 Q (F0 m pc ls [.int z])) : ∀ (x0 : Int32) (x1 : Int32) (x2 : Int32) (x3 : Int64) (x5 : Int64) (y0 : Int32) (H : Heap) (locs : List Loc) (ls : Array Slot), XW g A ss ws H locs → lv_has ls 7 [(0, .int x0), (1, .int x1), (2, .int x2), (3, .long x3), (5, .long x5)] → f_Op_isTrue_89 x0 x1 x2 x3 x5 y0 = some z → W p l e (rmX 0 0) ss m args below meth c H locs 0 0 Q (F0 m 89 ls [.int y0]) := by
  have ⟨⟨hx, hb, hml, hown, hts⟩, hK, hA, hN⟩ := C
  intro x0 x1 x2 x3 x5 y0 H locs ls hX hl h
  rw [f_Op_isTrue_89] at h
  obtain ⟨hz, h⟩ := bz_e h
  obtain rfl := so1 h
  exact hQ _ H locs ls hX hz d_Op_isTrue_89
set_option maxHeartbeats 4000000 in
set_option maxRecDepth 100000 in
theorem w_Op_isTrue_78 {ws : va_W} {z : Int32} (C : Cx g A p m c b_Op_isTrue 7 ss args R_Op) (hQ : ∀ (pc : Nat) (H : Heap) (locs : List Loc) (ls : Array Slot), XW g A ss ws H locs → (z = 0 ∨ z = 1) → decode b_Op_isTrue pc = .ok (.ireturn, 1) → W p l e (rmX 0 0) ss m args below meth c H locs 0 0 Q (F0 m pc ls [.int z])) : ∀ (x0 : Int32) (x1 : Int32) (x2 : Int32) (x3 : Int64) (x5 : Int64) (y0 : Int32) (H : Heap) (locs : List Loc) (ls : Array Slot), XW g A ss ws H locs → lv_has ls 7 [(0, .int x0), (1, .int x1), (2, .int x2), (3, .long x3), (5, .long x5)] → f_Op_isTrue_78 x0 x1 x2 x3 x5 y0 = some z → W p l e (rmX 0 0) ss m args below meth c H locs 0 0 Q (F0 m 78 ls [.int y0]) := by
  have ⟨⟨hx, hb, hml, hown, hts⟩, hK, hA, hN⟩ := C
  intro x0 x1 x2 x3 x5 y0 H locs ls hX hl h
  rw [f_Op_isTrue_78] at h
  obtain ⟨hz, h⟩ := bz_e h
  obtain rfl := so1 h
  exact hQ _ H locs ls hX hz d_Op_isTrue_78
set_option maxHeartbeats 4000000 in
set_option maxRecDepth 100000 in
theorem w_Op_isTrue {ws : va_W} {z : Int32} (C : Cx g A p m c b_Op_isTrue 7 ss args R_Op) (hQ : ∀ (pc : Nat) (H : Heap) (locs : List Loc) (ls : Array Slot), XW g A ss ws H locs → (z = 0 ∨ z = 1) → decode b_Op_isTrue pc = .ok (.ireturn, 1) → W p l e (rmX 0 0) ss m args below meth c H locs 0 0 Q (F0 m pc ls [.int z])) : ∀ (x0 : Int32) (x1 : Int32) (x2 : Int32) (H : Heap) (locs : List Loc) (ls : Array Slot), XW g A ss ws H locs → lv_has ls 7 [(0, .int x0), (1, .int x1), (2, .int x2)] → f_Op_isTrue x0 x1 x2 = some z → W p l e (rmX 0 0) ss m args below meth c H locs 0 0 Q (F0 m 0 ls []) := by
  have ⟨⟨hx, hb, hml, hown, hts⟩, hK, hA, hN⟩ := C
  intro x0 x1 x2 H locs ls hX hl h
  rw [f_Op_isTrue] at h
  refine lv_iload_n hx hb d_Op_isTrue_0 rfl (lv_at hl 1 rfl) ?_
  obtain ⟨v1, ev1, h⟩ := lt1_e h
  refine lv_i2l hx hb d_Op_isTrue_1 ev1.symm ?_
  refine lv_ldc2 (v := 4294967295) hx hb hown (hts _ m_constantLong_Op_45) d_Op_isTrue_2 ?_
  obtain ⟨v2, ev2, h⟩ := lt1_e h
  refine x_land hx hb d_Op_isTrue_5 ev2 ?_
  refine lv_lstore_n (lv' := [(3, .long v2), (0, .int x0), (1, .int x1), (2, .int x2)]) hx hb d_Op_isTrue_6 rfl hl (by decide) rfl (fun ls hl => ?_)
  refine lv_iload_n hx hb d_Op_isTrue_7 rfl (lv_at hl 3 rfl) ?_
  obtain ⟨v3, ev3, h⟩ := lt1_e h
  refine lv_i2l hx hb d_Op_isTrue_8 ev3.symm ?_
  refine lv_ldc2 (v := 4294967295) hx hb hown (hts _ m_constantLong_Op_45) d_Op_isTrue_9 ?_
  obtain ⟨v4, ev4, h⟩ := lt1_e h
  refine x_land hx hb d_Op_isTrue_12 ev4 ?_
  refine lv_lstore (lv' := [(5, .long v4), (3, .long v2), (0, .int x0), (1, .int x1), (2, .int x2)]) hx hb d_Op_isTrue_13 hl (by decide) rfl (fun ls hl => ?_)
  refine lv_iload_n hx hb d_Op_isTrue_15 rfl (lv_at hl 2 rfl) ?_
  by_cases c16_0 : x0 = 70
  · have h := ite_t c16_0 h
    refine lv_tableIn (tgt := 68) hx hb d_Op_isTrue_16 (by rw [c16_0]; decide) (by rw [c16_0]; decide) (by rw [c16_0]; rfl) (by decide) ?_
    refine lv_iload_n hx hb d_Op_isTrue_68 rfl (lv_at hl 3 rfl) ?_
    refine lv_iload_n hx hb d_Op_isTrue_69 rfl (lv_at hl 4 rfl) ?_
    refine lv_icmp_ne (tgt := 77) hx hb d_Op_isTrue_70 (by decide) (fun c70 => ?_) (fun c70 => ?_)
    · have h := ite_f c70 h
      refine lv_iconst (v := 0) hx hb d_Op_isTrue_77 (by decide) ?_
      exact w_Op_isTrue_78 C hQ x0 x1 x2 v2 v4 0 H locs ls hX (lv_sub hl [2, 3, 4, 1, 0] rfl) h
    · have h := ite_t c70 h
      refine lv_iconst (v := 1) hx hb d_Op_isTrue_73 (by decide) ?_
      refine lv_goto (tgt := 78) hx hb d_Op_isTrue_74 (by decide) ?_
      exact w_Op_isTrue_78 C hQ x0 x1 x2 v2 v4 1 H locs ls hX (lv_sub hl [2, 3, 4, 1, 0] rfl) h
  have h := ite_f c16_0 h
  by_cases c16_1 : x0 = 71
  · have h := ite_t c16_1 h
    refine lv_tableIn (tgt := 79) hx hb d_Op_isTrue_16 (by rw [c16_1]; decide) (by rw [c16_1]; decide) (by rw [c16_1]; rfl) (by decide) ?_
    refine lv_iload_n hx hb d_Op_isTrue_79 rfl (lv_at hl 3 rfl) ?_
    refine lv_iload_n hx hb d_Op_isTrue_80 rfl (lv_at hl 4 rfl) ?_
    refine lv_icmp_eq (tgt := 88) hx hb d_Op_isTrue_81 (by decide) (fun c81 => ?_) (fun c81 => ?_)
    · have h := ite_t c81 h
      refine lv_iconst (v := 0) hx hb d_Op_isTrue_88 (by decide) ?_
      exact w_Op_isTrue_89 C hQ x0 x1 x2 v2 v4 0 H locs ls hX (lv_sub hl [2, 3, 4, 1, 0] rfl) h
    · have h := ite_f c81 h
      refine lv_iconst (v := 1) hx hb d_Op_isTrue_84 (by decide) ?_
      refine lv_goto (tgt := 89) hx hb d_Op_isTrue_85 (by decide) ?_
      exact w_Op_isTrue_89 C hQ x0 x1 x2 v2 v4 1 H locs ls hX (lv_sub hl [2, 3, 4, 1, 0] rfl) h
  have h := ite_f c16_1 h
  by_cases c16_2 : x0 = 72
  · have h := ite_t c16_2 h
    refine lv_tableIn (tgt := 90) hx hb d_Op_isTrue_16 (by rw [c16_2]; decide) (by rw [c16_2]; decide) (by rw [c16_2]; rfl) (by decide) ?_
    refine lv_iload_n hx hb d_Op_isTrue_90 rfl (lv_at hl 3 rfl) ?_
    refine lv_iload_n hx hb d_Op_isTrue_91 rfl (lv_at hl 4 rfl) ?_
    refine lv_icmp_ge (tgt := 99) hx hb d_Op_isTrue_92 (by decide) (fun c92 => ?_) (fun c92 => ?_)
    · have h := ite_t c92 h
      refine lv_iconst (v := 0) hx hb d_Op_isTrue_99 (by decide) ?_
      exact w_Op_isTrue_100 C hQ x0 x1 x2 v2 v4 0 H locs ls hX (lv_sub hl [2, 3, 4, 1, 0] rfl) h
    · have h := ite_f c92 h
      refine lv_iconst (v := 1) hx hb d_Op_isTrue_95 (by decide) ?_
      refine lv_goto (tgt := 100) hx hb d_Op_isTrue_96 (by decide) ?_
      exact w_Op_isTrue_100 C hQ x0 x1 x2 v2 v4 1 H locs ls hX (lv_sub hl [2, 3, 4, 1, 0] rfl) h
  have h := ite_f c16_2 h
  by_cases c16_3 : x0 = 73
  · have h := ite_t c16_3 h
    refine lv_tableIn (tgt := 101) hx hb d_Op_isTrue_16 (by rw [c16_3]; decide) (by rw [c16_3]; decide) (by rw [c16_3]; rfl) (by decide) ?_
    refine lv_lload_n hx hb d_Op_isTrue_101 rfl (lv_at hl 1 rfl) ?_
    refine lv_lload hx hb d_Op_isTrue_102 (lv_at hl 0 rfl) ?_
    obtain ⟨v5, ev5, h⟩ := lt1_e h
    refine x_lcmp hx hb d_Op_isTrue_104 ev5 ?_
    refine lv_if_ge (tgt := 112) hx hb d_Op_isTrue_105 (by decide) (fun c105 => ?_) (fun c105 => ?_)
    · have h := ite_t c105 h
      refine lv_iconst (v := 0) hx hb d_Op_isTrue_112 (by decide) ?_
      exact w_Op_isTrue_113 C hQ x0 x1 x2 v2 v4 0 H locs ls hX (lv_sub hl [2, 3, 4, 1, 0] rfl) h
    · have h := ite_f c105 h
      refine lv_iconst (v := 1) hx hb d_Op_isTrue_108 (by decide) ?_
      refine lv_goto (tgt := 113) hx hb d_Op_isTrue_109 (by decide) ?_
      exact w_Op_isTrue_113 C hQ x0 x1 x2 v2 v4 1 H locs ls hX (lv_sub hl [2, 3, 4, 1, 0] rfl) h
  have h := ite_f c16_3 h
  by_cases c16_4 : x0 = 74
  · have h := ite_t c16_4 h
    refine lv_tableIn (tgt := 114) hx hb d_Op_isTrue_16 (by rw [c16_4]; decide) (by rw [c16_4]; decide) (by rw [c16_4]; rfl) (by decide) ?_
    refine lv_iload_n hx hb d_Op_isTrue_114 rfl (lv_at hl 3 rfl) ?_
    refine lv_iload_n hx hb d_Op_isTrue_115 rfl (lv_at hl 4 rfl) ?_
    refine lv_icmp_le (tgt := 123) hx hb d_Op_isTrue_116 (by decide) (fun c116 => ?_) (fun c116 => ?_)
    · have h := ite_t c116 h
      refine lv_iconst (v := 0) hx hb d_Op_isTrue_123 (by decide) ?_
      exact w_Op_isTrue_124 C hQ x0 x1 x2 v2 v4 0 H locs ls hX (lv_sub hl [2, 3, 4, 1, 0] rfl) h
    · have h := ite_f c116 h
      refine lv_iconst (v := 1) hx hb d_Op_isTrue_119 (by decide) ?_
      refine lv_goto (tgt := 124) hx hb d_Op_isTrue_120 (by decide) ?_
      exact w_Op_isTrue_124 C hQ x0 x1 x2 v2 v4 1 H locs ls hX (lv_sub hl [2, 3, 4, 1, 0] rfl) h
  have h := ite_f c16_4 h
  by_cases c16_5 : x0 = 75
  · have h := ite_t c16_5 h
    refine lv_tableIn (tgt := 125) hx hb d_Op_isTrue_16 (by rw [c16_5]; decide) (by rw [c16_5]; decide) (by rw [c16_5]; rfl) (by decide) ?_
    refine lv_lload_n hx hb d_Op_isTrue_125 rfl (lv_at hl 1 rfl) ?_
    refine lv_lload hx hb d_Op_isTrue_126 (lv_at hl 0 rfl) ?_
    obtain ⟨v6, ev6, h⟩ := lt1_e h
    refine x_lcmp hx hb d_Op_isTrue_128 ev6 ?_
    refine lv_if_le (tgt := 136) hx hb d_Op_isTrue_129 (by decide) (fun c129 => ?_) (fun c129 => ?_)
    · have h := ite_t c129 h
      refine lv_iconst (v := 0) hx hb d_Op_isTrue_136 (by decide) ?_
      exact w_Op_isTrue_137 C hQ x0 x1 x2 v2 v4 0 H locs ls hX (lv_sub hl [2, 3, 4, 1, 0] rfl) h
    · have h := ite_f c129 h
      refine lv_iconst (v := 1) hx hb d_Op_isTrue_132 (by decide) ?_
      refine lv_goto (tgt := 137) hx hb d_Op_isTrue_133 (by decide) ?_
      exact w_Op_isTrue_137 C hQ x0 x1 x2 v2 v4 1 H locs ls hX (lv_sub hl [2, 3, 4, 1, 0] rfl) h
  have h := ite_f c16_5 h
  by_cases c16_6 : x0 = 76
  · have h := ite_t c16_6 h
    refine lv_tableIn (tgt := 138) hx hb d_Op_isTrue_16 (by rw [c16_6]; decide) (by rw [c16_6]; decide) (by rw [c16_6]; rfl) (by decide) ?_
    refine lv_iload_n hx hb d_Op_isTrue_138 rfl (lv_at hl 3 rfl) ?_
    refine lv_iload_n hx hb d_Op_isTrue_139 rfl (lv_at hl 4 rfl) ?_
    refine lv_icmp_gt (tgt := 147) hx hb d_Op_isTrue_140 (by decide) (fun c140 => ?_) (fun c140 => ?_)
    · have h := ite_t c140 h
      refine lv_iconst (v := 0) hx hb d_Op_isTrue_147 (by decide) ?_
      exact w_Op_isTrue_148 C hQ x0 x1 x2 v2 v4 0 H locs ls hX (lv_sub hl [2, 3, 4, 1, 0] rfl) h
    · have h := ite_f c140 h
      refine lv_iconst (v := 1) hx hb d_Op_isTrue_143 (by decide) ?_
      refine lv_goto (tgt := 148) hx hb d_Op_isTrue_144 (by decide) ?_
      exact w_Op_isTrue_148 C hQ x0 x1 x2 v2 v4 1 H locs ls hX (lv_sub hl [2, 3, 4, 1, 0] rfl) h
  have h := ite_f c16_6 h
  by_cases c16_7 : x0 = 77
  · have h := ite_t c16_7 h
    refine lv_tableIn (tgt := 149) hx hb d_Op_isTrue_16 (by rw [c16_7]; decide) (by rw [c16_7]; decide) (by rw [c16_7]; rfl) (by decide) ?_
    refine lv_lload_n hx hb d_Op_isTrue_149 rfl (lv_at hl 1 rfl) ?_
    refine lv_lload hx hb d_Op_isTrue_150 (lv_at hl 0 rfl) ?_
    obtain ⟨v7, ev7, h⟩ := lt1_e h
    refine x_lcmp hx hb d_Op_isTrue_152 ev7 ?_
    refine lv_if_gt (tgt := 160) hx hb d_Op_isTrue_153 (by decide) (fun c153 => ?_) (fun c153 => ?_)
    · have h := ite_t c153 h
      refine lv_iconst (v := 0) hx hb d_Op_isTrue_160 (by decide) ?_
      exact w_Op_isTrue_161 C hQ x0 x1 x2 v2 v4 0 H locs ls hX (lv_sub hl [2, 3, 4, 1, 0] rfl) h
    · have h := ite_f c153 h
      refine lv_iconst (v := 1) hx hb d_Op_isTrue_156 (by decide) ?_
      refine lv_goto (tgt := 161) hx hb d_Op_isTrue_157 (by decide) ?_
      exact w_Op_isTrue_161 C hQ x0 x1 x2 v2 v4 1 H locs ls hX (lv_sub hl [2, 3, 4, 1, 0] rfl) h
  have h := ite_f c16_7 h
  by_cases c16_8 : x0 = 78
  · have h := ite_t c16_8 h
    refine lv_tableIn (tgt := 162) hx hb d_Op_isTrue_16 (by rw [c16_8]; decide) (by rw [c16_8]; decide) (by rw [c16_8]; rfl) (by decide) ?_
    refine lv_iload_n hx hb d_Op_isTrue_162 rfl (lv_at hl 3 rfl) ?_
    refine lv_iload_n hx hb d_Op_isTrue_163 rfl (lv_at hl 4 rfl) ?_
    refine lv_icmp_lt (tgt := 171) hx hb d_Op_isTrue_164 (by decide) (fun c164 => ?_) (fun c164 => ?_)
    · have h := ite_t c164 h
      refine lv_iconst (v := 0) hx hb d_Op_isTrue_171 (by decide) ?_
      exact w_Op_isTrue_172 C hQ x0 x1 x2 v2 v4 0 H locs ls hX (lv_sub hl [2, 3, 4, 1, 0] rfl) h
    · have h := ite_f c164 h
      refine lv_iconst (v := 1) hx hb d_Op_isTrue_167 (by decide) ?_
      refine lv_goto (tgt := 172) hx hb d_Op_isTrue_168 (by decide) ?_
      exact w_Op_isTrue_172 C hQ x0 x1 x2 v2 v4 1 H locs ls hX (lv_sub hl [2, 3, 4, 1, 0] rfl) h
  have h := ite_f c16_8 h
  have hz := And.intro trivial trivial
  have hn0 := lv_neT c16_0 (a := 70) (by decide)
  have hn1 := lv_neT c16_1 (a := 71) (by decide)
  have hn2 := lv_neT c16_2 (a := 72) (by decide)
  have hn3 := lv_neT c16_3 (a := 73) (by decide)
  have hn4 := lv_neT c16_4 (a := 74) (by decide)
  have hn5 := lv_neT c16_5 (a := 75) (by decide)
  have hn6 := lv_neT c16_6 (a := 76) (by decide)
  have hn7 := lv_neT c16_7 (a := 77) (by decide)
  have hn8 := lv_neT c16_8 (a := 78) (by decide)
  refine lv_tableOut (tgt := 173) hx hb d_Op_isTrue_16 (by omega) (by decide) ?_
  refine lv_lload_n hx hb d_Op_isTrue_173 rfl (lv_at hl 1 rfl) ?_
  refine lv_lload hx hb d_Op_isTrue_174 (lv_at hl 0 rfl) ?_
  obtain ⟨v8, ev8, h⟩ := lt1_e h
  refine x_lcmp hx hb d_Op_isTrue_176 ev8 ?_
  refine lv_if_lt (tgt := 184) hx hb d_Op_isTrue_177 (by decide) (fun c177 => ?_) (fun c177 => ?_)
  · have h := ite_t c177 h
    refine lv_iconst (v := 0) hx hb d_Op_isTrue_184 (by decide) ?_
    exact w_Op_isTrue_185 C hQ x0 x1 x2 v2 v4 0 H locs ls hX (lv_sub hl [2, 3, 4, 1, 0] rfl) h
  · have h := ite_f c177 h
    refine lv_iconst (v := 1) hx hb d_Op_isTrue_180 (by decide) ?_
    refine lv_goto (tgt := 185) hx hb d_Op_isTrue_181 (by decide) ?_
    exact w_Op_isTrue_185 C hQ x0 x1 x2 v2 v4 1 H locs ls hX (lv_sub hl [2, 3, 4, 1, 0] rfl) h
end WALK
theorem c_Op_isTrue (l : Launch) (g : GX) (x0 : Int32) (x1 : Int32) (x2 : Int32) (z : Int32) (h : f_Op_isTrue x0 x1 x2 = some z) (ws : va_W) : MI l g y_Op_isTrue b_Op_isTrue 7 (some .boolean) 0 0 [.int x0, .int x1, .int x2] ws z ws :=
  MI.mkZ (own := R_Op) (by decide) rfl (Nat.le_of_ble_eq_true rfl) fun p e ss m below meth c A Q C hQ ls hX hl => w_Op_isTrue C hQ x0 x1 x2 _ _ ls hX hl h
-- Op_divided
def f_Op_divided_86 (x0 : Int32) (x1 : Int32) (x2 : Int32) (x3 : Int32) (x4 : Int64) (x6 : Int64) (y0 : Int64) : Option Int32 :=
    lt1 (Int64.toInt32 y0) fun v1 =>
    some (v1)
def f_Op_divided_73 (x0 : Int32) (x1 : Int32) (x2 : Int32) (x3 : Int32) (x4 : Int64) (x6 : Int64) : Option Int32 :=
    gzl (x6) <|
    lt1 (x4 / x6) fun v1 =>
    f_Op_divided_86 x0 x1 x2 x3 x4 x6 v1
def f_Op_divided_50 (x0 : Int32) (x1 : Int32) (x2 : Int32) (x3 : Int32) (x4 : Int64) (y0 : Int64) : Option Int32 :=
    lt1 (lg_cmp y0 0) fun v1 =>
    if v1 = 0 then
      some (0)
    else
      if x0 = 109 then
        f_Op_divided_73 x0 x1 x2 x3 x4 y0
      else
        if x0 = 110 then
          f_Op_divided_73 x0 x1 x2 x3 x4 y0
        else
          gzl (y0) <|
          lt1 (x4 - x4 / y0 * y0) fun v2 =>
          f_Op_divided_86 x0 x1 x2 x3 x4 y0 v2
def f_Op_divided_33 (x0 : Int32) (x1 : Int32) (x2 : Int32) (x3 : Int32) (y0 : Int64) : Option Int32 :=
    if x3 = 0 then
      lt1 (Int32.toInt64 x2) fun v1 =>
      lt1 (v1 &&& 4294967295) fun v2 =>
      f_Op_divided_50 x0 x1 x2 x3 y0 v2
    else
      lt1 (Int32.toInt64 x2) fun v3 =>
      f_Op_divided_50 x0 x1 x2 x3 y0 v3
def f_Op_divided_17 (x0 : Int32) (x1 : Int32) (x2 : Int32) (y0 : Int32) : Option Int32 :=
    if y0 = 0 then
      lt1 (Int32.toInt64 x1) fun v1 =>
      lt1 (v1 &&& 4294967295) fun v2 =>
      f_Op_divided_33 x0 x1 x2 y0 v2
    else
      lt1 (Int32.toInt64 x1) fun v3 =>
      f_Op_divided_33 x0 x1 x2 y0 v3
def f_Op_divided_12 (x0 : Int32) (x1 : Int32) (x2 : Int32) : Option Int32 :=
    f_Op_divided_17 x0 x1 x2 1
def f_Op_divided (x0 : Int32) (x1 : Int32) (x2 : Int32) : Option Int32 :=
    if x0 = 109 then
      f_Op_divided_12 x0 x1 x2
    else
      if x0 = 111 then
        f_Op_divided_12 x0 x1 x2
      else
        f_Op_divided_17 x0 x1 x2 0
section WALK
variable {p : Program} {l : Launch} {e : Env} {ss : State} {m : MethodId} {args : Array Value} {below : List Frame} {meth : Method} {c : Code} {Q : State → Prop} {g : GX} {A : Nat → Prop}
set_option maxHeartbeats 4000000 in
set_option maxRecDepth 100000 in
theorem w_Op_divided_86 {ws : va_W} {z : Int32} (C : Cx g A p m c b_Op_divided 8 ss args R_Op) (hQ : ∀ (pc : Nat) (H : Heap) (locs : List Loc) (ls : Array Slot), XW g A ss ws H locs → decode b_Op_divided pc = .ok (.ireturn, 1) → W p l e (rmX 0 0) ss m args below meth c H locs 0 0 Q (F0 m pc ls [.int z])) : ∀ (x0 : Int32) (x1 : Int32) (x2 : Int32) (x3 : Int32) (x4 : Int64) (x6 : Int64) (y0 : Int64) (H : Heap) (locs : List Loc) (ls : Array Slot), XW g A ss ws H locs → lv_has ls 8 [(0, .int x0), (1, .int x1), (2, .int x2), (3, .int x3), (4, .long x4), (6, .long x6)] → f_Op_divided_86 x0 x1 x2 x3 x4 x6 y0 = some z → W p l e (rmX 0 0) ss m args below meth c H locs 0 0 Q (F0 m 86 ls [.long y0]) := by
  have ⟨⟨hx, hb, hml, hown, hts⟩, hK, hA, hN⟩ := C
  intro x0 x1 x2 x3 x4 x6 y0 H locs ls hX hl h
  rw [f_Op_divided_86] at h
  obtain ⟨v1, ev1, h⟩ := lt1_e h
  refine lv_l2i hx hb d_Op_divided_86 ev1.symm ?_
  obtain rfl := so1 h
  exact hQ _ H locs ls hX d_Op_divided_87
set_option maxHeartbeats 4000000 in
set_option maxRecDepth 100000 in
theorem w_Op_divided_73 {ws : va_W} {z : Int32} (C : Cx g A p m c b_Op_divided 8 ss args R_Op) (hQ : ∀ (pc : Nat) (H : Heap) (locs : List Loc) (ls : Array Slot), XW g A ss ws H locs → decode b_Op_divided pc = .ok (.ireturn, 1) → W p l e (rmX 0 0) ss m args below meth c H locs 0 0 Q (F0 m pc ls [.int z])) : ∀ (x0 : Int32) (x1 : Int32) (x2 : Int32) (x3 : Int32) (x4 : Int64) (x6 : Int64) (H : Heap) (locs : List Loc) (ls : Array Slot), XW g A ss ws H locs → lv_has ls 8 [(0, .int x0), (1, .int x1), (2, .int x2), (3, .int x3), (4, .long x4), (6, .long x6)] → f_Op_divided_73 x0 x1 x2 x3 x4 x6 = some z → W p l e (rmX 0 0) ss m args below meth c H locs 0 0 Q (F0 m 73 ls []) := by
  have ⟨⟨hx, hb, hml, hown, hts⟩, hK, hA, hN⟩ := C
  intro x0 x1 x2 x3 x4 x6 H locs ls hX hl h
  rw [f_Op_divided_73] at h
  refine lv_lload hx hb d_Op_divided_73 (lv_at hl 4 rfl) ?_
  refine lv_lload hx hb d_Op_divided_75 (lv_at hl 5 rfl) ?_
  obtain ⟨hz77, h⟩ := gzl_e h
  obtain ⟨v1, ev1, h⟩ := lt1_e h
  refine x_ldiv hx hb d_Op_divided_77 hz77 ev1 ?_
  refine lv_goto (tgt := 86) hx hb d_Op_divided_78 (by decide) ?_
  exact w_Op_divided_86 C hQ x0 x1 x2 x3 x4 x6 v1 H locs ls hX hl h
set_option maxHeartbeats 4000000 in
set_option maxRecDepth 100000 in
theorem w_Op_divided_50 {ws : va_W} {z : Int32} (C : Cx g A p m c b_Op_divided 8 ss args R_Op) (hQ : ∀ (pc : Nat) (H : Heap) (locs : List Loc) (ls : Array Slot), XW g A ss ws H locs → decode b_Op_divided pc = .ok (.ireturn, 1) → W p l e (rmX 0 0) ss m args below meth c H locs 0 0 Q (F0 m pc ls [.int z])) : ∀ (x0 : Int32) (x1 : Int32) (x2 : Int32) (x3 : Int32) (x4 : Int64) (y0 : Int64) (H : Heap) (locs : List Loc) (ls : Array Slot), XW g A ss ws H locs → lv_has ls 8 [(0, .int x0), (1, .int x1), (2, .int x2), (3, .int x3), (4, .long x4)] → f_Op_divided_50 x0 x1 x2 x3 x4 y0 = some z → W p l e (rmX 0 0) ss m args below meth c H locs 0 0 Q (F0 m 50 ls [.long y0]) := by
  have ⟨⟨hx, hb, hml, hown, hts⟩, hK, hA, hN⟩ := C
  intro x0 x1 x2 x3 x4 y0 H locs ls hX hl h
  rw [f_Op_divided_50] at h
  refine lv_lstore (lv' := [(6, .long y0), (0, .int x0), (1, .int x1), (2, .int x2), (3, .int x3), (4, .long x4)]) hx hb d_Op_divided_50 hl (by decide) rfl (fun ls hl => ?_)
  refine lv_lload hx hb d_Op_divided_52 (lv_at hl 0 rfl) ?_
  refine lv_lconst (v := 0) hx hb d_Op_divided_54 (by decide) ?_
  obtain ⟨v1, ev1, h⟩ := lt1_e h
  refine x_lcmp hx hb d_Op_divided_55 ev1 ?_
  refine lv_if_ne (tgt := 61) hx hb d_Op_divided_56 (by decide) (fun c56 => ?_) (fun c56 => ?_)
  · have h := ite_f c56 h
    refine lv_iload_n hx hb d_Op_divided_61 rfl (lv_at hl 1 rfl) ?_
    refine lv_bipush (v := 109) hx hb d_Op_divided_62 (by decide) ?_
    refine lv_icmp_eq (tgt := 73) hx hb d_Op_divided_64 (by decide) (fun c64 => ?_) (fun c64 => ?_)
    · have h := ite_t c64 h
      exact w_Op_divided_73 C hQ x0 x1 x2 x3 x4 y0 H locs ls hX (lv_sub hl [1, 2, 3, 4, 5, 0] rfl) h
    · have h := ite_f c64 h
      refine lv_iload_n hx hb d_Op_divided_67 rfl (lv_at hl 1 rfl) ?_
      refine lv_bipush (v := 110) hx hb d_Op_divided_68 (by decide) ?_
      refine lv_icmp_ne (tgt := 81) hx hb d_Op_divided_70 (by decide) (fun c70 => ?_) (fun c70 => ?_)
      · have h := ite_f c70 h
        refine lv_lload hx hb d_Op_divided_81 (lv_at hl 5 rfl) ?_
        refine lv_lload hx hb d_Op_divided_83 (lv_at hl 0 rfl) ?_
        obtain ⟨hz85, h⟩ := gzl_e h
        obtain ⟨v2, ev2, h⟩ := lt1_e h
        refine x_lrem hx hb d_Op_divided_85 hz85 ev2 ?_
        exact w_Op_divided_86 C hQ x0 x1 x2 x3 x4 y0 v2 H locs ls hX (lv_sub hl [1, 2, 3, 4, 5, 0] rfl) h
      · have h := ite_t c70 h
        exact w_Op_divided_73 C hQ x0 x1 x2 x3 x4 y0 H locs ls hX (lv_sub hl [1, 2, 3, 4, 5, 0] rfl) h
  · have h := ite_t c56 h
    refine lv_iconst (v := 0) hx hb d_Op_divided_59 (by decide) ?_
    obtain rfl := so1 h
    exact hQ _ H locs ls hX d_Op_divided_60
set_option maxHeartbeats 4000000 in
set_option maxRecDepth 100000 in
theorem w_Op_divided_33 {ws : va_W} {z : Int32} (C : Cx g A p m c b_Op_divided 8 ss args R_Op) (hQ : ∀ (pc : Nat) (H : Heap) (locs : List Loc) (ls : Array Slot), XW g A ss ws H locs → decode b_Op_divided pc = .ok (.ireturn, 1) → W p l e (rmX 0 0) ss m args below meth c H locs 0 0 Q (F0 m pc ls [.int z])) : ∀ (x0 : Int32) (x1 : Int32) (x2 : Int32) (x3 : Int32) (y0 : Int64) (H : Heap) (locs : List Loc) (ls : Array Slot), XW g A ss ws H locs → lv_has ls 8 [(0, .int x0), (1, .int x1), (2, .int x2), (3, .int x3)] → f_Op_divided_33 x0 x1 x2 x3 y0 = some z → W p l e (rmX 0 0) ss m args below meth c H locs 0 0 Q (F0 m 33 ls [.long y0]) := by
  have ⟨⟨hx, hb, hml, hown, hts⟩, hK, hA, hN⟩ := C
  intro x0 x1 x2 x3 y0 H locs ls hX hl h
  rw [f_Op_divided_33] at h
  refine lv_lstore (lv' := [(4, .long y0), (0, .int x0), (1, .int x1), (2, .int x2), (3, .int x3)]) hx hb d_Op_divided_33 hl (by decide) rfl (fun ls hl => ?_)
  refine lv_iload_n hx hb d_Op_divided_35 rfl (lv_at hl 4 rfl) ?_
  refine lv_if_eq (tgt := 44) hx hb d_Op_divided_36 (by decide) (fun c36 => ?_) (fun c36 => ?_)
  · have h := ite_t c36 h
    refine lv_iload_n hx hb d_Op_divided_44 rfl (lv_at hl 3 rfl) ?_
    obtain ⟨v1, ev1, h⟩ := lt1_e h
    refine lv_i2l hx hb d_Op_divided_45 ev1.symm ?_
    refine lv_ldc2 (v := 4294967295) hx hb hown (hts _ m_constantLong_Op_45) d_Op_divided_46 ?_
    obtain ⟨v2, ev2, h⟩ := lt1_e h
    refine x_land hx hb d_Op_divided_49 ev2 ?_
    exact w_Op_divided_50 C hQ x0 x1 x2 x3 y0 v2 H locs ls hX (lv_sub hl [1, 2, 3, 4, 0] rfl) h
  · have h := ite_f c36 h
    refine lv_iload_n hx hb d_Op_divided_39 rfl (lv_at hl 3 rfl) ?_
    obtain ⟨v3, ev3, h⟩ := lt1_e h
    refine lv_i2l hx hb d_Op_divided_40 ev3.symm ?_
    refine lv_goto (tgt := 50) hx hb d_Op_divided_41 (by decide) ?_
    exact w_Op_divided_50 C hQ x0 x1 x2 x3 y0 v3 H locs ls hX (lv_sub hl [1, 2, 3, 4, 0] rfl) h
set_option maxHeartbeats 4000000 in
set_option maxRecDepth 100000 in
theorem w_Op_divided_17 {ws : va_W} {z : Int32} (C : Cx g A p m c b_Op_divided 8 ss args R_Op) (hQ : ∀ (pc : Nat) (H : Heap) (locs : List Loc) (ls : Array Slot), XW g A ss ws H locs → decode b_Op_divided pc = .ok (.ireturn, 1) → W p l e (rmX 0 0) ss m args below meth c H locs 0 0 Q (F0 m pc ls [.int z])) : ∀ (x0 : Int32) (x1 : Int32) (x2 : Int32) (y0 : Int32) (H : Heap) (locs : List Loc) (ls : Array Slot), XW g A ss ws H locs → lv_has ls 8 [(0, .int x0), (1, .int x1), (2, .int x2)] → f_Op_divided_17 x0 x1 x2 y0 = some z → W p l e (rmX 0 0) ss m args below meth c H locs 0 0 Q (F0 m 17 ls [.int y0]) := by
  have ⟨⟨hx, hb, hml, hown, hts⟩, hK, hA, hN⟩ := C
  intro x0 x1 x2 y0 H locs ls hX hl h
  rw [f_Op_divided_17] at h
  refine lv_istore_n (lv' := [(3, .int y0), (0, .int x0), (1, .int x1), (2, .int x2)]) hx hb d_Op_divided_17 rfl hl (by decide) rfl (fun ls hl => ?_)
  refine lv_iload_n hx hb d_Op_divided_18 rfl (lv_at hl 0 rfl) ?_
  refine lv_if_eq (tgt := 27) hx hb d_Op_divided_19 (by decide) (fun c19 => ?_) (fun c19 => ?_)
  · have h := ite_t c19 h
    refine lv_iload_n hx hb d_Op_divided_27 rfl (lv_at hl 2 rfl) ?_
    obtain ⟨v1, ev1, h⟩ := lt1_e h
    refine lv_i2l hx hb d_Op_divided_28 ev1.symm ?_
    refine lv_ldc2 (v := 4294967295) hx hb hown (hts _ m_constantLong_Op_45) d_Op_divided_29 ?_
    obtain ⟨v2, ev2, h⟩ := lt1_e h
    refine x_land hx hb d_Op_divided_32 ev2 ?_
    exact w_Op_divided_33 C hQ x0 x1 x2 y0 v2 H locs ls hX (lv_sub hl [1, 2, 3, 0] rfl) h
  · have h := ite_f c19 h
    refine lv_iload_n hx hb d_Op_divided_22 rfl (lv_at hl 2 rfl) ?_
    obtain ⟨v3, ev3, h⟩ := lt1_e h
    refine lv_i2l hx hb d_Op_divided_23 ev3.symm ?_
    refine lv_goto (tgt := 33) hx hb d_Op_divided_24 (by decide) ?_
    exact w_Op_divided_33 C hQ x0 x1 x2 y0 v3 H locs ls hX (lv_sub hl [1, 2, 3, 0] rfl) h
set_option maxHeartbeats 4000000 in
set_option maxRecDepth 100000 in
theorem w_Op_divided_12 {ws : va_W} {z : Int32} (C : Cx g A p m c b_Op_divided 8 ss args R_Op) (hQ : ∀ (pc : Nat) (H : Heap) (locs : List Loc) (ls : Array Slot), XW g A ss ws H locs → decode b_Op_divided pc = .ok (.ireturn, 1) → W p l e (rmX 0 0) ss m args below meth c H locs 0 0 Q (F0 m pc ls [.int z])) : ∀ (x0 : Int32) (x1 : Int32) (x2 : Int32) (H : Heap) (locs : List Loc) (ls : Array Slot), XW g A ss ws H locs → lv_has ls 8 [(0, .int x0), (1, .int x1), (2, .int x2)] → f_Op_divided_12 x0 x1 x2 = some z → W p l e (rmX 0 0) ss m args below meth c H locs 0 0 Q (F0 m 12 ls []) := by
  have ⟨⟨hx, hb, hml, hown, hts⟩, hK, hA, hN⟩ := C
  intro x0 x1 x2 H locs ls hX hl h
  rw [f_Op_divided_12] at h
  refine lv_iconst (v := 1) hx hb d_Op_divided_12 (by decide) ?_
  refine lv_goto (tgt := 17) hx hb d_Op_divided_13 (by decide) ?_
  exact w_Op_divided_17 C hQ x0 x1 x2 1 H locs ls hX hl h
set_option maxHeartbeats 4000000 in
set_option maxRecDepth 100000 in
theorem w_Op_divided {ws : va_W} {z : Int32} (C : Cx g A p m c b_Op_divided 8 ss args R_Op) (hQ : ∀ (pc : Nat) (H : Heap) (locs : List Loc) (ls : Array Slot), XW g A ss ws H locs → decode b_Op_divided pc = .ok (.ireturn, 1) → W p l e (rmX 0 0) ss m args below meth c H locs 0 0 Q (F0 m pc ls [.int z])) : ∀ (x0 : Int32) (x1 : Int32) (x2 : Int32) (H : Heap) (locs : List Loc) (ls : Array Slot), XW g A ss ws H locs → lv_has ls 8 [(0, .int x0), (1, .int x1), (2, .int x2)] → f_Op_divided x0 x1 x2 = some z → W p l e (rmX 0 0) ss m args below meth c H locs 0 0 Q (F0 m 0 ls []) := by
  have ⟨⟨hx, hb, hml, hown, hts⟩, hK, hA, hN⟩ := C
  intro x0 x1 x2 H locs ls hX hl h
  rw [f_Op_divided] at h
  refine lv_iload_n hx hb d_Op_divided_0 rfl (lv_at hl 0 rfl) ?_
  refine lv_bipush (v := 109) hx hb d_Op_divided_1 (by decide) ?_
  refine lv_icmp_eq (tgt := 12) hx hb d_Op_divided_3 (by decide) (fun c3 => ?_) (fun c3 => ?_)
  · have h := ite_t c3 h
    exact w_Op_divided_12 C hQ x0 x1 x2 H locs ls hX hl h
  · have h := ite_f c3 h
    refine lv_iload_n hx hb d_Op_divided_6 rfl (lv_at hl 0 rfl) ?_
    refine lv_bipush (v := 111) hx hb d_Op_divided_7 (by decide) ?_
    refine lv_icmp_ne (tgt := 16) hx hb d_Op_divided_9 (by decide) (fun c9 => ?_) (fun c9 => ?_)
    · have h := ite_f c9 h
      refine lv_iconst (v := 0) hx hb d_Op_divided_16 (by decide) ?_
      exact w_Op_divided_17 C hQ x0 x1 x2 0 H locs ls hX hl h
    · have h := ite_t c9 h
      exact w_Op_divided_12 C hQ x0 x1 x2 H locs ls hX hl h
end WALK
theorem c_Op_divided (l : Launch) (g : GX) (x0 : Int32) (x1 : Int32) (x2 : Int32) (z : Int32) (h : f_Op_divided x0 x1 x2 = some z) (ws : va_W) : MI l g y_Op_divided b_Op_divided 8 (some .int) 0 0 [.int x0, .int x1, .int x2] ws z ws :=
  MI.mk (own := R_Op) (by decide) rfl (Nat.le_of_ble_eq_true rfl) fun p e ss m below meth c A Q C hQ ls hX hl => w_Op_divided C hQ x0 x1 x2 _ _ ls hX hl h
-- Op_ofTwo
def f_Op_ofTwo_158 (x0 : Int32) (x1 : Int32) (x2 : Int32) : Option Int32 :=
    bd1 (f_Op_divided x0 x1 x2) fun r1 =>
    some (r1)
def f_Op_ofTwo_27 (x0 : Int32) (x1 : Int32) (x2 : Int32) : Option Int32 :=
    if x0 = 106 then
      lt1 (x1 + x2) fun v1 =>
      some (v1)
    else if x0 = 107 then
      lt1 (x1 - x2) fun v2 =>
      some (v2)
    else if x0 = 108 then
      lt1 (x1 * x2) fun v3 =>
      some (v3)
    else if x0 = 113 then
      lt1 (x1 &&& x2) fun v4 =>
      some (v4)
    else if x0 = 114 then
      lt1 (x1 ||| x2) fun v5 =>
      some (v5)
    else if x0 = 115 then
      lt1 (x1 ^^^ x2) fun v6 =>
      some (v6)
    else if x0 = 116 then
      lt1 (x1 <<< (x2 &&& 31)) fun v7 =>
      some (v7)
    else if x0 = 117 then
      lt1 (x1 >>> (x2 &&& 31)) fun v8 =>
      some (v8)
    else if x0 = 118 then
      lt1 (ush x1 x2) fun v9 =>
      some (v9)
    else if x0 = 119 then
      lt1 (x1 <<< (x2 &&& 31)) fun v10 =>
      lt1 (-x2) fun v11 =>
      lt1 (ush x1 v11) fun v12 =>
      lt1 (v10 ||| v12) fun v13 =>
      some (v13)
    else if x0 = 120 then
      lt1 (ush x1 x2) fun v14 =>
      lt1 (-x2) fun v15 =>
      lt1 (x1 <<< (v15 &&& 31)) fun v16 =>
      lt1 (v14 ||| v16) fun v17 =>
      some (v17)
    else 
      f_Op_ofTwo_158 x0 x1 x2
def f_Op_ofTwo_26 (x0 : Int32) (x1 : Int32) (x2 : Int32) (y0 : Int32) : Option Int32 :=
    some (y0)
def f_Op_ofTwo (x0 : Int32) (x1 : Int32) (x2 : Int32) : Option Int32 :=
    if x0 < 70 then
      f_Op_ofTwo_27 x0 x1 x2
    else
      if 79 < x0 then
        f_Op_ofTwo_27 x0 x1 x2
      else
        bd1 (f_Op_isTrue x0 x1 x2) fun r1 =>
        if r1 = 0 then
          f_Op_ofTwo_26 x0 x1 x2 0
        else
          f_Op_ofTwo_26 x0 x1 x2 1
section WALK
variable {p : Program} {l : Launch} {e : Env} {ss : State} {m : MethodId} {args : Array Value} {below : List Frame} {meth : Method} {c : Code} {Q : State → Prop} {g : GX} {A : Nat → Prop}
set_option maxHeartbeats 4000000 in
set_option maxRecDepth 100000 in
theorem w_Op_ofTwo_158 {ws : va_W} {z : Int32} (C : Cx g A p m c b_Op_ofTwo 3 ss args R_Op) (hQ : ∀ (pc : Nat) (H : Heap) (locs : List Loc) (ls : Array Slot), XW g A ss ws H locs → decode b_Op_ofTwo pc = .ok (.ireturn, 1) → W p l e (rmX 1 27) ss m args below meth c H locs 0 0 Q (F0 m pc ls [.int z])) : ∀ (x0 : Int32) (x1 : Int32) (x2 : Int32) (H : Heap) (locs : List Loc) (ls : Array Slot), XW g A ss ws H locs → lv_has ls 3 [(0, .int x0), (1, .int x1), (2, .int x2)] → f_Op_ofTwo_158 x0 x1 x2 = some z → W p l e (rmX 1 27) ss m args below meth c H locs 0 0 Q (F0 m 158 ls []) := by
  have ⟨⟨hx, hb, hml, hown, hts⟩, hK, hA, hN⟩ := C
  intro x0 x1 x2 H locs ls hX hl h
  rw [f_Op_ofTwo_158] at h
  refine lv_iload_n hx hb d_Op_ofTwo_158 rfl (lv_at hl 0 rfl) ?_
  refine lv_iload_n hx hb d_Op_ofTwo_159 rfl (lv_at hl 1 rfl) ?_
  refine lv_iload_n hx hb d_Op_ofTwo_160 rfl (lv_at hl 2 rfl) ?_
  obtain ⟨r1, hc161, h⟩ := bd1_e h
  refine x_sI (As := [.int x0, .int x1, .int x2]) (rest := []) C hX (c_Op_divided l g x0 x1 x2 r1 hc161 _) (cw_Op_40 C.1.2.2.2.2 C.2.2.2 ⟨by decide, by decide⟩) rfl hl.1 rfl (lv_room (Nat.le_of_ble_eq_true rfl)) d_Op_ofTwo_161 ⟨Nat.le_refl _, Nat.le_refl _⟩ (fun H locs hX => ?_)
  obtain rfl := so1 h
  exact hQ _ H locs ls hX d_Op_ofTwo_164
set_option maxHeartbeats 4000000 in
set_option maxRecDepth 100000 in
theorem w_Op_ofTwo_27 {ws : va_W} {z : Int32} (C : Cx g A p m c b_Op_ofTwo 3 ss args R_Op) (hQ : ∀ (pc : Nat) (H : Heap) (locs : List Loc) (ls : Array Slot), XW g A ss ws H locs → decode b_Op_ofTwo pc = .ok (.ireturn, 1) → W p l e (rmX 1 27) ss m args below meth c H locs 0 0 Q (F0 m pc ls [.int z])) : ∀ (x0 : Int32) (x1 : Int32) (x2 : Int32) (H : Heap) (locs : List Loc) (ls : Array Slot), XW g A ss ws H locs → lv_has ls 3 [(0, .int x0), (1, .int x1), (2, .int x2)] → f_Op_ofTwo_27 x0 x1 x2 = some z → W p l e (rmX 1 27) ss m args below meth c H locs 0 0 Q (F0 m 27 ls []) := by
  have ⟨⟨hx, hb, hml, hown, hts⟩, hK, hA, hN⟩ := C
  intro x0 x1 x2 H locs ls hX hl h
  rw [f_Op_ofTwo_27] at h
  refine lv_iload_n hx hb d_Op_ofTwo_27 rfl (lv_at hl 0 rfl) ?_
  by_cases c28_0 : x0 = 106
  · have h := ite_t c28_0 h
    refine lv_tableIn (tgt := 104) hx hb d_Op_ofTwo_28 (by rw [c28_0]; decide) (by rw [c28_0]; decide) (by rw [c28_0]; rfl) (by decide) ?_
    refine lv_iload_n hx hb d_Op_ofTwo_104 rfl (lv_at hl 1 rfl) ?_
    refine lv_iload_n hx hb d_Op_ofTwo_105 rfl (lv_at hl 2 rfl) ?_
    obtain ⟨v1, ev1, h⟩ := lt1_e h
    refine x_iadd hx hb d_Op_ofTwo_106 ev1 ?_
    obtain rfl := so1 h
    exact hQ _ H locs ls hX d_Op_ofTwo_107
  have h := ite_f c28_0 h
  by_cases c28_1 : x0 = 107
  · have h := ite_t c28_1 h
    refine lv_tableIn (tgt := 108) hx hb d_Op_ofTwo_28 (by rw [c28_1]; decide) (by rw [c28_1]; decide) (by rw [c28_1]; rfl) (by decide) ?_
    refine lv_iload_n hx hb d_Op_ofTwo_108 rfl (lv_at hl 1 rfl) ?_
    refine lv_iload_n hx hb d_Op_ofTwo_109 rfl (lv_at hl 2 rfl) ?_
    obtain ⟨v2, ev2, h⟩ := lt1_e h
    refine x_isub hx hb d_Op_ofTwo_110 ev2 ?_
    obtain rfl := so1 h
    exact hQ _ H locs ls hX d_Op_ofTwo_111
  have h := ite_f c28_1 h
  by_cases c28_2 : x0 = 108
  · have h := ite_t c28_2 h
    refine lv_tableIn (tgt := 112) hx hb d_Op_ofTwo_28 (by rw [c28_2]; decide) (by rw [c28_2]; decide) (by rw [c28_2]; rfl) (by decide) ?_
    refine lv_iload_n hx hb d_Op_ofTwo_112 rfl (lv_at hl 1 rfl) ?_
    refine lv_iload_n hx hb d_Op_ofTwo_113 rfl (lv_at hl 2 rfl) ?_
    obtain ⟨v3, ev3, h⟩ := lt1_e h
    refine x_imul hx hb d_Op_ofTwo_114 ev3 ?_
    obtain rfl := so1 h
    exact hQ _ H locs ls hX d_Op_ofTwo_115
  have h := ite_f c28_2 h
  by_cases c28_3 : x0 = 113
  · have h := ite_t c28_3 h
    refine lv_tableIn (tgt := 116) hx hb d_Op_ofTwo_28 (by rw [c28_3]; decide) (by rw [c28_3]; decide) (by rw [c28_3]; rfl) (by decide) ?_
    refine lv_iload_n hx hb d_Op_ofTwo_116 rfl (lv_at hl 1 rfl) ?_
    refine lv_iload_n hx hb d_Op_ofTwo_117 rfl (lv_at hl 2 rfl) ?_
    obtain ⟨v4, ev4, h⟩ := lt1_e h
    refine x_iand hx hb d_Op_ofTwo_118 ev4 ?_
    obtain rfl := so1 h
    exact hQ _ H locs ls hX d_Op_ofTwo_119
  have h := ite_f c28_3 h
  by_cases c28_4 : x0 = 114
  · have h := ite_t c28_4 h
    refine lv_tableIn (tgt := 120) hx hb d_Op_ofTwo_28 (by rw [c28_4]; decide) (by rw [c28_4]; decide) (by rw [c28_4]; rfl) (by decide) ?_
    refine lv_iload_n hx hb d_Op_ofTwo_120 rfl (lv_at hl 1 rfl) ?_
    refine lv_iload_n hx hb d_Op_ofTwo_121 rfl (lv_at hl 2 rfl) ?_
    obtain ⟨v5, ev5, h⟩ := lt1_e h
    refine x_ior hx hb d_Op_ofTwo_122 ev5 ?_
    obtain rfl := so1 h
    exact hQ _ H locs ls hX d_Op_ofTwo_123
  have h := ite_f c28_4 h
  by_cases c28_5 : x0 = 115
  · have h := ite_t c28_5 h
    refine lv_tableIn (tgt := 124) hx hb d_Op_ofTwo_28 (by rw [c28_5]; decide) (by rw [c28_5]; decide) (by rw [c28_5]; rfl) (by decide) ?_
    refine lv_iload_n hx hb d_Op_ofTwo_124 rfl (lv_at hl 1 rfl) ?_
    refine lv_iload_n hx hb d_Op_ofTwo_125 rfl (lv_at hl 2 rfl) ?_
    obtain ⟨v6, ev6, h⟩ := lt1_e h
    refine x_ixor hx hb d_Op_ofTwo_126 ev6 ?_
    obtain rfl := so1 h
    exact hQ _ H locs ls hX d_Op_ofTwo_127
  have h := ite_f c28_5 h
  by_cases c28_6 : x0 = 116
  · have h := ite_t c28_6 h
    refine lv_tableIn (tgt := 128) hx hb d_Op_ofTwo_28 (by rw [c28_6]; decide) (by rw [c28_6]; decide) (by rw [c28_6]; rfl) (by decide) ?_
    refine lv_iload_n hx hb d_Op_ofTwo_128 rfl (lv_at hl 1 rfl) ?_
    refine lv_iload_n hx hb d_Op_ofTwo_129 rfl (lv_at hl 2 rfl) ?_
    obtain ⟨v7, ev7, h⟩ := lt1_e h
    refine x_ishl hx hb d_Op_ofTwo_130 ev7 ?_
    obtain rfl := so1 h
    exact hQ _ H locs ls hX d_Op_ofTwo_131
  have h := ite_f c28_6 h
  by_cases c28_7 : x0 = 117
  · have h := ite_t c28_7 h
    refine lv_tableIn (tgt := 132) hx hb d_Op_ofTwo_28 (by rw [c28_7]; decide) (by rw [c28_7]; decide) (by rw [c28_7]; rfl) (by decide) ?_
    refine lv_iload_n hx hb d_Op_ofTwo_132 rfl (lv_at hl 1 rfl) ?_
    refine lv_iload_n hx hb d_Op_ofTwo_133 rfl (lv_at hl 2 rfl) ?_
    obtain ⟨v8, ev8, h⟩ := lt1_e h
    refine x_ishr hx hb d_Op_ofTwo_134 ev8 ?_
    obtain rfl := so1 h
    exact hQ _ H locs ls hX d_Op_ofTwo_135
  have h := ite_f c28_7 h
  by_cases c28_8 : x0 = 118
  · have h := ite_t c28_8 h
    refine lv_tableIn (tgt := 136) hx hb d_Op_ofTwo_28 (by rw [c28_8]; decide) (by rw [c28_8]; decide) (by rw [c28_8]; rfl) (by decide) ?_
    refine lv_iload_n hx hb d_Op_ofTwo_136 rfl (lv_at hl 1 rfl) ?_
    refine lv_iload_n hx hb d_Op_ofTwo_137 rfl (lv_at hl 2 rfl) ?_
    obtain ⟨v9, ev9, h⟩ := lt1_e h
    refine lv_iushr hx hb d_Op_ofTwo_138 ev9.symm ?_
    obtain rfl := so1 h
    exact hQ _ H locs ls hX d_Op_ofTwo_139
  have h := ite_f c28_8 h
  by_cases c28_9 : x0 = 119
  · have h := ite_t c28_9 h
    refine lv_tableIn (tgt := 140) hx hb d_Op_ofTwo_28 (by rw [c28_9]; decide) (by rw [c28_9]; decide) (by rw [c28_9]; rfl) (by decide) ?_
    refine lv_iload_n hx hb d_Op_ofTwo_140 rfl (lv_at hl 1 rfl) ?_
    refine lv_iload_n hx hb d_Op_ofTwo_141 rfl (lv_at hl 2 rfl) ?_
    obtain ⟨v10, ev10, h⟩ := lt1_e h
    refine x_ishl hx hb d_Op_ofTwo_142 ev10 ?_
    refine lv_iload_n hx hb d_Op_ofTwo_143 rfl (lv_at hl 1 rfl) ?_
    refine lv_iload_n hx hb d_Op_ofTwo_144 rfl (lv_at hl 2 rfl) ?_
    obtain ⟨v11, ev11, h⟩ := lt1_e h
    refine x_ineg hx hb d_Op_ofTwo_145 ev11 ?_
    obtain ⟨v12, ev12, h⟩ := lt1_e h
    refine lv_iushr hx hb d_Op_ofTwo_146 ev12.symm ?_
    obtain ⟨v13, ev13, h⟩ := lt1_e h
    refine x_ior hx hb d_Op_ofTwo_147 ev13 ?_
    obtain rfl := so1 h
    exact hQ _ H locs ls hX d_Op_ofTwo_148
  have h := ite_f c28_9 h
  by_cases c28_10 : x0 = 120
  · have h := ite_t c28_10 h
    refine lv_tableIn (tgt := 149) hx hb d_Op_ofTwo_28 (by rw [c28_10]; decide) (by rw [c28_10]; decide) (by rw [c28_10]; rfl) (by decide) ?_
    refine lv_iload_n hx hb d_Op_ofTwo_149 rfl (lv_at hl 1 rfl) ?_
    refine lv_iload_n hx hb d_Op_ofTwo_150 rfl (lv_at hl 2 rfl) ?_
    obtain ⟨v14, ev14, h⟩ := lt1_e h
    refine lv_iushr hx hb d_Op_ofTwo_151 ev14.symm ?_
    refine lv_iload_n hx hb d_Op_ofTwo_152 rfl (lv_at hl 1 rfl) ?_
    refine lv_iload_n hx hb d_Op_ofTwo_153 rfl (lv_at hl 2 rfl) ?_
    obtain ⟨v15, ev15, h⟩ := lt1_e h
    refine x_ineg hx hb d_Op_ofTwo_154 ev15 ?_
    obtain ⟨v16, ev16, h⟩ := lt1_e h
    refine x_ishl hx hb d_Op_ofTwo_155 ev16 ?_
    obtain ⟨v17, ev17, h⟩ := lt1_e h
    refine x_ior hx hb d_Op_ofTwo_156 ev17 ?_
    obtain rfl := so1 h
    exact hQ _ H locs ls hX d_Op_ofTwo_157
  have h := ite_f c28_10 h
  by_cases c28_g109 : x0 = 109
  · refine lv_tableIn (tgt := 158) hx hb d_Op_ofTwo_28 (by rw [c28_g109]; decide) (by rw [c28_g109]; decide) (by rw [c28_g109]; rfl) (by decide) ?_
    exact w_Op_ofTwo_158 C hQ x0 x1 x2 H locs ls hX hl h
  by_cases c28_g110 : x0 = 110
  · refine lv_tableIn (tgt := 158) hx hb d_Op_ofTwo_28 (by rw [c28_g110]; decide) (by rw [c28_g110]; decide) (by rw [c28_g110]; rfl) (by decide) ?_
    exact w_Op_ofTwo_158 C hQ x0 x1 x2 H locs ls hX hl h
  by_cases c28_g111 : x0 = 111
  · refine lv_tableIn (tgt := 158) hx hb d_Op_ofTwo_28 (by rw [c28_g111]; decide) (by rw [c28_g111]; decide) (by rw [c28_g111]; rfl) (by decide) ?_
    exact w_Op_ofTwo_158 C hQ x0 x1 x2 H locs ls hX hl h
  by_cases c28_g112 : x0 = 112
  · refine lv_tableIn (tgt := 158) hx hb d_Op_ofTwo_28 (by rw [c28_g112]; decide) (by rw [c28_g112]; decide) (by rw [c28_g112]; rfl) (by decide) ?_
    exact w_Op_ofTwo_158 C hQ x0 x1 x2 H locs ls hX hl h
  have hz := And.intro trivial trivial
  have hn0 := lv_neT c28_0 (a := 106) (by decide)
  have hn1 := lv_neT c28_1 (a := 107) (by decide)
  have hn2 := lv_neT c28_2 (a := 108) (by decide)
  have hn3 := lv_neT c28_3 (a := 113) (by decide)
  have hn4 := lv_neT c28_4 (a := 114) (by decide)
  have hn5 := lv_neT c28_5 (a := 115) (by decide)
  have hn6 := lv_neT c28_6 (a := 116) (by decide)
  have hn7 := lv_neT c28_7 (a := 117) (by decide)
  have hn8 := lv_neT c28_8 (a := 118) (by decide)
  have hn9 := lv_neT c28_9 (a := 119) (by decide)
  have hn10 := lv_neT c28_10 (a := 120) (by decide)
  have hn11 := lv_neT c28_g109 (a := 109) (by decide)
  have hn12 := lv_neT c28_g110 (a := 110) (by decide)
  have hn13 := lv_neT c28_g111 (a := 111) (by decide)
  have hn14 := lv_neT c28_g112 (a := 112) (by decide)
  refine lv_tableOut (tgt := 158) hx hb d_Op_ofTwo_28 (by omega) (by decide) ?_
  exact w_Op_ofTwo_158 C hQ x0 x1 x2 H locs ls hX hl h
set_option maxHeartbeats 4000000 in
set_option maxRecDepth 100000 in
theorem w_Op_ofTwo_26 {ws : va_W} {z : Int32} (C : Cx g A p m c b_Op_ofTwo 3 ss args R_Op) (hQ : ∀ (pc : Nat) (H : Heap) (locs : List Loc) (ls : Array Slot), XW g A ss ws H locs → decode b_Op_ofTwo pc = .ok (.ireturn, 1) → W p l e (rmX 1 27) ss m args below meth c H locs 0 0 Q (F0 m pc ls [.int z])) : ∀ (x0 : Int32) (x1 : Int32) (x2 : Int32) (y0 : Int32) (H : Heap) (locs : List Loc) (ls : Array Slot), XW g A ss ws H locs → lv_has ls 3 [(0, .int x0), (1, .int x1), (2, .int x2)] → f_Op_ofTwo_26 x0 x1 x2 y0 = some z → W p l e (rmX 1 27) ss m args below meth c H locs 0 0 Q (F0 m 26 ls [.int y0]) := by
  have ⟨⟨hx, hb, hml, hown, hts⟩, hK, hA, hN⟩ := C
  intro x0 x1 x2 y0 H locs ls hX hl h
  rw [f_Op_ofTwo_26] at h
  obtain rfl := so1 h
  exact hQ _ H locs ls hX d_Op_ofTwo_26
set_option maxHeartbeats 4000000 in
set_option maxRecDepth 100000 in
theorem w_Op_ofTwo {ws : va_W} {z : Int32} (C : Cx g A p m c b_Op_ofTwo 3 ss args R_Op) (hQ : ∀ (pc : Nat) (H : Heap) (locs : List Loc) (ls : Array Slot), XW g A ss ws H locs → decode b_Op_ofTwo pc = .ok (.ireturn, 1) → W p l e (rmX 1 27) ss m args below meth c H locs 0 0 Q (F0 m pc ls [.int z])) : ∀ (x0 : Int32) (x1 : Int32) (x2 : Int32) (H : Heap) (locs : List Loc) (ls : Array Slot), XW g A ss ws H locs → lv_has ls 3 [(0, .int x0), (1, .int x1), (2, .int x2)] → f_Op_ofTwo x0 x1 x2 = some z → W p l e (rmX 1 27) ss m args below meth c H locs 0 0 Q (F0 m 0 ls []) := by
  have ⟨⟨hx, hb, hml, hown, hts⟩, hK, hA, hN⟩ := C
  intro x0 x1 x2 H locs ls hX hl h
  rw [f_Op_ofTwo] at h
  refine lv_iload_n hx hb d_Op_ofTwo_0 rfl (lv_at hl 0 rfl) ?_
  refine lv_bipush (v := 70) hx hb d_Op_ofTwo_1 (by decide) ?_
  refine lv_icmp_lt (tgt := 27) hx hb d_Op_ofTwo_3 (by decide) (fun c3 => ?_) (fun c3 => ?_)
  · have h := ite_t c3 h
    exact w_Op_ofTwo_27 C hQ x0 x1 x2 H locs ls hX hl h
  · have h := ite_f c3 h
    refine lv_iload_n hx hb d_Op_ofTwo_6 rfl (lv_at hl 0 rfl) ?_
    refine lv_bipush (v := 79) hx hb d_Op_ofTwo_7 (by decide) ?_
    refine lv_icmp_gt (tgt := 27) hx hb d_Op_ofTwo_9 (by decide) (fun c9 => ?_) (fun c9 => ?_)
    · have h := ite_t c9 h
      exact w_Op_ofTwo_27 C hQ x0 x1 x2 H locs ls hX hl h
    · have h := ite_f c9 h
      refine lv_iload_n hx hb d_Op_ofTwo_12 rfl (lv_at hl 0 rfl) ?_
      refine lv_iload_n hx hb d_Op_ofTwo_13 rfl (lv_at hl 1 rfl) ?_
      refine lv_iload_n hx hb d_Op_ofTwo_14 rfl (lv_at hl 2 rfl) ?_
      obtain ⟨r1, hc15, h⟩ := bd1_e h
      refine x_sI (As := [.int x0, .int x1, .int x2]) (rest := []) C hX (c_Op_isTrue l g x0 x1 x2 r1 hc15 _) (cw_Op_36 C.1.2.2.2.2 C.2.2.2 ⟨by decide, by decide⟩) rfl hl.1 rfl (lv_room (Nat.le_of_ble_eq_true rfl)) d_Op_ofTwo_15 ⟨Nat.le_refl _, Nat.le_refl _⟩ (fun H locs hX => ?_)
      refine lv_if_eq (tgt := 25) hx hb d_Op_ofTwo_18 (by decide) (fun c18 => ?_) (fun c18 => ?_)
      · have h := ite_t c18 h
        refine lv_iconst (v := 0) hx hb d_Op_ofTwo_25 (by decide) ?_
        exact w_Op_ofTwo_26 C hQ x0 x1 x2 0 H locs ls hX hl h
      · have h := ite_f c18 h
        refine lv_iconst (v := 1) hx hb d_Op_ofTwo_21 (by decide) ?_
        refine lv_goto (tgt := 26) hx hb d_Op_ofTwo_22 (by decide) ?_
        exact w_Op_ofTwo_26 C hQ x0 x1 x2 1 H locs ls hX hl h
end WALK
theorem c_Op_ofTwo (l : Launch) (g : GX) (x0 : Int32) (x1 : Int32) (x2 : Int32) (z : Int32) (h : f_Op_ofTwo x0 x1 x2 = some z) (ws : va_W) : MI l g y_Op_ofTwo b_Op_ofTwo 3 (some .int) 1 27 [.int x0, .int x1, .int x2] ws z ws :=
  MI.mk (own := R_Op) (by decide) rfl (Nat.le_of_ble_eq_true rfl) fun p e ss m below meth c A Q C hQ ls hX hl => w_Op_ofTwo C hQ x0 x1 x2 _ _ ls hX hl h
-- Store_compute
def f_Store_compute_79 (x1 : Int32) (x2 : Int32) (x3 : Int32) (x4 : Int32) (x5 : Int32) (s : St) : Option (Int32 × St) :=
    some (x5, s)
def f_Store_compute (x1 : Int32) (x2 : Int32) (s : St) : Option (Int32 × St) :=
    lt1 (x2 - 1) fun v1 =>
    lt1 (rGet 224 (s 36) v1) fun r2 =>
    bd1 (f_Op_takes x1) fun r3 =>
    if r3 = 1 then
      lt1 (x2 - 1) fun v10 =>
      bd1 (f_Op_ofOne x1 r2) fun r11 =>
      lt1 (rSet s 36 224 v10 r11) fun s12 =>
      some (0, s12)
    else
      lt1 (x2 - 2) fun v4 =>
      lt1 (rGet 224 (s 36) v4) fun r5 =>
      bd1 (f_Op_trapOf x1 r5 r2) fun r6 =>
      if r6 = 0 then
        lt1 (x2 - 2) fun v7 =>
        bd1 (f_Op_ofTwo x1 r5 r2) fun r8 =>
        lt1 (rSet s 36 224 v7 r8) fun s9 =>
        f_Store_compute_79 x1 x2 r2 r5 r6 s9
      else
        f_Store_compute_79 x1 x2 r2 r5 r6 s
section WALK
variable {p : Program} {l : Launch} {e : Env} {ss : State} {m : MethodId} {args : Array Value} {below : List Frame} {meth : Method} {c : Code} {Q : State → Prop} {g : GX} {A : Nat → Prop}
set_option maxHeartbeats 4000000 in
set_option maxRecDepth 100000 in
theorem w_Store_compute_79 {z : Int32 × St} (C : Cx g A p m c b_Store_compute 6 ss args R_Store) (hQ : ∀ (pc : Nat) (H : Heap) (locs : List Loc) (ls : Array Slot), XW g A ss (wX g z.2) H locs → decode b_Store_compute pc = .ok (.ireturn, 1) → W p l e (rmX 3 60) ss m args below meth c H locs 0 0 Q (F0 m pc ls [.int z.1])) : ∀ (x1 : Int32) (x2 : Int32) (x3 : Int32) (x4 : Int32) (x5 : Int32) (s : St) (H : Heap) (locs : List Loc) (ls : Array Slot), XW g A ss (wX g s) H locs → lv_has ls 6 [(0, .ref (g.q 5)), (1, .int x1), (2, .int x2), (3, .int x3), (4, .int x4), (5, .int x5)] → f_Store_compute_79 x1 x2 x3 x4 x5 s = some z → W p l e (rmX 3 60) ss m args below meth c H locs 0 0 Q (F0 m 79 ls []) := by
  have ⟨⟨hx, hb, hml, hown, hts⟩, hK, hA, hN⟩ := C
  intro x1 x2 x3 x4 x5 s H locs ls hX hl h
  rw [f_Store_compute_79] at h
  refine lv_iload hx hb d_Store_compute_79 (lv_at hl 5 rfl) ?_
  obtain rfl := so1 h
  exact hQ _ H locs ls hX d_Store_compute_81
set_option maxHeartbeats 4000000 in
set_option maxRecDepth 100000 in
theorem w_Store_compute {z : Int32 × St} (C : Cx g A p m c b_Store_compute 6 ss args R_Store) (hQ : ∀ (pc : Nat) (H : Heap) (locs : List Loc) (ls : Array Slot), XW g A ss (wX g z.2) H locs → decode b_Store_compute pc = .ok (.ireturn, 1) → W p l e (rmX 3 60) ss m args below meth c H locs 0 0 Q (F0 m pc ls [.int z.1])) : ∀ (x1 : Int32) (x2 : Int32) (s : St) (H : Heap) (locs : List Loc) (ls : Array Slot), XW g A ss (wX g s) H locs → lv_has ls 6 [(0, .ref (g.q 5)), (1, .int x1), (2, .int x2)] → f_Store_compute x1 x2 s = some z → W p l e (rmX 3 60) ss m args below meth c H locs 0 0 Q (F0 m 0 ls []) := by
  have ⟨⟨hx, hb, hml, hown, hts⟩, hK, hA, hN⟩ := C
  intro x1 x2 s H locs ls hX hl h
  rw [f_Store_compute] at h
  refine lv_aload_n hx hb d_Store_compute_0 rfl (lv_at hl 0 rfl) ?_
  refine gf_5_cells C hX fl_Store_20 d_Store_compute_1 ?_
  refine lv_iload_n hx hb d_Store_compute_4 rfl (lv_at hl 2 rfl) ?_
  refine lv_iconst (v := 1) hx hb d_Store_compute_5 (by decide) ?_
  obtain ⟨v1, ev1, h⟩ := lt1_e h
  refine x_isub hx hb d_Store_compute_6 ev1 ?_
  obtain ⟨r2, er2, h⟩ := lt1_e h
  refine x_vI (r := r2) (ws' := wX g s) (As := [.int v1]) (rest := []) C hX (by rw [er2]; exact cRowGet_35 l g s v1) (cw_Store_88 C.1.2.2.2.2 C.2.2.2 ⟨by decide, by decide⟩) (x_rc C hX wg_35 rfl) rfl hl.1 rfl (lv_room (Nat.le_of_ble_eq_true rfl)) d_Store_compute_7 ⟨Nat.le_refl _, Nat.le_refl _⟩ (fun H locs hX => ?_)
  refine lv_istore_n (lv' := [(3, .int r2), (0, .ref (g.q 5)), (1, .int x1), (2, .int x2)]) hx hb d_Store_compute_10 rfl hl (by decide) rfl (fun ls hl => ?_)
  refine lv_iload_n hx hb d_Store_compute_11 rfl (lv_at hl 2 rfl) ?_
  obtain ⟨r3, hc12, h⟩ := bd1_e h
  refine x_sI (As := [.int x1]) (rest := []) C hX (c_Op_takes l g x1 r3 hc12 _) (cw_Store_97 C.1.2.2.2.2 C.2.2.2 ⟨by decide, by decide⟩) rfl hl.1 rfl (lv_room (Nat.le_of_ble_eq_true rfl)) d_Store_compute_12 ⟨Nat.le_refl _, Nat.le_refl _⟩ (fun H locs hX => ?_)
  refine lv_iconst (v := 1) hx hb d_Store_compute_15 (by decide) ?_
  refine lv_icmp_ne (tgt := 36) hx hb d_Store_compute_16 (by decide) (fun c16 => ?_) (fun c16 => ?_)
  · have h := ite_f c16 h
    refine lv_aload_n hx hb d_Store_compute_36 rfl (lv_at hl 1 rfl) ?_
    refine gf_5_cells C hX fl_Store_20 d_Store_compute_37 ?_
    refine lv_iload_n hx hb d_Store_compute_40 rfl (lv_at hl 3 rfl) ?_
    refine lv_iconst (v := 2) hx hb d_Store_compute_41 (by decide) ?_
    obtain ⟨v4, ev4, h⟩ := lt1_e h
    refine x_isub hx hb d_Store_compute_42 ev4 ?_
    obtain ⟨r5, er5, h⟩ := lt1_e h
    refine x_vI (r := r5) (ws' := wX g s) (As := [.int v4]) (rest := []) C hX (by rw [er5]; exact cRowGet_35 l g s v4) (cw_Store_88 C.1.2.2.2.2 C.2.2.2 ⟨by decide, by decide⟩) (x_rc C hX wg_35 rfl) rfl hl.1 rfl (lv_room (Nat.le_of_ble_eq_true rfl)) d_Store_compute_43 ⟨Nat.le_refl _, Nat.le_refl _⟩ (fun H locs hX => ?_)
    refine lv_istore (lv' := [(4, .int r5), (3, .int r2), (0, .ref (g.q 5)), (1, .int x1), (2, .int x2)]) hx hb d_Store_compute_46 hl (by decide) rfl (fun ls hl => ?_)
    refine lv_iload_n hx hb d_Store_compute_48 rfl (lv_at hl 3 rfl) ?_
    refine lv_iload hx hb d_Store_compute_49 (lv_at hl 0 rfl) ?_
    refine lv_iload_n hx hb d_Store_compute_51 rfl (lv_at hl 1 rfl) ?_
    obtain ⟨r6, hc52, h⟩ := bd1_e h
    refine x_sI (As := [.int x1, .int r5, .int r2]) (rest := []) C hX (c_Op_trapOf l g x1 r5 r2 r6 hc52 _) (cw_Store_103 C.1.2.2.2.2 C.2.2.2 ⟨by decide, by decide⟩) rfl hl.1 rfl (lv_room (Nat.le_of_ble_eq_true rfl)) d_Store_compute_52 ⟨Nat.le_refl _, Nat.le_refl _⟩ (fun H locs hX => ?_)
    refine lv_istore (lv' := [(5, .int r6), (4, .int r5), (3, .int r2), (0, .ref (g.q 5)), (1, .int x1), (2, .int x2)]) hx hb d_Store_compute_55 hl (by decide) rfl (fun ls hl => ?_)
    refine lv_iload hx hb d_Store_compute_57 (lv_at hl 0 rfl) ?_
    refine lv_if_ne (tgt := 79) hx hb d_Store_compute_59 (by decide) (fun c59 => ?_) (fun c59 => ?_)
    · have h := ite_f c59 h
      exact w_Store_compute_79 C hQ x1 x2 r2 r5 r6 s H locs ls hX (lv_sub hl [3, 4, 5, 2, 1, 0] rfl) h
    · have h := ite_t c59 h
      refine lv_aload_n hx hb d_Store_compute_62 rfl (lv_at hl 3 rfl) ?_
      refine gf_5_cells C hX fl_Store_20 d_Store_compute_63 ?_
      refine lv_iload_n hx hb d_Store_compute_66 rfl (lv_at hl 5 rfl) ?_
      refine lv_iconst (v := 2) hx hb d_Store_compute_67 (by decide) ?_
      obtain ⟨v7, ev7, h⟩ := lt1_e h
      refine x_isub hx hb d_Store_compute_68 ev7 ?_
      refine lv_iload_n hx hb d_Store_compute_69 rfl (lv_at hl 4 rfl) ?_
      refine lv_iload hx hb d_Store_compute_70 (lv_at hl 1 rfl) ?_
      refine lv_iload_n hx hb d_Store_compute_72 rfl (lv_at hl 2 rfl) ?_
      obtain ⟨r8, hc73, h⟩ := bd1_e h
      refine x_sI (As := [.int x1, .int r5, .int r2]) (rest := [.int v7, .ref (g.q 35)]) C hX (c_Op_ofTwo l g x1 r5 r2 r8 hc73 _) (cw_Store_106 C.1.2.2.2.2 C.2.2.2 ⟨by decide, by decide⟩) rfl hl.1 rfl (lv_room (Nat.le_of_ble_eq_true rfl)) d_Store_compute_73 ⟨Nat.le_refl _, Nat.le_refl _⟩ (fun H locs hX => ?_)
      obtain ⟨s9, es9, h⟩ := lt1_e h
      refine x_vV (ws' := wX g s9) (As := [.int v7, .int r8]) (rest := []) C hX (by rw [es9]; exact cRowSet_35 l g s v7 r8) (cw_Store_51 C.1.2.2.2.2 C.2.2.2 ⟨by decide, by decide⟩) (x_rc C hX wg_35 rfl) rfl hl.1 rfl (lv_room (Nat.le_of_ble_eq_true rfl)) d_Store_compute_76 ⟨Nat.le_refl _, Nat.le_refl _⟩ (fun H locs hX => ?_)
      exact w_Store_compute_79 C hQ x1 x2 r2 r5 r6 s9 H locs ls hX (lv_sub hl [3, 4, 5, 2, 1, 0] rfl) h
  · have h := ite_t c16 h
    refine lv_aload_n hx hb d_Store_compute_19 rfl (lv_at hl 1 rfl) ?_
    refine gf_5_cells C hX fl_Store_20 d_Store_compute_20 ?_
    refine lv_iload_n hx hb d_Store_compute_23 rfl (lv_at hl 3 rfl) ?_
    refine lv_iconst (v := 1) hx hb d_Store_compute_24 (by decide) ?_
    obtain ⟨v10, ev10, h⟩ := lt1_e h
    refine x_isub hx hb d_Store_compute_25 ev10 ?_
    refine lv_iload_n hx hb d_Store_compute_26 rfl (lv_at hl 2 rfl) ?_
    refine lv_iload_n hx hb d_Store_compute_27 rfl (lv_at hl 0 rfl) ?_
    obtain ⟨r11, hc28, h⟩ := bd1_e h
    refine x_sI (As := [.int x1, .int r2]) (rest := [.int v10, .ref (g.q 35)]) C hX (c_Op_ofOne l g x1 r2 r11 hc28 _) (cw_Store_100 C.1.2.2.2.2 C.2.2.2 ⟨by decide, by decide⟩) rfl hl.1 rfl (lv_room (Nat.le_of_ble_eq_true rfl)) d_Store_compute_28 ⟨Nat.le_refl _, Nat.le_refl _⟩ (fun H locs hX => ?_)
    obtain ⟨s12, es12, h⟩ := lt1_e h
    refine x_vV (ws' := wX g s12) (As := [.int v10, .int r11]) (rest := []) C hX (by rw [es12]; exact cRowSet_35 l g s v10 r11) (cw_Store_51 C.1.2.2.2.2 C.2.2.2 ⟨by decide, by decide⟩) (x_rc C hX wg_35 rfl) rfl hl.1 rfl (lv_room (Nat.le_of_ble_eq_true rfl)) d_Store_compute_31 ⟨Nat.le_refl _, Nat.le_refl _⟩ (fun H locs hX => ?_)
    refine lv_iconst (v := 0) hx hb d_Store_compute_34 (by decide) ?_
    obtain rfl := so1 h
    exact hQ _ H locs ls hX d_Store_compute_35
end WALK
theorem c_Store_compute (l : Launch) (g : GX) (x1 : Int32) (x2 : Int32) (s : St) (z : Int32 × St) (h : f_Store_compute x1 x2 s = some z) : MI l g y_Store_compute b_Store_compute 6 (some .int) 3 60 [.ref (g.q 5), .int x1, .int x2] (wX g s) z.1 (wX g z.2) :=
  MI.mk (own := R_Store) (by decide) rfl (Nat.le_of_ble_eq_true rfl) fun p e ss m below meth c A Q C hQ ls hX hl => w_Store_compute C hQ x1 x2 s _ _ ls hX hl h
-- Store_write
def f_Store_write_43 (x1 : Int32) (x2 : Int32) (x3 : Int32) (x4 : Int32) (s : St) : Option St :=
    some s
def f_Store_write_3 : Nat → Int32 → Int32 → Int32 → Int32 → St → Option St
  | 0, _, _, _, _, _ => none
  | n + 1, x1, x2, x3, x4, s =>
    if 4 ≤ x4 then
      f_Store_write_43 x1 x2 x3 x4 s
    else
      if x2 ≤ x4 then
        f_Store_write_43 x1 x2 x3 x4 s
      else
        lt1 (x1 + x4) fun v1 =>
        lt1 (8 * x4) fun v2 =>
        lt1 (ush x3 v2) fun v3 =>
        lt1 (v3 &&& 255) fun v4 =>
        lt1 (rSet s 34 256 v1 v4) fun s5 =>
        lt1 (x4 + (1)) fun v6 =>
        f_Store_write_3 n x1 x2 x3 v6 s5
def f_Store_write (x1 : Int32) (x2 : Int32) (x3 : Int32) (s : St) : Option St :=
    f_Store_write_3 FU x1 x2 x3 0 s
section WALK
variable {p : Program} {l : Launch} {e : Env} {ss : State} {m : MethodId} {args : Array Value} {below : List Frame} {meth : Method} {c : Code} {Q : State → Prop} {g : GX} {A : Nat → Prop}
set_option maxHeartbeats 4000000 in
set_option maxRecDepth 100000 in
theorem w_Store_write_43 {z : St} (C : Cx g A p m c b_Store_write 5 ss args R_Store) (hQ : ∀ (pc : Nat) (H : Heap) (locs : List Loc) (ls : Array Slot), XW g A ss (wX g z) H locs → decode b_Store_write pc = .ok (.return_, 1) → W p l e (rmX 1 22) ss m args below meth c H locs 0 0 Q (F0 m pc ls [])) : ∀ (x1 : Int32) (x2 : Int32) (x3 : Int32) (x4 : Int32) (s : St) (H : Heap) (locs : List Loc) (ls : Array Slot), XW g A ss (wX g s) H locs → lv_has ls 5 [(0, .ref (g.q 5)), (1, .int x1), (2, .int x2), (3, .int x3), (4, .int x4)] → f_Store_write_43 x1 x2 x3 x4 s = some z → W p l e (rmX 1 22) ss m args below meth c H locs 0 0 Q (F0 m 43 ls []) := by
  have ⟨⟨hx, hb, hml, hown, hts⟩, hK, hA, hN⟩ := C
  intro x1 x2 x3 x4 s H locs ls hX hl h
  rw [f_Store_write_43] at h
  obtain rfl := so1 h
  exact hQ _ H locs ls hX d_Store_write_43
set_option maxHeartbeats 4000000 in
set_option maxRecDepth 100000 in
theorem w_Store_write_3 {z : St} (C : Cx g A p m c b_Store_write 5 ss args R_Store) (hQ : ∀ (pc : Nat) (H : Heap) (locs : List Loc) (ls : Array Slot), XW g A ss (wX g z) H locs → decode b_Store_write pc = .ok (.return_, 1) → W p l e (rmX 1 22) ss m args below meth c H locs 0 0 Q (F0 m pc ls [])) (n : Nat) : ∀ (x1 : Int32) (x2 : Int32) (x3 : Int32) (x4 : Int32) (s : St) (H : Heap) (locs : List Loc) (ls : Array Slot), XW g A ss (wX g s) H locs → lv_has ls 5 [(0, .ref (g.q 5)), (1, .int x1), (2, .int x2), (3, .int x3), (4, .int x4)] → f_Store_write_3 n x1 x2 x3 x4 s = some z → W p l e (rmX 1 22) ss m args below meth c H locs 0 0 Q (F0 m 3 ls []) := by
  have ⟨⟨hx, hb, hml, hown, hts⟩, hK, hA, hN⟩ := C
  induction n with
  | zero => intro x1 x2 x3 x4 s H locs ls hX hl h; cases h
  | succ n ih =>
    intro x1 x2 x3 x4 s H locs ls hX hl h
    rw [f_Store_write_3] at h
    refine lv_iload hx hb d_Store_write_3 (lv_at hl 4 rfl) ?_
    refine lv_iconst (v := 4) hx hb d_Store_write_5 (by decide) ?_
    refine lv_icmp_ge (tgt := 43) hx hb d_Store_write_6 (by decide) (fun c6 => ?_) (fun c6 => ?_)
    · have h := ite_t c6 h
      exact w_Store_write_43 C hQ x1 x2 x3 x4 s H locs ls hX hl h
    · have h := ite_f c6 h
      refine lv_iload hx hb d_Store_write_9 (lv_at hl 4 rfl) ?_
      refine lv_iload_n hx hb d_Store_write_11 rfl (lv_at hl 2 rfl) ?_
      refine lv_icmp_ge (tgt := 43) hx hb d_Store_write_12 (by decide) (fun c12 => ?_) (fun c12 => ?_)
      · have h := ite_t c12 h
        exact w_Store_write_43 C hQ x1 x2 x3 x4 s H locs ls hX hl h
      · have h := ite_f c12 h
        refine lv_aload_n hx hb d_Store_write_15 rfl (lv_at hl 0 rfl) ?_
        refine gf_5_memory C hX fl_Store_14 d_Store_write_16 ?_
        refine lv_iload_n hx hb d_Store_write_19 rfl (lv_at hl 1 rfl) ?_
        refine lv_iload hx hb d_Store_write_20 (lv_at hl 4 rfl) ?_
        obtain ⟨v1, ev1, h⟩ := lt1_e h
        refine x_iadd hx hb d_Store_write_22 ev1 ?_
        refine lv_iload_n hx hb d_Store_write_23 rfl (lv_at hl 3 rfl) ?_
        refine lv_bipush (v := 8) hx hb d_Store_write_24 (by decide) ?_
        refine lv_iload hx hb d_Store_write_26 (lv_at hl 4 rfl) ?_
        obtain ⟨v2, ev2, h⟩ := lt1_e h
        refine x_imul hx hb d_Store_write_28 ev2 ?_
        obtain ⟨v3, ev3, h⟩ := lt1_e h
        refine lv_iushr hx hb d_Store_write_29 ev3.symm ?_
        refine lv_sipush (v := 255) hx hb d_Store_write_30 (by decide) ?_
        obtain ⟨v4, ev4, h⟩ := lt1_e h
        refine x_iand hx hb d_Store_write_33 ev4 ?_
        obtain ⟨s5, es5, h⟩ := lt1_e h
        refine x_vV (ws' := wX g s5) (As := [.int v1, .int v4]) (rest := []) C hX (by rw [es5]; exact cRowSet_33 l g s v1 v4) (cw_Store_51 C.1.2.2.2.2 C.2.2.2 ⟨by decide, by decide⟩) (x_rc C hX wg_33 rfl) rfl hl.1 rfl (lv_room (Nat.le_of_ble_eq_true rfl)) d_Store_write_34 ⟨Nat.le_refl _, Nat.le_refl _⟩ (fun H locs hX => ?_)
        obtain ⟨v6, ev6, h⟩ := lt1_e h
        refine lv_iinc (v := v6) (lv' := [(4, .int v6), (0, .ref (g.q 5)), (1, .int x1), (2, .int x2), (3, .int x3)]) hx hb d_Store_write_37 hl (k := 4) rfl (by rw [ev6]; rfl) (by decide) rfl (fun ls hl => ?_)
        refine lv_goto (tgt := 3) hx hb d_Store_write_40 (by decide) ?_
        exact ih x1 x2 x3 v6 s5 H locs ls hX (lv_sub hl [1, 2, 3, 4, 0] rfl) h
set_option maxHeartbeats 4000000 in
set_option maxRecDepth 100000 in
theorem w_Store_write {z : St} (C : Cx g A p m c b_Store_write 5 ss args R_Store) (hQ : ∀ (pc : Nat) (H : Heap) (locs : List Loc) (ls : Array Slot), XW g A ss (wX g z) H locs → decode b_Store_write pc = .ok (.return_, 1) → W p l e (rmX 1 22) ss m args below meth c H locs 0 0 Q (F0 m pc ls [])) : ∀ (x1 : Int32) (x2 : Int32) (x3 : Int32) (s : St) (H : Heap) (locs : List Loc) (ls : Array Slot), XW g A ss (wX g s) H locs → lv_has ls 5 [(0, .ref (g.q 5)), (1, .int x1), (2, .int x2), (3, .int x3)] → f_Store_write x1 x2 x3 s = some z → W p l e (rmX 1 22) ss m args below meth c H locs 0 0 Q (F0 m 0 ls []) := by
  have ⟨⟨hx, hb, hml, hown, hts⟩, hK, hA, hN⟩ := C
  intro x1 x2 x3 s H locs ls hX hl h
  rw [f_Store_write] at h
  refine lv_iconst (v := 0) hx hb d_Store_write_0 (by decide) ?_
  refine lv_istore (lv' := [(4, .int 0), (0, .ref (g.q 5)), (1, .int x1), (2, .int x2), (3, .int x3)]) hx hb d_Store_write_1 hl (by decide) rfl (fun ls hl => ?_)
  exact w_Store_write_3 C hQ FU x1 x2 x3 0 s H locs ls hX (lv_sub hl [1, 2, 3, 4, 0] rfl) h
end WALK
theorem c_Store_write (l : Launch) (g : GX) (x1 : Int32) (x2 : Int32) (x3 : Int32) (s : St) (z : St) (h : f_Store_write x1 x2 x3 s = some z) : MV l g y_Store_write b_Store_write 5 none 1 22 [.ref (g.q 5), .int x1, .int x2, .int x3] (wX g s) (wX g z) :=
  MV.mk (own := R_Store) (by decide) rfl (Nat.le_of_ble_eq_true rfl) fun p e ss m below meth c A Q C hQ ls hX hl => w_Store_write C hQ x1 x2 x3 s _ _ ls hX hl h
-- Store_read
def f_Store_read_43 (s : St) (x1 : Int32) (x2 : Int32) (x3 : Int32) (x4 : Int32) : Option Int32 :=
    some (x3)
def f_Store_read_5 (s : St) : Nat → Int32 → Int32 → Int32 → Int32 → Option Int32
  | 0, _, _, _, _ => none
  | n + 1, x1, x2, x3, x4 =>
    if 4 ≤ x4 then
      f_Store_read_43 s x1 x2 x3 x4
    else
      if x2 ≤ x4 then
        f_Store_read_43 s x1 x2 x3 x4
      else
        lt1 (x1 + x4) fun v1 =>
        lt1 (rGet 256 (s 34) v1) fun r2 =>
        lt1 (8 * x4) fun v3 =>
        lt1 (r2 <<< (v3 &&& 31)) fun v4 =>
        lt1 (x3 ||| v4) fun v5 =>
        lt1 (x4 + (1)) fun v6 =>
        f_Store_read_5 s n x1 x2 v5 v6
def f_Store_read (s : St) (x1 : Int32) (x2 : Int32) : Option Int32 :=
    f_Store_read_5 s FU x1 x2 0 0
section WALK
variable {p : Program} {l : Launch} {e : Env} {ss : State} {m : MethodId} {args : Array Value} {below : List Frame} {meth : Method} {c : Code} {Q : State → Prop} {g : GX} {A : Nat → Prop}
set_option maxHeartbeats 4000000 in
set_option maxRecDepth 100000 in
theorem w_Store_read_43 {s : St} {z : Int32} (C : Cx g A p m c b_Store_read 5 ss args R_Store) (hQ : ∀ (pc : Nat) (H : Heap) (locs : List Loc) (ls : Array Slot), XW g A ss (wX g s) H locs → decode b_Store_read pc = .ok (.ireturn, 1) → W p l e (rmX 1 21) ss m args below meth c H locs 0 0 Q (F0 m pc ls [.int z])) : ∀ (x1 : Int32) (x2 : Int32) (x3 : Int32) (x4 : Int32) (H : Heap) (locs : List Loc) (ls : Array Slot), XW g A ss (wX g s) H locs → lv_has ls 5 [(0, .ref (g.q 5)), (1, .int x1), (2, .int x2), (3, .int x3), (4, .int x4)] → f_Store_read_43 s x1 x2 x3 x4 = some z → W p l e (rmX 1 21) ss m args below meth c H locs 0 0 Q (F0 m 43 ls []) := by
  have ⟨⟨hx, hb, hml, hown, hts⟩, hK, hA, hN⟩ := C
  intro x1 x2 x3 x4 H locs ls hX hl h
  rw [f_Store_read_43] at h
  refine lv_iload_n hx hb d_Store_read_43 rfl (lv_at hl 3 rfl) ?_
  obtain rfl := so1 h
  exact hQ _ H locs ls hX d_Store_read_44
set_option maxHeartbeats 4000000 in
set_option maxRecDepth 100000 in
theorem w_Store_read_5 {s : St} {z : Int32} (C : Cx g A p m c b_Store_read 5 ss args R_Store) (hQ : ∀ (pc : Nat) (H : Heap) (locs : List Loc) (ls : Array Slot), XW g A ss (wX g s) H locs → decode b_Store_read pc = .ok (.ireturn, 1) → W p l e (rmX 1 21) ss m args below meth c H locs 0 0 Q (F0 m pc ls [.int z])) (n : Nat) : ∀ (x1 : Int32) (x2 : Int32) (x3 : Int32) (x4 : Int32) (H : Heap) (locs : List Loc) (ls : Array Slot), XW g A ss (wX g s) H locs → lv_has ls 5 [(0, .ref (g.q 5)), (1, .int x1), (2, .int x2), (3, .int x3), (4, .int x4)] → f_Store_read_5 s n x1 x2 x3 x4 = some z → W p l e (rmX 1 21) ss m args below meth c H locs 0 0 Q (F0 m 5 ls []) := by
  have ⟨⟨hx, hb, hml, hown, hts⟩, hK, hA, hN⟩ := C
  induction n with
  | zero => intro x1 x2 x3 x4 H locs ls hX hl h; cases h
  | succ n ih =>
    intro x1 x2 x3 x4 H locs ls hX hl h
    rw [f_Store_read_5] at h
    refine lv_iload hx hb d_Store_read_5 (lv_at hl 4 rfl) ?_
    refine lv_iconst (v := 4) hx hb d_Store_read_7 (by decide) ?_
    refine lv_icmp_ge (tgt := 43) hx hb d_Store_read_8 (by decide) (fun c8 => ?_) (fun c8 => ?_)
    · have h := ite_t c8 h
      exact w_Store_read_43 C hQ x1 x2 x3 x4 H locs ls hX hl h
    · have h := ite_f c8 h
      refine lv_iload hx hb d_Store_read_11 (lv_at hl 4 rfl) ?_
      refine lv_iload_n hx hb d_Store_read_13 rfl (lv_at hl 2 rfl) ?_
      refine lv_icmp_ge (tgt := 43) hx hb d_Store_read_14 (by decide) (fun c14 => ?_) (fun c14 => ?_)
      · have h := ite_t c14 h
        exact w_Store_read_43 C hQ x1 x2 x3 x4 H locs ls hX hl h
      · have h := ite_f c14 h
        refine lv_iload_n hx hb d_Store_read_17 rfl (lv_at hl 3 rfl) ?_
        refine lv_aload_n hx hb d_Store_read_18 rfl (lv_at hl 0 rfl) ?_
        refine gf_5_memory C hX fl_Store_14 d_Store_read_19 ?_
        refine lv_iload_n hx hb d_Store_read_22 rfl (lv_at hl 1 rfl) ?_
        refine lv_iload hx hb d_Store_read_23 (lv_at hl 4 rfl) ?_
        obtain ⟨v1, ev1, h⟩ := lt1_e h
        refine x_iadd hx hb d_Store_read_25 ev1 ?_
        obtain ⟨r2, er2, h⟩ := lt1_e h
        refine x_vI (r := r2) (ws' := wX g s) (As := [.int v1]) (rest := [.int x3]) C hX (by rw [er2]; exact cRowGet_33 l g s v1) (cw_Store_88 C.1.2.2.2.2 C.2.2.2 ⟨by decide, by decide⟩) (x_rc C hX wg_33 rfl) rfl hl.1 rfl (lv_room (Nat.le_of_ble_eq_true rfl)) d_Store_read_26 ⟨Nat.le_refl _, Nat.le_refl _⟩ (fun H locs hX => ?_)
        refine lv_bipush (v := 8) hx hb d_Store_read_29 (by decide) ?_
        refine lv_iload hx hb d_Store_read_31 (lv_at hl 4 rfl) ?_
        obtain ⟨v3, ev3, h⟩ := lt1_e h
        refine x_imul hx hb d_Store_read_33 ev3 ?_
        obtain ⟨v4, ev4, h⟩ := lt1_e h
        refine x_ishl hx hb d_Store_read_34 ev4 ?_
        obtain ⟨v5, ev5, h⟩ := lt1_e h
        refine x_ior hx hb d_Store_read_35 ev5 ?_
        refine lv_istore_n (lv' := [(3, .int v5), (0, .ref (g.q 5)), (1, .int x1), (2, .int x2), (4, .int x4)]) hx hb d_Store_read_36 rfl hl (by decide) rfl (fun ls hl => ?_)
        obtain ⟨v6, ev6, h⟩ := lt1_e h
        refine lv_iinc (v := v6) (lv' := [(4, .int v6), (3, .int v5), (0, .ref (g.q 5)), (1, .int x1), (2, .int x2)]) hx hb d_Store_read_37 hl (k := 4) rfl (by rw [ev6]; rfl) (by decide) rfl (fun ls hl => ?_)
        refine lv_goto (tgt := 5) hx hb d_Store_read_40 (by decide) ?_
        exact ih x1 x2 v5 v6 H locs ls hX (lv_sub hl [2, 3, 4, 1, 0] rfl) h
set_option maxHeartbeats 4000000 in
set_option maxRecDepth 100000 in
theorem w_Store_read {s : St} {z : Int32} (C : Cx g A p m c b_Store_read 5 ss args R_Store) (hQ : ∀ (pc : Nat) (H : Heap) (locs : List Loc) (ls : Array Slot), XW g A ss (wX g s) H locs → decode b_Store_read pc = .ok (.ireturn, 1) → W p l e (rmX 1 21) ss m args below meth c H locs 0 0 Q (F0 m pc ls [.int z])) : ∀ (x1 : Int32) (x2 : Int32) (H : Heap) (locs : List Loc) (ls : Array Slot), XW g A ss (wX g s) H locs → lv_has ls 5 [(0, .ref (g.q 5)), (1, .int x1), (2, .int x2)] → f_Store_read s x1 x2 = some z → W p l e (rmX 1 21) ss m args below meth c H locs 0 0 Q (F0 m 0 ls []) := by
  have ⟨⟨hx, hb, hml, hown, hts⟩, hK, hA, hN⟩ := C
  intro x1 x2 H locs ls hX hl h
  rw [f_Store_read] at h
  refine lv_iconst (v := 0) hx hb d_Store_read_0 (by decide) ?_
  refine lv_istore_n (lv' := [(3, .int 0), (0, .ref (g.q 5)), (1, .int x1), (2, .int x2)]) hx hb d_Store_read_1 rfl hl (by decide) rfl (fun ls hl => ?_)
  refine lv_iconst (v := 0) hx hb d_Store_read_2 (by decide) ?_
  refine lv_istore (lv' := [(4, .int 0), (3, .int 0), (0, .ref (g.q 5)), (1, .int x1), (2, .int x2)]) hx hb d_Store_read_3 hl (by decide) rfl (fun ls hl => ?_)
  exact w_Store_read_5 C hQ FU x1 x2 0 0 H locs ls hX (lv_sub hl [2, 3, 4, 1, 0] rfl) h
end WALK
theorem c_Store_read (l : Launch) (g : GX) (x1 : Int32) (x2 : Int32) (s : St) (z : Int32) (h : f_Store_read s x1 x2 = some z) : MI l g y_Store_read b_Store_read 5 (some .int) 1 21 [.ref (g.q 5), .int x1, .int x2] (wX g s) z (wX g s) :=
  MI.mk (own := R_Store) (by decide) rfl (Nat.le_of_ble_eq_true rfl) fun p e ss m below meth c A Q C hQ ls hX hl => w_Store_read C hQ x1 x2 _ _ ls hX hl h
