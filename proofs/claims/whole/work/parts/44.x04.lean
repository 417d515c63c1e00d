-- Op_width
def f_Op_width_37 (x0 : Int32) (y0 : Int32) : Option Int32 :=
    some (y0)
def f_Op_width_32 (x0 : Int32) : Option Int32 :=
    f_Op_width_37 x0 2
def f_Op_width_12 (x0 : Int32) : Option Int32 :=
    some (4)
def f_Op_width (x0 : Int32) : Option Int32 :=
    if x0 = 40 then
      f_Op_width_12 x0
    else
      if x0 = 54 then
        f_Op_width_12 x0
      else
        if x0 = 46 then
          f_Op_width_32 x0
        else
          if x0 = 47 then
            f_Op_width_32 x0
          else
            if x0 = 59 then
              f_Op_width_32 x0
            else
              f_Op_width_37 x0 1
section WALK
variable {p : Program} {l : Launch} {e : Env} {ss : State} {m : MethodId} {args : Array Value} {below : List Frame} {meth : Method} {c : Code} {Q : State → Prop} {g : GX} {A : Nat → Prop}
set_option maxHeartbeats 4000000 in
set_option maxRecDepth 100000 in
theorem w_Op_width_37 {ws : va_W} {z : Int32} (C : Cx g A p m c b_Op_width 1 ss args R_Op) (hQ : ∀ (pc : Nat) (H : Heap) (locs : List Loc) (ls : Array Slot), XW g A ss ws H locs → decode b_Op_width pc = .ok (.ireturn, 1) → W p l e (rmX 0 0) ss m args below meth c H locs 0 0 Q (F0 m pc ls [.int z])) : ∀ (x0 : Int32) (y0 : Int32) (H : Heap) (locs : List Loc) (ls : Array Slot), XW g A ss ws H locs → lv_has ls 1 [(0, .int x0)] → f_Op_width_37 x0 y0 = some z → W p l e (rmX 0 0) ss m args below meth c H locs 0 0 Q (F0 m 37 ls [.int y0]) := by
  have ⟨⟨hx, hb, hml, hown, hts⟩, hK, hA, hN⟩ := C
  intro x0 y0 H locs ls hX hl h
  rw [f_Op_width_37] at h
  obtain rfl := so1 h
  exact hQ _ H locs ls hX d_Op_width_37
set_option maxHeartbeats 4000000 in
set_option maxRecDepth 100000 in
theorem w_Op_width_32 {ws : va_W} {z : Int32} (C : Cx g A p m c b_Op_width 1 ss args R_Op) (hQ : ∀ (pc : Nat) (H : Heap) (locs : List Loc) (ls : Array Slot), XW g A ss ws H locs → decode b_Op_width pc = .ok (.ireturn, 1) → W p l e (rmX 0 0) ss m args below meth c H locs 0 0 Q (F0 m pc ls [.int z])) : ∀ (x0 : Int32) (H : Heap) (locs : List Loc) (ls : Array Slot), XW g A ss ws H locs → lv_has ls 1 [(0, .int x0)] → f_Op_width_32 x0 = some z → W p l e (rmX 0 0) ss m args below meth c H locs 0 0 Q (F0 m 32 ls []) := by
  have ⟨⟨hx, hb, hml, hown, hts⟩, hK, hA, hN⟩ := C
  intro x0 H locs ls hX hl h
  rw [f_Op_width_32] at h
  refine lv_iconst (v := 2) hx hb d_Op_width_32 (by decide) ?_
  refine lv_goto (tgt := 37) hx hb d_Op_width_33 (by decide) ?_
  exact w_Op_width_37 C hQ x0 2 H locs ls hX hl h
set_option maxHeartbeats 4000000 in
set_option maxRecDepth 100000 in
theorem w_Op_width_12 {ws : va_W} {z : Int32} (C : Cx g A p m c b_Op_width 1 ss args R_Op) (hQ : ∀ (pc : Nat) (H : Heap) (locs : List Loc) (ls : Array Slot), XW g A ss ws H locs → decode b_Op_width pc = .ok (.ireturn, 1) → W p l e (rmX 0 0) ss m args below meth c H locs 0 0 Q (F0 m pc ls [.int z])) : ∀ (x0 : Int32) (H : Heap) (locs : List Loc) (ls : Array Slot), XW g A ss ws H locs → lv_has ls 1 [(0, .int x0)] → f_Op_width_12 x0 = some z → W p l e (rmX 0 0) ss m args below meth c H locs 0 0 Q (F0 m 12 ls []) := by
  have ⟨⟨hx, hb, hml, hown, hts⟩, hK, hA, hN⟩ := C
  intro x0 H locs ls hX hl h
  rw [f_Op_width_12] at h
  refine lv_iconst (v := 4) hx hb d_Op_width_12 (by decide) ?_
  obtain rfl := so1 h
  exact hQ _ H locs ls hX d_Op_width_13
set_option maxHeartbeats 4000000 in
set_option maxRecDepth 100000 in
theorem w_Op_width {ws : va_W} {z : Int32} (C : Cx g A p m c b_Op_width 1 ss args R_Op) (hQ : ∀ (pc : Nat) (H : Heap) (locs : List Loc) (ls : Array Slot), XW g A ss ws H locs → decode b_Op_width pc = .ok (.ireturn, 1) → W p l e (rmX 0 0) ss m args below meth c H locs 0 0 Q (F0 m pc ls [.int z])) : ∀ (x0 : Int32) (H : Heap) (locs : List Loc) (ls : Array Slot), XW g A ss ws H locs → lv_has ls 1 [(0, .int x0)] → f_Op_width x0 = some z → W p l e (rmX 0 0) ss m args below meth c H locs 0 0 Q (F0 m 0 ls []) := by
  have ⟨⟨hx, hb, hml, hown, hts⟩, hK, hA, hN⟩ := C
  intro x0 H locs ls hX hl h
  rw [f_Op_width] at h
  refine lv_iload_n hx hb d_Op_width_0 rfl (lv_at hl 0 rfl) ?_
  refine lv_bipush (v := 40) hx hb d_Op_width_1 (by decide) ?_
  refine lv_icmp_eq (tgt := 12) hx hb d_Op_width_3 (by decide) (fun c3 => ?_) (fun c3 => ?_)
  · have h := ite_t c3 h
    exact w_Op_width_12 C hQ x0 H locs ls hX hl h
  · have h := ite_f c3 h
    refine lv_iload_n hx hb d_Op_width_6 rfl (lv_at hl 0 rfl) ?_
    refine lv_bipush (v := 54) hx hb d_Op_width_7 (by decide) ?_
    refine lv_icmp_ne (tgt := 14) hx hb d_Op_width_9 (by decide) (fun c9 => ?_) (fun c9 => ?_)
    · have h := ite_f c9 h
      refine lv_iload_n hx hb d_Op_width_14 rfl (lv_at hl 0 rfl) ?_
      refine lv_bipush (v := 46) hx hb d_Op_width_15 (by decide) ?_
      refine lv_icmp_eq (tgt := 32) hx hb d_Op_width_17 (by decide) (fun c17 => ?_) (fun c17 => ?_)
      · have h := ite_t c17 h
        exact w_Op_width_32 C hQ x0 H locs ls hX hl h
      · have h := ite_f c17 h
        refine lv_iload_n hx hb d_Op_width_20 rfl (lv_at hl 0 rfl) ?_
        refine lv_bipush (v := 47) hx hb d_Op_width_21 (by decide) ?_
        refine lv_icmp_eq (tgt := 32) hx hb d_Op_width_23 (by decide) (fun c23 => ?_) (fun c23 => ?_)
        · have h := ite_t c23 h
          exact w_Op_width_32 C hQ x0 H locs ls hX hl h
        · have h := ite_f c23 h
          refine lv_iload_n hx hb d_Op_width_26 rfl (lv_at hl 0 rfl) ?_
          refine lv_bipush (v := 59) hx hb d_Op_width_27 (by decide) ?_
          refine lv_icmp_ne (tgt := 36) hx hb d_Op_width_29 (by decide) (fun c29 => ?_) (fun c29 => ?_)
          · have h := ite_f c29 h
            refine lv_iconst (v := 1) hx hb d_Op_width_36 (by decide) ?_
            exact w_Op_width_37 C hQ x0 1 H locs ls hX hl h
          · have h := ite_t c29 h
            exact w_Op_width_32 C hQ x0 H locs ls hX hl h
    · have h := ite_t c9 h
      exact w_Op_width_12 C hQ x0 H locs ls hX hl h
end WALK
theorem c_Op_width (l : Launch) (g : GX) (x0 : Int32) (z : Int32) (h : f_Op_width x0 = some z) (ws : va_W) : MI l g y_Op_width b_Op_width 1 (some .int) 0 0 [.int x0] ws z ws :=
  MI.mk (own := R_Op) (by decide) rfl (Nat.le_of_ble_eq_true rfl) fun p e ss m below meth c A Q C hQ ls hX hl => w_Op_width C hQ x0 _ _ ls hX hl h
-- Val_judgeOperands
def f_Val_judgeOperands_199 (x1 : Int32) (x2 : Int32) (x3 : Int32) (x4 : Int32) (s : St) : Option St :=
    some s
def f_Val_judgeOperands_189 (x1 : Int32) (x2 : Int32) (x3 : Int32) (x4 : Int32) (s : St) : Option St :=
    if x4 = 0 then
      bd1 (f_Val_refuse 3 s) fun s1 =>
      f_Val_judgeOperands_199 x1 x2 x3 x4 s1
    else
      f_Val_judgeOperands_199 x1 x2 x3 x4 s
def f_Val_judgeOperands_180 (x1 : Int32) (x2 : Int32) (x3 : Int32) (x4 : Int32) (s : St) : Option St :=
    f_Val_judgeOperands_189 x1 x2 x3 (s 1 0) s
def f_Val_judgeOperands_163 (x1 : Int32) (x2 : Int32) (x3 : Int32) (x4 : Int32) (y0 : Int32) (s : St) : Option St :=
    f_Val_judgeOperands_189 x1 x2 x3 y0 s
def f_Val_judgeOperands_162 (x1 : Int32) (x2 : Int32) (x3 : Int32) (x4 : Int32) (s : St) : Option St :=
    f_Val_judgeOperands_163 x1 x2 x3 x4 0 s
def f_Val_judgeOperands_112 (x1 : Int32) (x2 : Int32) (x3 : Int32) (x4 : Int32) (y0 : Int32) (s : St) : Option St :=
    f_Val_judgeOperands_189 x1 x2 x3 y0 s
def f_Val_judgeOperands_111 (x1 : Int32) (x2 : Int32) (x3 : Int32) (x4 : Int32) (s : St) : Option St :=
    f_Val_judgeOperands_112 x1 x2 x3 x4 0 s
def f_Val_judgeOperands_49 (x1 : Int32) (x2 : Int32) (x3 : Int32) (x4 : Int32) (s : St) : Option St :=
    if x2 = 35 then
      lt1 (tHas (s 14 0) x3) fun r8 =>
      f_Val_judgeOperands_189 x1 x2 x3 r8 s
    else
      if x2 = 36 then
        lt1 (tHas (s 14 0) x3) fun r6 =>
        if r6 = 0 then
          f_Val_judgeOperands_111 x1 x2 x3 x4 s
        else
          lt1 (tGet 4 2 (s 15) x3 0) fun r7 =>
          if r7 = 1 then
            f_Val_judgeOperands_112 x1 x2 x3 x4 1 s
          else
            f_Val_judgeOperands_111 x1 x2 x3 x4 s
      else
        bd1 (f_Op_isAccess x2) fun r1 =>
        if r1 = 0 then
          if x2 = 63 then
            f_Val_judgeOperands_180 x1 x2 x3 x4 s
          else
            if x2 = 64 then
              f_Val_judgeOperands_180 x1 x2 x3 x4 s
            else
              f_Val_judgeOperands_189 x1 x2 x3 x4 s
        else
          if s 1 0 = 0 then
            f_Val_judgeOperands_162 x1 x2 x3 x4 s
          else
            lt1 (tGet 240 7 (s 21) x1 2) fun r2 =>
            bd1 (f_Op_width x2) fun r3 =>
            gzi (2) <|
            lt1 (r3 / 2) fun v4 =>
            bd1 (f_X_isAbove r2 v4) fun r5 =>
            if r5 = 0 then
              f_Val_judgeOperands_163 x1 x2 x3 x4 1 s
            else
              f_Val_judgeOperands_162 x1 x2 x3 x4 s
def f_Val_judgeOperands_44 (x1 : Int32) (x2 : Int32) (x3 : Int32) (x4 : Int32) (y0 : Int32) (s : St) : Option St :=
    f_Val_judgeOperands_189 x1 x2 x3 y0 s
def f_Val_judgeOperands (x1 : Int32) (x2 : Int32) (x3 : Int32) (s : St) : Option St :=
    if x2 < 32 then
      f_Val_judgeOperands_49 x1 x2 x3 1 s
    else
      if 34 < x2 then
        f_Val_judgeOperands_49 x1 x2 x3 1 s
      else
        lt1 (tGet 8 4 (s 13) (s 3 2) 1) fun r1 =>
        lt1 (r1 - 1) fun v2 =>
        bd1 (f_X_isAbove x3 v2) fun r3 =>
        if r3 = 0 then
          f_Val_judgeOperands_44 x1 x2 x3 1 1 s
        else
          f_Val_judgeOperands_44 x1 x2 x3 1 0 s
section WALK
variable {p : Program} {l : Launch} {e : Env} {ss : State} {m : MethodId} {args : Array Value} {below : List Frame} {meth : Method} {c : Code} {Q : State → Prop} {g : GX} {A : Nat → Prop}
set_option maxHeartbeats 4000000 in
set_option maxRecDepth 100000 in
theorem w_Val_judgeOperands_199 {z : St} (C : Cx g A p m c b_Val_judgeOperands 5 ss args R_Val) (hQ : ∀ (pc : Nat) (H : Heap) (locs : List Loc) (ls : Array Slot), XW g A ss (wX g z) H locs → decode b_Val_judgeOperands pc = .ok (.return_, 1) → W p l e (rmX 2 40) ss m args below meth c H locs 0 0 Q (F0 m pc ls [])) : ∀ (x1 : Int32) (x2 : Int32) (x3 : Int32) (x4 : Int32) (s : St) (H : Heap) (locs : List Loc) (ls : Array Slot), XW g A ss (wX g s) H locs → lv_has ls 5 [(0, .ref (g.q 3)), (1, .int x1), (2, .int x2), (3, .int x3), (4, .int x4)] → f_Val_judgeOperands_199 x1 x2 x3 x4 s = some z → W p l e (rmX 2 40) ss m args below meth c H locs 0 0 Q (F0 m 199 ls []) := by
  have ⟨⟨hx, hb, hml, hown, hts⟩, hK, hA, hN⟩ := C
  intro x1 x2 x3 x4 s H locs ls hX hl h
  rw [f_Val_judgeOperands_199] at h
  obtain rfl := so1 h
  exact hQ _ H locs ls hX d_Val_judgeOperands_199
set_option maxHeartbeats 4000000 in
set_option maxRecDepth 100000 in
theorem w_Val_judgeOperands_189 {z : St} (C : Cx g A p m c b_Val_judgeOperands 5 ss args R_Val) (hQ : ∀ (pc : Nat) (H : Heap) (locs : List Loc) (ls : Array Slot), XW g A ss (wX g z) H locs → decode b_Val_judgeOperands pc = .ok (.return_, 1) → W p l e (rmX 2 40) ss m args below meth c H locs 0 0 Q (F0 m pc ls [])) : ∀ (x1 : Int32) (x2 : Int32) (x3 : Int32) (x4 : Int32) (s : St) (H : Heap) (locs : List Loc) (ls : Array Slot), XW g A ss (wX g s) H locs → lv_has ls 5 [(0, .ref (g.q 3)), (1, .int x1), (2, .int x2), (3, .int x3), (4, .int x4)] → f_Val_judgeOperands_189 x1 x2 x3 x4 s = some z → W p l e (rmX 2 40) ss m args below meth c H locs 0 0 Q (F0 m 189 ls []) := by
  have ⟨⟨hx, hb, hml, hown, hts⟩, hK, hA, hN⟩ := C
  intro x1 x2 x3 x4 s H locs ls hX hl h
  rw [f_Val_judgeOperands_189] at h
  refine lv_iload hx hb d_Val_judgeOperands_189 (lv_at hl 4 rfl) ?_
  refine lv_if_ne (tgt := 199) hx hb d_Val_judgeOperands_191 (by decide) (fun c191 => ?_) (fun c191 => ?_)
  · have h := ite_f c191 h
    exact w_Val_judgeOperands_199 C hQ x1 x2 x3 x4 s H locs ls hX hl h
  · have h := ite_t c191 h
    refine lv_aload_n hx hb d_Val_judgeOperands_194 rfl (lv_at hl 0 rfl) ?_
    refine lv_iconst (v := 3) hx hb d_Val_judgeOperands_195 (by decide) ?_
    obtain ⟨s1, hc196, h⟩ := bd1_e h
    refine x_vV (As := [.int 3]) (rest := []) C hX (c_Val_refuse l g 3 s s1 hc196) (cw_Val_39 C.1.2.2.2.2 C.2.2.2 ⟨by decide, by decide⟩) (x_rc C hX wg_3 rfl) rfl hl.1 rfl (lv_room (Nat.le_of_ble_eq_true rfl)) d_Val_judgeOperands_196 ⟨Nat.le_refl _, Nat.le_refl _⟩ (fun H locs hX => ?_)
    exact w_Val_judgeOperands_199 C hQ x1 x2 x3 x4 s1 H locs ls hX hl h
set_option maxHeartbeats 4000000 in
set_option maxRecDepth 100000 in
theorem w_Val_judgeOperands_180 {z : St} (C : Cx g A p m c b_Val_judgeOperands 5 ss args R_Val) (hQ : ∀ (pc : Nat) (H : Heap) (locs : List Loc) (ls : Array Slot), XW g A ss (wX g z) H locs → decode b_Val_judgeOperands pc = .ok (.return_, 1) → W p l e (rmX 2 40) ss m args below meth c H locs 0 0 Q (F0 m pc ls [])) : ∀ (x1 : Int32) (x2 : Int32) (x3 : Int32) (x4 : Int32) (s : St) (H : Heap) (locs : List Loc) (ls : Array Slot), XW g A ss (wX g s) H locs → lv_has ls 5 [(0, .ref (g.q 3)), (1, .int x1), (2, .int x2), (3, .int x3), (4, .int x4)] → f_Val_judgeOperands_180 x1 x2 x3 x4 s = some z → W p l e (rmX 2 40) ss m args below meth c H locs 0 0 Q (F0 m 180 ls []) := by
  have ⟨⟨hx, hb, hml, hown, hts⟩, hK, hA, hN⟩ := C
  intro x1 x2 x3 x4 s H locs ls hX hl h
  rw [f_Val_judgeOperands_180] at h
  refine lv_aload_n hx hb d_Val_judgeOperands_180 rfl (lv_at hl 0 rfl) ?_
  refine gf_3_contents C hX fl_Val_20 d_Val_judgeOperands_181 ?_
  refine gf_1_hasMemory C hX fl_Val_80 d_Val_judgeOperands_184 ?_
  refine lv_istore (lv' := [(4, .int (s 1 0)), (0, .ref (g.q 3)), (1, .int x1), (2, .int x2), (3, .int x3)]) hx hb d_Val_judgeOperands_187 hl (by decide) rfl (fun ls hl => ?_)
  exact w_Val_judgeOperands_189 C hQ x1 x2 x3 (s 1 0) s H locs ls hX (lv_sub hl [1, 2, 3, 4, 0] rfl) h
set_option maxHeartbeats 4000000 in
set_option maxRecDepth 100000 in
theorem w_Val_judgeOperands_163 {z : St} (C : Cx g A p m c b_Val_judgeOperands 5 ss args R_Val) (hQ : ∀ (pc : Nat) (H : Heap) (locs : List Loc) (ls : Array Slot), XW g A ss (wX g z) H locs → decode b_Val_judgeOperands pc = .ok (.return_, 1) → W p l e (rmX 2 40) ss m args below meth c H locs 0 0 Q (F0 m pc ls [])) : ∀ (x1 : Int32) (x2 : Int32) (x3 : Int32) (x4 : Int32) (y0 : Int32) (s : St) (H : Heap) (locs : List Loc) (ls : Array Slot), XW g A ss (wX g s) H locs → lv_has ls 5 [(0, .ref (g.q 3)), (1, .int x1), (2, .int x2), (3, .int x3), (4, .int x4)] → f_Val_judgeOperands_163 x1 x2 x3 x4 y0 s = some z → W p l e (rmX 2 40) ss m args below meth c H locs 0 0 Q (F0 m 163 ls [.int y0]) := by
  have ⟨⟨hx, hb, hml, hown, hts⟩, hK, hA, hN⟩ := C
  intro x1 x2 x3 x4 y0 s H locs ls hX hl h
  rw [f_Val_judgeOperands_163] at h
  refine lv_istore (lv' := [(4, .int y0), (0, .ref (g.q 3)), (1, .int x1), (2, .int x2), (3, .int x3)]) hx hb d_Val_judgeOperands_163 hl (by decide) rfl (fun ls hl => ?_)
  refine lv_goto (tgt := 189) hx hb d_Val_judgeOperands_165 (by decide) ?_
  exact w_Val_judgeOperands_189 C hQ x1 x2 x3 y0 s H locs ls hX (lv_sub hl [1, 2, 3, 4, 0] rfl) h
set_option maxHeartbeats 4000000 in
set_option maxRecDepth 100000 in
theorem w_Val_judgeOperands_162 {z : St} (C : Cx g A p m c b_Val_judgeOperands 5 ss args R_Val) (hQ : ∀ (pc : Nat) (H : Heap) (locs : List Loc) (ls : Array Slot), XW g A ss (wX g z) H locs → decode b_Val_judgeOperands pc = .ok (.return_, 1) → W p l e (rmX 2 40) ss m args below meth c H locs 0 0 Q (F0 m pc ls [])) : ∀ (x1 : Int32) (x2 : Int32) (x3 : Int32) (x4 : Int32) (s : St) (H : Heap) (locs : List Loc) (ls : Array Slot), XW g A ss (wX g s) H locs → lv_has ls 5 [(0, .ref (g.q 3)), (1, .int x1), (2, .int x2), (3, .int x3), (4, .int x4)] → f_Val_judgeOperands_162 x1 x2 x3 x4 s = some z → W p l e (rmX 2 40) ss m args below meth c H locs 0 0 Q (F0 m 162 ls []) := by
  have ⟨⟨hx, hb, hml, hown, hts⟩, hK, hA, hN⟩ := C
  intro x1 x2 x3 x4 s H locs ls hX hl h
  rw [f_Val_judgeOperands_162] at h
  refine lv_iconst (v := 0) hx hb d_Val_judgeOperands_162 (by decide) ?_
  exact w_Val_judgeOperands_163 C hQ x1 x2 x3 x4 0 s H locs ls hX hl h
set_option maxHeartbeats 4000000 in
set_option maxRecDepth 100000 in
theorem w_Val_judgeOperands_112 {z : St} (C : Cx g A p m c b_Val_judgeOperands 5 ss args R_Val) (hQ : ∀ (pc : Nat) (H : Heap) (locs : List Loc) (ls : Array Slot), XW g A ss (wX g z) H locs → decode b_Val_judgeOperands pc = .ok (.return_, 1) → W p l e (rmX 2 40) ss m args below meth c H locs 0 0 Q (F0 m pc ls [])) : ∀ (x1 : Int32) (x2 : Int32) (x3 : Int32) (x4 : Int32) (y0 : Int32) (s : St) (H : Heap) (locs : List Loc) (ls : Array Slot), XW g A ss (wX g s) H locs → lv_has ls 5 [(0, .ref (g.q 3)), (1, .int x1), (2, .int x2), (3, .int x3), (4, .int x4)] → f_Val_judgeOperands_112 x1 x2 x3 x4 y0 s = some z → W p l e (rmX 2 40) ss m args below meth c H locs 0 0 Q (F0 m 112 ls [.int y0]) := by
  have ⟨⟨hx, hb, hml, hown, hts⟩, hK, hA, hN⟩ := C
  intro x1 x2 x3 x4 y0 s H locs ls hX hl h
  rw [f_Val_judgeOperands_112] at h
  refine lv_istore (lv' := [(4, .int y0), (0, .ref (g.q 3)), (1, .int x1), (2, .int x2), (3, .int x3)]) hx hb d_Val_judgeOperands_112 hl (by decide) rfl (fun ls hl => ?_)
  refine lv_goto (tgt := 189) hx hb d_Val_judgeOperands_114 (by decide) ?_
  exact w_Val_judgeOperands_189 C hQ x1 x2 x3 y0 s H locs ls hX (lv_sub hl [1, 2, 3, 4, 0] rfl) h
set_option maxHeartbeats 4000000 in
set_option maxRecDepth 100000 in
theorem w_Val_judgeOperands_111 {z : St} (C : Cx g A p m c b_Val_judgeOperands 5 ss args R_Val) (hQ : ∀ (pc : Nat) (H : Heap) (locs : List Loc) (ls : Array Slot), XW g A ss (wX g z) H locs → decode b_Val_judgeOperands pc = .ok (.return_, 1) → W p l e (rmX 2 40) ss m args below meth c H locs 0 0 Q (F0 m pc ls [])) : ∀ (x1 : Int32) (x2 : Int32) (x3 : Int32) (x4 : Int32) (s : St) (H : Heap) (locs : List Loc) (ls : Array Slot), XW g A ss (wX g s) H locs → lv_has ls 5 [(0, .ref (g.q 3)), (1, .int x1), (2, .int x2), (3, .int x3), (4, .int x4)] → f_Val_judgeOperands_111 x1 x2 x3 x4 s = some z → W p l e (rmX 2 40) ss m args below meth c H locs 0 0 Q (F0 m 111 ls []) := by
  have ⟨⟨hx, hb, hml, hown, hts⟩, hK, hA, hN⟩ := C
  intro x1 x2 x3 x4 s H locs ls hX hl h
  rw [f_Val_judgeOperands_111] at h
  refine lv_iconst (v := 0) hx hb d_Val_judgeOperands_111 (by decide) ?_
  exact w_Val_judgeOperands_112 C hQ x1 x2 x3 x4 0 s H locs ls hX hl h
set_option maxHeartbeats 4000000 in
set_option maxRecDepth 100000 in
theorem w_Val_judgeOperands_49 {z : St} (C : Cx g A p m c b_Val_judgeOperands 5 ss args R_Val) (hQ : ∀ (pc : Nat) (H : Heap) (locs : List Loc) (ls : Array Slot), XW g A ss (wX g z) H locs → decode b_Val_judgeOperands pc = .ok (.return_, 1) → W p l e (rmX 2 40) ss m args below meth c H locs 0 0 Q (F0 m pc ls [])) : ∀ (x1 : Int32) (x2 : Int32) (x3 : Int32) (x4 : Int32) (s : St) (H : Heap) (locs : List Loc) (ls : Array Slot), XW g A ss (wX g s) H locs → lv_has ls 5 [(0, .ref (g.q 3)), (1, .int x1), (2, .int x2), (3, .int x3), (4, .int x4)] → f_Val_judgeOperands_49 x1 x2 x3 x4 s = some z → W p l e (rmX 2 40) ss m args below meth c H locs 0 0 Q (F0 m 49 ls []) := by
  have ⟨⟨hx, hb, hml, hown, hts⟩, hK, hA, hN⟩ := C
  intro x1 x2 x3 x4 s H locs ls hX hl h
  rw [f_Val_judgeOperands_49] at h
  refine lv_iload_n hx hb d_Val_judgeOperands_49 rfl (lv_at hl 2 rfl) ?_
  refine lv_bipush (v := 35) hx hb d_Val_judgeOperands_50 (by decide) ?_
  refine lv_icmp_ne (tgt := 71) hx hb d_Val_judgeOperands_52 (by decide) (fun c52 => ?_) (fun c52 => ?_)
  · have h := ite_f c52 h
    refine lv_iload_n hx hb d_Val_judgeOperands_71 rfl (lv_at hl 2 rfl) ?_
    refine lv_bipush (v := 36) hx hb d_Val_judgeOperands_72 (by decide) ?_
    refine lv_icmp_ne (tgt := 117) hx hb d_Val_judgeOperands_74 (by decide) (fun c74 => ?_) (fun c74 => ?_)
    · have h := ite_f c74 h
      refine lv_iload_n hx hb d_Val_judgeOperands_117 rfl (lv_at hl 2 rfl) ?_
      obtain ⟨r1, hc118, h⟩ := bd1_e h
      refine x_sI (As := [.int x2]) (rest := []) C hX (c_Op_isAccess l g x2 r1 hc118 _) (cw_Val_178 C.1.2.2.2.2 C.2.2.2 ⟨by decide, by decide⟩) rfl hl.1 rfl (lv_room (Nat.le_of_ble_eq_true rfl)) d_Val_judgeOperands_118 ⟨Nat.le_refl _, Nat.le_refl _⟩ (fun H locs hX => ?_)
      refine lv_if_eq (tgt := 168) hx hb d_Val_judgeOperands_121 (by decide) (fun c121 => ?_) (fun c121 => ?_)
      · have h := ite_t c121 h
        refine lv_iload_n hx hb d_Val_judgeOperands_168 rfl (lv_at hl 2 rfl) ?_
        refine lv_bipush (v := 63) hx hb d_Val_judgeOperands_169 (by decide) ?_
        refine lv_icmp_eq (tgt := 180) hx hb d_Val_judgeOperands_171 (by decide) (fun c171 => ?_) (fun c171 => ?_)
        · have h := ite_t c171 h
          exact w_Val_judgeOperands_180 C hQ x1 x2 x3 x4 s H locs ls hX hl h
        · have h := ite_f c171 h
          refine lv_iload_n hx hb d_Val_judgeOperands_174 rfl (lv_at hl 2 rfl) ?_
          refine lv_bipush (v := 64) hx hb d_Val_judgeOperands_175 (by decide) ?_
          refine lv_icmp_ne (tgt := 189) hx hb d_Val_judgeOperands_177 (by decide) (fun c177 => ?_) (fun c177 => ?_)
          · have h := ite_f c177 h
            exact w_Val_judgeOperands_189 C hQ x1 x2 x3 x4 s H locs ls hX hl h
          · have h := ite_t c177 h
            exact w_Val_judgeOperands_180 C hQ x1 x2 x3 x4 s H locs ls hX hl h
      · have h := ite_f c121 h
        refine lv_aload_n hx hb d_Val_judgeOperands_124 rfl (lv_at hl 0 rfl) ?_
        refine gf_3_contents C hX fl_Val_20 d_Val_judgeOperands_125 ?_
        refine gf_1_hasMemory C hX fl_Val_80 d_Val_judgeOperands_128 ?_
        refine lv_if_eq (tgt := 162) hx hb d_Val_judgeOperands_131 (by decide) (fun c131 => ?_) (fun c131 => ?_)
        · have h := ite_t c131 h
          exact w_Val_judgeOperands_162 C hQ x1 x2 x3 x4 s H locs ls hX hl h
        · have h := ite_f c131 h
          refine lv_aload_n hx hb d_Val_judgeOperands_134 rfl (lv_at hl 0 rfl) ?_
          refine gf_3_contents C hX fl_Val_20 d_Val_judgeOperands_135 ?_
          refine gf_1_code C hX fl_Val_112 d_Val_judgeOperands_138 ?_
          refine lv_iload_n hx hb d_Val_judgeOperands_141 rfl (lv_at hl 1 rfl) ?_
          refine lv_iconst (v := 2) hx hb d_Val_judgeOperands_142 (by decide) ?_
          obtain ⟨r2, er2, h⟩ := lt1_e h
          refine x_vI (r := r2) (ws' := wX g s) (As := [.int x1, .int 2]) (rest := []) C hX (by rw [er2]; exact cTabGet_20 l g s x1 2) (cw_Val_65 C.1.2.2.2.2 C.2.2.2 ⟨by decide, by decide⟩) (x_rc C hX wg_20 rfl) rfl hl.1 rfl (lv_room (Nat.le_of_ble_eq_true rfl)) d_Val_judgeOperands_143 ⟨Nat.le_refl _, Nat.le_refl _⟩ (fun H locs hX => ?_)
          refine lv_iload_n hx hb d_Val_judgeOperands_146 rfl (lv_at hl 2 rfl) ?_
          obtain ⟨r3, hc147, h⟩ := bd1_e h
          refine x_sI (As := [.int x2]) (rest := [.int r2]) C hX (c_Op_width l g x2 r3 hc147 _) (cw_Val_181 C.1.2.2.2.2 C.2.2.2 ⟨by decide, by decide⟩) rfl hl.1 rfl (lv_room (Nat.le_of_ble_eq_true rfl)) d_Val_judgeOperands_147 ⟨Nat.le_refl _, Nat.le_refl _⟩ (fun H locs hX => ?_)
          refine lv_iconst (v := 2) hx hb d_Val_judgeOperands_150 (by decide) ?_
          obtain ⟨hz151, h⟩ := gzi_e h
          obtain ⟨v4, ev4, h⟩ := lt1_e h
          refine x_idiv hx hb d_Val_judgeOperands_151 hz151 ev4 ?_
          obtain ⟨r5, hc152, h⟩ := bd1_e h
          refine x_sNI (As := [.int r2, .int v4]) (rest := []) C hX (c_X_isAbove l g r2 v4 r5 hc152 _) (cw_Val_90 C.1.2.2.2.2 C.2.2.2 ⟨by decide, by decide⟩) rfl hl.1 rfl (lv_room (Nat.le_of_ble_eq_true rfl)) d_Val_judgeOperands_152 ⟨Nat.le_refl _, Nat.le_refl _⟩ (fun H locs hX => ?_)
          refine lv_if_ne (tgt := 162) hx hb d_Val_judgeOperands_155 (by decide) (fun c155 => ?_) (fun c155 => ?_)
          · have h := ite_f c155 h
            exact w_Val_judgeOperands_162 C hQ x1 x2 x3 x4 s H locs ls hX hl h
          · have h := ite_t c155 h
            refine lv_iconst (v := 1) hx hb d_Val_judgeOperands_158 (by decide) ?_
            refine lv_goto (tgt := 163) hx hb d_Val_judgeOperands_159 (by decide) ?_
            exact w_Val_judgeOperands_163 C hQ x1 x2 x3 x4 1 s H locs ls hX hl h
    · have h := ite_t c74 h
      refine lv_aload_n hx hb d_Val_judgeOperands_77 rfl (lv_at hl 0 rfl) ?_
      refine gf_3_contents C hX fl_Val_20 d_Val_judgeOperands_78 ?_
      refine gf_1_globals C hX fl_Val_84 d_Val_judgeOperands_81 ?_
      refine lv_iload_n hx hb d_Val_judgeOperands_84 rfl (lv_at hl 3 rfl) ?_
      obtain ⟨r6, er6, h⟩ := lt1_e h
      refine x_vI (r := r6) (ws' := wX g s) (As := [.int x3]) (rest := []) C hX (by rw [er6]; exact cTabHas_14 l g s x3) (cw_Val_69 C.1.2.2.2.2 C.2.2.2 ⟨by decide, by decide⟩) (x_rc C hX wg_14 rfl) rfl hl.1 rfl (lv_room (Nat.le_of_ble_eq_true rfl)) d_Val_judgeOperands_85 ⟨Nat.le_refl _, Nat.le_refl _⟩ (fun H locs hX => ?_)
      refine lv_if_eq (tgt := 111) hx hb d_Val_judgeOperands_88 (by decide) (fun c88 => ?_) (fun c88 => ?_)
      · have h := ite_t c88 h
        exact w_Val_judgeOperands_111 C hQ x1 x2 x3 x4 s H locs ls hX hl h
      · have h := ite_f c88 h
        refine lv_aload_n hx hb d_Val_judgeOperands_91 rfl (lv_at hl 0 rfl) ?_
        refine gf_3_contents C hX fl_Val_20 d_Val_judgeOperands_92 ?_
        refine gf_1_globals C hX fl_Val_84 d_Val_judgeOperands_95 ?_
        refine lv_iload_n hx hb d_Val_judgeOperands_98 rfl (lv_at hl 3 rfl) ?_
        refine lv_iconst (v := 0) hx hb d_Val_judgeOperands_99 (by decide) ?_
        obtain ⟨r7, er7, h⟩ := lt1_e h
        refine x_vI (r := r7) (ws' := wX g s) (As := [.int x3, .int 0]) (rest := []) C hX (by rw [er7]; exact cTabGet_14 l g s x3 0) (cw_Val_65 C.1.2.2.2.2 C.2.2.2 ⟨by decide, by decide⟩) (x_rc C hX wg_14 rfl) rfl hl.1 rfl (lv_room (Nat.le_of_ble_eq_true rfl)) d_Val_judgeOperands_100 ⟨Nat.le_refl _, Nat.le_refl _⟩ (fun H locs hX => ?_)
        refine lv_iconst (v := 1) hx hb d_Val_judgeOperands_103 (by decide) ?_
        refine lv_icmp_ne (tgt := 111) hx hb d_Val_judgeOperands_104 (by decide) (fun c104 => ?_) (fun c104 => ?_)
        · have h := ite_f c104 h
          exact w_Val_judgeOperands_111 C hQ x1 x2 x3 x4 s H locs ls hX hl h
        · have h := ite_t c104 h
          refine lv_iconst (v := 1) hx hb d_Val_judgeOperands_107 (by decide) ?_
          refine lv_goto (tgt := 112) hx hb d_Val_judgeOperands_108 (by decide) ?_
          exact w_Val_judgeOperands_112 C hQ x1 x2 x3 x4 1 s H locs ls hX hl h
  · have h := ite_t c52 h
    refine lv_aload_n hx hb d_Val_judgeOperands_55 rfl (lv_at hl 0 rfl) ?_
    refine gf_3_contents C hX fl_Val_20 d_Val_judgeOperands_56 ?_
    refine gf_1_globals C hX fl_Val_84 d_Val_judgeOperands_59 ?_
    refine lv_iload_n hx hb d_Val_judgeOperands_62 rfl (lv_at hl 3 rfl) ?_
    obtain ⟨r8, er8, h⟩ := lt1_e h
    refine x_vI (r := r8) (ws' := wX g s) (As := [.int x3]) (rest := []) C hX (by rw [er8]; exact cTabHas_14 l g s x3) (cw_Val_69 C.1.2.2.2.2 C.2.2.2 ⟨by decide, by decide⟩) (x_rc C hX wg_14 rfl) rfl hl.1 rfl (lv_room (Nat.le_of_ble_eq_true rfl)) d_Val_judgeOperands_63 ⟨Nat.le_refl _, Nat.le_refl _⟩ (fun H locs hX => ?_)
    refine lv_istore (lv' := [(4, .int r8), (0, .ref (g.q 3)), (1, .int x1), (2, .int x2), (3, .int x3)]) hx hb d_Val_judgeOperands_66 hl (by decide) rfl (fun ls hl => ?_)
    refine lv_goto (tgt := 189) hx hb d_Val_judgeOperands_68 (by decide) ?_
    exact w_Val_judgeOperands_189 C hQ x1 x2 x3 r8 s H locs ls hX (lv_sub hl [1, 2, 3, 4, 0] rfl) h
set_option maxHeartbeats 4000000 in
set_option maxRecDepth 100000 in
theorem w_Val_judgeOperands_44 {z : St} (C : Cx g A p m c b_Val_judgeOperands 5 ss args R_Val) (hQ : ∀ (pc : Nat) (H : Heap) (locs : List Loc) (ls : Array Slot), XW g A ss (wX g z) H locs → decode b_Val_judgeOperands pc = .ok (.return_, 1) → W p l e (rmX 2 40) ss m args below meth c H locs 0 0 Q (F0 m pc ls [])) : ∀ (x1 : Int32) (x2 : Int32) (x3 : Int32) (x4 : Int32) (y0 : Int32) (s : St) (H : Heap) (locs : List Loc) (ls : Array Slot), XW g A ss (wX g s) H locs → lv_has ls 5 [(0, .ref (g.q 3)), (1, .int x1), (2, .int x2), (3, .int x3), (4, .int x4)] → f_Val_judgeOperands_44 x1 x2 x3 x4 y0 s = some z → W p l e (rmX 2 40) ss m args below meth c H locs 0 0 Q (F0 m 44 ls [.int y0]) := by
  have ⟨⟨hx, hb, hml, hown, hts⟩, hK, hA, hN⟩ := C
  intro x1 x2 x3 x4 y0 s H locs ls hX hl h
  rw [f_Val_judgeOperands_44] at h
  refine lv_istore (lv' := [(4, .int y0), (0, .ref (g.q 3)), (1, .int x1), (2, .int x2), (3, .int x3)]) hx hb d_Val_judgeOperands_44 hl (by decide) rfl (fun ls hl => ?_)
  refine lv_goto (tgt := 189) hx hb d_Val_judgeOperands_46 (by decide) ?_
  exact w_Val_judgeOperands_189 C hQ x1 x2 x3 y0 s H locs ls hX (lv_sub hl [1, 2, 3, 4, 0] rfl) h
set_option maxHeartbeats 4000000 in
set_option maxRecDepth 100000 in
theorem w_Val_judgeOperands {z : St} (C : Cx g A p m c b_Val_judgeOperands 5 ss args R_Val) (hQ : ∀ (pc : Nat) (H : Heap) (locs : List Loc) (ls : Array Slot), XW g A ss (wX g z) H locs → decode b_Val_judgeOperands pc = .ok (.return_, 1) → W p l e (rmX 2 40) ss m args below meth c H locs 0 0 Q (F0 m pc ls [])) : ∀ (x1 : Int32) (x2 : Int32) (x3 : Int32) (s : St) (H : Heap) (locs : List Loc) (ls : Array Slot), XW g A ss (wX g s) H locs → lv_has ls 5 [(0, .ref (g.q 3)), (1, .int x1), (2, .int x2), (3, .int x3)] → f_Val_judgeOperands x1 x2 x3 s = some z → W p l e (rmX 2 40) ss m args below meth c H locs 0 0 Q (F0 m 0 ls []) := by
  have ⟨⟨hx, hb, hml, hown, hts⟩, hK, hA, hN⟩ := C
  intro x1 x2 x3 s H locs ls hX hl h
  rw [f_Val_judgeOperands] at h
  refine lv_iconst (v := 1) hx hb d_Val_judgeOperands_0 (by decide) ?_
  refine lv_istore (lv' := [(4, .int 1), (0, .ref (g.q 3)), (1, .int x1), (2, .int x2), (3, .int x3)]) hx hb d_Val_judgeOperands_1 hl (by decide) rfl (fun ls hl => ?_)
  refine lv_iload_n hx hb d_Val_judgeOperands_3 rfl (lv_at hl 3 rfl) ?_
  refine lv_bipush (v := 32) hx hb d_Val_judgeOperands_4 (by decide) ?_
  refine lv_icmp_lt (tgt := 49) hx hb d_Val_judgeOperands_6 (by decide) (fun c6 => ?_) (fun c6 => ?_)
  · have h := ite_t c6 h
    exact w_Val_judgeOperands_49 C hQ x1 x2 x3 1 s H locs ls hX (lv_sub hl [1, 2, 3, 4, 0] rfl) h
  · have h := ite_f c6 h
    refine lv_iload_n hx hb d_Val_judgeOperands_9 rfl (lv_at hl 3 rfl) ?_
    refine lv_bipush (v := 34) hx hb d_Val_judgeOperands_10 (by decide) ?_
    refine lv_icmp_gt (tgt := 49) hx hb d_Val_judgeOperands_12 (by decide) (fun c12 => ?_) (fun c12 => ?_)
    · have h := ite_t c12 h
      exact w_Val_judgeOperands_49 C hQ x1 x2 x3 1 s H locs ls hX (lv_sub hl [1, 2, 3, 4, 0] rfl) h
    · have h := ite_f c12 h
      refine lv_iload_n hx hb d_Val_judgeOperands_15 rfl (lv_at hl 4 rfl) ?_
      refine lv_aload_n hx hb d_Val_judgeOperands_16 rfl (lv_at hl 1 rfl) ?_
      refine gf_3_contents C hX fl_Val_20 d_Val_judgeOperands_17 ?_
      refine gf_1_functions C hX fl_Val_53 d_Val_judgeOperands_20 ?_
      refine lv_aload_n hx hb d_Val_judgeOperands_23 rfl (lv_at hl 1 rfl) ?_
      refine gf_3_function C hX fl_Val_93 d_Val_judgeOperands_24 ?_
      refine lv_iconst (v := 1) hx hb d_Val_judgeOperands_27 (by decide) ?_
      obtain ⟨r1, er1, h⟩ := lt1_e h
      refine x_vI (r := r1) (ws' := wX g s) (As := [.int (s 3 2), .int 1]) (rest := [.int x3]) C hX (by rw [er1]; exact cTabGet_12 l g s (s 3 2) 1) (cw_Val_65 C.1.2.2.2.2 C.2.2.2 ⟨by decide, by decide⟩) (x_rc C hX wg_12 rfl) rfl hl.1 rfl (lv_room (Nat.le_of_ble_eq_true rfl)) d_Val_judgeOperands_28 ⟨Nat.le_refl _, Nat.le_refl _⟩ (fun H locs hX => ?_)
      refine lv_iconst (v := 1) hx hb d_Val_judgeOperands_31 (by decide) ?_
      obtain ⟨v2, ev2, h⟩ := lt1_e h
      refine x_isub hx hb d_Val_judgeOperands_32 ev2 ?_
      obtain ⟨r3, hc33, h⟩ := bd1_e h
      refine x_sNI (As := [.int x3, .int v2]) (rest := []) C hX (c_X_isAbove l g x3 v2 r3 hc33 _) (cw_Val_90 C.1.2.2.2.2 C.2.2.2 ⟨by decide, by decide⟩) rfl hl.1 rfl (lv_room (Nat.le_of_ble_eq_true rfl)) d_Val_judgeOperands_33 ⟨Nat.le_refl _, Nat.le_refl _⟩ (fun H locs hX => ?_)
      refine lv_if_ne (tgt := 43) hx hb d_Val_judgeOperands_36 (by decide) (fun c36 => ?_) (fun c36 => ?_)
      · have h := ite_f c36 h
        refine lv_iconst (v := 0) hx hb d_Val_judgeOperands_43 (by decide) ?_
        exact w_Val_judgeOperands_44 C hQ x1 x2 x3 1 0 s H locs ls hX (lv_sub hl [1, 2, 3, 4, 0] rfl) h
      · have h := ite_t c36 h
        refine lv_iconst (v := 1) hx hb d_Val_judgeOperands_39 (by decide) ?_
        refine lv_goto (tgt := 44) hx hb d_Val_judgeOperands_40 (by decide) ?_
        exact w_Val_judgeOperands_44 C hQ x1 x2 x3 1 1 s H locs ls hX (lv_sub hl [1, 2, 3, 4, 0] rfl) h
end WALK
theorem c_Val_judgeOperands (l : Launch) (g : GX) (x1 : Int32) (x2 : Int32) (x3 : Int32) (s : St) (z : St) (h : f_Val_judgeOperands x1 x2 x3 s = some z) : MV l g y_Val_judgeOperands b_Val_judgeOperands 5 none 2 40 [.ref (g.q 3), .int x1, .int x2, .int x3] (wX g s) (wX g z) :=
  MV.mk (own := R_Val) (by decide) rfl (Nat.le_of_ble_eq_true rfl) fun p e ss m below meth c A Q C hQ ls hX hl => w_Val_judgeOperands C hQ x1 x2 x3 s _ _ ls hX hl h
-- Op_takes
def f_Op_takes_149 (x0 : Int32) (y0 : Int32) : Option Int32 :=
    some (y0)
def f_Op_takes_148 (x0 : Int32) : Option Int32 :=
    f_Op_takes_149 x0 2
def f_Op_takes_126 (x0 : Int32) : Option Int32 :=
    some (1)
def f_Op_takes_124 (x0 : Int32) : Option Int32 :=
    some (0)
def f_Op_takes (x0 : Int32) : Option Int32 :=
    if x0 = 26 then
      f_Op_takes_126 x0
    else if x0 = 27 then
      some (3)
    else if x0 = 32 then
      f_Op_takes_124 x0
    else if x0 = 33 then
      f_Op_takes_126 x0
    else if x0 = 34 then
      f_Op_takes_126 x0
    else if x0 = 35 then
      f_Op_takes_124 x0
    else if x0 = 36 then
      f_Op_takes_126 x0
    else if x0 = 63 then
      f_Op_takes_124 x0
    else if x0 = 64 then
      f_Op_takes_126 x0
    else if x0 = 65 then
      f_Op_takes_124 x0
    else if x0 = 69 then
      f_Op_takes_126 x0
    else if x0 = 103 then
      f_Op_takes_126 x0
    else if x0 = 104 then
      f_Op_takes_126 x0
    else if x0 = 105 then
      f_Op_takes_126 x0
    else 
      bd1 (f_Op_isAccess x0) fun r1 =>
      if r1 = 0 then
        f_Op_takes_148 x0
      else
        bd1 (f_Op_isStore x0) fun r2 =>
        if r2 = 0 then
          f_Op_takes_149 x0 1
        else
          f_Op_takes_148 x0
section WALK
variable {p : Program} {l : Launch} {e : Env} {ss : State} {m : MethodId} {args : Array Value} {below : List Frame} {meth : Method} {c : Code} {Q : State → Prop} {g : GX} {A : Nat → Prop}
set_option maxHeartbeats 4000000 in
set_option maxRecDepth 100000 in
theorem w_Op_takes_149 {ws : va_W} {z : Int32} (C : Cx g A p m c b_Op_takes 1 ss args R_Op) (hQ : ∀ (pc : Nat) (H : Heap) (locs : List Loc) (ls : Array Slot), XW g A ss ws H locs → decode b_Op_takes pc = .ok (.ireturn, 1) → W p l e (rmX 2 40) ss m args below meth c H locs 0 0 Q (F0 m pc ls [.int z])) : ∀ (x0 : Int32) (y0 : Int32) (H : Heap) (locs : List Loc) (ls : Array Slot), XW g A ss ws H locs → lv_has ls 1 [(0, .int x0)] → f_Op_takes_149 x0 y0 = some z → W p l e (rmX 2 40) ss m args below meth c H locs 0 0 Q (F0 m 149 ls [.int y0]) := by
  have ⟨⟨hx, hb, hml, hown, hts⟩, hK, hA, hN⟩ := C
  intro x0 y0 H locs ls hX hl h
  rw [f_Op_takes_149] at h
  obtain rfl := so1 h
  exact hQ _ H locs ls hX d_Op_takes_149
set_option maxHeartbeats 4000000 in
set_option maxRecDepth 100000 in
theorem w_Op_takes_148 {ws : va_W} {z : Int32} (C : Cx g A p m c b_Op_takes 1 ss args R_Op) (hQ : ∀ (pc : Nat) (H : Heap) (locs : List Loc) (ls : Array Slot), XW g A ss ws H locs → decode b_Op_takes pc = .ok (.ireturn, 1) → W p l e (rmX 2 40) ss m args below meth c H locs 0 0 Q (F0 m pc ls [.int z])) : ∀ (x0 : Int32) (H : Heap) (locs : List Loc) (ls : Array Slot), XW g A ss ws H locs → lv_has ls 1 [(0, .int x0)] → f_Op_takes_148 x0 = some z → W p l e (rmX 2 40) ss m args below meth c H locs 0 0 Q (F0 m 148 ls []) := by
  have ⟨⟨hx, hb, hml, hown, hts⟩, hK, hA, hN⟩ := C
  intro x0 H locs ls hX hl h
  rw [f_Op_takes_148] at h
  refine lv_iconst (v := 2) hx hb d_Op_takes_148 (by decide) ?_
  exact w_Op_takes_149 C hQ x0 2 H locs ls hX hl h
set_option maxHeartbeats 4000000 in
set_option maxRecDepth 100000 in
theorem w_Op_takes_126 {ws : va_W} {z : Int32} (C : Cx g A p m c b_Op_takes 1 ss args R_Op) (hQ : ∀ (pc : Nat) (H : Heap) (locs : List Loc) (ls : Array Slot), XW g A ss ws H locs → decode b_Op_takes pc = .ok (.ireturn, 1) → W p l e (rmX 2 40) ss m args below meth c H locs 0 0 Q (F0 m pc ls [.int z])) : ∀ (x0 : Int32) (H : Heap) (locs : List Loc) (ls : Array Slot), XW g A ss ws H locs → lv_has ls 1 [(0, .int x0)] → f_Op_takes_126 x0 = some z → W p l e (rmX 2 40) ss m args below meth c H locs 0 0 Q (F0 m 126 ls []) := by
  have ⟨⟨hx, hb, hml, hown, hts⟩, hK, hA, hN⟩ := C
  intro x0 H locs ls hX hl h
  rw [f_Op_takes_126] at h
  refine lv_iconst (v := 1) hx hb d_Op_takes_126 (by decide) ?_
  obtain rfl := so1 h
  exact hQ _ H locs ls hX d_Op_takes_127
set_option maxHeartbeats 4000000 in
set_option maxRecDepth 100000 in
theorem w_Op_takes_124 {ws : va_W} {z : Int32} (C : Cx g A p m c b_Op_takes 1 ss args R_Op) (hQ : ∀ (pc : Nat) (H : Heap) (locs : List Loc) (ls : Array Slot), XW g A ss ws H locs → decode b_Op_takes pc = .ok (.ireturn, 1) → W p l e (rmX 2 40) ss m args below meth c H locs 0 0 Q (F0 m pc ls [.int z])) : ∀ (x0 : Int32) (H : Heap) (locs : List Loc) (ls : Array Slot), XW g A ss ws H locs → lv_has ls 1 [(0, .int x0)] → f_Op_takes_124 x0 = some z → W p l e (rmX 2 40) ss m args below meth c H locs 0 0 Q (F0 m 124 ls []) := by
  have ⟨⟨hx, hb, hml, hown, hts⟩, hK, hA, hN⟩ := C
  intro x0 H locs ls hX hl h
  rw [f_Op_takes_124] at h
  refine lv_iconst (v := 0) hx hb d_Op_takes_124 (by decide) ?_
  obtain rfl := so1 h
  exact hQ _ H locs ls hX d_Op_takes_125
set_option maxHeartbeats 4000000 in
set_option maxRecDepth 100000 in
theorem w_Op_takes {ws : va_W} {z : Int32} (C : Cx g A p m c b_Op_takes 1 ss args R_Op) (hQ : ∀ (pc : Nat) (H : Heap) (locs : List Loc) (ls : Array Slot), XW g A ss ws H locs → decode b_Op_takes pc = .ok (.ireturn, 1) → W p l e (rmX 2 40) ss m args below meth c H locs 0 0 Q (F0 m pc ls [.int z])) : ∀ (x0 : Int32) (H : Heap) (locs : List Loc) (ls : Array Slot), XW g A ss ws H locs → lv_has ls 1 [(0, .int x0)] → f_Op_takes x0 = some z → W p l e (rmX 2 40) ss m args below meth c H locs 0 0 Q (F0 m 0 ls []) := by
  have ⟨⟨hx, hb, hml, hown, hts⟩, hK, hA, hN⟩ := C
  intro x0 H locs ls hX hl h
  rw [f_Op_takes] at h
  refine lv_iload_n hx hb d_Op_takes_0 rfl (lv_at hl 0 rfl) ?_
  by_cases c1_0 : x0 = 26
  · have h := ite_t c1_0 h
    refine lv_lookup (tgt := 126) hx hb d_Op_takes_1 (by decide) (by rw [c1_0] <;> rfl) (by decide) ?_
    exact w_Op_takes_126 C hQ x0 H locs ls hX hl h
  have h := ite_f c1_0 h
  by_cases c1_1 : x0 = 27
  · have h := ite_t c1_1 h
    refine lv_lookup (tgt := 128) hx hb d_Op_takes_1 (by decide) (by rw [c1_1] <;> rfl) (by decide) ?_
    refine lv_iconst (v := 3) hx hb d_Op_takes_128 (by decide) ?_
    obtain rfl := so1 h
    exact hQ _ H locs ls hX d_Op_takes_129
  have h := ite_f c1_1 h
  by_cases c1_2 : x0 = 32
  · have h := ite_t c1_2 h
    refine lv_lookup (tgt := 124) hx hb d_Op_takes_1 (by decide) (by rw [c1_2] <;> rfl) (by decide) ?_
    exact w_Op_takes_124 C hQ x0 H locs ls hX hl h
  have h := ite_f c1_2 h
  by_cases c1_3 : x0 = 33
  · have h := ite_t c1_3 h
    refine lv_lookup (tgt := 126) hx hb d_Op_takes_1 (by decide) (by rw [c1_3] <;> rfl) (by decide) ?_
    exact w_Op_takes_126 C hQ x0 H locs ls hX hl h
  have h := ite_f c1_3 h
  by_cases c1_4 : x0 = 34
  · have h := ite_t c1_4 h
    refine lv_lookup (tgt := 126) hx hb d_Op_takes_1 (by decide) (by rw [c1_4] <;> rfl) (by decide) ?_
    exact w_Op_takes_126 C hQ x0 H locs ls hX hl h
  have h := ite_f c1_4 h
  by_cases c1_5 : x0 = 35
  · have h := ite_t c1_5 h
    refine lv_lookup (tgt := 124) hx hb d_Op_takes_1 (by decide) (by rw [c1_5] <;> rfl) (by decide) ?_
    exact w_Op_takes_124 C hQ x0 H locs ls hX hl h
  have h := ite_f c1_5 h
  by_cases c1_6 : x0 = 36
  · have h := ite_t c1_6 h
    refine lv_lookup (tgt := 126) hx hb d_Op_takes_1 (by decide) (by rw [c1_6] <;> rfl) (by decide) ?_
    exact w_Op_takes_126 C hQ x0 H locs ls hX hl h
  have h := ite_f c1_6 h
  by_cases c1_7 : x0 = 63
  · have h := ite_t c1_7 h
    refine lv_lookup (tgt := 124) hx hb d_Op_takes_1 (by decide) (by rw [c1_7] <;> rfl) (by decide) ?_
    exact w_Op_takes_124 C hQ x0 H locs ls hX hl h
  have h := ite_f c1_7 h
  by_cases c1_8 : x0 = 64
  · have h := ite_t c1_8 h
    refine lv_lookup (tgt := 126) hx hb d_Op_takes_1 (by decide) (by rw [c1_8] <;> rfl) (by decide) ?_
    exact w_Op_takes_126 C hQ x0 H locs ls hX hl h
  have h := ite_f c1_8 h
  by_cases c1_9 : x0 = 65
  · have h := ite_t c1_9 h
    refine lv_lookup (tgt := 124) hx hb d_Op_takes_1 (by decide) (by rw [c1_9] <;> rfl) (by decide) ?_
    exact w_Op_takes_124 C hQ x0 H locs ls hX hl h
  have h := ite_f c1_9 h
  by_cases c1_10 : x0 = 69
  · have h := ite_t c1_10 h
    refine lv_lookup (tgt := 126) hx hb d_Op_takes_1 (by decide) (by rw [c1_10] <;> rfl) (by decide) ?_
    exact w_Op_takes_126 C hQ x0 H locs ls hX hl h
  have h := ite_f c1_10 h
  by_cases c1_11 : x0 = 103
  · have h := ite_t c1_11 h
    refine lv_lookup (tgt := 126) hx hb d_Op_takes_1 (by decide) (by rw [c1_11] <;> rfl) (by decide) ?_
    exact w_Op_takes_126 C hQ x0 H locs ls hX hl h
  have h := ite_f c1_11 h
  by_cases c1_12 : x0 = 104
  · have h := ite_t c1_12 h
    refine lv_lookup (tgt := 126) hx hb d_Op_takes_1 (by decide) (by rw [c1_12] <;> rfl) (by decide) ?_
    exact w_Op_takes_126 C hQ x0 H locs ls hX hl h
  have h := ite_f c1_12 h
  by_cases c1_13 : x0 = 105
  · have h := ite_t c1_13 h
    refine lv_lookup (tgt := 126) hx hb d_Op_takes_1 (by decide) (by rw [c1_13] <;> rfl) (by decide) ?_
    exact w_Op_takes_126 C hQ x0 H locs ls hX hl h
  have h := ite_f c1_13 h
  refine lv_lookup (tgt := 130) (off := 129) hx hb d_Op_takes_1 (by decide) (by simp [Jvm.Op.lookupswitch.offset, Ne.symm (lv_neT c1_0 (a := 26) (by decide)), Ne.symm (lv_neT c1_1 (a := 27) (by decide)), Ne.symm (lv_neT c1_2 (a := 32) (by decide)), Ne.symm (lv_neT c1_3 (a := 33) (by decide)), Ne.symm (lv_neT c1_4 (a := 34) (by decide)), Ne.symm (lv_neT c1_5 (a := 35) (by decide)), Ne.symm (lv_neT c1_6 (a := 36) (by decide)), Ne.symm (lv_neT c1_7 (a := 63) (by decide)), Ne.symm (lv_neT c1_8 (a := 64) (by decide)), Ne.symm (lv_neT c1_9 (a := 65) (by decide)), Ne.symm (lv_neT c1_10 (a := 69) (by decide)), Ne.symm (lv_neT c1_11 (a := 103) (by decide)), Ne.symm (lv_neT c1_12 (a := 104) (by decide)), Ne.symm (lv_neT c1_13 (a := 105) (by decide))]) (by decide) ?_
  refine lv_iload_n hx hb d_Op_takes_130 rfl (lv_at hl 0 rfl) ?_
  obtain ⟨r1, hc131, h⟩ := bd1_e h
  refine x_sI (As := [.int x0]) (rest := []) C hX (c_Op_isAccess l g x0 r1 hc131 _) (cw_Op_15 C.1.2.2.2.2 C.2.2.2 ⟨by decide, by decide⟩) rfl hl.1 rfl (lv_room (Nat.le_of_ble_eq_true rfl)) d_Op_takes_131 ⟨Nat.le_refl _, Nat.le_refl _⟩ (fun H locs hX => ?_)
  refine lv_if_eq (tgt := 148) hx hb d_Op_takes_134 (by decide) (fun c134 => ?_) (fun c134 => ?_)
  · have h := ite_t c134 h
    exact w_Op_takes_148 C hQ x0 H locs ls hX hl h
  · have h := ite_f c134 h
    refine lv_iload_n hx hb d_Op_takes_137 rfl (lv_at hl 0 rfl) ?_
    obtain ⟨r2, hc138, h⟩ := bd1_e h
    refine x_sI (As := [.int x0]) (rest := []) C hX (c_Op_isStore l g x0 r2 hc138 _) (cw_Op_21 C.1.2.2.2.2 C.2.2.2 ⟨by decide, by decide⟩) rfl hl.1 rfl (lv_room (Nat.le_of_ble_eq_true rfl)) d_Op_takes_138 ⟨Nat.le_refl _, Nat.le_refl _⟩ (fun H locs hX => ?_)
    refine lv_if_ne (tgt := 148) hx hb d_Op_takes_141 (by decide) (fun c141 => ?_) (fun c141 => ?_)
    · have h := ite_f c141 h
      exact w_Op_takes_148 C hQ x0 H locs ls hX hl h
    · have h := ite_t c141 h
      refine lv_iconst (v := 1) hx hb d_Op_takes_144 (by decide) ?_
      refine lv_goto (tgt := 149) hx hb d_Op_takes_145 (by decide) ?_
      exact w_Op_takes_149 C hQ x0 1 H locs ls hX hl h
end WALK
theorem c_Op_takes (l : Launch) (g : GX) (x0 : Int32) (z : Int32) (h : f_Op_takes x0 = some z) (ws : va_W) : MI l g y_Op_takes b_Op_takes 1 (some .int) 2 40 [.int x0] ws z ws :=
  MI.mk (own := R_Op) (by decide) rfl (Nat.le_of_ble_eq_true rfl) fun p e ss m below meth c A Q C hQ ls hX hl => w_Op_takes C hQ x0 _ _ ls hX hl h
-- Op_gives
def f_Op_gives_30 (x0 : Int32) (y0 : Int32) : Option Int32 :=
    some (y0)
def f_Op_gives_25 (x0 : Int32) : Option Int32 :=
    f_Op_gives_30 x0 0
def f_Op_gives (x0 : Int32) : Option Int32 :=
    if x0 = 26 then
      f_Op_gives_25 x0
    else
      if x0 = 33 then
        f_Op_gives_25 x0
      else
        if x0 = 36 then
          f_Op_gives_25 x0
        else
          bd1 (f_Op_isStore x0) fun r1 =>
          if r1 = 0 then
            f_Op_gives_30 x0 1
          else
            f_Op_gives_25 x0
section WALK
variable {p : Program} {l : Launch} {e : Env} {ss : State} {m : MethodId} {args : Array Value} {below : List Frame} {meth : Method} {c : Code} {Q : State → Prop} {g : GX} {A : Nat → Prop}
set_option maxHeartbeats 4000000 in
set_option maxRecDepth 100000 in
theorem w_Op_gives_30 {ws : va_W} {z : Int32} (C : Cx g A p m c b_Op_gives 1 ss args R_Op) (hQ : ∀ (pc : Nat) (H : Heap) (locs : List Loc) (ls : Array Slot), XW g A ss ws H locs → decode b_Op_gives pc = .ok (.ireturn, 1) → W p l e (rmX 1 20) ss m args below meth c H locs 0 0 Q (F0 m pc ls [.int z])) : ∀ (x0 : Int32) (y0 : Int32) (H : Heap) (locs : List Loc) (ls : Array Slot), XW g A ss ws H locs → lv_has ls 1 [(0, .int x0)] → f_Op_gives_30 x0 y0 = some z → W p l e (rmX 1 20) ss m args below meth c H locs 0 0 Q (F0 m 30 ls [.int y0]) := by
  have ⟨⟨hx, hb, hml, hown, hts⟩, hK, hA, hN⟩ := C
  intro x0 y0 H locs ls hX hl h
  rw [f_Op_gives_30] at h
  obtain rfl := so1 h
  exact hQ _ H locs ls hX d_Op_gives_30
set_option maxHeartbeats 4000000 in
set_option maxRecDepth 100000 in
theorem w_Op_gives_25 {ws : va_W} {z : Int32} (C : Cx g A p m c b_Op_gives 1 ss args R_Op) (hQ : ∀ (pc : Nat) (H : Heap) (locs : List Loc) (ls : Array Slot), XW g A ss ws H locs → decode b_Op_gives pc = .ok (.ireturn, 1) → W p l e (rmX 1 20) ss m args below meth c H locs 0 0 Q (F0 m pc ls [.int z])) : ∀ (x0 : Int32) (H : Heap) (locs : List Loc) (ls : Array Slot), XW g A ss ws H locs → lv_has ls 1 [(0, .int x0)] → f_Op_gives_25 x0 = some z → W p l e (rmX 1 20) ss m args below meth c H locs 0 0 Q (F0 m 25 ls []) := by
  have ⟨⟨hx, hb, hml, hown, hts⟩, hK, hA, hN⟩ := C
  intro x0 H locs ls hX hl h
  rw [f_Op_gives_25] at h
  refine lv_iconst (v := 0) hx hb d_Op_gives_25 (by decide) ?_
  refine lv_goto (tgt := 30) hx hb d_Op_gives_26 (by decide) ?_
  exact w_Op_gives_30 C hQ x0 0 H locs ls hX hl h
set_option maxHeartbeats 4000000 in
set_option maxRecDepth 100000 in
theorem w_Op_gives {ws : va_W} {z : Int32} (C : Cx g A p m c b_Op_gives 1 ss args R_Op) (hQ : ∀ (pc : Nat) (H : Heap) (locs : List Loc) (ls : Array Slot), XW g A ss ws H locs → decode b_Op_gives pc = .ok (.ireturn, 1) → W p l e (rmX 1 20) ss m args below meth c H locs 0 0 Q (F0 m pc ls [.int z])) : ∀ (x0 : Int32) (H : Heap) (locs : List Loc) (ls : Array Slot), XW g A ss ws H locs → lv_has ls 1 [(0, .int x0)] → f_Op_gives x0 = some z → W p l e (rmX 1 20) ss m args below meth c H locs 0 0 Q (F0 m 0 ls []) := by
  have ⟨⟨hx, hb, hml, hown, hts⟩, hK, hA, hN⟩ := C
  intro x0 H locs ls hX hl h
  rw [f_Op_gives] at h
  refine lv_iload_n hx hb d_Op_gives_0 rfl (lv_at hl 0 rfl) ?_
  refine lv_bipush (v := 26) hx hb d_Op_gives_1 (by decide) ?_
  refine lv_icmp_eq (tgt := 25) hx hb d_Op_gives_3 (by decide) (fun c3 => ?_) (fun c3 => ?_)
  · have h := ite_t c3 h
    exact w_Op_gives_25 C hQ x0 H locs ls hX hl h
  · have h := ite_f c3 h
    refine lv_iload_n hx hb d_Op_gives_6 rfl (lv_at hl 0 rfl) ?_
    refine lv_bipush (v := 33) hx hb d_Op_gives_7 (by decide) ?_
    refine lv_icmp_eq (tgt := 25) hx hb d_Op_gives_9 (by decide) (fun c9 => ?_) (fun c9 => ?_)
    · have h := ite_t c9 h
      exact w_Op_gives_25 C hQ x0 H locs ls hX hl h
    · have h := ite_f c9 h
      refine lv_iload_n hx hb d_Op_gives_12 rfl (lv_at hl 0 rfl) ?_
      refine lv_bipush (v := 36) hx hb d_Op_gives_13 (by decide) ?_
      refine lv_icmp_eq (tgt := 25) hx hb d_Op_gives_15 (by decide) (fun c15 => ?_) (fun c15 => ?_)
      · have h := ite_t c15 h
        exact w_Op_gives_25 C hQ x0 H locs ls hX hl h
      · have h := ite_f c15 h
        refine lv_iload_n hx hb d_Op_gives_18 rfl (lv_at hl 0 rfl) ?_
        obtain ⟨r1, hc19, h⟩ := bd1_e h
        refine x_sI (As := [.int x0]) (rest := []) C hX (c_Op_isStore l g x0 r1 hc19 _) (cw_Op_21 C.1.2.2.2.2 C.2.2.2 ⟨by decide, by decide⟩) rfl hl.1 rfl (lv_room (Nat.le_of_ble_eq_true rfl)) d_Op_gives_19 ⟨Nat.le_refl _, Nat.le_refl _⟩ (fun H locs hX => ?_)
        refine lv_if_eq (tgt := 29) hx hb d_Op_gives_22 (by decide) (fun c22 => ?_) (fun c22 => ?_)
        · have h := ite_t c22 h
          refine lv_iconst (v := 1) hx hb d_Op_gives_29 (by decide) ?_
          exact w_Op_gives_30 C hQ x0 1 H locs ls hX hl h
        · have h := ite_f c22 h
          exact w_Op_gives_25 C hQ x0 H locs ls hX hl h
end WALK
theorem c_Op_gives (l : Launch) (g : GX) (x0 : Int32) (z : Int32) (h : f_Op_gives x0 = some z) (ws : va_W) : MI l g y_Op_gives b_Op_gives 1 (some .int) 1 20 [.int x0] ws z ws :=
  MI.mk (own := R_Op) (by decide) rfl (Nat.le_of_ble_eq_true rfl) fun p e ss m below meth c A Q C hQ ls hX hl => w_Op_gives C hQ x0 _ _ ls hX hl h
-- Val_takenBy
def f_Val_takenBy (s : St) (x1 : Int32) : Option Int32 :=
    lt1 (s 3 0 - 1) fun v1 =>
    lt1 (v1 - x1) fun v2 =>
    lt1 (tGet 11 6 (s 28) v2 2) fun r3 =>
    some (r3)
section WALK
variable {p : Program} {l : Launch} {e : Env} {ss : State} {m : MethodId} {args : Array Value} {below : List Frame} {meth : Method} {c : Code} {Q : State → Prop} {g : GX} {A : Nat → Prop}
set_option maxHeartbeats 4000000 in
set_option maxRecDepth 100000 in
theorem w_Val_takenBy {s : St} {z : Int32} (C : Cx g A p m c b_Val_takenBy 2 ss args R_Val) (hQ : ∀ (pc : Nat) (H : Heap) (locs : List Loc) (ls : Array Slot), XW g A ss (wX g s) H locs → decode b_Val_takenBy pc = .ok (.ireturn, 1) → W p l e (rmX 1 23) ss m args below meth c H locs 0 0 Q (F0 m pc ls [.int z])) : ∀ (x1 : Int32) (H : Heap) (locs : List Loc) (ls : Array Slot), XW g A ss (wX g s) H locs → lv_has ls 2 [(0, .ref (g.q 3)), (1, .int x1)] → f_Val_takenBy s x1 = some z → W p l e (rmX 1 23) ss m args below meth c H locs 0 0 Q (F0 m 0 ls []) := by
  have ⟨⟨hx, hb, hml, hown, hts⟩, hK, hA, hN⟩ := C
  intro x1 H locs ls hX hl h
  rw [f_Val_takenBy] at h
  refine lv_aload_n hx hb d_Val_takenBy_0 rfl (lv_at hl 0 rfl) ?_
  refine gf_3_blocks C hX fl_Val_14 d_Val_takenBy_1 ?_
  refine lv_aload_n hx hb d_Val_takenBy_4 rfl (lv_at hl 0 rfl) ?_
  refine gf_3_open C hX fl_Val_99 d_Val_takenBy_5 ?_
  refine lv_iconst (v := 1) hx hb d_Val_takenBy_8 (by decide) ?_
  obtain ⟨v1, ev1, h⟩ := lt1_e h
  refine x_isub hx hb d_Val_takenBy_9 ev1 ?_
  refine lv_iload_n hx hb d_Val_takenBy_10 rfl (lv_at hl 1 rfl) ?_
  obtain ⟨v2, ev2, h⟩ := lt1_e h
  refine x_isub hx hb d_Val_takenBy_11 ev2 ?_
  refine lv_iconst (v := 2) hx hb d_Val_takenBy_12 (by decide) ?_
  obtain ⟨r3, er3, h⟩ := lt1_e h
  refine x_vI (r := r3) (ws' := wX g s) (As := [.int v2, .int 2]) (rest := []) C hX (by rw [er3]; exact cTabGet_27 l g s v2 2) (cw_Val_65 C.1.2.2.2.2 C.2.2.2 ⟨by decide, by decide⟩) (x_rc C hX wg_27 rfl) rfl hl.1 rfl (lv_room (Nat.le_of_ble_eq_true rfl)) d_Val_takenBy_13 ⟨Nat.le_refl _, Nat.le_refl _⟩ (fun H locs hX => ?_)
  obtain rfl := so1 h
  exact hQ _ H locs ls hX d_Val_takenBy_16
end WALK
theorem c_Val_takenBy (l : Launch) (g : GX) (x1 : Int32) (s : St) (z : Int32) (h : f_Val_takenBy s x1 = some z) : MI l g y_Val_takenBy b_Val_takenBy 2 (some .int) 1 23 [.ref (g.q 3), .int x1] (wX g s) z (wX g s) :=
  MI.mk (own := R_Val) (by decide) rfl (Nat.le_of_ble_eq_true rfl) fun p e ss m below meth c A Q C hQ ls hX hl => w_Val_takenBy C hQ x1 _ _ ls hX hl h
-- Val_judgePlaces
def f_Val_judgePlaces_63 (x1 : Int32) (x2 : Int32) (x3 : Int32) (x4 : Int32) (s : St) : Option St :=
    some s
def f_Val_judgePlaces_57 (k3 : Int32 → Int32 → Int32 → Int32 → St → Option St) (x1 : Int32) (x2 : Int32) (x3 : Int32) (x4 : Int32) (x5 : Int32) (s : St) : Option St :=
    lt1 (x4 + (1)) fun v1 =>
    k3 x1 x2 x3 v1 s
def f_Val_judgePlaces_52 (k3 : Int32 → Int32 → Int32 → Int32 → St → Option St) (x1 : Int32) (x2 : Int32) (x3 : Int32) (x4 : Int32) (x5 : Int32) (s : St) : Option St :=
    bd1 (f_Val_refuse 3 s) fun s1 =>
    f_Val_judgePlaces_57 k3 x1 x2 x3 x4 x5 s1
def f_Val_judgePlaces_3 : Nat → Int32 → Int32 → Int32 → Int32 → St → Option St
  | 0, _, _, _, _, _ => none
  | n + 1, x1, x2, x3, x4, s =>
    if 8 ≤ x4 then
      f_Val_judgePlaces_63 x1 x2 x3 x4 s
    else
      if x2 ≤ x4 then
        f_Val_judgePlaces_63 x1 x2 x3 x4 s
      else
        bd1 (f_Cont_labelAt s x1 x4) fun r1 =>
        lt1 (s 3 0 - 1) fun v2 =>
        bd1 (f_X_isAbove r1 v2) fun r3 =>
        if r3 = 0 then
          bd1 (f_Val_takenBy s r1) fun r4 =>
          if r4 = x3 then
            f_Val_judgePlaces_57 (f_Val_judgePlaces_3 n) x1 x2 x3 x4 r1 s
          else
            f_Val_judgePlaces_52 (f_Val_judgePlaces_3 n) x1 x2 x3 x4 r1 s
        else
          f_Val_judgePlaces_52 (f_Val_judgePlaces_3 n) x1 x2 x3 x4 r1 s
def f_Val_judgePlaces (x1 : Int32) (x2 : Int32) (x3 : Int32) (s : St) : Option St :=
    f_Val_judgePlaces_3 FU x1 x2 x3 0 s
section WALK
variable {p : Program} {l : Launch} {e : Env} {ss : State} {m : MethodId} {args : Array Value} {below : List Frame} {meth : Method} {c : Code} {Q : State → Prop} {g : GX} {A : Nat → Prop}
set_option maxHeartbeats 4000000 in
set_option maxRecDepth 100000 in
theorem w_Val_judgePlaces_63 {z : St} (C : Cx g A p m c b_Val_judgePlaces 6 ss args R_Val) (hQ : ∀ (pc : Nat) (H : Heap) (locs : List Loc) (ls : Array Slot), XW g A ss (wX g z) H locs → decode b_Val_judgePlaces pc = .ok (.return_, 1) → W p l e (rmX 2 47) ss m args below meth c H locs 0 0 Q (F0 m pc ls [])) : ∀ (x1 : Int32) (x2 : Int32) (x3 : Int32) (x4 : Int32) (s : St) (H : Heap) (locs : List Loc) (ls : Array Slot), XW g A ss (wX g s) H locs → lv_has ls 6 [(0, .ref (g.q 3)), (1, .int x1), (2, .int x2), (3, .int x3), (4, .int x4)] → f_Val_judgePlaces_63 x1 x2 x3 x4 s = some z → W p l e (rmX 2 47) ss m args below meth c H locs 0 0 Q (F0 m 63 ls []) := by
  have ⟨⟨hx, hb, hml, hown, hts⟩, hK, hA, hN⟩ := C
  intro x1 x2 x3 x4 s H locs ls hX hl h
  rw [f_Val_judgePlaces_63] at h
  obtain rfl := so1 h
  exact hQ _ H locs ls hX d_Val_judgePlaces_63
set_option maxHeartbeats 4000000 in
set_option maxRecDepth 100000 in
theorem w_Val_judgePlaces_57 {z : St} (C : Cx g A p m c b_Val_judgePlaces 6 ss args R_Val) (hQ : ∀ (pc : Nat) (H : Heap) (locs : List Loc) (ls : Array Slot), XW g A ss (wX g z) H locs → decode b_Val_judgePlaces pc = .ok (.return_, 1) → W p l e (rmX 2 47) ss m args below meth c H locs 0 0 Q (F0 m pc ls [])) (k3 : Int32 → Int32 → Int32 → Int32 → St → Option St) (hk3 : ∀ (x1 : Int32) (x2 : Int32) (x3 : Int32) (x4 : Int32) (s : St) (H : Heap) (locs : List Loc) (ls : Array Slot), XW g A ss (wX g s) H locs → lv_has ls 6 [(0, .ref (g.q 3)), (1, .int x1), (2, .int x2), (3, .int x3), (4, .int x4)] → k3 x1 x2 x3 x4 s = some z → W p l e (rmX 2 47) ss m args below meth c H locs 0 0 Q (F0 m 3 ls [])) : ∀ (x1 : Int32) (x2 : Int32) (x3 : Int32) (x4 : Int32) (x5 : Int32) (s : St) (H : Heap) (locs : List Loc) (ls : Array Slot), XW g A ss (wX g s) H locs → lv_has ls 6 [(0, .ref (g.q 3)), (1, .int x1), (2, .int x2), (3, .int x3), (4, .int x4), (5, .int x5)] → f_Val_judgePlaces_57 k3 x1 x2 x3 x4 x5 s = some z → W p l e (rmX 2 47) ss m args below meth c H locs 0 0 Q (F0 m 57 ls []) := by
  have ⟨⟨hx, hb, hml, hown, hts⟩, hK, hA, hN⟩ := C
  intro x1 x2 x3 x4 x5 s H locs ls hX hl h
  rw [f_Val_judgePlaces_57] at h
  obtain ⟨v1, ev1, h⟩ := lt1_e h
  refine lv_iinc (v := v1) (lv' := [(4, .int v1), (0, .ref (g.q 3)), (1, .int x1), (2, .int x2), (3, .int x3), (5, .int x5)]) hx hb d_Val_judgePlaces_57 hl (k := 4) rfl (by rw [ev1]; rfl) (by decide) rfl (fun ls hl => ?_)
  refine lv_goto (tgt := 3) hx hb d_Val_judgePlaces_60 (by decide) ?_
  exact hk3 x1 x2 x3 v1 s H locs ls hX (lv_sub hl [1, 2, 3, 4, 0] rfl) h
set_option maxHeartbeats 4000000 in
set_option maxRecDepth 100000 in
theorem w_Val_judgePlaces_52 {z : St} (C : Cx g A p m c b_Val_judgePlaces 6 ss args R_Val) (hQ : ∀ (pc : Nat) (H : Heap) (locs : List Loc) (ls : Array Slot), XW g A ss (wX g z) H locs → decode b_Val_judgePlaces pc = .ok (.return_, 1) → W p l e (rmX 2 47) ss m args below meth c H locs 0 0 Q (F0 m pc ls [])) (k3 : Int32 → Int32 → Int32 → Int32 → St → Option St) (hk3 : ∀ (x1 : Int32) (x2 : Int32) (x3 : Int32) (x4 : Int32) (s : St) (H : Heap) (locs : List Loc) (ls : Array Slot), XW g A ss (wX g s) H locs → lv_has ls 6 [(0, .ref (g.q 3)), (1, .int x1), (2, .int x2), (3, .int x3), (4, .int x4)] → k3 x1 x2 x3 x4 s = some z → W p l e (rmX 2 47) ss m args below meth c H locs 0 0 Q (F0 m 3 ls [])) : ∀ (x1 : Int32) (x2 : Int32) (x3 : Int32) (x4 : Int32) (x5 : Int32) (s : St) (H : Heap) (locs : List Loc) (ls : Array Slot), XW g A ss (wX g s) H locs → lv_has ls 6 [(0, .ref (g.q 3)), (1, .int x1), (2, .int x2), (3, .int x3), (4, .int x4), (5, .int x5)] → f_Val_judgePlaces_52 k3 x1 x2 x3 x4 x5 s = some z → W p l e (rmX 2 47) ss m args below meth c H locs 0 0 Q (F0 m 52 ls []) := by
  have ⟨⟨hx, hb, hml, hown, hts⟩, hK, hA, hN⟩ := C
  intro x1 x2 x3 x4 x5 s H locs ls hX hl h
  rw [f_Val_judgePlaces_52] at h
  refine lv_aload_n hx hb d_Val_judgePlaces_52 rfl (lv_at hl 0 rfl) ?_
  refine lv_iconst (v := 3) hx hb d_Val_judgePlaces_53 (by decide) ?_
  obtain ⟨s1, hc54, h⟩ := bd1_e h
  refine x_vV (As := [.int 3]) (rest := []) C hX (c_Val_refuse l g 3 s s1 hc54) (cw_Val_39 C.1.2.2.2.2 C.2.2.2 ⟨by decide, by decide⟩) (x_rc C hX wg_3 rfl) rfl hl.1 rfl (lv_room (Nat.le_of_ble_eq_true rfl)) d_Val_judgePlaces_54 ⟨Nat.le_refl _, Nat.le_refl _⟩ (fun H locs hX => ?_)
  exact w_Val_judgePlaces_57 C hQ k3 hk3 x1 x2 x3 x4 x5 s1 H locs ls hX hl h
set_option maxHeartbeats 4000000 in
set_option maxRecDepth 100000 in
theorem w_Val_judgePlaces_3 {z : St} (C : Cx g A p m c b_Val_judgePlaces 6 ss args R_Val) (hQ : ∀ (pc : Nat) (H : Heap) (locs : List Loc) (ls : Array Slot), XW g A ss (wX g z) H locs → decode b_Val_judgePlaces pc = .ok (.return_, 1) → W p l e (rmX 2 47) ss m args below meth c H locs 0 0 Q (F0 m pc ls [])) (n : Nat) : ∀ (x1 : Int32) (x2 : Int32) (x3 : Int32) (x4 : Int32) (s : St) (H : Heap) (locs : List Loc) (ls : Array Slot), XW g A ss (wX g s) H locs → lv_has ls 6 [(0, .ref (g.q 3)), (1, .int x1), (2, .int x2), (3, .int x3), (4, .int x4)] → f_Val_judgePlaces_3 n x1 x2 x3 x4 s = some z → W p l e (rmX 2 47) ss m args below meth c H locs 0 0 Q (F0 m 3 ls []) := by
  have ⟨⟨hx, hb, hml, hown, hts⟩, hK, hA, hN⟩ := C
  induction n with
  | zero => intro x1 x2 x3 x4 s H locs ls hX hl h; cases h
  | succ n ih =>
    intro x1 x2 x3 x4 s H locs ls hX hl h
    rw [f_Val_judgePlaces_3] at h
    refine lv_iload hx hb d_Val_judgePlaces_3 (lv_at hl 4 rfl) ?_
    refine lv_bipush (v := 8) hx hb d_Val_judgePlaces_5 (by decide) ?_
    refine lv_icmp_ge (tgt := 63) hx hb d_Val_judgePlaces_7 (by decide) (fun c7 => ?_) (fun c7 => ?_)
    · have h := ite_t c7 h
      exact w_Val_judgePlaces_63 C hQ x1 x2 x3 x4 s H locs ls hX hl h
    · have h := ite_f c7 h
      refine lv_iload hx hb d_Val_judgePlaces_10 (lv_at hl 4 rfl) ?_
      refine lv_iload_n hx hb d_Val_judgePlaces_12 rfl (lv_at hl 2 rfl) ?_
      refine lv_icmp_ge (tgt := 63) hx hb d_Val_judgePlaces_13 (by decide) (fun c13 => ?_) (fun c13 => ?_)
      · have h := ite_t c13 h
        exact w_Val_judgePlaces_63 C hQ x1 x2 x3 x4 s H locs ls hX hl h
      · have h := ite_f c13 h
        refine lv_aload_n hx hb d_Val_judgePlaces_16 rfl (lv_at hl 0 rfl) ?_
        refine gf_3_contents C hX fl_Val_20 d_Val_judgePlaces_17 ?_
        refine lv_iload_n hx hb d_Val_judgePlaces_20 rfl (lv_at hl 1 rfl) ?_
        refine lv_iload hx hb d_Val_judgePlaces_21 (lv_at hl 4 rfl) ?_
        obtain ⟨r1, hc23, h⟩ := bd1_e h
        refine x_vI (As := [.int x1, .int x4]) (rest := []) C hX (c_Cont_labelAt l g x1 x4 s r1 hc23) (cw_Val_163 C.1.2.2.2.2 C.2.2.2 ⟨by decide, by decide⟩) (x_rc C hX wg_1 rfl) rfl hl.1 rfl (lv_room (Nat.le_of_ble_eq_true rfl)) d_Val_judgePlaces_23 ⟨Nat.le_refl _, Nat.le_refl _⟩ (fun H locs hX => ?_)
        refine lv_istore (lv' := [(5, .int r1), (0, .ref (g.q 3)), (1, .int x1), (2, .int x2), (3, .int x3), (4, .int x4)]) hx hb d_Val_judgePlaces_26 hl (by decide) rfl (fun ls hl => ?_)
        refine lv_iload hx hb d_Val_judgePlaces_28 (lv_at hl 0 rfl) ?_
        refine lv_aload_n hx hb d_Val_judgePlaces_30 rfl (lv_at hl 1 rfl) ?_
        refine gf_3_open C hX fl_Val_99 d_Val_judgePlaces_31 ?_
        refine lv_iconst (v := 1) hx hb d_Val_judgePlaces_34 (by decide) ?_
        obtain ⟨v2, ev2, h⟩ := lt1_e h
        refine x_isub hx hb d_Val_judgePlaces_35 ev2 ?_
        obtain ⟨r3, hc36, h⟩ := bd1_e h
        refine x_sNI (As := [.int r1, .int v2]) (rest := []) C hX (c_X_isAbove l g r1 v2 r3 hc36 _) (cw_Val_90 C.1.2.2.2.2 C.2.2.2 ⟨by decide, by decide⟩) rfl hl.1 rfl (lv_room (Nat.le_of_ble_eq_true rfl)) d_Val_judgePlaces_36 ⟨Nat.le_refl _, Nat.le_refl _⟩ (fun H locs hX => ?_)
        refine lv_if_ne (tgt := 52) hx hb d_Val_judgePlaces_39 (by decide) (fun c39 => ?_) (fun c39 => ?_)
        · have h := ite_f c39 h
          exact w_Val_judgePlaces_52 C hQ (f_Val_judgePlaces_3 n) ih x1 x2 x3 x4 r1 s H locs ls hX (lv_sub hl [1, 2, 3, 4, 5, 0] rfl) h
        · have h := ite_t c39 h
          refine lv_aload_n hx hb d_Val_judgePlaces_42 rfl (lv_at hl 1 rfl) ?_
          refine lv_iload hx hb d_Val_judgePlaces_43 (lv_at hl 0 rfl) ?_
          obtain ⟨r4, hc45, h⟩ := bd1_e h
          refine x_vI (As := [.int r1]) (rest := []) C hX (c_Val_takenBy l g r1 s r4 hc45) (cw_Val_166 C.1.2.2.2.2 C.2.2.2 ⟨by decide, by decide⟩) (x_rc C hX wg_3 rfl) rfl hl.1 rfl (lv_room (Nat.le_of_ble_eq_true rfl)) d_Val_judgePlaces_45 ⟨Nat.le_refl _, Nat.le_refl _⟩ (fun H locs hX => ?_)
          refine lv_iload_n hx hb d_Val_judgePlaces_48 rfl (lv_at hl 4 rfl) ?_
          refine lv_icmp_eq (tgt := 57) hx hb d_Val_judgePlaces_49 (by decide) (fun c49 => ?_) (fun c49 => ?_)
          · have h := ite_t c49 h
            exact w_Val_judgePlaces_57 C hQ (f_Val_judgePlaces_3 n) ih x1 x2 x3 x4 r1 s H locs ls hX (lv_sub hl [1, 2, 3, 4, 5, 0] rfl) h
          · have h := ite_f c49 h
            exact w_Val_judgePlaces_52 C hQ (f_Val_judgePlaces_3 n) ih x1 x2 x3 x4 r1 s H locs ls hX (lv_sub hl [1, 2, 3, 4, 5, 0] rfl) h
set_option maxHeartbeats 4000000 in
set_option maxRecDepth 100000 in
theorem w_Val_judgePlaces {z : St} (C : Cx g A p m c b_Val_judgePlaces 6 ss args R_Val) (hQ : ∀ (pc : Nat) (H : Heap) (locs : List Loc) (ls : Array Slot), XW g A ss (wX g z) H locs → decode b_Val_judgePlaces pc = .ok (.return_, 1) → W p l e (rmX 2 47) ss m args below meth c H locs 0 0 Q (F0 m pc ls [])) : ∀ (x1 : Int32) (x2 : Int32) (x3 : Int32) (s : St) (H : Heap) (locs : List Loc) (ls : Array Slot), XW g A ss (wX g s) H locs → lv_has ls 6 [(0, .ref (g.q 3)), (1, .int x1), (2, .int x2), (3, .int x3)] → f_Val_judgePlaces x1 x2 x3 s = some z → W p l e (rmX 2 47) ss m args below meth c H locs 0 0 Q (F0 m 0 ls []) := by
  have ⟨⟨hx, hb, hml, hown, hts⟩, hK, hA, hN⟩ := C
  intro x1 x2 x3 s H locs ls hX hl h
  rw [f_Val_judgePlaces] at h
  refine lv_iconst (v := 0) hx hb d_Val_judgePlaces_0 (by decide) ?_
  refine lv_istore (lv' := [(4, .int 0), (0, .ref (g.q 3)), (1, .int x1), (2, .int x2), (3, .int x3)]) hx hb d_Val_judgePlaces_1 hl (by decide) rfl (fun ls hl => ?_)
  exact w_Val_judgePlaces_3 C hQ FU x1 x2 x3 0 s H locs ls hX (lv_sub hl [1, 2, 3, 4, 0] rfl) h
end WALK
theorem c_Val_judgePlaces (l : Launch) (g : GX) (x1 : Int32) (x2 : Int32) (x3 : Int32) (s : St) (z : St) (h : f_Val_judgePlaces x1 x2 x3 s = some z) : MV l g y_Val_judgePlaces b_Val_judgePlaces 6 none 2 47 [.ref (g.q 3), .int x1, .int x2, .int x3] (wX g s) (wX g z) :=
  MV.mk (own := R_Val) (by decide) rfl (Nat.le_of_ble_eq_true rfl) fun p e ss m below meth c A Q C hQ ls hX hl => w_Val_judgePlaces C hQ x1 x2 x3 s _ _ ls hX hl h
-- Val_judgeBranch
def f_Val_judgeBranch_102 (x1 : Int32) (x2 : Int32) (x3 : Int32) (x4 : Int32) (x5 : Int32) (s : St) : Option St :=
    some s
def f_Val_judgeBranch_74 (x1 : Int32) (x2 : Int32) (x3 : Int32) (x4 : Int32) (x5 : Int32) (y1 : Int32) (s : St) : Option St :=
    bd1 (f_Val_take y1 s) fun s1 =>
    bd1 (f_Val_take x5 s1) fun s2 =>
    if x2 = 13 then
      bd1 (f_Val_give x5 s2) fun s4 =>
      f_Val_judgeBranch_102 x1 x2 x3 x4 x5 s4
    else
      bd1 (f_Val_leadAway s2) fun s3 =>
      f_Val_judgeBranch_102 x1 x2 x3 x4 x5 s3
def f_Val_judgeBranch_62 (x1 : Int32) (x2 : Int32) (x3 : Int32) (x4 : Int32) (x5 : Int32) (s : St) : Option St :=
    if x2 = 12 then
      f_Val_judgeBranch_74 x1 x2 x3 x4 x5 0 s
    else
      f_Val_judgeBranch_74 x1 x2 x3 x4 x5 1 s
def f_Val_judgeBranch_40 (x1 : Int32) (x2 : Int32) (x3 : Int32) (x4 : Int32) (s : St) : Option St :=
    bd1 (f_Val_takenBy s x4) fun r1 =>
    if x2 = 14 then
      bd1 (f_Val_judgePlaces x1 x3 r1 s) fun s2 =>
      f_Val_judgeBranch_62 x1 x2 x3 x4 r1 s2
    else
      f_Val_judgeBranch_62 x1 x2 x3 x4 r1 s
def f_Val_judgeBranch_19 (x1 : Int32) (x2 : Int32) (x3 : Int32) (y0 : Int32) (s : St) : Option St :=
    lt1 (s 3 0 - 1) fun v1 =>
    bd1 (f_X_isAbove y0 v1) fun r2 =>
    if r2 = 0 then
      f_Val_judgeBranch_40 x1 x2 x3 y0 s
    else
      bd1 (f_Val_refuse 3 s) fun s3 =>
      f_Val_judgeBranch_40 x1 x2 x3 y0 s3
def f_Val_judgeBranch (x1 : Int32) (x2 : Int32) (x3 : Int32) (s : St) : Option St :=
    if x2 = 14 then
      bd1 (f_Cont_labelAt s x1 x3) fun r1 =>
      f_Val_judgeBranch_19 x1 x2 x3 r1 s
    else
      f_Val_judgeBranch_19 x1 x2 x3 x3 s
section WALK
variable {p : Program} {l : Launch} {e : Env} {ss : State} {m : MethodId} {args : Array Value} {below : List Frame} {meth : Method} {c : Code} {Q : State → Prop} {g : GX} {A : Nat → Prop}
set_option maxHeartbeats 4000000 in
set_option maxRecDepth 100000 in
theorem w_Val_judgeBranch_102 {z : St} (C : Cx g A p m c b_Val_judgeBranch 6 ss args R_Val) (hQ : ∀ (pc : Nat) (H : Heap) (locs : List Loc) (ls : Array Slot), XW g A ss (wX g z) H locs → decode b_Val_judgeBranch pc = .ok (.return_, 1) → W p l e (rmX 3 72) ss m args below meth c H locs 0 0 Q (F0 m pc ls [])) : ∀ (x1 : Int32) (x2 : Int32) (x3 : Int32) (x4 : Int32) (x5 : Int32) (s : St) (H : Heap) (locs : List Loc) (ls : Array Slot), XW g A ss (wX g s) H locs → lv_has ls 6 [(0, .ref (g.q 3)), (1, .int x1), (2, .int x2), (3, .int x3), (4, .int x4), (5, .int x5)] → f_Val_judgeBranch_102 x1 x2 x3 x4 x5 s = some z → W p l e (rmX 3 72) ss m args below meth c H locs 0 0 Q (F0 m 102 ls []) := by
  have ⟨⟨hx, hb, hml, hown, hts⟩, hK, hA, hN⟩ := C
  intro x1 x2 x3 x4 x5 s H locs ls hX hl h
  rw [f_Val_judgeBranch_102] at h
  obtain rfl := so1 h
  exact hQ _ H locs ls hX d_Val_judgeBranch_102
set_option maxHeartbeats 4000000 in
set_option maxRecDepth 100000 in
theorem w_Val_judgeBranch_74 {z : St} (C : Cx g A p m c b_Val_judgeBranch 6 ss args R_Val) (hQ : ∀ (pc : Nat) (H : Heap) (locs : List Loc) (ls : Array Slot), XW g A ss (wX g z) H locs → decode b_Val_judgeBranch pc = .ok (.return_, 1) → W p l e (rmX 3 72) ss m args below meth c H locs 0 0 Q (F0 m pc ls [])) : ∀ (x1 : Int32) (x2 : Int32) (x3 : Int32) (x4 : Int32) (x5 : Int32) (y1 : Int32) (s : St) (H : Heap) (locs : List Loc) (ls : Array Slot), XW g A ss (wX g s) H locs → lv_has ls 6 [(0, .ref (g.q 3)), (1, .int x1), (2, .int x2), (3, .int x3), (4, .int x4), (5, .int x5)] → f_Val_judgeBranch_74 x1 x2 x3 x4 x5 y1 s = some z → W p l e (rmX 3 72) ss m args below meth c H locs 0 0 Q (F0 m 74 ls [.int y1, .ref (g.q 3)]) := by
  have ⟨⟨hx, hb, hml, hown, hts⟩, hK, hA, hN⟩ := C
  intro x1 x2 x3 x4 x5 y1 s H locs ls hX hl h
  rw [f_Val_judgeBranch_74] at h
  obtain ⟨s1, hc74, h⟩ := bd1_e h
  refine x_vV (As := [.int y1]) (rest := []) C hX (c_Val_take l g y1 s s1 hc74) (cw_Val_130 C.1.2.2.2.2 C.2.2.2 ⟨by decide, by decide⟩) (x_rc C hX wg_3 rfl) rfl hl.1 rfl (lv_room (Nat.le_of_ble_eq_true rfl)) d_Val_judgeBranch_74 ⟨Nat.le_refl _, Nat.le_refl _⟩ (fun H locs hX => ?_)
  refine lv_aload_n hx hb d_Val_judgeBranch_77 rfl (lv_at hl 0 rfl) ?_
  refine lv_iload hx hb d_Val_judgeBranch_78 (lv_at hl 5 rfl) ?_
  obtain ⟨s2, hc80, h⟩ := bd1_e h
  refine x_vV (As := [.int x5]) (rest := []) C hX (c_Val_take l g x5 s1 s2 hc80) (cw_Val_130 C.1.2.2.2.2 C.2.2.2 ⟨by decide, by decide⟩) (x_rc C hX wg_3 rfl) rfl hl.1 rfl (lv_room (Nat.le_of_ble_eq_true rfl)) d_Val_judgeBranch_80 ⟨Nat.le_refl _, Nat.le_refl _⟩ (fun H locs hX => ?_)
  refine lv_iload_n hx hb d_Val_judgeBranch_83 rfl (lv_at hl 2 rfl) ?_
  refine lv_bipush (v := 13) hx hb d_Val_judgeBranch_84 (by decide) ?_
  refine lv_icmp_ne (tgt := 98) hx hb d_Val_judgeBranch_86 (by decide) (fun c86 => ?_) (fun c86 => ?_)
  · have h := ite_f c86 h
    refine lv_aload_n hx hb d_Val_judgeBranch_98 rfl (lv_at hl 0 rfl) ?_
    obtain ⟨s3, hc99, h⟩ := bd1_e h
    refine x_vV (As := []) (rest := []) C hX (c_Val_leadAway l g s2 s3 hc99) (cw_Val_172 C.1.2.2.2.2 C.2.2.2 ⟨by decide, by decide⟩) (x_rc C hX wg_3 rfl) rfl hl.1 rfl (lv_room (Nat.le_of_ble_eq_true rfl)) d_Val_judgeBranch_99 ⟨Nat.le_refl _, Nat.le_refl _⟩ (fun H locs hX => ?_)
    exact w_Val_judgeBranch_102 C hQ x1 x2 x3 x4 x5 s3 H locs ls hX hl h
  · have h := ite_t c86 h
    refine lv_aload_n hx hb d_Val_judgeBranch_89 rfl (lv_at hl 0 rfl) ?_
    refine lv_iload hx hb d_Val_judgeBranch_90 (lv_at hl 5 rfl) ?_
    obtain ⟨s4, hc92, h⟩ := bd1_e h
    refine x_vV (As := [.int x5]) (rest := []) C hX (c_Val_give l g x5 s2 s4 hc92) (cw_Val_160 C.1.2.2.2.2 C.2.2.2 ⟨by decide, by decide⟩) (x_rc C hX wg_3 rfl) rfl hl.1 rfl (lv_room (Nat.le_of_ble_eq_true rfl)) d_Val_judgeBranch_92 ⟨Nat.le_refl _, Nat.le_refl _⟩ (fun H locs hX => ?_)
    refine lv_goto (tgt := 102) hx hb d_Val_judgeBranch_95 (by decide) ?_
    exact w_Val_judgeBranch_102 C hQ x1 x2 x3 x4 x5 s4 H locs ls hX hl h
set_option maxHeartbeats 4000000 in
set_option maxRecDepth 100000 in
theorem w_Val_judgeBranch_62 {z : St} (C : Cx g A p m c b_Val_judgeBranch 6 ss args R_Val) (hQ : ∀ (pc : Nat) (H : Heap) (locs : List Loc) (ls : Array Slot), XW g A ss (wX g z) H locs → decode b_Val_judgeBranch pc = .ok (.return_, 1) → W p l e (rmX 3 72) ss m args below meth c H locs 0 0 Q (F0 m pc ls [])) : ∀ (x1 : Int32) (x2 : Int32) (x3 : Int32) (x4 : Int32) (x5 : Int32) (s : St) (H : Heap) (locs : List Loc) (ls : Array Slot), XW g A ss (wX g s) H locs → lv_has ls 6 [(0, .ref (g.q 3)), (1, .int x1), (2, .int x2), (3, .int x3), (4, .int x4), (5, .int x5)] → f_Val_judgeBranch_62 x1 x2 x3 x4 x5 s = some z → W p l e (rmX 3 72) ss m args below meth c H locs 0 0 Q (F0 m 62 ls []) := by
  have ⟨⟨hx, hb, hml, hown, hts⟩, hK, hA, hN⟩ := C
  intro x1 x2 x3 x4 x5 s H locs ls hX hl h
  rw [f_Val_judgeBranch_62] at h
  refine lv_aload_n hx hb d_Val_judgeBranch_62 rfl (lv_at hl 0 rfl) ?_
  refine lv_iload_n hx hb d_Val_judgeBranch_63 rfl (lv_at hl 2 rfl) ?_
  refine lv_bipush (v := 12) hx hb d_Val_judgeBranch_64 (by decide) ?_
  refine lv_icmp_ne (tgt := 73) hx hb d_Val_judgeBranch_66 (by decide) (fun c66 => ?_) (fun c66 => ?_)
  · have h := ite_f c66 h
    refine lv_iconst (v := 1) hx hb d_Val_judgeBranch_73 (by decide) ?_
    exact w_Val_judgeBranch_74 C hQ x1 x2 x3 x4 x5 1 s H locs ls hX hl h
  · have h := ite_t c66 h
    refine lv_iconst (v := 0) hx hb d_Val_judgeBranch_69 (by decide) ?_
    refine lv_goto (tgt := 74) hx hb d_Val_judgeBranch_70 (by decide) ?_
    exact w_Val_judgeBranch_74 C hQ x1 x2 x3 x4 x5 0 s H locs ls hX hl h
set_option maxHeartbeats 4000000 in
set_option maxRecDepth 100000 in
theorem w_Val_judgeBranch_40 {z : St} (C : Cx g A p m c b_Val_judgeBranch 6 ss args R_Val) (hQ : ∀ (pc : Nat) (H : Heap) (locs : List Loc) (ls : Array Slot), XW g A ss (wX g z) H locs → decode b_Val_judgeBranch pc = .ok (.return_, 1) → W p l e (rmX 3 72) ss m args below meth c H locs 0 0 Q (F0 m pc ls [])) : ∀ (x1 : Int32) (x2 : Int32) (x3 : Int32) (x4 : Int32) (s : St) (H : Heap) (locs : List Loc) (ls : Array Slot), XW g A ss (wX g s) H locs → lv_has ls 6 [(0, .ref (g.q 3)), (1, .int x1), (2, .int x2), (3, .int x3), (4, .int x4)] → f_Val_judgeBranch_40 x1 x2 x3 x4 s = some z → W p l e (rmX 3 72) ss m args below meth c H locs 0 0 Q (F0 m 40 ls []) := by
  have ⟨⟨hx, hb, hml, hown, hts⟩, hK, hA, hN⟩ := C
  intro x1 x2 x3 x4 s H locs ls hX hl h
  rw [f_Val_judgeBranch_40] at h
  refine lv_aload_n hx hb d_Val_judgeBranch_40 rfl (lv_at hl 0 rfl) ?_
  refine lv_iload hx hb d_Val_judgeBranch_41 (lv_at hl 4 rfl) ?_
  obtain ⟨r1, hc43, h⟩ := bd1_e h
  refine x_vI (As := [.int x4]) (rest := []) C hX (c_Val_takenBy l g x4 s r1 hc43) (cw_Val_166 C.1.2.2.2.2 C.2.2.2 ⟨by decide, by decide⟩) (x_rc C hX wg_3 rfl) rfl hl.1 rfl (lv_room (Nat.le_of_ble_eq_true rfl)) d_Val_judgeBranch_43 ⟨Nat.le_refl _, Nat.le_refl _⟩ (fun H locs hX => ?_)
  refine lv_istore (lv' := [(5, .int r1), (0, .ref (g.q 3)), (1, .int x1), (2, .int x2), (3, .int x3), (4, .int x4)]) hx hb d_Val_judgeBranch_46 hl (by decide) rfl (fun ls hl => ?_)
  refine lv_iload_n hx hb d_Val_judgeBranch_48 rfl (lv_at hl 3 rfl) ?_
  refine lv_bipush (v := 14) hx hb d_Val_judgeBranch_49 (by decide) ?_
  refine lv_icmp_ne (tgt := 62) hx hb d_Val_judgeBranch_51 (by decide) (fun c51 => ?_) (fun c51 => ?_)
  · have h := ite_f c51 h
    exact w_Val_judgeBranch_62 C hQ x1 x2 x3 x4 r1 s H locs ls hX (lv_sub hl [1, 2, 3, 4, 5, 0] rfl) h
  · have h := ite_t c51 h
    refine lv_aload_n hx hb d_Val_judgeBranch_54 rfl (lv_at hl 1 rfl) ?_
    refine lv_iload_n hx hb d_Val_judgeBranch_55 rfl (lv_at hl 2 rfl) ?_
    refine lv_iload_n hx hb d_Val_judgeBranch_56 rfl (lv_at hl 4 rfl) ?_
    refine lv_iload hx hb d_Val_judgeBranch_57 (lv_at hl 0 rfl) ?_
    obtain ⟨s2, hc59, h⟩ := bd1_e h
    refine x_vV (As := [.int x1, .int x3, .int r1]) (rest := []) C hX (c_Val_judgePlaces l g x1 x3 r1 s s2 hc59) (cw_Val_169 C.1.2.2.2.2 C.2.2.2 ⟨by decide, by decide⟩) (x_rc C hX wg_3 rfl) rfl hl.1 rfl (lv_room (Nat.le_of_ble_eq_true rfl)) d_Val_judgeBranch_59 ⟨Nat.le_refl _, Nat.le_refl _⟩ (fun H locs hX => ?_)
    exact w_Val_judgeBranch_62 C hQ x1 x2 x3 x4 r1 s2 H locs ls hX (lv_sub hl [1, 2, 3, 4, 5, 0] rfl) h
set_option maxHeartbeats 4000000 in
set_option maxRecDepth 100000 in
theorem w_Val_judgeBranch_19 {z : St} (C : Cx g A p m c b_Val_judgeBranch 6 ss args R_Val) (hQ : ∀ (pc : Nat) (H : Heap) (locs : List Loc) (ls : Array Slot), XW g A ss (wX g z) H locs → decode b_Val_judgeBranch pc = .ok (.return_, 1) → W p l e (rmX 3 72) ss m args below meth c H locs 0 0 Q (F0 m pc ls [])) : ∀ (x1 : Int32) (x2 : Int32) (x3 : Int32) (y0 : Int32) (s : St) (H : Heap) (locs : List Loc) (ls : Array Slot), XW g A ss (wX g s) H locs → lv_has ls 6 [(0, .ref (g.q 3)), (1, .int x1), (2, .int x2), (3, .int x3)] → f_Val_judgeBranch_19 x1 x2 x3 y0 s = some z → W p l e (rmX 3 72) ss m args below meth c H locs 0 0 Q (F0 m 19 ls [.int y0]) := by
  have ⟨⟨hx, hb, hml, hown, hts⟩, hK, hA, hN⟩ := C
  intro x1 x2 x3 y0 s H locs ls hX hl h
  rw [f_Val_judgeBranch_19] at h
  refine lv_istore (lv' := [(4, .int y0), (0, .ref (g.q 3)), (1, .int x1), (2, .int x2), (3, .int x3)]) hx hb d_Val_judgeBranch_19 hl (by decide) rfl (fun ls hl => ?_)
  refine lv_iload hx hb d_Val_judgeBranch_21 (lv_at hl 0 rfl) ?_
  refine lv_aload_n hx hb d_Val_judgeBranch_23 rfl (lv_at hl 1 rfl) ?_
  refine gf_3_open C hX fl_Val_99 d_Val_judgeBranch_24 ?_
  refine lv_iconst (v := 1) hx hb d_Val_judgeBranch_27 (by decide) ?_
  obtain ⟨v1, ev1, h⟩ := lt1_e h
  refine x_isub hx hb d_Val_judgeBranch_28 ev1 ?_
  obtain ⟨r2, hc29, h⟩ := bd1_e h
  refine x_sNI (As := [.int y0, .int v1]) (rest := []) C hX (c_X_isAbove l g y0 v1 r2 hc29 _) (cw_Val_90 C.1.2.2.2.2 C.2.2.2 ⟨by decide, by decide⟩) rfl hl.1 rfl (lv_room (Nat.le_of_ble_eq_true rfl)) d_Val_judgeBranch_29 ⟨Nat.le_refl _, Nat.le_refl _⟩ (fun H locs hX => ?_)
  refine lv_if_eq (tgt := 40) hx hb d_Val_judgeBranch_32 (by decide) (fun c32 => ?_) (fun c32 => ?_)
  · have h := ite_t c32 h
    exact w_Val_judgeBranch_40 C hQ x1 x2 x3 y0 s H locs ls hX (lv_sub hl [1, 2, 3, 4, 0] rfl) h
  · have h := ite_f c32 h
    refine lv_aload_n hx hb d_Val_judgeBranch_35 rfl (lv_at hl 1 rfl) ?_
    refine lv_iconst (v := 3) hx hb d_Val_judgeBranch_36 (by decide) ?_
    obtain ⟨s3, hc37, h⟩ := bd1_e h
    refine x_vV (As := [.int 3]) (rest := []) C hX (c_Val_refuse l g 3 s s3 hc37) (cw_Val_39 C.1.2.2.2.2 C.2.2.2 ⟨by decide, by decide⟩) (x_rc C hX wg_3 rfl) rfl hl.1 rfl (lv_room (Nat.le_of_ble_eq_true rfl)) d_Val_judgeBranch_37 ⟨Nat.le_refl _, Nat.le_refl _⟩ (fun H locs hX => ?_)
    exact w_Val_judgeBranch_40 C hQ x1 x2 x3 y0 s3 H locs ls hX (lv_sub hl [1, 2, 3, 4, 0] rfl) h
set_option maxHeartbeats 4000000 in
set_option maxRecDepth 100000 in
theorem w_Val_judgeBranch {z : St} (C : Cx g A p m c b_Val_judgeBranch 6 ss args R_Val) (hQ : ∀ (pc : Nat) (H : Heap) (locs : List Loc) (ls : Array Slot), XW g A ss (wX g z) H locs → decode b_Val_judgeBranch pc = .ok (.return_, 1) → W p l e (rmX 3 72) ss m args below meth c H locs 0 0 Q (F0 m pc ls [])) : ∀ (x1 : Int32) (x2 : Int32) (x3 : Int32) (s : St) (H : Heap) (locs : List Loc) (ls : Array Slot), XW g A ss (wX g s) H locs → lv_has ls 6 [(0, .ref (g.q 3)), (1, .int x1), (2, .int x2), (3, .int x3)] → f_Val_judgeBranch x1 x2 x3 s = some z → W p l e (rmX 3 72) ss m args below meth c H locs 0 0 Q (F0 m 0 ls []) := by
  have ⟨⟨hx, hb, hml, hown, hts⟩, hK, hA, hN⟩ := C
  intro x1 x2 x3 s H locs ls hX hl h
  rw [f_Val_judgeBranch] at h
  refine lv_iload_n hx hb d_Val_judgeBranch_0 rfl (lv_at hl 2 rfl) ?_
  refine lv_bipush (v := 14) hx hb d_Val_judgeBranch_1 (by decide) ?_
  refine lv_icmp_ne (tgt := 18) hx hb d_Val_judgeBranch_3 (by decide) (fun c3 => ?_) (fun c3 => ?_)
  · have h := ite_f c3 h
    refine lv_iload_n hx hb d_Val_judgeBranch_18 rfl (lv_at hl 3 rfl) ?_
    exact w_Val_judgeBranch_19 C hQ x1 x2 x3 x3 s H locs ls hX hl h
  · have h := ite_t c3 h
    refine lv_aload_n hx hb d_Val_judgeBranch_6 rfl (lv_at hl 0 rfl) ?_
    refine gf_3_contents C hX fl_Val_20 d_Val_judgeBranch_7 ?_
    refine lv_iload_n hx hb d_Val_judgeBranch_10 rfl (lv_at hl 1 rfl) ?_
    refine lv_iload_n hx hb d_Val_judgeBranch_11 rfl (lv_at hl 3 rfl) ?_
    obtain ⟨r1, hc12, h⟩ := bd1_e h
    refine x_vI (As := [.int x1, .int x3]) (rest := []) C hX (c_Cont_labelAt l g x1 x3 s r1 hc12) (cw_Val_163 C.1.2.2.2.2 C.2.2.2 ⟨by decide, by decide⟩) (x_rc C hX wg_1 rfl) rfl hl.1 rfl (lv_room (Nat.le_of_ble_eq_true rfl)) d_Val_judgeBranch_12 ⟨Nat.le_refl _, Nat.le_refl _⟩ (fun H locs hX => ?_)
    refine lv_goto (tgt := 19) hx hb d_Val_judgeBranch_15 (by decide) ?_
    exact w_Val_judgeBranch_19 C hQ x1 x2 x3 r1 s H locs ls hX hl h
end WALK
theorem c_Val_judgeBranch (l : Launch) (g : GX) (x1 : Int32) (x2 : Int32) (x3 : Int32) (s : St) (z : St) (h : f_Val_judgeBranch x1 x2 x3 s = some z) : MV l g y_Val_judgeBranch b_Val_judgeBranch 6 none 3 72 [.ref (g.q 3), .int x1, .int x2, .int x3] (wX g s) (wX g z) :=
  MV.mk (own := R_Val) (by decide) rfl (Nat.le_of_ble_eq_true rfl) fun p e ss m below meth c A Q C hQ ls hX hl => w_Val_judgeBranch C hQ x1 x2 x3 s _ _ ls hX hl h
-- Val_closeBlock
def f_Val_closeBlock_106 (x1 : Int32) (x2 : Int32) (s : St) : Option St :=
    some s
def f_Val_closeBlock_52 (x1 : Int32) (x2 : Int32) (s : St) : Option St :=
    if x1 = 11 then
      lt1 (s 3 0 - 1) fun v5 =>
      lt1 (stp s 3 0 v5) fun s6 =>
      bd1 (f_Val_give x2 s6) fun s7 =>
      f_Val_closeBlock_106 x1 x2 s7
    else
      lt1 (s 3 0 - 1) fun v1 =>
      lt1 (tSet s 28 11 6 v1 3 5) fun s2 =>
      lt1 (s2 3 0 - 1) fun v3 =>
      lt1 (tSet s2 28 11 6 v3 4 0) fun s4 =>
      f_Val_closeBlock_106 x1 x2 s4
def f_Val_closeBlock_30 (x1 : Int32) (x2 : Int32) (s : St) : Option St :=
    bd1 (f_Val_take x2 s) fun s1 =>
    bd1 (f_Val_inner s1 0) fun r2 =>
    if s1 3 1 = r2 then
      f_Val_closeBlock_52 x1 x2 s1
    else
      bd1 (f_Val_refuse 3 s1) fun s3 =>
      f_Val_closeBlock_52 x1 x2 s3
def f_Val_closeBlock (x1 : Int32) (s : St) : Option St :=
    bd1 (f_Val_inner s 1) fun r1 =>
    if x1 = 11 then
      bd1 (f_Val_inner s 3) fun r2 =>
      if r2 = 4 then
        if r1 ≤ 0 then
          f_Val_closeBlock_30 x1 r1 s
        else
          bd1 (f_Val_refuse 3 s) fun s3 =>
          f_Val_closeBlock_30 x1 r1 s3
      else
        f_Val_closeBlock_30 x1 r1 s
    else
      f_Val_closeBlock_30 x1 r1 s
section WALK
variable {p : Program} {l : Launch} {e : Env} {ss : State} {m : MethodId} {args : Array Value} {below : List Frame} {meth : Method} {c : Code} {Q : State → Prop} {g : GX} {A : Nat → Prop}
set_option maxHeartbeats 4000000 in
set_option maxRecDepth 100000 in
theorem w_Val_closeBlock_106 {z : St} (C : Cx g A p m c b_Val_closeBlock 3 ss args R_Val) (hQ : ∀ (pc : Nat) (H : Heap) (locs : List Loc) (ls : Array Slot), XW g A ss (wX g z) H locs → decode b_Val_closeBlock pc = .ok (.return_, 1) → W p l e (rmX 3 66) ss m args below meth c H locs 0 0 Q (F0 m pc ls [])) : ∀ (x1 : Int32) (x2 : Int32) (s : St) (H : Heap) (locs : List Loc) (ls : Array Slot), XW g A ss (wX g s) H locs → lv_has ls 3 [(0, .ref (g.q 3)), (1, .int x1), (2, .int x2)] → f_Val_closeBlock_106 x1 x2 s = some z → W p l e (rmX 3 66) ss m args below meth c H locs 0 0 Q (F0 m 106 ls []) := by
  have ⟨⟨hx, hb, hml, hown, hts⟩, hK, hA, hN⟩ := C
  intro x1 x2 s H locs ls hX hl h
  rw [f_Val_closeBlock_106] at h
  obtain rfl := so1 h
  exact hQ _ H locs ls hX d_Val_closeBlock_106
set_option maxHeartbeats 4000000 in
set_option maxRecDepth 100000 in
theorem w_Val_closeBlock_52 {z : St} (C : Cx g A p m c b_Val_closeBlock 3 ss args R_Val) (hQ : ∀ (pc : Nat) (H : Heap) (locs : List Loc) (ls : Array Slot), XW g A ss (wX g z) H locs → decode b_Val_closeBlock pc = .ok (.return_, 1) → W p l e (rmX 3 66) ss m args below meth c H locs 0 0 Q (F0 m pc ls [])) : ∀ (x1 : Int32) (x2 : Int32) (s : St) (H : Heap) (locs : List Loc) (ls : Array Slot), XW g A ss (wX g s) H locs → lv_has ls 3 [(0, .ref (g.q 3)), (1, .int x1), (2, .int x2)] → f_Val_closeBlock_52 x1 x2 s = some z → W p l e (rmX 3 66) ss m args below meth c H locs 0 0 Q (F0 m 52 ls []) := by
  have ⟨⟨hx, hb, hml, hown, hts⟩, hK, hA, hN⟩ := C
  intro x1 x2 s H locs ls hX hl h
  rw [f_Val_closeBlock_52] at h
  refine lv_iload_n hx hb d_Val_closeBlock_52 rfl (lv_at hl 1 rfl) ?_
  refine lv_bipush (v := 11) hx hb d_Val_closeBlock_53 (by decide) ?_
  refine lv_icmp_ne (tgt := 76) hx hb d_Val_closeBlock_55 (by decide) (fun c55 => ?_) (fun c55 => ?_)
  · have h := ite_f c55 h
    refine lv_aload_n hx hb d_Val_closeBlock_76 rfl (lv_at hl 0 rfl) ?_
    refine gf_3_blocks C hX fl_Val_14 d_Val_closeBlock_77 ?_
    refine lv_aload_n hx hb d_Val_closeBlock_80 rfl (lv_at hl 0 rfl) ?_
    refine gf_3_open C hX fl_Val_99 d_Val_closeBlock_81 ?_
    refine lv_iconst (v := 1) hx hb d_Val_closeBlock_84 (by decide) ?_
    obtain ⟨v1, ev1, h⟩ := lt1_e h
    refine x_isub hx hb d_Val_closeBlock_85 ev1 ?_
    refine lv_iconst (v := 3) hx hb d_Val_closeBlock_86 (by decide) ?_
    refine lv_iconst (v := 5) hx hb d_Val_closeBlock_87 (by decide) ?_
    obtain ⟨s2, es2, h⟩ := lt1_e h
    refine x_vV (ws' := wX g s2) (As := [.int v1, .int 3, .int 5]) (rest := []) C hX (by rw [es2]; exact cTabSet_27 l g s v1 3 5) (cw_Val_115 C.1.2.2.2.2 C.2.2.2 ⟨by decide, by decide⟩) (x_rc C hX wg_27 rfl) rfl hl.1 rfl (lv_room (Nat.le_of_ble_eq_true rfl)) d_Val_closeBlock_88 ⟨Nat.le_refl _, Nat.le_refl _⟩ (fun H locs hX => ?_)
    refine lv_aload_n hx hb d_Val_closeBlock_91 rfl (lv_at hl 0 rfl) ?_
    refine gf_3_blocks C hX fl_Val_14 d_Val_closeBlock_92 ?_
    refine lv_aload_n hx hb d_Val_closeBlock_95 rfl (lv_at hl 0 rfl) ?_
    refine gf_3_open C hX fl_Val_99 d_Val_closeBlock_96 ?_
    refine lv_iconst (v := 1) hx hb d_Val_closeBlock_99 (by decide) ?_
    obtain ⟨v3, ev3, h⟩ := lt1_e h
    refine x_isub hx hb d_Val_closeBlock_100 ev3 ?_
    refine lv_iconst (v := 4) hx hb d_Val_closeBlock_101 (by decide) ?_
    refine lv_iconst (v := 0) hx hb d_Val_closeBlock_102 (by decide) ?_
    obtain ⟨s4, es4, h⟩ := lt1_e h
    refine x_vV (ws' := wX g s4) (As := [.int v3, .int 4, .int 0]) (rest := []) C hX (by rw [es4]; exact cTabSet_27 l g s2 v3 4 0) (cw_Val_115 C.1.2.2.2.2 C.2.2.2 ⟨by decide, by decide⟩) (x_rc C hX wg_27 rfl) rfl hl.1 rfl (lv_room (Nat.le_of_ble_eq_true rfl)) d_Val_closeBlock_103 ⟨Nat.le_refl _, Nat.le_refl _⟩ (fun H locs hX => ?_)
    exact w_Val_closeBlock_106 C hQ x1 x2 s4 H locs ls hX hl h
  · have h := ite_t c55 h
    refine lv_aload_n hx hb d_Val_closeBlock_58 rfl (lv_at hl 0 rfl) ?_
    refine lv_dup hx hb d_Val_closeBlock_59 rfl ?_
    refine gf_3_open C hX fl_Val_99 d_Val_closeBlock_60 ?_
    refine lv_iconst (v := 1) hx hb d_Val_closeBlock_63 (by decide) ?_
    obtain ⟨v5, ev5, h⟩ := lt1_e h
    refine x_isub hx hb d_Val_closeBlock_64 ev5 ?_
    obtain ⟨s6, es6, h⟩ := lt1_e h
    refine pf_3_open C hX fl_Val_99 d_Val_closeBlock_65 (fun H locs hX => ?_)
    rw [← es6] at hX
    refine lv_aload_n hx hb d_Val_closeBlock_68 rfl (lv_at hl 0 rfl) ?_
    refine lv_iload_n hx hb d_Val_closeBlock_69 rfl (lv_at hl 2 rfl) ?_
    obtain ⟨s7, hc70, h⟩ := bd1_e h
    refine x_vV (As := [.int x2]) (rest := []) C hX (c_Val_give l g x2 s6 s7 hc70) (cw_Val_160 C.1.2.2.2.2 C.2.2.2 ⟨by decide, by decide⟩) (x_rc C hX wg_3 rfl) rfl hl.1 rfl (lv_room (Nat.le_of_ble_eq_true rfl)) d_Val_closeBlock_70 ⟨Nat.le_refl _, Nat.le_refl _⟩ (fun H locs hX => ?_)
    refine lv_goto (tgt := 106) hx hb d_Val_closeBlock_73 (by decide) ?_
    exact w_Val_closeBlock_106 C hQ x1 x2 s7 H locs ls hX hl h
set_option maxHeartbeats 4000000 in
set_option maxRecDepth 100000 in
theorem w_Val_closeBlock_30 {z : St} (C : Cx g A p m c b_Val_closeBlock 3 ss args R_Val) (hQ : ∀ (pc : Nat) (H : Heap) (locs : List Loc) (ls : Array Slot), XW g A ss (wX g z) H locs → decode b_Val_closeBlock pc = .ok (.return_, 1) → W p l e (rmX 3 66) ss m args below meth c H locs 0 0 Q (F0 m pc ls [])) : ∀ (x1 : Int32) (x2 : Int32) (s : St) (H : Heap) (locs : List Loc) (ls : Array Slot), XW g A ss (wX g s) H locs → lv_has ls 3 [(0, .ref (g.q 3)), (1, .int x1), (2, .int x2)] → f_Val_closeBlock_30 x1 x2 s = some z → W p l e (rmX 3 66) ss m args below meth c H locs 0 0 Q (F0 m 30 ls []) := by
  have ⟨⟨hx, hb, hml, hown, hts⟩, hK, hA, hN⟩ := C
  intro x1 x2 s H locs ls hX hl h
  rw [f_Val_closeBlock_30] at h
  refine lv_aload_n hx hb d_Val_closeBlock_30 rfl (lv_at hl 0 rfl) ?_
  refine lv_iload_n hx hb d_Val_closeBlock_31 rfl (lv_at hl 2 rfl) ?_
  obtain ⟨s1, hc32, h⟩ := bd1_e h
  refine x_vV (As := [.int x2]) (rest := []) C hX (c_Val_take l g x2 s s1 hc32) (cw_Val_130 C.1.2.2.2.2 C.2.2.2 ⟨by decide, by decide⟩) (x_rc C hX wg_3 rfl) rfl hl.1 rfl (lv_room (Nat.le_of_ble_eq_true rfl)) d_Val_closeBlock_32 ⟨Nat.le_refl _, Nat.le_refl _⟩ (fun H locs hX => ?_)
  refine lv_aload_n hx hb d_Val_closeBlock_35 rfl (lv_at hl 0 rfl) ?_
  refine gf_3_height C hX fl_Val_96 d_Val_closeBlock_36 ?_
  refine lv_aload_n hx hb d_Val_closeBlock_39 rfl (lv_at hl 0 rfl) ?_
  refine lv_iconst (v := 0) hx hb d_Val_closeBlock_40 (by decide) ?_
  obtain ⟨r2, hc41, h⟩ := bd1_e h
  refine x_vI (As := [.int 0]) (rest := [.int (s1 3 1)]) C hX (c_Val_inner l g 0 s1 r2 hc41) (cw_Val_124 C.1.2.2.2.2 C.2.2.2 ⟨by decide, by decide⟩) (x_rc C hX wg_3 rfl) rfl hl.1 rfl (lv_room (Nat.le_of_ble_eq_true rfl)) d_Val_closeBlock_41 ⟨Nat.le_refl _, Nat.le_refl _⟩ (fun H locs hX => ?_)
  refine lv_icmp_eq (tgt := 52) hx hb d_Val_closeBlock_44 (by decide) (fun c44 => ?_) (fun c44 => ?_)
  · have h := ite_t c44 h
    exact w_Val_closeBlock_52 C hQ x1 x2 s1 H locs ls hX hl h
  · have h := ite_f c44 h
    refine lv_aload_n hx hb d_Val_closeBlock_47 rfl (lv_at hl 0 rfl) ?_
    refine lv_iconst (v := 3) hx hb d_Val_closeBlock_48 (by decide) ?_
    obtain ⟨s3, hc49, h⟩ := bd1_e h
    refine x_vV (As := [.int 3]) (rest := []) C hX (c_Val_refuse l g 3 s1 s3 hc49) (cw_Val_39 C.1.2.2.2.2 C.2.2.2 ⟨by decide, by decide⟩) (x_rc C hX wg_3 rfl) rfl hl.1 rfl (lv_room (Nat.le_of_ble_eq_true rfl)) d_Val_closeBlock_49 ⟨Nat.le_refl _, Nat.le_refl _⟩ (fun H locs hX => ?_)
    exact w_Val_closeBlock_52 C hQ x1 x2 s3 H locs ls hX hl h
set_option maxHeartbeats 4000000 in
set_option maxRecDepth 100000 in
theorem w_Val_closeBlock {z : St} (C : Cx g A p m c b_Val_closeBlock 3 ss args R_Val) (hQ : ∀ (pc : Nat) (H : Heap) (locs : List Loc) (ls : Array Slot), XW g A ss (wX g z) H locs → decode b_Val_closeBlock pc = .ok (.return_, 1) → W p l e (rmX 3 66) ss m args below meth c H locs 0 0 Q (F0 m pc ls [])) : ∀ (x1 : Int32) (s : St) (H : Heap) (locs : List Loc) (ls : Array Slot), XW g A ss (wX g s) H locs → lv_has ls 3 [(0, .ref (g.q 3)), (1, .int x1)] → f_Val_closeBlock x1 s = some z → W p l e (rmX 3 66) ss m args below meth c H locs 0 0 Q (F0 m 0 ls []) := by
  have ⟨⟨hx, hb, hml, hown, hts⟩, hK, hA, hN⟩ := C
  intro x1 s H locs ls hX hl h
  rw [f_Val_closeBlock] at h
  refine lv_aload_n hx hb d_Val_closeBlock_0 rfl (lv_at hl 0 rfl) ?_
  refine lv_iconst (v := 1) hx hb d_Val_closeBlock_1 (by decide) ?_
  obtain ⟨r1, hc2, h⟩ := bd1_e h
  refine x_vI (As := [.int 1]) (rest := []) C hX (c_Val_inner l g 1 s r1 hc2) (cw_Val_124 C.1.2.2.2.2 C.2.2.2 ⟨by decide, by decide⟩) (x_rc C hX wg_3 rfl) rfl hl.1 rfl (lv_room (Nat.le_of_ble_eq_true rfl)) d_Val_closeBlock_2 ⟨Nat.le_refl _, Nat.le_refl _⟩ (fun H locs hX => ?_)
  refine lv_istore_n (lv' := [(2, .int r1), (0, .ref (g.q 3)), (1, .int x1)]) hx hb d_Val_closeBlock_5 rfl hl (by decide) rfl (fun ls hl => ?_)
  refine lv_iload_n hx hb d_Val_closeBlock_6 rfl (lv_at hl 2 rfl) ?_
  refine lv_bipush (v := 11) hx hb d_Val_closeBlock_7 (by decide) ?_
  refine lv_icmp_ne (tgt := 30) hx hb d_Val_closeBlock_9 (by decide) (fun c9 => ?_) (fun c9 => ?_)
  · have h := ite_f c9 h
    exact w_Val_closeBlock_30 C hQ x1 r1 s H locs ls hX (lv_sub hl [1, 2, 0] rfl) h
  · have h := ite_t c9 h
    refine lv_aload_n hx hb d_Val_closeBlock_12 rfl (lv_at hl 1 rfl) ?_
    refine lv_iconst (v := 3) hx hb d_Val_closeBlock_13 (by decide) ?_
    obtain ⟨r2, hc14, h⟩ := bd1_e h
    refine x_vI (As := [.int 3]) (rest := []) C hX (c_Val_inner l g 3 s r2 hc14) (cw_Val_124 C.1.2.2.2.2 C.2.2.2 ⟨by decide, by decide⟩) (x_rc C hX wg_3 rfl) rfl hl.1 rfl (lv_room (Nat.le_of_ble_eq_true rfl)) d_Val_closeBlock_14 ⟨Nat.le_refl _, Nat.le_refl _⟩ (fun H locs hX => ?_)
    refine lv_iconst (v := 4) hx hb d_Val_closeBlock_17 (by decide) ?_
    refine lv_icmp_ne (tgt := 30) hx hb d_Val_closeBlock_18 (by decide) (fun c18 => ?_) (fun c18 => ?_)
    · have h := ite_f c18 h
      exact w_Val_closeBlock_30 C hQ x1 r1 s H locs ls hX (lv_sub hl [1, 2, 0] rfl) h
    · have h := ite_t c18 h
      refine lv_iload_n hx hb d_Val_closeBlock_21 rfl (lv_at hl 0 rfl) ?_
      refine lv_if_le (tgt := 30) hx hb d_Val_closeBlock_22 (by decide) (fun c22 => ?_) (fun c22 => ?_)
      · have h := ite_t c22 h
        exact w_Val_closeBlock_30 C hQ x1 r1 s H locs ls hX (lv_sub hl [1, 2, 0] rfl) h
      · have h := ite_f c22 h
        refine lv_aload_n hx hb d_Val_closeBlock_25 rfl (lv_at hl 1 rfl) ?_
        refine lv_iconst (v := 3) hx hb d_Val_closeBlock_26 (by decide) ?_
        obtain ⟨s3, hc27, h⟩ := bd1_e h
        refine x_vV (As := [.int 3]) (rest := []) C hX (c_Val_refuse l g 3 s s3 hc27) (cw_Val_39 C.1.2.2.2.2 C.2.2.2 ⟨by decide, by decide⟩) (x_rc C hX wg_3 rfl) rfl hl.1 rfl (lv_room (Nat.le_of_ble_eq_true rfl)) d_Val_closeBlock_27 ⟨Nat.le_refl _, Nat.le_refl _⟩ (fun H locs hX => ?_)
        exact w_Val_closeBlock_30 C hQ x1 r1 s3 H locs ls hX (lv_sub hl [1, 2, 0] rfl) h
end WALK
theorem c_Val_closeBlock (l : Launch) (g : GX) (x1 : Int32) (s : St) (z : St) (h : f_Val_closeBlock x1 s = some z) : MV l g y_Val_closeBlock b_Val_closeBlock 3 none 3 66 [.ref (g.q 3), .int x1] (wX g s) (wX g z) :=
  MV.mk (own := R_Val) (by decide) rfl (Nat.le_of_ble_eq_true rfl) fun p e ss m below meth c A Q C hQ ls hX hl => w_Val_closeBlock C hQ x1 s _ _ ls hX hl h
-- Val_judgeInstruction
def f_Val_judgeInstruction_131 (x1 : Int32) (x2 : Int32) (x3 : Int32) (s : St) : Option St :=
    some s
def f_Val_judgeInstruction_82 (x1 : Int32) (x2 : Int32) (x3 : Int32) (s : St) : Option St :=
    bd1 (f_Val_judgeBranch x1 x2 x3 s) fun s1 =>
    f_Val_judgeInstruction_131 x1 x2 x3 s1
def f_Val_judgeInstruction_56 (x1 : Int32) (x2 : Int32) (x3 : Int32) (s : St) : Option St :=
    bd1 (f_Val_closeBlock x2 s) fun s1 =>
    f_Val_judgeInstruction_131 x1 x2 x3 s1
def f_Val_judgeInstruction_18 (x1 : Int32) (x2 : Int32) (x3 : Int32) (y1 : Int32) (s : St) : Option St :=
    bd1 (f_Val_take y1 s) fun s1 =>
    bd1 (f_Cont_blockResults s1 x1) fun r2 =>
    bd1 (f_Cont_labelResults s1 x1) fun r3 =>
    bd1 (f_Val_openBlock x2 r2 r3 s1) fun s4 =>
    f_Val_judgeInstruction_131 x1 x2 x3 s4
def f_Val_judgeInstruction (x1 : Int32) (x2 : Int32) (x3 : Int32) (s : St) : Option St :=
    bd1 (f_Op_opensBlock x2) fun r1 =>
    if r1 = 0 then
      if x2 = 5 then
        f_Val_judgeInstruction_56 x1 x2 x3 s
      else
        if x2 = 11 then
          f_Val_judgeInstruction_56 x1 x2 x3 s
        else
          if x2 = 12 then
            f_Val_judgeInstruction_82 x1 x2 x3 s
          else
            if x2 = 13 then
              f_Val_judgeInstruction_82 x1 x2 x3 s
            else
              if x2 = 14 then
                f_Val_judgeInstruction_82 x1 x2 x3 s
              else
                bd1 (f_Op_isControl x2) fun r2 =>
                if r2 = 0 then
                  bd1 (f_Val_judgeOperands x1 x2 x3 s) fun s3 =>
                  bd1 (f_Op_takes x2) fun r4 =>
                  bd1 (f_Val_take r4 s3) fun s5 =>
                  bd1 (f_Op_gives x2) fun r6 =>
                  bd1 (f_Val_give r6 s5) fun s7 =>
                  f_Val_judgeInstruction_131 x1 x2 x3 s7
                else
                  bd1 (f_Val_judgeOtherControl x2 x3 s) fun s8 =>
                  f_Val_judgeInstruction_131 x1 x2 x3 s8
    else
      if x2 = 4 then
        f_Val_judgeInstruction_18 x1 x2 x3 1 s
      else
        f_Val_judgeInstruction_18 x1 x2 x3 0 s
section WALK
variable {p : Program} {l : Launch} {e : Env} {ss : State} {m : MethodId} {args : Array Value} {below : List Frame} {meth : Method} {c : Code} {Q : State → Prop} {g : GX} {A : Nat → Prop}
set_option maxHeartbeats 4000000 in
set_option maxRecDepth 100000 in
theorem w_Val_judgeInstruction_131 {z : St} (C : Cx g A p m c b_Val_judgeInstruction 4 ss args R_Val) (hQ : ∀ (pc : Nat) (H : Heap) (locs : List Loc) (ls : Array Slot), XW g A ss (wX g z) H locs → decode b_Val_judgeInstruction pc = .ok (.return_, 1) → W p l e (rmX 4 97) ss m args below meth c H locs 0 0 Q (F0 m pc ls [])) : ∀ (x1 : Int32) (x2 : Int32) (x3 : Int32) (s : St) (H : Heap) (locs : List Loc) (ls : Array Slot), XW g A ss (wX g s) H locs → lv_has ls 4 [(0, .ref (g.q 3)), (1, .int x1), (2, .int x2), (3, .int x3)] → f_Val_judgeInstruction_131 x1 x2 x3 s = some z → W p l e (rmX 4 97) ss m args below meth c H locs 0 0 Q (F0 m 131 ls []) := by
  have ⟨⟨hx, hb, hml, hown, hts⟩, hK, hA, hN⟩ := C
  intro x1 x2 x3 s H locs ls hX hl h
  rw [f_Val_judgeInstruction_131] at h
  obtain rfl := so1 h
  exact hQ _ H locs ls hX d_Val_judgeInstruction_131
set_option maxHeartbeats 4000000 in
set_option maxRecDepth 100000 in
theorem w_Val_judgeInstruction_82 {z : St} (C : Cx g A p m c b_Val_judgeInstruction 4 ss args R_Val) (hQ : ∀ (pc : Nat) (H : Heap) (locs : List Loc) (ls : Array Slot), XW g A ss (wX g z) H locs → decode b_Val_judgeInstruction pc = .ok (.return_, 1) → W p l e (rmX 4 97) ss m args below meth c H locs 0 0 Q (F0 m pc ls [])) : ∀ (x1 : Int32) (x2 : Int32) (x3 : Int32) (s : St) (H : Heap) (locs : List Loc) (ls : Array Slot), XW g A ss (wX g s) H locs → lv_has ls 4 [(0, .ref (g.q 3)), (1, .int x1), (2, .int x2), (3, .int x3)] → f_Val_judgeInstruction_82 x1 x2 x3 s = some z → W p l e (rmX 4 97) ss m args below meth c H locs 0 0 Q (F0 m 82 ls []) := by
  have ⟨⟨hx, hb, hml, hown, hts⟩, hK, hA, hN⟩ := C
  intro x1 x2 x3 s H locs ls hX hl h
  rw [f_Val_judgeInstruction_82] at h
  refine lv_aload_n hx hb d_Val_judgeInstruction_82 rfl (lv_at hl 0 rfl) ?_
  refine lv_iload_n hx hb d_Val_judgeInstruction_83 rfl (lv_at hl 1 rfl) ?_
  refine lv_iload_n hx hb d_Val_judgeInstruction_84 rfl (lv_at hl 2 rfl) ?_
  refine lv_iload_n hx hb d_Val_judgeInstruction_85 rfl (lv_at hl 3 rfl) ?_
  obtain ⟨s1, hc86, h⟩ := bd1_e h
  refine x_vV (As := [.int x1, .int x2, .int x3]) (rest := []) C hX (c_Val_judgeBranch l g x1 x2 x3 s s1 hc86) (cw_Val_142 C.1.2.2.2.2 C.2.2.2 ⟨by decide, by decide⟩) (x_rc C hX wg_3 rfl) rfl hl.1 rfl (lv_room (Nat.le_of_ble_eq_true rfl)) d_Val_judgeInstruction_86 ⟨Nat.le_refl _, Nat.le_refl _⟩ (fun H locs hX => ?_)
  refine lv_goto (tgt := 131) hx hb d_Val_judgeInstruction_89 (by decide) ?_
  exact w_Val_judgeInstruction_131 C hQ x1 x2 x3 s1 H locs ls hX hl h
set_option maxHeartbeats 4000000 in
set_option maxRecDepth 100000 in
theorem w_Val_judgeInstruction_56 {z : St} (C : Cx g A p m c b_Val_judgeInstruction 4 ss args R_Val) (hQ : ∀ (pc : Nat) (H : Heap) (locs : List Loc) (ls : Array Slot), XW g A ss (wX g z) H locs → decode b_Val_judgeInstruction pc = .ok (.return_, 1) → W p l e (rmX 4 97) ss m args below meth c H locs 0 0 Q (F0 m pc ls [])) : ∀ (x1 : Int32) (x2 : Int32) (x3 : Int32) (s : St) (H : Heap) (locs : List Loc) (ls : Array Slot), XW g A ss (wX g s) H locs → lv_has ls 4 [(0, .ref (g.q 3)), (1, .int x1), (2, .int x2), (3, .int x3)] → f_Val_judgeInstruction_56 x1 x2 x3 s = some z → W p l e (rmX 4 97) ss m args below meth c H locs 0 0 Q (F0 m 56 ls []) := by
  have ⟨⟨hx, hb, hml, hown, hts⟩, hK, hA, hN⟩ := C
  intro x1 x2 x3 s H locs ls hX hl h
  rw [f_Val_judgeInstruction_56] at h
  refine lv_aload_n hx hb d_Val_judgeInstruction_56 rfl (lv_at hl 0 rfl) ?_
  refine lv_iload_n hx hb d_Val_judgeInstruction_57 rfl (lv_at hl 2 rfl) ?_
  obtain ⟨s1, hc58, h⟩ := bd1_e h
  refine x_vV (As := [.int x2]) (rest := []) C hX (c_Val_closeBlock l g x2 s s1 hc58) (cw_Val_139 C.1.2.2.2.2 C.2.2.2 ⟨by decide, by decide⟩) (x_rc C hX wg_3 rfl) rfl hl.1 rfl (lv_room (Nat.le_of_ble_eq_true rfl)) d_Val_judgeInstruction_58 ⟨Nat.le_refl _, Nat.le_refl _⟩ (fun H locs hX => ?_)
  refine lv_goto (tgt := 131) hx hb d_Val_judgeInstruction_61 (by decide) ?_
  exact w_Val_judgeInstruction_131 C hQ x1 x2 x3 s1 H locs ls hX hl h
set_option maxHeartbeats 4000000 in
set_option maxRecDepth 100000 in
theorem w_Val_judgeInstruction_18 {z : St} (C : Cx g A p m c b_Val_judgeInstruction 4 ss args R_Val) (hQ : ∀ (pc : Nat) (H : Heap) (locs : List Loc) (ls : Array Slot), XW g A ss (wX g z) H locs → decode b_Val_judgeInstruction pc = .ok (.return_, 1) → W p l e (rmX 4 97) ss m args below meth c H locs 0 0 Q (F0 m pc ls [])) : ∀ (x1 : Int32) (x2 : Int32) (x3 : Int32) (y1 : Int32) (s : St) (H : Heap) (locs : List Loc) (ls : Array Slot), XW g A ss (wX g s) H locs → lv_has ls 4 [(0, .ref (g.q 3)), (1, .int x1), (2, .int x2), (3, .int x3)] → f_Val_judgeInstruction_18 x1 x2 x3 y1 s = some z → W p l e (rmX 4 97) ss m args below meth c H locs 0 0 Q (F0 m 18 ls [.int y1, .ref (g.q 3)]) := by
  have ⟨⟨hx, hb, hml, hown, hts⟩, hK, hA, hN⟩ := C
  intro x1 x2 x3 y1 s H locs ls hX hl h
  rw [f_Val_judgeInstruction_18] at h
  obtain ⟨s1, hc18, h⟩ := bd1_e h
  refine x_vV (As := [.int y1]) (rest := []) C hX (c_Val_take l g y1 s s1 hc18) (cw_Val_130 C.1.2.2.2.2 C.2.2.2 ⟨by decide, by decide⟩) (x_rc C hX wg_3 rfl) rfl hl.1 rfl (lv_room (Nat.le_of_ble_eq_true rfl)) d_Val_judgeInstruction_18 ⟨Nat.le_refl _, Nat.le_refl _⟩ (fun H locs hX => ?_)
  refine lv_aload_n hx hb d_Val_judgeInstruction_21 rfl (lv_at hl 0 rfl) ?_
  refine lv_iload_n hx hb d_Val_judgeInstruction_22 rfl (lv_at hl 2 rfl) ?_
  refine lv_aload_n hx hb d_Val_judgeInstruction_23 rfl (lv_at hl 0 rfl) ?_
  refine gf_3_contents C hX fl_Val_20 d_Val_judgeInstruction_24 ?_
  refine lv_iload_n hx hb d_Val_judgeInstruction_27 rfl (lv_at hl 1 rfl) ?_
  obtain ⟨r2, hc28, h⟩ := bd1_e h
  refine x_vI (As := [.int x1]) (rest := [.int x2, .ref (g.q 3)]) C hX (c_Cont_blockResults l g x1 s1 r2 hc28) (cw_Val_133 C.1.2.2.2.2 C.2.2.2 ⟨by decide, by decide⟩) (x_rc C hX wg_1 rfl) rfl hl.1 rfl (lv_room (Nat.le_of_ble_eq_true rfl)) d_Val_judgeInstruction_28 ⟨Nat.le_refl _, Nat.le_refl _⟩ (fun H locs hX => ?_)
  refine lv_aload_n hx hb d_Val_judgeInstruction_31 rfl (lv_at hl 0 rfl) ?_
  refine gf_3_contents C hX fl_Val_20 d_Val_judgeInstruction_32 ?_
  refine lv_iload_n hx hb d_Val_judgeInstruction_35 rfl (lv_at hl 1 rfl) ?_
  obtain ⟨r3, hc36, h⟩ := bd1_e h
  refine x_vI (As := [.int x1]) (rest := [.int r2, .int x2, .ref (g.q 3)]) C hX (c_Cont_labelResults l g x1 s1 r3 hc36) (cw_Val_136 C.1.2.2.2.2 C.2.2.2 ⟨by decide, by decide⟩) (x_rc C hX wg_1 rfl) rfl hl.1 rfl (lv_room (Nat.le_of_ble_eq_true rfl)) d_Val_judgeInstruction_36 ⟨Nat.le_refl _, Nat.le_refl _⟩ (fun H locs hX => ?_)
  obtain ⟨s4, hc39, h⟩ := bd1_e h
  refine x_vV (As := [.int x2, .int r2, .int r3]) (rest := []) C hX (c_Val_openBlock l g x2 r2 r3 s1 s4 hc39) (cw_Val_108 C.1.2.2.2.2 C.2.2.2 ⟨by decide, by decide⟩) (x_rc C hX wg_3 rfl) rfl hl.1 rfl (lv_room (Nat.le_of_ble_eq_true rfl)) d_Val_judgeInstruction_39 ⟨Nat.le_refl _, Nat.le_refl _⟩ (fun H locs hX => ?_)
  refine lv_goto (tgt := 131) hx hb d_Val_judgeInstruction_42 (by decide) ?_
  exact w_Val_judgeInstruction_131 C hQ x1 x2 x3 s4 H locs ls hX hl h
set_option maxHeartbeats 4000000 in
set_option maxRecDepth 100000 in
theorem w_Val_judgeInstruction {z : St} (C : Cx g A p m c b_Val_judgeInstruction 4 ss args R_Val) (hQ : ∀ (pc : Nat) (H : Heap) (locs : List Loc) (ls : Array Slot), XW g A ss (wX g z) H locs → decode b_Val_judgeInstruction pc = .ok (.return_, 1) → W p l e (rmX 4 97) ss m args below meth c H locs 0 0 Q (F0 m pc ls [])) : ∀ (x1 : Int32) (x2 : Int32) (x3 : Int32) (s : St) (H : Heap) (locs : List Loc) (ls : Array Slot), XW g A ss (wX g s) H locs → lv_has ls 4 [(0, .ref (g.q 3)), (1, .int x1), (2, .int x2), (3, .int x3)] → f_Val_judgeInstruction x1 x2 x3 s = some z → W p l e (rmX 4 97) ss m args below meth c H locs 0 0 Q (F0 m 0 ls []) := by
  have ⟨⟨hx, hb, hml, hown, hts⟩, hK, hA, hN⟩ := C
  intro x1 x2 x3 s H locs ls hX hl h
  rw [f_Val_judgeInstruction] at h
  refine lv_iload_n hx hb d_Val_judgeInstruction_0 rfl (lv_at hl 2 rfl) ?_
  obtain ⟨r1, hc1, h⟩ := bd1_e h
  refine x_sI (As := [.int x2]) (rest := []) C hX (c_Op_opensBlock l g x2 r1 hc1 _) (cw_Val_127 C.1.2.2.2.2 C.2.2.2 ⟨by decide, by decide⟩) rfl hl.1 rfl (lv_room (Nat.le_of_ble_eq_true rfl)) d_Val_judgeInstruction_1 ⟨Nat.le_refl _, Nat.le_refl _⟩ (fun H locs hX => ?_)
  refine lv_if_eq (tgt := 45) hx hb d_Val_judgeInstruction_4 (by decide) (fun c4 => ?_) (fun c4 => ?_)
  · have h := ite_t c4 h
    refine lv_iload_n hx hb d_Val_judgeInstruction_45 rfl (lv_at hl 2 rfl) ?_
    refine lv_iconst (v := 5) hx hb d_Val_judgeInstruction_46 (by decide) ?_
    refine lv_icmp_eq (tgt := 56) hx hb d_Val_judgeInstruction_47 (by decide) (fun c47 => ?_) (fun c47 => ?_)
    · have h := ite_t c47 h
      exact w_Val_judgeInstruction_56 C hQ x1 x2 x3 s H locs ls hX hl h
    · have h := ite_f c47 h
      refine lv_iload_n hx hb d_Val_judgeInstruction_50 rfl (lv_at hl 2 rfl) ?_
      refine lv_bipush (v := 11) hx hb d_Val_judgeInstruction_51 (by decide) ?_
      refine lv_icmp_ne (tgt := 64) hx hb d_Val_judgeInstruction_53 (by decide) (fun c53 => ?_) (fun c53 => ?_)
      · have h := ite_f c53 h
        refine lv_iload_n hx hb d_Val_judgeInstruction_64 rfl (lv_at hl 2 rfl) ?_
        refine lv_bipush (v := 12) hx hb d_Val_judgeInstruction_65 (by decide) ?_
        refine lv_icmp_eq (tgt := 82) hx hb d_Val_judgeInstruction_67 (by decide) (fun c67 => ?_) (fun c67 => ?_)
        · have h := ite_t c67 h
          exact w_Val_judgeInstruction_82 C hQ x1 x2 x3 s H locs ls hX hl h
        · have h := ite_f c67 h
          refine lv_iload_n hx hb d_Val_judgeInstruction_70 rfl (lv_at hl 2 rfl) ?_
          refine lv_bipush (v := 13) hx hb d_Val_judgeInstruction_71 (by decide) ?_
          refine lv_icmp_eq (tgt := 82) hx hb d_Val_judgeInstruction_73 (by decide) (fun c73 => ?_) (fun c73 => ?_)
          · have h := ite_t c73 h
            exact w_Val_judgeInstruction_82 C hQ x1 x2 x3 s H locs ls hX hl h
          · have h := ite_f c73 h
            refine lv_iload_n hx hb d_Val_judgeInstruction_76 rfl (lv_at hl 2 rfl) ?_
            refine lv_bipush (v := 14) hx hb d_Val_judgeInstruction_77 (by decide) ?_
            refine lv_icmp_ne (tgt := 92) hx hb d_Val_judgeInstruction_79 (by decide) (fun c79 => ?_) (fun c79 => ?_)
            · have h := ite_f c79 h
              refine lv_iload_n hx hb d_Val_judgeInstruction_92 rfl (lv_at hl 2 rfl) ?_
              obtain ⟨r2, hc93, h⟩ := bd1_e h
              refine x_sI (As := [.int x2]) (rest := []) C hX (c_Op_isControl l g x2 r2 hc93 _) (cw_Val_145 C.1.2.2.2.2 C.2.2.2 ⟨by decide, by decide⟩) rfl hl.1 rfl (lv_room (Nat.le_of_ble_eq_true rfl)) d_Val_judgeInstruction_93 ⟨Nat.le_refl _, Nat.le_refl _⟩ (fun H locs hX => ?_)
              refine lv_if_eq (tgt := 108) hx hb d_Val_judgeInstruction_96 (by decide) (fun c96 => ?_) (fun c96 => ?_)
              · have h := ite_t c96 h
                refine lv_aload_n hx hb d_Val_judgeInstruction_108 rfl (lv_at hl 0 rfl) ?_
                refine lv_iload_n hx hb d_Val_judgeInstruction_109 rfl (lv_at hl 1 rfl) ?_
                refine lv_iload_n hx hb d_Val_judgeInstruction_110 rfl (lv_at hl 2 rfl) ?_
                refine lv_iload_n hx hb d_Val_judgeInstruction_111 rfl (lv_at hl 3 rfl) ?_
                obtain ⟨s3, hc112, h⟩ := bd1_e h
                refine x_vV (As := [.int x1, .int x2, .int x3]) (rest := []) C hX (c_Val_judgeOperands l g x1 x2 x3 s s3 hc112) (cw_Val_151 C.1.2.2.2.2 C.2.2.2 ⟨by decide, by decide⟩) (x_rc C hX wg_3 rfl) rfl hl.1 rfl (lv_room (Nat.le_of_ble_eq_true rfl)) d_Val_judgeInstruction_112 ⟨Nat.le_refl _, Nat.le_refl _⟩ (fun H locs hX => ?_)
                refine lv_aload_n hx hb d_Val_judgeInstruction_115 rfl (lv_at hl 0 rfl) ?_
                refine lv_iload_n hx hb d_Val_judgeInstruction_116 rfl (lv_at hl 2 rfl) ?_
                obtain ⟨r4, hc117, h⟩ := bd1_e h
                refine x_sI (As := [.int x2]) (rest := [.ref (g.q 3)]) C hX (c_Op_takes l g x2 r4 hc117 _) (cw_Val_154 C.1.2.2.2.2 C.2.2.2 ⟨by decide, by decide⟩) rfl hl.1 rfl (lv_room (Nat.le_of_ble_eq_true rfl)) d_Val_judgeInstruction_117 ⟨Nat.le_refl _, Nat.le_refl _⟩ (fun H locs hX => ?_)
                obtain ⟨s5, hc120, h⟩ := bd1_e h
                refine x_vV (As := [.int r4]) (rest := []) C hX (c_Val_take l g r4 s3 s5 hc120) (cw_Val_130 C.1.2.2.2.2 C.2.2.2 ⟨by decide, by decide⟩) (x_rc C hX wg_3 rfl) rfl hl.1 rfl (lv_room (Nat.le_of_ble_eq_true rfl)) d_Val_judgeInstruction_120 ⟨Nat.le_refl _, Nat.le_refl _⟩ (fun H locs hX => ?_)
                refine lv_aload_n hx hb d_Val_judgeInstruction_123 rfl (lv_at hl 0 rfl) ?_
                refine lv_iload_n hx hb d_Val_judgeInstruction_124 rfl (lv_at hl 2 rfl) ?_
                obtain ⟨r6, hc125, h⟩ := bd1_e h
                refine x_sI (As := [.int x2]) (rest := [.ref (g.q 3)]) C hX (c_Op_gives l g x2 r6 hc125 _) (cw_Val_157 C.1.2.2.2.2 C.2.2.2 ⟨by decide, by decide⟩) rfl hl.1 rfl (lv_room (Nat.le_of_ble_eq_true rfl)) d_Val_judgeInstruction_125 ⟨Nat.le_refl _, Nat.le_refl _⟩ (fun H locs hX => ?_)
                obtain ⟨s7, hc128, h⟩ := bd1_e h
                refine x_vV (As := [.int r6]) (rest := []) C hX (c_Val_give l g r6 s5 s7 hc128) (cw_Val_160 C.1.2.2.2.2 C.2.2.2 ⟨by decide, by decide⟩) (x_rc C hX wg_3 rfl) rfl hl.1 rfl (lv_room (Nat.le_of_ble_eq_true rfl)) d_Val_judgeInstruction_128 ⟨Nat.le_refl _, Nat.le_refl _⟩ (fun H locs hX => ?_)
                exact w_Val_judgeInstruction_131 C hQ x1 x2 x3 s7 H locs ls hX hl h
              · have h := ite_f c96 h
                refine lv_aload_n hx hb d_Val_judgeInstruction_99 rfl (lv_at hl 0 rfl) ?_
                refine lv_iload_n hx hb d_Val_judgeInstruction_100 rfl (lv_at hl 2 rfl) ?_
                refine lv_iload_n hx hb d_Val_judgeInstruction_101 rfl (lv_at hl 3 rfl) ?_
                obtain ⟨s8, hc102, h⟩ := bd1_e h
                refine x_vV (As := [.int x2, .int x3]) (rest := []) C hX (c_Val_judgeOtherControl l g x2 x3 s s8 hc102) (cw_Val_148 C.1.2.2.2.2 C.2.2.2 ⟨by decide, by decide⟩) (x_rc C hX wg_3 rfl) rfl hl.1 rfl (lv_room (Nat.le_of_ble_eq_true rfl)) d_Val_judgeInstruction_102 ⟨Nat.le_refl _, Nat.le_refl _⟩ (fun H locs hX => ?_)
                refine lv_goto (tgt := 131) hx hb d_Val_judgeInstruction_105 (by decide) ?_
                exact w_Val_judgeInstruction_131 C hQ x1 x2 x3 s8 H locs ls hX hl h
            · have h := ite_t c79 h
              exact w_Val_judgeInstruction_82 C hQ x1 x2 x3 s H locs ls hX hl h
      · have h := ite_t c53 h
        exact w_Val_judgeInstruction_56 C hQ x1 x2 x3 s H locs ls hX hl h
  · have h := ite_f c4 h
    refine lv_aload_n hx hb d_Val_judgeInstruction_7 rfl (lv_at hl 0 rfl) ?_
    refine lv_iload_n hx hb d_Val_judgeInstruction_8 rfl (lv_at hl 2 rfl) ?_
    refine lv_iconst (v := 4) hx hb d_Val_judgeInstruction_9 (by decide) ?_
    refine lv_icmp_ne (tgt := 17) hx hb d_Val_judgeInstruction_10 (by decide) (fun c10 => ?_) (fun c10 => ?_)
    · have h := ite_f c10 h
      refine lv_iconst (v := 0) hx hb d_Val_judgeInstruction_17 (by decide) ?_
      exact w_Val_judgeInstruction_18 C hQ x1 x2 x3 0 s H locs ls hX hl h
    · have h := ite_t c10 h
      refine lv_iconst (v := 1) hx hb d_Val_judgeInstruction_13 (by decide) ?_
      refine lv_goto (tgt := 18) hx hb d_Val_judgeInstruction_14 (by decide) ?_
      exact w_Val_judgeInstruction_18 C hQ x1 x2 x3 1 s H locs ls hX hl h
end WALK
theorem c_Val_judgeInstruction (l : Launch) (g : GX) (x1 : Int32) (x2 : Int32) (x3 : Int32) (s : St) (z : St) (h : f_Val_judgeInstruction x1 x2 x3 s = some z) : MV l g y_Val_judgeInstruction b_Val_judgeInstruction 4 none 4 97 [.ref (g.q 3), .int x1, .int x2, .int x3] (wX g s) (wX g z) :=
  MV.mk (own := R_Val) (by decide) rfl (Nat.le_of_ble_eq_true rfl) fun p e ss m below meth c A Q C hQ ls hX hl => w_Val_judgeInstruction C hQ x1 x2 x3 s _ _ ls hX hl h
