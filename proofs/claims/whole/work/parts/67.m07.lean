-- M_leave
def f_M_leave_99 (x1 : Int32) (x2 : Int32) (x3 : Int32) (s : SM) : Option SM :=
    some s
def f_M_leave_35 (x1 : Int32) (x2 : Int32) (y0 : Int32) (s : SM) : Option SM :=
    gi (s.1 0 22) 9 <|
    lt1 (s.1 34 (Int32.toNatClampNeg (s.1 0 22))) fun v1 =>
    lt1 (stI s 0 23 v1) fun s2 =>
    lt1 (s2.1 0 22 - 1) fun v3 =>
    lt1 (stI s2 0 22 v3) fun s4 =>
    if s4.1 0 22 ≤ 0 then
      lt1 (stI s4 0 20 0) fun s5 =>
      lt1 (stI s5 0 21 y0) fun s6 =>
      f_M_leave_99 x1 x2 y0 s6
    else
      gi (s4.1 0 23) 400 <|
      lt1 (stI s4 35 (Int32.toNatClampNeg (s4.1 0 23)) y0) fun s7 =>
      lt1 (s7.1 0 23 + x2) fun v8 =>
      lt1 (stI s7 0 23 v8) fun s9 =>
      f_M_leave_99 x1 x2 y0 s9
def f_M_leave (s : SM) : Option SM :=
    gi (s.1 0 22) 9 <|
    lt1 (s.1 32 (Int32.toNatClampNeg (s.1 0 22))) fun v1 =>
    bd1 (f_M_resultsOf s v1) fun r2 =>
    if r2 ≤ 0 then
      f_M_leave_35 v1 r2 0 s
    else
      lt1 (s.1 0 23 - 1) fun v3 =>
      gi v3 400 <|
      lt1 (s.1 35 (Int32.toNatClampNeg v3)) fun v4 =>
      f_M_leave_35 v1 r2 v4 s
section WALK
variable {p : Program} {l : Launch} {e : Env} {ss : State} {m : MethodId} {args : Array Value} {below : List Frame} {meth : Method} {c : Code} {Q : State → Prop} {g : GX} {A : Nat → Prop}
set_option maxHeartbeats 4000000 in
set_option maxRecDepth 100000 in
theorem w_M_leave_99 {z : SM} (C : Cx g A p m c b_M_leave 4 ss args R_M) (hQ : ∀ (pc : Nat) (H : Heap) (locs : List Loc) (ls : Array Slot), XW g A ss (wM g z) H locs → decode b_M_leave pc = .ok (.return_, 1) → W p l e (rmX 1 21) ss m args below meth c H locs 0 0 Q (F0 m pc ls [])) : ∀ (x1 : Int32) (x2 : Int32) (x3 : Int32) (s : SM) (H : Heap) (locs : List Loc) (ls : Array Slot), XW g A ss (wM g s) H locs → lv_has ls 4 [(0, .ref (g.q 60)), (1, .int x1), (2, .int x2), (3, .int x3)] → f_M_leave_99 x1 x2 x3 s = some z → W p l e (rmX 1 21) ss m args below meth c H locs 0 0 Q (F0 m 99 ls []) := by
  have ⟨⟨hx, hb, hml, hown, hts⟩, hK, hA, hN⟩ := C
  intro x1 x2 x3 s H locs ls hX hl h
  rw [f_M_leave_99] at h
  obtain rfl := so1 h
  exact hQ _ H locs ls hX d_M_leave_99
set_option maxHeartbeats 4000000 in
set_option maxRecDepth 100000 in
theorem w_M_leave_35 {z : SM} (C : Cx g A p m c b_M_leave 4 ss args R_M) (hQ : ∀ (pc : Nat) (H : Heap) (locs : List Loc) (ls : Array Slot), XW g A ss (wM g z) H locs → decode b_M_leave pc = .ok (.return_, 1) → W p l e (rmX 1 21) ss m args below meth c H locs 0 0 Q (F0 m pc ls [])) : ∀ (x1 : Int32) (x2 : Int32) (y0 : Int32) (s : SM) (H : Heap) (locs : List Loc) (ls : Array Slot), XW g A ss (wM g s) H locs → lv_has ls 4 [(0, .ref (g.q 60)), (1, .int x1), (2, .int x2)] → f_M_leave_35 x1 x2 y0 s = some z → W p l e (rmX 1 21) ss m args below meth c H locs 0 0 Q (F0 m 35 ls [.int y0]) := by
  have ⟨⟨hx, hb, hml, hown, hts⟩, hK, hA, hN⟩ := C
  intro x1 x2 y0 s H locs ls hX hl h
  rw [f_M_leave_35] at h
  refine lv_istore_n (lv' := [(3, .int y0), (0, .ref (g.q 60)), (1, .int x1), (2, .int x2)]) hx hb d_M_leave_35 rfl hl (by decide) rfl (fun ls hl => ?_)
  refine lv_aload_n hx hb d_M_leave_36 rfl (lv_at hl 1 rfl) ?_
  refine lv_aload_n hx hb d_M_leave_37 rfl (lv_at hl 1 rfl) ?_
  refine gm_localsAt C hX fl_M_111 d_M_leave_38 ?_
  refine lv_aload_n hx hb d_M_leave_41 rfl (lv_at hl 1 rfl) ?_
  refine gm_calls C hX fl_M_340 d_M_leave_42 ?_
  obtain ⟨hz45, h⟩ := gi_e h
  obtain ⟨v1, ev1, h⟩ := lt1_e h
  refine alm_34 C hX hz45 d_M_leave_45 ev1 ?_
  obtain ⟨s2, es2, h⟩ := lt1_e h
  refine pm_sp C hX fl_M_343 d_M_leave_46 (fun H locs hX => ?_)
  rw [← es2] at hX
  refine lv_aload_n hx hb d_M_leave_49 rfl (lv_at hl 1 rfl) ?_
  refine lv_dup hx hb d_M_leave_50 rfl ?_
  refine gm_calls C hX fl_M_340 d_M_leave_51 ?_
  refine lv_iconst (v := 1) hx hb d_M_leave_54 (by decide) ?_
  obtain ⟨v3, ev3, h⟩ := lt1_e h
  refine x_isub hx hb d_M_leave_55 ev3 ?_
  obtain ⟨s4, es4, h⟩ := lt1_e h
  refine pm_calls C hX fl_M_340 d_M_leave_56 (fun H locs hX => ?_)
  rw [← es4] at hX
  refine lv_aload_n hx hb d_M_leave_59 rfl (lv_at hl 1 rfl) ?_
  refine gm_calls C hX fl_M_340 d_M_leave_60 ?_
  refine lv_if_le (tgt := 89) hx hb d_M_leave_63 (by decide) (fun c63 => ?_) (fun c63 => ?_)
  · have h := ite_t c63 h
    refine lv_aload_n hx hb d_M_leave_89 rfl (lv_at hl 1 rfl) ?_
    refine lv_iconst (v := 0) hx hb d_M_leave_90 (by decide) ?_
    obtain ⟨s5, es5, h⟩ := lt1_e h
    refine pm_runs C hX fl_M_134 (Or.inl rfl) d_M_leave_91 (fun H locs hX => ?_)
    rw [← es5] at hX
    refine lv_aload_n hx hb d_M_leave_94 rfl (lv_at hl 1 rfl) ?_
    refine lv_iload_n hx hb d_M_leave_95 rfl (lv_at hl 0 rfl) ?_
    obtain ⟨s6, es6, h⟩ := lt1_e h
    refine pm_result C hX fl_M_137 d_M_leave_96 (fun H locs hX => ?_)
    rw [← es6] at hX
    exact w_M_leave_99 C hQ x1 x2 y0 s6 H locs ls hX (lv_sub hl [1, 2, 3, 0] rfl) h
  · have h := ite_f c63 h
    refine lv_aload_n hx hb d_M_leave_66 rfl (lv_at hl 1 rfl) ?_
    refine gm_stack C hX fl_M_114 d_M_leave_67 ?_
    refine lv_aload_n hx hb d_M_leave_70 rfl (lv_at hl 1 rfl) ?_
    refine gm_sp C hX fl_M_343 d_M_leave_71 ?_
    refine lv_iload_n hx hb d_M_leave_74 rfl (lv_at hl 0 rfl) ?_
    obtain ⟨hz75, h⟩ := gi_e h
    obtain ⟨s7, es7, h⟩ := lt1_e h
    refine asm_35 C hX hz75 d_M_leave_75 (fun H locs hX => ?_)
    rw [← es7] at hX
    refine lv_aload_n hx hb d_M_leave_76 rfl (lv_at hl 1 rfl) ?_
    refine lv_dup hx hb d_M_leave_77 rfl ?_
    refine gm_sp C hX fl_M_343 d_M_leave_78 ?_
    refine lv_iload_n hx hb d_M_leave_81 rfl (lv_at hl 3 rfl) ?_
    obtain ⟨v8, ev8, h⟩ := lt1_e h
    refine x_iadd hx hb d_M_leave_82 ev8 ?_
    obtain ⟨s9, es9, h⟩ := lt1_e h
    refine pm_sp C hX fl_M_343 d_M_leave_83 (fun H locs hX => ?_)
    rw [← es9] at hX
    refine lv_goto (tgt := 99) hx hb d_M_leave_86 (by decide) ?_
    exact w_M_leave_99 C hQ x1 x2 y0 s9 H locs ls hX (lv_sub hl [1, 2, 3, 0] rfl) h
set_option maxHeartbeats 4000000 in
set_option maxRecDepth 100000 in
theorem w_M_leave {z : SM} (C : Cx g A p m c b_M_leave 4 ss args R_M) (hQ : ∀ (pc : Nat) (H : Heap) (locs : List Loc) (ls : Array Slot), XW g A ss (wM g z) H locs → decode b_M_leave pc = .ok (.return_, 1) → W p l e (rmX 1 21) ss m args below meth c H locs 0 0 Q (F0 m pc ls [])) : ∀ (s : SM) (H : Heap) (locs : List Loc) (ls : Array Slot), XW g A ss (wM g s) H locs → lv_has ls 4 [(0, .ref (g.q 60))] → f_M_leave s = some z → W p l e (rmX 1 21) ss m args below meth c H locs 0 0 Q (F0 m 0 ls []) := by
  have ⟨⟨hx, hb, hml, hown, hts⟩, hK, hA, hN⟩ := C
  intro s H locs ls hX hl h
  rw [f_M_leave] at h
  refine lv_aload_n hx hb d_M_leave_0 rfl (lv_at hl 0 rfl) ?_
  refine gm_function C hX fl_M_105 d_M_leave_1 ?_
  refine lv_aload_n hx hb d_M_leave_4 rfl (lv_at hl 0 rfl) ?_
  refine gm_calls C hX fl_M_340 d_M_leave_5 ?_
  obtain ⟨hz8, h⟩ := gi_e h
  obtain ⟨v1, ev1, h⟩ := lt1_e h
  refine alm_32 C hX hz8 d_M_leave_8 ev1 ?_
  refine lv_istore_n (lv' := [(1, .int v1), (0, .ref (g.q 60))]) hx hb d_M_leave_9 rfl hl (by decide) rfl (fun ls hl => ?_)
  refine lv_aload_n hx hb d_M_leave_10 rfl (lv_at hl 1 rfl) ?_
  refine lv_iload_n hx hb d_M_leave_11 rfl (lv_at hl 0 rfl) ?_
  obtain ⟨r2, hc12, h⟩ := bd1_e h
  refine x_vI (As := [.int v1]) (rest := []) C hX (c_M_resultsOf l g v1 s r2 hc12) (cw_M_292 C.1.2.2.2.2 C.2.2.2 ⟨by decide, by decide⟩) (x_rc C hX vg_0 rfl) rfl hl.1 rfl (lv_room (Nat.le_of_ble_eq_true rfl)) d_M_leave_12 ⟨Nat.le_refl _, Nat.le_refl _⟩ (fun H locs hX => ?_)
  refine lv_istore_n (lv' := [(2, .int r2), (1, .int v1), (0, .ref (g.q 60))]) hx hb d_M_leave_15 rfl hl (by decide) rfl (fun ls hl => ?_)
  refine lv_iload_n hx hb d_M_leave_16 rfl (lv_at hl 0 rfl) ?_
  refine lv_if_le (tgt := 34) hx hb d_M_leave_17 (by decide) (fun c17 => ?_) (fun c17 => ?_)
  · have h := ite_t c17 h
    refine lv_iconst (v := 0) hx hb d_M_leave_34 (by decide) ?_
    exact w_M_leave_35 C hQ v1 r2 0 s H locs ls hX (lv_sub hl [2, 1, 0] rfl) h
  · have h := ite_f c17 h
    refine lv_aload_n hx hb d_M_leave_20 rfl (lv_at hl 2 rfl) ?_
    refine gm_stack C hX fl_M_114 d_M_leave_21 ?_
    refine lv_aload_n hx hb d_M_leave_24 rfl (lv_at hl 2 rfl) ?_
    refine gm_sp C hX fl_M_343 d_M_leave_25 ?_
    refine lv_iconst (v := 1) hx hb d_M_leave_28 (by decide) ?_
    obtain ⟨v3, ev3, h⟩ := lt1_e h
    refine x_isub hx hb d_M_leave_29 ev3 ?_
    obtain ⟨hz30, h⟩ := gi_e h
    obtain ⟨v4, ev4, h⟩ := lt1_e h
    refine alm_35 C hX hz30 d_M_leave_30 ev4 ?_
    refine lv_goto (tgt := 35) hx hb d_M_leave_31 (by decide) ?_
    exact w_M_leave_35 C hQ v1 r2 v4 s H locs ls hX (lv_sub hl [2, 1, 0] rfl) h
end WALK
theorem c_M_leave (l : Launch) (g : GX) (s : SM) (z : SM) (h : f_M_leave s = some z) : MV l g y_M_leave b_M_leave 4 none 1 21 [.ref (g.q 60)] (wM g s) (wM g z) :=
  MV.mk (own := R_M) (by decide) rfl (Nat.le_of_ble_eq_true rfl) fun p e ss m below meth c A Q C hQ ls hX hl => w_M_leave C hQ s _ _ ls hX hl h
-- M_settle
def f_M_settle_145 (x1 : Int32) (s : SM) : Option SM :=
    some s
def f_M_settle_142 (k2 : Int32 → SM → Option SM) (x1 : Int32) (x2 : Int32) (s : SM) : Option SM :=
    k2 x1 s
def f_M_settle_119 (k2 : Int32 → SM → Option SM) (x1 : Int32) (x2 : Int32) (s : SM) : Option SM :=
    gi x2 250 <|
    lt1 (s.1 14 (Int32.toNatClampNeg x2)) fun v1 =>
    if v1 = 11 then
      lt1 (x2 + 1) fun v2 =>
      gi (s.1 0 22) 9 <|
      lt1 (stI s 33 (Int32.toNatClampNeg (s.1 0 22)) v2) fun s3 =>
      f_M_settle_142 k2 x1 x2 s3
    else
      f_M_settle_142 k2 x1 x2 s
def f_M_settle_49 (k2 : Int32 → SM → Option SM) (x1 : Int32) (x2 : Int32) (y0 : Int32) (s : SM) : Option SM :=
    gi x2 250 <|
    lt1 (s.1 14 (Int32.toNatClampNeg x2)) fun v1 =>
    if v1 = 5 then
      gi x2 250 <|
      lt1 (s.1 17 (Int32.toNatClampNeg x2)) fun v6 =>
      gi v6 250 <|
      lt1 (s.1 18 (Int32.toNatClampNeg v6)) fun v7 =>
      gi (s.1 0 22) 9 <|
      lt1 (stI s 33 (Int32.toNatClampNeg (s.1 0 22)) v7) fun s8 =>
      f_M_settle_142 k2 y0 x2 s8
    else
      gi x2 250 <|
      lt1 (s.1 14 (Int32.toNatClampNeg x2)) fun v2 =>
      if v2 = 11 then
        gi (s.1 0 22) 9 <|
        lt1 (s.1 32 (Int32.toNatClampNeg (s.1 0 22))) fun v3 =>
        gi v3 8 <|
        lt1 (s.1 23 (Int32.toNatClampNeg v3)) fun v4 =>
        if x2 = v4 then
          bd1 (f_M_leave s) fun s5 =>
          f_M_settle_142 k2 y0 x2 s5
        else
          f_M_settle_119 k2 y0 x2 s
      else
        f_M_settle_119 k2 y0 x2 s
def f_M_settle_44 (k2 : Int32 → SM → Option SM) (x1 : Int32) (x2 : Int32) (s : SM) : Option SM :=
    f_M_settle_49 k2 x1 x2 1 s
def f_M_settle_2 : Nat → Int32 → SM → Option SM
  | 0, _, _ => none
  | n + 1, x1, s =>
    if s.1 0 20 = 0 then
      f_M_settle_145 x1 s
    else
      if x1 = 0 then
        f_M_settle_145 x1 s
      else
        gi (s.1 0 22) 9 <|
        lt1 (s.1 33 (Int32.toNatClampNeg (s.1 0 22))) fun v1 =>
        gi v1 250 <|
        lt1 (s.1 14 (Int32.toNatClampNeg v1)) fun v2 =>
        if v2 = 11 then
          f_M_settle_44 (f_M_settle_2 n) x1 v1 s
        else
          gi v1 250 <|
          lt1 (s.1 14 (Int32.toNatClampNeg v1)) fun v3 =>
          if v3 = 5 then
            f_M_settle_44 (f_M_settle_2 n) x1 v1 s
          else
            f_M_settle_49 (f_M_settle_2 n) x1 v1 0 s
def f_M_settle (s : SM) : Option SM :=
    f_M_settle_2 FU 1 s
section WALK
variable {p : Program} {l : Launch} {e : Env} {ss : State} {m : MethodId} {args : Array Value} {below : List Frame} {meth : Method} {c : Code} {Q : State → Prop} {g : GX} {A : Nat → Prop}
set_option maxHeartbeats 4000000 in
set_option maxRecDepth 100000 in
theorem w_M_settle_145 {z : SM} (C : Cx g A p m c b_M_settle 3 ss args R_M) (hQ : ∀ (pc : Nat) (H : Heap) (locs : List Loc) (ls : Array Slot), XW g A ss (wM g z) H locs → decode b_M_settle pc = .ok (.return_, 1) → W p l e (rmX 2 44) ss m args below meth c H locs 0 0 Q (F0 m pc ls [])) : ∀ (x1 : Int32) (s : SM) (H : Heap) (locs : List Loc) (ls : Array Slot), XW g A ss (wM g s) H locs → lv_has ls 3 [(0, .ref (g.q 60)), (1, .int x1)] → f_M_settle_145 x1 s = some z → W p l e (rmX 2 44) ss m args below meth c H locs 0 0 Q (F0 m 145 ls []) := by
  have ⟨⟨hx, hb, hml, hown, hts⟩, hK, hA, hN⟩ := C
  intro x1 s H locs ls hX hl h
  rw [f_M_settle_145] at h
  obtain rfl := so1 h
  exact hQ _ H locs ls hX d_M_settle_145
set_option maxHeartbeats 4000000 in
set_option maxRecDepth 100000 in
theorem w_M_settle_142 {z : SM} (C : Cx g A p m c b_M_settle 3 ss args R_M) (hQ : ∀ (pc : Nat) (H : Heap) (locs : List Loc) (ls : Array Slot), XW g A ss (wM g z) H locs → decode b_M_settle pc = .ok (.return_, 1) → W p l e (rmX 2 44) ss m args below meth c H locs 0 0 Q (F0 m pc ls [])) (k2 : Int32 → SM → Option SM) (hk2 : ∀ (x1 : Int32) (s : SM) (H : Heap) (locs : List Loc) (ls : Array Slot), XW g A ss (wM g s) H locs → lv_has ls 3 [(0, .ref (g.q 60)), (1, .int x1)] → k2 x1 s = some z → W p l e (rmX 2 44) ss m args below meth c H locs 0 0 Q (F0 m 2 ls [])) : ∀ (x1 : Int32) (x2 : Int32) (s : SM) (H : Heap) (locs : List Loc) (ls : Array Slot), XW g A ss (wM g s) H locs → lv_has ls 3 [(0, .ref (g.q 60)), (1, .int x1), (2, .int x2)] → f_M_settle_142 k2 x1 x2 s = some z → W p l e (rmX 2 44) ss m args below meth c H locs 0 0 Q (F0 m 142 ls []) := by
  have ⟨⟨hx, hb, hml, hown, hts⟩, hK, hA, hN⟩ := C
  intro x1 x2 s H locs ls hX hl h
  rw [f_M_settle_142] at h
  refine lv_goto (tgt := 2) hx hb d_M_settle_142 (by decide) ?_
  exact hk2 x1 s H locs ls hX (lv_sub hl [0, 1] rfl) h
set_option maxHeartbeats 4000000 in
set_option maxRecDepth 100000 in
theorem w_M_settle_119 {z : SM} (C : Cx g A p m c b_M_settle 3 ss args R_M) (hQ : ∀ (pc : Nat) (H : Heap) (locs : List Loc) (ls : Array Slot), XW g A ss (wM g z) H locs → decode b_M_settle pc = .ok (.return_, 1) → W p l e (rmX 2 44) ss m args below meth c H locs 0 0 Q (F0 m pc ls [])) (k2 : Int32 → SM → Option SM) (hk2 : ∀ (x1 : Int32) (s : SM) (H : Heap) (locs : List Loc) (ls : Array Slot), XW g A ss (wM g s) H locs → lv_has ls 3 [(0, .ref (g.q 60)), (1, .int x1)] → k2 x1 s = some z → W p l e (rmX 2 44) ss m args below meth c H locs 0 0 Q (F0 m 2 ls [])) : ∀ (x1 : Int32) (x2 : Int32) (s : SM) (H : Heap) (locs : List Loc) (ls : Array Slot), XW g A ss (wM g s) H locs → lv_has ls 3 [(0, .ref (g.q 60)), (1, .int x1), (2, .int x2)] → f_M_settle_119 k2 x1 x2 s = some z → W p l e (rmX 2 44) ss m args below meth c H locs 0 0 Q (F0 m 119 ls []) := by
  have ⟨⟨hx, hb, hml, hown, hts⟩, hK, hA, hN⟩ := C
  intro x1 x2 s H locs ls hX hl h
  rw [f_M_settle_119] at h
  refine lv_aload_n hx hb d_M_settle_119 rfl (lv_at hl 0 rfl) ?_
  refine gm_op C hX fl_M_51 d_M_settle_120 ?_
  refine lv_iload_n hx hb d_M_settle_123 rfl (lv_at hl 2 rfl) ?_
  obtain ⟨hz124, h⟩ := gi_e h
  obtain ⟨v1, ev1, h⟩ := lt1_e h
  refine alm_14 C hX hz124 d_M_settle_124 ev1 ?_
  refine lv_bipush (v := 11) hx hb d_M_settle_125 (by decide) ?_
  refine lv_icmp_ne (tgt := 142) hx hb d_M_settle_127 (by decide) (fun c127 => ?_) (fun c127 => ?_)
  · have h := ite_f c127 h
    exact w_M_settle_142 C hQ k2 hk2 x1 x2 s H locs ls hX hl h
  · have h := ite_t c127 h
    refine lv_aload_n hx hb d_M_settle_130 rfl (lv_at hl 0 rfl) ?_
    refine gm_place C hX fl_M_108 d_M_settle_131 ?_
    refine lv_aload_n hx hb d_M_settle_134 rfl (lv_at hl 0 rfl) ?_
    refine gm_calls C hX fl_M_340 d_M_settle_135 ?_
    refine lv_iload_n hx hb d_M_settle_138 rfl (lv_at hl 2 rfl) ?_
    refine lv_iconst (v := 1) hx hb d_M_settle_139 (by decide) ?_
    obtain ⟨v2, ev2, h⟩ := lt1_e h
    refine x_iadd hx hb d_M_settle_140 ev2 ?_
    obtain ⟨hz141, h⟩ := gi_e h
    obtain ⟨s3, es3, h⟩ := lt1_e h
    refine asm_33 C hX hz141 d_M_settle_141 (fun H locs hX => ?_)
    rw [← es3] at hX
    exact w_M_settle_142 C hQ k2 hk2 x1 x2 s3 H locs ls hX hl h
set_option maxHeartbeats 4000000 in
set_option maxRecDepth 100000 in
theorem w_M_settle_49 {z : SM} (C : Cx g A p m c b_M_settle 3 ss args R_M) (hQ : ∀ (pc : Nat) (H : Heap) (locs : List Loc) (ls : Array Slot), XW g A ss (wM g z) H locs → decode b_M_settle pc = .ok (.return_, 1) → W p l e (rmX 2 44) ss m args below meth c H locs 0 0 Q (F0 m pc ls [])) (k2 : Int32 → SM → Option SM) (hk2 : ∀ (x1 : Int32) (s : SM) (H : Heap) (locs : List Loc) (ls : Array Slot), XW g A ss (wM g s) H locs → lv_has ls 3 [(0, .ref (g.q 60)), (1, .int x1)] → k2 x1 s = some z → W p l e (rmX 2 44) ss m args below meth c H locs 0 0 Q (F0 m 2 ls [])) : ∀ (x1 : Int32) (x2 : Int32) (y0 : Int32) (s : SM) (H : Heap) (locs : List Loc) (ls : Array Slot), XW g A ss (wM g s) H locs → lv_has ls 3 [(0, .ref (g.q 60)), (1, .int x1), (2, .int x2)] → f_M_settle_49 k2 x1 x2 y0 s = some z → W p l e (rmX 2 44) ss m args below meth c H locs 0 0 Q (F0 m 49 ls [.int y0]) := by
  have ⟨⟨hx, hb, hml, hown, hts⟩, hK, hA, hN⟩ := C
  intro x1 x2 y0 s H locs ls hX hl h
  rw [f_M_settle_49] at h
  refine lv_istore_n (lv' := [(1, .int y0), (0, .ref (g.q 60)), (2, .int x2)]) hx hb d_M_settle_49 rfl hl (by decide) rfl (fun ls hl => ?_)
  refine lv_aload_n hx hb d_M_settle_50 rfl (lv_at hl 1 rfl) ?_
  refine gm_op C hX fl_M_51 d_M_settle_51 ?_
  refine lv_iload_n hx hb d_M_settle_54 rfl (lv_at hl 2 rfl) ?_
  obtain ⟨hz55, h⟩ := gi_e h
  obtain ⟨v1, ev1, h⟩ := lt1_e h
  refine alm_14 C hX hz55 d_M_settle_55 ev1 ?_
  refine lv_iconst (v := 5) hx hb d_M_settle_56 (by decide) ?_
  refine lv_icmp_ne (tgt := 83) hx hb d_M_settle_57 (by decide) (fun c57 => ?_) (fun c57 => ?_)
  · have h := ite_f c57 h
    refine lv_aload_n hx hb d_M_settle_83 rfl (lv_at hl 1 rfl) ?_
    refine gm_op C hX fl_M_51 d_M_settle_84 ?_
    refine lv_iload_n hx hb d_M_settle_87 rfl (lv_at hl 2 rfl) ?_
    obtain ⟨hz88, h⟩ := gi_e h
    obtain ⟨v2, ev2, h⟩ := lt1_e h
    refine alm_14 C hX hz88 d_M_settle_88 ev2 ?_
    refine lv_bipush (v := 11) hx hb d_M_settle_89 (by decide) ?_
    refine lv_icmp_ne (tgt := 119) hx hb d_M_settle_91 (by decide) (fun c91 => ?_) (fun c91 => ?_)
    · have h := ite_f c91 h
      exact w_M_settle_119 C hQ k2 hk2 y0 x2 s H locs ls hX (lv_sub hl [1, 0, 2] rfl) h
    · have h := ite_t c91 h
      refine lv_iload_n hx hb d_M_settle_94 rfl (lv_at hl 2 rfl) ?_
      refine lv_aload_n hx hb d_M_settle_95 rfl (lv_at hl 1 rfl) ?_
      refine gm_close C hX fl_M_78 d_M_settle_96 ?_
      refine lv_aload_n hx hb d_M_settle_99 rfl (lv_at hl 1 rfl) ?_
      refine gm_function C hX fl_M_105 d_M_settle_100 ?_
      refine lv_aload_n hx hb d_M_settle_103 rfl (lv_at hl 1 rfl) ?_
      refine gm_calls C hX fl_M_340 d_M_settle_104 ?_
      obtain ⟨hz107, h⟩ := gi_e h
      obtain ⟨v3, ev3, h⟩ := lt1_e h
      refine alm_32 C hX hz107 d_M_settle_107 ev3 ?_
      obtain ⟨hz108, h⟩ := gi_e h
      obtain ⟨v4, ev4, h⟩ := lt1_e h
      refine alm_23 C hX hz108 d_M_settle_108 ev4 ?_
      refine lv_icmp_ne (tgt := 119) hx hb d_M_settle_109 (by decide) (fun c109 => ?_) (fun c109 => ?_)
      · have h := ite_f c109 h
        exact w_M_settle_119 C hQ k2 hk2 y0 x2 s H locs ls hX (lv_sub hl [1, 0, 2] rfl) h
      · have h := ite_t c109 h
        refine lv_aload_n hx hb d_M_settle_112 rfl (lv_at hl 1 rfl) ?_
        obtain ⟨s5, hc113, h⟩ := bd1_e h
        refine x_vV (As := []) (rest := []) C hX (c_M_leave l g s s5 hc113) (cw_M_349 C.1.2.2.2.2 C.2.2.2 ⟨by decide, by decide⟩) (x_rc C hX vg_0 rfl) rfl hl.1 rfl (lv_room (Nat.le_of_ble_eq_true rfl)) d_M_settle_113 ⟨Nat.le_refl _, Nat.le_refl _⟩ (fun H locs hX => ?_)
        refine lv_goto (tgt := 142) hx hb d_M_settle_116 (by decide) ?_
        exact w_M_settle_142 C hQ k2 hk2 y0 x2 s5 H locs ls hX (lv_sub hl [1, 0, 2] rfl) h
  · have h := ite_t c57 h
    refine lv_aload_n hx hb d_M_settle_60 rfl (lv_at hl 1 rfl) ?_
    refine gm_place C hX fl_M_108 d_M_settle_61 ?_
    refine lv_aload_n hx hb d_M_settle_64 rfl (lv_at hl 1 rfl) ?_
    refine gm_calls C hX fl_M_340 d_M_settle_65 ?_
    refine lv_aload_n hx hb d_M_settle_68 rfl (lv_at hl 1 rfl) ?_
    refine gm_endAt C hX fl_M_63 d_M_settle_69 ?_
    refine lv_aload_n hx hb d_M_settle_72 rfl (lv_at hl 1 rfl) ?_
    refine gm_inside C hX fl_M_60 d_M_settle_73 ?_
    refine lv_iload_n hx hb d_M_settle_76 rfl (lv_at hl 2 rfl) ?_
    obtain ⟨hz77, h⟩ := gi_e h
    obtain ⟨v6, ev6, h⟩ := lt1_e h
    refine alm_17 C hX hz77 d_M_settle_77 ev6 ?_
    obtain ⟨hz78, h⟩ := gi_e h
    obtain ⟨v7, ev7, h⟩ := lt1_e h
    refine alm_18 C hX hz78 d_M_settle_78 ev7 ?_
    obtain ⟨hz79, h⟩ := gi_e h
    obtain ⟨s8, es8, h⟩ := lt1_e h
    refine asm_33 C hX hz79 d_M_settle_79 (fun H locs hX => ?_)
    rw [← es8] at hX
    refine lv_goto (tgt := 142) hx hb d_M_settle_80 (by decide) ?_
    exact w_M_settle_142 C hQ k2 hk2 y0 x2 s8 H locs ls hX (lv_sub hl [1, 0, 2] rfl) h
set_option maxHeartbeats 4000000 in
set_option maxRecDepth 100000 in
theorem w_M_settle_44 {z : SM} (C : Cx g A p m c b_M_settle 3 ss args R_M) (hQ : ∀ (pc : Nat) (H : Heap) (locs : List Loc) (ls : Array Slot), XW g A ss (wM g z) H locs → decode b_M_settle pc = .ok (.return_, 1) → W p l e (rmX 2 44) ss m args below meth c H locs 0 0 Q (F0 m pc ls [])) (k2 : Int32 → SM → Option SM) (hk2 : ∀ (x1 : Int32) (s : SM) (H : Heap) (locs : List Loc) (ls : Array Slot), XW g A ss (wM g s) H locs → lv_has ls 3 [(0, .ref (g.q 60)), (1, .int x1)] → k2 x1 s = some z → W p l e (rmX 2 44) ss m args below meth c H locs 0 0 Q (F0 m 2 ls [])) : ∀ (x1 : Int32) (x2 : Int32) (s : SM) (H : Heap) (locs : List Loc) (ls : Array Slot), XW g A ss (wM g s) H locs → lv_has ls 3 [(0, .ref (g.q 60)), (1, .int x1), (2, .int x2)] → f_M_settle_44 k2 x1 x2 s = some z → W p l e (rmX 2 44) ss m args below meth c H locs 0 0 Q (F0 m 44 ls []) := by
  have ⟨⟨hx, hb, hml, hown, hts⟩, hK, hA, hN⟩ := C
  intro x1 x2 s H locs ls hX hl h
  rw [f_M_settle_44] at h
  refine lv_iconst (v := 1) hx hb d_M_settle_44 (by decide) ?_
  refine lv_goto (tgt := 49) hx hb d_M_settle_45 (by decide) ?_
  exact w_M_settle_49 C hQ k2 hk2 x1 x2 1 s H locs ls hX hl h
set_option maxHeartbeats 4000000 in
set_option maxRecDepth 100000 in
theorem w_M_settle_2 {z : SM} (C : Cx g A p m c b_M_settle 3 ss args R_M) (hQ : ∀ (pc : Nat) (H : Heap) (locs : List Loc) (ls : Array Slot), XW g A ss (wM g z) H locs → decode b_M_settle pc = .ok (.return_, 1) → W p l e (rmX 2 44) ss m args below meth c H locs 0 0 Q (F0 m pc ls [])) (n : Nat) : ∀ (x1 : Int32) (s : SM) (H : Heap) (locs : List Loc) (ls : Array Slot), XW g A ss (wM g s) H locs → lv_has ls 3 [(0, .ref (g.q 60)), (1, .int x1)] → f_M_settle_2 n x1 s = some z → W p l e (rmX 2 44) ss m args below meth c H locs 0 0 Q (F0 m 2 ls []) := by
  have ⟨⟨hx, hb, hml, hown, hts⟩, hK, hA, hN⟩ := C
  induction n with
  | zero => intro x1 s H locs ls hX hl h; cases h
  | succ n ih =>
    intro x1 s H locs ls hX hl h
    rw [f_M_settle_2] at h
    refine lv_aload_n hx hb d_M_settle_2 rfl (lv_at hl 0 rfl) ?_
    refine gm_runs C hX fl_M_134 d_M_settle_3 ?_
    refine lv_if_eq (tgt := 145) hx hb d_M_settle_6 (by decide) (fun c6 => ?_) (fun c6 => ?_)
    · have h := ite_t c6 h
      exact w_M_settle_145 C hQ x1 s H locs ls hX hl h
    · have h := ite_f c6 h
      refine lv_iload_n hx hb d_M_settle_9 rfl (lv_at hl 1 rfl) ?_
      refine lv_if_eq (tgt := 145) hx hb d_M_settle_10 (by decide) (fun c10 => ?_) (fun c10 => ?_)
      · have h := ite_t c10 h
        exact w_M_settle_145 C hQ x1 s H locs ls hX hl h
      · have h := ite_f c10 h
        refine lv_aload_n hx hb d_M_settle_13 rfl (lv_at hl 0 rfl) ?_
        refine gm_place C hX fl_M_108 d_M_settle_14 ?_
        refine lv_aload_n hx hb d_M_settle_17 rfl (lv_at hl 0 rfl) ?_
        refine gm_calls C hX fl_M_340 d_M_settle_18 ?_
        obtain ⟨hz21, h⟩ := gi_e h
        obtain ⟨v1, ev1, h⟩ := lt1_e h
        refine alm_33 C hX hz21 d_M_settle_21 ev1 ?_
        refine lv_istore_n (lv' := [(2, .int v1), (0, .ref (g.q 60)), (1, .int x1)]) hx hb d_M_settle_22 rfl hl (by decide) rfl (fun ls hl => ?_)
        refine lv_aload_n hx hb d_M_settle_23 rfl (lv_at hl 1 rfl) ?_
        refine gm_op C hX fl_M_51 d_M_settle_24 ?_
        refine lv_iload_n hx hb d_M_settle_27 rfl (lv_at hl 0 rfl) ?_
        obtain ⟨hz28, h⟩ := gi_e h
        obtain ⟨v2, ev2, h⟩ := lt1_e h
        refine alm_14 C hX hz28 d_M_settle_28 ev2 ?_
        refine lv_bipush (v := 11) hx hb d_M_settle_29 (by decide) ?_
        refine lv_icmp_eq (tgt := 44) hx hb d_M_settle_31 (by decide) (fun c31 => ?_) (fun c31 => ?_)
        · have h := ite_t c31 h
          exact w_M_settle_44 C hQ (f_M_settle_2 n) ih x1 v1 s H locs ls hX (lv_sub hl [1, 2, 0] rfl) h
        · have h := ite_f c31 h
          refine lv_aload_n hx hb d_M_settle_34 rfl (lv_at hl 1 rfl) ?_
          refine gm_op C hX fl_M_51 d_M_settle_35 ?_
          refine lv_iload_n hx hb d_M_settle_38 rfl (lv_at hl 0 rfl) ?_
          obtain ⟨hz39, h⟩ := gi_e h
          obtain ⟨v3, ev3, h⟩ := lt1_e h
          refine alm_14 C hX hz39 d_M_settle_39 ev3 ?_
          refine lv_iconst (v := 5) hx hb d_M_settle_40 (by decide) ?_
          refine lv_icmp_ne (tgt := 48) hx hb d_M_settle_41 (by decide) (fun c41 => ?_) (fun c41 => ?_)
          · have h := ite_f c41 h
            refine lv_iconst (v := 0) hx hb d_M_settle_48 (by decide) ?_
            exact w_M_settle_49 C hQ (f_M_settle_2 n) ih x1 v1 0 s H locs ls hX (lv_sub hl [1, 2, 0] rfl) h
          · have h := ite_t c41 h
            exact w_M_settle_44 C hQ (f_M_settle_2 n) ih x1 v1 s H locs ls hX (lv_sub hl [1, 2, 0] rfl) h
set_option maxHeartbeats 4000000 in
set_option maxRecDepth 100000 in
theorem w_M_settle {z : SM} (C : Cx g A p m c b_M_settle 3 ss args R_M) (hQ : ∀ (pc : Nat) (H : Heap) (locs : List Loc) (ls : Array Slot), XW g A ss (wM g z) H locs → decode b_M_settle pc = .ok (.return_, 1) → W p l e (rmX 2 44) ss m args below meth c H locs 0 0 Q (F0 m pc ls [])) : ∀ (s : SM) (H : Heap) (locs : List Loc) (ls : Array Slot), XW g A ss (wM g s) H locs → lv_has ls 3 [(0, .ref (g.q 60))] → f_M_settle s = some z → W p l e (rmX 2 44) ss m args below meth c H locs 0 0 Q (F0 m 0 ls []) := by
  have ⟨⟨hx, hb, hml, hown, hts⟩, hK, hA, hN⟩ := C
  intro s H locs ls hX hl h
  rw [f_M_settle] at h
  refine lv_iconst (v := 1) hx hb d_M_settle_0 (by decide) ?_
  refine lv_istore_n (lv' := [(1, .int 1), (0, .ref (g.q 60))]) hx hb d_M_settle_1 rfl hl (by decide) rfl (fun ls hl => ?_)
  exact w_M_settle_2 C hQ FU 1 s H locs ls hX (lv_sub hl [1, 0] rfl) h
end WALK
theorem c_M_settle (l : Launch) (g : GX) (s : SM) (z : SM) (h : f_M_settle s = some z) : MV l g y_M_settle b_M_settle 3 none 2 44 [.ref (g.q 60)] (wM g s) (wM g z) :=
  MV.mk (own := R_M) (by decide) rfl (Nat.le_of_ble_eq_true rfl) fun p e ss m below meth c A Q C hQ ls hX hl => w_M_settle C hQ s _ _ ls hX hl h
-- M_pull
def f_M_pull (s : SM) : Option (Int32 × SM) :=
    lt1 (s.1 0 23 - 1) fun v1 =>
    lt1 (stI s 0 23 v1) fun s2 =>
    gi (s2.1 0 23) 400 <|
    lt1 (s2.1 35 (Int32.toNatClampNeg (s2.1 0 23))) fun v3 =>
    some (v3, s2)
section WALK
variable {p : Program} {l : Launch} {e : Env} {ss : State} {m : MethodId} {args : Array Value} {below : List Frame} {meth : Method} {c : Code} {Q : State → Prop} {g : GX} {A : Nat → Prop}
set_option maxHeartbeats 4000000 in
set_option maxRecDepth 100000 in
theorem w_M_pull {z : Int32 × SM} (C : Cx g A p m c b_M_pull 1 ss args R_M) (hQ : ∀ (pc : Nat) (H : Heap) (locs : List Loc) (ls : Array Slot), XW g A ss (wM g z.2) H locs → decode b_M_pull pc = .ok (.ireturn, 1) → W p l e (rmX 0 0) ss m args below meth c H locs 0 0 Q (F0 m pc ls [.int z.1])) : ∀ (s : SM) (H : Heap) (locs : List Loc) (ls : Array Slot), XW g A ss (wM g s) H locs → lv_has ls 1 [(0, .ref (g.q 60))] → f_M_pull s = some z → W p l e (rmX 0 0) ss m args below meth c H locs 0 0 Q (F0 m 0 ls []) := by
  have ⟨⟨hx, hb, hml, hown, hts⟩, hK, hA, hN⟩ := C
  intro s H locs ls hX hl h
  rw [f_M_pull] at h
  refine lv_aload_n hx hb d_M_pull_0 rfl (lv_at hl 0 rfl) ?_
  refine lv_dup hx hb d_M_pull_1 rfl ?_
  refine gm_sp C hX fl_M_343 d_M_pull_2 ?_
  refine lv_iconst (v := 1) hx hb d_M_pull_5 (by decide) ?_
  obtain ⟨v1, ev1, h⟩ := lt1_e h
  refine x_isub hx hb d_M_pull_6 ev1 ?_
  obtain ⟨s2, es2, h⟩ := lt1_e h
  refine pm_sp C hX fl_M_343 d_M_pull_7 (fun H locs hX => ?_)
  rw [← es2] at hX
  refine lv_aload_n hx hb d_M_pull_10 rfl (lv_at hl 0 rfl) ?_
  refine gm_stack C hX fl_M_114 d_M_pull_11 ?_
  refine lv_aload_n hx hb d_M_pull_14 rfl (lv_at hl 0 rfl) ?_
  refine gm_sp C hX fl_M_343 d_M_pull_15 ?_
  obtain ⟨hz18, h⟩ := gi_e h
  obtain ⟨v3, ev3, h⟩ := lt1_e h
  refine alm_35 C hX hz18 d_M_pull_18 ev3 ?_
  obtain rfl := so1 h
  exact hQ _ H locs ls hX d_M_pull_19
end WALK
theorem c_M_pull (l : Launch) (g : GX) (s : SM) (z : Int32 × SM) (h : f_M_pull s = some z) : MI l g y_M_pull b_M_pull 1 (some .int) 0 0 [.ref (g.q 60)] (wM g s) z.1 (wM g z.2) :=
  MI.mk (own := R_M) (by decide) rfl (Nat.le_of_ble_eq_true rfl) fun p e ss m below meth c A Q C hQ ls hX hl => w_M_pull C hQ s _ _ ls hX hl h
-- M_jump
def f_M_jump_231 (x1 : Int32) (x2 : Int64) (x4 : Int32) (x5 : Int32) (x6 : Int32) (x7 : Int32) (x8 : Int32) (y1 : Int32) (y2 : Int32) (s : SM) : Option SM :=
    gi y1 9 <|
    lt1 (stI s 33 (Int32.toNatClampNeg y1) y2) fun s1 =>
    some s1
def f_M_jump_198 (x1 : Int32) (x2 : Int64) (x4 : Int32) (x5 : Int32) (x6 : Int32) (x7 : Int32) (x8 : Int32) (s : SM) : Option SM :=
    gi x4 250 <|
    lt1 (s.1 14 (Int32.toNatClampNeg x4)) fun v1 =>
    if v1 = 3 then
      lt1 (x4 + 1) fun v3 =>
      f_M_jump_231 x1 x2 x4 x5 x6 x7 x8 (s.1 0 22) v3 s
    else
      gi x4 250 <|
      lt1 (s.1 18 (Int32.toNatClampNeg x4)) fun v2 =>
      f_M_jump_231 x1 x2 x4 x5 x6 x7 x8 (s.1 0 22) v2 s
def f_M_jump_164 (x1 : Int32) (x2 : Int64) (x4 : Int32) (x5 : Int32) (x6 : Int32) (x7 : Int32) (y0 : Int32) (s : SM) : Option SM :=
    lt1 (stI s 0 23 x7) fun s1 =>
    if x6 ≤ 0 then
      f_M_jump_198 x1 x2 x4 x5 x6 x7 y0 s1
    else
      gi (s1.1 0 23) 400 <|
      lt1 (stI s1 35 (Int32.toNatClampNeg (s1.1 0 23)) y0) fun s2 =>
      lt1 (s2.1 0 23 + 1) fun v3 =>
      lt1 (stI s2 0 23 v3) fun s4 =>
      f_M_jump_198 x1 x2 x4 x5 x6 x7 y0 s4
def f_M_jump_141 (x1 : Int32) (x2 : Int64) (x4 : Int32) (x5 : Int32) (x6 : Int32) (y0 : Int32) (y1 : Int32) (s : SM) : Option SM :=
    lt1 (y0 - y1) fun v1 =>
    if x6 ≤ 0 then
      f_M_jump_164 x1 x2 x4 x5 x6 v1 0 s
    else
      lt1 (s.1 0 23 - 1) fun v2 =>
      gi v2 400 <|
      lt1 (s.1 35 (Int32.toNatClampNeg v2)) fun v3 =>
      f_M_jump_164 x1 x2 x4 x5 x6 v1 v3 s
def f_M_jump_99 (x1 : Int32) (x2 : Int64) (x4 : Int32) (x5 : Int32) (y0 : Int32) (s : SM) : Option SM :=
    gi (s.1 0 22) 9 <|
    lt1 (s.1 34 (Int32.toNatClampNeg (s.1 0 22))) fun v1 =>
    bd1 (f_M_locals s x5) fun r2 =>
    lt1 (v1 + r2) fun v3 =>
    gi x4 250 <|
    lt1 (s.1 20 (Int32.toNatClampNeg x4)) fun v4 =>
    lt1 (v3 + v4) fun v5 =>
    gi x4 250 <|
    lt1 (s.1 14 (Int32.toNatClampNeg x4)) fun v6 =>
    if v6 = 4 then
      f_M_jump_141 x1 x2 x4 x5 y0 v5 1 s
    else
      f_M_jump_141 x1 x2 x4 x5 y0 v5 0 s
def f_M_jump_42 (x1 : Int32) (x2 : Int64) (x4 : Int32) (x5 : Int64) (s : SM) : Option SM :=
    gi (s.1 0 22) 9 <|
    lt1 (s.1 32 (Int32.toNatClampNeg (s.1 0 22))) fun v1 =>
    if x4 = (-1) then
      gi v1 8 <|
      lt1 (s.1 23 (Int32.toNatClampNeg v1)) fun v5 =>
      gi (s.1 0 22) 9 <|
      lt1 (stI s 33 (Int32.toNatClampNeg (s.1 0 22)) v5) fun s6 =>
      some s6
    else
      gi x4 250 <|
      lt1 (s.1 14 (Int32.toNatClampNeg x4)) fun v2 =>
      if v2 = 3 then
        f_M_jump_99 x1 x2 x4 v1 0 s
      else
        gi x4 250 <|
        lt1 (s.2 15 (Int32.toNatClampNeg x4)) fun v3 =>
        lt1 (Int64.toInt32 v3) fun v4 =>
        f_M_jump_99 x1 x2 x4 v1 v4 s
def f_M_jump_11 : Nat → Int32 → Int64 → Int32 → Int64 → SM → Option SM
  | 0, _, _, _, _, _ => none
  | n + 1, x1, x2, x4, x5, s =>
    lt1 (lg_cmp x5 x2) fun v1 =>
    if 0 ≤ v1 then
      f_M_jump_42 x1 x2 x4 x5 s
    else
      if x4 = (-1) then
        f_M_jump_42 x1 x2 x4 x5 s
      else
        gi x4 250 <|
        lt1 (s.1 17 (Int32.toNatClampNeg x4)) fun v2 =>
        lt1 (x5 + 1) fun v3 =>
        f_M_jump_11 n x1 x2 v2 v3 s
def f_M_jump (x1 : Int32) (x2 : Int64) (s : SM) : Option SM :=
    gi x1 250 <|
    lt1 (s.1 17 (Int32.toNatClampNeg x1)) fun v1 =>
    f_M_jump_11 FU x1 x2 v1 0 s
section WALK
variable {p : Program} {l : Launch} {e : Env} {ss : State} {m : MethodId} {args : Array Value} {below : List Frame} {meth : Method} {c : Code} {Q : State → Prop} {g : GX} {A : Nat → Prop}
set_option maxHeartbeats 4000000 in
set_option maxRecDepth 100000 in
theorem w_M_jump_231 {z : SM} (C : Cx g A p m c b_M_jump 9 ss args R_M) (hQ : ∀ (pc : Nat) (H : Heap) (locs : List Loc) (ls : Array Slot), XW g A ss (wM g z) H locs → decode b_M_jump pc = .ok (.return_, 1) → W p l e (rmX 2 42) ss m args below meth c H locs 0 0 Q (F0 m pc ls [])) : ∀ (x1 : Int32) (x2 : Int64) (x4 : Int32) (x5 : Int32) (x6 : Int32) (x7 : Int32) (x8 : Int32) (y1 : Int32) (y2 : Int32) (s : SM) (H : Heap) (locs : List Loc) (ls : Array Slot), XW g A ss (wM g s) H locs → lv_has ls 9 [(0, .ref (g.q 60)), (1, .int x1), (2, .long x2), (4, .int x4), (5, .int x5), (6, .int x6), (7, .int x7), (8, .int x8)] → f_M_jump_231 x1 x2 x4 x5 x6 x7 x8 y1 y2 s = some z → W p l e (rmX 2 42) ss m args below meth c H locs 0 0 Q (F0 m 231 ls [.int y2, .int y1, .ref (g.q 93)]) := by
  have ⟨⟨hx, hb, hml, hown, hts⟩, hK, hA, hN⟩ := C
  intro x1 x2 x4 x5 x6 x7 x8 y1 y2 s H locs ls hX hl h
  rw [f_M_jump_231] at h
  obtain ⟨hz231, h⟩ := gi_e h
  obtain ⟨s1, es1, h⟩ := lt1_e h
  refine asm_33 C hX hz231 d_M_jump_231 (fun H locs hX => ?_)
  rw [← es1] at hX
  obtain rfl := so1 h
  exact hQ _ H locs ls hX d_M_jump_232
set_option maxHeartbeats 4000000 in
set_option maxRecDepth 100000 in
theorem w_M_jump_198 {z : SM} (C : Cx g A p m c b_M_jump 9 ss args R_M) (hQ : ∀ (pc : Nat) (H : Heap) (locs : List Loc) (ls : Array Slot), XW g A ss (wM g z) H locs → decode b_M_jump pc = .ok (.return_, 1) → W p l e (rmX 2 42) ss m args below meth c H locs 0 0 Q (F0 m pc ls [])) : ∀ (x1 : Int32) (x2 : Int64) (x4 : Int32) (x5 : Int32) (x6 : Int32) (x7 : Int32) (x8 : Int32) (s : SM) (H : Heap) (locs : List Loc) (ls : Array Slot), XW g A ss (wM g s) H locs → lv_has ls 9 [(0, .ref (g.q 60)), (1, .int x1), (2, .long x2), (4, .int x4), (5, .int x5), (6, .int x6), (7, .int x7), (8, .int x8)] → f_M_jump_198 x1 x2 x4 x5 x6 x7 x8 s = some z → W p l e (rmX 2 42) ss m args below meth c H locs 0 0 Q (F0 m 198 ls []) := by
  have ⟨⟨hx, hb, hml, hown, hts⟩, hK, hA, hN⟩ := C
  intro x1 x2 x4 x5 x6 x7 x8 s H locs ls hX hl h
  rw [f_M_jump_198] at h
  refine lv_aload_n hx hb d_M_jump_198 rfl (lv_at hl 0 rfl) ?_
  refine gm_place C hX fl_M_108 d_M_jump_199 ?_
  refine lv_aload_n hx hb d_M_jump_202 rfl (lv_at hl 0 rfl) ?_
  refine gm_calls C hX fl_M_340 d_M_jump_203 ?_
  refine lv_aload_n hx hb d_M_jump_206 rfl (lv_at hl 0 rfl) ?_
  refine gm_op C hX fl_M_51 d_M_jump_207 ?_
  refine lv_iload hx hb d_M_jump_210 (lv_at hl 3 rfl) ?_
  obtain ⟨hz212, h⟩ := gi_e h
  obtain ⟨v1, ev1, h⟩ := lt1_e h
  refine alm_14 C hX hz212 d_M_jump_212 ev1 ?_
  refine lv_iconst (v := 3) hx hb d_M_jump_213 (by decide) ?_
  refine lv_icmp_ne (tgt := 224) hx hb d_M_jump_214 (by decide) (fun c214 => ?_) (fun c214 => ?_)
  · have h := ite_f c214 h
    refine lv_aload_n hx hb d_M_jump_224 rfl (lv_at hl 0 rfl) ?_
    refine gm_endAt C hX fl_M_63 d_M_jump_225 ?_
    refine lv_iload hx hb d_M_jump_228 (lv_at hl 3 rfl) ?_
    obtain ⟨hz230, h⟩ := gi_e h
    obtain ⟨v2, ev2, h⟩ := lt1_e h
    refine alm_18 C hX hz230 d_M_jump_230 ev2 ?_
    exact w_M_jump_231 C hQ x1 x2 x4 x5 x6 x7 x8 (s.1 0 22) v2 s H locs ls hX hl h
  · have h := ite_t c214 h
    refine lv_iload hx hb d_M_jump_217 (lv_at hl 3 rfl) ?_
    refine lv_iconst (v := 1) hx hb d_M_jump_219 (by decide) ?_
    obtain ⟨v3, ev3, h⟩ := lt1_e h
    refine x_iadd hx hb d_M_jump_220 ev3 ?_
    refine lv_goto (tgt := 231) hx hb d_M_jump_221 (by decide) ?_
    exact w_M_jump_231 C hQ x1 x2 x4 x5 x6 x7 x8 (s.1 0 22) v3 s H locs ls hX hl h
set_option maxHeartbeats 4000000 in
set_option maxRecDepth 100000 in
theorem w_M_jump_164 {z : SM} (C : Cx g A p m c b_M_jump 9 ss args R_M) (hQ : ∀ (pc : Nat) (H : Heap) (locs : List Loc) (ls : Array Slot), XW g A ss (wM g z) H locs → decode b_M_jump pc = .ok (.return_, 1) → W p l e (rmX 2 42) ss m args below meth c H locs 0 0 Q (F0 m pc ls [])) : ∀ (x1 : Int32) (x2 : Int64) (x4 : Int32) (x5 : Int32) (x6 : Int32) (x7 : Int32) (y0 : Int32) (s : SM) (H : Heap) (locs : List Loc) (ls : Array Slot), XW g A ss (wM g s) H locs → lv_has ls 9 [(0, .ref (g.q 60)), (1, .int x1), (2, .long x2), (4, .int x4), (5, .int x5), (6, .int x6), (7, .int x7)] → f_M_jump_164 x1 x2 x4 x5 x6 x7 y0 s = some z → W p l e (rmX 2 42) ss m args below meth c H locs 0 0 Q (F0 m 164 ls [.int y0]) := by
  have ⟨⟨hx, hb, hml, hown, hts⟩, hK, hA, hN⟩ := C
  intro x1 x2 x4 x5 x6 x7 y0 s H locs ls hX hl h
  rw [f_M_jump_164] at h
  refine lv_istore (lv' := [(8, .int y0), (0, .ref (g.q 60)), (1, .int x1), (2, .long x2), (4, .int x4), (5, .int x5), (6, .int x6), (7, .int x7)]) hx hb d_M_jump_164 hl (by decide) rfl (fun ls hl => ?_)
  refine lv_aload_n hx hb d_M_jump_166 rfl (lv_at hl 1 rfl) ?_
  refine lv_iload hx hb d_M_jump_167 (lv_at hl 7 rfl) ?_
  obtain ⟨s1, es1, h⟩ := lt1_e h
  refine pm_sp C hX fl_M_343 d_M_jump_169 (fun H locs hX => ?_)
  rw [← es1] at hX
  refine lv_iload hx hb d_M_jump_172 (lv_at hl 6 rfl) ?_
  refine lv_if_le (tgt := 198) hx hb d_M_jump_174 (by decide) (fun c174 => ?_) (fun c174 => ?_)
  · have h := ite_t c174 h
    exact w_M_jump_198 C hQ x1 x2 x4 x5 x6 x7 y0 s1 H locs ls hX (lv_sub hl [1, 2, 3, 4, 5, 6, 7, 0] rfl) h
  · have h := ite_f c174 h
    refine lv_aload_n hx hb d_M_jump_177 rfl (lv_at hl 1 rfl) ?_
    refine gm_stack C hX fl_M_114 d_M_jump_178 ?_
    refine lv_aload_n hx hb d_M_jump_181 rfl (lv_at hl 1 rfl) ?_
    refine gm_sp C hX fl_M_343 d_M_jump_182 ?_
    refine lv_iload hx hb d_M_jump_185 (lv_at hl 0 rfl) ?_
    obtain ⟨hz187, h⟩ := gi_e h
    obtain ⟨s2, es2, h⟩ := lt1_e h
    refine asm_35 C hX hz187 d_M_jump_187 (fun H locs hX => ?_)
    rw [← es2] at hX
    refine lv_aload_n hx hb d_M_jump_188 rfl (lv_at hl 1 rfl) ?_
    refine lv_dup hx hb d_M_jump_189 rfl ?_
    refine gm_sp C hX fl_M_343 d_M_jump_190 ?_
    refine lv_iconst (v := 1) hx hb d_M_jump_193 (by decide) ?_
    obtain ⟨v3, ev3, h⟩ := lt1_e h
    refine x_iadd hx hb d_M_jump_194 ev3 ?_
    obtain ⟨s4, es4, h⟩ := lt1_e h
    refine pm_sp C hX fl_M_343 d_M_jump_195 (fun H locs hX => ?_)
    rw [← es4] at hX
    exact w_M_jump_198 C hQ x1 x2 x4 x5 x6 x7 y0 s4 H locs ls hX (lv_sub hl [1, 2, 3, 4, 5, 6, 7, 0] rfl) h
set_option maxHeartbeats 4000000 in
set_option maxRecDepth 100000 in
theorem w_M_jump_141 {z : SM} (C : Cx g A p m c b_M_jump 9 ss args R_M) (hQ : ∀ (pc : Nat) (H : Heap) (locs : List Loc) (ls : Array Slot), XW g A ss (wM g z) H locs → decode b_M_jump pc = .ok (.return_, 1) → W p l e (rmX 2 42) ss m args below meth c H locs 0 0 Q (F0 m pc ls [])) : ∀ (x1 : Int32) (x2 : Int64) (x4 : Int32) (x5 : Int32) (x6 : Int32) (y0 : Int32) (y1 : Int32) (s : SM) (H : Heap) (locs : List Loc) (ls : Array Slot), XW g A ss (wM g s) H locs → lv_has ls 9 [(0, .ref (g.q 60)), (1, .int x1), (2, .long x2), (4, .int x4), (5, .int x5), (6, .int x6)] → f_M_jump_141 x1 x2 x4 x5 x6 y0 y1 s = some z → W p l e (rmX 2 42) ss m args below meth c H locs 0 0 Q (F0 m 141 ls [.int y1, .int y0]) := by
  have ⟨⟨hx, hb, hml, hown, hts⟩, hK, hA, hN⟩ := C
  intro x1 x2 x4 x5 x6 y0 y1 s H locs ls hX hl h
  rw [f_M_jump_141] at h
  obtain ⟨v1, ev1, h⟩ := lt1_e h
  refine x_isub hx hb d_M_jump_141 ev1 ?_
  refine lv_istore (lv' := [(7, .int v1), (0, .ref (g.q 60)), (1, .int x1), (2, .long x2), (4, .int x4), (5, .int x5), (6, .int x6)]) hx hb d_M_jump_142 hl (by decide) rfl (fun ls hl => ?_)
  refine lv_iload hx hb d_M_jump_144 (lv_at hl 6 rfl) ?_
  refine lv_if_le (tgt := 163) hx hb d_M_jump_146 (by decide) (fun c146 => ?_) (fun c146 => ?_)
  · have h := ite_t c146 h
    refine lv_iconst (v := 0) hx hb d_M_jump_163 (by decide) ?_
    exact w_M_jump_164 C hQ x1 x2 x4 x5 x6 v1 0 s H locs ls hX (lv_sub hl [1, 2, 3, 4, 5, 6, 0] rfl) h
  · have h := ite_f c146 h
    refine lv_aload_n hx hb d_M_jump_149 rfl (lv_at hl 1 rfl) ?_
    refine gm_stack C hX fl_M_114 d_M_jump_150 ?_
    refine lv_aload_n hx hb d_M_jump_153 rfl (lv_at hl 1 rfl) ?_
    refine gm_sp C hX fl_M_343 d_M_jump_154 ?_
    refine lv_iconst (v := 1) hx hb d_M_jump_157 (by decide) ?_
    obtain ⟨v2, ev2, h⟩ := lt1_e h
    refine x_isub hx hb d_M_jump_158 ev2 ?_
    obtain ⟨hz159, h⟩ := gi_e h
    obtain ⟨v3, ev3, h⟩ := lt1_e h
    refine alm_35 C hX hz159 d_M_jump_159 ev3 ?_
    refine lv_goto (tgt := 164) hx hb d_M_jump_160 (by decide) ?_
    exact w_M_jump_164 C hQ x1 x2 x4 x5 x6 v1 v3 s H locs ls hX (lv_sub hl [1, 2, 3, 4, 5, 6, 0] rfl) h
set_option maxHeartbeats 4000000 in
set_option maxRecDepth 100000 in
theorem w_M_jump_99 {z : SM} (C : Cx g A p m c b_M_jump 9 ss args R_M) (hQ : ∀ (pc : Nat) (H : Heap) (locs : List Loc) (ls : Array Slot), XW g A ss (wM g z) H locs → decode b_M_jump pc = .ok (.return_, 1) → W p l e (rmX 2 42) ss m args below meth c H locs 0 0 Q (F0 m pc ls [])) : ∀ (x1 : Int32) (x2 : Int64) (x4 : Int32) (x5 : Int32) (y0 : Int32) (s : SM) (H : Heap) (locs : List Loc) (ls : Array Slot), XW g A ss (wM g s) H locs → lv_has ls 9 [(0, .ref (g.q 60)), (1, .int x1), (2, .long x2), (4, .int x4), (5, .int x5)] → f_M_jump_99 x1 x2 x4 x5 y0 s = some z → W p l e (rmX 2 42) ss m args below meth c H locs 0 0 Q (F0 m 99 ls [.int y0]) := by
  have ⟨⟨hx, hb, hml, hown, hts⟩, hK, hA, hN⟩ := C
  intro x1 x2 x4 x5 y0 s H locs ls hX hl h
  rw [f_M_jump_99] at h
  refine lv_istore (lv' := [(6, .int y0), (0, .ref (g.q 60)), (1, .int x1), (2, .long x2), (4, .int x4), (5, .int x5)]) hx hb d_M_jump_99 hl (by decide) rfl (fun ls hl => ?_)
  refine lv_aload_n hx hb d_M_jump_101 rfl (lv_at hl 1 rfl) ?_
  refine gm_localsAt C hX fl_M_111 d_M_jump_102 ?_
  refine lv_aload_n hx hb d_M_jump_105 rfl (lv_at hl 1 rfl) ?_
  refine gm_calls C hX fl_M_340 d_M_jump_106 ?_
  obtain ⟨hz109, h⟩ := gi_e h
  obtain ⟨v1, ev1, h⟩ := lt1_e h
  refine alm_34 C hX hz109 d_M_jump_109 ev1 ?_
  refine lv_aload_n hx hb d_M_jump_110 rfl (lv_at hl 1 rfl) ?_
  refine lv_iload hx hb d_M_jump_111 (lv_at hl 5 rfl) ?_
  obtain ⟨r2, hc113, h⟩ := bd1_e h
  refine x_vI (As := [.int x5]) (rest := [.int v1]) C hX (c_M_locals l g x5 s r2 hc113) (cw_M_322 C.1.2.2.2.2 C.2.2.2 ⟨by decide, by decide⟩) (x_rc C hX vg_0 rfl) rfl hl.1 rfl (lv_room (Nat.le_of_ble_eq_true rfl)) d_M_jump_113 ⟨Nat.le_refl _, Nat.le_refl _⟩ (fun H locs hX => ?_)
  obtain ⟨v3, ev3, h⟩ := lt1_e h
  refine x_iadd hx hb d_M_jump_116 ev3 ?_
  refine lv_aload_n hx hb d_M_jump_117 rfl (lv_at hl 1 rfl) ?_
  refine gm_high C hX fl_M_69 d_M_jump_118 ?_
  refine lv_iload hx hb d_M_jump_121 (lv_at hl 4 rfl) ?_
  obtain ⟨hz123, h⟩ := gi_e h
  obtain ⟨v4, ev4, h⟩ := lt1_e h
  refine alm_20 C hX hz123 d_M_jump_123 ev4 ?_
  obtain ⟨v5, ev5, h⟩ := lt1_e h
  refine x_iadd hx hb d_M_jump_124 ev5 ?_
  refine lv_aload_n hx hb d_M_jump_125 rfl (lv_at hl 1 rfl) ?_
  refine gm_op C hX fl_M_51 d_M_jump_126 ?_
  refine lv_iload hx hb d_M_jump_129 (lv_at hl 4 rfl) ?_
  obtain ⟨hz131, h⟩ := gi_e h
  obtain ⟨v6, ev6, h⟩ := lt1_e h
  refine alm_14 C hX hz131 d_M_jump_131 ev6 ?_
  refine lv_iconst (v := 4) hx hb d_M_jump_132 (by decide) ?_
  refine lv_icmp_ne (tgt := 140) hx hb d_M_jump_133 (by decide) (fun c133 => ?_) (fun c133 => ?_)
  · have h := ite_f c133 h
    refine lv_iconst (v := 0) hx hb d_M_jump_140 (by decide) ?_
    exact w_M_jump_141 C hQ x1 x2 x4 x5 y0 v5 0 s H locs ls hX (lv_sub hl [1, 2, 3, 4, 5, 0] rfl) h
  · have h := ite_t c133 h
    refine lv_iconst (v := 1) hx hb d_M_jump_136 (by decide) ?_
    refine lv_goto (tgt := 141) hx hb d_M_jump_137 (by decide) ?_
    exact w_M_jump_141 C hQ x1 x2 x4 x5 y0 v5 1 s H locs ls hX (lv_sub hl [1, 2, 3, 4, 5, 0] rfl) h
set_option maxHeartbeats 4000000 in
set_option maxRecDepth 100000 in
theorem w_M_jump_42 {z : SM} (C : Cx g A p m c b_M_jump 9 ss args R_M) (hQ : ∀ (pc : Nat) (H : Heap) (locs : List Loc) (ls : Array Slot), XW g A ss (wM g z) H locs → decode b_M_jump pc = .ok (.return_, 1) → W p l e (rmX 2 42) ss m args below meth c H locs 0 0 Q (F0 m pc ls [])) : ∀ (x1 : Int32) (x2 : Int64) (x4 : Int32) (x5 : Int64) (s : SM) (H : Heap) (locs : List Loc) (ls : Array Slot), XW g A ss (wM g s) H locs → lv_has ls 9 [(0, .ref (g.q 60)), (1, .int x1), (2, .long x2), (4, .int x4), (5, .long x5)] → f_M_jump_42 x1 x2 x4 x5 s = some z → W p l e (rmX 2 42) ss m args below meth c H locs 0 0 Q (F0 m 42 ls []) := by
  have ⟨⟨hx, hb, hml, hown, hts⟩, hK, hA, hN⟩ := C
  intro x1 x2 x4 x5 s H locs ls hX hl h
  rw [f_M_jump_42] at h
  refine lv_aload_n hx hb d_M_jump_42 rfl (lv_at hl 0 rfl) ?_
  refine gm_function C hX fl_M_105 d_M_jump_43 ?_
  refine lv_aload_n hx hb d_M_jump_46 rfl (lv_at hl 0 rfl) ?_
  refine gm_calls C hX fl_M_340 d_M_jump_47 ?_
  obtain ⟨hz50, h⟩ := gi_e h
  obtain ⟨v1, ev1, h⟩ := lt1_e h
  refine alm_32 C hX hz50 d_M_jump_50 ev1 ?_
  refine lv_istore (lv' := [(5, .int v1), (0, .ref (g.q 60)), (1, .int x1), (2, .long x2), (4, .int x4)]) hx hb d_M_jump_51 hl (by decide) rfl (fun ls hl => ?_)
  refine lv_iload hx hb d_M_jump_53 (lv_at hl 4 rfl) ?_
  refine lv_iconst (v := (-1)) hx hb d_M_jump_55 (by decide) ?_
  refine lv_icmp_ne (tgt := 76) hx hb d_M_jump_56 (by decide) (fun c56 => ?_) (fun c56 => ?_)
  · have h := ite_f c56 h
    refine lv_aload_n hx hb d_M_jump_76 rfl (lv_at hl 1 rfl) ?_
    refine gm_op C hX fl_M_51 d_M_jump_77 ?_
    refine lv_iload hx hb d_M_jump_80 (lv_at hl 4 rfl) ?_
    obtain ⟨hz82, h⟩ := gi_e h
    obtain ⟨v2, ev2, h⟩ := lt1_e h
    refine alm_14 C hX hz82 d_M_jump_82 ev2 ?_
    refine lv_iconst (v := 3) hx hb d_M_jump_83 (by decide) ?_
    refine lv_icmp_ne (tgt := 91) hx hb d_M_jump_84 (by decide) (fun c84 => ?_) (fun c84 => ?_)
    · have h := ite_f c84 h
      refine lv_aload_n hx hb d_M_jump_91 rfl (lv_at hl 1 rfl) ?_
      refine gm_first C hX fl_M_54 d_M_jump_92 ?_
      refine lv_iload hx hb d_M_jump_95 (lv_at hl 4 rfl) ?_
      obtain ⟨hz97, h⟩ := gi_e h
      obtain ⟨v3, ev3, h⟩ := lt1_e h
      refine alm_15 C hX hz97 d_M_jump_97 ev3 ?_
      obtain ⟨v4, ev4, h⟩ := lt1_e h
      refine lv_l2i hx hb d_M_jump_98 ev4.symm ?_
      exact w_M_jump_99 C hQ x1 x2 x4 v1 v4 s H locs ls hX (lv_sub hl [1, 2, 3, 4, 0] rfl) h
    · have h := ite_t c84 h
      refine lv_iconst (v := 0) hx hb d_M_jump_87 (by decide) ?_
      refine lv_goto (tgt := 99) hx hb d_M_jump_88 (by decide) ?_
      exact w_M_jump_99 C hQ x1 x2 x4 v1 0 s H locs ls hX (lv_sub hl [1, 2, 3, 4, 0] rfl) h
  · have h := ite_t c56 h
    refine lv_aload_n hx hb d_M_jump_59 rfl (lv_at hl 1 rfl) ?_
    refine gm_place C hX fl_M_108 d_M_jump_60 ?_
    refine lv_aload_n hx hb d_M_jump_63 rfl (lv_at hl 1 rfl) ?_
    refine gm_calls C hX fl_M_340 d_M_jump_64 ?_
    refine lv_aload_n hx hb d_M_jump_67 rfl (lv_at hl 1 rfl) ?_
    refine gm_close C hX fl_M_78 d_M_jump_68 ?_
    refine lv_iload hx hb d_M_jump_71 (lv_at hl 0 rfl) ?_
    obtain ⟨hz73, h⟩ := gi_e h
    obtain ⟨v5, ev5, h⟩ := lt1_e h
    refine alm_23 C hX hz73 d_M_jump_73 ev5 ?_
    obtain ⟨hz74, h⟩ := gi_e h
    obtain ⟨s6, es6, h⟩ := lt1_e h
    refine asm_33 C hX hz74 d_M_jump_74 (fun H locs hX => ?_)
    rw [← es6] at hX
    obtain rfl := so1 h
    exact hQ _ H locs ls hX d_M_jump_75
set_option maxHeartbeats 4000000 in
set_option maxRecDepth 100000 in
theorem w_M_jump_11 {z : SM} (C : Cx g A p m c b_M_jump 9 ss args R_M) (hQ : ∀ (pc : Nat) (H : Heap) (locs : List Loc) (ls : Array Slot), XW g A ss (wM g z) H locs → decode b_M_jump pc = .ok (.return_, 1) → W p l e (rmX 2 42) ss m args below meth c H locs 0 0 Q (F0 m pc ls [])) (n : Nat) : ∀ (x1 : Int32) (x2 : Int64) (x4 : Int32) (x5 : Int64) (s : SM) (H : Heap) (locs : List Loc) (ls : Array Slot), XW g A ss (wM g s) H locs → lv_has ls 9 [(0, .ref (g.q 60)), (1, .int x1), (2, .long x2), (4, .int x4), (5, .long x5)] → f_M_jump_11 n x1 x2 x4 x5 s = some z → W p l e (rmX 2 42) ss m args below meth c H locs 0 0 Q (F0 m 11 ls []) := by
  have ⟨⟨hx, hb, hml, hown, hts⟩, hK, hA, hN⟩ := C
  induction n with
  | zero => intro x1 x2 x4 x5 s H locs ls hX hl h; cases h
  | succ n ih =>
    intro x1 x2 x4 x5 s H locs ls hX hl h
    rw [f_M_jump_11] at h
    refine lv_lload hx hb d_M_jump_11 (lv_at hl 4 rfl) ?_
    refine lv_lload_n hx hb d_M_jump_13 rfl (lv_at hl 2 rfl) ?_
    obtain ⟨v1, ev1, h⟩ := lt1_e h
    refine x_lcmp hx hb d_M_jump_14 ev1 ?_
    refine lv_if_ge (tgt := 42) hx hb d_M_jump_15 (by decide) (fun c15 => ?_) (fun c15 => ?_)
    · have h := ite_t c15 h
      exact w_M_jump_42 C hQ x1 x2 x4 x5 s H locs ls hX hl h
    · have h := ite_f c15 h
      refine lv_iload hx hb d_M_jump_18 (lv_at hl 3 rfl) ?_
      refine lv_iconst (v := (-1)) hx hb d_M_jump_20 (by decide) ?_
      refine lv_icmp_eq (tgt := 42) hx hb d_M_jump_21 (by decide) (fun c21 => ?_) (fun c21 => ?_)
      · have h := ite_t c21 h
        exact w_M_jump_42 C hQ x1 x2 x4 x5 s H locs ls hX hl h
      · have h := ite_f c21 h
        refine lv_aload_n hx hb d_M_jump_24 rfl (lv_at hl 0 rfl) ?_
        refine gm_inside C hX fl_M_60 d_M_jump_25 ?_
        refine lv_iload hx hb d_M_jump_28 (lv_at hl 3 rfl) ?_
        obtain ⟨hz30, h⟩ := gi_e h
        obtain ⟨v2, ev2, h⟩ := lt1_e h
        refine alm_17 C hX hz30 d_M_jump_30 ev2 ?_
        refine lv_istore (lv' := [(4, .int v2), (0, .ref (g.q 60)), (1, .int x1), (2, .long x2), (5, .long x5)]) hx hb d_M_jump_31 hl (by decide) rfl (fun ls hl => ?_)
        refine lv_lload hx hb d_M_jump_33 (lv_at hl 4 rfl) ?_
        refine lv_lconst (v := 1) hx hb d_M_jump_35 (by decide) ?_
        obtain ⟨v3, ev3, h⟩ := lt1_e h
        refine x_ladd hx hb d_M_jump_36 ev3 ?_
        refine lv_lstore (lv' := [(5, .long v3), (4, .int v2), (0, .ref (g.q 60)), (1, .int x1), (2, .long x2)]) hx hb d_M_jump_37 hl (by decide) rfl (fun ls hl => ?_)
        refine lv_goto (tgt := 11) hx hb d_M_jump_39 (by decide) ?_
        exact ih x1 x2 v2 v3 s H locs ls hX (lv_sub hl [2, 3, 4, 1, 0] rfl) h
set_option maxHeartbeats 4000000 in
set_option maxRecDepth 100000 in
theorem w_M_jump {z : SM} (C : Cx g A p m c b_M_jump 9 ss args R_M) (hQ : ∀ (pc : Nat) (H : Heap) (locs : List Loc) (ls : Array Slot), XW g A ss (wM g z) H locs → decode b_M_jump pc = .ok (.return_, 1) → W p l e (rmX 2 42) ss m args below meth c H locs 0 0 Q (F0 m pc ls [])) : ∀ (x1 : Int32) (x2 : Int64) (s : SM) (H : Heap) (locs : List Loc) (ls : Array Slot), XW g A ss (wM g s) H locs → lv_has ls 9 [(0, .ref (g.q 60)), (1, .int x1), (2, .long x2)] → f_M_jump x1 x2 s = some z → W p l e (rmX 2 42) ss m args below meth c H locs 0 0 Q (F0 m 0 ls []) := by
  have ⟨⟨hx, hb, hml, hown, hts⟩, hK, hA, hN⟩ := C
  intro x1 x2 s H locs ls hX hl h
  rw [f_M_jump] at h
  refine lv_aload_n hx hb d_M_jump_0 rfl (lv_at hl 0 rfl) ?_
  refine gm_inside C hX fl_M_60 d_M_jump_1 ?_
  refine lv_iload_n hx hb d_M_jump_4 rfl (lv_at hl 1 rfl) ?_
  obtain ⟨hz5, h⟩ := gi_e h
  obtain ⟨v1, ev1, h⟩ := lt1_e h
  refine alm_17 C hX hz5 d_M_jump_5 ev1 ?_
  refine lv_istore (lv' := [(4, .int v1), (0, .ref (g.q 60)), (1, .int x1), (2, .long x2)]) hx hb d_M_jump_6 hl (by decide) rfl (fun ls hl => ?_)
  refine lv_lconst (v := 0) hx hb d_M_jump_8 (by decide) ?_
  refine lv_lstore (lv' := [(5, .long 0), (4, .int v1), (0, .ref (g.q 60)), (1, .int x1), (2, .long x2)]) hx hb d_M_jump_9 hl (by decide) rfl (fun ls hl => ?_)
  exact w_M_jump_11 C hQ FU x1 x2 v1 0 s H locs ls hX (lv_sub hl [2, 3, 4, 1, 0] rfl) h
end WALK
theorem c_M_jump (l : Launch) (g : GX) (x1 : Int32) (x2 : Int64) (s : SM) (z : SM) (h : f_M_jump x1 x2 s = some z) : MV l g y_M_jump b_M_jump 9 none 2 42 [.ref (g.q 60), .int x1, .long x2] (wM g s) (wM g z) :=
  MV.mk (own := R_M) (by decide) rfl (Nat.le_of_ble_eq_true rfl) fun p e ss m below meth c A Q C hQ ls hX hl => w_M_jump C hQ x1 x2 s _ _ ls hX hl h
-- M_control
def f_M_control_248 (x1 : Int32) (x2 : Int32) (s : SM) : Option (Int32 × SM) :=
    some (0, s)
def f_M_control_190 (x1 : Int32) (x2 : Int32) (x3 : Int64) (y1 : Int32) (y3 : Int64) (y4 : Int64) (s : SM) : Option (Int32 × SM) :=
    lt1 (y3 + y4) fun v1 =>
    lt1 (Int64.toInt32 v1) fun v2 =>
    gi v2 250 <|
    lt1 (s.2 25 (Int32.toNatClampNeg v2)) fun v3 =>
    bd1 (f_M_jump y1 v3 s) fun s4 =>
    f_M_control_248 x1 x2 s4
def f_M_control_90 (x1 : Int32) (x2 : Int32) (y1 : Int32) (y2 : Int32) (s : SM) : Option (Int32 × SM) :=
    gi y1 9 <|
    lt1 (stI s 33 (Int32.toNatClampNeg y1) y2) fun s1 =>
    f_M_control_248 x1 x2 s1
def f_M_control_31 (x1 : Int32) (x2 : Int32) (s : SM) : Option (Int32 × SM) :=
    lt1 (x1 + 1) fun v1 =>
    gi (s.1 0 22) 9 <|
    lt1 (stI s 33 (Int32.toNatClampNeg (s.1 0 22)) v1) fun s2 =>
    if x2 = 4 then
      bd (f_M_pull s2) fun r24 s23 =>
      if r24 = 0 then
        gi x1 250 <|
        lt1 (s23.1 19 (Int32.toNatClampNeg x1)) fun v25 =>
        if v25 = (-1) then
          gi x1 250 <|
          lt1 (s23.1 18 (Int32.toNatClampNeg x1)) fun v28 =>
          f_M_control_90 x1 x2 (s23.1 0 22) v28 s23
        else
          gi x1 250 <|
          lt1 (s23.1 19 (Int32.toNatClampNeg x1)) fun v26 =>
          lt1 (v26 + 1) fun v27 =>
          f_M_control_90 x1 x2 (s23.1 0 22) v27 s23
      else
        f_M_control_248 x1 x2 s23
    else
      if x2 = 12 then
        gi x1 250 <|
        lt1 (s2.2 15 (Int32.toNatClampNeg x1)) fun v21 =>
        bd1 (f_M_jump x1 v21 s2) fun s22 =>
        f_M_control_248 x1 x2 s22
      else
        if x2 = 13 then
          bd (f_M_pull s2) fun r18 s17 =>
          if r18 = 0 then
            f_M_control_248 x1 x2 s17
          else
            gi x1 250 <|
            lt1 (s17.2 15 (Int32.toNatClampNeg x1)) fun v19 =>
            bd1 (f_M_jump x1 v19 s17) fun s20 =>
            f_M_control_248 x1 x2 s20
        else
          if x2 = 14 then
            bd (f_M_pull s2) fun r10 s9 =>
            lt1 (Int32.toInt64 r10) fun v11 =>
            lt1 (v11 &&& 4294967295) fun v12 =>
            gi x1 250 <|
            lt1 (s9.2 16 (Int32.toNatClampNeg x1)) fun v13 =>
            gi x1 250 <|
            lt1 (s9.2 15 (Int32.toNatClampNeg x1)) fun v14 =>
            lt1 (lg_cmp v12 v14) fun v15 =>
            if 0 ≤ v15 then
              gi x1 250 <|
              lt1 (s9.2 15 (Int32.toNatClampNeg x1)) fun v16 =>
              f_M_control_190 x1 x2 v12 x1 v13 v16 s9
            else
              f_M_control_190 x1 x2 v12 x1 v13 v12 s9
          else
            if x2 = 15 then
              gi (s2.1 0 22) 9 <|
              lt1 (s2.1 32 (Int32.toNatClampNeg (s2.1 0 22))) fun v6 =>
              gi v6 8 <|
              lt1 (s2.1 23 (Int32.toNatClampNeg v6)) fun v7 =>
              gi (s2.1 0 22) 9 <|
              lt1 (stI s2 33 (Int32.toNatClampNeg (s2.1 0 22)) v7) fun s8 =>
              f_M_control_248 x1 x2 s8
            else
              if x2 = 16 then
                gi x1 250 <|
                lt1 (s2.2 15 (Int32.toNatClampNeg x1)) fun v3 =>
                lt1 (Int64.toInt32 v3) fun v4 =>
                bd1 (f_M_enter v4 s2) fun s5 =>
                f_M_control_248 x1 x2 s5
              else
                f_M_control_248 x1 x2 s2
def f_M_control (x1 : Int32) (s : SM) : Option (Int32 × SM) :=
    gi x1 250 <|
    lt1 (s.1 14 (Int32.toNatClampNeg x1)) fun v1 =>
    if v1 = 0 then
      some (2, s)
    else
      if v1 = 16 then
        if s.1 0 22 = 8 then
          some (6, s)
        else
          f_M_control_31 x1 v1 s
      else
        f_M_control_31 x1 v1 s
section WALK
variable {p : Program} {l : Launch} {e : Env} {ss : State} {m : MethodId} {args : Array Value} {below : List Frame} {meth : Method} {c : Code} {Q : State → Prop} {g : GX} {A : Nat → Prop}
set_option maxHeartbeats 4000000 in
set_option maxRecDepth 100000 in
theorem w_M_control_248 {z : Int32 × SM} (C : Cx g A p m c b_M_control 5 ss args R_M) (hQ : ∀ (pc : Nat) (H : Heap) (locs : List Loc) (ls : Array Slot), XW g A ss (wM g z.2) H locs → decode b_M_control pc = .ok (.ireturn, 1) → W p l e (rmX 3 70) ss m args below meth c H locs 0 0 Q (F0 m pc ls [.int z.1])) : ∀ (x1 : Int32) (x2 : Int32) (s : SM) (H : Heap) (locs : List Loc) (ls : Array Slot), XW g A ss (wM g s) H locs → lv_has ls 5 [(0, .ref (g.q 60)), (1, .int x1), (2, .int x2)] → f_M_control_248 x1 x2 s = some z → W p l e (rmX 3 70) ss m args below meth c H locs 0 0 Q (F0 m 248 ls []) := by
  have ⟨⟨hx, hb, hml, hown, hts⟩, hK, hA, hN⟩ := C
  intro x1 x2 s H locs ls hX hl h
  rw [f_M_control_248] at h
  refine lv_iconst (v := 0) hx hb d_M_control_248 (by decide) ?_
  obtain rfl := so1 h
  exact hQ _ H locs ls hX d_M_control_249
set_option maxHeartbeats 4000000 in
set_option maxRecDepth 100000 in
theorem w_M_control_190 {z : Int32 × SM} (C : Cx g A p m c b_M_control 5 ss args R_M) (hQ : ∀ (pc : Nat) (H : Heap) (locs : List Loc) (ls : Array Slot), XW g A ss (wM g z.2) H locs → decode b_M_control pc = .ok (.ireturn, 1) → W p l e (rmX 3 70) ss m args below meth c H locs 0 0 Q (F0 m pc ls [.int z.1])) : ∀ (x1 : Int32) (x2 : Int32) (x3 : Int64) (y1 : Int32) (y3 : Int64) (y4 : Int64) (s : SM) (H : Heap) (locs : List Loc) (ls : Array Slot), XW g A ss (wM g s) H locs → lv_has ls 5 [(0, .ref (g.q 60)), (1, .int x1), (2, .int x2), (3, .long x3)] → f_M_control_190 x1 x2 x3 y1 y3 y4 s = some z → W p l e (rmX 3 70) ss m args below meth c H locs 0 0 Q (F0 m 190 ls [.long y4, .long y3, .ref (g.q 85), .int y1, .ref (g.q 60)]) := by
  have ⟨⟨hx, hb, hml, hown, hts⟩, hK, hA, hN⟩ := C
  intro x1 x2 x3 y1 y3 y4 s H locs ls hX hl h
  rw [f_M_control_190] at h
  obtain ⟨v1, ev1, h⟩ := lt1_e h
  refine x_ladd hx hb d_M_control_190 ev1 ?_
  obtain ⟨v2, ev2, h⟩ := lt1_e h
  refine lv_l2i hx hb d_M_control_191 ev2.symm ?_
  obtain ⟨hz192, h⟩ := gi_e h
  obtain ⟨v3, ev3, h⟩ := lt1_e h
  refine alm_25 C hX hz192 d_M_control_192 ev3 ?_
  obtain ⟨s4, hc193, h⟩ := bd1_e h
  refine x_vV (As := [.int y1, .long v3]) (rest := []) C hX (c_M_jump l g y1 v3 s s4 hc193) (cw_M_377 C.1.2.2.2.2 C.2.2.2 ⟨by decide, by decide⟩) (x_rc C hX vg_0 rfl) rfl hl.1 rfl (lv_room (Nat.le_of_ble_eq_true rfl)) d_M_control_193 ⟨Nat.le_refl _, Nat.le_refl _⟩ (fun H locs hX => ?_)
  refine lv_goto (tgt := 248) hx hb d_M_control_196 (by decide) ?_
  exact w_M_control_248 C hQ x1 x2 s4 H locs ls hX (lv_sub hl [0, 1, 2] rfl) h
set_option maxHeartbeats 4000000 in
set_option maxRecDepth 100000 in
theorem w_M_control_90 {z : Int32 × SM} (C : Cx g A p m c b_M_control 5 ss args R_M) (hQ : ∀ (pc : Nat) (H : Heap) (locs : List Loc) (ls : Array Slot), XW g A ss (wM g z.2) H locs → decode b_M_control pc = .ok (.ireturn, 1) → W p l e (rmX 3 70) ss m args below meth c H locs 0 0 Q (F0 m pc ls [.int z.1])) : ∀ (x1 : Int32) (x2 : Int32) (y1 : Int32) (y2 : Int32) (s : SM) (H : Heap) (locs : List Loc) (ls : Array Slot), XW g A ss (wM g s) H locs → lv_has ls 5 [(0, .ref (g.q 60)), (1, .int x1), (2, .int x2)] → f_M_control_90 x1 x2 y1 y2 s = some z → W p l e (rmX 3 70) ss m args below meth c H locs 0 0 Q (F0 m 90 ls [.int y2, .int y1, .ref (g.q 93)]) := by
  have ⟨⟨hx, hb, hml, hown, hts⟩, hK, hA, hN⟩ := C
  intro x1 x2 y1 y2 s H locs ls hX hl h
  rw [f_M_control_90] at h
  obtain ⟨hz90, h⟩ := gi_e h
  obtain ⟨s1, es1, h⟩ := lt1_e h
  refine asm_33 C hX hz90 d_M_control_90 (fun H locs hX => ?_)
  rw [← es1] at hX
  refine lv_goto (tgt := 248) hx hb d_M_control_91 (by decide) ?_
  exact w_M_control_248 C hQ x1 x2 s1 H locs ls hX hl h
set_option maxHeartbeats 4000000 in
set_option maxRecDepth 100000 in
theorem w_M_control_31 {z : Int32 × SM} (C : Cx g A p m c b_M_control 5 ss args R_M) (hQ : ∀ (pc : Nat) (H : Heap) (locs : List Loc) (ls : Array Slot), XW g A ss (wM g z.2) H locs → decode b_M_control pc = .ok (.ireturn, 1) → W p l e (rmX 3 70) ss m args below meth c H locs 0 0 Q (F0 m pc ls [.int z.1])) : ∀ (x1 : Int32) (x2 : Int32) (s : SM) (H : Heap) (locs : List Loc) (ls : Array Slot), XW g A ss (wM g s) H locs → lv_has ls 5 [(0, .ref (g.q 60)), (1, .int x1), (2, .int x2)] → f_M_control_31 x1 x2 s = some z → W p l e (rmX 3 70) ss m args below meth c H locs 0 0 Q (F0 m 31 ls []) := by
  have ⟨⟨hx, hb, hml, hown, hts⟩, hK, hA, hN⟩ := C
  intro x1 x2 s H locs ls hX hl h
  rw [f_M_control_31] at h
  refine lv_aload_n hx hb d_M_control_31 rfl (lv_at hl 0 rfl) ?_
  refine gm_place C hX fl_M_108 d_M_control_32 ?_
  refine lv_aload_n hx hb d_M_control_35 rfl (lv_at hl 0 rfl) ?_
  refine gm_calls C hX fl_M_340 d_M_control_36 ?_
  refine lv_iload_n hx hb d_M_control_39 rfl (lv_at hl 1 rfl) ?_
  refine lv_iconst (v := 1) hx hb d_M_control_40 (by decide) ?_
  obtain ⟨v1, ev1, h⟩ := lt1_e h
  refine x_iadd hx hb d_M_control_41 ev1 ?_
  obtain ⟨hz42, h⟩ := gi_e h
  obtain ⟨s2, es2, h⟩ := lt1_e h
  refine asm_33 C hX hz42 d_M_control_42 (fun H locs hX => ?_)
  rw [← es2] at hX
  refine lv_iload_n hx hb d_M_control_43 rfl (lv_at hl 2 rfl) ?_
  refine lv_iconst (v := 4) hx hb d_M_control_44 (by decide) ?_
  refine lv_icmp_ne (tgt := 94) hx hb d_M_control_45 (by decide) (fun c45 => ?_) (fun c45 => ?_)
  · have h := ite_f c45 h
    refine lv_iload_n hx hb d_M_control_94 rfl (lv_at hl 2 rfl) ?_
    refine lv_bipush (v := 12) hx hb d_M_control_95 (by decide) ?_
    refine lv_icmp_ne (tgt := 114) hx hb d_M_control_97 (by decide) (fun c97 => ?_) (fun c97 => ?_)
    · have h := ite_f c97 h
      refine lv_iload_n hx hb d_M_control_114 rfl (lv_at hl 2 rfl) ?_
      refine lv_bipush (v := 13) hx hb d_M_control_115 (by decide) ?_
      refine lv_icmp_ne (tgt := 141) hx hb d_M_control_117 (by decide) (fun c117 => ?_) (fun c117 => ?_)
      · have h := ite_f c117 h
        refine lv_iload_n hx hb d_M_control_141 rfl (lv_at hl 2 rfl) ?_
        refine lv_bipush (v := 14) hx hb d_M_control_142 (by decide) ?_
        refine lv_icmp_ne (tgt := 199) hx hb d_M_control_144 (by decide) (fun c144 => ?_) (fun c144 => ?_)
        · have h := ite_f c144 h
          refine lv_iload_n hx hb d_M_control_199 rfl (lv_at hl 2 rfl) ?_
          refine lv_bipush (v := 15) hx hb d_M_control_200 (by decide) ?_
          refine lv_icmp_ne (tgt := 231) hx hb d_M_control_202 (by decide) (fun c202 => ?_) (fun c202 => ?_)
          · have h := ite_f c202 h
            refine lv_iload_n hx hb d_M_control_231 rfl (lv_at hl 2 rfl) ?_
            refine lv_bipush (v := 16) hx hb d_M_control_232 (by decide) ?_
            refine lv_icmp_ne (tgt := 248) hx hb d_M_control_234 (by decide) (fun c234 => ?_) (fun c234 => ?_)
            · have h := ite_f c234 h
              exact w_M_control_248 C hQ x1 x2 s2 H locs ls hX hl h
            · have h := ite_t c234 h
              refine lv_aload_n hx hb d_M_control_237 rfl (lv_at hl 0 rfl) ?_
              refine lv_aload_n hx hb d_M_control_238 rfl (lv_at hl 0 rfl) ?_
              refine gm_first C hX fl_M_54 d_M_control_239 ?_
              refine lv_iload_n hx hb d_M_control_242 rfl (lv_at hl 1 rfl) ?_
              obtain ⟨hz243, h⟩ := gi_e h
              obtain ⟨v3, ev3, h⟩ := lt1_e h
              refine alm_15 C hX hz243 d_M_control_243 ev3 ?_
              obtain ⟨v4, ev4, h⟩ := lt1_e h
              refine lv_l2i hx hb d_M_control_244 ev4.symm ?_
              obtain ⟨s5, hc245, h⟩ := bd1_e h
              refine x_vV (As := [.int v4]) (rest := []) C hX (c_M_enter l g v4 s2 s5 hc245) (cw_M_346 C.1.2.2.2.2 C.2.2.2 ⟨by decide, by decide⟩) (x_rc C hX vg_0 rfl) rfl hl.1 rfl (lv_room (Nat.le_of_ble_eq_true rfl)) d_M_control_245 ⟨Nat.le_refl _, Nat.le_refl _⟩ (fun H locs hX => ?_)
              exact w_M_control_248 C hQ x1 x2 s5 H locs ls hX hl h
          · have h := ite_t c202 h
            refine lv_aload_n hx hb d_M_control_205 rfl (lv_at hl 0 rfl) ?_
            refine gm_place C hX fl_M_108 d_M_control_206 ?_
            refine lv_aload_n hx hb d_M_control_209 rfl (lv_at hl 0 rfl) ?_
            refine gm_calls C hX fl_M_340 d_M_control_210 ?_
            refine lv_aload_n hx hb d_M_control_213 rfl (lv_at hl 0 rfl) ?_
            refine gm_close C hX fl_M_78 d_M_control_214 ?_
            refine lv_aload_n hx hb d_M_control_217 rfl (lv_at hl 0 rfl) ?_
            refine gm_function C hX fl_M_105 d_M_control_218 ?_
            refine lv_aload_n hx hb d_M_control_221 rfl (lv_at hl 0 rfl) ?_
            refine gm_calls C hX fl_M_340 d_M_control_222 ?_
            obtain ⟨hz225, h⟩ := gi_e h
            obtain ⟨v6, ev6, h⟩ := lt1_e h
            refine alm_32 C hX hz225 d_M_control_225 ev6 ?_
            obtain ⟨hz226, h⟩ := gi_e h
            obtain ⟨v7, ev7, h⟩ := lt1_e h
            refine alm_23 C hX hz226 d_M_control_226 ev7 ?_
            obtain ⟨hz227, h⟩ := gi_e h
            obtain ⟨s8, es8, h⟩ := lt1_e h
            refine asm_33 C hX hz227 d_M_control_227 (fun H locs hX => ?_)
            rw [← es8] at hX
            refine lv_goto (tgt := 248) hx hb d_M_control_228 (by decide) ?_
            exact w_M_control_248 C hQ x1 x2 s8 H locs ls hX hl h
        · have h := ite_t c144 h
          refine lv_aload_n hx hb d_M_control_147 rfl (lv_at hl 0 rfl) ?_
          obtain ⟨r10, s9, hc148, h⟩ := bd_e h
          refine x_vI (As := []) (rest := []) C hX (c_M_pull l g s2 (r10, s9) hc148) (cw_M_365 C.1.2.2.2.2 C.2.2.2 ⟨by decide, by decide⟩) (x_rc C hX vg_0 rfl) rfl hl.1 rfl (lv_room (Nat.le_of_ble_eq_true rfl)) d_M_control_148 ⟨Nat.le_refl _, Nat.le_refl _⟩ (fun H locs hX => ?_)
          obtain ⟨v11, ev11, h⟩ := lt1_e h
          refine lv_i2l hx hb d_M_control_151 ev11.symm ?_
          refine lv_ldc2 (v := 4294967295) hx hb hown (hts _ m_constantLong_M_282) d_M_control_152 ?_
          obtain ⟨v12, ev12, h⟩ := lt1_e h
          refine x_land hx hb d_M_control_155 ev12 ?_
          refine lv_lstore_n (lv' := [(3, .long v12), (0, .ref (g.q 60)), (1, .int x1), (2, .int x2)]) hx hb d_M_control_156 rfl hl (by decide) rfl (fun ls hl => ?_)
          refine lv_aload_n hx hb d_M_control_157 rfl (lv_at hl 1 rfl) ?_
          refine lv_iload_n hx hb d_M_control_158 rfl (lv_at hl 2 rfl) ?_
          refine lv_aload_n hx hb d_M_control_159 rfl (lv_at hl 1 rfl) ?_
          refine gm_label C hX fl_M_84 d_M_control_160 ?_
          refine lv_aload_n hx hb d_M_control_163 rfl (lv_at hl 1 rfl) ?_
          refine gm_second C hX fl_M_57 d_M_control_164 ?_
          refine lv_iload_n hx hb d_M_control_167 rfl (lv_at hl 2 rfl) ?_
          obtain ⟨hz168, h⟩ := gi_e h
          obtain ⟨v13, ev13, h⟩ := lt1_e h
          refine alm_16 C hX hz168 d_M_control_168 ev13 ?_
          refine lv_lload_n hx hb d_M_control_169 rfl (lv_at hl 0 rfl) ?_
          refine lv_aload_n hx hb d_M_control_170 rfl (lv_at hl 1 rfl) ?_
          refine gm_first C hX fl_M_54 d_M_control_171 ?_
          refine lv_iload_n hx hb d_M_control_174 rfl (lv_at hl 2 rfl) ?_
          obtain ⟨hz175, h⟩ := gi_e h
          obtain ⟨v14, ev14, h⟩ := lt1_e h
          refine alm_15 C hX hz175 d_M_control_175 ev14 ?_
          obtain ⟨v15, ev15, h⟩ := lt1_e h
          refine x_lcmp hx hb d_M_control_176 ev15 ?_
          refine lv_if_ge (tgt := 184) hx hb d_M_control_177 (by decide) (fun c177 => ?_) (fun c177 => ?_)
          · have h := ite_t c177 h
            refine lv_aload_n hx hb d_M_control_184 rfl (lv_at hl 1 rfl) ?_
            refine gm_first C hX fl_M_54 d_M_control_185 ?_
            refine lv_iload_n hx hb d_M_control_188 rfl (lv_at hl 2 rfl) ?_
            obtain ⟨hz189, h⟩ := gi_e h
            obtain ⟨v16, ev16, h⟩ := lt1_e h
            refine alm_15 C hX hz189 d_M_control_189 ev16 ?_
            exact w_M_control_190 C hQ x1 x2 v12 x1 v13 v16 s9 H locs ls hX (lv_sub hl [1, 2, 3, 0] rfl) h
          · have h := ite_f c177 h
            refine lv_lload_n hx hb d_M_control_180 rfl (lv_at hl 0 rfl) ?_
            refine lv_goto (tgt := 190) hx hb d_M_control_181 (by decide) ?_
            exact w_M_control_190 C hQ x1 x2 v12 x1 v13 v12 s9 H locs ls hX (lv_sub hl [1, 2, 3, 0] rfl) h
      · have h := ite_t c117 h
        refine lv_aload_n hx hb d_M_control_120 rfl (lv_at hl 0 rfl) ?_
        obtain ⟨r18, s17, hc121, h⟩ := bd_e h
        refine x_vI (As := []) (rest := []) C hX (c_M_pull l g s2 (r18, s17) hc121) (cw_M_365 C.1.2.2.2.2 C.2.2.2 ⟨by decide, by decide⟩) (x_rc C hX vg_0 rfl) rfl hl.1 rfl (lv_room (Nat.le_of_ble_eq_true rfl)) d_M_control_121 ⟨Nat.le_refl _, Nat.le_refl _⟩ (fun H locs hX => ?_)
        refine lv_if_eq (tgt := 248) hx hb d_M_control_124 (by decide) (fun c124 => ?_) (fun c124 => ?_)
        · have h := ite_t c124 h
          exact w_M_control_248 C hQ x1 x2 s17 H locs ls hX hl h
        · have h := ite_f c124 h
          refine lv_aload_n hx hb d_M_control_127 rfl (lv_at hl 0 rfl) ?_
          refine lv_iload_n hx hb d_M_control_128 rfl (lv_at hl 1 rfl) ?_
          refine lv_aload_n hx hb d_M_control_129 rfl (lv_at hl 0 rfl) ?_
          refine gm_first C hX fl_M_54 d_M_control_130 ?_
          refine lv_iload_n hx hb d_M_control_133 rfl (lv_at hl 1 rfl) ?_
          obtain ⟨hz134, h⟩ := gi_e h
          obtain ⟨v19, ev19, h⟩ := lt1_e h
          refine alm_15 C hX hz134 d_M_control_134 ev19 ?_
          obtain ⟨s20, hc135, h⟩ := bd1_e h
          refine x_vV (As := [.int x1, .long v19]) (rest := []) C hX (c_M_jump l g x1 v19 s17 s20 hc135) (cw_M_377 C.1.2.2.2.2 C.2.2.2 ⟨by decide, by decide⟩) (x_rc C hX vg_0 rfl) rfl hl.1 rfl (lv_room (Nat.le_of_ble_eq_true rfl)) d_M_control_135 ⟨Nat.le_refl _, Nat.le_refl _⟩ (fun H locs hX => ?_)
          refine lv_goto (tgt := 248) hx hb d_M_control_138 (by decide) ?_
          exact w_M_control_248 C hQ x1 x2 s20 H locs ls hX hl h
    · have h := ite_t c97 h
      refine lv_aload_n hx hb d_M_control_100 rfl (lv_at hl 0 rfl) ?_
      refine lv_iload_n hx hb d_M_control_101 rfl (lv_at hl 1 rfl) ?_
      refine lv_aload_n hx hb d_M_control_102 rfl (lv_at hl 0 rfl) ?_
      refine gm_first C hX fl_M_54 d_M_control_103 ?_
      refine lv_iload_n hx hb d_M_control_106 rfl (lv_at hl 1 rfl) ?_
      obtain ⟨hz107, h⟩ := gi_e h
      obtain ⟨v21, ev21, h⟩ := lt1_e h
      refine alm_15 C hX hz107 d_M_control_107 ev21 ?_
      obtain ⟨s22, hc108, h⟩ := bd1_e h
      refine x_vV (As := [.int x1, .long v21]) (rest := []) C hX (c_M_jump l g x1 v21 s2 s22 hc108) (cw_M_377 C.1.2.2.2.2 C.2.2.2 ⟨by decide, by decide⟩) (x_rc C hX vg_0 rfl) rfl hl.1 rfl (lv_room (Nat.le_of_ble_eq_true rfl)) d_M_control_108 ⟨Nat.le_refl _, Nat.le_refl _⟩ (fun H locs hX => ?_)
      refine lv_goto (tgt := 248) hx hb d_M_control_111 (by decide) ?_
      exact w_M_control_248 C hQ x1 x2 s22 H locs ls hX hl h
  · have h := ite_t c45 h
    refine lv_aload_n hx hb d_M_control_48 rfl (lv_at hl 0 rfl) ?_
    obtain ⟨r24, s23, hc49, h⟩ := bd_e h
    refine x_vI (As := []) (rest := []) C hX (c_M_pull l g s2 (r24, s23) hc49) (cw_M_365 C.1.2.2.2.2 C.2.2.2 ⟨by decide, by decide⟩) (x_rc C hX vg_0 rfl) rfl hl.1 rfl (lv_room (Nat.le_of_ble_eq_true rfl)) d_M_control_49 ⟨Nat.le_refl _, Nat.le_refl _⟩ (fun H locs hX => ?_)
    refine lv_if_ne (tgt := 248) hx hb d_M_control_52 (by decide) (fun c52 => ?_) (fun c52 => ?_)
    · have h := ite_f c52 h
      exact w_M_control_248 C hQ x1 x2 s23 H locs ls hX hl h
    · have h := ite_t c52 h
      refine lv_aload_n hx hb d_M_control_55 rfl (lv_at hl 0 rfl) ?_
      refine gm_place C hX fl_M_108 d_M_control_56 ?_
      refine lv_aload_n hx hb d_M_control_59 rfl (lv_at hl 0 rfl) ?_
      refine gm_calls C hX fl_M_340 d_M_control_60 ?_
      refine lv_aload_n hx hb d_M_control_63 rfl (lv_at hl 0 rfl) ?_
      refine gm_elseAt C hX fl_M_66 d_M_control_64 ?_
      refine lv_iload_n hx hb d_M_control_67 rfl (lv_at hl 1 rfl) ?_
      obtain ⟨hz68, h⟩ := gi_e h
      obtain ⟨v25, ev25, h⟩ := lt1_e h
      refine alm_19 C hX hz68 d_M_control_68 ev25 ?_
      refine lv_iconst (v := (-1)) hx hb d_M_control_69 (by decide) ?_
      refine lv_icmp_ne (tgt := 82) hx hb d_M_control_70 (by decide) (fun c70 => ?_) (fun c70 => ?_)
      · have h := ite_f c70 h
        refine lv_aload_n hx hb d_M_control_82 rfl (lv_at hl 0 rfl) ?_
        refine gm_elseAt C hX fl_M_66 d_M_control_83 ?_
        refine lv_iload_n hx hb d_M_control_86 rfl (lv_at hl 1 rfl) ?_
        obtain ⟨hz87, h⟩ := gi_e h
        obtain ⟨v26, ev26, h⟩ := lt1_e h
        refine alm_19 C hX hz87 d_M_control_87 ev26 ?_
        refine lv_iconst (v := 1) hx hb d_M_control_88 (by decide) ?_
        obtain ⟨v27, ev27, h⟩ := lt1_e h
        refine x_iadd hx hb d_M_control_89 ev27 ?_
        exact w_M_control_90 C hQ x1 x2 (s23.1 0 22) v27 s23 H locs ls hX hl h
      · have h := ite_t c70 h
        refine lv_aload_n hx hb d_M_control_73 rfl (lv_at hl 0 rfl) ?_
        refine gm_endAt C hX fl_M_63 d_M_control_74 ?_
        refine lv_iload_n hx hb d_M_control_77 rfl (lv_at hl 1 rfl) ?_
        obtain ⟨hz78, h⟩ := gi_e h
        obtain ⟨v28, ev28, h⟩ := lt1_e h
        refine alm_18 C hX hz78 d_M_control_78 ev28 ?_
        refine lv_goto (tgt := 90) hx hb d_M_control_79 (by decide) ?_
        exact w_M_control_90 C hQ x1 x2 (s23.1 0 22) v28 s23 H locs ls hX hl h
set_option maxHeartbeats 4000000 in
set_option maxRecDepth 100000 in
theorem w_M_control {z : Int32 × SM} (C : Cx g A p m c b_M_control 5 ss args R_M) (hQ : ∀ (pc : Nat) (H : Heap) (locs : List Loc) (ls : Array Slot), XW g A ss (wM g z.2) H locs → decode b_M_control pc = .ok (.ireturn, 1) → W p l e (rmX 3 70) ss m args below meth c H locs 0 0 Q (F0 m pc ls [.int z.1])) : ∀ (x1 : Int32) (s : SM) (H : Heap) (locs : List Loc) (ls : Array Slot), XW g A ss (wM g s) H locs → lv_has ls 5 [(0, .ref (g.q 60)), (1, .int x1)] → f_M_control x1 s = some z → W p l e (rmX 3 70) ss m args below meth c H locs 0 0 Q (F0 m 0 ls []) := by
  have ⟨⟨hx, hb, hml, hown, hts⟩, hK, hA, hN⟩ := C
  intro x1 s H locs ls hX hl h
  rw [f_M_control] at h
  refine lv_aload_n hx hb d_M_control_0 rfl (lv_at hl 0 rfl) ?_
  refine gm_op C hX fl_M_51 d_M_control_1 ?_
  refine lv_iload_n hx hb d_M_control_4 rfl (lv_at hl 1 rfl) ?_
  obtain ⟨hz5, h⟩ := gi_e h
  obtain ⟨v1, ev1, h⟩ := lt1_e h
  refine alm_14 C hX hz5 d_M_control_5 ev1 ?_
  refine lv_istore_n (lv' := [(2, .int v1), (0, .ref (g.q 60)), (1, .int x1)]) hx hb d_M_control_6 rfl hl (by decide) rfl (fun ls hl => ?_)
  refine lv_iload_n hx hb d_M_control_7 rfl (lv_at hl 0 rfl) ?_
  refine lv_if_ne (tgt := 13) hx hb d_M_control_8 (by decide) (fun c8 => ?_) (fun c8 => ?_)
  · have h := ite_f c8 h
    refine lv_iload_n hx hb d_M_control_13 rfl (lv_at hl 0 rfl) ?_
    refine lv_bipush (v := 16) hx hb d_M_control_14 (by decide) ?_
    refine lv_icmp_ne (tgt := 31) hx hb d_M_control_16 (by decide) (fun c16 => ?_) (fun c16 => ?_)
    · have h := ite_f c16 h
      exact w_M_control_31 C hQ x1 v1 s H locs ls hX (lv_sub hl [1, 2, 0] rfl) h
    · have h := ite_t c16 h
      refine lv_aload_n hx hb d_M_control_19 rfl (lv_at hl 1 rfl) ?_
      refine gm_calls C hX fl_M_340 d_M_control_20 ?_
      refine lv_bipush (v := 8) hx hb d_M_control_23 (by decide) ?_
      refine lv_icmp_ne (tgt := 31) hx hb d_M_control_25 (by decide) (fun c25 => ?_) (fun c25 => ?_)
      · have h := ite_f c25 h
        exact w_M_control_31 C hQ x1 v1 s H locs ls hX (lv_sub hl [1, 2, 0] rfl) h
      · have h := ite_t c25 h
        refine lv_bipush (v := 6) hx hb d_M_control_28 (by decide) ?_
        obtain rfl := so1 h
        exact hQ _ H locs ls hX d_M_control_30
  · have h := ite_t c8 h
    refine lv_iconst (v := 2) hx hb d_M_control_11 (by decide) ?_
    obtain rfl := so1 h
    exact hQ _ H locs ls hX d_M_control_12
end WALK
theorem c_M_control (l : Launch) (g : GX) (x1 : Int32) (s : SM) (z : Int32 × SM) (h : f_M_control x1 s = some z) : MI l g y_M_control b_M_control 5 (some .int) 3 70 [.ref (g.q 60), .int x1] (wM g s) z.1 (wM g z.2) :=
  MI.mk (own := R_M) (by decide) rfl (Nat.le_of_ble_eq_true rfl) fun p e ss m below meth c A Q C hQ ls hX hl => w_M_control C hQ x1 s _ _ ls hX hl h
-- M_give
def f_M_give (x1 : Int32) (s : SM) : Option SM :=
    gi (s.1 0 23) 400 <|
    lt1 (stI s 35 (Int32.toNatClampNeg (s.1 0 23)) x1) fun s1 =>
    lt1 (s1.1 0 23 + 1) fun v2 =>
    lt1 (stI s1 0 23 v2) fun s3 =>
    some s3
section WALK
variable {p : Program} {l : Launch} {e : Env} {ss : State} {m : MethodId} {args : Array Value} {below : List Frame} {meth : Method} {c : Code} {Q : State → Prop} {g : GX} {A : Nat → Prop}
set_option maxHeartbeats 4000000 in
set_option maxRecDepth 100000 in
theorem w_M_give {z : SM} (C : Cx g A p m c b_M_give 2 ss args R_M) (hQ : ∀ (pc : Nat) (H : Heap) (locs : List Loc) (ls : Array Slot), XW g A ss (wM g z) H locs → decode b_M_give pc = .ok (.return_, 1) → W p l e (rmX 0 0) ss m args below meth c H locs 0 0 Q (F0 m pc ls [])) : ∀ (x1 : Int32) (s : SM) (H : Heap) (locs : List Loc) (ls : Array Slot), XW g A ss (wM g s) H locs → lv_has ls 2 [(0, .ref (g.q 60)), (1, .int x1)] → f_M_give x1 s = some z → W p l e (rmX 0 0) ss m args below meth c H locs 0 0 Q (F0 m 0 ls []) := by
  have ⟨⟨hx, hb, hml, hown, hts⟩, hK, hA, hN⟩ := C
  intro x1 s H locs ls hX hl h
  rw [f_M_give] at h
  refine lv_aload_n hx hb d_M_give_0 rfl (lv_at hl 0 rfl) ?_
  refine gm_stack C hX fl_M_114 d_M_give_1 ?_
  refine lv_aload_n hx hb d_M_give_4 rfl (lv_at hl 0 rfl) ?_
  refine gm_sp C hX fl_M_343 d_M_give_5 ?_
  refine lv_iload_n hx hb d_M_give_8 rfl (lv_at hl 1 rfl) ?_
  obtain ⟨hz9, h⟩ := gi_e h
  obtain ⟨s1, es1, h⟩ := lt1_e h
  refine asm_35 C hX hz9 d_M_give_9 (fun H locs hX => ?_)
  rw [← es1] at hX
  refine lv_aload_n hx hb d_M_give_10 rfl (lv_at hl 0 rfl) ?_
  refine lv_dup hx hb d_M_give_11 rfl ?_
  refine gm_sp C hX fl_M_343 d_M_give_12 ?_
  refine lv_iconst (v := 1) hx hb d_M_give_15 (by decide) ?_
  obtain ⟨v2, ev2, h⟩ := lt1_e h
  refine x_iadd hx hb d_M_give_16 ev2 ?_
  obtain ⟨s3, es3, h⟩ := lt1_e h
  refine pm_sp C hX fl_M_343 d_M_give_17 (fun H locs hX => ?_)
  rw [← es3] at hX
  obtain rfl := so1 h
  exact hQ _ H locs ls hX d_M_give_20
end WALK
theorem c_M_give (l : Launch) (g : GX) (x1 : Int32) (s : SM) (z : SM) (h : f_M_give x1 s = some z) : MV l g y_M_give b_M_give 2 none 0 0 [.ref (g.q 60), .int x1] (wM g s) (wM g z) :=
  MV.mk (own := R_M) (by decide) rfl (Nat.le_of_ble_eq_true rfl) fun p e ss m below meth c A Q C hQ ls hX hl => w_M_give C hQ x1 s _ _ ls hX hl h
-- M_read
def f_M_read_71 (s : SM) (x1 : Int32) (x2 : Int32) (x3 : Int32) (x4 : Int32) (y0 : Int32) : Option Int32 :=
    some (y0)
def f_M_read_5 (s : SM) : Nat → Int32 → Int32 → Int32 → Int32 → Option Int32
  | 0, _, _, _, _ => none
  | n + 1, x1, x2, x3, x4 =>
    bd1 (f_M_width x1) fun r1 =>
    if r1 ≤ x4 then
      if x1 = 44 then
        lt1 (x3 <<< (24 &&& 31)) fun v4 =>
        lt1 (v4 >>> (24 &&& 31)) fun v5 =>
        f_M_read_71 s x1 x2 x3 x4 v5
      else
        if x1 = 46 then
          lt1 (x3 <<< (16 &&& 31)) fun v2 =>
          lt1 (v2 >>> (16 &&& 31)) fun v3 =>
          f_M_read_71 s x1 x2 x3 x4 v3
        else
          f_M_read_71 s x1 x2 x3 x4 x3
    else
      lt1 (x2 + x4) fun v6 =>
      gi v6 256 <|
      lt1 (s.1 29 (Int32.toNatClampNeg v6)) fun v7 =>
      lt1 (8 * x4) fun v8 =>
      lt1 (v7 <<< (v8 &&& 31)) fun v9 =>
      lt1 (x3 ||| v9) fun v10 =>
      lt1 (x4 + (1)) fun v11 =>
      f_M_read_5 s n x1 x2 v10 v11
def f_M_read (s : SM) (x1 : Int32) (x2 : Int32) : Option Int32 :=
    f_M_read_5 s FU x1 x2 0 0
section WALK
variable {p : Program} {l : Launch} {e : Env} {ss : State} {m : MethodId} {args : Array Value} {below : List Frame} {meth : Method} {c : Code} {Q : State → Prop} {g : GX} {A : Nat → Prop}
set_option maxHeartbeats 4000000 in
set_option maxRecDepth 100000 in
theorem w_M_read_71 {s : SM} {z : Int32} (C : Cx g A p m c b_M_read 5 ss args R_M) (hQ : ∀ (pc : Nat) (H : Heap) (locs : List Loc) (ls : Array Slot), XW g A ss (wM g s) H locs → decode b_M_read pc = .ok (.ireturn, 1) → W p l e (rmX 1 20) ss m args below meth c H locs 0 0 Q (F0 m pc ls [.int z])) : ∀ (x1 : Int32) (x2 : Int32) (x3 : Int32) (x4 : Int32) (y0 : Int32) (H : Heap) (locs : List Loc) (ls : Array Slot), XW g A ss (wM g s) H locs → lv_has ls 5 [(0, .ref (g.q 60)), (1, .int x1), (2, .int x2), (3, .int x3), (4, .int x4)] → f_M_read_71 s x1 x2 x3 x4 y0 = some z → W p l e (rmX 1 20) ss m args below meth c H locs 0 0 Q (F0 m 71 ls [.int y0]) := by
  have ⟨⟨hx, hb, hml, hown, hts⟩, hK, hA, hN⟩ := C
  intro x1 x2 x3 x4 y0 H locs ls hX hl h
  rw [f_M_read_71] at h
  obtain rfl := so1 h
  exact hQ _ H locs ls hX d_M_read_71
set_option maxHeartbeats 4000000 in
set_option maxRecDepth 100000 in
theorem w_M_read_5 {s : SM} {z : Int32} (C : Cx g A p m c b_M_read 5 ss args R_M) (hQ : ∀ (pc : Nat) (H : Heap) (locs : List Loc) (ls : Array Slot), XW g A ss (wM g s) H locs → decode b_M_read pc = .ok (.ireturn, 1) → W p l e (rmX 1 20) ss m args below meth c H locs 0 0 Q (F0 m pc ls [.int z])) (n : Nat) : ∀ (x1 : Int32) (x2 : Int32) (x3 : Int32) (x4 : Int32) (H : Heap) (locs : List Loc) (ls : Array Slot), XW g A ss (wM g s) H locs → lv_has ls 5 [(0, .ref (g.q 60)), (1, .int x1), (2, .int x2), (3, .int x3), (4, .int x4)] → f_M_read_5 s n x1 x2 x3 x4 = some z → W p l e (rmX 1 20) ss m args below meth c H locs 0 0 Q (F0 m 5 ls []) := by
  have ⟨⟨hx, hb, hml, hown, hts⟩, hK, hA, hN⟩ := C
  induction n with
  | zero => intro x1 x2 x3 x4 H locs ls hX hl h; cases h
  | succ n ih =>
    intro x1 x2 x3 x4 H locs ls hX hl h
    rw [f_M_read_5] at h
    refine lv_iload hx hb d_M_read_5 (lv_at hl 4 rfl) ?_
    refine lv_iload_n hx hb d_M_read_7 rfl (lv_at hl 1 rfl) ?_
    obtain ⟨r1, hc8, h⟩ := bd1_e h
    refine x_sI (As := [.int x1]) (rest := [.int x4]) C hX (c_M_width l g x1 r1 hc8 _) (cw_M_325 C.1.2.2.2.2 C.2.2.2 ⟨by decide, by decide⟩) rfl hl.1 rfl (lv_room (Nat.le_of_ble_eq_true rfl)) d_M_read_8 ⟨Nat.le_refl _, Nat.le_refl _⟩ (fun H locs hX => ?_)
    refine lv_icmp_ge (tgt := 38) hx hb d_M_read_11 (by decide) (fun c11 => ?_) (fun c11 => ?_)
    · have h := ite_t c11 h
      refine lv_iload_n hx hb d_M_read_38 rfl (lv_at hl 1 rfl) ?_
      refine lv_bipush (v := 44) hx hb d_M_read_39 (by decide) ?_
      refine lv_icmp_ne (tgt := 54) hx hb d_M_read_41 (by decide) (fun c41 => ?_) (fun c41 => ?_)
      · have h := ite_f c41 h
        refine lv_iload_n hx hb d_M_read_54 rfl (lv_at hl 1 rfl) ?_
        refine lv_bipush (v := 46) hx hb d_M_read_55 (by decide) ?_
        refine lv_icmp_ne (tgt := 70) hx hb d_M_read_57 (by decide) (fun c57 => ?_) (fun c57 => ?_)
        · have h := ite_f c57 h
          refine lv_iload_n hx hb d_M_read_70 rfl (lv_at hl 3 rfl) ?_
          exact w_M_read_71 C hQ x1 x2 x3 x4 x3 H locs ls hX hl h
        · have h := ite_t c57 h
          refine lv_iload_n hx hb d_M_read_60 rfl (lv_at hl 3 rfl) ?_
          refine lv_bipush (v := 16) hx hb d_M_read_61 (by decide) ?_
          obtain ⟨v2, ev2, h⟩ := lt1_e h
          refine x_ishl hx hb d_M_read_63 ev2 ?_
          refine lv_bipush (v := 16) hx hb d_M_read_64 (by decide) ?_
          obtain ⟨v3, ev3, h⟩ := lt1_e h
          refine x_ishr hx hb d_M_read_66 ev3 ?_
          refine lv_goto (tgt := 71) hx hb d_M_read_67 (by decide) ?_
          exact w_M_read_71 C hQ x1 x2 x3 x4 v3 H locs ls hX hl h
      · have h := ite_t c41 h
        refine lv_iload_n hx hb d_M_read_44 rfl (lv_at hl 3 rfl) ?_
        refine lv_bipush (v := 24) hx hb d_M_read_45 (by decide) ?_
        obtain ⟨v4, ev4, h⟩ := lt1_e h
        refine x_ishl hx hb d_M_read_47 ev4 ?_
        refine lv_bipush (v := 24) hx hb d_M_read_48 (by decide) ?_
        obtain ⟨v5, ev5, h⟩ := lt1_e h
        refine x_ishr hx hb d_M_read_50 ev5 ?_
        refine lv_goto (tgt := 71) hx hb d_M_read_51 (by decide) ?_
        exact w_M_read_71 C hQ x1 x2 x3 x4 v5 H locs ls hX hl h
    · have h := ite_f c11 h
      refine lv_iload_n hx hb d_M_read_14 rfl (lv_at hl 3 rfl) ?_
      refine lv_aload_n hx hb d_M_read_15 rfl (lv_at hl 0 rfl) ?_
      refine gm_memory C hX fl_M_96 d_M_read_16 ?_
      refine lv_iload_n hx hb d_M_read_19 rfl (lv_at hl 2 rfl) ?_
      refine lv_iload hx hb d_M_read_20 (lv_at hl 4 rfl) ?_
      obtain ⟨v6, ev6, h⟩ := lt1_e h
      refine x_iadd hx hb d_M_read_22 ev6 ?_
      obtain ⟨hz23, h⟩ := gi_e h
      obtain ⟨v7, ev7, h⟩ := lt1_e h
      refine alm_29 C hX hz23 d_M_read_23 ev7 ?_
      refine lv_bipush (v := 8) hx hb d_M_read_24 (by decide) ?_
      refine lv_iload hx hb d_M_read_26 (lv_at hl 4 rfl) ?_
      obtain ⟨v8, ev8, h⟩ := lt1_e h
      refine x_imul hx hb d_M_read_28 ev8 ?_
      obtain ⟨v9, ev9, h⟩ := lt1_e h
      refine x_ishl hx hb d_M_read_29 ev9 ?_
      obtain ⟨v10, ev10, h⟩ := lt1_e h
      refine x_ior hx hb d_M_read_30 ev10 ?_
      refine lv_istore_n (lv' := [(3, .int v10), (0, .ref (g.q 60)), (1, .int x1), (2, .int x2), (4, .int x4)]) hx hb d_M_read_31 rfl hl (by decide) rfl (fun ls hl => ?_)
      obtain ⟨v11, ev11, h⟩ := lt1_e h
      refine lv_iinc (v := v11) (lv' := [(4, .int v11), (3, .int v10), (0, .ref (g.q 60)), (1, .int x1), (2, .int x2)]) hx hb d_M_read_32 hl (k := 4) rfl (by rw [ev11]; rfl) (by decide) rfl (fun ls hl => ?_)
      refine lv_goto (tgt := 5) hx hb d_M_read_35 (by decide) ?_
      exact ih x1 x2 v10 v11 H locs ls hX (lv_sub hl [2, 3, 4, 1, 0] rfl) h
set_option maxHeartbeats 4000000 in
set_option maxRecDepth 100000 in
theorem w_M_read {s : SM} {z : Int32} (C : Cx g A p m c b_M_read 5 ss args R_M) (hQ : ∀ (pc : Nat) (H : Heap) (locs : List Loc) (ls : Array Slot), XW g A ss (wM g s) H locs → decode b_M_read pc = .ok (.ireturn, 1) → W p l e (rmX 1 20) ss m args below meth c H locs 0 0 Q (F0 m pc ls [.int z])) : ∀ (x1 : Int32) (x2 : Int32) (H : Heap) (locs : List Loc) (ls : Array Slot), XW g A ss (wM g s) H locs → lv_has ls 5 [(0, .ref (g.q 60)), (1, .int x1), (2, .int x2)] → f_M_read s x1 x2 = some z → W p l e (rmX 1 20) ss m args below meth c H locs 0 0 Q (F0 m 0 ls []) := by
  have ⟨⟨hx, hb, hml, hown, hts⟩, hK, hA, hN⟩ := C
  intro x1 x2 H locs ls hX hl h
  rw [f_M_read] at h
  refine lv_iconst (v := 0) hx hb d_M_read_0 (by decide) ?_
  refine lv_istore_n (lv' := [(3, .int 0), (0, .ref (g.q 60)), (1, .int x1), (2, .int x2)]) hx hb d_M_read_1 rfl hl (by decide) rfl (fun ls hl => ?_)
  refine lv_iconst (v := 0) hx hb d_M_read_2 (by decide) ?_
  refine lv_istore (lv' := [(4, .int 0), (3, .int 0), (0, .ref (g.q 60)), (1, .int x1), (2, .int x2)]) hx hb d_M_read_3 hl (by decide) rfl (fun ls hl => ?_)
  exact w_M_read_5 C hQ FU x1 x2 0 0 H locs ls hX (lv_sub hl [2, 3, 4, 1, 0] rfl) h
end WALK
theorem c_M_read (l : Launch) (g : GX) (x1 : Int32) (x2 : Int32) (s : SM) (z : Int32) (h : f_M_read s x1 x2 = some z) : MI l g y_M_read b_M_read 5 (some .int) 1 20 [.ref (g.q 60), .int x1, .int x2] (wM g s) z (wM g s) :=
  MI.mk (own := R_M) (by decide) rfl (Nat.le_of_ble_eq_true rfl) fun p e ss m below meth c A Q C hQ ls hX hl => w_M_read C hQ x1 x2 _ _ ls hX hl h
