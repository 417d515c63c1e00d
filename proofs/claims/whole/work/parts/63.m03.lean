-- M_isExport
def f_M_isExport_105 (s : SM) (k73 : Int32 → Int32 → Int32 → Int32 → Option Int32) (x1 : Int32) (x2 : Int32) (x3 : Int32) (x4 : Int32) (y0 : Int32) : Option Int32 :=
    lt1 (x4 + (1)) fun v1 =>
    k73 x1 x2 y0 v1
def f_M_isExport_104 (s : SM) (k73 : Int32 → Int32 → Int32 → Int32 → Option Int32) (x1 : Int32) (x2 : Int32) (x3 : Int32) (x4 : Int32) : Option Int32 :=
    f_M_isExport_105 s k73 x1 x2 x3 x4 0
def f_M_isExport_73 (s : SM) : Nat → Int32 → Int32 → Int32 → Int32 → Option Int32
  | 0, _, _, _, _ => none
  | n + 1, x1, x2, x3, x4 =>
    if x1 ≤ x4 then
      bz x3 <|
      some (x3)
    else
      if x3 = 0 then
        f_M_isExport_104 s (f_M_isExport_73 s n) x1 x2 x3 x4
      else
        gi x4 8 <|
        lt1 (s.2 7 (Int32.toNatClampNeg x4)) fun v1 =>
        gi x1 8 <|
        lt1 (s.2 7 (Int32.toNatClampNeg x1)) fun v2 =>
        lt1 (lg_cmp v1 v2) fun v3 =>
        if v3 = 0 then
          f_M_isExport_104 s (f_M_isExport_73 s n) x1 x2 x3 x4
        else
          f_M_isExport_105 s (f_M_isExport_73 s n) x1 x2 x3 x4 1
def f_M_isExport_69 (s : SM) (x1 : Int32) (x2 : Int32) (y0 : Int32) : Option Int32 :=
    f_M_isExport_73 s FU x1 x2 y0 0
def f_M_isExport_51 (s : SM) (x1 : Int32) (y0 : Int32) : Option Int32 :=
    gi x1 8 <|
    lt1 (s.2 9 (Int32.toNatClampNeg x1)) fun v1 =>
    lt1 (Int32.toInt64 y0) fun v2 =>
    lt1 (lg_cmp v1 v2) fun v3 =>
    if 0 ≤ v3 then
      f_M_isExport_69 s x1 y0 0
    else
      f_M_isExport_69 s x1 y0 1
def f_M_isExport (s : SM) (x1 : Int32) : Option Int32 :=
    gi x1 8 <|
    lt1 (s.1 8 (Int32.toNatClampNeg x1)) fun v1 =>
    if v1 = 0 then
      f_M_isExport_51 s x1 (s.1 0 7)
    else
      gi x1 8 <|
      lt1 (s.1 8 (Int32.toNatClampNeg x1)) fun v2 =>
      if v2 = 1 then
        f_M_isExport_51 s x1 0
      else
        gi x1 8 <|
        lt1 (s.1 8 (Int32.toNatClampNeg x1)) fun v3 =>
        if v3 = 2 then
          f_M_isExport_51 s x1 (s.1 0 9)
        else
          f_M_isExport_51 s x1 (s.1 0 11)
section WALK
variable {p : Program} {l : Launch} {e : Env} {ss : State} {m : MethodId} {args : Array Value} {below : List Frame} {meth : Method} {c : Code} {Q : State → Prop} {g : GX} {A : Nat → Prop}
set_option maxHeartbeats 4000000 in
set_option maxRecDepth 100000 in
theorem w_M_isExport_105 {s : SM} {z : Int32} (C : Cx g A p m c b_M_isExport 5 ss args R_M) (hQ : ∀ (pc : Nat) (H : Heap) (locs : List Loc) (ls : Array Slot), XW g A ss (wM g s) H locs → (z = 0 ∨ z = 1) → decode b_M_isExport pc = .ok (.ireturn, 1) → W p l e (rmX 0 0) ss m args below meth c H locs 0 0 Q (F0 m pc ls [.int z])) (k73 : Int32 → Int32 → Int32 → Int32 → Option Int32) (hk73 : ∀ (x1 : Int32) (x2 : Int32) (x3 : Int32) (x4 : Int32) (H : Heap) (locs : List Loc) (ls : Array Slot), XW g A ss (wM g s) H locs → lv_has ls 5 [(0, .ref (g.q 60)), (1, .int x1), (2, .int x2), (3, .int x3), (4, .int x4)] → k73 x1 x2 x3 x4 = some z → W p l e (rmX 0 0) ss m args below meth c H locs 0 0 Q (F0 m 73 ls [])) : ∀ (x1 : Int32) (x2 : Int32) (x3 : Int32) (x4 : Int32) (y0 : Int32) (H : Heap) (locs : List Loc) (ls : Array Slot), XW g A ss (wM g s) H locs → lv_has ls 5 [(0, .ref (g.q 60)), (1, .int x1), (2, .int x2), (3, .int x3), (4, .int x4)] → f_M_isExport_105 s k73 x1 x2 x3 x4 y0 = some z → W p l e (rmX 0 0) ss m args below meth c H locs 0 0 Q (F0 m 105 ls [.int y0]) := by
  have ⟨⟨hx, hb, hml, hown, hts⟩, hK, hA, hN⟩ := C
  intro x1 x2 x3 x4 y0 H locs ls hX hl h
  rw [f_M_isExport_105] at h
  refine lv_istore_n (lv' := [(3, .int y0), (0, .ref (g.q 60)), (1, .int x1), (2, .int x2), (4, .int x4)]) hx hb d_M_isExport_105 rfl hl (by decide) rfl (fun ls hl => ?_)
  obtain ⟨v1, ev1, h⟩ := lt1_e h
  refine lv_iinc (v := v1) (lv' := [(4, .int v1), (3, .int y0), (0, .ref (g.q 60)), (1, .int x1), (2, .int x2)]) hx hb d_M_isExport_106 hl (k := 4) rfl (by rw [ev1]; rfl) (by decide) rfl (fun ls hl => ?_)
  refine lv_goto (tgt := 73) hx hb d_M_isExport_109 (by decide) ?_
  exact hk73 x1 x2 y0 v1 H locs ls hX (lv_sub hl [2, 3, 4, 1, 0] rfl) h
set_option maxHeartbeats 4000000 in
set_option maxRecDepth 100000 in
theorem w_M_isExport_104 {s : SM} {z : Int32} (C : Cx g A p m c b_M_isExport 5 ss args R_M) (hQ : ∀ (pc : Nat) (H : Heap) (locs : List Loc) (ls : Array Slot), XW g A ss (wM g s) H locs → (z = 0 ∨ z = 1) → decode b_M_isExport pc = .ok (.ireturn, 1) → W p l e (rmX 0 0) ss m args below meth c H locs 0 0 Q (F0 m pc ls [.int z])) (k73 : Int32 → Int32 → Int32 → Int32 → Option Int32) (hk73 : ∀ (x1 : Int32) (x2 : Int32) (x3 : Int32) (x4 : Int32) (H : Heap) (locs : List Loc) (ls : Array Slot), XW g A ss (wM g s) H locs → lv_has ls 5 [(0, .ref (g.q 60)), (1, .int x1), (2, .int x2), (3, .int x3), (4, .int x4)] → k73 x1 x2 x3 x4 = some z → W p l e (rmX 0 0) ss m args below meth c H locs 0 0 Q (F0 m 73 ls [])) : ∀ (x1 : Int32) (x2 : Int32) (x3 : Int32) (x4 : Int32) (H : Heap) (locs : List Loc) (ls : Array Slot), XW g A ss (wM g s) H locs → lv_has ls 5 [(0, .ref (g.q 60)), (1, .int x1), (2, .int x2), (3, .int x3), (4, .int x4)] → f_M_isExport_104 s k73 x1 x2 x3 x4 = some z → W p l e (rmX 0 0) ss m args below meth c H locs 0 0 Q (F0 m 104 ls []) := by
  have ⟨⟨hx, hb, hml, hown, hts⟩, hK, hA, hN⟩ := C
  intro x1 x2 x3 x4 H locs ls hX hl h
  rw [f_M_isExport_104] at h
  refine lv_iconst (v := 0) hx hb d_M_isExport_104 (by decide) ?_
  exact w_M_isExport_105 C hQ k73 hk73 x1 x2 x3 x4 0 H locs ls hX hl h
set_option maxHeartbeats 4000000 in
set_option maxRecDepth 100000 in
theorem w_M_isExport_73 {s : SM} {z : Int32} (C : Cx g A p m c b_M_isExport 5 ss args R_M) (hQ : ∀ (pc : Nat) (H : Heap) (locs : List Loc) (ls : Array Slot), XW g A ss (wM g s) H locs → (z = 0 ∨ z = 1) → decode b_M_isExport pc = .ok (.ireturn, 1) → W p l e (rmX 0 0) ss m args below meth c H locs 0 0 Q (F0 m pc ls [.int z])) (n : Nat) : ∀ (x1 : Int32) (x2 : Int32) (x3 : Int32) (x4 : Int32) (H : Heap) (locs : List Loc) (ls : Array Slot), XW g A ss (wM g s) H locs → lv_has ls 5 [(0, .ref (g.q 60)), (1, .int x1), (2, .int x2), (3, .int x3), (4, .int x4)] → f_M_isExport_73 s n x1 x2 x3 x4 = some z → W p l e (rmX 0 0) ss m args below meth c H locs 0 0 Q (F0 m 73 ls []) := by
  have ⟨⟨hx, hb, hml, hown, hts⟩, hK, hA, hN⟩ := C
  induction n with
  | zero => intro x1 x2 x3 x4 H locs ls hX hl h; cases h
  | succ n ih =>
    intro x1 x2 x3 x4 H locs ls hX hl h
    rw [f_M_isExport_73] at h
    refine lv_iload hx hb d_M_isExport_73 (lv_at hl 4 rfl) ?_
    refine lv_iload_n hx hb d_M_isExport_75 rfl (lv_at hl 1 rfl) ?_
    refine lv_icmp_ge (tgt := 112) hx hb d_M_isExport_76 (by decide) (fun c76 => ?_) (fun c76 => ?_)
    · have h := ite_t c76 h
      refine lv_iload_n hx hb d_M_isExport_112 rfl (lv_at hl 3 rfl) ?_
      obtain ⟨hz, h⟩ := bz_e h
      obtain rfl := so1 h
      exact hQ _ H locs ls hX hz d_M_isExport_113
    · have h := ite_f c76 h
      refine lv_iload_n hx hb d_M_isExport_79 rfl (lv_at hl 3 rfl) ?_
      refine lv_if_eq (tgt := 104) hx hb d_M_isExport_80 (by decide) (fun c80 => ?_) (fun c80 => ?_)
      · have h := ite_t c80 h
        exact w_M_isExport_104 C hQ (f_M_isExport_73 s n) ih x1 x2 x3 x4 H locs ls hX hl h
      · have h := ite_f c80 h
        refine lv_aload_n hx hb d_M_isExport_83 rfl (lv_at hl 0 rfl) ?_
        refine gm_name C hX fl_M_30 d_M_isExport_84 ?_
        refine lv_iload hx hb d_M_isExport_87 (lv_at hl 4 rfl) ?_
        obtain ⟨hz89, h⟩ := gi_e h
        obtain ⟨v1, ev1, h⟩ := lt1_e h
        refine alm_7 C hX hz89 d_M_isExport_89 ev1 ?_
        refine lv_aload_n hx hb d_M_isExport_90 rfl (lv_at hl 0 rfl) ?_
        refine gm_name C hX fl_M_30 d_M_isExport_91 ?_
        refine lv_iload_n hx hb d_M_isExport_94 rfl (lv_at hl 1 rfl) ?_
        obtain ⟨hz95, h⟩ := gi_e h
        obtain ⟨v2, ev2, h⟩ := lt1_e h
        refine alm_7 C hX hz95 d_M_isExport_95 ev2 ?_
        obtain ⟨v3, ev3, h⟩ := lt1_e h
        refine x_lcmp hx hb d_M_isExport_96 ev3 ?_
        refine lv_if_eq (tgt := 104) hx hb d_M_isExport_97 (by decide) (fun c97 => ?_) (fun c97 => ?_)
        · have h := ite_t c97 h
          exact w_M_isExport_104 C hQ (f_M_isExport_73 s n) ih x1 x2 x3 x4 H locs ls hX hl h
        · have h := ite_f c97 h
          refine lv_iconst (v := 1) hx hb d_M_isExport_100 (by decide) ?_
          refine lv_goto (tgt := 105) hx hb d_M_isExport_101 (by decide) ?_
          exact w_M_isExport_105 C hQ (f_M_isExport_73 s n) ih x1 x2 x3 x4 1 H locs ls hX hl h
set_option maxHeartbeats 4000000 in
set_option maxRecDepth 100000 in
theorem w_M_isExport_69 {s : SM} {z : Int32} (C : Cx g A p m c b_M_isExport 5 ss args R_M) (hQ : ∀ (pc : Nat) (H : Heap) (locs : List Loc) (ls : Array Slot), XW g A ss (wM g s) H locs → (z = 0 ∨ z = 1) → decode b_M_isExport pc = .ok (.ireturn, 1) → W p l e (rmX 0 0) ss m args below meth c H locs 0 0 Q (F0 m pc ls [.int z])) : ∀ (x1 : Int32) (x2 : Int32) (y0 : Int32) (H : Heap) (locs : List Loc) (ls : Array Slot), XW g A ss (wM g s) H locs → lv_has ls 5 [(0, .ref (g.q 60)), (1, .int x1), (2, .int x2)] → f_M_isExport_69 s x1 x2 y0 = some z → W p l e (rmX 0 0) ss m args below meth c H locs 0 0 Q (F0 m 69 ls [.int y0]) := by
  have ⟨⟨hx, hb, hml, hown, hts⟩, hK, hA, hN⟩ := C
  intro x1 x2 y0 H locs ls hX hl h
  rw [f_M_isExport_69] at h
  refine lv_istore_n (lv' := [(3, .int y0), (0, .ref (g.q 60)), (1, .int x1), (2, .int x2)]) hx hb d_M_isExport_69 rfl hl (by decide) rfl (fun ls hl => ?_)
  refine lv_iconst (v := 0) hx hb d_M_isExport_70 (by decide) ?_
  refine lv_istore (lv' := [(4, .int 0), (3, .int y0), (0, .ref (g.q 60)), (1, .int x1), (2, .int x2)]) hx hb d_M_isExport_71 hl (by decide) rfl (fun ls hl => ?_)
  exact w_M_isExport_73 C hQ FU x1 x2 y0 0 H locs ls hX (lv_sub hl [2, 3, 4, 1, 0] rfl) h
set_option maxHeartbeats 4000000 in
set_option maxRecDepth 100000 in
theorem w_M_isExport_51 {s : SM} {z : Int32} (C : Cx g A p m c b_M_isExport 5 ss args R_M) (hQ : ∀ (pc : Nat) (H : Heap) (locs : List Loc) (ls : Array Slot), XW g A ss (wM g s) H locs → (z = 0 ∨ z = 1) → decode b_M_isExport pc = .ok (.ireturn, 1) → W p l e (rmX 0 0) ss m args below meth c H locs 0 0 Q (F0 m pc ls [.int z])) : ∀ (x1 : Int32) (y0 : Int32) (H : Heap) (locs : List Loc) (ls : Array Slot), XW g A ss (wM g s) H locs → lv_has ls 5 [(0, .ref (g.q 60)), (1, .int x1)] → f_M_isExport_51 s x1 y0 = some z → W p l e (rmX 0 0) ss m args below meth c H locs 0 0 Q (F0 m 51 ls [.int y0]) := by
  have ⟨⟨hx, hb, hml, hown, hts⟩, hK, hA, hN⟩ := C
  intro x1 y0 H locs ls hX hl h
  rw [f_M_isExport_51] at h
  refine lv_istore_n (lv' := [(2, .int y0), (0, .ref (g.q 60)), (1, .int x1)]) hx hb d_M_isExport_51 rfl hl (by decide) rfl (fun ls hl => ?_)
  refine lv_aload_n hx hb d_M_isExport_52 rfl (lv_at hl 1 rfl) ?_
  refine gm_exportIndex C hX fl_M_36 d_M_isExport_53 ?_
  refine lv_iload_n hx hb d_M_isExport_56 rfl (lv_at hl 2 rfl) ?_
  obtain ⟨hz57, h⟩ := gi_e h
  obtain ⟨v1, ev1, h⟩ := lt1_e h
  refine alm_9 C hX hz57 d_M_isExport_57 ev1 ?_
  refine lv_iload_n hx hb d_M_isExport_58 rfl (lv_at hl 0 rfl) ?_
  obtain ⟨v2, ev2, h⟩ := lt1_e h
  refine lv_i2l hx hb d_M_isExport_59 ev2.symm ?_
  obtain ⟨v3, ev3, h⟩ := lt1_e h
  refine x_lcmp hx hb d_M_isExport_60 ev3 ?_
  refine lv_if_ge (tgt := 68) hx hb d_M_isExport_61 (by decide) (fun c61 => ?_) (fun c61 => ?_)
  · have h := ite_t c61 h
    refine lv_iconst (v := 0) hx hb d_M_isExport_68 (by decide) ?_
    exact w_M_isExport_69 C hQ x1 y0 0 H locs ls hX (lv_sub hl [1, 2, 0] rfl) h
  · have h := ite_f c61 h
    refine lv_iconst (v := 1) hx hb d_M_isExport_64 (by decide) ?_
    refine lv_goto (tgt := 69) hx hb d_M_isExport_65 (by decide) ?_
    exact w_M_isExport_69 C hQ x1 y0 1 H locs ls hX (lv_sub hl [1, 2, 0] rfl) h
set_option maxHeartbeats 4000000 in
set_option maxRecDepth 100000 in
theorem w_M_isExport {s : SM} {z : Int32} (C : Cx g A p m c b_M_isExport 5 ss args R_M) (hQ : ∀ (pc : Nat) (H : Heap) (locs : List Loc) (ls : Array Slot), XW g A ss (wM g s) H locs → (z = 0 ∨ z = 1) → decode b_M_isExport pc = .ok (.ireturn, 1) → W p l e (rmX 0 0) ss m args below meth c H locs 0 0 Q (F0 m pc ls [.int z])) : ∀ (x1 : Int32) (H : Heap) (locs : List Loc) (ls : Array Slot), XW g A ss (wM g s) H locs → lv_has ls 5 [(0, .ref (g.q 60)), (1, .int x1)] → f_M_isExport s x1 = some z → W p l e (rmX 0 0) ss m args below meth c H locs 0 0 Q (F0 m 0 ls []) := by
  have ⟨⟨hx, hb, hml, hown, hts⟩, hK, hA, hN⟩ := C
  intro x1 H locs ls hX hl h
  rw [f_M_isExport] at h
  refine lv_aload_n hx hb d_M_isExport_0 rfl (lv_at hl 0 rfl) ?_
  refine gm_exportKind C hX fl_M_33 d_M_isExport_1 ?_
  refine lv_iload_n hx hb d_M_isExport_4 rfl (lv_at hl 1 rfl) ?_
  obtain ⟨hz5, h⟩ := gi_e h
  obtain ⟨v1, ev1, h⟩ := lt1_e h
  refine alm_8 C hX hz5 d_M_isExport_5 ev1 ?_
  refine lv_if_ne (tgt := 16) hx hb d_M_isExport_6 (by decide) (fun c6 => ?_) (fun c6 => ?_)
  · have h := ite_f c6 h
    refine lv_aload_n hx hb d_M_isExport_16 rfl (lv_at hl 0 rfl) ?_
    refine gm_exportKind C hX fl_M_33 d_M_isExport_17 ?_
    refine lv_iload_n hx hb d_M_isExport_20 rfl (lv_at hl 1 rfl) ?_
    obtain ⟨hz21, h⟩ := gi_e h
    obtain ⟨v2, ev2, h⟩ := lt1_e h
    refine alm_8 C hX hz21 d_M_isExport_21 ev2 ?_
    refine lv_iconst (v := 1) hx hb d_M_isExport_22 (by decide) ?_
    refine lv_icmp_ne (tgt := 30) hx hb d_M_isExport_23 (by decide) (fun c23 => ?_) (fun c23 => ?_)
    · have h := ite_f c23 h
      refine lv_aload_n hx hb d_M_isExport_30 rfl (lv_at hl 0 rfl) ?_
      refine gm_exportKind C hX fl_M_33 d_M_isExport_31 ?_
      refine lv_iload_n hx hb d_M_isExport_34 rfl (lv_at hl 1 rfl) ?_
      obtain ⟨hz35, h⟩ := gi_e h
      obtain ⟨v3, ev3, h⟩ := lt1_e h
      refine alm_8 C hX hz35 d_M_isExport_35 ev3 ?_
      refine lv_iconst (v := 2) hx hb d_M_isExport_36 (by decide) ?_
      refine lv_icmp_ne (tgt := 47) hx hb d_M_isExport_37 (by decide) (fun c37 => ?_) (fun c37 => ?_)
      · have h := ite_f c37 h
        refine lv_aload_n hx hb d_M_isExport_47 rfl (lv_at hl 0 rfl) ?_
        refine gm_globals C hX fl_M_243 d_M_isExport_48 ?_
        exact w_M_isExport_51 C hQ x1 (s.1 0 11) H locs ls hX hl h
      · have h := ite_t c37 h
        refine lv_aload_n hx hb d_M_isExport_40 rfl (lv_at hl 0 rfl) ?_
        refine gm_memories C hX fl_M_222 d_M_isExport_41 ?_
        refine lv_goto (tgt := 51) hx hb d_M_isExport_44 (by decide) ?_
        exact w_M_isExport_51 C hQ x1 (s.1 0 9) H locs ls hX hl h
    · have h := ite_t c23 h
      refine lv_iconst (v := 0) hx hb d_M_isExport_26 (by decide) ?_
      refine lv_goto (tgt := 51) hx hb d_M_isExport_27 (by decide) ?_
      exact w_M_isExport_51 C hQ x1 0 H locs ls hX hl h
  · have h := ite_t c6 h
    refine lv_aload_n hx hb d_M_isExport_9 rfl (lv_at hl 0 rfl) ?_
    refine gm_functions C hX fl_M_188 d_M_isExport_10 ?_
    refine lv_goto (tgt := 51) hx hb d_M_isExport_13 (by decide) ?_
    exact w_M_isExport_51 C hQ x1 (s.1 0 7) H locs ls hX hl h
end WALK
theorem c_M_isExport (l : Launch) (g : GX) (x1 : Int32) (s : SM) (z : Int32) (h : f_M_isExport s x1 = some z) : MI l g y_M_isExport b_M_isExport 5 (some .boolean) 0 0 [.ref (g.q 60), .int x1] (wM g s) z (wM g s) :=
  MI.mkZ (own := R_M) (by decide) rfl (Nat.le_of_ble_eq_true rfl) fun p e ss m below meth c A Q C hQ ls hX hl => w_M_isExport C hQ x1 _ _ ls hX hl h
-- M_resultsOf
def f_M_resultsOf (s : SM) (x1 : Int32) : Option Int32 :=
    gi x1 8 <|
    lt1 (s.2 4 (Int32.toNatClampNeg x1)) fun v1 =>
    lt1 (Int64.toInt32 v1) fun v2 =>
    gi v2 8 <|
    lt1 (s.1 3 (Int32.toNatClampNeg v2)) fun v3 =>
    some (v3)
section WALK
variable {p : Program} {l : Launch} {e : Env} {ss : State} {m : MethodId} {args : Array Value} {below : List Frame} {meth : Method} {c : Code} {Q : State → Prop} {g : GX} {A : Nat → Prop}
set_option maxHeartbeats 4000000 in
set_option maxRecDepth 100000 in
theorem w_M_resultsOf {s : SM} {z : Int32} (C : Cx g A p m c b_M_resultsOf 2 ss args R_M) (hQ : ∀ (pc : Nat) (H : Heap) (locs : List Loc) (ls : Array Slot), XW g A ss (wM g s) H locs → decode b_M_resultsOf pc = .ok (.ireturn, 1) → W p l e (rmX 0 0) ss m args below meth c H locs 0 0 Q (F0 m pc ls [.int z])) : ∀ (x1 : Int32) (H : Heap) (locs : List Loc) (ls : Array Slot), XW g A ss (wM g s) H locs → lv_has ls 2 [(0, .ref (g.q 60)), (1, .int x1)] → f_M_resultsOf s x1 = some z → W p l e (rmX 0 0) ss m args below meth c H locs 0 0 Q (F0 m 0 ls []) := by
  have ⟨⟨hx, hb, hml, hown, hts⟩, hK, hA, hN⟩ := C
  intro x1 H locs ls hX hl h
  rw [f_M_resultsOf] at h
  refine lv_aload_n hx hb d_M_resultsOf_0 rfl (lv_at hl 0 rfl) ?_
  refine gm_results C hX fl_M_16 d_M_resultsOf_1 ?_
  refine lv_aload_n hx hb d_M_resultsOf_4 rfl (lv_at hl 0 rfl) ?_
  refine gm_typeOf C hX fl_M_19 d_M_resultsOf_5 ?_
  refine lv_iload_n hx hb d_M_resultsOf_8 rfl (lv_at hl 1 rfl) ?_
  obtain ⟨hz9, h⟩ := gi_e h
  obtain ⟨v1, ev1, h⟩ := lt1_e h
  refine alm_4 C hX hz9 d_M_resultsOf_9 ev1 ?_
  obtain ⟨v2, ev2, h⟩ := lt1_e h
  refine lv_l2i hx hb d_M_resultsOf_10 ev2.symm ?_
  obtain ⟨hz11, h⟩ := gi_e h
  obtain ⟨v3, ev3, h⟩ := lt1_e h
  refine alm_3 C hX hz11 d_M_resultsOf_11 ev3 ?_
  obtain rfl := so1 h
  exact hQ _ H locs ls hX d_M_resultsOf_12
end WALK
theorem c_M_resultsOf (l : Launch) (g : GX) (x1 : Int32) (s : SM) (z : Int32) (h : f_M_resultsOf s x1 = some z) : MI l g y_M_resultsOf b_M_resultsOf 2 (some .int) 0 0 [.ref (g.q 60), .int x1] (wM g s) z (wM g s) :=
  MI.mk (own := R_M) (by decide) rfl (Nat.le_of_ble_eq_true rfl) fun p e ss m below meth c A Q C hQ ls hX hl => w_M_resultsOf C hQ x1 _ _ ls hX hl h
-- M_arity
def f_M_arity_20 (s : SM) (x1 : Int32) (x2 : Int32) (y0 : Int32) : Option Int32 :=
    some (y0)
def f_M_arity (s : SM) (x1 : Int32) (x2 : Int32) : Option Int32 :=
    if x2 = (-1) then
      bd1 (f_M_resultsOf s x1) fun r3 =>
      f_M_arity_20 s x1 x2 r3
    else
      gi x2 250 <|
      lt1 (s.2 15 (Int32.toNatClampNeg x2)) fun v1 =>
      lt1 (Int64.toInt32 v1) fun v2 =>
      f_M_arity_20 s x1 x2 v2
section WALK
variable {p : Program} {l : Launch} {e : Env} {ss : State} {m : MethodId} {args : Array Value} {below : List Frame} {meth : Method} {c : Code} {Q : State → Prop} {g : GX} {A : Nat → Prop}
set_option maxHeartbeats 4000000 in
set_option maxRecDepth 100000 in
theorem w_M_arity_20 {s : SM} {z : Int32} (C : Cx g A p m c b_M_arity 3 ss args R_M) (hQ : ∀ (pc : Nat) (H : Heap) (locs : List Loc) (ls : Array Slot), XW g A ss (wM g s) H locs → decode b_M_arity pc = .ok (.ireturn, 1) → W p l e (rmX 1 21) ss m args below meth c H locs 0 0 Q (F0 m pc ls [.int z])) : ∀ (x1 : Int32) (x2 : Int32) (y0 : Int32) (H : Heap) (locs : List Loc) (ls : Array Slot), XW g A ss (wM g s) H locs → lv_has ls 3 [(0, .ref (g.q 60)), (1, .int x1), (2, .int x2)] → f_M_arity_20 s x1 x2 y0 = some z → W p l e (rmX 1 21) ss m args below meth c H locs 0 0 Q (F0 m 20 ls [.int y0]) := by
  have ⟨⟨hx, hb, hml, hown, hts⟩, hK, hA, hN⟩ := C
  intro x1 x2 y0 H locs ls hX hl h
  rw [f_M_arity_20] at h
  obtain rfl := so1 h
  exact hQ _ H locs ls hX d_M_arity_20
set_option maxHeartbeats 4000000 in
set_option maxRecDepth 100000 in
theorem w_M_arity {s : SM} {z : Int32} (C : Cx g A p m c b_M_arity 3 ss args R_M) (hQ : ∀ (pc : Nat) (H : Heap) (locs : List Loc) (ls : Array Slot), XW g A ss (wM g s) H locs → decode b_M_arity pc = .ok (.ireturn, 1) → W p l e (rmX 1 21) ss m args below meth c H locs 0 0 Q (F0 m pc ls [.int z])) : ∀ (x1 : Int32) (x2 : Int32) (H : Heap) (locs : List Loc) (ls : Array Slot), XW g A ss (wM g s) H locs → lv_has ls 3 [(0, .ref (g.q 60)), (1, .int x1), (2, .int x2)] → f_M_arity s x1 x2 = some z → W p l e (rmX 1 21) ss m args below meth c H locs 0 0 Q (F0 m 0 ls []) := by
  have ⟨⟨hx, hb, hml, hown, hts⟩, hK, hA, hN⟩ := C
  intro x1 x2 H locs ls hX hl h
  rw [f_M_arity] at h
  refine lv_iload_n hx hb d_M_arity_0 rfl (lv_at hl 2 rfl) ?_
  refine lv_iconst (v := (-1)) hx hb d_M_arity_1 (by decide) ?_
  refine lv_icmp_ne (tgt := 13) hx hb d_M_arity_2 (by decide) (fun c2 => ?_) (fun c2 => ?_)
  · have h := ite_f c2 h
    refine lv_aload_n hx hb d_M_arity_13 rfl (lv_at hl 0 rfl) ?_
    refine gm_first C hX fl_M_54 d_M_arity_14 ?_
    refine lv_iload_n hx hb d_M_arity_17 rfl (lv_at hl 2 rfl) ?_
    obtain ⟨hz18, h⟩ := gi_e h
    obtain ⟨v1, ev1, h⟩ := lt1_e h
    refine alm_15 C hX hz18 d_M_arity_18 ev1 ?_
    obtain ⟨v2, ev2, h⟩ := lt1_e h
    refine lv_l2i hx hb d_M_arity_19 ev2.symm ?_
    exact w_M_arity_20 C hQ x1 x2 v2 H locs ls hX hl h
  · have h := ite_t c2 h
    refine lv_aload_n hx hb d_M_arity_5 rfl (lv_at hl 0 rfl) ?_
    refine lv_iload_n hx hb d_M_arity_6 rfl (lv_at hl 1 rfl) ?_
    obtain ⟨r3, hc7, h⟩ := bd1_e h
    refine x_vI (As := [.int x1]) (rest := []) C hX (c_M_resultsOf l g x1 s r3 hc7) (cw_M_292 C.1.2.2.2.2 C.2.2.2 ⟨by decide, by decide⟩) (x_rc C hX vg_0 rfl) rfl hl.1 rfl (lv_room (Nat.le_of_ble_eq_true rfl)) d_M_arity_7 ⟨Nat.le_refl _, Nat.le_refl _⟩ (fun H locs hX => ?_)
    refine lv_goto (tgt := 20) hx hb d_M_arity_10 (by decide) ?_
    exact w_M_arity_20 C hQ x1 x2 r3 H locs ls hX hl h
end WALK
theorem c_M_arity (l : Launch) (g : GX) (x1 : Int32) (x2 : Int32) (s : SM) (z : Int32) (h : f_M_arity s x1 x2 = some z) : MI l g y_M_arity b_M_arity 3 (some .int) 1 21 [.ref (g.q 60), .int x1, .int x2] (wM g s) z (wM g s) :=
  MI.mk (own := R_M) (by decide) rfl (Nat.le_of_ble_eq_true rfl) fun p e ss m below meth c A Q C hQ ls hX hl => w_M_arity C hQ x1 x2 _ _ ls hX hl h
-- M_carried
def f_M_carried_71 (x1 : Int32) (x2 : Int64) (x4 : Int32) (y0 : Int32) (s : SM) : Option (Int32 × SM) :=
    some (y0, s)
def f_M_carried_64 (x1 : Int32) (x2 : Int64) (x4 : Int32) (s : SM) : Option (Int32 × SM) :=
    bd1 (f_M_arity s x1 x4) fun r1 =>
    f_M_carried_71 x1 x2 x4 r1 s
def f_M_carried_16 (x1 : Int32) (x2 : Int64) (y1 : Int32) (s : SM) : Option (Int32 × SM) :=
    bd1 (f_M_will y1 3 s) fun s1 =>
    if s1.1 0 5 ≤ 0 then
      lt1 (Int64.toInt32 x2) fun v2 =>
      lt1 (s1.1 0 16 - v2) fun v3 =>
      gi v3 16 <|
      lt1 (s1.1 26 (Int32.toNatClampNeg v3)) fun v4 =>
      if v4 = (-1) then
        f_M_carried_64 x1 x2 v4 s1
      else
        gi v4 250 <|
        lt1 (s1.1 14 (Int32.toNatClampNeg v4)) fun v5 =>
        if v5 = 3 then
          f_M_carried_71 x1 x2 v4 0 s1
        else
          f_M_carried_64 x1 x2 v4 s1
    else
      some (0, s1)
def f_M_carried (x1 : Int32) (x2 : Int64) (s : SM) : Option (Int32 × SM) :=
    lt1 (Int32.toInt64 (s.1 0 16)) fun v1 =>
    lt1 (lg_cmp x2 v1) fun v2 =>
    if 0 < v2 then
      f_M_carried_16 x1 x2 0 s
    else
      f_M_carried_16 x1 x2 1 s
section WALK
variable {p : Program} {l : Launch} {e : Env} {ss : State} {m : MethodId} {args : Array Value} {below : List Frame} {meth : Method} {c : Code} {Q : State → Prop} {g : GX} {A : Nat → Prop}
set_option maxHeartbeats 4000000 in
set_option maxRecDepth 100000 in
theorem w_M_carried_71 {z : Int32 × SM} (C : Cx g A p m c b_M_carried 5 ss args R_M) (hQ : ∀ (pc : Nat) (H : Heap) (locs : List Loc) (ls : Array Slot), XW g A ss (wM g z.2) H locs → decode b_M_carried pc = .ok (.ireturn, 1) → W p l e (rmX 2 43) ss m args below meth c H locs 0 0 Q (F0 m pc ls [.int z.1])) : ∀ (x1 : Int32) (x2 : Int64) (x4 : Int32) (y0 : Int32) (s : SM) (H : Heap) (locs : List Loc) (ls : Array Slot), XW g A ss (wM g s) H locs → lv_has ls 5 [(0, .ref (g.q 60)), (1, .int x1), (2, .long x2), (4, .int x4)] → f_M_carried_71 x1 x2 x4 y0 s = some z → W p l e (rmX 2 43) ss m args below meth c H locs 0 0 Q (F0 m 71 ls [.int y0]) := by
  have ⟨⟨hx, hb, hml, hown, hts⟩, hK, hA, hN⟩ := C
  intro x1 x2 x4 y0 s H locs ls hX hl h
  rw [f_M_carried_71] at h
  obtain rfl := so1 h
  exact hQ _ H locs ls hX d_M_carried_71
set_option maxHeartbeats 4000000 in
set_option maxRecDepth 100000 in
theorem w_M_carried_64 {z : Int32 × SM} (C : Cx g A p m c b_M_carried 5 ss args R_M) (hQ : ∀ (pc : Nat) (H : Heap) (locs : List Loc) (ls : Array Slot), XW g A ss (wM g z.2) H locs → decode b_M_carried pc = .ok (.ireturn, 1) → W p l e (rmX 2 43) ss m args below meth c H locs 0 0 Q (F0 m pc ls [.int z.1])) : ∀ (x1 : Int32) (x2 : Int64) (x4 : Int32) (s : SM) (H : Heap) (locs : List Loc) (ls : Array Slot), XW g A ss (wM g s) H locs → lv_has ls 5 [(0, .ref (g.q 60)), (1, .int x1), (2, .long x2), (4, .int x4)] → f_M_carried_64 x1 x2 x4 s = some z → W p l e (rmX 2 43) ss m args below meth c H locs 0 0 Q (F0 m 64 ls []) := by
  have ⟨⟨hx, hb, hml, hown, hts⟩, hK, hA, hN⟩ := C
  intro x1 x2 x4 s H locs ls hX hl h
  rw [f_M_carried_64] at h
  refine lv_aload_n hx hb d_M_carried_64 rfl (lv_at hl 0 rfl) ?_
  refine lv_iload_n hx hb d_M_carried_65 rfl (lv_at hl 1 rfl) ?_
  refine lv_iload hx hb d_M_carried_66 (lv_at hl 3 rfl) ?_
  obtain ⟨r1, hc68, h⟩ := bd1_e h
  refine x_vI (As := [.int x1, .int x4]) (rest := []) C hX (c_M_arity l g x1 x4 s r1 hc68) (cw_M_295 C.1.2.2.2.2 C.2.2.2 ⟨by decide, by decide⟩) (x_rc C hX vg_0 rfl) rfl hl.1 rfl (lv_room (Nat.le_of_ble_eq_true rfl)) d_M_carried_68 ⟨Nat.le_refl _, Nat.le_refl _⟩ (fun H locs hX => ?_)
  exact w_M_carried_71 C hQ x1 x2 x4 r1 s H locs ls hX hl h
set_option maxHeartbeats 4000000 in
set_option maxRecDepth 100000 in
theorem w_M_carried_16 {z : Int32 × SM} (C : Cx g A p m c b_M_carried 5 ss args R_M) (hQ : ∀ (pc : Nat) (H : Heap) (locs : List Loc) (ls : Array Slot), XW g A ss (wM g z.2) H locs → decode b_M_carried pc = .ok (.ireturn, 1) → W p l e (rmX 2 43) ss m args below meth c H locs 0 0 Q (F0 m pc ls [.int z.1])) : ∀ (x1 : Int32) (x2 : Int64) (y1 : Int32) (s : SM) (H : Heap) (locs : List Loc) (ls : Array Slot), XW g A ss (wM g s) H locs → lv_has ls 5 [(0, .ref (g.q 60)), (1, .int x1), (2, .long x2)] → f_M_carried_16 x1 x2 y1 s = some z → W p l e (rmX 2 43) ss m args below meth c H locs 0 0 Q (F0 m 16 ls [.int y1, .ref (g.q 60)]) := by
  have ⟨⟨hx, hb, hml, hown, hts⟩, hK, hA, hN⟩ := C
  intro x1 x2 y1 s H locs ls hX hl h
  rw [f_M_carried_16] at h
  refine lv_iconst (v := 3) hx hb d_M_carried_16 (by decide) ?_
  obtain ⟨s1, hc17, h⟩ := bd1_e h
  refine x_vV (As := [.int y1, .int 3]) (rest := []) C hX (c_M_will l g y1 3 s s1 hc17) (cw_M_158 C.1.2.2.2.2 C.2.2.2 ⟨by decide, by decide⟩) (x_rc C hX vg_0 rfl) rfl hl.1 rfl (lv_room (Nat.le_of_ble_eq_true rfl)) d_M_carried_17 ⟨Nat.le_refl _, Nat.le_refl _⟩ (fun H locs hX => ?_)
  refine lv_aload_n hx hb d_M_carried_20 rfl (lv_at hl 0 rfl) ?_
  refine gm_wrong C hX fl_M_149 d_M_carried_21 ?_
  refine lv_if_le (tgt := 29) hx hb d_M_carried_24 (by decide) (fun c24 => ?_) (fun c24 => ?_)
  · have h := ite_t c24 h
    refine lv_aload_n hx hb d_M_carried_29 rfl (lv_at hl 0 rfl) ?_
    refine gm_open C hX fl_M_87 d_M_carried_30 ?_
    refine lv_aload_n hx hb d_M_carried_33 rfl (lv_at hl 0 rfl) ?_
    refine gm_deep C hX fl_M_289 d_M_carried_34 ?_
    refine lv_lload_n hx hb d_M_carried_37 rfl (lv_at hl 2 rfl) ?_
    obtain ⟨v2, ev2, h⟩ := lt1_e h
    refine lv_l2i hx hb d_M_carried_38 ev2.symm ?_
    obtain ⟨v3, ev3, h⟩ := lt1_e h
    refine x_isub hx hb d_M_carried_39 ev3 ?_
    obtain ⟨hz40, h⟩ := gi_e h
    obtain ⟨v4, ev4, h⟩ := lt1_e h
    refine alm_26 C hX hz40 d_M_carried_40 ev4 ?_
    refine lv_istore (lv' := [(4, .int v4), (0, .ref (g.q 60)), (1, .int x1), (2, .long x2)]) hx hb d_M_carried_41 hl (by decide) rfl (fun ls hl => ?_)
    refine lv_iload hx hb d_M_carried_43 (lv_at hl 0 rfl) ?_
    refine lv_iconst (v := (-1)) hx hb d_M_carried_45 (by decide) ?_
    refine lv_icmp_eq (tgt := 64) hx hb d_M_carried_46 (by decide) (fun c46 => ?_) (fun c46 => ?_)
    · have h := ite_t c46 h
      exact w_M_carried_64 C hQ x1 x2 v4 s1 H locs ls hX (lv_sub hl [1, 2, 3, 0] rfl) h
    · have h := ite_f c46 h
      refine lv_aload_n hx hb d_M_carried_49 rfl (lv_at hl 1 rfl) ?_
      refine gm_op C hX fl_M_51 d_M_carried_50 ?_
      refine lv_iload hx hb d_M_carried_53 (lv_at hl 0 rfl) ?_
      obtain ⟨hz55, h⟩ := gi_e h
      obtain ⟨v5, ev5, h⟩ := lt1_e h
      refine alm_14 C hX hz55 d_M_carried_55 ev5 ?_
      refine lv_iconst (v := 3) hx hb d_M_carried_56 (by decide) ?_
      refine lv_icmp_ne (tgt := 64) hx hb d_M_carried_57 (by decide) (fun c57 => ?_) (fun c57 => ?_)
      · have h := ite_f c57 h
        exact w_M_carried_64 C hQ x1 x2 v4 s1 H locs ls hX (lv_sub hl [1, 2, 3, 0] rfl) h
      · have h := ite_t c57 h
        refine lv_iconst (v := 0) hx hb d_M_carried_60 (by decide) ?_
        refine lv_goto (tgt := 71) hx hb d_M_carried_61 (by decide) ?_
        exact w_M_carried_71 C hQ x1 x2 v4 0 s1 H locs ls hX (lv_sub hl [1, 2, 3, 0] rfl) h
  · have h := ite_f c24 h
    refine lv_iconst (v := 0) hx hb d_M_carried_27 (by decide) ?_
    obtain rfl := so1 h
    exact hQ _ H locs ls hX d_M_carried_28
set_option maxHeartbeats 4000000 in
set_option maxRecDepth 100000 in
theorem w_M_carried {z : Int32 × SM} (C : Cx g A p m c b_M_carried 5 ss args R_M) (hQ : ∀ (pc : Nat) (H : Heap) (locs : List Loc) (ls : Array Slot), XW g A ss (wM g z.2) H locs → decode b_M_carried pc = .ok (.ireturn, 1) → W p l e (rmX 2 43) ss m args below meth c H locs 0 0 Q (F0 m pc ls [.int z.1])) : ∀ (x1 : Int32) (x2 : Int64) (s : SM) (H : Heap) (locs : List Loc) (ls : Array Slot), XW g A ss (wM g s) H locs → lv_has ls 5 [(0, .ref (g.q 60)), (1, .int x1), (2, .long x2)] → f_M_carried x1 x2 s = some z → W p l e (rmX 2 43) ss m args below meth c H locs 0 0 Q (F0 m 0 ls []) := by
  have ⟨⟨hx, hb, hml, hown, hts⟩, hK, hA, hN⟩ := C
  intro x1 x2 s H locs ls hX hl h
  rw [f_M_carried] at h
  refine lv_aload_n hx hb d_M_carried_0 rfl (lv_at hl 0 rfl) ?_
  refine lv_lload_n hx hb d_M_carried_1 rfl (lv_at hl 2 rfl) ?_
  refine lv_aload_n hx hb d_M_carried_2 rfl (lv_at hl 0 rfl) ?_
  refine gm_deep C hX fl_M_289 d_M_carried_3 ?_
  obtain ⟨v1, ev1, h⟩ := lt1_e h
  refine lv_i2l hx hb d_M_carried_6 ev1.symm ?_
  obtain ⟨v2, ev2, h⟩ := lt1_e h
  refine x_lcmp hx hb d_M_carried_7 ev2 ?_
  refine lv_if_gt (tgt := 15) hx hb d_M_carried_8 (by decide) (fun c8 => ?_) (fun c8 => ?_)
  · have h := ite_t c8 h
    refine lv_iconst (v := 0) hx hb d_M_carried_15 (by decide) ?_
    exact w_M_carried_16 C hQ x1 x2 0 s H locs ls hX hl h
  · have h := ite_f c8 h
    refine lv_iconst (v := 1) hx hb d_M_carried_11 (by decide) ?_
    refine lv_goto (tgt := 16) hx hb d_M_carried_12 (by decide) ?_
    exact w_M_carried_16 C hQ x1 x2 1 s H locs ls hX hl h
end WALK
theorem c_M_carried (l : Launch) (g : GX) (x1 : Int32) (x2 : Int64) (s : SM) (z : Int32 × SM) (h : f_M_carried x1 x2 s = some z) : MI l g y_M_carried b_M_carried 5 (some .int) 2 43 [.ref (g.q 60), .int x1, .long x2] (wM g s) z.1 (wM g z.2) :=
  MI.mk (own := R_M) (by decide) rfl (Nat.le_of_ble_eq_true rfl) fun p e ss m below meth c A Q C hQ ls hX hl => w_M_carried C hQ x1 x2 s _ _ ls hX hl h
-- M_pop
def f_M_pop_50 (k2 : Int32 → Int32 → SM → Option SM) (x1 : Int32) (x2 : Int32) (s : SM) : Option SM :=
    lt1 (x2 + (1)) fun v1 =>
    k2 x1 v1 s
def f_M_pop_2 : Nat → Int32 → Int32 → SM → Option SM
  | 0, _, _, _ => none
  | n + 1, x1, x2, s =>
    if x1 ≤ x2 then
      some s
    else
      gi (s.1 0 16) 16 <|
      lt1 (s.1 27 (Int32.toNatClampNeg (s.1 0 16))) fun v1 =>
      if s.1 0 17 ≤ v1 then
        gi (s.1 0 16) 16 <|
        lt1 (s.1 28 (Int32.toNatClampNeg (s.1 0 16))) fun v2 =>
        bd1 (f_M_will v2 3 s) fun s3 =>
        f_M_pop_50 (f_M_pop_2 n) x1 x2 s3
      else
        lt1 (s.1 0 17 - 1) fun v4 =>
        lt1 (stI s 0 17 v4) fun s5 =>
        f_M_pop_50 (f_M_pop_2 n) x1 x2 s5
def f_M_pop (x1 : Int32) (s : SM) : Option SM :=
    f_M_pop_2 FU x1 0 s
section WALK
variable {p : Program} {l : Launch} {e : Env} {ss : State} {m : MethodId} {args : Array Value} {below : List Frame} {meth : Method} {c : Code} {Q : State → Prop} {g : GX} {A : Nat → Prop}
set_option maxHeartbeats 4000000 in
set_option maxRecDepth 100000 in
theorem w_M_pop_50 {z : SM} (C : Cx g A p m c b_M_pop 3 ss args R_M) (hQ : ∀ (pc : Nat) (H : Heap) (locs : List Loc) (ls : Array Slot), XW g A ss (wM g z) H locs → decode b_M_pop pc = .ok (.return_, 1) → W p l e (rmX 1 22) ss m args below meth c H locs 0 0 Q (F0 m pc ls [])) (k2 : Int32 → Int32 → SM → Option SM) (hk2 : ∀ (x1 : Int32) (x2 : Int32) (s : SM) (H : Heap) (locs : List Loc) (ls : Array Slot), XW g A ss (wM g s) H locs → lv_has ls 3 [(0, .ref (g.q 60)), (1, .int x1), (2, .int x2)] → k2 x1 x2 s = some z → W p l e (rmX 1 22) ss m args below meth c H locs 0 0 Q (F0 m 2 ls [])) : ∀ (x1 : Int32) (x2 : Int32) (s : SM) (H : Heap) (locs : List Loc) (ls : Array Slot), XW g A ss (wM g s) H locs → lv_has ls 3 [(0, .ref (g.q 60)), (1, .int x1), (2, .int x2)] → f_M_pop_50 k2 x1 x2 s = some z → W p l e (rmX 1 22) ss m args below meth c H locs 0 0 Q (F0 m 50 ls []) := by
  have ⟨⟨hx, hb, hml, hown, hts⟩, hK, hA, hN⟩ := C
  intro x1 x2 s H locs ls hX hl h
  rw [f_M_pop_50] at h
  obtain ⟨v1, ev1, h⟩ := lt1_e h
  refine lv_iinc (v := v1) (lv' := [(2, .int v1), (0, .ref (g.q 60)), (1, .int x1)]) hx hb d_M_pop_50 hl (k := 2) rfl (by rw [ev1]; rfl) (by decide) rfl (fun ls hl => ?_)
  refine lv_goto (tgt := 2) hx hb d_M_pop_53 (by decide) ?_
  exact hk2 x1 v1 s H locs ls hX (lv_sub hl [1, 2, 0] rfl) h
set_option maxHeartbeats 4000000 in
set_option maxRecDepth 100000 in
theorem w_M_pop_2 {z : SM} (C : Cx g A p m c b_M_pop 3 ss args R_M) (hQ : ∀ (pc : Nat) (H : Heap) (locs : List Loc) (ls : Array Slot), XW g A ss (wM g z) H locs → decode b_M_pop pc = .ok (.return_, 1) → W p l e (rmX 1 22) ss m args below meth c H locs 0 0 Q (F0 m pc ls [])) (n : Nat) : ∀ (x1 : Int32) (x2 : Int32) (s : SM) (H : Heap) (locs : List Loc) (ls : Array Slot), XW g A ss (wM g s) H locs → lv_has ls 3 [(0, .ref (g.q 60)), (1, .int x1), (2, .int x2)] → f_M_pop_2 n x1 x2 s = some z → W p l e (rmX 1 22) ss m args below meth c H locs 0 0 Q (F0 m 2 ls []) := by
  have ⟨⟨hx, hb, hml, hown, hts⟩, hK, hA, hN⟩ := C
  induction n with
  | zero => intro x1 x2 s H locs ls hX hl h; cases h
  | succ n ih =>
    intro x1 x2 s H locs ls hX hl h
    rw [f_M_pop_2] at h
    refine lv_iload_n hx hb d_M_pop_2 rfl (lv_at hl 2 rfl) ?_
    refine lv_iload_n hx hb d_M_pop_3 rfl (lv_at hl 1 rfl) ?_
    refine lv_icmp_ge (tgt := 56) hx hb d_M_pop_4 (by decide) (fun c4 => ?_) (fun c4 => ?_)
    · have h := ite_t c4 h
      obtain rfl := so1 h
      exact hQ _ H locs ls hX d_M_pop_56
    · have h := ite_f c4 h
      refine lv_aload_n hx hb d_M_pop_7 rfl (lv_at hl 0 rfl) ?_
      refine gm_top C hX fl_M_286 d_M_pop_8 ?_
      refine lv_aload_n hx hb d_M_pop_11 rfl (lv_at hl 0 rfl) ?_
      refine gm_base C hX fl_M_90 d_M_pop_12 ?_
      refine lv_aload_n hx hb d_M_pop_15 rfl (lv_at hl 0 rfl) ?_
      refine gm_deep C hX fl_M_289 d_M_pop_16 ?_
      obtain ⟨hz19, h⟩ := gi_e h
      obtain ⟨v1, ev1, h⟩ := lt1_e h
      refine alm_27 C hX hz19 d_M_pop_19 ev1 ?_
      refine lv_icmp_le (tgt := 36) hx hb d_M_pop_20 (by decide) (fun c20 => ?_) (fun c20 => ?_)
      · have h := ite_t c20 h
        refine lv_aload_n hx hb d_M_pop_36 rfl (lv_at hl 0 rfl) ?_
        refine lv_aload_n hx hb d_M_pop_37 rfl (lv_at hl 0 rfl) ?_
        refine gm_dead C hX fl_M_93 d_M_pop_38 ?_
        refine lv_aload_n hx hb d_M_pop_41 rfl (lv_at hl 0 rfl) ?_
        refine gm_deep C hX fl_M_289 d_M_pop_42 ?_
        obtain ⟨hz45, h⟩ := gi_e h
        obtain ⟨v2, ev2, h⟩ := lt1_e h
        refine alm_28 C hX hz45 d_M_pop_45 ev2 ?_
        refine lv_iconst (v := 3) hx hb d_M_pop_46 (by decide) ?_
        obtain ⟨s3, hc47, h⟩ := bd1_e h
        refine x_vV (As := [.int v2, .int 3]) (rest := []) C hX (c_M_will l g v2 3 s s3 hc47) (cw_M_158 C.1.2.2.2.2 C.2.2.2 ⟨by decide, by decide⟩) (x_rc C hX vg_0 rfl) rfl hl.1 rfl (lv_room (Nat.le_of_ble_eq_true rfl)) d_M_pop_47 ⟨Nat.le_refl _, Nat.le_refl _⟩ (fun H locs hX => ?_)
        exact w_M_pop_50 C hQ (f_M_pop_2 n) ih x1 x2 s3 H locs ls hX hl h
      · have h := ite_f c20 h
        refine lv_aload_n hx hb d_M_pop_23 rfl (lv_at hl 0 rfl) ?_
        refine lv_dup hx hb d_M_pop_24 rfl ?_
        refine gm_top C hX fl_M_286 d_M_pop_25 ?_
        refine lv_iconst (v := 1) hx hb d_M_pop_28 (by decide) ?_
        obtain ⟨v4, ev4, h⟩ := lt1_e h
        refine x_isub hx hb d_M_pop_29 ev4 ?_
        obtain ⟨s5, es5, h⟩ := lt1_e h
        refine pm_top C hX fl_M_286 d_M_pop_30 (fun H locs hX => ?_)
        rw [← es5] at hX
        refine lv_goto (tgt := 50) hx hb d_M_pop_33 (by decide) ?_
        exact w_M_pop_50 C hQ (f_M_pop_2 n) ih x1 x2 s5 H locs ls hX hl h
set_option maxHeartbeats 4000000 in
set_option maxRecDepth 100000 in
theorem w_M_pop {z : SM} (C : Cx g A p m c b_M_pop 3 ss args R_M) (hQ : ∀ (pc : Nat) (H : Heap) (locs : List Loc) (ls : Array Slot), XW g A ss (wM g z) H locs → decode b_M_pop pc = .ok (.return_, 1) → W p l e (rmX 1 22) ss m args below meth c H locs 0 0 Q (F0 m pc ls [])) : ∀ (x1 : Int32) (s : SM) (H : Heap) (locs : List Loc) (ls : Array Slot), XW g A ss (wM g s) H locs → lv_has ls 3 [(0, .ref (g.q 60)), (1, .int x1)] → f_M_pop x1 s = some z → W p l e (rmX 1 22) ss m args below meth c H locs 0 0 Q (F0 m 0 ls []) := by
  have ⟨⟨hx, hb, hml, hown, hts⟩, hK, hA, hN⟩ := C
  intro x1 s H locs ls hX hl h
  rw [f_M_pop] at h
  refine lv_iconst (v := 0) hx hb d_M_pop_0 (by decide) ?_
  refine lv_istore_n (lv' := [(2, .int 0), (0, .ref (g.q 60)), (1, .int x1)]) hx hb d_M_pop_1 rfl hl (by decide) rfl (fun ls hl => ?_)
  exact w_M_pop_2 C hQ FU x1 0 s H locs ls hX (lv_sub hl [1, 2, 0] rfl) h
end WALK
theorem c_M_pop (l : Launch) (g : GX) (x1 : Int32) (s : SM) (z : SM) (h : f_M_pop x1 s = some z) : MV l g y_M_pop b_M_pop 3 none 1 22 [.ref (g.q 60), .int x1] (wM g s) (wM g z) :=
  MV.mk (own := R_M) (by decide) rfl (Nat.le_of_ble_eq_true rfl) fun p e ss m below meth c A Q C hQ ls hX hl => w_M_pop C hQ x1 s _ _ ls hX hl h
-- M_kill
def f_M_kill (s : SM) : Option SM :=
    gi (s.1 0 16) 16 <|
    lt1 (s.1 27 (Int32.toNatClampNeg (s.1 0 16))) fun v1 =>
    lt1 (stI s 0 17 v1) fun s2 =>
    gi (s2.1 0 16) 16 <|
    bz 1 <|
    lt1 (stI s2 28 (Int32.toNatClampNeg (s2.1 0 16)) 1) fun s3 =>
    some s3
section WALK
variable {p : Program} {l : Launch} {e : Env} {ss : State} {m : MethodId} {args : Array Value} {below : List Frame} {meth : Method} {c : Code} {Q : State → Prop} {g : GX} {A : Nat → Prop}
set_option maxHeartbeats 4000000 in
set_option maxRecDepth 100000 in
theorem w_M_kill {z : SM} (C : Cx g A p m c b_M_kill 1 ss args R_M) (hQ : ∀ (pc : Nat) (H : Heap) (locs : List Loc) (ls : Array Slot), XW g A ss (wM g z) H locs → decode b_M_kill pc = .ok (.return_, 1) → W p l e (rmX 0 0) ss m args below meth c H locs 0 0 Q (F0 m pc ls [])) : ∀ (s : SM) (H : Heap) (locs : List Loc) (ls : Array Slot), XW g A ss (wM g s) H locs → lv_has ls 1 [(0, .ref (g.q 60))] → f_M_kill s = some z → W p l e (rmX 0 0) ss m args below meth c H locs 0 0 Q (F0 m 0 ls []) := by
  have ⟨⟨hx, hb, hml, hown, hts⟩, hK, hA, hN⟩ := C
  intro s H locs ls hX hl h
  rw [f_M_kill] at h
  refine lv_aload_n hx hb d_M_kill_0 rfl (lv_at hl 0 rfl) ?_
  refine lv_aload_n hx hb d_M_kill_1 rfl (lv_at hl 0 rfl) ?_
  refine gm_base C hX fl_M_90 d_M_kill_2 ?_
  refine lv_aload_n hx hb d_M_kill_5 rfl (lv_at hl 0 rfl) ?_
  refine gm_deep C hX fl_M_289 d_M_kill_6 ?_
  obtain ⟨hz9, h⟩ := gi_e h
  obtain ⟨v1, ev1, h⟩ := lt1_e h
  refine alm_27 C hX hz9 d_M_kill_9 ev1 ?_
  obtain ⟨s2, es2, h⟩ := lt1_e h
  refine pm_top C hX fl_M_286 d_M_kill_10 (fun H locs hX => ?_)
  rw [← es2] at hX
  refine lv_aload_n hx hb d_M_kill_13 rfl (lv_at hl 0 rfl) ?_
  refine gm_dead C hX fl_M_93 d_M_kill_14 ?_
  refine lv_aload_n hx hb d_M_kill_17 rfl (lv_at hl 0 rfl) ?_
  refine gm_deep C hX fl_M_289 d_M_kill_18 ?_
  refine lv_iconst (v := 1) hx hb d_M_kill_21 (by decide) ?_
  obtain ⟨hz22, h⟩ := gi_e h
  obtain ⟨hb22, h⟩ := bz_e h
  obtain ⟨s3, es3, h⟩ := lt1_e h
  refine asm_28 C hX hz22 hb22 d_M_kill_22 (fun H locs hX => ?_)
  rw [← es3] at hX
  obtain rfl := so1 h
  exact hQ _ H locs ls hX d_M_kill_23
end WALK
theorem c_M_kill (l : Launch) (g : GX) (s : SM) (z : SM) (h : f_M_kill s = some z) : MV l g y_M_kill b_M_kill 1 none 0 0 [.ref (g.q 60)] (wM g s) (wM g z) :=
  MV.mk (own := R_M) (by decide) rfl (Nat.le_of_ble_eq_true rfl) fun p e ss m below meth c A Q C hQ ls hX hl => w_M_kill C hQ s _ _ ls hX hl h
-- M_push
def f_M_push_25 (x1 : Int32) (y1 : Int32) (s : SM) : Option SM :=
    bd1 (f_M_will y1 2 s) fun s1 =>
    some s1
def f_M_push (x1 : Int32) (s : SM) : Option SM :=
    lt1 (s.1 0 17 + x1) fun v1 =>
    lt1 (stI s 0 17 v1) fun s2 =>
    if 16 < s2.1 0 17 then
      f_M_push_25 x1 0 s2
    else
      f_M_push_25 x1 1 s2
section WALK
variable {p : Program} {l : Launch} {e : Env} {ss : State} {m : MethodId} {args : Array Value} {below : List Frame} {meth : Method} {c : Code} {Q : State → Prop} {g : GX} {A : Nat → Prop}
set_option maxHeartbeats 4000000 in
set_option maxRecDepth 100000 in
theorem w_M_push_25 {z : SM} (C : Cx g A p m c b_M_push 2 ss args R_M) (hQ : ∀ (pc : Nat) (H : Heap) (locs : List Loc) (ls : Array Slot), XW g A ss (wM g z) H locs → decode b_M_push pc = .ok (.return_, 1) → W p l e (rmX 1 22) ss m args below meth c H locs 0 0 Q (F0 m pc ls [])) : ∀ (x1 : Int32) (y1 : Int32) (s : SM) (H : Heap) (locs : List Loc) (ls : Array Slot), XW g A ss (wM g s) H locs → lv_has ls 2 [(0, .ref (g.q 60)), (1, .int x1)] → f_M_push_25 x1 y1 s = some z → W p l e (rmX 1 22) ss m args below meth c H locs 0 0 Q (F0 m 25 ls [.int y1, .ref (g.q 60)]) := by
  have ⟨⟨hx, hb, hml, hown, hts⟩, hK, hA, hN⟩ := C
  intro x1 y1 s H locs ls hX hl h
  rw [f_M_push_25] at h
  refine lv_iconst (v := 2) hx hb d_M_push_25 (by decide) ?_
  obtain ⟨s1, hc26, h⟩ := bd1_e h
  refine x_vV (As := [.int y1, .int 2]) (rest := []) C hX (c_M_will l g y1 2 s s1 hc26) (cw_M_158 C.1.2.2.2.2 C.2.2.2 ⟨by decide, by decide⟩) (x_rc C hX vg_0 rfl) rfl hl.1 rfl (lv_room (Nat.le_of_ble_eq_true rfl)) d_M_push_26 ⟨Nat.le_refl _, Nat.le_refl _⟩ (fun H locs hX => ?_)
  obtain rfl := so1 h
  exact hQ _ H locs ls hX d_M_push_29
set_option maxHeartbeats 4000000 in
set_option maxRecDepth 100000 in
theorem w_M_push {z : SM} (C : Cx g A p m c b_M_push 2 ss args R_M) (hQ : ∀ (pc : Nat) (H : Heap) (locs : List Loc) (ls : Array Slot), XW g A ss (wM g z) H locs → decode b_M_push pc = .ok (.return_, 1) → W p l e (rmX 1 22) ss m args below meth c H locs 0 0 Q (F0 m pc ls [])) : ∀ (x1 : Int32) (s : SM) (H : Heap) (locs : List Loc) (ls : Array Slot), XW g A ss (wM g s) H locs → lv_has ls 2 [(0, .ref (g.q 60)), (1, .int x1)] → f_M_push x1 s = some z → W p l e (rmX 1 22) ss m args below meth c H locs 0 0 Q (F0 m 0 ls []) := by
  have ⟨⟨hx, hb, hml, hown, hts⟩, hK, hA, hN⟩ := C
  intro x1 s H locs ls hX hl h
  rw [f_M_push] at h
  refine lv_aload_n hx hb d_M_push_0 rfl (lv_at hl 0 rfl) ?_
  refine lv_dup hx hb d_M_push_1 rfl ?_
  refine gm_top C hX fl_M_286 d_M_push_2 ?_
  refine lv_iload_n hx hb d_M_push_5 rfl (lv_at hl 1 rfl) ?_
  obtain ⟨v1, ev1, h⟩ := lt1_e h
  refine x_iadd hx hb d_M_push_6 ev1 ?_
  obtain ⟨s2, es2, h⟩ := lt1_e h
  refine pm_top C hX fl_M_286 d_M_push_7 (fun H locs hX => ?_)
  rw [← es2] at hX
  refine lv_aload_n hx hb d_M_push_10 rfl (lv_at hl 0 rfl) ?_
  refine lv_aload_n hx hb d_M_push_11 rfl (lv_at hl 0 rfl) ?_
  refine gm_top C hX fl_M_286 d_M_push_12 ?_
  refine lv_bipush (v := 16) hx hb d_M_push_15 (by decide) ?_
  refine lv_icmp_gt (tgt := 24) hx hb d_M_push_17 (by decide) (fun c17 => ?_) (fun c17 => ?_)
  · have h := ite_t c17 h
    refine lv_iconst (v := 0) hx hb d_M_push_24 (by decide) ?_
    exact w_M_push_25 C hQ x1 0 s2 H locs ls hX hl h
  · have h := ite_f c17 h
    refine lv_iconst (v := 1) hx hb d_M_push_20 (by decide) ?_
    refine lv_goto (tgt := 25) hx hb d_M_push_21 (by decide) ?_
    exact w_M_push_25 C hQ x1 1 s2 H locs ls hX hl h
end WALK
theorem c_M_push (l : Launch) (g : GX) (x1 : Int32) (s : SM) (z : SM) (h : f_M_push x1 s = some z) : MV l g y_M_push b_M_push 2 none 1 22 [.ref (g.q 60), .int x1] (wM g s) (wM g z) :=
  MV.mk (own := R_M) (by decide) rfl (Nat.le_of_ble_eq_true rfl) fun p e ss m below meth c A Q C hQ ls hX hl => w_M_push C hQ x1 s _ _ ls hX hl h
-- M_validateJump
def f_M_validateJump_271 (x1 : Int32) (x2 : Int32) (x3 : Int32) (s : SM) : Option SM :=
    some s
def f_M_validateJump_222 (x1 : Int32) (x2 : Int32) (x3 : Int32) (y1 : Int32) (s : SM) : Option SM :=
    bd1 (f_M_will y1 3 s) fun s1 =>
    if s1.1 0 5 ≤ 0 then
      gi x2 250 <|
      lt1 (s1.2 15 (Int32.toNatClampNeg x2)) fun v2 =>
      lt1 (Int64.toInt32 v2) fun v3 =>
      gi v3 8 <|
      lt1 (s1.2 4 (Int32.toNatClampNeg v3)) fun v4 =>
      lt1 (Int64.toInt32 v4) fun v5 =>
      gi v5 8 <|
      lt1 (s1.1 2 (Int32.toNatClampNeg v5)) fun v6 =>
      bd1 (f_M_pop v6 s1) fun s7 =>
      gi x2 250 <|
      lt1 (s7.2 15 (Int32.toNatClampNeg x2)) fun v8 =>
      lt1 (Int64.toInt32 v8) fun v9 =>
      bd1 (f_M_resultsOf s7 v9) fun r10 =>
      bd1 (f_M_push r10 s7) fun s11 =>
      f_M_validateJump_271 x1 x2 x3 s11
    else
      some s1
def f_M_validateJump_151 (k118 : Int32 → Int32 → Int32 → Int32 → Int32 → Int32 → Int32 → SM → Option SM) (x1 : Int32) (x2 : Int32) (x3 : Int32) (x4 : Int32) (x5 : Int32) (x6 : Int32) (x7 : Int32) (y1 : Int32) (s : SM) : Option SM :=
    bd1 (f_M_will y1 3 s) fun s1 =>
    lt1 (x7 + (1)) fun v2 =>
    k118 x1 x2 x3 x4 x5 x6 v2 s1
def f_M_validateJump_118 : Nat → Int32 → Int32 → Int32 → Int32 → Int32 → Int32 → Int32 → SM → Option SM
  | 0, _, _, _, _, _, _, _, _ => none
  | n + 1, x1, x2, x3, x4, x5, x6, x7, s =>
    if x5 ≤ x7 then
      bd1 (f_M_pop 1 s) fun s1 =>
      bd1 (f_M_pop x6 s1) fun s2 =>
      bd1 (f_M_kill s2) fun s3 =>
      f_M_validateJump_271 x1 x2 x3 s3
    else
      lt1 (x4 + x7) fun v4 =>
      gi v4 250 <|
      lt1 (s.2 25 (Int32.toNatClampNeg v4)) fun v5 =>
      bd (f_M_carried x1 v5 s) fun r7 s6 =>
      if r7 = x6 then
        f_M_validateJump_151 (f_M_validateJump_118 n) x1 x2 x3 x4 x5 x6 x7 1 s6
      else
        f_M_validateJump_151 (f_M_validateJump_118 n) x1 x2 x3 x4 x5 x6 x7 0 s6
def f_M_validateJump (x1 : Int32) (x2 : Int32) (s : SM) : Option SM :=
    gi x2 250 <|
    lt1 (s.1 14 (Int32.toNatClampNeg x2)) fun v1 =>
    if v1 = 12 then
      gi x2 250 <|
      lt1 (s.2 15 (Int32.toNatClampNeg x2)) fun v22 =>
      bd (f_M_carried x1 v22 s) fun r24 s23 =>
      bd1 (f_M_pop r24 s23) fun s25 =>
      bd1 (f_M_kill s25) fun s26 =>
      f_M_validateJump_271 x1 x2 v1 s26
    else
      if v1 = 13 then
        bd1 (f_M_pop 1 s) fun s16 =>
        gi x2 250 <|
        lt1 (s16.2 15 (Int32.toNatClampNeg x2)) fun v17 =>
        bd (f_M_carried x1 v17 s16) fun r19 s18 =>
        bd1 (f_M_pop r19 s18) fun s20 =>
        bd1 (f_M_push r19 s20) fun s21 =>
        f_M_validateJump_271 x1 x2 v1 s21
      else
        if v1 = 14 then
          gi x2 250 <|
          lt1 (s.2 16 (Int32.toNatClampNeg x2)) fun v8 =>
          lt1 (Int64.toInt32 v8) fun v9 =>
          gi x2 250 <|
          lt1 (s.2 15 (Int32.toNatClampNeg x2)) fun v10 =>
          lt1 (Int64.toInt32 v10) fun v11 =>
          lt1 (v9 + v11) fun v12 =>
          gi v12 250 <|
          lt1 (s.2 25 (Int32.toNatClampNeg v12)) fun v13 =>
          bd (f_M_carried x1 v13 s) fun r15 s14 =>
          f_M_validateJump_118 FU x1 x2 v1 v9 v11 r15 0 s14
        else
          if v1 = 15 then
            bd1 (f_M_resultsOf s x1) fun r5 =>
            bd1 (f_M_pop r5 s) fun s6 =>
            bd1 (f_M_kill s6) fun s7 =>
            f_M_validateJump_271 x1 x2 v1 s7
          else
            gi x2 250 <|
            lt1 (s.2 15 (Int32.toNatClampNeg x2)) fun v2 =>
            lt1 (Int32.toInt64 (s.1 0 7)) fun v3 =>
            lt1 (lg_cmp v2 v3) fun v4 =>
            if 0 ≤ v4 then
              f_M_validateJump_222 x1 x2 v1 0 s
            else
              f_M_validateJump_222 x1 x2 v1 1 s
section WALK
variable {p : Program} {l : Launch} {e : Env} {ss : State} {m : MethodId} {args : Array Value} {below : List Frame} {meth : Method} {c : Code} {Q : State → Prop} {g : GX} {A : Nat → Prop}
set_option maxHeartbeats 4000000 in
set_option maxRecDepth 100000 in
theorem w_M_validateJump_271 {z : SM} (C : Cx g A p m c b_M_validateJump 8 ss args R_M) (hQ : ∀ (pc : Nat) (H : Heap) (locs : List Loc) (ls : Array Slot), XW g A ss (wM g z) H locs → decode b_M_validateJump pc = .ok (.return_, 1) → W p l e (rmX 3 67) ss m args below meth c H locs 0 0 Q (F0 m pc ls [])) : ∀ (x1 : Int32) (x2 : Int32) (x3 : Int32) (s : SM) (H : Heap) (locs : List Loc) (ls : Array Slot), XW g A ss (wM g s) H locs → lv_has ls 8 [(0, .ref (g.q 60)), (1, .int x1), (2, .int x2), (3, .int x3)] → f_M_validateJump_271 x1 x2 x3 s = some z → W p l e (rmX 3 67) ss m args below meth c H locs 0 0 Q (F0 m 271 ls []) := by
  have ⟨⟨hx, hb, hml, hown, hts⟩, hK, hA, hN⟩ := C
  intro x1 x2 x3 s H locs ls hX hl h
  rw [f_M_validateJump_271] at h
  obtain rfl := so1 h
  exact hQ _ H locs ls hX d_M_validateJump_271
set_option maxHeartbeats 4000000 in
set_option maxRecDepth 100000 in
theorem w_M_validateJump_222 {z : SM} (C : Cx g A p m c b_M_validateJump 8 ss args R_M) (hQ : ∀ (pc : Nat) (H : Heap) (locs : List Loc) (ls : Array Slot), XW g A ss (wM g z) H locs → decode b_M_validateJump pc = .ok (.return_, 1) → W p l e (rmX 3 67) ss m args below meth c H locs 0 0 Q (F0 m pc ls [])) : ∀ (x1 : Int32) (x2 : Int32) (x3 : Int32) (y1 : Int32) (s : SM) (H : Heap) (locs : List Loc) (ls : Array Slot), XW g A ss (wM g s) H locs → lv_has ls 8 [(0, .ref (g.q 60)), (1, .int x1), (2, .int x2), (3, .int x3)] → f_M_validateJump_222 x1 x2 x3 y1 s = some z → W p l e (rmX 3 67) ss m args below meth c H locs 0 0 Q (F0 m 222 ls [.int y1, .ref (g.q 60)]) := by
  have ⟨⟨hx, hb, hml, hown, hts⟩, hK, hA, hN⟩ := C
  intro x1 x2 x3 y1 s H locs ls hX hl h
  rw [f_M_validateJump_222] at h
  refine lv_iconst (v := 3) hx hb d_M_validateJump_222 (by decide) ?_
  obtain ⟨s1, hc223, h⟩ := bd1_e h
  refine x_vV (As := [.int y1, .int 3]) (rest := []) C hX (c_M_will l g y1 3 s s1 hc223) (cw_M_158 C.1.2.2.2.2 C.2.2.2 ⟨by decide, by decide⟩) (x_rc C hX vg_0 rfl) rfl hl.1 rfl (lv_room (Nat.le_of_ble_eq_true rfl)) d_M_validateJump_223 ⟨Nat.le_refl _, Nat.le_refl _⟩ (fun H locs hX => ?_)
  refine lv_aload_n hx hb d_M_validateJump_226 rfl (lv_at hl 0 rfl) ?_
  refine gm_wrong C hX fl_M_149 d_M_validateJump_227 ?_
  refine lv_if_le (tgt := 234) hx hb d_M_validateJump_230 (by decide) (fun c230 => ?_) (fun c230 => ?_)
  · have h := ite_t c230 h
    refine lv_aload_n hx hb d_M_validateJump_234 rfl (lv_at hl 0 rfl) ?_
    refine lv_aload_n hx hb d_M_validateJump_235 rfl (lv_at hl 0 rfl) ?_
    refine gm_params C hX fl_M_13 d_M_validateJump_236 ?_
    refine lv_aload_n hx hb d_M_validateJump_239 rfl (lv_at hl 0 rfl) ?_
    refine gm_typeOf C hX fl_M_19 d_M_validateJump_240 ?_
    refine lv_aload_n hx hb d_M_validateJump_243 rfl (lv_at hl 0 rfl) ?_
    refine gm_first C hX fl_M_54 d_M_validateJump_244 ?_
    refine lv_iload_n hx hb d_M_validateJump_247 rfl (lv_at hl 2 rfl) ?_
    obtain ⟨hz248, h⟩ := gi_e h
    obtain ⟨v2, ev2, h⟩ := lt1_e h
    refine alm_15 C hX hz248 d_M_validateJump_248 ev2 ?_
    obtain ⟨v3, ev3, h⟩ := lt1_e h
    refine lv_l2i hx hb d_M_validateJump_249 ev3.symm ?_
    obtain ⟨hz250, h⟩ := gi_e h
    obtain ⟨v4, ev4, h⟩ := lt1_e h
    refine alm_4 C hX hz250 d_M_validateJump_250 ev4 ?_
    obtain ⟨v5, ev5, h⟩ := lt1_e h
    refine lv_l2i hx hb d_M_validateJump_251 ev5.symm ?_
    obtain ⟨hz252, h⟩ := gi_e h
    obtain ⟨v6, ev6, h⟩ := lt1_e h
    refine alm_2 C hX hz252 d_M_validateJump_252 ev6 ?_
    obtain ⟨s7, hc253, h⟩ := bd1_e h
    refine x_vV (As := [.int v6]) (rest := []) C hX (c_M_pop l g v6 s1 s7 hc253) (cw_M_312 C.1.2.2.2.2 C.2.2.2 ⟨by decide, by decide⟩) (x_rc C hX vg_0 rfl) rfl hl.1 rfl (lv_room (Nat.le_of_ble_eq_true rfl)) d_M_validateJump_253 ⟨Nat.le_refl _, Nat.le_refl _⟩ (fun H locs hX => ?_)
    refine lv_aload_n hx hb d_M_validateJump_256 rfl (lv_at hl 0 rfl) ?_
    refine lv_aload_n hx hb d_M_validateJump_257 rfl (lv_at hl 0 rfl) ?_
    refine lv_aload_n hx hb d_M_validateJump_258 rfl (lv_at hl 0 rfl) ?_
    refine gm_first C hX fl_M_54 d_M_validateJump_259 ?_
    refine lv_iload_n hx hb d_M_validateJump_262 rfl (lv_at hl 2 rfl) ?_
    obtain ⟨hz263, h⟩ := gi_e h
    obtain ⟨v8, ev8, h⟩ := lt1_e h
    refine alm_15 C hX hz263 d_M_validateJump_263 ev8 ?_
    obtain ⟨v9, ev9, h⟩ := lt1_e h
    refine lv_l2i hx hb d_M_validateJump_264 ev9.symm ?_
    obtain ⟨r10, hc265, h⟩ := bd1_e h
    refine x_vI (As := [.int v9]) (rest := [.ref (g.q 60)]) C hX (c_M_resultsOf l g v9 s7 r10 hc265) (cw_M_292 C.1.2.2.2.2 C.2.2.2 ⟨by decide, by decide⟩) (x_rc C hX vg_0 rfl) rfl hl.1 rfl (lv_room (Nat.le_of_ble_eq_true rfl)) d_M_validateJump_265 ⟨Nat.le_refl _, Nat.le_refl _⟩ (fun H locs hX => ?_)
    obtain ⟨s11, hc268, h⟩ := bd1_e h
    refine x_vV (As := [.int r10]) (rest := []) C hX (c_M_push l g r10 s7 s11 hc268) (cw_M_315 C.1.2.2.2.2 C.2.2.2 ⟨by decide, by decide⟩) (x_rc C hX vg_0 rfl) rfl hl.1 rfl (lv_room (Nat.le_of_ble_eq_true rfl)) d_M_validateJump_268 ⟨Nat.le_refl _, Nat.le_refl _⟩ (fun H locs hX => ?_)
    exact w_M_validateJump_271 C hQ x1 x2 x3 s11 H locs ls hX hl h
  · have h := ite_f c230 h
    obtain rfl := so1 h
    exact hQ _ H locs ls hX d_M_validateJump_233
set_option maxHeartbeats 4000000 in
set_option maxRecDepth 100000 in
theorem w_M_validateJump_151 {z : SM} (C : Cx g A p m c b_M_validateJump 8 ss args R_M) (hQ : ∀ (pc : Nat) (H : Heap) (locs : List Loc) (ls : Array Slot), XW g A ss (wM g z) H locs → decode b_M_validateJump pc = .ok (.return_, 1) → W p l e (rmX 3 67) ss m args below meth c H locs 0 0 Q (F0 m pc ls [])) (k118 : Int32 → Int32 → Int32 → Int32 → Int32 → Int32 → Int32 → SM → Option SM) (hk118 : ∀ (x1 : Int32) (x2 : Int32) (x3 : Int32) (x4 : Int32) (x5 : Int32) (x6 : Int32) (x7 : Int32) (s : SM) (H : Heap) (locs : List Loc) (ls : Array Slot), XW g A ss (wM g s) H locs → lv_has ls 8 [(0, .ref (g.q 60)), (1, .int x1), (2, .int x2), (3, .int x3), (4, .int x4), (5, .int x5), (6, .int x6), (7, .int x7)] → k118 x1 x2 x3 x4 x5 x6 x7 s = some z → W p l e (rmX 3 67) ss m args below meth c H locs 0 0 Q (F0 m 118 ls [])) : ∀ (x1 : Int32) (x2 : Int32) (x3 : Int32) (x4 : Int32) (x5 : Int32) (x6 : Int32) (x7 : Int32) (y1 : Int32) (s : SM) (H : Heap) (locs : List Loc) (ls : Array Slot), XW g A ss (wM g s) H locs → lv_has ls 8 [(0, .ref (g.q 60)), (1, .int x1), (2, .int x2), (3, .int x3), (4, .int x4), (5, .int x5), (6, .int x6), (7, .int x7)] → f_M_validateJump_151 k118 x1 x2 x3 x4 x5 x6 x7 y1 s = some z → W p l e (rmX 3 67) ss m args below meth c H locs 0 0 Q (F0 m 151 ls [.int y1, .ref (g.q 60)]) := by
  have ⟨⟨hx, hb, hml, hown, hts⟩, hK, hA, hN⟩ := C
  intro x1 x2 x3 x4 x5 x6 x7 y1 s H locs ls hX hl h
  rw [f_M_validateJump_151] at h
  refine lv_iconst (v := 3) hx hb d_M_validateJump_151 (by decide) ?_
  obtain ⟨s1, hc152, h⟩ := bd1_e h
  refine x_vV (As := [.int y1, .int 3]) (rest := []) C hX (c_M_will l g y1 3 s s1 hc152) (cw_M_158 C.1.2.2.2.2 C.2.2.2 ⟨by decide, by decide⟩) (x_rc C hX vg_0 rfl) rfl hl.1 rfl (lv_room (Nat.le_of_ble_eq_true rfl)) d_M_validateJump_152 ⟨Nat.le_refl _, Nat.le_refl _⟩ (fun H locs hX => ?_)
  obtain ⟨v2, ev2, h⟩ := lt1_e h
  refine lv_iinc (v := v2) (lv' := [(7, .int v2), (0, .ref (g.q 60)), (1, .int x1), (2, .int x2), (3, .int x3), (4, .int x4), (5, .int x5), (6, .int x6)]) hx hb d_M_validateJump_155 hl (k := 7) rfl (by rw [ev2]; rfl) (by decide) rfl (fun ls hl => ?_)
  refine lv_goto (tgt := 118) hx hb d_M_validateJump_158 (by decide) ?_
  exact hk118 x1 x2 x3 x4 x5 x6 v2 s1 H locs ls hX (lv_sub hl [1, 2, 3, 4, 5, 6, 7, 0] rfl) h
set_option maxHeartbeats 4000000 in
set_option maxRecDepth 100000 in
theorem w_M_validateJump_118 {z : SM} (C : Cx g A p m c b_M_validateJump 8 ss args R_M) (hQ : ∀ (pc : Nat) (H : Heap) (locs : List Loc) (ls : Array Slot), XW g A ss (wM g z) H locs → decode b_M_validateJump pc = .ok (.return_, 1) → W p l e (rmX 3 67) ss m args below meth c H locs 0 0 Q (F0 m pc ls [])) (n : Nat) : ∀ (x1 : Int32) (x2 : Int32) (x3 : Int32) (x4 : Int32) (x5 : Int32) (x6 : Int32) (x7 : Int32) (s : SM) (H : Heap) (locs : List Loc) (ls : Array Slot), XW g A ss (wM g s) H locs → lv_has ls 8 [(0, .ref (g.q 60)), (1, .int x1), (2, .int x2), (3, .int x3), (4, .int x4), (5, .int x5), (6, .int x6), (7, .int x7)] → f_M_validateJump_118 n x1 x2 x3 x4 x5 x6 x7 s = some z → W p l e (rmX 3 67) ss m args below meth c H locs 0 0 Q (F0 m 118 ls []) := by
  have ⟨⟨hx, hb, hml, hown, hts⟩, hK, hA, hN⟩ := C
  induction n with
  | zero => intro x1 x2 x3 x4 x5 x6 x7 s H locs ls hX hl h; cases h
  | succ n ih =>
    intro x1 x2 x3 x4 x5 x6 x7 s H locs ls hX hl h
    rw [f_M_validateJump_118] at h
    refine lv_iload hx hb d_M_validateJump_118 (lv_at hl 7 rfl) ?_
    refine lv_iload hx hb d_M_validateJump_120 (lv_at hl 5 rfl) ?_
    refine lv_icmp_ge (tgt := 161) hx hb d_M_validateJump_122 (by decide) (fun c122 => ?_) (fun c122 => ?_)
    · have h := ite_t c122 h
      refine lv_aload_n hx hb d_M_validateJump_161 rfl (lv_at hl 0 rfl) ?_
      refine lv_iconst (v := 1) hx hb d_M_validateJump_162 (by decide) ?_
      obtain ⟨s1, hc163, h⟩ := bd1_e h
      refine x_vV (As := [.int 1]) (rest := []) C hX (c_M_pop l g 1 s s1 hc163) (cw_M_312 C.1.2.2.2.2 C.2.2.2 ⟨by decide, by decide⟩) (x_rc C hX vg_0 rfl) rfl hl.1 rfl (lv_room (Nat.le_of_ble_eq_true rfl)) d_M_validateJump_163 ⟨Nat.le_refl _, Nat.le_refl _⟩ (fun H locs hX => ?_)
      refine lv_aload_n hx hb d_M_validateJump_166 rfl (lv_at hl 0 rfl) ?_
      refine lv_iload hx hb d_M_validateJump_167 (lv_at hl 6 rfl) ?_
      obtain ⟨s2, hc169, h⟩ := bd1_e h
      refine x_vV (As := [.int x6]) (rest := []) C hX (c_M_pop l g x6 s1 s2 hc169) (cw_M_312 C.1.2.2.2.2 C.2.2.2 ⟨by decide, by decide⟩) (x_rc C hX vg_0 rfl) rfl hl.1 rfl (lv_room (Nat.le_of_ble_eq_true rfl)) d_M_validateJump_169 ⟨Nat.le_refl _, Nat.le_refl _⟩ (fun H locs hX => ?_)
      refine lv_aload_n hx hb d_M_validateJump_172 rfl (lv_at hl 0 rfl) ?_
      obtain ⟨s3, hc173, h⟩ := bd1_e h
      refine x_vV (As := []) (rest := []) C hX (c_M_kill l g s2 s3 hc173) (cw_M_309 C.1.2.2.2.2 C.2.2.2 ⟨by decide, by decide⟩) (x_rc C hX vg_0 rfl) rfl hl.1 rfl (lv_room (Nat.le_of_ble_eq_true rfl)) d_M_validateJump_173 ⟨Nat.le_refl _, Nat.le_refl _⟩ (fun H locs hX => ?_)
      refine lv_goto (tgt := 271) hx hb d_M_validateJump_176 (by decide) ?_
      exact w_M_validateJump_271 C hQ x1 x2 x3 s3 H locs ls hX (lv_sub hl [0, 1, 2, 3] rfl) h
    · have h := ite_f c122 h
      refine lv_aload_n hx hb d_M_validateJump_125 rfl (lv_at hl 0 rfl) ?_
      refine lv_aload_n hx hb d_M_validateJump_126 rfl (lv_at hl 0 rfl) ?_
      refine lv_iload_n hx hb d_M_validateJump_127 rfl (lv_at hl 1 rfl) ?_
      refine lv_aload_n hx hb d_M_validateJump_128 rfl (lv_at hl 0 rfl) ?_
      refine gm_label C hX fl_M_84 d_M_validateJump_129 ?_
      refine lv_iload hx hb d_M_validateJump_132 (lv_at hl 4 rfl) ?_
      refine lv_iload hx hb d_M_validateJump_134 (lv_at hl 7 rfl) ?_
      obtain ⟨v4, ev4, h⟩ := lt1_e h
      refine x_iadd hx hb d_M_validateJump_136 ev4 ?_
      obtain ⟨hz137, h⟩ := gi_e h
      obtain ⟨v5, ev5, h⟩ := lt1_e h
      refine alm_25 C hX hz137 d_M_validateJump_137 ev5 ?_
      obtain ⟨r7, s6, hc138, h⟩ := bd_e h
      refine x_vI (As := [.int x1, .long v5]) (rest := [.ref (g.q 60)]) C hX (c_M_carried l g x1 v5 s (r7, s6) hc138) (cw_M_318 C.1.2.2.2.2 C.2.2.2 ⟨by decide, by decide⟩) (x_rc C hX vg_0 rfl) rfl hl.1 rfl (lv_room (Nat.le_of_ble_eq_true rfl)) d_M_validateJump_138 ⟨Nat.le_refl _, Nat.le_refl _⟩ (fun H locs hX => ?_)
      refine lv_iload hx hb d_M_validateJump_141 (lv_at hl 6 rfl) ?_
      refine lv_icmp_ne (tgt := 150) hx hb d_M_validateJump_143 (by decide) (fun c143 => ?_) (fun c143 => ?_)
      · have h := ite_f c143 h
        refine lv_iconst (v := 0) hx hb d_M_validateJump_150 (by decide) ?_
        exact w_M_validateJump_151 C hQ (f_M_validateJump_118 n) ih x1 x2 x3 x4 x5 x6 x7 0 s6 H locs ls hX hl h
      · have h := ite_t c143 h
        refine lv_iconst (v := 1) hx hb d_M_validateJump_146 (by decide) ?_
        refine lv_goto (tgt := 151) hx hb d_M_validateJump_147 (by decide) ?_
        exact w_M_validateJump_151 C hQ (f_M_validateJump_118 n) ih x1 x2 x3 x4 x5 x6 x7 1 s6 H locs ls hX hl h
set_option maxHeartbeats 4000000 in
set_option maxRecDepth 100000 in
theorem w_M_validateJump {z : SM} (C : Cx g A p m c b_M_validateJump 8 ss args R_M) (hQ : ∀ (pc : Nat) (H : Heap) (locs : List Loc) (ls : Array Slot), XW g A ss (wM g z) H locs → decode b_M_validateJump pc = .ok (.return_, 1) → W p l e (rmX 3 67) ss m args below meth c H locs 0 0 Q (F0 m pc ls [])) : ∀ (x1 : Int32) (x2 : Int32) (s : SM) (H : Heap) (locs : List Loc) (ls : Array Slot), XW g A ss (wM g s) H locs → lv_has ls 8 [(0, .ref (g.q 60)), (1, .int x1), (2, .int x2)] → f_M_validateJump x1 x2 s = some z → W p l e (rmX 3 67) ss m args below meth c H locs 0 0 Q (F0 m 0 ls []) := by
  have ⟨⟨hx, hb, hml, hown, hts⟩, hK, hA, hN⟩ := C
  intro x1 x2 s H locs ls hX hl h
  rw [f_M_validateJump] at h
  refine lv_aload_n hx hb d_M_validateJump_0 rfl (lv_at hl 0 rfl) ?_
  refine gm_op C hX fl_M_51 d_M_validateJump_1 ?_
  refine lv_iload_n hx hb d_M_validateJump_4 rfl (lv_at hl 2 rfl) ?_
  obtain ⟨hz5, h⟩ := gi_e h
  obtain ⟨v1, ev1, h⟩ := lt1_e h
  refine alm_14 C hX hz5 d_M_validateJump_5 ev1 ?_
  refine lv_istore_n (lv' := [(3, .int v1), (0, .ref (g.q 60)), (1, .int x1), (2, .int x2)]) hx hb d_M_validateJump_6 rfl hl (by decide) rfl (fun ls hl => ?_)
  refine lv_iload_n hx hb d_M_validateJump_7 rfl (lv_at hl 0 rfl) ?_
  refine lv_bipush (v := 12) hx hb d_M_validateJump_8 (by decide) ?_
  refine lv_icmp_ne (tgt := 35) hx hb d_M_validateJump_10 (by decide) (fun c10 => ?_) (fun c10 => ?_)
  · have h := ite_f c10 h
    refine lv_iload_n hx hb d_M_validateJump_35 rfl (lv_at hl 0 rfl) ?_
    refine lv_bipush (v := 13) hx hb d_M_validateJump_36 (by decide) ?_
    refine lv_icmp_ne (tgt := 74) hx hb d_M_validateJump_38 (by decide) (fun c38 => ?_) (fun c38 => ?_)
    · have h := ite_f c38 h
      refine lv_iload_n hx hb d_M_validateJump_74 rfl (lv_at hl 0 rfl) ?_
      refine lv_bipush (v := 14) hx hb d_M_validateJump_75 (by decide) ?_
      refine lv_icmp_ne (tgt := 179) hx hb d_M_validateJump_77 (by decide) (fun c77 => ?_) (fun c77 => ?_)
      · have h := ite_f c77 h
        refine lv_iload_n hx hb d_M_validateJump_179 rfl (lv_at hl 0 rfl) ?_
        refine lv_bipush (v := 15) hx hb d_M_validateJump_180 (by decide) ?_
        refine lv_icmp_ne (tgt := 201) hx hb d_M_validateJump_182 (by decide) (fun c182 => ?_) (fun c182 => ?_)
        · have h := ite_f c182 h
          refine lv_aload_n hx hb d_M_validateJump_201 rfl (lv_at hl 1 rfl) ?_
          refine lv_aload_n hx hb d_M_validateJump_202 rfl (lv_at hl 1 rfl) ?_
          refine gm_first C hX fl_M_54 d_M_validateJump_203 ?_
          refine lv_iload_n hx hb d_M_validateJump_206 rfl (lv_at hl 3 rfl) ?_
          obtain ⟨hz207, h⟩ := gi_e h
          obtain ⟨v2, ev2, h⟩ := lt1_e h
          refine alm_15 C hX hz207 d_M_validateJump_207 ev2 ?_
          refine lv_aload_n hx hb d_M_validateJump_208 rfl (lv_at hl 1 rfl) ?_
          refine gm_functions C hX fl_M_188 d_M_validateJump_209 ?_
          obtain ⟨v3, ev3, h⟩ := lt1_e h
          refine lv_i2l hx hb d_M_validateJump_212 ev3.symm ?_
          obtain ⟨v4, ev4, h⟩ := lt1_e h
          refine x_lcmp hx hb d_M_validateJump_213 ev4 ?_
          refine lv_if_ge (tgt := 221) hx hb d_M_validateJump_214 (by decide) (fun c214 => ?_) (fun c214 => ?_)
          · have h := ite_t c214 h
            refine lv_iconst (v := 0) hx hb d_M_validateJump_221 (by decide) ?_
            exact w_M_validateJump_222 C hQ x1 x2 v1 0 s H locs ls hX (lv_sub hl [1, 2, 3, 0] rfl) h
          · have h := ite_f c214 h
            refine lv_iconst (v := 1) hx hb d_M_validateJump_217 (by decide) ?_
            refine lv_goto (tgt := 222) hx hb d_M_validateJump_218 (by decide) ?_
            exact w_M_validateJump_222 C hQ x1 x2 v1 1 s H locs ls hX (lv_sub hl [1, 2, 3, 0] rfl) h
        · have h := ite_t c182 h
          refine lv_aload_n hx hb d_M_validateJump_185 rfl (lv_at hl 1 rfl) ?_
          refine lv_aload_n hx hb d_M_validateJump_186 rfl (lv_at hl 1 rfl) ?_
          refine lv_iload_n hx hb d_M_validateJump_187 rfl (lv_at hl 2 rfl) ?_
          obtain ⟨r5, hc188, h⟩ := bd1_e h
          refine x_vI (As := [.int x1]) (rest := [.ref (g.q 60)]) C hX (c_M_resultsOf l g x1 s r5 hc188) (cw_M_292 C.1.2.2.2.2 C.2.2.2 ⟨by decide, by decide⟩) (x_rc C hX vg_0 rfl) rfl hl.1 rfl (lv_room (Nat.le_of_ble_eq_true rfl)) d_M_validateJump_188 ⟨Nat.le_refl _, Nat.le_refl _⟩ (fun H locs hX => ?_)
          obtain ⟨s6, hc191, h⟩ := bd1_e h
          refine x_vV (As := [.int r5]) (rest := []) C hX (c_M_pop l g r5 s s6 hc191) (cw_M_312 C.1.2.2.2.2 C.2.2.2 ⟨by decide, by decide⟩) (x_rc C hX vg_0 rfl) rfl hl.1 rfl (lv_room (Nat.le_of_ble_eq_true rfl)) d_M_validateJump_191 ⟨Nat.le_refl _, Nat.le_refl _⟩ (fun H locs hX => ?_)
          refine lv_aload_n hx hb d_M_validateJump_194 rfl (lv_at hl 1 rfl) ?_
          obtain ⟨s7, hc195, h⟩ := bd1_e h
          refine x_vV (As := []) (rest := []) C hX (c_M_kill l g s6 s7 hc195) (cw_M_309 C.1.2.2.2.2 C.2.2.2 ⟨by decide, by decide⟩) (x_rc C hX vg_0 rfl) rfl hl.1 rfl (lv_room (Nat.le_of_ble_eq_true rfl)) d_M_validateJump_195 ⟨Nat.le_refl _, Nat.le_refl _⟩ (fun H locs hX => ?_)
          refine lv_goto (tgt := 271) hx hb d_M_validateJump_198 (by decide) ?_
          exact w_M_validateJump_271 C hQ x1 x2 v1 s7 H locs ls hX (lv_sub hl [1, 2, 3, 0] rfl) h
      · have h := ite_t c77 h
        refine lv_aload_n hx hb d_M_validateJump_80 rfl (lv_at hl 1 rfl) ?_
        refine gm_second C hX fl_M_57 d_M_validateJump_81 ?_
        refine lv_iload_n hx hb d_M_validateJump_84 rfl (lv_at hl 3 rfl) ?_
        obtain ⟨hz85, h⟩ := gi_e h
        obtain ⟨v8, ev8, h⟩ := lt1_e h
        refine alm_16 C hX hz85 d_M_validateJump_85 ev8 ?_
        obtain ⟨v9, ev9, h⟩ := lt1_e h
        refine lv_l2i hx hb d_M_validateJump_86 ev9.symm ?_
        refine lv_istore (lv' := [(4, .int v9), (3, .int v1), (0, .ref (g.q 60)), (1, .int x1), (2, .int x2)]) hx hb d_M_validateJump_87 hl (by decide) rfl (fun ls hl => ?_)
        refine lv_aload_n hx hb d_M_validateJump_89 rfl (lv_at hl 2 rfl) ?_
        refine gm_first C hX fl_M_54 d_M_validateJump_90 ?_
        refine lv_iload_n hx hb d_M_validateJump_93 rfl (lv_at hl 4 rfl) ?_
        obtain ⟨hz94, h⟩ := gi_e h
        obtain ⟨v10, ev10, h⟩ := lt1_e h
        refine alm_15 C hX hz94 d_M_validateJump_94 ev10 ?_
        obtain ⟨v11, ev11, h⟩ := lt1_e h
        refine lv_l2i hx hb d_M_validateJump_95 ev11.symm ?_
        refine lv_istore (lv' := [(5, .int v11), (4, .int v9), (3, .int v1), (0, .ref (g.q 60)), (1, .int x1), (2, .int x2)]) hx hb d_M_validateJump_96 hl (by decide) rfl (fun ls hl => ?_)
        refine lv_aload_n hx hb d_M_validateJump_98 rfl (lv_at hl 3 rfl) ?_
        refine lv_iload_n hx hb d_M_validateJump_99 rfl (lv_at hl 4 rfl) ?_
        refine lv_aload_n hx hb d_M_validateJump_100 rfl (lv_at hl 3 rfl) ?_
        refine gm_label C hX fl_M_84 d_M_validateJump_101 ?_
        refine lv_iload hx hb d_M_validateJump_104 (lv_at hl 1 rfl) ?_
        refine lv_iload hx hb d_M_validateJump_106 (lv_at hl 0 rfl) ?_
        obtain ⟨v12, ev12, h⟩ := lt1_e h
        refine x_iadd hx hb d_M_validateJump_108 ev12 ?_
        obtain ⟨hz109, h⟩ := gi_e h
        obtain ⟨v13, ev13, h⟩ := lt1_e h
        refine alm_25 C hX hz109 d_M_validateJump_109 ev13 ?_
        obtain ⟨r15, s14, hc110, h⟩ := bd_e h
        refine x_vI (As := [.int x1, .long v13]) (rest := []) C hX (c_M_carried l g x1 v13 s (r15, s14) hc110) (cw_M_318 C.1.2.2.2.2 C.2.2.2 ⟨by decide, by decide⟩) (x_rc C hX vg_0 rfl) rfl hl.1 rfl (lv_room (Nat.le_of_ble_eq_true rfl)) d_M_validateJump_110 ⟨Nat.le_refl _, Nat.le_refl _⟩ (fun H locs hX => ?_)
        refine lv_istore (lv' := [(6, .int r15), (5, .int v11), (4, .int v9), (3, .int v1), (0, .ref (g.q 60)), (1, .int x1), (2, .int x2)]) hx hb d_M_validateJump_113 hl (by decide) rfl (fun ls hl => ?_)
        refine lv_iconst (v := 0) hx hb d_M_validateJump_115 (by decide) ?_
        refine lv_istore (lv' := [(7, .int 0), (6, .int r15), (5, .int v11), (4, .int v9), (3, .int v1), (0, .ref (g.q 60)), (1, .int x1), (2, .int x2)]) hx hb d_M_validateJump_116 hl (by decide) rfl (fun ls hl => ?_)
        exact w_M_validateJump_118 C hQ FU x1 x2 v1 v9 v11 r15 0 s14 H locs ls hX (lv_sub hl [5, 6, 7, 4, 3, 2, 1, 0] rfl) h
    · have h := ite_t c38 h
      refine lv_aload_n hx hb d_M_validateJump_41 rfl (lv_at hl 1 rfl) ?_
      refine lv_iconst (v := 1) hx hb d_M_validateJump_42 (by decide) ?_
      obtain ⟨s16, hc43, h⟩ := bd1_e h
      refine x_vV (As := [.int 1]) (rest := []) C hX (c_M_pop l g 1 s s16 hc43) (cw_M_312 C.1.2.2.2.2 C.2.2.2 ⟨by decide, by decide⟩) (x_rc C hX vg_0 rfl) rfl hl.1 rfl (lv_room (Nat.le_of_ble_eq_true rfl)) d_M_validateJump_43 ⟨Nat.le_refl _, Nat.le_refl _⟩ (fun H locs hX => ?_)
      refine lv_aload_n hx hb d_M_validateJump_46 rfl (lv_at hl 1 rfl) ?_
      refine lv_iload_n hx hb d_M_validateJump_47 rfl (lv_at hl 2 rfl) ?_
      refine lv_aload_n hx hb d_M_validateJump_48 rfl (lv_at hl 1 rfl) ?_
      refine gm_first C hX fl_M_54 d_M_validateJump_49 ?_
      refine lv_iload_n hx hb d_M_validateJump_52 rfl (lv_at hl 3 rfl) ?_
      obtain ⟨hz53, h⟩ := gi_e h
      obtain ⟨v17, ev17, h⟩ := lt1_e h
      refine alm_15 C hX hz53 d_M_validateJump_53 ev17 ?_
      obtain ⟨r19, s18, hc54, h⟩ := bd_e h
      refine x_vI (As := [.int x1, .long v17]) (rest := []) C hX (c_M_carried l g x1 v17 s16 (r19, s18) hc54) (cw_M_318 C.1.2.2.2.2 C.2.2.2 ⟨by decide, by decide⟩) (x_rc C hX vg_0 rfl) rfl hl.1 rfl (lv_room (Nat.le_of_ble_eq_true rfl)) d_M_validateJump_54 ⟨Nat.le_refl _, Nat.le_refl _⟩ (fun H locs hX => ?_)
      refine lv_istore (lv' := [(4, .int r19), (3, .int v1), (0, .ref (g.q 60)), (1, .int x1), (2, .int x2)]) hx hb d_M_validateJump_57 hl (by decide) rfl (fun ls hl => ?_)
      refine lv_aload_n hx hb d_M_validateJump_59 rfl (lv_at hl 2 rfl) ?_
      refine lv_iload hx hb d_M_validateJump_60 (lv_at hl 0 rfl) ?_
      obtain ⟨s20, hc62, h⟩ := bd1_e h
      refine x_vV (As := [.int r19]) (rest := []) C hX (c_M_pop l g r19 s18 s20 hc62) (cw_M_312 C.1.2.2.2.2 C.2.2.2 ⟨by decide, by decide⟩) (x_rc C hX vg_0 rfl) rfl hl.1 rfl (lv_room (Nat.le_of_ble_eq_true rfl)) d_M_validateJump_62 ⟨Nat.le_refl _, Nat.le_refl _⟩ (fun H locs hX => ?_)
      refine lv_aload_n hx hb d_M_validateJump_65 rfl (lv_at hl 2 rfl) ?_
      refine lv_iload hx hb d_M_validateJump_66 (lv_at hl 0 rfl) ?_
      obtain ⟨s21, hc68, h⟩ := bd1_e h
      refine x_vV (As := [.int r19]) (rest := []) C hX (c_M_push l g r19 s20 s21 hc68) (cw_M_315 C.1.2.2.2.2 C.2.2.2 ⟨by decide, by decide⟩) (x_rc C hX vg_0 rfl) rfl hl.1 rfl (lv_room (Nat.le_of_ble_eq_true rfl)) d_M_validateJump_68 ⟨Nat.le_refl _, Nat.le_refl _⟩ (fun H locs hX => ?_)
      refine lv_goto (tgt := 271) hx hb d_M_validateJump_71 (by decide) ?_
      exact w_M_validateJump_271 C hQ x1 x2 v1 s21 H locs ls hX (lv_sub hl [2, 3, 4, 1] rfl) h
  · have h := ite_t c10 h
    refine lv_aload_n hx hb d_M_validateJump_13 rfl (lv_at hl 1 rfl) ?_
    refine lv_aload_n hx hb d_M_validateJump_14 rfl (lv_at hl 1 rfl) ?_
    refine lv_iload_n hx hb d_M_validateJump_15 rfl (lv_at hl 2 rfl) ?_
    refine lv_aload_n hx hb d_M_validateJump_16 rfl (lv_at hl 1 rfl) ?_
    refine gm_first C hX fl_M_54 d_M_validateJump_17 ?_
    refine lv_iload_n hx hb d_M_validateJump_20 rfl (lv_at hl 3 rfl) ?_
    obtain ⟨hz21, h⟩ := gi_e h
    obtain ⟨v22, ev22, h⟩ := lt1_e h
    refine alm_15 C hX hz21 d_M_validateJump_21 ev22 ?_
    obtain ⟨r24, s23, hc22, h⟩ := bd_e h
    refine x_vI (As := [.int x1, .long v22]) (rest := [.ref (g.q 60)]) C hX (c_M_carried l g x1 v22 s (r24, s23) hc22) (cw_M_318 C.1.2.2.2.2 C.2.2.2 ⟨by decide, by decide⟩) (x_rc C hX vg_0 rfl) rfl hl.1 rfl (lv_room (Nat.le_of_ble_eq_true rfl)) d_M_validateJump_22 ⟨Nat.le_refl _, Nat.le_refl _⟩ (fun H locs hX => ?_)
    obtain ⟨s25, hc25, h⟩ := bd1_e h
    refine x_vV (As := [.int r24]) (rest := []) C hX (c_M_pop l g r24 s23 s25 hc25) (cw_M_312 C.1.2.2.2.2 C.2.2.2 ⟨by decide, by decide⟩) (x_rc C hX vg_0 rfl) rfl hl.1 rfl (lv_room (Nat.le_of_ble_eq_true rfl)) d_M_validateJump_25 ⟨Nat.le_refl _, Nat.le_refl _⟩ (fun H locs hX => ?_)
    refine lv_aload_n hx hb d_M_validateJump_28 rfl (lv_at hl 1 rfl) ?_
    obtain ⟨s26, hc29, h⟩ := bd1_e h
    refine x_vV (As := []) (rest := []) C hX (c_M_kill l g s25 s26 hc29) (cw_M_309 C.1.2.2.2.2 C.2.2.2 ⟨by decide, by decide⟩) (x_rc C hX vg_0 rfl) rfl hl.1 rfl (lv_room (Nat.le_of_ble_eq_true rfl)) d_M_validateJump_29 ⟨Nat.le_refl _, Nat.le_refl _⟩ (fun H locs hX => ?_)
    refine lv_goto (tgt := 271) hx hb d_M_validateJump_32 (by decide) ?_
    exact w_M_validateJump_271 C hQ x1 x2 v1 s26 H locs ls hX (lv_sub hl [1, 2, 3, 0] rfl) h
end WALK
theorem c_M_validateJump (l : Launch) (g : GX) (x1 : Int32) (x2 : Int32) (s : SM) (z : SM) (h : f_M_validateJump x1 x2 s = some z) : MV l g y_M_validateJump b_M_validateJump 8 none 3 67 [.ref (g.q 60), .int x1, .int x2] (wM g s) (wM g z) :=
  MV.mk (own := R_M) (by decide) rfl (Nat.le_of_ble_eq_true rfl) fun p e ss m below meth c A Q C hQ ls hX hl => w_M_validateJump C hQ x1 x2 s _ _ ls hX hl h
-- M_locals
def f_M_locals (s : SM) (x1 : Int32) : Option Int32 :=
    bd1 (f_M_parameters s x1) fun r1 =>
    gi x1 8 <|
    lt1 (s.1 24 (Int32.toNatClampNeg x1)) fun v2 =>
    lt1 (r1 + v2) fun v3 =>
    some (v3)
section WALK
variable {p : Program} {l : Launch} {e : Env} {ss : State} {m : MethodId} {args : Array Value} {below : List Frame} {meth : Method} {c : Code} {Q : State → Prop} {g : GX} {A : Nat → Prop}
set_option maxHeartbeats 4000000 in
set_option maxRecDepth 100000 in
theorem w_M_locals {s : SM} {z : Int32} (C : Cx g A p m c b_M_locals 2 ss args R_M) (hQ : ∀ (pc : Nat) (H : Heap) (locs : List Loc) (ls : Array Slot), XW g A ss (wM g s) H locs → decode b_M_locals pc = .ok (.ireturn, 1) → W p l e (rmX 1 21) ss m args below meth c H locs 0 0 Q (F0 m pc ls [.int z])) : ∀ (x1 : Int32) (H : Heap) (locs : List Loc) (ls : Array Slot), XW g A ss (wM g s) H locs → lv_has ls 2 [(0, .ref (g.q 60)), (1, .int x1)] → f_M_locals s x1 = some z → W p l e (rmX 1 21) ss m args below meth c H locs 0 0 Q (F0 m 0 ls []) := by
  have ⟨⟨hx, hb, hml, hown, hts⟩, hK, hA, hN⟩ := C
  intro x1 H locs ls hX hl h
  rw [f_M_locals] at h
  refine lv_aload_n hx hb d_M_locals_0 rfl (lv_at hl 0 rfl) ?_
  refine lv_iload_n hx hb d_M_locals_1 rfl (lv_at hl 1 rfl) ?_
  obtain ⟨r1, hc2, h⟩ := bd1_e h
  refine x_vI (As := [.int x1]) (rest := []) C hX (c_M_parameters l g x1 s r1 hc2) (cw_M_258 C.1.2.2.2.2 C.2.2.2 ⟨by decide, by decide⟩) (x_rc C hX vg_0 rfl) rfl hl.1 rfl (lv_room (Nat.le_of_ble_eq_true rfl)) d_M_locals_2 ⟨Nat.le_refl _, Nat.le_refl _⟩ (fun H locs hX => ?_)
  refine lv_aload_n hx hb d_M_locals_5 rfl (lv_at hl 0 rfl) ?_
  refine gm_extra C hX fl_M_81 d_M_locals_6 ?_
  refine lv_iload_n hx hb d_M_locals_9 rfl (lv_at hl 1 rfl) ?_
  obtain ⟨hz10, h⟩ := gi_e h
  obtain ⟨v2, ev2, h⟩ := lt1_e h
  refine alm_24 C hX hz10 d_M_locals_10 ev2 ?_
  obtain ⟨v3, ev3, h⟩ := lt1_e h
  refine x_iadd hx hb d_M_locals_11 ev3 ?_
  obtain rfl := so1 h
  exact hQ _ H locs ls hX d_M_locals_12
end WALK
theorem c_M_locals (l : Launch) (g : GX) (x1 : Int32) (s : SM) (z : Int32) (h : f_M_locals s x1 = some z) : MI l g y_M_locals b_M_locals 2 (some .int) 1 21 [.ref (g.q 60), .int x1] (wM g s) z (wM g s) :=
  MI.mk (own := R_M) (by decide) rfl (Nat.le_of_ble_eq_true rfl) fun p e ss m below meth c A Q C hQ ls hX hl => w_M_locals C hQ x1 _ _ ls hX hl h
-- M_width
def f_M_width_39 (x0 : Int32) (y0 : Int32) : Option Int32 :=
    some (y0)
def f_M_width_34 (x0 : Int32) : Option Int32 :=
    f_M_width_39 x0 1
def f_M_width_12 (x0 : Int32) : Option Int32 :=
    f_M_width_39 x0 4
def f_M_width (x0 : Int32) : Option Int32 :=
    if x0 = 40 then
      f_M_width_12 x0
    else
      if x0 = 54 then
        f_M_width_12 x0
      else
        if x0 = 44 then
          f_M_width_34 x0
        else
          if x0 = 45 then
            f_M_width_34 x0
          else
            if x0 = 58 then
              f_M_width_34 x0
            else
              f_M_width_39 x0 2
section WALK
variable {p : Program} {l : Launch} {e : Env} {ss : State} {m : MethodId} {args : Array Value} {below : List Frame} {meth : Method} {c : Code} {Q : State → Prop} {g : GX} {A : Nat → Prop}
set_option maxHeartbeats 4000000 in
set_option maxRecDepth 100000 in
theorem w_M_width_39 {ws : va_W} {z : Int32} (C : Cx g A p m c b_M_width 1 ss args R_M) (hQ : ∀ (pc : Nat) (H : Heap) (locs : List Loc) (ls : Array Slot), XW g A ss ws H locs → decode b_M_width pc = .ok (.ireturn, 1) → W p l e (rmX 0 0) ss m args below meth c H locs 0 0 Q (F0 m pc ls [.int z])) : ∀ (x0 : Int32) (y0 : Int32) (H : Heap) (locs : List Loc) (ls : Array Slot), XW g A ss ws H locs → lv_has ls 1 [(0, .int x0)] → f_M_width_39 x0 y0 = some z → W p l e (rmX 0 0) ss m args below meth c H locs 0 0 Q (F0 m 39 ls [.int y0]) := by
  have ⟨⟨hx, hb, hml, hown, hts⟩, hK, hA, hN⟩ := C
  intro x0 y0 H locs ls hX hl h
  rw [f_M_width_39] at h
  obtain rfl := so1 h
  exact hQ _ H locs ls hX d_M_width_39
set_option maxHeartbeats 4000000 in
set_option maxRecDepth 100000 in
theorem w_M_width_34 {ws : va_W} {z : Int32} (C : Cx g A p m c b_M_width 1 ss args R_M) (hQ : ∀ (pc : Nat) (H : Heap) (locs : List Loc) (ls : Array Slot), XW g A ss ws H locs → decode b_M_width pc = .ok (.ireturn, 1) → W p l e (rmX 0 0) ss m args below meth c H locs 0 0 Q (F0 m pc ls [.int z])) : ∀ (x0 : Int32) (H : Heap) (locs : List Loc) (ls : Array Slot), XW g A ss ws H locs → lv_has ls 1 [(0, .int x0)] → f_M_width_34 x0 = some z → W p l e (rmX 0 0) ss m args below meth c H locs 0 0 Q (F0 m 34 ls []) := by
  have ⟨⟨hx, hb, hml, hown, hts⟩, hK, hA, hN⟩ := C
  intro x0 H locs ls hX hl h
  rw [f_M_width_34] at h
  refine lv_iconst (v := 1) hx hb d_M_width_34 (by decide) ?_
  refine lv_goto (tgt := 39) hx hb d_M_width_35 (by decide) ?_
  exact w_M_width_39 C hQ x0 1 H locs ls hX hl h
set_option maxHeartbeats 4000000 in
set_option maxRecDepth 100000 in
theorem w_M_width_12 {ws : va_W} {z : Int32} (C : Cx g A p m c b_M_width 1 ss args R_M) (hQ : ∀ (pc : Nat) (H : Heap) (locs : List Loc) (ls : Array Slot), XW g A ss ws H locs → decode b_M_width pc = .ok (.ireturn, 1) → W p l e (rmX 0 0) ss m args below meth c H locs 0 0 Q (F0 m pc ls [.int z])) : ∀ (x0 : Int32) (H : Heap) (locs : List Loc) (ls : Array Slot), XW g A ss ws H locs → lv_has ls 1 [(0, .int x0)] → f_M_width_12 x0 = some z → W p l e (rmX 0 0) ss m args below meth c H locs 0 0 Q (F0 m 12 ls []) := by
  have ⟨⟨hx, hb, hml, hown, hts⟩, hK, hA, hN⟩ := C
  intro x0 H locs ls hX hl h
  rw [f_M_width_12] at h
  refine lv_iconst (v := 4) hx hb d_M_width_12 (by decide) ?_
  refine lv_goto (tgt := 39) hx hb d_M_width_13 (by decide) ?_
  exact w_M_width_39 C hQ x0 4 H locs ls hX hl h
set_option maxHeartbeats 4000000 in
set_option maxRecDepth 100000 in
theorem w_M_width {ws : va_W} {z : Int32} (C : Cx g A p m c b_M_width 1 ss args R_M) (hQ : ∀ (pc : Nat) (H : Heap) (locs : List Loc) (ls : Array Slot), XW g A ss ws H locs → decode b_M_width pc = .ok (.ireturn, 1) → W p l e (rmX 0 0) ss m args below meth c H locs 0 0 Q (F0 m pc ls [.int z])) : ∀ (x0 : Int32) (H : Heap) (locs : List Loc) (ls : Array Slot), XW g A ss ws H locs → lv_has ls 1 [(0, .int x0)] → f_M_width x0 = some z → W p l e (rmX 0 0) ss m args below meth c H locs 0 0 Q (F0 m 0 ls []) := by
  have ⟨⟨hx, hb, hml, hown, hts⟩, hK, hA, hN⟩ := C
  intro x0 H locs ls hX hl h
  rw [f_M_width] at h
  refine lv_iload_n hx hb d_M_width_0 rfl (lv_at hl 0 rfl) ?_
  refine lv_bipush (v := 40) hx hb d_M_width_1 (by decide) ?_
  refine lv_icmp_eq (tgt := 12) hx hb d_M_width_3 (by decide) (fun c3 => ?_) (fun c3 => ?_)
  · have h := ite_t c3 h
    exact w_M_width_12 C hQ x0 H locs ls hX hl h
  · have h := ite_f c3 h
    refine lv_iload_n hx hb d_M_width_6 rfl (lv_at hl 0 rfl) ?_
    refine lv_bipush (v := 54) hx hb d_M_width_7 (by decide) ?_
    refine lv_icmp_ne (tgt := 16) hx hb d_M_width_9 (by decide) (fun c9 => ?_) (fun c9 => ?_)
    · have h := ite_f c9 h
      refine lv_iload_n hx hb d_M_width_16 rfl (lv_at hl 0 rfl) ?_
      refine lv_bipush (v := 44) hx hb d_M_width_17 (by decide) ?_
      refine lv_icmp_eq (tgt := 34) hx hb d_M_width_19 (by decide) (fun c19 => ?_) (fun c19 => ?_)
      · have h := ite_t c19 h
        exact w_M_width_34 C hQ x0 H locs ls hX hl h
      · have h := ite_f c19 h
        refine lv_iload_n hx hb d_M_width_22 rfl (lv_at hl 0 rfl) ?_
        refine lv_bipush (v := 45) hx hb d_M_width_23 (by decide) ?_
        refine lv_icmp_eq (tgt := 34) hx hb d_M_width_25 (by decide) (fun c25 => ?_) (fun c25 => ?_)
        · have h := ite_t c25 h
          exact w_M_width_34 C hQ x0 H locs ls hX hl h
        · have h := ite_f c25 h
          refine lv_iload_n hx hb d_M_width_28 rfl (lv_at hl 0 rfl) ?_
          refine lv_bipush (v := 58) hx hb d_M_width_29 (by decide) ?_
          refine lv_icmp_ne (tgt := 38) hx hb d_M_width_31 (by decide) (fun c31 => ?_) (fun c31 => ?_)
          · have h := ite_f c31 h
            refine lv_iconst (v := 2) hx hb d_M_width_38 (by decide) ?_
            exact w_M_width_39 C hQ x0 2 H locs ls hX hl h
          · have h := ite_t c31 h
            exact w_M_width_34 C hQ x0 H locs ls hX hl h
    · have h := ite_t c9 h
      exact w_M_width_12 C hQ x0 H locs ls hX hl h
end WALK
theorem c_M_width (l : Launch) (g : GX) (x0 : Int32) (z : Int32) (h : f_M_width x0 = some z) (ws : va_W) : MI l g y_M_width b_M_width 1 (some .int) 0 0 [.int x0] ws z ws :=
  MI.mk (own := R_M) (by decide) rfl (Nat.le_of_ble_eq_true rfl) fun p e ss m below meth c A Q C hQ ls hX hl => w_M_width C hQ x0 _ _ ls hX hl h
-- M_takes
def f_M_takes_68 (x0 : Int32) : Option Int32 :=
    some (1)
def f_M_takes_105 (x0 : Int32) (y0 : Int32) : Option Int32 :=
    some (y0)
def f_M_takes_100 (x0 : Int32) : Option Int32 :=
    f_M_takes_105 x0 2
def f_M_takes_94 (x0 : Int32) : Option Int32 :=
    if x0 ≤ 105 then
      f_M_takes_105 x0 0
    else
      f_M_takes_100 x0
def f_M_takes_82 (x0 : Int32) : Option Int32 :=
    if x0 ≤ 69 then
      f_M_takes_94 x0
    else
      if x0 < 80 then
        f_M_takes_100 x0
      else
        f_M_takes_94 x0
def f_M_takes_70 (x0 : Int32) : Option Int32 :=
    if x0 ≤ 53 then
      f_M_takes_82 x0
    else
      if x0 < 60 then
        f_M_takes_100 x0
      else
        f_M_takes_82 x0
def f_M_takes_56 (x0 : Int32) : Option Int32 :=
    if x0 ≤ 102 then
      f_M_takes_70 x0
    else
      if 106 ≤ x0 then
        f_M_takes_70 x0
      else
        f_M_takes_68 x0
def f_M_takes (x0 : Int32) : Option Int32 :=
    if x0 = 27 then
      some (3)
    else
      if x0 = 26 then
        f_M_takes_68 x0
      else
        if x0 = 33 then
          f_M_takes_68 x0
        else
          if x0 = 34 then
            f_M_takes_68 x0
          else
            if x0 = 36 then
              f_M_takes_68 x0
            else
              if x0 = 64 then
                f_M_takes_68 x0
              else
                if x0 = 69 then
                  f_M_takes_68 x0
                else
                  if x0 ≤ 39 then
                    f_M_takes_56 x0
                  else
                    if x0 < 48 then
                      f_M_takes_68 x0
                    else
                      f_M_takes_56 x0
section WALK
variable {p : Program} {l : Launch} {e : Env} {ss : State} {m : MethodId} {args : Array Value} {below : List Frame} {meth : Method} {c : Code} {Q : State → Prop} {g : GX} {A : Nat → Prop}
set_option maxHeartbeats 4000000 in
set_option maxRecDepth 100000 in
theorem w_M_takes_68 {ws : va_W} {z : Int32} (C : Cx g A p m c b_M_takes 1 ss args R_M) (hQ : ∀ (pc : Nat) (H : Heap) (locs : List Loc) (ls : Array Slot), XW g A ss ws H locs → decode b_M_takes pc = .ok (.ireturn, 1) → W p l e (rmX 0 0) ss m args below meth c H locs 0 0 Q (F0 m pc ls [.int z])) : ∀ (x0 : Int32) (H : Heap) (locs : List Loc) (ls : Array Slot), XW g A ss ws H locs → lv_has ls 1 [(0, .int x0)] → f_M_takes_68 x0 = some z → W p l e (rmX 0 0) ss m args below meth c H locs 0 0 Q (F0 m 68 ls []) := by
  have ⟨⟨hx, hb, hml, hown, hts⟩, hK, hA, hN⟩ := C
  intro x0 H locs ls hX hl h
  rw [f_M_takes_68] at h
  refine lv_iconst (v := 1) hx hb d_M_takes_68 (by decide) ?_
  obtain rfl := so1 h
  exact hQ _ H locs ls hX d_M_takes_69
set_option maxHeartbeats 4000000 in
set_option maxRecDepth 100000 in
theorem w_M_takes_105 {ws : va_W} {z : Int32} (C : Cx g A p m c b_M_takes 1 ss args R_M) (hQ : ∀ (pc : Nat) (H : Heap) (locs : List Loc) (ls : Array Slot), XW g A ss ws H locs → decode b_M_takes pc = .ok (.ireturn, 1) → W p l e (rmX 0 0) ss m args below meth c H locs 0 0 Q (F0 m pc ls [.int z])) : ∀ (x0 : Int32) (y0 : Int32) (H : Heap) (locs : List Loc) (ls : Array Slot), XW g A ss ws H locs → lv_has ls 1 [(0, .int x0)] → f_M_takes_105 x0 y0 = some z → W p l e (rmX 0 0) ss m args below meth c H locs 0 0 Q (F0 m 105 ls [.int y0]) := by
  have ⟨⟨hx, hb, hml, hown, hts⟩, hK, hA, hN⟩ := C
  intro x0 y0 H locs ls hX hl h
  rw [f_M_takes_105] at h
  obtain rfl := so1 h
  exact hQ _ H locs ls hX d_M_takes_105
set_option maxHeartbeats 4000000 in
set_option maxRecDepth 100000 in
theorem w_M_takes_100 {ws : va_W} {z : Int32} (C : Cx g A p m c b_M_takes 1 ss args R_M) (hQ : ∀ (pc : Nat) (H : Heap) (locs : List Loc) (ls : Array Slot), XW g A ss ws H locs → decode b_M_takes pc = .ok (.ireturn, 1) → W p l e (rmX 0 0) ss m args below meth c H locs 0 0 Q (F0 m pc ls [.int z])) : ∀ (x0 : Int32) (H : Heap) (locs : List Loc) (ls : Array Slot), XW g A ss ws H locs → lv_has ls 1 [(0, .int x0)] → f_M_takes_100 x0 = some z → W p l e (rmX 0 0) ss m args below meth c H locs 0 0 Q (F0 m 100 ls []) := by
  have ⟨⟨hx, hb, hml, hown, hts⟩, hK, hA, hN⟩ := C
  intro x0 H locs ls hX hl h
  rw [f_M_takes_100] at h
  refine lv_iconst (v := 2) hx hb d_M_takes_100 (by decide) ?_
  refine lv_goto (tgt := 105) hx hb d_M_takes_101 (by decide) ?_
  exact w_M_takes_105 C hQ x0 2 H locs ls hX hl h
set_option maxHeartbeats 4000000 in
set_option maxRecDepth 100000 in
theorem w_M_takes_94 {ws : va_W} {z : Int32} (C : Cx g A p m c b_M_takes 1 ss args R_M) (hQ : ∀ (pc : Nat) (H : Heap) (locs : List Loc) (ls : Array Slot), XW g A ss ws H locs → decode b_M_takes pc = .ok (.ireturn, 1) → W p l e (rmX 0 0) ss m args below meth c H locs 0 0 Q (F0 m pc ls [.int z])) : ∀ (x0 : Int32) (H : Heap) (locs : List Loc) (ls : Array Slot), XW g A ss ws H locs → lv_has ls 1 [(0, .int x0)] → f_M_takes_94 x0 = some z → W p l e (rmX 0 0) ss m args below meth c H locs 0 0 Q (F0 m 94 ls []) := by
  have ⟨⟨hx, hb, hml, hown, hts⟩, hK, hA, hN⟩ := C
  intro x0 H locs ls hX hl h
  rw [f_M_takes_94] at h
  refine lv_iload_n hx hb d_M_takes_94 rfl (lv_at hl 0 rfl) ?_
  refine lv_bipush (v := 105) hx hb d_M_takes_95 (by decide) ?_
  refine lv_icmp_le (tgt := 104) hx hb d_M_takes_97 (by decide) (fun c97 => ?_) (fun c97 => ?_)
  · have h := ite_t c97 h
    refine lv_iconst (v := 0) hx hb d_M_takes_104 (by decide) ?_
    exact w_M_takes_105 C hQ x0 0 H locs ls hX hl h
  · have h := ite_f c97 h
    exact w_M_takes_100 C hQ x0 H locs ls hX hl h
set_option maxHeartbeats 4000000 in
set_option maxRecDepth 100000 in
theorem w_M_takes_82 {ws : va_W} {z : Int32} (C : Cx g A p m c b_M_takes 1 ss args R_M) (hQ : ∀ (pc : Nat) (H : Heap) (locs : List Loc) (ls : Array Slot), XW g A ss ws H locs → decode b_M_takes pc = .ok (.ireturn, 1) → W p l e (rmX 0 0) ss m args below meth c H locs 0 0 Q (F0 m pc ls [.int z])) : ∀ (x0 : Int32) (H : Heap) (locs : List Loc) (ls : Array Slot), XW g A ss ws H locs → lv_has ls 1 [(0, .int x0)] → f_M_takes_82 x0 = some z → W p l e (rmX 0 0) ss m args below meth c H locs 0 0 Q (F0 m 82 ls []) := by
  have ⟨⟨hx, hb, hml, hown, hts⟩, hK, hA, hN⟩ := C
  intro x0 H locs ls hX hl h
  rw [f_M_takes_82] at h
  refine lv_iload_n hx hb d_M_takes_82 rfl (lv_at hl 0 rfl) ?_
  refine lv_bipush (v := 69) hx hb d_M_takes_83 (by decide) ?_
  refine lv_icmp_le (tgt := 94) hx hb d_M_takes_85 (by decide) (fun c85 => ?_) (fun c85 => ?_)
  · have h := ite_t c85 h
    exact w_M_takes_94 C hQ x0 H locs ls hX hl h
  · have h := ite_f c85 h
    refine lv_iload_n hx hb d_M_takes_88 rfl (lv_at hl 0 rfl) ?_
    refine lv_bipush (v := 80) hx hb d_M_takes_89 (by decide) ?_
    refine lv_icmp_lt (tgt := 100) hx hb d_M_takes_91 (by decide) (fun c91 => ?_) (fun c91 => ?_)
    · have h := ite_t c91 h
      exact w_M_takes_100 C hQ x0 H locs ls hX hl h
    · have h := ite_f c91 h
      exact w_M_takes_94 C hQ x0 H locs ls hX hl h
set_option maxHeartbeats 4000000 in
set_option maxRecDepth 100000 in
theorem w_M_takes_70 {ws : va_W} {z : Int32} (C : Cx g A p m c b_M_takes 1 ss args R_M) (hQ : ∀ (pc : Nat) (H : Heap) (locs : List Loc) (ls : Array Slot), XW g A ss ws H locs → decode b_M_takes pc = .ok (.ireturn, 1) → W p l e (rmX 0 0) ss m args below meth c H locs 0 0 Q (F0 m pc ls [.int z])) : ∀ (x0 : Int32) (H : Heap) (locs : List Loc) (ls : Array Slot), XW g A ss ws H locs → lv_has ls 1 [(0, .int x0)] → f_M_takes_70 x0 = some z → W p l e (rmX 0 0) ss m args below meth c H locs 0 0 Q (F0 m 70 ls []) := by
  have ⟨⟨hx, hb, hml, hown, hts⟩, hK, hA, hN⟩ := C
  intro x0 H locs ls hX hl h
  rw [f_M_takes_70] at h
  refine lv_iload_n hx hb d_M_takes_70 rfl (lv_at hl 0 rfl) ?_
  refine lv_bipush (v := 53) hx hb d_M_takes_71 (by decide) ?_
  refine lv_icmp_le (tgt := 82) hx hb d_M_takes_73 (by decide) (fun c73 => ?_) (fun c73 => ?_)
  · have h := ite_t c73 h
    exact w_M_takes_82 C hQ x0 H locs ls hX hl h
  · have h := ite_f c73 h
    refine lv_iload_n hx hb d_M_takes_76 rfl (lv_at hl 0 rfl) ?_
    refine lv_bipush (v := 60) hx hb d_M_takes_77 (by decide) ?_
    refine lv_icmp_lt (tgt := 100) hx hb d_M_takes_79 (by decide) (fun c79 => ?_) (fun c79 => ?_)
    · have h := ite_t c79 h
      exact w_M_takes_100 C hQ x0 H locs ls hX hl h
    · have h := ite_f c79 h
      exact w_M_takes_82 C hQ x0 H locs ls hX hl h
set_option maxHeartbeats 4000000 in
set_option maxRecDepth 100000 in
theorem w_M_takes_56 {ws : va_W} {z : Int32} (C : Cx g A p m c b_M_takes 1 ss args R_M) (hQ : ∀ (pc : Nat) (H : Heap) (locs : List Loc) (ls : Array Slot), XW g A ss ws H locs → decode b_M_takes pc = .ok (.ireturn, 1) → W p l e (rmX 0 0) ss m args below meth c H locs 0 0 Q (F0 m pc ls [.int z])) : ∀ (x0 : Int32) (H : Heap) (locs : List Loc) (ls : Array Slot), XW g A ss ws H locs → lv_has ls 1 [(0, .int x0)] → f_M_takes_56 x0 = some z → W p l e (rmX 0 0) ss m args below meth c H locs 0 0 Q (F0 m 56 ls []) := by
  have ⟨⟨hx, hb, hml, hown, hts⟩, hK, hA, hN⟩ := C
  intro x0 H locs ls hX hl h
  rw [f_M_takes_56] at h
  refine lv_iload_n hx hb d_M_takes_56 rfl (lv_at hl 0 rfl) ?_
  refine lv_bipush (v := 102) hx hb d_M_takes_57 (by decide) ?_
  refine lv_icmp_le (tgt := 70) hx hb d_M_takes_59 (by decide) (fun c59 => ?_) (fun c59 => ?_)
  · have h := ite_t c59 h
    exact w_M_takes_70 C hQ x0 H locs ls hX hl h
  · have h := ite_f c59 h
    refine lv_iload_n hx hb d_M_takes_62 rfl (lv_at hl 0 rfl) ?_
    refine lv_bipush (v := 106) hx hb d_M_takes_63 (by decide) ?_
    refine lv_icmp_ge (tgt := 70) hx hb d_M_takes_65 (by decide) (fun c65 => ?_) (fun c65 => ?_)
    · have h := ite_t c65 h
      exact w_M_takes_70 C hQ x0 H locs ls hX hl h
    · have h := ite_f c65 h
      exact w_M_takes_68 C hQ x0 H locs ls hX hl h
set_option maxHeartbeats 4000000 in
set_option maxRecDepth 100000 in
theorem w_M_takes {ws : va_W} {z : Int32} (C : Cx g A p m c b_M_takes 1 ss args R_M) (hQ : ∀ (pc : Nat) (H : Heap) (locs : List Loc) (ls : Array Slot), XW g A ss ws H locs → decode b_M_takes pc = .ok (.ireturn, 1) → W p l e (rmX 0 0) ss m args below meth c H locs 0 0 Q (F0 m pc ls [.int z])) : ∀ (x0 : Int32) (H : Heap) (locs : List Loc) (ls : Array Slot), XW g A ss ws H locs → lv_has ls 1 [(0, .int x0)] → f_M_takes x0 = some z → W p l e (rmX 0 0) ss m args below meth c H locs 0 0 Q (F0 m 0 ls []) := by
  have ⟨⟨hx, hb, hml, hown, hts⟩, hK, hA, hN⟩ := C
  intro x0 H locs ls hX hl h
  rw [f_M_takes] at h
  refine lv_iload_n hx hb d_M_takes_0 rfl (lv_at hl 0 rfl) ?_
  refine lv_bipush (v := 27) hx hb d_M_takes_1 (by decide) ?_
  refine lv_icmp_ne (tgt := 8) hx hb d_M_takes_3 (by decide) (fun c3 => ?_) (fun c3 => ?_)
  · have h := ite_f c3 h
    refine lv_iload_n hx hb d_M_takes_8 rfl (lv_at hl 0 rfl) ?_
    refine lv_bipush (v := 26) hx hb d_M_takes_9 (by decide) ?_
    refine lv_icmp_eq (tgt := 68) hx hb d_M_takes_11 (by decide) (fun c11 => ?_) (fun c11 => ?_)
    · have h := ite_t c11 h
      exact w_M_takes_68 C hQ x0 H locs ls hX hl h
    · have h := ite_f c11 h
      refine lv_iload_n hx hb d_M_takes_14 rfl (lv_at hl 0 rfl) ?_
      refine lv_bipush (v := 33) hx hb d_M_takes_15 (by decide) ?_
      refine lv_icmp_eq (tgt := 68) hx hb d_M_takes_17 (by decide) (fun c17 => ?_) (fun c17 => ?_)
      · have h := ite_t c17 h
        exact w_M_takes_68 C hQ x0 H locs ls hX hl h
      · have h := ite_f c17 h
        refine lv_iload_n hx hb d_M_takes_20 rfl (lv_at hl 0 rfl) ?_
        refine lv_bipush (v := 34) hx hb d_M_takes_21 (by decide) ?_
        refine lv_icmp_eq (tgt := 68) hx hb d_M_takes_23 (by decide) (fun c23 => ?_) (fun c23 => ?_)
        · have h := ite_t c23 h
          exact w_M_takes_68 C hQ x0 H locs ls hX hl h
        · have h := ite_f c23 h
          refine lv_iload_n hx hb d_M_takes_26 rfl (lv_at hl 0 rfl) ?_
          refine lv_bipush (v := 36) hx hb d_M_takes_27 (by decide) ?_
          refine lv_icmp_eq (tgt := 68) hx hb d_M_takes_29 (by decide) (fun c29 => ?_) (fun c29 => ?_)
          · have h := ite_t c29 h
            exact w_M_takes_68 C hQ x0 H locs ls hX hl h
          · have h := ite_f c29 h
            refine lv_iload_n hx hb d_M_takes_32 rfl (lv_at hl 0 rfl) ?_
            refine lv_bipush (v := 64) hx hb d_M_takes_33 (by decide) ?_
            refine lv_icmp_eq (tgt := 68) hx hb d_M_takes_35 (by decide) (fun c35 => ?_) (fun c35 => ?_)
            · have h := ite_t c35 h
              exact w_M_takes_68 C hQ x0 H locs ls hX hl h
            · have h := ite_f c35 h
              refine lv_iload_n hx hb d_M_takes_38 rfl (lv_at hl 0 rfl) ?_
              refine lv_bipush (v := 69) hx hb d_M_takes_39 (by decide) ?_
              refine lv_icmp_eq (tgt := 68) hx hb d_M_takes_41 (by decide) (fun c41 => ?_) (fun c41 => ?_)
              · have h := ite_t c41 h
                exact w_M_takes_68 C hQ x0 H locs ls hX hl h
              · have h := ite_f c41 h
                refine lv_iload_n hx hb d_M_takes_44 rfl (lv_at hl 0 rfl) ?_
                refine lv_bipush (v := 39) hx hb d_M_takes_45 (by decide) ?_
                refine lv_icmp_le (tgt := 56) hx hb d_M_takes_47 (by decide) (fun c47 => ?_) (fun c47 => ?_)
                · have h := ite_t c47 h
                  exact w_M_takes_56 C hQ x0 H locs ls hX hl h
                · have h := ite_f c47 h
                  refine lv_iload_n hx hb d_M_takes_50 rfl (lv_at hl 0 rfl) ?_
                  refine lv_bipush (v := 48) hx hb d_M_takes_51 (by decide) ?_
                  refine lv_icmp_lt (tgt := 68) hx hb d_M_takes_53 (by decide) (fun c53 => ?_) (fun c53 => ?_)
                  · have h := ite_t c53 h
                    exact w_M_takes_68 C hQ x0 H locs ls hX hl h
                  · have h := ite_f c53 h
                    exact w_M_takes_56 C hQ x0 H locs ls hX hl h
  · have h := ite_t c3 h
    refine lv_iconst (v := 3) hx hb d_M_takes_6 (by decide) ?_
    obtain rfl := so1 h
    exact hQ _ H locs ls hX d_M_takes_7
end WALK
theorem c_M_takes (l : Launch) (g : GX) (x0 : Int32) (z : Int32) (h : f_M_takes x0 = some z) (ws : va_W) : MI l g y_M_takes b_M_takes 1 (some .int) 0 0 [.int x0] ws z ws :=
  MI.mk (own := R_M) (by decide) rfl (Nat.le_of_ble_eq_true rfl) fun p e ss m below meth c A Q C hQ ls hX hl => w_M_takes C hQ x0 _ _ ls hX hl h
