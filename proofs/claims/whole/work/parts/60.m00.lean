-- M_feed
def f_M_feed_33 (x1 : Int32) (s : SM) : Option (Int32 × SM) :=
    bz 0 <|
    some (0, s)
def f_M_feed (x1 : Int32) (s : SM) : Option (Int32 × SM) :=
    lt1 (stI s 0 0 0) fun s1 =>
    if s1.1 0 2 = 0 then
      if x1 < 0 then
        f_M_feed_33 x1 s1
      else
        if 255 < x1 then
          f_M_feed_33 x1 s1
        else
          if s1.1 0 1 = 240 then
            f_M_feed_33 x1 s1
          else
            gi (s1.1 0 1) 240 <|
            lt1 (stI s1 1 (Int32.toNatClampNeg (s1.1 0 1)) x1) fun s2 =>
            lt1 (s2.1 0 1 + 1) fun v3 =>
            lt1 (stI s2 0 1 v3) fun s4 =>
            bz 1 <|
            some (1, s4)
    else
      f_M_feed_33 x1 s1
section WALK
variable {p : Program} {l : Launch} {e : Env} {ss : State} {m : MethodId} {args : Array Value} {below : List Frame} {meth : Method} {c : Code} {Q : State → Prop} {g : GX} {A : Nat → Prop}
set_option maxHeartbeats 4000000 in
set_option maxRecDepth 100000 in
theorem w_M_feed_33 {z : Int32 × SM} (C : Cx g A p m c b_M_feed 2 ss args R_M) (hQ : ∀ (pc : Nat) (H : Heap) (locs : List Loc) (ls : Array Slot), XW g A ss (wM g z.2) H locs → (z.1 = 0 ∨ z.1 = 1) → decode b_M_feed pc = .ok (.ireturn, 1) → W p l e (rmX 0 0) ss m args below meth c H locs 0 0 Q (F0 m pc ls [.int z.1])) : ∀ (x1 : Int32) (s : SM) (H : Heap) (locs : List Loc) (ls : Array Slot), XW g A ss (wM g s) H locs → lv_has ls 2 [(0, .ref (g.q 60)), (1, .int x1)] → f_M_feed_33 x1 s = some z → W p l e (rmX 0 0) ss m args below meth c H locs 0 0 Q (F0 m 33 ls []) := by
  have ⟨⟨hx, hb, hml, hown, hts⟩, hK, hA, hN⟩ := C
  intro x1 s H locs ls hX hl h
  rw [f_M_feed_33] at h
  refine lv_iconst (v := 0) hx hb d_M_feed_33 (by decide) ?_
  obtain ⟨hz, h⟩ := bz_e h
  obtain rfl := so1 h
  exact hQ _ H locs ls hX hz d_M_feed_34
set_option maxHeartbeats 4000000 in
set_option maxRecDepth 100000 in
theorem w_M_feed {z : Int32 × SM} (C : Cx g A p m c b_M_feed 2 ss args R_M) (hQ : ∀ (pc : Nat) (H : Heap) (locs : List Loc) (ls : Array Slot), XW g A ss (wM g z.2) H locs → (z.1 = 0 ∨ z.1 = 1) → decode b_M_feed pc = .ok (.ireturn, 1) → W p l e (rmX 0 0) ss m args below meth c H locs 0 0 Q (F0 m pc ls [.int z.1])) : ∀ (x1 : Int32) (s : SM) (H : Heap) (locs : List Loc) (ls : Array Slot), XW g A ss (wM g s) H locs → lv_has ls 2 [(0, .ref (g.q 60)), (1, .int x1)] → f_M_feed x1 s = some z → W p l e (rmX 0 0) ss m args below meth c H locs 0 0 Q (F0 m 0 ls []) := by
  have ⟨⟨hx, hb, hml, hown, hts⟩, hK, hA, hN⟩ := C
  intro x1 s H locs ls hX hl h
  rw [f_M_feed] at h
  refine lv_aload_n hx hb d_M_feed_0 rfl (lv_at hl 0 rfl) ?_
  refine lv_iconst (v := 0) hx hb d_M_feed_1 (by decide) ?_
  obtain ⟨s1, es1, h⟩ := lt1_e h
  refine pm_code C hX fl_M_120 d_M_feed_2 (fun H locs hX => ?_)
  rw [← es1] at hX
  refine lv_aload_n hx hb d_M_feed_5 rfl (lv_at hl 0 rfl) ?_
  refine gm_loaded C hX fl_M_127 d_M_feed_6 ?_
  refine lv_if_ne (tgt := 33) hx hb d_M_feed_9 (by decide) (fun c9 => ?_) (fun c9 => ?_)
  · have h := ite_f c9 h
    exact w_M_feed_33 C hQ x1 s1 H locs ls hX hl h
  · have h := ite_t c9 h
    refine lv_iload_n hx hb d_M_feed_12 rfl (lv_at hl 1 rfl) ?_
    refine lv_if_lt (tgt := 33) hx hb d_M_feed_13 (by decide) (fun c13 => ?_) (fun c13 => ?_)
    · have h := ite_t c13 h
      exact w_M_feed_33 C hQ x1 s1 H locs ls hX hl h
    · have h := ite_f c13 h
      refine lv_iload_n hx hb d_M_feed_16 rfl (lv_at hl 1 rfl) ?_
      refine lv_sipush (v := 255) hx hb d_M_feed_17 (by decide) ?_
      refine lv_icmp_gt (tgt := 33) hx hb d_M_feed_20 (by decide) (fun c20 => ?_) (fun c20 => ?_)
      · have h := ite_t c20 h
        exact w_M_feed_33 C hQ x1 s1 H locs ls hX hl h
      · have h := ite_f c20 h
        refine lv_aload_n hx hb d_M_feed_23 rfl (lv_at hl 0 rfl) ?_
        refine gm_fed C hX fl_M_124 d_M_feed_24 ?_
        refine lv_sipush (v := 240) hx hb d_M_feed_27 (by decide) ?_
        refine lv_icmp_ne (tgt := 35) hx hb d_M_feed_30 (by decide) (fun c30 => ?_) (fun c30 => ?_)
        · have h := ite_f c30 h
          refine lv_aload_n hx hb d_M_feed_35 rfl (lv_at hl 0 rfl) ?_
          refine gm_bytes C hX fl_M_7 d_M_feed_36 ?_
          refine lv_aload_n hx hb d_M_feed_39 rfl (lv_at hl 0 rfl) ?_
          refine gm_fed C hX fl_M_124 d_M_feed_40 ?_
          refine lv_iload_n hx hb d_M_feed_43 rfl (lv_at hl 1 rfl) ?_
          obtain ⟨hz44, h⟩ := gi_e h
          obtain ⟨s2, es2, h⟩ := lt1_e h
          refine asm_1 C hX hz44 d_M_feed_44 (fun H locs hX => ?_)
          rw [← es2] at hX
          refine lv_aload_n hx hb d_M_feed_45 rfl (lv_at hl 0 rfl) ?_
          refine lv_dup hx hb d_M_feed_46 rfl ?_
          refine gm_fed C hX fl_M_124 d_M_feed_47 ?_
          refine lv_iconst (v := 1) hx hb d_M_feed_50 (by decide) ?_
          obtain ⟨v3, ev3, h⟩ := lt1_e h
          refine x_iadd hx hb d_M_feed_51 ev3 ?_
          obtain ⟨s4, es4, h⟩ := lt1_e h
          refine pm_fed C hX fl_M_124 d_M_feed_52 (fun H locs hX => ?_)
          rw [← es4] at hX
          refine lv_iconst (v := 1) hx hb d_M_feed_55 (by decide) ?_
          obtain ⟨hz, h⟩ := bz_e h
          obtain rfl := so1 h
          exact hQ _ H locs ls hX hz d_M_feed_56
        · have h := ite_t c30 h
          exact w_M_feed_33 C hQ x1 s1 H locs ls hX hl h
end WALK
theorem c_M_feed (l : Launch) (g : GX) (x1 : Int32) (s : SM) (z : Int32 × SM) (h : f_M_feed x1 s = some z) : MI l g y_M_feed b_M_feed 2 (some .boolean) 0 0 [.ref (g.q 60), .int x1] (wM g s) z.1 (wM g z.2) :=
  MI.mkZ (own := R_M) (by decide) rfl (Nat.le_of_ble_eq_true rfl) fun p e ss m below meth c A Q C hQ ls hX hl => w_M_feed C hQ x1 s _ _ ls hX hl h
-- M_will
def f_M_will_16 (x1 : Int32) (x2 : Int32) (s : SM) : Option SM :=
    some s
def f_M_will (x1 : Int32) (x2 : Int32) (s : SM) : Option SM :=
    if s.1 0 5 = 0 then
      if x1 = 0 then
        lt1 (stI s 0 5 x2) fun s1 =>
        f_M_will_16 x1 x2 s1
      else
        f_M_will_16 x1 x2 s
    else
      f_M_will_16 x1 x2 s
section WALK
variable {p : Program} {l : Launch} {e : Env} {ss : State} {m : MethodId} {args : Array Value} {below : List Frame} {meth : Method} {c : Code} {Q : State → Prop} {g : GX} {A : Nat → Prop}
set_option maxHeartbeats 4000000 in
set_option maxRecDepth 100000 in
theorem w_M_will_16 {z : SM} (C : Cx g A p m c b_M_will 3 ss args R_M) (hQ : ∀ (pc : Nat) (H : Heap) (locs : List Loc) (ls : Array Slot), XW g A ss (wM g z) H locs → decode b_M_will pc = .ok (.return_, 1) → W p l e (rmX 0 0) ss m args below meth c H locs 0 0 Q (F0 m pc ls [])) : ∀ (x1 : Int32) (x2 : Int32) (s : SM) (H : Heap) (locs : List Loc) (ls : Array Slot), XW g A ss (wM g s) H locs → lv_has ls 3 [(0, .ref (g.q 60)), (1, .int x1), (2, .int x2)] → f_M_will_16 x1 x2 s = some z → W p l e (rmX 0 0) ss m args below meth c H locs 0 0 Q (F0 m 16 ls []) := by
  have ⟨⟨hx, hb, hml, hown, hts⟩, hK, hA, hN⟩ := C
  intro x1 x2 s H locs ls hX hl h
  rw [f_M_will_16] at h
  obtain rfl := so1 h
  exact hQ _ H locs ls hX d_M_will_16
set_option maxHeartbeats 4000000 in
set_option maxRecDepth 100000 in
theorem w_M_will {z : SM} (C : Cx g A p m c b_M_will 3 ss args R_M) (hQ : ∀ (pc : Nat) (H : Heap) (locs : List Loc) (ls : Array Slot), XW g A ss (wM g z) H locs → decode b_M_will pc = .ok (.return_, 1) → W p l e (rmX 0 0) ss m args below meth c H locs 0 0 Q (F0 m pc ls [])) : ∀ (x1 : Int32) (x2 : Int32) (s : SM) (H : Heap) (locs : List Loc) (ls : Array Slot), XW g A ss (wM g s) H locs → lv_has ls 3 [(0, .ref (g.q 60)), (1, .int x1), (2, .int x2)] → f_M_will x1 x2 s = some z → W p l e (rmX 0 0) ss m args below meth c H locs 0 0 Q (F0 m 0 ls []) := by
  have ⟨⟨hx, hb, hml, hown, hts⟩, hK, hA, hN⟩ := C
  intro x1 x2 s H locs ls hX hl h
  rw [f_M_will] at h
  refine lv_aload_n hx hb d_M_will_0 rfl (lv_at hl 0 rfl) ?_
  refine gm_wrong C hX fl_M_149 d_M_will_1 ?_
  refine lv_if_ne (tgt := 16) hx hb d_M_will_4 (by decide) (fun c4 => ?_) (fun c4 => ?_)
  · have h := ite_f c4 h
    exact w_M_will_16 C hQ x1 x2 s H locs ls hX hl h
  · have h := ite_t c4 h
    refine lv_iload_n hx hb d_M_will_7 rfl (lv_at hl 1 rfl) ?_
    refine lv_if_ne (tgt := 16) hx hb d_M_will_8 (by decide) (fun c8 => ?_) (fun c8 => ?_)
    · have h := ite_f c8 h
      exact w_M_will_16 C hQ x1 x2 s H locs ls hX hl h
    · have h := ite_t c8 h
      refine lv_aload_n hx hb d_M_will_11 rfl (lv_at hl 0 rfl) ?_
      refine lv_iload_n hx hb d_M_will_12 rfl (lv_at hl 2 rfl) ?_
      obtain ⟨s1, es1, h⟩ := lt1_e h
      refine pm_wrong C hX fl_M_149 d_M_will_13 (fun H locs hX => ?_)
      rw [← es1] at hX
      exact w_M_will_16 C hQ x1 x2 s1 H locs ls hX hl h
end WALK
theorem c_M_will (l : Launch) (g : GX) (x1 : Int32) (x2 : Int32) (s : SM) (z : SM) (h : f_M_will x1 x2 s = some z) : MV l g y_M_will b_M_will 3 none 0 0 [.ref (g.q 60), .int x1, .int x2] (wM g s) (wM g z) :=
  MV.mk (own := R_M) (by decide) rfl (Nat.le_of_ble_eq_true rfl) fun p e ss m below meth c A Q C hQ ls hX hl => w_M_will C hQ x1 x2 s _ _ ls hX hl h
-- M_next
def f_M_next_17 (y1 : Int32) (s : SM) : Option (Int32 × SM) :=
    bd1 (f_M_will y1 1 s) fun s1 =>
    if s1.1 0 5 ≤ 0 then
      lt1 (s1.1 0 3 + 1) fun v2 =>
      lt1 (stI s1 0 3 v2) fun s3 =>
      lt1 (s3.1 0 3 - 1) fun v4 =>
      gi v4 240 <|
      lt1 (s3.1 1 (Int32.toNatClampNeg v4)) fun v5 =>
      some (v5, s3)
    else
      some (0, s1)
def f_M_next (s : SM) : Option (Int32 × SM) :=
    if s.1 0 4 ≤ s.1 0 3 then
      f_M_next_17 0 s
    else
      f_M_next_17 1 s
section WALK
variable {p : Program} {l : Launch} {e : Env} {ss : State} {m : MethodId} {args : Array Value} {below : List Frame} {meth : Method} {c : Code} {Q : State → Prop} {g : GX} {A : Nat → Prop}
set_option maxHeartbeats 4000000 in
set_option maxRecDepth 100000 in
theorem w_M_next_17 {z : Int32 × SM} (C : Cx g A p m c b_M_next 1 ss args R_M) (hQ : ∀ (pc : Nat) (H : Heap) (locs : List Loc) (ls : Array Slot), XW g A ss (wM g z.2) H locs → decode b_M_next pc = .ok (.ireturn, 1) → W p l e (rmX 1 22) ss m args below meth c H locs 0 0 Q (F0 m pc ls [.int z.1])) : ∀ (y1 : Int32) (s : SM) (H : Heap) (locs : List Loc) (ls : Array Slot), XW g A ss (wM g s) H locs → lv_has ls 1 [(0, .ref (g.q 60))] → f_M_next_17 y1 s = some z → W p l e (rmX 1 22) ss m args below meth c H locs 0 0 Q (F0 m 17 ls [.int y1, .ref (g.q 60)]) := by
  have ⟨⟨hx, hb, hml, hown, hts⟩, hK, hA, hN⟩ := C
  intro y1 s H locs ls hX hl h
  rw [f_M_next_17] at h
  refine lv_iconst (v := 1) hx hb d_M_next_17 (by decide) ?_
  obtain ⟨s1, hc18, h⟩ := bd1_e h
  refine x_vV (As := [.int y1, .int 1]) (rest := []) C hX (c_M_will l g y1 1 s s1 hc18) (cw_M_158 C.1.2.2.2.2 C.2.2.2 ⟨by decide, by decide⟩) (x_rc C hX vg_0 rfl) rfl hl.1 rfl (lv_room (Nat.le_of_ble_eq_true rfl)) d_M_next_18 ⟨Nat.le_refl _, Nat.le_refl _⟩ (fun H locs hX => ?_)
  refine lv_aload_n hx hb d_M_next_21 rfl (lv_at hl 0 rfl) ?_
  refine gm_wrong C hX fl_M_149 d_M_next_22 ?_
  refine lv_if_le (tgt := 30) hx hb d_M_next_25 (by decide) (fun c25 => ?_) (fun c25 => ?_)
  · have h := ite_t c25 h
    refine lv_aload_n hx hb d_M_next_30 rfl (lv_at hl 0 rfl) ?_
    refine lv_dup hx hb d_M_next_31 rfl ?_
    refine gm_at C hX fl_M_152 d_M_next_32 ?_
    refine lv_iconst (v := 1) hx hb d_M_next_35 (by decide) ?_
    obtain ⟨v2, ev2, h⟩ := lt1_e h
    refine x_iadd hx hb d_M_next_36 ev2 ?_
    obtain ⟨s3, es3, h⟩ := lt1_e h
    refine pm_at C hX fl_M_152 d_M_next_37 (fun H locs hX => ?_)
    rw [← es3] at hX
    refine lv_aload_n hx hb d_M_next_40 rfl (lv_at hl 0 rfl) ?_
    refine gm_bytes C hX fl_M_7 d_M_next_41 ?_
    refine lv_aload_n hx hb d_M_next_44 rfl (lv_at hl 0 rfl) ?_
    refine gm_at C hX fl_M_152 d_M_next_45 ?_
    refine lv_iconst (v := 1) hx hb d_M_next_48 (by decide) ?_
    obtain ⟨v4, ev4, h⟩ := lt1_e h
    refine x_isub hx hb d_M_next_49 ev4 ?_
    obtain ⟨hz50, h⟩ := gi_e h
    obtain ⟨v5, ev5, h⟩ := lt1_e h
    refine alm_1 C hX hz50 d_M_next_50 ev5 ?_
    obtain rfl := so1 h
    exact hQ _ H locs ls hX d_M_next_51
  · have h := ite_f c25 h
    refine lv_iconst (v := 0) hx hb d_M_next_28 (by decide) ?_
    obtain rfl := so1 h
    exact hQ _ H locs ls hX d_M_next_29
set_option maxHeartbeats 4000000 in
set_option maxRecDepth 100000 in
theorem w_M_next {z : Int32 × SM} (C : Cx g A p m c b_M_next 1 ss args R_M) (hQ : ∀ (pc : Nat) (H : Heap) (locs : List Loc) (ls : Array Slot), XW g A ss (wM g z.2) H locs → decode b_M_next pc = .ok (.ireturn, 1) → W p l e (rmX 1 22) ss m args below meth c H locs 0 0 Q (F0 m pc ls [.int z.1])) : ∀ (s : SM) (H : Heap) (locs : List Loc) (ls : Array Slot), XW g A ss (wM g s) H locs → lv_has ls 1 [(0, .ref (g.q 60))] → f_M_next s = some z → W p l e (rmX 1 22) ss m args below meth c H locs 0 0 Q (F0 m 0 ls []) := by
  have ⟨⟨hx, hb, hml, hown, hts⟩, hK, hA, hN⟩ := C
  intro s H locs ls hX hl h
  rw [f_M_next] at h
  refine lv_aload_n hx hb d_M_next_0 rfl (lv_at hl 0 rfl) ?_
  refine lv_aload_n hx hb d_M_next_1 rfl (lv_at hl 0 rfl) ?_
  refine gm_at C hX fl_M_152 d_M_next_2 ?_
  refine lv_aload_n hx hb d_M_next_5 rfl (lv_at hl 0 rfl) ?_
  refine gm_limit C hX fl_M_155 d_M_next_6 ?_
  refine lv_icmp_ge (tgt := 16) hx hb d_M_next_9 (by decide) (fun c9 => ?_) (fun c9 => ?_)
  · have h := ite_t c9 h
    refine lv_iconst (v := 0) hx hb d_M_next_16 (by decide) ?_
    exact w_M_next_17 C hQ 0 s H locs ls hX hl h
  · have h := ite_f c9 h
    refine lv_iconst (v := 1) hx hb d_M_next_12 (by decide) ?_
    refine lv_goto (tgt := 17) hx hb d_M_next_13 (by decide) ?_
    exact w_M_next_17 C hQ 1 s H locs ls hX hl h
end WALK
theorem c_M_next (l : Launch) (g : GX) (s : SM) (z : Int32 × SM) (h : f_M_next s = some z) : MI l g y_M_next b_M_next 1 (some .int) 1 22 [.ref (g.q 60)] (wM g s) z.1 (wM g z.2) :=
  MI.mk (own := R_M) (by decide) rfl (Nat.le_of_ble_eq_true rfl) fun p e ss m below meth c A Q C hQ ls hX hl => w_M_next C hQ s _ _ ls hX hl h
-- M_exactly
def f_M_exactly_16 (x1 : Int32) (x2 : Int32) (y1 : Int32) (s : SM) : Option SM :=
    bd1 (f_M_will y1 1 s) fun s1 =>
    some s1
def f_M_exactly (x1 : Int32) (s : SM) : Option SM :=
    bd (f_M_next s) fun r2 s1 =>
    if r2 = x1 then
      f_M_exactly_16 x1 r2 1 s1
    else
      f_M_exactly_16 x1 r2 0 s1
section WALK
variable {p : Program} {l : Launch} {e : Env} {ss : State} {m : MethodId} {args : Array Value} {below : List Frame} {meth : Method} {c : Code} {Q : State → Prop} {g : GX} {A : Nat → Prop}
set_option maxHeartbeats 4000000 in
set_option maxRecDepth 100000 in
theorem w_M_exactly_16 {z : SM} (C : Cx g A p m c b_M_exactly 3 ss args R_M) (hQ : ∀ (pc : Nat) (H : Heap) (locs : List Loc) (ls : Array Slot), XW g A ss (wM g z) H locs → decode b_M_exactly pc = .ok (.return_, 1) → W p l e (rmX 2 42) ss m args below meth c H locs 0 0 Q (F0 m pc ls [])) : ∀ (x1 : Int32) (x2 : Int32) (y1 : Int32) (s : SM) (H : Heap) (locs : List Loc) (ls : Array Slot), XW g A ss (wM g s) H locs → lv_has ls 3 [(0, .ref (g.q 60)), (1, .int x1), (2, .int x2)] → f_M_exactly_16 x1 x2 y1 s = some z → W p l e (rmX 2 42) ss m args below meth c H locs 0 0 Q (F0 m 16 ls [.int y1, .ref (g.q 60)]) := by
  have ⟨⟨hx, hb, hml, hown, hts⟩, hK, hA, hN⟩ := C
  intro x1 x2 y1 s H locs ls hX hl h
  rw [f_M_exactly_16] at h
  refine lv_iconst (v := 1) hx hb d_M_exactly_16 (by decide) ?_
  obtain ⟨s1, hc17, h⟩ := bd1_e h
  refine x_vV (As := [.int y1, .int 1]) (rest := []) C hX (c_M_will l g y1 1 s s1 hc17) (cw_M_158 C.1.2.2.2.2 C.2.2.2 ⟨by decide, by decide⟩) (x_rc C hX vg_0 rfl) rfl hl.1 rfl (lv_room (Nat.le_of_ble_eq_true rfl)) d_M_exactly_17 ⟨Nat.le_refl _, Nat.le_refl _⟩ (fun H locs hX => ?_)
  obtain rfl := so1 h
  exact hQ _ H locs ls hX d_M_exactly_20
set_option maxHeartbeats 4000000 in
set_option maxRecDepth 100000 in
theorem w_M_exactly {z : SM} (C : Cx g A p m c b_M_exactly 3 ss args R_M) (hQ : ∀ (pc : Nat) (H : Heap) (locs : List Loc) (ls : Array Slot), XW g A ss (wM g z) H locs → decode b_M_exactly pc = .ok (.return_, 1) → W p l e (rmX 2 42) ss m args below meth c H locs 0 0 Q (F0 m pc ls [])) : ∀ (x1 : Int32) (s : SM) (H : Heap) (locs : List Loc) (ls : Array Slot), XW g A ss (wM g s) H locs → lv_has ls 3 [(0, .ref (g.q 60)), (1, .int x1)] → f_M_exactly x1 s = some z → W p l e (rmX 2 42) ss m args below meth c H locs 0 0 Q (F0 m 0 ls []) := by
  have ⟨⟨hx, hb, hml, hown, hts⟩, hK, hA, hN⟩ := C
  intro x1 s H locs ls hX hl h
  rw [f_M_exactly] at h
  refine lv_aload_n hx hb d_M_exactly_0 rfl (lv_at hl 0 rfl) ?_
  obtain ⟨r2, s1, hc1, h⟩ := bd_e h
  refine x_vI (As := []) (rest := []) C hX (c_M_next l g s (r2, s1) hc1) (cw_M_162 C.1.2.2.2.2 C.2.2.2 ⟨by decide, by decide⟩) (x_rc C hX vg_0 rfl) rfl hl.1 rfl (lv_room (Nat.le_of_ble_eq_true rfl)) d_M_exactly_1 ⟨Nat.le_refl _, Nat.le_refl _⟩ (fun H locs hX => ?_)
  refine lv_istore_n (lv' := [(2, .int r2), (0, .ref (g.q 60)), (1, .int x1)]) hx hb d_M_exactly_4 rfl hl (by decide) rfl (fun ls hl => ?_)
  refine lv_aload_n hx hb d_M_exactly_5 rfl (lv_at hl 1 rfl) ?_
  refine lv_iload_n hx hb d_M_exactly_6 rfl (lv_at hl 0 rfl) ?_
  refine lv_iload_n hx hb d_M_exactly_7 rfl (lv_at hl 2 rfl) ?_
  refine lv_icmp_ne (tgt := 15) hx hb d_M_exactly_8 (by decide) (fun c8 => ?_) (fun c8 => ?_)
  · have h := ite_f c8 h
    refine lv_iconst (v := 0) hx hb d_M_exactly_15 (by decide) ?_
    exact w_M_exactly_16 C hQ x1 r2 0 s1 H locs ls hX (lv_sub hl [1, 2, 0] rfl) h
  · have h := ite_t c8 h
    refine lv_iconst (v := 1) hx hb d_M_exactly_11 (by decide) ?_
    refine lv_goto (tgt := 16) hx hb d_M_exactly_12 (by decide) ?_
    exact w_M_exactly_16 C hQ x1 r2 1 s1 H locs ls hX (lv_sub hl [1, 2, 0] rfl) h
end WALK
theorem c_M_exactly (l : Launch) (g : GX) (x1 : Int32) (s : SM) (z : SM) (h : f_M_exactly x1 s = some z) : MV l g y_M_exactly b_M_exactly 3 none 2 42 [.ref (g.q 60), .int x1] (wM g s) (wM g z) :=
  MV.mk (own := R_M) (by decide) rfl (Nat.le_of_ble_eq_true rfl) fun p e ss m below meth c A Q C hQ ls hX hl => w_M_exactly C hQ x1 s _ _ ls hX hl h
-- M_unsigned
def f_M_unsigned_87 (x1 : Int64) (x3 : Int32) (x4 : Int32) (s : SM) : Option (Int64 × SM) :=
    some (x1, s)
def f_M_unsigned_80 (k7 : Int64 → Int32 → Int32 → SM → Option (Int64 × SM)) (x1 : Int64) (x3 : Int32) (x4 : Int32) (x5 : Int32) (y0 : Int32) (s : SM) : Option (Int64 × SM) :=
    lt1 (x4 + (1)) fun v1 =>
    k7 x1 y0 v1 s
def f_M_unsigned_49 (k7 : Int64 → Int32 → Int32 → SM → Option (Int64 × SM)) (x1 : Int64) (x3 : Int32) (x4 : Int32) (x5 : Int32) (y1 : Int32) (s : SM) : Option (Int64 × SM) :=
    bd1 (f_M_will y1 1 s) fun s1 =>
    lt1 (x5 &&& 127) fun v2 =>
    lt1 (Int32.toInt64 v2) fun v3 =>
    lt1 (7 * x4) fun v4 =>
    lt1 (v3 <<< (Int32.toInt64 v4 &&& 63)) fun v5 =>
    lt1 (x1 ||| v5) fun v6 =>
    if x5 ≤ 127 then
      f_M_unsigned_80 k7 v6 x3 x4 x5 0 s1
    else
      f_M_unsigned_80 k7 v6 x3 x4 x5 1 s1
def f_M_unsigned_44 (k7 : Int64 → Int32 → Int32 → SM → Option (Int64 × SM)) (x1 : Int64) (x3 : Int32) (x4 : Int32) (x5 : Int32) (s : SM) : Option (Int64 × SM) :=
    f_M_unsigned_49 k7 x1 x3 x4 x5 1 s
def f_M_unsigned_7 : Nat → Int64 → Int32 → Int32 → SM → Option (Int64 × SM)
  | 0, _, _, _, _ => none
  | n + 1, x1, x3, x4, s =>
    if 5 ≤ x4 then
      f_M_unsigned_87 x1 x3 x4 s
    else
      if x3 = 0 then
        f_M_unsigned_87 x1 x3 x4 s
      else
        if s.1 0 5 = 0 then
          bd (f_M_next s) fun r2 s1 =>
          if x4 < 4 then
            f_M_unsigned_44 (f_M_unsigned_7 n) x1 x3 x4 r2 s1
          else
            if 16 ≤ r2 then
              f_M_unsigned_49 (f_M_unsigned_7 n) x1 x3 x4 r2 0 s1
            else
              f_M_unsigned_44 (f_M_unsigned_7 n) x1 x3 x4 r2 s1
        else
          f_M_unsigned_87 x1 x3 x4 s
def f_M_unsigned (s : SM) : Option (Int64 × SM) :=
    f_M_unsigned_7 FU 0 1 0 s
section WALK
variable {p : Program} {l : Launch} {e : Env} {ss : State} {m : MethodId} {args : Array Value} {below : List Frame} {meth : Method} {c : Code} {Q : State → Prop} {g : GX} {A : Nat → Prop}
set_option maxHeartbeats 4000000 in
set_option maxRecDepth 100000 in
theorem w_M_unsigned_87 {z : Int64 × SM} (C : Cx g A p m c b_M_unsigned 6 ss args R_M) (hQ : ∀ (pc : Nat) (H : Heap) (locs : List Loc) (ls : Array Slot), XW g A ss (wM g z.2) H locs → decode b_M_unsigned pc = .ok (.lreturn, 1) → W p l e (rmX 2 42) ss m args below meth c H locs 0 0 Q (F0 m pc ls [.long z.1])) : ∀ (x1 : Int64) (x3 : Int32) (x4 : Int32) (s : SM) (H : Heap) (locs : List Loc) (ls : Array Slot), XW g A ss (wM g s) H locs → lv_has ls 6 [(0, .ref (g.q 60)), (1, .long x1), (3, .int x3), (4, .int x4)] → f_M_unsigned_87 x1 x3 x4 s = some z → W p l e (rmX 2 42) ss m args below meth c H locs 0 0 Q (F0 m 87 ls []) := by
  have ⟨⟨hx, hb, hml, hown, hts⟩, hK, hA, hN⟩ := C
  intro x1 x3 x4 s H locs ls hX hl h
  rw [f_M_unsigned_87] at h
  refine lv_lload_n hx hb d_M_unsigned_87 rfl (lv_at hl 1 rfl) ?_
  obtain rfl := so1 h
  exact hQ _ H locs ls hX d_M_unsigned_88
set_option maxHeartbeats 4000000 in
set_option maxRecDepth 100000 in
theorem w_M_unsigned_80 {z : Int64 × SM} (C : Cx g A p m c b_M_unsigned 6 ss args R_M) (hQ : ∀ (pc : Nat) (H : Heap) (locs : List Loc) (ls : Array Slot), XW g A ss (wM g z.2) H locs → decode b_M_unsigned pc = .ok (.lreturn, 1) → W p l e (rmX 2 42) ss m args below meth c H locs 0 0 Q (F0 m pc ls [.long z.1])) (k7 : Int64 → Int32 → Int32 → SM → Option (Int64 × SM)) (hk7 : ∀ (x1 : Int64) (x3 : Int32) (x4 : Int32) (s : SM) (H : Heap) (locs : List Loc) (ls : Array Slot), XW g A ss (wM g s) H locs → lv_has ls 6 [(0, .ref (g.q 60)), (1, .long x1), (3, .int x3), (4, .int x4)] → k7 x1 x3 x4 s = some z → W p l e (rmX 2 42) ss m args below meth c H locs 0 0 Q (F0 m 7 ls [])) : ∀ (x1 : Int64) (x3 : Int32) (x4 : Int32) (x5 : Int32) (y0 : Int32) (s : SM) (H : Heap) (locs : List Loc) (ls : Array Slot), XW g A ss (wM g s) H locs → lv_has ls 6 [(0, .ref (g.q 60)), (1, .long x1), (3, .int x3), (4, .int x4), (5, .int x5)] → f_M_unsigned_80 k7 x1 x3 x4 x5 y0 s = some z → W p l e (rmX 2 42) ss m args below meth c H locs 0 0 Q (F0 m 80 ls [.int y0]) := by
  have ⟨⟨hx, hb, hml, hown, hts⟩, hK, hA, hN⟩ := C
  intro x1 x3 x4 x5 y0 s H locs ls hX hl h
  rw [f_M_unsigned_80] at h
  refine lv_istore_n (lv' := [(3, .int y0), (0, .ref (g.q 60)), (1, .long x1), (4, .int x4), (5, .int x5)]) hx hb d_M_unsigned_80 rfl hl (by decide) rfl (fun ls hl => ?_)
  obtain ⟨v1, ev1, h⟩ := lt1_e h
  refine lv_iinc (v := v1) (lv' := [(4, .int v1), (3, .int y0), (0, .ref (g.q 60)), (1, .long x1), (5, .int x5)]) hx hb d_M_unsigned_81 hl (k := 3) rfl (by rw [ev1]; rfl) (by decide) rfl (fun ls hl => ?_)
  refine lv_goto (tgt := 7) hx hb d_M_unsigned_84 (by decide) ?_
  exact hk7 x1 y0 v1 s H locs ls hX (lv_sub hl [2, 3, 1, 0] rfl) h
set_option maxHeartbeats 4000000 in
set_option maxRecDepth 100000 in
theorem w_M_unsigned_49 {z : Int64 × SM} (C : Cx g A p m c b_M_unsigned 6 ss args R_M) (hQ : ∀ (pc : Nat) (H : Heap) (locs : List Loc) (ls : Array Slot), XW g A ss (wM g z.2) H locs → decode b_M_unsigned pc = .ok (.lreturn, 1) → W p l e (rmX 2 42) ss m args below meth c H locs 0 0 Q (F0 m pc ls [.long z.1])) (k7 : Int64 → Int32 → Int32 → SM → Option (Int64 × SM)) (hk7 : ∀ (x1 : Int64) (x3 : Int32) (x4 : Int32) (s : SM) (H : Heap) (locs : List Loc) (ls : Array Slot), XW g A ss (wM g s) H locs → lv_has ls 6 [(0, .ref (g.q 60)), (1, .long x1), (3, .int x3), (4, .int x4)] → k7 x1 x3 x4 s = some z → W p l e (rmX 2 42) ss m args below meth c H locs 0 0 Q (F0 m 7 ls [])) : ∀ (x1 : Int64) (x3 : Int32) (x4 : Int32) (x5 : Int32) (y1 : Int32) (s : SM) (H : Heap) (locs : List Loc) (ls : Array Slot), XW g A ss (wM g s) H locs → lv_has ls 6 [(0, .ref (g.q 60)), (1, .long x1), (3, .int x3), (4, .int x4), (5, .int x5)] → f_M_unsigned_49 k7 x1 x3 x4 x5 y1 s = some z → W p l e (rmX 2 42) ss m args below meth c H locs 0 0 Q (F0 m 49 ls [.int y1, .ref (g.q 60)]) := by
  have ⟨⟨hx, hb, hml, hown, hts⟩, hK, hA, hN⟩ := C
  intro x1 x3 x4 x5 y1 s H locs ls hX hl h
  rw [f_M_unsigned_49] at h
  refine lv_iconst (v := 1) hx hb d_M_unsigned_49 (by decide) ?_
  obtain ⟨s1, hc50, h⟩ := bd1_e h
  refine x_vV (As := [.int y1, .int 1]) (rest := []) C hX (c_M_will l g y1 1 s s1 hc50) (cw_M_158 C.1.2.2.2.2 C.2.2.2 ⟨by decide, by decide⟩) (x_rc C hX vg_0 rfl) rfl hl.1 rfl (lv_room (Nat.le_of_ble_eq_true rfl)) d_M_unsigned_50 ⟨Nat.le_refl _, Nat.le_refl _⟩ (fun H locs hX => ?_)
  refine lv_lload_n hx hb d_M_unsigned_53 rfl (lv_at hl 1 rfl) ?_
  refine lv_iload hx hb d_M_unsigned_54 (lv_at hl 4 rfl) ?_
  refine lv_bipush (v := 127) hx hb d_M_unsigned_56 (by decide) ?_
  obtain ⟨v2, ev2, h⟩ := lt1_e h
  refine x_iand hx hb d_M_unsigned_58 ev2 ?_
  obtain ⟨v3, ev3, h⟩ := lt1_e h
  refine lv_i2l hx hb d_M_unsigned_59 ev3.symm ?_
  refine lv_bipush (v := 7) hx hb d_M_unsigned_60 (by decide) ?_
  refine lv_iload hx hb d_M_unsigned_62 (lv_at hl 3 rfl) ?_
  obtain ⟨v4, ev4, h⟩ := lt1_e h
  refine x_imul hx hb d_M_unsigned_64 ev4 ?_
  obtain ⟨v5, ev5, h⟩ := lt1_e h
  refine lv_lshl hx hb d_M_unsigned_65 ev5.symm ?_
  obtain ⟨v6, ev6, h⟩ := lt1_e h
  refine x_lor hx hb d_M_unsigned_66 ev6 ?_
  refine lv_lstore_n (lv' := [(1, .long v6), (0, .ref (g.q 60)), (3, .int x3), (4, .int x4), (5, .int x5)]) hx hb d_M_unsigned_67 rfl hl (by decide) rfl (fun ls hl => ?_)
  refine lv_iload hx hb d_M_unsigned_68 (lv_at hl 4 rfl) ?_
  refine lv_bipush (v := 127) hx hb d_M_unsigned_70 (by decide) ?_
  refine lv_icmp_le (tgt := 79) hx hb d_M_unsigned_72 (by decide) (fun c72 => ?_) (fun c72 => ?_)
  · have h := ite_t c72 h
    refine lv_iconst (v := 0) hx hb d_M_unsigned_79 (by decide) ?_
    exact w_M_unsigned_80 C hQ k7 hk7 v6 x3 x4 x5 0 s1 H locs ls hX (lv_sub hl [1, 0, 2, 3, 4] rfl) h
  · have h := ite_f c72 h
    refine lv_iconst (v := 1) hx hb d_M_unsigned_75 (by decide) ?_
    refine lv_goto (tgt := 80) hx hb d_M_unsigned_76 (by decide) ?_
    exact w_M_unsigned_80 C hQ k7 hk7 v6 x3 x4 x5 1 s1 H locs ls hX (lv_sub hl [1, 0, 2, 3, 4] rfl) h
set_option maxHeartbeats 4000000 in
set_option maxRecDepth 100000 in
theorem w_M_unsigned_44 {z : Int64 × SM} (C : Cx g A p m c b_M_unsigned 6 ss args R_M) (hQ : ∀ (pc : Nat) (H : Heap) (locs : List Loc) (ls : Array Slot), XW g A ss (wM g z.2) H locs → decode b_M_unsigned pc = .ok (.lreturn, 1) → W p l e (rmX 2 42) ss m args below meth c H locs 0 0 Q (F0 m pc ls [.long z.1])) (k7 : Int64 → Int32 → Int32 → SM → Option (Int64 × SM)) (hk7 : ∀ (x1 : Int64) (x3 : Int32) (x4 : Int32) (s : SM) (H : Heap) (locs : List Loc) (ls : Array Slot), XW g A ss (wM g s) H locs → lv_has ls 6 [(0, .ref (g.q 60)), (1, .long x1), (3, .int x3), (4, .int x4)] → k7 x1 x3 x4 s = some z → W p l e (rmX 2 42) ss m args below meth c H locs 0 0 Q (F0 m 7 ls [])) : ∀ (x1 : Int64) (x3 : Int32) (x4 : Int32) (x5 : Int32) (s : SM) (H : Heap) (locs : List Loc) (ls : Array Slot), XW g A ss (wM g s) H locs → lv_has ls 6 [(0, .ref (g.q 60)), (1, .long x1), (3, .int x3), (4, .int x4), (5, .int x5)] → f_M_unsigned_44 k7 x1 x3 x4 x5 s = some z → W p l e (rmX 2 42) ss m args below meth c H locs 0 0 Q (F0 m 44 ls [.ref (g.q 60)]) := by
  have ⟨⟨hx, hb, hml, hown, hts⟩, hK, hA, hN⟩ := C
  intro x1 x3 x4 x5 s H locs ls hX hl h
  rw [f_M_unsigned_44] at h
  refine lv_iconst (v := 1) hx hb d_M_unsigned_44 (by decide) ?_
  refine lv_goto (tgt := 49) hx hb d_M_unsigned_45 (by decide) ?_
  exact w_M_unsigned_49 C hQ k7 hk7 x1 x3 x4 x5 1 s H locs ls hX hl h
set_option maxHeartbeats 4000000 in
set_option maxRecDepth 100000 in
theorem w_M_unsigned_7 {z : Int64 × SM} (C : Cx g A p m c b_M_unsigned 6 ss args R_M) (hQ : ∀ (pc : Nat) (H : Heap) (locs : List Loc) (ls : Array Slot), XW g A ss (wM g z.2) H locs → decode b_M_unsigned pc = .ok (.lreturn, 1) → W p l e (rmX 2 42) ss m args below meth c H locs 0 0 Q (F0 m pc ls [.long z.1])) (n : Nat) : ∀ (x1 : Int64) (x3 : Int32) (x4 : Int32) (s : SM) (H : Heap) (locs : List Loc) (ls : Array Slot), XW g A ss (wM g s) H locs → lv_has ls 6 [(0, .ref (g.q 60)), (1, .long x1), (3, .int x3), (4, .int x4)] → f_M_unsigned_7 n x1 x3 x4 s = some z → W p l e (rmX 2 42) ss m args below meth c H locs 0 0 Q (F0 m 7 ls []) := by
  have ⟨⟨hx, hb, hml, hown, hts⟩, hK, hA, hN⟩ := C
  induction n with
  | zero => intro x1 x3 x4 s H locs ls hX hl h; cases h
  | succ n ih =>
    intro x1 x3 x4 s H locs ls hX hl h
    rw [f_M_unsigned_7] at h
    refine lv_iload hx hb d_M_unsigned_7 (lv_at hl 3 rfl) ?_
    refine lv_iconst (v := 5) hx hb d_M_unsigned_9 (by decide) ?_
    refine lv_icmp_ge (tgt := 87) hx hb d_M_unsigned_10 (by decide) (fun c10 => ?_) (fun c10 => ?_)
    · have h := ite_t c10 h
      exact w_M_unsigned_87 C hQ x1 x3 x4 s H locs ls hX hl h
    · have h := ite_f c10 h
      refine lv_iload_n hx hb d_M_unsigned_13 rfl (lv_at hl 2 rfl) ?_
      refine lv_if_eq (tgt := 87) hx hb d_M_unsigned_14 (by decide) (fun c14 => ?_) (fun c14 => ?_)
      · have h := ite_t c14 h
        exact w_M_unsigned_87 C hQ x1 x3 x4 s H locs ls hX hl h
      · have h := ite_f c14 h
        refine lv_aload_n hx hb d_M_unsigned_17 rfl (lv_at hl 0 rfl) ?_
        refine gm_wrong C hX fl_M_149 d_M_unsigned_18 ?_
        refine lv_if_ne (tgt := 87) hx hb d_M_unsigned_21 (by decide) (fun c21 => ?_) (fun c21 => ?_)
        · have h := ite_f c21 h
          exact w_M_unsigned_87 C hQ x1 x3 x4 s H locs ls hX hl h
        · have h := ite_t c21 h
          refine lv_aload_n hx hb d_M_unsigned_24 rfl (lv_at hl 0 rfl) ?_
          obtain ⟨r2, s1, hc25, h⟩ := bd_e h
          refine x_vI (As := []) (rest := []) C hX (c_M_next l g s (r2, s1) hc25) (cw_M_162 C.1.2.2.2.2 C.2.2.2 ⟨by decide, by decide⟩) (x_rc C hX vg_0 rfl) rfl hl.1 rfl (lv_room (Nat.le_of_ble_eq_true rfl)) d_M_unsigned_25 ⟨Nat.le_refl _, Nat.le_refl _⟩ (fun H locs hX => ?_)
          refine lv_istore (lv' := [(5, .int r2), (0, .ref (g.q 60)), (1, .long x1), (3, .int x3), (4, .int x4)]) hx hb d_M_unsigned_28 hl (by decide) rfl (fun ls hl => ?_)
          refine lv_aload_n hx hb d_M_unsigned_30 rfl (lv_at hl 1 rfl) ?_
          refine lv_iload hx hb d_M_unsigned_31 (lv_at hl 4 rfl) ?_
          refine lv_iconst (v := 4) hx hb d_M_unsigned_33 (by decide) ?_
          refine lv_icmp_lt (tgt := 44) hx hb d_M_unsigned_34 (by decide) (fun c34 => ?_) (fun c34 => ?_)
          · have h := ite_t c34 h
            exact w_M_unsigned_44 C hQ (f_M_unsigned_7 n) ih x1 x3 x4 r2 s1 H locs ls hX (lv_sub hl [1, 2, 3, 4, 0] rfl) h
          · have h := ite_f c34 h
            refine lv_iload hx hb d_M_unsigned_37 (lv_at hl 0 rfl) ?_
            refine lv_bipush (v := 16) hx hb d_M_unsigned_39 (by decide) ?_
            refine lv_icmp_ge (tgt := 48) hx hb d_M_unsigned_41 (by decide) (fun c41 => ?_) (fun c41 => ?_)
            · have h := ite_t c41 h
              refine lv_iconst (v := 0) hx hb d_M_unsigned_48 (by decide) ?_
              exact w_M_unsigned_49 C hQ (f_M_unsigned_7 n) ih x1 x3 x4 r2 0 s1 H locs ls hX (lv_sub hl [1, 2, 3, 4, 0] rfl) h
            · have h := ite_f c41 h
              exact w_M_unsigned_44 C hQ (f_M_unsigned_7 n) ih x1 x3 x4 r2 s1 H locs ls hX (lv_sub hl [1, 2, 3, 4, 0] rfl) h
set_option maxHeartbeats 4000000 in
set_option maxRecDepth 100000 in
theorem w_M_unsigned {z : Int64 × SM} (C : Cx g A p m c b_M_unsigned 6 ss args R_M) (hQ : ∀ (pc : Nat) (H : Heap) (locs : List Loc) (ls : Array Slot), XW g A ss (wM g z.2) H locs → decode b_M_unsigned pc = .ok (.lreturn, 1) → W p l e (rmX 2 42) ss m args below meth c H locs 0 0 Q (F0 m pc ls [.long z.1])) : ∀ (s : SM) (H : Heap) (locs : List Loc) (ls : Array Slot), XW g A ss (wM g s) H locs → lv_has ls 6 [(0, .ref (g.q 60))] → f_M_unsigned s = some z → W p l e (rmX 2 42) ss m args below meth c H locs 0 0 Q (F0 m 0 ls []) := by
  have ⟨⟨hx, hb, hml, hown, hts⟩, hK, hA, hN⟩ := C
  intro s H locs ls hX hl h
  rw [f_M_unsigned] at h
  refine lv_lconst (v := 0) hx hb d_M_unsigned_0 (by decide) ?_
  refine lv_lstore_n (lv' := [(1, .long 0), (0, .ref (g.q 60))]) hx hb d_M_unsigned_1 rfl hl (by decide) rfl (fun ls hl => ?_)
  refine lv_iconst (v := 1) hx hb d_M_unsigned_2 (by decide) ?_
  refine lv_istore_n (lv' := [(3, .int 1), (1, .long 0), (0, .ref (g.q 60))]) hx hb d_M_unsigned_3 rfl hl (by decide) rfl (fun ls hl => ?_)
  refine lv_iconst (v := 0) hx hb d_M_unsigned_4 (by decide) ?_
  refine lv_istore (lv' := [(4, .int 0), (3, .int 1), (1, .long 0), (0, .ref (g.q 60))]) hx hb d_M_unsigned_5 hl (by decide) rfl (fun ls hl => ?_)
  exact w_M_unsigned_7 C hQ FU 0 1 0 s H locs ls hX (lv_sub hl [3, 2, 1, 0] rfl) h
end WALK
theorem c_M_unsigned (l : Launch) (g : GX) (s : SM) (z : Int64 × SM) (h : f_M_unsigned s = some z) : ML l g y_M_unsigned b_M_unsigned 6 (some .long) 2 42 [.ref (g.q 60)] (wM g s) z.1 (wM g z.2) :=
  ML.mk (own := R_M) (by decide) rfl (Nat.le_of_ble_eq_true rfl) fun p e ss m below meth c A Q C hQ ls hX hl => w_M_unsigned C hQ s _ _ ls hX hl h
-- M_ahead
def f_M_ahead_51 (x1 : Int64) (y0 : Int32) (s : SM) : Option (Int32 × SM) :=
    some (y0, s)
def f_M_ahead_26 (x1 : Int64) (y1 : Int32) (s : SM) : Option (Int32 × SM) :=
    bd1 (f_M_will y1 1 s) fun s1 =>
    if s1.1 0 5 ≤ 0 then
      lt1 (Int64.toInt32 x1) fun v2 =>
      lt1 (s1.1 0 3 + v2) fun v3 =>
      f_M_ahead_51 x1 v3 s1
    else
      f_M_ahead_51 x1 (s1.1 0 4) s1
def f_M_ahead (s : SM) : Option (Int32 × SM) :=
    bd (f_M_unsigned s) fun r2 s1 =>
    lt1 (s1.1 0 4 - s1.1 0 3) fun v3 =>
    lt1 (Int32.toInt64 v3) fun v4 =>
    lt1 (lg_cmp r2 v4) fun v5 =>
    if 0 < v5 then
      f_M_ahead_26 r2 0 s1
    else
      f_M_ahead_26 r2 1 s1
section WALK
variable {p : Program} {l : Launch} {e : Env} {ss : State} {m : MethodId} {args : Array Value} {below : List Frame} {meth : Method} {c : Code} {Q : State → Prop} {g : GX} {A : Nat → Prop}
set_option maxHeartbeats 4000000 in
set_option maxRecDepth 100000 in
theorem w_M_ahead_51 {z : Int32 × SM} (C : Cx g A p m c b_M_ahead 3 ss args R_M) (hQ : ∀ (pc : Nat) (H : Heap) (locs : List Loc) (ls : Array Slot), XW g A ss (wM g z.2) H locs → decode b_M_ahead pc = .ok (.ireturn, 1) → W p l e (rmX 3 67) ss m args below meth c H locs 0 0 Q (F0 m pc ls [.int z.1])) : ∀ (x1 : Int64) (y0 : Int32) (s : SM) (H : Heap) (locs : List Loc) (ls : Array Slot), XW g A ss (wM g s) H locs → lv_has ls 3 [(0, .ref (g.q 60)), (1, .long x1)] → f_M_ahead_51 x1 y0 s = some z → W p l e (rmX 3 67) ss m args below meth c H locs 0 0 Q (F0 m 51 ls [.int y0]) := by
  have ⟨⟨hx, hb, hml, hown, hts⟩, hK, hA, hN⟩ := C
  intro x1 y0 s H locs ls hX hl h
  rw [f_M_ahead_51] at h
  obtain rfl := so1 h
  exact hQ _ H locs ls hX d_M_ahead_51
set_option maxHeartbeats 4000000 in
set_option maxRecDepth 100000 in
theorem w_M_ahead_26 {z : Int32 × SM} (C : Cx g A p m c b_M_ahead 3 ss args R_M) (hQ : ∀ (pc : Nat) (H : Heap) (locs : List Loc) (ls : Array Slot), XW g A ss (wM g z.2) H locs → decode b_M_ahead pc = .ok (.ireturn, 1) → W p l e (rmX 3 67) ss m args below meth c H locs 0 0 Q (F0 m pc ls [.int z.1])) : ∀ (x1 : Int64) (y1 : Int32) (s : SM) (H : Heap) (locs : List Loc) (ls : Array Slot), XW g A ss (wM g s) H locs → lv_has ls 3 [(0, .ref (g.q 60)), (1, .long x1)] → f_M_ahead_26 x1 y1 s = some z → W p l e (rmX 3 67) ss m args below meth c H locs 0 0 Q (F0 m 26 ls [.int y1, .ref (g.q 60)]) := by
  have ⟨⟨hx, hb, hml, hown, hts⟩, hK, hA, hN⟩ := C
  intro x1 y1 s H locs ls hX hl h
  rw [f_M_ahead_26] at h
  refine lv_iconst (v := 1) hx hb d_M_ahead_26 (by decide) ?_
  obtain ⟨s1, hc27, h⟩ := bd1_e h
  refine x_vV (As := [.int y1, .int 1]) (rest := []) C hX (c_M_will l g y1 1 s s1 hc27) (cw_M_158 C.1.2.2.2.2 C.2.2.2 ⟨by decide, by decide⟩) (x_rc C hX vg_0 rfl) rfl hl.1 rfl (lv_room (Nat.le_of_ble_eq_true rfl)) d_M_ahead_27 ⟨Nat.le_refl _, Nat.le_refl _⟩ (fun H locs hX => ?_)
  refine lv_aload_n hx hb d_M_ahead_30 rfl (lv_at hl 0 rfl) ?_
  refine gm_wrong C hX fl_M_149 d_M_ahead_31 ?_
  refine lv_if_le (tgt := 44) hx hb d_M_ahead_34 (by decide) (fun c34 => ?_) (fun c34 => ?_)
  · have h := ite_t c34 h
    refine lv_aload_n hx hb d_M_ahead_44 rfl (lv_at hl 0 rfl) ?_
    refine gm_at C hX fl_M_152 d_M_ahead_45 ?_
    refine lv_lload_n hx hb d_M_ahead_48 rfl (lv_at hl 1 rfl) ?_
    obtain ⟨v2, ev2, h⟩ := lt1_e h
    refine lv_l2i hx hb d_M_ahead_49 ev2.symm ?_
    obtain ⟨v3, ev3, h⟩ := lt1_e h
    refine x_iadd hx hb d_M_ahead_50 ev3 ?_
    exact w_M_ahead_51 C hQ x1 v3 s1 H locs ls hX hl h
  · have h := ite_f c34 h
    refine lv_aload_n hx hb d_M_ahead_37 rfl (lv_at hl 0 rfl) ?_
    refine gm_limit C hX fl_M_155 d_M_ahead_38 ?_
    refine lv_goto (tgt := 51) hx hb d_M_ahead_41 (by decide) ?_
    exact w_M_ahead_51 C hQ x1 (s1.1 0 4) s1 H locs ls hX hl h
set_option maxHeartbeats 4000000 in
set_option maxRecDepth 100000 in
theorem w_M_ahead {z : Int32 × SM} (C : Cx g A p m c b_M_ahead 3 ss args R_M) (hQ : ∀ (pc : Nat) (H : Heap) (locs : List Loc) (ls : Array Slot), XW g A ss (wM g z.2) H locs → decode b_M_ahead pc = .ok (.ireturn, 1) → W p l e (rmX 3 67) ss m args below meth c H locs 0 0 Q (F0 m pc ls [.int z.1])) : ∀ (s : SM) (H : Heap) (locs : List Loc) (ls : Array Slot), XW g A ss (wM g s) H locs → lv_has ls 3 [(0, .ref (g.q 60))] → f_M_ahead s = some z → W p l e (rmX 3 67) ss m args below meth c H locs 0 0 Q (F0 m 0 ls []) := by
  have ⟨⟨hx, hb, hml, hown, hts⟩, hK, hA, hN⟩ := C
  intro s H locs ls hX hl h
  rw [f_M_ahead] at h
  refine lv_aload_n hx hb d_M_ahead_0 rfl (lv_at hl 0 rfl) ?_
  obtain ⟨r2, s1, hc1, h⟩ := bd_e h
  refine x_vL (As := []) (rest := []) C hX (c_M_unsigned l g s (r2, s1) hc1) (cw_M_168 C.1.2.2.2.2 C.2.2.2 ⟨by decide, by decide⟩) (x_rc C hX vg_0 rfl) rfl hl.1 rfl (lv_room (Nat.le_of_ble_eq_true rfl)) d_M_ahead_1 ⟨Nat.le_refl _, Nat.le_refl _⟩ (fun H locs hX => ?_)
  refine lv_lstore_n (lv' := [(1, .long r2), (0, .ref (g.q 60))]) hx hb d_M_ahead_4 rfl hl (by decide) rfl (fun ls hl => ?_)
  refine lv_aload_n hx hb d_M_ahead_5 rfl (lv_at hl 1 rfl) ?_
  refine lv_lload_n hx hb d_M_ahead_6 rfl (lv_at hl 0 rfl) ?_
  refine lv_aload_n hx hb d_M_ahead_7 rfl (lv_at hl 1 rfl) ?_
  refine gm_limit C hX fl_M_155 d_M_ahead_8 ?_
  refine lv_aload_n hx hb d_M_ahead_11 rfl (lv_at hl 1 rfl) ?_
  refine gm_at C hX fl_M_152 d_M_ahead_12 ?_
  obtain ⟨v3, ev3, h⟩ := lt1_e h
  refine x_isub hx hb d_M_ahead_15 ev3 ?_
  obtain ⟨v4, ev4, h⟩ := lt1_e h
  refine lv_i2l hx hb d_M_ahead_16 ev4.symm ?_
  obtain ⟨v5, ev5, h⟩ := lt1_e h
  refine x_lcmp hx hb d_M_ahead_17 ev5 ?_
  refine lv_if_gt (tgt := 25) hx hb d_M_ahead_18 (by decide) (fun c18 => ?_) (fun c18 => ?_)
  · have h := ite_t c18 h
    refine lv_iconst (v := 0) hx hb d_M_ahead_25 (by decide) ?_
    exact w_M_ahead_26 C hQ r2 0 s1 H locs ls hX (lv_sub hl [1, 0] rfl) h
  · have h := ite_f c18 h
    refine lv_iconst (v := 1) hx hb d_M_ahead_21 (by decide) ?_
    refine lv_goto (tgt := 26) hx hb d_M_ahead_22 (by decide) ?_
    exact w_M_ahead_26 C hQ r2 1 s1 H locs ls hX (lv_sub hl [1, 0] rfl) h
end WALK
theorem c_M_ahead (l : Launch) (g : GX) (s : SM) (z : Int32 × SM) (h : f_M_ahead s = some z) : MI l g y_M_ahead b_M_ahead 3 (some .int) 3 67 [.ref (g.q 60)] (wM g s) z.1 (wM g z.2) :=
  MI.mk (own := R_M) (by decide) rfl (Nat.le_of_ble_eq_true rfl) fun p e ss m below meth c A Q C hQ ls hX hl => w_M_ahead C hQ s _ _ ls hX hl h
-- M_count
def f_M_count_35 (x1 : Int32) (x2 : Int64) (y0 : Int32) (s : SM) : Option (Int32 × SM) :=
    some (y0, s)
def f_M_count_18 (x1 : Int32) (x2 : Int64) (y1 : Int32) (s : SM) : Option (Int32 × SM) :=
    bd1 (f_M_will y1 2 s) fun s1 =>
    if s1.1 0 5 ≤ 0 then
      lt1 (Int64.toInt32 x2) fun v2 =>
      f_M_count_35 x1 x2 v2 s1
    else
      f_M_count_35 x1 x2 0 s1
def f_M_count (x1 : Int32) (s : SM) : Option (Int32 × SM) :=
    bd (f_M_unsigned s) fun r2 s1 =>
    lt1 (Int32.toInt64 x1) fun v3 =>
    lt1 (lg_cmp r2 v3) fun v4 =>
    if 0 < v4 then
      f_M_count_18 x1 r2 0 s1
    else
      f_M_count_18 x1 r2 1 s1
section WALK
variable {p : Program} {l : Launch} {e : Env} {ss : State} {m : MethodId} {args : Array Value} {below : List Frame} {meth : Method} {c : Code} {Q : State → Prop} {g : GX} {A : Nat → Prop}
set_option maxHeartbeats 4000000 in
set_option maxRecDepth 100000 in
theorem w_M_count_35 {z : Int32 × SM} (C : Cx g A p m c b_M_count 4 ss args R_M) (hQ : ∀ (pc : Nat) (H : Heap) (locs : List Loc) (ls : Array Slot), XW g A ss (wM g z.2) H locs → decode b_M_count pc = .ok (.ireturn, 1) → W p l e (rmX 3 67) ss m args below meth c H locs 0 0 Q (F0 m pc ls [.int z.1])) : ∀ (x1 : Int32) (x2 : Int64) (y0 : Int32) (s : SM) (H : Heap) (locs : List Loc) (ls : Array Slot), XW g A ss (wM g s) H locs → lv_has ls 4 [(0, .ref (g.q 60)), (1, .int x1), (2, .long x2)] → f_M_count_35 x1 x2 y0 s = some z → W p l e (rmX 3 67) ss m args below meth c H locs 0 0 Q (F0 m 35 ls [.int y0]) := by
  have ⟨⟨hx, hb, hml, hown, hts⟩, hK, hA, hN⟩ := C
  intro x1 x2 y0 s H locs ls hX hl h
  rw [f_M_count_35] at h
  obtain rfl := so1 h
  exact hQ _ H locs ls hX d_M_count_35
set_option maxHeartbeats 4000000 in
set_option maxRecDepth 100000 in
theorem w_M_count_18 {z : Int32 × SM} (C : Cx g A p m c b_M_count 4 ss args R_M) (hQ : ∀ (pc : Nat) (H : Heap) (locs : List Loc) (ls : Array Slot), XW g A ss (wM g z.2) H locs → decode b_M_count pc = .ok (.ireturn, 1) → W p l e (rmX 3 67) ss m args below meth c H locs 0 0 Q (F0 m pc ls [.int z.1])) : ∀ (x1 : Int32) (x2 : Int64) (y1 : Int32) (s : SM) (H : Heap) (locs : List Loc) (ls : Array Slot), XW g A ss (wM g s) H locs → lv_has ls 4 [(0, .ref (g.q 60)), (1, .int x1), (2, .long x2)] → f_M_count_18 x1 x2 y1 s = some z → W p l e (rmX 3 67) ss m args below meth c H locs 0 0 Q (F0 m 18 ls [.int y1, .ref (g.q 60)]) := by
  have ⟨⟨hx, hb, hml, hown, hts⟩, hK, hA, hN⟩ := C
  intro x1 x2 y1 s H locs ls hX hl h
  rw [f_M_count_18] at h
  refine lv_iconst (v := 2) hx hb d_M_count_18 (by decide) ?_
  obtain ⟨s1, hc19, h⟩ := bd1_e h
  refine x_vV (As := [.int y1, .int 2]) (rest := []) C hX (c_M_will l g y1 2 s s1 hc19) (cw_M_158 C.1.2.2.2.2 C.2.2.2 ⟨by decide, by decide⟩) (x_rc C hX vg_0 rfl) rfl hl.1 rfl (lv_room (Nat.le_of_ble_eq_true rfl)) d_M_count_19 ⟨Nat.le_refl _, Nat.le_refl _⟩ (fun H locs hX => ?_)
  refine lv_aload_n hx hb d_M_count_22 rfl (lv_at hl 0 rfl) ?_
  refine gm_wrong C hX fl_M_149 d_M_count_23 ?_
  refine lv_if_le (tgt := 33) hx hb d_M_count_26 (by decide) (fun c26 => ?_) (fun c26 => ?_)
  · have h := ite_t c26 h
    refine lv_lload_n hx hb d_M_count_33 rfl (lv_at hl 2 rfl) ?_
    obtain ⟨v2, ev2, h⟩ := lt1_e h
    refine lv_l2i hx hb d_M_count_34 ev2.symm ?_
    exact w_M_count_35 C hQ x1 x2 v2 s1 H locs ls hX hl h
  · have h := ite_f c26 h
    refine lv_iconst (v := 0) hx hb d_M_count_29 (by decide) ?_
    refine lv_goto (tgt := 35) hx hb d_M_count_30 (by decide) ?_
    exact w_M_count_35 C hQ x1 x2 0 s1 H locs ls hX hl h
set_option maxHeartbeats 4000000 in
set_option maxRecDepth 100000 in
theorem w_M_count {z : Int32 × SM} (C : Cx g A p m c b_M_count 4 ss args R_M) (hQ : ∀ (pc : Nat) (H : Heap) (locs : List Loc) (ls : Array Slot), XW g A ss (wM g z.2) H locs → decode b_M_count pc = .ok (.ireturn, 1) → W p l e (rmX 3 67) ss m args below meth c H locs 0 0 Q (F0 m pc ls [.int z.1])) : ∀ (x1 : Int32) (s : SM) (H : Heap) (locs : List Loc) (ls : Array Slot), XW g A ss (wM g s) H locs → lv_has ls 4 [(0, .ref (g.q 60)), (1, .int x1)] → f_M_count x1 s = some z → W p l e (rmX 3 67) ss m args below meth c H locs 0 0 Q (F0 m 0 ls []) := by
  have ⟨⟨hx, hb, hml, hown, hts⟩, hK, hA, hN⟩ := C
  intro x1 s H locs ls hX hl h
  rw [f_M_count] at h
  refine lv_aload_n hx hb d_M_count_0 rfl (lv_at hl 0 rfl) ?_
  obtain ⟨r2, s1, hc1, h⟩ := bd_e h
  refine x_vL (As := []) (rest := []) C hX (c_M_unsigned l g s (r2, s1) hc1) (cw_M_168 C.1.2.2.2.2 C.2.2.2 ⟨by decide, by decide⟩) (x_rc C hX vg_0 rfl) rfl hl.1 rfl (lv_room (Nat.le_of_ble_eq_true rfl)) d_M_count_1 ⟨Nat.le_refl _, Nat.le_refl _⟩ (fun H locs hX => ?_)
  refine lv_lstore_n (lv' := [(2, .long r2), (0, .ref (g.q 60)), (1, .int x1)]) hx hb d_M_count_4 rfl hl (by decide) rfl (fun ls hl => ?_)
  refine lv_aload_n hx hb d_M_count_5 rfl (lv_at hl 1 rfl) ?_
  refine lv_lload_n hx hb d_M_count_6 rfl (lv_at hl 0 rfl) ?_
  refine lv_iload_n hx hb d_M_count_7 rfl (lv_at hl 2 rfl) ?_
  obtain ⟨v3, ev3, h⟩ := lt1_e h
  refine lv_i2l hx hb d_M_count_8 ev3.symm ?_
  obtain ⟨v4, ev4, h⟩ := lt1_e h
  refine x_lcmp hx hb d_M_count_9 ev4 ?_
  refine lv_if_gt (tgt := 17) hx hb d_M_count_10 (by decide) (fun c10 => ?_) (fun c10 => ?_)
  · have h := ite_t c10 h
    refine lv_iconst (v := 0) hx hb d_M_count_17 (by decide) ?_
    exact w_M_count_18 C hQ x1 r2 0 s1 H locs ls hX (lv_sub hl [1, 2, 0] rfl) h
  · have h := ite_f c10 h
    refine lv_iconst (v := 1) hx hb d_M_count_13 (by decide) ?_
    refine lv_goto (tgt := 18) hx hb d_M_count_14 (by decide) ?_
    exact w_M_count_18 C hQ x1 r2 1 s1 H locs ls hX (lv_sub hl [1, 2, 0] rfl) h
end WALK
theorem c_M_count (l : Launch) (g : GX) (x1 : Int32) (s : SM) (z : Int32 × SM) (h : f_M_count x1 s = some z) : MI l g y_M_count b_M_count 4 (some .int) 3 67 [.ref (g.q 60), .int x1] (wM g s) z.1 (wM g z.2) :=
  MI.mk (own := R_M) (by decide) rfl (Nat.le_of_ble_eq_true rfl) fun p e ss m below meth c A Q C hQ ls hX hl => w_M_count C hQ x1 s _ _ ls hX hl h
-- M_value
def f_M_value_17 (x1 : Int32) (y1 : Int32) (s : SM) : Option SM :=
    bd1 (f_M_will y1 2 s) fun s1 =>
    some s1
def f_M_value (s : SM) : Option SM :=
    bd (f_M_next s) fun r2 s1 =>
    if r2 = 127 then
      f_M_value_17 r2 1 s1
    else
      f_M_value_17 r2 0 s1
section WALK
variable {p : Program} {l : Launch} {e : Env} {ss : State} {m : MethodId} {args : Array Value} {below : List Frame} {meth : Method} {c : Code} {Q : State → Prop} {g : GX} {A : Nat → Prop}
set_option maxHeartbeats 4000000 in
set_option maxRecDepth 100000 in
theorem w_M_value_17 {z : SM} (C : Cx g A p m c b_M_value 2 ss args R_M) (hQ : ∀ (pc : Nat) (H : Heap) (locs : List Loc) (ls : Array Slot), XW g A ss (wM g z) H locs → decode b_M_value pc = .ok (.return_, 1) → W p l e (rmX 2 42) ss m args below meth c H locs 0 0 Q (F0 m pc ls [])) : ∀ (x1 : Int32) (y1 : Int32) (s : SM) (H : Heap) (locs : List Loc) (ls : Array Slot), XW g A ss (wM g s) H locs → lv_has ls 2 [(0, .ref (g.q 60)), (1, .int x1)] → f_M_value_17 x1 y1 s = some z → W p l e (rmX 2 42) ss m args below meth c H locs 0 0 Q (F0 m 17 ls [.int y1, .ref (g.q 60)]) := by
  have ⟨⟨hx, hb, hml, hown, hts⟩, hK, hA, hN⟩ := C
  intro x1 y1 s H locs ls hX hl h
  rw [f_M_value_17] at h
  refine lv_iconst (v := 2) hx hb d_M_value_17 (by decide) ?_
  obtain ⟨s1, hc18, h⟩ := bd1_e h
  refine x_vV (As := [.int y1, .int 2]) (rest := []) C hX (c_M_will l g y1 2 s s1 hc18) (cw_M_158 C.1.2.2.2.2 C.2.2.2 ⟨by decide, by decide⟩) (x_rc C hX vg_0 rfl) rfl hl.1 rfl (lv_room (Nat.le_of_ble_eq_true rfl)) d_M_value_18 ⟨Nat.le_refl _, Nat.le_refl _⟩ (fun H locs hX => ?_)
  obtain rfl := so1 h
  exact hQ _ H locs ls hX d_M_value_21
set_option maxHeartbeats 4000000 in
set_option maxRecDepth 100000 in
theorem w_M_value {z : SM} (C : Cx g A p m c b_M_value 2 ss args R_M) (hQ : ∀ (pc : Nat) (H : Heap) (locs : List Loc) (ls : Array Slot), XW g A ss (wM g z) H locs → decode b_M_value pc = .ok (.return_, 1) → W p l e (rmX 2 42) ss m args below meth c H locs 0 0 Q (F0 m pc ls [])) : ∀ (s : SM) (H : Heap) (locs : List Loc) (ls : Array Slot), XW g A ss (wM g s) H locs → lv_has ls 2 [(0, .ref (g.q 60))] → f_M_value s = some z → W p l e (rmX 2 42) ss m args below meth c H locs 0 0 Q (F0 m 0 ls []) := by
  have ⟨⟨hx, hb, hml, hown, hts⟩, hK, hA, hN⟩ := C
  intro s H locs ls hX hl h
  rw [f_M_value] at h
  refine lv_aload_n hx hb d_M_value_0 rfl (lv_at hl 0 rfl) ?_
  obtain ⟨r2, s1, hc1, h⟩ := bd_e h
  refine x_vI (As := []) (rest := []) C hX (c_M_next l g s (r2, s1) hc1) (cw_M_162 C.1.2.2.2.2 C.2.2.2 ⟨by decide, by decide⟩) (x_rc C hX vg_0 rfl) rfl hl.1 rfl (lv_room (Nat.le_of_ble_eq_true rfl)) d_M_value_1 ⟨Nat.le_refl _, Nat.le_refl _⟩ (fun H locs hX => ?_)
  refine lv_istore_n (lv' := [(1, .int r2), (0, .ref (g.q 60))]) hx hb d_M_value_4 rfl hl (by decide) rfl (fun ls hl => ?_)
  refine lv_aload_n hx hb d_M_value_5 rfl (lv_at hl 1 rfl) ?_
  refine lv_iload_n hx hb d_M_value_6 rfl (lv_at hl 0 rfl) ?_
  refine lv_bipush (v := 127) hx hb d_M_value_7 (by decide) ?_
  refine lv_icmp_ne (tgt := 16) hx hb d_M_value_9 (by decide) (fun c9 => ?_) (fun c9 => ?_)
  · have h := ite_f c9 h
    refine lv_iconst (v := 0) hx hb d_M_value_16 (by decide) ?_
    exact w_M_value_17 C hQ r2 0 s1 H locs ls hX (lv_sub hl [1, 0] rfl) h
  · have h := ite_t c9 h
    refine lv_iconst (v := 1) hx hb d_M_value_12 (by decide) ?_
    refine lv_goto (tgt := 17) hx hb d_M_value_13 (by decide) ?_
    exact w_M_value_17 C hQ r2 1 s1 H locs ls hX (lv_sub hl [1, 0] rfl) h
end WALK
theorem c_M_value (l : Launch) (g : GX) (s : SM) (z : SM) (h : f_M_value s = some z) : MV l g y_M_value b_M_value 2 none 2 42 [.ref (g.q 60)] (wM g s) (wM g z) :=
  MV.mk (own := R_M) (by decide) rfl (Nat.le_of_ble_eq_true rfl) fun p e ss m below meth c A Q C hQ ls hX hl => w_M_value C hQ s _ _ ls hX hl h
-- M_readTypes
def f_M_readTypes_99 (x1 : Int32) (x2 : Int32) (s : SM) : Option SM :=
    lt1 (stI s 0 6 x1) fun s1 =>
    some s1
def f_M_readTypes_73 (k9 : Int32 → Int32 → SM → Option SM) : Nat → Int32 → Int32 → Int32 → SM → Option SM
  | 0, _, _, _, _ => none
  | n + 1, x1, x2, x3, s =>
    gi x2 8 <|
    lt1 (s.1 3 (Int32.toNatClampNeg x2)) fun v1 =>
    if v1 ≤ x3 then
      lt1 (x2 + (1)) fun v2 =>
      k9 x1 v2 s
    else
      bd1 (f_M_value s) fun s3 =>
      lt1 (x3 + (1)) fun v4 =>
      f_M_readTypes_73 k9 n x1 x2 v4 s3
def f_M_readTypes_40 (k9 : Int32 → Int32 → SM → Option SM) : Nat → Int32 → Int32 → Int32 → SM → Option SM
  | 0, _, _, _, _ => none
  | n + 1, x1, x2, x3, s =>
    gi x2 8 <|
    lt1 (s.1 2 (Int32.toNatClampNeg x2)) fun v1 =>
    if v1 ≤ x3 then
      bd (f_M_count 4 s) fun r3 s2 =>
      gi x2 8 <|
      lt1 (stI s2 3 (Int32.toNatClampNeg x2) r3) fun s4 =>
      f_M_readTypes_73 k9 FU x1 x2 0 s4
    else
      bd1 (f_M_value s) fun s5 =>
      lt1 (x3 + (1)) fun v6 =>
      f_M_readTypes_40 k9 n x1 x2 v6 s5
def f_M_readTypes_9 : Nat → Int32 → Int32 → SM → Option SM
  | 0, _, _, _ => none
  | n + 1, x1, x2, s =>
    if x1 ≤ x2 then
      f_M_readTypes_99 x1 x2 s
    else
      if s.1 0 5 = 0 then
        bd1 (f_M_exactly 96 s) fun s1 =>
        bd (f_M_count 4 s1) fun r3 s2 =>
        gi x2 8 <|
        lt1 (stI s2 2 (Int32.toNatClampNeg x2) r3) fun s4 =>
        f_M_readTypes_40 (f_M_readTypes_9 n) FU x1 x2 0 s4
      else
        f_M_readTypes_99 x1 x2 s
def f_M_readTypes (s : SM) : Option SM :=
    bd (f_M_count 8 s) fun r2 s1 =>
    f_M_readTypes_9 FU r2 0 s1
section WALK
variable {p : Program} {l : Launch} {e : Env} {ss : State} {m : MethodId} {args : Array Value} {below : List Frame} {meth : Method} {c : Code} {Q : State → Prop} {g : GX} {A : Nat → Prop}
set_option maxHeartbeats 4000000 in
set_option maxRecDepth 100000 in
theorem w_M_readTypes_99 {z : SM} (C : Cx g A p m c b_M_readTypes 4 ss args R_M) (hQ : ∀ (pc : Nat) (H : Heap) (locs : List Loc) (ls : Array Slot), XW g A ss (wM g z) H locs → decode b_M_readTypes pc = .ok (.return_, 1) → W p l e (rmX 4 90) ss m args below meth c H locs 0 0 Q (F0 m pc ls [])) : ∀ (x1 : Int32) (x2 : Int32) (s : SM) (H : Heap) (locs : List Loc) (ls : Array Slot), XW g A ss (wM g s) H locs → lv_has ls 4 [(0, .ref (g.q 60)), (1, .int x1), (2, .int x2)] → f_M_readTypes_99 x1 x2 s = some z → W p l e (rmX 4 90) ss m args below meth c H locs 0 0 Q (F0 m 99 ls []) := by
  have ⟨⟨hx, hb, hml, hown, hts⟩, hK, hA, hN⟩ := C
  intro x1 x2 s H locs ls hX hl h
  rw [f_M_readTypes_99] at h
  refine lv_aload_n hx hb d_M_readTypes_99 rfl (lv_at hl 0 rfl) ?_
  refine lv_iload_n hx hb d_M_readTypes_100 rfl (lv_at hl 1 rfl) ?_
  obtain ⟨s1, es1, h⟩ := lt1_e h
  refine pm_types C hX fl_M_219 d_M_readTypes_101 (fun H locs hX => ?_)
  rw [← es1] at hX
  obtain rfl := so1 h
  exact hQ _ H locs ls hX d_M_readTypes_104
set_option maxHeartbeats 4000000 in
set_option maxRecDepth 100000 in
theorem w_M_readTypes_73 {z : SM} (C : Cx g A p m c b_M_readTypes 4 ss args R_M) (hQ : ∀ (pc : Nat) (H : Heap) (locs : List Loc) (ls : Array Slot), XW g A ss (wM g z) H locs → decode b_M_readTypes pc = .ok (.return_, 1) → W p l e (rmX 4 90) ss m args below meth c H locs 0 0 Q (F0 m pc ls [])) (k9 : Int32 → Int32 → SM → Option SM) (hk9 : ∀ (x1 : Int32) (x2 : Int32) (s : SM) (H : Heap) (locs : List Loc) (ls : Array Slot), XW g A ss (wM g s) H locs → lv_has ls 4 [(0, .ref (g.q 60)), (1, .int x1), (2, .int x2)] → k9 x1 x2 s = some z → W p l e (rmX 4 90) ss m args below meth c H locs 0 0 Q (F0 m 9 ls [])) (n : Nat) : ∀ (x1 : Int32) (x2 : Int32) (x3 : Int32) (s : SM) (H : Heap) (locs : List Loc) (ls : Array Slot), XW g A ss (wM g s) H locs → lv_has ls 4 [(0, .ref (g.q 60)), (1, .int x1), (2, .int x2), (3, .int x3)] → f_M_readTypes_73 k9 n x1 x2 x3 s = some z → W p l e (rmX 4 90) ss m args below meth c H locs 0 0 Q (F0 m 73 ls []) := by
  have ⟨⟨hx, hb, hml, hown, hts⟩, hK, hA, hN⟩ := C
  induction n with
  | zero => intro x1 x2 x3 s H locs ls hX hl h; cases h
  | succ n ih =>
    intro x1 x2 x3 s H locs ls hX hl h
    rw [f_M_readTypes_73] at h
    refine lv_iload_n hx hb d_M_readTypes_73 rfl (lv_at hl 3 rfl) ?_
    refine lv_aload_n hx hb d_M_readTypes_74 rfl (lv_at hl 0 rfl) ?_
    refine gm_results C hX fl_M_16 d_M_readTypes_75 ?_
    refine lv_iload_n hx hb d_M_readTypes_78 rfl (lv_at hl 2 rfl) ?_
    obtain ⟨hz79, h⟩ := gi_e h
    obtain ⟨v1, ev1, h⟩ := lt1_e h
    refine alm_3 C hX hz79 d_M_readTypes_79 ev1 ?_
    refine lv_icmp_ge (tgt := 93) hx hb d_M_readTypes_80 (by decide) (fun c80 => ?_) (fun c80 => ?_)
    · have h := ite_t c80 h
      obtain ⟨v2, ev2, h⟩ := lt1_e h
      refine lv_iinc (v := v2) (lv' := [(2, .int v2), (0, .ref (g.q 60)), (1, .int x1), (3, .int x3)]) hx hb d_M_readTypes_93 hl (k := 2) rfl (by rw [ev2]; rfl) (by decide) rfl (fun ls hl => ?_)
      refine lv_goto (tgt := 9) hx hb d_M_readTypes_96 (by decide) ?_
      exact hk9 x1 v2 s H locs ls hX (lv_sub hl [1, 2, 0] rfl) h
    · have h := ite_f c80 h
      refine lv_aload_n hx hb d_M_readTypes_83 rfl (lv_at hl 0 rfl) ?_
      obtain ⟨s3, hc84, h⟩ := bd1_e h
      refine x_vV (As := []) (rest := []) C hX (c_M_value l g s s3 hc84) (cw_M_216 C.1.2.2.2.2 C.2.2.2 ⟨by decide, by decide⟩) (x_rc C hX vg_0 rfl) rfl hl.1 rfl (lv_room (Nat.le_of_ble_eq_true rfl)) d_M_readTypes_84 ⟨Nat.le_refl _, Nat.le_refl _⟩ (fun H locs hX => ?_)
      obtain ⟨v4, ev4, h⟩ := lt1_e h
      refine lv_iinc (v := v4) (lv' := [(3, .int v4), (0, .ref (g.q 60)), (1, .int x1), (2, .int x2)]) hx hb d_M_readTypes_87 hl (k := 3) rfl (by rw [ev4]; rfl) (by decide) rfl (fun ls hl => ?_)
      refine lv_goto (tgt := 73) hx hb d_M_readTypes_90 (by decide) ?_
      exact ih x1 x2 v4 s3 H locs ls hX (lv_sub hl [1, 2, 3, 0] rfl) h
set_option maxHeartbeats 4000000 in
set_option maxRecDepth 100000 in
theorem w_M_readTypes_40 {z : SM} (C : Cx g A p m c b_M_readTypes 4 ss args R_M) (hQ : ∀ (pc : Nat) (H : Heap) (locs : List Loc) (ls : Array Slot), XW g A ss (wM g z) H locs → decode b_M_readTypes pc = .ok (.return_, 1) → W p l e (rmX 4 90) ss m args below meth c H locs 0 0 Q (F0 m pc ls [])) (k9 : Int32 → Int32 → SM → Option SM) (hk9 : ∀ (x1 : Int32) (x2 : Int32) (s : SM) (H : Heap) (locs : List Loc) (ls : Array Slot), XW g A ss (wM g s) H locs → lv_has ls 4 [(0, .ref (g.q 60)), (1, .int x1), (2, .int x2)] → k9 x1 x2 s = some z → W p l e (rmX 4 90) ss m args below meth c H locs 0 0 Q (F0 m 9 ls [])) (n : Nat) : ∀ (x1 : Int32) (x2 : Int32) (x3 : Int32) (s : SM) (H : Heap) (locs : List Loc) (ls : Array Slot), XW g A ss (wM g s) H locs → lv_has ls 4 [(0, .ref (g.q 60)), (1, .int x1), (2, .int x2), (3, .int x3)] → f_M_readTypes_40 k9 n x1 x2 x3 s = some z → W p l e (rmX 4 90) ss m args below meth c H locs 0 0 Q (F0 m 40 ls []) := by
  have ⟨⟨hx, hb, hml, hown, hts⟩, hK, hA, hN⟩ := C
  induction n with
  | zero => intro x1 x2 x3 s H locs ls hX hl h; cases h
  | succ n ih =>
    intro x1 x2 x3 s H locs ls hX hl h
    rw [f_M_readTypes_40] at h
    refine lv_iload_n hx hb d_M_readTypes_40 rfl (lv_at hl 3 rfl) ?_
    refine lv_aload_n hx hb d_M_readTypes_41 rfl (lv_at hl 0 rfl) ?_
    refine gm_params C hX fl_M_13 d_M_readTypes_42 ?_
    refine lv_iload_n hx hb d_M_readTypes_45 rfl (lv_at hl 2 rfl) ?_
    obtain ⟨hz46, h⟩ := gi_e h
    obtain ⟨v1, ev1, h⟩ := lt1_e h
    refine alm_2 C hX hz46 d_M_readTypes_46 ev1 ?_
    refine lv_icmp_ge (tgt := 60) hx hb d_M_readTypes_47 (by decide) (fun c47 => ?_) (fun c47 => ?_)
    · have h := ite_t c47 h
      refine lv_aload_n hx hb d_M_readTypes_60 rfl (lv_at hl 0 rfl) ?_
      refine gm_results C hX fl_M_16 d_M_readTypes_61 ?_
      refine lv_iload_n hx hb d_M_readTypes_64 rfl (lv_at hl 2 rfl) ?_
      refine lv_aload_n hx hb d_M_readTypes_65 rfl (lv_at hl 0 rfl) ?_
      refine lv_iconst (v := 4) hx hb d_M_readTypes_66 (by decide) ?_
      obtain ⟨r3, s2, hc67, h⟩ := bd_e h
      refine x_vI (As := [.int 4]) (rest := [.int x2, .ref (g.q 63)]) C hX (c_M_count l g 4 s (r3, s2) hc67) (cw_M_212 C.1.2.2.2.2 C.2.2.2 ⟨by decide, by decide⟩) (x_rc C hX vg_0 rfl) rfl hl.1 rfl (lv_room (Nat.le_of_ble_eq_true rfl)) d_M_readTypes_67 ⟨Nat.le_refl _, Nat.le_refl _⟩ (fun H locs hX => ?_)
      obtain ⟨hz70, h⟩ := gi_e h
      obtain ⟨s4, es4, h⟩ := lt1_e h
      refine asm_3 C hX hz70 d_M_readTypes_70 (fun H locs hX => ?_)
      rw [← es4] at hX
      refine lv_iconst (v := 0) hx hb d_M_readTypes_71 (by decide) ?_
      refine lv_istore_n (lv' := [(3, .int 0), (0, .ref (g.q 60)), (1, .int x1), (2, .int x2)]) hx hb d_M_readTypes_72 rfl hl (by decide) rfl (fun ls hl => ?_)
      exact w_M_readTypes_73 C hQ k9 hk9 FU x1 x2 0 s4 H locs ls hX (lv_sub hl [1, 2, 3, 0] rfl) h
    · have h := ite_f c47 h
      refine lv_aload_n hx hb d_M_readTypes_50 rfl (lv_at hl 0 rfl) ?_
      obtain ⟨s5, hc51, h⟩ := bd1_e h
      refine x_vV (As := []) (rest := []) C hX (c_M_value l g s s5 hc51) (cw_M_216 C.1.2.2.2.2 C.2.2.2 ⟨by decide, by decide⟩) (x_rc C hX vg_0 rfl) rfl hl.1 rfl (lv_room (Nat.le_of_ble_eq_true rfl)) d_M_readTypes_51 ⟨Nat.le_refl _, Nat.le_refl _⟩ (fun H locs hX => ?_)
      obtain ⟨v6, ev6, h⟩ := lt1_e h
      refine lv_iinc (v := v6) (lv' := [(3, .int v6), (0, .ref (g.q 60)), (1, .int x1), (2, .int x2)]) hx hb d_M_readTypes_54 hl (k := 3) rfl (by rw [ev6]; rfl) (by decide) rfl (fun ls hl => ?_)
      refine lv_goto (tgt := 40) hx hb d_M_readTypes_57 (by decide) ?_
      exact ih x1 x2 v6 s5 H locs ls hX (lv_sub hl [1, 2, 3, 0] rfl) h
set_option maxHeartbeats 4000000 in
set_option maxRecDepth 100000 in
theorem w_M_readTypes_9 {z : SM} (C : Cx g A p m c b_M_readTypes 4 ss args R_M) (hQ : ∀ (pc : Nat) (H : Heap) (locs : List Loc) (ls : Array Slot), XW g A ss (wM g z) H locs → decode b_M_readTypes pc = .ok (.return_, 1) → W p l e (rmX 4 90) ss m args below meth c H locs 0 0 Q (F0 m pc ls [])) (n : Nat) : ∀ (x1 : Int32) (x2 : Int32) (s : SM) (H : Heap) (locs : List Loc) (ls : Array Slot), XW g A ss (wM g s) H locs → lv_has ls 4 [(0, .ref (g.q 60)), (1, .int x1), (2, .int x2)] → f_M_readTypes_9 n x1 x2 s = some z → W p l e (rmX 4 90) ss m args below meth c H locs 0 0 Q (F0 m 9 ls []) := by
  have ⟨⟨hx, hb, hml, hown, hts⟩, hK, hA, hN⟩ := C
  induction n with
  | zero => intro x1 x2 s H locs ls hX hl h; cases h
  | succ n ih =>
    intro x1 x2 s H locs ls hX hl h
    rw [f_M_readTypes_9] at h
    refine lv_iload_n hx hb d_M_readTypes_9 rfl (lv_at hl 2 rfl) ?_
    refine lv_iload_n hx hb d_M_readTypes_10 rfl (lv_at hl 1 rfl) ?_
    refine lv_icmp_ge (tgt := 99) hx hb d_M_readTypes_11 (by decide) (fun c11 => ?_) (fun c11 => ?_)
    · have h := ite_t c11 h
      exact w_M_readTypes_99 C hQ x1 x2 s H locs ls hX hl h
    · have h := ite_f c11 h
      refine lv_aload_n hx hb d_M_readTypes_14 rfl (lv_at hl 0 rfl) ?_
      refine gm_wrong C hX fl_M_149 d_M_readTypes_15 ?_
      refine lv_if_ne (tgt := 99) hx hb d_M_readTypes_18 (by decide) (fun c18 => ?_) (fun c18 => ?_)
      · have h := ite_f c18 h
        exact w_M_readTypes_99 C hQ x1 x2 s H locs ls hX hl h
      · have h := ite_t c18 h
        refine lv_aload_n hx hb d_M_readTypes_21 rfl (lv_at hl 0 rfl) ?_
        refine lv_bipush (v := 96) hx hb d_M_readTypes_22 (by decide) ?_
        obtain ⟨s1, hc24, h⟩ := bd1_e h
        refine x_vV (As := [.int 96]) (rest := []) C hX (c_M_exactly l g 96 s s1 hc24) (cw_M_172 C.1.2.2.2.2 C.2.2.2 ⟨by decide, by decide⟩) (x_rc C hX vg_0 rfl) rfl hl.1 rfl (lv_room (Nat.le_of_ble_eq_true rfl)) d_M_readTypes_24 ⟨Nat.le_refl _, Nat.le_refl _⟩ (fun H locs hX => ?_)
        refine lv_aload_n hx hb d_M_readTypes_27 rfl (lv_at hl 0 rfl) ?_
        refine gm_params C hX fl_M_13 d_M_readTypes_28 ?_
        refine lv_iload_n hx hb d_M_readTypes_31 rfl (lv_at hl 2 rfl) ?_
        refine lv_aload_n hx hb d_M_readTypes_32 rfl (lv_at hl 0 rfl) ?_
        refine lv_iconst (v := 4) hx hb d_M_readTypes_33 (by decide) ?_
        obtain ⟨r3, s2, hc34, h⟩ := bd_e h
        refine x_vI (As := [.int 4]) (rest := [.int x2, .ref (g.q 62)]) C hX (c_M_count l g 4 s1 (r3, s2) hc34) (cw_M_212 C.1.2.2.2.2 C.2.2.2 ⟨by decide, by decide⟩) (x_rc C hX vg_0 rfl) rfl hl.1 rfl (lv_room (Nat.le_of_ble_eq_true rfl)) d_M_readTypes_34 ⟨Nat.le_refl _, Nat.le_refl _⟩ (fun H locs hX => ?_)
        obtain ⟨hz37, h⟩ := gi_e h
        obtain ⟨s4, es4, h⟩ := lt1_e h
        refine asm_2 C hX hz37 d_M_readTypes_37 (fun H locs hX => ?_)
        rw [← es4] at hX
        refine lv_iconst (v := 0) hx hb d_M_readTypes_38 (by decide) ?_
        refine lv_istore_n (lv' := [(3, .int 0), (0, .ref (g.q 60)), (1, .int x1), (2, .int x2)]) hx hb d_M_readTypes_39 rfl hl (by decide) rfl (fun ls hl => ?_)
        exact w_M_readTypes_40 C hQ (f_M_readTypes_9 n) ih FU x1 x2 0 s4 H locs ls hX (lv_sub hl [1, 2, 3, 0] rfl) h
set_option maxHeartbeats 4000000 in
set_option maxRecDepth 100000 in
theorem w_M_readTypes {z : SM} (C : Cx g A p m c b_M_readTypes 4 ss args R_M) (hQ : ∀ (pc : Nat) (H : Heap) (locs : List Loc) (ls : Array Slot), XW g A ss (wM g z) H locs → decode b_M_readTypes pc = .ok (.return_, 1) → W p l e (rmX 4 90) ss m args below meth c H locs 0 0 Q (F0 m pc ls [])) : ∀ (s : SM) (H : Heap) (locs : List Loc) (ls : Array Slot), XW g A ss (wM g s) H locs → lv_has ls 4 [(0, .ref (g.q 60))] → f_M_readTypes s = some z → W p l e (rmX 4 90) ss m args below meth c H locs 0 0 Q (F0 m 0 ls []) := by
  have ⟨⟨hx, hb, hml, hown, hts⟩, hK, hA, hN⟩ := C
  intro s H locs ls hX hl h
  rw [f_M_readTypes] at h
  refine lv_aload_n hx hb d_M_readTypes_0 rfl (lv_at hl 0 rfl) ?_
  refine lv_bipush (v := 8) hx hb d_M_readTypes_1 (by decide) ?_
  obtain ⟨r2, s1, hc3, h⟩ := bd_e h
  refine x_vI (As := [.int 8]) (rest := []) C hX (c_M_count l g 8 s (r2, s1) hc3) (cw_M_212 C.1.2.2.2.2 C.2.2.2 ⟨by decide, by decide⟩) (x_rc C hX vg_0 rfl) rfl hl.1 rfl (lv_room (Nat.le_of_ble_eq_true rfl)) d_M_readTypes_3 ⟨Nat.le_refl _, Nat.le_refl _⟩ (fun H locs hX => ?_)
  refine lv_istore_n (lv' := [(1, .int r2), (0, .ref (g.q 60))]) hx hb d_M_readTypes_6 rfl hl (by decide) rfl (fun ls hl => ?_)
  refine lv_iconst (v := 0) hx hb d_M_readTypes_7 (by decide) ?_
  refine lv_istore_n (lv' := [(2, .int 0), (1, .int r2), (0, .ref (g.q 60))]) hx hb d_M_readTypes_8 rfl hl (by decide) rfl (fun ls hl => ?_)
  exact w_M_readTypes_9 C hQ FU r2 0 s1 H locs ls hX (lv_sub hl [2, 1, 0] rfl) h
end WALK
theorem c_M_readTypes (l : Launch) (g : GX) (s : SM) (z : SM) (h : f_M_readTypes s = some z) : MV l g y_M_readTypes b_M_readTypes 4 none 4 90 [.ref (g.q 60)] (wM g s) (wM g z) :=
  MV.mk (own := R_M) (by decide) rfl (Nat.le_of_ble_eq_true rfl) fun p e ss m below meth c A Q C hQ ls hX hl => w_M_readTypes C hQ s _ _ ls hX hl h
-- M_readFunctions
def f_M_readFunctions_9 : Nat → Int32 → Int32 → SM → Option SM
  | 0, _, _, _ => none
  | n + 1, x1, x2, s =>
    if x1 ≤ x2 then
      lt1 (stI s 0 7 x1) fun s1 =>
      some s1
    else
      bd (f_M_unsigned s) fun r3 s2 =>
      gi x2 8 <|
      lt1 (stL s2 4 (Int32.toNatClampNeg x2) r3) fun s4 =>
      lt1 (x2 + (1)) fun v5 =>
      f_M_readFunctions_9 n x1 v5 s4
def f_M_readFunctions (s : SM) : Option SM :=
    bd (f_M_count 8 s) fun r2 s1 =>
    f_M_readFunctions_9 FU r2 0 s1
section WALK
variable {p : Program} {l : Launch} {e : Env} {ss : State} {m : MethodId} {args : Array Value} {below : List Frame} {meth : Method} {c : Code} {Q : State → Prop} {g : GX} {A : Nat → Prop}
set_option maxHeartbeats 4000000 in
set_option maxRecDepth 100000 in
theorem w_M_readFunctions_9 {z : SM} (C : Cx g A p m c b_M_readFunctions 3 ss args R_M) (hQ : ∀ (pc : Nat) (H : Heap) (locs : List Loc) (ls : Array Slot), XW g A ss (wM g z) H locs → decode b_M_readFunctions pc = .ok (.return_, 1) → W p l e (rmX 4 90) ss m args below meth c H locs 0 0 Q (F0 m pc ls [])) (n : Nat) : ∀ (x1 : Int32) (x2 : Int32) (s : SM) (H : Heap) (locs : List Loc) (ls : Array Slot), XW g A ss (wM g s) H locs → lv_has ls 3 [(0, .ref (g.q 60)), (1, .int x1), (2, .int x2)] → f_M_readFunctions_9 n x1 x2 s = some z → W p l e (rmX 4 90) ss m args below meth c H locs 0 0 Q (F0 m 9 ls []) := by
  have ⟨⟨hx, hb, hml, hown, hts⟩, hK, hA, hN⟩ := C
  induction n with
  | zero => intro x1 x2 s H locs ls hX hl h; cases h
  | succ n ih =>
    intro x1 x2 s H locs ls hX hl h
    rw [f_M_readFunctions_9] at h
    refine lv_iload_n hx hb d_M_readFunctions_9 rfl (lv_at hl 2 rfl) ?_
    refine lv_iload_n hx hb d_M_readFunctions_10 rfl (lv_at hl 1 rfl) ?_
    refine lv_icmp_ge (tgt := 30) hx hb d_M_readFunctions_11 (by decide) (fun c11 => ?_) (fun c11 => ?_)
    · have h := ite_t c11 h
      refine lv_aload_n hx hb d_M_readFunctions_30 rfl (lv_at hl 0 rfl) ?_
      refine lv_iload_n hx hb d_M_readFunctions_31 rfl (lv_at hl 1 rfl) ?_
      obtain ⟨s1, es1, h⟩ := lt1_e h
      refine pm_functions C hX fl_M_188 d_M_readFunctions_32 (fun H locs hX => ?_)
      rw [← es1] at hX
      obtain rfl := so1 h
      exact hQ _ H locs ls hX d_M_readFunctions_35
    · have h := ite_f c11 h
      refine lv_aload_n hx hb d_M_readFunctions_14 rfl (lv_at hl 0 rfl) ?_
      refine gm_typeOf C hX fl_M_19 d_M_readFunctions_15 ?_
      refine lv_iload_n hx hb d_M_readFunctions_18 rfl (lv_at hl 2 rfl) ?_
      refine lv_aload_n hx hb d_M_readFunctions_19 rfl (lv_at hl 0 rfl) ?_
      obtain ⟨r3, s2, hc20, h⟩ := bd_e h
      refine x_vL (As := []) (rest := [.int x2, .ref (g.q 64)]) C hX (c_M_unsigned l g s (r3, s2) hc20) (cw_M_168 C.1.2.2.2.2 C.2.2.2 ⟨by decide, by decide⟩) (x_rc C hX vg_0 rfl) rfl hl.1 rfl (lv_room (Nat.le_of_ble_eq_true rfl)) d_M_readFunctions_20 ⟨Nat.le_refl _, Nat.le_refl _⟩ (fun H locs hX => ?_)
      obtain ⟨hz23, h⟩ := gi_e h
      obtain ⟨s4, es4, h⟩ := lt1_e h
      refine asm_4 C hX hz23 d_M_readFunctions_23 (fun H locs hX => ?_)
      rw [← es4] at hX
      obtain ⟨v5, ev5, h⟩ := lt1_e h
      refine lv_iinc (v := v5) (lv' := [(2, .int v5), (0, .ref (g.q 60)), (1, .int x1)]) hx hb d_M_readFunctions_24 hl (k := 2) rfl (by rw [ev5]; rfl) (by decide) rfl (fun ls hl => ?_)
      refine lv_goto (tgt := 9) hx hb d_M_readFunctions_27 (by decide) ?_
      exact ih x1 v5 s4 H locs ls hX (lv_sub hl [1, 2, 0] rfl) h
set_option maxHeartbeats 4000000 in
set_option maxRecDepth 100000 in
theorem w_M_readFunctions {z : SM} (C : Cx g A p m c b_M_readFunctions 3 ss args R_M) (hQ : ∀ (pc : Nat) (H : Heap) (locs : List Loc) (ls : Array Slot), XW g A ss (wM g z) H locs → decode b_M_readFunctions pc = .ok (.return_, 1) → W p l e (rmX 4 90) ss m args below meth c H locs 0 0 Q (F0 m pc ls [])) : ∀ (s : SM) (H : Heap) (locs : List Loc) (ls : Array Slot), XW g A ss (wM g s) H locs → lv_has ls 3 [(0, .ref (g.q 60))] → f_M_readFunctions s = some z → W p l e (rmX 4 90) ss m args below meth c H locs 0 0 Q (F0 m 0 ls []) := by
  have ⟨⟨hx, hb, hml, hown, hts⟩, hK, hA, hN⟩ := C
  intro s H locs ls hX hl h
  rw [f_M_readFunctions] at h
  refine lv_aload_n hx hb d_M_readFunctions_0 rfl (lv_at hl 0 rfl) ?_
  refine lv_bipush (v := 8) hx hb d_M_readFunctions_1 (by decide) ?_
  obtain ⟨r2, s1, hc3, h⟩ := bd_e h
  refine x_vI (As := [.int 8]) (rest := []) C hX (c_M_count l g 8 s (r2, s1) hc3) (cw_M_212 C.1.2.2.2.2 C.2.2.2 ⟨by decide, by decide⟩) (x_rc C hX vg_0 rfl) rfl hl.1 rfl (lv_room (Nat.le_of_ble_eq_true rfl)) d_M_readFunctions_3 ⟨Nat.le_refl _, Nat.le_refl _⟩ (fun H locs hX => ?_)
  refine lv_istore_n (lv' := [(1, .int r2), (0, .ref (g.q 60))]) hx hb d_M_readFunctions_6 rfl hl (by decide) rfl (fun ls hl => ?_)
  refine lv_iconst (v := 0) hx hb d_M_readFunctions_7 (by decide) ?_
  refine lv_istore_n (lv' := [(2, .int 0), (1, .int r2), (0, .ref (g.q 60))]) hx hb d_M_readFunctions_8 rfl hl (by decide) rfl (fun ls hl => ?_)
  exact w_M_readFunctions_9 C hQ FU r2 0 s1 H locs ls hX (lv_sub hl [2, 1, 0] rfl) h
end WALK
theorem c_M_readFunctions (l : Launch) (g : GX) (s : SM) (z : SM) (h : f_M_readFunctions s = some z) : MV l g y_M_readFunctions b_M_readFunctions 3 none 4 90 [.ref (g.q 60)] (wM g s) (wM g z) :=
  MV.mk (own := R_M) (by decide) rfl (Nat.le_of_ble_eq_true rfl) fun p e ss m below meth c A Q C hQ ls hX hl => w_M_readFunctions C hQ s _ _ ls hX hl h
-- M_one
def f_M_one_16 (x1 : Int32) (x2 : Int32) (y1 : Int32) (s : SM) : Option (Int32 × SM) :=
    bd1 (f_M_will y1 1 s) fun s1 =>
    some (x2, s1)
def f_M_one (x1 : Int32) (s : SM) : Option (Int32 × SM) :=
    bd (f_M_next s) fun r2 s1 =>
    if x1 ≤ r2 then
      f_M_one_16 x1 r2 0 s1
    else
      f_M_one_16 x1 r2 1 s1
section WALK
variable {p : Program} {l : Launch} {e : Env} {ss : State} {m : MethodId} {args : Array Value} {below : List Frame} {meth : Method} {c : Code} {Q : State → Prop} {g : GX} {A : Nat → Prop}
set_option maxHeartbeats 4000000 in
set_option maxRecDepth 100000 in
theorem w_M_one_16 {z : Int32 × SM} (C : Cx g A p m c b_M_one 3 ss args R_M) (hQ : ∀ (pc : Nat) (H : Heap) (locs : List Loc) (ls : Array Slot), XW g A ss (wM g z.2) H locs → decode b_M_one pc = .ok (.ireturn, 1) → W p l e (rmX 2 42) ss m args below meth c H locs 0 0 Q (F0 m pc ls [.int z.1])) : ∀ (x1 : Int32) (x2 : Int32) (y1 : Int32) (s : SM) (H : Heap) (locs : List Loc) (ls : Array Slot), XW g A ss (wM g s) H locs → lv_has ls 3 [(0, .ref (g.q 60)), (1, .int x1), (2, .int x2)] → f_M_one_16 x1 x2 y1 s = some z → W p l e (rmX 2 42) ss m args below meth c H locs 0 0 Q (F0 m 16 ls [.int y1, .ref (g.q 60)]) := by
  have ⟨⟨hx, hb, hml, hown, hts⟩, hK, hA, hN⟩ := C
  intro x1 x2 y1 s H locs ls hX hl h
  rw [f_M_one_16] at h
  refine lv_iconst (v := 1) hx hb d_M_one_16 (by decide) ?_
  obtain ⟨s1, hc17, h⟩ := bd1_e h
  refine x_vV (As := [.int y1, .int 1]) (rest := []) C hX (c_M_will l g y1 1 s s1 hc17) (cw_M_158 C.1.2.2.2.2 C.2.2.2 ⟨by decide, by decide⟩) (x_rc C hX vg_0 rfl) rfl hl.1 rfl (lv_room (Nat.le_of_ble_eq_true rfl)) d_M_one_17 ⟨Nat.le_refl _, Nat.le_refl _⟩ (fun H locs hX => ?_)
  refine lv_iload_n hx hb d_M_one_20 rfl (lv_at hl 2 rfl) ?_
  obtain rfl := so1 h
  exact hQ _ H locs ls hX d_M_one_21
set_option maxHeartbeats 4000000 in
set_option maxRecDepth 100000 in
theorem w_M_one {z : Int32 × SM} (C : Cx g A p m c b_M_one 3 ss args R_M) (hQ : ∀ (pc : Nat) (H : Heap) (locs : List Loc) (ls : Array Slot), XW g A ss (wM g z.2) H locs → decode b_M_one pc = .ok (.ireturn, 1) → W p l e (rmX 2 42) ss m args below meth c H locs 0 0 Q (F0 m pc ls [.int z.1])) : ∀ (x1 : Int32) (s : SM) (H : Heap) (locs : List Loc) (ls : Array Slot), XW g A ss (wM g s) H locs → lv_has ls 3 [(0, .ref (g.q 60)), (1, .int x1)] → f_M_one x1 s = some z → W p l e (rmX 2 42) ss m args below meth c H locs 0 0 Q (F0 m 0 ls []) := by
  have ⟨⟨hx, hb, hml, hown, hts⟩, hK, hA, hN⟩ := C
  intro x1 s H locs ls hX hl h
  rw [f_M_one] at h
  refine lv_aload_n hx hb d_M_one_0 rfl (lv_at hl 0 rfl) ?_
  obtain ⟨r2, s1, hc1, h⟩ := bd_e h
  refine x_vI (As := []) (rest := []) C hX (c_M_next l g s (r2, s1) hc1) (cw_M_162 C.1.2.2.2.2 C.2.2.2 ⟨by decide, by decide⟩) (x_rc C hX vg_0 rfl) rfl hl.1 rfl (lv_room (Nat.le_of_ble_eq_true rfl)) d_M_one_1 ⟨Nat.le_refl _, Nat.le_refl _⟩ (fun H locs hX => ?_)
  refine lv_istore_n (lv' := [(2, .int r2), (0, .ref (g.q 60)), (1, .int x1)]) hx hb d_M_one_4 rfl hl (by decide) rfl (fun ls hl => ?_)
  refine lv_aload_n hx hb d_M_one_5 rfl (lv_at hl 1 rfl) ?_
  refine lv_iload_n hx hb d_M_one_6 rfl (lv_at hl 0 rfl) ?_
  refine lv_iload_n hx hb d_M_one_7 rfl (lv_at hl 2 rfl) ?_
  refine lv_icmp_ge (tgt := 15) hx hb d_M_one_8 (by decide) (fun c8 => ?_) (fun c8 => ?_)
  · have h := ite_t c8 h
    refine lv_iconst (v := 0) hx hb d_M_one_15 (by decide) ?_
    exact w_M_one_16 C hQ x1 r2 0 s1 H locs ls hX (lv_sub hl [1, 2, 0] rfl) h
  · have h := ite_f c8 h
    refine lv_iconst (v := 1) hx hb d_M_one_11 (by decide) ?_
    refine lv_goto (tgt := 16) hx hb d_M_one_12 (by decide) ?_
    exact w_M_one_16 C hQ x1 r2 1 s1 H locs ls hX (lv_sub hl [1, 2, 0] rfl) h
end WALK
theorem c_M_one (l : Launch) (g : GX) (x1 : Int32) (s : SM) (z : Int32 × SM) (h : f_M_one x1 s = some z) : MI l g y_M_one b_M_one 3 (some .int) 2 42 [.ref (g.q 60), .int x1] (wM g s) z.1 (wM g z.2) :=
  MI.mk (own := R_M) (by decide) rfl (Nat.le_of_ble_eq_true rfl) fun p e ss m below meth c A Q C hQ ls hX hl => w_M_one C hQ x1 s _ _ ls hX hl h
-- M_readMemory
def f_M_readMemory_87 (y1 : Int64) (s : SM) : Option SM :=
    lt1 (stL s 0 1 y1) fun s1 =>
    some s1
def f_M_readMemory_67 (y1 : Int32) (s : SM) : Option SM :=
    bd1 (f_M_will y1 2 s) fun s1 =>
    if s1.1 0 10 = 0 then
      f_M_readMemory_87 0 s1
    else
      bd (f_M_unsigned s1) fun r3 s2 =>
      f_M_readMemory_87 r3 s2
def f_M_readMemory_39 (y1 : Int32) (s : SM) : Option SM :=
    bz (y1) <|
    lt1 (stI s 0 10 y1) fun s1 =>
    bd (f_M_unsigned s1) fun r3 s2 =>
    lt1 (stL s2 0 0 r3) fun s4 =>
    lt1 (lg_cmp (s4.2 0 0) 4) fun v5 =>
    if 0 < v5 then
      f_M_readMemory_67 0 s4
    else
      f_M_readMemory_67 1 s4
def f_M_readMemory_23 (s : SM) : Option SM :=
    some s
def f_M_readMemory (s : SM) : Option SM :=
    bd (f_M_count 1 s) fun r2 s1 =>
    lt1 (stI s1 0 9 r2) fun s3 =>
    if s3.1 0 9 = 0 then
      f_M_readMemory_23 s3
    else
      if s3.1 0 5 ≤ 0 then
        bd (f_M_one 2 s3) fun r5 s4 =>
        if r5 = 1 then
          f_M_readMemory_39 1 s4
        else
          f_M_readMemory_39 0 s4
      else
        f_M_readMemory_23 s3
section WALK
variable {p : Program} {l : Launch} {e : Env} {ss : State} {m : MethodId} {args : Array Value} {below : List Frame} {meth : Method} {c : Code} {Q : State → Prop} {g : GX} {A : Nat → Prop}
set_option maxHeartbeats 4000000 in
set_option maxRecDepth 100000 in
theorem w_M_readMemory_87 {z : SM} (C : Cx g A p m c b_M_readMemory 1 ss args R_M) (hQ : ∀ (pc : Nat) (H : Heap) (locs : List Loc) (ls : Array Slot), XW g A ss (wM g z) H locs → decode b_M_readMemory pc = .ok (.return_, 1) → W p l e (rmX 4 90) ss m args below meth c H locs 0 0 Q (F0 m pc ls [])) : ∀ (y1 : Int64) (s : SM) (H : Heap) (locs : List Loc) (ls : Array Slot), XW g A ss (wM g s) H locs → lv_has ls 1 [(0, .ref (g.q 60))] → f_M_readMemory_87 y1 s = some z → W p l e (rmX 4 90) ss m args below meth c H locs 0 0 Q (F0 m 87 ls [.long y1, .ref (g.q 60)]) := by
  have ⟨⟨hx, hb, hml, hown, hts⟩, hK, hA, hN⟩ := C
  intro y1 s H locs ls hX hl h
  rw [f_M_readMemory_87] at h
  obtain ⟨s1, es1, h⟩ := lt1_e h
  refine pm_most C hX fl_M_237 d_M_readMemory_87 (fun H locs hX => ?_)
  rw [← es1] at hX
  obtain rfl := so1 h
  exact hQ _ H locs ls hX d_M_readMemory_90
set_option maxHeartbeats 4000000 in
set_option maxRecDepth 100000 in
theorem w_M_readMemory_67 {z : SM} (C : Cx g A p m c b_M_readMemory 1 ss args R_M) (hQ : ∀ (pc : Nat) (H : Heap) (locs : List Loc) (ls : Array Slot), XW g A ss (wM g z) H locs → decode b_M_readMemory pc = .ok (.return_, 1) → W p l e (rmX 4 90) ss m args below meth c H locs 0 0 Q (F0 m pc ls [])) : ∀ (y1 : Int32) (s : SM) (H : Heap) (locs : List Loc) (ls : Array Slot), XW g A ss (wM g s) H locs → lv_has ls 1 [(0, .ref (g.q 60))] → f_M_readMemory_67 y1 s = some z → W p l e (rmX 4 90) ss m args below meth c H locs 0 0 Q (F0 m 67 ls [.int y1, .ref (g.q 60)]) := by
  have ⟨⟨hx, hb, hml, hown, hts⟩, hK, hA, hN⟩ := C
  intro y1 s H locs ls hX hl h
  rw [f_M_readMemory_67] at h
  refine lv_iconst (v := 2) hx hb d_M_readMemory_67 (by decide) ?_
  obtain ⟨s1, hc68, h⟩ := bd1_e h
  refine x_vV (As := [.int y1, .int 2]) (rest := []) C hX (c_M_will l g y1 2 s s1 hc68) (cw_M_158 C.1.2.2.2.2 C.2.2.2 ⟨by decide, by decide⟩) (x_rc C hX vg_0 rfl) rfl hl.1 rfl (lv_room (Nat.le_of_ble_eq_true rfl)) d_M_readMemory_68 ⟨Nat.le_refl _, Nat.le_refl _⟩ (fun H locs hX => ?_)
  refine lv_aload_n hx hb d_M_readMemory_71 rfl (lv_at hl 0 rfl) ?_
  refine lv_aload_n hx hb d_M_readMemory_72 rfl (lv_at hl 0 rfl) ?_
  refine gm_capped C hX fl_M_228 d_M_readMemory_73 ?_
  refine lv_if_eq (tgt := 86) hx hb d_M_readMemory_76 (by decide) (fun c76 => ?_) (fun c76 => ?_)
  · have h := ite_t c76 h
    refine lv_lconst (v := 0) hx hb d_M_readMemory_86 (by decide) ?_
    exact w_M_readMemory_87 C hQ 0 s1 H locs ls hX hl h
  · have h := ite_f c76 h
    refine lv_aload_n hx hb d_M_readMemory_79 rfl (lv_at hl 0 rfl) ?_
    obtain ⟨r3, s2, hc80, h⟩ := bd_e h
    refine x_vL (As := []) (rest := [.ref (g.q 60)]) C hX (c_M_unsigned l g s1 (r3, s2) hc80) (cw_M_168 C.1.2.2.2.2 C.2.2.2 ⟨by decide, by decide⟩) (x_rc C hX vg_0 rfl) rfl hl.1 rfl (lv_room (Nat.le_of_ble_eq_true rfl)) d_M_readMemory_80 ⟨Nat.le_refl _, Nat.le_refl _⟩ (fun H locs hX => ?_)
    refine lv_goto (tgt := 87) hx hb d_M_readMemory_83 (by decide) ?_
    exact w_M_readMemory_87 C hQ r3 s2 H locs ls hX hl h
set_option maxHeartbeats 4000000 in
set_option maxRecDepth 100000 in
theorem w_M_readMemory_39 {z : SM} (C : Cx g A p m c b_M_readMemory 1 ss args R_M) (hQ : ∀ (pc : Nat) (H : Heap) (locs : List Loc) (ls : Array Slot), XW g A ss (wM g z) H locs → decode b_M_readMemory pc = .ok (.return_, 1) → W p l e (rmX 4 90) ss m args below meth c H locs 0 0 Q (F0 m pc ls [])) : ∀ (y1 : Int32) (s : SM) (H : Heap) (locs : List Loc) (ls : Array Slot), XW g A ss (wM g s) H locs → lv_has ls 1 [(0, .ref (g.q 60))] → f_M_readMemory_39 y1 s = some z → W p l e (rmX 4 90) ss m args below meth c H locs 0 0 Q (F0 m 39 ls [.int y1, .ref (g.q 60)]) := by
  have ⟨⟨hx, hb, hml, hown, hts⟩, hK, hA, hN⟩ := C
  intro y1 s H locs ls hX hl h
  rw [f_M_readMemory_39] at h
  obtain ⟨hz39, h⟩ := bz_e h
  obtain ⟨s1, es1, h⟩ := lt1_e h
  refine pm_capped C hX fl_M_228 hz39 d_M_readMemory_39 (fun H locs hX => ?_)
  rw [← es1] at hX
  refine lv_aload_n hx hb d_M_readMemory_42 rfl (lv_at hl 0 rfl) ?_
  refine lv_aload_n hx hb d_M_readMemory_43 rfl (lv_at hl 0 rfl) ?_
  obtain ⟨r3, s2, hc44, h⟩ := bd_e h
  refine x_vL (As := []) (rest := [.ref (g.q 60)]) C hX (c_M_unsigned l g s1 (r3, s2) hc44) (cw_M_168 C.1.2.2.2.2 C.2.2.2 ⟨by decide, by decide⟩) (x_rc C hX vg_0 rfl) rfl hl.1 rfl (lv_room (Nat.le_of_ble_eq_true rfl)) d_M_readMemory_44 ⟨Nat.le_refl _, Nat.le_refl _⟩ (fun H locs hX => ?_)
  obtain ⟨s4, es4, h⟩ := lt1_e h
  refine pm_least C hX fl_M_231 d_M_readMemory_47 (fun H locs hX => ?_)
  rw [← es4] at hX
  refine lv_aload_n hx hb d_M_readMemory_50 rfl (lv_at hl 0 rfl) ?_
  refine lv_aload_n hx hb d_M_readMemory_51 rfl (lv_at hl 0 rfl) ?_
  refine gm_least C hX fl_M_231 d_M_readMemory_52 ?_
  refine lv_ldc2 (v := 4) hx hb hown (hts _ m_constantLong_M_235) d_M_readMemory_55 ?_
  obtain ⟨v5, ev5, h⟩ := lt1_e h
  refine x_lcmp hx hb d_M_readMemory_58 ev5 ?_
  refine lv_if_gt (tgt := 66) hx hb d_M_readMemory_59 (by decide) (fun c59 => ?_) (fun c59 => ?_)
  · have h := ite_t c59 h
    refine lv_iconst (v := 0) hx hb d_M_readMemory_66 (by decide) ?_
    exact w_M_readMemory_67 C hQ 0 s4 H locs ls hX hl h
  · have h := ite_f c59 h
    refine lv_iconst (v := 1) hx hb d_M_readMemory_62 (by decide) ?_
    refine lv_goto (tgt := 67) hx hb d_M_readMemory_63 (by decide) ?_
    exact w_M_readMemory_67 C hQ 1 s4 H locs ls hX hl h
set_option maxHeartbeats 4000000 in
set_option maxRecDepth 100000 in
theorem w_M_readMemory_23 {z : SM} (C : Cx g A p m c b_M_readMemory 1 ss args R_M) (hQ : ∀ (pc : Nat) (H : Heap) (locs : List Loc) (ls : Array Slot), XW g A ss (wM g z) H locs → decode b_M_readMemory pc = .ok (.return_, 1) → W p l e (rmX 4 90) ss m args below meth c H locs 0 0 Q (F0 m pc ls [])) : ∀ (s : SM) (H : Heap) (locs : List Loc) (ls : Array Slot), XW g A ss (wM g s) H locs → lv_has ls 1 [(0, .ref (g.q 60))] → f_M_readMemory_23 s = some z → W p l e (rmX 4 90) ss m args below meth c H locs 0 0 Q (F0 m 23 ls []) := by
  have ⟨⟨hx, hb, hml, hown, hts⟩, hK, hA, hN⟩ := C
  intro s H locs ls hX hl h
  rw [f_M_readMemory_23] at h
  obtain rfl := so1 h
  exact hQ _ H locs ls hX d_M_readMemory_23
set_option maxHeartbeats 4000000 in
set_option maxRecDepth 100000 in
theorem w_M_readMemory {z : SM} (C : Cx g A p m c b_M_readMemory 1 ss args R_M) (hQ : ∀ (pc : Nat) (H : Heap) (locs : List Loc) (ls : Array Slot), XW g A ss (wM g z) H locs → decode b_M_readMemory pc = .ok (.return_, 1) → W p l e (rmX 4 90) ss m args below meth c H locs 0 0 Q (F0 m pc ls [])) : ∀ (s : SM) (H : Heap) (locs : List Loc) (ls : Array Slot), XW g A ss (wM g s) H locs → lv_has ls 1 [(0, .ref (g.q 60))] → f_M_readMemory s = some z → W p l e (rmX 4 90) ss m args below meth c H locs 0 0 Q (F0 m 0 ls []) := by
  have ⟨⟨hx, hb, hml, hown, hts⟩, hK, hA, hN⟩ := C
  intro s H locs ls hX hl h
  rw [f_M_readMemory] at h
  refine lv_aload_n hx hb d_M_readMemory_0 rfl (lv_at hl 0 rfl) ?_
  refine lv_aload_n hx hb d_M_readMemory_1 rfl (lv_at hl 0 rfl) ?_
  refine lv_iconst (v := 1) hx hb d_M_readMemory_2 (by decide) ?_
  obtain ⟨r2, s1, hc3, h⟩ := bd_e h
  refine x_vI (As := [.int 1]) (rest := [.ref (g.q 60)]) C hX (c_M_count l g 1 s (r2, s1) hc3) (cw_M_212 C.1.2.2.2.2 C.2.2.2 ⟨by decide, by decide⟩) (x_rc C hX vg_0 rfl) rfl hl.1 rfl (lv_room (Nat.le_of_ble_eq_true rfl)) d_M_readMemory_3 ⟨Nat.le_refl _, Nat.le_refl _⟩ (fun H locs hX => ?_)
  obtain ⟨s3, es3, h⟩ := lt1_e h
  refine pm_memories C hX fl_M_222 d_M_readMemory_6 (fun H locs hX => ?_)
  rw [← es3] at hX
  refine lv_aload_n hx hb d_M_readMemory_9 rfl (lv_at hl 0 rfl) ?_
  refine gm_memories C hX fl_M_222 d_M_readMemory_10 ?_
  refine lv_if_eq (tgt := 23) hx hb d_M_readMemory_13 (by decide) (fun c13 => ?_) (fun c13 => ?_)
  · have h := ite_t c13 h
    exact w_M_readMemory_23 C hQ s3 H locs ls hX hl h
  · have h := ite_f c13 h
    refine lv_aload_n hx hb d_M_readMemory_16 rfl (lv_at hl 0 rfl) ?_
    refine gm_wrong C hX fl_M_149 d_M_readMemory_17 ?_
    refine lv_if_le (tgt := 24) hx hb d_M_readMemory_20 (by decide) (fun c20 => ?_) (fun c20 => ?_)
    · have h := ite_t c20 h
      refine lv_aload_n hx hb d_M_readMemory_24 rfl (lv_at hl 0 rfl) ?_
      refine lv_aload_n hx hb d_M_readMemory_25 rfl (lv_at hl 0 rfl) ?_
      refine lv_iconst (v := 2) hx hb d_M_readMemory_26 (by decide) ?_
      obtain ⟨r5, s4, hc27, h⟩ := bd_e h
      refine x_vI (As := [.int 2]) (rest := [.ref (g.q 60)]) C hX (c_M_one l g 2 s3 (r5, s4) hc27) (cw_M_225 C.1.2.2.2.2 C.2.2.2 ⟨by decide, by decide⟩) (x_rc C hX vg_0 rfl) rfl hl.1 rfl (lv_room (Nat.le_of_ble_eq_true rfl)) d_M_readMemory_27 ⟨Nat.le_refl _, Nat.le_refl _⟩ (fun H locs hX => ?_)
      refine lv_iconst (v := 1) hx hb d_M_readMemory_30 (by decide) ?_
      refine lv_icmp_ne (tgt := 38) hx hb d_M_readMemory_31 (by decide) (fun c31 => ?_) (fun c31 => ?_)
      · have h := ite_f c31 h
        refine lv_iconst (v := 0) hx hb d_M_readMemory_38 (by decide) ?_
        exact w_M_readMemory_39 C hQ 0 s4 H locs ls hX hl h
      · have h := ite_t c31 h
        refine lv_iconst (v := 1) hx hb d_M_readMemory_34 (by decide) ?_
        refine lv_goto (tgt := 39) hx hb d_M_readMemory_35 (by decide) ?_
        exact w_M_readMemory_39 C hQ 1 s4 H locs ls hX hl h
    · have h := ite_f c20 h
      exact w_M_readMemory_23 C hQ s3 H locs ls hX hl h
end WALK
theorem c_M_readMemory (l : Launch) (g : GX) (s : SM) (z : SM) (h : f_M_readMemory s = some z) : MV l g y_M_readMemory b_M_readMemory 1 none 4 90 [.ref (g.q 60)] (wM g s) (wM g z) :=
  MV.mk (own := R_M) (by decide) rfl (Nat.le_of_ble_eq_true rfl) fun p e ss m below meth c A Q C hQ ls hX hl => w_M_readMemory C hQ s _ _ ls hX hl h
-- M_signed
def f_M_signed_134 (x1 : Int64) (x3 : Int32) (x4 : Int32) (s : SM) : Option (Int32 × SM) :=
    lt1 (Int64.toInt32 x1) fun v1 =>
    some (v1, s)
def f_M_signed_128 (k7 : Int64 → Int32 → Int32 → SM → Option (Int32 × SM)) (x1 : Int64) (x3 : Int32) (x4 : Int32) (x5 : Int32) (x6 : Int32) (s : SM) : Option (Int32 × SM) :=
    lt1 (x4 + (1)) fun v1 =>
    k7 x1 x3 v1 s
def f_M_signed_100 (k7 : Int64 → Int32 → Int32 → SM → Option (Int32 × SM)) (x1 : Int64) (x3 : Int32) (x4 : Int32) (x5 : Int32) (x6 : Int32) (y0 : Int32) (s : SM) : Option (Int32 × SM) :=
    if y0 = 0 then
      lt1 (x5 &&& 64) fun v1 =>
      if v1 = 0 then
        f_M_signed_128 k7 x1 y0 x4 x5 x6 s
      else
        lt1 (7 * x4) fun v2 =>
        lt1 (v2 + 7) fun v3 =>
        lt1 ((-1) <<< (Int32.toInt64 v3 &&& 63)) fun v4 =>
        lt1 (x1 ||| v4) fun v5 =>
        f_M_signed_128 k7 v5 y0 x4 x5 x6 s
    else
      f_M_signed_128 k7 x1 y0 x4 x5 x6 s
def f_M_signed_69 (k7 : Int64 → Int32 → Int32 → SM → Option (Int32 × SM)) (x1 : Int64) (x3 : Int32) (x4 : Int32) (x5 : Int32) (x6 : Int32) (y1 : Int32) (s : SM) : Option (Int32 × SM) :=
    bd1 (f_M_will y1 1 s) fun s1 =>
    lt1 (x5 &&& 127) fun v2 =>
    lt1 (Int32.toInt64 v2) fun v3 =>
    lt1 (7 * x4) fun v4 =>
    lt1 (v3 <<< (Int32.toInt64 v4 &&& 63)) fun v5 =>
    lt1 (x1 ||| v5) fun v6 =>
    if x5 ≤ 127 then
      f_M_signed_100 k7 v6 x3 x4 x5 x6 0 s1
    else
      f_M_signed_100 k7 v6 x3 x4 x5 x6 1 s1
def f_M_signed_68 (k7 : Int64 → Int32 → Int32 → SM → Option (Int32 × SM)) (x1 : Int64) (x3 : Int32) (x4 : Int32) (x5 : Int32) (x6 : Int32) (s : SM) : Option (Int32 × SM) :=
    f_M_signed_69 k7 x1 x3 x4 x5 x6 0 s
def f_M_signed_64 (k7 : Int64 → Int32 → Int32 → SM → Option (Int32 × SM)) (x1 : Int64) (x3 : Int32) (x4 : Int32) (x5 : Int32) (x6 : Int32) (s : SM) : Option (Int32 × SM) :=
    f_M_signed_69 k7 x1 x3 x4 x5 x6 1 s
def f_M_signed_7 : Nat → Int64 → Int32 → Int32 → SM → Option (Int32 × SM)
  | 0, _, _, _, _ => none
  | n + 1, x1, x3, x4, s =>
    if 5 ≤ x4 then
      f_M_signed_134 x1 x3 x4 s
    else
      if x3 = 0 then
        f_M_signed_134 x1 x3 x4 s
      else
        if s.1 0 5 = 0 then
          bd (f_M_next s) fun r2 s1 =>
          lt1 (r2 &&& 120) fun v3 =>
          if x4 < 4 then
            f_M_signed_64 (f_M_signed_7 n) x1 x3 x4 r2 v3 s1
          else
            if 128 ≤ r2 then
              f_M_signed_68 (f_M_signed_7 n) x1 x3 x4 r2 v3 s1
            else
              if v3 = 0 then
                f_M_signed_64 (f_M_signed_7 n) x1 x3 x4 r2 v3 s1
              else
                if v3 = 120 then
                  f_M_signed_64 (f_M_signed_7 n) x1 x3 x4 r2 v3 s1
                else
                  f_M_signed_68 (f_M_signed_7 n) x1 x3 x4 r2 v3 s1
        else
          f_M_signed_134 x1 x3 x4 s
def f_M_signed (s : SM) : Option (Int32 × SM) :=
    f_M_signed_7 FU 0 1 0 s
section WALK
variable {p : Program} {l : Launch} {e : Env} {ss : State} {m : MethodId} {args : Array Value} {below : List Frame} {meth : Method} {c : Code} {Q : State → Prop} {g : GX} {A : Nat → Prop}
set_option maxHeartbeats 4000000 in
set_option maxRecDepth 100000 in
theorem w_M_signed_134 {z : Int32 × SM} (C : Cx g A p m c b_M_signed 7 ss args R_M) (hQ : ∀ (pc : Nat) (H : Heap) (locs : List Loc) (ls : Array Slot), XW g A ss (wM g z.2) H locs → decode b_M_signed pc = .ok (.ireturn, 1) → W p l e (rmX 2 42) ss m args below meth c H locs 0 0 Q (F0 m pc ls [.int z.1])) : ∀ (x1 : Int64) (x3 : Int32) (x4 : Int32) (s : SM) (H : Heap) (locs : List Loc) (ls : Array Slot), XW g A ss (wM g s) H locs → lv_has ls 7 [(0, .ref (g.q 60)), (1, .long x1), (3, .int x3), (4, .int x4)] → f_M_signed_134 x1 x3 x4 s = some z → W p l e (rmX 2 42) ss m args below meth c H locs 0 0 Q (F0 m 134 ls []) := by
  have ⟨⟨hx, hb, hml, hown, hts⟩, hK, hA, hN⟩ := C
  intro x1 x3 x4 s H locs ls hX hl h
  rw [f_M_signed_134] at h
  refine lv_lload_n hx hb d_M_signed_134 rfl (lv_at hl 1 rfl) ?_
  obtain ⟨v1, ev1, h⟩ := lt1_e h
  refine lv_l2i hx hb d_M_signed_135 ev1.symm ?_
  obtain rfl := so1 h
  exact hQ _ H locs ls hX d_M_signed_136
set_option maxHeartbeats 4000000 in
set_option maxRecDepth 100000 in
theorem w_M_signed_128 {z : Int32 × SM} (C : Cx g A p m c b_M_signed 7 ss args R_M) (hQ : ∀ (pc : Nat) (H : Heap) (locs : List Loc) (ls : Array Slot), XW g A ss (wM g z.2) H locs → decode b_M_signed pc = .ok (.ireturn, 1) → W p l e (rmX 2 42) ss m args below meth c H locs 0 0 Q (F0 m pc ls [.int z.1])) (k7 : Int64 → Int32 → Int32 → SM → Option (Int32 × SM)) (hk7 : ∀ (x1 : Int64) (x3 : Int32) (x4 : Int32) (s : SM) (H : Heap) (locs : List Loc) (ls : Array Slot), XW g A ss (wM g s) H locs → lv_has ls 7 [(0, .ref (g.q 60)), (1, .long x1), (3, .int x3), (4, .int x4)] → k7 x1 x3 x4 s = some z → W p l e (rmX 2 42) ss m args below meth c H locs 0 0 Q (F0 m 7 ls [])) : ∀ (x1 : Int64) (x3 : Int32) (x4 : Int32) (x5 : Int32) (x6 : Int32) (s : SM) (H : Heap) (locs : List Loc) (ls : Array Slot), XW g A ss (wM g s) H locs → lv_has ls 7 [(0, .ref (g.q 60)), (1, .long x1), (3, .int x3), (4, .int x4), (5, .int x5), (6, .int x6)] → f_M_signed_128 k7 x1 x3 x4 x5 x6 s = some z → W p l e (rmX 2 42) ss m args below meth c H locs 0 0 Q (F0 m 128 ls []) := by
  have ⟨⟨hx, hb, hml, hown, hts⟩, hK, hA, hN⟩ := C
  intro x1 x3 x4 x5 x6 s H locs ls hX hl h
  rw [f_M_signed_128] at h
  obtain ⟨v1, ev1, h⟩ := lt1_e h
  refine lv_iinc (v := v1) (lv' := [(4, .int v1), (0, .ref (g.q 60)), (1, .long x1), (3, .int x3), (5, .int x5), (6, .int x6)]) hx hb d_M_signed_128 hl (k := 3) rfl (by rw [ev1]; rfl) (by decide) rfl (fun ls hl => ?_)
  refine lv_goto (tgt := 7) hx hb d_M_signed_131 (by decide) ?_
  exact hk7 x1 x3 v1 s H locs ls hX (lv_sub hl [1, 2, 3, 0] rfl) h
set_option maxHeartbeats 4000000 in
set_option maxRecDepth 100000 in
theorem w_M_signed_100 {z : Int32 × SM} (C : Cx g A p m c b_M_signed 7 ss args R_M) (hQ : ∀ (pc : Nat) (H : Heap) (locs : List Loc) (ls : Array Slot), XW g A ss (wM g z.2) H locs → decode b_M_signed pc = .ok (.ireturn, 1) → W p l e (rmX 2 42) ss m args below meth c H locs 0 0 Q (F0 m pc ls [.int z.1])) (k7 : Int64 → Int32 → Int32 → SM → Option (Int32 × SM)) (hk7 : ∀ (x1 : Int64) (x3 : Int32) (x4 : Int32) (s : SM) (H : Heap) (locs : List Loc) (ls : Array Slot), XW g A ss (wM g s) H locs → lv_has ls 7 [(0, .ref (g.q 60)), (1, .long x1), (3, .int x3), (4, .int x4)] → k7 x1 x3 x4 s = some z → W p l e (rmX 2 42) ss m args below meth c H locs 0 0 Q (F0 m 7 ls [])) : ∀ (x1 : Int64) (x3 : Int32) (x4 : Int32) (x5 : Int32) (x6 : Int32) (y0 : Int32) (s : SM) (H : Heap) (locs : List Loc) (ls : Array Slot), XW g A ss (wM g s) H locs → lv_has ls 7 [(0, .ref (g.q 60)), (1, .long x1), (3, .int x3), (4, .int x4), (5, .int x5), (6, .int x6)] → f_M_signed_100 k7 x1 x3 x4 x5 x6 y0 s = some z → W p l e (rmX 2 42) ss m args below meth c H locs 0 0 Q (F0 m 100 ls [.int y0]) := by
  have ⟨⟨hx, hb, hml, hown, hts⟩, hK, hA, hN⟩ := C
  intro x1 x3 x4 x5 x6 y0 s H locs ls hX hl h
  rw [f_M_signed_100] at h
  refine lv_istore_n (lv' := [(3, .int y0), (0, .ref (g.q 60)), (1, .long x1), (4, .int x4), (5, .int x5), (6, .int x6)]) hx hb d_M_signed_100 rfl hl (by decide) rfl (fun ls hl => ?_)
  refine lv_iload_n hx hb d_M_signed_101 rfl (lv_at hl 0 rfl) ?_
  refine lv_if_ne (tgt := 128) hx hb d_M_signed_102 (by decide) (fun c102 => ?_) (fun c102 => ?_)
  · have h := ite_f c102 h
    exact w_M_signed_128 C hQ k7 hk7 x1 y0 x4 x5 x6 s H locs ls hX (lv_sub hl [1, 2, 0, 3, 4, 5] rfl) h
  · have h := ite_t c102 h
    refine lv_iload hx hb d_M_signed_105 (lv_at hl 4 rfl) ?_
    refine lv_bipush (v := 64) hx hb d_M_signed_107 (by decide) ?_
    obtain ⟨v1, ev1, h⟩ := lt1_e h
    refine x_iand hx hb d_M_signed_109 ev1 ?_
    refine lv_if_eq (tgt := 128) hx hb d_M_signed_110 (by decide) (fun c110 => ?_) (fun c110 => ?_)
    · have h := ite_t c110 h
      exact w_M_signed_128 C hQ k7 hk7 x1 y0 x4 x5 x6 s H locs ls hX (lv_sub hl [1, 2, 0, 3, 4, 5] rfl) h
    · have h := ite_f c110 h
      refine lv_lload_n hx hb d_M_signed_113 rfl (lv_at hl 2 rfl) ?_
      refine lv_ldc2 (v := (-1)) hx hb hown (hts _ m_constantLong_M_166) d_M_signed_114 ?_
      refine lv_bipush (v := 7) hx hb d_M_signed_117 (by decide) ?_
      refine lv_iload hx hb d_M_signed_119 (lv_at hl 3 rfl) ?_
      obtain ⟨v2, ev2, h⟩ := lt1_e h
      refine x_imul hx hb d_M_signed_121 ev2 ?_
      refine lv_bipush (v := 7) hx hb d_M_signed_122 (by decide) ?_
      obtain ⟨v3, ev3, h⟩ := lt1_e h
      refine x_iadd hx hb d_M_signed_124 ev3 ?_
      obtain ⟨v4, ev4, h⟩ := lt1_e h
      refine lv_lshl hx hb d_M_signed_125 ev4.symm ?_
      obtain ⟨v5, ev5, h⟩ := lt1_e h
      refine x_lor hx hb d_M_signed_126 ev5 ?_
      refine lv_lstore_n (lv' := [(1, .long v5), (3, .int y0), (0, .ref (g.q 60)), (4, .int x4), (5, .int x5), (6, .int x6)]) hx hb d_M_signed_127 rfl hl (by decide) rfl (fun ls hl => ?_)
      exact w_M_signed_128 C hQ k7 hk7 v5 y0 x4 x5 x6 s H locs ls hX (lv_sub hl [2, 0, 1, 3, 4, 5] rfl) h
set_option maxHeartbeats 4000000 in
set_option maxRecDepth 100000 in
theorem w_M_signed_69 {z : Int32 × SM} (C : Cx g A p m c b_M_signed 7 ss args R_M) (hQ : ∀ (pc : Nat) (H : Heap) (locs : List Loc) (ls : Array Slot), XW g A ss (wM g z.2) H locs → decode b_M_signed pc = .ok (.ireturn, 1) → W p l e (rmX 2 42) ss m args below meth c H locs 0 0 Q (F0 m pc ls [.int z.1])) (k7 : Int64 → Int32 → Int32 → SM → Option (Int32 × SM)) (hk7 : ∀ (x1 : Int64) (x3 : Int32) (x4 : Int32) (s : SM) (H : Heap) (locs : List Loc) (ls : Array Slot), XW g A ss (wM g s) H locs → lv_has ls 7 [(0, .ref (g.q 60)), (1, .long x1), (3, .int x3), (4, .int x4)] → k7 x1 x3 x4 s = some z → W p l e (rmX 2 42) ss m args below meth c H locs 0 0 Q (F0 m 7 ls [])) : ∀ (x1 : Int64) (x3 : Int32) (x4 : Int32) (x5 : Int32) (x6 : Int32) (y1 : Int32) (s : SM) (H : Heap) (locs : List Loc) (ls : Array Slot), XW g A ss (wM g s) H locs → lv_has ls 7 [(0, .ref (g.q 60)), (1, .long x1), (3, .int x3), (4, .int x4), (5, .int x5), (6, .int x6)] → f_M_signed_69 k7 x1 x3 x4 x5 x6 y1 s = some z → W p l e (rmX 2 42) ss m args below meth c H locs 0 0 Q (F0 m 69 ls [.int y1, .ref (g.q 60)]) := by
  have ⟨⟨hx, hb, hml, hown, hts⟩, hK, hA, hN⟩ := C
  intro x1 x3 x4 x5 x6 y1 s H locs ls hX hl h
  rw [f_M_signed_69] at h
  refine lv_iconst (v := 1) hx hb d_M_signed_69 (by decide) ?_
  obtain ⟨s1, hc70, h⟩ := bd1_e h
  refine x_vV (As := [.int y1, .int 1]) (rest := []) C hX (c_M_will l g y1 1 s s1 hc70) (cw_M_158 C.1.2.2.2.2 C.2.2.2 ⟨by decide, by decide⟩) (x_rc C hX vg_0 rfl) rfl hl.1 rfl (lv_room (Nat.le_of_ble_eq_true rfl)) d_M_signed_70 ⟨Nat.le_refl _, Nat.le_refl _⟩ (fun H locs hX => ?_)
  refine lv_lload_n hx hb d_M_signed_73 rfl (lv_at hl 1 rfl) ?_
  refine lv_iload hx hb d_M_signed_74 (lv_at hl 4 rfl) ?_
  refine lv_bipush (v := 127) hx hb d_M_signed_76 (by decide) ?_
  obtain ⟨v2, ev2, h⟩ := lt1_e h
  refine x_iand hx hb d_M_signed_78 ev2 ?_
  obtain ⟨v3, ev3, h⟩ := lt1_e h
  refine lv_i2l hx hb d_M_signed_79 ev3.symm ?_
  refine lv_bipush (v := 7) hx hb d_M_signed_80 (by decide) ?_
  refine lv_iload hx hb d_M_signed_82 (lv_at hl 3 rfl) ?_
  obtain ⟨v4, ev4, h⟩ := lt1_e h
  refine x_imul hx hb d_M_signed_84 ev4 ?_
  obtain ⟨v5, ev5, h⟩ := lt1_e h
  refine lv_lshl hx hb d_M_signed_85 ev5.symm ?_
  obtain ⟨v6, ev6, h⟩ := lt1_e h
  refine x_lor hx hb d_M_signed_86 ev6 ?_
  refine lv_lstore_n (lv' := [(1, .long v6), (0, .ref (g.q 60)), (3, .int x3), (4, .int x4), (5, .int x5), (6, .int x6)]) hx hb d_M_signed_87 rfl hl (by decide) rfl (fun ls hl => ?_)
  refine lv_iload hx hb d_M_signed_88 (lv_at hl 4 rfl) ?_
  refine lv_bipush (v := 127) hx hb d_M_signed_90 (by decide) ?_
  refine lv_icmp_le (tgt := 99) hx hb d_M_signed_92 (by decide) (fun c92 => ?_) (fun c92 => ?_)
  · have h := ite_t c92 h
    refine lv_iconst (v := 0) hx hb d_M_signed_99 (by decide) ?_
    exact w_M_signed_100 C hQ k7 hk7 v6 x3 x4 x5 x6 0 s1 H locs ls hX (lv_sub hl [1, 0, 2, 3, 4, 5] rfl) h
  · have h := ite_f c92 h
    refine lv_iconst (v := 1) hx hb d_M_signed_95 (by decide) ?_
    refine lv_goto (tgt := 100) hx hb d_M_signed_96 (by decide) ?_
    exact w_M_signed_100 C hQ k7 hk7 v6 x3 x4 x5 x6 1 s1 H locs ls hX (lv_sub hl [1, 0, 2, 3, 4, 5] rfl) h
set_option maxHeartbeats 4000000 in
set_option maxRecDepth 100000 in
theorem w_M_signed_68 {z : Int32 × SM} (C : Cx g A p m c b_M_signed 7 ss args R_M) (hQ : ∀ (pc : Nat) (H : Heap) (locs : List Loc) (ls : Array Slot), XW g A ss (wM g z.2) H locs → decode b_M_signed pc = .ok (.ireturn, 1) → W p l e (rmX 2 42) ss m args below meth c H locs 0 0 Q (F0 m pc ls [.int z.1])) (k7 : Int64 → Int32 → Int32 → SM → Option (Int32 × SM)) (hk7 : ∀ (x1 : Int64) (x3 : Int32) (x4 : Int32) (s : SM) (H : Heap) (locs : List Loc) (ls : Array Slot), XW g A ss (wM g s) H locs → lv_has ls 7 [(0, .ref (g.q 60)), (1, .long x1), (3, .int x3), (4, .int x4)] → k7 x1 x3 x4 s = some z → W p l e (rmX 2 42) ss m args below meth c H locs 0 0 Q (F0 m 7 ls [])) : ∀ (x1 : Int64) (x3 : Int32) (x4 : Int32) (x5 : Int32) (x6 : Int32) (s : SM) (H : Heap) (locs : List Loc) (ls : Array Slot), XW g A ss (wM g s) H locs → lv_has ls 7 [(0, .ref (g.q 60)), (1, .long x1), (3, .int x3), (4, .int x4), (5, .int x5), (6, .int x6)] → f_M_signed_68 k7 x1 x3 x4 x5 x6 s = some z → W p l e (rmX 2 42) ss m args below meth c H locs 0 0 Q (F0 m 68 ls [.ref (g.q 60)]) := by
  have ⟨⟨hx, hb, hml, hown, hts⟩, hK, hA, hN⟩ := C
  intro x1 x3 x4 x5 x6 s H locs ls hX hl h
  rw [f_M_signed_68] at h
  refine lv_iconst (v := 0) hx hb d_M_signed_68 (by decide) ?_
  exact w_M_signed_69 C hQ k7 hk7 x1 x3 x4 x5 x6 0 s H locs ls hX hl h
set_option maxHeartbeats 4000000 in
set_option maxRecDepth 100000 in
theorem w_M_signed_64 {z : Int32 × SM} (C : Cx g A p m c b_M_signed 7 ss args R_M) (hQ : ∀ (pc : Nat) (H : Heap) (locs : List Loc) (ls : Array Slot), XW g A ss (wM g z.2) H locs → decode b_M_signed pc = .ok (.ireturn, 1) → W p l e (rmX 2 42) ss m args below meth c H locs 0 0 Q (F0 m pc ls [.int z.1])) (k7 : Int64 → Int32 → Int32 → SM → Option (Int32 × SM)) (hk7 : ∀ (x1 : Int64) (x3 : Int32) (x4 : Int32) (s : SM) (H : Heap) (locs : List Loc) (ls : Array Slot), XW g A ss (wM g s) H locs → lv_has ls 7 [(0, .ref (g.q 60)), (1, .long x1), (3, .int x3), (4, .int x4)] → k7 x1 x3 x4 s = some z → W p l e (rmX 2 42) ss m args below meth c H locs 0 0 Q (F0 m 7 ls [])) : ∀ (x1 : Int64) (x3 : Int32) (x4 : Int32) (x5 : Int32) (x6 : Int32) (s : SM) (H : Heap) (locs : List Loc) (ls : Array Slot), XW g A ss (wM g s) H locs → lv_has ls 7 [(0, .ref (g.q 60)), (1, .long x1), (3, .int x3), (4, .int x4), (5, .int x5), (6, .int x6)] → f_M_signed_64 k7 x1 x3 x4 x5 x6 s = some z → W p l e (rmX 2 42) ss m args below meth c H locs 0 0 Q (F0 m 64 ls [.ref (g.q 60)]) := by
  have ⟨⟨hx, hb, hml, hown, hts⟩, hK, hA, hN⟩ := C
  intro x1 x3 x4 x5 x6 s H locs ls hX hl h
  rw [f_M_signed_64] at h
  refine lv_iconst (v := 1) hx hb d_M_signed_64 (by decide) ?_
  refine lv_goto (tgt := 69) hx hb d_M_signed_65 (by decide) ?_
  exact w_M_signed_69 C hQ k7 hk7 x1 x3 x4 x5 x6 1 s H locs ls hX hl h
set_option maxHeartbeats 4000000 in
set_option maxRecDepth 100000 in
theorem w_M_signed_7 {z : Int32 × SM} (C : Cx g A p m c b_M_signed 7 ss args R_M) (hQ : ∀ (pc : Nat) (H : Heap) (locs : List Loc) (ls : Array Slot), XW g A ss (wM g z.2) H locs → decode b_M_signed pc = .ok (.ireturn, 1) → W p l e (rmX 2 42) ss m args below meth c H locs 0 0 Q (F0 m pc ls [.int z.1])) (n : Nat) : ∀ (x1 : Int64) (x3 : Int32) (x4 : Int32) (s : SM) (H : Heap) (locs : List Loc) (ls : Array Slot), XW g A ss (wM g s) H locs → lv_has ls 7 [(0, .ref (g.q 60)), (1, .long x1), (3, .int x3), (4, .int x4)] → f_M_signed_7 n x1 x3 x4 s = some z → W p l e (rmX 2 42) ss m args below meth c H locs 0 0 Q (F0 m 7 ls []) := by
  have ⟨⟨hx, hb, hml, hown, hts⟩, hK, hA, hN⟩ := C
  induction n with
  | zero => intro x1 x3 x4 s H locs ls hX hl h; cases h
  | succ n ih =>
    intro x1 x3 x4 s H locs ls hX hl h
    rw [f_M_signed_7] at h
    refine lv_iload hx hb d_M_signed_7 (lv_at hl 3 rfl) ?_
    refine lv_iconst (v := 5) hx hb d_M_signed_9 (by decide) ?_
    refine lv_icmp_ge (tgt := 134) hx hb d_M_signed_10 (by decide) (fun c10 => ?_) (fun c10 => ?_)
    · have h := ite_t c10 h
      exact w_M_signed_134 C hQ x1 x3 x4 s H locs ls hX hl h
    · have h := ite_f c10 h
      refine lv_iload_n hx hb d_M_signed_13 rfl (lv_at hl 2 rfl) ?_
      refine lv_if_eq (tgt := 134) hx hb d_M_signed_14 (by decide) (fun c14 => ?_) (fun c14 => ?_)
      · have h := ite_t c14 h
        exact w_M_signed_134 C hQ x1 x3 x4 s H locs ls hX hl h
      · have h := ite_f c14 h
        refine lv_aload_n hx hb d_M_signed_17 rfl (lv_at hl 0 rfl) ?_
        refine gm_wrong C hX fl_M_149 d_M_signed_18 ?_
        refine lv_if_ne (tgt := 134) hx hb d_M_signed_21 (by decide) (fun c21 => ?_) (fun c21 => ?_)
        · have h := ite_f c21 h
          exact w_M_signed_134 C hQ x1 x3 x4 s H locs ls hX hl h
        · have h := ite_t c21 h
          refine lv_aload_n hx hb d_M_signed_24 rfl (lv_at hl 0 rfl) ?_
          obtain ⟨r2, s1, hc25, h⟩ := bd_e h
          refine x_vI (As := []) (rest := []) C hX (c_M_next l g s (r2, s1) hc25) (cw_M_162 C.1.2.2.2.2 C.2.2.2 ⟨by decide, by decide⟩) (x_rc C hX vg_0 rfl) rfl hl.1 rfl (lv_room (Nat.le_of_ble_eq_true rfl)) d_M_signed_25 ⟨Nat.le_refl _, Nat.le_refl _⟩ (fun H locs hX => ?_)
          refine lv_istore (lv' := [(5, .int r2), (0, .ref (g.q 60)), (1, .long x1), (3, .int x3), (4, .int x4)]) hx hb d_M_signed_28 hl (by decide) rfl (fun ls hl => ?_)
          refine lv_iload hx hb d_M_signed_30 (lv_at hl 0 rfl) ?_
          refine lv_bipush (v := 120) hx hb d_M_signed_32 (by decide) ?_
          obtain ⟨v3, ev3, h⟩ := lt1_e h
          refine x_iand hx hb d_M_signed_34 ev3 ?_
          refine lv_istore (lv' := [(6, .int v3), (5, .int r2), (0, .ref (g.q 60)), (1, .long x1), (3, .int x3), (4, .int x4)]) hx hb d_M_signed_35 hl (by decide) rfl (fun ls hl => ?_)
          refine lv_aload_n hx hb d_M_signed_37 rfl (lv_at hl 2 rfl) ?_
          refine lv_iload hx hb d_M_signed_38 (lv_at hl 5 rfl) ?_
          refine lv_iconst (v := 4) hx hb d_M_signed_40 (by decide) ?_
          refine lv_icmp_lt (tgt := 64) hx hb d_M_signed_41 (by decide) (fun c41 => ?_) (fun c41 => ?_)
          · have h := ite_t c41 h
            exact w_M_signed_64 C hQ (f_M_signed_7 n) ih x1 x3 x4 r2 v3 s1 H locs ls hX (lv_sub hl [2, 3, 4, 5, 1, 0] rfl) h
          · have h := ite_f c41 h
            refine lv_iload hx hb d_M_signed_44 (lv_at hl 1 rfl) ?_
            refine lv_sipush (v := 128) hx hb d_M_signed_46 (by decide) ?_
            refine lv_icmp_ge (tgt := 68) hx hb d_M_signed_49 (by decide) (fun c49 => ?_) (fun c49 => ?_)
            · have h := ite_t c49 h
              exact w_M_signed_68 C hQ (f_M_signed_7 n) ih x1 x3 x4 r2 v3 s1 H locs ls hX (lv_sub hl [2, 3, 4, 5, 1, 0] rfl) h
            · have h := ite_f c49 h
              refine lv_iload hx hb d_M_signed_52 (lv_at hl 0 rfl) ?_
              refine lv_if_eq (tgt := 64) hx hb d_M_signed_54 (by decide) (fun c54 => ?_) (fun c54 => ?_)
              · have h := ite_t c54 h
                exact w_M_signed_64 C hQ (f_M_signed_7 n) ih x1 x3 x4 r2 v3 s1 H locs ls hX (lv_sub hl [2, 3, 4, 5, 1, 0] rfl) h
              · have h := ite_f c54 h
                refine lv_iload hx hb d_M_signed_57 (lv_at hl 0 rfl) ?_
                refine lv_bipush (v := 120) hx hb d_M_signed_59 (by decide) ?_
                refine lv_icmp_ne (tgt := 68) hx hb d_M_signed_61 (by decide) (fun c61 => ?_) (fun c61 => ?_)
                · have h := ite_f c61 h
                  exact w_M_signed_68 C hQ (f_M_signed_7 n) ih x1 x3 x4 r2 v3 s1 H locs ls hX (lv_sub hl [2, 3, 4, 5, 1, 0] rfl) h
                · have h := ite_t c61 h
                  exact w_M_signed_64 C hQ (f_M_signed_7 n) ih x1 x3 x4 r2 v3 s1 H locs ls hX (lv_sub hl [2, 3, 4, 5, 1, 0] rfl) h
set_option maxHeartbeats 4000000 in
set_option maxRecDepth 100000 in
theorem w_M_signed {z : Int32 × SM} (C : Cx g A p m c b_M_signed 7 ss args R_M) (hQ : ∀ (pc : Nat) (H : Heap) (locs : List Loc) (ls : Array Slot), XW g A ss (wM g z.2) H locs → decode b_M_signed pc = .ok (.ireturn, 1) → W p l e (rmX 2 42) ss m args below meth c H locs 0 0 Q (F0 m pc ls [.int z.1])) : ∀ (s : SM) (H : Heap) (locs : List Loc) (ls : Array Slot), XW g A ss (wM g s) H locs → lv_has ls 7 [(0, .ref (g.q 60))] → f_M_signed s = some z → W p l e (rmX 2 42) ss m args below meth c H locs 0 0 Q (F0 m 0 ls []) := by
  have ⟨⟨hx, hb, hml, hown, hts⟩, hK, hA, hN⟩ := C
  intro s H locs ls hX hl h
  rw [f_M_signed] at h
  refine lv_lconst (v := 0) hx hb d_M_signed_0 (by decide) ?_
  refine lv_lstore_n (lv' := [(1, .long 0), (0, .ref (g.q 60))]) hx hb d_M_signed_1 rfl hl (by decide) rfl (fun ls hl => ?_)
  refine lv_iconst (v := 1) hx hb d_M_signed_2 (by decide) ?_
  refine lv_istore_n (lv' := [(3, .int 1), (1, .long 0), (0, .ref (g.q 60))]) hx hb d_M_signed_3 rfl hl (by decide) rfl (fun ls hl => ?_)
  refine lv_iconst (v := 0) hx hb d_M_signed_4 (by decide) ?_
  refine lv_istore (lv' := [(4, .int 0), (3, .int 1), (1, .long 0), (0, .ref (g.q 60))]) hx hb d_M_signed_5 hl (by decide) rfl (fun ls hl => ?_)
  exact w_M_signed_7 C hQ FU 0 1 0 s H locs ls hX (lv_sub hl [3, 2, 1, 0] rfl) h
end WALK
theorem c_M_signed (l : Launch) (g : GX) (s : SM) (z : Int32 × SM) (h : f_M_signed s = some z) : MI l g y_M_signed b_M_signed 7 (some .int) 2 42 [.ref (g.q 60)] (wM g s) z.1 (wM g z.2) :=
  MI.mk (own := R_M) (by decide) rfl (Nat.le_of_ble_eq_true rfl) fun p e ss m below meth c A Q C hQ ls hX hl => w_M_signed C hQ s _ _ ls hX hl h
