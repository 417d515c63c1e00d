-- M_constant
def f_M_constant (s : SM) : Option (Int32 × SM) :=
    bd1 (f_M_exactly 65 s) fun s1 =>
    bd (f_M_signed s1) fun r3 s2 =>
    bd1 (f_M_exactly 11 s2) fun s4 =>
    some (r3, s4)
section WALK
variable {p : Program} {l : Launch} {e : Env} {ss : State} {m : MethodId} {args : Array Value} {below : List Frame} {meth : Method} {c : Code} {Q : State → Prop} {g : GX} {A : Nat → Prop}
set_option maxHeartbeats 4000000 in
set_option maxRecDepth 100000 in
theorem w_M_constant {z : Int32 × SM} (C : Cx g A p m c b_M_constant 2 ss args R_M) (hQ : ∀ (pc : Nat) (H : Heap) (locs : List Loc) (ls : Array Slot), XW g A ss (wM g z.2) H locs → decode b_M_constant pc = .ok (.ireturn, 1) → W p l e (rmX 3 68) ss m args below meth c H locs 0 0 Q (F0 m pc ls [.int z.1])) : ∀ (s : SM) (H : Heap) (locs : List Loc) (ls : Array Slot), XW g A ss (wM g s) H locs → lv_has ls 2 [(0, .ref (g.q 60))] → f_M_constant s = some z → W p l e (rmX 3 68) ss m args below meth c H locs 0 0 Q (F0 m 0 ls []) := by
  have ⟨⟨hx, hb, hml, hown, hts⟩, hK, hA, hN⟩ := C
  intro s H locs ls hX hl h
  rw [f_M_constant] at h
  refine lv_aload_n hx hb d_M_constant_0 rfl (lv_at hl 0 rfl) ?_
  refine lv_bipush (v := 65) hx hb d_M_constant_1 (by decide) ?_
  obtain ⟨s1, hc3, h⟩ := bd1_e h
  refine x_vV (As := [.int 65]) (rest := []) C hX (c_M_exactly l g 65 s s1 hc3) (cw_M_172 C.1.2.2.2.2 C.2.2.2 ⟨by decide, by decide⟩) (x_rc C hX vg_0 rfl) rfl hl.1 rfl (lv_room (Nat.le_of_ble_eq_true rfl)) d_M_constant_3 ⟨Nat.le_refl _, Nat.le_refl _⟩ (fun H locs hX => ?_)
  refine lv_aload_n hx hb d_M_constant_6 rfl (lv_at hl 0 rfl) ?_
  obtain ⟨r3, s2, hc7, h⟩ := bd_e h
  refine x_vI (As := []) (rest := []) C hX (c_M_signed l g s1 (r3, s2) hc7) (cw_M_176 C.1.2.2.2.2 C.2.2.2 ⟨by decide, by decide⟩) (x_rc C hX vg_0 rfl) rfl hl.1 rfl (lv_room (Nat.le_of_ble_eq_true rfl)) d_M_constant_7 ⟨Nat.le_refl _, Nat.le_refl _⟩ (fun H locs hX => ?_)
  refine lv_istore_n (lv' := [(1, .int r3), (0, .ref (g.q 60))]) hx hb d_M_constant_10 rfl hl (by decide) rfl (fun ls hl => ?_)
  refine lv_aload_n hx hb d_M_constant_11 rfl (lv_at hl 1 rfl) ?_
  refine lv_bipush (v := 11) hx hb d_M_constant_12 (by decide) ?_
  obtain ⟨s4, hc14, h⟩ := bd1_e h
  refine x_vV (As := [.int 11]) (rest := []) C hX (c_M_exactly l g 11 s2 s4 hc14) (cw_M_172 C.1.2.2.2.2 C.2.2.2 ⟨by decide, by decide⟩) (x_rc C hX vg_0 rfl) rfl hl.1 rfl (lv_room (Nat.le_of_ble_eq_true rfl)) d_M_constant_14 ⟨Nat.le_refl _, Nat.le_refl _⟩ (fun H locs hX => ?_)
  refine lv_iload_n hx hb d_M_constant_17 rfl (lv_at hl 0 rfl) ?_
  obtain rfl := so1 h
  exact hQ _ H locs ls hX d_M_constant_18
end WALK
theorem c_M_constant (l : Launch) (g : GX) (s : SM) (z : Int32 × SM) (h : f_M_constant s = some z) : MI l g y_M_constant b_M_constant 2 (some .int) 3 68 [.ref (g.q 60)] (wM g s) z.1 (wM g z.2) :=
  MI.mk (own := R_M) (by decide) rfl (Nat.le_of_ble_eq_true rfl) fun p e ss m below meth c A Q C hQ ls hX hl => w_M_constant C hQ s _ _ ls hX hl h
-- M_readGlobals
def f_M_readGlobals_60 (x1 : Int32) (x2 : Int32) (s : SM) : Option SM :=
    lt1 (stI s 0 11 x1) fun s1 =>
    some s1
def f_M_readGlobals_43 (k8 : Int32 → Int32 → SM → Option SM) (x1 : Int32) (x2 : Int32) (y1 : Int32) (y2 : Int32) (s : SM) : Option SM :=
    gi y1 4 <|
    bz y2 <|
    lt1 (stI s 5 (Int32.toNatClampNeg y1) y2) fun s1 =>
    bd (f_M_constant s1) fun r3 s2 =>
    gi x2 4 <|
    lt1 (stI s2 6 (Int32.toNatClampNeg x2) r3) fun s4 =>
    lt1 (x2 + (1)) fun v5 =>
    k8 x1 v5 s4
def f_M_readGlobals_8 : Nat → Int32 → Int32 → SM → Option SM
  | 0, _, _, _ => none
  | n + 1, x1, x2, s =>
    if x1 ≤ x2 then
      f_M_readGlobals_60 x1 x2 s
    else
      if s.1 0 5 = 0 then
        bd1 (f_M_value s) fun s1 =>
        bd (f_M_one 2 s1) fun r3 s2 =>
        if r3 = 1 then
          f_M_readGlobals_43 (f_M_readGlobals_8 n) x1 x2 x2 1 s2
        else
          f_M_readGlobals_43 (f_M_readGlobals_8 n) x1 x2 x2 0 s2
      else
        f_M_readGlobals_60 x1 x2 s
def f_M_readGlobals (s : SM) : Option SM :=
    bd (f_M_count 4 s) fun r2 s1 =>
    f_M_readGlobals_8 FU r2 0 s1
section WALK
variable {p : Program} {l : Launch} {e : Env} {ss : State} {m : MethodId} {args : Array Value} {below : List Frame} {meth : Method} {c : Code} {Q : State → Prop} {g : GX} {A : Nat → Prop}
set_option maxHeartbeats 4000000 in
set_option maxRecDepth 100000 in
theorem w_M_readGlobals_60 {z : SM} (C : Cx g A p m c b_M_readGlobals 3 ss args R_M) (hQ : ∀ (pc : Nat) (H : Heap) (locs : List Loc) (ls : Array Slot), XW g A ss (wM g z) H locs → decode b_M_readGlobals pc = .ok (.return_, 1) → W p l e (rmX 4 90) ss m args below meth c H locs 0 0 Q (F0 m pc ls [])) : ∀ (x1 : Int32) (x2 : Int32) (s : SM) (H : Heap) (locs : List Loc) (ls : Array Slot), XW g A ss (wM g s) H locs → lv_has ls 3 [(0, .ref (g.q 60)), (1, .int x1), (2, .int x2)] → f_M_readGlobals_60 x1 x2 s = some z → W p l e (rmX 4 90) ss m args below meth c H locs 0 0 Q (F0 m 60 ls []) := by
  have ⟨⟨hx, hb, hml, hown, hts⟩, hK, hA, hN⟩ := C
  intro x1 x2 s H locs ls hX hl h
  rw [f_M_readGlobals_60] at h
  refine lv_aload_n hx hb d_M_readGlobals_60 rfl (lv_at hl 0 rfl) ?_
  refine lv_iload_n hx hb d_M_readGlobals_61 rfl (lv_at hl 1 rfl) ?_
  obtain ⟨s1, es1, h⟩ := lt1_e h
  refine pm_globals C hX fl_M_243 d_M_readGlobals_62 (fun H locs hX => ?_)
  rw [← es1] at hX
  obtain rfl := so1 h
  exact hQ _ H locs ls hX d_M_readGlobals_65
set_option maxHeartbeats 4000000 in
set_option maxRecDepth 100000 in
theorem w_M_readGlobals_43 {z : SM} (C : Cx g A p m c b_M_readGlobals 3 ss args R_M) (hQ : ∀ (pc : Nat) (H : Heap) (locs : List Loc) (ls : Array Slot), XW g A ss (wM g z) H locs → decode b_M_readGlobals pc = .ok (.return_, 1) → W p l e (rmX 4 90) ss m args below meth c H locs 0 0 Q (F0 m pc ls [])) (k8 : Int32 → Int32 → SM → Option SM) (hk8 : ∀ (x1 : Int32) (x2 : Int32) (s : SM) (H : Heap) (locs : List Loc) (ls : Array Slot), XW g A ss (wM g s) H locs → lv_has ls 3 [(0, .ref (g.q 60)), (1, .int x1), (2, .int x2)] → k8 x1 x2 s = some z → W p l e (rmX 4 90) ss m args below meth c H locs 0 0 Q (F0 m 8 ls [])) : ∀ (x1 : Int32) (x2 : Int32) (y1 : Int32) (y2 : Int32) (s : SM) (H : Heap) (locs : List Loc) (ls : Array Slot), XW g A ss (wM g s) H locs → lv_has ls 3 [(0, .ref (g.q 60)), (1, .int x1), (2, .int x2)] → f_M_readGlobals_43 k8 x1 x2 y1 y2 s = some z → W p l e (rmX 4 90) ss m args below meth c H locs 0 0 Q (F0 m 43 ls [.int y2, .int y1, .ref (g.q 65)]) := by
  have ⟨⟨hx, hb, hml, hown, hts⟩, hK, hA, hN⟩ := C
  intro x1 x2 y1 y2 s H locs ls hX hl h
  rw [f_M_readGlobals_43] at h
  obtain ⟨hz43, h⟩ := gi_e h
  obtain ⟨hb43, h⟩ := bz_e h
  obtain ⟨s1, es1, h⟩ := lt1_e h
  refine asm_5 C hX hz43 hb43 d_M_readGlobals_43 (fun H locs hX => ?_)
  rw [← es1] at hX
  refine lv_aload_n hx hb d_M_readGlobals_44 rfl (lv_at hl 0 rfl) ?_
  refine gm_initial C hX fl_M_27 d_M_readGlobals_45 ?_
  refine lv_iload_n hx hb d_M_readGlobals_48 rfl (lv_at hl 2 rfl) ?_
  refine lv_aload_n hx hb d_M_readGlobals_49 rfl (lv_at hl 0 rfl) ?_
  obtain ⟨r3, s2, hc50, h⟩ := bd_e h
  refine x_vI (As := []) (rest := [.int x2, .ref (g.q 66)]) C hX (c_M_constant l g s1 (r3, s2) hc50) (cw_M_240 C.1.2.2.2.2 C.2.2.2 ⟨by decide, by decide⟩) (x_rc C hX vg_0 rfl) rfl hl.1 rfl (lv_room (Nat.le_of_ble_eq_true rfl)) d_M_readGlobals_50 ⟨Nat.le_refl _, Nat.le_refl _⟩ (fun H locs hX => ?_)
  obtain ⟨hz53, h⟩ := gi_e h
  obtain ⟨s4, es4, h⟩ := lt1_e h
  refine asm_6 C hX hz53 d_M_readGlobals_53 (fun H locs hX => ?_)
  rw [← es4] at hX
  obtain ⟨v5, ev5, h⟩ := lt1_e h
  refine lv_iinc (v := v5) (lv' := [(2, .int v5), (0, .ref (g.q 60)), (1, .int x1)]) hx hb d_M_readGlobals_54 hl (k := 2) rfl (by rw [ev5]; rfl) (by decide) rfl (fun ls hl => ?_)
  refine lv_goto (tgt := 8) hx hb d_M_readGlobals_57 (by decide) ?_
  exact hk8 x1 v5 s4 H locs ls hX (lv_sub hl [1, 2, 0] rfl) h
set_option maxHeartbeats 4000000 in
set_option maxRecDepth 100000 in
theorem w_M_readGlobals_8 {z : SM} (C : Cx g A p m c b_M_readGlobals 3 ss args R_M) (hQ : ∀ (pc : Nat) (H : Heap) (locs : List Loc) (ls : Array Slot), XW g A ss (wM g z) H locs → decode b_M_readGlobals pc = .ok (.return_, 1) → W p l e (rmX 4 90) ss m args below meth c H locs 0 0 Q (F0 m pc ls [])) (n : Nat) : ∀ (x1 : Int32) (x2 : Int32) (s : SM) (H : Heap) (locs : List Loc) (ls : Array Slot), XW g A ss (wM g s) H locs → lv_has ls 3 [(0, .ref (g.q 60)), (1, .int x1), (2, .int x2)] → f_M_readGlobals_8 n x1 x2 s = some z → W p l e (rmX 4 90) ss m args below meth c H locs 0 0 Q (F0 m 8 ls []) := by
  have ⟨⟨hx, hb, hml, hown, hts⟩, hK, hA, hN⟩ := C
  induction n with
  | zero => intro x1 x2 s H locs ls hX hl h; cases h
  | succ n ih =>
    intro x1 x2 s H locs ls hX hl h
    rw [f_M_readGlobals_8] at h
    refine lv_iload_n hx hb d_M_readGlobals_8 rfl (lv_at hl 2 rfl) ?_
    refine lv_iload_n hx hb d_M_readGlobals_9 rfl (lv_at hl 1 rfl) ?_
    refine lv_icmp_ge (tgt := 60) hx hb d_M_readGlobals_10 (by decide) (fun c10 => ?_) (fun c10 => ?_)
    · have h := ite_t c10 h
      exact w_M_readGlobals_60 C hQ x1 x2 s H locs ls hX hl h
    · have h := ite_f c10 h
      refine lv_aload_n hx hb d_M_readGlobals_13 rfl (lv_at hl 0 rfl) ?_
      refine gm_wrong C hX fl_M_149 d_M_readGlobals_14 ?_
      refine lv_if_ne (tgt := 60) hx hb d_M_readGlobals_17 (by decide) (fun c17 => ?_) (fun c17 => ?_)
      · have h := ite_f c17 h
        exact w_M_readGlobals_60 C hQ x1 x2 s H locs ls hX hl h
      · have h := ite_t c17 h
        refine lv_aload_n hx hb d_M_readGlobals_20 rfl (lv_at hl 0 rfl) ?_
        obtain ⟨s1, hc21, h⟩ := bd1_e h
        refine x_vV (As := []) (rest := []) C hX (c_M_value l g s s1 hc21) (cw_M_216 C.1.2.2.2.2 C.2.2.2 ⟨by decide, by decide⟩) (x_rc C hX vg_0 rfl) rfl hl.1 rfl (lv_room (Nat.le_of_ble_eq_true rfl)) d_M_readGlobals_21 ⟨Nat.le_refl _, Nat.le_refl _⟩ (fun H locs hX => ?_)
        refine lv_aload_n hx hb d_M_readGlobals_24 rfl (lv_at hl 0 rfl) ?_
        refine gm_changes C hX fl_M_23 d_M_readGlobals_25 ?_
        refine lv_iload_n hx hb d_M_readGlobals_28 rfl (lv_at hl 2 rfl) ?_
        refine lv_aload_n hx hb d_M_readGlobals_29 rfl (lv_at hl 0 rfl) ?_
        refine lv_iconst (v := 2) hx hb d_M_readGlobals_30 (by decide) ?_
        obtain ⟨r3, s2, hc31, h⟩ := bd_e h
        refine x_vI (As := [.int 2]) (rest := [.int x2, .ref (g.q 65)]) C hX (c_M_one l g 2 s1 (r3, s2) hc31) (cw_M_225 C.1.2.2.2.2 C.2.2.2 ⟨by decide, by decide⟩) (x_rc C hX vg_0 rfl) rfl hl.1 rfl (lv_room (Nat.le_of_ble_eq_true rfl)) d_M_readGlobals_31 ⟨Nat.le_refl _, Nat.le_refl _⟩ (fun H locs hX => ?_)
        refine lv_iconst (v := 1) hx hb d_M_readGlobals_34 (by decide) ?_
        refine lv_icmp_ne (tgt := 42) hx hb d_M_readGlobals_35 (by decide) (fun c35 => ?_) (fun c35 => ?_)
        · have h := ite_f c35 h
          refine lv_iconst (v := 0) hx hb d_M_readGlobals_42 (by decide) ?_
          exact w_M_readGlobals_43 C hQ (f_M_readGlobals_8 n) ih x1 x2 x2 0 s2 H locs ls hX hl h
        · have h := ite_t c35 h
          refine lv_iconst (v := 1) hx hb d_M_readGlobals_38 (by decide) ?_
          refine lv_goto (tgt := 43) hx hb d_M_readGlobals_39 (by decide) ?_
          exact w_M_readGlobals_43 C hQ (f_M_readGlobals_8 n) ih x1 x2 x2 1 s2 H locs ls hX hl h
set_option maxHeartbeats 4000000 in
set_option maxRecDepth 100000 in
theorem w_M_readGlobals {z : SM} (C : Cx g A p m c b_M_readGlobals 3 ss args R_M) (hQ : ∀ (pc : Nat) (H : Heap) (locs : List Loc) (ls : Array Slot), XW g A ss (wM g z) H locs → decode b_M_readGlobals pc = .ok (.return_, 1) → W p l e (rmX 4 90) ss m args below meth c H locs 0 0 Q (F0 m pc ls [])) : ∀ (s : SM) (H : Heap) (locs : List Loc) (ls : Array Slot), XW g A ss (wM g s) H locs → lv_has ls 3 [(0, .ref (g.q 60))] → f_M_readGlobals s = some z → W p l e (rmX 4 90) ss m args below meth c H locs 0 0 Q (F0 m 0 ls []) := by
  have ⟨⟨hx, hb, hml, hown, hts⟩, hK, hA, hN⟩ := C
  intro s H locs ls hX hl h
  rw [f_M_readGlobals] at h
  refine lv_aload_n hx hb d_M_readGlobals_0 rfl (lv_at hl 0 rfl) ?_
  refine lv_iconst (v := 4) hx hb d_M_readGlobals_1 (by decide) ?_
  obtain ⟨r2, s1, hc2, h⟩ := bd_e h
  refine x_vI (As := [.int 4]) (rest := []) C hX (c_M_count l g 4 s (r2, s1) hc2) (cw_M_212 C.1.2.2.2.2 C.2.2.2 ⟨by decide, by decide⟩) (x_rc C hX vg_0 rfl) rfl hl.1 rfl (lv_room (Nat.le_of_ble_eq_true rfl)) d_M_readGlobals_2 ⟨Nat.le_refl _, Nat.le_refl _⟩ (fun H locs hX => ?_)
  refine lv_istore_n (lv' := [(1, .int r2), (0, .ref (g.q 60))]) hx hb d_M_readGlobals_5 rfl hl (by decide) rfl (fun ls hl => ?_)
  refine lv_iconst (v := 0) hx hb d_M_readGlobals_6 (by decide) ?_
  refine lv_istore_n (lv' := [(2, .int 0), (1, .int r2), (0, .ref (g.q 60))]) hx hb d_M_readGlobals_7 rfl hl (by decide) rfl (fun ls hl => ?_)
  exact w_M_readGlobals_8 C hQ FU r2 0 s1 H locs ls hX (lv_sub hl [2, 1, 0] rfl) h
end WALK
theorem c_M_readGlobals (l : Launch) (g : GX) (s : SM) (z : SM) (h : f_M_readGlobals s = some z) : MV l g y_M_readGlobals b_M_readGlobals 3 none 4 90 [.ref (g.q 60)] (wM g s) (wM g z) :=
  MV.mk (own := R_M) (by decide) rfl (Nat.le_of_ble_eq_true rfl) fun p e ss m below meth c A Q C hQ ls hX hl => w_M_readGlobals C hQ s _ _ ls hX hl h
-- M_readExports
def f_M_readExports_124 (x1 : Int32) (x2 : Int32) (s : SM) : Option SM :=
    lt1 (stI s 0 12 x1) fun s1 =>
    some s1
def f_M_readExports_65 (k9 : Int32 → Int32 → SM → Option SM) (k39 : Int32 → Int32 → Int32 → Int32 → SM → Option SM) (x1 : Int32) (x2 : Int32) (x3 : Int32) (x4 : Int32) (x5 : Int32) (y1 : Int32) (s : SM) : Option SM :=
    bd1 (f_M_will y1 2 s) fun s1 =>
    gi x2 8 <|
    lt1 (s1.2 7 (Int32.toNatClampNeg x2)) fun v2 =>
    lt1 (v2 <<< (Int32.toInt64 7 &&& 63)) fun v3 =>
    lt1 (x5 &&& 127) fun v4 =>
    lt1 (Int32.toInt64 v4) fun v5 =>
    lt1 (v3 ||| v5) fun v6 =>
    gi x2 8 <|
    lt1 (stL s1 7 (Int32.toNatClampNeg x2) v6) fun s7 =>
    lt1 (x4 + (1)) fun v8 =>
    k39 x1 x2 x3 v8 s7
def f_M_readExports_39 (k9 : Int32 → Int32 → SM → Option SM) : Nat → Int32 → Int32 → Int32 → Int32 → SM → Option SM
  | 0, _, _, _, _, _ => none
  | n + 1, x1, x2, x3, x4, s =>
    if x3 ≤ x4 then
      bd (f_M_one 4 s) fun r2 s1 =>
      gi x2 8 <|
      lt1 (stI s1 8 (Int32.toNatClampNeg x2) r2) fun s3 =>
      bd (f_M_unsigned s3) fun r5 s4 =>
      gi x2 8 <|
      lt1 (stL s4 9 (Int32.toNatClampNeg x2) r5) fun s6 =>
      lt1 (x2 + (1)) fun v7 =>
      k9 x1 v7 s6
    else
      bd (f_M_next s) fun r9 s8 =>
      if 128 ≤ r9 then
        f_M_readExports_65 k9 (f_M_readExports_39 k9 n) x1 x2 x3 x4 r9 0 s8
      else
        f_M_readExports_65 k9 (f_M_readExports_39 k9 n) x1 x2 x3 x4 r9 1 s8
def f_M_readExports_9 : Nat → Int32 → Int32 → SM → Option SM
  | 0, _, _, _ => none
  | n + 1, x1, x2, s =>
    if x1 ≤ x2 then
      f_M_readExports_124 x1 x2 s
    else
      if s.1 0 5 = 0 then
        bd (f_M_count 8 s) fun r2 s1 =>
        lt1 (Int32.toInt64 r2) fun v3 =>
        gi x2 8 <|
        lt1 (stL s1 7 (Int32.toNatClampNeg x2) v3) fun s4 =>
        f_M_readExports_39 (f_M_readExports_9 n) FU x1 x2 r2 0 s4
      else
        f_M_readExports_124 x1 x2 s
def f_M_readExports (s : SM) : Option SM :=
    bd (f_M_count 8 s) fun r2 s1 =>
    f_M_readExports_9 FU r2 0 s1
section WALK
variable {p : Program} {l : Launch} {e : Env} {ss : State} {m : MethodId} {args : Array Value} {below : List Frame} {meth : Method} {c : Code} {Q : State → Prop} {g : GX} {A : Nat → Prop}
set_option maxHeartbeats 4000000 in
set_option maxRecDepth 100000 in
theorem w_M_readExports_124 {z : SM} (C : Cx g A p m c b_M_readExports 6 ss args R_M) (hQ : ∀ (pc : Nat) (H : Heap) (locs : List Loc) (ls : Array Slot), XW g A ss (wM g z) H locs → decode b_M_readExports pc = .ok (.return_, 1) → W p l e (rmX 4 90) ss m args below meth c H locs 0 0 Q (F0 m pc ls [])) : ∀ (x1 : Int32) (x2 : Int32) (s : SM) (H : Heap) (locs : List Loc) (ls : Array Slot), XW g A ss (wM g s) H locs → lv_has ls 6 [(0, .ref (g.q 60)), (1, .int x1), (2, .int x2)] → f_M_readExports_124 x1 x2 s = some z → W p l e (rmX 4 90) ss m args below meth c H locs 0 0 Q (F0 m 124 ls []) := by
  have ⟨⟨hx, hb, hml, hown, hts⟩, hK, hA, hN⟩ := C
  intro x1 x2 s H locs ls hX hl h
  rw [f_M_readExports_124] at h
  refine lv_aload_n hx hb d_M_readExports_124 rfl (lv_at hl 0 rfl) ?_
  refine lv_iload_n hx hb d_M_readExports_125 rfl (lv_at hl 1 rfl) ?_
  obtain ⟨s1, es1, h⟩ := lt1_e h
  refine pm_exports C hX fl_M_246 d_M_readExports_126 (fun H locs hX => ?_)
  rw [← es1] at hX
  obtain rfl := so1 h
  exact hQ _ H locs ls hX d_M_readExports_129
set_option maxHeartbeats 4000000 in
set_option maxRecDepth 100000 in
theorem w_M_readExports_65 {z : SM} (C : Cx g A p m c b_M_readExports 6 ss args R_M) (hQ : ∀ (pc : Nat) (H : Heap) (locs : List Loc) (ls : Array Slot), XW g A ss (wM g z) H locs → decode b_M_readExports pc = .ok (.return_, 1) → W p l e (rmX 4 90) ss m args below meth c H locs 0 0 Q (F0 m pc ls [])) (k9 : Int32 → Int32 → SM → Option SM) (hk9 : ∀ (x1 : Int32) (x2 : Int32) (s : SM) (H : Heap) (locs : List Loc) (ls : Array Slot), XW g A ss (wM g s) H locs → lv_has ls 6 [(0, .ref (g.q 60)), (1, .int x1), (2, .int x2)] → k9 x1 x2 s = some z → W p l e (rmX 4 90) ss m args below meth c H locs 0 0 Q (F0 m 9 ls [])) (k39 : Int32 → Int32 → Int32 → Int32 → SM → Option SM) (hk39 : ∀ (x1 : Int32) (x2 : Int32) (x3 : Int32) (x4 : Int32) (s : SM) (H : Heap) (locs : List Loc) (ls : Array Slot), XW g A ss (wM g s) H locs → lv_has ls 6 [(0, .ref (g.q 60)), (1, .int x1), (2, .int x2), (3, .int x3), (4, .int x4)] → k39 x1 x2 x3 x4 s = some z → W p l e (rmX 4 90) ss m args below meth c H locs 0 0 Q (F0 m 39 ls [])) : ∀ (x1 : Int32) (x2 : Int32) (x3 : Int32) (x4 : Int32) (x5 : Int32) (y1 : Int32) (s : SM) (H : Heap) (locs : List Loc) (ls : Array Slot), XW g A ss (wM g s) H locs → lv_has ls 6 [(0, .ref (g.q 60)), (1, .int x1), (2, .int x2), (3, .int x3), (4, .int x4), (5, .int x5)] → f_M_readExports_65 k9 k39 x1 x2 x3 x4 x5 y1 s = some z → W p l e (rmX 4 90) ss m args below meth c H locs 0 0 Q (F0 m 65 ls [.int y1, .ref (g.q 60)]) := by
  have ⟨⟨hx, hb, hml, hown, hts⟩, hK, hA, hN⟩ := C
  intro x1 x2 x3 x4 x5 y1 s H locs ls hX hl h
  rw [f_M_readExports_65] at h
  refine lv_iconst (v := 2) hx hb d_M_readExports_65 (by decide) ?_
  obtain ⟨s1, hc66, h⟩ := bd1_e h
  refine x_vV (As := [.int y1, .int 2]) (rest := []) C hX (c_M_will l g y1 2 s s1 hc66) (cw_M_158 C.1.2.2.2.2 C.2.2.2 ⟨by decide, by decide⟩) (x_rc C hX vg_0 rfl) rfl hl.1 rfl (lv_room (Nat.le_of_ble_eq_true rfl)) d_M_readExports_66 ⟨Nat.le_refl _, Nat.le_refl _⟩ (fun H locs hX => ?_)
  refine lv_aload_n hx hb d_M_readExports_69 rfl (lv_at hl 0 rfl) ?_
  refine gm_name C hX fl_M_30 d_M_readExports_70 ?_
  refine lv_iload_n hx hb d_M_readExports_73 rfl (lv_at hl 2 rfl) ?_
  refine lv_aload_n hx hb d_M_readExports_74 rfl (lv_at hl 0 rfl) ?_
  refine gm_name C hX fl_M_30 d_M_readExports_75 ?_
  refine lv_iload_n hx hb d_M_readExports_78 rfl (lv_at hl 2 rfl) ?_
  obtain ⟨hz79, h⟩ := gi_e h
  obtain ⟨v2, ev2, h⟩ := lt1_e h
  refine alm_7 C hX hz79 d_M_readExports_79 ev2 ?_
  refine lv_bipush (v := 7) hx hb d_M_readExports_80 (by decide) ?_
  obtain ⟨v3, ev3, h⟩ := lt1_e h
  refine lv_lshl hx hb d_M_readExports_82 ev3.symm ?_
  refine lv_iload hx hb d_M_readExports_83 (lv_at hl 5 rfl) ?_
  refine lv_bipush (v := 127) hx hb d_M_readExports_85 (by decide) ?_
  obtain ⟨v4, ev4, h⟩ := lt1_e h
  refine x_iand hx hb d_M_readExports_87 ev4 ?_
  obtain ⟨v5, ev5, h⟩ := lt1_e h
  refine lv_i2l hx hb d_M_readExports_88 ev5.symm ?_
  obtain ⟨v6, ev6, h⟩ := lt1_e h
  refine x_lor hx hb d_M_readExports_89 ev6 ?_
  obtain ⟨hz90, h⟩ := gi_e h
  obtain ⟨s7, es7, h⟩ := lt1_e h
  refine asm_7 C hX hz90 d_M_readExports_90 (fun H locs hX => ?_)
  rw [← es7] at hX
  obtain ⟨v8, ev8, h⟩ := lt1_e h
  refine lv_iinc (v := v8) (lv' := [(4, .int v8), (0, .ref (g.q 60)), (1, .int x1), (2, .int x2), (3, .int x3), (5, .int x5)]) hx hb d_M_readExports_91 hl (k := 4) rfl (by rw [ev8]; rfl) (by decide) rfl (fun ls hl => ?_)
  refine lv_goto (tgt := 39) hx hb d_M_readExports_94 (by decide) ?_
  exact hk39 x1 x2 x3 v8 s7 H locs ls hX (lv_sub hl [1, 2, 3, 4, 0] rfl) h
set_option maxHeartbeats 4000000 in
set_option maxRecDepth 100000 in
theorem w_M_readExports_39 {z : SM} (C : Cx g A p m c b_M_readExports 6 ss args R_M) (hQ : ∀ (pc : Nat) (H : Heap) (locs : List Loc) (ls : Array Slot), XW g A ss (wM g z) H locs → decode b_M_readExports pc = .ok (.return_, 1) → W p l e (rmX 4 90) ss m args below meth c H locs 0 0 Q (F0 m pc ls [])) (k9 : Int32 → Int32 → SM → Option SM) (hk9 : ∀ (x1 : Int32) (x2 : Int32) (s : SM) (H : Heap) (locs : List Loc) (ls : Array Slot), XW g A ss (wM g s) H locs → lv_has ls 6 [(0, .ref (g.q 60)), (1, .int x1), (2, .int x2)] → k9 x1 x2 s = some z → W p l e (rmX 4 90) ss m args below meth c H locs 0 0 Q (F0 m 9 ls [])) (n : Nat) : ∀ (x1 : Int32) (x2 : Int32) (x3 : Int32) (x4 : Int32) (s : SM) (H : Heap) (locs : List Loc) (ls : Array Slot), XW g A ss (wM g s) H locs → lv_has ls 6 [(0, .ref (g.q 60)), (1, .int x1), (2, .int x2), (3, .int x3), (4, .int x4)] → f_M_readExports_39 k9 n x1 x2 x3 x4 s = some z → W p l e (rmX 4 90) ss m args below meth c H locs 0 0 Q (F0 m 39 ls []) := by
  have ⟨⟨hx, hb, hml, hown, hts⟩, hK, hA, hN⟩ := C
  induction n with
  | zero => intro x1 x2 x3 x4 s H locs ls hX hl h; cases h
  | succ n ih =>
    intro x1 x2 x3 x4 s H locs ls hX hl h
    rw [f_M_readExports_39] at h
    refine lv_iload hx hb d_M_readExports_39 (lv_at hl 4 rfl) ?_
    refine lv_iload_n hx hb d_M_readExports_41 rfl (lv_at hl 3 rfl) ?_
    refine lv_icmp_ge (tgt := 97) hx hb d_M_readExports_42 (by decide) (fun c42 => ?_) (fun c42 => ?_)
    · have h := ite_t c42 h
      refine lv_aload_n hx hb d_M_readExports_97 rfl (lv_at hl 0 rfl) ?_
      refine gm_exportKind C hX fl_M_33 d_M_readExports_98 ?_
      refine lv_iload_n hx hb d_M_readExports_101 rfl (lv_at hl 2 rfl) ?_
      refine lv_aload_n hx hb d_M_readExports_102 rfl (lv_at hl 0 rfl) ?_
      refine lv_iconst (v := 4) hx hb d_M_readExports_103 (by decide) ?_
      obtain ⟨r2, s1, hc104, h⟩ := bd_e h
      refine x_vI (As := [.int 4]) (rest := [.int x2, .ref (g.q 68)]) C hX (c_M_one l g 4 s (r2, s1) hc104) (cw_M_225 C.1.2.2.2.2 C.2.2.2 ⟨by decide, by decide⟩) (x_rc C hX vg_0 rfl) rfl hl.1 rfl (lv_room (Nat.le_of_ble_eq_true rfl)) d_M_readExports_104 ⟨Nat.le_refl _, Nat.le_refl _⟩ (fun H locs hX => ?_)
      obtain ⟨hz107, h⟩ := gi_e h
      obtain ⟨s3, es3, h⟩ := lt1_e h
      refine asm_8 C hX hz107 d_M_readExports_107 (fun H locs hX => ?_)
      rw [← es3] at hX
      refine lv_aload_n hx hb d_M_readExports_108 rfl (lv_at hl 0 rfl) ?_
      refine gm_exportIndex C hX fl_M_36 d_M_readExports_109 ?_
      refine lv_iload_n hx hb d_M_readExports_112 rfl (lv_at hl 2 rfl) ?_
      refine lv_aload_n hx hb d_M_readExports_113 rfl (lv_at hl 0 rfl) ?_
      obtain ⟨r5, s4, hc114, h⟩ := bd_e h
      refine x_vL (As := []) (rest := [.int x2, .ref (g.q 69)]) C hX (c_M_unsigned l g s3 (r5, s4) hc114) (cw_M_168 C.1.2.2.2.2 C.2.2.2 ⟨by decide, by decide⟩) (x_rc C hX vg_0 rfl) rfl hl.1 rfl (lv_room (Nat.le_of_ble_eq_true rfl)) d_M_readExports_114 ⟨Nat.le_refl _, Nat.le_refl _⟩ (fun H locs hX => ?_)
      obtain ⟨hz117, h⟩ := gi_e h
      obtain ⟨s6, es6, h⟩ := lt1_e h
      refine asm_9 C hX hz117 d_M_readExports_117 (fun H locs hX => ?_)
      rw [← es6] at hX
      obtain ⟨v7, ev7, h⟩ := lt1_e h
      refine lv_iinc (v := v7) (lv' := [(2, .int v7), (0, .ref (g.q 60)), (1, .int x1), (3, .int x3), (4, .int x4)]) hx hb d_M_readExports_118 hl (k := 2) rfl (by rw [ev7]; rfl) (by decide) rfl (fun ls hl => ?_)
      refine lv_goto (tgt := 9) hx hb d_M_readExports_121 (by decide) ?_
      exact hk9 x1 v7 s6 H locs ls hX (lv_sub hl [1, 2, 0] rfl) h
    · have h := ite_f c42 h
      refine lv_aload_n hx hb d_M_readExports_45 rfl (lv_at hl 0 rfl) ?_
      obtain ⟨r9, s8, hc46, h⟩ := bd_e h
      refine x_vI (As := []) (rest := []) C hX (c_M_next l g s (r9, s8) hc46) (cw_M_162 C.1.2.2.2.2 C.2.2.2 ⟨by decide, by decide⟩) (x_rc C hX vg_0 rfl) rfl hl.1 rfl (lv_room (Nat.le_of_ble_eq_true rfl)) d_M_readExports_46 ⟨Nat.le_refl _, Nat.le_refl _⟩ (fun H locs hX => ?_)
      refine lv_istore (lv' := [(5, .int r9), (0, .ref (g.q 60)), (1, .int x1), (2, .int x2), (3, .int x3), (4, .int x4)]) hx hb d_M_readExports_49 hl (by decide) rfl (fun ls hl => ?_)
      refine lv_aload_n hx hb d_M_readExports_51 rfl (lv_at hl 1 rfl) ?_
      refine lv_iload hx hb d_M_readExports_52 (lv_at hl 0 rfl) ?_
      refine lv_sipush (v := 128) hx hb d_M_readExports_54 (by decide) ?_
      refine lv_icmp_ge (tgt := 64) hx hb d_M_readExports_57 (by decide) (fun c57 => ?_) (fun c57 => ?_)
      · have h := ite_t c57 h
        refine lv_iconst (v := 0) hx hb d_M_readExports_64 (by decide) ?_
        exact w_M_readExports_65 C hQ k9 hk9 (f_M_readExports_39 k9 n) ih x1 x2 x3 x4 r9 0 s8 H locs ls hX (lv_sub hl [1, 2, 3, 4, 5, 0] rfl) h
      · have h := ite_f c57 h
        refine lv_iconst (v := 1) hx hb d_M_readExports_60 (by decide) ?_
        refine lv_goto (tgt := 65) hx hb d_M_readExports_61 (by decide) ?_
        exact w_M_readExports_65 C hQ k9 hk9 (f_M_readExports_39 k9 n) ih x1 x2 x3 x4 r9 1 s8 H locs ls hX (lv_sub hl [1, 2, 3, 4, 5, 0] rfl) h
set_option maxHeartbeats 4000000 in
set_option maxRecDepth 100000 in
theorem w_M_readExports_9 {z : SM} (C : Cx g A p m c b_M_readExports 6 ss args R_M) (hQ : ∀ (pc : Nat) (H : Heap) (locs : List Loc) (ls : Array Slot), XW g A ss (wM g z) H locs → decode b_M_readExports pc = .ok (.return_, 1) → W p l e (rmX 4 90) ss m args below meth c H locs 0 0 Q (F0 m pc ls [])) (n : Nat) : ∀ (x1 : Int32) (x2 : Int32) (s : SM) (H : Heap) (locs : List Loc) (ls : Array Slot), XW g A ss (wM g s) H locs → lv_has ls 6 [(0, .ref (g.q 60)), (1, .int x1), (2, .int x2)] → f_M_readExports_9 n x1 x2 s = some z → W p l e (rmX 4 90) ss m args below meth c H locs 0 0 Q (F0 m 9 ls []) := by
  have ⟨⟨hx, hb, hml, hown, hts⟩, hK, hA, hN⟩ := C
  induction n with
  | zero => intro x1 x2 s H locs ls hX hl h; cases h
  | succ n ih =>
    intro x1 x2 s H locs ls hX hl h
    rw [f_M_readExports_9] at h
    refine lv_iload_n hx hb d_M_readExports_9 rfl (lv_at hl 2 rfl) ?_
    refine lv_iload_n hx hb d_M_readExports_10 rfl (lv_at hl 1 rfl) ?_
    refine lv_icmp_ge (tgt := 124) hx hb d_M_readExports_11 (by decide) (fun c11 => ?_) (fun c11 => ?_)
    · have h := ite_t c11 h
      exact w_M_readExports_124 C hQ x1 x2 s H locs ls hX hl h
    · have h := ite_f c11 h
      refine lv_aload_n hx hb d_M_readExports_14 rfl (lv_at hl 0 rfl) ?_
      refine gm_wrong C hX fl_M_149 d_M_readExports_15 ?_
      refine lv_if_ne (tgt := 124) hx hb d_M_readExports_18 (by decide) (fun c18 => ?_) (fun c18 => ?_)
      · have h := ite_f c18 h
        exact w_M_readExports_124 C hQ x1 x2 s H locs ls hX hl h
      · have h := ite_t c18 h
        refine lv_aload_n hx hb d_M_readExports_21 rfl (lv_at hl 0 rfl) ?_
        refine lv_bipush (v := 8) hx hb d_M_readExports_22 (by decide) ?_
        obtain ⟨r2, s1, hc24, h⟩ := bd_e h
        refine x_vI (As := [.int 8]) (rest := []) C hX (c_M_count l g 8 s (r2, s1) hc24) (cw_M_212 C.1.2.2.2.2 C.2.2.2 ⟨by decide, by decide⟩) (x_rc C hX vg_0 rfl) rfl hl.1 rfl (lv_room (Nat.le_of_ble_eq_true rfl)) d_M_readExports_24 ⟨Nat.le_refl _, Nat.le_refl _⟩ (fun H locs hX => ?_)
        refine lv_istore_n (lv' := [(3, .int r2), (0, .ref (g.q 60)), (1, .int x1), (2, .int x2)]) hx hb d_M_readExports_27 rfl hl (by decide) rfl (fun ls hl => ?_)
        refine lv_aload_n hx hb d_M_readExports_28 rfl (lv_at hl 1 rfl) ?_
        refine gm_name C hX fl_M_30 d_M_readExports_29 ?_
        refine lv_iload_n hx hb d_M_readExports_32 rfl (lv_at hl 3 rfl) ?_
        refine lv_iload_n hx hb d_M_readExports_33 rfl (lv_at hl 0 rfl) ?_
        obtain ⟨v3, ev3, h⟩ := lt1_e h
        refine lv_i2l hx hb d_M_readExports_34 ev3.symm ?_
        obtain ⟨hz35, h⟩ := gi_e h
        obtain ⟨s4, es4, h⟩ := lt1_e h
        refine asm_7 C hX hz35 d_M_readExports_35 (fun H locs hX => ?_)
        rw [← es4] at hX
        refine lv_iconst (v := 0) hx hb d_M_readExports_36 (by decide) ?_
        refine lv_istore (lv' := [(4, .int 0), (3, .int r2), (0, .ref (g.q 60)), (1, .int x1), (2, .int x2)]) hx hb d_M_readExports_37 hl (by decide) rfl (fun ls hl => ?_)
        exact w_M_readExports_39 C hQ (f_M_readExports_9 n) ih FU x1 x2 r2 0 s4 H locs ls hX (lv_sub hl [2, 3, 4, 1, 0] rfl) h
set_option maxHeartbeats 4000000 in
set_option maxRecDepth 100000 in
theorem w_M_readExports {z : SM} (C : Cx g A p m c b_M_readExports 6 ss args R_M) (hQ : ∀ (pc : Nat) (H : Heap) (locs : List Loc) (ls : Array Slot), XW g A ss (wM g z) H locs → decode b_M_readExports pc = .ok (.return_, 1) → W p l e (rmX 4 90) ss m args below meth c H locs 0 0 Q (F0 m pc ls [])) : ∀ (s : SM) (H : Heap) (locs : List Loc) (ls : Array Slot), XW g A ss (wM g s) H locs → lv_has ls 6 [(0, .ref (g.q 60))] → f_M_readExports s = some z → W p l e (rmX 4 90) ss m args below meth c H locs 0 0 Q (F0 m 0 ls []) := by
  have ⟨⟨hx, hb, hml, hown, hts⟩, hK, hA, hN⟩ := C
  intro s H locs ls hX hl h
  rw [f_M_readExports] at h
  refine lv_aload_n hx hb d_M_readExports_0 rfl (lv_at hl 0 rfl) ?_
  refine lv_bipush (v := 8) hx hb d_M_readExports_1 (by decide) ?_
  obtain ⟨r2, s1, hc3, h⟩ := bd_e h
  refine x_vI (As := [.int 8]) (rest := []) C hX (c_M_count l g 8 s (r2, s1) hc3) (cw_M_212 C.1.2.2.2.2 C.2.2.2 ⟨by decide, by decide⟩) (x_rc C hX vg_0 rfl) rfl hl.1 rfl (lv_room (Nat.le_of_ble_eq_true rfl)) d_M_readExports_3 ⟨Nat.le_refl _, Nat.le_refl _⟩ (fun H locs hX => ?_)
  refine lv_istore_n (lv' := [(1, .int r2), (0, .ref (g.q 60))]) hx hb d_M_readExports_6 rfl hl (by decide) rfl (fun ls hl => ?_)
  refine lv_iconst (v := 0) hx hb d_M_readExports_7 (by decide) ?_
  refine lv_istore_n (lv' := [(2, .int 0), (1, .int r2), (0, .ref (g.q 60))]) hx hb d_M_readExports_8 rfl hl (by decide) rfl (fun ls hl => ?_)
  exact w_M_readExports_9 C hQ FU r2 0 s1 H locs ls hX (lv_sub hl [2, 1, 0] rfl) h
end WALK
theorem c_M_readExports (l : Launch) (g : GX) (s : SM) (z : SM) (h : f_M_readExports s = some z) : MV l g y_M_readExports b_M_readExports 6 none 4 90 [.ref (g.q 60)] (wM g s) (wM g z) :=
  MV.mk (own := R_M) (by decide) rfl (Nat.le_of_ble_eq_true rfl) fun p e ss m below meth c A Q C hQ ls hX hl => w_M_readExports C hQ s _ _ ls hX hl h
-- M_parameters
def f_M_parameters_31 (s : SM) (x1 : Int32) (y0 : Int32) : Option Int32 :=
    some (y0)
def f_M_parameters (s : SM) (x1 : Int32) : Option Int32 :=
    gi x1 8 <|
    lt1 (s.2 4 (Int32.toNatClampNeg x1)) fun v1 =>
    lt1 (Int32.toInt64 (s.1 0 6)) fun v2 =>
    lt1 (lg_cmp v1 v2) fun v3 =>
    if 0 ≤ v3 then
      f_M_parameters_31 s x1 0
    else
      gi x1 8 <|
      lt1 (s.2 4 (Int32.toNatClampNeg x1)) fun v4 =>
      lt1 (Int64.toInt32 v4) fun v5 =>
      gi v5 8 <|
      lt1 (s.1 2 (Int32.toNatClampNeg v5)) fun v6 =>
      f_M_parameters_31 s x1 v6
section WALK
variable {p : Program} {l : Launch} {e : Env} {ss : State} {m : MethodId} {args : Array Value} {below : List Frame} {meth : Method} {c : Code} {Q : State → Prop} {g : GX} {A : Nat → Prop}
set_option maxHeartbeats 4000000 in
set_option maxRecDepth 100000 in
theorem w_M_parameters_31 {s : SM} {z : Int32} (C : Cx g A p m c b_M_parameters 2 ss args R_M) (hQ : ∀ (pc : Nat) (H : Heap) (locs : List Loc) (ls : Array Slot), XW g A ss (wM g s) H locs → decode b_M_parameters pc = .ok (.ireturn, 1) → W p l e (rmX 0 0) ss m args below meth c H locs 0 0 Q (F0 m pc ls [.int z])) : ∀ (x1 : Int32) (y0 : Int32) (H : Heap) (locs : List Loc) (ls : Array Slot), XW g A ss (wM g s) H locs → lv_has ls 2 [(0, .ref (g.q 60)), (1, .int x1)] → f_M_parameters_31 s x1 y0 = some z → W p l e (rmX 0 0) ss m args below meth c H locs 0 0 Q (F0 m 31 ls [.int y0]) := by
  have ⟨⟨hx, hb, hml, hown, hts⟩, hK, hA, hN⟩ := C
  intro x1 y0 H locs ls hX hl h
  rw [f_M_parameters_31] at h
  obtain rfl := so1 h
  exact hQ _ H locs ls hX d_M_parameters_31
set_option maxHeartbeats 4000000 in
set_option maxRecDepth 100000 in
theorem w_M_parameters {s : SM} {z : Int32} (C : Cx g A p m c b_M_parameters 2 ss args R_M) (hQ : ∀ (pc : Nat) (H : Heap) (locs : List Loc) (ls : Array Slot), XW g A ss (wM g s) H locs → decode b_M_parameters pc = .ok (.ireturn, 1) → W p l e (rmX 0 0) ss m args below meth c H locs 0 0 Q (F0 m pc ls [.int z])) : ∀ (x1 : Int32) (H : Heap) (locs : List Loc) (ls : Array Slot), XW g A ss (wM g s) H locs → lv_has ls 2 [(0, .ref (g.q 60)), (1, .int x1)] → f_M_parameters s x1 = some z → W p l e (rmX 0 0) ss m args below meth c H locs 0 0 Q (F0 m 0 ls []) := by
  have ⟨⟨hx, hb, hml, hown, hts⟩, hK, hA, hN⟩ := C
  intro x1 H locs ls hX hl h
  rw [f_M_parameters] at h
  refine lv_aload_n hx hb d_M_parameters_0 rfl (lv_at hl 0 rfl) ?_
  refine gm_typeOf C hX fl_M_19 d_M_parameters_1 ?_
  refine lv_iload_n hx hb d_M_parameters_4 rfl (lv_at hl 1 rfl) ?_
  obtain ⟨hz5, h⟩ := gi_e h
  obtain ⟨v1, ev1, h⟩ := lt1_e h
  refine alm_4 C hX hz5 d_M_parameters_5 ev1 ?_
  refine lv_aload_n hx hb d_M_parameters_6 rfl (lv_at hl 0 rfl) ?_
  refine gm_types C hX fl_M_219 d_M_parameters_7 ?_
  obtain ⟨v2, ev2, h⟩ := lt1_e h
  refine lv_i2l hx hb d_M_parameters_10 ev2.symm ?_
  obtain ⟨v3, ev3, h⟩ := lt1_e h
  refine x_lcmp hx hb d_M_parameters_11 ev3 ?_
  refine lv_if_ge (tgt := 30) hx hb d_M_parameters_12 (by decide) (fun c12 => ?_) (fun c12 => ?_)
  · have h := ite_t c12 h
    refine lv_iconst (v := 0) hx hb d_M_parameters_30 (by decide) ?_
    exact w_M_parameters_31 C hQ x1 0 H locs ls hX hl h
  · have h := ite_f c12 h
    refine lv_aload_n hx hb d_M_parameters_15 rfl (lv_at hl 0 rfl) ?_
    refine gm_params C hX fl_M_13 d_M_parameters_16 ?_
    refine lv_aload_n hx hb d_M_parameters_19 rfl (lv_at hl 0 rfl) ?_
    refine gm_typeOf C hX fl_M_19 d_M_parameters_20 ?_
    refine lv_iload_n hx hb d_M_parameters_23 rfl (lv_at hl 1 rfl) ?_
    obtain ⟨hz24, h⟩ := gi_e h
    obtain ⟨v4, ev4, h⟩ := lt1_e h
    refine alm_4 C hX hz24 d_M_parameters_24 ev4 ?_
    obtain ⟨v5, ev5, h⟩ := lt1_e h
    refine lv_l2i hx hb d_M_parameters_25 ev5.symm ?_
    obtain ⟨hz26, h⟩ := gi_e h
    obtain ⟨v6, ev6, h⟩ := lt1_e h
    refine alm_2 C hX hz26 d_M_parameters_26 ev6 ?_
    refine lv_goto (tgt := 31) hx hb d_M_parameters_27 (by decide) ?_
    exact w_M_parameters_31 C hQ x1 v6 H locs ls hX hl h
end WALK
theorem c_M_parameters (l : Launch) (g : GX) (x1 : Int32) (s : SM) (z : Int32) (h : f_M_parameters s x1 = some z) : MI l g y_M_parameters b_M_parameters 2 (some .int) 0 0 [.ref (g.q 60), .int x1] (wM g s) z (wM g s) :=
  MI.mk (own := R_M) (by decide) rfl (Nat.le_of_ble_eq_true rfl) fun p e ss m below meth c A Q C hQ ls hX hl => w_M_parameters C hQ x1 _ _ ls hX hl h
-- M_readLocals
def f_M_readLocals_100 (x1 : Int32) (x2 : Int64) (x4 : Int64) (x6 : Int64) (y1 : Int32) (y2 : Int32) (s : SM) : Option SM :=
    gi y1 8 <|
    lt1 (stI s 24 (Int32.toNatClampNeg y1) y2) fun s1 =>
    some s1
def f_M_readLocals_75 (x1 : Int32) (x2 : Int64) (x4 : Int64) (x6 : Int64) (s : SM) : Option SM :=
    if s.1 0 5 ≤ 0 then
      lt1 (Int64.toInt32 x4) fun v1 =>
      bd1 (f_M_parameters s x1) fun r2 =>
      lt1 (v1 - r2) fun v3 =>
      f_M_readLocals_100 x1 x2 x4 x6 x1 v3 s
    else
      f_M_readLocals_100 x1 x2 x4 x6 x1 0 s
def f_M_readLocals_58 (k16 : Int32 → Int64 → Int64 → Int64 → SM → Option SM) (x1 : Int32) (x2 : Int64) (x4 : Int64) (x6 : Int64) (x8 : Int64) (y1 : Int32) (s : SM) : Option SM :=
    bd1 (f_M_will y1 2 s) fun s1 =>
    bd1 (f_M_value s1) fun s2 =>
    lt1 (x6 + 1) fun v3 =>
    k16 x1 x2 x4 v3 s2
def f_M_readLocals_16 : Nat → Int32 → Int64 → Int64 → Int64 → SM → Option SM
  | 0, _, _, _, _, _ => none
  | n + 1, x1, x2, x4, x6, s =>
    lt1 (lg_cmp x6 x2) fun v1 =>
    if 0 ≤ v1 then
      f_M_readLocals_75 x1 x2 x4 x6 s
    else
      if s.1 0 5 = 0 then
        bd (f_M_unsigned s) fun r3 s2 =>
        lt1 (x4 + r3) fun v4 =>
        lt1 (lg_cmp v4 12) fun v5 =>
        if 0 < v5 then
          f_M_readLocals_58 (f_M_readLocals_16 n) x1 x2 v4 x6 r3 0 s2
        else
          f_M_readLocals_58 (f_M_readLocals_16 n) x1 x2 v4 x6 r3 1 s2
      else
        f_M_readLocals_75 x1 x2 x4 x6 s
def f_M_readLocals (x1 : Int32) (s : SM) : Option SM :=
    bd (f_M_unsigned s) fun r2 s1 =>
    bd1 (f_M_parameters s1 x1) fun r3 =>
    lt1 (Int32.toInt64 r3) fun v4 =>
    f_M_readLocals_16 FU x1 r2 v4 0 s1
section WALK
variable {p : Program} {l : Launch} {e : Env} {ss : State} {m : MethodId} {args : Array Value} {below : List Frame} {meth : Method} {c : Code} {Q : State → Prop} {g : GX} {A : Nat → Prop}
set_option maxHeartbeats 4000000 in
set_option maxRecDepth 100000 in
theorem w_M_readLocals_100 {z : SM} (C : Cx g A p m c b_M_readLocals 10 ss args R_M) (hQ : ∀ (pc : Nat) (H : Heap) (locs : List Loc) (ls : Array Slot), XW g A ss (wM g z) H locs → decode b_M_readLocals pc = .ok (.return_, 1) → W p l e (rmX 3 67) ss m args below meth c H locs 0 0 Q (F0 m pc ls [])) : ∀ (x1 : Int32) (x2 : Int64) (x4 : Int64) (x6 : Int64) (y1 : Int32) (y2 : Int32) (s : SM) (H : Heap) (locs : List Loc) (ls : Array Slot), XW g A ss (wM g s) H locs → lv_has ls 10 [(0, .ref (g.q 60)), (1, .int x1), (2, .long x2), (4, .long x4), (6, .long x6)] → f_M_readLocals_100 x1 x2 x4 x6 y1 y2 s = some z → W p l e (rmX 3 67) ss m args below meth c H locs 0 0 Q (F0 m 100 ls [.int y2, .int y1, .ref (g.q 84)]) := by
  have ⟨⟨hx, hb, hml, hown, hts⟩, hK, hA, hN⟩ := C
  intro x1 x2 x4 x6 y1 y2 s H locs ls hX hl h
  rw [f_M_readLocals_100] at h
  obtain ⟨hz100, h⟩ := gi_e h
  obtain ⟨s1, es1, h⟩ := lt1_e h
  refine asm_24 C hX hz100 d_M_readLocals_100 (fun H locs hX => ?_)
  rw [← es1] at hX
  obtain rfl := so1 h
  exact hQ _ H locs ls hX d_M_readLocals_101
set_option maxHeartbeats 4000000 in
set_option maxRecDepth 100000 in
theorem w_M_readLocals_75 {z : SM} (C : Cx g A p m c b_M_readLocals 10 ss args R_M) (hQ : ∀ (pc : Nat) (H : Heap) (locs : List Loc) (ls : Array Slot), XW g A ss (wM g z) H locs → decode b_M_readLocals pc = .ok (.return_, 1) → W p l e (rmX 3 67) ss m args below meth c H locs 0 0 Q (F0 m pc ls [])) : ∀ (x1 : Int32) (x2 : Int64) (x4 : Int64) (x6 : Int64) (s : SM) (H : Heap) (locs : List Loc) (ls : Array Slot), XW g A ss (wM g s) H locs → lv_has ls 10 [(0, .ref (g.q 60)), (1, .int x1), (2, .long x2), (4, .long x4), (6, .long x6)] → f_M_readLocals_75 x1 x2 x4 x6 s = some z → W p l e (rmX 3 67) ss m args below meth c H locs 0 0 Q (F0 m 75 ls []) := by
  have ⟨⟨hx, hb, hml, hown, hts⟩, hK, hA, hN⟩ := C
  intro x1 x2 x4 x6 s H locs ls hX hl h
  rw [f_M_readLocals_75] at h
  refine lv_aload_n hx hb d_M_readLocals_75 rfl (lv_at hl 0 rfl) ?_
  refine gm_extra C hX fl_M_81 d_M_readLocals_76 ?_
  refine lv_iload_n hx hb d_M_readLocals_79 rfl (lv_at hl 1 rfl) ?_
  refine lv_aload_n hx hb d_M_readLocals_80 rfl (lv_at hl 0 rfl) ?_
  refine gm_wrong C hX fl_M_149 d_M_readLocals_81 ?_
  refine lv_if_le (tgt := 91) hx hb d_M_readLocals_84 (by decide) (fun c84 => ?_) (fun c84 => ?_)
  · have h := ite_t c84 h
    refine lv_lload hx hb d_M_readLocals_91 (lv_at hl 3 rfl) ?_
    obtain ⟨v1, ev1, h⟩ := lt1_e h
    refine lv_l2i hx hb d_M_readLocals_93 ev1.symm ?_
    refine lv_aload_n hx hb d_M_readLocals_94 rfl (lv_at hl 0 rfl) ?_
    refine lv_iload_n hx hb d_M_readLocals_95 rfl (lv_at hl 1 rfl) ?_
    obtain ⟨r2, hc96, h⟩ := bd1_e h
    refine x_vI (As := [.int x1]) (rest := [.int v1, .int x1, .ref (g.q 84)]) C hX (c_M_parameters l g x1 s r2 hc96) (cw_M_258 C.1.2.2.2.2 C.2.2.2 ⟨by decide, by decide⟩) (x_rc C hX vg_0 rfl) rfl hl.1 rfl (lv_room (Nat.le_of_ble_eq_true rfl)) d_M_readLocals_96 ⟨Nat.le_refl _, Nat.le_refl _⟩ (fun H locs hX => ?_)
    obtain ⟨v3, ev3, h⟩ := lt1_e h
    refine x_isub hx hb d_M_readLocals_99 ev3 ?_
    exact w_M_readLocals_100 C hQ x1 x2 x4 x6 x1 v3 s H locs ls hX hl h
  · have h := ite_f c84 h
    refine lv_iconst (v := 0) hx hb d_M_readLocals_87 (by decide) ?_
    refine lv_goto (tgt := 100) hx hb d_M_readLocals_88 (by decide) ?_
    exact w_M_readLocals_100 C hQ x1 x2 x4 x6 x1 0 s H locs ls hX hl h
set_option maxHeartbeats 4000000 in
set_option maxRecDepth 100000 in
theorem w_M_readLocals_58 {z : SM} (C : Cx g A p m c b_M_readLocals 10 ss args R_M) (hQ : ∀ (pc : Nat) (H : Heap) (locs : List Loc) (ls : Array Slot), XW g A ss (wM g z) H locs → decode b_M_readLocals pc = .ok (.return_, 1) → W p l e (rmX 3 67) ss m args below meth c H locs 0 0 Q (F0 m pc ls [])) (k16 : Int32 → Int64 → Int64 → Int64 → SM → Option SM) (hk16 : ∀ (x1 : Int32) (x2 : Int64) (x4 : Int64) (x6 : Int64) (s : SM) (H : Heap) (locs : List Loc) (ls : Array Slot), XW g A ss (wM g s) H locs → lv_has ls 10 [(0, .ref (g.q 60)), (1, .int x1), (2, .long x2), (4, .long x4), (6, .long x6)] → k16 x1 x2 x4 x6 s = some z → W p l e (rmX 3 67) ss m args below meth c H locs 0 0 Q (F0 m 16 ls [])) : ∀ (x1 : Int32) (x2 : Int64) (x4 : Int64) (x6 : Int64) (x8 : Int64) (y1 : Int32) (s : SM) (H : Heap) (locs : List Loc) (ls : Array Slot), XW g A ss (wM g s) H locs → lv_has ls 10 [(0, .ref (g.q 60)), (1, .int x1), (2, .long x2), (4, .long x4), (6, .long x6), (8, .long x8)] → f_M_readLocals_58 k16 x1 x2 x4 x6 x8 y1 s = some z → W p l e (rmX 3 67) ss m args below meth c H locs 0 0 Q (F0 m 58 ls [.int y1, .ref (g.q 60)]) := by
  have ⟨⟨hx, hb, hml, hown, hts⟩, hK, hA, hN⟩ := C
  intro x1 x2 x4 x6 x8 y1 s H locs ls hX hl h
  rw [f_M_readLocals_58] at h
  refine lv_iconst (v := 2) hx hb d_M_readLocals_58 (by decide) ?_
  obtain ⟨s1, hc59, h⟩ := bd1_e h
  refine x_vV (As := [.int y1, .int 2]) (rest := []) C hX (c_M_will l g y1 2 s s1 hc59) (cw_M_158 C.1.2.2.2.2 C.2.2.2 ⟨by decide, by decide⟩) (x_rc C hX vg_0 rfl) rfl hl.1 rfl (lv_room (Nat.le_of_ble_eq_true rfl)) d_M_readLocals_59 ⟨Nat.le_refl _, Nat.le_refl _⟩ (fun H locs hX => ?_)
  refine lv_aload_n hx hb d_M_readLocals_62 rfl (lv_at hl 0 rfl) ?_
  obtain ⟨s2, hc63, h⟩ := bd1_e h
  refine x_vV (As := []) (rest := []) C hX (c_M_value l g s1 s2 hc63) (cw_M_216 C.1.2.2.2.2 C.2.2.2 ⟨by decide, by decide⟩) (x_rc C hX vg_0 rfl) rfl hl.1 rfl (lv_room (Nat.le_of_ble_eq_true rfl)) d_M_readLocals_63 ⟨Nat.le_refl _, Nat.le_refl _⟩ (fun H locs hX => ?_)
  refine lv_lload hx hb d_M_readLocals_66 (lv_at hl 4 rfl) ?_
  refine lv_lconst (v := 1) hx hb d_M_readLocals_68 (by decide) ?_
  obtain ⟨v3, ev3, h⟩ := lt1_e h
  refine x_ladd hx hb d_M_readLocals_69 ev3 ?_
  refine lv_lstore (lv' := [(6, .long v3), (0, .ref (g.q 60)), (1, .int x1), (2, .long x2), (4, .long x4), (8, .long x8)]) hx hb d_M_readLocals_70 hl (by decide) rfl (fun ls hl => ?_)
  refine lv_goto (tgt := 16) hx hb d_M_readLocals_72 (by decide) ?_
  exact hk16 x1 x2 x4 v3 s2 H locs ls hX (lv_sub hl [1, 2, 3, 4, 0] rfl) h
set_option maxHeartbeats 4000000 in
set_option maxRecDepth 100000 in
theorem w_M_readLocals_16 {z : SM} (C : Cx g A p m c b_M_readLocals 10 ss args R_M) (hQ : ∀ (pc : Nat) (H : Heap) (locs : List Loc) (ls : Array Slot), XW g A ss (wM g z) H locs → decode b_M_readLocals pc = .ok (.return_, 1) → W p l e (rmX 3 67) ss m args below meth c H locs 0 0 Q (F0 m pc ls [])) (n : Nat) : ∀ (x1 : Int32) (x2 : Int64) (x4 : Int64) (x6 : Int64) (s : SM) (H : Heap) (locs : List Loc) (ls : Array Slot), XW g A ss (wM g s) H locs → lv_has ls 10 [(0, .ref (g.q 60)), (1, .int x1), (2, .long x2), (4, .long x4), (6, .long x6)] → f_M_readLocals_16 n x1 x2 x4 x6 s = some z → W p l e (rmX 3 67) ss m args below meth c H locs 0 0 Q (F0 m 16 ls []) := by
  have ⟨⟨hx, hb, hml, hown, hts⟩, hK, hA, hN⟩ := C
  induction n with
  | zero => intro x1 x2 x4 x6 s H locs ls hX hl h; cases h
  | succ n ih =>
    intro x1 x2 x4 x6 s H locs ls hX hl h
    rw [f_M_readLocals_16] at h
    refine lv_lload hx hb d_M_readLocals_16 (lv_at hl 4 rfl) ?_
    refine lv_lload_n hx hb d_M_readLocals_18 rfl (lv_at hl 2 rfl) ?_
    obtain ⟨v1, ev1, h⟩ := lt1_e h
    refine x_lcmp hx hb d_M_readLocals_19 ev1 ?_
    refine lv_if_ge (tgt := 75) hx hb d_M_readLocals_20 (by decide) (fun c20 => ?_) (fun c20 => ?_)
    · have h := ite_t c20 h
      exact w_M_readLocals_75 C hQ x1 x2 x4 x6 s H locs ls hX hl h
    · have h := ite_f c20 h
      refine lv_aload_n hx hb d_M_readLocals_23 rfl (lv_at hl 0 rfl) ?_
      refine gm_wrong C hX fl_M_149 d_M_readLocals_24 ?_
      refine lv_if_ne (tgt := 75) hx hb d_M_readLocals_27 (by decide) (fun c27 => ?_) (fun c27 => ?_)
      · have h := ite_f c27 h
        exact w_M_readLocals_75 C hQ x1 x2 x4 x6 s H locs ls hX hl h
      · have h := ite_t c27 h
        refine lv_aload_n hx hb d_M_readLocals_30 rfl (lv_at hl 0 rfl) ?_
        obtain ⟨r3, s2, hc31, h⟩ := bd_e h
        refine x_vL (As := []) (rest := []) C hX (c_M_unsigned l g s (r3, s2) hc31) (cw_M_168 C.1.2.2.2.2 C.2.2.2 ⟨by decide, by decide⟩) (x_rc C hX vg_0 rfl) rfl hl.1 rfl (lv_room (Nat.le_of_ble_eq_true rfl)) d_M_readLocals_31 ⟨Nat.le_refl _, Nat.le_refl _⟩ (fun H locs hX => ?_)
        refine lv_lstore (lv' := [(8, .long r3), (0, .ref (g.q 60)), (1, .int x1), (2, .long x2), (4, .long x4), (6, .long x6)]) hx hb d_M_readLocals_34 hl (by decide) rfl (fun ls hl => ?_)
        refine lv_lload hx hb d_M_readLocals_36 (lv_at hl 4 rfl) ?_
        refine lv_lload hx hb d_M_readLocals_38 (lv_at hl 0 rfl) ?_
        obtain ⟨v4, ev4, h⟩ := lt1_e h
        refine x_ladd hx hb d_M_readLocals_40 ev4 ?_
        refine lv_lstore (lv' := [(4, .long v4), (8, .long r3), (0, .ref (g.q 60)), (1, .int x1), (2, .long x2), (6, .long x6)]) hx hb d_M_readLocals_41 hl (by decide) rfl (fun ls hl => ?_)
        refine lv_aload_n hx hb d_M_readLocals_43 rfl (lv_at hl 2 rfl) ?_
        refine lv_lload hx hb d_M_readLocals_44 (lv_at hl 0 rfl) ?_
        refine lv_ldc2 (v := 12) hx hb hown (hts _ m_constantLong_M_261) d_M_readLocals_46 ?_
        obtain ⟨v5, ev5, h⟩ := lt1_e h
        refine x_lcmp hx hb d_M_readLocals_49 ev5 ?_
        refine lv_if_gt (tgt := 57) hx hb d_M_readLocals_50 (by decide) (fun c50 => ?_) (fun c50 => ?_)
        · have h := ite_t c50 h
          refine lv_iconst (v := 0) hx hb d_M_readLocals_57 (by decide) ?_
          exact w_M_readLocals_58 C hQ (f_M_readLocals_16 n) ih x1 x2 v4 x6 r3 0 s2 H locs ls hX (lv_sub hl [2, 3, 4, 0, 5, 1] rfl) h
        · have h := ite_f c50 h
          refine lv_iconst (v := 1) hx hb d_M_readLocals_53 (by decide) ?_
          refine lv_goto (tgt := 58) hx hb d_M_readLocals_54 (by decide) ?_
          exact w_M_readLocals_58 C hQ (f_M_readLocals_16 n) ih x1 x2 v4 x6 r3 1 s2 H locs ls hX (lv_sub hl [2, 3, 4, 0, 5, 1] rfl) h
set_option maxHeartbeats 4000000 in
set_option maxRecDepth 100000 in
theorem w_M_readLocals {z : SM} (C : Cx g A p m c b_M_readLocals 10 ss args R_M) (hQ : ∀ (pc : Nat) (H : Heap) (locs : List Loc) (ls : Array Slot), XW g A ss (wM g z) H locs → decode b_M_readLocals pc = .ok (.return_, 1) → W p l e (rmX 3 67) ss m args below meth c H locs 0 0 Q (F0 m pc ls [])) : ∀ (x1 : Int32) (s : SM) (H : Heap) (locs : List Loc) (ls : Array Slot), XW g A ss (wM g s) H locs → lv_has ls 10 [(0, .ref (g.q 60)), (1, .int x1)] → f_M_readLocals x1 s = some z → W p l e (rmX 3 67) ss m args below meth c H locs 0 0 Q (F0 m 0 ls []) := by
  have ⟨⟨hx, hb, hml, hown, hts⟩, hK, hA, hN⟩ := C
  intro x1 s H locs ls hX hl h
  rw [f_M_readLocals] at h
  refine lv_aload_n hx hb d_M_readLocals_0 rfl (lv_at hl 0 rfl) ?_
  obtain ⟨r2, s1, hc1, h⟩ := bd_e h
  refine x_vL (As := []) (rest := []) C hX (c_M_unsigned l g s (r2, s1) hc1) (cw_M_168 C.1.2.2.2.2 C.2.2.2 ⟨by decide, by decide⟩) (x_rc C hX vg_0 rfl) rfl hl.1 rfl (lv_room (Nat.le_of_ble_eq_true rfl)) d_M_readLocals_1 ⟨Nat.le_refl _, Nat.le_refl _⟩ (fun H locs hX => ?_)
  refine lv_lstore_n (lv' := [(2, .long r2), (0, .ref (g.q 60)), (1, .int x1)]) hx hb d_M_readLocals_4 rfl hl (by decide) rfl (fun ls hl => ?_)
  refine lv_aload_n hx hb d_M_readLocals_5 rfl (lv_at hl 1 rfl) ?_
  refine lv_iload_n hx hb d_M_readLocals_6 rfl (lv_at hl 2 rfl) ?_
  obtain ⟨r3, hc7, h⟩ := bd1_e h
  refine x_vI (As := [.int x1]) (rest := []) C hX (c_M_parameters l g x1 s1 r3 hc7) (cw_M_258 C.1.2.2.2.2 C.2.2.2 ⟨by decide, by decide⟩) (x_rc C hX vg_0 rfl) rfl hl.1 rfl (lv_room (Nat.le_of_ble_eq_true rfl)) d_M_readLocals_7 ⟨Nat.le_refl _, Nat.le_refl _⟩ (fun H locs hX => ?_)
  obtain ⟨v4, ev4, h⟩ := lt1_e h
  refine lv_i2l hx hb d_M_readLocals_10 ev4.symm ?_
  refine lv_lstore (lv' := [(4, .long v4), (2, .long r2), (0, .ref (g.q 60)), (1, .int x1)]) hx hb d_M_readLocals_11 hl (by decide) rfl (fun ls hl => ?_)
  refine lv_lconst (v := 0) hx hb d_M_readLocals_13 (by decide) ?_
  refine lv_lstore (lv' := [(6, .long 0), (4, .long v4), (2, .long r2), (0, .ref (g.q 60)), (1, .int x1)]) hx hb d_M_readLocals_14 hl (by decide) rfl (fun ls hl => ?_)
  exact w_M_readLocals_16 C hQ FU x1 r2 v4 0 s1 H locs ls hX (lv_sub hl [3, 4, 2, 1, 0] rfl) h
end WALK
theorem c_M_readLocals (l : Launch) (g : GX) (x1 : Int32) (s : SM) (z : SM) (h : f_M_readLocals x1 s = some z) : MV l g y_M_readLocals b_M_readLocals 10 none 3 67 [.ref (g.q 60), .int x1] (wM g s) (wM g z) :=
  MV.mk (own := R_M) (by decide) rfl (Nat.le_of_ble_eq_true rfl) fun p e ss m below meth c A Q C hQ ls hX hl => w_M_readLocals C hQ x1 s _ _ ls hX hl h
-- M_isKnown
def f_M_isKnown_119 (x0 : Int32) (y0 : Int32) : Option Int32 :=
    bz y0 <|
    some (y0)
def f_M_isKnown_114 (x0 : Int32) : Option Int32 :=
    f_M_isKnown_119 x0 1
def f_M_isKnown_118 (x0 : Int32) : Option Int32 :=
    f_M_isKnown_119 x0 0
def f_M_isKnown_102 (x0 : Int32) : Option Int32 :=
    if x0 ≤ 102 then
      f_M_isKnown_118 x0
    else
      if 121 ≤ x0 then
        f_M_isKnown_118 x0
      else
        f_M_isKnown_114 x0
def f_M_isKnown_90 (x0 : Int32) : Option Int32 :=
    if x0 ≤ 68 then
      f_M_isKnown_102 x0
    else
      if x0 < 80 then
        f_M_isKnown_114 x0
      else
        f_M_isKnown_102 x0
def f_M_isKnown_60 (x0 : Int32) : Option Int32 :=
    if x0 = 54 then
      f_M_isKnown_114 x0
    else
      if x0 = 58 then
        f_M_isKnown_114 x0
      else
        if x0 = 59 then
          f_M_isKnown_114 x0
        else
          if x0 ≤ 62 then
            f_M_isKnown_90 x0
          else
            if x0 < 66 then
              f_M_isKnown_114 x0
            else
              f_M_isKnown_90 x0
def f_M_isKnown_42 (x0 : Int32) : Option Int32 :=
    if x0 = 40 then
      f_M_isKnown_114 x0
    else
      if x0 ≤ 43 then
        f_M_isKnown_60 x0
      else
        if x0 < 48 then
          f_M_isKnown_114 x0
        else
          f_M_isKnown_60 x0
def f_M_isKnown_18 (x0 : Int32) : Option Int32 :=
    if x0 = 26 then
      f_M_isKnown_114 x0
    else
      if x0 = 27 then
        f_M_isKnown_114 x0
      else
        if x0 ≤ 31 then
          f_M_isKnown_42 x0
        else
          if x0 < 37 then
            f_M_isKnown_114 x0
          else
            f_M_isKnown_42 x0
def f_M_isKnown (x0 : Int32) : Option Int32 :=
    if x0 < 6 then
      f_M_isKnown_114 x0
    else
      if x0 ≤ 10 then
        f_M_isKnown_18 x0
      else
        if x0 < 17 then
          f_M_isKnown_114 x0
        else
          f_M_isKnown_18 x0
section WALK
variable {p : Program} {l : Launch} {e : Env} {ss : State} {m : MethodId} {args : Array Value} {below : List Frame} {meth : Method} {c : Code} {Q : State → Prop} {g : GX} {A : Nat → Prop}
set_option maxHeartbeats 4000000 in
set_option maxRecDepth 100000 in
theorem w_M_isKnown_119 {ws : va_W} {z : Int32} (C : Cx g A p m c b_M_isKnown 1 ss args R_M) (hQ : ∀ (pc : Nat) (H : Heap) (locs : List Loc) (ls : Array Slot), XW g A ss ws H locs → (z = 0 ∨ z = 1) → decode b_M_isKnown pc = .ok (.ireturn, 1) → W p l e (rmX 0 0) ss m args below meth c H locs 0 0 Q (F0 m pc ls [.int z])) : ∀ (x0 : Int32) (y0 : Int32) (H : Heap) (locs : List Loc) (ls : Array Slot), XW g A ss ws H locs → lv_has ls 1 [(0, .int x0)] → f_M_isKnown_119 x0 y0 = some z → W p l e (rmX 0 0) ss m args below meth c H locs 0 0 Q (F0 m 119 ls [.int y0]) := by
  have ⟨⟨hx, hb, hml, hown, hts⟩, hK, hA, hN⟩ := C
  intro x0 y0 H locs ls hX hl h
  rw [f_M_isKnown_119] at h
  obtain ⟨hz, h⟩ := bz_e h
  obtain rfl := so1 h
  exact hQ _ H locs ls hX hz d_M_isKnown_119
set_option maxHeartbeats 4000000 in
set_option maxRecDepth 100000 in
theorem w_M_isKnown_114 {ws : va_W} {z : Int32} (C : Cx g A p m c b_M_isKnown 1 ss args R_M) (hQ : ∀ (pc : Nat) (H : Heap) (locs : List Loc) (ls : Array Slot), XW g A ss ws H locs → (z = 0 ∨ z = 1) → decode b_M_isKnown pc = .ok (.ireturn, 1) → W p l e (rmX 0 0) ss m args below meth c H locs 0 0 Q (F0 m pc ls [.int z])) : ∀ (x0 : Int32) (H : Heap) (locs : List Loc) (ls : Array Slot), XW g A ss ws H locs → lv_has ls 1 [(0, .int x0)] → f_M_isKnown_114 x0 = some z → W p l e (rmX 0 0) ss m args below meth c H locs 0 0 Q (F0 m 114 ls []) := by
  have ⟨⟨hx, hb, hml, hown, hts⟩, hK, hA, hN⟩ := C
  intro x0 H locs ls hX hl h
  rw [f_M_isKnown_114] at h
  refine lv_iconst (v := 1) hx hb d_M_isKnown_114 (by decide) ?_
  refine lv_goto (tgt := 119) hx hb d_M_isKnown_115 (by decide) ?_
  exact w_M_isKnown_119 C hQ x0 1 H locs ls hX hl h
set_option maxHeartbeats 4000000 in
set_option maxRecDepth 100000 in
theorem w_M_isKnown_118 {ws : va_W} {z : Int32} (C : Cx g A p m c b_M_isKnown 1 ss args R_M) (hQ : ∀ (pc : Nat) (H : Heap) (locs : List Loc) (ls : Array Slot), XW g A ss ws H locs → (z = 0 ∨ z = 1) → decode b_M_isKnown pc = .ok (.ireturn, 1) → W p l e (rmX 0 0) ss m args below meth c H locs 0 0 Q (F0 m pc ls [.int z])) : ∀ (x0 : Int32) (H : Heap) (locs : List Loc) (ls : Array Slot), XW g A ss ws H locs → lv_has ls 1 [(0, .int x0)] → f_M_isKnown_118 x0 = some z → W p l e (rmX 0 0) ss m args below meth c H locs 0 0 Q (F0 m 118 ls []) := by
  have ⟨⟨hx, hb, hml, hown, hts⟩, hK, hA, hN⟩ := C
  intro x0 H locs ls hX hl h
  rw [f_M_isKnown_118] at h
  refine lv_iconst (v := 0) hx hb d_M_isKnown_118 (by decide) ?_
  exact w_M_isKnown_119 C hQ x0 0 H locs ls hX hl h
set_option maxHeartbeats 4000000 in
set_option maxRecDepth 100000 in
theorem w_M_isKnown_102 {ws : va_W} {z : Int32} (C : Cx g A p m c b_M_isKnown 1 ss args R_M) (hQ : ∀ (pc : Nat) (H : Heap) (locs : List Loc) (ls : Array Slot), XW g A ss ws H locs → (z = 0 ∨ z = 1) → decode b_M_isKnown pc = .ok (.ireturn, 1) → W p l e (rmX 0 0) ss m args below meth c H locs 0 0 Q (F0 m pc ls [.int z])) : ∀ (x0 : Int32) (H : Heap) (locs : List Loc) (ls : Array Slot), XW g A ss ws H locs → lv_has ls 1 [(0, .int x0)] → f_M_isKnown_102 x0 = some z → W p l e (rmX 0 0) ss m args below meth c H locs 0 0 Q (F0 m 102 ls []) := by
  have ⟨⟨hx, hb, hml, hown, hts⟩, hK, hA, hN⟩ := C
  intro x0 H locs ls hX hl h
  rw [f_M_isKnown_102] at h
  refine lv_iload_n hx hb d_M_isKnown_102 rfl (lv_at hl 0 rfl) ?_
  refine lv_bipush (v := 102) hx hb d_M_isKnown_103 (by decide) ?_
  refine lv_icmp_le (tgt := 118) hx hb d_M_isKnown_105 (by decide) (fun c105 => ?_) (fun c105 => ?_)
  · have h := ite_t c105 h
    exact w_M_isKnown_118 C hQ x0 H locs ls hX hl h
  · have h := ite_f c105 h
    refine lv_iload_n hx hb d_M_isKnown_108 rfl (lv_at hl 0 rfl) ?_
    refine lv_bipush (v := 121) hx hb d_M_isKnown_109 (by decide) ?_
    refine lv_icmp_ge (tgt := 118) hx hb d_M_isKnown_111 (by decide) (fun c111 => ?_) (fun c111 => ?_)
    · have h := ite_t c111 h
      exact w_M_isKnown_118 C hQ x0 H locs ls hX hl h
    · have h := ite_f c111 h
      exact w_M_isKnown_114 C hQ x0 H locs ls hX hl h
set_option maxHeartbeats 4000000 in
set_option maxRecDepth 100000 in
theorem w_M_isKnown_90 {ws : va_W} {z : Int32} (C : Cx g A p m c b_M_isKnown 1 ss args R_M) (hQ : ∀ (pc : Nat) (H : Heap) (locs : List Loc) (ls : Array Slot), XW g A ss ws H locs → (z = 0 ∨ z = 1) → decode b_M_isKnown pc = .ok (.ireturn, 1) → W p l e (rmX 0 0) ss m args below meth c H locs 0 0 Q (F0 m pc ls [.int z])) : ∀ (x0 : Int32) (H : Heap) (locs : List Loc) (ls : Array Slot), XW g A ss ws H locs → lv_has ls 1 [(0, .int x0)] → f_M_isKnown_90 x0 = some z → W p l e (rmX 0 0) ss m args below meth c H locs 0 0 Q (F0 m 90 ls []) := by
  have ⟨⟨hx, hb, hml, hown, hts⟩, hK, hA, hN⟩ := C
  intro x0 H locs ls hX hl h
  rw [f_M_isKnown_90] at h
  refine lv_iload_n hx hb d_M_isKnown_90 rfl (lv_at hl 0 rfl) ?_
  refine lv_bipush (v := 68) hx hb d_M_isKnown_91 (by decide) ?_
  refine lv_icmp_le (tgt := 102) hx hb d_M_isKnown_93 (by decide) (fun c93 => ?_) (fun c93 => ?_)
  · have h := ite_t c93 h
    exact w_M_isKnown_102 C hQ x0 H locs ls hX hl h
  · have h := ite_f c93 h
    refine lv_iload_n hx hb d_M_isKnown_96 rfl (lv_at hl 0 rfl) ?_
    refine lv_bipush (v := 80) hx hb d_M_isKnown_97 (by decide) ?_
    refine lv_icmp_lt (tgt := 114) hx hb d_M_isKnown_99 (by decide) (fun c99 => ?_) (fun c99 => ?_)
    · have h := ite_t c99 h
      exact w_M_isKnown_114 C hQ x0 H locs ls hX hl h
    · have h := ite_f c99 h
      exact w_M_isKnown_102 C hQ x0 H locs ls hX hl h
set_option maxHeartbeats 4000000 in
set_option maxRecDepth 100000 in
theorem w_M_isKnown_60 {ws : va_W} {z : Int32} (C : Cx g A p m c b_M_isKnown 1 ss args R_M) (hQ : ∀ (pc : Nat) (H : Heap) (locs : List Loc) (ls : Array Slot), XW g A ss ws H locs → (z = 0 ∨ z = 1) → decode b_M_isKnown pc = .ok (.ireturn, 1) → W p l e (rmX 0 0) ss m args below meth c H locs 0 0 Q (F0 m pc ls [.int z])) : ∀ (x0 : Int32) (H : Heap) (locs : List Loc) (ls : Array Slot), XW g A ss ws H locs → lv_has ls 1 [(0, .int x0)] → f_M_isKnown_60 x0 = some z → W p l e (rmX 0 0) ss m args below meth c H locs 0 0 Q (F0 m 60 ls []) := by
  have ⟨⟨hx, hb, hml, hown, hts⟩, hK, hA, hN⟩ := C
  intro x0 H locs ls hX hl h
  rw [f_M_isKnown_60] at h
  refine lv_iload_n hx hb d_M_isKnown_60 rfl (lv_at hl 0 rfl) ?_
  refine lv_bipush (v := 54) hx hb d_M_isKnown_61 (by decide) ?_
  refine lv_icmp_eq (tgt := 114) hx hb d_M_isKnown_63 (by decide) (fun c63 => ?_) (fun c63 => ?_)
  · have h := ite_t c63 h
    exact w_M_isKnown_114 C hQ x0 H locs ls hX hl h
  · have h := ite_f c63 h
    refine lv_iload_n hx hb d_M_isKnown_66 rfl (lv_at hl 0 rfl) ?_
    refine lv_bipush (v := 58) hx hb d_M_isKnown_67 (by decide) ?_
    refine lv_icmp_eq (tgt := 114) hx hb d_M_isKnown_69 (by decide) (fun c69 => ?_) (fun c69 => ?_)
    · have h := ite_t c69 h
      exact w_M_isKnown_114 C hQ x0 H locs ls hX hl h
    · have h := ite_f c69 h
      refine lv_iload_n hx hb d_M_isKnown_72 rfl (lv_at hl 0 rfl) ?_
      refine lv_bipush (v := 59) hx hb d_M_isKnown_73 (by decide) ?_
      refine lv_icmp_eq (tgt := 114) hx hb d_M_isKnown_75 (by decide) (fun c75 => ?_) (fun c75 => ?_)
      · have h := ite_t c75 h
        exact w_M_isKnown_114 C hQ x0 H locs ls hX hl h
      · have h := ite_f c75 h
        refine lv_iload_n hx hb d_M_isKnown_78 rfl (lv_at hl 0 rfl) ?_
        refine lv_bipush (v := 62) hx hb d_M_isKnown_79 (by decide) ?_
        refine lv_icmp_le (tgt := 90) hx hb d_M_isKnown_81 (by decide) (fun c81 => ?_) (fun c81 => ?_)
        · have h := ite_t c81 h
          exact w_M_isKnown_90 C hQ x0 H locs ls hX hl h
        · have h := ite_f c81 h
          refine lv_iload_n hx hb d_M_isKnown_84 rfl (lv_at hl 0 rfl) ?_
          refine lv_bipush (v := 66) hx hb d_M_isKnown_85 (by decide) ?_
          refine lv_icmp_lt (tgt := 114) hx hb d_M_isKnown_87 (by decide) (fun c87 => ?_) (fun c87 => ?_)
          · have h := ite_t c87 h
            exact w_M_isKnown_114 C hQ x0 H locs ls hX hl h
          · have h := ite_f c87 h
            exact w_M_isKnown_90 C hQ x0 H locs ls hX hl h
set_option maxHeartbeats 4000000 in
set_option maxRecDepth 100000 in
theorem w_M_isKnown_42 {ws : va_W} {z : Int32} (C : Cx g A p m c b_M_isKnown 1 ss args R_M) (hQ : ∀ (pc : Nat) (H : Heap) (locs : List Loc) (ls : Array Slot), XW g A ss ws H locs → (z = 0 ∨ z = 1) → decode b_M_isKnown pc = .ok (.ireturn, 1) → W p l e (rmX 0 0) ss m args below meth c H locs 0 0 Q (F0 m pc ls [.int z])) : ∀ (x0 : Int32) (H : Heap) (locs : List Loc) (ls : Array Slot), XW g A ss ws H locs → lv_has ls 1 [(0, .int x0)] → f_M_isKnown_42 x0 = some z → W p l e (rmX 0 0) ss m args below meth c H locs 0 0 Q (F0 m 42 ls []) := by
  have ⟨⟨hx, hb, hml, hown, hts⟩, hK, hA, hN⟩ := C
  intro x0 H locs ls hX hl h
  rw [f_M_isKnown_42] at h
  refine lv_iload_n hx hb d_M_isKnown_42 rfl (lv_at hl 0 rfl) ?_
  refine lv_bipush (v := 40) hx hb d_M_isKnown_43 (by decide) ?_
  refine lv_icmp_eq (tgt := 114) hx hb d_M_isKnown_45 (by decide) (fun c45 => ?_) (fun c45 => ?_)
  · have h := ite_t c45 h
    exact w_M_isKnown_114 C hQ x0 H locs ls hX hl h
  · have h := ite_f c45 h
    refine lv_iload_n hx hb d_M_isKnown_48 rfl (lv_at hl 0 rfl) ?_
    refine lv_bipush (v := 43) hx hb d_M_isKnown_49 (by decide) ?_
    refine lv_icmp_le (tgt := 60) hx hb d_M_isKnown_51 (by decide) (fun c51 => ?_) (fun c51 => ?_)
    · have h := ite_t c51 h
      exact w_M_isKnown_60 C hQ x0 H locs ls hX hl h
    · have h := ite_f c51 h
      refine lv_iload_n hx hb d_M_isKnown_54 rfl (lv_at hl 0 rfl) ?_
      refine lv_bipush (v := 48) hx hb d_M_isKnown_55 (by decide) ?_
      refine lv_icmp_lt (tgt := 114) hx hb d_M_isKnown_57 (by decide) (fun c57 => ?_) (fun c57 => ?_)
      · have h := ite_t c57 h
        exact w_M_isKnown_114 C hQ x0 H locs ls hX hl h
      · have h := ite_f c57 h
        exact w_M_isKnown_60 C hQ x0 H locs ls hX hl h
set_option maxHeartbeats 4000000 in
set_option maxRecDepth 100000 in
theorem w_M_isKnown_18 {ws : va_W} {z : Int32} (C : Cx g A p m c b_M_isKnown 1 ss args R_M) (hQ : ∀ (pc : Nat) (H : Heap) (locs : List Loc) (ls : Array Slot), XW g A ss ws H locs → (z = 0 ∨ z = 1) → decode b_M_isKnown pc = .ok (.ireturn, 1) → W p l e (rmX 0 0) ss m args below meth c H locs 0 0 Q (F0 m pc ls [.int z])) : ∀ (x0 : Int32) (H : Heap) (locs : List Loc) (ls : Array Slot), XW g A ss ws H locs → lv_has ls 1 [(0, .int x0)] → f_M_isKnown_18 x0 = some z → W p l e (rmX 0 0) ss m args below meth c H locs 0 0 Q (F0 m 18 ls []) := by
  have ⟨⟨hx, hb, hml, hown, hts⟩, hK, hA, hN⟩ := C
  intro x0 H locs ls hX hl h
  rw [f_M_isKnown_18] at h
  refine lv_iload_n hx hb d_M_isKnown_18 rfl (lv_at hl 0 rfl) ?_
  refine lv_bipush (v := 26) hx hb d_M_isKnown_19 (by decide) ?_
  refine lv_icmp_eq (tgt := 114) hx hb d_M_isKnown_21 (by decide) (fun c21 => ?_) (fun c21 => ?_)
  · have h := ite_t c21 h
    exact w_M_isKnown_114 C hQ x0 H locs ls hX hl h
  · have h := ite_f c21 h
    refine lv_iload_n hx hb d_M_isKnown_24 rfl (lv_at hl 0 rfl) ?_
    refine lv_bipush (v := 27) hx hb d_M_isKnown_25 (by decide) ?_
    refine lv_icmp_eq (tgt := 114) hx hb d_M_isKnown_27 (by decide) (fun c27 => ?_) (fun c27 => ?_)
    · have h := ite_t c27 h
      exact w_M_isKnown_114 C hQ x0 H locs ls hX hl h
    · have h := ite_f c27 h
      refine lv_iload_n hx hb d_M_isKnown_30 rfl (lv_at hl 0 rfl) ?_
      refine lv_bipush (v := 31) hx hb d_M_isKnown_31 (by decide) ?_
      refine lv_icmp_le (tgt := 42) hx hb d_M_isKnown_33 (by decide) (fun c33 => ?_) (fun c33 => ?_)
      · have h := ite_t c33 h
        exact w_M_isKnown_42 C hQ x0 H locs ls hX hl h
      · have h := ite_f c33 h
        refine lv_iload_n hx hb d_M_isKnown_36 rfl (lv_at hl 0 rfl) ?_
        refine lv_bipush (v := 37) hx hb d_M_isKnown_37 (by decide) ?_
        refine lv_icmp_lt (tgt := 114) hx hb d_M_isKnown_39 (by decide) (fun c39 => ?_) (fun c39 => ?_)
        · have h := ite_t c39 h
          exact w_M_isKnown_114 C hQ x0 H locs ls hX hl h
        · have h := ite_f c39 h
          exact w_M_isKnown_42 C hQ x0 H locs ls hX hl h
set_option maxHeartbeats 4000000 in
set_option maxRecDepth 100000 in
theorem w_M_isKnown {ws : va_W} {z : Int32} (C : Cx g A p m c b_M_isKnown 1 ss args R_M) (hQ : ∀ (pc : Nat) (H : Heap) (locs : List Loc) (ls : Array Slot), XW g A ss ws H locs → (z = 0 ∨ z = 1) → decode b_M_isKnown pc = .ok (.ireturn, 1) → W p l e (rmX 0 0) ss m args below meth c H locs 0 0 Q (F0 m pc ls [.int z])) : ∀ (x0 : Int32) (H : Heap) (locs : List Loc) (ls : Array Slot), XW g A ss ws H locs → lv_has ls 1 [(0, .int x0)] → f_M_isKnown x0 = some z → W p l e (rmX 0 0) ss m args below meth c H locs 0 0 Q (F0 m 0 ls []) := by
  have ⟨⟨hx, hb, hml, hown, hts⟩, hK, hA, hN⟩ := C
  intro x0 H locs ls hX hl h
  rw [f_M_isKnown] at h
  refine lv_iload_n hx hb d_M_isKnown_0 rfl (lv_at hl 0 rfl) ?_
  refine lv_bipush (v := 6) hx hb d_M_isKnown_1 (by decide) ?_
  refine lv_icmp_lt (tgt := 114) hx hb d_M_isKnown_3 (by decide) (fun c3 => ?_) (fun c3 => ?_)
  · have h := ite_t c3 h
    exact w_M_isKnown_114 C hQ x0 H locs ls hX hl h
  · have h := ite_f c3 h
    refine lv_iload_n hx hb d_M_isKnown_6 rfl (lv_at hl 0 rfl) ?_
    refine lv_bipush (v := 10) hx hb d_M_isKnown_7 (by decide) ?_
    refine lv_icmp_le (tgt := 18) hx hb d_M_isKnown_9 (by decide) (fun c9 => ?_) (fun c9 => ?_)
    · have h := ite_t c9 h
      exact w_M_isKnown_18 C hQ x0 H locs ls hX hl h
    · have h := ite_f c9 h
      refine lv_iload_n hx hb d_M_isKnown_12 rfl (lv_at hl 0 rfl) ?_
      refine lv_bipush (v := 17) hx hb d_M_isKnown_13 (by decide) ?_
      refine lv_icmp_lt (tgt := 114) hx hb d_M_isKnown_15 (by decide) (fun c15 => ?_) (fun c15 => ?_)
      · have h := ite_t c15 h
        exact w_M_isKnown_114 C hQ x0 H locs ls hX hl h
      · have h := ite_f c15 h
        exact w_M_isKnown_18 C hQ x0 H locs ls hX hl h
end WALK
theorem c_M_isKnown (l : Launch) (g : GX) (x0 : Int32) (z : Int32) (h : f_M_isKnown x0 = some z) (ws : va_W) : MI l g y_M_isKnown b_M_isKnown 1 (some .boolean) 0 0 [.int x0] ws z ws :=
  MI.mkZ (own := R_M) (by decide) rfl (Nat.le_of_ble_eq_true rfl) fun p e ss m below meth c A Q C hQ ls hX hl => w_M_isKnown C hQ x0 _ _ ls hX hl h
-- M_readNumbers
def f_M_readNumbers_262 (x1 : Int32) (x2 : Int32) (s : SM) : Option SM :=
    some s
def f_M_readNumbers_237 (x1 : Int32) (x2 : Int32) (s : SM) : Option SM :=
    bd1 (f_M_exactly 0 s) fun s1 =>
    f_M_readNumbers_262 x1 x2 s1
def f_M_readNumbers_225 (x1 : Int32) (x2 : Int32) (s : SM) : Option SM :=
    if x2 = 63 then
      f_M_readNumbers_237 x1 x2 s
    else
      if x2 = 64 then
        f_M_readNumbers_237 x1 x2 s
      else
        if x2 = 65 then
          bd (f_M_signed s) fun r2 s1 =>
          lt1 (Int32.toInt64 r2) fun v3 =>
          gi x1 250 <|
          lt1 (stL s1 15 (Int32.toNatClampNeg x1) v3) fun s4 =>
          f_M_readNumbers_262 x1 x2 s4
        else
          f_M_readNumbers_262 x1 x2 s
def f_M_readNumbers_190 (x1 : Int32) (x2 : Int32) (s : SM) : Option SM :=
    if x2 ≤ 39 then
      f_M_readNumbers_225 x1 x2 s
    else
      if 60 ≤ x2 then
        f_M_readNumbers_225 x1 x2 s
      else
        bd (f_M_unsigned s) fun r2 s1 =>
        gi x1 250 <|
        lt1 (stL s1 15 (Int32.toNatClampNeg x1) r2) fun s3 =>
        bd (f_M_unsigned s3) fun r5 s4 =>
        gi x1 250 <|
        lt1 (stL s4 16 (Int32.toNatClampNeg x1) r5) fun s6 =>
        f_M_readNumbers_262 x1 x2 s6
def f_M_readNumbers_177 (x1 : Int32) (x2 : Int32) (s : SM) : Option SM :=
    bd (f_M_unsigned s) fun r2 s1 =>
    gi x1 250 <|
    lt1 (stL s1 15 (Int32.toNatClampNeg x1) r2) fun s3 =>
    f_M_readNumbers_262 x1 x2 s3
def f_M_readNumbers_144 (x1 : Int32) (x2 : Int32) (x3 : Int64) (s : SM) : Option SM :=
    f_M_readNumbers_262 x1 x2 s
def f_M_readNumbers_96 : Nat → Int32 → Int32 → Int64 → SM → Option SM
  | 0, _, _, _, _ => none
  | n + 1, x1, x2, x3, s =>
    gi x1 250 <|
    lt1 (s.2 15 (Int32.toNatClampNeg x1)) fun v1 =>
    lt1 (lg_cmp x3 v1) fun v2 =>
    if 0 < v2 then
      f_M_readNumbers_144 x1 x2 x3 s
    else
      if s.1 0 5 = 0 then
        bd (f_M_unsigned s) fun r4 s3 =>
        gi (s.1 0 15) 250 <|
        lt1 (stL s3 25 (Int32.toNatClampNeg (s.1 0 15)) r4) fun s5 =>
        lt1 (s5.1 0 15 + 1) fun v6 =>
        lt1 (stI s5 0 15 v6) fun s7 =>
        lt1 (x3 + 1) fun v8 =>
        f_M_readNumbers_96 n x1 x2 v8 s7
      else
        f_M_readNumbers_144 x1 x2 x3 s
def f_M_readNumbers_64 (x1 : Int32) (x2 : Int32) (s : SM) : Option SM :=
    if x2 = 14 then
      bd (f_M_count 8 s) fun r2 s1 =>
      lt1 (Int32.toInt64 r2) fun v3 =>
      gi x1 250 <|
      lt1 (stL s1 15 (Int32.toNatClampNeg x1) v3) fun s4 =>
      lt1 (Int32.toInt64 (s4.1 0 15)) fun v5 =>
      gi x1 250 <|
      lt1 (stL s4 16 (Int32.toNatClampNeg x1) v5) fun s6 =>
      f_M_readNumbers_96 FU x1 x2 0 s6
    else
      if x2 = 12 then
        f_M_readNumbers_177 x1 x2 s
      else
        if x2 = 13 then
          f_M_readNumbers_177 x1 x2 s
        else
          if x2 = 16 then
            f_M_readNumbers_177 x1 x2 s
          else
            if x2 ≤ 31 then
              f_M_readNumbers_190 x1 x2 s
            else
              if 37 ≤ x2 then
                f_M_readNumbers_190 x1 x2 s
              else
                f_M_readNumbers_177 x1 x2 s
def f_M_readNumbers_60 (x1 : Int32) (x2 : Int32) (x3 : Int32) (y1 : Int32) (y2 : Int64) (s : SM) : Option SM :=
    gi y1 250 <|
    lt1 (stL s 15 (Int32.toNatClampNeg y1) y2) fun s1 =>
    f_M_readNumbers_262 x1 x2 s1
def f_M_readNumbers_40 (x1 : Int32) (x2 : Int32) (x3 : Int32) (y1 : Int32) (s : SM) : Option SM :=
    bd1 (f_M_will y1 2 s) fun s1 =>
    if x3 = 127 then
      f_M_readNumbers_60 x1 x2 x3 x1 1 s1
    else
      f_M_readNumbers_60 x1 x2 x3 x1 0 s1
def f_M_readNumbers_35 (x1 : Int32) (x2 : Int32) (x3 : Int32) (s : SM) : Option SM :=
    f_M_readNumbers_40 x1 x2 x3 1 s
def f_M_readNumbers (x1 : Int32) (s : SM) : Option SM :=
    gi x1 250 <|
    lt1 (s.1 14 (Int32.toNatClampNeg x1)) fun v1 =>
    if v1 < 2 then
      f_M_readNumbers_64 x1 v1 s
    else
      if 4 < v1 then
        f_M_readNumbers_64 x1 v1 s
      else
        bd (f_M_next s) fun r3 s2 =>
        if r3 = 64 then
          f_M_readNumbers_35 x1 v1 r3 s2
        else
          if r3 = 127 then
            f_M_readNumbers_35 x1 v1 r3 s2
          else
            f_M_readNumbers_40 x1 v1 r3 0 s2
section WALK
variable {p : Program} {l : Launch} {e : Env} {ss : State} {m : MethodId} {args : Array Value} {below : List Frame} {meth : Method} {c : Code} {Q : State → Prop} {g : GX} {A : Nat → Prop}
set_option maxHeartbeats 4000000 in
set_option maxRecDepth 100000 in
theorem w_M_readNumbers_262 {z : SM} (C : Cx g A p m c b_M_readNumbers 5 ss args R_M) (hQ : ∀ (pc : Nat) (H : Heap) (locs : List Loc) (ls : Array Slot), XW g A ss (wM g z) H locs → decode b_M_readNumbers pc = .ok (.return_, 1) → W p l e (rmX 4 90) ss m args below meth c H locs 0 0 Q (F0 m pc ls [])) : ∀ (x1 : Int32) (x2 : Int32) (s : SM) (H : Heap) (locs : List Loc) (ls : Array Slot), XW g A ss (wM g s) H locs → lv_has ls 5 [(0, .ref (g.q 60)), (1, .int x1), (2, .int x2)] → f_M_readNumbers_262 x1 x2 s = some z → W p l e (rmX 4 90) ss m args below meth c H locs 0 0 Q (F0 m 262 ls []) := by
  have ⟨⟨hx, hb, hml, hown, hts⟩, hK, hA, hN⟩ := C
  intro x1 x2 s H locs ls hX hl h
  rw [f_M_readNumbers_262] at h
  obtain rfl := so1 h
  exact hQ _ H locs ls hX d_M_readNumbers_262
set_option maxHeartbeats 4000000 in
set_option maxRecDepth 100000 in
theorem w_M_readNumbers_237 {z : SM} (C : Cx g A p m c b_M_readNumbers 5 ss args R_M) (hQ : ∀ (pc : Nat) (H : Heap) (locs : List Loc) (ls : Array Slot), XW g A ss (wM g z) H locs → decode b_M_readNumbers pc = .ok (.return_, 1) → W p l e (rmX 4 90) ss m args below meth c H locs 0 0 Q (F0 m pc ls [])) : ∀ (x1 : Int32) (x2 : Int32) (s : SM) (H : Heap) (locs : List Loc) (ls : Array Slot), XW g A ss (wM g s) H locs → lv_has ls 5 [(0, .ref (g.q 60)), (1, .int x1), (2, .int x2)] → f_M_readNumbers_237 x1 x2 s = some z → W p l e (rmX 4 90) ss m args below meth c H locs 0 0 Q (F0 m 237 ls []) := by
  have ⟨⟨hx, hb, hml, hown, hts⟩, hK, hA, hN⟩ := C
  intro x1 x2 s H locs ls hX hl h
  rw [f_M_readNumbers_237] at h
  refine lv_aload_n hx hb d_M_readNumbers_237 rfl (lv_at hl 0 rfl) ?_
  refine lv_iconst (v := 0) hx hb d_M_readNumbers_238 (by decide) ?_
  obtain ⟨s1, hc239, h⟩ := bd1_e h
  refine x_vV (As := [.int 0]) (rest := []) C hX (c_M_exactly l g 0 s s1 hc239) (cw_M_172 C.1.2.2.2.2 C.2.2.2 ⟨by decide, by decide⟩) (x_rc C hX vg_0 rfl) rfl hl.1 rfl (lv_room (Nat.le_of_ble_eq_true rfl)) d_M_readNumbers_239 ⟨Nat.le_refl _, Nat.le_refl _⟩ (fun H locs hX => ?_)
  refine lv_goto (tgt := 262) hx hb d_M_readNumbers_242 (by decide) ?_
  exact w_M_readNumbers_262 C hQ x1 x2 s1 H locs ls hX hl h
set_option maxHeartbeats 4000000 in
set_option maxRecDepth 100000 in
theorem w_M_readNumbers_225 {z : SM} (C : Cx g A p m c b_M_readNumbers 5 ss args R_M) (hQ : ∀ (pc : Nat) (H : Heap) (locs : List Loc) (ls : Array Slot), XW g A ss (wM g z) H locs → decode b_M_readNumbers pc = .ok (.return_, 1) → W p l e (rmX 4 90) ss m args below meth c H locs 0 0 Q (F0 m pc ls [])) : ∀ (x1 : Int32) (x2 : Int32) (s : SM) (H : Heap) (locs : List Loc) (ls : Array Slot), XW g A ss (wM g s) H locs → lv_has ls 5 [(0, .ref (g.q 60)), (1, .int x1), (2, .int x2)] → f_M_readNumbers_225 x1 x2 s = some z → W p l e (rmX 4 90) ss m args below meth c H locs 0 0 Q (F0 m 225 ls []) := by
  have ⟨⟨hx, hb, hml, hown, hts⟩, hK, hA, hN⟩ := C
  intro x1 x2 s H locs ls hX hl h
  rw [f_M_readNumbers_225] at h
  refine lv_iload_n hx hb d_M_readNumbers_225 rfl (lv_at hl 2 rfl) ?_
  refine lv_bipush (v := 63) hx hb d_M_readNumbers_226 (by decide) ?_
  refine lv_icmp_eq (tgt := 237) hx hb d_M_readNumbers_228 (by decide) (fun c228 => ?_) (fun c228 => ?_)
  · have h := ite_t c228 h
    exact w_M_readNumbers_237 C hQ x1 x2 s H locs ls hX hl h
  · have h := ite_f c228 h
    refine lv_iload_n hx hb d_M_readNumbers_231 rfl (lv_at hl 2 rfl) ?_
    refine lv_bipush (v := 64) hx hb d_M_readNumbers_232 (by decide) ?_
    refine lv_icmp_ne (tgt := 245) hx hb d_M_readNumbers_234 (by decide) (fun c234 => ?_) (fun c234 => ?_)
    · have h := ite_f c234 h
      refine lv_iload_n hx hb d_M_readNumbers_245 rfl (lv_at hl 2 rfl) ?_
      refine lv_bipush (v := 65) hx hb d_M_readNumbers_246 (by decide) ?_
      refine lv_icmp_ne (tgt := 262) hx hb d_M_readNumbers_248 (by decide) (fun c248 => ?_) (fun c248 => ?_)
      · have h := ite_f c248 h
        exact w_M_readNumbers_262 C hQ x1 x2 s H locs ls hX hl h
      · have h := ite_t c248 h
        refine lv_aload_n hx hb d_M_readNumbers_251 rfl (lv_at hl 0 rfl) ?_
        refine gm_first C hX fl_M_54 d_M_readNumbers_252 ?_
        refine lv_iload_n hx hb d_M_readNumbers_255 rfl (lv_at hl 1 rfl) ?_
        refine lv_aload_n hx hb d_M_readNumbers_256 rfl (lv_at hl 0 rfl) ?_
        obtain ⟨r2, s1, hc257, h⟩ := bd_e h
        refine x_vI (As := []) (rest := [.int x1, .ref (g.q 75)]) C hX (c_M_signed l g s (r2, s1) hc257) (cw_M_176 C.1.2.2.2.2 C.2.2.2 ⟨by decide, by decide⟩) (x_rc C hX vg_0 rfl) rfl hl.1 rfl (lv_room (Nat.le_of_ble_eq_true rfl)) d_M_readNumbers_257 ⟨Nat.le_refl _, Nat.le_refl _⟩ (fun H locs hX => ?_)
        obtain ⟨v3, ev3, h⟩ := lt1_e h
        refine lv_i2l hx hb d_M_readNumbers_260 ev3.symm ?_
        obtain ⟨hz261, h⟩ := gi_e h
        obtain ⟨s4, es4, h⟩ := lt1_e h
        refine asm_15 C hX hz261 d_M_readNumbers_261 (fun H locs hX => ?_)
        rw [← es4] at hX
        exact w_M_readNumbers_262 C hQ x1 x2 s4 H locs ls hX hl h
    · have h := ite_t c234 h
      exact w_M_readNumbers_237 C hQ x1 x2 s H locs ls hX hl h
set_option maxHeartbeats 4000000 in
set_option maxRecDepth 100000 in
theorem w_M_readNumbers_190 {z : SM} (C : Cx g A p m c b_M_readNumbers 5 ss args R_M) (hQ : ∀ (pc : Nat) (H : Heap) (locs : List Loc) (ls : Array Slot), XW g A ss (wM g z) H locs → decode b_M_readNumbers pc = .ok (.return_, 1) → W p l e (rmX 4 90) ss m args below meth c H locs 0 0 Q (F0 m pc ls [])) : ∀ (x1 : Int32) (x2 : Int32) (s : SM) (H : Heap) (locs : List Loc) (ls : Array Slot), XW g A ss (wM g s) H locs → lv_has ls 5 [(0, .ref (g.q 60)), (1, .int x1), (2, .int x2)] → f_M_readNumbers_190 x1 x2 s = some z → W p l e (rmX 4 90) ss m args below meth c H locs 0 0 Q (F0 m 190 ls []) := by
  have ⟨⟨hx, hb, hml, hown, hts⟩, hK, hA, hN⟩ := C
  intro x1 x2 s H locs ls hX hl h
  rw [f_M_readNumbers_190] at h
  refine lv_iload_n hx hb d_M_readNumbers_190 rfl (lv_at hl 2 rfl) ?_
  refine lv_bipush (v := 39) hx hb d_M_readNumbers_191 (by decide) ?_
  refine lv_icmp_le (tgt := 225) hx hb d_M_readNumbers_193 (by decide) (fun c193 => ?_) (fun c193 => ?_)
  · have h := ite_t c193 h
    exact w_M_readNumbers_225 C hQ x1 x2 s H locs ls hX hl h
  · have h := ite_f c193 h
    refine lv_iload_n hx hb d_M_readNumbers_196 rfl (lv_at hl 2 rfl) ?_
    refine lv_bipush (v := 60) hx hb d_M_readNumbers_197 (by decide) ?_
    refine lv_icmp_ge (tgt := 225) hx hb d_M_readNumbers_199 (by decide) (fun c199 => ?_) (fun c199 => ?_)
    · have h := ite_t c199 h
      exact w_M_readNumbers_225 C hQ x1 x2 s H locs ls hX hl h
    · have h := ite_f c199 h
      refine lv_aload_n hx hb d_M_readNumbers_202 rfl (lv_at hl 0 rfl) ?_
      refine gm_first C hX fl_M_54 d_M_readNumbers_203 ?_
      refine lv_iload_n hx hb d_M_readNumbers_206 rfl (lv_at hl 1 rfl) ?_
      refine lv_aload_n hx hb d_M_readNumbers_207 rfl (lv_at hl 0 rfl) ?_
      obtain ⟨r2, s1, hc208, h⟩ := bd_e h
      refine x_vL (As := []) (rest := [.int x1, .ref (g.q 75)]) C hX (c_M_unsigned l g s (r2, s1) hc208) (cw_M_168 C.1.2.2.2.2 C.2.2.2 ⟨by decide, by decide⟩) (x_rc C hX vg_0 rfl) rfl hl.1 rfl (lv_room (Nat.le_of_ble_eq_true rfl)) d_M_readNumbers_208 ⟨Nat.le_refl _, Nat.le_refl _⟩ (fun H locs hX => ?_)
      obtain ⟨hz211, h⟩ := gi_e h
      obtain ⟨s3, es3, h⟩ := lt1_e h
      refine asm_15 C hX hz211 d_M_readNumbers_211 (fun H locs hX => ?_)
      rw [← es3] at hX
      refine lv_aload_n hx hb d_M_readNumbers_212 rfl (lv_at hl 0 rfl) ?_
      refine gm_second C hX fl_M_57 d_M_readNumbers_213 ?_
      refine lv_iload_n hx hb d_M_readNumbers_216 rfl (lv_at hl 1 rfl) ?_
      refine lv_aload_n hx hb d_M_readNumbers_217 rfl (lv_at hl 0 rfl) ?_
      obtain ⟨r5, s4, hc218, h⟩ := bd_e h
      refine x_vL (As := []) (rest := [.int x1, .ref (g.q 76)]) C hX (c_M_unsigned l g s3 (r5, s4) hc218) (cw_M_168 C.1.2.2.2.2 C.2.2.2 ⟨by decide, by decide⟩) (x_rc C hX vg_0 rfl) rfl hl.1 rfl (lv_room (Nat.le_of_ble_eq_true rfl)) d_M_readNumbers_218 ⟨Nat.le_refl _, Nat.le_refl _⟩ (fun H locs hX => ?_)
      obtain ⟨hz221, h⟩ := gi_e h
      obtain ⟨s6, es6, h⟩ := lt1_e h
      refine asm_16 C hX hz221 d_M_readNumbers_221 (fun H locs hX => ?_)
      rw [← es6] at hX
      refine lv_goto (tgt := 262) hx hb d_M_readNumbers_222 (by decide) ?_
      exact w_M_readNumbers_262 C hQ x1 x2 s6 H locs ls hX hl h
set_option maxHeartbeats 4000000 in
set_option maxRecDepth 100000 in
theorem w_M_readNumbers_177 {z : SM} (C : Cx g A p m c b_M_readNumbers 5 ss args R_M) (hQ : ∀ (pc : Nat) (H : Heap) (locs : List Loc) (ls : Array Slot), XW g A ss (wM g z) H locs → decode b_M_readNumbers pc = .ok (.return_, 1) → W p l e (rmX 4 90) ss m args below meth c H locs 0 0 Q (F0 m pc ls [])) : ∀ (x1 : Int32) (x2 : Int32) (s : SM) (H : Heap) (locs : List Loc) (ls : Array Slot), XW g A ss (wM g s) H locs → lv_has ls 5 [(0, .ref (g.q 60)), (1, .int x1), (2, .int x2)] → f_M_readNumbers_177 x1 x2 s = some z → W p l e (rmX 4 90) ss m args below meth c H locs 0 0 Q (F0 m 177 ls []) := by
  have ⟨⟨hx, hb, hml, hown, hts⟩, hK, hA, hN⟩ := C
  intro x1 x2 s H locs ls hX hl h
  rw [f_M_readNumbers_177] at h
  refine lv_aload_n hx hb d_M_readNumbers_177 rfl (lv_at hl 0 rfl) ?_
  refine gm_first C hX fl_M_54 d_M_readNumbers_178 ?_
  refine lv_iload_n hx hb d_M_readNumbers_181 rfl (lv_at hl 1 rfl) ?_
  refine lv_aload_n hx hb d_M_readNumbers_182 rfl (lv_at hl 0 rfl) ?_
  obtain ⟨r2, s1, hc183, h⟩ := bd_e h
  refine x_vL (As := []) (rest := [.int x1, .ref (g.q 75)]) C hX (c_M_unsigned l g s (r2, s1) hc183) (cw_M_168 C.1.2.2.2.2 C.2.2.2 ⟨by decide, by decide⟩) (x_rc C hX vg_0 rfl) rfl hl.1 rfl (lv_room (Nat.le_of_ble_eq_true rfl)) d_M_readNumbers_183 ⟨Nat.le_refl _, Nat.le_refl _⟩ (fun H locs hX => ?_)
  obtain ⟨hz186, h⟩ := gi_e h
  obtain ⟨s3, es3, h⟩ := lt1_e h
  refine asm_15 C hX hz186 d_M_readNumbers_186 (fun H locs hX => ?_)
  rw [← es3] at hX
  refine lv_goto (tgt := 262) hx hb d_M_readNumbers_187 (by decide) ?_
  exact w_M_readNumbers_262 C hQ x1 x2 s3 H locs ls hX hl h
set_option maxHeartbeats 4000000 in
set_option maxRecDepth 100000 in
theorem w_M_readNumbers_144 {z : SM} (C : Cx g A p m c b_M_readNumbers 5 ss args R_M) (hQ : ∀ (pc : Nat) (H : Heap) (locs : List Loc) (ls : Array Slot), XW g A ss (wM g z) H locs → decode b_M_readNumbers pc = .ok (.return_, 1) → W p l e (rmX 4 90) ss m args below meth c H locs 0 0 Q (F0 m pc ls [])) : ∀ (x1 : Int32) (x2 : Int32) (x3 : Int64) (s : SM) (H : Heap) (locs : List Loc) (ls : Array Slot), XW g A ss (wM g s) H locs → lv_has ls 5 [(0, .ref (g.q 60)), (1, .int x1), (2, .int x2), (3, .long x3)] → f_M_readNumbers_144 x1 x2 x3 s = some z → W p l e (rmX 4 90) ss m args below meth c H locs 0 0 Q (F0 m 144 ls []) := by
  have ⟨⟨hx, hb, hml, hown, hts⟩, hK, hA, hN⟩ := C
  intro x1 x2 x3 s H locs ls hX hl h
  rw [f_M_readNumbers_144] at h
  refine lv_goto (tgt := 262) hx hb d_M_readNumbers_144 (by decide) ?_
  exact w_M_readNumbers_262 C hQ x1 x2 s H locs ls hX (lv_sub hl [0, 1, 2] rfl) h
set_option maxHeartbeats 4000000 in
set_option maxRecDepth 100000 in
theorem w_M_readNumbers_96 {z : SM} (C : Cx g A p m c b_M_readNumbers 5 ss args R_M) (hQ : ∀ (pc : Nat) (H : Heap) (locs : List Loc) (ls : Array Slot), XW g A ss (wM g z) H locs → decode b_M_readNumbers pc = .ok (.return_, 1) → W p l e (rmX 4 90) ss m args below meth c H locs 0 0 Q (F0 m pc ls [])) (n : Nat) : ∀ (x1 : Int32) (x2 : Int32) (x3 : Int64) (s : SM) (H : Heap) (locs : List Loc) (ls : Array Slot), XW g A ss (wM g s) H locs → lv_has ls 5 [(0, .ref (g.q 60)), (1, .int x1), (2, .int x2), (3, .long x3)] → f_M_readNumbers_96 n x1 x2 x3 s = some z → W p l e (rmX 4 90) ss m args below meth c H locs 0 0 Q (F0 m 96 ls []) := by
  have ⟨⟨hx, hb, hml, hown, hts⟩, hK, hA, hN⟩ := C
  induction n with
  | zero => intro x1 x2 x3 s H locs ls hX hl h; cases h
  | succ n ih =>
    intro x1 x2 x3 s H locs ls hX hl h
    rw [f_M_readNumbers_96] at h
    refine lv_lload_n hx hb d_M_readNumbers_96 rfl (lv_at hl 3 rfl) ?_
    refine lv_aload_n hx hb d_M_readNumbers_97 rfl (lv_at hl 0 rfl) ?_
    refine gm_first C hX fl_M_54 d_M_readNumbers_98 ?_
    refine lv_iload_n hx hb d_M_readNumbers_101 rfl (lv_at hl 1 rfl) ?_
    obtain ⟨hz102, h⟩ := gi_e h
    obtain ⟨v1, ev1, h⟩ := lt1_e h
    refine alm_15 C hX hz102 d_M_readNumbers_102 ev1 ?_
    obtain ⟨v2, ev2, h⟩ := lt1_e h
    refine x_lcmp hx hb d_M_readNumbers_103 ev2 ?_
    refine lv_if_gt (tgt := 144) hx hb d_M_readNumbers_104 (by decide) (fun c104 => ?_) (fun c104 => ?_)
    · have h := ite_t c104 h
      exact w_M_readNumbers_144 C hQ x1 x2 x3 s H locs ls hX hl h
    · have h := ite_f c104 h
      refine lv_aload_n hx hb d_M_readNumbers_107 rfl (lv_at hl 0 rfl) ?_
      refine gm_wrong C hX fl_M_149 d_M_readNumbers_108 ?_
      refine lv_if_ne (tgt := 144) hx hb d_M_readNumbers_111 (by decide) (fun c111 => ?_) (fun c111 => ?_)
      · have h := ite_f c111 h
        exact w_M_readNumbers_144 C hQ x1 x2 x3 s H locs ls hX hl h
      · have h := ite_t c111 h
        refine lv_aload_n hx hb d_M_readNumbers_114 rfl (lv_at hl 0 rfl) ?_
        refine gm_label C hX fl_M_84 d_M_readNumbers_115 ?_
        refine lv_aload_n hx hb d_M_readNumbers_118 rfl (lv_at hl 0 rfl) ?_
        refine gm_labels C hX fl_M_273 d_M_readNumbers_119 ?_
        refine lv_aload_n hx hb d_M_readNumbers_122 rfl (lv_at hl 0 rfl) ?_
        obtain ⟨r4, s3, hc123, h⟩ := bd_e h
        refine x_vL (As := []) (rest := [.int (s.1 0 15), .ref (g.q 85)]) C hX (c_M_unsigned l g s (r4, s3) hc123) (cw_M_168 C.1.2.2.2.2 C.2.2.2 ⟨by decide, by decide⟩) (x_rc C hX vg_0 rfl) rfl hl.1 rfl (lv_room (Nat.le_of_ble_eq_true rfl)) d_M_readNumbers_123 ⟨Nat.le_refl _, Nat.le_refl _⟩ (fun H locs hX => ?_)
        obtain ⟨hz126, h⟩ := gi_e h
        obtain ⟨s5, es5, h⟩ := lt1_e h
        refine asm_25 C hX hz126 d_M_readNumbers_126 (fun H locs hX => ?_)
        rw [← es5] at hX
        refine lv_aload_n hx hb d_M_readNumbers_127 rfl (lv_at hl 0 rfl) ?_
        refine lv_dup hx hb d_M_readNumbers_128 rfl ?_
        refine gm_labels C hX fl_M_273 d_M_readNumbers_129 ?_
        refine lv_iconst (v := 1) hx hb d_M_readNumbers_132 (by decide) ?_
        obtain ⟨v6, ev6, h⟩ := lt1_e h
        refine x_iadd hx hb d_M_readNumbers_133 ev6 ?_
        obtain ⟨s7, es7, h⟩ := lt1_e h
        refine pm_labels C hX fl_M_273 d_M_readNumbers_134 (fun H locs hX => ?_)
        rw [← es7] at hX
        refine lv_lload_n hx hb d_M_readNumbers_137 rfl (lv_at hl 3 rfl) ?_
        refine lv_lconst (v := 1) hx hb d_M_readNumbers_138 (by decide) ?_
        obtain ⟨v8, ev8, h⟩ := lt1_e h
        refine x_ladd hx hb d_M_readNumbers_139 ev8 ?_
        refine lv_lstore_n (lv' := [(3, .long v8), (0, .ref (g.q 60)), (1, .int x1), (2, .int x2)]) hx hb d_M_readNumbers_140 rfl hl (by decide) rfl (fun ls hl => ?_)
        refine lv_goto (tgt := 96) hx hb d_M_readNumbers_141 (by decide) ?_
        exact ih x1 x2 v8 s7 H locs ls hX (lv_sub hl [1, 2, 3, 0] rfl) h
set_option maxHeartbeats 4000000 in
set_option maxRecDepth 100000 in
theorem w_M_readNumbers_64 {z : SM} (C : Cx g A p m c b_M_readNumbers 5 ss args R_M) (hQ : ∀ (pc : Nat) (H : Heap) (locs : List Loc) (ls : Array Slot), XW g A ss (wM g z) H locs → decode b_M_readNumbers pc = .ok (.return_, 1) → W p l e (rmX 4 90) ss m args below meth c H locs 0 0 Q (F0 m pc ls [])) : ∀ (x1 : Int32) (x2 : Int32) (s : SM) (H : Heap) (locs : List Loc) (ls : Array Slot), XW g A ss (wM g s) H locs → lv_has ls 5 [(0, .ref (g.q 60)), (1, .int x1), (2, .int x2)] → f_M_readNumbers_64 x1 x2 s = some z → W p l e (rmX 4 90) ss m args below meth c H locs 0 0 Q (F0 m 64 ls []) := by
  have ⟨⟨hx, hb, hml, hown, hts⟩, hK, hA, hN⟩ := C
  intro x1 x2 s H locs ls hX hl h
  rw [f_M_readNumbers_64] at h
  refine lv_iload_n hx hb d_M_readNumbers_64 rfl (lv_at hl 2 rfl) ?_
  refine lv_bipush (v := 14) hx hb d_M_readNumbers_65 (by decide) ?_
  refine lv_icmp_ne (tgt := 147) hx hb d_M_readNumbers_67 (by decide) (fun c67 => ?_) (fun c67 => ?_)
  · have h := ite_f c67 h
    refine lv_iload_n hx hb d_M_readNumbers_147 rfl (lv_at hl 2 rfl) ?_
    refine lv_bipush (v := 12) hx hb d_M_readNumbers_148 (by decide) ?_
    refine lv_icmp_eq (tgt := 177) hx hb d_M_readNumbers_150 (by decide) (fun c150 => ?_) (fun c150 => ?_)
    · have h := ite_t c150 h
      exact w_M_readNumbers_177 C hQ x1 x2 s H locs ls hX hl h
    · have h := ite_f c150 h
      refine lv_iload_n hx hb d_M_readNumbers_153 rfl (lv_at hl 2 rfl) ?_
      refine lv_bipush (v := 13) hx hb d_M_readNumbers_154 (by decide) ?_
      refine lv_icmp_eq (tgt := 177) hx hb d_M_readNumbers_156 (by decide) (fun c156 => ?_) (fun c156 => ?_)
      · have h := ite_t c156 h
        exact w_M_readNumbers_177 C hQ x1 x2 s H locs ls hX hl h
      · have h := ite_f c156 h
        refine lv_iload_n hx hb d_M_readNumbers_159 rfl (lv_at hl 2 rfl) ?_
        refine lv_bipush (v := 16) hx hb d_M_readNumbers_160 (by decide) ?_
        refine lv_icmp_eq (tgt := 177) hx hb d_M_readNumbers_162 (by decide) (fun c162 => ?_) (fun c162 => ?_)
        · have h := ite_t c162 h
          exact w_M_readNumbers_177 C hQ x1 x2 s H locs ls hX hl h
        · have h := ite_f c162 h
          refine lv_iload_n hx hb d_M_readNumbers_165 rfl (lv_at hl 2 rfl) ?_
          refine lv_bipush (v := 31) hx hb d_M_readNumbers_166 (by decide) ?_
          refine lv_icmp_le (tgt := 190) hx hb d_M_readNumbers_168 (by decide) (fun c168 => ?_) (fun c168 => ?_)
          · have h := ite_t c168 h
            exact w_M_readNumbers_190 C hQ x1 x2 s H locs ls hX hl h
          · have h := ite_f c168 h
            refine lv_iload_n hx hb d_M_readNumbers_171 rfl (lv_at hl 2 rfl) ?_
            refine lv_bipush (v := 37) hx hb d_M_readNumbers_172 (by decide) ?_
            refine lv_icmp_ge (tgt := 190) hx hb d_M_readNumbers_174 (by decide) (fun c174 => ?_) (fun c174 => ?_)
            · have h := ite_t c174 h
              exact w_M_readNumbers_190 C hQ x1 x2 s H locs ls hX hl h
            · have h := ite_f c174 h
              exact w_M_readNumbers_177 C hQ x1 x2 s H locs ls hX hl h
  · have h := ite_t c67 h
    refine lv_aload_n hx hb d_M_readNumbers_70 rfl (lv_at hl 0 rfl) ?_
    refine gm_first C hX fl_M_54 d_M_readNumbers_71 ?_
    refine lv_iload_n hx hb d_M_readNumbers_74 rfl (lv_at hl 1 rfl) ?_
    refine lv_aload_n hx hb d_M_readNumbers_75 rfl (lv_at hl 0 rfl) ?_
    refine lv_bipush (v := 8) hx hb d_M_readNumbers_76 (by decide) ?_
    obtain ⟨r2, s1, hc78, h⟩ := bd_e h
    refine x_vI (As := [.int 8]) (rest := [.int x1, .ref (g.q 75)]) C hX (c_M_count l g 8 s (r2, s1) hc78) (cw_M_212 C.1.2.2.2.2 C.2.2.2 ⟨by decide, by decide⟩) (x_rc C hX vg_0 rfl) rfl hl.1 rfl (lv_room (Nat.le_of_ble_eq_true rfl)) d_M_readNumbers_78 ⟨Nat.le_refl _, Nat.le_refl _⟩ (fun H locs hX => ?_)
    obtain ⟨v3, ev3, h⟩ := lt1_e h
    refine lv_i2l hx hb d_M_readNumbers_81 ev3.symm ?_
    obtain ⟨hz82, h⟩ := gi_e h
    obtain ⟨s4, es4, h⟩ := lt1_e h
    refine asm_15 C hX hz82 d_M_readNumbers_82 (fun H locs hX => ?_)
    rw [← es4] at hX
    refine lv_aload_n hx hb d_M_readNumbers_83 rfl (lv_at hl 0 rfl) ?_
    refine gm_second C hX fl_M_57 d_M_readNumbers_84 ?_
    refine lv_iload_n hx hb d_M_readNumbers_87 rfl (lv_at hl 1 rfl) ?_
    refine lv_aload_n hx hb d_M_readNumbers_88 rfl (lv_at hl 0 rfl) ?_
    refine gm_labels C hX fl_M_273 d_M_readNumbers_89 ?_
    obtain ⟨v5, ev5, h⟩ := lt1_e h
    refine lv_i2l hx hb d_M_readNumbers_92 ev5.symm ?_
    obtain ⟨hz93, h⟩ := gi_e h
    obtain ⟨s6, es6, h⟩ := lt1_e h
    refine asm_16 C hX hz93 d_M_readNumbers_93 (fun H locs hX => ?_)
    rw [← es6] at hX
    refine lv_lconst (v := 0) hx hb d_M_readNumbers_94 (by decide) ?_
    refine lv_lstore_n (lv' := [(3, .long 0), (0, .ref (g.q 60)), (1, .int x1), (2, .int x2)]) hx hb d_M_readNumbers_95 rfl hl (by decide) rfl (fun ls hl => ?_)
    exact w_M_readNumbers_96 C hQ FU x1 x2 0 s6 H locs ls hX (lv_sub hl [1, 2, 3, 0] rfl) h
set_option maxHeartbeats 4000000 in
set_option maxRecDepth 100000 in
theorem w_M_readNumbers_60 {z : SM} (C : Cx g A p m c b_M_readNumbers 5 ss args R_M) (hQ : ∀ (pc : Nat) (H : Heap) (locs : List Loc) (ls : Array Slot), XW g A ss (wM g z) H locs → decode b_M_readNumbers pc = .ok (.return_, 1) → W p l e (rmX 4 90) ss m args below meth c H locs 0 0 Q (F0 m pc ls [])) : ∀ (x1 : Int32) (x2 : Int32) (x3 : Int32) (y1 : Int32) (y2 : Int64) (s : SM) (H : Heap) (locs : List Loc) (ls : Array Slot), XW g A ss (wM g s) H locs → lv_has ls 5 [(0, .ref (g.q 60)), (1, .int x1), (2, .int x2), (3, .int x3)] → f_M_readNumbers_60 x1 x2 x3 y1 y2 s = some z → W p l e (rmX 4 90) ss m args below meth c H locs 0 0 Q (F0 m 60 ls [.long y2, .int y1, .ref (g.q 75)]) := by
  have ⟨⟨hx, hb, hml, hown, hts⟩, hK, hA, hN⟩ := C
  intro x1 x2 x3 y1 y2 s H locs ls hX hl h
  rw [f_M_readNumbers_60] at h
  obtain ⟨hz60, h⟩ := gi_e h
  obtain ⟨s1, es1, h⟩ := lt1_e h
  refine asm_15 C hX hz60 d_M_readNumbers_60 (fun H locs hX => ?_)
  rw [← es1] at hX
  refine lv_goto (tgt := 262) hx hb d_M_readNumbers_61 (by decide) ?_
  exact w_M_readNumbers_262 C hQ x1 x2 s1 H locs ls hX (lv_sub hl [0, 1, 2] rfl) h
set_option maxHeartbeats 4000000 in
set_option maxRecDepth 100000 in
theorem w_M_readNumbers_40 {z : SM} (C : Cx g A p m c b_M_readNumbers 5 ss args R_M) (hQ : ∀ (pc : Nat) (H : Heap) (locs : List Loc) (ls : Array Slot), XW g A ss (wM g z) H locs → decode b_M_readNumbers pc = .ok (.return_, 1) → W p l e (rmX 4 90) ss m args below meth c H locs 0 0 Q (F0 m pc ls [])) : ∀ (x1 : Int32) (x2 : Int32) (x3 : Int32) (y1 : Int32) (s : SM) (H : Heap) (locs : List Loc) (ls : Array Slot), XW g A ss (wM g s) H locs → lv_has ls 5 [(0, .ref (g.q 60)), (1, .int x1), (2, .int x2), (3, .int x3)] → f_M_readNumbers_40 x1 x2 x3 y1 s = some z → W p l e (rmX 4 90) ss m args below meth c H locs 0 0 Q (F0 m 40 ls [.int y1, .ref (g.q 60)]) := by
  have ⟨⟨hx, hb, hml, hown, hts⟩, hK, hA, hN⟩ := C
  intro x1 x2 x3 y1 s H locs ls hX hl h
  rw [f_M_readNumbers_40] at h
  refine lv_iconst (v := 2) hx hb d_M_readNumbers_40 (by decide) ?_
  obtain ⟨s1, hc41, h⟩ := bd1_e h
  refine x_vV (As := [.int y1, .int 2]) (rest := []) C hX (c_M_will l g y1 2 s s1 hc41) (cw_M_158 C.1.2.2.2.2 C.2.2.2 ⟨by decide, by decide⟩) (x_rc C hX vg_0 rfl) rfl hl.1 rfl (lv_room (Nat.le_of_ble_eq_true rfl)) d_M_readNumbers_41 ⟨Nat.le_refl _, Nat.le_refl _⟩ (fun H locs hX => ?_)
  refine lv_aload_n hx hb d_M_readNumbers_44 rfl (lv_at hl 0 rfl) ?_
  refine gm_first C hX fl_M_54 d_M_readNumbers_45 ?_
  refine lv_iload_n hx hb d_M_readNumbers_48 rfl (lv_at hl 1 rfl) ?_
  refine lv_iload_n hx hb d_M_readNumbers_49 rfl (lv_at hl 3 rfl) ?_
  refine lv_bipush (v := 127) hx hb d_M_readNumbers_50 (by decide) ?_
  refine lv_icmp_ne (tgt := 59) hx hb d_M_readNumbers_52 (by decide) (fun c52 => ?_) (fun c52 => ?_)
  · have h := ite_f c52 h
    refine lv_lconst (v := 0) hx hb d_M_readNumbers_59 (by decide) ?_
    exact w_M_readNumbers_60 C hQ x1 x2 x3 x1 0 s1 H locs ls hX hl h
  · have h := ite_t c52 h
    refine lv_lconst (v := 1) hx hb d_M_readNumbers_55 (by decide) ?_
    refine lv_goto (tgt := 60) hx hb d_M_readNumbers_56 (by decide) ?_
    exact w_M_readNumbers_60 C hQ x1 x2 x3 x1 1 s1 H locs ls hX hl h
set_option maxHeartbeats 4000000 in
set_option maxRecDepth 100000 in
theorem w_M_readNumbers_35 {z : SM} (C : Cx g A p m c b_M_readNumbers 5 ss args R_M) (hQ : ∀ (pc : Nat) (H : Heap) (locs : List Loc) (ls : Array Slot), XW g A ss (wM g z) H locs → decode b_M_readNumbers pc = .ok (.return_, 1) → W p l e (rmX 4 90) ss m args below meth c H locs 0 0 Q (F0 m pc ls [])) : ∀ (x1 : Int32) (x2 : Int32) (x3 : Int32) (s : SM) (H : Heap) (locs : List Loc) (ls : Array Slot), XW g A ss (wM g s) H locs → lv_has ls 5 [(0, .ref (g.q 60)), (1, .int x1), (2, .int x2), (3, .int x3)] → f_M_readNumbers_35 x1 x2 x3 s = some z → W p l e (rmX 4 90) ss m args below meth c H locs 0 0 Q (F0 m 35 ls [.ref (g.q 60)]) := by
  have ⟨⟨hx, hb, hml, hown, hts⟩, hK, hA, hN⟩ := C
  intro x1 x2 x3 s H locs ls hX hl h
  rw [f_M_readNumbers_35] at h
  refine lv_iconst (v := 1) hx hb d_M_readNumbers_35 (by decide) ?_
  refine lv_goto (tgt := 40) hx hb d_M_readNumbers_36 (by decide) ?_
  exact w_M_readNumbers_40 C hQ x1 x2 x3 1 s H locs ls hX hl h
set_option maxHeartbeats 4000000 in
set_option maxRecDepth 100000 in
theorem w_M_readNumbers {z : SM} (C : Cx g A p m c b_M_readNumbers 5 ss args R_M) (hQ : ∀ (pc : Nat) (H : Heap) (locs : List Loc) (ls : Array Slot), XW g A ss (wM g z) H locs → decode b_M_readNumbers pc = .ok (.return_, 1) → W p l e (rmX 4 90) ss m args below meth c H locs 0 0 Q (F0 m pc ls [])) : ∀ (x1 : Int32) (s : SM) (H : Heap) (locs : List Loc) (ls : Array Slot), XW g A ss (wM g s) H locs → lv_has ls 5 [(0, .ref (g.q 60)), (1, .int x1)] → f_M_readNumbers x1 s = some z → W p l e (rmX 4 90) ss m args below meth c H locs 0 0 Q (F0 m 0 ls []) := by
  have ⟨⟨hx, hb, hml, hown, hts⟩, hK, hA, hN⟩ := C
  intro x1 s H locs ls hX hl h
  rw [f_M_readNumbers] at h
  refine lv_aload_n hx hb d_M_readNumbers_0 rfl (lv_at hl 0 rfl) ?_
  refine gm_op C hX fl_M_51 d_M_readNumbers_1 ?_
  refine lv_iload_n hx hb d_M_readNumbers_4 rfl (lv_at hl 1 rfl) ?_
  obtain ⟨hz5, h⟩ := gi_e h
  obtain ⟨v1, ev1, h⟩ := lt1_e h
  refine alm_14 C hX hz5 d_M_readNumbers_5 ev1 ?_
  refine lv_istore_n (lv' := [(2, .int v1), (0, .ref (g.q 60)), (1, .int x1)]) hx hb d_M_readNumbers_6 rfl hl (by decide) rfl (fun ls hl => ?_)
  refine lv_iload_n hx hb d_M_readNumbers_7 rfl (lv_at hl 0 rfl) ?_
  refine lv_iconst (v := 2) hx hb d_M_readNumbers_8 (by decide) ?_
  refine lv_icmp_lt (tgt := 64) hx hb d_M_readNumbers_9 (by decide) (fun c9 => ?_) (fun c9 => ?_)
  · have h := ite_t c9 h
    exact w_M_readNumbers_64 C hQ x1 v1 s H locs ls hX (lv_sub hl [1, 2, 0] rfl) h
  · have h := ite_f c9 h
    refine lv_iload_n hx hb d_M_readNumbers_12 rfl (lv_at hl 0 rfl) ?_
    refine lv_iconst (v := 4) hx hb d_M_readNumbers_13 (by decide) ?_
    refine lv_icmp_gt (tgt := 64) hx hb d_M_readNumbers_14 (by decide) (fun c14 => ?_) (fun c14 => ?_)
    · have h := ite_t c14 h
      exact w_M_readNumbers_64 C hQ x1 v1 s H locs ls hX (lv_sub hl [1, 2, 0] rfl) h
    · have h := ite_f c14 h
      refine lv_aload_n hx hb d_M_readNumbers_17 rfl (lv_at hl 1 rfl) ?_
      obtain ⟨r3, s2, hc18, h⟩ := bd_e h
      refine x_vI (As := []) (rest := []) C hX (c_M_next l g s (r3, s2) hc18) (cw_M_162 C.1.2.2.2.2 C.2.2.2 ⟨by decide, by decide⟩) (x_rc C hX vg_0 rfl) rfl hl.1 rfl (lv_room (Nat.le_of_ble_eq_true rfl)) d_M_readNumbers_18 ⟨Nat.le_refl _, Nat.le_refl _⟩ (fun H locs hX => ?_)
      refine lv_istore_n (lv' := [(3, .int r3), (2, .int v1), (0, .ref (g.q 60)), (1, .int x1)]) hx hb d_M_readNumbers_21 rfl hl (by decide) rfl (fun ls hl => ?_)
      refine lv_aload_n hx hb d_M_readNumbers_22 rfl (lv_at hl 2 rfl) ?_
      refine lv_iload_n hx hb d_M_readNumbers_23 rfl (lv_at hl 0 rfl) ?_
      refine lv_bipush (v := 64) hx hb d_M_readNumbers_24 (by decide) ?_
      refine lv_icmp_eq (tgt := 35) hx hb d_M_readNumbers_26 (by decide) (fun c26 => ?_) (fun c26 => ?_)
      · have h := ite_t c26 h
        exact w_M_readNumbers_35 C hQ x1 v1 r3 s2 H locs ls hX (lv_sub hl [2, 3, 1, 0] rfl) h
      · have h := ite_f c26 h
        refine lv_iload_n hx hb d_M_readNumbers_29 rfl (lv_at hl 0 rfl) ?_
        refine lv_bipush (v := 127) hx hb d_M_readNumbers_30 (by decide) ?_
        refine lv_icmp_ne (tgt := 39) hx hb d_M_readNumbers_32 (by decide) (fun c32 => ?_) (fun c32 => ?_)
        · have h := ite_f c32 h
          refine lv_iconst (v := 0) hx hb d_M_readNumbers_39 (by decide) ?_
          exact w_M_readNumbers_40 C hQ x1 v1 r3 0 s2 H locs ls hX (lv_sub hl [2, 3, 1, 0] rfl) h
        · have h := ite_t c32 h
          exact w_M_readNumbers_35 C hQ x1 v1 r3 s2 H locs ls hX (lv_sub hl [2, 3, 1, 0] rfl) h
end WALK
theorem c_M_readNumbers (l : Launch) (g : GX) (x1 : Int32) (s : SM) (z : SM) (h : f_M_readNumbers x1 s = some z) : MV l g y_M_readNumbers b_M_readNumbers 5 none 4 90 [.ref (g.q 60), .int x1] (wM g s) (wM g z) :=
  MV.mk (own := R_M) (by decide) rfl (Nat.le_of_ble_eq_true rfl) fun p e ss m below meth c A Q C hQ ls hX hl => w_M_readNumbers C hQ x1 s _ _ ls hX hl h
