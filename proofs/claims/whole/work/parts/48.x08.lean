-- Store_signed
def f_Store_signed_21 (x0 : Int32) (x1 : Int32) (y0 : Int32) : Option Int32 :=
    some (y0)
def f_Store_signed (x0 : Int32) (x1 : Int32) : Option Int32 :=
    if x0 = 44 then
      lt1 (x1.toInt8.toInt32) fun v2 =>
      some (v2)
    else
      if x0 = 46 then
        lt1 (x1.toInt16.toInt32) fun v1 =>
        f_Store_signed_21 x0 x1 v1
      else
        f_Store_signed_21 x0 x1 x1
section WALK
variable {p : Program} {l : Launch} {e : Env} {ss : State} {m : MethodId} {args : Array Value} {below : List Frame} {meth : Method} {c : Code} {Q : State → Prop} {g : GX} {A : Nat → Prop}
set_option maxHeartbeats 4000000 in
set_option maxRecDepth 100000 in
theorem w_Store_signed_21 {ws : va_W} {z : Int32} (C : Cx g A p m c b_Store_signed 2 ss args R_Store) (hQ : ∀ (pc : Nat) (H : Heap) (locs : List Loc) (ls : Array Slot), XW g A ss ws H locs → decode b_Store_signed pc = .ok (.ireturn, 1) → W p l e (rmX 0 0) ss m args below meth c H locs 0 0 Q (F0 m pc ls [.int z])) : ∀ (x0 : Int32) (x1 : Int32) (y0 : Int32) (H : Heap) (locs : List Loc) (ls : Array Slot), XW g A ss ws H locs → lv_has ls 2 [(0, .int x0), (1, .int x1)] → f_Store_signed_21 x0 x1 y0 = some z → W p l e (rmX 0 0) ss m args below meth c H locs 0 0 Q (F0 m 21 ls [.int y0]) := by
  have ⟨⟨hx, hb, hml, hown, hts⟩, hK, hA, hN⟩ := C
  intro x0 x1 y0 H locs ls hX hl h
  rw [f_Store_signed_21] at h
  obtain rfl := so1 h
  exact hQ _ H locs ls hX d_Store_signed_21
set_option maxHeartbeats 4000000 in
set_option maxRecDepth 100000 in
theorem w_Store_signed {ws : va_W} {z : Int32} (C : Cx g A p m c b_Store_signed 2 ss args R_Store) (hQ : ∀ (pc : Nat) (H : Heap) (locs : List Loc) (ls : Array Slot), XW g A ss ws H locs → decode b_Store_signed pc = .ok (.ireturn, 1) → W p l e (rmX 0 0) ss m args below meth c H locs 0 0 Q (F0 m pc ls [.int z])) : ∀ (x0 : Int32) (x1 : Int32) (H : Heap) (locs : List Loc) (ls : Array Slot), XW g A ss ws H locs → lv_has ls 2 [(0, .int x0), (1, .int x1)] → f_Store_signed x0 x1 = some z → W p l e (rmX 0 0) ss m args below meth c H locs 0 0 Q (F0 m 0 ls []) := by
  have ⟨⟨hx, hb, hml, hown, hts⟩, hK, hA, hN⟩ := C
  intro x0 x1 H locs ls hX hl h
  rw [f_Store_signed] at h
  refine lv_iload_n hx hb d_Store_signed_0 rfl (lv_at hl 0 rfl) ?_
  refine lv_bipush (v := 44) hx hb d_Store_signed_1 (by decide) ?_
  refine lv_icmp_ne (tgt := 9) hx hb d_Store_signed_3 (by decide) (fun c3 => ?_) (fun c3 => ?_)
  · have h := ite_f c3 h
    refine lv_iload_n hx hb d_Store_signed_9 rfl (lv_at hl 0 rfl) ?_
    refine lv_bipush (v := 46) hx hb d_Store_signed_10 (by decide) ?_
    refine lv_icmp_ne (tgt := 20) hx hb d_Store_signed_12 (by decide) (fun c12 => ?_) (fun c12 => ?_)
    · have h := ite_f c12 h
      refine lv_iload_n hx hb d_Store_signed_20 rfl (lv_at hl 1 rfl) ?_
      exact w_Store_signed_21 C hQ x0 x1 x1 H locs ls hX hl h
    · have h := ite_t c12 h
      refine lv_iload_n hx hb d_Store_signed_15 rfl (lv_at hl 1 rfl) ?_
      obtain ⟨v1, ev1, h⟩ := lt1_e h
      refine lv_i2s hx hb d_Store_signed_16 ev1.symm ?_
      refine lv_goto (tgt := 21) hx hb d_Store_signed_17 (by decide) ?_
      exact w_Store_signed_21 C hQ x0 x1 v1 H locs ls hX hl h
  · have h := ite_t c3 h
    refine lv_iload_n hx hb d_Store_signed_6 rfl (lv_at hl 1 rfl) ?_
    obtain ⟨v2, ev2, h⟩ := lt1_e h
    refine lv_i2b hx hb d_Store_signed_7 ev2.symm ?_
    obtain rfl := so1 h
    exact hQ _ H locs ls hX d_Store_signed_8
end WALK
theorem c_Store_signed (l : Launch) (g : GX) (x0 : Int32) (x1 : Int32) (z : Int32) (h : f_Store_signed x0 x1 = some z) (ws : va_W) : MI l g y_Store_signed b_Store_signed 2 (some .int) 0 0 [.int x0, .int x1] ws z ws :=
  MI.mk (own := R_Store) (by decide) rfl (Nat.le_of_ble_eq_true rfl) fun p e ss m below meth c A Q C hQ ls hX hl => w_Store_signed C hQ x0 x1 _ _ ls hX hl h
-- Store_access
def f_Store_access_111 (x1 : Int32) (x2 : Int32) (x3 : Int32) (x4 : Int32) (x5 : Int32) (x6 : Int64) (x8 : Int32) (s : St) : Option (Int32 × St) :=
    some (0, s)
def f_Store_access (x1 : Int32) (x2 : Int32) (x3 : Int32) (s : St) : Option (Int32 × St) :=
    bd1 (f_Op_width x1) fun r1 =>
    bd1 (f_Op_takes x1) fun r2 =>
    lt1 (x3 - r2) fun v3 =>
    lt1 (rGet 224 (s 36) v3) fun r4 =>
    lt1 (Int32.toInt64 r4) fun v5 =>
    lt1 (v5 &&& 4294967295) fun v6 =>
    lt1 (Int32.toInt64 x2) fun v7 =>
    lt1 (v7 &&& 4294967295) fun v8 =>
    lt1 (v6 + v8) fun v9 =>
    lt1 (Int32.toInt64 r1) fun v10 =>
    lt1 (v9 + v10) fun v11 =>
    lt1 (s 5 0 * 64) fun v12 =>
    lt1 (Int32.toInt64 v12) fun v13 =>
    lt1 (lg_cmp v11 v13) fun v14 =>
    if v14 ≤ 0 then
      lt1 (Int64.toInt32 v9) fun v15 =>
      bd1 (f_Op_isStore x1) fun r16 =>
      if r16 = 0 then
        bd1 (f_Store_read s v15 r1) fun r17 =>
        bd1 (f_Store_signed x1 r17) fun r18 =>
        lt1 (rSet s 36 224 v3 r18) fun s19 =>
        f_Store_access_111 x1 x2 x3 r1 v3 v9 v15 s19
      else
        lt1 (x3 - 1) fun v20 =>
        lt1 (rGet 224 (s 36) v20) fun r21 =>
        bd1 (f_Store_write v15 r1 r21 s) fun s22 =>
        f_Store_access_111 x1 x2 x3 r1 v3 v9 v15 s22
    else
      some (5, s)
section WALK
variable {p : Program} {l : Launch} {e : Env} {ss : State} {m : MethodId} {args : Array Value} {below : List Frame} {meth : Method} {c : Code} {Q : State → Prop} {g : GX} {A : Nat → Prop}
set_option maxHeartbeats 4000000 in
set_option maxRecDepth 100000 in
theorem w_Store_access_111 {z : Int32 × St} (C : Cx g A p m c b_Store_access 9 ss args R_Store) (hQ : ∀ (pc : Nat) (H : Heap) (locs : List Loc) (ls : Array Slot), XW g A ss (wX g z.2) H locs → decode b_Store_access pc = .ok (.ireturn, 1) → W p l e (rmX 3 60) ss m args below meth c H locs 0 0 Q (F0 m pc ls [.int z.1])) : ∀ (x1 : Int32) (x2 : Int32) (x3 : Int32) (x4 : Int32) (x5 : Int32) (x6 : Int64) (x8 : Int32) (s : St) (H : Heap) (locs : List Loc) (ls : Array Slot), XW g A ss (wX g s) H locs → lv_has ls 9 [(0, .ref (g.q 5)), (1, .int x1), (2, .int x2), (3, .int x3), (4, .int x4), (5, .int x5), (6, .long x6), (8, .int x8)] → f_Store_access_111 x1 x2 x3 x4 x5 x6 x8 s = some z → W p l e (rmX 3 60) ss m args below meth c H locs 0 0 Q (F0 m 111 ls []) := by
  have ⟨⟨hx, hb, hml, hown, hts⟩, hK, hA, hN⟩ := C
  intro x1 x2 x3 x4 x5 x6 x8 s H locs ls hX hl h
  rw [f_Store_access_111] at h
  refine lv_iconst (v := 0) hx hb d_Store_access_111 (by decide) ?_
  obtain rfl := so1 h
  exact hQ _ H locs ls hX d_Store_access_112
set_option maxHeartbeats 4000000 in
set_option maxRecDepth 100000 in
theorem w_Store_access {z : Int32 × St} (C : Cx g A p m c b_Store_access 9 ss args R_Store) (hQ : ∀ (pc : Nat) (H : Heap) (locs : List Loc) (ls : Array Slot), XW g A ss (wX g z.2) H locs → decode b_Store_access pc = .ok (.ireturn, 1) → W p l e (rmX 3 60) ss m args below meth c H locs 0 0 Q (F0 m pc ls [.int z.1])) : ∀ (x1 : Int32) (x2 : Int32) (x3 : Int32) (s : St) (H : Heap) (locs : List Loc) (ls : Array Slot), XW g A ss (wX g s) H locs → lv_has ls 9 [(0, .ref (g.q 5)), (1, .int x1), (2, .int x2), (3, .int x3)] → f_Store_access x1 x2 x3 s = some z → W p l e (rmX 3 60) ss m args below meth c H locs 0 0 Q (F0 m 0 ls []) := by
  have ⟨⟨hx, hb, hml, hown, hts⟩, hK, hA, hN⟩ := C
  intro x1 x2 x3 s H locs ls hX hl h
  rw [f_Store_access] at h
  refine lv_iload_n hx hb d_Store_access_0 rfl (lv_at hl 1 rfl) ?_
  obtain ⟨r1, hc1, h⟩ := bd1_e h
  refine x_sI (As := [.int x1]) (rest := []) C hX (c_Op_width l g x1 r1 hc1 _) (cw_Store_109 C.1.2.2.2.2 C.2.2.2 ⟨by decide, by decide⟩) rfl hl.1 rfl (lv_room (Nat.le_of_ble_eq_true rfl)) d_Store_access_1 ⟨Nat.le_refl _, Nat.le_refl _⟩ (fun H locs hX => ?_)
  refine lv_istore (lv' := [(4, .int r1), (0, .ref (g.q 5)), (1, .int x1), (2, .int x2), (3, .int x3)]) hx hb d_Store_access_4 hl (by decide) rfl (fun ls hl => ?_)
  refine lv_iload_n hx hb d_Store_access_6 rfl (lv_at hl 4 rfl) ?_
  refine lv_iload_n hx hb d_Store_access_7 rfl (lv_at hl 2 rfl) ?_
  obtain ⟨r2, hc8, h⟩ := bd1_e h
  refine x_sI (As := [.int x1]) (rest := [.int x3]) C hX (c_Op_takes l g x1 r2 hc8 _) (cw_Store_97 C.1.2.2.2.2 C.2.2.2 ⟨by decide, by decide⟩) rfl hl.1 rfl (lv_room (Nat.le_of_ble_eq_true rfl)) d_Store_access_8 ⟨Nat.le_refl _, Nat.le_refl _⟩ (fun H locs hX => ?_)
  obtain ⟨v3, ev3, h⟩ := lt1_e h
  refine x_isub hx hb d_Store_access_11 ev3 ?_
  refine lv_istore (lv' := [(5, .int v3), (4, .int r1), (0, .ref (g.q 5)), (1, .int x1), (2, .int x2), (3, .int x3)]) hx hb d_Store_access_12 hl (by decide) rfl (fun ls hl => ?_)
  refine lv_aload_n hx hb d_Store_access_14 rfl (lv_at hl 2 rfl) ?_
  refine gf_5_cells C hX fl_Store_20 d_Store_access_15 ?_
  refine lv_iload hx hb d_Store_access_18 (lv_at hl 0 rfl) ?_
  obtain ⟨r4, er4, h⟩ := lt1_e h
  refine x_vI (r := r4) (ws' := wX g s) (As := [.int v3]) (rest := []) C hX (by rw [er4]; exact cRowGet_35 l g s v3) (cw_Store_88 C.1.2.2.2.2 C.2.2.2 ⟨by decide, by decide⟩) (x_rc C hX wg_35 rfl) rfl hl.1 rfl (lv_room (Nat.le_of_ble_eq_true rfl)) d_Store_access_20 ⟨Nat.le_refl _, Nat.le_refl _⟩ (fun H locs hX => ?_)
  obtain ⟨v5, ev5, h⟩ := lt1_e h
  refine lv_i2l hx hb d_Store_access_23 ev5.symm ?_
  refine lv_ldc2 (v := 4294967295) hx hb hown (hts _ m_constantLong_Store_112) d_Store_access_24 ?_
  obtain ⟨v6, ev6, h⟩ := lt1_e h
  refine x_land hx hb d_Store_access_27 ev6 ?_
  refine lv_iload_n hx hb d_Store_access_28 rfl (lv_at hl 4 rfl) ?_
  obtain ⟨v7, ev7, h⟩ := lt1_e h
  refine lv_i2l hx hb d_Store_access_29 ev7.symm ?_
  refine lv_ldc2 (v := 4294967295) hx hb hown (hts _ m_constantLong_Store_112) d_Store_access_30 ?_
  obtain ⟨v8, ev8, h⟩ := lt1_e h
  refine x_land hx hb d_Store_access_33 ev8 ?_
  obtain ⟨v9, ev9, h⟩ := lt1_e h
  refine x_ladd hx hb d_Store_access_34 ev9 ?_
  refine lv_lstore (lv' := [(6, .long v9), (5, .int v3), (4, .int r1), (0, .ref (g.q 5)), (1, .int x1), (2, .int x2), (3, .int x3)]) hx hb d_Store_access_35 hl (by decide) rfl (fun ls hl => ?_)
  refine lv_lload hx hb d_Store_access_37 (lv_at hl 0 rfl) ?_
  refine lv_iload hx hb d_Store_access_39 (lv_at hl 2 rfl) ?_
  obtain ⟨v10, ev10, h⟩ := lt1_e h
  refine lv_i2l hx hb d_Store_access_41 ev10.symm ?_
  obtain ⟨v11, ev11, h⟩ := lt1_e h
  refine x_ladd hx hb d_Store_access_42 ev11 ?_
  refine lv_aload_n hx hb d_Store_access_43 rfl (lv_at hl 3 rfl) ?_
  refine gf_5_pages C hX fl_Store_35 d_Store_access_44 ?_
  refine lv_bipush (v := 64) hx hb d_Store_access_47 (by decide) ?_
  obtain ⟨v12, ev12, h⟩ := lt1_e h
  refine x_imul hx hb d_Store_access_49 ev12 ?_
  obtain ⟨v13, ev13, h⟩ := lt1_e h
  refine lv_i2l hx hb d_Store_access_50 ev13.symm ?_
  obtain ⟨v14, ev14, h⟩ := lt1_e h
  refine x_lcmp hx hb d_Store_access_51 ev14 ?_
  refine lv_if_le (tgt := 57) hx hb d_Store_access_52 (by decide) (fun c52 => ?_) (fun c52 => ?_)
  · have h := ite_t c52 h
    refine lv_lload hx hb d_Store_access_57 (lv_at hl 0 rfl) ?_
    obtain ⟨v15, ev15, h⟩ := lt1_e h
    refine lv_l2i hx hb d_Store_access_59 ev15.symm ?_
    refine lv_istore (lv' := [(8, .int v15), (6, .long v9), (5, .int v3), (4, .int r1), (0, .ref (g.q 5)), (1, .int x1), (2, .int x2), (3, .int x3)]) hx hb d_Store_access_60 hl (by decide) rfl (fun ls hl => ?_)
    refine lv_iload_n hx hb d_Store_access_62 rfl (lv_at hl 5 rfl) ?_
    obtain ⟨r16, hc63, h⟩ := bd1_e h
    refine x_sI (As := [.int x1]) (rest := []) C hX (c_Op_isStore l g x1 r16 hc63 _) (cw_Store_114 C.1.2.2.2.2 C.2.2.2 ⟨by decide, by decide⟩) rfl hl.1 rfl (lv_room (Nat.le_of_ble_eq_true rfl)) d_Store_access_63 ⟨Nat.le_refl _, Nat.le_refl _⟩ (fun H locs hX => ?_)
    refine lv_if_eq (tgt := 90) hx hb d_Store_access_66 (by decide) (fun c66 => ?_) (fun c66 => ?_)
    · have h := ite_t c66 h
      refine lv_aload_n hx hb d_Store_access_90 rfl (lv_at hl 4 rfl) ?_
      refine gf_5_cells C hX fl_Store_20 d_Store_access_91 ?_
      refine lv_iload hx hb d_Store_access_94 (lv_at hl 2 rfl) ?_
      refine lv_iload_n hx hb d_Store_access_96 rfl (lv_at hl 5 rfl) ?_
      refine lv_aload_n hx hb d_Store_access_97 rfl (lv_at hl 4 rfl) ?_
      refine lv_iload hx hb d_Store_access_98 (lv_at hl 0 rfl) ?_
      refine lv_iload hx hb d_Store_access_100 (lv_at hl 3 rfl) ?_
      obtain ⟨r17, hc102, h⟩ := bd1_e h
      refine x_vI (As := [.int v15, .int r1]) (rest := [.int x1, .int v3, .ref (g.q 35)]) C hX (c_Store_read l g v15 r1 s r17 hc102) (cw_Store_121 C.1.2.2.2.2 C.2.2.2 ⟨by decide, by decide⟩) (x_rc C hX wg_5 rfl) rfl hl.1 rfl (lv_room (Nat.le_of_ble_eq_true rfl)) d_Store_access_102 ⟨Nat.le_refl _, Nat.le_refl _⟩ (fun H locs hX => ?_)
      obtain ⟨r18, hc105, h⟩ := bd1_e h
      refine x_sI (As := [.int x1, .int r17]) (rest := [.int v3, .ref (g.q 35)]) C hX (c_Store_signed l g x1 r17 r18 hc105 _) (cw_Store_124 C.1.2.2.2.2 C.2.2.2 ⟨by decide, by decide⟩) rfl hl.1 rfl (lv_room (Nat.le_of_ble_eq_true rfl)) d_Store_access_105 ⟨Nat.le_refl _, Nat.le_refl _⟩ (fun H locs hX => ?_)
      obtain ⟨s19, es19, h⟩ := lt1_e h
      refine x_vV (ws' := wX g s19) (As := [.int v3, .int r18]) (rest := []) C hX (by rw [es19]; exact cRowSet_35 l g s v3 r18) (cw_Store_51 C.1.2.2.2.2 C.2.2.2 ⟨by decide, by decide⟩) (x_rc C hX wg_35 rfl) rfl hl.1 rfl (lv_room (Nat.le_of_ble_eq_true rfl)) d_Store_access_108 ⟨Nat.le_refl _, Nat.le_refl _⟩ (fun H locs hX => ?_)
      exact w_Store_access_111 C hQ x1 x2 x3 r1 v3 v9 v15 s19 H locs ls hX (lv_sub hl [4, 5, 6, 7, 3, 2, 1, 0] rfl) h
    · have h := ite_f c66 h
      refine lv_aload_n hx hb d_Store_access_69 rfl (lv_at hl 4 rfl) ?_
      refine lv_iload hx hb d_Store_access_70 (lv_at hl 0 rfl) ?_
      refine lv_iload hx hb d_Store_access_72 (lv_at hl 3 rfl) ?_
      refine lv_aload_n hx hb d_Store_access_74 rfl (lv_at hl 4 rfl) ?_
      refine gf_5_cells C hX fl_Store_20 d_Store_access_75 ?_
      refine lv_iload_n hx hb d_Store_access_78 rfl (lv_at hl 7 rfl) ?_
      refine lv_iconst (v := 1) hx hb d_Store_access_79 (by decide) ?_
      obtain ⟨v20, ev20, h⟩ := lt1_e h
      refine x_isub hx hb d_Store_access_80 ev20 ?_
      obtain ⟨r21, er21, h⟩ := lt1_e h
      refine x_vI (r := r21) (ws' := wX g s) (As := [.int v20]) (rest := [.int r1, .int v15, .ref (g.q 5)]) C hX (by rw [er21]; exact cRowGet_35 l g s v20) (cw_Store_88 C.1.2.2.2.2 C.2.2.2 ⟨by decide, by decide⟩) (x_rc C hX wg_35 rfl) rfl hl.1 rfl (lv_room (Nat.le_of_ble_eq_true rfl)) d_Store_access_81 ⟨Nat.le_refl _, Nat.le_refl _⟩ (fun H locs hX => ?_)
      obtain ⟨s22, hc84, h⟩ := bd1_e h
      refine x_vV (As := [.int v15, .int r1, .int r21]) (rest := []) C hX (c_Store_write l g v15 r1 r21 s s22 hc84) (cw_Store_117 C.1.2.2.2.2 C.2.2.2 ⟨by decide, by decide⟩) (x_rc C hX wg_5 rfl) rfl hl.1 rfl (lv_room (Nat.le_of_ble_eq_true rfl)) d_Store_access_84 ⟨Nat.le_refl _, Nat.le_refl _⟩ (fun H locs hX => ?_)
      refine lv_goto (tgt := 111) hx hb d_Store_access_87 (by decide) ?_
      exact w_Store_access_111 C hQ x1 x2 x3 r1 v3 v9 v15 s22 H locs ls hX (lv_sub hl [4, 5, 6, 7, 3, 2, 1, 0] rfl) h
  · have h := ite_f c52 h
    refine lv_iconst (v := 5) hx hb d_Store_access_55 (by decide) ?_
    obtain rfl := so1 h
    exact hQ _ H locs ls hX d_Store_access_56
end WALK
theorem c_Store_access (l : Launch) (g : GX) (x1 : Int32) (x2 : Int32) (x3 : Int32) (s : St) (z : Int32 × St) (h : f_Store_access x1 x2 x3 s = some z) : MI l g y_Store_access b_Store_access 9 (some .int) 3 60 [.ref (g.q 5), .int x1, .int x2, .int x3] (wX g s) z.1 (wX g z.2) :=
  MI.mk (own := R_Store) (by decide) rfl (Nat.le_of_ble_eq_true rfl) fun p e ss m below meth c A Q C hQ ls hX hl => w_Store_access C hQ x1 x2 x3 s _ _ ls hX hl h
-- Store_growBy
def f_Store_growBy (x1 : Int32) (s : St) : Option (Int32 × St) :=
    lt1 (s 5 1 - s 5 0) fun v1 =>
    bd1 (f_X_isAbove x1 v1) fun r2 =>
    if r2 = 0 then
      lt1 (s 5 0 + x1) fun v3 =>
      lt1 (stp s 5 0 v3) fun s4 =>
      lt1 (s4 5 0 - x1) fun v5 =>
      some (v5, s4)
    else
      some ((-1), s)
section WALK
variable {p : Program} {l : Launch} {e : Env} {ss : State} {m : MethodId} {args : Array Value} {below : List Frame} {meth : Method} {c : Code} {Q : State → Prop} {g : GX} {A : Nat → Prop}
set_option maxHeartbeats 4000000 in
set_option maxRecDepth 100000 in
theorem w_Store_growBy {z : Int32 × St} (C : Cx g A p m c b_Store_growBy 2 ss args R_Store) (hQ : ∀ (pc : Nat) (H : Heap) (locs : List Loc) (ls : Array Slot), XW g A ss (wX g z.2) H locs → decode b_Store_growBy pc = .ok (.ireturn, 1) → W p l e (rmX 1 21) ss m args below meth c H locs 0 0 Q (F0 m pc ls [.int z.1])) : ∀ (x1 : Int32) (s : St) (H : Heap) (locs : List Loc) (ls : Array Slot), XW g A ss (wX g s) H locs → lv_has ls 2 [(0, .ref (g.q 5)), (1, .int x1)] → f_Store_growBy x1 s = some z → W p l e (rmX 1 21) ss m args below meth c H locs 0 0 Q (F0 m 0 ls []) := by
  have ⟨⟨hx, hb, hml, hown, hts⟩, hK, hA, hN⟩ := C
  intro x1 s H locs ls hX hl h
  rw [f_Store_growBy] at h
  refine lv_iload_n hx hb d_Store_growBy_0 rfl (lv_at hl 1 rfl) ?_
  refine lv_aload_n hx hb d_Store_growBy_1 rfl (lv_at hl 0 rfl) ?_
  refine gf_5_mostPages C hX fl_Store_41 d_Store_growBy_2 ?_
  refine lv_aload_n hx hb d_Store_growBy_5 rfl (lv_at hl 0 rfl) ?_
  refine gf_5_pages C hX fl_Store_35 d_Store_growBy_6 ?_
  obtain ⟨v1, ev1, h⟩ := lt1_e h
  refine x_isub hx hb d_Store_growBy_9 ev1 ?_
  obtain ⟨r2, hc10, h⟩ := bd1_e h
  refine x_sNI (As := [.int x1, .int v1]) (rest := []) C hX (c_X_isAbove l g x1 v1 r2 hc10 _) (cw_Store_93 C.1.2.2.2.2 C.2.2.2 ⟨by decide, by decide⟩) rfl hl.1 rfl (lv_room (Nat.le_of_ble_eq_true rfl)) d_Store_growBy_10 ⟨Nat.le_refl _, Nat.le_refl _⟩ (fun H locs hX => ?_)
  refine lv_if_eq (tgt := 18) hx hb d_Store_growBy_13 (by decide) (fun c13 => ?_) (fun c13 => ?_)
  · have h := ite_t c13 h
    refine lv_aload_n hx hb d_Store_growBy_18 rfl (lv_at hl 0 rfl) ?_
    refine lv_dup hx hb d_Store_growBy_19 rfl ?_
    refine gf_5_pages C hX fl_Store_35 d_Store_growBy_20 ?_
    refine lv_iload_n hx hb d_Store_growBy_23 rfl (lv_at hl 1 rfl) ?_
    obtain ⟨v3, ev3, h⟩ := lt1_e h
    refine x_iadd hx hb d_Store_growBy_24 ev3 ?_
    obtain ⟨s4, es4, h⟩ := lt1_e h
    refine pf_5_pages C hX fl_Store_35 d_Store_growBy_25 (fun H locs hX => ?_)
    rw [← es4] at hX
    refine lv_aload_n hx hb d_Store_growBy_28 rfl (lv_at hl 0 rfl) ?_
    refine gf_5_pages C hX fl_Store_35 d_Store_growBy_29 ?_
    refine lv_iload_n hx hb d_Store_growBy_32 rfl (lv_at hl 1 rfl) ?_
    obtain ⟨v5, ev5, h⟩ := lt1_e h
    refine x_isub hx hb d_Store_growBy_33 ev5 ?_
    obtain rfl := so1 h
    exact hQ _ H locs ls hX d_Store_growBy_34
  · have h := ite_f c13 h
    refine lv_iconst (v := (-1)) hx hb d_Store_growBy_16 (by decide) ?_
    obtain rfl := so1 h
    exact hQ _ H locs ls hX d_Store_growBy_17
end WALK
theorem c_Store_growBy (l : Launch) (g : GX) (x1 : Int32) (s : St) (z : Int32 × St) (h : f_Store_growBy x1 s = some z) : MI l g y_Store_growBy b_Store_growBy 2 (some .int) 1 21 [.ref (g.q 5), .int x1] (wX g s) z.1 (wX g z.2) :=
  MI.mk (own := R_Store) (by decide) rfl (Nat.le_of_ble_eq_true rfl) fun p e ss m below meth c A Q C hQ ls hX hl => w_Store_growBy C hQ x1 s _ _ ls hX hl h
-- Store_move
def f_Store_move_252 (x1 : Int32) (x2 : Int32) (x3 : Int32) (x4 : Int32) (x5 : Int32) (s : St) : Option St :=
    some s
def f_Store_move_155 (x1 : Int32) (x2 : Int32) (x3 : Int32) (x4 : Int32) (x5 : Int32) (s : St) : Option St :=
    lt1 (x3 + x2) fun v1 =>
    lt1 (rSet s 36 224 v1 x5) fun s2 =>
    f_Store_move_252 x1 x2 x3 x4 x5 s2
def f_Store_move_124 (x1 : Int32) (x2 : Int32) (x3 : Int32) (x4 : Int32) (x5 : Int32) (y1 : Int32) (y3 : Int32) (s : St) : Option St :=
    lt1 (rGet 224 (s 36) y3) fun r1 =>
    lt1 (rSet s 36 224 y1 r1) fun s2 =>
    f_Store_move_252 x1 x2 x3 x4 x5 s2
def f_Store_move (x1 : Int32) (x2 : Int32) (x3 : Int32) (x4 : Int32) (s : St) : Option St :=
    lt1 (x4 - 1) fun v1 =>
    lt1 (rGet 224 (s 36) v1) fun r2 =>
    if x1 = 27 then
      lt1 (x4 - 3) fun v3 =>
      if r2 = 0 then
        lt1 (x4 - 2) fun v4 =>
        f_Store_move_124 x1 x2 x3 x4 r2 v3 v4 s
      else
        lt1 (x4 - 3) fun v5 =>
        f_Store_move_124 x1 x2 x3 x4 r2 v3 v5 s
    else if x1 = 32 then
      lt1 (x3 + x2) fun v6 =>
      lt1 (rGet 224 (s 36) v6) fun r7 =>
      lt1 (rSet s 36 224 x4 r7) fun s8 =>
      f_Store_move_252 x1 x2 x3 x4 r2 s8
    else if x1 = 33 then
      f_Store_move_155 x1 x2 x3 x4 r2 s
    else if x1 = 34 then
      f_Store_move_155 x1 x2 x3 x4 r2 s
    else if x1 = 35 then
      lt1 (rGet 4 (s 38) x2) fun r9 =>
      lt1 (rSet s 36 224 x4 r9) fun s10 =>
      f_Store_move_252 x1 x2 x3 x4 r2 s10
    else if x1 = 36 then
      lt1 (rSet s 38 4 x2 r2) fun s11 =>
      f_Store_move_252 x1 x2 x3 x4 r2 s11
    else if x1 = 63 then
      lt1 (rSet s 36 224 x4 (s 5 0)) fun s12 =>
      f_Store_move_252 x1 x2 x3 x4 r2 s12
    else if x1 = 64 then
      lt1 (x4 - 1) fun v13 =>
      bd (f_Store_growBy r2 s) fun r15 s14 =>
      lt1 (rSet s14 36 224 v13 r15) fun s16 =>
      f_Store_move_252 x1 x2 x3 x4 r2 s16
    else if x1 = 65 then
      lt1 (rSet s 36 224 x4 x2) fun s17 =>
      f_Store_move_252 x1 x2 x3 x4 r2 s17
    else 
      f_Store_move_252 x1 x2 x3 x4 r2 s
section WALK
variable {p : Program} {l : Launch} {e : Env} {ss : State} {m : MethodId} {args : Array Value} {below : List Frame} {meth : Method} {c : Code} {Q : State → Prop} {g : GX} {A : Nat → Prop}
set_option maxHeartbeats 4000000 in
set_option maxRecDepth 100000 in
theorem w_Store_move_252 {z : St} (C : Cx g A p m c b_Store_move 6 ss args R_Store) (hQ : ∀ (pc : Nat) (H : Heap) (locs : List Loc) (ls : Array Slot), XW g A ss (wX g z) H locs → decode b_Store_move pc = .ok (.return_, 1) → W p l e (rmX 2 42) ss m args below meth c H locs 0 0 Q (F0 m pc ls [])) : ∀ (x1 : Int32) (x2 : Int32) (x3 : Int32) (x4 : Int32) (x5 : Int32) (s : St) (H : Heap) (locs : List Loc) (ls : Array Slot), XW g A ss (wX g s) H locs → lv_has ls 6 [(0, .ref (g.q 5)), (1, .int x1), (2, .int x2), (3, .int x3), (4, .int x4), (5, .int x5)] → f_Store_move_252 x1 x2 x3 x4 x5 s = some z → W p l e (rmX 2 42) ss m args below meth c H locs 0 0 Q (F0 m 252 ls []) := by
  have ⟨⟨hx, hb, hml, hown, hts⟩, hK, hA, hN⟩ := C
  intro x1 x2 x3 x4 x5 s H locs ls hX hl h
  rw [f_Store_move_252] at h
  obtain rfl := so1 h
  exact hQ _ H locs ls hX d_Store_move_252
set_option maxHeartbeats 4000000 in
set_option maxRecDepth 100000 in
theorem w_Store_move_155 {z : St} (C : Cx g A p m c b_Store_move 6 ss args R_Store) (hQ : ∀ (pc : Nat) (H : Heap) (locs : List Loc) (ls : Array Slot), XW g A ss (wX g z) H locs → decode b_Store_move pc = .ok (.return_, 1) → W p l e (rmX 2 42) ss m args below meth c H locs 0 0 Q (F0 m pc ls [])) : ∀ (x1 : Int32) (x2 : Int32) (x3 : Int32) (x4 : Int32) (x5 : Int32) (s : St) (H : Heap) (locs : List Loc) (ls : Array Slot), XW g A ss (wX g s) H locs → lv_has ls 6 [(0, .ref (g.q 5)), (1, .int x1), (2, .int x2), (3, .int x3), (4, .int x4), (5, .int x5)] → f_Store_move_155 x1 x2 x3 x4 x5 s = some z → W p l e (rmX 2 42) ss m args below meth c H locs 0 0 Q (F0 m 155 ls []) := by
  have ⟨⟨hx, hb, hml, hown, hts⟩, hK, hA, hN⟩ := C
  intro x1 x2 x3 x4 x5 s H locs ls hX hl h
  rw [f_Store_move_155] at h
  refine lv_aload_n hx hb d_Store_move_155 rfl (lv_at hl 0 rfl) ?_
  refine gf_5_cells C hX fl_Store_20 d_Store_move_156 ?_
  refine lv_iload_n hx hb d_Store_move_159 rfl (lv_at hl 3 rfl) ?_
  refine lv_iload_n hx hb d_Store_move_160 rfl (lv_at hl 2 rfl) ?_
  obtain ⟨v1, ev1, h⟩ := lt1_e h
  refine x_iadd hx hb d_Store_move_161 ev1 ?_
  refine lv_iload hx hb d_Store_move_162 (lv_at hl 5 rfl) ?_
  obtain ⟨s2, es2, h⟩ := lt1_e h
  refine x_vV (ws' := wX g s2) (As := [.int v1, .int x5]) (rest := []) C hX (by rw [es2]; exact cRowSet_35 l g s v1 x5) (cw_Store_51 C.1.2.2.2.2 C.2.2.2 ⟨by decide, by decide⟩) (x_rc C hX wg_35 rfl) rfl hl.1 rfl (lv_room (Nat.le_of_ble_eq_true rfl)) d_Store_move_164 ⟨Nat.le_refl _, Nat.le_refl _⟩ (fun H locs hX => ?_)
  refine lv_goto (tgt := 252) hx hb d_Store_move_167 (by decide) ?_
  exact w_Store_move_252 C hQ x1 x2 x3 x4 x5 s2 H locs ls hX hl h
set_option maxHeartbeats 4000000 in
set_option maxRecDepth 100000 in
theorem w_Store_move_124 {z : St} (C : Cx g A p m c b_Store_move 6 ss args R_Store) (hQ : ∀ (pc : Nat) (H : Heap) (locs : List Loc) (ls : Array Slot), XW g A ss (wX g z) H locs → decode b_Store_move pc = .ok (.return_, 1) → W p l e (rmX 2 42) ss m args below meth c H locs 0 0 Q (F0 m pc ls [])) : ∀ (x1 : Int32) (x2 : Int32) (x3 : Int32) (x4 : Int32) (x5 : Int32) (y1 : Int32) (y3 : Int32) (s : St) (H : Heap) (locs : List Loc) (ls : Array Slot), XW g A ss (wX g s) H locs → lv_has ls 6 [(0, .ref (g.q 5)), (1, .int x1), (2, .int x2), (3, .int x3), (4, .int x4), (5, .int x5)] → f_Store_move_124 x1 x2 x3 x4 x5 y1 y3 s = some z → W p l e (rmX 2 42) ss m args below meth c H locs 0 0 Q (F0 m 124 ls [.int y3, .ref (g.q 35), .int y1, .ref (g.q 35)]) := by
  have ⟨⟨hx, hb, hml, hown, hts⟩, hK, hA, hN⟩ := C
  intro x1 x2 x3 x4 x5 y1 y3 s H locs ls hX hl h
  rw [f_Store_move_124] at h
  obtain ⟨r1, er1, h⟩ := lt1_e h
  refine x_vI (r := r1) (ws' := wX g s) (As := [.int y3]) (rest := [.int y1, .ref (g.q 35)]) C hX (by rw [er1]; exact cRowGet_35 l g s y3) (cw_Store_88 C.1.2.2.2.2 C.2.2.2 ⟨by decide, by decide⟩) (x_rc C hX wg_35 rfl) rfl hl.1 rfl (lv_room (Nat.le_of_ble_eq_true rfl)) d_Store_move_124 ⟨Nat.le_refl _, Nat.le_refl _⟩ (fun H locs hX => ?_)
  obtain ⟨s2, es2, h⟩ := lt1_e h
  refine x_vV (ws' := wX g s2) (As := [.int y1, .int r1]) (rest := []) C hX (by rw [es2]; exact cRowSet_35 l g s y1 r1) (cw_Store_51 C.1.2.2.2.2 C.2.2.2 ⟨by decide, by decide⟩) (x_rc C hX wg_35 rfl) rfl hl.1 rfl (lv_room (Nat.le_of_ble_eq_true rfl)) d_Store_move_127 ⟨Nat.le_refl _, Nat.le_refl _⟩ (fun H locs hX => ?_)
  refine lv_goto (tgt := 252) hx hb d_Store_move_130 (by decide) ?_
  exact w_Store_move_252 C hQ x1 x2 x3 x4 x5 s2 H locs ls hX hl h
set_option maxHeartbeats 4000000 in
set_option maxRecDepth 100000 in
theorem w_Store_move {z : St} (C : Cx g A p m c b_Store_move 6 ss args R_Store) (hQ : ∀ (pc : Nat) (H : Heap) (locs : List Loc) (ls : Array Slot), XW g A ss (wX g z) H locs → decode b_Store_move pc = .ok (.return_, 1) → W p l e (rmX 2 42) ss m args below meth c H locs 0 0 Q (F0 m pc ls [])) : ∀ (x1 : Int32) (x2 : Int32) (x3 : Int32) (x4 : Int32) (s : St) (H : Heap) (locs : List Loc) (ls : Array Slot), XW g A ss (wX g s) H locs → lv_has ls 6 [(0, .ref (g.q 5)), (1, .int x1), (2, .int x2), (3, .int x3), (4, .int x4)] → f_Store_move x1 x2 x3 x4 s = some z → W p l e (rmX 2 42) ss m args below meth c H locs 0 0 Q (F0 m 0 ls []) := by
  have ⟨⟨hx, hb, hml, hown, hts⟩, hK, hA, hN⟩ := C
  intro x1 x2 x3 x4 s H locs ls hX hl h
  rw [f_Store_move] at h
  refine lv_aload_n hx hb d_Store_move_0 rfl (lv_at hl 0 rfl) ?_
  refine gf_5_cells C hX fl_Store_20 d_Store_move_1 ?_
  refine lv_iload hx hb d_Store_move_4 (lv_at hl 4 rfl) ?_
  refine lv_iconst (v := 1) hx hb d_Store_move_6 (by decide) ?_
  obtain ⟨v1, ev1, h⟩ := lt1_e h
  refine x_isub hx hb d_Store_move_7 ev1 ?_
  obtain ⟨r2, er2, h⟩ := lt1_e h
  refine x_vI (r := r2) (ws' := wX g s) (As := [.int v1]) (rest := []) C hX (by rw [er2]; exact cRowGet_35 l g s v1) (cw_Store_88 C.1.2.2.2.2 C.2.2.2 ⟨by decide, by decide⟩) (x_rc C hX wg_35 rfl) rfl hl.1 rfl (lv_room (Nat.le_of_ble_eq_true rfl)) d_Store_move_8 ⟨Nat.le_refl _, Nat.le_refl _⟩ (fun H locs hX => ?_)
  refine lv_istore (lv' := [(5, .int r2), (0, .ref (g.q 5)), (1, .int x1), (2, .int x2), (3, .int x3), (4, .int x4)]) hx hb d_Store_move_11 hl (by decide) rfl (fun ls hl => ?_)
  refine lv_iload_n hx hb d_Store_move_13 rfl (lv_at hl 2 rfl) ?_
  by_cases c14_0 : x1 = 27
  · have h := ite_t c14_0 h
    refine lv_lookup (tgt := 96) hx hb d_Store_move_14 (by decide) (by rw [c14_0] <;> rfl) (by decide) ?_
    refine lv_aload_n hx hb d_Store_move_96 rfl (lv_at hl 1 rfl) ?_
    refine gf_5_cells C hX fl_Store_20 d_Store_move_97 ?_
    refine lv_iload hx hb d_Store_move_100 (lv_at hl 5 rfl) ?_
    refine lv_iconst (v := 3) hx hb d_Store_move_102 (by decide) ?_
    obtain ⟨v3, ev3, h⟩ := lt1_e h
    refine x_isub hx hb d_Store_move_103 ev3 ?_
    refine lv_aload_n hx hb d_Store_move_104 rfl (lv_at hl 1 rfl) ?_
    refine gf_5_cells C hX fl_Store_20 d_Store_move_105 ?_
    refine lv_iload hx hb d_Store_move_108 (lv_at hl 0 rfl) ?_
    refine lv_if_eq (tgt := 120) hx hb d_Store_move_110 (by decide) (fun c110 => ?_) (fun c110 => ?_)
    · have h := ite_t c110 h
      refine lv_iload hx hb d_Store_move_120 (lv_at hl 5 rfl) ?_
      refine lv_iconst (v := 2) hx hb d_Store_move_122 (by decide) ?_
      obtain ⟨v4, ev4, h⟩ := lt1_e h
      refine x_isub hx hb d_Store_move_123 ev4 ?_
      exact w_Store_move_124 C hQ x1 x2 x3 x4 r2 v3 v4 s H locs ls hX (lv_sub hl [1, 2, 3, 4, 5, 0] rfl) h
    · have h := ite_f c110 h
      refine lv_iload hx hb d_Store_move_113 (lv_at hl 5 rfl) ?_
      refine lv_iconst (v := 3) hx hb d_Store_move_115 (by decide) ?_
      obtain ⟨v5, ev5, h⟩ := lt1_e h
      refine x_isub hx hb d_Store_move_116 ev5 ?_
      refine lv_goto (tgt := 124) hx hb d_Store_move_117 (by decide) ?_
      exact w_Store_move_124 C hQ x1 x2 x3 x4 r2 v3 v5 s H locs ls hX (lv_sub hl [1, 2, 3, 4, 5, 0] rfl) h
  have h := ite_f c14_0 h
  by_cases c14_1 : x1 = 32
  · have h := ite_t c14_1 h
    refine lv_lookup (tgt := 133) hx hb d_Store_move_14 (by decide) (by rw [c14_1] <;> rfl) (by decide) ?_
    refine lv_aload_n hx hb d_Store_move_133 rfl (lv_at hl 1 rfl) ?_
    refine gf_5_cells C hX fl_Store_20 d_Store_move_134 ?_
    refine lv_iload hx hb d_Store_move_137 (lv_at hl 5 rfl) ?_
    refine lv_aload_n hx hb d_Store_move_139 rfl (lv_at hl 1 rfl) ?_
    refine gf_5_cells C hX fl_Store_20 d_Store_move_140 ?_
    refine lv_iload_n hx hb d_Store_move_143 rfl (lv_at hl 4 rfl) ?_
    refine lv_iload_n hx hb d_Store_move_144 rfl (lv_at hl 3 rfl) ?_
    obtain ⟨v6, ev6, h⟩ := lt1_e h
    refine x_iadd hx hb d_Store_move_145 ev6 ?_
    obtain ⟨r7, er7, h⟩ := lt1_e h
    refine x_vI (r := r7) (ws' := wX g s) (As := [.int v6]) (rest := [.int x4, .ref (g.q 35)]) C hX (by rw [er7]; exact cRowGet_35 l g s v6) (cw_Store_88 C.1.2.2.2.2 C.2.2.2 ⟨by decide, by decide⟩) (x_rc C hX wg_35 rfl) rfl hl.1 rfl (lv_room (Nat.le_of_ble_eq_true rfl)) d_Store_move_146 ⟨Nat.le_refl _, Nat.le_refl _⟩ (fun H locs hX => ?_)
    obtain ⟨s8, es8, h⟩ := lt1_e h
    refine x_vV (ws' := wX g s8) (As := [.int x4, .int r7]) (rest := []) C hX (by rw [es8]; exact cRowSet_35 l g s x4 r7) (cw_Store_51 C.1.2.2.2.2 C.2.2.2 ⟨by decide, by decide⟩) (x_rc C hX wg_35 rfl) rfl hl.1 rfl (lv_room (Nat.le_of_ble_eq_true rfl)) d_Store_move_149 ⟨Nat.le_refl _, Nat.le_refl _⟩ (fun H locs hX => ?_)
    refine lv_goto (tgt := 252) hx hb d_Store_move_152 (by decide) ?_
    exact w_Store_move_252 C hQ x1 x2 x3 x4 r2 s8 H locs ls hX (lv_sub hl [1, 2, 3, 4, 5, 0] rfl) h
  have h := ite_f c14_1 h
  by_cases c14_2 : x1 = 33
  · have h := ite_t c14_2 h
    refine lv_lookup (tgt := 155) hx hb d_Store_move_14 (by decide) (by rw [c14_2] <;> rfl) (by decide) ?_
    exact w_Store_move_155 C hQ x1 x2 x3 x4 r2 s H locs ls hX (lv_sub hl [1, 2, 3, 4, 5, 0] rfl) h
  have h := ite_f c14_2 h
  by_cases c14_3 : x1 = 34
  · have h := ite_t c14_3 h
    refine lv_lookup (tgt := 155) hx hb d_Store_move_14 (by decide) (by rw [c14_3] <;> rfl) (by decide) ?_
    exact w_Store_move_155 C hQ x1 x2 x3 x4 r2 s H locs ls hX (lv_sub hl [1, 2, 3, 4, 5, 0] rfl) h
  have h := ite_f c14_3 h
  by_cases c14_4 : x1 = 35
  · have h := ite_t c14_4 h
    refine lv_lookup (tgt := 170) hx hb d_Store_move_14 (by decide) (by rw [c14_4] <;> rfl) (by decide) ?_
    refine lv_aload_n hx hb d_Store_move_170 rfl (lv_at hl 1 rfl) ?_
    refine gf_5_cells C hX fl_Store_20 d_Store_move_171 ?_
    refine lv_iload hx hb d_Store_move_174 (lv_at hl 5 rfl) ?_
    refine lv_aload_n hx hb d_Store_move_176 rfl (lv_at hl 1 rfl) ?_
    refine gf_5_globals C hX fl_Store_23 d_Store_move_177 ?_
    refine lv_iload_n hx hb d_Store_move_180 rfl (lv_at hl 3 rfl) ?_
    obtain ⟨r9, er9, h⟩ := lt1_e h
    refine x_vI (r := r9) (ws' := wX g s) (As := [.int x2]) (rest := [.int x4, .ref (g.q 35)]) C hX (by rw [er9]; exact cRowGet_37 l g s x2) (cw_Store_88 C.1.2.2.2.2 C.2.2.2 ⟨by decide, by decide⟩) (x_rc C hX wg_37 rfl) rfl hl.1 rfl (lv_room (Nat.le_of_ble_eq_true rfl)) d_Store_move_181 ⟨Nat.le_refl _, Nat.le_refl _⟩ (fun H locs hX => ?_)
    obtain ⟨s10, es10, h⟩ := lt1_e h
    refine x_vV (ws' := wX g s10) (As := [.int x4, .int r9]) (rest := []) C hX (by rw [es10]; exact cRowSet_35 l g s x4 r9) (cw_Store_51 C.1.2.2.2.2 C.2.2.2 ⟨by decide, by decide⟩) (x_rc C hX wg_35 rfl) rfl hl.1 rfl (lv_room (Nat.le_of_ble_eq_true rfl)) d_Store_move_184 ⟨Nat.le_refl _, Nat.le_refl _⟩ (fun H locs hX => ?_)
    refine lv_goto (tgt := 252) hx hb d_Store_move_187 (by decide) ?_
    exact w_Store_move_252 C hQ x1 x2 x3 x4 r2 s10 H locs ls hX (lv_sub hl [1, 2, 3, 4, 5, 0] rfl) h
  have h := ite_f c14_4 h
  by_cases c14_5 : x1 = 36
  · have h := ite_t c14_5 h
    refine lv_lookup (tgt := 190) hx hb d_Store_move_14 (by decide) (by rw [c14_5] <;> rfl) (by decide) ?_
    refine lv_aload_n hx hb d_Store_move_190 rfl (lv_at hl 1 rfl) ?_
    refine gf_5_globals C hX fl_Store_23 d_Store_move_191 ?_
    refine lv_iload_n hx hb d_Store_move_194 rfl (lv_at hl 3 rfl) ?_
    refine lv_iload hx hb d_Store_move_195 (lv_at hl 0 rfl) ?_
    obtain ⟨s11, es11, h⟩ := lt1_e h
    refine x_vV (ws' := wX g s11) (As := [.int x2, .int r2]) (rest := []) C hX (by rw [es11]; exact cRowSet_37 l g s x2 r2) (cw_Store_51 C.1.2.2.2.2 C.2.2.2 ⟨by decide, by decide⟩) (x_rc C hX wg_37 rfl) rfl hl.1 rfl (lv_room (Nat.le_of_ble_eq_true rfl)) d_Store_move_197 ⟨Nat.le_refl _, Nat.le_refl _⟩ (fun H locs hX => ?_)
    refine lv_goto (tgt := 252) hx hb d_Store_move_200 (by decide) ?_
    exact w_Store_move_252 C hQ x1 x2 x3 x4 r2 s11 H locs ls hX (lv_sub hl [1, 2, 3, 4, 5, 0] rfl) h
  have h := ite_f c14_5 h
  by_cases c14_6 : x1 = 63
  · have h := ite_t c14_6 h
    refine lv_lookup (tgt := 203) hx hb d_Store_move_14 (by decide) (by rw [c14_6] <;> rfl) (by decide) ?_
    refine lv_aload_n hx hb d_Store_move_203 rfl (lv_at hl 1 rfl) ?_
    refine gf_5_cells C hX fl_Store_20 d_Store_move_204 ?_
    refine lv_iload hx hb d_Store_move_207 (lv_at hl 5 rfl) ?_
    refine lv_aload_n hx hb d_Store_move_209 rfl (lv_at hl 1 rfl) ?_
    refine gf_5_pages C hX fl_Store_35 d_Store_move_210 ?_
    obtain ⟨s12, es12, h⟩ := lt1_e h
    refine x_vV (ws' := wX g s12) (As := [.int x4, .int (s 5 0)]) (rest := []) C hX (by rw [es12]; exact cRowSet_35 l g s x4 (s 5 0)) (cw_Store_51 C.1.2.2.2.2 C.2.2.2 ⟨by decide, by decide⟩) (x_rc C hX wg_35 rfl) rfl hl.1 rfl (lv_room (Nat.le_of_ble_eq_true rfl)) d_Store_move_213 ⟨Nat.le_refl _, Nat.le_refl _⟩ (fun H locs hX => ?_)
    refine lv_goto (tgt := 252) hx hb d_Store_move_216 (by decide) ?_
    exact w_Store_move_252 C hQ x1 x2 x3 x4 r2 s12 H locs ls hX (lv_sub hl [1, 2, 3, 4, 5, 0] rfl) h
  have h := ite_f c14_6 h
  by_cases c14_7 : x1 = 64
  · have h := ite_t c14_7 h
    refine lv_lookup (tgt := 219) hx hb d_Store_move_14 (by decide) (by rw [c14_7] <;> rfl) (by decide) ?_
    refine lv_aload_n hx hb d_Store_move_219 rfl (lv_at hl 1 rfl) ?_
    refine gf_5_cells C hX fl_Store_20 d_Store_move_220 ?_
    refine lv_iload hx hb d_Store_move_223 (lv_at hl 5 rfl) ?_
    refine lv_iconst (v := 1) hx hb d_Store_move_225 (by decide) ?_
    obtain ⟨v13, ev13, h⟩ := lt1_e h
    refine x_isub hx hb d_Store_move_226 ev13 ?_
    refine lv_aload_n hx hb d_Store_move_227 rfl (lv_at hl 1 rfl) ?_
    refine lv_iload hx hb d_Store_move_228 (lv_at hl 0 rfl) ?_
    obtain ⟨r15, s14, hc230, h⟩ := bd_e h
    refine x_vI (As := [.int r2]) (rest := [.int v13, .ref (g.q 35)]) C hX (c_Store_growBy l g r2 s (r15, s14) hc230) (cw_Store_90 C.1.2.2.2.2 C.2.2.2 ⟨by decide, by decide⟩) (x_rc C hX wg_5 rfl) rfl hl.1 rfl (lv_room (Nat.le_of_ble_eq_true rfl)) d_Store_move_230 ⟨Nat.le_refl _, Nat.le_refl _⟩ (fun H locs hX => ?_)
    obtain ⟨s16, es16, h⟩ := lt1_e h
    refine x_vV (ws' := wX g s16) (As := [.int v13, .int r15]) (rest := []) C hX (by rw [es16]; exact cRowSet_35 l g s14 v13 r15) (cw_Store_51 C.1.2.2.2.2 C.2.2.2 ⟨by decide, by decide⟩) (x_rc C hX wg_35 rfl) rfl hl.1 rfl (lv_room (Nat.le_of_ble_eq_true rfl)) d_Store_move_233 ⟨Nat.le_refl _, Nat.le_refl _⟩ (fun H locs hX => ?_)
    refine lv_goto (tgt := 252) hx hb d_Store_move_236 (by decide) ?_
    exact w_Store_move_252 C hQ x1 x2 x3 x4 r2 s16 H locs ls hX (lv_sub hl [1, 2, 3, 4, 5, 0] rfl) h
  have h := ite_f c14_7 h
  by_cases c14_8 : x1 = 65
  · have h := ite_t c14_8 h
    refine lv_lookup (tgt := 239) hx hb d_Store_move_14 (by decide) (by rw [c14_8] <;> rfl) (by decide) ?_
    refine lv_aload_n hx hb d_Store_move_239 rfl (lv_at hl 1 rfl) ?_
    refine gf_5_cells C hX fl_Store_20 d_Store_move_240 ?_
    refine lv_iload hx hb d_Store_move_243 (lv_at hl 5 rfl) ?_
    refine lv_iload_n hx hb d_Store_move_245 rfl (lv_at hl 3 rfl) ?_
    obtain ⟨s17, es17, h⟩ := lt1_e h
    refine x_vV (ws' := wX g s17) (As := [.int x4, .int x2]) (rest := []) C hX (by rw [es17]; exact cRowSet_35 l g s x4 x2) (cw_Store_51 C.1.2.2.2.2 C.2.2.2 ⟨by decide, by decide⟩) (x_rc C hX wg_35 rfl) rfl hl.1 rfl (lv_room (Nat.le_of_ble_eq_true rfl)) d_Store_move_246 ⟨Nat.le_refl _, Nat.le_refl _⟩ (fun H locs hX => ?_)
    refine lv_goto (tgt := 252) hx hb d_Store_move_249 (by decide) ?_
    exact w_Store_move_252 C hQ x1 x2 x3 x4 r2 s17 H locs ls hX (lv_sub hl [1, 2, 3, 4, 5, 0] rfl) h
  have h := ite_f c14_8 h
  refine lv_lookup (tgt := 252) (off := 238) hx hb d_Store_move_14 (by decide) (by simp [Jvm.Op.lookupswitch.offset, Ne.symm (lv_neT c14_0 (a := 27) (by decide)), Ne.symm (lv_neT c14_1 (a := 32) (by decide)), Ne.symm (lv_neT c14_2 (a := 33) (by decide)), Ne.symm (lv_neT c14_3 (a := 34) (by decide)), Ne.symm (lv_neT c14_4 (a := 35) (by decide)), Ne.symm (lv_neT c14_5 (a := 36) (by decide)), Ne.symm (lv_neT c14_6 (a := 63) (by decide)), Ne.symm (lv_neT c14_7 (a := 64) (by decide)), Ne.symm (lv_neT c14_8 (a := 65) (by decide))]) (by decide) ?_
  exact w_Store_move_252 C hQ x1 x2 x3 x4 r2 s H locs ls hX (lv_sub hl [1, 2, 3, 4, 5, 0] rfl) h
end WALK
theorem c_Store_move (l : Launch) (g : GX) (x1 : Int32) (x2 : Int32) (x3 : Int32) (x4 : Int32) (s : St) (z : St) (h : f_Store_move x1 x2 x3 x4 s = some z) : MV l g y_Store_move b_Store_move 6 none 2 42 [.ref (g.q 5), .int x1, .int x2, .int x3, .int x4] (wX g s) (wX g z) :=
  MV.mk (own := R_Store) (by decide) rfl (Nat.le_of_ble_eq_true rfl) fun p e ss m below meth c A Q C hQ ls hX hl => w_Store_move C hQ x1 x2 x3 x4 s _ _ ls hX hl h
-- Store_work
def f_Store_work (x1 : Int32) (x2 : Int32) (x3 : Int32) (x4 : Int32) (s : St) : Option (Int32 × St) :=
    bd1 (f_Op_isNumeric x1) fun r1 =>
    if r1 = 0 then
      bd1 (f_Op_isAccess x1) fun r2 =>
      if r2 = 0 then
        bd1 (f_Store_move x1 x2 x3 x4 s) fun s3 =>
        some (0, s3)
      else
        bd (f_Store_access x1 x2 x4 s) fun r5 s4 =>
        some (r5, s4)
    else
      bd (f_Store_compute x1 x4 s) fun r7 s6 =>
      some (r7, s6)
section WALK
variable {p : Program} {l : Launch} {e : Env} {ss : State} {m : MethodId} {args : Array Value} {below : List Frame} {meth : Method} {c : Code} {Q : State → Prop} {g : GX} {A : Nat → Prop}
set_option maxHeartbeats 4000000 in
set_option maxRecDepth 100000 in
theorem w_Store_work {z : Int32 × St} (C : Cx g A p m c b_Store_work 5 ss args R_Store) (hQ : ∀ (pc : Nat) (H : Heap) (locs : List Loc) (ls : Array Slot), XW g A ss (wX g z.2) H locs → decode b_Store_work pc = .ok (.ireturn, 1) → W p l e (rmX 4 88) ss m args below meth c H locs 0 0 Q (F0 m pc ls [.int z.1])) : ∀ (x1 : Int32) (x2 : Int32) (x3 : Int32) (x4 : Int32) (s : St) (H : Heap) (locs : List Loc) (ls : Array Slot), XW g A ss (wX g s) H locs → lv_has ls 5 [(0, .ref (g.q 5)), (1, .int x1), (2, .int x2), (3, .int x3), (4, .int x4)] → f_Store_work x1 x2 x3 x4 s = some z → W p l e (rmX 4 88) ss m args below meth c H locs 0 0 Q (F0 m 0 ls []) := by
  have ⟨⟨hx, hb, hml, hown, hts⟩, hK, hA, hN⟩ := C
  intro x1 x2 x3 x4 s H locs ls hX hl h
  rw [f_Store_work] at h
  refine lv_iload_n hx hb d_Store_work_0 rfl (lv_at hl 1 rfl) ?_
  obtain ⟨r1, hc1, h⟩ := bd1_e h
  refine x_sI (As := [.int x1]) (rest := []) C hX (c_Op_isNumeric l g x1 r1 hc1 _) (cw_Store_68 C.1.2.2.2.2 C.2.2.2 ⟨by decide, by decide⟩) rfl hl.1 rfl (lv_room (Nat.le_of_ble_eq_true rfl)) d_Store_work_1 ⟨Nat.le_refl _, Nat.le_refl _⟩ (fun H locs hX => ?_)
  refine lv_if_eq (tgt := 15) hx hb d_Store_work_4 (by decide) (fun c4 => ?_) (fun c4 => ?_)
  · have h := ite_t c4 h
    refine lv_iload_n hx hb d_Store_work_15 rfl (lv_at hl 1 rfl) ?_
    obtain ⟨r2, hc16, h⟩ := bd1_e h
    refine x_sI (As := [.int x1]) (rest := []) C hX (c_Op_isAccess l g x1 r2 hc16 _) (cw_Store_77 C.1.2.2.2.2 C.2.2.2 ⟨by decide, by decide⟩) rfl hl.1 rfl (lv_room (Nat.le_of_ble_eq_true rfl)) d_Store_work_16 ⟨Nat.le_refl _, Nat.le_refl _⟩ (fun H locs hX => ?_)
    refine lv_if_eq (tgt := 31) hx hb d_Store_work_19 (by decide) (fun c19 => ?_) (fun c19 => ?_)
    · have h := ite_t c19 h
      refine lv_aload_n hx hb d_Store_work_31 rfl (lv_at hl 0 rfl) ?_
      refine lv_iload_n hx hb d_Store_work_32 rfl (lv_at hl 1 rfl) ?_
      refine lv_iload_n hx hb d_Store_work_33 rfl (lv_at hl 2 rfl) ?_
      refine lv_iload_n hx hb d_Store_work_34 rfl (lv_at hl 3 rfl) ?_
      refine lv_iload hx hb d_Store_work_35 (lv_at hl 4 rfl) ?_
      obtain ⟨s3, hc37, h⟩ := bd1_e h
      refine x_vV (As := [.int x1, .int x2, .int x3, .int x4]) (rest := []) C hX (c_Store_move l g x1 x2 x3 x4 s s3 hc37) (cw_Store_84 C.1.2.2.2.2 C.2.2.2 ⟨by decide, by decide⟩) (x_rc C hX wg_5 rfl) rfl hl.1 rfl (lv_room (Nat.le_of_ble_eq_true rfl)) d_Store_work_37 ⟨Nat.le_refl _, Nat.le_refl _⟩ (fun H locs hX => ?_)
      refine lv_iconst (v := 0) hx hb d_Store_work_40 (by decide) ?_
      obtain rfl := so1 h
      exact hQ _ H locs ls hX d_Store_work_41
    · have h := ite_f c19 h
      refine lv_aload_n hx hb d_Store_work_22 rfl (lv_at hl 0 rfl) ?_
      refine lv_iload_n hx hb d_Store_work_23 rfl (lv_at hl 1 rfl) ?_
      refine lv_iload_n hx hb d_Store_work_24 rfl (lv_at hl 2 rfl) ?_
      refine lv_iload hx hb d_Store_work_25 (lv_at hl 4 rfl) ?_
      obtain ⟨r5, s4, hc27, h⟩ := bd_e h
      refine x_vI (As := [.int x1, .int x2, .int x4]) (rest := []) C hX (c_Store_access l g x1 x2 x4 s (r5, s4) hc27) (cw_Store_80 C.1.2.2.2.2 C.2.2.2 ⟨by decide, by decide⟩) (x_rc C hX wg_5 rfl) rfl hl.1 rfl (lv_room (Nat.le_of_ble_eq_true rfl)) d_Store_work_27 ⟨Nat.le_refl _, Nat.le_refl _⟩ (fun H locs hX => ?_)
      obtain rfl := so1 h
      exact hQ _ H locs ls hX d_Store_work_30
  · have h := ite_f c4 h
    refine lv_aload_n hx hb d_Store_work_7 rfl (lv_at hl 0 rfl) ?_
    refine lv_iload_n hx hb d_Store_work_8 rfl (lv_at hl 1 rfl) ?_
    refine lv_iload hx hb d_Store_work_9 (lv_at hl 4 rfl) ?_
    obtain ⟨r7, s6, hc11, h⟩ := bd_e h
    refine x_vI (As := [.int x1, .int x4]) (rest := []) C hX (c_Store_compute l g x1 x4 s (r7, s6) hc11) (cw_Store_74 C.1.2.2.2.2 C.2.2.2 ⟨by decide, by decide⟩) (x_rc C hX wg_5 rfl) rfl hl.1 rfl (lv_room (Nat.le_of_ble_eq_true rfl)) d_Store_work_11 ⟨Nat.le_refl _, Nat.le_refl _⟩ (fun H locs hX => ?_)
    obtain rfl := so1 h
    exact hQ _ H locs ls hX d_Store_work_14
end WALK
theorem c_Store_work (l : Launch) (g : GX) (x1 : Int32) (x2 : Int32) (x3 : Int32) (x4 : Int32) (s : St) (z : Int32 × St) (h : f_Store_work x1 x2 x3 x4 s = some z) : MI l g y_Store_work b_Store_work 5 (some .int) 4 88 [.ref (g.q 5), .int x1, .int x2, .int x3, .int x4] (wX g s) z.1 (wX g z.2) :=
  MI.mk (own := R_Store) (by decide) rfl (Nat.le_of_ble_eq_true rfl) fun p e ss m below meth c A Q C hQ ls hX hl => w_Store_work C hQ x1 x2 x3 x4 s _ _ ls hX hl h
-- SE_enter
def f_SE_enter (x1 : Int32) (s : St) : Option St :=
    lt1 (s 6 0 - 1) fun v1 =>
    lt1 (rSet s 50 8 v1 x1) fun s2 =>
    lt1 (stp s2 6 5 0) fun s3 =>
    lt1 (tGet 8 4 (s3 13) x1 1) fun r4 =>
    lt1 (s3 6 1 + r4) fun v5 =>
    lt1 (stp s3 6 6 v5) fun s6 =>
    lt1 (tGet 8 4 (s6 13) x1 2) fun r7 =>
    lt1 (stp s6 6 2 r7) fun s8 =>
    some s8
section WALK
variable {p : Program} {l : Launch} {e : Env} {ss : State} {m : MethodId} {args : Array Value} {below : List Frame} {meth : Method} {c : Code} {Q : State → Prop} {g : GX} {A : Nat → Prop}
set_option maxHeartbeats 4000000 in
set_option maxRecDepth 100000 in
theorem w_SE_enter {z : St} (C : Cx g A p m c b_SE_enter 2 ss args R_SE) (hQ : ∀ (pc : Nat) (H : Heap) (locs : List Loc) (ls : Array Slot), XW g A ss (wX g z) H locs → decode b_SE_enter pc = .ok (.return_, 1) → W p l e (rmX 1 23) ss m args below meth c H locs 0 0 Q (F0 m pc ls [])) : ∀ (x1 : Int32) (s : St) (H : Heap) (locs : List Loc) (ls : Array Slot), XW g A ss (wX g s) H locs → lv_has ls 2 [(0, .ref (g.q 6)), (1, .int x1)] → f_SE_enter x1 s = some z → W p l e (rmX 1 23) ss m args below meth c H locs 0 0 Q (F0 m 0 ls []) := by
  have ⟨⟨hx, hb, hml, hown, hts⟩, hK, hA, hN⟩ := C
  intro x1 s H locs ls hX hl h
  rw [f_SE_enter] at h
  refine lv_aload_n hx hb d_SE_enter_0 rfl (lv_at hl 0 rfl) ?_
  refine gf_6_functions C hX fl_SE_25 d_SE_enter_1 ?_
  refine lv_aload_n hx hb d_SE_enter_4 rfl (lv_at hl 0 rfl) ?_
  refine gf_6_calls_s C hX fl_SE_36 d_SE_enter_5 ?_
  refine lv_iconst (v := 1) hx hb d_SE_enter_8 (by decide) ?_
  obtain ⟨v1, ev1, h⟩ := lt1_e h
  refine x_isub hx hb d_SE_enter_9 ev1 ?_
  refine lv_iload_n hx hb d_SE_enter_10 rfl (lv_at hl 1 rfl) ?_
  obtain ⟨s2, es2, h⟩ := lt1_e h
  refine x_vV (ws' := wX g s2) (As := [.int v1, .int x1]) (rest := []) C hX (by rw [es2]; exact cRowSet_49 l g s v1 x1) (cw_SE_40 C.1.2.2.2.2 C.2.2.2 ⟨by decide, by decide⟩) (x_rc C hX wg_49 rfl) rfl hl.1 rfl (lv_room (Nat.le_of_ble_eq_true rfl)) d_SE_enter_11 ⟨Nat.le_refl _, Nat.le_refl _⟩ (fun H locs hX => ?_)
  refine lv_aload_n hx hb d_SE_enter_14 rfl (lv_at hl 0 rfl) ?_
  refine lv_iconst (v := 0) hx hb d_SE_enter_15 (by decide) ?_
  obtain ⟨s3, es3, h⟩ := lt1_e h
  refine pf_6_depth C hX fl_SE_43 d_SE_enter_16 (fun H locs hX => ?_)
  rw [← es3] at hX
  refine lv_aload_n hx hb d_SE_enter_19 rfl (lv_at hl 0 rfl) ?_
  refine lv_aload_n hx hb d_SE_enter_20 rfl (lv_at hl 0 rfl) ?_
  refine gf_6_base_s C hX fl_SE_46 d_SE_enter_21 ?_
  refine lv_aload_n hx hb d_SE_enter_24 rfl (lv_at hl 0 rfl) ?_
  refine gf_6_contents C hX fl_SE_32 d_SE_enter_25 ?_
  refine gf_1_functions C hX fl_SE_49 d_SE_enter_28 ?_
  refine lv_iload_n hx hb d_SE_enter_31 rfl (lv_at hl 1 rfl) ?_
  refine lv_iconst (v := 1) hx hb d_SE_enter_32 (by decide) ?_
  obtain ⟨r4, er4, h⟩ := lt1_e h
  refine x_vI (r := r4) (ws' := wX g s3) (As := [.int x1, .int 1]) (rest := [.int (s3 6 1), .ref (g.q 6)]) C hX (by rw [er4]; exact cTabGet_12 l g s3 x1 1) (cw_SE_53 C.1.2.2.2.2 C.2.2.2 ⟨by decide, by decide⟩) (x_rc C hX wg_12 rfl) rfl hl.1 rfl (lv_room (Nat.le_of_ble_eq_true rfl)) d_SE_enter_33 ⟨Nat.le_refl _, Nat.le_refl _⟩ (fun H locs hX => ?_)
  obtain ⟨v5, ev5, h⟩ := lt1_e h
  refine x_iadd hx hb d_SE_enter_36 ev5 ?_
  obtain ⟨s6, es6, h⟩ := lt1_e h
  refine pf_6_top C hX fl_SE_57 d_SE_enter_37 (fun H locs hX => ?_)
  rw [← es6] at hX
  refine lv_aload_n hx hb d_SE_enter_40 rfl (lv_at hl 0 rfl) ?_
  refine lv_aload_n hx hb d_SE_enter_41 rfl (lv_at hl 0 rfl) ?_
  refine gf_6_contents C hX fl_SE_32 d_SE_enter_42 ?_
  refine gf_1_functions C hX fl_SE_49 d_SE_enter_45 ?_
  refine lv_iload_n hx hb d_SE_enter_48 rfl (lv_at hl 1 rfl) ?_
  refine lv_iconst (v := 2) hx hb d_SE_enter_49 (by decide) ?_
  obtain ⟨r7, er7, h⟩ := lt1_e h
  refine x_vI (r := r7) (ws' := wX g s6) (As := [.int x1, .int 2]) (rest := [.ref (g.q 6)]) C hX (by rw [er7]; exact cTabGet_12 l g s6 x1 2) (cw_SE_53 C.1.2.2.2.2 C.2.2.2 ⟨by decide, by decide⟩) (x_rc C hX wg_12 rfl) rfl hl.1 rfl (lv_room (Nat.le_of_ble_eq_true rfl)) d_SE_enter_50 ⟨Nat.le_refl _, Nat.le_refl _⟩ (fun H locs hX => ?_)
  obtain ⟨s8, es8, h⟩ := lt1_e h
  refine pf_6_next_s C hX fl_SE_60 d_SE_enter_53 (fun H locs hX => ?_)
  rw [← es8] at hX
  obtain rfl := so1 h
  exact hQ _ H locs ls hX d_SE_enter_56
end WALK
theorem c_SE_enter (l : Launch) (g : GX) (x1 : Int32) (s : St) (z : St) (h : f_SE_enter x1 s = some z) : MV l g y_SE_enter b_SE_enter 2 none 1 23 [.ref (g.q 6), .int x1] (wX g s) (wX g z) :=
  MV.mk (own := R_SE) (by decide) rfl (Nat.le_of_ble_eq_true rfl) fun p e ss m below meth c A Q C hQ ls hX hl => w_SE_enter C hQ x1 s _ _ ls hX hl h
-- Eng_close_S
def f_Eng_close_S_108 (x1 : Int32) (x2 : Int32) (x3 : Int32) (s : St) : Option (Int32 × St) :=
    lt1 (x3 + x2) fun v1 =>
    some (v1, s)
def f_Eng_close_S_22 (x1 : Int32) (x2 : Int32) (y1 : Int32) (s : St) : Option (Int32 × St) :=
    lt1 (stp s 6 4 y1) fun s1 =>
    lt1 (s1 6 0 - 1) fun v2 =>
    lt1 (stp s1 6 0 v2) fun s3 =>
    if 0 < s3 6 0 then
      lt1 (s3 6 0 - 1) fun v4 =>
      lt1 (v4 * 28) fun v5 =>
      lt1 (stp s3 6 1 v5) fun s6 =>
      lt1 (rGet 8 (s6 40) (s6 6 0)) fun r7 =>
      lt1 (stp s6 6 2 r7) fun s8 =>
      lt1 (rGet 8 (s8 42) (s8 6 0)) fun r9 =>
      if x2 ≤ 0 then
        f_Eng_close_S_108 x1 x2 r9 s8
      else
        lt1 (rSet s8 36 224 r9 (s8 6 4)) fun s10 =>
        f_Eng_close_S_108 x1 x2 r9 s10
    else
      lt1 (stp s3 6 3 1) fun s11 =>
      some (0, s11)
def f_Eng_close_S (x1 : Int32) (x2 : Int32) (s : St) : Option (Int32 × St) :=
    if x2 ≤ 0 then
      f_Eng_close_S_22 x1 x2 0 s
    else
      lt1 (x1 - 1) fun v1 =>
      lt1 (rGet 224 (s 36) v1) fun r2 =>
      f_Eng_close_S_22 x1 x2 r2 s
section WALK
variable {p : Program} {l : Launch} {e : Env} {ss : State} {m : MethodId} {args : Array Value} {below : List Frame} {meth : Method} {c : Code} {Q : State → Prop} {g : GX} {A : Nat → Prop}
set_option maxHeartbeats 4000000 in
set_option maxRecDepth 100000 in
theorem w_Eng_close_S_108 {z : Int32 × St} (C : Cx g A p m c b_Eng_close 4 ss args R_Eng) (hQ : ∀ (pc : Nat) (H : Heap) (locs : List Loc) (ls : Array Slot), XW g A ss (wX g z.2) H locs → decode b_Eng_close pc = .ok (.ireturn, 1) → W p l e (rmX 1 22) ss m args below meth c H locs 0 0 Q (F0 m pc ls [.int z.1])) : ∀ (x1 : Int32) (x2 : Int32) (x3 : Int32) (s : St) (H : Heap) (locs : List Loc) (ls : Array Slot), XW g A ss (wX g s) H locs → lv_has ls 4 [(0, .ref (g.q 6)), (1, .int x1), (2, .int x2), (3, .int x3)] → f_Eng_close_S_108 x1 x2 x3 s = some z → W p l e (rmX 1 22) ss m args below meth c H locs 0 0 Q (F0 m 108 ls []) := by
  have ⟨⟨hx, hb, hml, hown, hts⟩, hK, hA, hN⟩ := C
  intro x1 x2 x3 s H locs ls hX hl h
  rw [f_Eng_close_S_108] at h
  refine lv_iload_n hx hb d_Eng_close_108 rfl (lv_at hl 3 rfl) ?_
  refine lv_iload_n hx hb d_Eng_close_109 rfl (lv_at hl 2 rfl) ?_
  obtain ⟨v1, ev1, h⟩ := lt1_e h
  refine x_iadd hx hb d_Eng_close_110 ev1 ?_
  obtain rfl := so1 h
  exact hQ _ H locs ls hX d_Eng_close_111
set_option maxHeartbeats 4000000 in
set_option maxRecDepth 100000 in
theorem w_Eng_close_S_22 {z : Int32 × St} (C : Cx g A p m c b_Eng_close 4 ss args R_Eng) (hQ : ∀ (pc : Nat) (H : Heap) (locs : List Loc) (ls : Array Slot), XW g A ss (wX g z.2) H locs → decode b_Eng_close pc = .ok (.ireturn, 1) → W p l e (rmX 1 22) ss m args below meth c H locs 0 0 Q (F0 m pc ls [.int z.1])) : ∀ (x1 : Int32) (x2 : Int32) (y1 : Int32) (s : St) (H : Heap) (locs : List Loc) (ls : Array Slot), XW g A ss (wX g s) H locs → lv_has ls 4 [(0, .ref (g.q 6)), (1, .int x1), (2, .int x2)] → f_Eng_close_S_22 x1 x2 y1 s = some z → W p l e (rmX 1 22) ss m args below meth c H locs 0 0 Q (F0 m 22 ls [.int y1, .ref (g.q 6)]) := by
  have ⟨⟨hx, hb, hml, hown, hts⟩, hK, hA, hN⟩ := C
  intro x1 x2 y1 s H locs ls hX hl h
  rw [f_Eng_close_S_22] at h
  obtain ⟨s1, es1, h⟩ := lt1_e h
  refine pf_6_value C hX fl_Eng_31 d_Eng_close_22 (fun H locs hX => ?_)
  rw [← es1] at hX
  refine lv_aload_n hx hb d_Eng_close_25 rfl (lv_at hl 0 rfl) ?_
  refine lv_dup hx hb d_Eng_close_26 rfl ?_
  refine gf_6_calls C hX fl_Eng_34 d_Eng_close_27 ?_
  refine lv_iconst (v := 1) hx hb d_Eng_close_30 (by decide) ?_
  obtain ⟨v2, ev2, h⟩ := lt1_e h
  refine x_isub hx hb d_Eng_close_31 ev2 ?_
  obtain ⟨s3, es3, h⟩ := lt1_e h
  refine pf_6_calls C hX fl_Eng_34 d_Eng_close_32 (fun H locs hX => ?_)
  rw [← es3] at hX
  refine lv_aload_n hx hb d_Eng_close_35 rfl (lv_at hl 0 rfl) ?_
  refine gf_6_calls C hX fl_Eng_34 d_Eng_close_36 ?_
  refine lv_if_gt (tgt := 49) hx hb d_Eng_close_39 (by decide) (fun c39 => ?_) (fun c39 => ?_)
  · have h := ite_t c39 h
    refine lv_aload_n hx hb d_Eng_close_49 rfl (lv_at hl 0 rfl) ?_
    refine lv_aload_n hx hb d_Eng_close_50 rfl (lv_at hl 0 rfl) ?_
    refine gf_6_calls C hX fl_Eng_34 d_Eng_close_51 ?_
    refine lv_iconst (v := 1) hx hb d_Eng_close_54 (by decide) ?_
    obtain ⟨v4, ev4, h⟩ := lt1_e h
    refine x_isub hx hb d_Eng_close_55 ev4 ?_
    refine lv_bipush (v := 28) hx hb d_Eng_close_56 (by decide) ?_
    obtain ⟨v5, ev5, h⟩ := lt1_e h
    refine x_imul hx hb d_Eng_close_58 ev5 ?_
    obtain ⟨s6, es6, h⟩ := lt1_e h
    refine pf_6_base C hX fl_Eng_61 d_Eng_close_59 (fun H locs hX => ?_)
    rw [← es6] at hX
    refine lv_aload_n hx hb d_Eng_close_62 rfl (lv_at hl 0 rfl) ?_
    refine lv_aload_n hx hb d_Eng_close_63 rfl (lv_at hl 0 rfl) ?_
    refine gf_6_nexts C hX fl_Eng_14 d_Eng_close_64 ?_
    refine lv_aload_n hx hb d_Eng_close_67 rfl (lv_at hl 0 rfl) ?_
    refine gf_6_calls C hX fl_Eng_34 d_Eng_close_68 ?_
    obtain ⟨r7, er7, h⟩ := lt1_e h
    refine x_vI (r := r7) (ws' := wX g s6) (As := [.int (s6 6 0)]) (rest := [.ref (g.q 6)]) C hX (by rw [er7]; exact cRowGet_39 l g s6 (s6 6 0)) (cw_Eng_69 C.1.2.2.2.2 C.2.2.2 ⟨by decide, by decide⟩) (x_rc C hX wg_39 rfl) rfl hl.1 rfl (lv_room (Nat.le_of_ble_eq_true rfl)) d_Eng_close_71 ⟨Nat.le_refl _, Nat.le_refl _⟩ (fun H locs hX => ?_)
    obtain ⟨s8, es8, h⟩ := lt1_e h
    refine pf_6_next C hX fl_Eng_77 d_Eng_close_74 (fun H locs hX => ?_)
    rw [← es8] at hX
    refine lv_aload_n hx hb d_Eng_close_77 rfl (lv_at hl 0 rfl) ?_
    refine gf_6_tops C hX fl_Eng_20 d_Eng_close_78 ?_
    refine lv_aload_n hx hb d_Eng_close_81 rfl (lv_at hl 0 rfl) ?_
    refine gf_6_calls C hX fl_Eng_34 d_Eng_close_82 ?_
    obtain ⟨r9, er9, h⟩ := lt1_e h
    refine x_vI (r := r9) (ws' := wX g s8) (As := [.int (s8 6 0)]) (rest := []) C hX (by rw [er9]; exact cRowGet_41 l g s8 (s8 6 0)) (cw_Eng_69 C.1.2.2.2.2 C.2.2.2 ⟨by decide, by decide⟩) (x_rc C hX wg_41 rfl) rfl hl.1 rfl (lv_room (Nat.le_of_ble_eq_true rfl)) d_Eng_close_85 ⟨Nat.le_refl _, Nat.le_refl _⟩ (fun H locs hX => ?_)
    refine lv_istore_n (lv' := [(3, .int r9), (0, .ref (g.q 6)), (1, .int x1), (2, .int x2)]) hx hb d_Eng_close_88 rfl hl (by decide) rfl (fun ls hl => ?_)
    refine lv_iload_n hx hb d_Eng_close_89 rfl (lv_at hl 3 rfl) ?_
    refine lv_if_le (tgt := 108) hx hb d_Eng_close_90 (by decide) (fun c90 => ?_) (fun c90 => ?_)
    · have h := ite_t c90 h
      exact w_Eng_close_S_108 C hQ x1 x2 r9 s8 H locs ls hX (lv_sub hl [1, 2, 3, 0] rfl) h
    · have h := ite_f c90 h
      refine lv_aload_n hx hb d_Eng_close_93 rfl (lv_at hl 1 rfl) ?_
      refine gf_6_store C hX fl_Eng_23 d_Eng_close_94 ?_
      refine gf_5_cells C hX fl_Eng_64 d_Eng_close_97 ?_
      refine lv_iload_n hx hb d_Eng_close_100 rfl (lv_at hl 0 rfl) ?_
      refine lv_aload_n hx hb d_Eng_close_101 rfl (lv_at hl 1 rfl) ?_
      refine gf_6_value C hX fl_Eng_31 d_Eng_close_102 ?_
      obtain ⟨s10, es10, h⟩ := lt1_e h
      refine x_vV (ws' := wX g s10) (As := [.int r9, .int (s8 6 4)]) (rest := []) C hX (by rw [es10]; exact cRowSet_35 l g s8 r9 (s8 6 4)) (cw_Eng_73 C.1.2.2.2.2 C.2.2.2 ⟨by decide, by decide⟩) (x_rc C hX wg_35 rfl) rfl hl.1 rfl (lv_room (Nat.le_of_ble_eq_true rfl)) d_Eng_close_105 ⟨Nat.le_refl _, Nat.le_refl _⟩ (fun H locs hX => ?_)
      exact w_Eng_close_S_108 C hQ x1 x2 r9 s10 H locs ls hX (lv_sub hl [1, 2, 3, 0] rfl) h
  · have h := ite_f c39 h
    refine lv_aload_n hx hb d_Eng_close_42 rfl (lv_at hl 0 rfl) ?_
    refine lv_iconst (v := 1) hx hb d_Eng_close_43 (by decide) ?_
    obtain ⟨s11, es11, h⟩ := lt1_e h
    refine pf_6_outcome C hX fl_Eng_27 d_Eng_close_44 (fun H locs hX => ?_)
    rw [← es11] at hX
    refine lv_iconst (v := 0) hx hb d_Eng_close_47 (by decide) ?_
    obtain rfl := so1 h
    exact hQ _ H locs ls hX d_Eng_close_48
set_option maxHeartbeats 4000000 in
set_option maxRecDepth 100000 in
theorem w_Eng_close_S {z : Int32 × St} (C : Cx g A p m c b_Eng_close 4 ss args R_Eng) (hQ : ∀ (pc : Nat) (H : Heap) (locs : List Loc) (ls : Array Slot), XW g A ss (wX g z.2) H locs → decode b_Eng_close pc = .ok (.ireturn, 1) → W p l e (rmX 1 22) ss m args below meth c H locs 0 0 Q (F0 m pc ls [.int z.1])) : ∀ (x1 : Int32) (x2 : Int32) (s : St) (H : Heap) (locs : List Loc) (ls : Array Slot), XW g A ss (wX g s) H locs → lv_has ls 4 [(0, .ref (g.q 6)), (1, .int x1), (2, .int x2)] → f_Eng_close_S x1 x2 s = some z → W p l e (rmX 1 22) ss m args below meth c H locs 0 0 Q (F0 m 0 ls []) := by
  have ⟨⟨hx, hb, hml, hown, hts⟩, hK, hA, hN⟩ := C
  intro x1 x2 s H locs ls hX hl h
  rw [f_Eng_close_S] at h
  refine lv_aload_n hx hb d_Eng_close_0 rfl (lv_at hl 0 rfl) ?_
  refine lv_iload_n hx hb d_Eng_close_1 rfl (lv_at hl 2 rfl) ?_
  refine lv_if_le (tgt := 21) hx hb d_Eng_close_2 (by decide) (fun c2 => ?_) (fun c2 => ?_)
  · have h := ite_t c2 h
    refine lv_iconst (v := 0) hx hb d_Eng_close_21 (by decide) ?_
    exact w_Eng_close_S_22 C hQ x1 x2 0 s H locs ls hX hl h
  · have h := ite_f c2 h
    refine lv_aload_n hx hb d_Eng_close_5 rfl (lv_at hl 0 rfl) ?_
    refine gf_6_store C hX fl_Eng_23 d_Eng_close_6 ?_
    refine gf_5_cells C hX fl_Eng_64 d_Eng_close_9 ?_
    refine lv_iload_n hx hb d_Eng_close_12 rfl (lv_at hl 1 rfl) ?_
    refine lv_iconst (v := 1) hx hb d_Eng_close_13 (by decide) ?_
    obtain ⟨v1, ev1, h⟩ := lt1_e h
    refine x_isub hx hb d_Eng_close_14 ev1 ?_
    obtain ⟨r2, er2, h⟩ := lt1_e h
    refine x_vI (r := r2) (ws' := wX g s) (As := [.int v1]) (rest := [.ref (g.q 6)]) C hX (by rw [er2]; exact cRowGet_35 l g s v1) (cw_Eng_69 C.1.2.2.2.2 C.2.2.2 ⟨by decide, by decide⟩) (x_rc C hX wg_35 rfl) rfl hl.1 rfl (lv_room (Nat.le_of_ble_eq_true rfl)) d_Eng_close_15 ⟨Nat.le_refl _, Nat.le_refl _⟩ (fun H locs hX => ?_)
    refine lv_goto (tgt := 22) hx hb d_Eng_close_18 (by decide) ?_
    exact w_Eng_close_S_22 C hQ x1 x2 r2 s H locs ls hX hl h
end WALK
theorem c_Eng_close_S (l : Launch) (g : GX) (x1 : Int32) (x2 : Int32) (s : St) (z : Int32 × St) (h : f_Eng_close_S x1 x2 s = some z) : MI l g y_Eng_close b_Eng_close 4 (some .int) 1 22 [.ref (g.q 6), .int x1, .int x2] (wX g s) z.1 (wX g z.2) :=
  MI.mk (own := R_Eng) (by decide) rfl (Nat.le_of_ble_eq_true rfl) fun p e ss m below meth c A Q C hQ ls hX hl => w_Eng_close_S C hQ x1 x2 s _ _ ls hX hl h
-- SE_leave
def f_SE_leave (s : St) : Option St :=
    lt1 (s 6 0 - 1) fun v1 =>
    lt1 (rGet 8 (s 50) v1) fun r2 =>
    bd1 (f_Cont_resultsOf s r2) fun r3 =>
    bd (f_Eng_close_S (s 6 6) r3 s) fun r5 s4 =>
    lt1 (stp s4 6 6 r5) fun s6 =>
    lt1 (s6 6 0 - 1) fun v7 =>
    lt1 (rGet 8 (s6 52) v7) fun r8 =>
    lt1 (stp s6 6 5 r8) fun s9 =>
    some s9
section WALK
variable {p : Program} {l : Launch} {e : Env} {ss : State} {m : MethodId} {args : Array Value} {below : List Frame} {meth : Method} {c : Code} {Q : State → Prop} {g : GX} {A : Nat → Prop}
set_option maxHeartbeats 4000000 in
set_option maxRecDepth 100000 in
theorem w_SE_leave {z : St} (C : Cx g A p m c b_SE_leave 1 ss args R_SE) (hQ : ∀ (pc : Nat) (H : Heap) (locs : List Loc) (ls : Array Slot), XW g A ss (wX g z) H locs → decode b_SE_leave pc = .ok (.return_, 1) → W p l e (rmX 2 45) ss m args below meth c H locs 0 0 Q (F0 m pc ls [])) : ∀ (s : St) (H : Heap) (locs : List Loc) (ls : Array Slot), XW g A ss (wX g s) H locs → lv_has ls 1 [(0, .ref (g.q 6))] → f_SE_leave s = some z → W p l e (rmX 2 45) ss m args below meth c H locs 0 0 Q (F0 m 0 ls []) := by
  have ⟨⟨hx, hb, hml, hown, hts⟩, hK, hA, hN⟩ := C
  intro s H locs ls hX hl h
  rw [f_SE_leave] at h
  refine lv_aload_n hx hb d_SE_leave_0 rfl (lv_at hl 0 rfl) ?_
  refine lv_aload_n hx hb d_SE_leave_1 rfl (lv_at hl 0 rfl) ?_
  refine lv_aload_n hx hb d_SE_leave_2 rfl (lv_at hl 0 rfl) ?_
  refine gf_6_top C hX fl_SE_57 d_SE_leave_3 ?_
  refine lv_aload_n hx hb d_SE_leave_6 rfl (lv_at hl 0 rfl) ?_
  refine gf_6_contents C hX fl_SE_32 d_SE_leave_7 ?_
  refine lv_aload_n hx hb d_SE_leave_10 rfl (lv_at hl 0 rfl) ?_
  refine gf_6_functions C hX fl_SE_25 d_SE_leave_11 ?_
  refine lv_aload_n hx hb d_SE_leave_14 rfl (lv_at hl 0 rfl) ?_
  refine gf_6_calls_s C hX fl_SE_36 d_SE_leave_15 ?_
  refine lv_iconst (v := 1) hx hb d_SE_leave_18 (by decide) ?_
  obtain ⟨v1, ev1, h⟩ := lt1_e h
  refine x_isub hx hb d_SE_leave_19 ev1 ?_
  obtain ⟨r2, er2, h⟩ := lt1_e h
  refine x_vI (r := r2) (ws' := wX g s) (As := [.int v1]) (rest := [.ref (g.q 1), .int (s 6 6), .ref (g.q 6), .ref (g.q 6)]) C hX (by rw [er2]; exact cRowGet_49 l g s v1) (cw_SE_121 C.1.2.2.2.2 C.2.2.2 ⟨by decide, by decide⟩) (x_rc C hX wg_49 rfl) rfl hl.1 rfl (lv_room (Nat.le_of_ble_eq_true rfl)) d_SE_leave_20 ⟨Nat.le_refl _, Nat.le_refl _⟩ (fun H locs hX => ?_)
  obtain ⟨r3, hc23, h⟩ := bd1_e h
  refine x_vI (As := [.int r2]) (rest := [.int (s 6 6), .ref (g.q 6), .ref (g.q 6)]) C hX (c_Cont_resultsOf l g r2 s r3 hc23) (cw_SE_142 C.1.2.2.2.2 C.2.2.2 ⟨by decide, by decide⟩) (x_rc C hX wg_1 rfl) rfl hl.1 rfl (lv_room (Nat.le_of_ble_eq_true rfl)) d_SE_leave_23 ⟨Nat.le_refl _, Nat.le_refl _⟩ (fun H locs hX => ?_)
  obtain ⟨r5, s4, hc26, h⟩ := bd_e h
  refine x_uI (As := [.int (s 6 6), .int r3]) (rest := [.ref (g.q 6)]) C hX (c_Eng_close_S l g (s 6 6) r3 s (r5, s4) hc26) (cw_SE_145_S C.1.2.2.2.2 C.2.2.2 ⟨by decide, by decide⟩) (x_rc C hX wg_6 rfl) rfl hl.1 rfl (lv_room (Nat.le_of_ble_eq_true rfl)) d_SE_leave_26 ⟨Nat.le_refl _, Nat.le_refl _⟩ (fun H locs hX => ?_)
  obtain ⟨s6, es6, h⟩ := lt1_e h
  refine pf_6_top C hX fl_SE_57 d_SE_leave_29 (fun H locs hX => ?_)
  rw [← es6] at hX
  refine lv_aload_n hx hb d_SE_leave_32 rfl (lv_at hl 0 rfl) ?_
  refine lv_aload_n hx hb d_SE_leave_33 rfl (lv_at hl 0 rfl) ?_
  refine gf_6_depths C hX fl_SE_29 d_SE_leave_34 ?_
  refine lv_aload_n hx hb d_SE_leave_37 rfl (lv_at hl 0 rfl) ?_
  refine gf_6_calls_s C hX fl_SE_36 d_SE_leave_38 ?_
  refine lv_iconst (v := 1) hx hb d_SE_leave_41 (by decide) ?_
  obtain ⟨v7, ev7, h⟩ := lt1_e h
  refine x_isub hx hb d_SE_leave_42 ev7 ?_
  obtain ⟨r8, er8, h⟩ := lt1_e h
  refine x_vI (r := r8) (ws' := wX g s6) (As := [.int v7]) (rest := [.ref (g.q 6)]) C hX (by rw [er8]; exact cRowGet_51 l g s6 v7) (cw_SE_121 C.1.2.2.2.2 C.2.2.2 ⟨by decide, by decide⟩) (x_rc C hX wg_51 rfl) rfl hl.1 rfl (lv_room (Nat.le_of_ble_eq_true rfl)) d_SE_leave_43 ⟨Nat.le_refl _, Nat.le_refl _⟩ (fun H locs hX => ?_)
  obtain ⟨s9, es9, h⟩ := lt1_e h
  refine pf_6_depth C hX fl_SE_43 d_SE_leave_46 (fun H locs hX => ?_)
  rw [← es9] at hX
  obtain rfl := so1 h
  exact hQ _ H locs ls hX d_SE_leave_49
end WALK
theorem c_SE_leave (l : Launch) (g : GX) (s : St) (z : St) (h : f_SE_leave s = some z) : MV l g y_SE_leave b_SE_leave 1 none 2 45 [.ref (g.q 6)] (wX g s) (wX g z) :=
  MV.mk (own := R_SE) (by decide) rfl (Nat.le_of_ble_eq_true rfl) fun p e ss m below meth c A Q C hQ ls hX hl => w_SE_leave C hQ s _ _ ls hX hl h
-- SE_pass
def f_SE_pass_84 (x1 : Int32) (s : St) : Option (Int32 × St) :=
    bz 1 <|
    some (1, s)
def f_SE_pass (s : St) : Option (Int32 × St) :=
    lt1 (tGet 240 7 (s 21) (s 6 2) 0) fun r1 =>
    if r1 = 5 then
      lt1 (tGet 240 7 (s 21) (s 6 2) 3) fun r7 =>
      lt1 (stp s 6 2 r7) fun s8 =>
      bz 1 <|
      some (1, s8)
    else
      if r1 = 11 then
        if s 6 5 ≤ 0 then
          bd1 (f_SE_leave s) fun s2 =>
          f_SE_pass_84 r1 s2
        else
          lt1 (s 6 5 - 1) fun v3 =>
          lt1 (stp s 6 5 v3) fun s4 =>
          lt1 (s4 6 2 + 1) fun v5 =>
          lt1 (stp s4 6 2 v5) fun s6 =>
          f_SE_pass_84 r1 s6
      else
        bz 0 <|
        some (0, s)
section WALK
variable {p : Program} {l : Launch} {e : Env} {ss : State} {m : MethodId} {args : Array Value} {below : List Frame} {meth : Method} {c : Code} {Q : State → Prop} {g : GX} {A : Nat → Prop}
set_option maxHeartbeats 4000000 in
set_option maxRecDepth 100000 in
theorem w_SE_pass_84 {z : Int32 × St} (C : Cx g A p m c b_SE_pass 2 ss args R_SE) (hQ : ∀ (pc : Nat) (H : Heap) (locs : List Loc) (ls : Array Slot), XW g A ss (wX g z.2) H locs → (z.1 = 0 ∨ z.1 = 1) → decode b_SE_pass pc = .ok (.ireturn, 1) → W p l e (rmX 3 65) ss m args below meth c H locs 0 0 Q (F0 m pc ls [.int z.1])) : ∀ (x1 : Int32) (s : St) (H : Heap) (locs : List Loc) (ls : Array Slot), XW g A ss (wX g s) H locs → lv_has ls 2 [(0, .ref (g.q 6)), (1, .int x1)] → f_SE_pass_84 x1 s = some z → W p l e (rmX 3 65) ss m args below meth c H locs 0 0 Q (F0 m 84 ls []) := by
  have ⟨⟨hx, hb, hml, hown, hts⟩, hK, hA, hN⟩ := C
  intro x1 s H locs ls hX hl h
  rw [f_SE_pass_84] at h
  refine lv_iconst (v := 1) hx hb d_SE_pass_84 (by decide) ?_
  obtain ⟨hz, h⟩ := bz_e h
  obtain rfl := so1 h
  exact hQ _ H locs ls hX hz d_SE_pass_85
set_option maxHeartbeats 4000000 in
set_option maxRecDepth 100000 in
theorem w_SE_pass {z : Int32 × St} (C : Cx g A p m c b_SE_pass 2 ss args R_SE) (hQ : ∀ (pc : Nat) (H : Heap) (locs : List Loc) (ls : Array Slot), XW g A ss (wX g z.2) H locs → (z.1 = 0 ∨ z.1 = 1) → decode b_SE_pass pc = .ok (.ireturn, 1) → W p l e (rmX 3 65) ss m args below meth c H locs 0 0 Q (F0 m pc ls [.int z.1])) : ∀ (s : St) (H : Heap) (locs : List Loc) (ls : Array Slot), XW g A ss (wX g s) H locs → lv_has ls 2 [(0, .ref (g.q 6))] → f_SE_pass s = some z → W p l e (rmX 3 65) ss m args below meth c H locs 0 0 Q (F0 m 0 ls []) := by
  have ⟨⟨hx, hb, hml, hown, hts⟩, hK, hA, hN⟩ := C
  intro s H locs ls hX hl h
  rw [f_SE_pass] at h
  refine lv_aload_n hx hb d_SE_pass_0 rfl (lv_at hl 0 rfl) ?_
  refine gf_6_contents C hX fl_SE_32 d_SE_pass_1 ?_
  refine gf_1_code C hX fl_SE_63 d_SE_pass_4 ?_
  refine lv_aload_n hx hb d_SE_pass_7 rfl (lv_at hl 0 rfl) ?_
  refine gf_6_next_s C hX fl_SE_60 d_SE_pass_8 ?_
  refine lv_iconst (v := 0) hx hb d_SE_pass_11 (by decide) ?_
  obtain ⟨r1, er1, h⟩ := lt1_e h
  refine x_vI (r := r1) (ws' := wX g s) (As := [.int (s 6 2), .int 0]) (rest := []) C hX (by rw [er1]; exact cTabGet_20 l g s (s 6 2) 0) (cw_SE_53 C.1.2.2.2.2 C.2.2.2 ⟨by decide, by decide⟩) (x_rc C hX wg_20 rfl) rfl hl.1 rfl (lv_room (Nat.le_of_ble_eq_true rfl)) d_SE_pass_12 ⟨Nat.le_refl _, Nat.le_refl _⟩ (fun H locs hX => ?_)
  refine lv_istore_n (lv' := [(1, .int r1), (0, .ref (g.q 6))]) hx hb d_SE_pass_15 rfl hl (by decide) rfl (fun ls hl => ?_)
  refine lv_iload_n hx hb d_SE_pass_16 rfl (lv_at hl 0 rfl) ?_
  refine lv_iconst (v := 5) hx hb d_SE_pass_17 (by decide) ?_
  refine lv_icmp_ne (tgt := 42) hx hb d_SE_pass_18 (by decide) (fun c18 => ?_) (fun c18 => ?_)
  · have h := ite_f c18 h
    refine lv_iload_n hx hb d_SE_pass_42 rfl (lv_at hl 0 rfl) ?_
    refine lv_bipush (v := 11) hx hb d_SE_pass_43 (by decide) ?_
    refine lv_icmp_eq (tgt := 50) hx hb d_SE_pass_45 (by decide) (fun c45 => ?_) (fun c45 => ?_)
    · have h := ite_t c45 h
      refine lv_aload_n hx hb d_SE_pass_50 rfl (lv_at hl 1 rfl) ?_
      refine gf_6_depth C hX fl_SE_43 d_SE_pass_51 ?_
      refine lv_if_le (tgt := 80) hx hb d_SE_pass_54 (by decide) (fun c54 => ?_) (fun c54 => ?_)
      · have h := ite_t c54 h
        refine lv_aload_n hx hb d_SE_pass_80 rfl (lv_at hl 1 rfl) ?_
        obtain ⟨s2, hc81, h⟩ := bd1_e h
        refine x_vV (As := []) (rest := []) C hX (c_SE_leave l g s s2 hc81) (cw_SE_68_S C.1.2.2.2.2 C.2.2.2 ⟨by decide, by decide⟩) (x_rc C hX wg_6 rfl) rfl hl.1 rfl (lv_room (Nat.le_of_ble_eq_true rfl)) d_SE_pass_81 ⟨Nat.le_refl _, Nat.le_refl _⟩ (fun H locs hX => ?_)
        exact w_SE_pass_84 C hQ r1 s2 H locs ls hX (lv_sub hl [1, 0] rfl) h
      · have h := ite_f c54 h
        refine lv_aload_n hx hb d_SE_pass_57 rfl (lv_at hl 1 rfl) ?_
        refine lv_dup hx hb d_SE_pass_58 rfl ?_
        refine gf_6_depth C hX fl_SE_43 d_SE_pass_59 ?_
        refine lv_iconst (v := 1) hx hb d_SE_pass_62 (by decide) ?_
        obtain ⟨v3, ev3, h⟩ := lt1_e h
        refine x_isub hx hb d_SE_pass_63 ev3 ?_
        obtain ⟨s4, es4, h⟩ := lt1_e h
        refine pf_6_depth C hX fl_SE_43 d_SE_pass_64 (fun H locs hX => ?_)
        rw [← es4] at hX
        refine lv_aload_n hx hb d_SE_pass_67 rfl (lv_at hl 1 rfl) ?_
        refine lv_dup hx hb d_SE_pass_68 rfl ?_
        refine gf_6_next_s C hX fl_SE_60 d_SE_pass_69 ?_
        refine lv_iconst (v := 1) hx hb d_SE_pass_72 (by decide) ?_
        obtain ⟨v5, ev5, h⟩ := lt1_e h
        refine x_iadd hx hb d_SE_pass_73 ev5 ?_
        obtain ⟨s6, es6, h⟩ := lt1_e h
        refine pf_6_next_s C hX fl_SE_60 d_SE_pass_74 (fun H locs hX => ?_)
        rw [← es6] at hX
        refine lv_goto (tgt := 84) hx hb d_SE_pass_77 (by decide) ?_
        exact w_SE_pass_84 C hQ r1 s6 H locs ls hX (lv_sub hl [1, 0] rfl) h
    · have h := ite_f c45 h
      refine lv_iconst (v := 0) hx hb d_SE_pass_48 (by decide) ?_
      obtain ⟨hz, h⟩ := bz_e h
      obtain rfl := so1 h
      exact hQ _ H locs ls hX hz d_SE_pass_49
  · have h := ite_t c18 h
    refine lv_aload_n hx hb d_SE_pass_21 rfl (lv_at hl 1 rfl) ?_
    refine lv_aload_n hx hb d_SE_pass_22 rfl (lv_at hl 1 rfl) ?_
    refine gf_6_contents C hX fl_SE_32 d_SE_pass_23 ?_
    refine gf_1_code C hX fl_SE_63 d_SE_pass_26 ?_
    refine lv_aload_n hx hb d_SE_pass_29 rfl (lv_at hl 1 rfl) ?_
    refine gf_6_next_s C hX fl_SE_60 d_SE_pass_30 ?_
    refine lv_iconst (v := 3) hx hb d_SE_pass_33 (by decide) ?_
    obtain ⟨r7, er7, h⟩ := lt1_e h
    refine x_vI (r := r7) (ws' := wX g s) (As := [.int (s 6 2), .int 3]) (rest := [.ref (g.q 6)]) C hX (by rw [er7]; exact cTabGet_20 l g s (s 6 2) 3) (cw_SE_53 C.1.2.2.2.2 C.2.2.2 ⟨by decide, by decide⟩) (x_rc C hX wg_20 rfl) rfl hl.1 rfl (lv_room (Nat.le_of_ble_eq_true rfl)) d_SE_pass_34 ⟨Nat.le_refl _, Nat.le_refl _⟩ (fun H locs hX => ?_)
    obtain ⟨s8, es8, h⟩ := lt1_e h
    refine pf_6_next_s C hX fl_SE_60 d_SE_pass_37 (fun H locs hX => ?_)
    rw [← es8] at hX
    refine lv_iconst (v := 1) hx hb d_SE_pass_40 (by decide) ?_
    obtain ⟨hz, h⟩ := bz_e h
    obtain rfl := so1 h
    exact hQ _ H locs ls hX hz d_SE_pass_41
end WALK
theorem c_SE_pass (l : Launch) (g : GX) (s : St) (z : Int32 × St) (h : f_SE_pass s = some z) : MI l g y_SE_pass b_SE_pass 2 (some .boolean) 3 65 [.ref (g.q 6)] (wX g s) z.1 (wX g z.2) :=
  MI.mkZ (own := R_SE) (by decide) rfl (Nat.le_of_ble_eq_true rfl) fun p e ss m below meth c A Q C hQ ls hX hl => w_SE_pass C hQ s _ _ ls hX hl h
-- Eng_open_S_35
def f_Eng_open_S_35_63 (k24 : Int32 → Int32 → Int32 → St → Option St) (x2 : Int32) (x3 : Int32) (x4 : Int32) (y1 : Int32) (y2 : Int32) (s : St) : Option St :=
    lt1 (rSet s 36 224 y1 y2) fun s1 =>
    lt1 (x4 + (1)) fun v2 =>
    k24 x2 x3 v2 s1
def f_Eng_open_S_35_24 : Nat → Int32 → Int32 → Int32 → St → Option St
  | 0, _, _, _, _ => none
  | n + 1, x2, x3, x4, s =>
    if 28 ≤ x4 then
      some s
    else
      lt1 (s 6 1 + x4) fun v1 =>
      if x3 ≤ x4 then
        f_Eng_open_S_35_63 (f_Eng_open_S_35_24 n) x2 x3 x4 v1 0 s
      else
        lt1 (x2 + x4) fun v2 =>
        lt1 (rGet 224 (s 36) v2) fun r3 =>
        f_Eng_open_S_35_63 (f_Eng_open_S_35_24 n) x2 x3 x4 v1 r3 s
def f_Eng_open_S_35 (x2 : Int32) (x3 : Int32) (s : St) : Option St :=
    lt1 (s 6 0 * 28) fun v1 =>
    lt1 (stp s 6 1 v1) fun s2 =>
    lt1 (s2 6 0 + 1) fun v3 =>
    lt1 (stp s2 6 0 v3) fun s4 =>
    f_Eng_open_S_35_24 FU x2 x3 0 s4
section WALK
variable {p : Program} {l : Launch} {e : Env} {ss : State} {m : MethodId} {args : Array Value} {below : List Frame} {meth : Method} {c : Code} {Q : State → Prop} {g : GX} {A : Nat → Prop}
set_option maxHeartbeats 4000000 in
set_option maxRecDepth 100000 in
theorem w_Eng_open_S_35_63 {z : St} (C : Cx g A p m c b_Eng_open 5 ss args R_Eng) (hQ : ∀ (pc : Nat) (H : Heap) (locs : List Loc) (ls : Array Slot), XW g A ss (wX g z) H locs → decode b_Eng_open pc = .ok (.return_, 1) → W p l e (rmX 1 22) ss m args below meth c H locs 0 0 Q (F0 m pc ls [])) (k24 : Int32 → Int32 → Int32 → St → Option St) (hk24 : ∀ (x2 : Int32) (x3 : Int32) (x4 : Int32) (s : St) (H : Heap) (locs : List Loc) (ls : Array Slot), XW g A ss (wX g s) H locs → lv_has ls 5 [(0, .ref (g.q 6)), (1, .ref (g.q 35)), (2, .int x2), (3, .int x3), (4, .int x4)] → k24 x2 x3 x4 s = some z → W p l e (rmX 1 22) ss m args below meth c H locs 0 0 Q (F0 m 24 ls [])) : ∀ (x2 : Int32) (x3 : Int32) (x4 : Int32) (y1 : Int32) (y2 : Int32) (s : St) (H : Heap) (locs : List Loc) (ls : Array Slot), XW g A ss (wX g s) H locs → lv_has ls 5 [(0, .ref (g.q 6)), (1, .ref (g.q 35)), (2, .int x2), (3, .int x3), (4, .int x4)] → f_Eng_open_S_35_63 k24 x2 x3 x4 y1 y2 s = some z → W p l e (rmX 1 22) ss m args below meth c H locs 0 0 Q (F0 m 63 ls [.int y2, .int y1, .ref (g.q 35)]) := by
  have ⟨⟨hx, hb, hml, hown, hts⟩, hK, hA, hN⟩ := C
  intro x2 x3 x4 y1 y2 s H locs ls hX hl h
  rw [f_Eng_open_S_35_63] at h
  obtain ⟨s1, es1, h⟩ := lt1_e h
  refine x_vV (ws' := wX g s1) (As := [.int y1, .int y2]) (rest := []) C hX (by rw [es1]; exact cRowSet_35 l g s y1 y2) (cw_Eng_73 C.1.2.2.2.2 C.2.2.2 ⟨by decide, by decide⟩) (x_rc C hX wg_35 rfl) rfl hl.1 rfl (lv_room (Nat.le_of_ble_eq_true rfl)) d_Eng_open_63 ⟨Nat.le_refl _, Nat.le_refl _⟩ (fun H locs hX => ?_)
  obtain ⟨v2, ev2, h⟩ := lt1_e h
  refine lv_iinc (v := v2) (lv' := [(4, .int v2), (0, .ref (g.q 6)), (1, .ref (g.q 35)), (2, .int x2), (3, .int x3)]) hx hb d_Eng_open_66 hl (k := 4) rfl (by rw [ev2]; rfl) (by decide) rfl (fun ls hl => ?_)
  refine lv_goto (tgt := 24) hx hb d_Eng_open_69 (by decide) ?_
  exact hk24 x2 x3 v2 s1 H locs ls hX (lv_sub hl [1, 2, 3, 4, 0] rfl) h
set_option maxHeartbeats 4000000 in
set_option maxRecDepth 100000 in
theorem w_Eng_open_S_35_24 {z : St} (C : Cx g A p m c b_Eng_open 5 ss args R_Eng) (hQ : ∀ (pc : Nat) (H : Heap) (locs : List Loc) (ls : Array Slot), XW g A ss (wX g z) H locs → decode b_Eng_open pc = .ok (.return_, 1) → W p l e (rmX 1 22) ss m args below meth c H locs 0 0 Q (F0 m pc ls [])) (n : Nat) : ∀ (x2 : Int32) (x3 : Int32) (x4 : Int32) (s : St) (H : Heap) (locs : List Loc) (ls : Array Slot), XW g A ss (wX g s) H locs → lv_has ls 5 [(0, .ref (g.q 6)), (1, .ref (g.q 35)), (2, .int x2), (3, .int x3), (4, .int x4)] → f_Eng_open_S_35_24 n x2 x3 x4 s = some z → W p l e (rmX 1 22) ss m args below meth c H locs 0 0 Q (F0 m 24 ls []) := by
  have ⟨⟨hx, hb, hml, hown, hts⟩, hK, hA, hN⟩ := C
  induction n with
  | zero => intro x2 x3 x4 s H locs ls hX hl h; cases h
  | succ n ih =>
    intro x2 x3 x4 s H locs ls hX hl h
    rw [f_Eng_open_S_35_24] at h
    refine lv_iload hx hb d_Eng_open_24 (lv_at hl 4 rfl) ?_
    refine lv_bipush (v := 28) hx hb d_Eng_open_26 (by decide) ?_
    refine lv_icmp_ge (tgt := 72) hx hb d_Eng_open_28 (by decide) (fun c28 => ?_) (fun c28 => ?_)
    · have h := ite_t c28 h
      obtain rfl := so1 h
      exact hQ _ H locs ls hX d_Eng_open_72
    · have h := ite_f c28 h
      refine lv_aload_n hx hb d_Eng_open_31 rfl (lv_at hl 0 rfl) ?_
      refine gf_6_store C hX fl_Eng_23 d_Eng_open_32 ?_
      refine gf_5_cells C hX fl_Eng_64 d_Eng_open_35 ?_
      refine lv_aload_n hx hb d_Eng_open_38 rfl (lv_at hl 0 rfl) ?_
      refine gf_6_base C hX fl_Eng_61 d_Eng_open_39 ?_
      refine lv_iload hx hb d_Eng_open_42 (lv_at hl 4 rfl) ?_
      obtain ⟨v1, ev1, h⟩ := lt1_e h
      refine x_iadd hx hb d_Eng_open_44 ev1 ?_
      refine lv_iload hx hb d_Eng_open_45 (lv_at hl 4 rfl) ?_
      refine lv_iload_n hx hb d_Eng_open_47 rfl (lv_at hl 3 rfl) ?_
      refine lv_icmp_ge (tgt := 62) hx hb d_Eng_open_48 (by decide) (fun c48 => ?_) (fun c48 => ?_)
      · have h := ite_t c48 h
        refine lv_iconst (v := 0) hx hb d_Eng_open_62 (by decide) ?_
        exact w_Eng_open_S_35_63 C hQ (f_Eng_open_S_35_24 n) ih x2 x3 x4 v1 0 s H locs ls hX hl h
      · have h := ite_f c48 h
        refine lv_aload_n hx hb d_Eng_open_51 rfl (lv_at hl 1 rfl) ?_
        refine lv_iload_n hx hb d_Eng_open_52 rfl (lv_at hl 2 rfl) ?_
        refine lv_iload hx hb d_Eng_open_53 (lv_at hl 4 rfl) ?_
        obtain ⟨v2, ev2, h⟩ := lt1_e h
        refine x_iadd hx hb d_Eng_open_55 ev2 ?_
        obtain ⟨r3, er3, h⟩ := lt1_e h
        refine x_vI (r := r3) (ws' := wX g s) (As := [.int v2]) (rest := [.int v1, .ref (g.q 35)]) C hX (by rw [er3]; exact cRowGet_35 l g s v2) (cw_Eng_69 C.1.2.2.2.2 C.2.2.2 ⟨by decide, by decide⟩) (x_rc C hX wg_35 rfl) rfl hl.1 rfl (lv_room (Nat.le_of_ble_eq_true rfl)) d_Eng_open_56 ⟨Nat.le_refl _, Nat.le_refl _⟩ (fun H locs hX => ?_)
        refine lv_goto (tgt := 63) hx hb d_Eng_open_59 (by decide) ?_
        exact w_Eng_open_S_35_63 C hQ (f_Eng_open_S_35_24 n) ih x2 x3 x4 v1 r3 s H locs ls hX hl h
set_option maxHeartbeats 4000000 in
set_option maxRecDepth 100000 in
theorem w_Eng_open_S_35 {z : St} (C : Cx g A p m c b_Eng_open 5 ss args R_Eng) (hQ : ∀ (pc : Nat) (H : Heap) (locs : List Loc) (ls : Array Slot), XW g A ss (wX g z) H locs → decode b_Eng_open pc = .ok (.return_, 1) → W p l e (rmX 1 22) ss m args below meth c H locs 0 0 Q (F0 m pc ls [])) : ∀ (x2 : Int32) (x3 : Int32) (s : St) (H : Heap) (locs : List Loc) (ls : Array Slot), XW g A ss (wX g s) H locs → lv_has ls 5 [(0, .ref (g.q 6)), (1, .ref (g.q 35)), (2, .int x2), (3, .int x3)] → f_Eng_open_S_35 x2 x3 s = some z → W p l e (rmX 1 22) ss m args below meth c H locs 0 0 Q (F0 m 0 ls []) := by
  have ⟨⟨hx, hb, hml, hown, hts⟩, hK, hA, hN⟩ := C
  intro x2 x3 s H locs ls hX hl h
  rw [f_Eng_open_S_35] at h
  refine lv_aload_n hx hb d_Eng_open_0 rfl (lv_at hl 0 rfl) ?_
  refine lv_aload_n hx hb d_Eng_open_1 rfl (lv_at hl 0 rfl) ?_
  refine gf_6_calls C hX fl_Eng_34 d_Eng_open_2 ?_
  refine lv_bipush (v := 28) hx hb d_Eng_open_5 (by decide) ?_
  obtain ⟨v1, ev1, h⟩ := lt1_e h
  refine x_imul hx hb d_Eng_open_7 ev1 ?_
  obtain ⟨s2, es2, h⟩ := lt1_e h
  refine pf_6_base C hX fl_Eng_61 d_Eng_open_8 (fun H locs hX => ?_)
  rw [← es2] at hX
  refine lv_aload_n hx hb d_Eng_open_11 rfl (lv_at hl 0 rfl) ?_
  refine lv_dup hx hb d_Eng_open_12 rfl ?_
  refine gf_6_calls C hX fl_Eng_34 d_Eng_open_13 ?_
  refine lv_iconst (v := 1) hx hb d_Eng_open_16 (by decide) ?_
  obtain ⟨v3, ev3, h⟩ := lt1_e h
  refine x_iadd hx hb d_Eng_open_17 ev3 ?_
  obtain ⟨s4, es4, h⟩ := lt1_e h
  refine pf_6_calls C hX fl_Eng_34 d_Eng_open_18 (fun H locs hX => ?_)
  rw [← es4] at hX
  refine lv_iconst (v := 0) hx hb d_Eng_open_21 (by decide) ?_
  refine lv_istore (lv' := [(4, .int 0), (0, .ref (g.q 6)), (1, .ref (g.q 35)), (2, .int x2), (3, .int x3)]) hx hb d_Eng_open_22 hl (by decide) rfl (fun ls hl => ?_)
  exact w_Eng_open_S_35_24 C hQ FU x2 x3 0 s4 H locs ls hX (lv_sub hl [1, 2, 3, 4, 0] rfl) h
end WALK
theorem c_Eng_open_S_35 (l : Launch) (g : GX) (x2 : Int32) (x3 : Int32) (s : St) (z : St) (h : f_Eng_open_S_35 x2 x3 s = some z) : MV l g y_Eng_open b_Eng_open 5 none 1 22 [.ref (g.q 6), .ref (g.q 35), .int x2, .int x3] (wX g s) (wX g z) :=
  MV.mk (own := R_Eng) (by decide) rfl (Nat.le_of_ble_eq_true rfl) fun p e ss m below meth c A Q C hQ ls hX hl => w_Eng_open_S_35 C hQ x2 x3 s _ _ ls hX hl h
-- Eng_openFrom_S
def f_Eng_openFrom_S (x1 : Int32) (x2 : Int32) (s : St) : Option (Int32 × St) :=
    if s 6 0 < 8 then
      lt1 (s 6 2 + 1) fun v1 =>
      lt1 (rSet s 40 8 (s 6 0) v1) fun s2 =>
      lt1 (x1 - x2) fun v3 =>
      lt1 (rSet s2 42 8 (s2 6 0) v3) fun s4 =>
      lt1 (x1 - x2) fun v5 =>
      bd1 (f_Eng_open_S_35 v5 x2 s4) fun s6 =>
      bz 1 <|
      some (1, s6)
    else
      lt1 (stp s 6 3 6) fun s7 =>
      bz 0 <|
      some (0, s7)
section WALK
variable {p : Program} {l : Launch} {e : Env} {ss : State} {m : MethodId} {args : Array Value} {below : List Frame} {meth : Method} {c : Code} {Q : State → Prop} {g : GX} {A : Nat → Prop}
set_option maxHeartbeats 4000000 in
set_option maxRecDepth 100000 in
theorem w_Eng_openFrom_S {z : Int32 × St} (C : Cx g A p m c b_Eng_openFrom 3 ss args R_Eng) (hQ : ∀ (pc : Nat) (H : Heap) (locs : List Loc) (ls : Array Slot), XW g A ss (wX g z.2) H locs → (z.1 = 0 ∨ z.1 = 1) → decode b_Eng_openFrom pc = .ok (.ireturn, 1) → W p l e (rmX 2 46) ss m args below meth c H locs 0 0 Q (F0 m pc ls [.int z.1])) : ∀ (x1 : Int32) (x2 : Int32) (s : St) (H : Heap) (locs : List Loc) (ls : Array Slot), XW g A ss (wX g s) H locs → lv_has ls 3 [(0, .ref (g.q 6)), (1, .int x1), (2, .int x2)] → f_Eng_openFrom_S x1 x2 s = some z → W p l e (rmX 2 46) ss m args below meth c H locs 0 0 Q (F0 m 0 ls []) := by
  have ⟨⟨hx, hb, hml, hown, hts⟩, hK, hA, hN⟩ := C
  intro x1 x2 s H locs ls hX hl h
  rw [f_Eng_openFrom_S] at h
  refine lv_aload_n hx hb d_Eng_openFrom_0 rfl (lv_at hl 0 rfl) ?_
  refine gf_6_calls C hX fl_Eng_34 d_Eng_openFrom_1 ?_
  refine lv_bipush (v := 8) hx hb d_Eng_openFrom_4 (by decide) ?_
  refine lv_icmp_lt (tgt := 17) hx hb d_Eng_openFrom_6 (by decide) (fun c6 => ?_) (fun c6 => ?_)
  · have h := ite_t c6 h
    refine lv_aload_n hx hb d_Eng_openFrom_17 rfl (lv_at hl 0 rfl) ?_
    refine gf_6_nexts C hX fl_Eng_14 d_Eng_openFrom_18 ?_
    refine lv_aload_n hx hb d_Eng_openFrom_21 rfl (lv_at hl 0 rfl) ?_
    refine gf_6_calls C hX fl_Eng_34 d_Eng_openFrom_22 ?_
    refine lv_aload_n hx hb d_Eng_openFrom_25 rfl (lv_at hl 0 rfl) ?_
    refine gf_6_next C hX fl_Eng_77 d_Eng_openFrom_26 ?_
    refine lv_iconst (v := 1) hx hb d_Eng_openFrom_29 (by decide) ?_
    obtain ⟨v1, ev1, h⟩ := lt1_e h
    refine x_iadd hx hb d_Eng_openFrom_30 ev1 ?_
    obtain ⟨s2, es2, h⟩ := lt1_e h
    refine x_vV (ws' := wX g s2) (As := [.int (s 6 0), .int v1]) (rest := []) C hX (by rw [es2]; exact cRowSet_39 l g s (s 6 0) v1) (cw_Eng_73 C.1.2.2.2.2 C.2.2.2 ⟨by decide, by decide⟩) (x_rc C hX wg_39 rfl) rfl hl.1 rfl (lv_room (Nat.le_of_ble_eq_true rfl)) d_Eng_openFrom_31 ⟨Nat.le_refl _, Nat.le_refl _⟩ (fun H locs hX => ?_)
    refine lv_aload_n hx hb d_Eng_openFrom_34 rfl (lv_at hl 0 rfl) ?_
    refine gf_6_tops C hX fl_Eng_20 d_Eng_openFrom_35 ?_
    refine lv_aload_n hx hb d_Eng_openFrom_38 rfl (lv_at hl 0 rfl) ?_
    refine gf_6_calls C hX fl_Eng_34 d_Eng_openFrom_39 ?_
    refine lv_iload_n hx hb d_Eng_openFrom_42 rfl (lv_at hl 1 rfl) ?_
    refine lv_iload_n hx hb d_Eng_openFrom_43 rfl (lv_at hl 2 rfl) ?_
    obtain ⟨v3, ev3, h⟩ := lt1_e h
    refine x_isub hx hb d_Eng_openFrom_44 ev3 ?_
    obtain ⟨s4, es4, h⟩ := lt1_e h
    refine x_vV (ws' := wX g s4) (As := [.int (s2 6 0), .int v3]) (rest := []) C hX (by rw [es4]; exact cRowSet_41 l g s2 (s2 6 0) v3) (cw_Eng_73 C.1.2.2.2.2 C.2.2.2 ⟨by decide, by decide⟩) (x_rc C hX wg_41 rfl) rfl hl.1 rfl (lv_room (Nat.le_of_ble_eq_true rfl)) d_Eng_openFrom_45 ⟨Nat.le_refl _, Nat.le_refl _⟩ (fun H locs hX => ?_)
    refine lv_aload_n hx hb d_Eng_openFrom_48 rfl (lv_at hl 0 rfl) ?_
    refine lv_aload_n hx hb d_Eng_openFrom_49 rfl (lv_at hl 0 rfl) ?_
    refine gf_6_store C hX fl_Eng_23 d_Eng_openFrom_50 ?_
    refine gf_5_cells C hX fl_Eng_64 d_Eng_openFrom_53 ?_
    refine lv_iload_n hx hb d_Eng_openFrom_56 rfl (lv_at hl 1 rfl) ?_
    refine lv_iload_n hx hb d_Eng_openFrom_57 rfl (lv_at hl 2 rfl) ?_
    obtain ⟨v5, ev5, h⟩ := lt1_e h
    refine x_isub hx hb d_Eng_openFrom_58 ev5 ?_
    refine lv_iload_n hx hb d_Eng_openFrom_59 rfl (lv_at hl 2 rfl) ?_
    obtain ⟨s6, hc60, h⟩ := bd1_e h
    refine x_vV (As := [.ref (g.q 35), .int v5, .int x2]) (rest := []) C hX (c_Eng_open_S_35 l g v5 x2 s4 s6 hc60) (cw_Eng_37_S C.1.2.2.2.2 C.2.2.2 ⟨by decide, by decide⟩) (x_rc C hX wg_6 rfl) rfl hl.1 rfl (lv_room (Nat.le_of_ble_eq_true rfl)) d_Eng_openFrom_60 ⟨Nat.le_refl _, Nat.le_refl _⟩ (fun H locs hX => ?_)
    refine lv_iconst (v := 1) hx hb d_Eng_openFrom_63 (by decide) ?_
    obtain ⟨hz, h⟩ := bz_e h
    obtain rfl := so1 h
    exact hQ _ H locs ls hX hz d_Eng_openFrom_64
  · have h := ite_f c6 h
    refine lv_aload_n hx hb d_Eng_openFrom_9 rfl (lv_at hl 0 rfl) ?_
    refine lv_bipush (v := 6) hx hb d_Eng_openFrom_10 (by decide) ?_
    obtain ⟨s7, es7, h⟩ := lt1_e h
    refine pf_6_outcome C hX fl_Eng_27 d_Eng_openFrom_12 (fun H locs hX => ?_)
    rw [← es7] at hX
    refine lv_iconst (v := 0) hx hb d_Eng_openFrom_15 (by decide) ?_
    obtain ⟨hz, h⟩ := bz_e h
    obtain rfl := so1 h
    exact hQ _ H locs ls hX hz d_Eng_openFrom_16
end WALK
theorem c_Eng_openFrom_S (l : Launch) (g : GX) (x1 : Int32) (x2 : Int32) (s : St) (z : Int32 × St) (h : f_Eng_openFrom_S x1 x2 s = some z) : MI l g y_Eng_openFrom b_Eng_openFrom 3 (some .boolean) 2 46 [.ref (g.q 6), .int x1, .int x2] (wX g s) z.1 (wX g z.2) :=
  MI.mkZ (own := R_Eng) (by decide) rfl (Nat.le_of_ble_eq_true rfl) fun p e ss m below meth c A Q C hQ ls hX hl => w_Eng_openFrom_S C hQ x1 x2 s _ _ ls hX hl h
-- SE_call
def f_SE_call_41 (x1 : Int32) (s : St) : Option St :=
    some s
def f_SE_call (x1 : Int32) (s : St) : Option St :=
    lt1 (s 6 0 - 1) fun v1 =>
    lt1 (rSet s 52 8 v1 (s 6 5)) fun s2 =>
    bd1 (f_Cont_parametersOf s2 x1) fun r3 =>
    bd (f_Eng_openFrom_S (s2 6 6) r3 s2) fun r5 s4 =>
    if r5 = 0 then
      f_SE_call_41 x1 s4
    else
      bd1 (f_SE_enter x1 s4) fun s6 =>
      f_SE_call_41 x1 s6
section WALK
variable {p : Program} {l : Launch} {e : Env} {ss : State} {m : MethodId} {args : Array Value} {below : List Frame} {meth : Method} {c : Code} {Q : State → Prop} {g : GX} {A : Nat → Prop}
set_option maxHeartbeats 4000000 in
set_option maxRecDepth 100000 in
theorem w_SE_call_41 {z : St} (C : Cx g A p m c b_SE_call 2 ss args R_SE) (hQ : ∀ (pc : Nat) (H : Heap) (locs : List Loc) (ls : Array Slot), XW g A ss (wX g z) H locs → decode b_SE_call pc = .ok (.return_, 1) → W p l e (rmX 3 68) ss m args below meth c H locs 0 0 Q (F0 m pc ls [])) : ∀ (x1 : Int32) (s : St) (H : Heap) (locs : List Loc) (ls : Array Slot), XW g A ss (wX g s) H locs → lv_has ls 2 [(0, .ref (g.q 6)), (1, .int x1)] → f_SE_call_41 x1 s = some z → W p l e (rmX 3 68) ss m args below meth c H locs 0 0 Q (F0 m 41 ls []) := by
  have ⟨⟨hx, hb, hml, hown, hts⟩, hK, hA, hN⟩ := C
  intro x1 s H locs ls hX hl h
  rw [f_SE_call_41] at h
  obtain rfl := so1 h
  exact hQ _ H locs ls hX d_SE_call_41
set_option maxHeartbeats 4000000 in
set_option maxRecDepth 100000 in
theorem w_SE_call {z : St} (C : Cx g A p m c b_SE_call 2 ss args R_SE) (hQ : ∀ (pc : Nat) (H : Heap) (locs : List Loc) (ls : Array Slot), XW g A ss (wX g z) H locs → decode b_SE_call pc = .ok (.return_, 1) → W p l e (rmX 3 68) ss m args below meth c H locs 0 0 Q (F0 m pc ls [])) : ∀ (x1 : Int32) (s : St) (H : Heap) (locs : List Loc) (ls : Array Slot), XW g A ss (wX g s) H locs → lv_has ls 2 [(0, .ref (g.q 6)), (1, .int x1)] → f_SE_call x1 s = some z → W p l e (rmX 3 68) ss m args below meth c H locs 0 0 Q (F0 m 0 ls []) := by
  have ⟨⟨hx, hb, hml, hown, hts⟩, hK, hA, hN⟩ := C
  intro x1 s H locs ls hX hl h
  rw [f_SE_call] at h
  refine lv_aload_n hx hb d_SE_call_0 rfl (lv_at hl 0 rfl) ?_
  refine gf_6_depths C hX fl_SE_29 d_SE_call_1 ?_
  refine lv_aload_n hx hb d_SE_call_4 rfl (lv_at hl 0 rfl) ?_
  refine gf_6_calls_s C hX fl_SE_36 d_SE_call_5 ?_
  refine lv_iconst (v := 1) hx hb d_SE_call_8 (by decide) ?_
  obtain ⟨v1, ev1, h⟩ := lt1_e h
  refine x_isub hx hb d_SE_call_9 ev1 ?_
  refine lv_aload_n hx hb d_SE_call_10 rfl (lv_at hl 0 rfl) ?_
  refine gf_6_depth C hX fl_SE_43 d_SE_call_11 ?_
  obtain ⟨s2, es2, h⟩ := lt1_e h
  refine x_vV (ws' := wX g s2) (As := [.int v1, .int (s 6 5)]) (rest := []) C hX (by rw [es2]; exact cRowSet_51 l g s v1 (s 6 5)) (cw_SE_40 C.1.2.2.2.2 C.2.2.2 ⟨by decide, by decide⟩) (x_rc C hX wg_51 rfl) rfl hl.1 rfl (lv_room (Nat.le_of_ble_eq_true rfl)) d_SE_call_14 ⟨Nat.le_refl _, Nat.le_refl _⟩ (fun H locs hX => ?_)
  refine lv_aload_n hx hb d_SE_call_17 rfl (lv_at hl 0 rfl) ?_
  refine lv_aload_n hx hb d_SE_call_18 rfl (lv_at hl 0 rfl) ?_
  refine gf_6_top C hX fl_SE_57 d_SE_call_19 ?_
  refine lv_aload_n hx hb d_SE_call_22 rfl (lv_at hl 0 rfl) ?_
  refine gf_6_contents C hX fl_SE_32 d_SE_call_23 ?_
  refine lv_iload_n hx hb d_SE_call_26 rfl (lv_at hl 1 rfl) ?_
  obtain ⟨r3, hc27, h⟩ := bd1_e h
  refine x_vI (As := [.int x1]) (rest := [.int (s2 6 6), .ref (g.q 6)]) C hX (c_Cont_parametersOf l g x1 s2 r3 hc27) (cw_SE_132 C.1.2.2.2.2 C.2.2.2 ⟨by decide, by decide⟩) (x_rc C hX wg_1 rfl) rfl hl.1 rfl (lv_room (Nat.le_of_ble_eq_true rfl)) d_SE_call_27 ⟨Nat.le_refl _, Nat.le_refl _⟩ (fun H locs hX => ?_)
  obtain ⟨r5, s4, hc30, h⟩ := bd_e h
  refine x_uI (As := [.int (s2 6 6), .int r3]) (rest := []) C hX (c_Eng_openFrom_S l g (s2 6 6) r3 s2 (r5, s4) hc30) (cw_SE_135_S C.1.2.2.2.2 C.2.2.2 ⟨by decide, by decide⟩) (x_rc C hX wg_6 rfl) rfl hl.1 rfl (lv_room (Nat.le_of_ble_eq_true rfl)) d_SE_call_30 ⟨Nat.le_refl _, Nat.le_refl _⟩ (fun H locs hX => ?_)
  refine lv_if_eq (tgt := 41) hx hb d_SE_call_33 (by decide) (fun c33 => ?_) (fun c33 => ?_)
  · have h := ite_t c33 h
    exact w_SE_call_41 C hQ x1 s4 H locs ls hX hl h
  · have h := ite_f c33 h
    refine lv_aload_n hx hb d_SE_call_36 rfl (lv_at hl 0 rfl) ?_
    refine lv_iload_n hx hb d_SE_call_37 rfl (lv_at hl 1 rfl) ?_
    obtain ⟨s6, hc38, h⟩ := bd1_e h
    refine x_vV (As := [.int x1]) (rest := []) C hX (c_SE_enter l g x1 s4 s6 hc38) (cw_SE_139_S C.1.2.2.2.2 C.2.2.2 ⟨by decide, by decide⟩) (x_rc C hX wg_6 rfl) rfl hl.1 rfl (lv_room (Nat.le_of_ble_eq_true rfl)) d_SE_call_38 ⟨Nat.le_refl _, Nat.le_refl _⟩ (fun H locs hX => ?_)
    exact w_SE_call_41 C hQ x1 s6 H locs ls hX hl h
end WALK
theorem c_SE_call (l : Launch) (g : GX) (x1 : Int32) (s : St) (z : St) (h : f_SE_call x1 s = some z) : MV l g y_SE_call b_SE_call 2 none 3 68 [.ref (g.q 6), .int x1] (wX g s) (wX g z) :=
  MV.mk (own := R_SE) (by decide) rfl (Nat.le_of_ble_eq_true rfl) fun p e ss m below meth c A Q C hQ ls hX hl => w_SE_call C hQ x1 s _ _ ls hX hl h
-- SE_pop
def f_SE_pop (s : St) : Option (Int32 × St) :=
    lt1 (s 6 6 - 1) fun v1 =>
    lt1 (stp s 6 6 v1) fun s2 =>
    lt1 (rGet 224 (s2 36) (s2 6 6)) fun r3 =>
    some (r3, s2)
section WALK
variable {p : Program} {l : Launch} {e : Env} {ss : State} {m : MethodId} {args : Array Value} {below : List Frame} {meth : Method} {c : Code} {Q : State → Prop} {g : GX} {A : Nat → Prop}
set_option maxHeartbeats 4000000 in
set_option maxRecDepth 100000 in
theorem w_SE_pop {z : Int32 × St} (C : Cx g A p m c b_SE_pop 1 ss args R_SE) (hQ : ∀ (pc : Nat) (H : Heap) (locs : List Loc) (ls : Array Slot), XW g A ss (wX g z.2) H locs → decode b_SE_pop pc = .ok (.ireturn, 1) → W p l e (rmX 1 21) ss m args below meth c H locs 0 0 Q (F0 m pc ls [.int z.1])) : ∀ (s : St) (H : Heap) (locs : List Loc) (ls : Array Slot), XW g A ss (wX g s) H locs → lv_has ls 1 [(0, .ref (g.q 6))] → f_SE_pop s = some z → W p l e (rmX 1 21) ss m args below meth c H locs 0 0 Q (F0 m 0 ls []) := by
  have ⟨⟨hx, hb, hml, hown, hts⟩, hK, hA, hN⟩ := C
  intro s H locs ls hX hl h
  rw [f_SE_pop] at h
  refine lv_aload_n hx hb d_SE_pop_0 rfl (lv_at hl 0 rfl) ?_
  refine lv_dup hx hb d_SE_pop_1 rfl ?_
  refine gf_6_top C hX fl_SE_57 d_SE_pop_2 ?_
  refine lv_iconst (v := 1) hx hb d_SE_pop_5 (by decide) ?_
  obtain ⟨v1, ev1, h⟩ := lt1_e h
  refine x_isub hx hb d_SE_pop_6 ev1 ?_
  obtain ⟨s2, es2, h⟩ := lt1_e h
  refine pf_6_top C hX fl_SE_57 d_SE_pop_7 (fun H locs hX => ?_)
  rw [← es2] at hX
  refine lv_aload_n hx hb d_SE_pop_10 rfl (lv_at hl 0 rfl) ?_
  refine gf_6_store_s C hX fl_SE_79 d_SE_pop_11 ?_
  refine gf_5_cells C hX fl_SE_118 d_SE_pop_14 ?_
  refine lv_aload_n hx hb d_SE_pop_17 rfl (lv_at hl 0 rfl) ?_
  refine gf_6_top C hX fl_SE_57 d_SE_pop_18 ?_
  obtain ⟨r3, er3, h⟩ := lt1_e h
  refine x_vI (r := r3) (ws' := wX g s2) (As := [.int (s2 6 6)]) (rest := []) C hX (by rw [er3]; exact cRowGet_35 l g s2 (s2 6 6)) (cw_SE_121 C.1.2.2.2.2 C.2.2.2 ⟨by decide, by decide⟩) (x_rc C hX wg_35 rfl) rfl hl.1 rfl (lv_room (Nat.le_of_ble_eq_true rfl)) d_SE_pop_21 ⟨Nat.le_refl _, Nat.le_refl _⟩ (fun H locs hX => ?_)
  obtain rfl := so1 h
  exact hQ _ H locs ls hX d_SE_pop_24
end WALK
theorem c_SE_pop (l : Launch) (g : GX) (s : St) (z : Int32 × St) (h : f_SE_pop s = some z) : MI l g y_SE_pop b_SE_pop 1 (some .int) 1 21 [.ref (g.q 6)] (wX g s) z.1 (wX g z.2) :=
  MI.mk (own := R_SE) (by decide) rfl (Nat.le_of_ble_eq_true rfl) fun p e ss m below meth c A Q C hQ ls hX hl => w_SE_pop C hQ s _ _ ls hX hl h
-- SE_branch
def f_SE_branch_169 (x1 : Int32) (x2 : Int32) (x3 : Int32) (x4 : Int32) (x5 : Int32) (x6 : Int32) (x7 : Int32) (y1 : Int32) (s : St) : Option St :=
    lt1 (stp s 6 2 y1) fun s1 =>
    some s1
def f_SE_branch_142 (x1 : Int32) (x2 : Int32) (x3 : Int32) (x4 : Int32) (x5 : Int32) (x6 : Int32) (x7 : Int32) (y1 : Int32) (s : St) : Option St :=
    lt1 (stp s 6 5 y1) fun s1 =>
    if x7 = 0 then
      bd1 (f_Cont_endOf s1 x4) fun r2 =>
      lt1 (r2 + 1) fun v3 =>
      f_SE_branch_169 x1 x2 x3 x4 x5 x6 x7 v3 s1
    else
      lt1 (x4 + 1) fun v4 =>
      f_SE_branch_169 x1 x2 x3 x4 x5 x6 x7 v4 s1
def f_SE_branch_127 (x1 : Int32) (x2 : Int32) (x3 : Int32) (x4 : Int32) (x5 : Int32) (x6 : Int32) (y0 : Int32) (s : St) : Option St :=
    if y0 = 0 then
      f_SE_branch_142 x1 x2 x3 x4 x5 x6 y0 x2 s
    else
      lt1 (x2 + 1) fun v1 =>
      f_SE_branch_142 x1 x2 x3 x4 x5 x6 y0 v1 s
def f_SE_branch_96 (x1 : Int32) (x2 : Int32) (x3 : Int32) (x4 : Int32) (x5 : Int32) (x6 : Int32) (s : St) : Option St :=
    lt1 (x5 + x6) fun v1 =>
    lt1 (stp s 6 6 v1) fun s2 =>
    lt1 (tGet 240 7 (s2 21) x4 0) fun r3 =>
    if r3 = 3 then
      f_SE_branch_127 x1 x2 x3 x4 x5 x6 1 s2
    else
      f_SE_branch_127 x1 x2 x3 x4 x5 x6 0 s2
def f_SE_branch (x1 : Int32) (s : St) : Option St :=
    lt1 (s 6 5 - 1) fun v1 =>
    lt1 (v1 - x1) fun v2 =>
    if 0 ≤ v2 then
      lt1 (s 6 0 - 1) fun v3 =>
      lt1 (v3 * 10) fun v4 =>
      lt1 (v4 + v2) fun v5 =>
      lt1 (tGet 80 2 (s 48) v5 0) fun r6 =>
      lt1 (tGet 80 2 (s 48) v5 1) fun r7 =>
      bd1 (f_Cont_labelResults s r6) fun r8 =>
      if r8 ≤ 0 then
        f_SE_branch_96 x1 v2 v5 r6 r7 r8 s
      else
        lt1 (s 6 6 - 1) fun v9 =>
        lt1 (rGet 224 (s 36) v9) fun r10 =>
        lt1 (rSet s 36 224 r7 r10) fun s11 =>
        f_SE_branch_96 x1 v2 v5 r6 r7 r8 s11
    else
      bd1 (f_SE_leave s) fun s12 =>
      some s12
section WALK
variable {p : Program} {l : Launch} {e : Env} {ss : State} {m : MethodId} {args : Array Value} {below : List Frame} {meth : Method} {c : Code} {Q : State → Prop} {g : GX} {A : Nat → Prop}
set_option maxHeartbeats 4000000 in
set_option maxRecDepth 100000 in
theorem w_SE_branch_169 {z : St} (C : Cx g A p m c b_SE_branch 8 ss args R_SE) (hQ : ∀ (pc : Nat) (H : Heap) (locs : List Loc) (ls : Array Slot), XW g A ss (wX g z) H locs → decode b_SE_branch pc = .ok (.return_, 1) → W p l e (rmX 3 65) ss m args below meth c H locs 0 0 Q (F0 m pc ls [])) : ∀ (x1 : Int32) (x2 : Int32) (x3 : Int32) (x4 : Int32) (x5 : Int32) (x6 : Int32) (x7 : Int32) (y1 : Int32) (s : St) (H : Heap) (locs : List Loc) (ls : Array Slot), XW g A ss (wX g s) H locs → lv_has ls 8 [(0, .ref (g.q 6)), (1, .int x1), (2, .int x2), (3, .int x3), (4, .int x4), (5, .int x5), (6, .int x6), (7, .int x7)] → f_SE_branch_169 x1 x2 x3 x4 x5 x6 x7 y1 s = some z → W p l e (rmX 3 65) ss m args below meth c H locs 0 0 Q (F0 m 169 ls [.int y1, .ref (g.q 6)]) := by
  have ⟨⟨hx, hb, hml, hown, hts⟩, hK, hA, hN⟩ := C
  intro x1 x2 x3 x4 x5 x6 x7 y1 s H locs ls hX hl h
  rw [f_SE_branch_169] at h
  obtain ⟨s1, es1, h⟩ := lt1_e h
  refine pf_6_next_s C hX fl_SE_60 d_SE_branch_169 (fun H locs hX => ?_)
  rw [← es1] at hX
  obtain rfl := so1 h
  exact hQ _ H locs ls hX d_SE_branch_172
set_option maxHeartbeats 4000000 in
set_option maxRecDepth 100000 in
theorem w_SE_branch_142 {z : St} (C : Cx g A p m c b_SE_branch 8 ss args R_SE) (hQ : ∀ (pc : Nat) (H : Heap) (locs : List Loc) (ls : Array Slot), XW g A ss (wX g z) H locs → decode b_SE_branch pc = .ok (.return_, 1) → W p l e (rmX 3 65) ss m args below meth c H locs 0 0 Q (F0 m pc ls [])) : ∀ (x1 : Int32) (x2 : Int32) (x3 : Int32) (x4 : Int32) (x5 : Int32) (x6 : Int32) (x7 : Int32) (y1 : Int32) (s : St) (H : Heap) (locs : List Loc) (ls : Array Slot), XW g A ss (wX g s) H locs → lv_has ls 8 [(0, .ref (g.q 6)), (1, .int x1), (2, .int x2), (3, .int x3), (4, .int x4), (5, .int x5), (6, .int x6), (7, .int x7)] → f_SE_branch_142 x1 x2 x3 x4 x5 x6 x7 y1 s = some z → W p l e (rmX 3 65) ss m args below meth c H locs 0 0 Q (F0 m 142 ls [.int y1, .ref (g.q 6)]) := by
  have ⟨⟨hx, hb, hml, hown, hts⟩, hK, hA, hN⟩ := C
  intro x1 x2 x3 x4 x5 x6 x7 y1 s H locs ls hX hl h
  rw [f_SE_branch_142] at h
  obtain ⟨s1, es1, h⟩ := lt1_e h
  refine pf_6_depth C hX fl_SE_43 d_SE_branch_142 (fun H locs hX => ?_)
  rw [← es1] at hX
  refine lv_aload_n hx hb d_SE_branch_145 rfl (lv_at hl 0 rfl) ?_
  refine lv_iload hx hb d_SE_branch_146 (lv_at hl 7 rfl) ?_
  refine lv_if_eq (tgt := 158) hx hb d_SE_branch_148 (by decide) (fun c148 => ?_) (fun c148 => ?_)
  · have h := ite_t c148 h
    refine lv_aload_n hx hb d_SE_branch_158 rfl (lv_at hl 0 rfl) ?_
    refine gf_6_contents C hX fl_SE_32 d_SE_branch_159 ?_
    refine lv_iload hx hb d_SE_branch_162 (lv_at hl 4 rfl) ?_
    obtain ⟨r2, hc164, h⟩ := bd1_e h
    refine x_vI (As := [.int x4]) (rest := [.ref (g.q 6)]) C hX (c_Cont_endOf l g x4 s1 r2 hc164) (cw_SE_129 C.1.2.2.2.2 C.2.2.2 ⟨by decide, by decide⟩) (x_rc C hX wg_1 rfl) rfl hl.1 rfl (lv_room (Nat.le_of_ble_eq_true rfl)) d_SE_branch_164 ⟨Nat.le_refl _, Nat.le_refl _⟩ (fun H locs hX => ?_)
    refine lv_iconst (v := 1) hx hb d_SE_branch_167 (by decide) ?_
    obtain ⟨v3, ev3, h⟩ := lt1_e h
    refine x_iadd hx hb d_SE_branch_168 ev3 ?_
    exact w_SE_branch_169 C hQ x1 x2 x3 x4 x5 x6 x7 v3 s1 H locs ls hX hl h
  · have h := ite_f c148 h
    refine lv_iload hx hb d_SE_branch_151 (lv_at hl 4 rfl) ?_
    refine lv_iconst (v := 1) hx hb d_SE_branch_153 (by decide) ?_
    obtain ⟨v4, ev4, h⟩ := lt1_e h
    refine x_iadd hx hb d_SE_branch_154 ev4 ?_
    refine lv_goto (tgt := 169) hx hb d_SE_branch_155 (by decide) ?_
    exact w_SE_branch_169 C hQ x1 x2 x3 x4 x5 x6 x7 v4 s1 H locs ls hX hl h
set_option maxHeartbeats 4000000 in
set_option maxRecDepth 100000 in
theorem w_SE_branch_127 {z : St} (C : Cx g A p m c b_SE_branch 8 ss args R_SE) (hQ : ∀ (pc : Nat) (H : Heap) (locs : List Loc) (ls : Array Slot), XW g A ss (wX g z) H locs → decode b_SE_branch pc = .ok (.return_, 1) → W p l e (rmX 3 65) ss m args below meth c H locs 0 0 Q (F0 m pc ls [])) : ∀ (x1 : Int32) (x2 : Int32) (x3 : Int32) (x4 : Int32) (x5 : Int32) (x6 : Int32) (y0 : Int32) (s : St) (H : Heap) (locs : List Loc) (ls : Array Slot), XW g A ss (wX g s) H locs → lv_has ls 8 [(0, .ref (g.q 6)), (1, .int x1), (2, .int x2), (3, .int x3), (4, .int x4), (5, .int x5), (6, .int x6)] → f_SE_branch_127 x1 x2 x3 x4 x5 x6 y0 s = some z → W p l e (rmX 3 65) ss m args below meth c H locs 0 0 Q (F0 m 127 ls [.int y0]) := by
  have ⟨⟨hx, hb, hml, hown, hts⟩, hK, hA, hN⟩ := C
  intro x1 x2 x3 x4 x5 x6 y0 s H locs ls hX hl h
  rw [f_SE_branch_127] at h
  refine lv_istore (lv' := [(7, .int y0), (0, .ref (g.q 6)), (1, .int x1), (2, .int x2), (3, .int x3), (4, .int x4), (5, .int x5), (6, .int x6)]) hx hb d_SE_branch_127 hl (by decide) rfl (fun ls hl => ?_)
  refine lv_aload_n hx hb d_SE_branch_129 rfl (lv_at hl 1 rfl) ?_
  refine lv_iload hx hb d_SE_branch_130 (lv_at hl 0 rfl) ?_
  refine lv_if_eq (tgt := 141) hx hb d_SE_branch_132 (by decide) (fun c132 => ?_) (fun c132 => ?_)
  · have h := ite_t c132 h
    refine lv_iload_n hx hb d_SE_branch_141 rfl (lv_at hl 3 rfl) ?_
    exact w_SE_branch_142 C hQ x1 x2 x3 x4 x5 x6 y0 x2 s H locs ls hX (lv_sub hl [1, 2, 3, 4, 5, 6, 7, 0] rfl) h
  · have h := ite_f c132 h
    refine lv_iload_n hx hb d_SE_branch_135 rfl (lv_at hl 3 rfl) ?_
    refine lv_iconst (v := 1) hx hb d_SE_branch_136 (by decide) ?_
    obtain ⟨v1, ev1, h⟩ := lt1_e h
    refine x_iadd hx hb d_SE_branch_137 ev1 ?_
    refine lv_goto (tgt := 142) hx hb d_SE_branch_138 (by decide) ?_
    exact w_SE_branch_142 C hQ x1 x2 x3 x4 x5 x6 y0 v1 s H locs ls hX (lv_sub hl [1, 2, 3, 4, 5, 6, 7, 0] rfl) h
set_option maxHeartbeats 4000000 in
set_option maxRecDepth 100000 in
theorem w_SE_branch_96 {z : St} (C : Cx g A p m c b_SE_branch 8 ss args R_SE) (hQ : ∀ (pc : Nat) (H : Heap) (locs : List Loc) (ls : Array Slot), XW g A ss (wX g z) H locs → decode b_SE_branch pc = .ok (.return_, 1) → W p l e (rmX 3 65) ss m args below meth c H locs 0 0 Q (F0 m pc ls [])) : ∀ (x1 : Int32) (x2 : Int32) (x3 : Int32) (x4 : Int32) (x5 : Int32) (x6 : Int32) (s : St) (H : Heap) (locs : List Loc) (ls : Array Slot), XW g A ss (wX g s) H locs → lv_has ls 8 [(0, .ref (g.q 6)), (1, .int x1), (2, .int x2), (3, .int x3), (4, .int x4), (5, .int x5), (6, .int x6)] → f_SE_branch_96 x1 x2 x3 x4 x5 x6 s = some z → W p l e (rmX 3 65) ss m args below meth c H locs 0 0 Q (F0 m 96 ls []) := by
  have ⟨⟨hx, hb, hml, hown, hts⟩, hK, hA, hN⟩ := C
  intro x1 x2 x3 x4 x5 x6 s H locs ls hX hl h
  rw [f_SE_branch_96] at h
  refine lv_aload_n hx hb d_SE_branch_96 rfl (lv_at hl 0 rfl) ?_
  refine lv_iload hx hb d_SE_branch_97 (lv_at hl 5 rfl) ?_
  refine lv_iload hx hb d_SE_branch_99 (lv_at hl 6 rfl) ?_
  obtain ⟨v1, ev1, h⟩ := lt1_e h
  refine x_iadd hx hb d_SE_branch_101 ev1 ?_
  obtain ⟨s2, es2, h⟩ := lt1_e h
  refine pf_6_top C hX fl_SE_57 d_SE_branch_102 (fun H locs hX => ?_)
  rw [← es2] at hX
  refine lv_aload_n hx hb d_SE_branch_105 rfl (lv_at hl 0 rfl) ?_
  refine gf_6_contents C hX fl_SE_32 d_SE_branch_106 ?_
  refine gf_1_code C hX fl_SE_63 d_SE_branch_109 ?_
  refine lv_iload hx hb d_SE_branch_112 (lv_at hl 4 rfl) ?_
  refine lv_iconst (v := 0) hx hb d_SE_branch_114 (by decide) ?_
  obtain ⟨r3, er3, h⟩ := lt1_e h
  refine x_vI (r := r3) (ws' := wX g s2) (As := [.int x4, .int 0]) (rest := []) C hX (by rw [er3]; exact cTabGet_20 l g s2 x4 0) (cw_SE_53 C.1.2.2.2.2 C.2.2.2 ⟨by decide, by decide⟩) (x_rc C hX wg_20 rfl) rfl hl.1 rfl (lv_room (Nat.le_of_ble_eq_true rfl)) d_SE_branch_115 ⟨Nat.le_refl _, Nat.le_refl _⟩ (fun H locs hX => ?_)
  refine lv_iconst (v := 3) hx hb d_SE_branch_118 (by decide) ?_
  refine lv_icmp_ne (tgt := 126) hx hb d_SE_branch_119 (by decide) (fun c119 => ?_) (fun c119 => ?_)
  · have h := ite_f c119 h
    refine lv_iconst (v := 0) hx hb d_SE_branch_126 (by decide) ?_
    exact w_SE_branch_127 C hQ x1 x2 x3 x4 x5 x6 0 s2 H locs ls hX hl h
  · have h := ite_t c119 h
    refine lv_iconst (v := 1) hx hb d_SE_branch_122 (by decide) ?_
    refine lv_goto (tgt := 127) hx hb d_SE_branch_123 (by decide) ?_
    exact w_SE_branch_127 C hQ x1 x2 x3 x4 x5 x6 1 s2 H locs ls hX hl h
set_option maxHeartbeats 4000000 in
set_option maxRecDepth 100000 in
theorem w_SE_branch {z : St} (C : Cx g A p m c b_SE_branch 8 ss args R_SE) (hQ : ∀ (pc : Nat) (H : Heap) (locs : List Loc) (ls : Array Slot), XW g A ss (wX g z) H locs → decode b_SE_branch pc = .ok (.return_, 1) → W p l e (rmX 3 65) ss m args below meth c H locs 0 0 Q (F0 m pc ls [])) : ∀ (x1 : Int32) (s : St) (H : Heap) (locs : List Loc) (ls : Array Slot), XW g A ss (wX g s) H locs → lv_has ls 8 [(0, .ref (g.q 6)), (1, .int x1)] → f_SE_branch x1 s = some z → W p l e (rmX 3 65) ss m args below meth c H locs 0 0 Q (F0 m 0 ls []) := by
  have ⟨⟨hx, hb, hml, hown, hts⟩, hK, hA, hN⟩ := C
  intro x1 s H locs ls hX hl h
  rw [f_SE_branch] at h
  refine lv_aload_n hx hb d_SE_branch_0 rfl (lv_at hl 0 rfl) ?_
  refine gf_6_depth C hX fl_SE_43 d_SE_branch_1 ?_
  refine lv_iconst (v := 1) hx hb d_SE_branch_4 (by decide) ?_
  obtain ⟨v1, ev1, h⟩ := lt1_e h
  refine x_isub hx hb d_SE_branch_5 ev1 ?_
  refine lv_iload_n hx hb d_SE_branch_6 rfl (lv_at hl 1 rfl) ?_
  obtain ⟨v2, ev2, h⟩ := lt1_e h
  refine x_isub hx hb d_SE_branch_7 ev2 ?_
  refine lv_istore_n (lv' := [(2, .int v2), (0, .ref (g.q 6)), (1, .int x1)]) hx hb d_SE_branch_8 rfl hl (by decide) rfl (fun ls hl => ?_)
  refine lv_iload_n hx hb d_SE_branch_9 rfl (lv_at hl 0 rfl) ?_
  refine lv_if_ge (tgt := 18) hx hb d_SE_branch_10 (by decide) (fun c10 => ?_) (fun c10 => ?_)
  · have h := ite_t c10 h
    refine lv_aload_n hx hb d_SE_branch_18 rfl (lv_at hl 1 rfl) ?_
    refine gf_6_calls_s C hX fl_SE_36 d_SE_branch_19 ?_
    refine lv_iconst (v := 1) hx hb d_SE_branch_22 (by decide) ?_
    obtain ⟨v3, ev3, h⟩ := lt1_e h
    refine x_isub hx hb d_SE_branch_23 ev3 ?_
    refine lv_bipush (v := 10) hx hb d_SE_branch_24 (by decide) ?_
    obtain ⟨v4, ev4, h⟩ := lt1_e h
    refine x_imul hx hb d_SE_branch_26 ev4 ?_
    refine lv_iload_n hx hb d_SE_branch_27 rfl (lv_at hl 0 rfl) ?_
    obtain ⟨v5, ev5, h⟩ := lt1_e h
    refine x_iadd hx hb d_SE_branch_28 ev5 ?_
    refine lv_istore_n (lv' := [(3, .int v5), (2, .int v2), (0, .ref (g.q 6)), (1, .int x1)]) hx hb d_SE_branch_29 rfl hl (by decide) rfl (fun ls hl => ?_)
    refine lv_aload_n hx hb d_SE_branch_30 rfl (lv_at hl 2 rfl) ?_
    refine gf_6_labels C hX fl_SE_16 d_SE_branch_31 ?_
    refine lv_iload_n hx hb d_SE_branch_34 rfl (lv_at hl 0 rfl) ?_
    refine lv_iconst (v := 0) hx hb d_SE_branch_35 (by decide) ?_
    obtain ⟨r6, er6, h⟩ := lt1_e h
    refine x_vI (r := r6) (ws' := wX g s) (As := [.int v5, .int 0]) (rest := []) C hX (by rw [er6]; exact cTabGet_47 l g s v5 0) (cw_SE_53 C.1.2.2.2.2 C.2.2.2 ⟨by decide, by decide⟩) (x_rc C hX wg_47 rfl) rfl hl.1 rfl (lv_room (Nat.le_of_ble_eq_true rfl)) d_SE_branch_36 ⟨Nat.le_refl _, Nat.le_refl _⟩ (fun H locs hX => ?_)
    refine lv_istore (lv' := [(4, .int r6), (3, .int v5), (2, .int v2), (0, .ref (g.q 6)), (1, .int x1)]) hx hb d_SE_branch_39 hl (by decide) rfl (fun ls hl => ?_)
    refine lv_aload_n hx hb d_SE_branch_41 rfl (lv_at hl 3 rfl) ?_
    refine gf_6_labels C hX fl_SE_16 d_SE_branch_42 ?_
    refine lv_iload_n hx hb d_SE_branch_45 rfl (lv_at hl 1 rfl) ?_
    refine lv_iconst (v := 1) hx hb d_SE_branch_46 (by decide) ?_
    obtain ⟨r7, er7, h⟩ := lt1_e h
    refine x_vI (r := r7) (ws' := wX g s) (As := [.int v5, .int 1]) (rest := []) C hX (by rw [er7]; exact cTabGet_47 l g s v5 1) (cw_SE_53 C.1.2.2.2.2 C.2.2.2 ⟨by decide, by decide⟩) (x_rc C hX wg_47 rfl) rfl hl.1 rfl (lv_room (Nat.le_of_ble_eq_true rfl)) d_SE_branch_47 ⟨Nat.le_refl _, Nat.le_refl _⟩ (fun H locs hX => ?_)
    refine lv_istore (lv' := [(5, .int r7), (4, .int r6), (3, .int v5), (2, .int v2), (0, .ref (g.q 6)), (1, .int x1)]) hx hb d_SE_branch_50 hl (by decide) rfl (fun ls hl => ?_)
    refine lv_aload_n hx hb d_SE_branch_52 rfl (lv_at hl 4 rfl) ?_
    refine gf_6_contents C hX fl_SE_32 d_SE_branch_53 ?_
    refine lv_iload hx hb d_SE_branch_56 (lv_at hl 1 rfl) ?_
    obtain ⟨r8, hc58, h⟩ := bd1_e h
    refine x_vI (As := [.int r6]) (rest := []) C hX (c_Cont_labelResults l g r6 s r8 hc58) (cw_SE_126 C.1.2.2.2.2 C.2.2.2 ⟨by decide, by decide⟩) (x_rc C hX wg_1 rfl) rfl hl.1 rfl (lv_room (Nat.le_of_ble_eq_true rfl)) d_SE_branch_58 ⟨Nat.le_refl _, Nat.le_refl _⟩ (fun H locs hX => ?_)
    refine lv_istore (lv' := [(6, .int r8), (5, .int r7), (4, .int r6), (3, .int v5), (2, .int v2), (0, .ref (g.q 6)), (1, .int x1)]) hx hb d_SE_branch_61 hl (by decide) rfl (fun ls hl => ?_)
    refine lv_iload hx hb d_SE_branch_63 (lv_at hl 0 rfl) ?_
    refine lv_if_le (tgt := 96) hx hb d_SE_branch_65 (by decide) (fun c65 => ?_) (fun c65 => ?_)
    · have h := ite_t c65 h
      exact w_SE_branch_96 C hQ x1 v2 v5 r6 r7 r8 s H locs ls hX (lv_sub hl [5, 6, 4, 3, 2, 1, 0] rfl) h
    · have h := ite_f c65 h
      refine lv_aload_n hx hb d_SE_branch_68 rfl (lv_at hl 5 rfl) ?_
      refine gf_6_store_s C hX fl_SE_79 d_SE_branch_69 ?_
      refine gf_5_cells C hX fl_SE_118 d_SE_branch_72 ?_
      refine lv_iload hx hb d_SE_branch_75 (lv_at hl 1 rfl) ?_
      refine lv_aload_n hx hb d_SE_branch_77 rfl (lv_at hl 5 rfl) ?_
      refine gf_6_store_s C hX fl_SE_79 d_SE_branch_78 ?_
      refine gf_5_cells C hX fl_SE_118 d_SE_branch_81 ?_
      refine lv_aload_n hx hb d_SE_branch_84 rfl (lv_at hl 5 rfl) ?_
      refine gf_6_top C hX fl_SE_57 d_SE_branch_85 ?_
      refine lv_iconst (v := 1) hx hb d_SE_branch_88 (by decide) ?_
      obtain ⟨v9, ev9, h⟩ := lt1_e h
      refine x_isub hx hb d_SE_branch_89 ev9 ?_
      obtain ⟨r10, er10, h⟩ := lt1_e h
      refine x_vI (r := r10) (ws' := wX g s) (As := [.int v9]) (rest := [.int r7, .ref (g.q 35)]) C hX (by rw [er10]; exact cRowGet_35 l g s v9) (cw_SE_121 C.1.2.2.2.2 C.2.2.2 ⟨by decide, by decide⟩) (x_rc C hX wg_35 rfl) rfl hl.1 rfl (lv_room (Nat.le_of_ble_eq_true rfl)) d_SE_branch_90 ⟨Nat.le_refl _, Nat.le_refl _⟩ (fun H locs hX => ?_)
      obtain ⟨s11, es11, h⟩ := lt1_e h
      refine x_vV (ws' := wX g s11) (As := [.int r7, .int r10]) (rest := []) C hX (by rw [es11]; exact cRowSet_35 l g s r7 r10) (cw_SE_40 C.1.2.2.2.2 C.2.2.2 ⟨by decide, by decide⟩) (x_rc C hX wg_35 rfl) rfl hl.1 rfl (lv_room (Nat.le_of_ble_eq_true rfl)) d_SE_branch_93 ⟨Nat.le_refl _, Nat.le_refl _⟩ (fun H locs hX => ?_)
      exact w_SE_branch_96 C hQ x1 v2 v5 r6 r7 r8 s11 H locs ls hX (lv_sub hl [5, 6, 4, 3, 2, 1, 0] rfl) h
  · have h := ite_f c10 h
    refine lv_aload_n hx hb d_SE_branch_13 rfl (lv_at hl 1 rfl) ?_
    obtain ⟨s12, hc14, h⟩ := bd1_e h
    refine x_vV (As := []) (rest := []) C hX (c_SE_leave l g s s12 hc14) (cw_SE_68_S C.1.2.2.2.2 C.2.2.2 ⟨by decide, by decide⟩) (x_rc C hX wg_6 rfl) rfl hl.1 rfl (lv_room (Nat.le_of_ble_eq_true rfl)) d_SE_branch_14 ⟨Nat.le_refl _, Nat.le_refl _⟩ (fun H locs hX => ?_)
    obtain rfl := so1 h
    exact hQ _ H locs ls hX d_SE_branch_17
end WALK
theorem c_SE_branch (l : Launch) (g : GX) (x1 : Int32) (s : St) (z : St) (h : f_SE_branch x1 s = some z) : MV l g y_SE_branch b_SE_branch 8 none 3 65 [.ref (g.q 6), .int x1] (wX g s) (wX g z) :=
  MV.mk (own := R_SE) (by decide) rfl (Nat.le_of_ble_eq_true rfl) fun p e ss m below meth c A Q C hQ ls hX hl => w_SE_branch C hQ x1 s _ _ ls hX hl h
