-- SE_enterBlock
def f_SE_enterBlock (x1 : Int32) (s : St) : Option St :=
    lt1 (s 6 0 - 1) fun v1 =>
    lt1 (v1 * 10) fun v2 =>
    lt1 (v2 + s 6 5) fun v3 =>
    lt1 (tSet s 48 80 2 v3 0 (s 6 2)) fun s4 =>
    lt1 (tSet s4 48 80 2 v3 1 (s4 6 6)) fun s5 =>
    lt1 (s5 6 5 + 1) fun v6 =>
    lt1 (stp s5 6 5 v6) fun s7 =>
    lt1 (stp s7 6 2 x1) fun s8 =>
    some s8
section WALK
variable {p : Program} {l : Launch} {e : Env} {ss : State} {m : MethodId} {args : Array Value} {below : List Frame} {meth : Method} {c : Code} {Q : State → Prop} {g : GX} {A : Nat → Prop}
set_option maxHeartbeats 4000000 in
set_option maxRecDepth 100000 in
theorem w_SE_enterBlock {z : St} (C : Cx g A p m c b_SE_enterBlock 3 ss args R_SE) (hQ : ∀ (pc : Nat) (H : Heap) (locs : List Loc) (ls : Array Slot), XW g A ss (wX g z) H locs → decode b_SE_enterBlock pc = .ok (.return_, 1) → W p l e (rmX 1 24) ss m args below meth c H locs 0 0 Q (F0 m pc ls [])) : ∀ (x1 : Int32) (s : St) (H : Heap) (locs : List Loc) (ls : Array Slot), XW g A ss (wX g s) H locs → lv_has ls 3 [(0, .ref (g.q 6)), (1, .int x1)] → f_SE_enterBlock x1 s = some z → W p l e (rmX 1 24) ss m args below meth c H locs 0 0 Q (F0 m 0 ls []) := by
  have ⟨⟨hx, hb, hml, hown, hts⟩, hK, hA, hN⟩ := C
  intro x1 s H locs ls hX hl h
  rw [f_SE_enterBlock] at h
  refine lv_aload_n hx hb d_SE_enterBlock_0 rfl (lv_at hl 0 rfl) ?_
  refine gf_6_calls_s C hX fl_SE_36 d_SE_enterBlock_1 ?_
  refine lv_iconst (v := 1) hx hb d_SE_enterBlock_4 (by decide) ?_
  obtain ⟨v1, ev1, h⟩ := lt1_e h
  refine x_isub hx hb d_SE_enterBlock_5 ev1 ?_
  refine lv_bipush (v := 10) hx hb d_SE_enterBlock_6 (by decide) ?_
  obtain ⟨v2, ev2, h⟩ := lt1_e h
  refine x_imul hx hb d_SE_enterBlock_8 ev2 ?_
  refine lv_aload_n hx hb d_SE_enterBlock_9 rfl (lv_at hl 0 rfl) ?_
  refine gf_6_depth C hX fl_SE_43 d_SE_enterBlock_10 ?_
  obtain ⟨v3, ev3, h⟩ := lt1_e h
  refine x_iadd hx hb d_SE_enterBlock_13 ev3 ?_
  refine lv_istore_n (lv' := [(2, .int v3), (0, .ref (g.q 6)), (1, .int x1)]) hx hb d_SE_enterBlock_14 rfl hl (by decide) rfl (fun ls hl => ?_)
  refine lv_aload_n hx hb d_SE_enterBlock_15 rfl (lv_at hl 1 rfl) ?_
  refine gf_6_labels C hX fl_SE_16 d_SE_enterBlock_16 ?_
  refine lv_iload_n hx hb d_SE_enterBlock_19 rfl (lv_at hl 0 rfl) ?_
  refine lv_iconst (v := 0) hx hb d_SE_enterBlock_20 (by decide) ?_
  refine lv_aload_n hx hb d_SE_enterBlock_21 rfl (lv_at hl 1 rfl) ?_
  refine gf_6_next_s C hX fl_SE_60 d_SE_enterBlock_22 ?_
  obtain ⟨s4, es4, h⟩ := lt1_e h
  refine x_vV (ws' := wX g s4) (As := [.int v3, .int 0, .int (s 6 2)]) (rest := []) C hX (by rw [es4]; exact cTabSet_47 l g s v3 0 (s 6 2)) (cw_SE_123 C.1.2.2.2.2 C.2.2.2 ⟨by decide, by decide⟩) (x_rc C hX wg_47 rfl) rfl hl.1 rfl (lv_room (Nat.le_of_ble_eq_true rfl)) d_SE_enterBlock_25 ⟨Nat.le_refl _, Nat.le_refl _⟩ (fun H locs hX => ?_)
  refine lv_aload_n hx hb d_SE_enterBlock_28 rfl (lv_at hl 1 rfl) ?_
  refine gf_6_labels C hX fl_SE_16 d_SE_enterBlock_29 ?_
  refine lv_iload_n hx hb d_SE_enterBlock_32 rfl (lv_at hl 0 rfl) ?_
  refine lv_iconst (v := 1) hx hb d_SE_enterBlock_33 (by decide) ?_
  refine lv_aload_n hx hb d_SE_enterBlock_34 rfl (lv_at hl 1 rfl) ?_
  refine gf_6_top C hX fl_SE_57 d_SE_enterBlock_35 ?_
  obtain ⟨s5, es5, h⟩ := lt1_e h
  refine x_vV (ws' := wX g s5) (As := [.int v3, .int 1, .int (s4 6 6)]) (rest := []) C hX (by rw [es5]; exact cTabSet_47 l g s4 v3 1 (s4 6 6)) (cw_SE_123 C.1.2.2.2.2 C.2.2.2 ⟨by decide, by decide⟩) (x_rc C hX wg_47 rfl) rfl hl.1 rfl (lv_room (Nat.le_of_ble_eq_true rfl)) d_SE_enterBlock_38 ⟨Nat.le_refl _, Nat.le_refl _⟩ (fun H locs hX => ?_)
  refine lv_aload_n hx hb d_SE_enterBlock_41 rfl (lv_at hl 1 rfl) ?_
  refine lv_dup hx hb d_SE_enterBlock_42 rfl ?_
  refine gf_6_depth C hX fl_SE_43 d_SE_enterBlock_43 ?_
  refine lv_iconst (v := 1) hx hb d_SE_enterBlock_46 (by decide) ?_
  obtain ⟨v6, ev6, h⟩ := lt1_e h
  refine x_iadd hx hb d_SE_enterBlock_47 ev6 ?_
  obtain ⟨s7, es7, h⟩ := lt1_e h
  refine pf_6_depth C hX fl_SE_43 d_SE_enterBlock_48 (fun H locs hX => ?_)
  rw [← es7] at hX
  refine lv_aload_n hx hb d_SE_enterBlock_51 rfl (lv_at hl 1 rfl) ?_
  refine lv_iload_n hx hb d_SE_enterBlock_52 rfl (lv_at hl 2 rfl) ?_
  obtain ⟨s8, es8, h⟩ := lt1_e h
  refine pf_6_next_s C hX fl_SE_60 d_SE_enterBlock_53 (fun H locs hX => ?_)
  rw [← es8] at hX
  obtain rfl := so1 h
  exact hQ _ H locs ls hX d_SE_enterBlock_56
end WALK
theorem c_SE_enterBlock (l : Launch) (g : GX) (x1 : Int32) (s : St) (z : St) (h : f_SE_enterBlock x1 s = some z) : MV l g y_SE_enterBlock b_SE_enterBlock 3 none 1 24 [.ref (g.q 6), .int x1] (wX g s) (wX g z) :=
  MV.mk (own := R_SE) (by decide) rfl (Nat.le_of_ble_eq_true rfl) fun p e ss m below meth c A Q C hQ ls hX hl => w_SE_enterBlock C hQ x1 s _ _ ls hX hl h
-- SE_control
def f_SE_control_222 (x1 : Int32) (x2 : Int32) (s : St) : Option St :=
    some s
def f_SE_control_212 (x1 : Int32) (x2 : Int32) (s : St) : Option St :=
    lt1 (s 6 2 + 1) fun v1 =>
    lt1 (stp s 6 2 v1) fun s2 =>
    f_SE_control_222 x1 x2 s2
def f_SE_control_133 (x1 : Int32) (x2 : Int32) (y1 : Int32) (s : St) : Option St :=
    bd1 (f_SE_enterBlock y1 s) fun s1 =>
    f_SE_control_222 x1 x2 s1
def f_SE_control_92 (x1 : Int32) (x2 : Int32) (s : St) : Option St :=
    lt1 (s 6 2 + 1) fun v1 =>
    bd1 (f_SE_enterBlock v1 s) fun s2 =>
    f_SE_control_222 x1 x2 s2
def f_SE_control (x1 : Int32) (x2 : Int32) (s : St) : Option St :=
    if x1 = 0 then
      lt1 (stp s 6 3 2) fun s1 =>
      f_SE_control_222 x1 x2 s1
    else if x1 = 2 then
      f_SE_control_92 x1 x2 s
    else if x1 = 3 then
      f_SE_control_92 x1 x2 s
    else if x1 = 4 then
      bd (f_SE_pop s) fun r3 s2 =>
      if r3 = 0 then
        bd1 (f_Cont_otherwiseOf s2 (s2 6 2)) fun r4 =>
        f_SE_control_133 x1 x2 r4 s2
      else
        lt1 (s2 6 2 + 1) fun v5 =>
        f_SE_control_133 x1 x2 v5 s2
    else if x1 = 12 then
      bd1 (f_SE_branch x2 s) fun s6 =>
      f_SE_control_222 x1 x2 s6
    else if x1 = 13 then
      bd (f_SE_pop s) fun r8 s7 =>
      if r8 = 0 then
        lt1 (s7 6 2 + 1) fun v9 =>
        lt1 (stp s7 6 2 v9) fun s10 =>
        f_SE_control_222 x1 x2 s10
      else
        bd1 (f_SE_branch x2 s7) fun s11 =>
        f_SE_control_222 x1 x2 s11
    else if x1 = 14 then
      bd (f_SE_pop s) fun r13 s12 =>
      bd1 (f_Cont_labelAt s12 (s 6 2) r13) fun r14 =>
      bd1 (f_SE_branch r14 s12) fun s15 =>
      f_SE_control_222 x1 x2 s15
    else if x1 = 15 then
      bd1 (f_SE_leave s) fun s16 =>
      f_SE_control_222 x1 x2 s16
    else if x1 = 16 then
      bd1 (f_SE_call x2 s) fun s17 =>
      f_SE_control_222 x1 x2 s17
    else 
      f_SE_control_212 x1 x2 s
section WALK
variable {p : Program} {l : Launch} {e : Env} {ss : State} {m : MethodId} {args : Array Value} {below : List Frame} {meth : Method} {c : Code} {Q : State → Prop} {g : GX} {A : Nat → Prop}
set_option maxHeartbeats 4000000 in
set_option maxRecDepth 100000 in
theorem w_SE_control_222 {z : St} (C : Cx g A p m c b_SE_control 3 ss args R_SE) (hQ : ∀ (pc : Nat) (H : Heap) (locs : List Loc) (ls : Array Slot), XW g A ss (wX g z) H locs → decode b_SE_control pc = .ok (.return_, 1) → W p l e (rmX 4 92) ss m args below meth c H locs 0 0 Q (F0 m pc ls [])) : ∀ (x1 : Int32) (x2 : Int32) (s : St) (H : Heap) (locs : List Loc) (ls : Array Slot), XW g A ss (wX g s) H locs → lv_has ls 3 [(0, .ref (g.q 6)), (1, .int x1), (2, .int x2)] → f_SE_control_222 x1 x2 s = some z → W p l e (rmX 4 92) ss m args below meth c H locs 0 0 Q (F0 m 222 ls []) := by
  have ⟨⟨hx, hb, hml, hown, hts⟩, hK, hA, hN⟩ := C
  intro x1 x2 s H locs ls hX hl h
  rw [f_SE_control_222] at h
  obtain rfl := so1 h
  exact hQ _ H locs ls hX d_SE_control_222
set_option maxHeartbeats 4000000 in
set_option maxRecDepth 100000 in
theorem w_SE_control_212 {z : St} (C : Cx g A p m c b_SE_control 3 ss args R_SE) (hQ : ∀ (pc : Nat) (H : Heap) (locs : List Loc) (ls : Array Slot), XW g A ss (wX g z) H locs → decode b_SE_control pc = .ok (.return_, 1) → W p l e (rmX 4 92) ss m args below meth c H locs 0 0 Q (F0 m pc ls [])) : ∀ (x1 : Int32) (x2 : Int32) (s : St) (H : Heap) (locs : List Loc) (ls : Array Slot), XW g A ss (wX g s) H locs → lv_has ls 3 [(0, .ref (g.q 6)), (1, .int x1), (2, .int x2)] → f_SE_control_212 x1 x2 s = some z → W p l e (rmX 4 92) ss m args below meth c H locs 0 0 Q (F0 m 212 ls []) := by
  have ⟨⟨hx, hb, hml, hown, hts⟩, hK, hA, hN⟩ := C
  intro x1 x2 s H locs ls hX hl h
  rw [f_SE_control_212] at h
  refine lv_aload_n hx hb d_SE_control_212 rfl (lv_at hl 0 rfl) ?_
  refine lv_dup hx hb d_SE_control_213 rfl ?_
  refine gf_6_next_s C hX fl_SE_60 d_SE_control_214 ?_
  refine lv_iconst (v := 1) hx hb d_SE_control_217 (by decide) ?_
  obtain ⟨v1, ev1, h⟩ := lt1_e h
  refine x_iadd hx hb d_SE_control_218 ev1 ?_
  obtain ⟨s2, es2, h⟩ := lt1_e h
  refine pf_6_next_s C hX fl_SE_60 d_SE_control_219 (fun H locs hX => ?_)
  rw [← es2] at hX
  exact w_SE_control_222 C hQ x1 x2 s2 H locs ls hX hl h
set_option maxHeartbeats 4000000 in
set_option maxRecDepth 100000 in
theorem w_SE_control_133 {z : St} (C : Cx g A p m c b_SE_control 3 ss args R_SE) (hQ : ∀ (pc : Nat) (H : Heap) (locs : List Loc) (ls : Array Slot), XW g A ss (wX g z) H locs → decode b_SE_control pc = .ok (.return_, 1) → W p l e (rmX 4 92) ss m args below meth c H locs 0 0 Q (F0 m pc ls [])) : ∀ (x1 : Int32) (x2 : Int32) (y1 : Int32) (s : St) (H : Heap) (locs : List Loc) (ls : Array Slot), XW g A ss (wX g s) H locs → lv_has ls 3 [(0, .ref (g.q 6)), (1, .int x1), (2, .int x2)] → f_SE_control_133 x1 x2 y1 s = some z → W p l e (rmX 4 92) ss m args below meth c H locs 0 0 Q (F0 m 133 ls [.int y1, .ref (g.q 6)]) := by
  have ⟨⟨hx, hb, hml, hown, hts⟩, hK, hA, hN⟩ := C
  intro x1 x2 y1 s H locs ls hX hl h
  rw [f_SE_control_133] at h
  obtain ⟨s1, hc133, h⟩ := bd1_e h
  refine x_vV (As := [.int y1]) (rest := []) C hX (c_SE_enterBlock l g y1 s s1 hc133) (cw_SE_99_S C.1.2.2.2.2 C.2.2.2 ⟨by decide, by decide⟩) (x_rc C hX wg_6 rfl) rfl hl.1 rfl (lv_room (Nat.le_of_ble_eq_true rfl)) d_SE_control_133 ⟨Nat.le_refl _, Nat.le_refl _⟩ (fun H locs hX => ?_)
  refine lv_goto (tgt := 222) hx hb d_SE_control_136 (by decide) ?_
  exact w_SE_control_222 C hQ x1 x2 s1 H locs ls hX hl h
set_option maxHeartbeats 4000000 in
set_option maxRecDepth 100000 in
theorem w_SE_control_92 {z : St} (C : Cx g A p m c b_SE_control 3 ss args R_SE) (hQ : ∀ (pc : Nat) (H : Heap) (locs : List Loc) (ls : Array Slot), XW g A ss (wX g z) H locs → decode b_SE_control pc = .ok (.return_, 1) → W p l e (rmX 4 92) ss m args below meth c H locs 0 0 Q (F0 m pc ls [])) : ∀ (x1 : Int32) (x2 : Int32) (s : St) (H : Heap) (locs : List Loc) (ls : Array Slot), XW g A ss (wX g s) H locs → lv_has ls 3 [(0, .ref (g.q 6)), (1, .int x1), (2, .int x2)] → f_SE_control_92 x1 x2 s = some z → W p l e (rmX 4 92) ss m args below meth c H locs 0 0 Q (F0 m 92 ls []) := by
  have ⟨⟨hx, hb, hml, hown, hts⟩, hK, hA, hN⟩ := C
  intro x1 x2 s H locs ls hX hl h
  rw [f_SE_control_92] at h
  refine lv_aload_n hx hb d_SE_control_92 rfl (lv_at hl 0 rfl) ?_
  refine lv_aload_n hx hb d_SE_control_93 rfl (lv_at hl 0 rfl) ?_
  refine gf_6_next_s C hX fl_SE_60 d_SE_control_94 ?_
  refine lv_iconst (v := 1) hx hb d_SE_control_97 (by decide) ?_
  obtain ⟨v1, ev1, h⟩ := lt1_e h
  refine x_iadd hx hb d_SE_control_98 ev1 ?_
  obtain ⟨s2, hc99, h⟩ := bd1_e h
  refine x_vV (As := [.int v1]) (rest := []) C hX (c_SE_enterBlock l g v1 s s2 hc99) (cw_SE_99_S C.1.2.2.2.2 C.2.2.2 ⟨by decide, by decide⟩) (x_rc C hX wg_6 rfl) rfl hl.1 rfl (lv_room (Nat.le_of_ble_eq_true rfl)) d_SE_control_99 ⟨Nat.le_refl _, Nat.le_refl _⟩ (fun H locs hX => ?_)
  refine lv_goto (tgt := 222) hx hb d_SE_control_102 (by decide) ?_
  exact w_SE_control_222 C hQ x1 x2 s2 H locs ls hX hl h
set_option maxHeartbeats 4000000 in
set_option maxRecDepth 100000 in
theorem w_SE_control {z : St} (C : Cx g A p m c b_SE_control 3 ss args R_SE) (hQ : ∀ (pc : Nat) (H : Heap) (locs : List Loc) (ls : Array Slot), XW g A ss (wX g z) H locs → decode b_SE_control pc = .ok (.return_, 1) → W p l e (rmX 4 92) ss m args below meth c H locs 0 0 Q (F0 m pc ls [])) : ∀ (x1 : Int32) (x2 : Int32) (s : St) (H : Heap) (locs : List Loc) (ls : Array Slot), XW g A ss (wX g s) H locs → lv_has ls 3 [(0, .ref (g.q 6)), (1, .int x1), (2, .int x2)] → f_SE_control x1 x2 s = some z → W p l e (rmX 4 92) ss m args below meth c H locs 0 0 Q (F0 m 0 ls []) := by
  have ⟨⟨hx, hb, hml, hown, hts⟩, hK, hA, hN⟩ := C
  intro x1 x2 s H locs ls hX hl h
  rw [f_SE_control] at h
  refine lv_iload_n hx hb d_SE_control_0 rfl (lv_at hl 1 rfl) ?_
  by_cases c1_0 : x1 = 0
  · have h := ite_t c1_0 h
    refine lv_tableIn (tgt := 84) hx hb d_SE_control_1 (by rw [c1_0]; decide) (by rw [c1_0]; decide) (by rw [c1_0]; rfl) (by decide) ?_
    refine lv_aload_n hx hb d_SE_control_84 rfl (lv_at hl 0 rfl) ?_
    refine lv_iconst (v := 2) hx hb d_SE_control_85 (by decide) ?_
    obtain ⟨s1, es1, h⟩ := lt1_e h
    refine pf_6_outcome_s C hX fl_SE_89 d_SE_control_86 (fun H locs hX => ?_)
    rw [← es1] at hX
    refine lv_goto (tgt := 222) hx hb d_SE_control_89 (by decide) ?_
    exact w_SE_control_222 C hQ x1 x2 s1 H locs ls hX hl h
  have h := ite_f c1_0 h
  by_cases c1_1 : x1 = 2
  · have h := ite_t c1_1 h
    refine lv_tableIn (tgt := 92) hx hb d_SE_control_1 (by rw [c1_1]; decide) (by rw [c1_1]; decide) (by rw [c1_1]; rfl) (by decide) ?_
    exact w_SE_control_92 C hQ x1 x2 s H locs ls hX hl h
  have h := ite_f c1_1 h
  by_cases c1_2 : x1 = 3
  · have h := ite_t c1_2 h
    refine lv_tableIn (tgt := 92) hx hb d_SE_control_1 (by rw [c1_2]; decide) (by rw [c1_2]; decide) (by rw [c1_2]; rfl) (by decide) ?_
    exact w_SE_control_92 C hQ x1 x2 s H locs ls hX hl h
  have h := ite_f c1_2 h
  by_cases c1_3 : x1 = 4
  · have h := ite_t c1_3 h
    refine lv_tableIn (tgt := 105) hx hb d_SE_control_1 (by rw [c1_3]; decide) (by rw [c1_3]; decide) (by rw [c1_3]; rfl) (by decide) ?_
    refine lv_aload_n hx hb d_SE_control_105 rfl (lv_at hl 0 rfl) ?_
    refine lv_aload_n hx hb d_SE_control_106 rfl (lv_at hl 0 rfl) ?_
    obtain ⟨r3, s2, hc107, h⟩ := bd_e h
    refine x_vI (As := []) (rest := [.ref (g.q 6)]) C hX (c_SE_pop l g s (r3, s2) hc107) (cw_SE_102_S C.1.2.2.2.2 C.2.2.2 ⟨by decide, by decide⟩) (x_rc C hX wg_6 rfl) rfl hl.1 rfl (lv_room (Nat.le_of_ble_eq_true rfl)) d_SE_control_107 ⟨Nat.le_refl _, Nat.le_refl _⟩ (fun H locs hX => ?_)
    refine lv_if_eq (tgt := 122) hx hb d_SE_control_110 (by decide) (fun c110 => ?_) (fun c110 => ?_)
    · have h := ite_t c110 h
      refine lv_aload_n hx hb d_SE_control_122 rfl (lv_at hl 0 rfl) ?_
      refine gf_6_contents C hX fl_SE_32 d_SE_control_123 ?_
      refine lv_aload_n hx hb d_SE_control_126 rfl (lv_at hl 0 rfl) ?_
      refine gf_6_next_s C hX fl_SE_60 d_SE_control_127 ?_
      obtain ⟨r4, hc130, h⟩ := bd1_e h
      refine x_vI (As := [.int (s2 6 2)]) (rest := [.ref (g.q 6)]) C hX (c_Cont_otherwiseOf l g (s2 6 2) s2 r4 hc130) (cw_SE_106 C.1.2.2.2.2 C.2.2.2 ⟨by decide, by decide⟩) (x_rc C hX wg_1 rfl) rfl hl.1 rfl (lv_room (Nat.le_of_ble_eq_true rfl)) d_SE_control_130 ⟨Nat.le_refl _, Nat.le_refl _⟩ (fun H locs hX => ?_)
      exact w_SE_control_133 C hQ x1 x2 r4 s2 H locs ls hX hl h
    · have h := ite_f c110 h
      refine lv_aload_n hx hb d_SE_control_113 rfl (lv_at hl 0 rfl) ?_
      refine gf_6_next_s C hX fl_SE_60 d_SE_control_114 ?_
      refine lv_iconst (v := 1) hx hb d_SE_control_117 (by decide) ?_
      obtain ⟨v5, ev5, h⟩ := lt1_e h
      refine x_iadd hx hb d_SE_control_118 ev5 ?_
      refine lv_goto (tgt := 133) hx hb d_SE_control_119 (by decide) ?_
      exact w_SE_control_133 C hQ x1 x2 v5 s2 H locs ls hX hl h
  have h := ite_f c1_3 h
  by_cases c1_4 : x1 = 12
  · have h := ite_t c1_4 h
    refine lv_tableIn (tgt := 139) hx hb d_SE_control_1 (by rw [c1_4]; decide) (by rw [c1_4]; decide) (by rw [c1_4]; rfl) (by decide) ?_
    refine lv_aload_n hx hb d_SE_control_139 rfl (lv_at hl 0 rfl) ?_
    refine lv_iload_n hx hb d_SE_control_140 rfl (lv_at hl 2 rfl) ?_
    obtain ⟨s6, hc141, h⟩ := bd1_e h
    refine x_vV (As := [.int x2]) (rest := []) C hX (c_SE_branch l g x2 s s6 hc141) (cw_SE_109_S C.1.2.2.2.2 C.2.2.2 ⟨by decide, by decide⟩) (x_rc C hX wg_6 rfl) rfl hl.1 rfl (lv_room (Nat.le_of_ble_eq_true rfl)) d_SE_control_141 ⟨Nat.le_refl _, Nat.le_refl _⟩ (fun H locs hX => ?_)
    refine lv_goto (tgt := 222) hx hb d_SE_control_144 (by decide) ?_
    exact w_SE_control_222 C hQ x1 x2 s6 H locs ls hX hl h
  have h := ite_f c1_4 h
  by_cases c1_5 : x1 = 13
  · have h := ite_t c1_5 h
    refine lv_tableIn (tgt := 147) hx hb d_SE_control_1 (by rw [c1_5]; decide) (by rw [c1_5]; decide) (by rw [c1_5]; rfl) (by decide) ?_
    refine lv_aload_n hx hb d_SE_control_147 rfl (lv_at hl 0 rfl) ?_
    obtain ⟨r8, s7, hc148, h⟩ := bd_e h
    refine x_vI (As := []) (rest := []) C hX (c_SE_pop l g s (r8, s7) hc148) (cw_SE_102_S C.1.2.2.2.2 C.2.2.2 ⟨by decide, by decide⟩) (x_rc C hX wg_6 rfl) rfl hl.1 rfl (lv_room (Nat.le_of_ble_eq_true rfl)) d_SE_control_148 ⟨Nat.le_refl _, Nat.le_refl _⟩ (fun H locs hX => ?_)
    refine lv_if_eq (tgt := 162) hx hb d_SE_control_151 (by decide) (fun c151 => ?_) (fun c151 => ?_)
    · have h := ite_t c151 h
      refine lv_aload_n hx hb d_SE_control_162 rfl (lv_at hl 0 rfl) ?_
      refine lv_dup hx hb d_SE_control_163 rfl ?_
      refine gf_6_next_s C hX fl_SE_60 d_SE_control_164 ?_
      refine lv_iconst (v := 1) hx hb d_SE_control_167 (by decide) ?_
      obtain ⟨v9, ev9, h⟩ := lt1_e h
      refine x_iadd hx hb d_SE_control_168 ev9 ?_
      obtain ⟨s10, es10, h⟩ := lt1_e h
      refine pf_6_next_s C hX fl_SE_60 d_SE_control_169 (fun H locs hX => ?_)
      rw [← es10] at hX
      refine lv_goto (tgt := 222) hx hb d_SE_control_172 (by decide) ?_
      exact w_SE_control_222 C hQ x1 x2 s10 H locs ls hX hl h
    · have h := ite_f c151 h
      refine lv_aload_n hx hb d_SE_control_154 rfl (lv_at hl 0 rfl) ?_
      refine lv_iload_n hx hb d_SE_control_155 rfl (lv_at hl 2 rfl) ?_
      obtain ⟨s11, hc156, h⟩ := bd1_e h
      refine x_vV (As := [.int x2]) (rest := []) C hX (c_SE_branch l g x2 s7 s11 hc156) (cw_SE_109_S C.1.2.2.2.2 C.2.2.2 ⟨by decide, by decide⟩) (x_rc C hX wg_6 rfl) rfl hl.1 rfl (lv_room (Nat.le_of_ble_eq_true rfl)) d_SE_control_156 ⟨Nat.le_refl _, Nat.le_refl _⟩ (fun H locs hX => ?_)
      refine lv_goto (tgt := 222) hx hb d_SE_control_159 (by decide) ?_
      exact w_SE_control_222 C hQ x1 x2 s11 H locs ls hX hl h
  have h := ite_f c1_5 h
  by_cases c1_6 : x1 = 14
  · have h := ite_t c1_6 h
    refine lv_tableIn (tgt := 175) hx hb d_SE_control_1 (by rw [c1_6]; decide) (by rw [c1_6]; decide) (by rw [c1_6]; rfl) (by decide) ?_
    refine lv_aload_n hx hb d_SE_control_175 rfl (lv_at hl 0 rfl) ?_
    refine lv_aload_n hx hb d_SE_control_176 rfl (lv_at hl 0 rfl) ?_
    refine gf_6_contents C hX fl_SE_32 d_SE_control_177 ?_
    refine lv_aload_n hx hb d_SE_control_180 rfl (lv_at hl 0 rfl) ?_
    refine gf_6_next_s C hX fl_SE_60 d_SE_control_181 ?_
    refine lv_aload_n hx hb d_SE_control_184 rfl (lv_at hl 0 rfl) ?_
    obtain ⟨r13, s12, hc185, h⟩ := bd_e h
    refine x_vI (As := []) (rest := [.int (s 6 2), .ref (g.q 1), .ref (g.q 6)]) C hX (c_SE_pop l g s (r13, s12) hc185) (cw_SE_102_S C.1.2.2.2.2 C.2.2.2 ⟨by decide, by decide⟩) (x_rc C hX wg_6 rfl) rfl hl.1 rfl (lv_room (Nat.le_of_ble_eq_true rfl)) d_SE_control_185 ⟨Nat.le_refl _, Nat.le_refl _⟩ (fun H locs hX => ?_)
    obtain ⟨r14, hc188, h⟩ := bd1_e h
    refine x_vI (As := [.int (s 6 2), .int r13]) (rest := [.ref (g.q 6)]) C hX (c_Cont_labelAt l g (s 6 2) r13 s12 r14 hc188) (cw_SE_112 C.1.2.2.2.2 C.2.2.2 ⟨by decide, by decide⟩) (x_rc C hX wg_1 rfl) rfl hl.1 rfl (lv_room (Nat.le_of_ble_eq_true rfl)) d_SE_control_188 ⟨Nat.le_refl _, Nat.le_refl _⟩ (fun H locs hX => ?_)
    obtain ⟨s15, hc191, h⟩ := bd1_e h
    refine x_vV (As := [.int r14]) (rest := []) C hX (c_SE_branch l g r14 s12 s15 hc191) (cw_SE_109_S C.1.2.2.2.2 C.2.2.2 ⟨by decide, by decide⟩) (x_rc C hX wg_6 rfl) rfl hl.1 rfl (lv_room (Nat.le_of_ble_eq_true rfl)) d_SE_control_191 ⟨Nat.le_refl _, Nat.le_refl _⟩ (fun H locs hX => ?_)
    refine lv_goto (tgt := 222) hx hb d_SE_control_194 (by decide) ?_
    exact w_SE_control_222 C hQ x1 x2 s15 H locs ls hX hl h
  have h := ite_f c1_6 h
  by_cases c1_7 : x1 = 15
  · have h := ite_t c1_7 h
    refine lv_tableIn (tgt := 197) hx hb d_SE_control_1 (by rw [c1_7]; decide) (by rw [c1_7]; decide) (by rw [c1_7]; rfl) (by decide) ?_
    refine lv_aload_n hx hb d_SE_control_197 rfl (lv_at hl 0 rfl) ?_
    obtain ⟨s16, hc198, h⟩ := bd1_e h
    refine x_vV (As := []) (rest := []) C hX (c_SE_leave l g s s16 hc198) (cw_SE_68_S C.1.2.2.2.2 C.2.2.2 ⟨by decide, by decide⟩) (x_rc C hX wg_6 rfl) rfl hl.1 rfl (lv_room (Nat.le_of_ble_eq_true rfl)) d_SE_control_198 ⟨Nat.le_refl _, Nat.le_refl _⟩ (fun H locs hX => ?_)
    refine lv_goto (tgt := 222) hx hb d_SE_control_201 (by decide) ?_
    exact w_SE_control_222 C hQ x1 x2 s16 H locs ls hX hl h
  have h := ite_f c1_7 h
  by_cases c1_8 : x1 = 16
  · have h := ite_t c1_8 h
    refine lv_tableIn (tgt := 204) hx hb d_SE_control_1 (by rw [c1_8]; decide) (by rw [c1_8]; decide) (by rw [c1_8]; rfl) (by decide) ?_
    refine lv_aload_n hx hb d_SE_control_204 rfl (lv_at hl 0 rfl) ?_
    refine lv_iload_n hx hb d_SE_control_205 rfl (lv_at hl 2 rfl) ?_
    obtain ⟨s17, hc206, h⟩ := bd1_e h
    refine x_vV (As := [.int x2]) (rest := []) C hX (c_SE_call l g x2 s s17 hc206) (cw_SE_115_S C.1.2.2.2.2 C.2.2.2 ⟨by decide, by decide⟩) (x_rc C hX wg_6 rfl) rfl hl.1 rfl (lv_room (Nat.le_of_ble_eq_true rfl)) d_SE_control_206 ⟨Nat.le_refl _, Nat.le_refl _⟩ (fun H locs hX => ?_)
    refine lv_goto (tgt := 222) hx hb d_SE_control_209 (by decide) ?_
    exact w_SE_control_222 C hQ x1 x2 s17 H locs ls hX hl h
  have h := ite_f c1_8 h
  by_cases c1_g1 : x1 = 1
  · refine lv_tableIn (tgt := 212) hx hb d_SE_control_1 (by rw [c1_g1]; decide) (by rw [c1_g1]; decide) (by rw [c1_g1]; rfl) (by decide) ?_
    exact w_SE_control_212 C hQ x1 x2 s H locs ls hX hl h
  by_cases c1_g5 : x1 = 5
  · refine lv_tableIn (tgt := 212) hx hb d_SE_control_1 (by rw [c1_g5]; decide) (by rw [c1_g5]; decide) (by rw [c1_g5]; rfl) (by decide) ?_
    exact w_SE_control_212 C hQ x1 x2 s H locs ls hX hl h
  by_cases c1_g6 : x1 = 6
  · refine lv_tableIn (tgt := 212) hx hb d_SE_control_1 (by rw [c1_g6]; decide) (by rw [c1_g6]; decide) (by rw [c1_g6]; rfl) (by decide) ?_
    exact w_SE_control_212 C hQ x1 x2 s H locs ls hX hl h
  by_cases c1_g7 : x1 = 7
  · refine lv_tableIn (tgt := 212) hx hb d_SE_control_1 (by rw [c1_g7]; decide) (by rw [c1_g7]; decide) (by rw [c1_g7]; rfl) (by decide) ?_
    exact w_SE_control_212 C hQ x1 x2 s H locs ls hX hl h
  by_cases c1_g8 : x1 = 8
  · refine lv_tableIn (tgt := 212) hx hb d_SE_control_1 (by rw [c1_g8]; decide) (by rw [c1_g8]; decide) (by rw [c1_g8]; rfl) (by decide) ?_
    exact w_SE_control_212 C hQ x1 x2 s H locs ls hX hl h
  by_cases c1_g9 : x1 = 9
  · refine lv_tableIn (tgt := 212) hx hb d_SE_control_1 (by rw [c1_g9]; decide) (by rw [c1_g9]; decide) (by rw [c1_g9]; rfl) (by decide) ?_
    exact w_SE_control_212 C hQ x1 x2 s H locs ls hX hl h
  by_cases c1_g10 : x1 = 10
  · refine lv_tableIn (tgt := 212) hx hb d_SE_control_1 (by rw [c1_g10]; decide) (by rw [c1_g10]; decide) (by rw [c1_g10]; rfl) (by decide) ?_
    exact w_SE_control_212 C hQ x1 x2 s H locs ls hX hl h
  by_cases c1_g11 : x1 = 11
  · refine lv_tableIn (tgt := 212) hx hb d_SE_control_1 (by rw [c1_g11]; decide) (by rw [c1_g11]; decide) (by rw [c1_g11]; rfl) (by decide) ?_
    exact w_SE_control_212 C hQ x1 x2 s H locs ls hX hl h
  have hz := And.intro trivial trivial
  have hn0 := lv_neT c1_0 (a := 0) (by decide)
  have hn1 := lv_neT c1_1 (a := 2) (by decide)
  have hn2 := lv_neT c1_2 (a := 3) (by decide)
  have hn3 := lv_neT c1_3 (a := 4) (by decide)
  have hn4 := lv_neT c1_4 (a := 12) (by decide)
  have hn5 := lv_neT c1_5 (a := 13) (by decide)
  have hn6 := lv_neT c1_6 (a := 14) (by decide)
  have hn7 := lv_neT c1_7 (a := 15) (by decide)
  have hn8 := lv_neT c1_8 (a := 16) (by decide)
  have hn9 := lv_neT c1_g1 (a := 1) (by decide)
  have hn10 := lv_neT c1_g5 (a := 5) (by decide)
  have hn11 := lv_neT c1_g6 (a := 6) (by decide)
  have hn12 := lv_neT c1_g7 (a := 7) (by decide)
  have hn13 := lv_neT c1_g8 (a := 8) (by decide)
  have hn14 := lv_neT c1_g9 (a := 9) (by decide)
  have hn15 := lv_neT c1_g10 (a := 10) (by decide)
  have hn16 := lv_neT c1_g11 (a := 11) (by decide)
  refine lv_tableOut (tgt := 212) hx hb d_SE_control_1 (by omega) (by decide) ?_
  exact w_SE_control_212 C hQ x1 x2 s H locs ls hX hl h
end WALK
theorem c_SE_control (l : Launch) (g : GX) (x1 : Int32) (x2 : Int32) (s : St) (z : St) (h : f_SE_control x1 x2 s = some z) : MV l g y_SE_control b_SE_control 3 none 4 92 [.ref (g.q 6), .int x1, .int x2] (wX g s) (wX g z) :=
  MV.mk (own := R_SE) (by decide) rfl (Nat.le_of_ble_eq_true rfl) fun p e ss m below meth c A Q C hQ ls hX hl => w_SE_control C hQ x1 x2 s _ _ ls hX hl h
-- SE_step
def f_SE_step (s : St) : Option St :=
    lt1 (tGet 240 7 (s 21) (s 6 2) 0) fun r1 =>
    lt1 (tGet 240 7 (s 21) (s 6 2) 1) fun r2 =>
    bd1 (f_Op_isControl r1) fun r3 =>
    if r3 = 0 then
      bd (f_Store_work r1 r2 (s 6 1) (s 6 6) s) fun r5 s4 =>
      if r5 = 0 then
        bd1 (f_Op_gives r1) fun r6 =>
        bd1 (f_Op_takes r1) fun r7 =>
        lt1 (r6 - r7) fun v8 =>
        lt1 (s4 6 6 + v8) fun v9 =>
        lt1 (stp s4 6 6 v9) fun s10 =>
        lt1 (s10 6 2 + 1) fun v11 =>
        lt1 (stp s10 6 2 v11) fun s12 =>
        some s12
      else
        lt1 (stp s4 6 3 r5) fun s13 =>
        some s13
    else
      bd1 (f_SE_control r1 r2 s) fun s14 =>
      some s14
section WALK
variable {p : Program} {l : Launch} {e : Env} {ss : State} {m : MethodId} {args : Array Value} {below : List Frame} {meth : Method} {c : Code} {Q : State → Prop} {g : GX} {A : Nat → Prop}
set_option maxHeartbeats 4000000 in
set_option maxRecDepth 100000 in
theorem w_SE_step {z : St} (C : Cx g A p m c b_SE_step 4 ss args R_SE) (hQ : ∀ (pc : Nat) (H : Heap) (locs : List Loc) (ls : Array Slot), XW g A ss (wX g z) H locs → decode b_SE_step pc = .ok (.return_, 1) → W p l e (rmX 5 114) ss m args below meth c H locs 0 0 Q (F0 m pc ls [])) : ∀ (s : St) (H : Heap) (locs : List Loc) (ls : Array Slot), XW g A ss (wX g s) H locs → lv_has ls 4 [(0, .ref (g.q 6))] → f_SE_step s = some z → W p l e (rmX 5 114) ss m args below meth c H locs 0 0 Q (F0 m 0 ls []) := by
  have ⟨⟨hx, hb, hml, hown, hts⟩, hK, hA, hN⟩ := C
  intro s H locs ls hX hl h
  rw [f_SE_step] at h
  refine lv_aload_n hx hb d_SE_step_0 rfl (lv_at hl 0 rfl) ?_
  refine gf_6_contents C hX fl_SE_32 d_SE_step_1 ?_
  refine gf_1_code C hX fl_SE_63 d_SE_step_4 ?_
  refine lv_aload_n hx hb d_SE_step_7 rfl (lv_at hl 0 rfl) ?_
  refine gf_6_next_s C hX fl_SE_60 d_SE_step_8 ?_
  refine lv_iconst (v := 0) hx hb d_SE_step_11 (by decide) ?_
  obtain ⟨r1, er1, h⟩ := lt1_e h
  refine x_vI (r := r1) (ws' := wX g s) (As := [.int (s 6 2), .int 0]) (rest := []) C hX (by rw [er1]; exact cTabGet_20 l g s (s 6 2) 0) (cw_SE_53 C.1.2.2.2.2 C.2.2.2 ⟨by decide, by decide⟩) (x_rc C hX wg_20 rfl) rfl hl.1 rfl (lv_room (Nat.le_of_ble_eq_true rfl)) d_SE_step_12 ⟨Nat.le_refl _, Nat.le_refl _⟩ (fun H locs hX => ?_)
  refine lv_istore_n (lv' := [(1, .int r1), (0, .ref (g.q 6))]) hx hb d_SE_step_15 rfl hl (by decide) rfl (fun ls hl => ?_)
  refine lv_aload_n hx hb d_SE_step_16 rfl (lv_at hl 1 rfl) ?_
  refine gf_6_contents C hX fl_SE_32 d_SE_step_17 ?_
  refine gf_1_code C hX fl_SE_63 d_SE_step_20 ?_
  refine lv_aload_n hx hb d_SE_step_23 rfl (lv_at hl 1 rfl) ?_
  refine gf_6_next_s C hX fl_SE_60 d_SE_step_24 ?_
  refine lv_iconst (v := 1) hx hb d_SE_step_27 (by decide) ?_
  obtain ⟨r2, er2, h⟩ := lt1_e h
  refine x_vI (r := r2) (ws' := wX g s) (As := [.int (s 6 2), .int 1]) (rest := []) C hX (by rw [er2]; exact cTabGet_20 l g s (s 6 2) 1) (cw_SE_53 C.1.2.2.2.2 C.2.2.2 ⟨by decide, by decide⟩) (x_rc C hX wg_20 rfl) rfl hl.1 rfl (lv_room (Nat.le_of_ble_eq_true rfl)) d_SE_step_28 ⟨Nat.le_refl _, Nat.le_refl _⟩ (fun H locs hX => ?_)
  refine lv_istore_n (lv' := [(2, .int r2), (1, .int r1), (0, .ref (g.q 6))]) hx hb d_SE_step_31 rfl hl (by decide) rfl (fun ls hl => ?_)
  refine lv_iload_n hx hb d_SE_step_32 rfl (lv_at hl 1 rfl) ?_
  obtain ⟨r3, hc33, h⟩ := bd1_e h
  refine x_sI (As := [.int r1]) (rest := []) C hX (c_Op_isControl l g r1 r3 hc33 _) (cw_SE_72 C.1.2.2.2.2 C.2.2.2 ⟨by decide, by decide⟩) rfl hl.1 rfl (lv_room (Nat.le_of_ble_eq_true rfl)) d_SE_step_33 ⟨Nat.le_refl _, Nat.le_refl _⟩ (fun H locs hX => ?_)
  refine lv_if_eq (tgt := 46) hx hb d_SE_step_36 (by decide) (fun c36 => ?_) (fun c36 => ?_)
  · have h := ite_t c36 h
    refine lv_aload_n hx hb d_SE_step_46 rfl (lv_at hl 2 rfl) ?_
    refine gf_6_store_s C hX fl_SE_79 d_SE_step_47 ?_
    refine lv_iload_n hx hb d_SE_step_50 rfl (lv_at hl 1 rfl) ?_
    refine lv_iload_n hx hb d_SE_step_51 rfl (lv_at hl 0 rfl) ?_
    refine lv_aload_n hx hb d_SE_step_52 rfl (lv_at hl 2 rfl) ?_
    refine gf_6_base_s C hX fl_SE_46 d_SE_step_53 ?_
    refine lv_aload_n hx hb d_SE_step_56 rfl (lv_at hl 2 rfl) ?_
    refine gf_6_top C hX fl_SE_57 d_SE_step_57 ?_
    obtain ⟨r5, s4, hc60, h⟩ := bd_e h
    refine x_vI (As := [.int r1, .int r2, .int (s 6 1), .int (s 6 6)]) (rest := []) C hX (c_Store_work l g r1 r2 (s 6 1) (s 6 6) s (r5, s4) hc60) (cw_SE_83 C.1.2.2.2.2 C.2.2.2 ⟨by decide, by decide⟩) (x_rc C hX wg_5 rfl) rfl hl.1 rfl (lv_room (Nat.le_of_ble_eq_true rfl)) d_SE_step_60 ⟨Nat.le_refl _, Nat.le_refl _⟩ (fun H locs hX => ?_)
    refine lv_istore_n (lv' := [(3, .int r5), (2, .int r2), (1, .int r1), (0, .ref (g.q 6))]) hx hb d_SE_step_63 rfl hl (by decide) rfl (fun ls hl => ?_)
    refine lv_iload_n hx hb d_SE_step_64 rfl (lv_at hl 0 rfl) ?_
    refine lv_if_eq (tgt := 74) hx hb d_SE_step_65 (by decide) (fun c65 => ?_) (fun c65 => ?_)
    · have h := ite_t c65 h
      refine lv_aload_n hx hb d_SE_step_74 rfl (lv_at hl 3 rfl) ?_
      refine lv_dup hx hb d_SE_step_75 rfl ?_
      refine gf_6_top C hX fl_SE_57 d_SE_step_76 ?_
      refine lv_iload_n hx hb d_SE_step_79 rfl (lv_at hl 2 rfl) ?_
      obtain ⟨r6, hc80, h⟩ := bd1_e h
      refine x_sI (As := [.int r1]) (rest := [.int (s4 6 6), .ref (g.q 6)]) C hX (c_Op_gives l g r1 r6 hc80 _) (cw_SE_92 C.1.2.2.2.2 C.2.2.2 ⟨by decide, by decide⟩) rfl hl.1 rfl (lv_room (Nat.le_of_ble_eq_true rfl)) d_SE_step_80 ⟨Nat.le_refl _, Nat.le_refl _⟩ (fun H locs hX => ?_)
      refine lv_iload_n hx hb d_SE_step_83 rfl (lv_at hl 2 rfl) ?_
      obtain ⟨r7, hc84, h⟩ := bd1_e h
      refine x_sI (As := [.int r1]) (rest := [.int r6, .int (s4 6 6), .ref (g.q 6)]) C hX (c_Op_takes l g r1 r7 hc84 _) (cw_SE_96 C.1.2.2.2.2 C.2.2.2 ⟨by decide, by decide⟩) rfl hl.1 rfl (lv_room (Nat.le_of_ble_eq_true rfl)) d_SE_step_84 ⟨Nat.le_refl _, Nat.le_refl _⟩ (fun H locs hX => ?_)
      obtain ⟨v8, ev8, h⟩ := lt1_e h
      refine x_isub hx hb d_SE_step_87 ev8 ?_
      obtain ⟨v9, ev9, h⟩ := lt1_e h
      refine x_iadd hx hb d_SE_step_88 ev9 ?_
      obtain ⟨s10, es10, h⟩ := lt1_e h
      refine pf_6_top C hX fl_SE_57 d_SE_step_89 (fun H locs hX => ?_)
      rw [← es10] at hX
      refine lv_aload_n hx hb d_SE_step_92 rfl (lv_at hl 3 rfl) ?_
      refine lv_dup hx hb d_SE_step_93 rfl ?_
      refine gf_6_next_s C hX fl_SE_60 d_SE_step_94 ?_
      refine lv_iconst (v := 1) hx hb d_SE_step_97 (by decide) ?_
      obtain ⟨v11, ev11, h⟩ := lt1_e h
      refine x_iadd hx hb d_SE_step_98 ev11 ?_
      obtain ⟨s12, es12, h⟩ := lt1_e h
      refine pf_6_next_s C hX fl_SE_60 d_SE_step_99 (fun H locs hX => ?_)
      rw [← es12] at hX
      obtain rfl := so1 h
      exact hQ _ H locs ls hX d_SE_step_102
    · have h := ite_f c65 h
      refine lv_aload_n hx hb d_SE_step_68 rfl (lv_at hl 3 rfl) ?_
      refine lv_iload_n hx hb d_SE_step_69 rfl (lv_at hl 0 rfl) ?_
      obtain ⟨s13, es13, h⟩ := lt1_e h
      refine pf_6_outcome_s C hX fl_SE_89 d_SE_step_70 (fun H locs hX => ?_)
      rw [← es13] at hX
      obtain rfl := so1 h
      exact hQ _ H locs ls hX d_SE_step_73
  · have h := ite_f c36 h
    refine lv_aload_n hx hb d_SE_step_39 rfl (lv_at hl 2 rfl) ?_
    refine lv_iload_n hx hb d_SE_step_40 rfl (lv_at hl 1 rfl) ?_
    refine lv_iload_n hx hb d_SE_step_41 rfl (lv_at hl 0 rfl) ?_
    obtain ⟨s14, hc42, h⟩ := bd1_e h
    refine x_vV (As := [.int r1, .int r2]) (rest := []) C hX (c_SE_control l g r1 r2 s s14 hc42) (cw_SE_76_S C.1.2.2.2.2 C.2.2.2 ⟨by decide, by decide⟩) (x_rc C hX wg_6 rfl) rfl hl.1 rfl (lv_room (Nat.le_of_ble_eq_true rfl)) d_SE_step_42 ⟨Nat.le_refl _, Nat.le_refl _⟩ (fun H locs hX => ?_)
    obtain rfl := so1 h
    exact hQ _ H locs ls hX d_SE_step_45
end WALK
theorem c_SE_step (l : Launch) (g : GX) (s : St) (z : St) (h : f_SE_step s = some z) : MV l g y_SE_step b_SE_step 4 none 5 114 [.ref (g.q 6)] (wX g s) (wX g z) :=
  MV.mk (own := R_SE) (by decide) rfl (Nat.le_of_ble_eq_true rfl) fun p e ss m below meth c A Q C hQ ls hX hl => w_SE_step C hQ s _ _ ls hX hl h
-- RE_enter
def f_RE_enter (x1 : Int32) (s : St) : Option St :=
    bd1 (f_RC_firstEntry s x1) fun r1 =>
    lt1 (stp s 7 2 r1) fun s2 =>
    some s2
section WALK
variable {p : Program} {l : Launch} {e : Env} {ss : State} {m : MethodId} {args : Array Value} {below : List Frame} {meth : Method} {c : Code} {Q : State → Prop} {g : GX} {A : Nat → Prop}
set_option maxHeartbeats 4000000 in
set_option maxRecDepth 100000 in
theorem w_RE_enter {z : St} (C : Cx g A p m c b_RE_enter 2 ss args R_RE) (hQ : ∀ (pc : Nat) (H : Heap) (locs : List Loc) (ls : Array Slot), XW g A ss (wX g z) H locs → decode b_RE_enter pc = .ok (.return_, 1) → W p l e (rmX 2 44) ss m args below meth c H locs 0 0 Q (F0 m pc ls [])) : ∀ (x1 : Int32) (s : St) (H : Heap) (locs : List Loc) (ls : Array Slot), XW g A ss (wX g s) H locs → lv_has ls 2 [(0, .ref (g.q 7)), (1, .int x1)] → f_RE_enter x1 s = some z → W p l e (rmX 2 44) ss m args below meth c H locs 0 0 Q (F0 m 0 ls []) := by
  have ⟨⟨hx, hb, hml, hown, hts⟩, hK, hA, hN⟩ := C
  intro x1 s H locs ls hX hl h
  rw [f_RE_enter] at h
  refine lv_aload_n hx hb d_RE_enter_0 rfl (lv_at hl 0 rfl) ?_
  refine lv_aload_n hx hb d_RE_enter_1 rfl (lv_at hl 0 rfl) ?_
  refine gf_7_code C hX fl_RE_9 d_RE_enter_2 ?_
  refine lv_iload_n hx hb d_RE_enter_5 rfl (lv_at hl 1 rfl) ?_
  obtain ⟨r1, hc6, h⟩ := bd1_e h
  refine x_vI (As := [.int x1]) (rest := [.ref (g.q 7)]) C hX (c_RC_firstEntry l g x1 s r1 hc6) (cw_RE_15 C.1.2.2.2.2 C.2.2.2 ⟨by decide, by decide⟩) (x_rc C hX wg_4 rfl) rfl hl.1 rfl (lv_room (Nat.le_of_ble_eq_true rfl)) d_RE_enter_6 ⟨Nat.le_refl _, Nat.le_refl _⟩ (fun H locs hX => ?_)
  obtain ⟨s2, es2, h⟩ := lt1_e h
  refine pf_7_next_s C hX fl_RE_21 d_RE_enter_9 (fun H locs hX => ?_)
  rw [← es2] at hX
  obtain rfl := so1 h
  exact hQ _ H locs ls hX d_RE_enter_12
end WALK
theorem c_RE_enter (l : Launch) (g : GX) (x1 : Int32) (s : St) (z : St) (h : f_RE_enter x1 s = some z) : MV l g y_RE_enter b_RE_enter 2 none 2 44 [.ref (g.q 7), .int x1] (wX g s) (wX g z) :=
  MV.mk (own := R_RE) (by decide) rfl (Nat.le_of_ble_eq_true rfl) fun p e ss m below meth c A Q C hQ ls hX hl => w_RE_enter C hQ x1 s _ _ ls hX hl h
-- Eng_close_R
def f_Eng_close_R_108 (x1 : Int32) (x2 : Int32) (x3 : Int32) (s : St) : Option (Int32 × St) :=
    lt1 (x3 + x2) fun v1 =>
    some (v1, s)
def f_Eng_close_R_22 (x1 : Int32) (x2 : Int32) (y1 : Int32) (s : St) : Option (Int32 × St) :=
    lt1 (stp s 7 4 y1) fun s1 =>
    lt1 (s1 7 0 - 1) fun v2 =>
    lt1 (stp s1 7 0 v2) fun s3 =>
    if 0 < s3 7 0 then
      lt1 (s3 7 0 - 1) fun v4 =>
      lt1 (v4 * 28) fun v5 =>
      lt1 (stp s3 7 1 v5) fun s6 =>
      lt1 (rGet 8 (s6 44) (s6 7 0)) fun r7 =>
      lt1 (stp s6 7 2 r7) fun s8 =>
      lt1 (rGet 8 (s8 46) (s8 7 0)) fun r9 =>
      if x2 ≤ 0 then
        f_Eng_close_R_108 x1 x2 r9 s8
      else
        lt1 (rSet s8 36 224 r9 (s8 7 4)) fun s10 =>
        f_Eng_close_R_108 x1 x2 r9 s10
    else
      lt1 (stp s3 7 3 1) fun s11 =>
      some (0, s11)
def f_Eng_close_R (x1 : Int32) (x2 : Int32) (s : St) : Option (Int32 × St) :=
    if x2 ≤ 0 then
      f_Eng_close_R_22 x1 x2 0 s
    else
      lt1 (x1 - 1) fun v1 =>
      lt1 (rGet 224 (s 36) v1) fun r2 =>
      f_Eng_close_R_22 x1 x2 r2 s
section WALK
variable {p : Program} {l : Launch} {e : Env} {ss : State} {m : MethodId} {args : Array Value} {below : List Frame} {meth : Method} {c : Code} {Q : State → Prop} {g : GX} {A : Nat → Prop}
set_option maxHeartbeats 4000000 in
set_option maxRecDepth 100000 in
theorem w_Eng_close_R_108 {z : Int32 × St} (C : Cx g A p m c b_Eng_close 4 ss args R_Eng) (hQ : ∀ (pc : Nat) (H : Heap) (locs : List Loc) (ls : Array Slot), XW g A ss (wX g z.2) H locs → decode b_Eng_close pc = .ok (.ireturn, 1) → W p l e (rmX 1 22) ss m args below meth c H locs 0 0 Q (F0 m pc ls [.int z.1])) : ∀ (x1 : Int32) (x2 : Int32) (x3 : Int32) (s : St) (H : Heap) (locs : List Loc) (ls : Array Slot), XW g A ss (wX g s) H locs → lv_has ls 4 [(0, .ref (g.q 7)), (1, .int x1), (2, .int x2), (3, .int x3)] → f_Eng_close_R_108 x1 x2 x3 s = some z → W p l e (rmX 1 22) ss m args below meth c H locs 0 0 Q (F0 m 108 ls []) := by
  have ⟨⟨hx, hb, hml, hown, hts⟩, hK, hA, hN⟩ := C
  intro x1 x2 x3 s H locs ls hX hl h
  rw [f_Eng_close_R_108] at h
  refine lv_iload_n hx hb d_Eng_close_108 rfl (lv_at hl 3 rfl) ?_
  refine lv_iload_n hx hb d_Eng_close_109 rfl (lv_at hl 2 rfl) ?_
  obtain ⟨v1, ev1, h⟩ := lt1_e h
  refine x_iadd hx hb d_Eng_close_110 ev1 ?_
  obtain rfl := so1 h
  exact hQ _ H locs ls hX d_Eng_close_111
set_option maxHeartbeats 4000000 in
set_option maxRecDepth 100000 in
theorem w_Eng_close_R_22 {z : Int32 × St} (C : Cx g A p m c b_Eng_close 4 ss args R_Eng) (hQ : ∀ (pc : Nat) (H : Heap) (locs : List Loc) (ls : Array Slot), XW g A ss (wX g z.2) H locs → decode b_Eng_close pc = .ok (.ireturn, 1) → W p l e (rmX 1 22) ss m args below meth c H locs 0 0 Q (F0 m pc ls [.int z.1])) : ∀ (x1 : Int32) (x2 : Int32) (y1 : Int32) (s : St) (H : Heap) (locs : List Loc) (ls : Array Slot), XW g A ss (wX g s) H locs → lv_has ls 4 [(0, .ref (g.q 7)), (1, .int x1), (2, .int x2)] → f_Eng_close_R_22 x1 x2 y1 s = some z → W p l e (rmX 1 22) ss m args below meth c H locs 0 0 Q (F0 m 22 ls [.int y1, .ref (g.q 7)]) := by
  have ⟨⟨hx, hb, hml, hown, hts⟩, hK, hA, hN⟩ := C
  intro x1 x2 y1 s H locs ls hX hl h
  rw [f_Eng_close_R_22] at h
  obtain ⟨s1, es1, h⟩ := lt1_e h
  refine pf_7_value C hX fl_Eng_31 d_Eng_close_22 (fun H locs hX => ?_)
  rw [← es1] at hX
  refine lv_aload_n hx hb d_Eng_close_25 rfl (lv_at hl 0 rfl) ?_
  refine lv_dup hx hb d_Eng_close_26 rfl ?_
  refine gf_7_calls C hX fl_Eng_34 d_Eng_close_27 ?_
  refine lv_iconst (v := 1) hx hb d_Eng_close_30 (by decide) ?_
  obtain ⟨v2, ev2, h⟩ := lt1_e h
  refine x_isub hx hb d_Eng_close_31 ev2 ?_
  obtain ⟨s3, es3, h⟩ := lt1_e h
  refine pf_7_calls C hX fl_Eng_34 d_Eng_close_32 (fun H locs hX => ?_)
  rw [← es3] at hX
  refine lv_aload_n hx hb d_Eng_close_35 rfl (lv_at hl 0 rfl) ?_
  refine gf_7_calls C hX fl_Eng_34 d_Eng_close_36 ?_
  refine lv_if_gt (tgt := 49) hx hb d_Eng_close_39 (by decide) (fun c39 => ?_) (fun c39 => ?_)
  · have h := ite_t c39 h
    refine lv_aload_n hx hb d_Eng_close_49 rfl (lv_at hl 0 rfl) ?_
    refine lv_aload_n hx hb d_Eng_close_50 rfl (lv_at hl 0 rfl) ?_
    refine gf_7_calls C hX fl_Eng_34 d_Eng_close_51 ?_
    refine lv_iconst (v := 1) hx hb d_Eng_close_54 (by decide) ?_
    obtain ⟨v4, ev4, h⟩ := lt1_e h
    refine x_isub hx hb d_Eng_close_55 ev4 ?_
    refine lv_bipush (v := 28) hx hb d_Eng_close_56 (by decide) ?_
    obtain ⟨v5, ev5, h⟩ := lt1_e h
    refine x_imul hx hb d_Eng_close_58 ev5 ?_
    obtain ⟨s6, es6, h⟩ := lt1_e h
    refine pf_7_base C hX fl_Eng_61 d_Eng_close_59 (fun H locs hX => ?_)
    rw [← es6] at hX
    refine lv_aload_n hx hb d_Eng_close_62 rfl (lv_at hl 0 rfl) ?_
    refine lv_aload_n hx hb d_Eng_close_63 rfl (lv_at hl 0 rfl) ?_
    refine gf_7_nexts C hX fl_Eng_14 d_Eng_close_64 ?_
    refine lv_aload_n hx hb d_Eng_close_67 rfl (lv_at hl 0 rfl) ?_
    refine gf_7_calls C hX fl_Eng_34 d_Eng_close_68 ?_
    obtain ⟨r7, er7, h⟩ := lt1_e h
    refine x_vI (r := r7) (ws' := wX g s6) (As := [.int (s6 7 0)]) (rest := [.ref (g.q 7)]) C hX (by rw [er7]; exact cRowGet_43 l g s6 (s6 7 0)) (cw_Eng_69 C.1.2.2.2.2 C.2.2.2 ⟨by decide, by decide⟩) (x_rc C hX wg_43 rfl) rfl hl.1 rfl (lv_room (Nat.le_of_ble_eq_true rfl)) d_Eng_close_71 ⟨Nat.le_refl _, Nat.le_refl _⟩ (fun H locs hX => ?_)
    obtain ⟨s8, es8, h⟩ := lt1_e h
    refine pf_7_next C hX fl_Eng_77 d_Eng_close_74 (fun H locs hX => ?_)
    rw [← es8] at hX
    refine lv_aload_n hx hb d_Eng_close_77 rfl (lv_at hl 0 rfl) ?_
    refine gf_7_tops C hX fl_Eng_20 d_Eng_close_78 ?_
    refine lv_aload_n hx hb d_Eng_close_81 rfl (lv_at hl 0 rfl) ?_
    refine gf_7_calls C hX fl_Eng_34 d_Eng_close_82 ?_
    obtain ⟨r9, er9, h⟩ := lt1_e h
    refine x_vI (r := r9) (ws' := wX g s8) (As := [.int (s8 7 0)]) (rest := []) C hX (by rw [er9]; exact cRowGet_45 l g s8 (s8 7 0)) (cw_Eng_69 C.1.2.2.2.2 C.2.2.2 ⟨by decide, by decide⟩) (x_rc C hX wg_45 rfl) rfl hl.1 rfl (lv_room (Nat.le_of_ble_eq_true rfl)) d_Eng_close_85 ⟨Nat.le_refl _, Nat.le_refl _⟩ (fun H locs hX => ?_)
    refine lv_istore_n (lv' := [(3, .int r9), (0, .ref (g.q 7)), (1, .int x1), (2, .int x2)]) hx hb d_Eng_close_88 rfl hl (by decide) rfl (fun ls hl => ?_)
    refine lv_iload_n hx hb d_Eng_close_89 rfl (lv_at hl 3 rfl) ?_
    refine lv_if_le (tgt := 108) hx hb d_Eng_close_90 (by decide) (fun c90 => ?_) (fun c90 => ?_)
    · have h := ite_t c90 h
      exact w_Eng_close_R_108 C hQ x1 x2 r9 s8 H locs ls hX (lv_sub hl [1, 2, 3, 0] rfl) h
    · have h := ite_f c90 h
      refine lv_aload_n hx hb d_Eng_close_93 rfl (lv_at hl 1 rfl) ?_
      refine gf_7_store C hX fl_Eng_23 d_Eng_close_94 ?_
      refine gf_5_cells C hX fl_Eng_64 d_Eng_close_97 ?_
      refine lv_iload_n hx hb d_Eng_close_100 rfl (lv_at hl 0 rfl) ?_
      refine lv_aload_n hx hb d_Eng_close_101 rfl (lv_at hl 1 rfl) ?_
      refine gf_7_value C hX fl_Eng_31 d_Eng_close_102 ?_
      obtain ⟨s10, es10, h⟩ := lt1_e h
      refine x_vV (ws' := wX g s10) (As := [.int r9, .int (s8 7 4)]) (rest := []) C hX (by rw [es10]; exact cRowSet_35 l g s8 r9 (s8 7 4)) (cw_Eng_73 C.1.2.2.2.2 C.2.2.2 ⟨by decide, by decide⟩) (x_rc C hX wg_35 rfl) rfl hl.1 rfl (lv_room (Nat.le_of_ble_eq_true rfl)) d_Eng_close_105 ⟨Nat.le_refl _, Nat.le_refl _⟩ (fun H locs hX => ?_)
      exact w_Eng_close_R_108 C hQ x1 x2 r9 s10 H locs ls hX (lv_sub hl [1, 2, 3, 0] rfl) h
  · have h := ite_f c39 h
    refine lv_aload_n hx hb d_Eng_close_42 rfl (lv_at hl 0 rfl) ?_
    refine lv_iconst (v := 1) hx hb d_Eng_close_43 (by decide) ?_
    obtain ⟨s11, es11, h⟩ := lt1_e h
    refine pf_7_outcome C hX fl_Eng_27 d_Eng_close_44 (fun H locs hX => ?_)
    rw [← es11] at hX
    refine lv_iconst (v := 0) hx hb d_Eng_close_47 (by decide) ?_
    obtain rfl := so1 h
    exact hQ _ H locs ls hX d_Eng_close_48
set_option maxHeartbeats 4000000 in
set_option maxRecDepth 100000 in
theorem w_Eng_close_R {z : Int32 × St} (C : Cx g A p m c b_Eng_close 4 ss args R_Eng) (hQ : ∀ (pc : Nat) (H : Heap) (locs : List Loc) (ls : Array Slot), XW g A ss (wX g z.2) H locs → decode b_Eng_close pc = .ok (.ireturn, 1) → W p l e (rmX 1 22) ss m args below meth c H locs 0 0 Q (F0 m pc ls [.int z.1])) : ∀ (x1 : Int32) (x2 : Int32) (s : St) (H : Heap) (locs : List Loc) (ls : Array Slot), XW g A ss (wX g s) H locs → lv_has ls 4 [(0, .ref (g.q 7)), (1, .int x1), (2, .int x2)] → f_Eng_close_R x1 x2 s = some z → W p l e (rmX 1 22) ss m args below meth c H locs 0 0 Q (F0 m 0 ls []) := by
  have ⟨⟨hx, hb, hml, hown, hts⟩, hK, hA, hN⟩ := C
  intro x1 x2 s H locs ls hX hl h
  rw [f_Eng_close_R] at h
  refine lv_aload_n hx hb d_Eng_close_0 rfl (lv_at hl 0 rfl) ?_
  refine lv_iload_n hx hb d_Eng_close_1 rfl (lv_at hl 2 rfl) ?_
  refine lv_if_le (tgt := 21) hx hb d_Eng_close_2 (by decide) (fun c2 => ?_) (fun c2 => ?_)
  · have h := ite_t c2 h
    refine lv_iconst (v := 0) hx hb d_Eng_close_21 (by decide) ?_
    exact w_Eng_close_R_22 C hQ x1 x2 0 s H locs ls hX hl h
  · have h := ite_f c2 h
    refine lv_aload_n hx hb d_Eng_close_5 rfl (lv_at hl 0 rfl) ?_
    refine gf_7_store C hX fl_Eng_23 d_Eng_close_6 ?_
    refine gf_5_cells C hX fl_Eng_64 d_Eng_close_9 ?_
    refine lv_iload_n hx hb d_Eng_close_12 rfl (lv_at hl 1 rfl) ?_
    refine lv_iconst (v := 1) hx hb d_Eng_close_13 (by decide) ?_
    obtain ⟨v1, ev1, h⟩ := lt1_e h
    refine x_isub hx hb d_Eng_close_14 ev1 ?_
    obtain ⟨r2, er2, h⟩ := lt1_e h
    refine x_vI (r := r2) (ws' := wX g s) (As := [.int v1]) (rest := [.ref (g.q 7)]) C hX (by rw [er2]; exact cRowGet_35 l g s v1) (cw_Eng_69 C.1.2.2.2.2 C.2.2.2 ⟨by decide, by decide⟩) (x_rc C hX wg_35 rfl) rfl hl.1 rfl (lv_room (Nat.le_of_ble_eq_true rfl)) d_Eng_close_15 ⟨Nat.le_refl _, Nat.le_refl _⟩ (fun H locs hX => ?_)
    refine lv_goto (tgt := 22) hx hb d_Eng_close_18 (by decide) ?_
    exact w_Eng_close_R_22 C hQ x1 x2 r2 s H locs ls hX hl h
end WALK
theorem c_Eng_close_R (l : Launch) (g : GX) (x1 : Int32) (x2 : Int32) (s : St) (z : Int32 × St) (h : f_Eng_close_R x1 x2 s = some z) : MI l g y_Eng_close b_Eng_close 4 (some .int) 1 22 [.ref (g.q 7), .int x1, .int x2] (wX g s) z.1 (wX g z.2) :=
  MI.mk (own := R_Eng) (by decide) rfl (Nat.le_of_ble_eq_true rfl) fun p e ss m below meth c A Q C hQ ls hX hl => w_Eng_close_R C hQ x1 x2 s _ _ ls hX hl h
-- RE_leave
def f_RE_leave (s : St) : Option St :=
    bd1 (f_RC_word s (s 7 2) 1) fun r1 =>
    lt1 (s 7 1 + r1) fun v2 =>
    bd1 (f_RC_word s (s 7 2) 3) fun r3 =>
    bd (f_Eng_close_R v2 r3 s) fun r5 s4 =>
    some s4
section WALK
variable {p : Program} {l : Launch} {e : Env} {ss : State} {m : MethodId} {args : Array Value} {below : List Frame} {meth : Method} {c : Code} {Q : State → Prop} {g : GX} {A : Nat → Prop}
set_option maxHeartbeats 4000000 in
set_option maxRecDepth 100000 in
theorem w_RE_leave {z : St} (C : Cx g A p m c b_RE_leave 1 ss args R_RE) (hQ : ∀ (pc : Nat) (H : Heap) (locs : List Loc) (ls : Array Slot), XW g A ss (wX g z) H locs → decode b_RE_leave pc = .ok (.return_, 1) → W p l e (rmX 2 45) ss m args below meth c H locs 0 0 Q (F0 m pc ls [])) : ∀ (s : St) (H : Heap) (locs : List Loc) (ls : Array Slot), XW g A ss (wX g s) H locs → lv_has ls 1 [(0, .ref (g.q 7))] → f_RE_leave s = some z → W p l e (rmX 2 45) ss m args below meth c H locs 0 0 Q (F0 m 0 ls []) := by
  have ⟨⟨hx, hb, hml, hown, hts⟩, hK, hA, hN⟩ := C
  intro s H locs ls hX hl h
  rw [f_RE_leave] at h
  refine lv_aload_n hx hb d_RE_leave_0 rfl (lv_at hl 0 rfl) ?_
  refine lv_aload_n hx hb d_RE_leave_1 rfl (lv_at hl 0 rfl) ?_
  refine gf_7_base_s C hX fl_RE_35 d_RE_leave_2 ?_
  refine lv_aload_n hx hb d_RE_leave_5 rfl (lv_at hl 0 rfl) ?_
  refine gf_7_code C hX fl_RE_9 d_RE_leave_6 ?_
  refine lv_aload_n hx hb d_RE_leave_9 rfl (lv_at hl 0 rfl) ?_
  refine gf_7_next_s C hX fl_RE_21 d_RE_leave_10 ?_
  refine lv_iconst (v := 1) hx hb d_RE_leave_13 (by decide) ?_
  obtain ⟨r1, hc14, h⟩ := bd1_e h
  refine x_vI (As := [.int (s 7 2), .int 1]) (rest := [.int (s 7 1), .ref (g.q 7)]) C hX (c_RC_word l g (s 7 2) 1 s r1 hc14) (cw_RE_25 C.1.2.2.2.2 C.2.2.2 ⟨by decide, by decide⟩) (x_rc C hX wg_4 rfl) rfl hl.1 rfl (lv_room (Nat.le_of_ble_eq_true rfl)) d_RE_leave_14 ⟨Nat.le_refl _, Nat.le_refl _⟩ (fun H locs hX => ?_)
  obtain ⟨v2, ev2, h⟩ := lt1_e h
  refine x_iadd hx hb d_RE_leave_17 ev2 ?_
  refine lv_aload_n hx hb d_RE_leave_18 rfl (lv_at hl 0 rfl) ?_
  refine gf_7_code C hX fl_RE_9 d_RE_leave_19 ?_
  refine lv_aload_n hx hb d_RE_leave_22 rfl (lv_at hl 0 rfl) ?_
  refine gf_7_next_s C hX fl_RE_21 d_RE_leave_23 ?_
  refine lv_iconst (v := 3) hx hb d_RE_leave_26 (by decide) ?_
  obtain ⟨r3, hc27, h⟩ := bd1_e h
  refine x_vI (As := [.int (s 7 2), .int 3]) (rest := [.int v2, .ref (g.q 7)]) C hX (c_RC_word l g (s 7 2) 3 s r3 hc27) (cw_RE_25 C.1.2.2.2.2 C.2.2.2 ⟨by decide, by decide⟩) (x_rc C hX wg_4 rfl) rfl hl.1 rfl (lv_room (Nat.le_of_ble_eq_true rfl)) d_RE_leave_27 ⟨Nat.le_refl _, Nat.le_refl _⟩ (fun H locs hX => ?_)
  obtain ⟨r5, s4, hc30, h⟩ := bd_e h
  refine x_uI (As := [.int v2, .int r3]) (rest := []) C hX (c_Eng_close_R l g v2 r3 s (r5, s4) hc30) (cw_RE_88_R C.1.2.2.2.2 C.2.2.2 ⟨by decide, by decide⟩) (x_rc C hX wg_7 rfl) rfl hl.1 rfl (lv_room (Nat.le_of_ble_eq_true rfl)) d_RE_leave_30 ⟨Nat.le_refl _, Nat.le_refl _⟩ (fun H locs hX => ?_)
  refine lv_pop hx hb d_RE_leave_33 rfl ?_
  obtain rfl := so1 h
  exact hQ _ H locs ls hX d_RE_leave_34
end WALK
theorem c_RE_leave (l : Launch) (g : GX) (s : St) (z : St) (h : f_RE_leave s = some z) : MV l g y_RE_leave b_RE_leave 1 none 2 45 [.ref (g.q 7)] (wX g s) (wX g z) :=
  MV.mk (own := R_RE) (by decide) rfl (Nat.le_of_ble_eq_true rfl) fun p e ss m below meth c A Q C hQ ls hX hl => w_RE_leave C hQ s _ _ ls hX hl h
-- RE_pass
def f_RE_pass (s : St) : Option (Int32 × St) :=
    bd1 (f_RC_word s (s 7 2) 0) fun r1 =>
    if r1 = 5 then
      bd1 (f_RC_word s (s 7 2) 2) fun r3 =>
      lt1 (stp s 7 2 r3) fun s4 =>
      bz 1 <|
      some (1, s4)
    else
      if r1 = 11 then
        bd1 (f_RE_leave s) fun s2 =>
        bz 1 <|
        some (1, s2)
      else
        bz 0 <|
        some (0, s)
section WALK
variable {p : Program} {l : Launch} {e : Env} {ss : State} {m : MethodId} {args : Array Value} {below : List Frame} {meth : Method} {c : Code} {Q : State → Prop} {g : GX} {A : Nat → Prop}
set_option maxHeartbeats 4000000 in
set_option maxRecDepth 100000 in
theorem w_RE_pass {z : Int32 × St} (C : Cx g A p m c b_RE_pass 2 ss args R_RE) (hQ : ∀ (pc : Nat) (H : Heap) (locs : List Loc) (ls : Array Slot), XW g A ss (wX g z.2) H locs → (z.1 = 0 ∨ z.1 = 1) → decode b_RE_pass pc = .ok (.ireturn, 1) → W p l e (rmX 3 65) ss m args below meth c H locs 0 0 Q (F0 m pc ls [.int z.1])) : ∀ (s : St) (H : Heap) (locs : List Loc) (ls : Array Slot), XW g A ss (wX g s) H locs → lv_has ls 2 [(0, .ref (g.q 7))] → f_RE_pass s = some z → W p l e (rmX 3 65) ss m args below meth c H locs 0 0 Q (F0 m 0 ls []) := by
  have ⟨⟨hx, hb, hml, hown, hts⟩, hK, hA, hN⟩ := C
  intro s H locs ls hX hl h
  rw [f_RE_pass] at h
  refine lv_aload_n hx hb d_RE_pass_0 rfl (lv_at hl 0 rfl) ?_
  refine gf_7_code C hX fl_RE_9 d_RE_pass_1 ?_
  refine lv_aload_n hx hb d_RE_pass_4 rfl (lv_at hl 0 rfl) ?_
  refine gf_7_next_s C hX fl_RE_21 d_RE_pass_5 ?_
  refine lv_iconst (v := 0) hx hb d_RE_pass_8 (by decide) ?_
  obtain ⟨r1, hc9, h⟩ := bd1_e h
  refine x_vI (As := [.int (s 7 2), .int 0]) (rest := []) C hX (c_RC_word l g (s 7 2) 0 s r1 hc9) (cw_RE_25 C.1.2.2.2.2 C.2.2.2 ⟨by decide, by decide⟩) (x_rc C hX wg_4 rfl) rfl hl.1 rfl (lv_room (Nat.le_of_ble_eq_true rfl)) d_RE_pass_9 ⟨Nat.le_refl _, Nat.le_refl _⟩ (fun H locs hX => ?_)
  refine lv_istore_n (lv' := [(1, .int r1), (0, .ref (g.q 7))]) hx hb d_RE_pass_12 rfl hl (by decide) rfl (fun ls hl => ?_)
  refine lv_iload_n hx hb d_RE_pass_13 rfl (lv_at hl 0 rfl) ?_
  refine lv_iconst (v := 5) hx hb d_RE_pass_14 (by decide) ?_
  refine lv_icmp_ne (tgt := 36) hx hb d_RE_pass_15 (by decide) (fun c15 => ?_) (fun c15 => ?_)
  · have h := ite_f c15 h
    refine lv_iload_n hx hb d_RE_pass_36 rfl (lv_at hl 0 rfl) ?_
    refine lv_bipush (v := 11) hx hb d_RE_pass_37 (by decide) ?_
    refine lv_icmp_eq (tgt := 44) hx hb d_RE_pass_39 (by decide) (fun c39 => ?_) (fun c39 => ?_)
    · have h := ite_t c39 h
      refine lv_aload_n hx hb d_RE_pass_44 rfl (lv_at hl 1 rfl) ?_
      obtain ⟨s2, hc45, h⟩ := bd1_e h
      refine x_vV (As := []) (rest := []) C hX (c_RE_leave l g s s2 hc45) (cw_RE_31_R C.1.2.2.2.2 C.2.2.2 ⟨by decide, by decide⟩) (x_rc C hX wg_7 rfl) rfl hl.1 rfl (lv_room (Nat.le_of_ble_eq_true rfl)) d_RE_pass_45 ⟨Nat.le_refl _, Nat.le_refl _⟩ (fun H locs hX => ?_)
      refine lv_iconst (v := 1) hx hb d_RE_pass_48 (by decide) ?_
      obtain ⟨hz, h⟩ := bz_e h
      obtain rfl := so1 h
      exact hQ _ H locs ls hX hz d_RE_pass_49
    · have h := ite_f c39 h
      refine lv_iconst (v := 0) hx hb d_RE_pass_42 (by decide) ?_
      obtain ⟨hz, h⟩ := bz_e h
      obtain rfl := so1 h
      exact hQ _ H locs ls hX hz d_RE_pass_43
  · have h := ite_t c15 h
    refine lv_aload_n hx hb d_RE_pass_18 rfl (lv_at hl 1 rfl) ?_
    refine lv_aload_n hx hb d_RE_pass_19 rfl (lv_at hl 1 rfl) ?_
    refine gf_7_code C hX fl_RE_9 d_RE_pass_20 ?_
    refine lv_aload_n hx hb d_RE_pass_23 rfl (lv_at hl 1 rfl) ?_
    refine gf_7_next_s C hX fl_RE_21 d_RE_pass_24 ?_
    refine lv_iconst (v := 2) hx hb d_RE_pass_27 (by decide) ?_
    obtain ⟨r3, hc28, h⟩ := bd1_e h
    refine x_vI (As := [.int (s 7 2), .int 2]) (rest := [.ref (g.q 7)]) C hX (c_RC_word l g (s 7 2) 2 s r3 hc28) (cw_RE_25 C.1.2.2.2.2 C.2.2.2 ⟨by decide, by decide⟩) (x_rc C hX wg_4 rfl) rfl hl.1 rfl (lv_room (Nat.le_of_ble_eq_true rfl)) d_RE_pass_28 ⟨Nat.le_refl _, Nat.le_refl _⟩ (fun H locs hX => ?_)
    obtain ⟨s4, es4, h⟩ := lt1_e h
    refine pf_7_next_s C hX fl_RE_21 d_RE_pass_31 (fun H locs hX => ?_)
    rw [← es4] at hX
    refine lv_iconst (v := 1) hx hb d_RE_pass_34 (by decide) ?_
    obtain ⟨hz, h⟩ := bz_e h
    obtain rfl := so1 h
    exact hQ _ H locs ls hX hz d_RE_pass_35
end WALK
theorem c_RE_pass (l : Launch) (g : GX) (s : St) (z : Int32 × St) (h : f_RE_pass s = some z) : MI l g y_RE_pass b_RE_pass 2 (some .boolean) 3 65 [.ref (g.q 7)] (wX g s) z.1 (wX g z.2) :=
  MI.mkZ (own := R_RE) (by decide) rfl (Nat.le_of_ble_eq_true rfl) fun p e ss m below meth c A Q C hQ ls hX hl => w_RE_pass C hQ s _ _ ls hX hl h
-- Eng_open_R_35
def f_Eng_open_R_35_63 (k24 : Int32 → Int32 → Int32 → St → Option St) (x2 : Int32) (x3 : Int32) (x4 : Int32) (y1 : Int32) (y2 : Int32) (s : St) : Option St :=
    lt1 (rSet s 36 224 y1 y2) fun s1 =>
    lt1 (x4 + (1)) fun v2 =>
    k24 x2 x3 v2 s1
def f_Eng_open_R_35_24 : Nat → Int32 → Int32 → Int32 → St → Option St
  | 0, _, _, _, _ => none
  | n + 1, x2, x3, x4, s =>
    if 28 ≤ x4 then
      some s
    else
      lt1 (s 7 1 + x4) fun v1 =>
      if x3 ≤ x4 then
        f_Eng_open_R_35_63 (f_Eng_open_R_35_24 n) x2 x3 x4 v1 0 s
      else
        lt1 (x2 + x4) fun v2 =>
        lt1 (rGet 224 (s 36) v2) fun r3 =>
        f_Eng_open_R_35_63 (f_Eng_open_R_35_24 n) x2 x3 x4 v1 r3 s
def f_Eng_open_R_35 (x2 : Int32) (x3 : Int32) (s : St) : Option St :=
    lt1 (s 7 0 * 28) fun v1 =>
    lt1 (stp s 7 1 v1) fun s2 =>
    lt1 (s2 7 0 + 1) fun v3 =>
    lt1 (stp s2 7 0 v3) fun s4 =>
    f_Eng_open_R_35_24 FU x2 x3 0 s4
section WALK
variable {p : Program} {l : Launch} {e : Env} {ss : State} {m : MethodId} {args : Array Value} {below : List Frame} {meth : Method} {c : Code} {Q : State → Prop} {g : GX} {A : Nat → Prop}
set_option maxHeartbeats 4000000 in
set_option maxRecDepth 100000 in
theorem w_Eng_open_R_35_63 {z : St} (C : Cx g A p m c b_Eng_open 5 ss args R_Eng) (hQ : ∀ (pc : Nat) (H : Heap) (locs : List Loc) (ls : Array Slot), XW g A ss (wX g z) H locs → decode b_Eng_open pc = .ok (.return_, 1) → W p l e (rmX 1 22) ss m args below meth c H locs 0 0 Q (F0 m pc ls [])) (k24 : Int32 → Int32 → Int32 → St → Option St) (hk24 : ∀ (x2 : Int32) (x3 : Int32) (x4 : Int32) (s : St) (H : Heap) (locs : List Loc) (ls : Array Slot), XW g A ss (wX g s) H locs → lv_has ls 5 [(0, .ref (g.q 7)), (1, .ref (g.q 35)), (2, .int x2), (3, .int x3), (4, .int x4)] → k24 x2 x3 x4 s = some z → W p l e (rmX 1 22) ss m args below meth c H locs 0 0 Q (F0 m 24 ls [])) : ∀ (x2 : Int32) (x3 : Int32) (x4 : Int32) (y1 : Int32) (y2 : Int32) (s : St) (H : Heap) (locs : List Loc) (ls : Array Slot), XW g A ss (wX g s) H locs → lv_has ls 5 [(0, .ref (g.q 7)), (1, .ref (g.q 35)), (2, .int x2), (3, .int x3), (4, .int x4)] → f_Eng_open_R_35_63 k24 x2 x3 x4 y1 y2 s = some z → W p l e (rmX 1 22) ss m args below meth c H locs 0 0 Q (F0 m 63 ls [.int y2, .int y1, .ref (g.q 35)]) := by
  have ⟨⟨hx, hb, hml, hown, hts⟩, hK, hA, hN⟩ := C
  intro x2 x3 x4 y1 y2 s H locs ls hX hl h
  rw [f_Eng_open_R_35_63] at h
  obtain ⟨s1, es1, h⟩ := lt1_e h
  refine x_vV (ws' := wX g s1) (As := [.int y1, .int y2]) (rest := []) C hX (by rw [es1]; exact cRowSet_35 l g s y1 y2) (cw_Eng_73 C.1.2.2.2.2 C.2.2.2 ⟨by decide, by decide⟩) (x_rc C hX wg_35 rfl) rfl hl.1 rfl (lv_room (Nat.le_of_ble_eq_true rfl)) d_Eng_open_63 ⟨Nat.le_refl _, Nat.le_refl _⟩ (fun H locs hX => ?_)
  obtain ⟨v2, ev2, h⟩ := lt1_e h
  refine lv_iinc (v := v2) (lv' := [(4, .int v2), (0, .ref (g.q 7)), (1, .ref (g.q 35)), (2, .int x2), (3, .int x3)]) hx hb d_Eng_open_66 hl (k := 4) rfl (by rw [ev2]; rfl) (by decide) rfl (fun ls hl => ?_)
  refine lv_goto (tgt := 24) hx hb d_Eng_open_69 (by decide) ?_
  exact hk24 x2 x3 v2 s1 H locs ls hX (lv_sub hl [1, 2, 3, 4, 0] rfl) h
set_option maxHeartbeats 4000000 in
set_option maxRecDepth 100000 in
theorem w_Eng_open_R_35_24 {z : St} (C : Cx g A p m c b_Eng_open 5 ss args R_Eng) (hQ : ∀ (pc : Nat) (H : Heap) (locs : List Loc) (ls : Array Slot), XW g A ss (wX g z) H locs → decode b_Eng_open pc = .ok (.return_, 1) → W p l e (rmX 1 22) ss m args below meth c H locs 0 0 Q (F0 m pc ls [])) (n : Nat) : ∀ (x2 : Int32) (x3 : Int32) (x4 : Int32) (s : St) (H : Heap) (locs : List Loc) (ls : Array Slot), XW g A ss (wX g s) H locs → lv_has ls 5 [(0, .ref (g.q 7)), (1, .ref (g.q 35)), (2, .int x2), (3, .int x3), (4, .int x4)] → f_Eng_open_R_35_24 n x2 x3 x4 s = some z → W p l e (rmX 1 22) ss m args below meth c H locs 0 0 Q (F0 m 24 ls []) := by
  have ⟨⟨hx, hb, hml, hown, hts⟩, hK, hA, hN⟩ := C
  induction n with
  | zero => intro x2 x3 x4 s H locs ls hX hl h; cases h
  | succ n ih =>
    intro x2 x3 x4 s H locs ls hX hl h
    rw [f_Eng_open_R_35_24] at h
    refine lv_iload hx hb d_Eng_open_24 (lv_at hl 4 rfl) ?_
    refine lv_bipush (v := 28) hx hb d_Eng_open_26 (by decide) ?_
    refine lv_icmp_ge (tgt := 72) hx hb d_Eng_open_28 (by decide) (fun c28 => ?_) (fun c28 => ?_)
    · have h := ite_t c28 h
      obtain rfl := so1 h
      exact hQ _ H locs ls hX d_Eng_open_72
    · have h := ite_f c28 h
      refine lv_aload_n hx hb d_Eng_open_31 rfl (lv_at hl 0 rfl) ?_
      refine gf_7_store C hX fl_Eng_23 d_Eng_open_32 ?_
      refine gf_5_cells C hX fl_Eng_64 d_Eng_open_35 ?_
      refine lv_aload_n hx hb d_Eng_open_38 rfl (lv_at hl 0 rfl) ?_
      refine gf_7_base C hX fl_Eng_61 d_Eng_open_39 ?_
      refine lv_iload hx hb d_Eng_open_42 (lv_at hl 4 rfl) ?_
      obtain ⟨v1, ev1, h⟩ := lt1_e h
      refine x_iadd hx hb d_Eng_open_44 ev1 ?_
      refine lv_iload hx hb d_Eng_open_45 (lv_at hl 4 rfl) ?_
      refine lv_iload_n hx hb d_Eng_open_47 rfl (lv_at hl 3 rfl) ?_
      refine lv_icmp_ge (tgt := 62) hx hb d_Eng_open_48 (by decide) (fun c48 => ?_) (fun c48 => ?_)
      · have h := ite_t c48 h
        refine lv_iconst (v := 0) hx hb d_Eng_open_62 (by decide) ?_
        exact w_Eng_open_R_35_63 C hQ (f_Eng_open_R_35_24 n) ih x2 x3 x4 v1 0 s H locs ls hX hl h
      · have h := ite_f c48 h
        refine lv_aload_n hx hb d_Eng_open_51 rfl (lv_at hl 1 rfl) ?_
        refine lv_iload_n hx hb d_Eng_open_52 rfl (lv_at hl 2 rfl) ?_
        refine lv_iload hx hb d_Eng_open_53 (lv_at hl 4 rfl) ?_
        obtain ⟨v2, ev2, h⟩ := lt1_e h
        refine x_iadd hx hb d_Eng_open_55 ev2 ?_
        obtain ⟨r3, er3, h⟩ := lt1_e h
        refine x_vI (r := r3) (ws' := wX g s) (As := [.int v2]) (rest := [.int v1, .ref (g.q 35)]) C hX (by rw [er3]; exact cRowGet_35 l g s v2) (cw_Eng_69 C.1.2.2.2.2 C.2.2.2 ⟨by decide, by decide⟩) (x_rc C hX wg_35 rfl) rfl hl.1 rfl (lv_room (Nat.le_of_ble_eq_true rfl)) d_Eng_open_56 ⟨Nat.le_refl _, Nat.le_refl _⟩ (fun H locs hX => ?_)
        refine lv_goto (tgt := 63) hx hb d_Eng_open_59 (by decide) ?_
        exact w_Eng_open_R_35_63 C hQ (f_Eng_open_R_35_24 n) ih x2 x3 x4 v1 r3 s H locs ls hX hl h
set_option maxHeartbeats 4000000 in
set_option maxRecDepth 100000 in
theorem w_Eng_open_R_35 {z : St} (C : Cx g A p m c b_Eng_open 5 ss args R_Eng) (hQ : ∀ (pc : Nat) (H : Heap) (locs : List Loc) (ls : Array Slot), XW g A ss (wX g z) H locs → decode b_Eng_open pc = .ok (.return_, 1) → W p l e (rmX 1 22) ss m args below meth c H locs 0 0 Q (F0 m pc ls [])) : ∀ (x2 : Int32) (x3 : Int32) (s : St) (H : Heap) (locs : List Loc) (ls : Array Slot), XW g A ss (wX g s) H locs → lv_has ls 5 [(0, .ref (g.q 7)), (1, .ref (g.q 35)), (2, .int x2), (3, .int x3)] → f_Eng_open_R_35 x2 x3 s = some z → W p l e (rmX 1 22) ss m args below meth c H locs 0 0 Q (F0 m 0 ls []) := by
  have ⟨⟨hx, hb, hml, hown, hts⟩, hK, hA, hN⟩ := C
  intro x2 x3 s H locs ls hX hl h
  rw [f_Eng_open_R_35] at h
  refine lv_aload_n hx hb d_Eng_open_0 rfl (lv_at hl 0 rfl) ?_
  refine lv_aload_n hx hb d_Eng_open_1 rfl (lv_at hl 0 rfl) ?_
  refine gf_7_calls C hX fl_Eng_34 d_Eng_open_2 ?_
  refine lv_bipush (v := 28) hx hb d_Eng_open_5 (by decide) ?_
  obtain ⟨v1, ev1, h⟩ := lt1_e h
  refine x_imul hx hb d_Eng_open_7 ev1 ?_
  obtain ⟨s2, es2, h⟩ := lt1_e h
  refine pf_7_base C hX fl_Eng_61 d_Eng_open_8 (fun H locs hX => ?_)
  rw [← es2] at hX
  refine lv_aload_n hx hb d_Eng_open_11 rfl (lv_at hl 0 rfl) ?_
  refine lv_dup hx hb d_Eng_open_12 rfl ?_
  refine gf_7_calls C hX fl_Eng_34 d_Eng_open_13 ?_
  refine lv_iconst (v := 1) hx hb d_Eng_open_16 (by decide) ?_
  obtain ⟨v3, ev3, h⟩ := lt1_e h
  refine x_iadd hx hb d_Eng_open_17 ev3 ?_
  obtain ⟨s4, es4, h⟩ := lt1_e h
  refine pf_7_calls C hX fl_Eng_34 d_Eng_open_18 (fun H locs hX => ?_)
  rw [← es4] at hX
  refine lv_iconst (v := 0) hx hb d_Eng_open_21 (by decide) ?_
  refine lv_istore (lv' := [(4, .int 0), (0, .ref (g.q 7)), (1, .ref (g.q 35)), (2, .int x2), (3, .int x3)]) hx hb d_Eng_open_22 hl (by decide) rfl (fun ls hl => ?_)
  exact w_Eng_open_R_35_24 C hQ FU x2 x3 0 s4 H locs ls hX (lv_sub hl [1, 2, 3, 4, 0] rfl) h
end WALK
theorem c_Eng_open_R_35 (l : Launch) (g : GX) (x2 : Int32) (x3 : Int32) (s : St) (z : St) (h : f_Eng_open_R_35 x2 x3 s = some z) : MV l g y_Eng_open b_Eng_open 5 none 1 22 [.ref (g.q 7), .ref (g.q 35), .int x2, .int x3] (wX g s) (wX g z) :=
  MV.mk (own := R_Eng) (by decide) rfl (Nat.le_of_ble_eq_true rfl) fun p e ss m below meth c A Q C hQ ls hX hl => w_Eng_open_R_35 C hQ x2 x3 s _ _ ls hX hl h
-- Eng_openFrom_R
def f_Eng_openFrom_R (x1 : Int32) (x2 : Int32) (s : St) : Option (Int32 × St) :=
    if s 7 0 < 8 then
      lt1 (s 7 2 + 1) fun v1 =>
      lt1 (rSet s 44 8 (s 7 0) v1) fun s2 =>
      lt1 (x1 - x2) fun v3 =>
      lt1 (rSet s2 46 8 (s2 7 0) v3) fun s4 =>
      lt1 (x1 - x2) fun v5 =>
      bd1 (f_Eng_open_R_35 v5 x2 s4) fun s6 =>
      bz 1 <|
      some (1, s6)
    else
      lt1 (stp s 7 3 6) fun s7 =>
      bz 0 <|
      some (0, s7)
section WALK
variable {p : Program} {l : Launch} {e : Env} {ss : State} {m : MethodId} {args : Array Value} {below : List Frame} {meth : Method} {c : Code} {Q : State → Prop} {g : GX} {A : Nat → Prop}
set_option maxHeartbeats 4000000 in
set_option maxRecDepth 100000 in
theorem w_Eng_openFrom_R {z : Int32 × St} (C : Cx g A p m c b_Eng_openFrom 3 ss args R_Eng) (hQ : ∀ (pc : Nat) (H : Heap) (locs : List Loc) (ls : Array Slot), XW g A ss (wX g z.2) H locs → (z.1 = 0 ∨ z.1 = 1) → decode b_Eng_openFrom pc = .ok (.ireturn, 1) → W p l e (rmX 2 46) ss m args below meth c H locs 0 0 Q (F0 m pc ls [.int z.1])) : ∀ (x1 : Int32) (x2 : Int32) (s : St) (H : Heap) (locs : List Loc) (ls : Array Slot), XW g A ss (wX g s) H locs → lv_has ls 3 [(0, .ref (g.q 7)), (1, .int x1), (2, .int x2)] → f_Eng_openFrom_R x1 x2 s = some z → W p l e (rmX 2 46) ss m args below meth c H locs 0 0 Q (F0 m 0 ls []) := by
  have ⟨⟨hx, hb, hml, hown, hts⟩, hK, hA, hN⟩ := C
  intro x1 x2 s H locs ls hX hl h
  rw [f_Eng_openFrom_R] at h
  refine lv_aload_n hx hb d_Eng_openFrom_0 rfl (lv_at hl 0 rfl) ?_
  refine gf_7_calls C hX fl_Eng_34 d_Eng_openFrom_1 ?_
  refine lv_bipush (v := 8) hx hb d_Eng_openFrom_4 (by decide) ?_
  refine lv_icmp_lt (tgt := 17) hx hb d_Eng_openFrom_6 (by decide) (fun c6 => ?_) (fun c6 => ?_)
  · have h := ite_t c6 h
    refine lv_aload_n hx hb d_Eng_openFrom_17 rfl (lv_at hl 0 rfl) ?_
    refine gf_7_nexts C hX fl_Eng_14 d_Eng_openFrom_18 ?_
    refine lv_aload_n hx hb d_Eng_openFrom_21 rfl (lv_at hl 0 rfl) ?_
    refine gf_7_calls C hX fl_Eng_34 d_Eng_openFrom_22 ?_
    refine lv_aload_n hx hb d_Eng_openFrom_25 rfl (lv_at hl 0 rfl) ?_
    refine gf_7_next C hX fl_Eng_77 d_Eng_openFrom_26 ?_
    refine lv_iconst (v := 1) hx hb d_Eng_openFrom_29 (by decide) ?_
    obtain ⟨v1, ev1, h⟩ := lt1_e h
    refine x_iadd hx hb d_Eng_openFrom_30 ev1 ?_
    obtain ⟨s2, es2, h⟩ := lt1_e h
    refine x_vV (ws' := wX g s2) (As := [.int (s 7 0), .int v1]) (rest := []) C hX (by rw [es2]; exact cRowSet_43 l g s (s 7 0) v1) (cw_Eng_73 C.1.2.2.2.2 C.2.2.2 ⟨by decide, by decide⟩) (x_rc C hX wg_43 rfl) rfl hl.1 rfl (lv_room (Nat.le_of_ble_eq_true rfl)) d_Eng_openFrom_31 ⟨Nat.le_refl _, Nat.le_refl _⟩ (fun H locs hX => ?_)
    refine lv_aload_n hx hb d_Eng_openFrom_34 rfl (lv_at hl 0 rfl) ?_
    refine gf_7_tops C hX fl_Eng_20 d_Eng_openFrom_35 ?_
    refine lv_aload_n hx hb d_Eng_openFrom_38 rfl (lv_at hl 0 rfl) ?_
    refine gf_7_calls C hX fl_Eng_34 d_Eng_openFrom_39 ?_
    refine lv_iload_n hx hb d_Eng_openFrom_42 rfl (lv_at hl 1 rfl) ?_
    refine lv_iload_n hx hb d_Eng_openFrom_43 rfl (lv_at hl 2 rfl) ?_
    obtain ⟨v3, ev3, h⟩ := lt1_e h
    refine x_isub hx hb d_Eng_openFrom_44 ev3 ?_
    obtain ⟨s4, es4, h⟩ := lt1_e h
    refine x_vV (ws' := wX g s4) (As := [.int (s2 7 0), .int v3]) (rest := []) C hX (by rw [es4]; exact cRowSet_45 l g s2 (s2 7 0) v3) (cw_Eng_73 C.1.2.2.2.2 C.2.2.2 ⟨by decide, by decide⟩) (x_rc C hX wg_45 rfl) rfl hl.1 rfl (lv_room (Nat.le_of_ble_eq_true rfl)) d_Eng_openFrom_45 ⟨Nat.le_refl _, Nat.le_refl _⟩ (fun H locs hX => ?_)
    refine lv_aload_n hx hb d_Eng_openFrom_48 rfl (lv_at hl 0 rfl) ?_
    refine lv_aload_n hx hb d_Eng_openFrom_49 rfl (lv_at hl 0 rfl) ?_
    refine gf_7_store C hX fl_Eng_23 d_Eng_openFrom_50 ?_
    refine gf_5_cells C hX fl_Eng_64 d_Eng_openFrom_53 ?_
    refine lv_iload_n hx hb d_Eng_openFrom_56 rfl (lv_at hl 1 rfl) ?_
    refine lv_iload_n hx hb d_Eng_openFrom_57 rfl (lv_at hl 2 rfl) ?_
    obtain ⟨v5, ev5, h⟩ := lt1_e h
    refine x_isub hx hb d_Eng_openFrom_58 ev5 ?_
    refine lv_iload_n hx hb d_Eng_openFrom_59 rfl (lv_at hl 2 rfl) ?_
    obtain ⟨s6, hc60, h⟩ := bd1_e h
    refine x_vV (As := [.ref (g.q 35), .int v5, .int x2]) (rest := []) C hX (c_Eng_open_R_35 l g v5 x2 s4 s6 hc60) (cw_Eng_37_R C.1.2.2.2.2 C.2.2.2 ⟨by decide, by decide⟩) (x_rc C hX wg_7 rfl) rfl hl.1 rfl (lv_room (Nat.le_of_ble_eq_true rfl)) d_Eng_openFrom_60 ⟨Nat.le_refl _, Nat.le_refl _⟩ (fun H locs hX => ?_)
    refine lv_iconst (v := 1) hx hb d_Eng_openFrom_63 (by decide) ?_
    obtain ⟨hz, h⟩ := bz_e h
    obtain rfl := so1 h
    exact hQ _ H locs ls hX hz d_Eng_openFrom_64
  · have h := ite_f c6 h
    refine lv_aload_n hx hb d_Eng_openFrom_9 rfl (lv_at hl 0 rfl) ?_
    refine lv_bipush (v := 6) hx hb d_Eng_openFrom_10 (by decide) ?_
    obtain ⟨s7, es7, h⟩ := lt1_e h
    refine pf_7_outcome C hX fl_Eng_27 d_Eng_openFrom_12 (fun H locs hX => ?_)
    rw [← es7] at hX
    refine lv_iconst (v := 0) hx hb d_Eng_openFrom_15 (by decide) ?_
    obtain ⟨hz, h⟩ := bz_e h
    obtain rfl := so1 h
    exact hQ _ H locs ls hX hz d_Eng_openFrom_16
end WALK
theorem c_Eng_openFrom_R (l : Launch) (g : GX) (x1 : Int32) (x2 : Int32) (s : St) (z : Int32 × St) (h : f_Eng_openFrom_R x1 x2 s = some z) : MI l g y_Eng_openFrom b_Eng_openFrom 3 (some .boolean) 2 46 [.ref (g.q 7), .int x1, .int x2] (wX g s) z.1 (wX g z.2) :=
  MI.mkZ (own := R_Eng) (by decide) rfl (Nat.le_of_ble_eq_true rfl) fun p e ss m below meth c A Q C hQ ls hX hl => w_Eng_openFrom_R C hQ x1 x2 s _ _ ls hX hl h
-- RE_call
def f_RE_call_38 (x1 : Int32) (x2 : Int32) (s : St) : Option St :=
    some s
def f_RE_call (x1 : Int32) (s : St) : Option St :=
    bd1 (f_RC_word s (s 7 2) 2) fun r1 =>
    bd1 (f_RC_word s (s 7 2) 3) fun r2 =>
    bd (f_Eng_openFrom_R x1 r2 s) fun r4 s3 =>
    if r4 = 0 then
      f_RE_call_38 x1 r1 s3
    else
      lt1 (stp s3 7 2 r1) fun s5 =>
      f_RE_call_38 x1 r1 s5
section WALK
variable {p : Program} {l : Launch} {e : Env} {ss : State} {m : MethodId} {args : Array Value} {below : List Frame} {meth : Method} {c : Code} {Q : State → Prop} {g : GX} {A : Nat → Prop}
set_option maxHeartbeats 4000000 in
set_option maxRecDepth 100000 in
theorem w_RE_call_38 {z : St} (C : Cx g A p m c b_RE_call 3 ss args R_RE) (hQ : ∀ (pc : Nat) (H : Heap) (locs : List Loc) (ls : Array Slot), XW g A ss (wX g z) H locs → decode b_RE_call pc = .ok (.return_, 1) → W p l e (rmX 3 68) ss m args below meth c H locs 0 0 Q (F0 m pc ls [])) : ∀ (x1 : Int32) (x2 : Int32) (s : St) (H : Heap) (locs : List Loc) (ls : Array Slot), XW g A ss (wX g s) H locs → lv_has ls 3 [(0, .ref (g.q 7)), (1, .int x1), (2, .int x2)] → f_RE_call_38 x1 x2 s = some z → W p l e (rmX 3 68) ss m args below meth c H locs 0 0 Q (F0 m 38 ls []) := by
  have ⟨⟨hx, hb, hml, hown, hts⟩, hK, hA, hN⟩ := C
  intro x1 x2 s H locs ls hX hl h
  rw [f_RE_call_38] at h
  obtain rfl := so1 h
  exact hQ _ H locs ls hX d_RE_call_38
set_option maxHeartbeats 4000000 in
set_option maxRecDepth 100000 in
theorem w_RE_call {z : St} (C : Cx g A p m c b_RE_call 3 ss args R_RE) (hQ : ∀ (pc : Nat) (H : Heap) (locs : List Loc) (ls : Array Slot), XW g A ss (wX g z) H locs → decode b_RE_call pc = .ok (.return_, 1) → W p l e (rmX 3 68) ss m args below meth c H locs 0 0 Q (F0 m pc ls [])) : ∀ (x1 : Int32) (s : St) (H : Heap) (locs : List Loc) (ls : Array Slot), XW g A ss (wX g s) H locs → lv_has ls 3 [(0, .ref (g.q 7)), (1, .int x1)] → f_RE_call x1 s = some z → W p l e (rmX 3 68) ss m args below meth c H locs 0 0 Q (F0 m 0 ls []) := by
  have ⟨⟨hx, hb, hml, hown, hts⟩, hK, hA, hN⟩ := C
  intro x1 s H locs ls hX hl h
  rw [f_RE_call] at h
  refine lv_aload_n hx hb d_RE_call_0 rfl (lv_at hl 0 rfl) ?_
  refine gf_7_code C hX fl_RE_9 d_RE_call_1 ?_
  refine lv_aload_n hx hb d_RE_call_4 rfl (lv_at hl 0 rfl) ?_
  refine gf_7_next_s C hX fl_RE_21 d_RE_call_5 ?_
  refine lv_iconst (v := 2) hx hb d_RE_call_8 (by decide) ?_
  obtain ⟨r1, hc9, h⟩ := bd1_e h
  refine x_vI (As := [.int (s 7 2), .int 2]) (rest := []) C hX (c_RC_word l g (s 7 2) 2 s r1 hc9) (cw_RE_25 C.1.2.2.2.2 C.2.2.2 ⟨by decide, by decide⟩) (x_rc C hX wg_4 rfl) rfl hl.1 rfl (lv_room (Nat.le_of_ble_eq_true rfl)) d_RE_call_9 ⟨Nat.le_refl _, Nat.le_refl _⟩ (fun H locs hX => ?_)
  refine lv_istore_n (lv' := [(2, .int r1), (0, .ref (g.q 7)), (1, .int x1)]) hx hb d_RE_call_12 rfl hl (by decide) rfl (fun ls hl => ?_)
  refine lv_aload_n hx hb d_RE_call_13 rfl (lv_at hl 1 rfl) ?_
  refine lv_iload_n hx hb d_RE_call_14 rfl (lv_at hl 2 rfl) ?_
  refine lv_aload_n hx hb d_RE_call_15 rfl (lv_at hl 1 rfl) ?_
  refine gf_7_code C hX fl_RE_9 d_RE_call_16 ?_
  refine lv_aload_n hx hb d_RE_call_19 rfl (lv_at hl 1 rfl) ?_
  refine gf_7_next_s C hX fl_RE_21 d_RE_call_20 ?_
  refine lv_iconst (v := 3) hx hb d_RE_call_23 (by decide) ?_
  obtain ⟨r2, hc24, h⟩ := bd1_e h
  refine x_vI (As := [.int (s 7 2), .int 3]) (rest := [.int x1, .ref (g.q 7)]) C hX (c_RC_word l g (s 7 2) 3 s r2 hc24) (cw_RE_25 C.1.2.2.2.2 C.2.2.2 ⟨by decide, by decide⟩) (x_rc C hX wg_4 rfl) rfl hl.1 rfl (lv_room (Nat.le_of_ble_eq_true rfl)) d_RE_call_24 ⟨Nat.le_refl _, Nat.le_refl _⟩ (fun H locs hX => ?_)
  obtain ⟨r4, s3, hc27, h⟩ := bd_e h
  refine x_uI (As := [.int x1, .int r2]) (rest := []) C hX (c_Eng_openFrom_R l g x1 r2 s (r4, s3) hc27) (cw_RE_85_R C.1.2.2.2.2 C.2.2.2 ⟨by decide, by decide⟩) (x_rc C hX wg_7 rfl) rfl hl.1 rfl (lv_room (Nat.le_of_ble_eq_true rfl)) d_RE_call_27 ⟨Nat.le_refl _, Nat.le_refl _⟩ (fun H locs hX => ?_)
  refine lv_if_eq (tgt := 38) hx hb d_RE_call_30 (by decide) (fun c30 => ?_) (fun c30 => ?_)
  · have h := ite_t c30 h
    exact w_RE_call_38 C hQ x1 r1 s3 H locs ls hX (lv_sub hl [1, 2, 0] rfl) h
  · have h := ite_f c30 h
    refine lv_aload_n hx hb d_RE_call_33 rfl (lv_at hl 1 rfl) ?_
    refine lv_iload_n hx hb d_RE_call_34 rfl (lv_at hl 0 rfl) ?_
    obtain ⟨s5, es5, h⟩ := lt1_e h
    refine pf_7_next_s C hX fl_RE_21 d_RE_call_35 (fun H locs hX => ?_)
    rw [← es5] at hX
    exact w_RE_call_38 C hQ x1 r1 s5 H locs ls hX (lv_sub hl [1, 2, 0] rfl) h
end WALK
theorem c_RE_call (l : Launch) (g : GX) (x1 : Int32) (s : St) (z : St) (h : f_RE_call x1 s = some z) : MV l g y_RE_call b_RE_call 3 none 3 68 [.ref (g.q 7), .int x1] (wX g s) (wX g z) :=
  MV.mk (own := R_RE) (by decide) rfl (Nat.le_of_ble_eq_true rfl) fun p e ss m below meth c A Q C hQ ls hX hl => w_RE_call C hQ x1 s _ _ ls hX hl h
-- RE_branch
def f_RE_branch_48 (x1 : Int32) (x2 : Int32) (x3 : Int32) (s : St) : Option St :=
    bd1 (f_RC_word s x1 2) fun r1 =>
    lt1 (stp s 7 2 r1) fun s2 =>
    some s2
def f_RE_branch (x1 : Int32) (x2 : Int32) (s : St) : Option St :=
    bd1 (f_RC_word s x1 3) fun r1 =>
    lt1 (r1 &&& 1) fun v2 =>
    if v2 = 1 then
      lt1 (r1 >>> (1 &&& 31)) fun v3 =>
      lt1 (s 7 1 + v3) fun v4 =>
      lt1 (x2 - 1) fun v5 =>
      lt1 (rGet 224 (s 36) v5) fun r6 =>
      lt1 (rSet s 36 224 v4 r6) fun s7 =>
      f_RE_branch_48 x1 x2 r1 s7
    else
      f_RE_branch_48 x1 x2 r1 s
section WALK
variable {p : Program} {l : Launch} {e : Env} {ss : State} {m : MethodId} {args : Array Value} {below : List Frame} {meth : Method} {c : Code} {Q : State → Prop} {g : GX} {A : Nat → Prop}
set_option maxHeartbeats 4000000 in
set_option maxRecDepth 100000 in
theorem w_RE_branch_48 {z : St} (C : Cx g A p m c b_RE_branch 4 ss args R_RE) (hQ : ∀ (pc : Nat) (H : Heap) (locs : List Loc) (ls : Array Slot), XW g A ss (wX g z) H locs → decode b_RE_branch pc = .ok (.return_, 1) → W p l e (rmX 2 43) ss m args below meth c H locs 0 0 Q (F0 m pc ls [])) : ∀ (x1 : Int32) (x2 : Int32) (x3 : Int32) (s : St) (H : Heap) (locs : List Loc) (ls : Array Slot), XW g A ss (wX g s) H locs → lv_has ls 4 [(0, .ref (g.q 7)), (1, .int x1), (2, .int x2), (3, .int x3)] → f_RE_branch_48 x1 x2 x3 s = some z → W p l e (rmX 2 43) ss m args below meth c H locs 0 0 Q (F0 m 48 ls []) := by
  have ⟨⟨hx, hb, hml, hown, hts⟩, hK, hA, hN⟩ := C
  intro x1 x2 x3 s H locs ls hX hl h
  rw [f_RE_branch_48] at h
  refine lv_aload_n hx hb d_RE_branch_48 rfl (lv_at hl 0 rfl) ?_
  refine lv_aload_n hx hb d_RE_branch_49 rfl (lv_at hl 0 rfl) ?_
  refine gf_7_code C hX fl_RE_9 d_RE_branch_50 ?_
  refine lv_iload_n hx hb d_RE_branch_53 rfl (lv_at hl 1 rfl) ?_
  refine lv_iconst (v := 2) hx hb d_RE_branch_54 (by decide) ?_
  obtain ⟨r1, hc55, h⟩ := bd1_e h
  refine x_vI (As := [.int x1, .int 2]) (rest := [.ref (g.q 7)]) C hX (c_RC_word l g x1 2 s r1 hc55) (cw_RE_25 C.1.2.2.2.2 C.2.2.2 ⟨by decide, by decide⟩) (x_rc C hX wg_4 rfl) rfl hl.1 rfl (lv_room (Nat.le_of_ble_eq_true rfl)) d_RE_branch_55 ⟨Nat.le_refl _, Nat.le_refl _⟩ (fun H locs hX => ?_)
  obtain ⟨s2, es2, h⟩ := lt1_e h
  refine pf_7_next_s C hX fl_RE_21 d_RE_branch_58 (fun H locs hX => ?_)
  rw [← es2] at hX
  obtain rfl := so1 h
  exact hQ _ H locs ls hX d_RE_branch_61
set_option maxHeartbeats 4000000 in
set_option maxRecDepth 100000 in
theorem w_RE_branch {z : St} (C : Cx g A p m c b_RE_branch 4 ss args R_RE) (hQ : ∀ (pc : Nat) (H : Heap) (locs : List Loc) (ls : Array Slot), XW g A ss (wX g z) H locs → decode b_RE_branch pc = .ok (.return_, 1) → W p l e (rmX 2 43) ss m args below meth c H locs 0 0 Q (F0 m pc ls [])) : ∀ (x1 : Int32) (x2 : Int32) (s : St) (H : Heap) (locs : List Loc) (ls : Array Slot), XW g A ss (wX g s) H locs → lv_has ls 4 [(0, .ref (g.q 7)), (1, .int x1), (2, .int x2)] → f_RE_branch x1 x2 s = some z → W p l e (rmX 2 43) ss m args below meth c H locs 0 0 Q (F0 m 0 ls []) := by
  have ⟨⟨hx, hb, hml, hown, hts⟩, hK, hA, hN⟩ := C
  intro x1 x2 s H locs ls hX hl h
  rw [f_RE_branch] at h
  refine lv_aload_n hx hb d_RE_branch_0 rfl (lv_at hl 0 rfl) ?_
  refine gf_7_code C hX fl_RE_9 d_RE_branch_1 ?_
  refine lv_iload_n hx hb d_RE_branch_4 rfl (lv_at hl 1 rfl) ?_
  refine lv_iconst (v := 3) hx hb d_RE_branch_5 (by decide) ?_
  obtain ⟨r1, hc6, h⟩ := bd1_e h
  refine x_vI (As := [.int x1, .int 3]) (rest := []) C hX (c_RC_word l g x1 3 s r1 hc6) (cw_RE_25 C.1.2.2.2.2 C.2.2.2 ⟨by decide, by decide⟩) (x_rc C hX wg_4 rfl) rfl hl.1 rfl (lv_room (Nat.le_of_ble_eq_true rfl)) d_RE_branch_6 ⟨Nat.le_refl _, Nat.le_refl _⟩ (fun H locs hX => ?_)
  refine lv_istore_n (lv' := [(3, .int r1), (0, .ref (g.q 7)), (1, .int x1), (2, .int x2)]) hx hb d_RE_branch_9 rfl hl (by decide) rfl (fun ls hl => ?_)
  refine lv_iload_n hx hb d_RE_branch_10 rfl (lv_at hl 0 rfl) ?_
  refine lv_iconst (v := 1) hx hb d_RE_branch_11 (by decide) ?_
  obtain ⟨v2, ev2, h⟩ := lt1_e h
  refine x_iand hx hb d_RE_branch_12 ev2 ?_
  refine lv_iconst (v := 1) hx hb d_RE_branch_13 (by decide) ?_
  refine lv_icmp_ne (tgt := 48) hx hb d_RE_branch_14 (by decide) (fun c14 => ?_) (fun c14 => ?_)
  · have h := ite_f c14 h
    exact w_RE_branch_48 C hQ x1 x2 r1 s H locs ls hX (lv_sub hl [1, 2, 3, 0] rfl) h
  · have h := ite_t c14 h
    refine lv_aload_n hx hb d_RE_branch_17 rfl (lv_at hl 1 rfl) ?_
    refine gf_7_store_s C hX fl_RE_46 d_RE_branch_18 ?_
    refine gf_5_cells C hX fl_RE_59 d_RE_branch_21 ?_
    refine lv_aload_n hx hb d_RE_branch_24 rfl (lv_at hl 1 rfl) ?_
    refine gf_7_base_s C hX fl_RE_35 d_RE_branch_25 ?_
    refine lv_iload_n hx hb d_RE_branch_28 rfl (lv_at hl 0 rfl) ?_
    refine lv_iconst (v := 1) hx hb d_RE_branch_29 (by decide) ?_
    obtain ⟨v3, ev3, h⟩ := lt1_e h
    refine x_ishr hx hb d_RE_branch_30 ev3 ?_
    obtain ⟨v4, ev4, h⟩ := lt1_e h
    refine x_iadd hx hb d_RE_branch_31 ev4 ?_
    refine lv_aload_n hx hb d_RE_branch_32 rfl (lv_at hl 1 rfl) ?_
    refine gf_7_store_s C hX fl_RE_46 d_RE_branch_33 ?_
    refine gf_5_cells C hX fl_RE_59 d_RE_branch_36 ?_
    refine lv_iload_n hx hb d_RE_branch_39 rfl (lv_at hl 3 rfl) ?_
    refine lv_iconst (v := 1) hx hb d_RE_branch_40 (by decide) ?_
    obtain ⟨v5, ev5, h⟩ := lt1_e h
    refine x_isub hx hb d_RE_branch_41 ev5 ?_
    obtain ⟨r6, er6, h⟩ := lt1_e h
    refine x_vI (r := r6) (ws' := wX g s) (As := [.int v5]) (rest := [.int v4, .ref (g.q 35)]) C hX (by rw [er6]; exact cRowGet_35 l g s v5) (cw_RE_63 C.1.2.2.2.2 C.2.2.2 ⟨by decide, by decide⟩) (x_rc C hX wg_35 rfl) rfl hl.1 rfl (lv_room (Nat.le_of_ble_eq_true rfl)) d_RE_branch_42 ⟨Nat.le_refl _, Nat.le_refl _⟩ (fun H locs hX => ?_)
    obtain ⟨s7, es7, h⟩ := lt1_e h
    refine x_vV (ws' := wX g s7) (As := [.int v4, .int r6]) (rest := []) C hX (by rw [es7]; exact cRowSet_35 l g s v4 r6) (cw_RE_82 C.1.2.2.2.2 C.2.2.2 ⟨by decide, by decide⟩) (x_rc C hX wg_35 rfl) rfl hl.1 rfl (lv_room (Nat.le_of_ble_eq_true rfl)) d_RE_branch_45 ⟨Nat.le_refl _, Nat.le_refl _⟩ (fun H locs hX => ?_)
    exact w_RE_branch_48 C hQ x1 x2 r1 s7 H locs ls hX (lv_sub hl [1, 2, 3, 0] rfl) h
end WALK
theorem c_RE_branch (l : Launch) (g : GX) (x1 : Int32) (x2 : Int32) (s : St) (z : St) (h : f_RE_branch x1 x2 s = some z) : MV l g y_RE_branch b_RE_branch 4 none 2 43 [.ref (g.q 7), .int x1, .int x2] (wX g s) (wX g z) :=
  MV.mk (own := R_RE) (by decide) rfl (Nat.le_of_ble_eq_true rfl) fun p e ss m below meth c A Q C hQ ls hX hl => w_RE_branch C hQ x1 x2 s _ _ ls hX hl h
-- RE_branchByTable
def f_RE_branchByTable_32 (x1 : Int32) (x2 : Int32) (y0 : Int32) (y1 : Int32) (s : St) : Option St :=
    lt1 (y0 + y1) fun v1 =>
    bd1 (f_RC_word s v1 1) fun r2 =>
    lt1 (s 7 1 + r2) fun v3 =>
    bd1 (f_RE_branch v1 v3 s) fun s4 =>
    some s4
def f_RE_branchByTable (x1 : Int32) (s : St) : Option St :=
    bd1 (f_RC_word s (s 7 2) 2) fun r1 =>
    lt1 (s 7 2 + 1) fun v2 =>
    bd1 (f_X_isAbove x1 r1) fun r3 =>
    if r3 = 0 then
      f_RE_branchByTable_32 x1 r1 v2 x1 s
    else
      f_RE_branchByTable_32 x1 r1 v2 r1 s
section WALK
variable {p : Program} {l : Launch} {e : Env} {ss : State} {m : MethodId} {args : Array Value} {below : List Frame} {meth : Method} {c : Code} {Q : State → Prop} {g : GX} {A : Nat → Prop}
set_option maxHeartbeats 4000000 in
set_option maxRecDepth 100000 in
theorem w_RE_branchByTable_32 {z : St} (C : Cx g A p m c b_RE_branchByTable 4 ss args R_RE) (hQ : ∀ (pc : Nat) (H : Heap) (locs : List Loc) (ls : Array Slot), XW g A ss (wX g z) H locs → decode b_RE_branchByTable pc = .ok (.return_, 1) → W p l e (rmX 3 66) ss m args below meth c H locs 0 0 Q (F0 m pc ls [])) : ∀ (x1 : Int32) (x2 : Int32) (y0 : Int32) (y1 : Int32) (s : St) (H : Heap) (locs : List Loc) (ls : Array Slot), XW g A ss (wX g s) H locs → lv_has ls 4 [(0, .ref (g.q 7)), (1, .int x1), (2, .int x2)] → f_RE_branchByTable_32 x1 x2 y0 y1 s = some z → W p l e (rmX 3 66) ss m args below meth c H locs 0 0 Q (F0 m 32 ls [.int y1, .int y0]) := by
  have ⟨⟨hx, hb, hml, hown, hts⟩, hK, hA, hN⟩ := C
  intro x1 x2 y0 y1 s H locs ls hX hl h
  rw [f_RE_branchByTable_32] at h
  obtain ⟨v1, ev1, h⟩ := lt1_e h
  refine x_iadd hx hb d_RE_branchByTable_32 ev1 ?_
  refine lv_istore_n (lv' := [(3, .int v1), (0, .ref (g.q 7)), (1, .int x1), (2, .int x2)]) hx hb d_RE_branchByTable_33 rfl hl (by decide) rfl (fun ls hl => ?_)
  refine lv_aload_n hx hb d_RE_branchByTable_34 rfl (lv_at hl 1 rfl) ?_
  refine lv_iload_n hx hb d_RE_branchByTable_35 rfl (lv_at hl 0 rfl) ?_
  refine lv_aload_n hx hb d_RE_branchByTable_36 rfl (lv_at hl 1 rfl) ?_
  refine gf_7_base_s C hX fl_RE_35 d_RE_branchByTable_37 ?_
  refine lv_aload_n hx hb d_RE_branchByTable_40 rfl (lv_at hl 1 rfl) ?_
  refine gf_7_code C hX fl_RE_9 d_RE_branchByTable_41 ?_
  refine lv_iload_n hx hb d_RE_branchByTable_44 rfl (lv_at hl 0 rfl) ?_
  refine lv_iconst (v := 1) hx hb d_RE_branchByTable_45 (by decide) ?_
  obtain ⟨r2, hc46, h⟩ := bd1_e h
  refine x_vI (As := [.int v1, .int 1]) (rest := [.int (s 7 1), .int v1, .ref (g.q 7)]) C hX (c_RC_word l g v1 1 s r2 hc46) (cw_RE_25 C.1.2.2.2.2 C.2.2.2 ⟨by decide, by decide⟩) (x_rc C hX wg_4 rfl) rfl hl.1 rfl (lv_room (Nat.le_of_ble_eq_true rfl)) d_RE_branchByTable_46 ⟨Nat.le_refl _, Nat.le_refl _⟩ (fun H locs hX => ?_)
  obtain ⟨v3, ev3, h⟩ := lt1_e h
  refine x_iadd hx hb d_RE_branchByTable_49 ev3 ?_
  obtain ⟨s4, hc50, h⟩ := bd1_e h
  refine x_vV (As := [.int v1, .int v3]) (rest := []) C hX (c_RE_branch l g v1 v3 s s4 hc50) (cw_RE_68_R C.1.2.2.2.2 C.2.2.2 ⟨by decide, by decide⟩) (x_rc C hX wg_7 rfl) rfl hl.1 rfl (lv_room (Nat.le_of_ble_eq_true rfl)) d_RE_branchByTable_50 ⟨Nat.le_refl _, Nat.le_refl _⟩ (fun H locs hX => ?_)
  obtain rfl := so1 h
  exact hQ _ H locs ls hX d_RE_branchByTable_53
set_option maxHeartbeats 4000000 in
set_option maxRecDepth 100000 in
theorem w_RE_branchByTable {z : St} (C : Cx g A p m c b_RE_branchByTable 4 ss args R_RE) (hQ : ∀ (pc : Nat) (H : Heap) (locs : List Loc) (ls : Array Slot), XW g A ss (wX g z) H locs → decode b_RE_branchByTable pc = .ok (.return_, 1) → W p l e (rmX 3 66) ss m args below meth c H locs 0 0 Q (F0 m pc ls [])) : ∀ (x1 : Int32) (s : St) (H : Heap) (locs : List Loc) (ls : Array Slot), XW g A ss (wX g s) H locs → lv_has ls 4 [(0, .ref (g.q 7)), (1, .int x1)] → f_RE_branchByTable x1 s = some z → W p l e (rmX 3 66) ss m args below meth c H locs 0 0 Q (F0 m 0 ls []) := by
  have ⟨⟨hx, hb, hml, hown, hts⟩, hK, hA, hN⟩ := C
  intro x1 s H locs ls hX hl h
  rw [f_RE_branchByTable] at h
  refine lv_aload_n hx hb d_RE_branchByTable_0 rfl (lv_at hl 0 rfl) ?_
  refine gf_7_code C hX fl_RE_9 d_RE_branchByTable_1 ?_
  refine lv_aload_n hx hb d_RE_branchByTable_4 rfl (lv_at hl 0 rfl) ?_
  refine gf_7_next_s C hX fl_RE_21 d_RE_branchByTable_5 ?_
  refine lv_iconst (v := 2) hx hb d_RE_branchByTable_8 (by decide) ?_
  obtain ⟨r1, hc9, h⟩ := bd1_e h
  refine x_vI (As := [.int (s 7 2), .int 2]) (rest := []) C hX (c_RC_word l g (s 7 2) 2 s r1 hc9) (cw_RE_25 C.1.2.2.2.2 C.2.2.2 ⟨by decide, by decide⟩) (x_rc C hX wg_4 rfl) rfl hl.1 rfl (lv_room (Nat.le_of_ble_eq_true rfl)) d_RE_branchByTable_9 ⟨Nat.le_refl _, Nat.le_refl _⟩ (fun H locs hX => ?_)
  refine lv_istore_n (lv' := [(2, .int r1), (0, .ref (g.q 7)), (1, .int x1)]) hx hb d_RE_branchByTable_12 rfl hl (by decide) rfl (fun ls hl => ?_)
  refine lv_aload_n hx hb d_RE_branchByTable_13 rfl (lv_at hl 1 rfl) ?_
  refine gf_7_next_s C hX fl_RE_21 d_RE_branchByTable_14 ?_
  refine lv_iconst (v := 1) hx hb d_RE_branchByTable_17 (by decide) ?_
  obtain ⟨v2, ev2, h⟩ := lt1_e h
  refine x_iadd hx hb d_RE_branchByTable_18 ev2 ?_
  refine lv_iload_n hx hb d_RE_branchByTable_19 rfl (lv_at hl 2 rfl) ?_
  refine lv_iload_n hx hb d_RE_branchByTable_20 rfl (lv_at hl 0 rfl) ?_
  obtain ⟨r3, hc21, h⟩ := bd1_e h
  refine x_sNI (As := [.int x1, .int r1]) (rest := [.int v2]) C hX (c_X_isAbove l g x1 r1 r3 hc21 _) (cw_RE_78 C.1.2.2.2.2 C.2.2.2 ⟨by decide, by decide⟩) rfl hl.1 rfl (lv_room (Nat.le_of_ble_eq_true rfl)) d_RE_branchByTable_21 ⟨Nat.le_refl _, Nat.le_refl _⟩ (fun H locs hX => ?_)
  refine lv_if_eq (tgt := 31) hx hb d_RE_branchByTable_24 (by decide) (fun c24 => ?_) (fun c24 => ?_)
  · have h := ite_t c24 h
    refine lv_iload_n hx hb d_RE_branchByTable_31 rfl (lv_at hl 2 rfl) ?_
    exact w_RE_branchByTable_32 C hQ x1 r1 v2 x1 s H locs ls hX (lv_sub hl [1, 2, 0] rfl) h
  · have h := ite_f c24 h
    refine lv_iload_n hx hb d_RE_branchByTable_27 rfl (lv_at hl 0 rfl) ?_
    refine lv_goto (tgt := 32) hx hb d_RE_branchByTable_28 (by decide) ?_
    exact w_RE_branchByTable_32 C hQ x1 r1 v2 r1 s H locs ls hX (lv_sub hl [1, 2, 0] rfl) h
end WALK
theorem c_RE_branchByTable (l : Launch) (g : GX) (x1 : Int32) (s : St) (z : St) (h : f_RE_branchByTable x1 s = some z) : MV l g y_RE_branchByTable b_RE_branchByTable 4 none 3 66 [.ref (g.q 7), .int x1] (wX g s) (wX g z) :=
  MV.mk (own := R_RE) (by decide) rfl (Nat.le_of_ble_eq_true rfl) fun p e ss m below meth c A Q C hQ ls hX hl => w_RE_branchByTable C hQ x1 s _ _ ls hX hl h
-- RE_control
def f_RE_control_212 (x1 : Int32) (x2 : Int32) (x3 : Int32) (s : St) : Option St :=
    some s
def f_RE_control_202 (x1 : Int32) (x2 : Int32) (x3 : Int32) (s : St) : Option St :=
    lt1 (s 7 2 + 1) fun v1 =>
    lt1 (stp s 7 2 v1) fun s2 =>
    f_RE_control_212 x1 x2 x3 s2
def f_RE_control_130 (x1 : Int32) (x2 : Int32) (x3 : Int32) (y1 : Int32) (s : St) : Option St :=
    lt1 (stp s 7 2 y1) fun s1 =>
    f_RE_control_212 x1 x2 x3 s1
def f_RE_control (x1 : Int32) (x2 : Int32) (s : St) : Option St :=
    lt1 (x2 - 1) fun v1 =>
    lt1 (rGet 224 (s 36) v1) fun r2 =>
    if x1 = 0 then
      lt1 (stp s 7 3 2) fun s3 =>
      f_RE_control_212 x1 x2 r2 s3
    else if x1 = 4 then
      if r2 = 0 then
        bd1 (f_RC_word s (s 7 2) 2) fun r4 =>
        f_RE_control_130 x1 x2 r2 r4 s
      else
        lt1 (s 7 2 + 1) fun v5 =>
        f_RE_control_130 x1 x2 r2 v5 s
    else if x1 = 12 then
      bd1 (f_RE_branch (s 7 2) x2 s) fun s6 =>
      f_RE_control_212 x1 x2 r2 s6
    else if x1 = 13 then
      if r2 = 0 then
        lt1 (s 7 2 + 1) fun v7 =>
        lt1 (stp s 7 2 v7) fun s8 =>
        f_RE_control_212 x1 x2 r2 s8
      else
        lt1 (x2 - 1) fun v9 =>
        bd1 (f_RE_branch (s 7 2) v9 s) fun s10 =>
        f_RE_control_212 x1 x2 r2 s10
    else if x1 = 14 then
      bd1 (f_RE_branchByTable r2 s) fun s11 =>
      f_RE_control_212 x1 x2 r2 s11
    else if x1 = 15 then
      bd1 (f_RE_leave s) fun s12 =>
      f_RE_control_212 x1 x2 r2 s12
    else if x1 = 16 then
      bd1 (f_RE_call x2 s) fun s13 =>
      f_RE_control_212 x1 x2 r2 s13
    else 
      f_RE_control_202 x1 x2 r2 s
section WALK
variable {p : Program} {l : Launch} {e : Env} {ss : State} {m : MethodId} {args : Array Value} {below : List Frame} {meth : Method} {c : Code} {Q : State → Prop} {g : GX} {A : Nat → Prop}
set_option maxHeartbeats 4000000 in
set_option maxRecDepth 100000 in
theorem w_RE_control_212 {z : St} (C : Cx g A p m c b_RE_control 4 ss args R_RE) (hQ : ∀ (pc : Nat) (H : Heap) (locs : List Loc) (ls : Array Slot), XW g A ss (wX g z) H locs → decode b_RE_control pc = .ok (.return_, 1) → W p l e (rmX 4 90) ss m args below meth c H locs 0 0 Q (F0 m pc ls [])) : ∀ (x1 : Int32) (x2 : Int32) (x3 : Int32) (s : St) (H : Heap) (locs : List Loc) (ls : Array Slot), XW g A ss (wX g s) H locs → lv_has ls 4 [(0, .ref (g.q 7)), (1, .int x1), (2, .int x2), (3, .int x3)] → f_RE_control_212 x1 x2 x3 s = some z → W p l e (rmX 4 90) ss m args below meth c H locs 0 0 Q (F0 m 212 ls []) := by
  have ⟨⟨hx, hb, hml, hown, hts⟩, hK, hA, hN⟩ := C
  intro x1 x2 x3 s H locs ls hX hl h
  rw [f_RE_control_212] at h
  obtain rfl := so1 h
  exact hQ _ H locs ls hX d_RE_control_212
set_option maxHeartbeats 4000000 in
set_option maxRecDepth 100000 in
theorem w_RE_control_202 {z : St} (C : Cx g A p m c b_RE_control 4 ss args R_RE) (hQ : ∀ (pc : Nat) (H : Heap) (locs : List Loc) (ls : Array Slot), XW g A ss (wX g z) H locs → decode b_RE_control pc = .ok (.return_, 1) → W p l e (rmX 4 90) ss m args below meth c H locs 0 0 Q (F0 m pc ls [])) : ∀ (x1 : Int32) (x2 : Int32) (x3 : Int32) (s : St) (H : Heap) (locs : List Loc) (ls : Array Slot), XW g A ss (wX g s) H locs → lv_has ls 4 [(0, .ref (g.q 7)), (1, .int x1), (2, .int x2), (3, .int x3)] → f_RE_control_202 x1 x2 x3 s = some z → W p l e (rmX 4 90) ss m args below meth c H locs 0 0 Q (F0 m 202 ls []) := by
  have ⟨⟨hx, hb, hml, hown, hts⟩, hK, hA, hN⟩ := C
  intro x1 x2 x3 s H locs ls hX hl h
  rw [f_RE_control_202] at h
  refine lv_aload_n hx hb d_RE_control_202 rfl (lv_at hl 0 rfl) ?_
  refine lv_dup hx hb d_RE_control_203 rfl ?_
  refine gf_7_next_s C hX fl_RE_21 d_RE_control_204 ?_
  refine lv_iconst (v := 1) hx hb d_RE_control_207 (by decide) ?_
  obtain ⟨v1, ev1, h⟩ := lt1_e h
  refine x_iadd hx hb d_RE_control_208 ev1 ?_
  obtain ⟨s2, es2, h⟩ := lt1_e h
  refine pf_7_next_s C hX fl_RE_21 d_RE_control_209 (fun H locs hX => ?_)
  rw [← es2] at hX
  exact w_RE_control_212 C hQ x1 x2 x3 s2 H locs ls hX hl h
set_option maxHeartbeats 4000000 in
set_option maxRecDepth 100000 in
theorem w_RE_control_130 {z : St} (C : Cx g A p m c b_RE_control 4 ss args R_RE) (hQ : ∀ (pc : Nat) (H : Heap) (locs : List Loc) (ls : Array Slot), XW g A ss (wX g z) H locs → decode b_RE_control pc = .ok (.return_, 1) → W p l e (rmX 4 90) ss m args below meth c H locs 0 0 Q (F0 m pc ls [])) : ∀ (x1 : Int32) (x2 : Int32) (x3 : Int32) (y1 : Int32) (s : St) (H : Heap) (locs : List Loc) (ls : Array Slot), XW g A ss (wX g s) H locs → lv_has ls 4 [(0, .ref (g.q 7)), (1, .int x1), (2, .int x2), (3, .int x3)] → f_RE_control_130 x1 x2 x3 y1 s = some z → W p l e (rmX 4 90) ss m args below meth c H locs 0 0 Q (F0 m 130 ls [.int y1, .ref (g.q 7)]) := by
  have ⟨⟨hx, hb, hml, hown, hts⟩, hK, hA, hN⟩ := C
  intro x1 x2 x3 y1 s H locs ls hX hl h
  rw [f_RE_control_130] at h
  obtain ⟨s1, es1, h⟩ := lt1_e h
  refine pf_7_next_s C hX fl_RE_21 d_RE_control_130 (fun H locs hX => ?_)
  rw [← es1] at hX
  refine lv_goto (tgt := 212) hx hb d_RE_control_133 (by decide) ?_
  exact w_RE_control_212 C hQ x1 x2 x3 s1 H locs ls hX hl h
set_option maxHeartbeats 4000000 in
set_option maxRecDepth 100000 in
theorem w_RE_control {z : St} (C : Cx g A p m c b_RE_control 4 ss args R_RE) (hQ : ∀ (pc : Nat) (H : Heap) (locs : List Loc) (ls : Array Slot), XW g A ss (wX g z) H locs → decode b_RE_control pc = .ok (.return_, 1) → W p l e (rmX 4 90) ss m args below meth c H locs 0 0 Q (F0 m pc ls [])) : ∀ (x1 : Int32) (x2 : Int32) (s : St) (H : Heap) (locs : List Loc) (ls : Array Slot), XW g A ss (wX g s) H locs → lv_has ls 4 [(0, .ref (g.q 7)), (1, .int x1), (2, .int x2)] → f_RE_control x1 x2 s = some z → W p l e (rmX 4 90) ss m args below meth c H locs 0 0 Q (F0 m 0 ls []) := by
  have ⟨⟨hx, hb, hml, hown, hts⟩, hK, hA, hN⟩ := C
  intro x1 x2 s H locs ls hX hl h
  rw [f_RE_control] at h
  refine lv_aload_n hx hb d_RE_control_0 rfl (lv_at hl 0 rfl) ?_
  refine gf_7_store_s C hX fl_RE_46 d_RE_control_1 ?_
  refine gf_5_cells C hX fl_RE_59 d_RE_control_4 ?_
  refine lv_iload_n hx hb d_RE_control_7 rfl (lv_at hl 2 rfl) ?_
  refine lv_iconst (v := 1) hx hb d_RE_control_8 (by decide) ?_
  obtain ⟨v1, ev1, h⟩ := lt1_e h
  refine x_isub hx hb d_RE_control_9 ev1 ?_
  obtain ⟨r2, er2, h⟩ := lt1_e h
  refine x_vI (r := r2) (ws' := wX g s) (As := [.int v1]) (rest := []) C hX (by rw [er2]; exact cRowGet_35 l g s v1) (cw_RE_63 C.1.2.2.2.2 C.2.2.2 ⟨by decide, by decide⟩) (x_rc C hX wg_35 rfl) rfl hl.1 rfl (lv_room (Nat.le_of_ble_eq_true rfl)) d_RE_control_10 ⟨Nat.le_refl _, Nat.le_refl _⟩ (fun H locs hX => ?_)
  refine lv_istore_n (lv' := [(3, .int r2), (0, .ref (g.q 7)), (1, .int x1), (2, .int x2)]) hx hb d_RE_control_13 rfl hl (by decide) rfl (fun ls hl => ?_)
  refine lv_iload_n hx hb d_RE_control_14 rfl (lv_at hl 2 rfl) ?_
  by_cases c15_0 : x1 = 0
  · have h := ite_t c15_0 h
    refine lv_tableIn (tgt := 96) hx hb d_RE_control_15 (by rw [c15_0]; decide) (by rw [c15_0]; decide) (by rw [c15_0]; rfl) (by decide) ?_
    refine lv_aload_n hx hb d_RE_control_96 rfl (lv_at hl 1 rfl) ?_
    refine lv_iconst (v := 2) hx hb d_RE_control_97 (by decide) ?_
    obtain ⟨s3, es3, h⟩ := lt1_e h
    refine pf_7_outcome_s C hX fl_RE_56 d_RE_control_98 (fun H locs hX => ?_)
    rw [← es3] at hX
    refine lv_goto (tgt := 212) hx hb d_RE_control_101 (by decide) ?_
    exact w_RE_control_212 C hQ x1 x2 r2 s3 H locs ls hX (lv_sub hl [1, 2, 3, 0] rfl) h
  have h := ite_f c15_0 h
  by_cases c15_1 : x1 = 4
  · have h := ite_t c15_1 h
    refine lv_tableIn (tgt := 104) hx hb d_RE_control_15 (by rw [c15_1]; decide) (by rw [c15_1]; decide) (by rw [c15_1]; rfl) (by decide) ?_
    refine lv_aload_n hx hb d_RE_control_104 rfl (lv_at hl 1 rfl) ?_
    refine lv_iload_n hx hb d_RE_control_105 rfl (lv_at hl 0 rfl) ?_
    refine lv_if_eq (tgt := 118) hx hb d_RE_control_106 (by decide) (fun c106 => ?_) (fun c106 => ?_)
    · have h := ite_t c106 h
      refine lv_aload_n hx hb d_RE_control_118 rfl (lv_at hl 1 rfl) ?_
      refine gf_7_code C hX fl_RE_9 d_RE_control_119 ?_
      refine lv_aload_n hx hb d_RE_control_122 rfl (lv_at hl 1 rfl) ?_
      refine gf_7_next_s C hX fl_RE_21 d_RE_control_123 ?_
      refine lv_iconst (v := 2) hx hb d_RE_control_126 (by decide) ?_
      obtain ⟨r4, hc127, h⟩ := bd1_e h
      refine x_vI (As := [.int (s 7 2), .int 2]) (rest := [.ref (g.q 7)]) C hX (c_RC_word l g (s 7 2) 2 s r4 hc127) (cw_RE_25 C.1.2.2.2.2 C.2.2.2 ⟨by decide, by decide⟩) (x_rc C hX wg_4 rfl) rfl hl.1 rfl (lv_room (Nat.le_of_ble_eq_true rfl)) d_RE_control_127 ⟨Nat.le_refl _, Nat.le_refl _⟩ (fun H locs hX => ?_)
      exact w_RE_control_130 C hQ x1 x2 r2 r4 s H locs ls hX (lv_sub hl [1, 2, 3, 0] rfl) h
    · have h := ite_f c106 h
      refine lv_aload_n hx hb d_RE_control_109 rfl (lv_at hl 1 rfl) ?_
      refine gf_7_next_s C hX fl_RE_21 d_RE_control_110 ?_
      refine lv_iconst (v := 1) hx hb d_RE_control_113 (by decide) ?_
      obtain ⟨v5, ev5, h⟩ := lt1_e h
      refine x_iadd hx hb d_RE_control_114 ev5 ?_
      refine lv_goto (tgt := 130) hx hb d_RE_control_115 (by decide) ?_
      exact w_RE_control_130 C hQ x1 x2 r2 v5 s H locs ls hX (lv_sub hl [1, 2, 3, 0] rfl) h
  have h := ite_f c15_1 h
  by_cases c15_2 : x1 = 12
  · have h := ite_t c15_2 h
    refine lv_tableIn (tgt := 136) hx hb d_RE_control_15 (by rw [c15_2]; decide) (by rw [c15_2]; decide) (by rw [c15_2]; rfl) (by decide) ?_
    refine lv_aload_n hx hb d_RE_control_136 rfl (lv_at hl 1 rfl) ?_
    refine lv_aload_n hx hb d_RE_control_137 rfl (lv_at hl 1 rfl) ?_
    refine gf_7_next_s C hX fl_RE_21 d_RE_control_138 ?_
    refine lv_iload_n hx hb d_RE_control_141 rfl (lv_at hl 3 rfl) ?_
    obtain ⟨s6, hc142, h⟩ := bd1_e h
    refine x_vV (As := [.int (s 7 2), .int x2]) (rest := []) C hX (c_RE_branch l g (s 7 2) x2 s s6 hc142) (cw_RE_68_R C.1.2.2.2.2 C.2.2.2 ⟨by decide, by decide⟩) (x_rc C hX wg_7 rfl) rfl hl.1 rfl (lv_room (Nat.le_of_ble_eq_true rfl)) d_RE_control_142 ⟨Nat.le_refl _, Nat.le_refl _⟩ (fun H locs hX => ?_)
    refine lv_goto (tgt := 212) hx hb d_RE_control_145 (by decide) ?_
    exact w_RE_control_212 C hQ x1 x2 r2 s6 H locs ls hX (lv_sub hl [1, 2, 3, 0] rfl) h
  have h := ite_f c15_2 h
  by_cases c15_3 : x1 = 13
  · have h := ite_t c15_3 h
    refine lv_tableIn (tgt := 148) hx hb d_RE_control_15 (by rw [c15_3]; decide) (by rw [c15_3]; decide) (by rw [c15_3]; rfl) (by decide) ?_
    refine lv_iload_n hx hb d_RE_control_148 rfl (lv_at hl 0 rfl) ?_
    refine lv_if_eq (tgt := 166) hx hb d_RE_control_149 (by decide) (fun c149 => ?_) (fun c149 => ?_)
    · have h := ite_t c149 h
      refine lv_aload_n hx hb d_RE_control_166 rfl (lv_at hl 1 rfl) ?_
      refine lv_dup hx hb d_RE_control_167 rfl ?_
      refine gf_7_next_s C hX fl_RE_21 d_RE_control_168 ?_
      refine lv_iconst (v := 1) hx hb d_RE_control_171 (by decide) ?_
      obtain ⟨v7, ev7, h⟩ := lt1_e h
      refine x_iadd hx hb d_RE_control_172 ev7 ?_
      obtain ⟨s8, es8, h⟩ := lt1_e h
      refine pf_7_next_s C hX fl_RE_21 d_RE_control_173 (fun H locs hX => ?_)
      rw [← es8] at hX
      refine lv_goto (tgt := 212) hx hb d_RE_control_176 (by decide) ?_
      exact w_RE_control_212 C hQ x1 x2 r2 s8 H locs ls hX (lv_sub hl [1, 2, 3, 0] rfl) h
    · have h := ite_f c149 h
      refine lv_aload_n hx hb d_RE_control_152 rfl (lv_at hl 1 rfl) ?_
      refine lv_aload_n hx hb d_RE_control_153 rfl (lv_at hl 1 rfl) ?_
      refine gf_7_next_s C hX fl_RE_21 d_RE_control_154 ?_
      refine lv_iload_n hx hb d_RE_control_157 rfl (lv_at hl 3 rfl) ?_
      refine lv_iconst (v := 1) hx hb d_RE_control_158 (by decide) ?_
      obtain ⟨v9, ev9, h⟩ := lt1_e h
      refine x_isub hx hb d_RE_control_159 ev9 ?_
      obtain ⟨s10, hc160, h⟩ := bd1_e h
      refine x_vV (As := [.int (s 7 2), .int v9]) (rest := []) C hX (c_RE_branch l g (s 7 2) v9 s s10 hc160) (cw_RE_68_R C.1.2.2.2.2 C.2.2.2 ⟨by decide, by decide⟩) (x_rc C hX wg_7 rfl) rfl hl.1 rfl (lv_room (Nat.le_of_ble_eq_true rfl)) d_RE_control_160 ⟨Nat.le_refl _, Nat.le_refl _⟩ (fun H locs hX => ?_)
      refine lv_goto (tgt := 212) hx hb d_RE_control_163 (by decide) ?_
      exact w_RE_control_212 C hQ x1 x2 r2 s10 H locs ls hX (lv_sub hl [1, 2, 3, 0] rfl) h
  have h := ite_f c15_3 h
  by_cases c15_4 : x1 = 14
  · have h := ite_t c15_4 h
    refine lv_tableIn (tgt := 179) hx hb d_RE_control_15 (by rw [c15_4]; decide) (by rw [c15_4]; decide) (by rw [c15_4]; rfl) (by decide) ?_
    refine lv_aload_n hx hb d_RE_control_179 rfl (lv_at hl 1 rfl) ?_
    refine lv_iload_n hx hb d_RE_control_180 rfl (lv_at hl 0 rfl) ?_
    obtain ⟨s11, hc181, h⟩ := bd1_e h
    refine x_vV (As := [.int r2]) (rest := []) C hX (c_RE_branchByTable l g r2 s s11 hc181) (cw_RE_71_R C.1.2.2.2.2 C.2.2.2 ⟨by decide, by decide⟩) (x_rc C hX wg_7 rfl) rfl hl.1 rfl (lv_room (Nat.le_of_ble_eq_true rfl)) d_RE_control_181 ⟨Nat.le_refl _, Nat.le_refl _⟩ (fun H locs hX => ?_)
    refine lv_goto (tgt := 212) hx hb d_RE_control_184 (by decide) ?_
    exact w_RE_control_212 C hQ x1 x2 r2 s11 H locs ls hX (lv_sub hl [1, 2, 3, 0] rfl) h
  have h := ite_f c15_4 h
  by_cases c15_5 : x1 = 15
  · have h := ite_t c15_5 h
    refine lv_tableIn (tgt := 187) hx hb d_RE_control_15 (by rw [c15_5]; decide) (by rw [c15_5]; decide) (by rw [c15_5]; rfl) (by decide) ?_
    refine lv_aload_n hx hb d_RE_control_187 rfl (lv_at hl 1 rfl) ?_
    obtain ⟨s12, hc188, h⟩ := bd1_e h
    refine x_vV (As := []) (rest := []) C hX (c_RE_leave l g s s12 hc188) (cw_RE_31_R C.1.2.2.2.2 C.2.2.2 ⟨by decide, by decide⟩) (x_rc C hX wg_7 rfl) rfl hl.1 rfl (lv_room (Nat.le_of_ble_eq_true rfl)) d_RE_control_188 ⟨Nat.le_refl _, Nat.le_refl _⟩ (fun H locs hX => ?_)
    refine lv_goto (tgt := 212) hx hb d_RE_control_191 (by decide) ?_
    exact w_RE_control_212 C hQ x1 x2 r2 s12 H locs ls hX (lv_sub hl [1, 2, 3, 0] rfl) h
  have h := ite_f c15_5 h
  by_cases c15_6 : x1 = 16
  · have h := ite_t c15_6 h
    refine lv_tableIn (tgt := 194) hx hb d_RE_control_15 (by rw [c15_6]; decide) (by rw [c15_6]; decide) (by rw [c15_6]; rfl) (by decide) ?_
    refine lv_aload_n hx hb d_RE_control_194 rfl (lv_at hl 1 rfl) ?_
    refine lv_iload_n hx hb d_RE_control_195 rfl (lv_at hl 3 rfl) ?_
    obtain ⟨s13, hc196, h⟩ := bd1_e h
    refine x_vV (As := [.int x2]) (rest := []) C hX (c_RE_call l g x2 s s13 hc196) (cw_RE_75_R C.1.2.2.2.2 C.2.2.2 ⟨by decide, by decide⟩) (x_rc C hX wg_7 rfl) rfl hl.1 rfl (lv_room (Nat.le_of_ble_eq_true rfl)) d_RE_control_196 ⟨Nat.le_refl _, Nat.le_refl _⟩ (fun H locs hX => ?_)
    refine lv_goto (tgt := 212) hx hb d_RE_control_199 (by decide) ?_
    exact w_RE_control_212 C hQ x1 x2 r2 s13 H locs ls hX (lv_sub hl [1, 2, 3, 0] rfl) h
  have h := ite_f c15_6 h
  by_cases c15_g1 : x1 = 1
  · refine lv_tableIn (tgt := 202) hx hb d_RE_control_15 (by rw [c15_g1]; decide) (by rw [c15_g1]; decide) (by rw [c15_g1]; rfl) (by decide) ?_
    exact w_RE_control_202 C hQ x1 x2 r2 s H locs ls hX (lv_sub hl [1, 2, 3, 0] rfl) h
  by_cases c15_g2 : x1 = 2
  · refine lv_tableIn (tgt := 202) hx hb d_RE_control_15 (by rw [c15_g2]; decide) (by rw [c15_g2]; decide) (by rw [c15_g2]; rfl) (by decide) ?_
    exact w_RE_control_202 C hQ x1 x2 r2 s H locs ls hX (lv_sub hl [1, 2, 3, 0] rfl) h
  by_cases c15_g3 : x1 = 3
  · refine lv_tableIn (tgt := 202) hx hb d_RE_control_15 (by rw [c15_g3]; decide) (by rw [c15_g3]; decide) (by rw [c15_g3]; rfl) (by decide) ?_
    exact w_RE_control_202 C hQ x1 x2 r2 s H locs ls hX (lv_sub hl [1, 2, 3, 0] rfl) h
  by_cases c15_g5 : x1 = 5
  · refine lv_tableIn (tgt := 202) hx hb d_RE_control_15 (by rw [c15_g5]; decide) (by rw [c15_g5]; decide) (by rw [c15_g5]; rfl) (by decide) ?_
    exact w_RE_control_202 C hQ x1 x2 r2 s H locs ls hX (lv_sub hl [1, 2, 3, 0] rfl) h
  by_cases c15_g6 : x1 = 6
  · refine lv_tableIn (tgt := 202) hx hb d_RE_control_15 (by rw [c15_g6]; decide) (by rw [c15_g6]; decide) (by rw [c15_g6]; rfl) (by decide) ?_
    exact w_RE_control_202 C hQ x1 x2 r2 s H locs ls hX (lv_sub hl [1, 2, 3, 0] rfl) h
  by_cases c15_g7 : x1 = 7
  · refine lv_tableIn (tgt := 202) hx hb d_RE_control_15 (by rw [c15_g7]; decide) (by rw [c15_g7]; decide) (by rw [c15_g7]; rfl) (by decide) ?_
    exact w_RE_control_202 C hQ x1 x2 r2 s H locs ls hX (lv_sub hl [1, 2, 3, 0] rfl) h
  by_cases c15_g8 : x1 = 8
  · refine lv_tableIn (tgt := 202) hx hb d_RE_control_15 (by rw [c15_g8]; decide) (by rw [c15_g8]; decide) (by rw [c15_g8]; rfl) (by decide) ?_
    exact w_RE_control_202 C hQ x1 x2 r2 s H locs ls hX (lv_sub hl [1, 2, 3, 0] rfl) h
  by_cases c15_g9 : x1 = 9
  · refine lv_tableIn (tgt := 202) hx hb d_RE_control_15 (by rw [c15_g9]; decide) (by rw [c15_g9]; decide) (by rw [c15_g9]; rfl) (by decide) ?_
    exact w_RE_control_202 C hQ x1 x2 r2 s H locs ls hX (lv_sub hl [1, 2, 3, 0] rfl) h
  by_cases c15_g10 : x1 = 10
  · refine lv_tableIn (tgt := 202) hx hb d_RE_control_15 (by rw [c15_g10]; decide) (by rw [c15_g10]; decide) (by rw [c15_g10]; rfl) (by decide) ?_
    exact w_RE_control_202 C hQ x1 x2 r2 s H locs ls hX (lv_sub hl [1, 2, 3, 0] rfl) h
  by_cases c15_g11 : x1 = 11
  · refine lv_tableIn (tgt := 202) hx hb d_RE_control_15 (by rw [c15_g11]; decide) (by rw [c15_g11]; decide) (by rw [c15_g11]; rfl) (by decide) ?_
    exact w_RE_control_202 C hQ x1 x2 r2 s H locs ls hX (lv_sub hl [1, 2, 3, 0] rfl) h
  have hz := And.intro trivial trivial
  have hn0 := lv_neT c15_0 (a := 0) (by decide)
  have hn1 := lv_neT c15_1 (a := 4) (by decide)
  have hn2 := lv_neT c15_2 (a := 12) (by decide)
  have hn3 := lv_neT c15_3 (a := 13) (by decide)
  have hn4 := lv_neT c15_4 (a := 14) (by decide)
  have hn5 := lv_neT c15_5 (a := 15) (by decide)
  have hn6 := lv_neT c15_6 (a := 16) (by decide)
  have hn7 := lv_neT c15_g1 (a := 1) (by decide)
  have hn8 := lv_neT c15_g2 (a := 2) (by decide)
  have hn9 := lv_neT c15_g3 (a := 3) (by decide)
  have hn10 := lv_neT c15_g5 (a := 5) (by decide)
  have hn11 := lv_neT c15_g6 (a := 6) (by decide)
  have hn12 := lv_neT c15_g7 (a := 7) (by decide)
  have hn13 := lv_neT c15_g8 (a := 8) (by decide)
  have hn14 := lv_neT c15_g9 (a := 9) (by decide)
  have hn15 := lv_neT c15_g10 (a := 10) (by decide)
  have hn16 := lv_neT c15_g11 (a := 11) (by decide)
  refine lv_tableOut (tgt := 202) hx hb d_RE_control_15 (by omega) (by decide) ?_
  exact w_RE_control_202 C hQ x1 x2 r2 s H locs ls hX (lv_sub hl [1, 2, 3, 0] rfl) h
end WALK
theorem c_RE_control (l : Launch) (g : GX) (x1 : Int32) (x2 : Int32) (s : St) (z : St) (h : f_RE_control x1 x2 s = some z) : MV l g y_RE_control b_RE_control 4 none 4 90 [.ref (g.q 7), .int x1, .int x2] (wX g s) (wX g z) :=
  MV.mk (own := R_RE) (by decide) rfl (Nat.le_of_ble_eq_true rfl) fun p e ss m below meth c A Q C hQ ls hX hl => w_RE_control C hQ x1 x2 s _ _ ls hX hl h
