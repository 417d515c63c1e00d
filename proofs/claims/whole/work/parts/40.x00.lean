-- Cont_clear
def f_Cont_clear (s : St) : Option St :=
    lt1 (stp (aFill s 11 16) 10 0 0) fun s1 =>
    lt1 (stp (aFill s1 13 32) 12 0 0) fun s2 =>
    lt1 (stp (aFill s2 15 8) 14 0 0) fun s3 =>
    lt1 (stp (aFill s3 17 88) 16 0 0) fun s4 =>
    lt1 (stp (aFill s4 19 16) 18 0 0) fun s5 =>
    lt1 (stp (aFill s5 21 1680) 20 0 0) fun s6 =>
    lt1 (stp (aFill s6 23 240) 22 0 0) fun s7 =>
    lt1 (stp s7 1 0 0) fun s8 =>
    lt1 (stp s8 1 1 0) fun s9 =>
    lt1 (stp s9 1 2 0) fun s10 =>
    some s10
section WALK
variable {p : Program} {l : Launch} {e : Env} {ss : State} {m : MethodId} {args : Array Value} {below : List Frame} {meth : Method} {c : Code} {Q : State → Prop} {g : GX} {A : Nat → Prop}
set_option maxHeartbeats 4000000 in
set_option maxRecDepth 100000 in
theorem w_Cont_clear {z : St} (C : Cx g A p m c b_Cont_clear 1 ss args R_Cont) (hQ : ∀ (pc : Nat) (H : Heap) (locs : List Loc) (ls : Array Slot), XW g A ss (wX g z) H locs → decode b_Cont_clear pc = .ok (.return_, 1) → W p l e (rmX 2 43) ss m args below meth c H locs 0 0 Q (F0 m pc ls [])) : ∀ (s : St) (H : Heap) (locs : List Loc) (ls : Array Slot), XW g A ss (wX g s) H locs → lv_has ls 1 [(0, .ref (g.q 1))] → f_Cont_clear s = some z → W p l e (rmX 2 43) ss m args below meth c H locs 0 0 Q (F0 m 0 ls []) := by
  have ⟨⟨hx, hb, hml, hown, hts⟩, hK, hA, hN⟩ := C
  intro s H locs ls hX hl h
  rw [f_Cont_clear] at h
  refine lv_aload_n hx hb d_Cont_clear_0 rfl (lv_at hl 0 rfl) ?_
  refine gf_1_types C hX fl_Cont_14 d_Cont_clear_1 ?_
  obtain ⟨s1, es1, h⟩ := lt1_e h
  refine x_vV (ws' := wX g s1) (As := []) (rest := []) C hX (by rw [es1]; exact cTabClr_10 l g s) (cw_Cont_38 C.1.2.2.2.2 C.2.2.2 ⟨by decide, by decide⟩) (x_rc C hX wg_10 rfl) rfl hl.1 rfl (lv_room (Nat.le_of_ble_eq_true rfl)) d_Cont_clear_4 ⟨Nat.le_refl _, Nat.le_refl _⟩ (fun H locs hX => ?_)
  refine lv_aload_n hx hb d_Cont_clear_7 rfl (lv_at hl 0 rfl) ?_
  refine gf_1_functions C hX fl_Cont_20 d_Cont_clear_8 ?_
  obtain ⟨s2, es2, h⟩ := lt1_e h
  refine x_vV (ws' := wX g s2) (As := []) (rest := []) C hX (by rw [es2]; exact cTabClr_12 l g s1) (cw_Cont_38 C.1.2.2.2.2 C.2.2.2 ⟨by decide, by decide⟩) (x_rc C hX wg_12 rfl) rfl hl.1 rfl (lv_room (Nat.le_of_ble_eq_true rfl)) d_Cont_clear_11 ⟨Nat.le_refl _, Nat.le_refl _⟩ (fun H locs hX => ?_)
  refine lv_aload_n hx hb d_Cont_clear_14 rfl (lv_at hl 0 rfl) ?_
  refine gf_1_globals C hX fl_Cont_23 d_Cont_clear_15 ?_
  obtain ⟨s3, es3, h⟩ := lt1_e h
  refine x_vV (ws' := wX g s3) (As := []) (rest := []) C hX (by rw [es3]; exact cTabClr_14 l g s2) (cw_Cont_38 C.1.2.2.2.2 C.2.2.2 ⟨by decide, by decide⟩) (x_rc C hX wg_14 rfl) rfl hl.1 rfl (lv_room (Nat.le_of_ble_eq_true rfl)) d_Cont_clear_18 ⟨Nat.le_refl _, Nat.le_refl _⟩ (fun H locs hX => ?_)
  refine lv_aload_n hx hb d_Cont_clear_21 rfl (lv_at hl 0 rfl) ?_
  refine gf_1_exports C hX fl_Cont_26 d_Cont_clear_22 ?_
  obtain ⟨s4, es4, h⟩ := lt1_e h
  refine x_vV (ws' := wX g s4) (As := []) (rest := []) C hX (by rw [es4]; exact cTabClr_16 l g s3) (cw_Cont_38 C.1.2.2.2.2 C.2.2.2 ⟨by decide, by decide⟩) (x_rc C hX wg_16 rfl) rfl hl.1 rfl (lv_room (Nat.le_of_ble_eq_true rfl)) d_Cont_clear_25 ⟨Nat.le_refl _, Nat.le_refl _⟩ (fun H locs hX => ?_)
  refine lv_aload_n hx hb d_Cont_clear_28 rfl (lv_at hl 0 rfl) ?_
  refine gf_1_data C hX fl_Cont_29 d_Cont_clear_29 ?_
  obtain ⟨s5, es5, h⟩ := lt1_e h
  refine x_vV (ws' := wX g s5) (As := []) (rest := []) C hX (by rw [es5]; exact cTabClr_18 l g s4) (cw_Cont_38 C.1.2.2.2.2 C.2.2.2 ⟨by decide, by decide⟩) (x_rc C hX wg_18 rfl) rfl hl.1 rfl (lv_room (Nat.le_of_ble_eq_true rfl)) d_Cont_clear_32 ⟨Nat.le_refl _, Nat.le_refl _⟩ (fun H locs hX => ?_)
  refine lv_aload_n hx hb d_Cont_clear_35 rfl (lv_at hl 0 rfl) ?_
  refine gf_1_code C hX fl_Cont_32 d_Cont_clear_36 ?_
  obtain ⟨s6, es6, h⟩ := lt1_e h
  refine x_vV (ws' := wX g s6) (As := []) (rest := []) C hX (by rw [es6]; exact cTabClr_20 l g s5) (cw_Cont_38 C.1.2.2.2.2 C.2.2.2 ⟨by decide, by decide⟩) (x_rc C hX wg_20 rfl) rfl hl.1 rfl (lv_room (Nat.le_of_ble_eq_true rfl)) d_Cont_clear_39 ⟨Nat.le_refl _, Nat.le_refl _⟩ (fun H locs hX => ?_)
  refine lv_aload_n hx hb d_Cont_clear_42 rfl (lv_at hl 0 rfl) ?_
  refine gf_1_places C hX fl_Cont_35 d_Cont_clear_43 ?_
  obtain ⟨s7, es7, h⟩ := lt1_e h
  refine x_vV (ws' := wX g s7) (As := []) (rest := []) C hX (by rw [es7]; exact cTabClr_22 l g s6) (cw_Cont_38 C.1.2.2.2.2 C.2.2.2 ⟨by decide, by decide⟩) (x_rc C hX wg_22 rfl) rfl hl.1 rfl (lv_room (Nat.le_of_ble_eq_true rfl)) d_Cont_clear_46 ⟨Nat.le_refl _, Nat.le_refl _⟩ (fun H locs hX => ?_)
  refine lv_aload_n hx hb d_Cont_clear_49 rfl (lv_at hl 0 rfl) ?_
  refine lv_iconst (v := 0) hx hb d_Cont_clear_50 (by decide) ?_
  obtain ⟨s8, es8, h⟩ := lt1_e h
  refine pf_1_hasMemory C hX fl_Cont_41 (Or.inl rfl) d_Cont_clear_51 (fun H locs hX => ?_)
  rw [← es8] at hX
  refine lv_aload_n hx hb d_Cont_clear_54 rfl (lv_at hl 0 rfl) ?_
  refine lv_iconst (v := 0) hx hb d_Cont_clear_55 (by decide) ?_
  obtain ⟨s9, es9, h⟩ := lt1_e h
  refine pf_1_firstPages C hX fl_Cont_45 d_Cont_clear_56 (fun H locs hX => ?_)
  rw [← es9] at hX
  refine lv_aload_n hx hb d_Cont_clear_59 rfl (lv_at hl 0 rfl) ?_
  refine lv_iconst (v := 0) hx hb d_Cont_clear_60 (by decide) ?_
  obtain ⟨s10, es10, h⟩ := lt1_e h
  refine pf_1_mostPages C hX fl_Cont_49 d_Cont_clear_61 (fun H locs hX => ?_)
  rw [← es10] at hX
  obtain rfl := so1 h
  exact hQ _ H locs ls hX d_Cont_clear_64
end WALK
theorem c_Cont_clear (l : Launch) (g : GX) (s : St) (z : St) (h : f_Cont_clear s = some z) : MV l g y_Cont_clear b_Cont_clear 1 none 2 43 [.ref (g.q 1)] (wX g s) (wX g z) :=
  MV.mk (own := R_Cont) (by decide) rfl (Nat.le_of_ble_eq_true rfl) fun p e ss m below meth c A Q C hQ ls hX hl => w_Cont_clear C hQ s _ _ ls hX hl h
-- Cont_parametersOf
def f_Cont_parametersOf_34 (s : St) (x1 : Int32) (x2 : Int32) (y0 : Int32) : Option Int32 :=
    some (y0)
def f_Cont_parametersOf (s : St) (x1 : Int32) : Option Int32 :=
    lt1 (tGet 8 4 (s 13) x1 0) fun r1 =>
    lt1 (tHas (s 10 0) r1) fun r2 =>
    if r2 = 0 then
      f_Cont_parametersOf_34 s x1 r1 0
    else
      lt1 (tGet 8 2 (s 11) r1 0) fun r3 =>
      f_Cont_parametersOf_34 s x1 r1 r3
section WALK
variable {p : Program} {l : Launch} {e : Env} {ss : State} {m : MethodId} {args : Array Value} {below : List Frame} {meth : Method} {c : Code} {Q : State → Prop} {g : GX} {A : Nat → Prop}
set_option maxHeartbeats 4000000 in
set_option maxRecDepth 100000 in
theorem w_Cont_parametersOf_34 {s : St} {z : Int32} (C : Cx g A p m c b_Cont_parametersOf 3 ss args R_Cont) (hQ : ∀ (pc : Nat) (H : Heap) (locs : List Loc) (ls : Array Slot), XW g A ss (wX g s) H locs → decode b_Cont_parametersOf pc = .ok (.ireturn, 1) → W p l e (rmX 1 23) ss m args below meth c H locs 0 0 Q (F0 m pc ls [.int z])) : ∀ (x1 : Int32) (x2 : Int32) (y0 : Int32) (H : Heap) (locs : List Loc) (ls : Array Slot), XW g A ss (wX g s) H locs → lv_has ls 3 [(0, .ref (g.q 1)), (1, .int x1), (2, .int x2)] → f_Cont_parametersOf_34 s x1 x2 y0 = some z → W p l e (rmX 1 23) ss m args below meth c H locs 0 0 Q (F0 m 34 ls [.int y0]) := by
  have ⟨⟨hx, hb, hml, hown, hts⟩, hK, hA, hN⟩ := C
  intro x1 x2 y0 H locs ls hX hl h
  rw [f_Cont_parametersOf_34] at h
  obtain rfl := so1 h
  exact hQ _ H locs ls hX d_Cont_parametersOf_34
set_option maxHeartbeats 4000000 in
set_option maxRecDepth 100000 in
theorem w_Cont_parametersOf {s : St} {z : Int32} (C : Cx g A p m c b_Cont_parametersOf 3 ss args R_Cont) (hQ : ∀ (pc : Nat) (H : Heap) (locs : List Loc) (ls : Array Slot), XW g A ss (wX g s) H locs → decode b_Cont_parametersOf pc = .ok (.ireturn, 1) → W p l e (rmX 1 23) ss m args below meth c H locs 0 0 Q (F0 m pc ls [.int z])) : ∀ (x1 : Int32) (H : Heap) (locs : List Loc) (ls : Array Slot), XW g A ss (wX g s) H locs → lv_has ls 3 [(0, .ref (g.q 1)), (1, .int x1)] → f_Cont_parametersOf s x1 = some z → W p l e (rmX 1 23) ss m args below meth c H locs 0 0 Q (F0 m 0 ls []) := by
  have ⟨⟨hx, hb, hml, hown, hts⟩, hK, hA, hN⟩ := C
  intro x1 H locs ls hX hl h
  rw [f_Cont_parametersOf] at h
  refine lv_aload_n hx hb d_Cont_parametersOf_0 rfl (lv_at hl 0 rfl) ?_
  refine gf_1_functions C hX fl_Cont_20 d_Cont_parametersOf_1 ?_
  refine lv_iload_n hx hb d_Cont_parametersOf_4 rfl (lv_at hl 1 rfl) ?_
  refine lv_iconst (v := 0) hx hb d_Cont_parametersOf_5 (by decide) ?_
  obtain ⟨r1, er1, h⟩ := lt1_e h
  refine x_vI (r := r1) (ws' := wX g s) (As := [.int x1, .int 0]) (rest := []) C hX (by rw [er1]; exact cTabGet_12 l g s x1 0) (cw_Cont_52 C.1.2.2.2.2 C.2.2.2 ⟨by decide, by decide⟩) (x_rc C hX wg_12 rfl) rfl hl.1 rfl (lv_room (Nat.le_of_ble_eq_true rfl)) d_Cont_parametersOf_6 ⟨Nat.le_refl _, Nat.le_refl _⟩ (fun H locs hX => ?_)
  refine lv_istore_n (lv' := [(2, .int r1), (0, .ref (g.q 1)), (1, .int x1)]) hx hb d_Cont_parametersOf_9 rfl hl (by decide) rfl (fun ls hl => ?_)
  refine lv_aload_n hx hb d_Cont_parametersOf_10 rfl (lv_at hl 1 rfl) ?_
  refine gf_1_types C hX fl_Cont_14 d_Cont_parametersOf_11 ?_
  refine lv_iload_n hx hb d_Cont_parametersOf_14 rfl (lv_at hl 0 rfl) ?_
  obtain ⟨r2, er2, h⟩ := lt1_e h
  refine x_vI (r := r2) (ws' := wX g s) (As := [.int r1]) (rest := []) C hX (by rw [er2]; exact cTabHas_10 l g s r1) (cw_Cont_56 C.1.2.2.2.2 C.2.2.2 ⟨by decide, by decide⟩) (x_rc C hX wg_10 rfl) rfl hl.1 rfl (lv_room (Nat.le_of_ble_eq_true rfl)) d_Cont_parametersOf_15 ⟨Nat.le_refl _, Nat.le_refl _⟩ (fun H locs hX => ?_)
  refine lv_if_eq (tgt := 33) hx hb d_Cont_parametersOf_18 (by decide) (fun c18 => ?_) (fun c18 => ?_)
  · have h := ite_t c18 h
    refine lv_iconst (v := 0) hx hb d_Cont_parametersOf_33 (by decide) ?_
    exact w_Cont_parametersOf_34 C hQ x1 r1 0 H locs ls hX (lv_sub hl [1, 2, 0] rfl) h
  · have h := ite_f c18 h
    refine lv_aload_n hx hb d_Cont_parametersOf_21 rfl (lv_at hl 1 rfl) ?_
    refine gf_1_types C hX fl_Cont_14 d_Cont_parametersOf_22 ?_
    refine lv_iload_n hx hb d_Cont_parametersOf_25 rfl (lv_at hl 0 rfl) ?_
    refine lv_iconst (v := 0) hx hb d_Cont_parametersOf_26 (by decide) ?_
    obtain ⟨r3, er3, h⟩ := lt1_e h
    refine x_vI (r := r3) (ws' := wX g s) (As := [.int r1, .int 0]) (rest := []) C hX (by rw [er3]; exact cTabGet_10 l g s r1 0) (cw_Cont_52 C.1.2.2.2.2 C.2.2.2 ⟨by decide, by decide⟩) (x_rc C hX wg_10 rfl) rfl hl.1 rfl (lv_room (Nat.le_of_ble_eq_true rfl)) d_Cont_parametersOf_27 ⟨Nat.le_refl _, Nat.le_refl _⟩ (fun H locs hX => ?_)
    refine lv_goto (tgt := 34) hx hb d_Cont_parametersOf_30 (by decide) ?_
    exact w_Cont_parametersOf_34 C hQ x1 r1 r3 H locs ls hX (lv_sub hl [1, 2, 0] rfl) h
end WALK
theorem c_Cont_parametersOf (l : Launch) (g : GX) (x1 : Int32) (s : St) (z : Int32) (h : f_Cont_parametersOf s x1 = some z) : MI l g y_Cont_parametersOf b_Cont_parametersOf 3 (some .int) 1 23 [.ref (g.q 1), .int x1] (wX g s) z (wX g s) :=
  MI.mk (own := R_Cont) (by decide) rfl (Nat.le_of_ble_eq_true rfl) fun p e ss m below meth c A Q C hQ ls hX hl => w_Cont_parametersOf C hQ x1 _ _ ls hX hl h
-- Cont_resultsOf
def f_Cont_resultsOf_34 (s : St) (x1 : Int32) (x2 : Int32) (y0 : Int32) : Option Int32 :=
    some (y0)
def f_Cont_resultsOf (s : St) (x1 : Int32) : Option Int32 :=
    lt1 (tGet 8 4 (s 13) x1 0) fun r1 =>
    lt1 (tHas (s 10 0) r1) fun r2 =>
    if r2 = 0 then
      f_Cont_resultsOf_34 s x1 r1 0
    else
      lt1 (tGet 8 2 (s 11) r1 1) fun r3 =>
      f_Cont_resultsOf_34 s x1 r1 r3
section WALK
variable {p : Program} {l : Launch} {e : Env} {ss : State} {m : MethodId} {args : Array Value} {below : List Frame} {meth : Method} {c : Code} {Q : State → Prop} {g : GX} {A : Nat → Prop}
set_option maxHeartbeats 4000000 in
set_option maxRecDepth 100000 in
theorem w_Cont_resultsOf_34 {s : St} {z : Int32} (C : Cx g A p m c b_Cont_resultsOf 3 ss args R_Cont) (hQ : ∀ (pc : Nat) (H : Heap) (locs : List Loc) (ls : Array Slot), XW g A ss (wX g s) H locs → decode b_Cont_resultsOf pc = .ok (.ireturn, 1) → W p l e (rmX 1 23) ss m args below meth c H locs 0 0 Q (F0 m pc ls [.int z])) : ∀ (x1 : Int32) (x2 : Int32) (y0 : Int32) (H : Heap) (locs : List Loc) (ls : Array Slot), XW g A ss (wX g s) H locs → lv_has ls 3 [(0, .ref (g.q 1)), (1, .int x1), (2, .int x2)] → f_Cont_resultsOf_34 s x1 x2 y0 = some z → W p l e (rmX 1 23) ss m args below meth c H locs 0 0 Q (F0 m 34 ls [.int y0]) := by
  have ⟨⟨hx, hb, hml, hown, hts⟩, hK, hA, hN⟩ := C
  intro x1 x2 y0 H locs ls hX hl h
  rw [f_Cont_resultsOf_34] at h
  obtain rfl := so1 h
  exact hQ _ H locs ls hX d_Cont_resultsOf_34
set_option maxHeartbeats 4000000 in
set_option maxRecDepth 100000 in
theorem w_Cont_resultsOf {s : St} {z : Int32} (C : Cx g A p m c b_Cont_resultsOf 3 ss args R_Cont) (hQ : ∀ (pc : Nat) (H : Heap) (locs : List Loc) (ls : Array Slot), XW g A ss (wX g s) H locs → decode b_Cont_resultsOf pc = .ok (.ireturn, 1) → W p l e (rmX 1 23) ss m args below meth c H locs 0 0 Q (F0 m pc ls [.int z])) : ∀ (x1 : Int32) (H : Heap) (locs : List Loc) (ls : Array Slot), XW g A ss (wX g s) H locs → lv_has ls 3 [(0, .ref (g.q 1)), (1, .int x1)] → f_Cont_resultsOf s x1 = some z → W p l e (rmX 1 23) ss m args below meth c H locs 0 0 Q (F0 m 0 ls []) := by
  have ⟨⟨hx, hb, hml, hown, hts⟩, hK, hA, hN⟩ := C
  intro x1 H locs ls hX hl h
  rw [f_Cont_resultsOf] at h
  refine lv_aload_n hx hb d_Cont_resultsOf_0 rfl (lv_at hl 0 rfl) ?_
  refine gf_1_functions C hX fl_Cont_20 d_Cont_resultsOf_1 ?_
  refine lv_iload_n hx hb d_Cont_resultsOf_4 rfl (lv_at hl 1 rfl) ?_
  refine lv_iconst (v := 0) hx hb d_Cont_resultsOf_5 (by decide) ?_
  obtain ⟨r1, er1, h⟩ := lt1_e h
  refine x_vI (r := r1) (ws' := wX g s) (As := [.int x1, .int 0]) (rest := []) C hX (by rw [er1]; exact cTabGet_12 l g s x1 0) (cw_Cont_52 C.1.2.2.2.2 C.2.2.2 ⟨by decide, by decide⟩) (x_rc C hX wg_12 rfl) rfl hl.1 rfl (lv_room (Nat.le_of_ble_eq_true rfl)) d_Cont_resultsOf_6 ⟨Nat.le_refl _, Nat.le_refl _⟩ (fun H locs hX => ?_)
  refine lv_istore_n (lv' := [(2, .int r1), (0, .ref (g.q 1)), (1, .int x1)]) hx hb d_Cont_resultsOf_9 rfl hl (by decide) rfl (fun ls hl => ?_)
  refine lv_aload_n hx hb d_Cont_resultsOf_10 rfl (lv_at hl 1 rfl) ?_
  refine gf_1_types C hX fl_Cont_14 d_Cont_resultsOf_11 ?_
  refine lv_iload_n hx hb d_Cont_resultsOf_14 rfl (lv_at hl 0 rfl) ?_
  obtain ⟨r2, er2, h⟩ := lt1_e h
  refine x_vI (r := r2) (ws' := wX g s) (As := [.int r1]) (rest := []) C hX (by rw [er2]; exact cTabHas_10 l g s r1) (cw_Cont_56 C.1.2.2.2.2 C.2.2.2 ⟨by decide, by decide⟩) (x_rc C hX wg_10 rfl) rfl hl.1 rfl (lv_room (Nat.le_of_ble_eq_true rfl)) d_Cont_resultsOf_15 ⟨Nat.le_refl _, Nat.le_refl _⟩ (fun H locs hX => ?_)
  refine lv_if_eq (tgt := 33) hx hb d_Cont_resultsOf_18 (by decide) (fun c18 => ?_) (fun c18 => ?_)
  · have h := ite_t c18 h
    refine lv_iconst (v := 0) hx hb d_Cont_resultsOf_33 (by decide) ?_
    exact w_Cont_resultsOf_34 C hQ x1 r1 0 H locs ls hX (lv_sub hl [1, 2, 0] rfl) h
  · have h := ite_f c18 h
    refine lv_aload_n hx hb d_Cont_resultsOf_21 rfl (lv_at hl 1 rfl) ?_
    refine gf_1_types C hX fl_Cont_14 d_Cont_resultsOf_22 ?_
    refine lv_iload_n hx hb d_Cont_resultsOf_25 rfl (lv_at hl 0 rfl) ?_
    refine lv_iconst (v := 1) hx hb d_Cont_resultsOf_26 (by decide) ?_
    obtain ⟨r3, er3, h⟩ := lt1_e h
    refine x_vI (r := r3) (ws' := wX g s) (As := [.int r1, .int 1]) (rest := []) C hX (by rw [er3]; exact cTabGet_10 l g s r1 1) (cw_Cont_52 C.1.2.2.2.2 C.2.2.2 ⟨by decide, by decide⟩) (x_rc C hX wg_10 rfl) rfl hl.1 rfl (lv_room (Nat.le_of_ble_eq_true rfl)) d_Cont_resultsOf_27 ⟨Nat.le_refl _, Nat.le_refl _⟩ (fun H locs hX => ?_)
    refine lv_goto (tgt := 34) hx hb d_Cont_resultsOf_30 (by decide) ?_
    exact w_Cont_resultsOf_34 C hQ x1 r1 r3 H locs ls hX (lv_sub hl [1, 2, 0] rfl) h
end WALK
theorem c_Cont_resultsOf (l : Launch) (g : GX) (x1 : Int32) (s : St) (z : Int32) (h : f_Cont_resultsOf s x1 = some z) : MI l g y_Cont_resultsOf b_Cont_resultsOf 3 (some .int) 1 23 [.ref (g.q 1), .int x1] (wX g s) z (wX g s) :=
  MI.mk (own := R_Cont) (by decide) rfl (Nat.le_of_ble_eq_true rfl) fun p e ss m below meth c A Q C hQ ls hX hl => w_Cont_resultsOf C hQ x1 _ _ ls hX hl h
-- Cont_labelResults
def f_Cont_labelResults_32 (s : St) (x1 : Int32) (y0 : Int32) : Option Int32 :=
    some (y0)
def f_Cont_labelResults_31 (s : St) (x1 : Int32) : Option Int32 :=
    f_Cont_labelResults_32 s x1 0
def f_Cont_labelResults (s : St) (x1 : Int32) : Option Int32 :=
    lt1 (tGet 240 7 (s 21) x1 0) fun r1 =>
    if r1 = 3 then
      f_Cont_labelResults_31 s x1
    else
      lt1 (tGet 240 7 (s 21) x1 1) fun r2 =>
      if r2 = 127 then
        f_Cont_labelResults_32 s x1 1
      else
        f_Cont_labelResults_31 s x1
section WALK
variable {p : Program} {l : Launch} {e : Env} {ss : State} {m : MethodId} {args : Array Value} {below : List Frame} {meth : Method} {c : Code} {Q : State → Prop} {g : GX} {A : Nat → Prop}
set_option maxHeartbeats 4000000 in
set_option maxRecDepth 100000 in
theorem w_Cont_labelResults_32 {s : St} {z : Int32} (C : Cx g A p m c b_Cont_labelResults 2 ss args R_Cont) (hQ : ∀ (pc : Nat) (H : Heap) (locs : List Loc) (ls : Array Slot), XW g A ss (wX g s) H locs → decode b_Cont_labelResults pc = .ok (.ireturn, 1) → W p l e (rmX 1 23) ss m args below meth c H locs 0 0 Q (F0 m pc ls [.int z])) : ∀ (x1 : Int32) (y0 : Int32) (H : Heap) (locs : List Loc) (ls : Array Slot), XW g A ss (wX g s) H locs → lv_has ls 2 [(0, .ref (g.q 1)), (1, .int x1)] → f_Cont_labelResults_32 s x1 y0 = some z → W p l e (rmX 1 23) ss m args below meth c H locs 0 0 Q (F0 m 32 ls [.int y0]) := by
  have ⟨⟨hx, hb, hml, hown, hts⟩, hK, hA, hN⟩ := C
  intro x1 y0 H locs ls hX hl h
  rw [f_Cont_labelResults_32] at h
  obtain rfl := so1 h
  exact hQ _ H locs ls hX d_Cont_labelResults_32
set_option maxHeartbeats 4000000 in
set_option maxRecDepth 100000 in
theorem w_Cont_labelResults_31 {s : St} {z : Int32} (C : Cx g A p m c b_Cont_labelResults 2 ss args R_Cont) (hQ : ∀ (pc : Nat) (H : Heap) (locs : List Loc) (ls : Array Slot), XW g A ss (wX g s) H locs → decode b_Cont_labelResults pc = .ok (.ireturn, 1) → W p l e (rmX 1 23) ss m args below meth c H locs 0 0 Q (F0 m pc ls [.int z])) : ∀ (x1 : Int32) (H : Heap) (locs : List Loc) (ls : Array Slot), XW g A ss (wX g s) H locs → lv_has ls 2 [(0, .ref (g.q 1)), (1, .int x1)] → f_Cont_labelResults_31 s x1 = some z → W p l e (rmX 1 23) ss m args below meth c H locs 0 0 Q (F0 m 31 ls []) := by
  have ⟨⟨hx, hb, hml, hown, hts⟩, hK, hA, hN⟩ := C
  intro x1 H locs ls hX hl h
  rw [f_Cont_labelResults_31] at h
  refine lv_iconst (v := 0) hx hb d_Cont_labelResults_31 (by decide) ?_
  exact w_Cont_labelResults_32 C hQ x1 0 H locs ls hX hl h
set_option maxHeartbeats 4000000 in
set_option maxRecDepth 100000 in
theorem w_Cont_labelResults {s : St} {z : Int32} (C : Cx g A p m c b_Cont_labelResults 2 ss args R_Cont) (hQ : ∀ (pc : Nat) (H : Heap) (locs : List Loc) (ls : Array Slot), XW g A ss (wX g s) H locs → decode b_Cont_labelResults pc = .ok (.ireturn, 1) → W p l e (rmX 1 23) ss m args below meth c H locs 0 0 Q (F0 m pc ls [.int z])) : ∀ (x1 : Int32) (H : Heap) (locs : List Loc) (ls : Array Slot), XW g A ss (wX g s) H locs → lv_has ls 2 [(0, .ref (g.q 1)), (1, .int x1)] → f_Cont_labelResults s x1 = some z → W p l e (rmX 1 23) ss m args below meth c H locs 0 0 Q (F0 m 0 ls []) := by
  have ⟨⟨hx, hb, hml, hown, hts⟩, hK, hA, hN⟩ := C
  intro x1 H locs ls hX hl h
  rw [f_Cont_labelResults] at h
  refine lv_aload_n hx hb d_Cont_labelResults_0 rfl (lv_at hl 0 rfl) ?_
  refine gf_1_code C hX fl_Cont_32 d_Cont_labelResults_1 ?_
  refine lv_iload_n hx hb d_Cont_labelResults_4 rfl (lv_at hl 1 rfl) ?_
  refine lv_iconst (v := 0) hx hb d_Cont_labelResults_5 (by decide) ?_
  obtain ⟨r1, er1, h⟩ := lt1_e h
  refine x_vI (r := r1) (ws' := wX g s) (As := [.int x1, .int 0]) (rest := []) C hX (by rw [er1]; exact cTabGet_20 l g s x1 0) (cw_Cont_52 C.1.2.2.2.2 C.2.2.2 ⟨by decide, by decide⟩) (x_rc C hX wg_20 rfl) rfl hl.1 rfl (lv_room (Nat.le_of_ble_eq_true rfl)) d_Cont_labelResults_6 ⟨Nat.le_refl _, Nat.le_refl _⟩ (fun H locs hX => ?_)
  refine lv_iconst (v := 3) hx hb d_Cont_labelResults_9 (by decide) ?_
  refine lv_icmp_eq (tgt := 31) hx hb d_Cont_labelResults_10 (by decide) (fun c10 => ?_) (fun c10 => ?_)
  · have h := ite_t c10 h
    exact w_Cont_labelResults_31 C hQ x1 H locs ls hX hl h
  · have h := ite_f c10 h
    refine lv_aload_n hx hb d_Cont_labelResults_13 rfl (lv_at hl 0 rfl) ?_
    refine gf_1_code C hX fl_Cont_32 d_Cont_labelResults_14 ?_
    refine lv_iload_n hx hb d_Cont_labelResults_17 rfl (lv_at hl 1 rfl) ?_
    refine lv_iconst (v := 1) hx hb d_Cont_labelResults_18 (by decide) ?_
    obtain ⟨r2, er2, h⟩ := lt1_e h
    refine x_vI (r := r2) (ws' := wX g s) (As := [.int x1, .int 1]) (rest := []) C hX (by rw [er2]; exact cTabGet_20 l g s x1 1) (cw_Cont_52 C.1.2.2.2.2 C.2.2.2 ⟨by decide, by decide⟩) (x_rc C hX wg_20 rfl) rfl hl.1 rfl (lv_room (Nat.le_of_ble_eq_true rfl)) d_Cont_labelResults_19 ⟨Nat.le_refl _, Nat.le_refl _⟩ (fun H locs hX => ?_)
    refine lv_bipush (v := 127) hx hb d_Cont_labelResults_22 (by decide) ?_
    refine lv_icmp_ne (tgt := 31) hx hb d_Cont_labelResults_24 (by decide) (fun c24 => ?_) (fun c24 => ?_)
    · have h := ite_f c24 h
      exact w_Cont_labelResults_31 C hQ x1 H locs ls hX hl h
    · have h := ite_t c24 h
      refine lv_iconst (v := 1) hx hb d_Cont_labelResults_27 (by decide) ?_
      refine lv_goto (tgt := 32) hx hb d_Cont_labelResults_28 (by decide) ?_
      exact w_Cont_labelResults_32 C hQ x1 1 H locs ls hX hl h
end WALK
theorem c_Cont_labelResults (l : Launch) (g : GX) (x1 : Int32) (s : St) (z : Int32) (h : f_Cont_labelResults s x1 = some z) : MI l g y_Cont_labelResults b_Cont_labelResults 2 (some .int) 1 23 [.ref (g.q 1), .int x1] (wX g s) z (wX g s) :=
  MI.mk (own := R_Cont) (by decide) rfl (Nat.le_of_ble_eq_true rfl) fun p e ss m below meth c A Q C hQ ls hX hl => w_Cont_labelResults C hQ x1 _ _ ls hX hl h
-- Cont_blockResults
def f_Cont_blockResults_19 (s : St) (x1 : Int32) (y0 : Int32) : Option Int32 :=
    some (y0)
def f_Cont_blockResults (s : St) (x1 : Int32) : Option Int32 :=
    lt1 (tGet 240 7 (s 21) x1 1) fun r1 =>
    if r1 = 127 then
      f_Cont_blockResults_19 s x1 1
    else
      f_Cont_blockResults_19 s x1 0
section WALK
variable {p : Program} {l : Launch} {e : Env} {ss : State} {m : MethodId} {args : Array Value} {below : List Frame} {meth : Method} {c : Code} {Q : State → Prop} {g : GX} {A : Nat → Prop}
set_option maxHeartbeats 4000000 in
set_option maxRecDepth 100000 in
theorem w_Cont_blockResults_19 {s : St} {z : Int32} (C : Cx g A p m c b_Cont_blockResults 2 ss args R_Cont) (hQ : ∀ (pc : Nat) (H : Heap) (locs : List Loc) (ls : Array Slot), XW g A ss (wX g s) H locs → decode b_Cont_blockResults pc = .ok (.ireturn, 1) → W p l e (rmX 1 23) ss m args below meth c H locs 0 0 Q (F0 m pc ls [.int z])) : ∀ (x1 : Int32) (y0 : Int32) (H : Heap) (locs : List Loc) (ls : Array Slot), XW g A ss (wX g s) H locs → lv_has ls 2 [(0, .ref (g.q 1)), (1, .int x1)] → f_Cont_blockResults_19 s x1 y0 = some z → W p l e (rmX 1 23) ss m args below meth c H locs 0 0 Q (F0 m 19 ls [.int y0]) := by
  have ⟨⟨hx, hb, hml, hown, hts⟩, hK, hA, hN⟩ := C
  intro x1 y0 H locs ls hX hl h
  rw [f_Cont_blockResults_19] at h
  obtain rfl := so1 h
  exact hQ _ H locs ls hX d_Cont_blockResults_19
set_option maxHeartbeats 4000000 in
set_option maxRecDepth 100000 in
theorem w_Cont_blockResults {s : St} {z : Int32} (C : Cx g A p m c b_Cont_blockResults 2 ss args R_Cont) (hQ : ∀ (pc : Nat) (H : Heap) (locs : List Loc) (ls : Array Slot), XW g A ss (wX g s) H locs → decode b_Cont_blockResults pc = .ok (.ireturn, 1) → W p l e (rmX 1 23) ss m args below meth c H locs 0 0 Q (F0 m pc ls [.int z])) : ∀ (x1 : Int32) (H : Heap) (locs : List Loc) (ls : Array Slot), XW g A ss (wX g s) H locs → lv_has ls 2 [(0, .ref (g.q 1)), (1, .int x1)] → f_Cont_blockResults s x1 = some z → W p l e (rmX 1 23) ss m args below meth c H locs 0 0 Q (F0 m 0 ls []) := by
  have ⟨⟨hx, hb, hml, hown, hts⟩, hK, hA, hN⟩ := C
  intro x1 H locs ls hX hl h
  rw [f_Cont_blockResults] at h
  refine lv_aload_n hx hb d_Cont_blockResults_0 rfl (lv_at hl 0 rfl) ?_
  refine gf_1_code C hX fl_Cont_32 d_Cont_blockResults_1 ?_
  refine lv_iload_n hx hb d_Cont_blockResults_4 rfl (lv_at hl 1 rfl) ?_
  refine lv_iconst (v := 1) hx hb d_Cont_blockResults_5 (by decide) ?_
  obtain ⟨r1, er1, h⟩ := lt1_e h
  refine x_vI (r := r1) (ws' := wX g s) (As := [.int x1, .int 1]) (rest := []) C hX (by rw [er1]; exact cTabGet_20 l g s x1 1) (cw_Cont_52 C.1.2.2.2.2 C.2.2.2 ⟨by decide, by decide⟩) (x_rc C hX wg_20 rfl) rfl hl.1 rfl (lv_room (Nat.le_of_ble_eq_true rfl)) d_Cont_blockResults_6 ⟨Nat.le_refl _, Nat.le_refl _⟩ (fun H locs hX => ?_)
  refine lv_bipush (v := 127) hx hb d_Cont_blockResults_9 (by decide) ?_
  refine lv_icmp_ne (tgt := 18) hx hb d_Cont_blockResults_11 (by decide) (fun c11 => ?_) (fun c11 => ?_)
  · have h := ite_f c11 h
    refine lv_iconst (v := 0) hx hb d_Cont_blockResults_18 (by decide) ?_
    exact w_Cont_blockResults_19 C hQ x1 0 H locs ls hX hl h
  · have h := ite_t c11 h
    refine lv_iconst (v := 1) hx hb d_Cont_blockResults_14 (by decide) ?_
    refine lv_goto (tgt := 19) hx hb d_Cont_blockResults_15 (by decide) ?_
    exact w_Cont_blockResults_19 C hQ x1 1 H locs ls hX hl h
end WALK
theorem c_Cont_blockResults (l : Launch) (g : GX) (x1 : Int32) (s : St) (z : Int32) (h : f_Cont_blockResults s x1 = some z) : MI l g y_Cont_blockResults b_Cont_blockResults 2 (some .int) 1 23 [.ref (g.q 1), .int x1] (wX g s) z (wX g s) :=
  MI.mk (own := R_Cont) (by decide) rfl (Nat.le_of_ble_eq_true rfl) fun p e ss m below meth c A Q C hQ ls hX hl => w_Cont_blockResults C hQ x1 _ _ ls hX hl h
-- Cont_endOf
def f_Cont_endOf_36 (s : St) (x1 : Int32) (x2 : Int32) (y0 : Int32) : Option Int32 :=
    some (y0)
def f_Cont_endOf (s : St) (x1 : Int32) : Option Int32 :=
    lt1 (tGet 240 7 (s 21) x1 3) fun r1 =>
    lt1 (tGet 240 7 (s 21) r1 0) fun r2 =>
    if r2 = 5 then
      lt1 (tGet 240 7 (s 21) r1 3) fun r3 =>
      f_Cont_endOf_36 s x1 r1 r3
    else
      f_Cont_endOf_36 s x1 r1 r1
section WALK
variable {p : Program} {l : Launch} {e : Env} {ss : State} {m : MethodId} {args : Array Value} {below : List Frame} {meth : Method} {c : Code} {Q : State → Prop} {g : GX} {A : Nat → Prop}
set_option maxHeartbeats 4000000 in
set_option maxRecDepth 100000 in
theorem w_Cont_endOf_36 {s : St} {z : Int32} (C : Cx g A p m c b_Cont_endOf 3 ss args R_Cont) (hQ : ∀ (pc : Nat) (H : Heap) (locs : List Loc) (ls : Array Slot), XW g A ss (wX g s) H locs → decode b_Cont_endOf pc = .ok (.ireturn, 1) → W p l e (rmX 1 23) ss m args below meth c H locs 0 0 Q (F0 m pc ls [.int z])) : ∀ (x1 : Int32) (x2 : Int32) (y0 : Int32) (H : Heap) (locs : List Loc) (ls : Array Slot), XW g A ss (wX g s) H locs → lv_has ls 3 [(0, .ref (g.q 1)), (1, .int x1), (2, .int x2)] → f_Cont_endOf_36 s x1 x2 y0 = some z → W p l e (rmX 1 23) ss m args below meth c H locs 0 0 Q (F0 m 36 ls [.int y0]) := by
  have ⟨⟨hx, hb, hml, hown, hts⟩, hK, hA, hN⟩ := C
  intro x1 x2 y0 H locs ls hX hl h
  rw [f_Cont_endOf_36] at h
  obtain rfl := so1 h
  exact hQ _ H locs ls hX d_Cont_endOf_36
set_option maxHeartbeats 4000000 in
set_option maxRecDepth 100000 in
theorem w_Cont_endOf {s : St} {z : Int32} (C : Cx g A p m c b_Cont_endOf 3 ss args R_Cont) (hQ : ∀ (pc : Nat) (H : Heap) (locs : List Loc) (ls : Array Slot), XW g A ss (wX g s) H locs → decode b_Cont_endOf pc = .ok (.ireturn, 1) → W p l e (rmX 1 23) ss m args below meth c H locs 0 0 Q (F0 m pc ls [.int z])) : ∀ (x1 : Int32) (H : Heap) (locs : List Loc) (ls : Array Slot), XW g A ss (wX g s) H locs → lv_has ls 3 [(0, .ref (g.q 1)), (1, .int x1)] → f_Cont_endOf s x1 = some z → W p l e (rmX 1 23) ss m args below meth c H locs 0 0 Q (F0 m 0 ls []) := by
  have ⟨⟨hx, hb, hml, hown, hts⟩, hK, hA, hN⟩ := C
  intro x1 H locs ls hX hl h
  rw [f_Cont_endOf] at h
  refine lv_aload_n hx hb d_Cont_endOf_0 rfl (lv_at hl 0 rfl) ?_
  refine gf_1_code C hX fl_Cont_32 d_Cont_endOf_1 ?_
  refine lv_iload_n hx hb d_Cont_endOf_4 rfl (lv_at hl 1 rfl) ?_
  refine lv_iconst (v := 3) hx hb d_Cont_endOf_5 (by decide) ?_
  obtain ⟨r1, er1, h⟩ := lt1_e h
  refine x_vI (r := r1) (ws' := wX g s) (As := [.int x1, .int 3]) (rest := []) C hX (by rw [er1]; exact cTabGet_20 l g s x1 3) (cw_Cont_52 C.1.2.2.2.2 C.2.2.2 ⟨by decide, by decide⟩) (x_rc C hX wg_20 rfl) rfl hl.1 rfl (lv_room (Nat.le_of_ble_eq_true rfl)) d_Cont_endOf_6 ⟨Nat.le_refl _, Nat.le_refl _⟩ (fun H locs hX => ?_)
  refine lv_istore_n (lv' := [(2, .int r1), (0, .ref (g.q 1)), (1, .int x1)]) hx hb d_Cont_endOf_9 rfl hl (by decide) rfl (fun ls hl => ?_)
  refine lv_aload_n hx hb d_Cont_endOf_10 rfl (lv_at hl 1 rfl) ?_
  refine gf_1_code C hX fl_Cont_32 d_Cont_endOf_11 ?_
  refine lv_iload_n hx hb d_Cont_endOf_14 rfl (lv_at hl 0 rfl) ?_
  refine lv_iconst (v := 0) hx hb d_Cont_endOf_15 (by decide) ?_
  obtain ⟨r2, er2, h⟩ := lt1_e h
  refine x_vI (r := r2) (ws' := wX g s) (As := [.int r1, .int 0]) (rest := []) C hX (by rw [er2]; exact cTabGet_20 l g s r1 0) (cw_Cont_52 C.1.2.2.2.2 C.2.2.2 ⟨by decide, by decide⟩) (x_rc C hX wg_20 rfl) rfl hl.1 rfl (lv_room (Nat.le_of_ble_eq_true rfl)) d_Cont_endOf_16 ⟨Nat.le_refl _, Nat.le_refl _⟩ (fun H locs hX => ?_)
  refine lv_iconst (v := 5) hx hb d_Cont_endOf_19 (by decide) ?_
  refine lv_icmp_ne (tgt := 35) hx hb d_Cont_endOf_20 (by decide) (fun c20 => ?_) (fun c20 => ?_)
  · have h := ite_f c20 h
    refine lv_iload_n hx hb d_Cont_endOf_35 rfl (lv_at hl 0 rfl) ?_
    exact w_Cont_endOf_36 C hQ x1 r1 r1 H locs ls hX (lv_sub hl [1, 2, 0] rfl) h
  · have h := ite_t c20 h
    refine lv_aload_n hx hb d_Cont_endOf_23 rfl (lv_at hl 1 rfl) ?_
    refine gf_1_code C hX fl_Cont_32 d_Cont_endOf_24 ?_
    refine lv_iload_n hx hb d_Cont_endOf_27 rfl (lv_at hl 0 rfl) ?_
    refine lv_iconst (v := 3) hx hb d_Cont_endOf_28 (by decide) ?_
    obtain ⟨r3, er3, h⟩ := lt1_e h
    refine x_vI (r := r3) (ws' := wX g s) (As := [.int r1, .int 3]) (rest := []) C hX (by rw [er3]; exact cTabGet_20 l g s r1 3) (cw_Cont_52 C.1.2.2.2.2 C.2.2.2 ⟨by decide, by decide⟩) (x_rc C hX wg_20 rfl) rfl hl.1 rfl (lv_room (Nat.le_of_ble_eq_true rfl)) d_Cont_endOf_29 ⟨Nat.le_refl _, Nat.le_refl _⟩ (fun H locs hX => ?_)
    refine lv_goto (tgt := 36) hx hb d_Cont_endOf_32 (by decide) ?_
    exact w_Cont_endOf_36 C hQ x1 r1 r3 H locs ls hX (lv_sub hl [1, 2, 0] rfl) h
end WALK
theorem c_Cont_endOf (l : Launch) (g : GX) (x1 : Int32) (s : St) (z : Int32) (h : f_Cont_endOf s x1 = some z) : MI l g y_Cont_endOf b_Cont_endOf 3 (some .int) 1 23 [.ref (g.q 1), .int x1] (wX g s) z (wX g s) :=
  MI.mk (own := R_Cont) (by decide) rfl (Nat.le_of_ble_eq_true rfl) fun p e ss m below meth c A Q C hQ ls hX hl => w_Cont_endOf C hQ x1 _ _ ls hX hl h
-- Cont_otherwiseOf
def f_Cont_otherwiseOf_30 (s : St) (x1 : Int32) (x2 : Int32) (y0 : Int32) : Option Int32 :=
    some (y0)
def f_Cont_otherwiseOf (s : St) (x1 : Int32) : Option Int32 :=
    lt1 (tGet 240 7 (s 21) x1 3) fun r1 =>
    lt1 (tGet 240 7 (s 21) r1 0) fun r2 =>
    if r2 = 5 then
      lt1 (r1 + 1) fun v3 =>
      f_Cont_otherwiseOf_30 s x1 r1 v3
    else
      f_Cont_otherwiseOf_30 s x1 r1 r1
section WALK
variable {p : Program} {l : Launch} {e : Env} {ss : State} {m : MethodId} {args : Array Value} {below : List Frame} {meth : Method} {c : Code} {Q : State → Prop} {g : GX} {A : Nat → Prop}
set_option maxHeartbeats 4000000 in
set_option maxRecDepth 100000 in
theorem w_Cont_otherwiseOf_30 {s : St} {z : Int32} (C : Cx g A p m c b_Cont_otherwiseOf 3 ss args R_Cont) (hQ : ∀ (pc : Nat) (H : Heap) (locs : List Loc) (ls : Array Slot), XW g A ss (wX g s) H locs → decode b_Cont_otherwiseOf pc = .ok (.ireturn, 1) → W p l e (rmX 1 23) ss m args below meth c H locs 0 0 Q (F0 m pc ls [.int z])) : ∀ (x1 : Int32) (x2 : Int32) (y0 : Int32) (H : Heap) (locs : List Loc) (ls : Array Slot), XW g A ss (wX g s) H locs → lv_has ls 3 [(0, .ref (g.q 1)), (1, .int x1), (2, .int x2)] → f_Cont_otherwiseOf_30 s x1 x2 y0 = some z → W p l e (rmX 1 23) ss m args below meth c H locs 0 0 Q (F0 m 30 ls [.int y0]) := by
  have ⟨⟨hx, hb, hml, hown, hts⟩, hK, hA, hN⟩ := C
  intro x1 x2 y0 H locs ls hX hl h
  rw [f_Cont_otherwiseOf_30] at h
  obtain rfl := so1 h
  exact hQ _ H locs ls hX d_Cont_otherwiseOf_30
set_option maxHeartbeats 4000000 in
set_option maxRecDepth 100000 in
theorem w_Cont_otherwiseOf {s : St} {z : Int32} (C : Cx g A p m c b_Cont_otherwiseOf 3 ss args R_Cont) (hQ : ∀ (pc : Nat) (H : Heap) (locs : List Loc) (ls : Array Slot), XW g A ss (wX g s) H locs → decode b_Cont_otherwiseOf pc = .ok (.ireturn, 1) → W p l e (rmX 1 23) ss m args below meth c H locs 0 0 Q (F0 m pc ls [.int z])) : ∀ (x1 : Int32) (H : Heap) (locs : List Loc) (ls : Array Slot), XW g A ss (wX g s) H locs → lv_has ls 3 [(0, .ref (g.q 1)), (1, .int x1)] → f_Cont_otherwiseOf s x1 = some z → W p l e (rmX 1 23) ss m args below meth c H locs 0 0 Q (F0 m 0 ls []) := by
  have ⟨⟨hx, hb, hml, hown, hts⟩, hK, hA, hN⟩ := C
  intro x1 H locs ls hX hl h
  rw [f_Cont_otherwiseOf] at h
  refine lv_aload_n hx hb d_Cont_otherwiseOf_0 rfl (lv_at hl 0 rfl) ?_
  refine gf_1_code C hX fl_Cont_32 d_Cont_otherwiseOf_1 ?_
  refine lv_iload_n hx hb d_Cont_otherwiseOf_4 rfl (lv_at hl 1 rfl) ?_
  refine lv_iconst (v := 3) hx hb d_Cont_otherwiseOf_5 (by decide) ?_
  obtain ⟨r1, er1, h⟩ := lt1_e h
  refine x_vI (r := r1) (ws' := wX g s) (As := [.int x1, .int 3]) (rest := []) C hX (by rw [er1]; exact cTabGet_20 l g s x1 3) (cw_Cont_52 C.1.2.2.2.2 C.2.2.2 ⟨by decide, by decide⟩) (x_rc C hX wg_20 rfl) rfl hl.1 rfl (lv_room (Nat.le_of_ble_eq_true rfl)) d_Cont_otherwiseOf_6 ⟨Nat.le_refl _, Nat.le_refl _⟩ (fun H locs hX => ?_)
  refine lv_istore_n (lv' := [(2, .int r1), (0, .ref (g.q 1)), (1, .int x1)]) hx hb d_Cont_otherwiseOf_9 rfl hl (by decide) rfl (fun ls hl => ?_)
  refine lv_aload_n hx hb d_Cont_otherwiseOf_10 rfl (lv_at hl 1 rfl) ?_
  refine gf_1_code C hX fl_Cont_32 d_Cont_otherwiseOf_11 ?_
  refine lv_iload_n hx hb d_Cont_otherwiseOf_14 rfl (lv_at hl 0 rfl) ?_
  refine lv_iconst (v := 0) hx hb d_Cont_otherwiseOf_15 (by decide) ?_
  obtain ⟨r2, er2, h⟩ := lt1_e h
  refine x_vI (r := r2) (ws' := wX g s) (As := [.int r1, .int 0]) (rest := []) C hX (by rw [er2]; exact cTabGet_20 l g s r1 0) (cw_Cont_52 C.1.2.2.2.2 C.2.2.2 ⟨by decide, by decide⟩) (x_rc C hX wg_20 rfl) rfl hl.1 rfl (lv_room (Nat.le_of_ble_eq_true rfl)) d_Cont_otherwiseOf_16 ⟨Nat.le_refl _, Nat.le_refl _⟩ (fun H locs hX => ?_)
  refine lv_iconst (v := 5) hx hb d_Cont_otherwiseOf_19 (by decide) ?_
  refine lv_icmp_ne (tgt := 29) hx hb d_Cont_otherwiseOf_20 (by decide) (fun c20 => ?_) (fun c20 => ?_)
  · have h := ite_f c20 h
    refine lv_iload_n hx hb d_Cont_otherwiseOf_29 rfl (lv_at hl 0 rfl) ?_
    exact w_Cont_otherwiseOf_30 C hQ x1 r1 r1 H locs ls hX (lv_sub hl [1, 2, 0] rfl) h
  · have h := ite_t c20 h
    refine lv_iload_n hx hb d_Cont_otherwiseOf_23 rfl (lv_at hl 0 rfl) ?_
    refine lv_iconst (v := 1) hx hb d_Cont_otherwiseOf_24 (by decide) ?_
    obtain ⟨v3, ev3, h⟩ := lt1_e h
    refine x_iadd hx hb d_Cont_otherwiseOf_25 ev3 ?_
    refine lv_goto (tgt := 30) hx hb d_Cont_otherwiseOf_26 (by decide) ?_
    exact w_Cont_otherwiseOf_30 C hQ x1 r1 v3 H locs ls hX (lv_sub hl [1, 2, 0] rfl) h
end WALK
theorem c_Cont_otherwiseOf (l : Launch) (g : GX) (x1 : Int32) (s : St) (z : Int32) (h : f_Cont_otherwiseOf s x1 = some z) : MI l g y_Cont_otherwiseOf b_Cont_otherwiseOf 3 (some .int) 1 23 [.ref (g.q 1), .int x1] (wX g s) z (wX g s) :=
  MI.mk (own := R_Cont) (by decide) rfl (Nat.le_of_ble_eq_true rfl) fun p e ss m below meth c A Q C hQ ls hX hl => w_Cont_otherwiseOf C hQ x1 _ _ ls hX hl h
-- X_isAbove
def f_X_isAbove_14 (x0 : Int32) (x1 : Int32) (y0 : Int32) : Option Int32 :=
    bz y0 <|
    some (y0)
def f_X_isAbove_9 (x0 : Int32) (x1 : Int32) : Option Int32 :=
    f_X_isAbove_14 x0 x1 1
def f_X_isAbove (x0 : Int32) (x1 : Int32) : Option Int32 :=
    if x0 < 0 then
      f_X_isAbove_9 x0 x1
    else
      if x0 ≤ x1 then
        f_X_isAbove_14 x0 x1 0
      else
        f_X_isAbove_9 x0 x1
section WALK
variable {p : Program} {l : Launch} {e : Env} {ss : State} {m : MethodId} {args : Array Value} {below : List Frame} {meth : Method} {c : Code} {Q : State → Prop} {g : GX} {A : Nat → Prop}
set_option maxHeartbeats 4000000 in
set_option maxRecDepth 100000 in
theorem w_X_isAbove_14 {ws : va_W} {z : Int32} (C : Cx g A p m c b_X_isAbove 2 ss args R_X) (hQ : ∀ (pc : Nat) (H : Heap) (locs : List Loc) (ls : Array Slot), XW g A ss ws H locs → (z = 0 ∨ z = 1) → decode b_X_isAbove pc = .ok (.ireturn, 1) → W p l e (rmX 0 0) ss m args below meth c H locs 0 0 Q (F0 m pc ls [.int z])) : ∀ (x0 : Int32) (x1 : Int32) (y0 : Int32) (H : Heap) (locs : List Loc) (ls : Array Slot), XW g A ss ws H locs → lv_has ls 2 [(0, .int x0), (1, .int x1)] → f_X_isAbove_14 x0 x1 y0 = some z → W p l e (rmX 0 0) ss m args below meth c H locs 0 0 Q (F0 m 14 ls [.int y0]) := by
  have ⟨⟨hx, hb, hml, hown, hts⟩, hK, hA, hN⟩ := C
  intro x0 x1 y0 H locs ls hX hl h
  rw [f_X_isAbove_14] at h
  obtain ⟨hz, h⟩ := bz_e h
  obtain rfl := so1 h
  exact hQ _ H locs ls hX hz d_X_isAbove_14
set_option maxHeartbeats 4000000 in
set_option maxRecDepth 100000 in
theorem w_X_isAbove_9 {ws : va_W} {z : Int32} (C : Cx g A p m c b_X_isAbove 2 ss args R_X) (hQ : ∀ (pc : Nat) (H : Heap) (locs : List Loc) (ls : Array Slot), XW g A ss ws H locs → (z = 0 ∨ z = 1) → decode b_X_isAbove pc = .ok (.ireturn, 1) → W p l e (rmX 0 0) ss m args below meth c H locs 0 0 Q (F0 m pc ls [.int z])) : ∀ (x0 : Int32) (x1 : Int32) (H : Heap) (locs : List Loc) (ls : Array Slot), XW g A ss ws H locs → lv_has ls 2 [(0, .int x0), (1, .int x1)] → f_X_isAbove_9 x0 x1 = some z → W p l e (rmX 0 0) ss m args below meth c H locs 0 0 Q (F0 m 9 ls []) := by
  have ⟨⟨hx, hb, hml, hown, hts⟩, hK, hA, hN⟩ := C
  intro x0 x1 H locs ls hX hl h
  rw [f_X_isAbove_9] at h
  refine lv_iconst (v := 1) hx hb d_X_isAbove_9 (by decide) ?_
  refine lv_goto (tgt := 14) hx hb d_X_isAbove_10 (by decide) ?_
  exact w_X_isAbove_14 C hQ x0 x1 1 H locs ls hX hl h
set_option maxHeartbeats 4000000 in
set_option maxRecDepth 100000 in
theorem w_X_isAbove {ws : va_W} {z : Int32} (C : Cx g A p m c b_X_isAbove 2 ss args R_X) (hQ : ∀ (pc : Nat) (H : Heap) (locs : List Loc) (ls : Array Slot), XW g A ss ws H locs → (z = 0 ∨ z = 1) → decode b_X_isAbove pc = .ok (.ireturn, 1) → W p l e (rmX 0 0) ss m args below meth c H locs 0 0 Q (F0 m pc ls [.int z])) : ∀ (x0 : Int32) (x1 : Int32) (H : Heap) (locs : List Loc) (ls : Array Slot), XW g A ss ws H locs → lv_has ls 2 [(0, .int x0), (1, .int x1)] → f_X_isAbove x0 x1 = some z → W p l e (rmX 0 0) ss m args below meth c H locs 0 0 Q (F0 m 0 ls []) := by
  have ⟨⟨hx, hb, hml, hown, hts⟩, hK, hA, hN⟩ := C
  intro x0 x1 H locs ls hX hl h
  rw [f_X_isAbove] at h
  refine lv_iload_n hx hb d_X_isAbove_0 rfl (lv_at hl 0 rfl) ?_
  refine lv_if_lt (tgt := 9) hx hb d_X_isAbove_1 (by decide) (fun c1 => ?_) (fun c1 => ?_)
  · have h := ite_t c1 h
    exact w_X_isAbove_9 C hQ x0 x1 H locs ls hX hl h
  · have h := ite_f c1 h
    refine lv_iload_n hx hb d_X_isAbove_4 rfl (lv_at hl 0 rfl) ?_
    refine lv_iload_n hx hb d_X_isAbove_5 rfl (lv_at hl 1 rfl) ?_
    refine lv_icmp_le (tgt := 13) hx hb d_X_isAbove_6 (by decide) (fun c6 => ?_) (fun c6 => ?_)
    · have h := ite_t c6 h
      refine lv_iconst (v := 0) hx hb d_X_isAbove_13 (by decide) ?_
      exact w_X_isAbove_14 C hQ x0 x1 0 H locs ls hX hl h
    · have h := ite_f c6 h
      exact w_X_isAbove_9 C hQ x0 x1 H locs ls hX hl h
end WALK
theorem c_X_isAbove (l : Launch) (g : GX) (x0 : Int32) (x1 : Int32) (z : Int32) (h : f_X_isAbove x0 x1 = some z) (ws : va_W) : MI l g y_X_isAbove b_X_isAbove 2 (some .boolean) 0 0 [.int x0, .int x1] ws z ws :=
  MI.mkZ (own := R_X) (by decide) rfl (Nat.le_of_ble_eq_true rfl) fun p e ss m below meth c A Q C hQ ls hX hl => w_X_isAbove C hQ x0 x1 _ _ ls hX hl h
-- Cont_labelAt
def f_Cont_labelAt_23 (s : St) (x1 : Int32) (x2 : Int32) (x3 : Int32) (y0 : Int32) : Option Int32 :=
    lt1 (tGet 240 7 (s 21) x1 2) fun r1 =>
    lt1 (r1 + y0) fun v2 =>
    lt1 (tGet 240 1 (s 23) v2 0) fun r3 =>
    some (r3)
def f_Cont_labelAt (s : St) (x1 : Int32) (x2 : Int32) : Option Int32 :=
    lt1 (tGet 240 7 (s 21) x1 1) fun r1 =>
    bd1 (f_X_isAbove x2 r1) fun r2 =>
    if r2 = 0 then
      f_Cont_labelAt_23 s x1 x2 r1 x2
    else
      f_Cont_labelAt_23 s x1 x2 r1 r1
section WALK
variable {p : Program} {l : Launch} {e : Env} {ss : State} {m : MethodId} {args : Array Value} {below : List Frame} {meth : Method} {c : Code} {Q : State → Prop} {g : GX} {A : Nat → Prop}
set_option maxHeartbeats 4000000 in
set_option maxRecDepth 100000 in
theorem w_Cont_labelAt_23 {s : St} {z : Int32} (C : Cx g A p m c b_Cont_labelAt 5 ss args R_Cont) (hQ : ∀ (pc : Nat) (H : Heap) (locs : List Loc) (ls : Array Slot), XW g A ss (wX g s) H locs → decode b_Cont_labelAt pc = .ok (.ireturn, 1) → W p l e (rmX 1 23) ss m args below meth c H locs 0 0 Q (F0 m pc ls [.int z])) : ∀ (x1 : Int32) (x2 : Int32) (x3 : Int32) (y0 : Int32) (H : Heap) (locs : List Loc) (ls : Array Slot), XW g A ss (wX g s) H locs → lv_has ls 5 [(0, .ref (g.q 1)), (1, .int x1), (2, .int x2), (3, .int x3)] → f_Cont_labelAt_23 s x1 x2 x3 y0 = some z → W p l e (rmX 1 23) ss m args below meth c H locs 0 0 Q (F0 m 23 ls [.int y0]) := by
  have ⟨⟨hx, hb, hml, hown, hts⟩, hK, hA, hN⟩ := C
  intro x1 x2 x3 y0 H locs ls hX hl h
  rw [f_Cont_labelAt_23] at h
  refine lv_istore (lv' := [(4, .int y0), (0, .ref (g.q 1)), (1, .int x1), (2, .int x2), (3, .int x3)]) hx hb d_Cont_labelAt_23 hl (by decide) rfl (fun ls hl => ?_)
  refine lv_aload_n hx hb d_Cont_labelAt_25 rfl (lv_at hl 1 rfl) ?_
  refine gf_1_places C hX fl_Cont_35 d_Cont_labelAt_26 ?_
  refine lv_aload_n hx hb d_Cont_labelAt_29 rfl (lv_at hl 1 rfl) ?_
  refine gf_1_code C hX fl_Cont_32 d_Cont_labelAt_30 ?_
  refine lv_iload_n hx hb d_Cont_labelAt_33 rfl (lv_at hl 2 rfl) ?_
  refine lv_iconst (v := 2) hx hb d_Cont_labelAt_34 (by decide) ?_
  obtain ⟨r1, er1, h⟩ := lt1_e h
  refine x_vI (r := r1) (ws' := wX g s) (As := [.int x1, .int 2]) (rest := [.ref (g.q 22)]) C hX (by rw [er1]; exact cTabGet_20 l g s x1 2) (cw_Cont_52 C.1.2.2.2.2 C.2.2.2 ⟨by decide, by decide⟩) (x_rc C hX wg_20 rfl) rfl hl.1 rfl (lv_room (Nat.le_of_ble_eq_true rfl)) d_Cont_labelAt_35 ⟨Nat.le_refl _, Nat.le_refl _⟩ (fun H locs hX => ?_)
  refine lv_iload hx hb d_Cont_labelAt_38 (lv_at hl 0 rfl) ?_
  obtain ⟨v2, ev2, h⟩ := lt1_e h
  refine x_iadd hx hb d_Cont_labelAt_40 ev2 ?_
  refine lv_iconst (v := 0) hx hb d_Cont_labelAt_41 (by decide) ?_
  obtain ⟨r3, er3, h⟩ := lt1_e h
  refine x_vI (r := r3) (ws' := wX g s) (As := [.int v2, .int 0]) (rest := []) C hX (by rw [er3]; exact cTabGet_22 l g s v2 0) (cw_Cont_52 C.1.2.2.2.2 C.2.2.2 ⟨by decide, by decide⟩) (x_rc C hX wg_22 rfl) rfl hl.1 rfl (lv_room (Nat.le_of_ble_eq_true rfl)) d_Cont_labelAt_42 ⟨Nat.le_refl _, Nat.le_refl _⟩ (fun H locs hX => ?_)
  obtain rfl := so1 h
  exact hQ _ H locs ls hX d_Cont_labelAt_45
set_option maxHeartbeats 4000000 in
set_option maxRecDepth 100000 in
theorem w_Cont_labelAt {s : St} {z : Int32} (C : Cx g A p m c b_Cont_labelAt 5 ss args R_Cont) (hQ : ∀ (pc : Nat) (H : Heap) (locs : List Loc) (ls : Array Slot), XW g A ss (wX g s) H locs → decode b_Cont_labelAt pc = .ok (.ireturn, 1) → W p l e (rmX 1 23) ss m args below meth c H locs 0 0 Q (F0 m pc ls [.int z])) : ∀ (x1 : Int32) (x2 : Int32) (H : Heap) (locs : List Loc) (ls : Array Slot), XW g A ss (wX g s) H locs → lv_has ls 5 [(0, .ref (g.q 1)), (1, .int x1), (2, .int x2)] → f_Cont_labelAt s x1 x2 = some z → W p l e (rmX 1 23) ss m args below meth c H locs 0 0 Q (F0 m 0 ls []) := by
  have ⟨⟨hx, hb, hml, hown, hts⟩, hK, hA, hN⟩ := C
  intro x1 x2 H locs ls hX hl h
  rw [f_Cont_labelAt] at h
  refine lv_aload_n hx hb d_Cont_labelAt_0 rfl (lv_at hl 0 rfl) ?_
  refine gf_1_code C hX fl_Cont_32 d_Cont_labelAt_1 ?_
  refine lv_iload_n hx hb d_Cont_labelAt_4 rfl (lv_at hl 1 rfl) ?_
  refine lv_iconst (v := 1) hx hb d_Cont_labelAt_5 (by decide) ?_
  obtain ⟨r1, er1, h⟩ := lt1_e h
  refine x_vI (r := r1) (ws' := wX g s) (As := [.int x1, .int 1]) (rest := []) C hX (by rw [er1]; exact cTabGet_20 l g s x1 1) (cw_Cont_52 C.1.2.2.2.2 C.2.2.2 ⟨by decide, by decide⟩) (x_rc C hX wg_20 rfl) rfl hl.1 rfl (lv_room (Nat.le_of_ble_eq_true rfl)) d_Cont_labelAt_6 ⟨Nat.le_refl _, Nat.le_refl _⟩ (fun H locs hX => ?_)
  refine lv_istore_n (lv' := [(3, .int r1), (0, .ref (g.q 1)), (1, .int x1), (2, .int x2)]) hx hb d_Cont_labelAt_9 rfl hl (by decide) rfl (fun ls hl => ?_)
  refine lv_iload_n hx hb d_Cont_labelAt_10 rfl (lv_at hl 3 rfl) ?_
  refine lv_iload_n hx hb d_Cont_labelAt_11 rfl (lv_at hl 0 rfl) ?_
  obtain ⟨r2, hc12, h⟩ := bd1_e h
  refine x_sNI (As := [.int x2, .int r1]) (rest := []) C hX (c_X_isAbove l g x2 r1 r2 hc12 _) (cw_Cont_62 C.1.2.2.2.2 C.2.2.2 ⟨by decide, by decide⟩) rfl hl.1 rfl (lv_room (Nat.le_of_ble_eq_true rfl)) d_Cont_labelAt_12 ⟨Nat.le_refl _, Nat.le_refl _⟩ (fun H locs hX => ?_)
  refine lv_if_eq (tgt := 22) hx hb d_Cont_labelAt_15 (by decide) (fun c15 => ?_) (fun c15 => ?_)
  · have h := ite_t c15 h
    refine lv_iload_n hx hb d_Cont_labelAt_22 rfl (lv_at hl 3 rfl) ?_
    exact w_Cont_labelAt_23 C hQ x1 x2 r1 x2 H locs ls hX (lv_sub hl [1, 2, 3, 0] rfl) h
  · have h := ite_f c15 h
    refine lv_iload_n hx hb d_Cont_labelAt_18 rfl (lv_at hl 0 rfl) ?_
    refine lv_goto (tgt := 23) hx hb d_Cont_labelAt_19 (by decide) ?_
    exact w_Cont_labelAt_23 C hQ x1 x2 r1 r1 H locs ls hX (lv_sub hl [1, 2, 3, 0] rfl) h
end WALK
theorem c_Cont_labelAt (l : Launch) (g : GX) (x1 : Int32) (x2 : Int32) (s : St) (z : Int32) (h : f_Cont_labelAt s x1 x2 = some z) : MI l g y_Cont_labelAt b_Cont_labelAt 5 (some .int) 1 23 [.ref (g.q 1), .int x1, .int x2] (wX g s) z (wX g s) :=
  MI.mk (own := R_Cont) (by decide) rfl (Nat.le_of_ble_eq_true rfl) fun p e ss m below meth c A Q C hQ ls hX hl => w_Cont_labelAt C hQ x1 x2 _ _ ls hX hl h
-- Rd_append
def f_Rd_append_30 (x1 : Int32) (s : St) : Option (Int32 × St) :=
    bz 0 <|
    some (0, s)
def f_Rd_append (x1 : Int32) (s : St) : Option (Int32 × St) :=
    if x1 < 0 then
      f_Rd_append_30 x1 s
    else
      if 255 < x1 then
        f_Rd_append_30 x1 s
      else
        if s 2 1 < 0 then
          f_Rd_append_30 x1 s
        else
          if s 2 1 < 240 then
            gi (s 2 1) 240 <|
            lt1 (stp s 26 (Int32.toNatClampNeg (s 2 1)) x1) fun s1 =>
            lt1 (s1 2 1 + 1) fun v2 =>
            lt1 (stp s1 2 1 v2) fun s3 =>
            bz 1 <|
            some (1, s3)
          else
            f_Rd_append_30 x1 s
section WALK
variable {p : Program} {l : Launch} {e : Env} {ss : State} {m : MethodId} {args : Array Value} {below : List Frame} {meth : Method} {c : Code} {Q : State → Prop} {g : GX} {A : Nat → Prop}
set_option maxHeartbeats 4000000 in
set_option maxRecDepth 100000 in
theorem w_Rd_append_30 {z : Int32 × St} (C : Cx g A p m c b_Rd_append 2 ss args R_Rd) (hQ : ∀ (pc : Nat) (H : Heap) (locs : List Loc) (ls : Array Slot), XW g A ss (wX g z.2) H locs → (z.1 = 0 ∨ z.1 = 1) → decode b_Rd_append pc = .ok (.ireturn, 1) → W p l e (rmX 0 0) ss m args below meth c H locs 0 0 Q (F0 m pc ls [.int z.1])) : ∀ (x1 : Int32) (s : St) (H : Heap) (locs : List Loc) (ls : Array Slot), XW g A ss (wX g s) H locs → lv_has ls 2 [(0, .ref (g.q 2)), (1, .int x1)] → f_Rd_append_30 x1 s = some z → W p l e (rmX 0 0) ss m args below meth c H locs 0 0 Q (F0 m 30 ls []) := by
  have ⟨⟨hx, hb, hml, hown, hts⟩, hK, hA, hN⟩ := C
  intro x1 s H locs ls hX hl h
  rw [f_Rd_append_30] at h
  refine lv_iconst (v := 0) hx hb d_Rd_append_30 (by decide) ?_
  obtain ⟨hz, h⟩ := bz_e h
  obtain rfl := so1 h
  exact hQ _ H locs ls hX hz d_Rd_append_31
set_option maxHeartbeats 4000000 in
set_option maxRecDepth 100000 in
theorem w_Rd_append {z : Int32 × St} (C : Cx g A p m c b_Rd_append 2 ss args R_Rd) (hQ : ∀ (pc : Nat) (H : Heap) (locs : List Loc) (ls : Array Slot), XW g A ss (wX g z.2) H locs → (z.1 = 0 ∨ z.1 = 1) → decode b_Rd_append pc = .ok (.ireturn, 1) → W p l e (rmX 0 0) ss m args below meth c H locs 0 0 Q (F0 m pc ls [.int z.1])) : ∀ (x1 : Int32) (s : St) (H : Heap) (locs : List Loc) (ls : Array Slot), XW g A ss (wX g s) H locs → lv_has ls 2 [(0, .ref (g.q 2)), (1, .int x1)] → f_Rd_append x1 s = some z → W p l e (rmX 0 0) ss m args below meth c H locs 0 0 Q (F0 m 0 ls []) := by
  have ⟨⟨hx, hb, hml, hown, hts⟩, hK, hA, hN⟩ := C
  intro x1 s H locs ls hX hl h
  rw [f_Rd_append] at h
  refine lv_iload_n hx hb d_Rd_append_0 rfl (lv_at hl 1 rfl) ?_
  refine lv_if_lt (tgt := 30) hx hb d_Rd_append_1 (by decide) (fun c1 => ?_) (fun c1 => ?_)
  · have h := ite_t c1 h
    exact w_Rd_append_30 C hQ x1 s H locs ls hX hl h
  · have h := ite_f c1 h
    refine lv_iload_n hx hb d_Rd_append_4 rfl (lv_at hl 1 rfl) ?_
    refine lv_sipush (v := 255) hx hb d_Rd_append_5 (by decide) ?_
    refine lv_icmp_gt (tgt := 30) hx hb d_Rd_append_8 (by decide) (fun c8 => ?_) (fun c8 => ?_)
    · have h := ite_t c8 h
      exact w_Rd_append_30 C hQ x1 s H locs ls hX hl h
    · have h := ite_f c8 h
      refine lv_aload_n hx hb d_Rd_append_11 rfl (lv_at hl 0 rfl) ?_
      refine gf_2_fed C hX fl_Rd_28 d_Rd_append_12 ?_
      refine lv_if_lt (tgt := 30) hx hb d_Rd_append_15 (by decide) (fun c15 => ?_) (fun c15 => ?_)
      · have h := ite_t c15 h
        exact w_Rd_append_30 C hQ x1 s H locs ls hX hl h
      · have h := ite_f c15 h
        refine lv_aload_n hx hb d_Rd_append_18 rfl (lv_at hl 0 rfl) ?_
        refine gf_2_fed C hX fl_Rd_28 d_Rd_append_19 ?_
        refine lv_aload_n hx hb d_Rd_append_22 rfl (lv_at hl 0 rfl) ?_
        refine gf_2_bytes C hX fl_Rd_9 d_Rd_append_23 ?_
        refine an_26 C hX d_Rd_append_26 ?_
        refine lv_icmp_lt (tgt := 32) hx hb d_Rd_append_27 (by decide) (fun c27 => ?_) (fun c27 => ?_)
        · have h := ite_t c27 h
          refine lv_aload_n hx hb d_Rd_append_32 rfl (lv_at hl 0 rfl) ?_
          refine gf_2_bytes C hX fl_Rd_9 d_Rd_append_33 ?_
          refine lv_aload_n hx hb d_Rd_append_36 rfl (lv_at hl 0 rfl) ?_
          refine gf_2_fed C hX fl_Rd_28 d_Rd_append_37 ?_
          refine lv_iload_n hx hb d_Rd_append_40 rfl (lv_at hl 1 rfl) ?_
          obtain ⟨hz41, h⟩ := gi_e h
          obtain ⟨s1, es1, h⟩ := lt1_e h
          refine as_26 C hX hz41 d_Rd_append_41 (fun H locs hX => ?_)
          rw [← es1] at hX
          refine lv_aload_n hx hb d_Rd_append_42 rfl (lv_at hl 0 rfl) ?_
          refine lv_dup hx hb d_Rd_append_43 rfl ?_
          refine gf_2_fed C hX fl_Rd_28 d_Rd_append_44 ?_
          refine lv_iconst (v := 1) hx hb d_Rd_append_47 (by decide) ?_
          obtain ⟨v2, ev2, h⟩ := lt1_e h
          refine x_iadd hx hb d_Rd_append_48 ev2 ?_
          obtain ⟨s3, es3, h⟩ := lt1_e h
          refine pf_2_fed C hX fl_Rd_28 d_Rd_append_49 (fun H locs hX => ?_)
          rw [← es3] at hX
          refine lv_iconst (v := 1) hx hb d_Rd_append_52 (by decide) ?_
          obtain ⟨hz, h⟩ := bz_e h
          obtain rfl := so1 h
          exact hQ _ H locs ls hX hz d_Rd_append_53
        · have h := ite_f c27 h
          exact w_Rd_append_30 C hQ x1 s H locs ls hX hl h
end WALK
theorem c_Rd_append (l : Launch) (g : GX) (x1 : Int32) (s : St) (z : Int32 × St) (h : f_Rd_append x1 s = some z) : MI l g y_Rd_append b_Rd_append 2 (some .boolean) 0 0 [.ref (g.q 2), .int x1] (wX g s) z.1 (wX g z.2) :=
  MI.mkZ (own := R_Rd) (by decide) rfl (Nat.le_of_ble_eq_true rfl) fun p e ss m below meth c A Q C hQ ls hX hl => w_Rd_append C hQ x1 s _ _ ls hX hl h
-- Rd_forget
def f_Rd_forget (s : St) : Option St :=
    lt1 (stp s 2 1 0) fun s1 =>
    some s1
section WALK
variable {p : Program} {l : Launch} {e : Env} {ss : State} {m : MethodId} {args : Array Value} {below : List Frame} {meth : Method} {c : Code} {Q : State → Prop} {g : GX} {A : Nat → Prop}
set_option maxHeartbeats 4000000 in
set_option maxRecDepth 100000 in
theorem w_Rd_forget {z : St} (C : Cx g A p m c b_Rd_forget 1 ss args R_Rd) (hQ : ∀ (pc : Nat) (H : Heap) (locs : List Loc) (ls : Array Slot), XW g A ss (wX g z) H locs → decode b_Rd_forget pc = .ok (.return_, 1) → W p l e (rmX 0 0) ss m args below meth c H locs 0 0 Q (F0 m pc ls [])) : ∀ (s : St) (H : Heap) (locs : List Loc) (ls : Array Slot), XW g A ss (wX g s) H locs → lv_has ls 1 [(0, .ref (g.q 2))] → f_Rd_forget s = some z → W p l e (rmX 0 0) ss m args below meth c H locs 0 0 Q (F0 m 0 ls []) := by
  have ⟨⟨hx, hb, hml, hown, hts⟩, hK, hA, hN⟩ := C
  intro s H locs ls hX hl h
  rw [f_Rd_forget] at h
  refine lv_aload_n hx hb d_Rd_forget_0 rfl (lv_at hl 0 rfl) ?_
  refine lv_iconst (v := 0) hx hb d_Rd_forget_1 (by decide) ?_
  obtain ⟨s1, es1, h⟩ := lt1_e h
  refine pf_2_fed C hX fl_Rd_28 d_Rd_forget_2 (fun H locs hX => ?_)
  rw [← es1] at hX
  obtain rfl := so1 h
  exact hQ _ H locs ls hX d_Rd_forget_5
end WALK
theorem c_Rd_forget (l : Launch) (g : GX) (s : St) (z : St) (h : f_Rd_forget s = some z) : MV l g y_Rd_forget b_Rd_forget 1 none 0 0 [.ref (g.q 2)] (wX g s) (wX g z) :=
  MV.mk (own := R_Rd) (by decide) rfl (Nat.le_of_ble_eq_true rfl) fun p e ss m below meth c A Q C hQ ls hX hl => w_Rd_forget C hQ s _ _ ls hX hl h
-- Rd_byteAt
def f_Rd_byteAt_23 (s : St) (x1 : Int32) (y0 : Int32) : Option Int32 :=
    some (y0)
def f_Rd_byteAt_22 (s : St) (x1 : Int32) : Option Int32 :=
    f_Rd_byteAt_23 s x1 0
def f_Rd_byteAt (s : St) (x1 : Int32) : Option Int32 :=
    if x1 < 0 then
      f_Rd_byteAt_22 s x1
    else
      if 240 ≤ x1 then
        f_Rd_byteAt_22 s x1
      else
        gi x1 240 <|
        lt1 (s 26 (Int32.toNatClampNeg x1)) fun v1 =>
        f_Rd_byteAt_23 s x1 v1
section WALK
variable {p : Program} {l : Launch} {e : Env} {ss : State} {m : MethodId} {args : Array Value} {below : List Frame} {meth : Method} {c : Code} {Q : State → Prop} {g : GX} {A : Nat → Prop}
set_option maxHeartbeats 4000000 in
set_option maxRecDepth 100000 in
theorem w_Rd_byteAt_23 {s : St} {z : Int32} (C : Cx g A p m c b_Rd_byteAt 2 ss args R_Rd) (hQ : ∀ (pc : Nat) (H : Heap) (locs : List Loc) (ls : Array Slot), XW g A ss (wX g s) H locs → decode b_Rd_byteAt pc = .ok (.ireturn, 1) → W p l e (rmX 0 0) ss m args below meth c H locs 0 0 Q (F0 m pc ls [.int z])) : ∀ (x1 : Int32) (y0 : Int32) (H : Heap) (locs : List Loc) (ls : Array Slot), XW g A ss (wX g s) H locs → lv_has ls 2 [(0, .ref (g.q 2)), (1, .int x1)] → f_Rd_byteAt_23 s x1 y0 = some z → W p l e (rmX 0 0) ss m args below meth c H locs 0 0 Q (F0 m 23 ls [.int y0]) := by
  have ⟨⟨hx, hb, hml, hown, hts⟩, hK, hA, hN⟩ := C
  intro x1 y0 H locs ls hX hl h
  rw [f_Rd_byteAt_23] at h
  obtain rfl := so1 h
  exact hQ _ H locs ls hX d_Rd_byteAt_23
set_option maxHeartbeats 4000000 in
set_option maxRecDepth 100000 in
theorem w_Rd_byteAt_22 {s : St} {z : Int32} (C : Cx g A p m c b_Rd_byteAt 2 ss args R_Rd) (hQ : ∀ (pc : Nat) (H : Heap) (locs : List Loc) (ls : Array Slot), XW g A ss (wX g s) H locs → decode b_Rd_byteAt pc = .ok (.ireturn, 1) → W p l e (rmX 0 0) ss m args below meth c H locs 0 0 Q (F0 m pc ls [.int z])) : ∀ (x1 : Int32) (H : Heap) (locs : List Loc) (ls : Array Slot), XW g A ss (wX g s) H locs → lv_has ls 2 [(0, .ref (g.q 2)), (1, .int x1)] → f_Rd_byteAt_22 s x1 = some z → W p l e (rmX 0 0) ss m args below meth c H locs 0 0 Q (F0 m 22 ls []) := by
  have ⟨⟨hx, hb, hml, hown, hts⟩, hK, hA, hN⟩ := C
  intro x1 H locs ls hX hl h
  rw [f_Rd_byteAt_22] at h
  refine lv_iconst (v := 0) hx hb d_Rd_byteAt_22 (by decide) ?_
  exact w_Rd_byteAt_23 C hQ x1 0 H locs ls hX hl h
set_option maxHeartbeats 4000000 in
set_option maxRecDepth 100000 in
theorem w_Rd_byteAt {s : St} {z : Int32} (C : Cx g A p m c b_Rd_byteAt 2 ss args R_Rd) (hQ : ∀ (pc : Nat) (H : Heap) (locs : List Loc) (ls : Array Slot), XW g A ss (wX g s) H locs → decode b_Rd_byteAt pc = .ok (.ireturn, 1) → W p l e (rmX 0 0) ss m args below meth c H locs 0 0 Q (F0 m pc ls [.int z])) : ∀ (x1 : Int32) (H : Heap) (locs : List Loc) (ls : Array Slot), XW g A ss (wX g s) H locs → lv_has ls 2 [(0, .ref (g.q 2)), (1, .int x1)] → f_Rd_byteAt s x1 = some z → W p l e (rmX 0 0) ss m args below meth c H locs 0 0 Q (F0 m 0 ls []) := by
  have ⟨⟨hx, hb, hml, hown, hts⟩, hK, hA, hN⟩ := C
  intro x1 H locs ls hX hl h
  rw [f_Rd_byteAt] at h
  refine lv_iload_n hx hb d_Rd_byteAt_0 rfl (lv_at hl 1 rfl) ?_
  refine lv_if_lt (tgt := 22) hx hb d_Rd_byteAt_1 (by decide) (fun c1 => ?_) (fun c1 => ?_)
  · have h := ite_t c1 h
    exact w_Rd_byteAt_22 C hQ x1 H locs ls hX hl h
  · have h := ite_f c1 h
    refine lv_iload_n hx hb d_Rd_byteAt_4 rfl (lv_at hl 1 rfl) ?_
    refine lv_aload_n hx hb d_Rd_byteAt_5 rfl (lv_at hl 0 rfl) ?_
    refine gf_2_bytes C hX fl_Rd_9 d_Rd_byteAt_6 ?_
    refine an_26 C hX d_Rd_byteAt_9 ?_
    refine lv_icmp_ge (tgt := 22) hx hb d_Rd_byteAt_10 (by decide) (fun c10 => ?_) (fun c10 => ?_)
    · have h := ite_t c10 h
      exact w_Rd_byteAt_22 C hQ x1 H locs ls hX hl h
    · have h := ite_f c10 h
      refine lv_aload_n hx hb d_Rd_byteAt_13 rfl (lv_at hl 0 rfl) ?_
      refine gf_2_bytes C hX fl_Rd_9 d_Rd_byteAt_14 ?_
      refine lv_iload_n hx hb d_Rd_byteAt_17 rfl (lv_at hl 1 rfl) ?_
      obtain ⟨hz18, h⟩ := gi_e h
      obtain ⟨v1, ev1, h⟩ := lt1_e h
      refine al_26 C hX hz18 d_Rd_byteAt_18 ev1 ?_
      refine lv_goto (tgt := 23) hx hb d_Rd_byteAt_19 (by decide) ?_
      exact w_Rd_byteAt_23 C hQ x1 v1 H locs ls hX hl h
end WALK
theorem c_Rd_byteAt (l : Launch) (g : GX) (x1 : Int32) (s : St) (z : Int32) (h : f_Rd_byteAt s x1 = some z) : MI l g y_Rd_byteAt b_Rd_byteAt 2 (some .int) 0 0 [.ref (g.q 2), .int x1] (wX g s) z (wX g s) :=
  MI.mk (own := R_Rd) (by decide) rfl (Nat.le_of_ble_eq_true rfl) fun p e ss m below meth c A Q C hQ ls hX hl => w_Rd_byteAt C hQ x1 _ _ ls hX hl h
-- Rd_nextByte
def f_Rd_nextByte_53 (y1 : Int32) (s : St) : Option (Int32 × St) :=
    lt1 (stp s 2 5 y1) fun s1 =>
    some (0, s1)
def f_Rd_nextByte_37 (s : St) : Option (Int32 × St) :=
    if s 2 5 = 0 then
      f_Rd_nextByte_53 1 s
    else
      f_Rd_nextByte_53 (s 2 5) s
def f_Rd_nextByte (s : St) : Option (Int32 × St) :=
    if s 2 5 = 0 then
      if s 2 2 < 0 then
        f_Rd_nextByte_37 s
      else
        if s 2 3 ≤ s 2 2 then
          f_Rd_nextByte_37 s
        else
          if s 2 2 < 240 then
            lt1 (s 2 2 + 1) fun v1 =>
            lt1 (stp s 2 2 v1) fun s2 =>
            lt1 (s2 2 2 - 1) fun v3 =>
            gi v3 240 <|
            lt1 (s2 26 (Int32.toNatClampNeg v3)) fun v4 =>
            some (v4, s2)
          else
            f_Rd_nextByte_37 s
    else
      f_Rd_nextByte_37 s
section WALK
variable {p : Program} {l : Launch} {e : Env} {ss : State} {m : MethodId} {args : Array Value} {below : List Frame} {meth : Method} {c : Code} {Q : State → Prop} {g : GX} {A : Nat → Prop}
set_option maxHeartbeats 4000000 in
set_option maxRecDepth 100000 in
theorem w_Rd_nextByte_53 {z : Int32 × St} (C : Cx g A p m c b_Rd_nextByte 1 ss args R_Rd) (hQ : ∀ (pc : Nat) (H : Heap) (locs : List Loc) (ls : Array Slot), XW g A ss (wX g z.2) H locs → decode b_Rd_nextByte pc = .ok (.ireturn, 1) → W p l e (rmX 0 0) ss m args below meth c H locs 0 0 Q (F0 m pc ls [.int z.1])) : ∀ (y1 : Int32) (s : St) (H : Heap) (locs : List Loc) (ls : Array Slot), XW g A ss (wX g s) H locs → lv_has ls 1 [(0, .ref (g.q 2))] → f_Rd_nextByte_53 y1 s = some z → W p l e (rmX 0 0) ss m args below meth c H locs 0 0 Q (F0 m 53 ls [.int y1, .ref (g.q 2)]) := by
  have ⟨⟨hx, hb, hml, hown, hts⟩, hK, hA, hN⟩ := C
  intro y1 s H locs ls hX hl h
  rw [f_Rd_nextByte_53] at h
  obtain ⟨s1, es1, h⟩ := lt1_e h
  refine pf_2_fault C hX fl_Rd_46 d_Rd_nextByte_53 (fun H locs hX => ?_)
  rw [← es1] at hX
  refine lv_iconst (v := 0) hx hb d_Rd_nextByte_56 (by decide) ?_
  obtain rfl := so1 h
  exact hQ _ H locs ls hX d_Rd_nextByte_57
set_option maxHeartbeats 4000000 in
set_option maxRecDepth 100000 in
theorem w_Rd_nextByte_37 {z : Int32 × St} (C : Cx g A p m c b_Rd_nextByte 1 ss args R_Rd) (hQ : ∀ (pc : Nat) (H : Heap) (locs : List Loc) (ls : Array Slot), XW g A ss (wX g z.2) H locs → decode b_Rd_nextByte pc = .ok (.ireturn, 1) → W p l e (rmX 0 0) ss m args below meth c H locs 0 0 Q (F0 m pc ls [.int z.1])) : ∀ (s : St) (H : Heap) (locs : List Loc) (ls : Array Slot), XW g A ss (wX g s) H locs → lv_has ls 1 [(0, .ref (g.q 2))] → f_Rd_nextByte_37 s = some z → W p l e (rmX 0 0) ss m args below meth c H locs 0 0 Q (F0 m 37 ls []) := by
  have ⟨⟨hx, hb, hml, hown, hts⟩, hK, hA, hN⟩ := C
  intro s H locs ls hX hl h
  rw [f_Rd_nextByte_37] at h
  refine lv_aload_n hx hb d_Rd_nextByte_37 rfl (lv_at hl 0 rfl) ?_
  refine lv_aload_n hx hb d_Rd_nextByte_38 rfl (lv_at hl 0 rfl) ?_
  refine gf_2_fault C hX fl_Rd_46 d_Rd_nextByte_39 ?_
  refine lv_if_eq (tgt := 52) hx hb d_Rd_nextByte_42 (by decide) (fun c42 => ?_) (fun c42 => ?_)
  · have h := ite_t c42 h
    refine lv_iconst (v := 1) hx hb d_Rd_nextByte_52 (by decide) ?_
    exact w_Rd_nextByte_53 C hQ 1 s H locs ls hX hl h
  · have h := ite_f c42 h
    refine lv_aload_n hx hb d_Rd_nextByte_45 rfl (lv_at hl 0 rfl) ?_
    refine gf_2_fault C hX fl_Rd_46 d_Rd_nextByte_46 ?_
    refine lv_goto (tgt := 53) hx hb d_Rd_nextByte_49 (by decide) ?_
    exact w_Rd_nextByte_53 C hQ (s 2 5) s H locs ls hX hl h
set_option maxHeartbeats 4000000 in
set_option maxRecDepth 100000 in
theorem w_Rd_nextByte {z : Int32 × St} (C : Cx g A p m c b_Rd_nextByte 1 ss args R_Rd) (hQ : ∀ (pc : Nat) (H : Heap) (locs : List Loc) (ls : Array Slot), XW g A ss (wX g z.2) H locs → decode b_Rd_nextByte pc = .ok (.ireturn, 1) → W p l e (rmX 0 0) ss m args below meth c H locs 0 0 Q (F0 m pc ls [.int z.1])) : ∀ (s : St) (H : Heap) (locs : List Loc) (ls : Array Slot), XW g A ss (wX g s) H locs → lv_has ls 1 [(0, .ref (g.q 2))] → f_Rd_nextByte s = some z → W p l e (rmX 0 0) ss m args below meth c H locs 0 0 Q (F0 m 0 ls []) := by
  have ⟨⟨hx, hb, hml, hown, hts⟩, hK, hA, hN⟩ := C
  intro s H locs ls hX hl h
  rw [f_Rd_nextByte] at h
  refine lv_aload_n hx hb d_Rd_nextByte_0 rfl (lv_at hl 0 rfl) ?_
  refine gf_2_fault C hX fl_Rd_46 d_Rd_nextByte_1 ?_
  refine lv_if_ne (tgt := 37) hx hb d_Rd_nextByte_4 (by decide) (fun c4 => ?_) (fun c4 => ?_)
  · have h := ite_f c4 h
    exact w_Rd_nextByte_37 C hQ s H locs ls hX hl h
  · have h := ite_t c4 h
    refine lv_aload_n hx hb d_Rd_nextByte_7 rfl (lv_at hl 0 rfl) ?_
    refine gf_2_place C hX fl_Rd_37 d_Rd_nextByte_8 ?_
    refine lv_if_lt (tgt := 37) hx hb d_Rd_nextByte_11 (by decide) (fun c11 => ?_) (fun c11 => ?_)
    · have h := ite_t c11 h
      exact w_Rd_nextByte_37 C hQ s H locs ls hX hl h
    · have h := ite_f c11 h
      refine lv_aload_n hx hb d_Rd_nextByte_14 rfl (lv_at hl 0 rfl) ?_
      refine gf_2_place C hX fl_Rd_37 d_Rd_nextByte_15 ?_
      refine lv_aload_n hx hb d_Rd_nextByte_18 rfl (lv_at hl 0 rfl) ?_
      refine gf_2_bound C hX fl_Rd_40 d_Rd_nextByte_19 ?_
      refine lv_icmp_ge (tgt := 37) hx hb d_Rd_nextByte_22 (by decide) (fun c22 => ?_) (fun c22 => ?_)
      · have h := ite_t c22 h
        exact w_Rd_nextByte_37 C hQ s H locs ls hX hl h
      · have h := ite_f c22 h
        refine lv_aload_n hx hb d_Rd_nextByte_25 rfl (lv_at hl 0 rfl) ?_
        refine gf_2_place C hX fl_Rd_37 d_Rd_nextByte_26 ?_
        refine lv_aload_n hx hb d_Rd_nextByte_29 rfl (lv_at hl 0 rfl) ?_
        refine gf_2_bytes C hX fl_Rd_9 d_Rd_nextByte_30 ?_
        refine an_26 C hX d_Rd_nextByte_33 ?_
        refine lv_icmp_lt (tgt := 58) hx hb d_Rd_nextByte_34 (by decide) (fun c34 => ?_) (fun c34 => ?_)
        · have h := ite_t c34 h
          refine lv_aload_n hx hb d_Rd_nextByte_58 rfl (lv_at hl 0 rfl) ?_
          refine lv_dup hx hb d_Rd_nextByte_59 rfl ?_
          refine gf_2_place C hX fl_Rd_37 d_Rd_nextByte_60 ?_
          refine lv_iconst (v := 1) hx hb d_Rd_nextByte_63 (by decide) ?_
          obtain ⟨v1, ev1, h⟩ := lt1_e h
          refine x_iadd hx hb d_Rd_nextByte_64 ev1 ?_
          obtain ⟨s2, es2, h⟩ := lt1_e h
          refine pf_2_place C hX fl_Rd_37 d_Rd_nextByte_65 (fun H locs hX => ?_)
          rw [← es2] at hX
          refine lv_aload_n hx hb d_Rd_nextByte_68 rfl (lv_at hl 0 rfl) ?_
          refine gf_2_bytes C hX fl_Rd_9 d_Rd_nextByte_69 ?_
          refine lv_aload_n hx hb d_Rd_nextByte_72 rfl (lv_at hl 0 rfl) ?_
          refine gf_2_place C hX fl_Rd_37 d_Rd_nextByte_73 ?_
          refine lv_iconst (v := 1) hx hb d_Rd_nextByte_76 (by decide) ?_
          obtain ⟨v3, ev3, h⟩ := lt1_e h
          refine x_isub hx hb d_Rd_nextByte_77 ev3 ?_
          obtain ⟨hz78, h⟩ := gi_e h
          obtain ⟨v4, ev4, h⟩ := lt1_e h
          refine al_26 C hX hz78 d_Rd_nextByte_78 ev4 ?_
          obtain rfl := so1 h
          exact hQ _ H locs ls hX d_Rd_nextByte_79
        · have h := ite_f c34 h
          exact w_Rd_nextByte_37 C hQ s H locs ls hX hl h
end WALK
theorem c_Rd_nextByte (l : Launch) (g : GX) (s : St) (z : Int32 × St) (h : f_Rd_nextByte s = some z) : MI l g y_Rd_nextByte b_Rd_nextByte 1 (some .int) 0 0 [.ref (g.q 2)] (wX g s) z.1 (wX g z.2) :=
  MI.mk (own := R_Rd) (by decide) rfl (Nat.le_of_ble_eq_true rfl) fun p e ss m below meth c A Q C hQ ls hX hl => w_Rd_nextByte C hQ s _ _ ls hX hl h
-- Rd_refuse
def f_Rd_refuse_16 (x1 : Int32) (y1 : Int32) (s : St) : Option St :=
    lt1 (stp s 2 5 y1) fun s1 =>
    some s1
def f_Rd_refuse (x1 : Int32) (s : St) : Option St :=
    if s 2 5 = 0 then
      f_Rd_refuse_16 x1 x1 s
    else
      f_Rd_refuse_16 x1 (s 2 5) s
section WALK
variable {p : Program} {l : Launch} {e : Env} {ss : State} {m : MethodId} {args : Array Value} {below : List Frame} {meth : Method} {c : Code} {Q : State → Prop} {g : GX} {A : Nat → Prop}
set_option maxHeartbeats 4000000 in
set_option maxRecDepth 100000 in
theorem w_Rd_refuse_16 {z : St} (C : Cx g A p m c b_Rd_refuse 2 ss args R_Rd) (hQ : ∀ (pc : Nat) (H : Heap) (locs : List Loc) (ls : Array Slot), XW g A ss (wX g z) H locs → decode b_Rd_refuse pc = .ok (.return_, 1) → W p l e (rmX 0 0) ss m args below meth c H locs 0 0 Q (F0 m pc ls [])) : ∀ (x1 : Int32) (y1 : Int32) (s : St) (H : Heap) (locs : List Loc) (ls : Array Slot), XW g A ss (wX g s) H locs → lv_has ls 2 [(0, .ref (g.q 2)), (1, .int x1)] → f_Rd_refuse_16 x1 y1 s = some z → W p l e (rmX 0 0) ss m args below meth c H locs 0 0 Q (F0 m 16 ls [.int y1, .ref (g.q 2)]) := by
  have ⟨⟨hx, hb, hml, hown, hts⟩, hK, hA, hN⟩ := C
  intro x1 y1 s H locs ls hX hl h
  rw [f_Rd_refuse_16] at h
  obtain ⟨s1, es1, h⟩ := lt1_e h
  refine pf_2_fault C hX fl_Rd_46 d_Rd_refuse_16 (fun H locs hX => ?_)
  rw [← es1] at hX
  obtain rfl := so1 h
  exact hQ _ H locs ls hX d_Rd_refuse_19
set_option maxHeartbeats 4000000 in
set_option maxRecDepth 100000 in
theorem w_Rd_refuse {z : St} (C : Cx g A p m c b_Rd_refuse 2 ss args R_Rd) (hQ : ∀ (pc : Nat) (H : Heap) (locs : List Loc) (ls : Array Slot), XW g A ss (wX g z) H locs → decode b_Rd_refuse pc = .ok (.return_, 1) → W p l e (rmX 0 0) ss m args below meth c H locs 0 0 Q (F0 m pc ls [])) : ∀ (x1 : Int32) (s : St) (H : Heap) (locs : List Loc) (ls : Array Slot), XW g A ss (wX g s) H locs → lv_has ls 2 [(0, .ref (g.q 2)), (1, .int x1)] → f_Rd_refuse x1 s = some z → W p l e (rmX 0 0) ss m args below meth c H locs 0 0 Q (F0 m 0 ls []) := by
  have ⟨⟨hx, hb, hml, hown, hts⟩, hK, hA, hN⟩ := C
  intro x1 s H locs ls hX hl h
  rw [f_Rd_refuse] at h
  refine lv_aload_n hx hb d_Rd_refuse_0 rfl (lv_at hl 0 rfl) ?_
  refine lv_aload_n hx hb d_Rd_refuse_1 rfl (lv_at hl 0 rfl) ?_
  refine gf_2_fault C hX fl_Rd_46 d_Rd_refuse_2 ?_
  refine lv_if_eq (tgt := 15) hx hb d_Rd_refuse_5 (by decide) (fun c5 => ?_) (fun c5 => ?_)
  · have h := ite_t c5 h
    refine lv_iload_n hx hb d_Rd_refuse_15 rfl (lv_at hl 1 rfl) ?_
    exact w_Rd_refuse_16 C hQ x1 x1 s H locs ls hX hl h
  · have h := ite_f c5 h
    refine lv_aload_n hx hb d_Rd_refuse_8 rfl (lv_at hl 0 rfl) ?_
    refine gf_2_fault C hX fl_Rd_46 d_Rd_refuse_9 ?_
    refine lv_goto (tgt := 16) hx hb d_Rd_refuse_12 (by decide) ?_
    exact w_Rd_refuse_16 C hQ x1 (s 2 5) s H locs ls hX hl h
end WALK
theorem c_Rd_refuse (l : Launch) (g : GX) (x1 : Int32) (s : St) (z : St) (h : f_Rd_refuse x1 s = some z) : MV l g y_Rd_refuse b_Rd_refuse 2 none 0 0 [.ref (g.q 2), .int x1] (wX g s) (wX g z) :=
  MV.mk (own := R_Rd) (by decide) rfl (Nat.le_of_ble_eq_true rfl) fun p e ss m below meth c A Q C hQ ls hX hl => w_Rd_refuse C hQ x1 s _ _ ls hX hl h
-- Rd_expect
def f_Rd_expect_13 (x1 : Int32) (s : St) : Option St :=
    some s
def f_Rd_expect (x1 : Int32) (s : St) : Option St :=
    bd (f_Rd_nextByte s) fun r2 s1 =>
    if r2 = x1 then
      f_Rd_expect_13 x1 s1
    else
      bd1 (f_Rd_refuse 1 s1) fun s3 =>
      f_Rd_expect_13 x1 s3
section WALK
variable {p : Program} {l : Launch} {e : Env} {ss : State} {m : MethodId} {args : Array Value} {below : List Frame} {meth : Method} {c : Code} {Q : State → Prop} {g : GX} {A : Nat → Prop}
set_option maxHeartbeats 4000000 in
set_option maxRecDepth 100000 in
theorem w_Rd_expect_13 {z : St} (C : Cx g A p m c b_Rd_expect 2 ss args R_Rd) (hQ : ∀ (pc : Nat) (H : Heap) (locs : List Loc) (ls : Array Slot), XW g A ss (wX g z) H locs → decode b_Rd_expect pc = .ok (.return_, 1) → W p l e (rmX 1 21) ss m args below meth c H locs 0 0 Q (F0 m pc ls [])) : ∀ (x1 : Int32) (s : St) (H : Heap) (locs : List Loc) (ls : Array Slot), XW g A ss (wX g s) H locs → lv_has ls 2 [(0, .ref (g.q 2)), (1, .int x1)] → f_Rd_expect_13 x1 s = some z → W p l e (rmX 1 21) ss m args below meth c H locs 0 0 Q (F0 m 13 ls []) := by
  have ⟨⟨hx, hb, hml, hown, hts⟩, hK, hA, hN⟩ := C
  intro x1 s H locs ls hX hl h
  rw [f_Rd_expect_13] at h
  obtain rfl := so1 h
  exact hQ _ H locs ls hX d_Rd_expect_13
set_option maxHeartbeats 4000000 in
set_option maxRecDepth 100000 in
theorem w_Rd_expect {z : St} (C : Cx g A p m c b_Rd_expect 2 ss args R_Rd) (hQ : ∀ (pc : Nat) (H : Heap) (locs : List Loc) (ls : Array Slot), XW g A ss (wX g z) H locs → decode b_Rd_expect pc = .ok (.return_, 1) → W p l e (rmX 1 21) ss m args below meth c H locs 0 0 Q (F0 m pc ls [])) : ∀ (x1 : Int32) (s : St) (H : Heap) (locs : List Loc) (ls : Array Slot), XW g A ss (wX g s) H locs → lv_has ls 2 [(0, .ref (g.q 2)), (1, .int x1)] → f_Rd_expect x1 s = some z → W p l e (rmX 1 21) ss m args below meth c H locs 0 0 Q (F0 m 0 ls []) := by
  have ⟨⟨hx, hb, hml, hown, hts⟩, hK, hA, hN⟩ := C
  intro x1 s H locs ls hX hl h
  rw [f_Rd_expect] at h
  refine lv_aload_n hx hb d_Rd_expect_0 rfl (lv_at hl 0 rfl) ?_
  obtain ⟨r2, s1, hc1, h⟩ := bd_e h
  refine x_vI (As := []) (rest := []) C hX (c_Rd_nextByte l g s (r2, s1) hc1) (cw_Rd_55 C.1.2.2.2.2 C.2.2.2 ⟨by decide, by decide⟩) (x_rc C hX wg_2 rfl) rfl hl.1 rfl (lv_room (Nat.le_of_ble_eq_true rfl)) d_Rd_expect_1 ⟨Nat.le_refl _, Nat.le_refl _⟩ (fun H locs hX => ?_)
  refine lv_iload_n hx hb d_Rd_expect_4 rfl (lv_at hl 1 rfl) ?_
  refine lv_icmp_eq (tgt := 13) hx hb d_Rd_expect_5 (by decide) (fun c5 => ?_) (fun c5 => ?_)
  · have h := ite_t c5 h
    exact w_Rd_expect_13 C hQ x1 s1 H locs ls hX hl h
  · have h := ite_f c5 h
    refine lv_aload_n hx hb d_Rd_expect_8 rfl (lv_at hl 0 rfl) ?_
    refine lv_iconst (v := 1) hx hb d_Rd_expect_9 (by decide) ?_
    obtain ⟨s3, hc10, h⟩ := bd1_e h
    refine x_vV (As := [.int 1]) (rest := []) C hX (c_Rd_refuse l g 1 s1 s3 hc10) (cw_Rd_75 C.1.2.2.2.2 C.2.2.2 ⟨by decide, by decide⟩) (x_rc C hX wg_2 rfl) rfl hl.1 rfl (lv_room (Nat.le_of_ble_eq_true rfl)) d_Rd_expect_10 ⟨Nat.le_refl _, Nat.le_refl _⟩ (fun H locs hX => ?_)
    exact w_Rd_expect_13 C hQ x1 s3 H locs ls hX hl h
end WALK
theorem c_Rd_expect (l : Launch) (g : GX) (x1 : Int32) (s : St) (z : St) (h : f_Rd_expect x1 s = some z) : MV l g y_Rd_expect b_Rd_expect 2 none 1 21 [.ref (g.q 2), .int x1] (wX g s) (wX g z) :=
  MV.mk (own := R_Rd) (by decide) rfl (Nat.le_of_ble_eq_true rfl) fun p e ss m below meth c A Q C hQ ls hX hl => w_Rd_expect C hQ x1 s _ _ ls hX hl h
-- Rd_mostOf
def f_Rd_mostOf_75 (x0 : Int32) : Option Int32 :=
    some (0)
def f_Rd_mostOf_63 (x0 : Int32) : Option Int32 :=
    some (8)
def f_Rd_mostOf (x0 : Int32) : Option Int32 :=
    if x0 = 1 then
      some (8)
    else if x0 = 3 then
      f_Rd_mostOf_63 x0
    else if x0 = 5 then
      some (1)
    else if x0 = 6 then
      some (4)
    else if x0 = 7 then
      some (8)
    else if x0 = 10 then
      f_Rd_mostOf_63 x0
    else if x0 = 11 then
      some (4)
    else 
      f_Rd_mostOf_75 x0
section WALK
variable {p : Program} {l : Launch} {e : Env} {ss : State} {m : MethodId} {args : Array Value} {below : List Frame} {meth : Method} {c : Code} {Q : State → Prop} {g : GX} {A : Nat → Prop}
set_option maxHeartbeats 4000000 in
set_option maxRecDepth 100000 in
theorem w_Rd_mostOf_75 {ws : va_W} {z : Int32} (C : Cx g A p m c b_Rd_mostOf 1 ss args R_Rd) (hQ : ∀ (pc : Nat) (H : Heap) (locs : List Loc) (ls : Array Slot), XW g A ss ws H locs → decode b_Rd_mostOf pc = .ok (.ireturn, 1) → W p l e (rmX 0 0) ss m args below meth c H locs 0 0 Q (F0 m pc ls [.int z])) : ∀ (x0 : Int32) (H : Heap) (locs : List Loc) (ls : Array Slot), XW g A ss ws H locs → lv_has ls 1 [(0, .int x0)] → f_Rd_mostOf_75 x0 = some z → W p l e (rmX 0 0) ss m args below meth c H locs 0 0 Q (F0 m 75 ls []) := by
  have ⟨⟨hx, hb, hml, hown, hts⟩, hK, hA, hN⟩ := C
  intro x0 H locs ls hX hl h
  rw [f_Rd_mostOf_75] at h
  refine lv_iconst (v := 0) hx hb d_Rd_mostOf_75 (by decide) ?_
  obtain rfl := so1 h
  exact hQ _ H locs ls hX d_Rd_mostOf_76
set_option maxHeartbeats 4000000 in
set_option maxRecDepth 100000 in
theorem w_Rd_mostOf_63 {ws : va_W} {z : Int32} (C : Cx g A p m c b_Rd_mostOf 1 ss args R_Rd) (hQ : ∀ (pc : Nat) (H : Heap) (locs : List Loc) (ls : Array Slot), XW g A ss ws H locs → decode b_Rd_mostOf pc = .ok (.ireturn, 1) → W p l e (rmX 0 0) ss m args below meth c H locs 0 0 Q (F0 m pc ls [.int z])) : ∀ (x0 : Int32) (H : Heap) (locs : List Loc) (ls : Array Slot), XW g A ss ws H locs → lv_has ls 1 [(0, .int x0)] → f_Rd_mostOf_63 x0 = some z → W p l e (rmX 0 0) ss m args below meth c H locs 0 0 Q (F0 m 63 ls []) := by
  have ⟨⟨hx, hb, hml, hown, hts⟩, hK, hA, hN⟩ := C
  intro x0 H locs ls hX hl h
  rw [f_Rd_mostOf_63] at h
  refine lv_bipush (v := 8) hx hb d_Rd_mostOf_63 (by decide) ?_
  obtain rfl := so1 h
  exact hQ _ H locs ls hX d_Rd_mostOf_65
set_option maxHeartbeats 4000000 in
set_option maxRecDepth 100000 in
theorem w_Rd_mostOf {ws : va_W} {z : Int32} (C : Cx g A p m c b_Rd_mostOf 1 ss args R_Rd) (hQ : ∀ (pc : Nat) (H : Heap) (locs : List Loc) (ls : Array Slot), XW g A ss ws H locs → decode b_Rd_mostOf pc = .ok (.ireturn, 1) → W p l e (rmX 0 0) ss m args below meth c H locs 0 0 Q (F0 m pc ls [.int z])) : ∀ (x0 : Int32) (H : Heap) (locs : List Loc) (ls : Array Slot), XW g A ss ws H locs → lv_has ls 1 [(0, .int x0)] → f_Rd_mostOf x0 = some z → W p l e (rmX 0 0) ss m args below meth c H locs 0 0 Q (F0 m 0 ls []) := by
  have ⟨⟨hx, hb, hml, hown, hts⟩, hK, hA, hN⟩ := C
  intro x0 H locs ls hX hl h
  rw [f_Rd_mostOf] at h
  refine lv_iload_n hx hb d_Rd_mostOf_0 rfl (lv_at hl 0 rfl) ?_
  by_cases c1_0 : x0 = 1
  · have h := ite_t c1_0 h
    refine lv_tableIn (tgt := 60) hx hb d_Rd_mostOf_1 (by rw [c1_0]; decide) (by rw [c1_0]; decide) (by rw [c1_0]; rfl) (by decide) ?_
    refine lv_bipush (v := 8) hx hb d_Rd_mostOf_60 (by decide) ?_
    obtain rfl := so1 h
    exact hQ _ H locs ls hX d_Rd_mostOf_62
  have h := ite_f c1_0 h
  by_cases c1_1 : x0 = 3
  · have h := ite_t c1_1 h
    refine lv_tableIn (tgt := 63) hx hb d_Rd_mostOf_1 (by rw [c1_1]; decide) (by rw [c1_1]; decide) (by rw [c1_1]; rfl) (by decide) ?_
    exact w_Rd_mostOf_63 C hQ x0 H locs ls hX hl h
  have h := ite_f c1_1 h
  by_cases c1_2 : x0 = 5
  · have h := ite_t c1_2 h
    refine lv_tableIn (tgt := 66) hx hb d_Rd_mostOf_1 (by rw [c1_2]; decide) (by rw [c1_2]; decide) (by rw [c1_2]; rfl) (by decide) ?_
    refine lv_iconst (v := 1) hx hb d_Rd_mostOf_66 (by decide) ?_
    obtain rfl := so1 h
    exact hQ _ H locs ls hX d_Rd_mostOf_67
  have h := ite_f c1_2 h
  by_cases c1_3 : x0 = 6
  · have h := ite_t c1_3 h
    refine lv_tableIn (tgt := 68) hx hb d_Rd_mostOf_1 (by rw [c1_3]; decide) (by rw [c1_3]; decide) (by rw [c1_3]; rfl) (by decide) ?_
    refine lv_iconst (v := 4) hx hb d_Rd_mostOf_68 (by decide) ?_
    obtain rfl := so1 h
    exact hQ _ H locs ls hX d_Rd_mostOf_69
  have h := ite_f c1_3 h
  by_cases c1_4 : x0 = 7
  · have h := ite_t c1_4 h
    refine lv_tableIn (tgt := 70) hx hb d_Rd_mostOf_1 (by rw [c1_4]; decide) (by rw [c1_4]; decide) (by rw [c1_4]; rfl) (by decide) ?_
    refine lv_bipush (v := 8) hx hb d_Rd_mostOf_70 (by decide) ?_
    obtain rfl := so1 h
    exact hQ _ H locs ls hX d_Rd_mostOf_72
  have h := ite_f c1_4 h
  by_cases c1_5 : x0 = 10
  · have h := ite_t c1_5 h
    refine lv_tableIn (tgt := 63) hx hb d_Rd_mostOf_1 (by rw [c1_5]; decide) (by rw [c1_5]; decide) (by rw [c1_5]; rfl) (by decide) ?_
    exact w_Rd_mostOf_63 C hQ x0 H locs ls hX hl h
  have h := ite_f c1_5 h
  by_cases c1_6 : x0 = 11
  · have h := ite_t c1_6 h
    refine lv_tableIn (tgt := 73) hx hb d_Rd_mostOf_1 (by rw [c1_6]; decide) (by rw [c1_6]; decide) (by rw [c1_6]; rfl) (by decide) ?_
    refine lv_iconst (v := 4) hx hb d_Rd_mostOf_73 (by decide) ?_
    obtain rfl := so1 h
    exact hQ _ H locs ls hX d_Rd_mostOf_74
  have h := ite_f c1_6 h
  by_cases c1_g2 : x0 = 2
  · refine lv_tableIn (tgt := 75) hx hb d_Rd_mostOf_1 (by rw [c1_g2]; decide) (by rw [c1_g2]; decide) (by rw [c1_g2]; rfl) (by decide) ?_
    exact w_Rd_mostOf_75 C hQ x0 H locs ls hX hl h
  by_cases c1_g4 : x0 = 4
  · refine lv_tableIn (tgt := 75) hx hb d_Rd_mostOf_1 (by rw [c1_g4]; decide) (by rw [c1_g4]; decide) (by rw [c1_g4]; rfl) (by decide) ?_
    exact w_Rd_mostOf_75 C hQ x0 H locs ls hX hl h
  by_cases c1_g8 : x0 = 8
  · refine lv_tableIn (tgt := 75) hx hb d_Rd_mostOf_1 (by rw [c1_g8]; decide) (by rw [c1_g8]; decide) (by rw [c1_g8]; rfl) (by decide) ?_
    exact w_Rd_mostOf_75 C hQ x0 H locs ls hX hl h
  by_cases c1_g9 : x0 = 9
  · refine lv_tableIn (tgt := 75) hx hb d_Rd_mostOf_1 (by rw [c1_g9]; decide) (by rw [c1_g9]; decide) (by rw [c1_g9]; rfl) (by decide) ?_
    exact w_Rd_mostOf_75 C hQ x0 H locs ls hX hl h
  have hz := And.intro trivial trivial
  have hn0 := lv_neT c1_0 (a := 1) (by decide)
  have hn1 := lv_neT c1_1 (a := 3) (by decide)
  have hn2 := lv_neT c1_2 (a := 5) (by decide)
  have hn3 := lv_neT c1_3 (a := 6) (by decide)
  have hn4 := lv_neT c1_4 (a := 7) (by decide)
  have hn5 := lv_neT c1_5 (a := 10) (by decide)
  have hn6 := lv_neT c1_6 (a := 11) (by decide)
  have hn7 := lv_neT c1_g2 (a := 2) (by decide)
  have hn8 := lv_neT c1_g4 (a := 4) (by decide)
  have hn9 := lv_neT c1_g8 (a := 8) (by decide)
  have hn10 := lv_neT c1_g9 (a := 9) (by decide)
  refine lv_tableOut (tgt := 75) hx hb d_Rd_mostOf_1 (by omega) (by decide) ?_
  exact w_Rd_mostOf_75 C hQ x0 H locs ls hX hl h
end WALK
theorem c_Rd_mostOf (l : Launch) (g : GX) (x0 : Int32) (z : Int32) (h : f_Rd_mostOf x0 = some z) (ws : va_W) : MI l g y_Rd_mostOf b_Rd_mostOf 1 (some .int) 0 0 [.int x0] ws z ws :=
  MI.mk (own := R_Rd) (by decide) rfl (Nat.le_of_ble_eq_true rfl) fun p e ss m below meth c A Q C hQ ls hX hl => w_Rd_mostOf C hQ x0 _ _ ls hX hl h
-- Rd_judgeSection
def f_Rd_judgeSection_31 (x1 : Int32) (x2 : Int32) (s : St) : Option St :=
    some s
def f_Rd_judgeSection_11 (x1 : Int32) (x2 : Int32) (s : St) : Option St :=
    bd1 (f_Rd_refuse 1 s) fun s1 =>
    f_Rd_judgeSection_31 x1 x2 s1
def f_Rd_judgeSection (x1 : Int32) (x2 : Int32) (s : St) : Option St :=
    if 11 < x1 then
      f_Rd_judgeSection_11 x1 x2 s
    else
      if x2 < x1 then
        bd1 (f_Rd_mostOf x1) fun r1 =>
        if r1 = 0 then
          bd1 (f_Rd_refuse 2 s) fun s2 =>
          f_Rd_judgeSection_31 x1 x2 s2
        else
          f_Rd_judgeSection_31 x1 x2 s
      else
        f_Rd_judgeSection_11 x1 x2 s
section WALK
variable {p : Program} {l : Launch} {e : Env} {ss : State} {m : MethodId} {args : Array Value} {below : List Frame} {meth : Method} {c : Code} {Q : State → Prop} {g : GX} {A : Nat → Prop}
set_option maxHeartbeats 4000000 in
set_option maxRecDepth 100000 in
theorem w_Rd_judgeSection_31 {z : St} (C : Cx g A p m c b_Rd_judgeSection 3 ss args R_Rd) (hQ : ∀ (pc : Nat) (H : Heap) (locs : List Loc) (ls : Array Slot), XW g A ss (wX g z) H locs → decode b_Rd_judgeSection pc = .ok (.return_, 1) → W p l e (rmX 1 21) ss m args below meth c H locs 0 0 Q (F0 m pc ls [])) : ∀ (x1 : Int32) (x2 : Int32) (s : St) (H : Heap) (locs : List Loc) (ls : Array Slot), XW g A ss (wX g s) H locs → lv_has ls 3 [(0, .ref (g.q 2)), (1, .int x1), (2, .int x2)] → f_Rd_judgeSection_31 x1 x2 s = some z → W p l e (rmX 1 21) ss m args below meth c H locs 0 0 Q (F0 m 31 ls []) := by
  have ⟨⟨hx, hb, hml, hown, hts⟩, hK, hA, hN⟩ := C
  intro x1 x2 s H locs ls hX hl h
  rw [f_Rd_judgeSection_31] at h
  obtain rfl := so1 h
  exact hQ _ H locs ls hX d_Rd_judgeSection_31
set_option maxHeartbeats 4000000 in
set_option maxRecDepth 100000 in
theorem w_Rd_judgeSection_11 {z : St} (C : Cx g A p m c b_Rd_judgeSection 3 ss args R_Rd) (hQ : ∀ (pc : Nat) (H : Heap) (locs : List Loc) (ls : Array Slot), XW g A ss (wX g z) H locs → decode b_Rd_judgeSection pc = .ok (.return_, 1) → W p l e (rmX 1 21) ss m args below meth c H locs 0 0 Q (F0 m pc ls [])) : ∀ (x1 : Int32) (x2 : Int32) (s : St) (H : Heap) (locs : List Loc) (ls : Array Slot), XW g A ss (wX g s) H locs → lv_has ls 3 [(0, .ref (g.q 2)), (1, .int x1), (2, .int x2)] → f_Rd_judgeSection_11 x1 x2 s = some z → W p l e (rmX 1 21) ss m args below meth c H locs 0 0 Q (F0 m 11 ls []) := by
  have ⟨⟨hx, hb, hml, hown, hts⟩, hK, hA, hN⟩ := C
  intro x1 x2 s H locs ls hX hl h
  rw [f_Rd_judgeSection_11] at h
  refine lv_aload_n hx hb d_Rd_judgeSection_11 rfl (lv_at hl 0 rfl) ?_
  refine lv_iconst (v := 1) hx hb d_Rd_judgeSection_12 (by decide) ?_
  obtain ⟨s1, hc13, h⟩ := bd1_e h
  refine x_vV (As := [.int 1]) (rest := []) C hX (c_Rd_refuse l g 1 s s1 hc13) (cw_Rd_75 C.1.2.2.2.2 C.2.2.2 ⟨by decide, by decide⟩) (x_rc C hX wg_2 rfl) rfl hl.1 rfl (lv_room (Nat.le_of_ble_eq_true rfl)) d_Rd_judgeSection_13 ⟨Nat.le_refl _, Nat.le_refl _⟩ (fun H locs hX => ?_)
  refine lv_goto (tgt := 31) hx hb d_Rd_judgeSection_16 (by decide) ?_
  exact w_Rd_judgeSection_31 C hQ x1 x2 s1 H locs ls hX hl h
set_option maxHeartbeats 4000000 in
set_option maxRecDepth 100000 in
theorem w_Rd_judgeSection {z : St} (C : Cx g A p m c b_Rd_judgeSection 3 ss args R_Rd) (hQ : ∀ (pc : Nat) (H : Heap) (locs : List Loc) (ls : Array Slot), XW g A ss (wX g z) H locs → decode b_Rd_judgeSection pc = .ok (.return_, 1) → W p l e (rmX 1 21) ss m args below meth c H locs 0 0 Q (F0 m pc ls [])) : ∀ (x1 : Int32) (x2 : Int32) (s : St) (H : Heap) (locs : List Loc) (ls : Array Slot), XW g A ss (wX g s) H locs → lv_has ls 3 [(0, .ref (g.q 2)), (1, .int x1), (2, .int x2)] → f_Rd_judgeSection x1 x2 s = some z → W p l e (rmX 1 21) ss m args below meth c H locs 0 0 Q (F0 m 0 ls []) := by
  have ⟨⟨hx, hb, hml, hown, hts⟩, hK, hA, hN⟩ := C
  intro x1 x2 s H locs ls hX hl h
  rw [f_Rd_judgeSection] at h
  refine lv_iload_n hx hb d_Rd_judgeSection_0 rfl (lv_at hl 1 rfl) ?_
  refine lv_bipush (v := 11) hx hb d_Rd_judgeSection_1 (by decide) ?_
  refine lv_icmp_gt (tgt := 11) hx hb d_Rd_judgeSection_3 (by decide) (fun c3 => ?_) (fun c3 => ?_)
  · have h := ite_t c3 h
    exact w_Rd_judgeSection_11 C hQ x1 x2 s H locs ls hX hl h
  · have h := ite_f c3 h
    refine lv_iload_n hx hb d_Rd_judgeSection_6 rfl (lv_at hl 1 rfl) ?_
    refine lv_iload_n hx hb d_Rd_judgeSection_7 rfl (lv_at hl 2 rfl) ?_
    refine lv_icmp_gt (tgt := 19) hx hb d_Rd_judgeSection_8 (by decide) (fun c8 => ?_) (fun c8 => ?_)
    · have h := ite_t c8 h
      refine lv_iload_n hx hb d_Rd_judgeSection_19 rfl (lv_at hl 1 rfl) ?_
      obtain ⟨r1, hc20, h⟩ := bd1_e h
      refine x_sI (As := [.int x1]) (rest := []) C hX (c_Rd_mostOf l g x1 r1 hc20 _) (cw_Rd_78 C.1.2.2.2.2 C.2.2.2 ⟨by decide, by decide⟩) rfl hl.1 rfl (lv_room (Nat.le_of_ble_eq_true rfl)) d_Rd_judgeSection_20 ⟨Nat.le_refl _, Nat.le_refl _⟩ (fun H locs hX => ?_)
      refine lv_if_ne (tgt := 31) hx hb d_Rd_judgeSection_23 (by decide) (fun c23 => ?_) (fun c23 => ?_)
      · have h := ite_f c23 h
        exact w_Rd_judgeSection_31 C hQ x1 x2 s H locs ls hX hl h
      · have h := ite_t c23 h
        refine lv_aload_n hx hb d_Rd_judgeSection_26 rfl (lv_at hl 0 rfl) ?_
        refine lv_iconst (v := 2) hx hb d_Rd_judgeSection_27 (by decide) ?_
        obtain ⟨s2, hc28, h⟩ := bd1_e h
        refine x_vV (As := [.int 2]) (rest := []) C hX (c_Rd_refuse l g 2 s s2 hc28) (cw_Rd_75 C.1.2.2.2.2 C.2.2.2 ⟨by decide, by decide⟩) (x_rc C hX wg_2 rfl) rfl hl.1 rfl (lv_room (Nat.le_of_ble_eq_true rfl)) d_Rd_judgeSection_28 ⟨Nat.le_refl _, Nat.le_refl _⟩ (fun H locs hX => ?_)
        exact w_Rd_judgeSection_31 C hQ x1 x2 s2 H locs ls hX hl h
    · have h := ite_f c8 h
      exact w_Rd_judgeSection_11 C hQ x1 x2 s H locs ls hX hl h
end WALK
theorem c_Rd_judgeSection (l : Launch) (g : GX) (x1 : Int32) (x2 : Int32) (s : St) (z : St) (h : f_Rd_judgeSection x1 x2 s = some z) : MV l g y_Rd_judgeSection b_Rd_judgeSection 3 none 1 21 [.ref (g.q 2), .int x1, .int x2] (wX g s) (wX g z) :=
  MV.mk (own := R_Rd) (by decide) rfl (Nat.le_of_ble_eq_true rfl) fun p e ss m below meth c A Q C hQ ls hX hl => w_Rd_judgeSection C hQ x1 x2 s _ _ ls hX hl h
-- Rd_nextUnsigned
def f_Rd_nextUnsigned_42 (k4 : Int32 → Int32 → St → Option (Int32 × St)) (x1 : Int32) (x2 : Int32) (x3 : Int32) (s : St) : Option (Int32 × St) :=
    if 128 ≤ x3 then
      lt1 (x2 + (1)) fun v1 =>
      k4 x1 v1 s
    else
      some (x1, s)
def f_Rd_nextUnsigned_4 : Nat → Int32 → Int32 → St → Option (Int32 × St)
  | 0, _, _, _ => none
  | n + 1, x1, x2, s =>
    if 5 ≤ x2 then
      some (x1, s)
    else
      bd (f_Rd_nextByte s) fun r2 s1 =>
      lt1 (r2 &&& 127) fun v3 =>
      lt1 (7 * x2) fun v4 =>
      lt1 (v3 <<< (v4 &&& 31)) fun v5 =>
      lt1 (x1 ||| v5) fun v6 =>
      if x2 = 4 then
        if r2 ≤ 15 then
          f_Rd_nextUnsigned_42 (f_Rd_nextUnsigned_4 n) v6 x2 r2 s1
        else
          bd1 (f_Rd_refuse 1 s1) fun s7 =>
          f_Rd_nextUnsigned_42 (f_Rd_nextUnsigned_4 n) v6 x2 r2 s7
      else
        f_Rd_nextUnsigned_42 (f_Rd_nextUnsigned_4 n) v6 x2 r2 s1
def f_Rd_nextUnsigned (s : St) : Option (Int32 × St) :=
    f_Rd_nextUnsigned_4 FU 0 0 s
section WALK
variable {p : Program} {l : Launch} {e : Env} {ss : State} {m : MethodId} {args : Array Value} {below : List Frame} {meth : Method} {c : Code} {Q : State → Prop} {g : GX} {A : Nat → Prop}
set_option maxHeartbeats 4000000 in
set_option maxRecDepth 100000 in
theorem w_Rd_nextUnsigned_42 {z : Int32 × St} (C : Cx g A p m c b_Rd_nextUnsigned 4 ss args R_Rd) (hQ : ∀ (pc : Nat) (H : Heap) (locs : List Loc) (ls : Array Slot), XW g A ss (wX g z.2) H locs → decode b_Rd_nextUnsigned pc = .ok (.ireturn, 1) → W p l e (rmX 1 21) ss m args below meth c H locs 0 0 Q (F0 m pc ls [.int z.1])) (k4 : Int32 → Int32 → St → Option (Int32 × St)) (hk4 : ∀ (x1 : Int32) (x2 : Int32) (s : St) (H : Heap) (locs : List Loc) (ls : Array Slot), XW g A ss (wX g s) H locs → lv_has ls 4 [(0, .ref (g.q 2)), (1, .int x1), (2, .int x2)] → k4 x1 x2 s = some z → W p l e (rmX 1 21) ss m args below meth c H locs 0 0 Q (F0 m 4 ls [])) : ∀ (x1 : Int32) (x2 : Int32) (x3 : Int32) (s : St) (H : Heap) (locs : List Loc) (ls : Array Slot), XW g A ss (wX g s) H locs → lv_has ls 4 [(0, .ref (g.q 2)), (1, .int x1), (2, .int x2), (3, .int x3)] → f_Rd_nextUnsigned_42 k4 x1 x2 x3 s = some z → W p l e (rmX 1 21) ss m args below meth c H locs 0 0 Q (F0 m 42 ls []) := by
  have ⟨⟨hx, hb, hml, hown, hts⟩, hK, hA, hN⟩ := C
  intro x1 x2 x3 s H locs ls hX hl h
  rw [f_Rd_nextUnsigned_42] at h
  refine lv_iload_n hx hb d_Rd_nextUnsigned_42 rfl (lv_at hl 3 rfl) ?_
  refine lv_sipush (v := 128) hx hb d_Rd_nextUnsigned_43 (by decide) ?_
  refine lv_icmp_ge (tgt := 51) hx hb d_Rd_nextUnsigned_46 (by decide) (fun c46 => ?_) (fun c46 => ?_)
  · have h := ite_t c46 h
    obtain ⟨v1, ev1, h⟩ := lt1_e h
    refine lv_iinc (v := v1) (lv' := [(2, .int v1), (0, .ref (g.q 2)), (1, .int x1), (3, .int x3)]) hx hb d_Rd_nextUnsigned_51 hl (k := 2) rfl (by rw [ev1]; rfl) (by decide) rfl (fun ls hl => ?_)
    refine lv_goto (tgt := 4) hx hb d_Rd_nextUnsigned_54 (by decide) ?_
    exact hk4 x1 v1 s H locs ls hX (lv_sub hl [1, 2, 0] rfl) h
  · have h := ite_f c46 h
    refine lv_iload_n hx hb d_Rd_nextUnsigned_49 rfl (lv_at hl 1 rfl) ?_
    obtain rfl := so1 h
    exact hQ _ H locs ls hX d_Rd_nextUnsigned_50
set_option maxHeartbeats 4000000 in
set_option maxRecDepth 100000 in
theorem w_Rd_nextUnsigned_4 {z : Int32 × St} (C : Cx g A p m c b_Rd_nextUnsigned 4 ss args R_Rd) (hQ : ∀ (pc : Nat) (H : Heap) (locs : List Loc) (ls : Array Slot), XW g A ss (wX g z.2) H locs → decode b_Rd_nextUnsigned pc = .ok (.ireturn, 1) → W p l e (rmX 1 21) ss m args below meth c H locs 0 0 Q (F0 m pc ls [.int z.1])) (n : Nat) : ∀ (x1 : Int32) (x2 : Int32) (s : St) (H : Heap) (locs : List Loc) (ls : Array Slot), XW g A ss (wX g s) H locs → lv_has ls 4 [(0, .ref (g.q 2)), (1, .int x1), (2, .int x2)] → f_Rd_nextUnsigned_4 n x1 x2 s = some z → W p l e (rmX 1 21) ss m args below meth c H locs 0 0 Q (F0 m 4 ls []) := by
  have ⟨⟨hx, hb, hml, hown, hts⟩, hK, hA, hN⟩ := C
  induction n with
  | zero => intro x1 x2 s H locs ls hX hl h; cases h
  | succ n ih =>
    intro x1 x2 s H locs ls hX hl h
    rw [f_Rd_nextUnsigned_4] at h
    refine lv_iload_n hx hb d_Rd_nextUnsigned_4 rfl (lv_at hl 2 rfl) ?_
    refine lv_iconst (v := 5) hx hb d_Rd_nextUnsigned_5 (by decide) ?_
    refine lv_icmp_ge (tgt := 57) hx hb d_Rd_nextUnsigned_6 (by decide) (fun c6 => ?_) (fun c6 => ?_)
    · have h := ite_t c6 h
      refine lv_iload_n hx hb d_Rd_nextUnsigned_57 rfl (lv_at hl 1 rfl) ?_
      obtain rfl := so1 h
      exact hQ _ H locs ls hX d_Rd_nextUnsigned_58
    · have h := ite_f c6 h
      refine lv_aload_n hx hb d_Rd_nextUnsigned_9 rfl (lv_at hl 0 rfl) ?_
      obtain ⟨r2, s1, hc10, h⟩ := bd_e h
      refine x_vI (As := []) (rest := []) C hX (c_Rd_nextByte l g s (r2, s1) hc10) (cw_Rd_55 C.1.2.2.2.2 C.2.2.2 ⟨by decide, by decide⟩) (x_rc C hX wg_2 rfl) rfl hl.1 rfl (lv_room (Nat.le_of_ble_eq_true rfl)) d_Rd_nextUnsigned_10 ⟨Nat.le_refl _, Nat.le_refl _⟩ (fun H locs hX => ?_)
      refine lv_istore_n (lv' := [(3, .int r2), (0, .ref (g.q 2)), (1, .int x1), (2, .int x2)]) hx hb d_Rd_nextUnsigned_13 rfl hl (by decide) rfl (fun ls hl => ?_)
      refine lv_iload_n hx hb d_Rd_nextUnsigned_14 rfl (lv_at hl 2 rfl) ?_
      refine lv_iload_n hx hb d_Rd_nextUnsigned_15 rfl (lv_at hl 0 rfl) ?_
      refine lv_bipush (v := 127) hx hb d_Rd_nextUnsigned_16 (by decide) ?_
      obtain ⟨v3, ev3, h⟩ := lt1_e h
      refine x_iand hx hb d_Rd_nextUnsigned_18 ev3 ?_
      refine lv_bipush (v := 7) hx hb d_Rd_nextUnsigned_19 (by decide) ?_
      refine lv_iload_n hx hb d_Rd_nextUnsigned_21 rfl (lv_at hl 3 rfl) ?_
      obtain ⟨v4, ev4, h⟩ := lt1_e h
      refine x_imul hx hb d_Rd_nextUnsigned_22 ev4 ?_
      obtain ⟨v5, ev5, h⟩ := lt1_e h
      refine x_ishl hx hb d_Rd_nextUnsigned_23 ev5 ?_
      obtain ⟨v6, ev6, h⟩ := lt1_e h
      refine x_ior hx hb d_Rd_nextUnsigned_24 ev6 ?_
      refine lv_istore_n (lv' := [(1, .int v6), (3, .int r2), (0, .ref (g.q 2)), (2, .int x2)]) hx hb d_Rd_nextUnsigned_25 rfl hl (by decide) rfl (fun ls hl => ?_)
      refine lv_iload_n hx hb d_Rd_nextUnsigned_26 rfl (lv_at hl 3 rfl) ?_
      refine lv_iconst (v := 4) hx hb d_Rd_nextUnsigned_27 (by decide) ?_
      refine lv_icmp_ne (tgt := 42) hx hb d_Rd_nextUnsigned_28 (by decide) (fun c28 => ?_) (fun c28 => ?_)
      · have h := ite_f c28 h
        exact w_Rd_nextUnsigned_42 C hQ (f_Rd_nextUnsigned_4 n) ih v6 x2 r2 s1 H locs ls hX (lv_sub hl [2, 0, 3, 1] rfl) h
      · have h := ite_t c28 h
        refine lv_iload_n hx hb d_Rd_nextUnsigned_31 rfl (lv_at hl 1 rfl) ?_
        refine lv_bipush (v := 15) hx hb d_Rd_nextUnsigned_32 (by decide) ?_
        refine lv_icmp_le (tgt := 42) hx hb d_Rd_nextUnsigned_34 (by decide) (fun c34 => ?_) (fun c34 => ?_)
        · have h := ite_t c34 h
          exact w_Rd_nextUnsigned_42 C hQ (f_Rd_nextUnsigned_4 n) ih v6 x2 r2 s1 H locs ls hX (lv_sub hl [2, 0, 3, 1] rfl) h
        · have h := ite_f c34 h
          refine lv_aload_n hx hb d_Rd_nextUnsigned_37 rfl (lv_at hl 2 rfl) ?_
          refine lv_iconst (v := 1) hx hb d_Rd_nextUnsigned_38 (by decide) ?_
          obtain ⟨s7, hc39, h⟩ := bd1_e h
          refine x_vV (As := [.int 1]) (rest := []) C hX (c_Rd_refuse l g 1 s1 s7 hc39) (cw_Rd_75 C.1.2.2.2.2 C.2.2.2 ⟨by decide, by decide⟩) (x_rc C hX wg_2 rfl) rfl hl.1 rfl (lv_room (Nat.le_of_ble_eq_true rfl)) d_Rd_nextUnsigned_39 ⟨Nat.le_refl _, Nat.le_refl _⟩ (fun H locs hX => ?_)
          exact w_Rd_nextUnsigned_42 C hQ (f_Rd_nextUnsigned_4 n) ih v6 x2 r2 s7 H locs ls hX (lv_sub hl [2, 0, 3, 1] rfl) h
set_option maxHeartbeats 4000000 in
set_option maxRecDepth 100000 in
theorem w_Rd_nextUnsigned {z : Int32 × St} (C : Cx g A p m c b_Rd_nextUnsigned 4 ss args R_Rd) (hQ : ∀ (pc : Nat) (H : Heap) (locs : List Loc) (ls : Array Slot), XW g A ss (wX g z.2) H locs → decode b_Rd_nextUnsigned pc = .ok (.ireturn, 1) → W p l e (rmX 1 21) ss m args below meth c H locs 0 0 Q (F0 m pc ls [.int z.1])) : ∀ (s : St) (H : Heap) (locs : List Loc) (ls : Array Slot), XW g A ss (wX g s) H locs → lv_has ls 4 [(0, .ref (g.q 2))] → f_Rd_nextUnsigned s = some z → W p l e (rmX 1 21) ss m args below meth c H locs 0 0 Q (F0 m 0 ls []) := by
  have ⟨⟨hx, hb, hml, hown, hts⟩, hK, hA, hN⟩ := C
  intro s H locs ls hX hl h
  rw [f_Rd_nextUnsigned] at h
  refine lv_iconst (v := 0) hx hb d_Rd_nextUnsigned_0 (by decide) ?_
  refine lv_istore_n (lv' := [(1, .int 0), (0, .ref (g.q 2))]) hx hb d_Rd_nextUnsigned_1 rfl hl (by decide) rfl (fun ls hl => ?_)
  refine lv_iconst (v := 0) hx hb d_Rd_nextUnsigned_2 (by decide) ?_
  refine lv_istore_n (lv' := [(2, .int 0), (1, .int 0), (0, .ref (g.q 2))]) hx hb d_Rd_nextUnsigned_3 rfl hl (by decide) rfl (fun ls hl => ?_)
  exact w_Rd_nextUnsigned_4 C hQ FU 0 0 s H locs ls hX (lv_sub hl [2, 1, 0] rfl) h
end WALK
theorem c_Rd_nextUnsigned (l : Launch) (g : GX) (s : St) (z : Int32 × St) (h : f_Rd_nextUnsigned s = some z) : MI l g y_Rd_nextUnsigned b_Rd_nextUnsigned 4 (some .int) 1 21 [.ref (g.q 2)] (wX g s) z.1 (wX g z.2) :=
  MI.mk (own := R_Rd) (by decide) rfl (Nat.le_of_ble_eq_true rfl) fun p e ss m below meth c A Q C hQ ls hX hl => w_Rd_nextUnsigned C hQ s _ _ ls hX hl h
-- Rd_nextEnd
def f_Rd_nextEnd (s : St) : Option (Int32 × St) :=
    bd (f_Rd_nextUnsigned s) fun r2 s1 =>
    lt1 (s1 2 3 - s1 2 2) fun v3 =>
    bd1 (f_X_isAbove r2 v3) fun r4 =>
    if r4 = 0 then
      lt1 (s1 2 2 + r2) fun v5 =>
      some (v5, s1)
    else
      bd1 (f_Rd_refuse 1 s1) fun s6 =>
      some (s6 2 2, s6)
section WALK
variable {p : Program} {l : Launch} {e : Env} {ss : State} {m : MethodId} {args : Array Value} {below : List Frame} {meth : Method} {c : Code} {Q : State → Prop} {g : GX} {A : Nat → Prop}
set_option maxHeartbeats 4000000 in
set_option maxRecDepth 100000 in
theorem w_Rd_nextEnd {z : Int32 × St} (C : Cx g A p m c b_Rd_nextEnd 2 ss args R_Rd) (hQ : ∀ (pc : Nat) (H : Heap) (locs : List Loc) (ls : Array Slot), XW g A ss (wX g z.2) H locs → decode b_Rd_nextEnd pc = .ok (.ireturn, 1) → W p l e (rmX 2 44) ss m args below meth c H locs 0 0 Q (F0 m pc ls [.int z.1])) : ∀ (s : St) (H : Heap) (locs : List Loc) (ls : Array Slot), XW g A ss (wX g s) H locs → lv_has ls 2 [(0, .ref (g.q 2))] → f_Rd_nextEnd s = some z → W p l e (rmX 2 44) ss m args below meth c H locs 0 0 Q (F0 m 0 ls []) := by
  have ⟨⟨hx, hb, hml, hown, hts⟩, hK, hA, hN⟩ := C
  intro s H locs ls hX hl h
  rw [f_Rd_nextEnd] at h
  refine lv_aload_n hx hb d_Rd_nextEnd_0 rfl (lv_at hl 0 rfl) ?_
  obtain ⟨r2, s1, hc1, h⟩ := bd_e h
  refine x_vI (As := []) (rest := []) C hX (c_Rd_nextUnsigned l g s (r2, s1) hc1) (cw_Rd_85 C.1.2.2.2.2 C.2.2.2 ⟨by decide, by decide⟩) (x_rc C hX wg_2 rfl) rfl hl.1 rfl (lv_room (Nat.le_of_ble_eq_true rfl)) d_Rd_nextEnd_1 ⟨Nat.le_refl _, Nat.le_refl _⟩ (fun H locs hX => ?_)
  refine lv_istore_n (lv' := [(1, .int r2), (0, .ref (g.q 2))]) hx hb d_Rd_nextEnd_4 rfl hl (by decide) rfl (fun ls hl => ?_)
  refine lv_iload_n hx hb d_Rd_nextEnd_5 rfl (lv_at hl 0 rfl) ?_
  refine lv_aload_n hx hb d_Rd_nextEnd_6 rfl (lv_at hl 1 rfl) ?_
  refine gf_2_bound C hX fl_Rd_40 d_Rd_nextEnd_7 ?_
  refine lv_aload_n hx hb d_Rd_nextEnd_10 rfl (lv_at hl 1 rfl) ?_
  refine gf_2_place C hX fl_Rd_37 d_Rd_nextEnd_11 ?_
  obtain ⟨v3, ev3, h⟩ := lt1_e h
  refine x_isub hx hb d_Rd_nextEnd_14 ev3 ?_
  obtain ⟨r4, hc15, h⟩ := bd1_e h
  refine x_sNI (As := [.int r2, .int v3]) (rest := []) C hX (c_X_isAbove l g r2 v3 r4 hc15 _) (cw_Rd_88 C.1.2.2.2.2 C.2.2.2 ⟨by decide, by decide⟩) rfl hl.1 rfl (lv_room (Nat.le_of_ble_eq_true rfl)) d_Rd_nextEnd_15 ⟨Nat.le_refl _, Nat.le_refl _⟩ (fun H locs hX => ?_)
  refine lv_if_eq (tgt := 31) hx hb d_Rd_nextEnd_18 (by decide) (fun c18 => ?_) (fun c18 => ?_)
  · have h := ite_t c18 h
    refine lv_aload_n hx hb d_Rd_nextEnd_31 rfl (lv_at hl 1 rfl) ?_
    refine gf_2_place C hX fl_Rd_37 d_Rd_nextEnd_32 ?_
    refine lv_iload_n hx hb d_Rd_nextEnd_35 rfl (lv_at hl 0 rfl) ?_
    obtain ⟨v5, ev5, h⟩ := lt1_e h
    refine x_iadd hx hb d_Rd_nextEnd_36 ev5 ?_
    obtain rfl := so1 h
    exact hQ _ H locs ls hX d_Rd_nextEnd_37
  · have h := ite_f c18 h
    refine lv_aload_n hx hb d_Rd_nextEnd_21 rfl (lv_at hl 1 rfl) ?_
    refine lv_iconst (v := 1) hx hb d_Rd_nextEnd_22 (by decide) ?_
    obtain ⟨s6, hc23, h⟩ := bd1_e h
    refine x_vV (As := [.int 1]) (rest := []) C hX (c_Rd_refuse l g 1 s1 s6 hc23) (cw_Rd_75 C.1.2.2.2.2 C.2.2.2 ⟨by decide, by decide⟩) (x_rc C hX wg_2 rfl) rfl hl.1 rfl (lv_room (Nat.le_of_ble_eq_true rfl)) d_Rd_nextEnd_23 ⟨Nat.le_refl _, Nat.le_refl _⟩ (fun H locs hX => ?_)
    refine lv_aload_n hx hb d_Rd_nextEnd_26 rfl (lv_at hl 1 rfl) ?_
    refine gf_2_place C hX fl_Rd_37 d_Rd_nextEnd_27 ?_
    obtain rfl := so1 h
    exact hQ _ H locs ls hX d_Rd_nextEnd_30
end WALK
theorem c_Rd_nextEnd (l : Launch) (g : GX) (s : St) (z : Int32 × St) (h : f_Rd_nextEnd s = some z) : MI l g y_Rd_nextEnd b_Rd_nextEnd 2 (some .int) 2 44 [.ref (g.q 2)] (wX g s) z.1 (wX g z.2) :=
  MI.mk (own := R_Rd) (by decide) rfl (Nat.le_of_ble_eq_true rfl) fun p e ss m below meth c A Q C hQ ls hX hl => w_Rd_nextEnd C hQ s _ _ ls hX hl h
-- Rd_readValueType
def f_Rd_readValueType_14 (s : St) : Option St :=
    some s
def f_Rd_readValueType (s : St) : Option St :=
    bd (f_Rd_nextByte s) fun r2 s1 =>
    if r2 = 127 then
      f_Rd_readValueType_14 s1
    else
      bd1 (f_Rd_refuse 2 s1) fun s3 =>
      f_Rd_readValueType_14 s3
section WALK
variable {p : Program} {l : Launch} {e : Env} {ss : State} {m : MethodId} {args : Array Value} {below : List Frame} {meth : Method} {c : Code} {Q : State → Prop} {g : GX} {A : Nat → Prop}
set_option maxHeartbeats 4000000 in
set_option maxRecDepth 100000 in
theorem w_Rd_readValueType_14 {z : St} (C : Cx g A p m c b_Rd_readValueType 1 ss args R_Rd) (hQ : ∀ (pc : Nat) (H : Heap) (locs : List Loc) (ls : Array Slot), XW g A ss (wX g z) H locs → decode b_Rd_readValueType pc = .ok (.return_, 1) → W p l e (rmX 1 21) ss m args below meth c H locs 0 0 Q (F0 m pc ls [])) : ∀ (s : St) (H : Heap) (locs : List Loc) (ls : Array Slot), XW g A ss (wX g s) H locs → lv_has ls 1 [(0, .ref (g.q 2))] → f_Rd_readValueType_14 s = some z → W p l e (rmX 1 21) ss m args below meth c H locs 0 0 Q (F0 m 14 ls []) := by
  have ⟨⟨hx, hb, hml, hown, hts⟩, hK, hA, hN⟩ := C
  intro s H locs ls hX hl h
  rw [f_Rd_readValueType_14] at h
  obtain rfl := so1 h
  exact hQ _ H locs ls hX d_Rd_readValueType_14
set_option maxHeartbeats 4000000 in
set_option maxRecDepth 100000 in
theorem w_Rd_readValueType {z : St} (C : Cx g A p m c b_Rd_readValueType 1 ss args R_Rd) (hQ : ∀ (pc : Nat) (H : Heap) (locs : List Loc) (ls : Array Slot), XW g A ss (wX g z) H locs → decode b_Rd_readValueType pc = .ok (.return_, 1) → W p l e (rmX 1 21) ss m args below meth c H locs 0 0 Q (F0 m pc ls [])) : ∀ (s : St) (H : Heap) (locs : List Loc) (ls : Array Slot), XW g A ss (wX g s) H locs → lv_has ls 1 [(0, .ref (g.q 2))] → f_Rd_readValueType s = some z → W p l e (rmX 1 21) ss m args below meth c H locs 0 0 Q (F0 m 0 ls []) := by
  have ⟨⟨hx, hb, hml, hown, hts⟩, hK, hA, hN⟩ := C
  intro s H locs ls hX hl h
  rw [f_Rd_readValueType] at h
  refine lv_aload_n hx hb d_Rd_readValueType_0 rfl (lv_at hl 0 rfl) ?_
  obtain ⟨r2, s1, hc1, h⟩ := bd_e h
  refine x_vI (As := []) (rest := []) C hX (c_Rd_nextByte l g s (r2, s1) hc1) (cw_Rd_55 C.1.2.2.2.2 C.2.2.2 ⟨by decide, by decide⟩) (x_rc C hX wg_2 rfl) rfl hl.1 rfl (lv_room (Nat.le_of_ble_eq_true rfl)) d_Rd_readValueType_1 ⟨Nat.le_refl _, Nat.le_refl _⟩ (fun H locs hX => ?_)
  refine lv_bipush (v := 127) hx hb d_Rd_readValueType_4 (by decide) ?_
  refine lv_icmp_eq (tgt := 14) hx hb d_Rd_readValueType_6 (by decide) (fun c6 => ?_) (fun c6 => ?_)
  · have h := ite_t c6 h
    exact w_Rd_readValueType_14 C hQ s1 H locs ls hX hl h
  · have h := ite_f c6 h
    refine lv_aload_n hx hb d_Rd_readValueType_9 rfl (lv_at hl 0 rfl) ?_
    refine lv_iconst (v := 2) hx hb d_Rd_readValueType_10 (by decide) ?_
    obtain ⟨s3, hc11, h⟩ := bd1_e h
    refine x_vV (As := [.int 2]) (rest := []) C hX (c_Rd_refuse l g 2 s1 s3 hc11) (cw_Rd_75 C.1.2.2.2.2 C.2.2.2 ⟨by decide, by decide⟩) (x_rc C hX wg_2 rfl) rfl hl.1 rfl (lv_room (Nat.le_of_ble_eq_true rfl)) d_Rd_readValueType_11 ⟨Nat.le_refl _, Nat.le_refl _⟩ (fun H locs hX => ?_)
    exact w_Rd_readValueType_14 C hQ s3 H locs ls hX hl h
end WALK
theorem c_Rd_readValueType (l : Launch) (g : GX) (s : St) (z : St) (h : f_Rd_readValueType s = some z) : MV l g y_Rd_readValueType b_Rd_readValueType 1 none 1 21 [.ref (g.q 2)] (wX g s) (wX g z) :=
  MV.mk (own := R_Rd) (by decide) rfl (Nat.le_of_ble_eq_true rfl) fun p e ss m below meth c A Q C hQ ls hX hl => w_Rd_readValueType C hQ s _ _ ls hX hl h
