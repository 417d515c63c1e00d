-- RC_thirdWord
def f_RC_thirdWord_79 (s : St) (x1 : Int32) (x2 : Int32) (x3 : Int32) : Option Int32 :=
    some (0)
def f_RC_thirdWord_67 (s : St) (x1 : Int32) (x2 : Int32) (x3 : Int32) : Option Int32 :=
    bd1 (f_Cont_resultsOf s (s 4 2)) fun r1 =>
    some (r1)
def f_RC_thirdWord_52 (s : St) (x1 : Int32) (x2 : Int32) (x3 : Int32) : Option Int32 :=
    bd1 (f_RC_leftAt s x3) fun r1 =>
    some (r1)
def f_RC_thirdWord (s : St) (x1 : Int32) (x2 : Int32) : Option Int32 :=
    lt1 (tGet 240 7 (s 21) x1 1) fun r1 =>
    if x2 = 11 then
      f_RC_thirdWord_67 s x1 x2 r1
    else if x2 = 12 then
      f_RC_thirdWord_52 s x1 x2 r1
    else if x2 = 13 then
      f_RC_thirdWord_52 s x1 x2 r1
    else if x2 = 15 then
      f_RC_thirdWord_67 s x1 x2 r1
    else if x2 = 16 then
      bd1 (f_Cont_parametersOf s r1) fun r2 =>
      some (r2)
    else 
      f_RC_thirdWord_79 s x1 x2 r1
section WALK
variable {p : Program} {l : Launch} {e : Env} {ss : State} {m : MethodId} {args : Array Value} {below : List Frame} {meth : Method} {c : Code} {Q : State → Prop} {g : GX} {A : Nat → Prop}
set_option maxHeartbeats 4000000 in
set_option maxRecDepth 100000 in
theorem w_RC_thirdWord_79 {s : St} {z : Int32} (C : Cx g A p m c b_RC_thirdWord 4 ss args R_RC) (hQ : ∀ (pc : Nat) (H : Heap) (locs : List Loc) (ls : Array Slot), XW g A ss (wX g s) H locs → decode b_RC_thirdWord pc = .ok (.ireturn, 1) → W p l e (rmX 3 71) ss m args below meth c H locs 0 0 Q (F0 m pc ls [.int z])) : ∀ (x1 : Int32) (x2 : Int32) (x3 : Int32) (H : Heap) (locs : List Loc) (ls : Array Slot), XW g A ss (wX g s) H locs → lv_has ls 4 [(0, .ref (g.q 4)), (1, .int x1), (2, .int x2), (3, .int x3)] → f_RC_thirdWord_79 s x1 x2 x3 = some z → W p l e (rmX 3 71) ss m args below meth c H locs 0 0 Q (F0 m 79 ls []) := by
  have ⟨⟨hx, hb, hml, hown, hts⟩, hK, hA, hN⟩ := C
  intro x1 x2 x3 H locs ls hX hl h
  rw [f_RC_thirdWord_79] at h
  refine lv_iconst (v := 0) hx hb d_RC_thirdWord_79 (by decide) ?_
  obtain rfl := so1 h
  exact hQ _ H locs ls hX d_RC_thirdWord_80
set_option maxHeartbeats 4000000 in
set_option maxRecDepth 100000 in
theorem w_RC_thirdWord_67 {s : St} {z : Int32} (C : Cx g A p m c b_RC_thirdWord 4 ss args R_RC) (hQ : ∀ (pc : Nat) (H : Heap) (locs : List Loc) (ls : Array Slot), XW g A ss (wX g s) H locs → decode b_RC_thirdWord pc = .ok (.ireturn, 1) → W p l e (rmX 3 71) ss m args below meth c H locs 0 0 Q (F0 m pc ls [.int z])) : ∀ (x1 : Int32) (x2 : Int32) (x3 : Int32) (H : Heap) (locs : List Loc) (ls : Array Slot), XW g A ss (wX g s) H locs → lv_has ls 4 [(0, .ref (g.q 4)), (1, .int x1), (2, .int x2), (3, .int x3)] → f_RC_thirdWord_67 s x1 x2 x3 = some z → W p l e (rmX 3 71) ss m args below meth c H locs 0 0 Q (F0 m 67 ls []) := by
  have ⟨⟨hx, hb, hml, hown, hts⟩, hK, hA, hN⟩ := C
  intro x1 x2 x3 H locs ls hX hl h
  rw [f_RC_thirdWord_67] at h
  refine lv_aload_n hx hb d_RC_thirdWord_67 rfl (lv_at hl 0 rfl) ?_
  refine gf_4_contents C hX fl_RC_23 d_RC_thirdWord_68 ?_
  refine lv_aload_n hx hb d_RC_thirdWord_71 rfl (lv_at hl 0 rfl) ?_
  refine gf_4_function C hX fl_RC_68 d_RC_thirdWord_72 ?_
  obtain ⟨r1, hc75, h⟩ := bd1_e h
  refine x_vI (As := [.int (s 4 2)]) (rest := []) C hX (c_Cont_resultsOf l g (s 4 2) s r1 hc75) (cw_RC_84 C.1.2.2.2.2 C.2.2.2 ⟨by decide, by decide⟩) (x_rc C hX wg_1 rfl) rfl hl.1 rfl (lv_room (Nat.le_of_ble_eq_true rfl)) d_RC_thirdWord_75 ⟨Nat.le_refl _, Nat.le_refl _⟩ (fun H locs hX => ?_)
  obtain rfl := so1 h
  exact hQ _ H locs ls hX d_RC_thirdWord_78
set_option maxHeartbeats 4000000 in
set_option maxRecDepth 100000 in
theorem w_RC_thirdWord_52 {s : St} {z : Int32} (C : Cx g A p m c b_RC_thirdWord 4 ss args R_RC) (hQ : ∀ (pc : Nat) (H : Heap) (locs : List Loc) (ls : Array Slot), XW g A ss (wX g s) H locs → decode b_RC_thirdWord pc = .ok (.ireturn, 1) → W p l e (rmX 3 71) ss m args below meth c H locs 0 0 Q (F0 m pc ls [.int z])) : ∀ (x1 : Int32) (x2 : Int32) (x3 : Int32) (H : Heap) (locs : List Loc) (ls : Array Slot), XW g A ss (wX g s) H locs → lv_has ls 4 [(0, .ref (g.q 4)), (1, .int x1), (2, .int x2), (3, .int x3)] → f_RC_thirdWord_52 s x1 x2 x3 = some z → W p l e (rmX 3 71) ss m args below meth c H locs 0 0 Q (F0 m 52 ls []) := by
  have ⟨⟨hx, hb, hml, hown, hts⟩, hK, hA, hN⟩ := C
  intro x1 x2 x3 H locs ls hX hl h
  rw [f_RC_thirdWord_52] at h
  refine lv_aload_n hx hb d_RC_thirdWord_52 rfl (lv_at hl 0 rfl) ?_
  refine lv_iload_n hx hb d_RC_thirdWord_53 rfl (lv_at hl 3 rfl) ?_
  obtain ⟨r1, hc54, h⟩ := bd1_e h
  refine x_vI (As := [.int x3]) (rest := []) C hX (c_RC_leftAt l g x3 s r1 hc54) (cw_RC_103 C.1.2.2.2.2 C.2.2.2 ⟨by decide, by decide⟩) (x_rc C hX wg_4 rfl) rfl hl.1 rfl (lv_room (Nat.le_of_ble_eq_true rfl)) d_RC_thirdWord_54 ⟨Nat.le_refl _, Nat.le_refl _⟩ (fun H locs hX => ?_)
  obtain rfl := so1 h
  exact hQ _ H locs ls hX d_RC_thirdWord_57
set_option maxHeartbeats 4000000 in
set_option maxRecDepth 100000 in
theorem w_RC_thirdWord {s : St} {z : Int32} (C : Cx g A p m c b_RC_thirdWord 4 ss args R_RC) (hQ : ∀ (pc : Nat) (H : Heap) (locs : List Loc) (ls : Array Slot), XW g A ss (wX g s) H locs → decode b_RC_thirdWord pc = .ok (.ireturn, 1) → W p l e (rmX 3 71) ss m args below meth c H locs 0 0 Q (F0 m pc ls [.int z])) : ∀ (x1 : Int32) (x2 : Int32) (H : Heap) (locs : List Loc) (ls : Array Slot), XW g A ss (wX g s) H locs → lv_has ls 4 [(0, .ref (g.q 4)), (1, .int x1), (2, .int x2)] → f_RC_thirdWord s x1 x2 = some z → W p l e (rmX 3 71) ss m args below meth c H locs 0 0 Q (F0 m 0 ls []) := by
  have ⟨⟨hx, hb, hml, hown, hts⟩, hK, hA, hN⟩ := C
  intro x1 x2 H locs ls hX hl h
  rw [f_RC_thirdWord] at h
  refine lv_aload_n hx hb d_RC_thirdWord_0 rfl (lv_at hl 0 rfl) ?_
  refine gf_4_contents C hX fl_RC_23 d_RC_thirdWord_1 ?_
  refine gf_1_code C hX fl_RC_35 d_RC_thirdWord_4 ?_
  refine lv_iload_n hx hb d_RC_thirdWord_7 rfl (lv_at hl 1 rfl) ?_
  refine lv_iconst (v := 1) hx hb d_RC_thirdWord_8 (by decide) ?_
  obtain ⟨r1, er1, h⟩ := lt1_e h
  refine x_vI (r := r1) (ws' := wX g s) (As := [.int x1, .int 1]) (rest := []) C hX (by rw [er1]; exact cTabGet_20 l g s x1 1) (cw_RC_44 C.1.2.2.2.2 C.2.2.2 ⟨by decide, by decide⟩) (x_rc C hX wg_20 rfl) rfl hl.1 rfl (lv_room (Nat.le_of_ble_eq_true rfl)) d_RC_thirdWord_9 ⟨Nat.le_refl _, Nat.le_refl _⟩ (fun H locs hX => ?_)
  refine lv_istore_n (lv' := [(3, .int r1), (0, .ref (g.q 4)), (1, .int x1), (2, .int x2)]) hx hb d_RC_thirdWord_12 rfl hl (by decide) rfl (fun ls hl => ?_)
  refine lv_iload_n hx hb d_RC_thirdWord_13 rfl (lv_at hl 3 rfl) ?_
  by_cases c14_0 : x2 = 11
  · have h := ite_t c14_0 h
    refine lv_tableIn (tgt := 67) hx hb d_RC_thirdWord_14 (by rw [c14_0]; decide) (by rw [c14_0]; decide) (by rw [c14_0]; rfl) (by decide) ?_
    exact w_RC_thirdWord_67 C hQ x1 x2 r1 H locs ls hX (lv_sub hl [1, 2, 3, 0] rfl) h
  have h := ite_f c14_0 h
  by_cases c14_1 : x2 = 12
  · have h := ite_t c14_1 h
    refine lv_tableIn (tgt := 52) hx hb d_RC_thirdWord_14 (by rw [c14_1]; decide) (by rw [c14_1]; decide) (by rw [c14_1]; rfl) (by decide) ?_
    exact w_RC_thirdWord_52 C hQ x1 x2 r1 H locs ls hX (lv_sub hl [1, 2, 3, 0] rfl) h
  have h := ite_f c14_1 h
  by_cases c14_2 : x2 = 13
  · have h := ite_t c14_2 h
    refine lv_tableIn (tgt := 52) hx hb d_RC_thirdWord_14 (by rw [c14_2]; decide) (by rw [c14_2]; decide) (by rw [c14_2]; rfl) (by decide) ?_
    exact w_RC_thirdWord_52 C hQ x1 x2 r1 H locs ls hX (lv_sub hl [1, 2, 3, 0] rfl) h
  have h := ite_f c14_2 h
  by_cases c14_3 : x2 = 15
  · have h := ite_t c14_3 h
    refine lv_tableIn (tgt := 67) hx hb d_RC_thirdWord_14 (by rw [c14_3]; decide) (by rw [c14_3]; decide) (by rw [c14_3]; rfl) (by decide) ?_
    exact w_RC_thirdWord_67 C hQ x1 x2 r1 H locs ls hX (lv_sub hl [1, 2, 3, 0] rfl) h
  have h := ite_f c14_3 h
  by_cases c14_4 : x2 = 16
  · have h := ite_t c14_4 h
    refine lv_tableIn (tgt := 58) hx hb d_RC_thirdWord_14 (by rw [c14_4]; decide) (by rw [c14_4]; decide) (by rw [c14_4]; rfl) (by decide) ?_
    refine lv_aload_n hx hb d_RC_thirdWord_58 rfl (lv_at hl 1 rfl) ?_
    refine gf_4_contents C hX fl_RC_23 d_RC_thirdWord_59 ?_
    refine lv_iload_n hx hb d_RC_thirdWord_62 rfl (lv_at hl 0 rfl) ?_
    obtain ⟨r2, hc63, h⟩ := bd1_e h
    refine x_vI (As := [.int r1]) (rest := []) C hX (c_Cont_parametersOf l g r1 s r2 hc63) (cw_RC_112 C.1.2.2.2.2 C.2.2.2 ⟨by decide, by decide⟩) (x_rc C hX wg_1 rfl) rfl hl.1 rfl (lv_room (Nat.le_of_ble_eq_true rfl)) d_RC_thirdWord_63 ⟨Nat.le_refl _, Nat.le_refl _⟩ (fun H locs hX => ?_)
    obtain rfl := so1 h
    exact hQ _ H locs ls hX d_RC_thirdWord_66
  have h := ite_f c14_4 h
  by_cases c14_g14 : x2 = 14
  · refine lv_tableIn (tgt := 79) hx hb d_RC_thirdWord_14 (by rw [c14_g14]; decide) (by rw [c14_g14]; decide) (by rw [c14_g14]; rfl) (by decide) ?_
    exact w_RC_thirdWord_79 C hQ x1 x2 r1 H locs ls hX (lv_sub hl [1, 2, 3, 0] rfl) h
  have hz := And.intro trivial trivial
  have hn0 := lv_neT c14_0 (a := 11) (by decide)
  have hn1 := lv_neT c14_1 (a := 12) (by decide)
  have hn2 := lv_neT c14_2 (a := 13) (by decide)
  have hn3 := lv_neT c14_3 (a := 15) (by decide)
  have hn4 := lv_neT c14_4 (a := 16) (by decide)
  have hn5 := lv_neT c14_g14 (a := 14) (by decide)
  refine lv_tableOut (tgt := 79) hx hb d_RC_thirdWord_14 (by omega) (by decide) ?_
  exact w_RC_thirdWord_79 C hQ x1 x2 r1 H locs ls hX (lv_sub hl [1, 2, 3, 0] rfl) h
end WALK
theorem c_RC_thirdWord (l : Launch) (g : GX) (x1 : Int32) (x2 : Int32) (s : St) (z : Int32) (h : f_RC_thirdWord s x1 x2 = some z) : MI l g y_RC_thirdWord b_RC_thirdWord 4 (some .int) 3 71 [.ref (g.q 4), .int x1, .int x2] (wX g s) z (wX g s) :=
  MI.mk (own := R_RC) (by decide) rfl (Nat.le_of_ble_eq_true rfl) fun p e ss m below meth c A Q C hQ ls hX hl => w_RC_thirdWord C hQ x1 x2 _ _ ls hX hl h
-- RC_write
def f_RC_write (x1 : Int32) (x2 : Int32) (x3 : Int32) (x4 : Int32) (s : St) : Option St :=
    lt1 (s 4 1 * 4) fun v1 =>
    lt1 (rSet s 30 960 v1 x1) fun s2 =>
    lt1 (v1 + 1) fun v3 =>
    lt1 (rSet s2 30 960 v3 x2) fun s4 =>
    lt1 (v1 + 2) fun v5 =>
    lt1 (rSet s4 30 960 v5 x3) fun s6 =>
    lt1 (v1 + 3) fun v7 =>
    lt1 (rSet s6 30 960 v7 x4) fun s8 =>
    lt1 (s8 4 1 + 1) fun v9 =>
    lt1 (stp s8 4 1 v9) fun s10 =>
    some s10
section WALK
variable {p : Program} {l : Launch} {e : Env} {ss : State} {m : MethodId} {args : Array Value} {below : List Frame} {meth : Method} {c : Code} {Q : State → Prop} {g : GX} {A : Nat → Prop}
set_option maxHeartbeats 4000000 in
set_option maxRecDepth 100000 in
theorem w_RC_write {z : St} (C : Cx g A p m c b_RC_write 6 ss args R_RC) (hQ : ∀ (pc : Nat) (H : Heap) (locs : List Loc) (ls : Array Slot), XW g A ss (wX g z) H locs → decode b_RC_write pc = .ok (.return_, 1) → W p l e (rmX 1 22) ss m args below meth c H locs 0 0 Q (F0 m pc ls [])) : ∀ (x1 : Int32) (x2 : Int32) (x3 : Int32) (x4 : Int32) (s : St) (H : Heap) (locs : List Loc) (ls : Array Slot), XW g A ss (wX g s) H locs → lv_has ls 6 [(0, .ref (g.q 4)), (1, .int x1), (2, .int x2), (3, .int x3), (4, .int x4)] → f_RC_write x1 x2 x3 x4 s = some z → W p l e (rmX 1 22) ss m args below meth c H locs 0 0 Q (F0 m 0 ls []) := by
  have ⟨⟨hx, hb, hml, hown, hts⟩, hK, hA, hN⟩ := C
  intro x1 x2 x3 x4 s H locs ls hX hl h
  rw [f_RC_write] at h
  refine lv_aload_n hx hb d_RC_write_0 rfl (lv_at hl 0 rfl) ?_
  refine gf_4_entries C hX fl_RC_27 d_RC_write_1 ?_
  refine lv_iconst (v := 4) hx hb d_RC_write_4 (by decide) ?_
  obtain ⟨v1, ev1, h⟩ := lt1_e h
  refine x_imul hx hb d_RC_write_5 ev1 ?_
  refine lv_istore (lv' := [(5, .int v1), (0, .ref (g.q 4)), (1, .int x1), (2, .int x2), (3, .int x3), (4, .int x4)]) hx hb d_RC_write_6 hl (by decide) rfl (fun ls hl => ?_)
  refine lv_aload_n hx hb d_RC_write_8 rfl (lv_at hl 1 rfl) ?_
  refine gf_4_words C hX fl_RC_16 d_RC_write_9 ?_
  refine lv_iload hx hb d_RC_write_12 (lv_at hl 0 rfl) ?_
  refine lv_iload_n hx hb d_RC_write_14 rfl (lv_at hl 2 rfl) ?_
  obtain ⟨s2, es2, h⟩ := lt1_e h
  refine x_vV (ws' := wX g s2) (As := [.int v1, .int x1]) (rest := []) C hX (by rw [es2]; exact cRowSet_29 l g s v1 x1) (cw_RC_82 C.1.2.2.2.2 C.2.2.2 ⟨by decide, by decide⟩) (x_rc C hX wg_29 rfl) rfl hl.1 rfl (lv_room (Nat.le_of_ble_eq_true rfl)) d_RC_write_15 ⟨Nat.le_refl _, Nat.le_refl _⟩ (fun H locs hX => ?_)
  refine lv_aload_n hx hb d_RC_write_18 rfl (lv_at hl 1 rfl) ?_
  refine gf_4_words C hX fl_RC_16 d_RC_write_19 ?_
  refine lv_iload hx hb d_RC_write_22 (lv_at hl 0 rfl) ?_
  refine lv_iconst (v := 1) hx hb d_RC_write_24 (by decide) ?_
  obtain ⟨v3, ev3, h⟩ := lt1_e h
  refine x_iadd hx hb d_RC_write_25 ev3 ?_
  refine lv_iload_n hx hb d_RC_write_26 rfl (lv_at hl 3 rfl) ?_
  obtain ⟨s4, es4, h⟩ := lt1_e h
  refine x_vV (ws' := wX g s4) (As := [.int v3, .int x2]) (rest := []) C hX (by rw [es4]; exact cRowSet_29 l g s2 v3 x2) (cw_RC_82 C.1.2.2.2.2 C.2.2.2 ⟨by decide, by decide⟩) (x_rc C hX wg_29 rfl) rfl hl.1 rfl (lv_room (Nat.le_of_ble_eq_true rfl)) d_RC_write_27 ⟨Nat.le_refl _, Nat.le_refl _⟩ (fun H locs hX => ?_)
  refine lv_aload_n hx hb d_RC_write_30 rfl (lv_at hl 1 rfl) ?_
  refine gf_4_words C hX fl_RC_16 d_RC_write_31 ?_
  refine lv_iload hx hb d_RC_write_34 (lv_at hl 0 rfl) ?_
  refine lv_iconst (v := 2) hx hb d_RC_write_36 (by decide) ?_
  obtain ⟨v5, ev5, h⟩ := lt1_e h
  refine x_iadd hx hb d_RC_write_37 ev5 ?_
  refine lv_iload_n hx hb d_RC_write_38 rfl (lv_at hl 4 rfl) ?_
  obtain ⟨s6, es6, h⟩ := lt1_e h
  refine x_vV (ws' := wX g s6) (As := [.int v5, .int x3]) (rest := []) C hX (by rw [es6]; exact cRowSet_29 l g s4 v5 x3) (cw_RC_82 C.1.2.2.2.2 C.2.2.2 ⟨by decide, by decide⟩) (x_rc C hX wg_29 rfl) rfl hl.1 rfl (lv_room (Nat.le_of_ble_eq_true rfl)) d_RC_write_39 ⟨Nat.le_refl _, Nat.le_refl _⟩ (fun H locs hX => ?_)
  refine lv_aload_n hx hb d_RC_write_42 rfl (lv_at hl 1 rfl) ?_
  refine gf_4_words C hX fl_RC_16 d_RC_write_43 ?_
  refine lv_iload hx hb d_RC_write_46 (lv_at hl 0 rfl) ?_
  refine lv_iconst (v := 3) hx hb d_RC_write_48 (by decide) ?_
  obtain ⟨v7, ev7, h⟩ := lt1_e h
  refine x_iadd hx hb d_RC_write_49 ev7 ?_
  refine lv_iload hx hb d_RC_write_50 (lv_at hl 5 rfl) ?_
  obtain ⟨s8, es8, h⟩ := lt1_e h
  refine x_vV (ws' := wX g s8) (As := [.int v7, .int x4]) (rest := []) C hX (by rw [es8]; exact cRowSet_29 l g s6 v7 x4) (cw_RC_82 C.1.2.2.2.2 C.2.2.2 ⟨by decide, by decide⟩) (x_rc C hX wg_29 rfl) rfl hl.1 rfl (lv_room (Nat.le_of_ble_eq_true rfl)) d_RC_write_52 ⟨Nat.le_refl _, Nat.le_refl _⟩ (fun H locs hX => ?_)
  refine lv_aload_n hx hb d_RC_write_55 rfl (lv_at hl 1 rfl) ?_
  refine lv_dup hx hb d_RC_write_56 rfl ?_
  refine gf_4_entries C hX fl_RC_27 d_RC_write_57 ?_
  refine lv_iconst (v := 1) hx hb d_RC_write_60 (by decide) ?_
  obtain ⟨v9, ev9, h⟩ := lt1_e h
  refine x_iadd hx hb d_RC_write_61 ev9 ?_
  obtain ⟨s10, es10, h⟩ := lt1_e h
  refine pf_4_entries C hX fl_RC_27 d_RC_write_62 (fun H locs hX => ?_)
  rw [← es10] at hX
  obtain rfl := so1 h
  exact hQ _ H locs ls hX d_RC_write_65
end WALK
theorem c_RC_write (l : Launch) (g : GX) (x1 : Int32) (x2 : Int32) (x3 : Int32) (x4 : Int32) (s : St) (z : St) (h : f_RC_write x1 x2 x3 x4 s = some z) : MV l g y_RC_write b_RC_write 6 none 1 22 [.ref (g.q 4), .int x1, .int x2, .int x3, .int x4] (wX g s) (wX g z) :=
  MV.mk (own := R_RC) (by decide) rfl (Nat.le_of_ble_eq_true rfl) fun p e ss m below meth c A Q C hQ ls hX hl => w_RC_write C hQ x1 x2 x3 x4 s _ _ ls hX hl h
-- RC_writeInstruction
def f_RC_writeInstruction_148 (x1 : Int32) (x2 : Int32) (x3 : Int32) (x4 : Int32) (s : St) : Option St :=
    some s
def f_RC_writeInstruction_94 : Nat → Int32 → Int32 → Int32 → Int32 → Int32 → Int32 → St → Option St
  | 0, _, _, _, _, _, _, _ => none
  | n + 1, x1, x2, x3, x4, x5, x6, s =>
    if 8 < x6 then
      f_RC_writeInstruction_148 x1 x2 x3 x4 s
    else
      if x5 < x6 then
        f_RC_writeInstruction_148 x1 x2 x3 x4 s
      else
        bd1 (f_Cont_labelAt s x1 x6) fun r1 =>
        lt1 (x4 - 1) fun v2 =>
        bd1 (f_RC_targetOf s r1) fun r3 =>
        bd1 (f_RC_leftAt s r1) fun r4 =>
        bd1 (f_RC_write 12 v2 r3 r4 s) fun s5 =>
        lt1 (x6 + (1)) fun v6 =>
        f_RC_writeInstruction_94 n x1 x2 x3 x4 x5 v6 s5
def f_RC_writeInstruction_32 (x1 : Int32) (x2 : Int32) (y0 : Int32) (s : St) : Option St :=
    lt1 (tGet 8 4 (s 13) (s 4 2) 1) fun r1 =>
    lt1 (r1 + y0) fun v2 =>
    bd1 (f_RC_secondWord s x1 x2) fun r3 =>
    bd1 (f_RC_thirdWord s x1 x2) fun r4 =>
    bd1 (f_RC_write x2 v2 r3 r4 s) fun s5 =>
    if x2 = 14 then
      lt1 (tGet 240 7 (s5 21) x1 1) fun r6 =>
      f_RC_writeInstruction_94 FU x1 x2 y0 v2 r6 0 s5
    else
      f_RC_writeInstruction_148 x1 x2 y0 v2 s5
def f_RC_writeInstruction (x1 : Int32) (x2 : Int32) (s : St) : Option St :=
    if x2 = 11 then
      bd1 (f_Cont_resultsOf s (s 4 2)) fun r2 =>
      f_RC_writeInstruction_32 x1 x2 r2 s
    else
      lt1 (tGet 240 7 (s 21) x1 4) fun r1 =>
      f_RC_writeInstruction_32 x1 x2 r1 s
section WALK
variable {p : Program} {l : Launch} {e : Env} {ss : State} {m : MethodId} {args : Array Value} {below : List Frame} {meth : Method} {c : Code} {Q : State → Prop} {g : GX} {A : Nat → Prop}
set_option maxHeartbeats 4000000 in
set_option maxRecDepth 100000 in
theorem w_RC_writeInstruction_148 {z : St} (C : Cx g A p m c b_RC_writeInstruction 8 ss args R_RC) (hQ : ∀ (pc : Nat) (H : Heap) (locs : List Loc) (ls : Array Slot), XW g A ss (wX g z) H locs → decode b_RC_writeInstruction pc = .ok (.return_, 1) → W p l e (rmX 4 94) ss m args below meth c H locs 0 0 Q (F0 m pc ls [])) : ∀ (x1 : Int32) (x2 : Int32) (x3 : Int32) (x4 : Int32) (s : St) (H : Heap) (locs : List Loc) (ls : Array Slot), XW g A ss (wX g s) H locs → lv_has ls 8 [(0, .ref (g.q 4)), (1, .int x1), (2, .int x2), (3, .int x3), (4, .int x4)] → f_RC_writeInstruction_148 x1 x2 x3 x4 s = some z → W p l e (rmX 4 94) ss m args below meth c H locs 0 0 Q (F0 m 148 ls []) := by
  have ⟨⟨hx, hb, hml, hown, hts⟩, hK, hA, hN⟩ := C
  intro x1 x2 x3 x4 s H locs ls hX hl h
  rw [f_RC_writeInstruction_148] at h
  obtain rfl := so1 h
  exact hQ _ H locs ls hX d_RC_writeInstruction_148
set_option maxHeartbeats 4000000 in
set_option maxRecDepth 100000 in
theorem w_RC_writeInstruction_94 {z : St} (C : Cx g A p m c b_RC_writeInstruction 8 ss args R_RC) (hQ : ∀ (pc : Nat) (H : Heap) (locs : List Loc) (ls : Array Slot), XW g A ss (wX g z) H locs → decode b_RC_writeInstruction pc = .ok (.return_, 1) → W p l e (rmX 4 94) ss m args below meth c H locs 0 0 Q (F0 m pc ls [])) (n : Nat) : ∀ (x1 : Int32) (x2 : Int32) (x3 : Int32) (x4 : Int32) (x5 : Int32) (x6 : Int32) (s : St) (H : Heap) (locs : List Loc) (ls : Array Slot), XW g A ss (wX g s) H locs → lv_has ls 8 [(0, .ref (g.q 4)), (1, .int x1), (2, .int x2), (3, .int x3), (4, .int x4), (5, .int x5), (6, .int x6)] → f_RC_writeInstruction_94 n x1 x2 x3 x4 x5 x6 s = some z → W p l e (rmX 4 94) ss m args below meth c H locs 0 0 Q (F0 m 94 ls []) := by
  have ⟨⟨hx, hb, hml, hown, hts⟩, hK, hA, hN⟩ := C
  induction n with
  | zero => intro x1 x2 x3 x4 x5 x6 s H locs ls hX hl h; cases h
  | succ n ih =>
    intro x1 x2 x3 x4 x5 x6 s H locs ls hX hl h
    rw [f_RC_writeInstruction_94] at h
    refine lv_iload hx hb d_RC_writeInstruction_94 (lv_at hl 6 rfl) ?_
    refine lv_bipush (v := 8) hx hb d_RC_writeInstruction_96 (by decide) ?_
    refine lv_icmp_gt (tgt := 148) hx hb d_RC_writeInstruction_98 (by decide) (fun c98 => ?_) (fun c98 => ?_)
    · have h := ite_t c98 h
      exact w_RC_writeInstruction_148 C hQ x1 x2 x3 x4 s H locs ls hX (lv_sub hl [0, 1, 2, 3, 4] rfl) h
    · have h := ite_f c98 h
      refine lv_iload hx hb d_RC_writeInstruction_101 (lv_at hl 6 rfl) ?_
      refine lv_iload hx hb d_RC_writeInstruction_103 (lv_at hl 5 rfl) ?_
      refine lv_icmp_gt (tgt := 148) hx hb d_RC_writeInstruction_105 (by decide) (fun c105 => ?_) (fun c105 => ?_)
      · have h := ite_t c105 h
        exact w_RC_writeInstruction_148 C hQ x1 x2 x3 x4 s H locs ls hX (lv_sub hl [0, 1, 2, 3, 4] rfl) h
      · have h := ite_f c105 h
        refine lv_aload_n hx hb d_RC_writeInstruction_108 rfl (lv_at hl 0 rfl) ?_
        refine gf_4_contents C hX fl_RC_23 d_RC_writeInstruction_109 ?_
        refine lv_iload_n hx hb d_RC_writeInstruction_112 rfl (lv_at hl 1 rfl) ?_
        refine lv_iload hx hb d_RC_writeInstruction_113 (lv_at hl 6 rfl) ?_
        obtain ⟨r1, hc115, h⟩ := bd1_e h
        refine x_vI (As := [.int x1, .int x6]) (rest := []) C hX (c_Cont_labelAt l g x1 x6 s r1 hc115) (cw_RC_97 C.1.2.2.2.2 C.2.2.2 ⟨by decide, by decide⟩) (x_rc C hX wg_1 rfl) rfl hl.1 rfl (lv_room (Nat.le_of_ble_eq_true rfl)) d_RC_writeInstruction_115 ⟨Nat.le_refl _, Nat.le_refl _⟩ (fun H locs hX => ?_)
        refine lv_istore (lv' := [(7, .int r1), (0, .ref (g.q 4)), (1, .int x1), (2, .int x2), (3, .int x3), (4, .int x4), (5, .int x5), (6, .int x6)]) hx hb d_RC_writeInstruction_118 hl (by decide) rfl (fun ls hl => ?_)
        refine lv_aload_n hx hb d_RC_writeInstruction_120 rfl (lv_at hl 1 rfl) ?_
        refine lv_bipush (v := 12) hx hb d_RC_writeInstruction_121 (by decide) ?_
        refine lv_iload hx hb d_RC_writeInstruction_123 (lv_at hl 5 rfl) ?_
        refine lv_iconst (v := 1) hx hb d_RC_writeInstruction_125 (by decide) ?_
        obtain ⟨v2, ev2, h⟩ := lt1_e h
        refine x_isub hx hb d_RC_writeInstruction_126 ev2 ?_
        refine lv_aload_n hx hb d_RC_writeInstruction_127 rfl (lv_at hl 1 rfl) ?_
        refine lv_iload hx hb d_RC_writeInstruction_128 (lv_at hl 0 rfl) ?_
        obtain ⟨r3, hc130, h⟩ := bd1_e h
        refine x_vI (As := [.int r1]) (rest := [.int v2, .int 12, .ref (g.q 4)]) C hX (c_RC_targetOf l g r1 s r3 hc130) (cw_RC_100 C.1.2.2.2.2 C.2.2.2 ⟨by decide, by decide⟩) (x_rc C hX wg_4 rfl) rfl hl.1 rfl (lv_room (Nat.le_of_ble_eq_true rfl)) d_RC_writeInstruction_130 ⟨Nat.le_refl _, Nat.le_refl _⟩ (fun H locs hX => ?_)
        refine lv_aload_n hx hb d_RC_writeInstruction_133 rfl (lv_at hl 1 rfl) ?_
        refine lv_iload hx hb d_RC_writeInstruction_134 (lv_at hl 0 rfl) ?_
        obtain ⟨r4, hc136, h⟩ := bd1_e h
        refine x_vI (As := [.int r1]) (rest := [.int r3, .int v2, .int 12, .ref (g.q 4)]) C hX (c_RC_leftAt l g r1 s r4 hc136) (cw_RC_103 C.1.2.2.2.2 C.2.2.2 ⟨by decide, by decide⟩) (x_rc C hX wg_4 rfl) rfl hl.1 rfl (lv_room (Nat.le_of_ble_eq_true rfl)) d_RC_writeInstruction_136 ⟨Nat.le_refl _, Nat.le_refl _⟩ (fun H locs hX => ?_)
        obtain ⟨s5, hc139, h⟩ := bd1_e h
        refine x_vV (As := [.int 12, .int v2, .int r3, .int r4]) (rest := []) C hX (c_RC_write l g 12 v2 r3 r4 s s5 hc139) (cw_RC_93 C.1.2.2.2.2 C.2.2.2 ⟨by decide, by decide⟩) (x_rc C hX wg_4 rfl) rfl hl.1 rfl (lv_room (Nat.le_of_ble_eq_true rfl)) d_RC_writeInstruction_139 ⟨Nat.le_refl _, Nat.le_refl _⟩ (fun H locs hX => ?_)
        obtain ⟨v6, ev6, h⟩ := lt1_e h
        refine lv_iinc (v := v6) (lv' := [(6, .int v6), (7, .int r1), (0, .ref (g.q 4)), (1, .int x1), (2, .int x2), (3, .int x3), (4, .int x4), (5, .int x5)]) hx hb d_RC_writeInstruction_142 hl (k := 7) rfl (by rw [ev6]; rfl) (by decide) rfl (fun ls hl => ?_)
        refine lv_goto (tgt := 94) hx hb d_RC_writeInstruction_145 (by decide) ?_
        exact ih x1 x2 x3 x4 x5 v6 s5 H locs ls hX (lv_sub hl [2, 3, 4, 5, 6, 7, 0] rfl) h
set_option maxHeartbeats 4000000 in
set_option maxRecDepth 100000 in
theorem w_RC_writeInstruction_32 {z : St} (C : Cx g A p m c b_RC_writeInstruction 8 ss args R_RC) (hQ : ∀ (pc : Nat) (H : Heap) (locs : List Loc) (ls : Array Slot), XW g A ss (wX g z) H locs → decode b_RC_writeInstruction pc = .ok (.return_, 1) → W p l e (rmX 4 94) ss m args below meth c H locs 0 0 Q (F0 m pc ls [])) : ∀ (x1 : Int32) (x2 : Int32) (y0 : Int32) (s : St) (H : Heap) (locs : List Loc) (ls : Array Slot), XW g A ss (wX g s) H locs → lv_has ls 8 [(0, .ref (g.q 4)), (1, .int x1), (2, .int x2)] → f_RC_writeInstruction_32 x1 x2 y0 s = some z → W p l e (rmX 4 94) ss m args below meth c H locs 0 0 Q (F0 m 32 ls [.int y0]) := by
  have ⟨⟨hx, hb, hml, hown, hts⟩, hK, hA, hN⟩ := C
  intro x1 x2 y0 s H locs ls hX hl h
  rw [f_RC_writeInstruction_32] at h
  refine lv_istore_n (lv' := [(3, .int y0), (0, .ref (g.q 4)), (1, .int x1), (2, .int x2)]) hx hb d_RC_writeInstruction_32 rfl hl (by decide) rfl (fun ls hl => ?_)
  refine lv_aload_n hx hb d_RC_writeInstruction_33 rfl (lv_at hl 1 rfl) ?_
  refine gf_4_contents C hX fl_RC_23 d_RC_writeInstruction_34 ?_
  refine gf_1_functions C hX fl_RC_41 d_RC_writeInstruction_37 ?_
  refine lv_aload_n hx hb d_RC_writeInstruction_40 rfl (lv_at hl 1 rfl) ?_
  refine gf_4_function C hX fl_RC_68 d_RC_writeInstruction_41 ?_
  refine lv_iconst (v := 1) hx hb d_RC_writeInstruction_44 (by decide) ?_
  obtain ⟨r1, er1, h⟩ := lt1_e h
  refine x_vI (r := r1) (ws' := wX g s) (As := [.int (s 4 2), .int 1]) (rest := []) C hX (by rw [er1]; exact cTabGet_12 l g s (s 4 2) 1) (cw_RC_44 C.1.2.2.2.2 C.2.2.2 ⟨by decide, by decide⟩) (x_rc C hX wg_12 rfl) rfl hl.1 rfl (lv_room (Nat.le_of_ble_eq_true rfl)) d_RC_writeInstruction_45 ⟨Nat.le_refl _, Nat.le_refl _⟩ (fun H locs hX => ?_)
  refine lv_iload_n hx hb d_RC_writeInstruction_48 rfl (lv_at hl 0 rfl) ?_
  obtain ⟨v2, ev2, h⟩ := lt1_e h
  refine x_iadd hx hb d_RC_writeInstruction_49 ev2 ?_
  refine lv_istore (lv' := [(4, .int v2), (3, .int y0), (0, .ref (g.q 4)), (1, .int x1), (2, .int x2)]) hx hb d_RC_writeInstruction_50 hl (by decide) rfl (fun ls hl => ?_)
  refine lv_aload_n hx hb d_RC_writeInstruction_52 rfl (lv_at hl 2 rfl) ?_
  refine lv_iload_n hx hb d_RC_writeInstruction_53 rfl (lv_at hl 4 rfl) ?_
  refine lv_iload hx hb d_RC_writeInstruction_54 (lv_at hl 0 rfl) ?_
  refine lv_aload_n hx hb d_RC_writeInstruction_56 rfl (lv_at hl 2 rfl) ?_
  refine lv_iload_n hx hb d_RC_writeInstruction_57 rfl (lv_at hl 3 rfl) ?_
  refine lv_iload_n hx hb d_RC_writeInstruction_58 rfl (lv_at hl 4 rfl) ?_
  obtain ⟨r3, hc59, h⟩ := bd1_e h
  refine x_vI (As := [.int x1, .int x2]) (rest := [.int v2, .int x2, .ref (g.q 4)]) C hX (c_RC_secondWord l g x1 x2 s r3 hc59) (cw_RC_87 C.1.2.2.2.2 C.2.2.2 ⟨by decide, by decide⟩) (x_rc C hX wg_4 rfl) rfl hl.1 rfl (lv_room (Nat.le_of_ble_eq_true rfl)) d_RC_writeInstruction_59 ⟨Nat.le_refl _, Nat.le_refl _⟩ (fun H locs hX => ?_)
  refine lv_aload_n hx hb d_RC_writeInstruction_62 rfl (lv_at hl 2 rfl) ?_
  refine lv_iload_n hx hb d_RC_writeInstruction_63 rfl (lv_at hl 3 rfl) ?_
  refine lv_iload_n hx hb d_RC_writeInstruction_64 rfl (lv_at hl 4 rfl) ?_
  obtain ⟨r4, hc65, h⟩ := bd1_e h
  refine x_vI (As := [.int x1, .int x2]) (rest := [.int r3, .int v2, .int x2, .ref (g.q 4)]) C hX (c_RC_thirdWord l g x1 x2 s r4 hc65) (cw_RC_90 C.1.2.2.2.2 C.2.2.2 ⟨by decide, by decide⟩) (x_rc C hX wg_4 rfl) rfl hl.1 rfl (lv_room (Nat.le_of_ble_eq_true rfl)) d_RC_writeInstruction_65 ⟨Nat.le_refl _, Nat.le_refl _⟩ (fun H locs hX => ?_)
  obtain ⟨s5, hc68, h⟩ := bd1_e h
  refine x_vV (As := [.int x2, .int v2, .int r3, .int r4]) (rest := []) C hX (c_RC_write l g x2 v2 r3 r4 s s5 hc68) (cw_RC_93 C.1.2.2.2.2 C.2.2.2 ⟨by decide, by decide⟩) (x_rc C hX wg_4 rfl) rfl hl.1 rfl (lv_room (Nat.le_of_ble_eq_true rfl)) d_RC_writeInstruction_68 ⟨Nat.le_refl _, Nat.le_refl _⟩ (fun H locs hX => ?_)
  refine lv_iload_n hx hb d_RC_writeInstruction_71 rfl (lv_at hl 4 rfl) ?_
  refine lv_bipush (v := 14) hx hb d_RC_writeInstruction_72 (by decide) ?_
  refine lv_icmp_ne (tgt := 148) hx hb d_RC_writeInstruction_74 (by decide) (fun c74 => ?_) (fun c74 => ?_)
  · have h := ite_f c74 h
    exact w_RC_writeInstruction_148 C hQ x1 x2 y0 v2 s5 H locs ls hX (lv_sub hl [2, 3, 4, 1, 0] rfl) h
  · have h := ite_t c74 h
    refine lv_aload_n hx hb d_RC_writeInstruction_77 rfl (lv_at hl 2 rfl) ?_
    refine gf_4_contents C hX fl_RC_23 d_RC_writeInstruction_78 ?_
    refine gf_1_code C hX fl_RC_35 d_RC_writeInstruction_81 ?_
    refine lv_iload_n hx hb d_RC_writeInstruction_84 rfl (lv_at hl 3 rfl) ?_
    refine lv_iconst (v := 1) hx hb d_RC_writeInstruction_85 (by decide) ?_
    obtain ⟨r6, er6, h⟩ := lt1_e h
    refine x_vI (r := r6) (ws' := wX g s5) (As := [.int x1, .int 1]) (rest := []) C hX (by rw [er6]; exact cTabGet_20 l g s5 x1 1) (cw_RC_44 C.1.2.2.2.2 C.2.2.2 ⟨by decide, by decide⟩) (x_rc C hX wg_20 rfl) rfl hl.1 rfl (lv_room (Nat.le_of_ble_eq_true rfl)) d_RC_writeInstruction_86 ⟨Nat.le_refl _, Nat.le_refl _⟩ (fun H locs hX => ?_)
    refine lv_istore (lv' := [(5, .int r6), (4, .int v2), (3, .int y0), (0, .ref (g.q 4)), (1, .int x1), (2, .int x2)]) hx hb d_RC_writeInstruction_89 hl (by decide) rfl (fun ls hl => ?_)
    refine lv_iconst (v := 0) hx hb d_RC_writeInstruction_91 (by decide) ?_
    refine lv_istore (lv' := [(6, .int 0), (5, .int r6), (4, .int v2), (3, .int y0), (0, .ref (g.q 4)), (1, .int x1), (2, .int x2)]) hx hb d_RC_writeInstruction_92 hl (by decide) rfl (fun ls hl => ?_)
    exact w_RC_writeInstruction_94 C hQ FU x1 x2 y0 v2 r6 0 s5 H locs ls hX (lv_sub hl [4, 5, 6, 3, 2, 1, 0] rfl) h
set_option maxHeartbeats 4000000 in
set_option maxRecDepth 100000 in
theorem w_RC_writeInstruction {z : St} (C : Cx g A p m c b_RC_writeInstruction 8 ss args R_RC) (hQ : ∀ (pc : Nat) (H : Heap) (locs : List Loc) (ls : Array Slot), XW g A ss (wX g z) H locs → decode b_RC_writeInstruction pc = .ok (.return_, 1) → W p l e (rmX 4 94) ss m args below meth c H locs 0 0 Q (F0 m pc ls [])) : ∀ (x1 : Int32) (x2 : Int32) (s : St) (H : Heap) (locs : List Loc) (ls : Array Slot), XW g A ss (wX g s) H locs → lv_has ls 8 [(0, .ref (g.q 4)), (1, .int x1), (2, .int x2)] → f_RC_writeInstruction x1 x2 s = some z → W p l e (rmX 4 94) ss m args below meth c H locs 0 0 Q (F0 m 0 ls []) := by
  have ⟨⟨hx, hb, hml, hown, hts⟩, hK, hA, hN⟩ := C
  intro x1 x2 s H locs ls hX hl h
  rw [f_RC_writeInstruction] at h
  refine lv_iload_n hx hb d_RC_writeInstruction_0 rfl (lv_at hl 2 rfl) ?_
  refine lv_bipush (v := 11) hx hb d_RC_writeInstruction_1 (by decide) ?_
  refine lv_icmp_ne (tgt := 20) hx hb d_RC_writeInstruction_3 (by decide) (fun c3 => ?_) (fun c3 => ?_)
  · have h := ite_f c3 h
    refine lv_aload_n hx hb d_RC_writeInstruction_20 rfl (lv_at hl 0 rfl) ?_
    refine gf_4_contents C hX fl_RC_23 d_RC_writeInstruction_21 ?_
    refine gf_1_code C hX fl_RC_35 d_RC_writeInstruction_24 ?_
    refine lv_iload_n hx hb d_RC_writeInstruction_27 rfl (lv_at hl 1 rfl) ?_
    refine lv_iconst (v := 4) hx hb d_RC_writeInstruction_28 (by decide) ?_
    obtain ⟨r1, er1, h⟩ := lt1_e h
    refine x_vI (r := r1) (ws' := wX g s) (As := [.int x1, .int 4]) (rest := []) C hX (by rw [er1]; exact cTabGet_20 l g s x1 4) (cw_RC_44 C.1.2.2.2.2 C.2.2.2 ⟨by decide, by decide⟩) (x_rc C hX wg_20 rfl) rfl hl.1 rfl (lv_room (Nat.le_of_ble_eq_true rfl)) d_RC_writeInstruction_29 ⟨Nat.le_refl _, Nat.le_refl _⟩ (fun H locs hX => ?_)
    exact w_RC_writeInstruction_32 C hQ x1 x2 r1 s H locs ls hX hl h
  · have h := ite_t c3 h
    refine lv_aload_n hx hb d_RC_writeInstruction_6 rfl (lv_at hl 0 rfl) ?_
    refine gf_4_contents C hX fl_RC_23 d_RC_writeInstruction_7 ?_
    refine lv_aload_n hx hb d_RC_writeInstruction_10 rfl (lv_at hl 0 rfl) ?_
    refine gf_4_function C hX fl_RC_68 d_RC_writeInstruction_11 ?_
    obtain ⟨r2, hc14, h⟩ := bd1_e h
    refine x_vI (As := [.int (s 4 2)]) (rest := []) C hX (c_Cont_resultsOf l g (s 4 2) s r2 hc14) (cw_RC_84 C.1.2.2.2.2 C.2.2.2 ⟨by decide, by decide⟩) (x_rc C hX wg_1 rfl) rfl hl.1 rfl (lv_room (Nat.le_of_ble_eq_true rfl)) d_RC_writeInstruction_14 ⟨Nat.le_refl _, Nat.le_refl _⟩ (fun H locs hX => ?_)
    refine lv_goto (tgt := 32) hx hb d_RC_writeInstruction_17 (by decide) ?_
    exact w_RC_writeInstruction_32 C hQ x1 x2 r2 s H locs ls hX hl h
end WALK
theorem c_RC_writeInstruction (l : Launch) (g : GX) (x1 : Int32) (x2 : Int32) (s : St) (z : St) (h : f_RC_writeInstruction x1 x2 s = some z) : MV l g y_RC_writeInstruction b_RC_writeInstruction 8 none 4 94 [.ref (g.q 4), .int x1, .int x2] (wX g s) (wX g z) :=
  MV.mk (own := R_RC) (by decide) rfl (Nat.le_of_ble_eq_true rfl) fun p e ss m below meth c A Q C hQ ls hX hl => w_RC_writeInstruction C hQ x1 x2 s _ _ ls hX hl h
-- RC_writeBody
def f_RC_writeBody_121 (k36 : Int32 → Int32 → Int32 → St → Option St) (x1 : Int32) (x2 : Int32) (x3 : Int32) (x4 : Int32) (s : St) : Option St :=
    lt1 (x3 + (1)) fun v1 =>
    k36 x1 x2 v1 s
def f_RC_writeBody_71 (k36 : Int32 → Int32 → Int32 → St → Option St) (x1 : Int32) (x2 : Int32) (x3 : Int32) (x4 : Int32) (s : St) : Option St :=
    bd1 (f_Op_opensBlock x4) fun r1 =>
    if r1 = 0 then
      if x4 = 11 then
        lt1 (s 4 0 - 1) fun v2 =>
        lt1 (stp s 4 0 v2) fun s3 =>
        f_RC_writeBody_121 k36 x1 x2 x3 x4 s3
      else
        f_RC_writeBody_121 k36 x1 x2 x3 x4 s
    else
      lt1 (rSet s 32 10 (s 4 0) x3) fun s4 =>
      lt1 (s4 4 0 + 1) fun v5 =>
      lt1 (stp s4 4 0 v5) fun s6 =>
      f_RC_writeBody_121 k36 x1 x2 x3 x4 s6
def f_RC_writeBody_36 : Nat → Int32 → Int32 → Int32 → St → Option St
  | 0, _, _, _, _ => none
  | n + 1, x1, x2, x3, s =>
    if x2 < x3 then
      some s
    else
      lt1 (tGet 240 7 (s 21) x3 0) fun r1 =>
      bd1 (f_RC_entriesOf s x3 x2) fun r2 =>
      if r2 ≤ 0 then
        f_RC_writeBody_71 (f_RC_writeBody_36 n) x1 x2 x3 r1 s
      else
        bd1 (f_RC_writeInstruction x3 r1 s) fun s3 =>
        f_RC_writeBody_71 (f_RC_writeBody_36 n) x1 x2 x3 r1 s3
def f_RC_writeBody (x1 : Int32) (s : St) : Option St :=
    lt1 (stp s 4 2 x1) fun s1 =>
    lt1 (stp s1 4 0 0) fun s2 =>
    lt1 (tGet 8 4 (s2 13) x1 3) fun r3 =>
    lt1 (tGet 8 4 (s2 13) x1 2) fun r4 =>
    f_RC_writeBody_36 FU x1 r3 r4 s2
section WALK
variable {p : Program} {l : Launch} {e : Env} {ss : State} {m : MethodId} {args : Array Value} {below : List Frame} {meth : Method} {c : Code} {Q : State → Prop} {g : GX} {A : Nat → Prop}
set_option maxHeartbeats 4000000 in
set_option maxRecDepth 100000 in
theorem w_RC_writeBody_121 {z : St} (C : Cx g A p m c b_RC_writeBody 5 ss args R_RC) (hQ : ∀ (pc : Nat) (H : Heap) (locs : List Loc) (ls : Array Slot), XW g A ss (wX g z) H locs → decode b_RC_writeBody pc = .ok (.return_, 1) → W p l e (rmX 5 121) ss m args below meth c H locs 0 0 Q (F0 m pc ls [])) (k36 : Int32 → Int32 → Int32 → St → Option St) (hk36 : ∀ (x1 : Int32) (x2 : Int32) (x3 : Int32) (s : St) (H : Heap) (locs : List Loc) (ls : Array Slot), XW g A ss (wX g s) H locs → lv_has ls 5 [(0, .ref (g.q 4)), (1, .int x1), (2, .int x2), (3, .int x3)] → k36 x1 x2 x3 s = some z → W p l e (rmX 5 121) ss m args below meth c H locs 0 0 Q (F0 m 36 ls [])) : ∀ (x1 : Int32) (x2 : Int32) (x3 : Int32) (x4 : Int32) (s : St) (H : Heap) (locs : List Loc) (ls : Array Slot), XW g A ss (wX g s) H locs → lv_has ls 5 [(0, .ref (g.q 4)), (1, .int x1), (2, .int x2), (3, .int x3), (4, .int x4)] → f_RC_writeBody_121 k36 x1 x2 x3 x4 s = some z → W p l e (rmX 5 121) ss m args below meth c H locs 0 0 Q (F0 m 121 ls []) := by
  have ⟨⟨hx, hb, hml, hown, hts⟩, hK, hA, hN⟩ := C
  intro x1 x2 x3 x4 s H locs ls hX hl h
  rw [f_RC_writeBody_121] at h
  obtain ⟨v1, ev1, h⟩ := lt1_e h
  refine lv_iinc (v := v1) (lv' := [(3, .int v1), (0, .ref (g.q 4)), (1, .int x1), (2, .int x2), (4, .int x4)]) hx hb d_RC_writeBody_121 hl (k := 3) rfl (by rw [ev1]; rfl) (by decide) rfl (fun ls hl => ?_)
  refine lv_goto (tgt := 36) hx hb d_RC_writeBody_124 (by decide) ?_
  exact hk36 x1 x2 v1 s H locs ls hX (lv_sub hl [1, 2, 3, 0] rfl) h
set_option maxHeartbeats 4000000 in
set_option maxRecDepth 100000 in
theorem w_RC_writeBody_71 {z : St} (C : Cx g A p m c b_RC_writeBody 5 ss args R_RC) (hQ : ∀ (pc : Nat) (H : Heap) (locs : List Loc) (ls : Array Slot), XW g A ss (wX g z) H locs → decode b_RC_writeBody pc = .ok (.return_, 1) → W p l e (rmX 5 121) ss m args below meth c H locs 0 0 Q (F0 m pc ls [])) (k36 : Int32 → Int32 → Int32 → St → Option St) (hk36 : ∀ (x1 : Int32) (x2 : Int32) (x3 : Int32) (s : St) (H : Heap) (locs : List Loc) (ls : Array Slot), XW g A ss (wX g s) H locs → lv_has ls 5 [(0, .ref (g.q 4)), (1, .int x1), (2, .int x2), (3, .int x3)] → k36 x1 x2 x3 s = some z → W p l e (rmX 5 121) ss m args below meth c H locs 0 0 Q (F0 m 36 ls [])) : ∀ (x1 : Int32) (x2 : Int32) (x3 : Int32) (x4 : Int32) (s : St) (H : Heap) (locs : List Loc) (ls : Array Slot), XW g A ss (wX g s) H locs → lv_has ls 5 [(0, .ref (g.q 4)), (1, .int x1), (2, .int x2), (3, .int x3), (4, .int x4)] → f_RC_writeBody_71 k36 x1 x2 x3 x4 s = some z → W p l e (rmX 5 121) ss m args below meth c H locs 0 0 Q (F0 m 71 ls []) := by
  have ⟨⟨hx, hb, hml, hown, hts⟩, hK, hA, hN⟩ := C
  intro x1 x2 x3 x4 s H locs ls hX hl h
  rw [f_RC_writeBody_71] at h
  refine lv_iload hx hb d_RC_writeBody_71 (lv_at hl 4 rfl) ?_
  obtain ⟨r1, hc73, h⟩ := bd1_e h
  refine x_sI (As := [.int x4]) (rest := []) C hX (c_Op_opensBlock l g x4 r1 hc73 _) (cw_RC_78 C.1.2.2.2.2 C.2.2.2 ⟨by decide, by decide⟩) rfl hl.1 rfl (lv_room (Nat.le_of_ble_eq_true rfl)) d_RC_writeBody_73 ⟨Nat.le_refl _, Nat.le_refl _⟩ (fun H locs hX => ?_)
  refine lv_if_eq (tgt := 104) hx hb d_RC_writeBody_76 (by decide) (fun c76 => ?_) (fun c76 => ?_)
  · have h := ite_t c76 h
    refine lv_iload hx hb d_RC_writeBody_104 (lv_at hl 4 rfl) ?_
    refine lv_bipush (v := 11) hx hb d_RC_writeBody_106 (by decide) ?_
    refine lv_icmp_ne (tgt := 121) hx hb d_RC_writeBody_108 (by decide) (fun c108 => ?_) (fun c108 => ?_)
    · have h := ite_f c108 h
      exact w_RC_writeBody_121 C hQ k36 hk36 x1 x2 x3 x4 s H locs ls hX hl h
    · have h := ite_t c108 h
      refine lv_aload_n hx hb d_RC_writeBody_111 rfl (lv_at hl 0 rfl) ?_
      refine lv_dup hx hb d_RC_writeBody_112 rfl ?_
      refine gf_4_openCount C hX fl_RC_71 d_RC_writeBody_113 ?_
      refine lv_iconst (v := 1) hx hb d_RC_writeBody_116 (by decide) ?_
      obtain ⟨v2, ev2, h⟩ := lt1_e h
      refine x_isub hx hb d_RC_writeBody_117 ev2 ?_
      obtain ⟨s3, es3, h⟩ := lt1_e h
      refine pf_4_openCount C hX fl_RC_71 d_RC_writeBody_118 (fun H locs hX => ?_)
      rw [← es3] at hX
      exact w_RC_writeBody_121 C hQ k36 hk36 x1 x2 x3 x4 s3 H locs ls hX hl h
  · have h := ite_f c76 h
    refine lv_aload_n hx hb d_RC_writeBody_79 rfl (lv_at hl 0 rfl) ?_
    refine gf_4_open C hX fl_RC_20 d_RC_writeBody_80 ?_
    refine lv_aload_n hx hb d_RC_writeBody_83 rfl (lv_at hl 0 rfl) ?_
    refine gf_4_openCount C hX fl_RC_71 d_RC_writeBody_84 ?_
    refine lv_iload_n hx hb d_RC_writeBody_87 rfl (lv_at hl 3 rfl) ?_
    obtain ⟨s4, es4, h⟩ := lt1_e h
    refine x_vV (ws' := wX g s4) (As := [.int (s 4 0), .int x3]) (rest := []) C hX (by rw [es4]; exact cRowSet_31 l g s (s 4 0) x3) (cw_RC_82 C.1.2.2.2.2 C.2.2.2 ⟨by decide, by decide⟩) (x_rc C hX wg_31 rfl) rfl hl.1 rfl (lv_room (Nat.le_of_ble_eq_true rfl)) d_RC_writeBody_88 ⟨Nat.le_refl _, Nat.le_refl _⟩ (fun H locs hX => ?_)
    refine lv_aload_n hx hb d_RC_writeBody_91 rfl (lv_at hl 0 rfl) ?_
    refine lv_dup hx hb d_RC_writeBody_92 rfl ?_
    refine gf_4_openCount C hX fl_RC_71 d_RC_writeBody_93 ?_
    refine lv_iconst (v := 1) hx hb d_RC_writeBody_96 (by decide) ?_
    obtain ⟨v5, ev5, h⟩ := lt1_e h
    refine x_iadd hx hb d_RC_writeBody_97 ev5 ?_
    obtain ⟨s6, es6, h⟩ := lt1_e h
    refine pf_4_openCount C hX fl_RC_71 d_RC_writeBody_98 (fun H locs hX => ?_)
    rw [← es6] at hX
    refine lv_goto (tgt := 121) hx hb d_RC_writeBody_101 (by decide) ?_
    exact w_RC_writeBody_121 C hQ k36 hk36 x1 x2 x3 x4 s6 H locs ls hX hl h
set_option maxHeartbeats 4000000 in
set_option maxRecDepth 100000 in
theorem w_RC_writeBody_36 {z : St} (C : Cx g A p m c b_RC_writeBody 5 ss args R_RC) (hQ : ∀ (pc : Nat) (H : Heap) (locs : List Loc) (ls : Array Slot), XW g A ss (wX g z) H locs → decode b_RC_writeBody pc = .ok (.return_, 1) → W p l e (rmX 5 121) ss m args below meth c H locs 0 0 Q (F0 m pc ls [])) (n : Nat) : ∀ (x1 : Int32) (x2 : Int32) (x3 : Int32) (s : St) (H : Heap) (locs : List Loc) (ls : Array Slot), XW g A ss (wX g s) H locs → lv_has ls 5 [(0, .ref (g.q 4)), (1, .int x1), (2, .int x2), (3, .int x3)] → f_RC_writeBody_36 n x1 x2 x3 s = some z → W p l e (rmX 5 121) ss m args below meth c H locs 0 0 Q (F0 m 36 ls []) := by
  have ⟨⟨hx, hb, hml, hown, hts⟩, hK, hA, hN⟩ := C
  induction n with
  | zero => intro x1 x2 x3 s H locs ls hX hl h; cases h
  | succ n ih =>
    intro x1 x2 x3 s H locs ls hX hl h
    rw [f_RC_writeBody_36] at h
    refine lv_iload_n hx hb d_RC_writeBody_36 rfl (lv_at hl 3 rfl) ?_
    refine lv_iload_n hx hb d_RC_writeBody_37 rfl (lv_at hl 2 rfl) ?_
    refine lv_icmp_gt (tgt := 127) hx hb d_RC_writeBody_38 (by decide) (fun c38 => ?_) (fun c38 => ?_)
    · have h := ite_t c38 h
      obtain rfl := so1 h
      exact hQ _ H locs ls hX d_RC_writeBody_127
    · have h := ite_f c38 h
      refine lv_aload_n hx hb d_RC_writeBody_41 rfl (lv_at hl 0 rfl) ?_
      refine gf_4_contents C hX fl_RC_23 d_RC_writeBody_42 ?_
      refine gf_1_code C hX fl_RC_35 d_RC_writeBody_45 ?_
      refine lv_iload_n hx hb d_RC_writeBody_48 rfl (lv_at hl 3 rfl) ?_
      refine lv_iconst (v := 0) hx hb d_RC_writeBody_49 (by decide) ?_
      obtain ⟨r1, er1, h⟩ := lt1_e h
      refine x_vI (r := r1) (ws' := wX g s) (As := [.int x3, .int 0]) (rest := []) C hX (by rw [er1]; exact cTabGet_20 l g s x3 0) (cw_RC_44 C.1.2.2.2.2 C.2.2.2 ⟨by decide, by decide⟩) (x_rc C hX wg_20 rfl) rfl hl.1 rfl (lv_room (Nat.le_of_ble_eq_true rfl)) d_RC_writeBody_50 ⟨Nat.le_refl _, Nat.le_refl _⟩ (fun H locs hX => ?_)
      refine lv_istore (lv' := [(4, .int r1), (0, .ref (g.q 4)), (1, .int x1), (2, .int x2), (3, .int x3)]) hx hb d_RC_writeBody_53 hl (by decide) rfl (fun ls hl => ?_)
      refine lv_aload_n hx hb d_RC_writeBody_55 rfl (lv_at hl 1 rfl) ?_
      refine lv_iload_n hx hb d_RC_writeBody_56 rfl (lv_at hl 4 rfl) ?_
      refine lv_iload_n hx hb d_RC_writeBody_57 rfl (lv_at hl 3 rfl) ?_
      obtain ⟨r2, hc58, h⟩ := bd1_e h
      refine x_vI (As := [.int x3, .int x2]) (rest := []) C hX (c_RC_entriesOf l g x3 x2 s r2 hc58) (cw_RC_63 C.1.2.2.2.2 C.2.2.2 ⟨by decide, by decide⟩) (x_rc C hX wg_4 rfl) rfl hl.1 rfl (lv_room (Nat.le_of_ble_eq_true rfl)) d_RC_writeBody_58 ⟨Nat.le_refl _, Nat.le_refl _⟩ (fun H locs hX => ?_)
      refine lv_if_le (tgt := 71) hx hb d_RC_writeBody_61 (by decide) (fun c61 => ?_) (fun c61 => ?_)
      · have h := ite_t c61 h
        exact w_RC_writeBody_71 C hQ (f_RC_writeBody_36 n) ih x1 x2 x3 r1 s H locs ls hX (lv_sub hl [1, 2, 3, 4, 0] rfl) h
      · have h := ite_f c61 h
        refine lv_aload_n hx hb d_RC_writeBody_64 rfl (lv_at hl 1 rfl) ?_
        refine lv_iload_n hx hb d_RC_writeBody_65 rfl (lv_at hl 4 rfl) ?_
        refine lv_iload hx hb d_RC_writeBody_66 (lv_at hl 0 rfl) ?_
        obtain ⟨s3, hc68, h⟩ := bd1_e h
        refine x_vV (As := [.int x3, .int r1]) (rest := []) C hX (c_RC_writeInstruction l g x3 r1 s s3 hc68) (cw_RC_74 C.1.2.2.2.2 C.2.2.2 ⟨by decide, by decide⟩) (x_rc C hX wg_4 rfl) rfl hl.1 rfl (lv_room (Nat.le_of_ble_eq_true rfl)) d_RC_writeBody_68 ⟨Nat.le_refl _, Nat.le_refl _⟩ (fun H locs hX => ?_)
        exact w_RC_writeBody_71 C hQ (f_RC_writeBody_36 n) ih x1 x2 x3 r1 s3 H locs ls hX (lv_sub hl [1, 2, 3, 4, 0] rfl) h
set_option maxHeartbeats 4000000 in
set_option maxRecDepth 100000 in
theorem w_RC_writeBody {z : St} (C : Cx g A p m c b_RC_writeBody 5 ss args R_RC) (hQ : ∀ (pc : Nat) (H : Heap) (locs : List Loc) (ls : Array Slot), XW g A ss (wX g z) H locs → decode b_RC_writeBody pc = .ok (.return_, 1) → W p l e (rmX 5 121) ss m args below meth c H locs 0 0 Q (F0 m pc ls [])) : ∀ (x1 : Int32) (s : St) (H : Heap) (locs : List Loc) (ls : Array Slot), XW g A ss (wX g s) H locs → lv_has ls 5 [(0, .ref (g.q 4)), (1, .int x1)] → f_RC_writeBody x1 s = some z → W p l e (rmX 5 121) ss m args below meth c H locs 0 0 Q (F0 m 0 ls []) := by
  have ⟨⟨hx, hb, hml, hown, hts⟩, hK, hA, hN⟩ := C
  intro x1 s H locs ls hX hl h
  rw [f_RC_writeBody] at h
  refine lv_aload_n hx hb d_RC_writeBody_0 rfl (lv_at hl 0 rfl) ?_
  refine lv_iload_n hx hb d_RC_writeBody_1 rfl (lv_at hl 1 rfl) ?_
  obtain ⟨s1, es1, h⟩ := lt1_e h
  refine pf_4_function C hX fl_RC_68 d_RC_writeBody_2 (fun H locs hX => ?_)
  rw [← es1] at hX
  refine lv_aload_n hx hb d_RC_writeBody_5 rfl (lv_at hl 0 rfl) ?_
  refine lv_iconst (v := 0) hx hb d_RC_writeBody_6 (by decide) ?_
  obtain ⟨s2, es2, h⟩ := lt1_e h
  refine pf_4_openCount C hX fl_RC_71 d_RC_writeBody_7 (fun H locs hX => ?_)
  rw [← es2] at hX
  refine lv_aload_n hx hb d_RC_writeBody_10 rfl (lv_at hl 0 rfl) ?_
  refine gf_4_contents C hX fl_RC_23 d_RC_writeBody_11 ?_
  refine gf_1_functions C hX fl_RC_41 d_RC_writeBody_14 ?_
  refine lv_iload_n hx hb d_RC_writeBody_17 rfl (lv_at hl 1 rfl) ?_
  refine lv_iconst (v := 3) hx hb d_RC_writeBody_18 (by decide) ?_
  obtain ⟨r3, er3, h⟩ := lt1_e h
  refine x_vI (r := r3) (ws' := wX g s2) (As := [.int x1, .int 3]) (rest := []) C hX (by rw [er3]; exact cTabGet_12 l g s2 x1 3) (cw_RC_44 C.1.2.2.2.2 C.2.2.2 ⟨by decide, by decide⟩) (x_rc C hX wg_12 rfl) rfl hl.1 rfl (lv_room (Nat.le_of_ble_eq_true rfl)) d_RC_writeBody_19 ⟨Nat.le_refl _, Nat.le_refl _⟩ (fun H locs hX => ?_)
  refine lv_istore_n (lv' := [(2, .int r3), (0, .ref (g.q 4)), (1, .int x1)]) hx hb d_RC_writeBody_22 rfl hl (by decide) rfl (fun ls hl => ?_)
  refine lv_aload_n hx hb d_RC_writeBody_23 rfl (lv_at hl 1 rfl) ?_
  refine gf_4_contents C hX fl_RC_23 d_RC_writeBody_24 ?_
  refine gf_1_functions C hX fl_RC_41 d_RC_writeBody_27 ?_
  refine lv_iload_n hx hb d_RC_writeBody_30 rfl (lv_at hl 2 rfl) ?_
  refine lv_iconst (v := 2) hx hb d_RC_writeBody_31 (by decide) ?_
  obtain ⟨r4, er4, h⟩ := lt1_e h
  refine x_vI (r := r4) (ws' := wX g s2) (As := [.int x1, .int 2]) (rest := []) C hX (by rw [er4]; exact cTabGet_12 l g s2 x1 2) (cw_RC_44 C.1.2.2.2.2 C.2.2.2 ⟨by decide, by decide⟩) (x_rc C hX wg_12 rfl) rfl hl.1 rfl (lv_room (Nat.le_of_ble_eq_true rfl)) d_RC_writeBody_32 ⟨Nat.le_refl _, Nat.le_refl _⟩ (fun H locs hX => ?_)
  refine lv_istore_n (lv' := [(3, .int r4), (2, .int r3), (0, .ref (g.q 4)), (1, .int x1)]) hx hb d_RC_writeBody_35 rfl hl (by decide) rfl (fun ls hl => ?_)
  exact w_RC_writeBody_36 C hQ FU x1 r3 r4 s2 H locs ls hX (lv_sub hl [2, 3, 1, 0] rfl) h
end WALK
theorem c_RC_writeBody (l : Launch) (g : GX) (x1 : Int32) (s : St) (z : St) (h : f_RC_writeBody x1 s = some z) : MV l g y_RC_writeBody b_RC_writeBody 5 none 5 121 [.ref (g.q 4), .int x1] (wX g s) (wX g z) :=
  MV.mk (own := R_RC) (by decide) rfl (Nat.le_of_ble_eq_true rfl) fun p e ss m below meth c A Q C hQ ls hX hl => w_RC_writeBody C hQ x1 s _ _ ls hX hl h
-- RC_make
def f_RC_make_42 (x1 : Int32) (s : St) : Option St :=
    some s
def f_RC_make_11 : Nat → Int32 → St → Option St
  | 0, _, _ => none
  | n + 1, x1, s =>
    if 8 ≤ x1 then
      f_RC_make_42 x1 s
    else
      lt1 (s 12 0) fun r1 =>
      if r1 ≤ x1 then
        f_RC_make_42 x1 s
      else
        bd1 (f_RC_writeBody x1 s) fun s2 =>
        lt1 (x1 + (1)) fun v3 =>
        f_RC_make_11 n v3 s2
def f_RC_make (s : St) : Option St :=
    bd1 (f_RC_numberEntries s) fun s1 =>
    lt1 (stp s1 4 1 0) fun s2 =>
    f_RC_make_11 FU 0 s2
section WALK
variable {p : Program} {l : Launch} {e : Env} {ss : State} {m : MethodId} {args : Array Value} {below : List Frame} {meth : Method} {c : Code} {Q : State → Prop} {g : GX} {A : Nat → Prop}
set_option maxHeartbeats 4000000 in
set_option maxRecDepth 100000 in
theorem w_RC_make_42 {z : St} (C : Cx g A p m c b_RC_make 2 ss args R_RC) (hQ : ∀ (pc : Nat) (H : Heap) (locs : List Loc) (ls : Array Slot), XW g A ss (wX g z) H locs → decode b_RC_make pc = .ok (.return_, 1) → W p l e (rmX 6 145) ss m args below meth c H locs 0 0 Q (F0 m pc ls [])) : ∀ (x1 : Int32) (s : St) (H : Heap) (locs : List Loc) (ls : Array Slot), XW g A ss (wX g s) H locs → lv_has ls 2 [(0, .ref (g.q 4)), (1, .int x1)] → f_RC_make_42 x1 s = some z → W p l e (rmX 6 145) ss m args below meth c H locs 0 0 Q (F0 m 42 ls []) := by
  have ⟨⟨hx, hb, hml, hown, hts⟩, hK, hA, hN⟩ := C
  intro x1 s H locs ls hX hl h
  rw [f_RC_make_42] at h
  obtain rfl := so1 h
  exact hQ _ H locs ls hX d_RC_make_42
set_option maxHeartbeats 4000000 in
set_option maxRecDepth 100000 in
theorem w_RC_make_11 {z : St} (C : Cx g A p m c b_RC_make 2 ss args R_RC) (hQ : ∀ (pc : Nat) (H : Heap) (locs : List Loc) (ls : Array Slot), XW g A ss (wX g z) H locs → decode b_RC_make pc = .ok (.return_, 1) → W p l e (rmX 6 145) ss m args below meth c H locs 0 0 Q (F0 m pc ls [])) (n : Nat) : ∀ (x1 : Int32) (s : St) (H : Heap) (locs : List Loc) (ls : Array Slot), XW g A ss (wX g s) H locs → lv_has ls 2 [(0, .ref (g.q 4)), (1, .int x1)] → f_RC_make_11 n x1 s = some z → W p l e (rmX 6 145) ss m args below meth c H locs 0 0 Q (F0 m 11 ls []) := by
  have ⟨⟨hx, hb, hml, hown, hts⟩, hK, hA, hN⟩ := C
  induction n with
  | zero => intro x1 s H locs ls hX hl h; cases h
  | succ n ih =>
    intro x1 s H locs ls hX hl h
    rw [f_RC_make_11] at h
    refine lv_iload_n hx hb d_RC_make_11 rfl (lv_at hl 1 rfl) ?_
    refine lv_bipush (v := 8) hx hb d_RC_make_12 (by decide) ?_
    refine lv_icmp_ge (tgt := 42) hx hb d_RC_make_14 (by decide) (fun c14 => ?_) (fun c14 => ?_)
    · have h := ite_t c14 h
      exact w_RC_make_42 C hQ x1 s H locs ls hX hl h
    · have h := ite_f c14 h
      refine lv_iload_n hx hb d_RC_make_17 rfl (lv_at hl 1 rfl) ?_
      refine lv_aload_n hx hb d_RC_make_18 rfl (lv_at hl 0 rfl) ?_
      refine gf_4_contents C hX fl_RC_23 d_RC_make_19 ?_
      refine gf_1_functions C hX fl_RC_41 d_RC_make_22 ?_
      obtain ⟨r1, er1, h⟩ := lt1_e h
      refine x_vI (r := r1) (ws' := wX g s) (As := []) (rest := [.int x1]) C hX (by rw [er1]; exact cTabCount_12 l g s) (cw_RC_52 C.1.2.2.2.2 C.2.2.2 ⟨by decide, by decide⟩) (x_rc C hX wg_12 rfl) rfl hl.1 rfl (lv_room (Nat.le_of_ble_eq_true rfl)) d_RC_make_25 ⟨Nat.le_refl _, Nat.le_refl _⟩ (fun H locs hX => ?_)
      refine lv_icmp_ge (tgt := 42) hx hb d_RC_make_28 (by decide) (fun c28 => ?_) (fun c28 => ?_)
      · have h := ite_t c28 h
        exact w_RC_make_42 C hQ x1 s H locs ls hX hl h
      · have h := ite_f c28 h
        refine lv_aload_n hx hb d_RC_make_31 rfl (lv_at hl 0 rfl) ?_
        refine lv_iload_n hx hb d_RC_make_32 rfl (lv_at hl 1 rfl) ?_
        obtain ⟨s2, hc33, h⟩ := bd1_e h
        refine x_vV (As := [.int x1]) (rest := []) C hX (c_RC_writeBody l g x1 s s2 hc33) (cw_RC_56 C.1.2.2.2.2 C.2.2.2 ⟨by decide, by decide⟩) (x_rc C hX wg_4 rfl) rfl hl.1 rfl (lv_room (Nat.le_of_ble_eq_true rfl)) d_RC_make_33 ⟨Nat.le_refl _, Nat.le_refl _⟩ (fun H locs hX => ?_)
        obtain ⟨v3, ev3, h⟩ := lt1_e h
        refine lv_iinc (v := v3) (lv' := [(1, .int v3), (0, .ref (g.q 4))]) hx hb d_RC_make_36 hl (k := 1) rfl (by rw [ev3]; rfl) (by decide) rfl (fun ls hl => ?_)
        refine lv_goto (tgt := 11) hx hb d_RC_make_39 (by decide) ?_
        exact ih v3 s2 H locs ls hX (lv_sub hl [1, 0] rfl) h
set_option maxHeartbeats 4000000 in
set_option maxRecDepth 100000 in
theorem w_RC_make {z : St} (C : Cx g A p m c b_RC_make 2 ss args R_RC) (hQ : ∀ (pc : Nat) (H : Heap) (locs : List Loc) (ls : Array Slot), XW g A ss (wX g z) H locs → decode b_RC_make pc = .ok (.return_, 1) → W p l e (rmX 6 145) ss m args below meth c H locs 0 0 Q (F0 m pc ls [])) : ∀ (s : St) (H : Heap) (locs : List Loc) (ls : Array Slot), XW g A ss (wX g s) H locs → lv_has ls 2 [(0, .ref (g.q 4))] → f_RC_make s = some z → W p l e (rmX 6 145) ss m args below meth c H locs 0 0 Q (F0 m 0 ls []) := by
  have ⟨⟨hx, hb, hml, hown, hts⟩, hK, hA, hN⟩ := C
  intro s H locs ls hX hl h
  rw [f_RC_make] at h
  refine lv_aload_n hx hb d_RC_make_0 rfl (lv_at hl 0 rfl) ?_
  obtain ⟨s1, hc1, h⟩ := bd1_e h
  refine x_vV (As := []) (rest := []) C hX (c_RC_numberEntries l g s s1 hc1) (cw_RC_49 C.1.2.2.2.2 C.2.2.2 ⟨by decide, by decide⟩) (x_rc C hX wg_4 rfl) rfl hl.1 rfl (lv_room (Nat.le_of_ble_eq_true rfl)) d_RC_make_1 ⟨Nat.le_refl _, Nat.le_refl _⟩ (fun H locs hX => ?_)
  refine lv_aload_n hx hb d_RC_make_4 rfl (lv_at hl 0 rfl) ?_
  refine lv_iconst (v := 0) hx hb d_RC_make_5 (by decide) ?_
  obtain ⟨s2, es2, h⟩ := lt1_e h
  refine pf_4_entries C hX fl_RC_27 d_RC_make_6 (fun H locs hX => ?_)
  rw [← es2] at hX
  refine lv_iconst (v := 0) hx hb d_RC_make_9 (by decide) ?_
  refine lv_istore_n (lv' := [(1, .int 0), (0, .ref (g.q 4))]) hx hb d_RC_make_10 rfl hl (by decide) rfl (fun ls hl => ?_)
  exact w_RC_make_11 C hQ FU 0 s2 H locs ls hX (lv_sub hl [1, 0] rfl) h
end WALK
theorem c_RC_make (l : Launch) (g : GX) (s : St) (z : St) (h : f_RC_make s = some z) : MV l g y_RC_make b_RC_make 2 none 6 145 [.ref (g.q 4)] (wX g s) (wX g z) :=
  MV.mk (own := R_RC) (by decide) rfl (Nat.le_of_ble_eq_true rfl) fun p e ss m below meth c A Q C hQ ls hX hl => w_RC_make C hQ s _ _ ls hX hl h
-- Store_prepare
def f_Store_prepare_147 (x3 : Int32) (s : St) : Option St :=
    some s
def f_Store_prepare_141 (k55 : Int32 → St → Option St) (x3 : Int32) (x4 : Int32) (x5 : Int32) (s : St) : Option St :=
    lt1 (x3 + (1)) fun v1 =>
    k55 v1 s
def f_Store_prepare_85 (k55 : Int32 → St → Option St) : Nat → Int32 → Int32 → Int32 → St → Option St
  | 0, _, _, _, _ => none
  | n + 1, x3, x4, x5, s =>
    if 240 ≤ x5 then
      f_Store_prepare_141 k55 x3 x4 x5 s
    else
      if x4 ≤ x5 then
        f_Store_prepare_141 k55 x3 x4 x5 s
      else
        lt1 (tGet 4 4 (s 19) x3 1) fun r1 =>
        lt1 (r1 + x5) fun v2 =>
        lt1 (tGet 4 4 (s 19) x3 2) fun r3 =>
        lt1 (r3 + x5) fun v4 =>
        bd1 (f_Rd_byteAt s v4) fun r5 =>
        lt1 (rSet s 34 256 v2 r5) fun s6 =>
        lt1 (x5 + (1)) fun v7 =>
        f_Store_prepare_85 k55 n x3 x4 v7 s6
def f_Store_prepare_55 : Nat → Int32 → St → Option St
  | 0, _, _ => none
  | n + 1, x3, s =>
    if 4 ≤ x3 then
      f_Store_prepare_147 x3 s
    else
      lt1 (s 18 0) fun r1 =>
      if r1 ≤ x3 then
        f_Store_prepare_147 x3 s
      else
        lt1 (tGet 4 4 (s 19) x3 3) fun r2 =>
        f_Store_prepare_85 (f_Store_prepare_55 n) FU x3 r2 0 s
def f_Store_prepare_25 : Nat → Int32 → St → Option St
  | 0, _, _ => none
  | n + 1, x3, s =>
    if 4 ≤ x3 then
      f_Store_prepare_55 FU 0 s
    else
      lt1 (tGet 4 2 (s 15) x3 1) fun r1 =>
      lt1 (rSet s 38 4 x3 r1) fun s2 =>
      lt1 (x3 + (1)) fun v3 =>
      f_Store_prepare_25 n v3 s2
def f_Store_prepare (s : St) : Option St :=
    lt1 (aFill s 34 256) fun s1 =>
    lt1 (stp s1 5 0 (s1 1 1)) fun s2 =>
    lt1 (stp s2 5 1 (s2 1 2)) fun s3 =>
    f_Store_prepare_25 FU 0 s3
section WALK
variable {p : Program} {l : Launch} {e : Env} {ss : State} {m : MethodId} {args : Array Value} {below : List Frame} {meth : Method} {c : Code} {Q : State → Prop} {g : GX} {A : Nat → Prop}
set_option maxHeartbeats 4000000 in
set_option maxRecDepth 100000 in
theorem w_Store_prepare_147 {z : St} (C : Cx g A p m c b_Store_prepare 6 ss args R_Store) (hQ : ∀ (pc : Nat) (H : Heap) (locs : List Loc) (ls : Array Slot), XW g A ss (wX g z) H locs → decode b_Store_prepare pc = .ok (.return_, 1) → W p l e (rmX 2 43) ss m args below meth c H locs 0 0 Q (F0 m pc ls [])) : ∀ (x3 : Int32) (s : St) (H : Heap) (locs : List Loc) (ls : Array Slot), XW g A ss (wX g s) H locs → lv_has ls 6 [(0, .ref (g.q 5)), (1, .ref (g.q 1)), (2, .ref (g.q 2)), (3, .int x3)] → f_Store_prepare_147 x3 s = some z → W p l e (rmX 2 43) ss m args below meth c H locs 0 0 Q (F0 m 147 ls []) := by
  have ⟨⟨hx, hb, hml, hown, hts⟩, hK, hA, hN⟩ := C
  intro x3 s H locs ls hX hl h
  rw [f_Store_prepare_147] at h
  obtain rfl := so1 h
  exact hQ _ H locs ls hX d_Store_prepare_147
set_option maxHeartbeats 4000000 in
set_option maxRecDepth 100000 in
theorem w_Store_prepare_141 {z : St} (C : Cx g A p m c b_Store_prepare 6 ss args R_Store) (hQ : ∀ (pc : Nat) (H : Heap) (locs : List Loc) (ls : Array Slot), XW g A ss (wX g z) H locs → decode b_Store_prepare pc = .ok (.return_, 1) → W p l e (rmX 2 43) ss m args below meth c H locs 0 0 Q (F0 m pc ls [])) (k55 : Int32 → St → Option St) (hk55 : ∀ (x3 : Int32) (s : St) (H : Heap) (locs : List Loc) (ls : Array Slot), XW g A ss (wX g s) H locs → lv_has ls 6 [(0, .ref (g.q 5)), (1, .ref (g.q 1)), (2, .ref (g.q 2)), (3, .int x3)] → k55 x3 s = some z → W p l e (rmX 2 43) ss m args below meth c H locs 0 0 Q (F0 m 55 ls [])) : ∀ (x3 : Int32) (x4 : Int32) (x5 : Int32) (s : St) (H : Heap) (locs : List Loc) (ls : Array Slot), XW g A ss (wX g s) H locs → lv_has ls 6 [(0, .ref (g.q 5)), (1, .ref (g.q 1)), (2, .ref (g.q 2)), (3, .int x3), (4, .int x4), (5, .int x5)] → f_Store_prepare_141 k55 x3 x4 x5 s = some z → W p l e (rmX 2 43) ss m args below meth c H locs 0 0 Q (F0 m 141 ls []) := by
  have ⟨⟨hx, hb, hml, hown, hts⟩, hK, hA, hN⟩ := C
  intro x3 x4 x5 s H locs ls hX hl h
  rw [f_Store_prepare_141] at h
  obtain ⟨v1, ev1, h⟩ := lt1_e h
  refine lv_iinc (v := v1) (lv' := [(3, .int v1), (0, .ref (g.q 5)), (1, .ref (g.q 1)), (2, .ref (g.q 2)), (4, .int x4), (5, .int x5)]) hx hb d_Store_prepare_141 hl (k := 3) rfl (by rw [ev1]; rfl) (by decide) rfl (fun ls hl => ?_)
  refine lv_goto (tgt := 55) hx hb d_Store_prepare_144 (by decide) ?_
  exact hk55 v1 s H locs ls hX (lv_sub hl [1, 2, 3, 0] rfl) h
set_option maxHeartbeats 4000000 in
set_option maxRecDepth 100000 in
theorem w_Store_prepare_85 {z : St} (C : Cx g A p m c b_Store_prepare 6 ss args R_Store) (hQ : ∀ (pc : Nat) (H : Heap) (locs : List Loc) (ls : Array Slot), XW g A ss (wX g z) H locs → decode b_Store_prepare pc = .ok (.return_, 1) → W p l e (rmX 2 43) ss m args below meth c H locs 0 0 Q (F0 m pc ls [])) (k55 : Int32 → St → Option St) (hk55 : ∀ (x3 : Int32) (s : St) (H : Heap) (locs : List Loc) (ls : Array Slot), XW g A ss (wX g s) H locs → lv_has ls 6 [(0, .ref (g.q 5)), (1, .ref (g.q 1)), (2, .ref (g.q 2)), (3, .int x3)] → k55 x3 s = some z → W p l e (rmX 2 43) ss m args below meth c H locs 0 0 Q (F0 m 55 ls [])) (n : Nat) : ∀ (x3 : Int32) (x4 : Int32) (x5 : Int32) (s : St) (H : Heap) (locs : List Loc) (ls : Array Slot), XW g A ss (wX g s) H locs → lv_has ls 6 [(0, .ref (g.q 5)), (1, .ref (g.q 1)), (2, .ref (g.q 2)), (3, .int x3), (4, .int x4), (5, .int x5)] → f_Store_prepare_85 k55 n x3 x4 x5 s = some z → W p l e (rmX 2 43) ss m args below meth c H locs 0 0 Q (F0 m 85 ls []) := by
  have ⟨⟨hx, hb, hml, hown, hts⟩, hK, hA, hN⟩ := C
  induction n with
  | zero => intro x3 x4 x5 s H locs ls hX hl h; cases h
  | succ n ih =>
    intro x3 x4 x5 s H locs ls hX hl h
    rw [f_Store_prepare_85] at h
    refine lv_iload hx hb d_Store_prepare_85 (lv_at hl 5 rfl) ?_
    refine lv_sipush (v := 240) hx hb d_Store_prepare_87 (by decide) ?_
    refine lv_icmp_ge (tgt := 141) hx hb d_Store_prepare_90 (by decide) (fun c90 => ?_) (fun c90 => ?_)
    · have h := ite_t c90 h
      exact w_Store_prepare_141 C hQ k55 hk55 x3 x4 x5 s H locs ls hX hl h
    · have h := ite_f c90 h
      refine lv_iload hx hb d_Store_prepare_93 (lv_at hl 5 rfl) ?_
      refine lv_iload hx hb d_Store_prepare_95 (lv_at hl 4 rfl) ?_
      refine lv_icmp_ge (tgt := 141) hx hb d_Store_prepare_97 (by decide) (fun c97 => ?_) (fun c97 => ?_)
      · have h := ite_t c97 h
        exact w_Store_prepare_141 C hQ k55 hk55 x3 x4 x5 s H locs ls hX hl h
      · have h := ite_f c97 h
        refine lv_aload_n hx hb d_Store_prepare_100 rfl (lv_at hl 0 rfl) ?_
        refine gf_5_memory C hX fl_Store_14 d_Store_prepare_101 ?_
        refine lv_aload_n hx hb d_Store_prepare_104 rfl (lv_at hl 1 rfl) ?_
        refine gf_1_data C hX fl_Store_55 d_Store_prepare_105 ?_
        refine lv_iload_n hx hb d_Store_prepare_108 rfl (lv_at hl 3 rfl) ?_
        refine lv_iconst (v := 1) hx hb d_Store_prepare_109 (by decide) ?_
        obtain ⟨r1, er1, h⟩ := lt1_e h
        refine x_vI (r := r1) (ws' := wX g s) (As := [.int x3, .int 1]) (rest := [.ref (g.q 33)]) C hX (by rw [er1]; exact cTabGet_18 l g s x3 1) (cw_Store_45 C.1.2.2.2.2 C.2.2.2 ⟨by decide, by decide⟩) (x_rc C hX wg_18 rfl) rfl hl.1 rfl (lv_room (Nat.le_of_ble_eq_true rfl)) d_Store_prepare_110 ⟨Nat.le_refl _, Nat.le_refl _⟩ (fun H locs hX => ?_)
        refine lv_iload hx hb d_Store_prepare_113 (lv_at hl 5 rfl) ?_
        obtain ⟨v2, ev2, h⟩ := lt1_e h
        refine x_iadd hx hb d_Store_prepare_115 ev2 ?_
        refine lv_aload_n hx hb d_Store_prepare_116 rfl (lv_at hl 2 rfl) ?_
        refine lv_aload_n hx hb d_Store_prepare_117 rfl (lv_at hl 1 rfl) ?_
        refine gf_1_data C hX fl_Store_55 d_Store_prepare_118 ?_
        refine lv_iload_n hx hb d_Store_prepare_121 rfl (lv_at hl 3 rfl) ?_
        refine lv_iconst (v := 2) hx hb d_Store_prepare_122 (by decide) ?_
        obtain ⟨r3, er3, h⟩ := lt1_e h
        refine x_vI (r := r3) (ws' := wX g s) (As := [.int x3, .int 2]) (rest := [.ref (g.q 2), .int v2, .ref (g.q 33)]) C hX (by rw [er3]; exact cTabGet_18 l g s x3 2) (cw_Store_45 C.1.2.2.2.2 C.2.2.2 ⟨by decide, by decide⟩) (x_rc C hX wg_18 rfl) rfl hl.1 rfl (lv_room (Nat.le_of_ble_eq_true rfl)) d_Store_prepare_123 ⟨Nat.le_refl _, Nat.le_refl _⟩ (fun H locs hX => ?_)
        refine lv_iload hx hb d_Store_prepare_126 (lv_at hl 5 rfl) ?_
        obtain ⟨v4, ev4, h⟩ := lt1_e h
        refine x_iadd hx hb d_Store_prepare_128 ev4 ?_
        obtain ⟨r5, hc129, h⟩ := bd1_e h
        refine x_vI (As := [.int v4]) (rest := [.int v2, .ref (g.q 33)]) C hX (c_Rd_byteAt l g v4 s r5 hc129) (cw_Store_62 C.1.2.2.2.2 C.2.2.2 ⟨by decide, by decide⟩) (x_rc C hX wg_2 rfl) rfl hl.1 rfl (lv_room (Nat.le_of_ble_eq_true rfl)) d_Store_prepare_129 ⟨Nat.le_refl _, Nat.le_refl _⟩ (fun H locs hX => ?_)
        obtain ⟨s6, es6, h⟩ := lt1_e h
        refine x_vV (ws' := wX g s6) (As := [.int v2, .int r5]) (rest := []) C hX (by rw [es6]; exact cRowSet_33 l g s v2 r5) (cw_Store_51 C.1.2.2.2.2 C.2.2.2 ⟨by decide, by decide⟩) (x_rc C hX wg_33 rfl) rfl hl.1 rfl (lv_room (Nat.le_of_ble_eq_true rfl)) d_Store_prepare_132 ⟨Nat.le_refl _, Nat.le_refl _⟩ (fun H locs hX => ?_)
        obtain ⟨v7, ev7, h⟩ := lt1_e h
        refine lv_iinc (v := v7) (lv' := [(5, .int v7), (0, .ref (g.q 5)), (1, .ref (g.q 1)), (2, .ref (g.q 2)), (3, .int x3), (4, .int x4)]) hx hb d_Store_prepare_135 hl (k := 5) rfl (by rw [ev7]; rfl) (by decide) rfl (fun ls hl => ?_)
        refine lv_goto (tgt := 85) hx hb d_Store_prepare_138 (by decide) ?_
        exact ih x3 x4 v7 s6 H locs ls hX (lv_sub hl [1, 2, 3, 4, 5, 0] rfl) h
set_option maxHeartbeats 4000000 in
set_option maxRecDepth 100000 in
theorem w_Store_prepare_55 {z : St} (C : Cx g A p m c b_Store_prepare 6 ss args R_Store) (hQ : ∀ (pc : Nat) (H : Heap) (locs : List Loc) (ls : Array Slot), XW g A ss (wX g z) H locs → decode b_Store_prepare pc = .ok (.return_, 1) → W p l e (rmX 2 43) ss m args below meth c H locs 0 0 Q (F0 m pc ls [])) (n : Nat) : ∀ (x3 : Int32) (s : St) (H : Heap) (locs : List Loc) (ls : Array Slot), XW g A ss (wX g s) H locs → lv_has ls 6 [(0, .ref (g.q 5)), (1, .ref (g.q 1)), (2, .ref (g.q 2)), (3, .int x3)] → f_Store_prepare_55 n x3 s = some z → W p l e (rmX 2 43) ss m args below meth c H locs 0 0 Q (F0 m 55 ls []) := by
  have ⟨⟨hx, hb, hml, hown, hts⟩, hK, hA, hN⟩ := C
  induction n with
  | zero => intro x3 s H locs ls hX hl h; cases h
  | succ n ih =>
    intro x3 s H locs ls hX hl h
    rw [f_Store_prepare_55] at h
    refine lv_iload_n hx hb d_Store_prepare_55 rfl (lv_at hl 3 rfl) ?_
    refine lv_iconst (v := 4) hx hb d_Store_prepare_56 (by decide) ?_
    refine lv_icmp_ge (tgt := 147) hx hb d_Store_prepare_57 (by decide) (fun c57 => ?_) (fun c57 => ?_)
    · have h := ite_t c57 h
      exact w_Store_prepare_147 C hQ x3 s H locs ls hX hl h
    · have h := ite_f c57 h
      refine lv_iload_n hx hb d_Store_prepare_60 rfl (lv_at hl 3 rfl) ?_
      refine lv_aload_n hx hb d_Store_prepare_61 rfl (lv_at hl 1 rfl) ?_
      refine gf_1_data C hX fl_Store_55 d_Store_prepare_62 ?_
      obtain ⟨r1, er1, h⟩ := lt1_e h
      refine x_vI (r := r1) (ws' := wX g s) (As := []) (rest := [.int x3]) C hX (by rw [er1]; exact cTabCount_18 l g s) (cw_Store_58 C.1.2.2.2.2 C.2.2.2 ⟨by decide, by decide⟩) (x_rc C hX wg_18 rfl) rfl hl.1 rfl (lv_room (Nat.le_of_ble_eq_true rfl)) d_Store_prepare_65 ⟨Nat.le_refl _, Nat.le_refl _⟩ (fun H locs hX => ?_)
      refine lv_icmp_ge (tgt := 147) hx hb d_Store_prepare_68 (by decide) (fun c68 => ?_) (fun c68 => ?_)
      · have h := ite_t c68 h
        exact w_Store_prepare_147 C hQ x3 s H locs ls hX hl h
      · have h := ite_f c68 h
        refine lv_aload_n hx hb d_Store_prepare_71 rfl (lv_at hl 1 rfl) ?_
        refine gf_1_data C hX fl_Store_55 d_Store_prepare_72 ?_
        refine lv_iload_n hx hb d_Store_prepare_75 rfl (lv_at hl 3 rfl) ?_
        refine lv_iconst (v := 3) hx hb d_Store_prepare_76 (by decide) ?_
        obtain ⟨r2, er2, h⟩ := lt1_e h
        refine x_vI (r := r2) (ws' := wX g s) (As := [.int x3, .int 3]) (rest := []) C hX (by rw [er2]; exact cTabGet_18 l g s x3 3) (cw_Store_45 C.1.2.2.2.2 C.2.2.2 ⟨by decide, by decide⟩) (x_rc C hX wg_18 rfl) rfl hl.1 rfl (lv_room (Nat.le_of_ble_eq_true rfl)) d_Store_prepare_77 ⟨Nat.le_refl _, Nat.le_refl _⟩ (fun H locs hX => ?_)
        refine lv_istore (lv' := [(4, .int r2), (0, .ref (g.q 5)), (1, .ref (g.q 1)), (2, .ref (g.q 2)), (3, .int x3)]) hx hb d_Store_prepare_80 hl (by decide) rfl (fun ls hl => ?_)
        refine lv_iconst (v := 0) hx hb d_Store_prepare_82 (by decide) ?_
        refine lv_istore (lv' := [(5, .int 0), (4, .int r2), (0, .ref (g.q 5)), (1, .ref (g.q 1)), (2, .ref (g.q 2)), (3, .int x3)]) hx hb d_Store_prepare_83 hl (by decide) rfl (fun ls hl => ?_)
        exact w_Store_prepare_85 C hQ (f_Store_prepare_55 n) ih FU x3 r2 0 s H locs ls hX (lv_sub hl [2, 3, 4, 5, 1, 0] rfl) h
set_option maxHeartbeats 4000000 in
set_option maxRecDepth 100000 in
theorem w_Store_prepare_25 {z : St} (C : Cx g A p m c b_Store_prepare 6 ss args R_Store) (hQ : ∀ (pc : Nat) (H : Heap) (locs : List Loc) (ls : Array Slot), XW g A ss (wX g z) H locs → decode b_Store_prepare pc = .ok (.return_, 1) → W p l e (rmX 2 43) ss m args below meth c H locs 0 0 Q (F0 m pc ls [])) (n : Nat) : ∀ (x3 : Int32) (s : St) (H : Heap) (locs : List Loc) (ls : Array Slot), XW g A ss (wX g s) H locs → lv_has ls 6 [(0, .ref (g.q 5)), (1, .ref (g.q 1)), (2, .ref (g.q 2)), (3, .int x3)] → f_Store_prepare_25 n x3 s = some z → W p l e (rmX 2 43) ss m args below meth c H locs 0 0 Q (F0 m 25 ls []) := by
  have ⟨⟨hx, hb, hml, hown, hts⟩, hK, hA, hN⟩ := C
  induction n with
  | zero => intro x3 s H locs ls hX hl h; cases h
  | succ n ih =>
    intro x3 s H locs ls hX hl h
    rw [f_Store_prepare_25] at h
    refine lv_iload_n hx hb d_Store_prepare_25 rfl (lv_at hl 3 rfl) ?_
    refine lv_iconst (v := 4) hx hb d_Store_prepare_26 (by decide) ?_
    refine lv_icmp_ge (tgt := 53) hx hb d_Store_prepare_27 (by decide) (fun c27 => ?_) (fun c27 => ?_)
    · have h := ite_t c27 h
      refine lv_iconst (v := 0) hx hb d_Store_prepare_53 (by decide) ?_
      refine lv_istore_n (lv' := [(3, .int 0), (0, .ref (g.q 5)), (1, .ref (g.q 1)), (2, .ref (g.q 2))]) hx hb d_Store_prepare_54 rfl hl (by decide) rfl (fun ls hl => ?_)
      exact w_Store_prepare_55 C hQ FU 0 s H locs ls hX (lv_sub hl [1, 2, 3, 0] rfl) h
    · have h := ite_f c27 h
      refine lv_aload_n hx hb d_Store_prepare_30 rfl (lv_at hl 0 rfl) ?_
      refine gf_5_globals C hX fl_Store_23 d_Store_prepare_31 ?_
      refine lv_iload_n hx hb d_Store_prepare_34 rfl (lv_at hl 3 rfl) ?_
      refine lv_aload_n hx hb d_Store_prepare_35 rfl (lv_at hl 1 rfl) ?_
      refine gf_1_globals C hX fl_Store_42 d_Store_prepare_36 ?_
      refine lv_iload_n hx hb d_Store_prepare_39 rfl (lv_at hl 3 rfl) ?_
      refine lv_iconst (v := 1) hx hb d_Store_prepare_40 (by decide) ?_
      obtain ⟨r1, er1, h⟩ := lt1_e h
      refine x_vI (r := r1) (ws' := wX g s) (As := [.int x3, .int 1]) (rest := [.int x3, .ref (g.q 37)]) C hX (by rw [er1]; exact cTabGet_14 l g s x3 1) (cw_Store_45 C.1.2.2.2.2 C.2.2.2 ⟨by decide, by decide⟩) (x_rc C hX wg_14 rfl) rfl hl.1 rfl (lv_room (Nat.le_of_ble_eq_true rfl)) d_Store_prepare_41 ⟨Nat.le_refl _, Nat.le_refl _⟩ (fun H locs hX => ?_)
      obtain ⟨s2, es2, h⟩ := lt1_e h
      refine x_vV (ws' := wX g s2) (As := [.int x3, .int r1]) (rest := []) C hX (by rw [es2]; exact cRowSet_37 l g s x3 r1) (cw_Store_51 C.1.2.2.2.2 C.2.2.2 ⟨by decide, by decide⟩) (x_rc C hX wg_37 rfl) rfl hl.1 rfl (lv_room (Nat.le_of_ble_eq_true rfl)) d_Store_prepare_44 ⟨Nat.le_refl _, Nat.le_refl _⟩ (fun H locs hX => ?_)
      obtain ⟨v3, ev3, h⟩ := lt1_e h
      refine lv_iinc (v := v3) (lv' := [(3, .int v3), (0, .ref (g.q 5)), (1, .ref (g.q 1)), (2, .ref (g.q 2))]) hx hb d_Store_prepare_47 hl (k := 3) rfl (by rw [ev3]; rfl) (by decide) rfl (fun ls hl => ?_)
      refine lv_goto (tgt := 25) hx hb d_Store_prepare_50 (by decide) ?_
      exact ih v3 s2 H locs ls hX (lv_sub hl [1, 2, 3, 0] rfl) h
set_option maxHeartbeats 4000000 in
set_option maxRecDepth 100000 in
theorem w_Store_prepare {z : St} (C : Cx g A p m c b_Store_prepare 6 ss args R_Store) (hQ : ∀ (pc : Nat) (H : Heap) (locs : List Loc) (ls : Array Slot), XW g A ss (wX g z) H locs → decode b_Store_prepare pc = .ok (.return_, 1) → W p l e (rmX 2 43) ss m args below meth c H locs 0 0 Q (F0 m pc ls [])) : ∀ (s : St) (H : Heap) (locs : List Loc) (ls : Array Slot), XW g A ss (wX g s) H locs → lv_has ls 6 [(0, .ref (g.q 5)), (1, .ref (g.q 1)), (2, .ref (g.q 2))] → f_Store_prepare s = some z → W p l e (rmX 2 43) ss m args below meth c H locs 0 0 Q (F0 m 0 ls []) := by
  have ⟨⟨hx, hb, hml, hown, hts⟩, hK, hA, hN⟩ := C
  intro s H locs ls hX hl h
  rw [f_Store_prepare] at h
  refine lv_aload_n hx hb d_Store_prepare_0 rfl (lv_at hl 0 rfl) ?_
  refine gf_5_memory C hX fl_Store_14 d_Store_prepare_1 ?_
  obtain ⟨s1, es1, h⟩ := lt1_e h
  refine x_vV (ws' := wX g s1) (As := []) (rest := []) C hX (by rw [es1]; exact cRowClr_33 l g s) (cw_Store_26 C.1.2.2.2.2 C.2.2.2 ⟨by decide, by decide⟩) (x_rc C hX wg_33 rfl) rfl hl.1 rfl (lv_room (Nat.le_of_ble_eq_true rfl)) d_Store_prepare_4 ⟨Nat.le_refl _, Nat.le_refl _⟩ (fun H locs hX => ?_)
  refine lv_aload_n hx hb d_Store_prepare_7 rfl (lv_at hl 0 rfl) ?_
  refine lv_aload_n hx hb d_Store_prepare_8 rfl (lv_at hl 1 rfl) ?_
  refine gf_1_firstPages C hX fl_Store_29 d_Store_prepare_9 ?_
  obtain ⟨s2, es2, h⟩ := lt1_e h
  refine pf_5_pages C hX fl_Store_35 d_Store_prepare_12 (fun H locs hX => ?_)
  rw [← es2] at hX
  refine lv_aload_n hx hb d_Store_prepare_15 rfl (lv_at hl 0 rfl) ?_
  refine lv_aload_n hx hb d_Store_prepare_16 rfl (lv_at hl 1 rfl) ?_
  refine gf_1_mostPages C hX fl_Store_38 d_Store_prepare_17 ?_
  obtain ⟨s3, es3, h⟩ := lt1_e h
  refine pf_5_mostPages C hX fl_Store_41 d_Store_prepare_20 (fun H locs hX => ?_)
  rw [← es3] at hX
  refine lv_iconst (v := 0) hx hb d_Store_prepare_23 (by decide) ?_
  refine lv_istore_n (lv' := [(3, .int 0), (0, .ref (g.q 5)), (1, .ref (g.q 1)), (2, .ref (g.q 2))]) hx hb d_Store_prepare_24 rfl hl (by decide) rfl (fun ls hl => ?_)
  exact w_Store_prepare_25 C hQ FU 0 s3 H locs ls hX (lv_sub hl [1, 2, 3, 0] rfl) h
end WALK
theorem c_Store_prepare (l : Launch) (g : GX) (s : St) (z : St) (h : f_Store_prepare s = some z) : MV l g y_Store_prepare b_Store_prepare 6 none 2 43 [.ref (g.q 5), .ref (g.q 1), .ref (g.q 2)] (wX g s) (wX g z) :=
  MV.mk (own := R_Store) (by decide) rfl (Nat.le_of_ble_eq_true rfl) fun p e ss m below meth c A Q C hQ ls hX hl => w_Store_prepare C hQ s _ _ ls hX hl h
-- Integer_bitCount
def f_Integer_bitCount (x0 : Int32) : Option Int32 :=
    lt1 (ush x0 1) fun v1 =>
    lt1 (v1 &&& 1431655765) fun v2 =>
    lt1 (x0 - v2) fun v3 =>
    lt1 (v3 &&& 858993459) fun v4 =>
    lt1 (ush v3 2) fun v5 =>
    lt1 (v5 &&& 858993459) fun v6 =>
    lt1 (v4 + v6) fun v7 =>
    lt1 (ush v7 4) fun v8 =>
    lt1 (v7 + v8) fun v9 =>
    lt1 (v9 &&& 252645135) fun v10 =>
    lt1 (ush v10 8) fun v11 =>
    lt1 (v10 + v11) fun v12 =>
    lt1 (ush v12 16) fun v13 =>
    lt1 (v12 + v13) fun v14 =>
    lt1 (v14 &&& 63) fun v15 =>
    some (v15)
section WALK
variable {p : Program} {l : Launch} {e : Env} {ss : State} {m : MethodId} {args : Array Value} {below : List Frame} {meth : Method} {c : Code} {Q : State → Prop} {g : GX} {A : Nat → Prop}
set_option maxHeartbeats 4000000 in
set_option maxRecDepth 100000 in
theorem w_Integer_bitCount {ws : va_W} {z : Int32} (C : Cx g A p m c b_Integer_bitCount 1 ss args R_Integer) (hQ : ∀ (pc : Nat) (H : Heap) (locs : List Loc) (ls : Array Slot), XW g A ss ws H locs → decode b_Integer_bitCount pc = .ok (.ireturn, 1) → W p l e (rmX 0 0) ss m args below meth c H locs 0 0 Q (F0 m pc ls [.int z])) : ∀ (x0 : Int32) (H : Heap) (locs : List Loc) (ls : Array Slot), XW g A ss ws H locs → lv_has ls 1 [(0, .int x0)] → f_Integer_bitCount x0 = some z → W p l e (rmX 0 0) ss m args below meth c H locs 0 0 Q (F0 m 0 ls []) := by
  have ⟨⟨hx, hb, hml, hown, hts⟩, hK, hA, hN⟩ := C
  intro x0 H locs ls hX hl h
  rw [f_Integer_bitCount] at h
  refine lv_iload_n hx hb d_Integer_bitCount_0 rfl (lv_at hl 0 rfl) ?_
  refine lv_iload_n hx hb d_Integer_bitCount_1 rfl (lv_at hl 0 rfl) ?_
  refine lv_iconst (v := 1) hx hb d_Integer_bitCount_2 (by decide) ?_
  obtain ⟨v1, ev1, h⟩ := lt1_e h
  refine lv_iushr hx hb d_Integer_bitCount_3 ev1.symm ?_
  refine lv_ldcw (v := 1431655765) hx hb hown (hts _ m_constant_Integer_265) d_Integer_bitCount_4 ?_
  obtain ⟨v2, ev2, h⟩ := lt1_e h
  refine x_iand hx hb d_Integer_bitCount_7 ev2 ?_
  obtain ⟨v3, ev3, h⟩ := lt1_e h
  refine x_isub hx hb d_Integer_bitCount_8 ev3 ?_
  refine lv_istore_n (lv' := [(0, .int v3)]) hx hb d_Integer_bitCount_9 rfl hl (by decide) rfl (fun ls hl => ?_)
  refine lv_iload_n hx hb d_Integer_bitCount_10 rfl (lv_at hl 0 rfl) ?_
  refine lv_ldcw (v := 858993459) hx hb hown (hts _ m_constant_Integer_266) d_Integer_bitCount_11 ?_
  obtain ⟨v4, ev4, h⟩ := lt1_e h
  refine x_iand hx hb d_Integer_bitCount_14 ev4 ?_
  refine lv_iload_n hx hb d_Integer_bitCount_15 rfl (lv_at hl 0 rfl) ?_
  refine lv_iconst (v := 2) hx hb d_Integer_bitCount_16 (by decide) ?_
  obtain ⟨v5, ev5, h⟩ := lt1_e h
  refine lv_iushr hx hb d_Integer_bitCount_17 ev5.symm ?_
  refine lv_ldcw (v := 858993459) hx hb hown (hts _ m_constant_Integer_266) d_Integer_bitCount_18 ?_
  obtain ⟨v6, ev6, h⟩ := lt1_e h
  refine x_iand hx hb d_Integer_bitCount_21 ev6 ?_
  obtain ⟨v7, ev7, h⟩ := lt1_e h
  refine x_iadd hx hb d_Integer_bitCount_22 ev7 ?_
  refine lv_istore_n (lv' := [(0, .int v7)]) hx hb d_Integer_bitCount_23 rfl hl (by decide) rfl (fun ls hl => ?_)
  refine lv_iload_n hx hb d_Integer_bitCount_24 rfl (lv_at hl 0 rfl) ?_
  refine lv_iload_n hx hb d_Integer_bitCount_25 rfl (lv_at hl 0 rfl) ?_
  refine lv_iconst (v := 4) hx hb d_Integer_bitCount_26 (by decide) ?_
  obtain ⟨v8, ev8, h⟩ := lt1_e h
  refine lv_iushr hx hb d_Integer_bitCount_27 ev8.symm ?_
  obtain ⟨v9, ev9, h⟩ := lt1_e h
  refine x_iadd hx hb d_Integer_bitCount_28 ev9 ?_
  refine lv_ldcw (v := 252645135) hx hb hown (hts _ m_constant_Integer_267) d_Integer_bitCount_29 ?_
  obtain ⟨v10, ev10, h⟩ := lt1_e h
  refine x_iand hx hb d_Integer_bitCount_32 ev10 ?_
  refine lv_istore_n (lv' := [(0, .int v10)]) hx hb d_Integer_bitCount_33 rfl hl (by decide) rfl (fun ls hl => ?_)
  refine lv_iload_n hx hb d_Integer_bitCount_34 rfl (lv_at hl 0 rfl) ?_
  refine lv_iload_n hx hb d_Integer_bitCount_35 rfl (lv_at hl 0 rfl) ?_
  refine lv_bipush (v := 8) hx hb d_Integer_bitCount_36 (by decide) ?_
  obtain ⟨v11, ev11, h⟩ := lt1_e h
  refine lv_iushr hx hb d_Integer_bitCount_38 ev11.symm ?_
  obtain ⟨v12, ev12, h⟩ := lt1_e h
  refine x_iadd hx hb d_Integer_bitCount_39 ev12 ?_
  refine lv_istore_n (lv' := [(0, .int v12)]) hx hb d_Integer_bitCount_40 rfl hl (by decide) rfl (fun ls hl => ?_)
  refine lv_iload_n hx hb d_Integer_bitCount_41 rfl (lv_at hl 0 rfl) ?_
  refine lv_iload_n hx hb d_Integer_bitCount_42 rfl (lv_at hl 0 rfl) ?_
  refine lv_bipush (v := 16) hx hb d_Integer_bitCount_43 (by decide) ?_
  obtain ⟨v13, ev13, h⟩ := lt1_e h
  refine lv_iushr hx hb d_Integer_bitCount_45 ev13.symm ?_
  obtain ⟨v14, ev14, h⟩ := lt1_e h
  refine x_iadd hx hb d_Integer_bitCount_46 ev14 ?_
  refine lv_istore_n (lv' := [(0, .int v14)]) hx hb d_Integer_bitCount_47 rfl hl (by decide) rfl (fun ls hl => ?_)
  refine lv_iload_n hx hb d_Integer_bitCount_48 rfl (lv_at hl 0 rfl) ?_
  refine lv_bipush (v := 63) hx hb d_Integer_bitCount_49 (by decide) ?_
  obtain ⟨v15, ev15, h⟩ := lt1_e h
  refine x_iand hx hb d_Integer_bitCount_51 ev15 ?_
  obtain rfl := so1 h
  exact hQ _ H locs ls hX d_Integer_bitCount_52
end WALK
theorem c_Integer_bitCount (l : Launch) (g : GX) (x0 : Int32) (z : Int32) (h : f_Integer_bitCount x0 = some z) (ws : va_W) : MI l g y_Integer_bitCount b_Integer_bitCount 1 (some .int) 0 0 [.int x0] ws z ws :=
  MI.mk (own := R_Integer) (by decide) rfl (Nat.le_of_ble_eq_true rfl) fun p e ss m below meth c A Q C hQ ls hX hl => w_Integer_bitCount C hQ x0 _ _ ls hX hl h
-- Integer_numberOfTrailingZeros
def f_Integer_numberOfTrailingZeros_74 (x0 : Int32) (x1 : Int32) : Option Int32 :=
    lt1 (ush x0 1) fun v1 =>
    lt1 (x1 + v1) fun v2 =>
    some (v2)
def f_Integer_numberOfTrailingZeros_62 (x0 : Int32) (x1 : Int32) : Option Int32 :=
    if x0 ≤ 4 then
      f_Integer_numberOfTrailingZeros_74 x0 x1
    else
      lt1 (x1 + (2)) fun v1 =>
      lt1 (ush x0 2) fun v2 =>
      f_Integer_numberOfTrailingZeros_74 v2 v1
def f_Integer_numberOfTrailingZeros_49 (x0 : Int32) (x1 : Int32) : Option Int32 :=
    if x0 ≤ 16 then
      f_Integer_numberOfTrailingZeros_62 x0 x1
    else
      lt1 (x1 + (4)) fun v1 =>
      lt1 (ush x0 4) fun v2 =>
      f_Integer_numberOfTrailingZeros_62 v2 v1
def f_Integer_numberOfTrailingZeros_34 (x0 : Int32) (x1 : Int32) : Option Int32 :=
    if x0 ≤ 256 then
      f_Integer_numberOfTrailingZeros_49 x0 x1
    else
      lt1 (x1 + (8)) fun v1 =>
      lt1 (ush x0 8) fun v2 =>
      f_Integer_numberOfTrailingZeros_49 v2 v1
def f_Integer_numberOfTrailingZeros (x0 : Int32) : Option Int32 :=
    lt1 (x0 ^^^ (-1)) fun v1 =>
    lt1 (x0 - 1) fun v2 =>
    lt1 (v1 &&& v2) fun v3 =>
    if 0 < v3 then
      if v3 ≤ 65536 then
        f_Integer_numberOfTrailingZeros_34 v3 1
      else
        lt1 (1 + (16)) fun v4 =>
        lt1 (ush v3 16) fun v5 =>
        f_Integer_numberOfTrailingZeros_34 v5 v4
    else
      lt1 (v3 &&& 32) fun v6 =>
      some (v6)
section WALK
variable {p : Program} {l : Launch} {e : Env} {ss : State} {m : MethodId} {args : Array Value} {below : List Frame} {meth : Method} {c : Code} {Q : State → Prop} {g : GX} {A : Nat → Prop}
set_option maxHeartbeats 4000000 in
set_option maxRecDepth 100000 in
theorem w_Integer_numberOfTrailingZeros_74 {ws : va_W} {z : Int32} (C : Cx g A p m c b_Integer_numberOfTrailingZeros 2 ss args R_Integer) (hQ : ∀ (pc : Nat) (H : Heap) (locs : List Loc) (ls : Array Slot), XW g A ss ws H locs → decode b_Integer_numberOfTrailingZeros pc = .ok (.ireturn, 1) → W p l e (rmX 0 0) ss m args below meth c H locs 0 0 Q (F0 m pc ls [.int z])) : ∀ (x0 : Int32) (x1 : Int32) (H : Heap) (locs : List Loc) (ls : Array Slot), XW g A ss ws H locs → lv_has ls 2 [(0, .int x0), (1, .int x1)] → f_Integer_numberOfTrailingZeros_74 x0 x1 = some z → W p l e (rmX 0 0) ss m args below meth c H locs 0 0 Q (F0 m 74 ls []) := by
  have ⟨⟨hx, hb, hml, hown, hts⟩, hK, hA, hN⟩ := C
  intro x0 x1 H locs ls hX hl h
  rw [f_Integer_numberOfTrailingZeros_74] at h
  refine lv_iload_n hx hb d_Integer_numberOfTrailingZeros_74 rfl (lv_at hl 1 rfl) ?_
  refine lv_iload_n hx hb d_Integer_numberOfTrailingZeros_75 rfl (lv_at hl 0 rfl) ?_
  refine lv_iconst (v := 1) hx hb d_Integer_numberOfTrailingZeros_76 (by decide) ?_
  obtain ⟨v1, ev1, h⟩ := lt1_e h
  refine lv_iushr hx hb d_Integer_numberOfTrailingZeros_77 ev1.symm ?_
  obtain ⟨v2, ev2, h⟩ := lt1_e h
  refine x_iadd hx hb d_Integer_numberOfTrailingZeros_78 ev2 ?_
  obtain rfl := so1 h
  exact hQ _ H locs ls hX d_Integer_numberOfTrailingZeros_79
set_option maxHeartbeats 4000000 in
set_option maxRecDepth 100000 in
theorem w_Integer_numberOfTrailingZeros_62 {ws : va_W} {z : Int32} (C : Cx g A p m c b_Integer_numberOfTrailingZeros 2 ss args R_Integer) (hQ : ∀ (pc : Nat) (H : Heap) (locs : List Loc) (ls : Array Slot), XW g A ss ws H locs → decode b_Integer_numberOfTrailingZeros pc = .ok (.ireturn, 1) → W p l e (rmX 0 0) ss m args below meth c H locs 0 0 Q (F0 m pc ls [.int z])) : ∀ (x0 : Int32) (x1 : Int32) (H : Heap) (locs : List Loc) (ls : Array Slot), XW g A ss ws H locs → lv_has ls 2 [(0, .int x0), (1, .int x1)] → f_Integer_numberOfTrailingZeros_62 x0 x1 = some z → W p l e (rmX 0 0) ss m args below meth c H locs 0 0 Q (F0 m 62 ls []) := by
  have ⟨⟨hx, hb, hml, hown, hts⟩, hK, hA, hN⟩ := C
  intro x0 x1 H locs ls hX hl h
  rw [f_Integer_numberOfTrailingZeros_62] at h
  refine lv_iload_n hx hb d_Integer_numberOfTrailingZeros_62 rfl (lv_at hl 0 rfl) ?_
  refine lv_iconst (v := 4) hx hb d_Integer_numberOfTrailingZeros_63 (by decide) ?_
  refine lv_icmp_le (tgt := 74) hx hb d_Integer_numberOfTrailingZeros_64 (by decide) (fun c64 => ?_) (fun c64 => ?_)
  · have h := ite_t c64 h
    exact w_Integer_numberOfTrailingZeros_74 C hQ x0 x1 H locs ls hX hl h
  · have h := ite_f c64 h
    obtain ⟨v1, ev1, h⟩ := lt1_e h
    refine lv_iinc (v := v1) (lv' := [(1, .int v1), (0, .int x0)]) hx hb d_Integer_numberOfTrailingZeros_67 hl (k := 1) rfl (by rw [ev1]; rfl) (by decide) rfl (fun ls hl => ?_)
    refine lv_iload_n hx hb d_Integer_numberOfTrailingZeros_70 rfl (lv_at hl 1 rfl) ?_
    refine lv_iconst (v := 2) hx hb d_Integer_numberOfTrailingZeros_71 (by decide) ?_
    obtain ⟨v2, ev2, h⟩ := lt1_e h
    refine lv_iushr hx hb d_Integer_numberOfTrailingZeros_72 ev2.symm ?_
    refine lv_istore_n (lv' := [(0, .int v2), (1, .int v1)]) hx hb d_Integer_numberOfTrailingZeros_73 rfl hl (by decide) rfl (fun ls hl => ?_)
    exact w_Integer_numberOfTrailingZeros_74 C hQ v2 v1 H locs ls hX hl h
set_option maxHeartbeats 4000000 in
set_option maxRecDepth 100000 in
theorem w_Integer_numberOfTrailingZeros_49 {ws : va_W} {z : Int32} (C : Cx g A p m c b_Integer_numberOfTrailingZeros 2 ss args R_Integer) (hQ : ∀ (pc : Nat) (H : Heap) (locs : List Loc) (ls : Array Slot), XW g A ss ws H locs → decode b_Integer_numberOfTrailingZeros pc = .ok (.ireturn, 1) → W p l e (rmX 0 0) ss m args below meth c H locs 0 0 Q (F0 m pc ls [.int z])) : ∀ (x0 : Int32) (x1 : Int32) (H : Heap) (locs : List Loc) (ls : Array Slot), XW g A ss ws H locs → lv_has ls 2 [(0, .int x0), (1, .int x1)] → f_Integer_numberOfTrailingZeros_49 x0 x1 = some z → W p l e (rmX 0 0) ss m args below meth c H locs 0 0 Q (F0 m 49 ls []) := by
  have ⟨⟨hx, hb, hml, hown, hts⟩, hK, hA, hN⟩ := C
  intro x0 x1 H locs ls hX hl h
  rw [f_Integer_numberOfTrailingZeros_49] at h
  refine lv_iload_n hx hb d_Integer_numberOfTrailingZeros_49 rfl (lv_at hl 0 rfl) ?_
  refine lv_bipush (v := 16) hx hb d_Integer_numberOfTrailingZeros_50 (by decide) ?_
  refine lv_icmp_le (tgt := 62) hx hb d_Integer_numberOfTrailingZeros_52 (by decide) (fun c52 => ?_) (fun c52 => ?_)
  · have h := ite_t c52 h
    exact w_Integer_numberOfTrailingZeros_62 C hQ x0 x1 H locs ls hX hl h
  · have h := ite_f c52 h
    obtain ⟨v1, ev1, h⟩ := lt1_e h
    refine lv_iinc (v := v1) (lv' := [(1, .int v1), (0, .int x0)]) hx hb d_Integer_numberOfTrailingZeros_55 hl (k := 1) rfl (by rw [ev1]; rfl) (by decide) rfl (fun ls hl => ?_)
    refine lv_iload_n hx hb d_Integer_numberOfTrailingZeros_58 rfl (lv_at hl 1 rfl) ?_
    refine lv_iconst (v := 4) hx hb d_Integer_numberOfTrailingZeros_59 (by decide) ?_
    obtain ⟨v2, ev2, h⟩ := lt1_e h
    refine lv_iushr hx hb d_Integer_numberOfTrailingZeros_60 ev2.symm ?_
    refine lv_istore_n (lv' := [(0, .int v2), (1, .int v1)]) hx hb d_Integer_numberOfTrailingZeros_61 rfl hl (by decide) rfl (fun ls hl => ?_)
    exact w_Integer_numberOfTrailingZeros_62 C hQ v2 v1 H locs ls hX hl h
set_option maxHeartbeats 4000000 in
set_option maxRecDepth 100000 in
theorem w_Integer_numberOfTrailingZeros_34 {ws : va_W} {z : Int32} (C : Cx g A p m c b_Integer_numberOfTrailingZeros 2 ss args R_Integer) (hQ : ∀ (pc : Nat) (H : Heap) (locs : List Loc) (ls : Array Slot), XW g A ss ws H locs → decode b_Integer_numberOfTrailingZeros pc = .ok (.ireturn, 1) → W p l e (rmX 0 0) ss m args below meth c H locs 0 0 Q (F0 m pc ls [.int z])) : ∀ (x0 : Int32) (x1 : Int32) (H : Heap) (locs : List Loc) (ls : Array Slot), XW g A ss ws H locs → lv_has ls 2 [(0, .int x0), (1, .int x1)] → f_Integer_numberOfTrailingZeros_34 x0 x1 = some z → W p l e (rmX 0 0) ss m args below meth c H locs 0 0 Q (F0 m 34 ls []) := by
  have ⟨⟨hx, hb, hml, hown, hts⟩, hK, hA, hN⟩ := C
  intro x0 x1 H locs ls hX hl h
  rw [f_Integer_numberOfTrailingZeros_34] at h
  refine lv_iload_n hx hb d_Integer_numberOfTrailingZeros_34 rfl (lv_at hl 0 rfl) ?_
  refine lv_sipush (v := 256) hx hb d_Integer_numberOfTrailingZeros_35 (by decide) ?_
  refine lv_icmp_le (tgt := 49) hx hb d_Integer_numberOfTrailingZeros_38 (by decide) (fun c38 => ?_) (fun c38 => ?_)
  · have h := ite_t c38 h
    exact w_Integer_numberOfTrailingZeros_49 C hQ x0 x1 H locs ls hX hl h
  · have h := ite_f c38 h
    obtain ⟨v1, ev1, h⟩ := lt1_e h
    refine lv_iinc (v := v1) (lv' := [(1, .int v1), (0, .int x0)]) hx hb d_Integer_numberOfTrailingZeros_41 hl (k := 1) rfl (by rw [ev1]; rfl) (by decide) rfl (fun ls hl => ?_)
    refine lv_iload_n hx hb d_Integer_numberOfTrailingZeros_44 rfl (lv_at hl 1 rfl) ?_
    refine lv_bipush (v := 8) hx hb d_Integer_numberOfTrailingZeros_45 (by decide) ?_
    obtain ⟨v2, ev2, h⟩ := lt1_e h
    refine lv_iushr hx hb d_Integer_numberOfTrailingZeros_47 ev2.symm ?_
    refine lv_istore_n (lv' := [(0, .int v2), (1, .int v1)]) hx hb d_Integer_numberOfTrailingZeros_48 rfl hl (by decide) rfl (fun ls hl => ?_)
    exact w_Integer_numberOfTrailingZeros_49 C hQ v2 v1 H locs ls hX hl h
set_option maxHeartbeats 4000000 in
set_option maxRecDepth 100000 in
theorem w_Integer_numberOfTrailingZeros {ws : va_W} {z : Int32} (C : Cx g A p m c b_Integer_numberOfTrailingZeros 2 ss args R_Integer) (hQ : ∀ (pc : Nat) (H : Heap) (locs : List Loc) (ls : Array Slot), XW g A ss ws H locs → decode b_Integer_numberOfTrailingZeros pc = .ok (.ireturn, 1) → W p l e (rmX 0 0) ss m args below meth c H locs 0 0 Q (F0 m pc ls [.int z])) : ∀ (x0 : Int32) (H : Heap) (locs : List Loc) (ls : Array Slot), XW g A ss ws H locs → lv_has ls 2 [(0, .int x0)] → f_Integer_numberOfTrailingZeros x0 = some z → W p l e (rmX 0 0) ss m args below meth c H locs 0 0 Q (F0 m 0 ls []) := by
  have ⟨⟨hx, hb, hml, hown, hts⟩, hK, hA, hN⟩ := C
  intro x0 H locs ls hX hl h
  rw [f_Integer_numberOfTrailingZeros] at h
  refine lv_iload_n hx hb d_Integer_numberOfTrailingZeros_0 rfl (lv_at hl 0 rfl) ?_
  refine lv_iconst (v := (-1)) hx hb d_Integer_numberOfTrailingZeros_1 (by decide) ?_
  obtain ⟨v1, ev1, h⟩ := lt1_e h
  refine x_ixor hx hb d_Integer_numberOfTrailingZeros_2 ev1 ?_
  refine lv_iload_n hx hb d_Integer_numberOfTrailingZeros_3 rfl (lv_at hl 0 rfl) ?_
  refine lv_iconst (v := 1) hx hb d_Integer_numberOfTrailingZeros_4 (by decide) ?_
  obtain ⟨v2, ev2, h⟩ := lt1_e h
  refine x_isub hx hb d_Integer_numberOfTrailingZeros_5 ev2 ?_
  obtain ⟨v3, ev3, h⟩ := lt1_e h
  refine x_iand hx hb d_Integer_numberOfTrailingZeros_6 ev3 ?_
  refine lv_istore_n (lv' := [(0, .int v3)]) hx hb d_Integer_numberOfTrailingZeros_7 rfl hl (by decide) rfl (fun ls hl => ?_)
  refine lv_iload_n hx hb d_Integer_numberOfTrailingZeros_8 rfl (lv_at hl 0 rfl) ?_
  refine lv_if_gt (tgt := 17) hx hb d_Integer_numberOfTrailingZeros_9 (by decide) (fun c9 => ?_) (fun c9 => ?_)
  · have h := ite_t c9 h
    refine lv_iconst (v := 1) hx hb d_Integer_numberOfTrailingZeros_17 (by decide) ?_
    refine lv_istore_n (lv' := [(1, .int 1), (0, .int v3)]) hx hb d_Integer_numberOfTrailingZeros_18 rfl hl (by decide) rfl (fun ls hl => ?_)
    refine lv_iload_n hx hb d_Integer_numberOfTrailingZeros_19 rfl (lv_at hl 1 rfl) ?_
    refine lv_ldcw (v := 65536) hx hb hown (hts _ m_constant_Integer_264) d_Integer_numberOfTrailingZeros_20 ?_
    refine lv_icmp_le (tgt := 34) hx hb d_Integer_numberOfTrailingZeros_23 (by decide) (fun c23 => ?_) (fun c23 => ?_)
    · have h := ite_t c23 h
      exact w_Integer_numberOfTrailingZeros_34 C hQ v3 1 H locs ls hX (lv_sub hl [1, 0] rfl) h
    · have h := ite_f c23 h
      obtain ⟨v4, ev4, h⟩ := lt1_e h
      refine lv_iinc (v := v4) (lv' := [(1, .int v4), (0, .int v3)]) hx hb d_Integer_numberOfTrailingZeros_26 hl (k := 0) rfl (by rw [ev4]; rfl) (by decide) rfl (fun ls hl => ?_)
      refine lv_iload_n hx hb d_Integer_numberOfTrailingZeros_29 rfl (lv_at hl 1 rfl) ?_
      refine lv_bipush (v := 16) hx hb d_Integer_numberOfTrailingZeros_30 (by decide) ?_
      obtain ⟨v5, ev5, h⟩ := lt1_e h
      refine lv_iushr hx hb d_Integer_numberOfTrailingZeros_32 ev5.symm ?_
      refine lv_istore_n (lv' := [(0, .int v5), (1, .int v4)]) hx hb d_Integer_numberOfTrailingZeros_33 rfl hl (by decide) rfl (fun ls hl => ?_)
      exact w_Integer_numberOfTrailingZeros_34 C hQ v5 v4 H locs ls hX hl h
  · have h := ite_f c9 h
    refine lv_iload_n hx hb d_Integer_numberOfTrailingZeros_12 rfl (lv_at hl 0 rfl) ?_
    refine lv_bipush (v := 32) hx hb d_Integer_numberOfTrailingZeros_13 (by decide) ?_
    obtain ⟨v6, ev6, h⟩ := lt1_e h
    refine x_iand hx hb d_Integer_numberOfTrailingZeros_15 ev6 ?_
    obtain rfl := so1 h
    exact hQ _ H locs ls hX d_Integer_numberOfTrailingZeros_16
end WALK
theorem c_Integer_numberOfTrailingZeros (l : Launch) (g : GX) (x0 : Int32) (z : Int32) (h : f_Integer_numberOfTrailingZeros x0 = some z) (ws : va_W) : MI l g y_Integer_numberOfTrailingZeros b_Integer_numberOfTrailingZeros 2 (some .int) 0 0 [.int x0] ws z ws :=
  MI.mk (own := R_Integer) (by decide) rfl (Nat.le_of_ble_eq_true rfl) fun p e ss m below meth c A Q C hQ ls hX hl => w_Integer_numberOfTrailingZeros C hQ x0 _ _ ls hX hl h
-- Integer_numberOfLeadingZeros
def f_Integer_numberOfLeadingZeros_73 (x0 : Int32) (x1 : Int32) : Option Int32 :=
    lt1 (ush x0 1) fun v1 =>
    lt1 (x1 - v1) fun v2 =>
    some (v2)
def f_Integer_numberOfLeadingZeros_61 (x0 : Int32) (x1 : Int32) : Option Int32 :=
    if x0 < 4 then
      f_Integer_numberOfLeadingZeros_73 x0 x1
    else
      lt1 (x1 + (-2)) fun v1 =>
      lt1 (ush x0 2) fun v2 =>
      f_Integer_numberOfLeadingZeros_73 v2 v1
def f_Integer_numberOfLeadingZeros_48 (x0 : Int32) (x1 : Int32) : Option Int32 :=
    if x0 < 16 then
      f_Integer_numberOfLeadingZeros_61 x0 x1
    else
      lt1 (x1 + (-4)) fun v1 =>
      lt1 (ush x0 4) fun v2 =>
      f_Integer_numberOfLeadingZeros_61 v2 v1
def f_Integer_numberOfLeadingZeros_33 (x0 : Int32) (x1 : Int32) : Option Int32 :=
    if x0 < 256 then
      f_Integer_numberOfLeadingZeros_48 x0 x1
    else
      lt1 (x1 + (-8)) fun v1 =>
      lt1 (ush x0 8) fun v2 =>
      f_Integer_numberOfLeadingZeros_48 v2 v1
def f_Integer_numberOfLeadingZeros_14 (x0 : Int32) (y0 : Int32) : Option Int32 :=
    some (y0)
def f_Integer_numberOfLeadingZeros (x0 : Int32) : Option Int32 :=
    if 0 < x0 then
      if x0 < 65536 then
        f_Integer_numberOfLeadingZeros_33 x0 31
      else
        lt1 (31 + (-16)) fun v1 =>
        lt1 (ush x0 16) fun v2 =>
        f_Integer_numberOfLeadingZeros_33 v2 v1
    else
      if x0 = 0 then
        f_Integer_numberOfLeadingZeros_14 x0 32
      else
        f_Integer_numberOfLeadingZeros_14 x0 0
section WALK
variable {p : Program} {l : Launch} {e : Env} {ss : State} {m : MethodId} {args : Array Value} {below : List Frame} {meth : Method} {c : Code} {Q : State → Prop} {g : GX} {A : Nat → Prop}
set_option maxHeartbeats 4000000 in
set_option maxRecDepth 100000 in
theorem w_Integer_numberOfLeadingZeros_73 {ws : va_W} {z : Int32} (C : Cx g A p m c b_Integer_numberOfLeadingZeros 2 ss args R_Integer) (hQ : ∀ (pc : Nat) (H : Heap) (locs : List Loc) (ls : Array Slot), XW g A ss ws H locs → decode b_Integer_numberOfLeadingZeros pc = .ok (.ireturn, 1) → W p l e (rmX 0 0) ss m args below meth c H locs 0 0 Q (F0 m pc ls [.int z])) : ∀ (x0 : Int32) (x1 : Int32) (H : Heap) (locs : List Loc) (ls : Array Slot), XW g A ss ws H locs → lv_has ls 2 [(0, .int x0), (1, .int x1)] → f_Integer_numberOfLeadingZeros_73 x0 x1 = some z → W p l e (rmX 0 0) ss m args below meth c H locs 0 0 Q (F0 m 73 ls []) := by
  have ⟨⟨hx, hb, hml, hown, hts⟩, hK, hA, hN⟩ := C
  intro x0 x1 H locs ls hX hl h
  rw [f_Integer_numberOfLeadingZeros_73] at h
  refine lv_iload_n hx hb d_Integer_numberOfLeadingZeros_73 rfl (lv_at hl 1 rfl) ?_
  refine lv_iload_n hx hb d_Integer_numberOfLeadingZeros_74 rfl (lv_at hl 0 rfl) ?_
  refine lv_iconst (v := 1) hx hb d_Integer_numberOfLeadingZeros_75 (by decide) ?_
  obtain ⟨v1, ev1, h⟩ := lt1_e h
  refine lv_iushr hx hb d_Integer_numberOfLeadingZeros_76 ev1.symm ?_
  obtain ⟨v2, ev2, h⟩ := lt1_e h
  refine x_isub hx hb d_Integer_numberOfLeadingZeros_77 ev2 ?_
  obtain rfl := so1 h
  exact hQ _ H locs ls hX d_Integer_numberOfLeadingZeros_78
set_option maxHeartbeats 4000000 in
set_option maxRecDepth 100000 in
theorem w_Integer_numberOfLeadingZeros_61 {ws : va_W} {z : Int32} (C : Cx g A p m c b_Integer_numberOfLeadingZeros 2 ss args R_Integer) (hQ : ∀ (pc : Nat) (H : Heap) (locs : List Loc) (ls : Array Slot), XW g A ss ws H locs → decode b_Integer_numberOfLeadingZeros pc = .ok (.ireturn, 1) → W p l e (rmX 0 0) ss m args below meth c H locs 0 0 Q (F0 m pc ls [.int z])) : ∀ (x0 : Int32) (x1 : Int32) (H : Heap) (locs : List Loc) (ls : Array Slot), XW g A ss ws H locs → lv_has ls 2 [(0, .int x0), (1, .int x1)] → f_Integer_numberOfLeadingZeros_61 x0 x1 = some z → W p l e (rmX 0 0) ss m args below meth c H locs 0 0 Q (F0 m 61 ls []) := by
  have ⟨⟨hx, hb, hml, hown, hts⟩, hK, hA, hN⟩ := C
  intro x0 x1 H locs ls hX hl h
  rw [f_Integer_numberOfLeadingZeros_61] at h
  refine lv_iload_n hx hb d_Integer_numberOfLeadingZeros_61 rfl (lv_at hl 0 rfl) ?_
  refine lv_iconst (v := 4) hx hb d_Integer_numberOfLeadingZeros_62 (by decide) ?_
  refine lv_icmp_lt (tgt := 73) hx hb d_Integer_numberOfLeadingZeros_63 (by decide) (fun c63 => ?_) (fun c63 => ?_)
  · have h := ite_t c63 h
    exact w_Integer_numberOfLeadingZeros_73 C hQ x0 x1 H locs ls hX hl h
  · have h := ite_f c63 h
    obtain ⟨v1, ev1, h⟩ := lt1_e h
    refine lv_iinc (v := v1) (lv' := [(1, .int v1), (0, .int x0)]) hx hb d_Integer_numberOfLeadingZeros_66 hl (k := 1) rfl (by rw [ev1]; rfl) (by decide) rfl (fun ls hl => ?_)
    refine lv_iload_n hx hb d_Integer_numberOfLeadingZeros_69 rfl (lv_at hl 1 rfl) ?_
    refine lv_iconst (v := 2) hx hb d_Integer_numberOfLeadingZeros_70 (by decide) ?_
    obtain ⟨v2, ev2, h⟩ := lt1_e h
    refine lv_iushr hx hb d_Integer_numberOfLeadingZeros_71 ev2.symm ?_
    refine lv_istore_n (lv' := [(0, .int v2), (1, .int v1)]) hx hb d_Integer_numberOfLeadingZeros_72 rfl hl (by decide) rfl (fun ls hl => ?_)
    exact w_Integer_numberOfLeadingZeros_73 C hQ v2 v1 H locs ls hX hl h
set_option maxHeartbeats 4000000 in
set_option maxRecDepth 100000 in
theorem w_Integer_numberOfLeadingZeros_48 {ws : va_W} {z : Int32} (C : Cx g A p m c b_Integer_numberOfLeadingZeros 2 ss args R_Integer) (hQ : ∀ (pc : Nat) (H : Heap) (locs : List Loc) (ls : Array Slot), XW g A ss ws H locs → decode b_Integer_numberOfLeadingZeros pc = .ok (.ireturn, 1) → W p l e (rmX 0 0) ss m args below meth c H locs 0 0 Q (F0 m pc ls [.int z])) : ∀ (x0 : Int32) (x1 : Int32) (H : Heap) (locs : List Loc) (ls : Array Slot), XW g A ss ws H locs → lv_has ls 2 [(0, .int x0), (1, .int x1)] → f_Integer_numberOfLeadingZeros_48 x0 x1 = some z → W p l e (rmX 0 0) ss m args below meth c H locs 0 0 Q (F0 m 48 ls []) := by
  have ⟨⟨hx, hb, hml, hown, hts⟩, hK, hA, hN⟩ := C
  intro x0 x1 H locs ls hX hl h
  rw [f_Integer_numberOfLeadingZeros_48] at h
  refine lv_iload_n hx hb d_Integer_numberOfLeadingZeros_48 rfl (lv_at hl 0 rfl) ?_
  refine lv_bipush (v := 16) hx hb d_Integer_numberOfLeadingZeros_49 (by decide) ?_
  refine lv_icmp_lt (tgt := 61) hx hb d_Integer_numberOfLeadingZeros_51 (by decide) (fun c51 => ?_) (fun c51 => ?_)
  · have h := ite_t c51 h
    exact w_Integer_numberOfLeadingZeros_61 C hQ x0 x1 H locs ls hX hl h
  · have h := ite_f c51 h
    obtain ⟨v1, ev1, h⟩ := lt1_e h
    refine lv_iinc (v := v1) (lv' := [(1, .int v1), (0, .int x0)]) hx hb d_Integer_numberOfLeadingZeros_54 hl (k := 1) rfl (by rw [ev1]; rfl) (by decide) rfl (fun ls hl => ?_)
    refine lv_iload_n hx hb d_Integer_numberOfLeadingZeros_57 rfl (lv_at hl 1 rfl) ?_
    refine lv_iconst (v := 4) hx hb d_Integer_numberOfLeadingZeros_58 (by decide) ?_
    obtain ⟨v2, ev2, h⟩ := lt1_e h
    refine lv_iushr hx hb d_Integer_numberOfLeadingZeros_59 ev2.symm ?_
    refine lv_istore_n (lv' := [(0, .int v2), (1, .int v1)]) hx hb d_Integer_numberOfLeadingZeros_60 rfl hl (by decide) rfl (fun ls hl => ?_)
    exact w_Integer_numberOfLeadingZeros_61 C hQ v2 v1 H locs ls hX hl h
set_option maxHeartbeats 4000000 in
set_option maxRecDepth 100000 in
theorem w_Integer_numberOfLeadingZeros_33 {ws : va_W} {z : Int32} (C : Cx g A p m c b_Integer_numberOfLeadingZeros 2 ss args R_Integer) (hQ : ∀ (pc : Nat) (H : Heap) (locs : List Loc) (ls : Array Slot), XW g A ss ws H locs → decode b_Integer_numberOfLeadingZeros pc = .ok (.ireturn, 1) → W p l e (rmX 0 0) ss m args below meth c H locs 0 0 Q (F0 m pc ls [.int z])) : ∀ (x0 : Int32) (x1 : Int32) (H : Heap) (locs : List Loc) (ls : Array Slot), XW g A ss ws H locs → lv_has ls 2 [(0, .int x0), (1, .int x1)] → f_Integer_numberOfLeadingZeros_33 x0 x1 = some z → W p l e (rmX 0 0) ss m args below meth c H locs 0 0 Q (F0 m 33 ls []) := by
  have ⟨⟨hx, hb, hml, hown, hts⟩, hK, hA, hN⟩ := C
  intro x0 x1 H locs ls hX hl h
  rw [f_Integer_numberOfLeadingZeros_33] at h
  refine lv_iload_n hx hb d_Integer_numberOfLeadingZeros_33 rfl (lv_at hl 0 rfl) ?_
  refine lv_sipush (v := 256) hx hb d_Integer_numberOfLeadingZeros_34 (by decide) ?_
  refine lv_icmp_lt (tgt := 48) hx hb d_Integer_numberOfLeadingZeros_37 (by decide) (fun c37 => ?_) (fun c37 => ?_)
  · have h := ite_t c37 h
    exact w_Integer_numberOfLeadingZeros_48 C hQ x0 x1 H locs ls hX hl h
  · have h := ite_f c37 h
    obtain ⟨v1, ev1, h⟩ := lt1_e h
    refine lv_iinc (v := v1) (lv' := [(1, .int v1), (0, .int x0)]) hx hb d_Integer_numberOfLeadingZeros_40 hl (k := 1) rfl (by rw [ev1]; rfl) (by decide) rfl (fun ls hl => ?_)
    refine lv_iload_n hx hb d_Integer_numberOfLeadingZeros_43 rfl (lv_at hl 1 rfl) ?_
    refine lv_bipush (v := 8) hx hb d_Integer_numberOfLeadingZeros_44 (by decide) ?_
    obtain ⟨v2, ev2, h⟩ := lt1_e h
    refine lv_iushr hx hb d_Integer_numberOfLeadingZeros_46 ev2.symm ?_
    refine lv_istore_n (lv' := [(0, .int v2), (1, .int v1)]) hx hb d_Integer_numberOfLeadingZeros_47 rfl hl (by decide) rfl (fun ls hl => ?_)
    exact w_Integer_numberOfLeadingZeros_48 C hQ v2 v1 H locs ls hX hl h
set_option maxHeartbeats 4000000 in
set_option maxRecDepth 100000 in
theorem w_Integer_numberOfLeadingZeros_14 {ws : va_W} {z : Int32} (C : Cx g A p m c b_Integer_numberOfLeadingZeros 2 ss args R_Integer) (hQ : ∀ (pc : Nat) (H : Heap) (locs : List Loc) (ls : Array Slot), XW g A ss ws H locs → decode b_Integer_numberOfLeadingZeros pc = .ok (.ireturn, 1) → W p l e (rmX 0 0) ss m args below meth c H locs 0 0 Q (F0 m pc ls [.int z])) : ∀ (x0 : Int32) (y0 : Int32) (H : Heap) (locs : List Loc) (ls : Array Slot), XW g A ss ws H locs → lv_has ls 2 [(0, .int x0)] → f_Integer_numberOfLeadingZeros_14 x0 y0 = some z → W p l e (rmX 0 0) ss m args below meth c H locs 0 0 Q (F0 m 14 ls [.int y0]) := by
  have ⟨⟨hx, hb, hml, hown, hts⟩, hK, hA, hN⟩ := C
  intro x0 y0 H locs ls hX hl h
  rw [f_Integer_numberOfLeadingZeros_14] at h
  obtain rfl := so1 h
  exact hQ _ H locs ls hX d_Integer_numberOfLeadingZeros_14
set_option maxHeartbeats 4000000 in
set_option maxRecDepth 100000 in
theorem w_Integer_numberOfLeadingZeros {ws : va_W} {z : Int32} (C : Cx g A p m c b_Integer_numberOfLeadingZeros 2 ss args R_Integer) (hQ : ∀ (pc : Nat) (H : Heap) (locs : List Loc) (ls : Array Slot), XW g A ss ws H locs → decode b_Integer_numberOfLeadingZeros pc = .ok (.ireturn, 1) → W p l e (rmX 0 0) ss m args below meth c H locs 0 0 Q (F0 m pc ls [.int z])) : ∀ (x0 : Int32) (H : Heap) (locs : List Loc) (ls : Array Slot), XW g A ss ws H locs → lv_has ls 2 [(0, .int x0)] → f_Integer_numberOfLeadingZeros x0 = some z → W p l e (rmX 0 0) ss m args below meth c H locs 0 0 Q (F0 m 0 ls []) := by
  have ⟨⟨hx, hb, hml, hown, hts⟩, hK, hA, hN⟩ := C
  intro x0 H locs ls hX hl h
  rw [f_Integer_numberOfLeadingZeros] at h
  refine lv_iload_n hx hb d_Integer_numberOfLeadingZeros_0 rfl (lv_at hl 0 rfl) ?_
  refine lv_if_gt (tgt := 15) hx hb d_Integer_numberOfLeadingZeros_1 (by decide) (fun c1 => ?_) (fun c1 => ?_)
  · have h := ite_t c1 h
    refine lv_bipush (v := 31) hx hb d_Integer_numberOfLeadingZeros_15 (by decide) ?_
    refine lv_istore_n (lv' := [(1, .int 31), (0, .int x0)]) hx hb d_Integer_numberOfLeadingZeros_17 rfl hl (by decide) rfl (fun ls hl => ?_)
    refine lv_iload_n hx hb d_Integer_numberOfLeadingZeros_18 rfl (lv_at hl 1 rfl) ?_
    refine lv_ldcw (v := 65536) hx hb hown (hts _ m_constant_Integer_264) d_Integer_numberOfLeadingZeros_19 ?_
    refine lv_icmp_lt (tgt := 33) hx hb d_Integer_numberOfLeadingZeros_22 (by decide) (fun c22 => ?_) (fun c22 => ?_)
    · have h := ite_t c22 h
      exact w_Integer_numberOfLeadingZeros_33 C hQ x0 31 H locs ls hX (lv_sub hl [1, 0] rfl) h
    · have h := ite_f c22 h
      obtain ⟨v1, ev1, h⟩ := lt1_e h
      refine lv_iinc (v := v1) (lv' := [(1, .int v1), (0, .int x0)]) hx hb d_Integer_numberOfLeadingZeros_25 hl (k := 0) rfl (by rw [ev1]; rfl) (by decide) rfl (fun ls hl => ?_)
      refine lv_iload_n hx hb d_Integer_numberOfLeadingZeros_28 rfl (lv_at hl 1 rfl) ?_
      refine lv_bipush (v := 16) hx hb d_Integer_numberOfLeadingZeros_29 (by decide) ?_
      obtain ⟨v2, ev2, h⟩ := lt1_e h
      refine lv_iushr hx hb d_Integer_numberOfLeadingZeros_31 ev2.symm ?_
      refine lv_istore_n (lv' := [(0, .int v2), (1, .int v1)]) hx hb d_Integer_numberOfLeadingZeros_32 rfl hl (by decide) rfl (fun ls hl => ?_)
      exact w_Integer_numberOfLeadingZeros_33 C hQ v2 v1 H locs ls hX hl h
  · have h := ite_f c1 h
    refine lv_iload_n hx hb d_Integer_numberOfLeadingZeros_4 rfl (lv_at hl 0 rfl) ?_
    refine lv_if_ne (tgt := 13) hx hb d_Integer_numberOfLeadingZeros_5 (by decide) (fun c5 => ?_) (fun c5 => ?_)
    · have h := ite_f c5 h
      refine lv_iconst (v := 0) hx hb d_Integer_numberOfLeadingZeros_13 (by decide) ?_
      exact w_Integer_numberOfLeadingZeros_14 C hQ x0 0 H locs ls hX hl h
    · have h := ite_t c5 h
      refine lv_bipush (v := 32) hx hb d_Integer_numberOfLeadingZeros_8 (by decide) ?_
      refine lv_goto (tgt := 14) hx hb d_Integer_numberOfLeadingZeros_10 (by decide) ?_
      exact w_Integer_numberOfLeadingZeros_14 C hQ x0 32 H locs ls hX hl h
end WALK
theorem c_Integer_numberOfLeadingZeros (l : Launch) (g : GX) (x0 : Int32) (z : Int32) (h : f_Integer_numberOfLeadingZeros x0 = some z) (ws : va_W) : MI l g y_Integer_numberOfLeadingZeros b_Integer_numberOfLeadingZeros 2 (some .int) 0 0 [.int x0] ws z ws :=
  MI.mk (own := R_Integer) (by decide) rfl (Nat.le_of_ble_eq_true rfl) fun p e ss m below meth c A Q C hQ ls hX hl => w_Integer_numberOfLeadingZeros C hQ x0 _ _ ls hX hl h
