-- Rd_readLocals
def f_Rd_readLocals_88 (x1 : Int32) (x2 : Int32) (x3 : Int32) (x4 : Int32) (x5 : Int32) (s : St) : Option St :=
    lt1 (tSet s 13 8 4 x1 1 x2) fun s1 =>
    some s1
def f_Rd_readLocals_73 (k36 : Int32 → Int32 → Int32 → Int32 → Int32 → St → Option St) (x1 : Int32) (x2 : Int32) (x3 : Int32) (x4 : Int32) (x5 : Int32) (x6 : Int32) (s : St) : Option St :=
    lt1 (x2 + x6) fun v1 =>
    bd1 (f_Rd_readValueType s) fun s2 =>
    lt1 (x5 + (1)) fun v3 =>
    k36 x1 v1 x3 x4 v3 s2
def f_Rd_readLocals_36 : Nat → Int32 → Int32 → Int32 → Int32 → Int32 → St → Option St
  | 0, _, _, _, _, _, _ => none
  | n + 1, x1, x2, x3, x4, x5, s =>
    if x4 ≤ x5 then
      f_Rd_readLocals_88 x1 x2 x3 x4 x5 s
    else
      if s 2 5 = 0 then
        bd (f_Rd_nextUnsigned s) fun r2 s1 =>
        lt1 (12 - x2) fun v3 =>
        bd1 (f_X_isAbove r2 v3) fun r4 =>
        if r4 = 0 then
          f_Rd_readLocals_73 (f_Rd_readLocals_36 n) x1 x2 x3 x4 x5 r2 s1
        else
          bd1 (f_Rd_refuse 2 s1) fun s5 =>
          f_Rd_readLocals_73 (f_Rd_readLocals_36 n) x1 x2 x3 x4 x5 r2 s5
      else
        f_Rd_readLocals_88 x1 x2 x3 x4 x5 s
def f_Rd_readLocals_31 (x1 : Int32) (x2 : Int32) (x3 : Int32) (y0 : Int32) (s : St) : Option St :=
    f_Rd_readLocals_36 FU x1 x2 x3 y0 0 s
def f_Rd_readLocals (x1 : Int32) (s : St) : Option St :=
    bd1 (f_Cont_parametersOf s x1) fun r1 =>
    bd (f_Rd_nextUnsigned s) fun r3 s2 =>
    bd1 (f_X_isAbove r3 240) fun r4 =>
    if r4 = 0 then
      f_Rd_readLocals_31 x1 r1 r3 r3 s2
    else
      f_Rd_readLocals_31 x1 r1 r3 240 s2
section WALK
variable {p : Program} {l : Launch} {e : Env} {ss : State} {m : MethodId} {args : Array Value} {below : List Frame} {meth : Method} {c : Code} {Q : State → Prop} {g : GX} {A : Nat → Prop}
set_option maxHeartbeats 4000000 in
set_option maxRecDepth 100000 in
theorem w_Rd_readLocals_88 {z : St} (C : Cx g A p m c b_Rd_readLocals 7 ss args R_Rd) (hQ : ∀ (pc : Nat) (H : Heap) (locs : List Loc) (ls : Array Slot), XW g A ss (wX g z) H locs → decode b_Rd_readLocals pc = .ok (.return_, 1) → W p l e (rmX 2 45) ss m args below meth c H locs 0 0 Q (F0 m pc ls [])) : ∀ (x1 : Int32) (x2 : Int32) (x3 : Int32) (x4 : Int32) (x5 : Int32) (s : St) (H : Heap) (locs : List Loc) (ls : Array Slot), XW g A ss (wX g s) H locs → lv_has ls 7 [(0, .ref (g.q 2)), (1, .int x1), (2, .int x2), (3, .int x3), (4, .int x4), (5, .int x5)] → f_Rd_readLocals_88 x1 x2 x3 x4 x5 s = some z → W p l e (rmX 2 45) ss m args below meth c H locs 0 0 Q (F0 m 88 ls []) := by
  have ⟨⟨hx, hb, hml, hown, hts⟩, hK, hA, hN⟩ := C
  intro x1 x2 x3 x4 x5 s H locs ls hX hl h
  rw [f_Rd_readLocals_88] at h
  refine lv_aload_n hx hb d_Rd_readLocals_88 rfl (lv_at hl 0 rfl) ?_
  refine gf_2_contents C hX fl_Rd_24 d_Rd_readLocals_89 ?_
  refine gf_1_functions C hX fl_Rd_66 d_Rd_readLocals_92 ?_
  refine lv_iload_n hx hb d_Rd_readLocals_95 rfl (lv_at hl 1 rfl) ?_
  refine lv_iconst (v := 1) hx hb d_Rd_readLocals_96 (by decide) ?_
  refine lv_iload_n hx hb d_Rd_readLocals_97 rfl (lv_at hl 2 rfl) ?_
  obtain ⟨s1, es1, h⟩ := lt1_e h
  refine x_vV (ws' := wX g s1) (As := [.int x1, .int 1, .int x2]) (rest := []) C hX (by rw [es1]; exact cTabSet_12 l g s x1 1 x2) (cw_Rd_98 C.1.2.2.2.2 C.2.2.2 ⟨by decide, by decide⟩) (x_rc C hX wg_12 rfl) rfl hl.1 rfl (lv_room (Nat.le_of_ble_eq_true rfl)) d_Rd_readLocals_98 ⟨Nat.le_refl _, Nat.le_refl _⟩ (fun H locs hX => ?_)
  obtain rfl := so1 h
  exact hQ _ H locs ls hX d_Rd_readLocals_101
set_option maxHeartbeats 4000000 in
set_option maxRecDepth 100000 in
theorem w_Rd_readLocals_73 {z : St} (C : Cx g A p m c b_Rd_readLocals 7 ss args R_Rd) (hQ : ∀ (pc : Nat) (H : Heap) (locs : List Loc) (ls : Array Slot), XW g A ss (wX g z) H locs → decode b_Rd_readLocals pc = .ok (.return_, 1) → W p l e (rmX 2 45) ss m args below meth c H locs 0 0 Q (F0 m pc ls [])) (k36 : Int32 → Int32 → Int32 → Int32 → Int32 → St → Option St) (hk36 : ∀ (x1 : Int32) (x2 : Int32) (x3 : Int32) (x4 : Int32) (x5 : Int32) (s : St) (H : Heap) (locs : List Loc) (ls : Array Slot), XW g A ss (wX g s) H locs → lv_has ls 7 [(0, .ref (g.q 2)), (1, .int x1), (2, .int x2), (3, .int x3), (4, .int x4), (5, .int x5)] → k36 x1 x2 x3 x4 x5 s = some z → W p l e (rmX 2 45) ss m args below meth c H locs 0 0 Q (F0 m 36 ls [])) : ∀ (x1 : Int32) (x2 : Int32) (x3 : Int32) (x4 : Int32) (x5 : Int32) (x6 : Int32) (s : St) (H : Heap) (locs : List Loc) (ls : Array Slot), XW g A ss (wX g s) H locs → lv_has ls 7 [(0, .ref (g.q 2)), (1, .int x1), (2, .int x2), (3, .int x3), (4, .int x4), (5, .int x5), (6, .int x6)] → f_Rd_readLocals_73 k36 x1 x2 x3 x4 x5 x6 s = some z → W p l e (rmX 2 45) ss m args below meth c H locs 0 0 Q (F0 m 73 ls []) := by
  have ⟨⟨hx, hb, hml, hown, hts⟩, hK, hA, hN⟩ := C
  intro x1 x2 x3 x4 x5 x6 s H locs ls hX hl h
  rw [f_Rd_readLocals_73] at h
  refine lv_iload_n hx hb d_Rd_readLocals_73 rfl (lv_at hl 2 rfl) ?_
  refine lv_iload hx hb d_Rd_readLocals_74 (lv_at hl 6 rfl) ?_
  obtain ⟨v1, ev1, h⟩ := lt1_e h
  refine x_iadd hx hb d_Rd_readLocals_76 ev1 ?_
  refine lv_istore_n (lv' := [(2, .int v1), (0, .ref (g.q 2)), (1, .int x1), (3, .int x3), (4, .int x4), (5, .int x5), (6, .int x6)]) hx hb d_Rd_readLocals_77 rfl hl (by decide) rfl (fun ls hl => ?_)
  refine lv_aload_n hx hb d_Rd_readLocals_78 rfl (lv_at hl 1 rfl) ?_
  obtain ⟨s2, hc79, h⟩ := bd1_e h
  refine x_vV (As := []) (rest := []) C hX (c_Rd_readValueType l g s s2 hc79) (cw_Rd_123 C.1.2.2.2.2 C.2.2.2 ⟨by decide, by decide⟩) (x_rc C hX wg_2 rfl) rfl hl.1 rfl (lv_room (Nat.le_of_ble_eq_true rfl)) d_Rd_readLocals_79 ⟨Nat.le_refl _, Nat.le_refl _⟩ (fun H locs hX => ?_)
  obtain ⟨v3, ev3, h⟩ := lt1_e h
  refine lv_iinc (v := v3) (lv' := [(5, .int v3), (2, .int v1), (0, .ref (g.q 2)), (1, .int x1), (3, .int x3), (4, .int x4), (6, .int x6)]) hx hb d_Rd_readLocals_82 hl (k := 5) rfl (by rw [ev3]; rfl) (by decide) rfl (fun ls hl => ?_)
  refine lv_goto (tgt := 36) hx hb d_Rd_readLocals_85 (by decide) ?_
  exact hk36 x1 v1 x3 x4 v3 s2 H locs ls hX (lv_sub hl [2, 3, 1, 4, 5, 0] rfl) h
set_option maxHeartbeats 4000000 in
set_option maxRecDepth 100000 in
theorem w_Rd_readLocals_36 {z : St} (C : Cx g A p m c b_Rd_readLocals 7 ss args R_Rd) (hQ : ∀ (pc : Nat) (H : Heap) (locs : List Loc) (ls : Array Slot), XW g A ss (wX g z) H locs → decode b_Rd_readLocals pc = .ok (.return_, 1) → W p l e (rmX 2 45) ss m args below meth c H locs 0 0 Q (F0 m pc ls [])) (n : Nat) : ∀ (x1 : Int32) (x2 : Int32) (x3 : Int32) (x4 : Int32) (x5 : Int32) (s : St) (H : Heap) (locs : List Loc) (ls : Array Slot), XW g A ss (wX g s) H locs → lv_has ls 7 [(0, .ref (g.q 2)), (1, .int x1), (2, .int x2), (3, .int x3), (4, .int x4), (5, .int x5)] → f_Rd_readLocals_36 n x1 x2 x3 x4 x5 s = some z → W p l e (rmX 2 45) ss m args below meth c H locs 0 0 Q (F0 m 36 ls []) := by
  have ⟨⟨hx, hb, hml, hown, hts⟩, hK, hA, hN⟩ := C
  induction n with
  | zero => intro x1 x2 x3 x4 x5 s H locs ls hX hl h; cases h
  | succ n ih =>
    intro x1 x2 x3 x4 x5 s H locs ls hX hl h
    rw [f_Rd_readLocals_36] at h
    refine lv_iload hx hb d_Rd_readLocals_36 (lv_at hl 5 rfl) ?_
    refine lv_iload hx hb d_Rd_readLocals_38 (lv_at hl 4 rfl) ?_
    refine lv_icmp_ge (tgt := 88) hx hb d_Rd_readLocals_40 (by decide) (fun c40 => ?_) (fun c40 => ?_)
    · have h := ite_t c40 h
      exact w_Rd_readLocals_88 C hQ x1 x2 x3 x4 x5 s H locs ls hX hl h
    · have h := ite_f c40 h
      refine lv_aload_n hx hb d_Rd_readLocals_43 rfl (lv_at hl 0 rfl) ?_
      refine gf_2_fault C hX fl_Rd_46 d_Rd_readLocals_44 ?_
      refine lv_if_ne (tgt := 88) hx hb d_Rd_readLocals_47 (by decide) (fun c47 => ?_) (fun c47 => ?_)
      · have h := ite_f c47 h
        exact w_Rd_readLocals_88 C hQ x1 x2 x3 x4 x5 s H locs ls hX hl h
      · have h := ite_t c47 h
        refine lv_aload_n hx hb d_Rd_readLocals_50 rfl (lv_at hl 0 rfl) ?_
        obtain ⟨r2, s1, hc51, h⟩ := bd_e h
        refine x_vI (As := []) (rest := []) C hX (c_Rd_nextUnsigned l g s (r2, s1) hc51) (cw_Rd_85 C.1.2.2.2.2 C.2.2.2 ⟨by decide, by decide⟩) (x_rc C hX wg_2 rfl) rfl hl.1 rfl (lv_room (Nat.le_of_ble_eq_true rfl)) d_Rd_readLocals_51 ⟨Nat.le_refl _, Nat.le_refl _⟩ (fun H locs hX => ?_)
        refine lv_istore (lv' := [(6, .int r2), (0, .ref (g.q 2)), (1, .int x1), (2, .int x2), (3, .int x3), (4, .int x4), (5, .int x5)]) hx hb d_Rd_readLocals_54 hl (by decide) rfl (fun ls hl => ?_)
        refine lv_iload hx hb d_Rd_readLocals_56 (lv_at hl 0 rfl) ?_
        refine lv_bipush (v := 12) hx hb d_Rd_readLocals_58 (by decide) ?_
        refine lv_iload_n hx hb d_Rd_readLocals_60 rfl (lv_at hl 3 rfl) ?_
        obtain ⟨v3, ev3, h⟩ := lt1_e h
        refine x_isub hx hb d_Rd_readLocals_61 ev3 ?_
        obtain ⟨r4, hc62, h⟩ := bd1_e h
        refine x_sNI (As := [.int r2, .int v3]) (rest := []) C hX (c_X_isAbove l g r2 v3 r4 hc62 _) (cw_Rd_88 C.1.2.2.2.2 C.2.2.2 ⟨by decide, by decide⟩) rfl hl.1 rfl (lv_room (Nat.le_of_ble_eq_true rfl)) d_Rd_readLocals_62 ⟨Nat.le_refl _, Nat.le_refl _⟩ (fun H locs hX => ?_)
        refine lv_if_eq (tgt := 73) hx hb d_Rd_readLocals_65 (by decide) (fun c65 => ?_) (fun c65 => ?_)
        · have h := ite_t c65 h
          exact w_Rd_readLocals_73 C hQ (f_Rd_readLocals_36 n) ih x1 x2 x3 x4 x5 r2 s1 H locs ls hX (lv_sub hl [1, 2, 3, 4, 5, 6, 0] rfl) h
        · have h := ite_f c65 h
          refine lv_aload_n hx hb d_Rd_readLocals_68 rfl (lv_at hl 1 rfl) ?_
          refine lv_iconst (v := 2) hx hb d_Rd_readLocals_69 (by decide) ?_
          obtain ⟨s5, hc70, h⟩ := bd1_e h
          refine x_vV (As := [.int 2]) (rest := []) C hX (c_Rd_refuse l g 2 s1 s5 hc70) (cw_Rd_75 C.1.2.2.2.2 C.2.2.2 ⟨by decide, by decide⟩) (x_rc C hX wg_2 rfl) rfl hl.1 rfl (lv_room (Nat.le_of_ble_eq_true rfl)) d_Rd_readLocals_70 ⟨Nat.le_refl _, Nat.le_refl _⟩ (fun H locs hX => ?_)
          exact w_Rd_readLocals_73 C hQ (f_Rd_readLocals_36 n) ih x1 x2 x3 x4 x5 r2 s5 H locs ls hX (lv_sub hl [1, 2, 3, 4, 5, 6, 0] rfl) h
set_option maxHeartbeats 4000000 in
set_option maxRecDepth 100000 in
theorem w_Rd_readLocals_31 {z : St} (C : Cx g A p m c b_Rd_readLocals 7 ss args R_Rd) (hQ : ∀ (pc : Nat) (H : Heap) (locs : List Loc) (ls : Array Slot), XW g A ss (wX g z) H locs → decode b_Rd_readLocals pc = .ok (.return_, 1) → W p l e (rmX 2 45) ss m args below meth c H locs 0 0 Q (F0 m pc ls [])) : ∀ (x1 : Int32) (x2 : Int32) (x3 : Int32) (y0 : Int32) (s : St) (H : Heap) (locs : List Loc) (ls : Array Slot), XW g A ss (wX g s) H locs → lv_has ls 7 [(0, .ref (g.q 2)), (1, .int x1), (2, .int x2), (3, .int x3)] → f_Rd_readLocals_31 x1 x2 x3 y0 s = some z → W p l e (rmX 2 45) ss m args below meth c H locs 0 0 Q (F0 m 31 ls [.int y0]) := by
  have ⟨⟨hx, hb, hml, hown, hts⟩, hK, hA, hN⟩ := C
  intro x1 x2 x3 y0 s H locs ls hX hl h
  rw [f_Rd_readLocals_31] at h
  refine lv_istore (lv' := [(4, .int y0), (0, .ref (g.q 2)), (1, .int x1), (2, .int x2), (3, .int x3)]) hx hb d_Rd_readLocals_31 hl (by decide) rfl (fun ls hl => ?_)
  refine lv_iconst (v := 0) hx hb d_Rd_readLocals_33 (by decide) ?_
  refine lv_istore (lv' := [(5, .int 0), (4, .int y0), (0, .ref (g.q 2)), (1, .int x1), (2, .int x2), (3, .int x3)]) hx hb d_Rd_readLocals_34 hl (by decide) rfl (fun ls hl => ?_)
  exact w_Rd_readLocals_36 C hQ FU x1 x2 x3 y0 0 s H locs ls hX (lv_sub hl [2, 3, 4, 5, 1, 0] rfl) h
set_option maxHeartbeats 4000000 in
set_option maxRecDepth 100000 in
theorem w_Rd_readLocals {z : St} (C : Cx g A p m c b_Rd_readLocals 7 ss args R_Rd) (hQ : ∀ (pc : Nat) (H : Heap) (locs : List Loc) (ls : Array Slot), XW g A ss (wX g z) H locs → decode b_Rd_readLocals pc = .ok (.return_, 1) → W p l e (rmX 2 45) ss m args below meth c H locs 0 0 Q (F0 m pc ls [])) : ∀ (x1 : Int32) (s : St) (H : Heap) (locs : List Loc) (ls : Array Slot), XW g A ss (wX g s) H locs → lv_has ls 7 [(0, .ref (g.q 2)), (1, .int x1)] → f_Rd_readLocals x1 s = some z → W p l e (rmX 2 45) ss m args below meth c H locs 0 0 Q (F0 m 0 ls []) := by
  have ⟨⟨hx, hb, hml, hown, hts⟩, hK, hA, hN⟩ := C
  intro x1 s H locs ls hX hl h
  rw [f_Rd_readLocals] at h
  refine lv_aload_n hx hb d_Rd_readLocals_0 rfl (lv_at hl 0 rfl) ?_
  refine gf_2_contents C hX fl_Rd_24 d_Rd_readLocals_1 ?_
  refine lv_iload_n hx hb d_Rd_readLocals_4 rfl (lv_at hl 1 rfl) ?_
  obtain ⟨r1, hc5, h⟩ := bd1_e h
  refine x_vI (As := [.int x1]) (rest := []) C hX (c_Cont_parametersOf l g x1 s r1 hc5) (cw_Rd_170 C.1.2.2.2.2 C.2.2.2 ⟨by decide, by decide⟩) (x_rc C hX wg_1 rfl) rfl hl.1 rfl (lv_room (Nat.le_of_ble_eq_true rfl)) d_Rd_readLocals_5 ⟨Nat.le_refl _, Nat.le_refl _⟩ (fun H locs hX => ?_)
  refine lv_istore_n (lv' := [(2, .int r1), (0, .ref (g.q 2)), (1, .int x1)]) hx hb d_Rd_readLocals_8 rfl hl (by decide) rfl (fun ls hl => ?_)
  refine lv_aload_n hx hb d_Rd_readLocals_9 rfl (lv_at hl 1 rfl) ?_
  obtain ⟨r3, s2, hc10, h⟩ := bd_e h
  refine x_vI (As := []) (rest := []) C hX (c_Rd_nextUnsigned l g s (r3, s2) hc10) (cw_Rd_85 C.1.2.2.2.2 C.2.2.2 ⟨by decide, by decide⟩) (x_rc C hX wg_2 rfl) rfl hl.1 rfl (lv_room (Nat.le_of_ble_eq_true rfl)) d_Rd_readLocals_10 ⟨Nat.le_refl _, Nat.le_refl _⟩ (fun H locs hX => ?_)
  refine lv_istore_n (lv' := [(3, .int r3), (2, .int r1), (0, .ref (g.q 2)), (1, .int x1)]) hx hb d_Rd_readLocals_13 rfl hl (by decide) rfl (fun ls hl => ?_)
  refine lv_iload_n hx hb d_Rd_readLocals_14 rfl (lv_at hl 0 rfl) ?_
  refine lv_sipush (v := 240) hx hb d_Rd_readLocals_15 (by decide) ?_
  obtain ⟨r4, hc18, h⟩ := bd1_e h
  refine x_sNI (As := [.int r3, .int 240]) (rest := []) C hX (c_X_isAbove l g r3 240 r4 hc18 _) (cw_Rd_88 C.1.2.2.2.2 C.2.2.2 ⟨by decide, by decide⟩) rfl hl.1 rfl (lv_room (Nat.le_of_ble_eq_true rfl)) d_Rd_readLocals_18 ⟨Nat.le_refl _, Nat.le_refl _⟩ (fun H locs hX => ?_)
  refine lv_if_eq (tgt := 30) hx hb d_Rd_readLocals_21 (by decide) (fun c21 => ?_) (fun c21 => ?_)
  · have h := ite_t c21 h
    refine lv_iload_n hx hb d_Rd_readLocals_30 rfl (lv_at hl 0 rfl) ?_
    exact w_Rd_readLocals_31 C hQ x1 r1 r3 r3 s2 H locs ls hX (lv_sub hl [2, 3, 1, 0] rfl) h
  · have h := ite_f c21 h
    refine lv_sipush (v := 240) hx hb d_Rd_readLocals_24 (by decide) ?_
    refine lv_goto (tgt := 31) hx hb d_Rd_readLocals_27 (by decide) ?_
    exact w_Rd_readLocals_31 C hQ x1 r1 r3 240 s2 H locs ls hX (lv_sub hl [2, 3, 1, 0] rfl) h
end WALK
theorem c_Rd_readLocals (l : Launch) (g : GX) (x1 : Int32) (s : St) (z : St) (h : f_Rd_readLocals x1 s = some z) : MV l g y_Rd_readLocals b_Rd_readLocals 7 none 2 45 [.ref (g.q 2), .int x1] (wX g s) (wX g z) :=
  MV.mk (own := R_Rd) (by decide) rfl (Nat.le_of_ble_eq_true rfl) fun p e ss m below meth c A Q C hQ ls hX hl => w_Rd_readLocals C hQ x1 s _ _ ls hX hl h
-- Op_isControl
def f_Op_isControl_26 (x0 : Int32) (y0 : Int32) : Option Int32 :=
    bz y0 <|
    some (y0)
def f_Op_isControl_21 (x0 : Int32) : Option Int32 :=
    f_Op_isControl_26 x0 1
def f_Op_isControl_25 (x0 : Int32) : Option Int32 :=
    f_Op_isControl_26 x0 0
def f_Op_isControl_9 (x0 : Int32) : Option Int32 :=
    if x0 < 11 then
      f_Op_isControl_25 x0
    else
      if 16 < x0 then
        f_Op_isControl_25 x0
      else
        f_Op_isControl_21 x0
def f_Op_isControl (x0 : Int32) : Option Int32 :=
    if x0 < 0 then
      f_Op_isControl_9 x0
    else
      if x0 ≤ 5 then
        f_Op_isControl_21 x0
      else
        f_Op_isControl_9 x0
section WALK
variable {p : Program} {l : Launch} {e : Env} {ss : State} {m : MethodId} {args : Array Value} {below : List Frame} {meth : Method} {c : Code} {Q : State → Prop} {g : GX} {A : Nat → Prop}
set_option maxHeartbeats 4000000 in
set_option maxRecDepth 100000 in
theorem w_Op_isControl_26 {ws : va_W} {z : Int32} (C : Cx g A p m c b_Op_isControl 1 ss args R_Op) (hQ : ∀ (pc : Nat) (H : Heap) (locs : List Loc) (ls : Array Slot), XW g A ss ws H locs → (z = 0 ∨ z = 1) → decode b_Op_isControl pc = .ok (.ireturn, 1) → W p l e (rmX 0 0) ss m args below meth c H locs 0 0 Q (F0 m pc ls [.int z])) : ∀ (x0 : Int32) (y0 : Int32) (H : Heap) (locs : List Loc) (ls : Array Slot), XW g A ss ws H locs → lv_has ls 1 [(0, .int x0)] → f_Op_isControl_26 x0 y0 = some z → W p l e (rmX 0 0) ss m args below meth c H locs 0 0 Q (F0 m 26 ls [.int y0]) := by
  have ⟨⟨hx, hb, hml, hown, hts⟩, hK, hA, hN⟩ := C
  intro x0 y0 H locs ls hX hl h
  rw [f_Op_isControl_26] at h
  obtain ⟨hz, h⟩ := bz_e h
  obtain rfl := so1 h
  exact hQ _ H locs ls hX hz d_Op_isControl_26
set_option maxHeartbeats 4000000 in
set_option maxRecDepth 100000 in
theorem w_Op_isControl_21 {ws : va_W} {z : Int32} (C : Cx g A p m c b_Op_isControl 1 ss args R_Op) (hQ : ∀ (pc : Nat) (H : Heap) (locs : List Loc) (ls : Array Slot), XW g A ss ws H locs → (z = 0 ∨ z = 1) → decode b_Op_isControl pc = .ok (.ireturn, 1) → W p l e (rmX 0 0) ss m args below meth c H locs 0 0 Q (F0 m pc ls [.int z])) : ∀ (x0 : Int32) (H : Heap) (locs : List Loc) (ls : Array Slot), XW g A ss ws H locs → lv_has ls 1 [(0, .int x0)] → f_Op_isControl_21 x0 = some z → W p l e (rmX 0 0) ss m args below meth c H locs 0 0 Q (F0 m 21 ls []) := by
  have ⟨⟨hx, hb, hml, hown, hts⟩, hK, hA, hN⟩ := C
  intro x0 H locs ls hX hl h
  rw [f_Op_isControl_21] at h
  refine lv_iconst (v := 1) hx hb d_Op_isControl_21 (by decide) ?_
  refine lv_goto (tgt := 26) hx hb d_Op_isControl_22 (by decide) ?_
  exact w_Op_isControl_26 C hQ x0 1 H locs ls hX hl h
set_option maxHeartbeats 4000000 in
set_option maxRecDepth 100000 in
theorem w_Op_isControl_25 {ws : va_W} {z : Int32} (C : Cx g A p m c b_Op_isControl 1 ss args R_Op) (hQ : ∀ (pc : Nat) (H : Heap) (locs : List Loc) (ls : Array Slot), XW g A ss ws H locs → (z = 0 ∨ z = 1) → decode b_Op_isControl pc = .ok (.ireturn, 1) → W p l e (rmX 0 0) ss m args below meth c H locs 0 0 Q (F0 m pc ls [.int z])) : ∀ (x0 : Int32) (H : Heap) (locs : List Loc) (ls : Array Slot), XW g A ss ws H locs → lv_has ls 1 [(0, .int x0)] → f_Op_isControl_25 x0 = some z → W p l e (rmX 0 0) ss m args below meth c H locs 0 0 Q (F0 m 25 ls []) := by
  have ⟨⟨hx, hb, hml, hown, hts⟩, hK, hA, hN⟩ := C
  intro x0 H locs ls hX hl h
  rw [f_Op_isControl_25] at h
  refine lv_iconst (v := 0) hx hb d_Op_isControl_25 (by decide) ?_
  exact w_Op_isControl_26 C hQ x0 0 H locs ls hX hl h
set_option maxHeartbeats 4000000 in
set_option maxRecDepth 100000 in
theorem w_Op_isControl_9 {ws : va_W} {z : Int32} (C : Cx g A p m c b_Op_isControl 1 ss args R_Op) (hQ : ∀ (pc : Nat) (H : Heap) (locs : List Loc) (ls : Array Slot), XW g A ss ws H locs → (z = 0 ∨ z = 1) → decode b_Op_isControl pc = .ok (.ireturn, 1) → W p l e (rmX 0 0) ss m args below meth c H locs 0 0 Q (F0 m pc ls [.int z])) : ∀ (x0 : Int32) (H : Heap) (locs : List Loc) (ls : Array Slot), XW g A ss ws H locs → lv_has ls 1 [(0, .int x0)] → f_Op_isControl_9 x0 = some z → W p l e (rmX 0 0) ss m args below meth c H locs 0 0 Q (F0 m 9 ls []) := by
  have ⟨⟨hx, hb, hml, hown, hts⟩, hK, hA, hN⟩ := C
  intro x0 H locs ls hX hl h
  rw [f_Op_isControl_9] at h
  refine lv_iload_n hx hb d_Op_isControl_9 rfl (lv_at hl 0 rfl) ?_
  refine lv_bipush (v := 11) hx hb d_Op_isControl_10 (by decide) ?_
  refine lv_icmp_lt (tgt := 25) hx hb d_Op_isControl_12 (by decide) (fun c12 => ?_) (fun c12 => ?_)
  · have h := ite_t c12 h
    exact w_Op_isControl_25 C hQ x0 H locs ls hX hl h
  · have h := ite_f c12 h
    refine lv_iload_n hx hb d_Op_isControl_15 rfl (lv_at hl 0 rfl) ?_
    refine lv_bipush (v := 16) hx hb d_Op_isControl_16 (by decide) ?_
    refine lv_icmp_gt (tgt := 25) hx hb d_Op_isControl_18 (by decide) (fun c18 => ?_) (fun c18 => ?_)
    · have h := ite_t c18 h
      exact w_Op_isControl_25 C hQ x0 H locs ls hX hl h
    · have h := ite_f c18 h
      exact w_Op_isControl_21 C hQ x0 H locs ls hX hl h
set_option maxHeartbeats 4000000 in
set_option maxRecDepth 100000 in
theorem w_Op_isControl {ws : va_W} {z : Int32} (C : Cx g A p m c b_Op_isControl 1 ss args R_Op) (hQ : ∀ (pc : Nat) (H : Heap) (locs : List Loc) (ls : Array Slot), XW g A ss ws H locs → (z = 0 ∨ z = 1) → decode b_Op_isControl pc = .ok (.ireturn, 1) → W p l e (rmX 0 0) ss m args below meth c H locs 0 0 Q (F0 m pc ls [.int z])) : ∀ (x0 : Int32) (H : Heap) (locs : List Loc) (ls : Array Slot), XW g A ss ws H locs → lv_has ls 1 [(0, .int x0)] → f_Op_isControl x0 = some z → W p l e (rmX 0 0) ss m args below meth c H locs 0 0 Q (F0 m 0 ls []) := by
  have ⟨⟨hx, hb, hml, hown, hts⟩, hK, hA, hN⟩ := C
  intro x0 H locs ls hX hl h
  rw [f_Op_isControl] at h
  refine lv_iload_n hx hb d_Op_isControl_0 rfl (lv_at hl 0 rfl) ?_
  refine lv_if_lt (tgt := 9) hx hb d_Op_isControl_1 (by decide) (fun c1 => ?_) (fun c1 => ?_)
  · have h := ite_t c1 h
    exact w_Op_isControl_9 C hQ x0 H locs ls hX hl h
  · have h := ite_f c1 h
    refine lv_iload_n hx hb d_Op_isControl_4 rfl (lv_at hl 0 rfl) ?_
    refine lv_iconst (v := 5) hx hb d_Op_isControl_5 (by decide) ?_
    refine lv_icmp_le (tgt := 21) hx hb d_Op_isControl_6 (by decide) (fun c6 => ?_) (fun c6 => ?_)
    · have h := ite_t c6 h
      exact w_Op_isControl_21 C hQ x0 H locs ls hX hl h
    · have h := ite_f c6 h
      exact w_Op_isControl_9 C hQ x0 H locs ls hX hl h
end WALK
theorem c_Op_isControl (l : Launch) (g : GX) (x0 : Int32) (z : Int32) (h : f_Op_isControl x0 = some z) (ws : va_W) : MI l g y_Op_isControl b_Op_isControl 1 (some .boolean) 0 0 [.int x0] ws z ws :=
  MI.mkZ (own := R_Op) (by decide) rfl (Nat.le_of_ble_eq_true rfl) fun p e ss m below meth c A Q C hQ ls hX hl => w_Op_isControl C hQ x0 _ _ ls hX hl h
-- Op_isStore
def f_Op_isStore_23 (x0 : Int32) (y0 : Int32) : Option Int32 :=
    bz y0 <|
    some (y0)
def f_Op_isStore_18 (x0 : Int32) : Option Int32 :=
    f_Op_isStore_23 x0 1
def f_Op_isStore (x0 : Int32) : Option Int32 :=
    if x0 = 54 then
      f_Op_isStore_18 x0
    else
      if x0 = 58 then
        f_Op_isStore_18 x0
      else
        if x0 = 59 then
          f_Op_isStore_18 x0
        else
          f_Op_isStore_23 x0 0
section WALK
variable {p : Program} {l : Launch} {e : Env} {ss : State} {m : MethodId} {args : Array Value} {below : List Frame} {meth : Method} {c : Code} {Q : State → Prop} {g : GX} {A : Nat → Prop}
set_option maxHeartbeats 4000000 in
set_option maxRecDepth 100000 in
theorem w_Op_isStore_23 {ws : va_W} {z : Int32} (C : Cx g A p m c b_Op_isStore 1 ss args R_Op) (hQ : ∀ (pc : Nat) (H : Heap) (locs : List Loc) (ls : Array Slot), XW g A ss ws H locs → (z = 0 ∨ z = 1) → decode b_Op_isStore pc = .ok (.ireturn, 1) → W p l e (rmX 0 0) ss m args below meth c H locs 0 0 Q (F0 m pc ls [.int z])) : ∀ (x0 : Int32) (y0 : Int32) (H : Heap) (locs : List Loc) (ls : Array Slot), XW g A ss ws H locs → lv_has ls 1 [(0, .int x0)] → f_Op_isStore_23 x0 y0 = some z → W p l e (rmX 0 0) ss m args below meth c H locs 0 0 Q (F0 m 23 ls [.int y0]) := by
  have ⟨⟨hx, hb, hml, hown, hts⟩, hK, hA, hN⟩ := C
  intro x0 y0 H locs ls hX hl h
  rw [f_Op_isStore_23] at h
  obtain ⟨hz, h⟩ := bz_e h
  obtain rfl := so1 h
  exact hQ _ H locs ls hX hz d_Op_isStore_23
set_option maxHeartbeats 4000000 in
set_option maxRecDepth 100000 in
theorem w_Op_isStore_18 {ws : va_W} {z : Int32} (C : Cx g A p m c b_Op_isStore 1 ss args R_Op) (hQ : ∀ (pc : Nat) (H : Heap) (locs : List Loc) (ls : Array Slot), XW g A ss ws H locs → (z = 0 ∨ z = 1) → decode b_Op_isStore pc = .ok (.ireturn, 1) → W p l e (rmX 0 0) ss m args below meth c H locs 0 0 Q (F0 m pc ls [.int z])) : ∀ (x0 : Int32) (H : Heap) (locs : List Loc) (ls : Array Slot), XW g A ss ws H locs → lv_has ls 1 [(0, .int x0)] → f_Op_isStore_18 x0 = some z → W p l e (rmX 0 0) ss m args below meth c H locs 0 0 Q (F0 m 18 ls []) := by
  have ⟨⟨hx, hb, hml, hown, hts⟩, hK, hA, hN⟩ := C
  intro x0 H locs ls hX hl h
  rw [f_Op_isStore_18] at h
  refine lv_iconst (v := 1) hx hb d_Op_isStore_18 (by decide) ?_
  refine lv_goto (tgt := 23) hx hb d_Op_isStore_19 (by decide) ?_
  exact w_Op_isStore_23 C hQ x0 1 H locs ls hX hl h
set_option maxHeartbeats 4000000 in
set_option maxRecDepth 100000 in
theorem w_Op_isStore {ws : va_W} {z : Int32} (C : Cx g A p m c b_Op_isStore 1 ss args R_Op) (hQ : ∀ (pc : Nat) (H : Heap) (locs : List Loc) (ls : Array Slot), XW g A ss ws H locs → (z = 0 ∨ z = 1) → decode b_Op_isStore pc = .ok (.ireturn, 1) → W p l e (rmX 0 0) ss m args below meth c H locs 0 0 Q (F0 m pc ls [.int z])) : ∀ (x0 : Int32) (H : Heap) (locs : List Loc) (ls : Array Slot), XW g A ss ws H locs → lv_has ls 1 [(0, .int x0)] → f_Op_isStore x0 = some z → W p l e (rmX 0 0) ss m args below meth c H locs 0 0 Q (F0 m 0 ls []) := by
  have ⟨⟨hx, hb, hml, hown, hts⟩, hK, hA, hN⟩ := C
  intro x0 H locs ls hX hl h
  rw [f_Op_isStore] at h
  refine lv_iload_n hx hb d_Op_isStore_0 rfl (lv_at hl 0 rfl) ?_
  refine lv_bipush (v := 54) hx hb d_Op_isStore_1 (by decide) ?_
  refine lv_icmp_eq (tgt := 18) hx hb d_Op_isStore_3 (by decide) (fun c3 => ?_) (fun c3 => ?_)
  · have h := ite_t c3 h
    exact w_Op_isStore_18 C hQ x0 H locs ls hX hl h
  · have h := ite_f c3 h
    refine lv_iload_n hx hb d_Op_isStore_6 rfl (lv_at hl 0 rfl) ?_
    refine lv_bipush (v := 58) hx hb d_Op_isStore_7 (by decide) ?_
    refine lv_icmp_eq (tgt := 18) hx hb d_Op_isStore_9 (by decide) (fun c9 => ?_) (fun c9 => ?_)
    · have h := ite_t c9 h
      exact w_Op_isStore_18 C hQ x0 H locs ls hX hl h
    · have h := ite_f c9 h
      refine lv_iload_n hx hb d_Op_isStore_12 rfl (lv_at hl 0 rfl) ?_
      refine lv_bipush (v := 59) hx hb d_Op_isStore_13 (by decide) ?_
      refine lv_icmp_ne (tgt := 22) hx hb d_Op_isStore_15 (by decide) (fun c15 => ?_) (fun c15 => ?_)
      · have h := ite_f c15 h
        refine lv_iconst (v := 0) hx hb d_Op_isStore_22 (by decide) ?_
        exact w_Op_isStore_23 C hQ x0 0 H locs ls hX hl h
      · have h := ite_t c15 h
        exact w_Op_isStore_18 C hQ x0 H locs ls hX hl h
end WALK
theorem c_Op_isStore (l : Launch) (g : GX) (x0 : Int32) (z : Int32) (h : f_Op_isStore x0 = some z) (ws : va_W) : MI l g y_Op_isStore b_Op_isStore 1 (some .boolean) 0 0 [.int x0] ws z ws :=
  MI.mkZ (own := R_Op) (by decide) rfl (Nat.le_of_ble_eq_true rfl) fun p e ss m below meth c A Q C hQ ls hX hl => w_Op_isStore C hQ x0 _ _ ls hX hl h
-- Op_isAccess
def f_Op_isAccess_30 (x0 : Int32) (y0 : Int32) : Option Int32 :=
    bz y0 <|
    some (y0)
def f_Op_isAccess_25 (x0 : Int32) : Option Int32 :=
    f_Op_isAccess_30 x0 1
def f_Op_isAccess_18 (x0 : Int32) : Option Int32 :=
    bd1 (f_Op_isStore x0) fun r1 =>
    if r1 = 0 then
      f_Op_isAccess_30 x0 0
    else
      f_Op_isAccess_25 x0
def f_Op_isAccess (x0 : Int32) : Option Int32 :=
    if x0 = 40 then
      f_Op_isAccess_25 x0
    else
      if x0 < 44 then
        f_Op_isAccess_18 x0
      else
        if x0 ≤ 47 then
          f_Op_isAccess_25 x0
        else
          f_Op_isAccess_18 x0
section WALK
variable {p : Program} {l : Launch} {e : Env} {ss : State} {m : MethodId} {args : Array Value} {below : List Frame} {meth : Method} {c : Code} {Q : State → Prop} {g : GX} {A : Nat → Prop}
set_option maxHeartbeats 4000000 in
set_option maxRecDepth 100000 in
theorem w_Op_isAccess_30 {ws : va_W} {z : Int32} (C : Cx g A p m c b_Op_isAccess 1 ss args R_Op) (hQ : ∀ (pc : Nat) (H : Heap) (locs : List Loc) (ls : Array Slot), XW g A ss ws H locs → (z = 0 ∨ z = 1) → decode b_Op_isAccess pc = .ok (.ireturn, 1) → W p l e (rmX 1 20) ss m args below meth c H locs 0 0 Q (F0 m pc ls [.int z])) : ∀ (x0 : Int32) (y0 : Int32) (H : Heap) (locs : List Loc) (ls : Array Slot), XW g A ss ws H locs → lv_has ls 1 [(0, .int x0)] → f_Op_isAccess_30 x0 y0 = some z → W p l e (rmX 1 20) ss m args below meth c H locs 0 0 Q (F0 m 30 ls [.int y0]) := by
  have ⟨⟨hx, hb, hml, hown, hts⟩, hK, hA, hN⟩ := C
  intro x0 y0 H locs ls hX hl h
  rw [f_Op_isAccess_30] at h
  obtain ⟨hz, h⟩ := bz_e h
  obtain rfl := so1 h
  exact hQ _ H locs ls hX hz d_Op_isAccess_30
set_option maxHeartbeats 4000000 in
set_option maxRecDepth 100000 in
theorem w_Op_isAccess_25 {ws : va_W} {z : Int32} (C : Cx g A p m c b_Op_isAccess 1 ss args R_Op) (hQ : ∀ (pc : Nat) (H : Heap) (locs : List Loc) (ls : Array Slot), XW g A ss ws H locs → (z = 0 ∨ z = 1) → decode b_Op_isAccess pc = .ok (.ireturn, 1) → W p l e (rmX 1 20) ss m args below meth c H locs 0 0 Q (F0 m pc ls [.int z])) : ∀ (x0 : Int32) (H : Heap) (locs : List Loc) (ls : Array Slot), XW g A ss ws H locs → lv_has ls 1 [(0, .int x0)] → f_Op_isAccess_25 x0 = some z → W p l e (rmX 1 20) ss m args below meth c H locs 0 0 Q (F0 m 25 ls []) := by
  have ⟨⟨hx, hb, hml, hown, hts⟩, hK, hA, hN⟩ := C
  intro x0 H locs ls hX hl h
  rw [f_Op_isAccess_25] at h
  refine lv_iconst (v := 1) hx hb d_Op_isAccess_25 (by decide) ?_
  refine lv_goto (tgt := 30) hx hb d_Op_isAccess_26 (by decide) ?_
  exact w_Op_isAccess_30 C hQ x0 1 H locs ls hX hl h
set_option maxHeartbeats 4000000 in
set_option maxRecDepth 100000 in
theorem w_Op_isAccess_18 {ws : va_W} {z : Int32} (C : Cx g A p m c b_Op_isAccess 1 ss args R_Op) (hQ : ∀ (pc : Nat) (H : Heap) (locs : List Loc) (ls : Array Slot), XW g A ss ws H locs → (z = 0 ∨ z = 1) → decode b_Op_isAccess pc = .ok (.ireturn, 1) → W p l e (rmX 1 20) ss m args below meth c H locs 0 0 Q (F0 m pc ls [.int z])) : ∀ (x0 : Int32) (H : Heap) (locs : List Loc) (ls : Array Slot), XW g A ss ws H locs → lv_has ls 1 [(0, .int x0)] → f_Op_isAccess_18 x0 = some z → W p l e (rmX 1 20) ss m args below meth c H locs 0 0 Q (F0 m 18 ls []) := by
  have ⟨⟨hx, hb, hml, hown, hts⟩, hK, hA, hN⟩ := C
  intro x0 H locs ls hX hl h
  rw [f_Op_isAccess_18] at h
  refine lv_iload_n hx hb d_Op_isAccess_18 rfl (lv_at hl 0 rfl) ?_
  obtain ⟨r1, hc19, h⟩ := bd1_e h
  refine x_sI (As := [.int x0]) (rest := []) C hX (c_Op_isStore l g x0 r1 hc19 _) (cw_Op_21 C.1.2.2.2.2 C.2.2.2 ⟨by decide, by decide⟩) rfl hl.1 rfl (lv_room (Nat.le_of_ble_eq_true rfl)) d_Op_isAccess_19 ⟨Nat.le_refl _, Nat.le_refl _⟩ (fun H locs hX => ?_)
  refine lv_if_eq (tgt := 29) hx hb d_Op_isAccess_22 (by decide) (fun c22 => ?_) (fun c22 => ?_)
  · have h := ite_t c22 h
    refine lv_iconst (v := 0) hx hb d_Op_isAccess_29 (by decide) ?_
    exact w_Op_isAccess_30 C hQ x0 0 H locs ls hX hl h
  · have h := ite_f c22 h
    exact w_Op_isAccess_25 C hQ x0 H locs ls hX hl h
set_option maxHeartbeats 4000000 in
set_option maxRecDepth 100000 in
theorem w_Op_isAccess {ws : va_W} {z : Int32} (C : Cx g A p m c b_Op_isAccess 1 ss args R_Op) (hQ : ∀ (pc : Nat) (H : Heap) (locs : List Loc) (ls : Array Slot), XW g A ss ws H locs → (z = 0 ∨ z = 1) → decode b_Op_isAccess pc = .ok (.ireturn, 1) → W p l e (rmX 1 20) ss m args below meth c H locs 0 0 Q (F0 m pc ls [.int z])) : ∀ (x0 : Int32) (H : Heap) (locs : List Loc) (ls : Array Slot), XW g A ss ws H locs → lv_has ls 1 [(0, .int x0)] → f_Op_isAccess x0 = some z → W p l e (rmX 1 20) ss m args below meth c H locs 0 0 Q (F0 m 0 ls []) := by
  have ⟨⟨hx, hb, hml, hown, hts⟩, hK, hA, hN⟩ := C
  intro x0 H locs ls hX hl h
  rw [f_Op_isAccess] at h
  refine lv_iload_n hx hb d_Op_isAccess_0 rfl (lv_at hl 0 rfl) ?_
  refine lv_bipush (v := 40) hx hb d_Op_isAccess_1 (by decide) ?_
  refine lv_icmp_eq (tgt := 25) hx hb d_Op_isAccess_3 (by decide) (fun c3 => ?_) (fun c3 => ?_)
  · have h := ite_t c3 h
    exact w_Op_isAccess_25 C hQ x0 H locs ls hX hl h
  · have h := ite_f c3 h
    refine lv_iload_n hx hb d_Op_isAccess_6 rfl (lv_at hl 0 rfl) ?_
    refine lv_bipush (v := 44) hx hb d_Op_isAccess_7 (by decide) ?_
    refine lv_icmp_lt (tgt := 18) hx hb d_Op_isAccess_9 (by decide) (fun c9 => ?_) (fun c9 => ?_)
    · have h := ite_t c9 h
      exact w_Op_isAccess_18 C hQ x0 H locs ls hX hl h
    · have h := ite_f c9 h
      refine lv_iload_n hx hb d_Op_isAccess_12 rfl (lv_at hl 0 rfl) ?_
      refine lv_bipush (v := 47) hx hb d_Op_isAccess_13 (by decide) ?_
      refine lv_icmp_le (tgt := 25) hx hb d_Op_isAccess_15 (by decide) (fun c15 => ?_) (fun c15 => ?_)
      · have h := ite_t c15 h
        exact w_Op_isAccess_25 C hQ x0 H locs ls hX hl h
      · have h := ite_f c15 h
        exact w_Op_isAccess_18 C hQ x0 H locs ls hX hl h
end WALK
theorem c_Op_isAccess (l : Launch) (g : GX) (x0 : Int32) (z : Int32) (h : f_Op_isAccess x0 = some z) (ws : va_W) : MI l g y_Op_isAccess b_Op_isAccess 1 (some .boolean) 1 20 [.int x0] ws z ws :=
  MI.mkZ (own := R_Op) (by decide) rfl (Nat.le_of_ble_eq_true rfl) fun p e ss m below meth c A Q C hQ ls hX hl => w_Op_isAccess C hQ x0 _ _ ls hX hl h
-- Op_isNumeric
def f_Op_isNumeric_29 (x0 : Int32) (y0 : Int32) : Option Int32 :=
    bz y0 <|
    some (y0)
def f_Op_isNumeric_24 (x0 : Int32) : Option Int32 :=
    f_Op_isNumeric_29 x0 1
def f_Op_isNumeric_28 (x0 : Int32) : Option Int32 :=
    f_Op_isNumeric_29 x0 0
def f_Op_isNumeric_12 (x0 : Int32) : Option Int32 :=
    if x0 < 103 then
      f_Op_isNumeric_28 x0
    else
      if 120 < x0 then
        f_Op_isNumeric_28 x0
      else
        f_Op_isNumeric_24 x0
def f_Op_isNumeric (x0 : Int32) : Option Int32 :=
    if x0 < 69 then
      f_Op_isNumeric_12 x0
    else
      if x0 ≤ 79 then
        f_Op_isNumeric_24 x0
      else
        f_Op_isNumeric_12 x0
section WALK
variable {p : Program} {l : Launch} {e : Env} {ss : State} {m : MethodId} {args : Array Value} {below : List Frame} {meth : Method} {c : Code} {Q : State → Prop} {g : GX} {A : Nat → Prop}
set_option maxHeartbeats 4000000 in
set_option maxRecDepth 100000 in
theorem w_Op_isNumeric_29 {ws : va_W} {z : Int32} (C : Cx g A p m c b_Op_isNumeric 1 ss args R_Op) (hQ : ∀ (pc : Nat) (H : Heap) (locs : List Loc) (ls : Array Slot), XW g A ss ws H locs → (z = 0 ∨ z = 1) → decode b_Op_isNumeric pc = .ok (.ireturn, 1) → W p l e (rmX 0 0) ss m args below meth c H locs 0 0 Q (F0 m pc ls [.int z])) : ∀ (x0 : Int32) (y0 : Int32) (H : Heap) (locs : List Loc) (ls : Array Slot), XW g A ss ws H locs → lv_has ls 1 [(0, .int x0)] → f_Op_isNumeric_29 x0 y0 = some z → W p l e (rmX 0 0) ss m args below meth c H locs 0 0 Q (F0 m 29 ls [.int y0]) := by
  have ⟨⟨hx, hb, hml, hown, hts⟩, hK, hA, hN⟩ := C
  intro x0 y0 H locs ls hX hl h
  rw [f_Op_isNumeric_29] at h
  obtain ⟨hz, h⟩ := bz_e h
  obtain rfl := so1 h
  exact hQ _ H locs ls hX hz d_Op_isNumeric_29
set_option maxHeartbeats 4000000 in
set_option maxRecDepth 100000 in
theorem w_Op_isNumeric_24 {ws : va_W} {z : Int32} (C : Cx g A p m c b_Op_isNumeric 1 ss args R_Op) (hQ : ∀ (pc : Nat) (H : Heap) (locs : List Loc) (ls : Array Slot), XW g A ss ws H locs → (z = 0 ∨ z = 1) → decode b_Op_isNumeric pc = .ok (.ireturn, 1) → W p l e (rmX 0 0) ss m args below meth c H locs 0 0 Q (F0 m pc ls [.int z])) : ∀ (x0 : Int32) (H : Heap) (locs : List Loc) (ls : Array Slot), XW g A ss ws H locs → lv_has ls 1 [(0, .int x0)] → f_Op_isNumeric_24 x0 = some z → W p l e (rmX 0 0) ss m args below meth c H locs 0 0 Q (F0 m 24 ls []) := by
  have ⟨⟨hx, hb, hml, hown, hts⟩, hK, hA, hN⟩ := C
  intro x0 H locs ls hX hl h
  rw [f_Op_isNumeric_24] at h
  refine lv_iconst (v := 1) hx hb d_Op_isNumeric_24 (by decide) ?_
  refine lv_goto (tgt := 29) hx hb d_Op_isNumeric_25 (by decide) ?_
  exact w_Op_isNumeric_29 C hQ x0 1 H locs ls hX hl h
set_option maxHeartbeats 4000000 in
set_option maxRecDepth 100000 in
theorem w_Op_isNumeric_28 {ws : va_W} {z : Int32} (C : Cx g A p m c b_Op_isNumeric 1 ss args R_Op) (hQ : ∀ (pc : Nat) (H : Heap) (locs : List Loc) (ls : Array Slot), XW g A ss ws H locs → (z = 0 ∨ z = 1) → decode b_Op_isNumeric pc = .ok (.ireturn, 1) → W p l e (rmX 0 0) ss m args below meth c H locs 0 0 Q (F0 m pc ls [.int z])) : ∀ (x0 : Int32) (H : Heap) (locs : List Loc) (ls : Array Slot), XW g A ss ws H locs → lv_has ls 1 [(0, .int x0)] → f_Op_isNumeric_28 x0 = some z → W p l e (rmX 0 0) ss m args below meth c H locs 0 0 Q (F0 m 28 ls []) := by
  have ⟨⟨hx, hb, hml, hown, hts⟩, hK, hA, hN⟩ := C
  intro x0 H locs ls hX hl h
  rw [f_Op_isNumeric_28] at h
  refine lv_iconst (v := 0) hx hb d_Op_isNumeric_28 (by decide) ?_
  exact w_Op_isNumeric_29 C hQ x0 0 H locs ls hX hl h
set_option maxHeartbeats 4000000 in
set_option maxRecDepth 100000 in
theorem w_Op_isNumeric_12 {ws : va_W} {z : Int32} (C : Cx g A p m c b_Op_isNumeric 1 ss args R_Op) (hQ : ∀ (pc : Nat) (H : Heap) (locs : List Loc) (ls : Array Slot), XW g A ss ws H locs → (z = 0 ∨ z = 1) → decode b_Op_isNumeric pc = .ok (.ireturn, 1) → W p l e (rmX 0 0) ss m args below meth c H locs 0 0 Q (F0 m pc ls [.int z])) : ∀ (x0 : Int32) (H : Heap) (locs : List Loc) (ls : Array Slot), XW g A ss ws H locs → lv_has ls 1 [(0, .int x0)] → f_Op_isNumeric_12 x0 = some z → W p l e (rmX 0 0) ss m args below meth c H locs 0 0 Q (F0 m 12 ls []) := by
  have ⟨⟨hx, hb, hml, hown, hts⟩, hK, hA, hN⟩ := C
  intro x0 H locs ls hX hl h
  rw [f_Op_isNumeric_12] at h
  refine lv_iload_n hx hb d_Op_isNumeric_12 rfl (lv_at hl 0 rfl) ?_
  refine lv_bipush (v := 103) hx hb d_Op_isNumeric_13 (by decide) ?_
  refine lv_icmp_lt (tgt := 28) hx hb d_Op_isNumeric_15 (by decide) (fun c15 => ?_) (fun c15 => ?_)
  · have h := ite_t c15 h
    exact w_Op_isNumeric_28 C hQ x0 H locs ls hX hl h
  · have h := ite_f c15 h
    refine lv_iload_n hx hb d_Op_isNumeric_18 rfl (lv_at hl 0 rfl) ?_
    refine lv_bipush (v := 120) hx hb d_Op_isNumeric_19 (by decide) ?_
    refine lv_icmp_gt (tgt := 28) hx hb d_Op_isNumeric_21 (by decide) (fun c21 => ?_) (fun c21 => ?_)
    · have h := ite_t c21 h
      exact w_Op_isNumeric_28 C hQ x0 H locs ls hX hl h
    · have h := ite_f c21 h
      exact w_Op_isNumeric_24 C hQ x0 H locs ls hX hl h
set_option maxHeartbeats 4000000 in
set_option maxRecDepth 100000 in
theorem w_Op_isNumeric {ws : va_W} {z : Int32} (C : Cx g A p m c b_Op_isNumeric 1 ss args R_Op) (hQ : ∀ (pc : Nat) (H : Heap) (locs : List Loc) (ls : Array Slot), XW g A ss ws H locs → (z = 0 ∨ z = 1) → decode b_Op_isNumeric pc = .ok (.ireturn, 1) → W p l e (rmX 0 0) ss m args below meth c H locs 0 0 Q (F0 m pc ls [.int z])) : ∀ (x0 : Int32) (H : Heap) (locs : List Loc) (ls : Array Slot), XW g A ss ws H locs → lv_has ls 1 [(0, .int x0)] → f_Op_isNumeric x0 = some z → W p l e (rmX 0 0) ss m args below meth c H locs 0 0 Q (F0 m 0 ls []) := by
  have ⟨⟨hx, hb, hml, hown, hts⟩, hK, hA, hN⟩ := C
  intro x0 H locs ls hX hl h
  rw [f_Op_isNumeric] at h
  refine lv_iload_n hx hb d_Op_isNumeric_0 rfl (lv_at hl 0 rfl) ?_
  refine lv_bipush (v := 69) hx hb d_Op_isNumeric_1 (by decide) ?_
  refine lv_icmp_lt (tgt := 12) hx hb d_Op_isNumeric_3 (by decide) (fun c3 => ?_) (fun c3 => ?_)
  · have h := ite_t c3 h
    exact w_Op_isNumeric_12 C hQ x0 H locs ls hX hl h
  · have h := ite_f c3 h
    refine lv_iload_n hx hb d_Op_isNumeric_6 rfl (lv_at hl 0 rfl) ?_
    refine lv_bipush (v := 79) hx hb d_Op_isNumeric_7 (by decide) ?_
    refine lv_icmp_le (tgt := 24) hx hb d_Op_isNumeric_9 (by decide) (fun c9 => ?_) (fun c9 => ?_)
    · have h := ite_t c9 h
      exact w_Op_isNumeric_24 C hQ x0 H locs ls hX hl h
    · have h := ite_f c9 h
      exact w_Op_isNumeric_12 C hQ x0 H locs ls hX hl h
end WALK
theorem c_Op_isNumeric (l : Launch) (g : GX) (x0 : Int32) (z : Int32) (h : f_Op_isNumeric x0 = some z) (ws : va_W) : MI l g y_Op_isNumeric b_Op_isNumeric 1 (some .boolean) 0 0 [.int x0] ws z ws :=
  MI.mkZ (own := R_Op) (by decide) rfl (Nat.le_of_ble_eq_true rfl) fun p e ss m below meth c A Q C hQ ls hX hl => w_Op_isNumeric C hQ x0 _ _ ls hX hl h
-- Op_isKnown
def f_Op_isKnown_62 (x0 : Int32) (y0 : Int32) : Option Int32 :=
    bz y0 <|
    some (y0)
def f_Op_isKnown_57 (x0 : Int32) : Option Int32 :=
    f_Op_isKnown_62 x0 1
def f_Op_isKnown_50 (x0 : Int32) : Option Int32 :=
    bd1 (f_Op_isNumeric x0) fun r1 =>
    if r1 = 0 then
      f_Op_isKnown_62 x0 0
    else
      f_Op_isKnown_57 x0
def f_Op_isKnown_31 (x0 : Int32) : Option Int32 :=
    bd1 (f_Op_isAccess x0) fun r1 =>
    if r1 = 0 then
      if x0 < 63 then
        f_Op_isKnown_50 x0
      else
        if x0 ≤ 65 then
          f_Op_isKnown_57 x0
        else
          f_Op_isKnown_50 x0
    else
      f_Op_isKnown_57 x0
def f_Op_isKnown (x0 : Int32) : Option Int32 :=
    bd1 (f_Op_isControl x0) fun r1 =>
    if r1 = 0 then
      if x0 = 26 then
        f_Op_isKnown_57 x0
      else
        if x0 = 27 then
          f_Op_isKnown_57 x0
        else
          if x0 < 32 then
            f_Op_isKnown_31 x0
          else
            if x0 ≤ 36 then
              f_Op_isKnown_57 x0
            else
              f_Op_isKnown_31 x0
    else
      f_Op_isKnown_57 x0
section WALK
variable {p : Program} {l : Launch} {e : Env} {ss : State} {m : MethodId} {args : Array Value} {below : List Frame} {meth : Method} {c : Code} {Q : State → Prop} {g : GX} {A : Nat → Prop}
set_option maxHeartbeats 4000000 in
set_option maxRecDepth 100000 in
theorem w_Op_isKnown_62 {ws : va_W} {z : Int32} (C : Cx g A p m c b_Op_isKnown 1 ss args R_Op) (hQ : ∀ (pc : Nat) (H : Heap) (locs : List Loc) (ls : Array Slot), XW g A ss ws H locs → (z = 0 ∨ z = 1) → decode b_Op_isKnown pc = .ok (.ireturn, 1) → W p l e (rmX 2 40) ss m args below meth c H locs 0 0 Q (F0 m pc ls [.int z])) : ∀ (x0 : Int32) (y0 : Int32) (H : Heap) (locs : List Loc) (ls : Array Slot), XW g A ss ws H locs → lv_has ls 1 [(0, .int x0)] → f_Op_isKnown_62 x0 y0 = some z → W p l e (rmX 2 40) ss m args below meth c H locs 0 0 Q (F0 m 62 ls [.int y0]) := by
  have ⟨⟨hx, hb, hml, hown, hts⟩, hK, hA, hN⟩ := C
  intro x0 y0 H locs ls hX hl h
  rw [f_Op_isKnown_62] at h
  obtain ⟨hz, h⟩ := bz_e h
  obtain rfl := so1 h
  exact hQ _ H locs ls hX hz d_Op_isKnown_62
set_option maxHeartbeats 4000000 in
set_option maxRecDepth 100000 in
theorem w_Op_isKnown_57 {ws : va_W} {z : Int32} (C : Cx g A p m c b_Op_isKnown 1 ss args R_Op) (hQ : ∀ (pc : Nat) (H : Heap) (locs : List Loc) (ls : Array Slot), XW g A ss ws H locs → (z = 0 ∨ z = 1) → decode b_Op_isKnown pc = .ok (.ireturn, 1) → W p l e (rmX 2 40) ss m args below meth c H locs 0 0 Q (F0 m pc ls [.int z])) : ∀ (x0 : Int32) (H : Heap) (locs : List Loc) (ls : Array Slot), XW g A ss ws H locs → lv_has ls 1 [(0, .int x0)] → f_Op_isKnown_57 x0 = some z → W p l e (rmX 2 40) ss m args below meth c H locs 0 0 Q (F0 m 57 ls []) := by
  have ⟨⟨hx, hb, hml, hown, hts⟩, hK, hA, hN⟩ := C
  intro x0 H locs ls hX hl h
  rw [f_Op_isKnown_57] at h
  refine lv_iconst (v := 1) hx hb d_Op_isKnown_57 (by decide) ?_
  refine lv_goto (tgt := 62) hx hb d_Op_isKnown_58 (by decide) ?_
  exact w_Op_isKnown_62 C hQ x0 1 H locs ls hX hl h
set_option maxHeartbeats 4000000 in
set_option maxRecDepth 100000 in
theorem w_Op_isKnown_50 {ws : va_W} {z : Int32} (C : Cx g A p m c b_Op_isKnown 1 ss args R_Op) (hQ : ∀ (pc : Nat) (H : Heap) (locs : List Loc) (ls : Array Slot), XW g A ss ws H locs → (z = 0 ∨ z = 1) → decode b_Op_isKnown pc = .ok (.ireturn, 1) → W p l e (rmX 2 40) ss m args below meth c H locs 0 0 Q (F0 m pc ls [.int z])) : ∀ (x0 : Int32) (H : Heap) (locs : List Loc) (ls : Array Slot), XW g A ss ws H locs → lv_has ls 1 [(0, .int x0)] → f_Op_isKnown_50 x0 = some z → W p l e (rmX 2 40) ss m args below meth c H locs 0 0 Q (F0 m 50 ls []) := by
  have ⟨⟨hx, hb, hml, hown, hts⟩, hK, hA, hN⟩ := C
  intro x0 H locs ls hX hl h
  rw [f_Op_isKnown_50] at h
  refine lv_iload_n hx hb d_Op_isKnown_50 rfl (lv_at hl 0 rfl) ?_
  obtain ⟨r1, hc51, h⟩ := bd1_e h
  refine x_sI (As := [.int x0]) (rest := []) C hX (c_Op_isNumeric l g x0 r1 hc51 _) (cw_Op_18 C.1.2.2.2.2 C.2.2.2 ⟨by decide, by decide⟩) rfl hl.1 rfl (lv_room (Nat.le_of_ble_eq_true rfl)) d_Op_isKnown_51 ⟨Nat.le_refl _, Nat.le_refl _⟩ (fun H locs hX => ?_)
  refine lv_if_eq (tgt := 61) hx hb d_Op_isKnown_54 (by decide) (fun c54 => ?_) (fun c54 => ?_)
  · have h := ite_t c54 h
    refine lv_iconst (v := 0) hx hb d_Op_isKnown_61 (by decide) ?_
    exact w_Op_isKnown_62 C hQ x0 0 H locs ls hX hl h
  · have h := ite_f c54 h
    exact w_Op_isKnown_57 C hQ x0 H locs ls hX hl h
set_option maxHeartbeats 4000000 in
set_option maxRecDepth 100000 in
theorem w_Op_isKnown_31 {ws : va_W} {z : Int32} (C : Cx g A p m c b_Op_isKnown 1 ss args R_Op) (hQ : ∀ (pc : Nat) (H : Heap) (locs : List Loc) (ls : Array Slot), XW g A ss ws H locs → (z = 0 ∨ z = 1) → decode b_Op_isKnown pc = .ok (.ireturn, 1) → W p l e (rmX 2 40) ss m args below meth c H locs 0 0 Q (F0 m pc ls [.int z])) : ∀ (x0 : Int32) (H : Heap) (locs : List Loc) (ls : Array Slot), XW g A ss ws H locs → lv_has ls 1 [(0, .int x0)] → f_Op_isKnown_31 x0 = some z → W p l e (rmX 2 40) ss m args below meth c H locs 0 0 Q (F0 m 31 ls []) := by
  have ⟨⟨hx, hb, hml, hown, hts⟩, hK, hA, hN⟩ := C
  intro x0 H locs ls hX hl h
  rw [f_Op_isKnown_31] at h
  refine lv_iload_n hx hb d_Op_isKnown_31 rfl (lv_at hl 0 rfl) ?_
  obtain ⟨r1, hc32, h⟩ := bd1_e h
  refine x_sI (As := [.int x0]) (rest := []) C hX (c_Op_isAccess l g x0 r1 hc32 _) (cw_Op_15 C.1.2.2.2.2 C.2.2.2 ⟨by decide, by decide⟩) rfl hl.1 rfl (lv_room (Nat.le_of_ble_eq_true rfl)) d_Op_isKnown_32 ⟨Nat.le_refl _, Nat.le_refl _⟩ (fun H locs hX => ?_)
  refine lv_if_ne (tgt := 57) hx hb d_Op_isKnown_35 (by decide) (fun c35 => ?_) (fun c35 => ?_)
  · have h := ite_f c35 h
    exact w_Op_isKnown_57 C hQ x0 H locs ls hX hl h
  · have h := ite_t c35 h
    refine lv_iload_n hx hb d_Op_isKnown_38 rfl (lv_at hl 0 rfl) ?_
    refine lv_bipush (v := 63) hx hb d_Op_isKnown_39 (by decide) ?_
    refine lv_icmp_lt (tgt := 50) hx hb d_Op_isKnown_41 (by decide) (fun c41 => ?_) (fun c41 => ?_)
    · have h := ite_t c41 h
      exact w_Op_isKnown_50 C hQ x0 H locs ls hX hl h
    · have h := ite_f c41 h
      refine lv_iload_n hx hb d_Op_isKnown_44 rfl (lv_at hl 0 rfl) ?_
      refine lv_bipush (v := 65) hx hb d_Op_isKnown_45 (by decide) ?_
      refine lv_icmp_le (tgt := 57) hx hb d_Op_isKnown_47 (by decide) (fun c47 => ?_) (fun c47 => ?_)
      · have h := ite_t c47 h
        exact w_Op_isKnown_57 C hQ x0 H locs ls hX hl h
      · have h := ite_f c47 h
        exact w_Op_isKnown_50 C hQ x0 H locs ls hX hl h
set_option maxHeartbeats 4000000 in
set_option maxRecDepth 100000 in
theorem w_Op_isKnown {ws : va_W} {z : Int32} (C : Cx g A p m c b_Op_isKnown 1 ss args R_Op) (hQ : ∀ (pc : Nat) (H : Heap) (locs : List Loc) (ls : Array Slot), XW g A ss ws H locs → (z = 0 ∨ z = 1) → decode b_Op_isKnown pc = .ok (.ireturn, 1) → W p l e (rmX 2 40) ss m args below meth c H locs 0 0 Q (F0 m pc ls [.int z])) : ∀ (x0 : Int32) (H : Heap) (locs : List Loc) (ls : Array Slot), XW g A ss ws H locs → lv_has ls 1 [(0, .int x0)] → f_Op_isKnown x0 = some z → W p l e (rmX 2 40) ss m args below meth c H locs 0 0 Q (F0 m 0 ls []) := by
  have ⟨⟨hx, hb, hml, hown, hts⟩, hK, hA, hN⟩ := C
  intro x0 H locs ls hX hl h
  rw [f_Op_isKnown] at h
  refine lv_iload_n hx hb d_Op_isKnown_0 rfl (lv_at hl 0 rfl) ?_
  obtain ⟨r1, hc1, h⟩ := bd1_e h
  refine x_sI (As := [.int x0]) (rest := []) C hX (c_Op_isControl l g x0 r1 hc1 _) (cw_Op_9 C.1.2.2.2.2 C.2.2.2 ⟨by decide, by decide⟩) rfl hl.1 rfl (lv_room (Nat.le_of_ble_eq_true rfl)) d_Op_isKnown_1 ⟨Nat.le_refl _, Nat.le_refl _⟩ (fun H locs hX => ?_)
  refine lv_if_ne (tgt := 57) hx hb d_Op_isKnown_4 (by decide) (fun c4 => ?_) (fun c4 => ?_)
  · have h := ite_f c4 h
    exact w_Op_isKnown_57 C hQ x0 H locs ls hX hl h
  · have h := ite_t c4 h
    refine lv_iload_n hx hb d_Op_isKnown_7 rfl (lv_at hl 0 rfl) ?_
    refine lv_bipush (v := 26) hx hb d_Op_isKnown_8 (by decide) ?_
    refine lv_icmp_eq (tgt := 57) hx hb d_Op_isKnown_10 (by decide) (fun c10 => ?_) (fun c10 => ?_)
    · have h := ite_t c10 h
      exact w_Op_isKnown_57 C hQ x0 H locs ls hX hl h
    · have h := ite_f c10 h
      refine lv_iload_n hx hb d_Op_isKnown_13 rfl (lv_at hl 0 rfl) ?_
      refine lv_bipush (v := 27) hx hb d_Op_isKnown_14 (by decide) ?_
      refine lv_icmp_eq (tgt := 57) hx hb d_Op_isKnown_16 (by decide) (fun c16 => ?_) (fun c16 => ?_)
      · have h := ite_t c16 h
        exact w_Op_isKnown_57 C hQ x0 H locs ls hX hl h
      · have h := ite_f c16 h
        refine lv_iload_n hx hb d_Op_isKnown_19 rfl (lv_at hl 0 rfl) ?_
        refine lv_bipush (v := 32) hx hb d_Op_isKnown_20 (by decide) ?_
        refine lv_icmp_lt (tgt := 31) hx hb d_Op_isKnown_22 (by decide) (fun c22 => ?_) (fun c22 => ?_)
        · have h := ite_t c22 h
          exact w_Op_isKnown_31 C hQ x0 H locs ls hX hl h
        · have h := ite_f c22 h
          refine lv_iload_n hx hb d_Op_isKnown_25 rfl (lv_at hl 0 rfl) ?_
          refine lv_bipush (v := 36) hx hb d_Op_isKnown_26 (by decide) ?_
          refine lv_icmp_le (tgt := 57) hx hb d_Op_isKnown_28 (by decide) (fun c28 => ?_) (fun c28 => ?_)
          · have h := ite_t c28 h
            exact w_Op_isKnown_57 C hQ x0 H locs ls hX hl h
          · have h := ite_f c28 h
            exact w_Op_isKnown_31 C hQ x0 H locs ls hX hl h
end WALK
theorem c_Op_isKnown (l : Launch) (g : GX) (x0 : Int32) (z : Int32) (h : f_Op_isKnown x0 = some z) (ws : va_W) : MI l g y_Op_isKnown b_Op_isKnown 1 (some .boolean) 2 40 [.int x0] ws z ws :=
  MI.mkZ (own := R_Op) (by decide) rfl (Nat.le_of_ble_eq_true rfl) fun p e ss m below meth c A Q C hQ ls hX hl => w_Op_isKnown C hQ x0 _ _ ls hX hl h
-- Op_opensBlock
def f_Op_opensBlock_20 (x0 : Int32) (y0 : Int32) : Option Int32 :=
    bz y0 <|
    some (y0)
def f_Op_opensBlock_15 (x0 : Int32) : Option Int32 :=
    f_Op_opensBlock_20 x0 1
def f_Op_opensBlock (x0 : Int32) : Option Int32 :=
    if x0 = 2 then
      f_Op_opensBlock_15 x0
    else
      if x0 = 3 then
        f_Op_opensBlock_15 x0
      else
        if x0 = 4 then
          f_Op_opensBlock_15 x0
        else
          f_Op_opensBlock_20 x0 0
section WALK
variable {p : Program} {l : Launch} {e : Env} {ss : State} {m : MethodId} {args : Array Value} {below : List Frame} {meth : Method} {c : Code} {Q : State → Prop} {g : GX} {A : Nat → Prop}
set_option maxHeartbeats 4000000 in
set_option maxRecDepth 100000 in
theorem w_Op_opensBlock_20 {ws : va_W} {z : Int32} (C : Cx g A p m c b_Op_opensBlock 1 ss args R_Op) (hQ : ∀ (pc : Nat) (H : Heap) (locs : List Loc) (ls : Array Slot), XW g A ss ws H locs → (z = 0 ∨ z = 1) → decode b_Op_opensBlock pc = .ok (.ireturn, 1) → W p l e (rmX 0 0) ss m args below meth c H locs 0 0 Q (F0 m pc ls [.int z])) : ∀ (x0 : Int32) (y0 : Int32) (H : Heap) (locs : List Loc) (ls : Array Slot), XW g A ss ws H locs → lv_has ls 1 [(0, .int x0)] → f_Op_opensBlock_20 x0 y0 = some z → W p l e (rmX 0 0) ss m args below meth c H locs 0 0 Q (F0 m 20 ls [.int y0]) := by
  have ⟨⟨hx, hb, hml, hown, hts⟩, hK, hA, hN⟩ := C
  intro x0 y0 H locs ls hX hl h
  rw [f_Op_opensBlock_20] at h
  obtain ⟨hz, h⟩ := bz_e h
  obtain rfl := so1 h
  exact hQ _ H locs ls hX hz d_Op_opensBlock_20
set_option maxHeartbeats 4000000 in
set_option maxRecDepth 100000 in
theorem w_Op_opensBlock_15 {ws : va_W} {z : Int32} (C : Cx g A p m c b_Op_opensBlock 1 ss args R_Op) (hQ : ∀ (pc : Nat) (H : Heap) (locs : List Loc) (ls : Array Slot), XW g A ss ws H locs → (z = 0 ∨ z = 1) → decode b_Op_opensBlock pc = .ok (.ireturn, 1) → W p l e (rmX 0 0) ss m args below meth c H locs 0 0 Q (F0 m pc ls [.int z])) : ∀ (x0 : Int32) (H : Heap) (locs : List Loc) (ls : Array Slot), XW g A ss ws H locs → lv_has ls 1 [(0, .int x0)] → f_Op_opensBlock_15 x0 = some z → W p l e (rmX 0 0) ss m args below meth c H locs 0 0 Q (F0 m 15 ls []) := by
  have ⟨⟨hx, hb, hml, hown, hts⟩, hK, hA, hN⟩ := C
  intro x0 H locs ls hX hl h
  rw [f_Op_opensBlock_15] at h
  refine lv_iconst (v := 1) hx hb d_Op_opensBlock_15 (by decide) ?_
  refine lv_goto (tgt := 20) hx hb d_Op_opensBlock_16 (by decide) ?_
  exact w_Op_opensBlock_20 C hQ x0 1 H locs ls hX hl h
set_option maxHeartbeats 4000000 in
set_option maxRecDepth 100000 in
theorem w_Op_opensBlock {ws : va_W} {z : Int32} (C : Cx g A p m c b_Op_opensBlock 1 ss args R_Op) (hQ : ∀ (pc : Nat) (H : Heap) (locs : List Loc) (ls : Array Slot), XW g A ss ws H locs → (z = 0 ∨ z = 1) → decode b_Op_opensBlock pc = .ok (.ireturn, 1) → W p l e (rmX 0 0) ss m args below meth c H locs 0 0 Q (F0 m pc ls [.int z])) : ∀ (x0 : Int32) (H : Heap) (locs : List Loc) (ls : Array Slot), XW g A ss ws H locs → lv_has ls 1 [(0, .int x0)] → f_Op_opensBlock x0 = some z → W p l e (rmX 0 0) ss m args below meth c H locs 0 0 Q (F0 m 0 ls []) := by
  have ⟨⟨hx, hb, hml, hown, hts⟩, hK, hA, hN⟩ := C
  intro x0 H locs ls hX hl h
  rw [f_Op_opensBlock] at h
  refine lv_iload_n hx hb d_Op_opensBlock_0 rfl (lv_at hl 0 rfl) ?_
  refine lv_iconst (v := 2) hx hb d_Op_opensBlock_1 (by decide) ?_
  refine lv_icmp_eq (tgt := 15) hx hb d_Op_opensBlock_2 (by decide) (fun c2 => ?_) (fun c2 => ?_)
  · have h := ite_t c2 h
    exact w_Op_opensBlock_15 C hQ x0 H locs ls hX hl h
  · have h := ite_f c2 h
    refine lv_iload_n hx hb d_Op_opensBlock_5 rfl (lv_at hl 0 rfl) ?_
    refine lv_iconst (v := 3) hx hb d_Op_opensBlock_6 (by decide) ?_
    refine lv_icmp_eq (tgt := 15) hx hb d_Op_opensBlock_7 (by decide) (fun c7 => ?_) (fun c7 => ?_)
    · have h := ite_t c7 h
      exact w_Op_opensBlock_15 C hQ x0 H locs ls hX hl h
    · have h := ite_f c7 h
      refine lv_iload_n hx hb d_Op_opensBlock_10 rfl (lv_at hl 0 rfl) ?_
      refine lv_iconst (v := 4) hx hb d_Op_opensBlock_11 (by decide) ?_
      refine lv_icmp_ne (tgt := 19) hx hb d_Op_opensBlock_12 (by decide) (fun c12 => ?_) (fun c12 => ?_)
      · have h := ite_f c12 h
        refine lv_iconst (v := 0) hx hb d_Op_opensBlock_19 (by decide) ?_
        exact w_Op_opensBlock_20 C hQ x0 0 H locs ls hX hl h
      · have h := ite_t c12 h
        exact w_Op_opensBlock_15 C hQ x0 H locs ls hX hl h
end WALK
theorem c_Op_opensBlock (l : Launch) (g : GX) (x0 : Int32) (z : Int32) (h : f_Op_opensBlock x0 = some z) (ws : va_W) : MI l g y_Op_opensBlock b_Op_opensBlock 1 (some .boolean) 0 0 [.int x0] ws z ws :=
  MI.mkZ (own := R_Op) (by decide) rfl (Nat.le_of_ble_eq_true rfl) fun p e ss m below meth c A Q C hQ ls hX hl => w_Op_opensBlock C hQ x0 _ _ ls hX hl h
-- Rd_openBlock
def f_Rd_openBlock_31 (x1 : Int32) (x2 : Int32) (s : St) : Option St :=
    lt1 (tSet s 21 240 7 x1 1 x2) fun s1 =>
    lt1 (rSet s1 25 11 (s1 2 0) x1) fun s2 =>
    lt1 (s2 2 0 + 1) fun v3 =>
    lt1 (stp s2 2 0 v3) fun s4 =>
    some s4
def f_Rd_openBlock_26 (x1 : Int32) (x2 : Int32) (s : St) : Option St :=
    bd1 (f_Rd_refuse 2 s) fun s1 =>
    f_Rd_openBlock_31 x1 x2 s1
def f_Rd_openBlock_17 (x1 : Int32) (x2 : Int32) (s : St) : Option St :=
    if s 2 0 ≤ 10 then
      f_Rd_openBlock_31 x1 x2 s
    else
      f_Rd_openBlock_26 x1 x2 s
def f_Rd_openBlock (x1 : Int32) (s : St) : Option St :=
    bd (f_Rd_nextByte s) fun r2 s1 =>
    if r2 = 127 then
      f_Rd_openBlock_17 x1 r2 s1
    else
      if r2 = 64 then
        f_Rd_openBlock_17 x1 r2 s1
      else
        f_Rd_openBlock_26 x1 r2 s1
section WALK
variable {p : Program} {l : Launch} {e : Env} {ss : State} {m : MethodId} {args : Array Value} {below : List Frame} {meth : Method} {c : Code} {Q : State → Prop} {g : GX} {A : Nat → Prop}
set_option maxHeartbeats 4000000 in
set_option maxRecDepth 100000 in
theorem w_Rd_openBlock_31 {z : St} (C : Cx g A p m c b_Rd_openBlock 3 ss args R_Rd) (hQ : ∀ (pc : Nat) (H : Heap) (locs : List Loc) (ls : Array Slot), XW g A ss (wX g z) H locs → decode b_Rd_openBlock pc = .ok (.return_, 1) → W p l e (rmX 1 24) ss m args below meth c H locs 0 0 Q (F0 m pc ls [])) : ∀ (x1 : Int32) (x2 : Int32) (s : St) (H : Heap) (locs : List Loc) (ls : Array Slot), XW g A ss (wX g s) H locs → lv_has ls 3 [(0, .ref (g.q 2)), (1, .int x1), (2, .int x2)] → f_Rd_openBlock_31 x1 x2 s = some z → W p l e (rmX 1 24) ss m args below meth c H locs 0 0 Q (F0 m 31 ls []) := by
  have ⟨⟨hx, hb, hml, hown, hts⟩, hK, hA, hN⟩ := C
  intro x1 x2 s H locs ls hX hl h
  rw [f_Rd_openBlock_31] at h
  refine lv_aload_n hx hb d_Rd_openBlock_31 rfl (lv_at hl 0 rfl) ?_
  refine gf_2_contents C hX fl_Rd_24 d_Rd_openBlock_32 ?_
  refine gf_1_code C hX fl_Rd_159 d_Rd_openBlock_35 ?_
  refine lv_iload_n hx hb d_Rd_openBlock_38 rfl (lv_at hl 1 rfl) ?_
  refine lv_iconst (v := 1) hx hb d_Rd_openBlock_39 (by decide) ?_
  refine lv_iload_n hx hb d_Rd_openBlock_40 rfl (lv_at hl 2 rfl) ?_
  obtain ⟨s1, es1, h⟩ := lt1_e h
  refine x_vV (ws' := wX g s1) (As := [.int x1, .int 1, .int x2]) (rest := []) C hX (by rw [es1]; exact cTabSet_20 l g s x1 1 x2) (cw_Rd_98 C.1.2.2.2.2 C.2.2.2 ⟨by decide, by decide⟩) (x_rc C hX wg_20 rfl) rfl hl.1 rfl (lv_room (Nat.le_of_ble_eq_true rfl)) d_Rd_openBlock_41 ⟨Nat.le_refl _, Nat.le_refl _⟩ (fun H locs hX => ?_)
  refine lv_aload_n hx hb d_Rd_openBlock_44 rfl (lv_at hl 0 rfl) ?_
  refine gf_2_open C hX fl_Rd_20 d_Rd_openBlock_45 ?_
  refine lv_aload_n hx hb d_Rd_openBlock_48 rfl (lv_at hl 0 rfl) ?_
  refine gf_2_openCount C hX fl_Rd_164 d_Rd_openBlock_49 ?_
  refine lv_iload_n hx hb d_Rd_openBlock_52 rfl (lv_at hl 1 rfl) ?_
  obtain ⟨s2, es2, h⟩ := lt1_e h
  refine x_vV (ws' := wX g s2) (As := [.int (s1 2 0), .int x1]) (rest := []) C hX (by rw [es2]; exact cRowSet_24 l g s1 (s1 2 0) x1) (cw_Rd_162 C.1.2.2.2.2 C.2.2.2 ⟨by decide, by decide⟩) (x_rc C hX wg_24 rfl) rfl hl.1 rfl (lv_room (Nat.le_of_ble_eq_true rfl)) d_Rd_openBlock_53 ⟨Nat.le_refl _, Nat.le_refl _⟩ (fun H locs hX => ?_)
  refine lv_aload_n hx hb d_Rd_openBlock_56 rfl (lv_at hl 0 rfl) ?_
  refine lv_dup hx hb d_Rd_openBlock_57 rfl ?_
  refine gf_2_openCount C hX fl_Rd_164 d_Rd_openBlock_58 ?_
  refine lv_iconst (v := 1) hx hb d_Rd_openBlock_61 (by decide) ?_
  obtain ⟨v3, ev3, h⟩ := lt1_e h
  refine x_iadd hx hb d_Rd_openBlock_62 ev3 ?_
  obtain ⟨s4, es4, h⟩ := lt1_e h
  refine pf_2_openCount C hX fl_Rd_164 d_Rd_openBlock_63 (fun H locs hX => ?_)
  rw [← es4] at hX
  obtain rfl := so1 h
  exact hQ _ H locs ls hX d_Rd_openBlock_66
set_option maxHeartbeats 4000000 in
set_option maxRecDepth 100000 in
theorem w_Rd_openBlock_26 {z : St} (C : Cx g A p m c b_Rd_openBlock 3 ss args R_Rd) (hQ : ∀ (pc : Nat) (H : Heap) (locs : List Loc) (ls : Array Slot), XW g A ss (wX g z) H locs → decode b_Rd_openBlock pc = .ok (.return_, 1) → W p l e (rmX 1 24) ss m args below meth c H locs 0 0 Q (F0 m pc ls [])) : ∀ (x1 : Int32) (x2 : Int32) (s : St) (H : Heap) (locs : List Loc) (ls : Array Slot), XW g A ss (wX g s) H locs → lv_has ls 3 [(0, .ref (g.q 2)), (1, .int x1), (2, .int x2)] → f_Rd_openBlock_26 x1 x2 s = some z → W p l e (rmX 1 24) ss m args below meth c H locs 0 0 Q (F0 m 26 ls []) := by
  have ⟨⟨hx, hb, hml, hown, hts⟩, hK, hA, hN⟩ := C
  intro x1 x2 s H locs ls hX hl h
  rw [f_Rd_openBlock_26] at h
  refine lv_aload_n hx hb d_Rd_openBlock_26 rfl (lv_at hl 0 rfl) ?_
  refine lv_iconst (v := 2) hx hb d_Rd_openBlock_27 (by decide) ?_
  obtain ⟨s1, hc28, h⟩ := bd1_e h
  refine x_vV (As := [.int 2]) (rest := []) C hX (c_Rd_refuse l g 2 s s1 hc28) (cw_Rd_75 C.1.2.2.2.2 C.2.2.2 ⟨by decide, by decide⟩) (x_rc C hX wg_2 rfl) rfl hl.1 rfl (lv_room (Nat.le_of_ble_eq_true rfl)) d_Rd_openBlock_28 ⟨Nat.le_refl _, Nat.le_refl _⟩ (fun H locs hX => ?_)
  exact w_Rd_openBlock_31 C hQ x1 x2 s1 H locs ls hX hl h
set_option maxHeartbeats 4000000 in
set_option maxRecDepth 100000 in
theorem w_Rd_openBlock_17 {z : St} (C : Cx g A p m c b_Rd_openBlock 3 ss args R_Rd) (hQ : ∀ (pc : Nat) (H : Heap) (locs : List Loc) (ls : Array Slot), XW g A ss (wX g z) H locs → decode b_Rd_openBlock pc = .ok (.return_, 1) → W p l e (rmX 1 24) ss m args below meth c H locs 0 0 Q (F0 m pc ls [])) : ∀ (x1 : Int32) (x2 : Int32) (s : St) (H : Heap) (locs : List Loc) (ls : Array Slot), XW g A ss (wX g s) H locs → lv_has ls 3 [(0, .ref (g.q 2)), (1, .int x1), (2, .int x2)] → f_Rd_openBlock_17 x1 x2 s = some z → W p l e (rmX 1 24) ss m args below meth c H locs 0 0 Q (F0 m 17 ls []) := by
  have ⟨⟨hx, hb, hml, hown, hts⟩, hK, hA, hN⟩ := C
  intro x1 x2 s H locs ls hX hl h
  rw [f_Rd_openBlock_17] at h
  refine lv_aload_n hx hb d_Rd_openBlock_17 rfl (lv_at hl 0 rfl) ?_
  refine gf_2_openCount C hX fl_Rd_164 d_Rd_openBlock_18 ?_
  refine lv_bipush (v := 10) hx hb d_Rd_openBlock_21 (by decide) ?_
  refine lv_icmp_le (tgt := 31) hx hb d_Rd_openBlock_23 (by decide) (fun c23 => ?_) (fun c23 => ?_)
  · have h := ite_t c23 h
    exact w_Rd_openBlock_31 C hQ x1 x2 s H locs ls hX hl h
  · have h := ite_f c23 h
    exact w_Rd_openBlock_26 C hQ x1 x2 s H locs ls hX hl h
set_option maxHeartbeats 4000000 in
set_option maxRecDepth 100000 in
theorem w_Rd_openBlock {z : St} (C : Cx g A p m c b_Rd_openBlock 3 ss args R_Rd) (hQ : ∀ (pc : Nat) (H : Heap) (locs : List Loc) (ls : Array Slot), XW g A ss (wX g z) H locs → decode b_Rd_openBlock pc = .ok (.return_, 1) → W p l e (rmX 1 24) ss m args below meth c H locs 0 0 Q (F0 m pc ls [])) : ∀ (x1 : Int32) (s : St) (H : Heap) (locs : List Loc) (ls : Array Slot), XW g A ss (wX g s) H locs → lv_has ls 3 [(0, .ref (g.q 2)), (1, .int x1)] → f_Rd_openBlock x1 s = some z → W p l e (rmX 1 24) ss m args below meth c H locs 0 0 Q (F0 m 0 ls []) := by
  have ⟨⟨hx, hb, hml, hown, hts⟩, hK, hA, hN⟩ := C
  intro x1 s H locs ls hX hl h
  rw [f_Rd_openBlock] at h
  refine lv_aload_n hx hb d_Rd_openBlock_0 rfl (lv_at hl 0 rfl) ?_
  obtain ⟨r2, s1, hc1, h⟩ := bd_e h
  refine x_vI (As := []) (rest := []) C hX (c_Rd_nextByte l g s (r2, s1) hc1) (cw_Rd_55 C.1.2.2.2.2 C.2.2.2 ⟨by decide, by decide⟩) (x_rc C hX wg_2 rfl) rfl hl.1 rfl (lv_room (Nat.le_of_ble_eq_true rfl)) d_Rd_openBlock_1 ⟨Nat.le_refl _, Nat.le_refl _⟩ (fun H locs hX => ?_)
  refine lv_istore_n (lv' := [(2, .int r2), (0, .ref (g.q 2)), (1, .int x1)]) hx hb d_Rd_openBlock_4 rfl hl (by decide) rfl (fun ls hl => ?_)
  refine lv_iload_n hx hb d_Rd_openBlock_5 rfl (lv_at hl 0 rfl) ?_
  refine lv_bipush (v := 127) hx hb d_Rd_openBlock_6 (by decide) ?_
  refine lv_icmp_eq (tgt := 17) hx hb d_Rd_openBlock_8 (by decide) (fun c8 => ?_) (fun c8 => ?_)
  · have h := ite_t c8 h
    exact w_Rd_openBlock_17 C hQ x1 r2 s1 H locs ls hX (lv_sub hl [1, 2, 0] rfl) h
  · have h := ite_f c8 h
    refine lv_iload_n hx hb d_Rd_openBlock_11 rfl (lv_at hl 0 rfl) ?_
    refine lv_bipush (v := 64) hx hb d_Rd_openBlock_12 (by decide) ?_
    refine lv_icmp_ne (tgt := 26) hx hb d_Rd_openBlock_14 (by decide) (fun c14 => ?_) (fun c14 => ?_)
    · have h := ite_f c14 h
      exact w_Rd_openBlock_26 C hQ x1 r2 s1 H locs ls hX (lv_sub hl [1, 2, 0] rfl) h
    · have h := ite_t c14 h
      exact w_Rd_openBlock_17 C hQ x1 r2 s1 H locs ls hX (lv_sub hl [1, 2, 0] rfl) h
end WALK
theorem c_Rd_openBlock (l : Launch) (g : GX) (x1 : Int32) (s : St) (z : St) (h : f_Rd_openBlock x1 s = some z) : MV l g y_Rd_openBlock b_Rd_openBlock 3 none 1 24 [.ref (g.q 2), .int x1] (wX g s) (wX g z) :=
  MV.mk (own := R_Rd) (by decide) rfl (Nat.le_of_ble_eq_true rfl) fun p e ss m below meth c A Q C hQ ls hX hl => w_Rd_openBlock C hQ x1 s _ _ ls hX hl h
-- Rd_turnBlock
def f_Rd_turnBlock_50 (x1 : Int32) (x2 : Int32) (s : St) : Option St :=
    lt1 (tSet s 21 240 7 x2 3 x1) fun s1 =>
    some s1
def f_Rd_turnBlock_45 (x1 : Int32) (x2 : Int32) (s : St) : Option St :=
    bd1 (f_Rd_refuse 1 s) fun s1 =>
    f_Rd_turnBlock_50 x1 x2 s1
def f_Rd_turnBlock (x1 : Int32) (s : St) : Option St :=
    lt1 (s 2 0 - 1) fun v1 =>
    lt1 (rGet 11 (s 25) v1) fun r2 =>
    lt1 (tGet 240 7 (s 21) r2 0) fun r3 =>
    if r3 = 4 then
      lt1 (tGet 240 7 (s 21) r2 3) fun r4 =>
      if r4 = 0 then
        f_Rd_turnBlock_50 x1 r2 s
      else
        f_Rd_turnBlock_45 x1 r2 s
    else
      f_Rd_turnBlock_45 x1 r2 s
section WALK
variable {p : Program} {l : Launch} {e : Env} {ss : State} {m : MethodId} {args : Array Value} {below : List Frame} {meth : Method} {c : Code} {Q : State → Prop} {g : GX} {A : Nat → Prop}
set_option maxHeartbeats 4000000 in
set_option maxRecDepth 100000 in
theorem w_Rd_turnBlock_50 {z : St} (C : Cx g A p m c b_Rd_turnBlock 3 ss args R_Rd) (hQ : ∀ (pc : Nat) (H : Heap) (locs : List Loc) (ls : Array Slot), XW g A ss (wX g z) H locs → decode b_Rd_turnBlock pc = .ok (.return_, 1) → W p l e (rmX 1 24) ss m args below meth c H locs 0 0 Q (F0 m pc ls [])) : ∀ (x1 : Int32) (x2 : Int32) (s : St) (H : Heap) (locs : List Loc) (ls : Array Slot), XW g A ss (wX g s) H locs → lv_has ls 3 [(0, .ref (g.q 2)), (1, .int x1), (2, .int x2)] → f_Rd_turnBlock_50 x1 x2 s = some z → W p l e (rmX 1 24) ss m args below meth c H locs 0 0 Q (F0 m 50 ls []) := by
  have ⟨⟨hx, hb, hml, hown, hts⟩, hK, hA, hN⟩ := C
  intro x1 x2 s H locs ls hX hl h
  rw [f_Rd_turnBlock_50] at h
  refine lv_aload_n hx hb d_Rd_turnBlock_50 rfl (lv_at hl 0 rfl) ?_
  refine gf_2_contents C hX fl_Rd_24 d_Rd_turnBlock_51 ?_
  refine gf_1_code C hX fl_Rd_159 d_Rd_turnBlock_54 ?_
  refine lv_iload_n hx hb d_Rd_turnBlock_57 rfl (lv_at hl 2 rfl) ?_
  refine lv_iconst (v := 3) hx hb d_Rd_turnBlock_58 (by decide) ?_
  refine lv_iload_n hx hb d_Rd_turnBlock_59 rfl (lv_at hl 1 rfl) ?_
  obtain ⟨s1, es1, h⟩ := lt1_e h
  refine x_vV (ws' := wX g s1) (As := [.int x2, .int 3, .int x1]) (rest := []) C hX (by rw [es1]; exact cTabSet_20 l g s x2 3 x1) (cw_Rd_98 C.1.2.2.2.2 C.2.2.2 ⟨by decide, by decide⟩) (x_rc C hX wg_20 rfl) rfl hl.1 rfl (lv_room (Nat.le_of_ble_eq_true rfl)) d_Rd_turnBlock_60 ⟨Nat.le_refl _, Nat.le_refl _⟩ (fun H locs hX => ?_)
  obtain rfl := so1 h
  exact hQ _ H locs ls hX d_Rd_turnBlock_63
set_option maxHeartbeats 4000000 in
set_option maxRecDepth 100000 in
theorem w_Rd_turnBlock_45 {z : St} (C : Cx g A p m c b_Rd_turnBlock 3 ss args R_Rd) (hQ : ∀ (pc : Nat) (H : Heap) (locs : List Loc) (ls : Array Slot), XW g A ss (wX g z) H locs → decode b_Rd_turnBlock pc = .ok (.return_, 1) → W p l e (rmX 1 24) ss m args below meth c H locs 0 0 Q (F0 m pc ls [])) : ∀ (x1 : Int32) (x2 : Int32) (s : St) (H : Heap) (locs : List Loc) (ls : Array Slot), XW g A ss (wX g s) H locs → lv_has ls 3 [(0, .ref (g.q 2)), (1, .int x1), (2, .int x2)] → f_Rd_turnBlock_45 x1 x2 s = some z → W p l e (rmX 1 24) ss m args below meth c H locs 0 0 Q (F0 m 45 ls []) := by
  have ⟨⟨hx, hb, hml, hown, hts⟩, hK, hA, hN⟩ := C
  intro x1 x2 s H locs ls hX hl h
  rw [f_Rd_turnBlock_45] at h
  refine lv_aload_n hx hb d_Rd_turnBlock_45 rfl (lv_at hl 0 rfl) ?_
  refine lv_iconst (v := 1) hx hb d_Rd_turnBlock_46 (by decide) ?_
  obtain ⟨s1, hc47, h⟩ := bd1_e h
  refine x_vV (As := [.int 1]) (rest := []) C hX (c_Rd_refuse l g 1 s s1 hc47) (cw_Rd_75 C.1.2.2.2.2 C.2.2.2 ⟨by decide, by decide⟩) (x_rc C hX wg_2 rfl) rfl hl.1 rfl (lv_room (Nat.le_of_ble_eq_true rfl)) d_Rd_turnBlock_47 ⟨Nat.le_refl _, Nat.le_refl _⟩ (fun H locs hX => ?_)
  exact w_Rd_turnBlock_50 C hQ x1 x2 s1 H locs ls hX hl h
set_option maxHeartbeats 4000000 in
set_option maxRecDepth 100000 in
theorem w_Rd_turnBlock {z : St} (C : Cx g A p m c b_Rd_turnBlock 3 ss args R_Rd) (hQ : ∀ (pc : Nat) (H : Heap) (locs : List Loc) (ls : Array Slot), XW g A ss (wX g z) H locs → decode b_Rd_turnBlock pc = .ok (.return_, 1) → W p l e (rmX 1 24) ss m args below meth c H locs 0 0 Q (F0 m pc ls [])) : ∀ (x1 : Int32) (s : St) (H : Heap) (locs : List Loc) (ls : Array Slot), XW g A ss (wX g s) H locs → lv_has ls 3 [(0, .ref (g.q 2)), (1, .int x1)] → f_Rd_turnBlock x1 s = some z → W p l e (rmX 1 24) ss m args below meth c H locs 0 0 Q (F0 m 0 ls []) := by
  have ⟨⟨hx, hb, hml, hown, hts⟩, hK, hA, hN⟩ := C
  intro x1 s H locs ls hX hl h
  rw [f_Rd_turnBlock] at h
  refine lv_aload_n hx hb d_Rd_turnBlock_0 rfl (lv_at hl 0 rfl) ?_
  refine gf_2_open C hX fl_Rd_20 d_Rd_turnBlock_1 ?_
  refine lv_aload_n hx hb d_Rd_turnBlock_4 rfl (lv_at hl 0 rfl) ?_
  refine gf_2_openCount C hX fl_Rd_164 d_Rd_turnBlock_5 ?_
  refine lv_iconst (v := 1) hx hb d_Rd_turnBlock_8 (by decide) ?_
  obtain ⟨v1, ev1, h⟩ := lt1_e h
  refine x_isub hx hb d_Rd_turnBlock_9 ev1 ?_
  obtain ⟨r2, er2, h⟩ := lt1_e h
  refine x_vI (r := r2) (ws' := wX g s) (As := [.int v1]) (rest := []) C hX (by rw [er2]; exact cRowGet_24 l g s v1) (cw_Rd_198 C.1.2.2.2.2 C.2.2.2 ⟨by decide, by decide⟩) (x_rc C hX wg_24 rfl) rfl hl.1 rfl (lv_room (Nat.le_of_ble_eq_true rfl)) d_Rd_turnBlock_10 ⟨Nat.le_refl _, Nat.le_refl _⟩ (fun H locs hX => ?_)
  refine lv_istore_n (lv' := [(2, .int r2), (0, .ref (g.q 2)), (1, .int x1)]) hx hb d_Rd_turnBlock_13 rfl hl (by decide) rfl (fun ls hl => ?_)
  refine lv_aload_n hx hb d_Rd_turnBlock_14 rfl (lv_at hl 1 rfl) ?_
  refine gf_2_contents C hX fl_Rd_24 d_Rd_turnBlock_15 ?_
  refine gf_1_code C hX fl_Rd_159 d_Rd_turnBlock_18 ?_
  refine lv_iload_n hx hb d_Rd_turnBlock_21 rfl (lv_at hl 0 rfl) ?_
  refine lv_iconst (v := 0) hx hb d_Rd_turnBlock_22 (by decide) ?_
  obtain ⟨r3, er3, h⟩ := lt1_e h
  refine x_vI (r := r3) (ws' := wX g s) (As := [.int r2, .int 0]) (rest := []) C hX (by rw [er3]; exact cTabGet_20 l g s r2 0) (cw_Rd_201 C.1.2.2.2.2 C.2.2.2 ⟨by decide, by decide⟩) (x_rc C hX wg_20 rfl) rfl hl.1 rfl (lv_room (Nat.le_of_ble_eq_true rfl)) d_Rd_turnBlock_23 ⟨Nat.le_refl _, Nat.le_refl _⟩ (fun H locs hX => ?_)
  refine lv_iconst (v := 4) hx hb d_Rd_turnBlock_26 (by decide) ?_
  refine lv_icmp_ne (tgt := 45) hx hb d_Rd_turnBlock_27 (by decide) (fun c27 => ?_) (fun c27 => ?_)
  · have h := ite_f c27 h
    exact w_Rd_turnBlock_45 C hQ x1 r2 s H locs ls hX (lv_sub hl [1, 2, 0] rfl) h
  · have h := ite_t c27 h
    refine lv_aload_n hx hb d_Rd_turnBlock_30 rfl (lv_at hl 1 rfl) ?_
    refine gf_2_contents C hX fl_Rd_24 d_Rd_turnBlock_31 ?_
    refine gf_1_code C hX fl_Rd_159 d_Rd_turnBlock_34 ?_
    refine lv_iload_n hx hb d_Rd_turnBlock_37 rfl (lv_at hl 0 rfl) ?_
    refine lv_iconst (v := 3) hx hb d_Rd_turnBlock_38 (by decide) ?_
    obtain ⟨r4, er4, h⟩ := lt1_e h
    refine x_vI (r := r4) (ws' := wX g s) (As := [.int r2, .int 3]) (rest := []) C hX (by rw [er4]; exact cTabGet_20 l g s r2 3) (cw_Rd_201 C.1.2.2.2.2 C.2.2.2 ⟨by decide, by decide⟩) (x_rc C hX wg_20 rfl) rfl hl.1 rfl (lv_room (Nat.le_of_ble_eq_true rfl)) d_Rd_turnBlock_39 ⟨Nat.le_refl _, Nat.le_refl _⟩ (fun H locs hX => ?_)
    refine lv_if_eq (tgt := 50) hx hb d_Rd_turnBlock_42 (by decide) (fun c42 => ?_) (fun c42 => ?_)
    · have h := ite_t c42 h
      exact w_Rd_turnBlock_50 C hQ x1 r2 s H locs ls hX (lv_sub hl [1, 2, 0] rfl) h
    · have h := ite_f c42 h
      exact w_Rd_turnBlock_45 C hQ x1 r2 s H locs ls hX (lv_sub hl [1, 2, 0] rfl) h
end WALK
theorem c_Rd_turnBlock (l : Launch) (g : GX) (x1 : Int32) (s : St) (z : St) (h : f_Rd_turnBlock x1 s = some z) : MV l g y_Rd_turnBlock b_Rd_turnBlock 3 none 1 24 [.ref (g.q 2), .int x1] (wX g s) (wX g z) :=
  MV.mk (own := R_Rd) (by decide) rfl (Nat.le_of_ble_eq_true rfl) fun p e ss m below meth c A Q C hQ ls hX hl => w_Rd_turnBlock C hQ x1 s _ _ ls hX hl h
-- Rd_closeBlock
def f_Rd_closeBlock_51 (x1 : Int32) (x2 : Int32) (x3 : Int32) (y1 : Int32) (s : St) : Option St :=
    lt1 (tSet s 21 240 7 y1 3 x1) fun s1 =>
    some s1
def f_Rd_closeBlock (x1 : Int32) (s : St) : Option St :=
    lt1 (s 2 0 - 1) fun v1 =>
    lt1 (stp s 2 0 v1) fun s2 =>
    lt1 (rGet 11 (s2 25) (s2 2 0)) fun r3 =>
    lt1 (tGet 240 7 (s2 21) r3 3) fun r4 =>
    if r4 = 0 then
      f_Rd_closeBlock_51 x1 r3 r4 r3 s2
    else
      f_Rd_closeBlock_51 x1 r3 r4 r4 s2
section WALK
variable {p : Program} {l : Launch} {e : Env} {ss : State} {m : MethodId} {args : Array Value} {below : List Frame} {meth : Method} {c : Code} {Q : State → Prop} {g : GX} {A : Nat → Prop}
set_option maxHeartbeats 4000000 in
set_option maxRecDepth 100000 in
theorem w_Rd_closeBlock_51 {z : St} (C : Cx g A p m c b_Rd_closeBlock 4 ss args R_Rd) (hQ : ∀ (pc : Nat) (H : Heap) (locs : List Loc) (ls : Array Slot), XW g A ss (wX g z) H locs → decode b_Rd_closeBlock pc = .ok (.return_, 1) → W p l e (rmX 1 24) ss m args below meth c H locs 0 0 Q (F0 m pc ls [])) : ∀ (x1 : Int32) (x2 : Int32) (x3 : Int32) (y1 : Int32) (s : St) (H : Heap) (locs : List Loc) (ls : Array Slot), XW g A ss (wX g s) H locs → lv_has ls 4 [(0, .ref (g.q 2)), (1, .int x1), (2, .int x2), (3, .int x3)] → f_Rd_closeBlock_51 x1 x2 x3 y1 s = some z → W p l e (rmX 1 24) ss m args below meth c H locs 0 0 Q (F0 m 51 ls [.int y1, .ref (g.q 20)]) := by
  have ⟨⟨hx, hb, hml, hown, hts⟩, hK, hA, hN⟩ := C
  intro x1 x2 x3 y1 s H locs ls hX hl h
  rw [f_Rd_closeBlock_51] at h
  refine lv_iconst (v := 3) hx hb d_Rd_closeBlock_51 (by decide) ?_
  refine lv_iload_n hx hb d_Rd_closeBlock_52 rfl (lv_at hl 1 rfl) ?_
  obtain ⟨s1, es1, h⟩ := lt1_e h
  refine x_vV (ws' := wX g s1) (As := [.int y1, .int 3, .int x1]) (rest := []) C hX (by rw [es1]; exact cTabSet_20 l g s y1 3 x1) (cw_Rd_98 C.1.2.2.2.2 C.2.2.2 ⟨by decide, by decide⟩) (x_rc C hX wg_20 rfl) rfl hl.1 rfl (lv_room (Nat.le_of_ble_eq_true rfl)) d_Rd_closeBlock_53 ⟨Nat.le_refl _, Nat.le_refl _⟩ (fun H locs hX => ?_)
  obtain rfl := so1 h
  exact hQ _ H locs ls hX d_Rd_closeBlock_56
set_option maxHeartbeats 4000000 in
set_option maxRecDepth 100000 in
theorem w_Rd_closeBlock {z : St} (C : Cx g A p m c b_Rd_closeBlock 4 ss args R_Rd) (hQ : ∀ (pc : Nat) (H : Heap) (locs : List Loc) (ls : Array Slot), XW g A ss (wX g z) H locs → decode b_Rd_closeBlock pc = .ok (.return_, 1) → W p l e (rmX 1 24) ss m args below meth c H locs 0 0 Q (F0 m pc ls [])) : ∀ (x1 : Int32) (s : St) (H : Heap) (locs : List Loc) (ls : Array Slot), XW g A ss (wX g s) H locs → lv_has ls 4 [(0, .ref (g.q 2)), (1, .int x1)] → f_Rd_closeBlock x1 s = some z → W p l e (rmX 1 24) ss m args below meth c H locs 0 0 Q (F0 m 0 ls []) := by
  have ⟨⟨hx, hb, hml, hown, hts⟩, hK, hA, hN⟩ := C
  intro x1 s H locs ls hX hl h
  rw [f_Rd_closeBlock] at h
  refine lv_aload_n hx hb d_Rd_closeBlock_0 rfl (lv_at hl 0 rfl) ?_
  refine lv_dup hx hb d_Rd_closeBlock_1 rfl ?_
  refine gf_2_openCount C hX fl_Rd_164 d_Rd_closeBlock_2 ?_
  refine lv_iconst (v := 1) hx hb d_Rd_closeBlock_5 (by decide) ?_
  obtain ⟨v1, ev1, h⟩ := lt1_e h
  refine x_isub hx hb d_Rd_closeBlock_6 ev1 ?_
  obtain ⟨s2, es2, h⟩ := lt1_e h
  refine pf_2_openCount C hX fl_Rd_164 d_Rd_closeBlock_7 (fun H locs hX => ?_)
  rw [← es2] at hX
  refine lv_aload_n hx hb d_Rd_closeBlock_10 rfl (lv_at hl 0 rfl) ?_
  refine gf_2_open C hX fl_Rd_20 d_Rd_closeBlock_11 ?_
  refine lv_aload_n hx hb d_Rd_closeBlock_14 rfl (lv_at hl 0 rfl) ?_
  refine gf_2_openCount C hX fl_Rd_164 d_Rd_closeBlock_15 ?_
  obtain ⟨r3, er3, h⟩ := lt1_e h
  refine x_vI (r := r3) (ws' := wX g s2) (As := [.int (s2 2 0)]) (rest := []) C hX (by rw [er3]; exact cRowGet_24 l g s2 (s2 2 0)) (cw_Rd_198 C.1.2.2.2.2 C.2.2.2 ⟨by decide, by decide⟩) (x_rc C hX wg_24 rfl) rfl hl.1 rfl (lv_room (Nat.le_of_ble_eq_true rfl)) d_Rd_closeBlock_18 ⟨Nat.le_refl _, Nat.le_refl _⟩ (fun H locs hX => ?_)
  refine lv_istore_n (lv' := [(2, .int r3), (0, .ref (g.q 2)), (1, .int x1)]) hx hb d_Rd_closeBlock_21 rfl hl (by decide) rfl (fun ls hl => ?_)
  refine lv_aload_n hx hb d_Rd_closeBlock_22 rfl (lv_at hl 1 rfl) ?_
  refine gf_2_contents C hX fl_Rd_24 d_Rd_closeBlock_23 ?_
  refine gf_1_code C hX fl_Rd_159 d_Rd_closeBlock_26 ?_
  refine lv_iload_n hx hb d_Rd_closeBlock_29 rfl (lv_at hl 0 rfl) ?_
  refine lv_iconst (v := 3) hx hb d_Rd_closeBlock_30 (by decide) ?_
  obtain ⟨r4, er4, h⟩ := lt1_e h
  refine x_vI (r := r4) (ws' := wX g s2) (As := [.int r3, .int 3]) (rest := []) C hX (by rw [er4]; exact cTabGet_20 l g s2 r3 3) (cw_Rd_201 C.1.2.2.2.2 C.2.2.2 ⟨by decide, by decide⟩) (x_rc C hX wg_20 rfl) rfl hl.1 rfl (lv_room (Nat.le_of_ble_eq_true rfl)) d_Rd_closeBlock_31 ⟨Nat.le_refl _, Nat.le_refl _⟩ (fun H locs hX => ?_)
  refine lv_istore_n (lv' := [(3, .int r4), (2, .int r3), (0, .ref (g.q 2)), (1, .int x1)]) hx hb d_Rd_closeBlock_34 rfl hl (by decide) rfl (fun ls hl => ?_)
  refine lv_aload_n hx hb d_Rd_closeBlock_35 rfl (lv_at hl 2 rfl) ?_
  refine gf_2_contents C hX fl_Rd_24 d_Rd_closeBlock_36 ?_
  refine gf_1_code C hX fl_Rd_159 d_Rd_closeBlock_39 ?_
  refine lv_iload_n hx hb d_Rd_closeBlock_42 rfl (lv_at hl 0 rfl) ?_
  refine lv_if_eq (tgt := 50) hx hb d_Rd_closeBlock_43 (by decide) (fun c43 => ?_) (fun c43 => ?_)
  · have h := ite_t c43 h
    refine lv_iload_n hx hb d_Rd_closeBlock_50 rfl (lv_at hl 1 rfl) ?_
    exact w_Rd_closeBlock_51 C hQ x1 r3 r4 r3 s2 H locs ls hX (lv_sub hl [2, 3, 1, 0] rfl) h
  · have h := ite_f c43 h
    refine lv_iload_n hx hb d_Rd_closeBlock_46 rfl (lv_at hl 0 rfl) ?_
    refine lv_goto (tgt := 51) hx hb d_Rd_closeBlock_47 (by decide) ?_
    exact w_Rd_closeBlock_51 C hQ x1 r3 r4 r4 s2 H locs ls hX (lv_sub hl [2, 3, 1, 0] rfl) h
end WALK
theorem c_Rd_closeBlock (l : Launch) (g : GX) (x1 : Int32) (s : St) (z : St) (h : f_Rd_closeBlock x1 s = some z) : MV l g y_Rd_closeBlock b_Rd_closeBlock 4 none 1 24 [.ref (g.q 2), .int x1] (wX g s) (wX g z) :=
  MV.mk (own := R_Rd) (by decide) rfl (Nat.le_of_ble_eq_true rfl) fun p e ss m below meth c A Q C hQ ls hX hl => w_Rd_closeBlock C hQ x1 s _ _ ls hX hl h
-- Rd_readPlaces
def f_Rd_readPlaces_105 (x1 : Int32) (x2 : Int32) (x3 : Int32) (s : St) : Option St :=
    some s
def f_Rd_readPlaces_56 : Nat → Int32 → Int32 → Int32 → St → Option St
  | 0, _, _, _, _ => none
  | n + 1, x1, x2, x3, s =>
    if 8 < x3 then
      f_Rd_readPlaces_105 x1 x2 x3 s
    else
      if x2 < x3 then
        f_Rd_readPlaces_105 x1 x2 x3 s
      else
        if s 2 5 = 0 then
          lt1 (s 22 0 + 1 - 1) fun r1 =>
          lt1 (stp s 22 0 (s 22 0 + 1)) fun s2 =>
          bd (f_Rd_nextUnsigned s2) fun r4 s3 =>
          lt1 (tSet s3 23 240 1 r1 0 r4) fun s5 =>
          lt1 (x3 + (1)) fun v6 =>
          f_Rd_readPlaces_56 n x1 x2 v6 s5
        else
          f_Rd_readPlaces_105 x1 x2 x3 s
def f_Rd_readPlaces_19 (x1 : Int32) (x2 : Int32) (s : St) : Option St :=
    lt1 (tSet s 21 240 7 x1 1 x2) fun s1 =>
    lt1 (s1 22 0) fun r2 =>
    lt1 (tSet s1 21 240 7 x1 2 r2) fun s3 =>
    f_Rd_readPlaces_56 FU x1 x2 0 s3
def f_Rd_readPlaces (x1 : Int32) (s : St) : Option St :=
    bd (f_Rd_nextUnsigned s) fun r2 s1 =>
    bd1 (f_X_isAbove r2 8) fun r3 =>
    if r3 = 0 then
      f_Rd_readPlaces_19 x1 r2 s1
    else
      bd1 (f_Rd_refuse 2 s1) fun s4 =>
      f_Rd_readPlaces_19 x1 r2 s4
section WALK
variable {p : Program} {l : Launch} {e : Env} {ss : State} {m : MethodId} {args : Array Value} {below : List Frame} {meth : Method} {c : Code} {Q : State → Prop} {g : GX} {A : Nat → Prop}
set_option maxHeartbeats 4000000 in
set_option maxRecDepth 100000 in
theorem w_Rd_readPlaces_105 {z : St} (C : Cx g A p m c b_Rd_readPlaces 4 ss args R_Rd) (hQ : ∀ (pc : Nat) (H : Heap) (locs : List Loc) (ls : Array Slot), XW g A ss (wX g z) H locs → decode b_Rd_readPlaces pc = .ok (.return_, 1) → W p l e (rmX 2 44) ss m args below meth c H locs 0 0 Q (F0 m pc ls [])) : ∀ (x1 : Int32) (x2 : Int32) (x3 : Int32) (s : St) (H : Heap) (locs : List Loc) (ls : Array Slot), XW g A ss (wX g s) H locs → lv_has ls 4 [(0, .ref (g.q 2)), (1, .int x1), (2, .int x2), (3, .int x3)] → f_Rd_readPlaces_105 x1 x2 x3 s = some z → W p l e (rmX 2 44) ss m args below meth c H locs 0 0 Q (F0 m 105 ls []) := by
  have ⟨⟨hx, hb, hml, hown, hts⟩, hK, hA, hN⟩ := C
  intro x1 x2 x3 s H locs ls hX hl h
  rw [f_Rd_readPlaces_105] at h
  obtain rfl := so1 h
  exact hQ _ H locs ls hX d_Rd_readPlaces_105
set_option maxHeartbeats 4000000 in
set_option maxRecDepth 100000 in
theorem w_Rd_readPlaces_56 {z : St} (C : Cx g A p m c b_Rd_readPlaces 4 ss args R_Rd) (hQ : ∀ (pc : Nat) (H : Heap) (locs : List Loc) (ls : Array Slot), XW g A ss (wX g z) H locs → decode b_Rd_readPlaces pc = .ok (.return_, 1) → W p l e (rmX 2 44) ss m args below meth c H locs 0 0 Q (F0 m pc ls [])) (n : Nat) : ∀ (x1 : Int32) (x2 : Int32) (x3 : Int32) (s : St) (H : Heap) (locs : List Loc) (ls : Array Slot), XW g A ss (wX g s) H locs → lv_has ls 4 [(0, .ref (g.q 2)), (1, .int x1), (2, .int x2), (3, .int x3)] → f_Rd_readPlaces_56 n x1 x2 x3 s = some z → W p l e (rmX 2 44) ss m args below meth c H locs 0 0 Q (F0 m 56 ls []) := by
  have ⟨⟨hx, hb, hml, hown, hts⟩, hK, hA, hN⟩ := C
  induction n with
  | zero => intro x1 x2 x3 s H locs ls hX hl h; cases h
  | succ n ih =>
    intro x1 x2 x3 s H locs ls hX hl h
    rw [f_Rd_readPlaces_56] at h
    refine lv_iload_n hx hb d_Rd_readPlaces_56 rfl (lv_at hl 3 rfl) ?_
    refine lv_bipush (v := 8) hx hb d_Rd_readPlaces_57 (by decide) ?_
    refine lv_icmp_gt (tgt := 105) hx hb d_Rd_readPlaces_59 (by decide) (fun c59 => ?_) (fun c59 => ?_)
    · have h := ite_t c59 h
      exact w_Rd_readPlaces_105 C hQ x1 x2 x3 s H locs ls hX hl h
    · have h := ite_f c59 h
      refine lv_iload_n hx hb d_Rd_readPlaces_62 rfl (lv_at hl 3 rfl) ?_
      refine lv_iload_n hx hb d_Rd_readPlaces_63 rfl (lv_at hl 2 rfl) ?_
      refine lv_icmp_gt (tgt := 105) hx hb d_Rd_readPlaces_64 (by decide) (fun c64 => ?_) (fun c64 => ?_)
      · have h := ite_t c64 h
        exact w_Rd_readPlaces_105 C hQ x1 x2 x3 s H locs ls hX hl h
      · have h := ite_f c64 h
        refine lv_aload_n hx hb d_Rd_readPlaces_67 rfl (lv_at hl 0 rfl) ?_
        refine gf_2_fault C hX fl_Rd_46 d_Rd_readPlaces_68 ?_
        refine lv_if_ne (tgt := 105) hx hb d_Rd_readPlaces_71 (by decide) (fun c71 => ?_) (fun c71 => ?_)
        · have h := ite_f c71 h
          exact w_Rd_readPlaces_105 C hQ x1 x2 x3 s H locs ls hX hl h
        · have h := ite_t c71 h
          refine lv_aload_n hx hb d_Rd_readPlaces_74 rfl (lv_at hl 0 rfl) ?_
          refine gf_2_contents C hX fl_Rd_24 d_Rd_readPlaces_75 ?_
          refine gf_1_places C hX fl_Rd_204 d_Rd_readPlaces_78 ?_
          refine lv_aload_n hx hb d_Rd_readPlaces_81 rfl (lv_at hl 0 rfl) ?_
          refine gf_2_contents C hX fl_Rd_24 d_Rd_readPlaces_82 ?_
          refine gf_1_places C hX fl_Rd_204 d_Rd_readPlaces_85 ?_
          obtain ⟨r1, er1, h⟩ := lt1_e h
          obtain ⟨s2, es2, h⟩ := lt1_e h
          refine x_vI (r := r1) (ws' := wX g s2) (As := []) (rest := [.ref (g.q 22)]) C hX (by rw [er1, es2]; exact cTabAdd_22 l g s) (cw_Rd_95 C.1.2.2.2.2 C.2.2.2 ⟨by decide, by decide⟩) (x_rc C hX wg_22 rfl) rfl hl.1 rfl (lv_room (Nat.le_of_ble_eq_true rfl)) d_Rd_readPlaces_88 ⟨Nat.le_refl _, Nat.le_refl _⟩ (fun H locs hX => ?_)
          refine lv_iconst (v := 0) hx hb d_Rd_readPlaces_91 (by decide) ?_
          refine lv_aload_n hx hb d_Rd_readPlaces_92 rfl (lv_at hl 0 rfl) ?_
          obtain ⟨r4, s3, hc93, h⟩ := bd_e h
          refine x_vI (As := []) (rest := [.int 0, .int r1, .ref (g.q 22)]) C hX (c_Rd_nextUnsigned l g s2 (r4, s3) hc93) (cw_Rd_85 C.1.2.2.2.2 C.2.2.2 ⟨by decide, by decide⟩) (x_rc C hX wg_2 rfl) rfl hl.1 rfl (lv_room (Nat.le_of_ble_eq_true rfl)) d_Rd_readPlaces_93 ⟨Nat.le_refl _, Nat.le_refl _⟩ (fun H locs hX => ?_)
          obtain ⟨s5, es5, h⟩ := lt1_e h
          refine x_vV (ws' := wX g s5) (As := [.int r1, .int 0, .int r4]) (rest := []) C hX (by rw [es5]; exact cTabSet_22 l g s3 r1 0 r4) (cw_Rd_98 C.1.2.2.2.2 C.2.2.2 ⟨by decide, by decide⟩) (x_rc C hX wg_22 rfl) rfl hl.1 rfl (lv_room (Nat.le_of_ble_eq_true rfl)) d_Rd_readPlaces_96 ⟨Nat.le_refl _, Nat.le_refl _⟩ (fun H locs hX => ?_)
          obtain ⟨v6, ev6, h⟩ := lt1_e h
          refine lv_iinc (v := v6) (lv' := [(3, .int v6), (0, .ref (g.q 2)), (1, .int x1), (2, .int x2)]) hx hb d_Rd_readPlaces_99 hl (k := 3) rfl (by rw [ev6]; rfl) (by decide) rfl (fun ls hl => ?_)
          refine lv_goto (tgt := 56) hx hb d_Rd_readPlaces_102 (by decide) ?_
          exact ih x1 x2 v6 s5 H locs ls hX (lv_sub hl [1, 2, 3, 0] rfl) h
set_option maxHeartbeats 4000000 in
set_option maxRecDepth 100000 in
theorem w_Rd_readPlaces_19 {z : St} (C : Cx g A p m c b_Rd_readPlaces 4 ss args R_Rd) (hQ : ∀ (pc : Nat) (H : Heap) (locs : List Loc) (ls : Array Slot), XW g A ss (wX g z) H locs → decode b_Rd_readPlaces pc = .ok (.return_, 1) → W p l e (rmX 2 44) ss m args below meth c H locs 0 0 Q (F0 m pc ls [])) : ∀ (x1 : Int32) (x2 : Int32) (s : St) (H : Heap) (locs : List Loc) (ls : Array Slot), XW g A ss (wX g s) H locs → lv_has ls 4 [(0, .ref (g.q 2)), (1, .int x1), (2, .int x2)] → f_Rd_readPlaces_19 x1 x2 s = some z → W p l e (rmX 2 44) ss m args below meth c H locs 0 0 Q (F0 m 19 ls []) := by
  have ⟨⟨hx, hb, hml, hown, hts⟩, hK, hA, hN⟩ := C
  intro x1 x2 s H locs ls hX hl h
  rw [f_Rd_readPlaces_19] at h
  refine lv_aload_n hx hb d_Rd_readPlaces_19 rfl (lv_at hl 0 rfl) ?_
  refine gf_2_contents C hX fl_Rd_24 d_Rd_readPlaces_20 ?_
  refine gf_1_code C hX fl_Rd_159 d_Rd_readPlaces_23 ?_
  refine lv_iload_n hx hb d_Rd_readPlaces_26 rfl (lv_at hl 1 rfl) ?_
  refine lv_iconst (v := 1) hx hb d_Rd_readPlaces_27 (by decide) ?_
  refine lv_iload_n hx hb d_Rd_readPlaces_28 rfl (lv_at hl 2 rfl) ?_
  obtain ⟨s1, es1, h⟩ := lt1_e h
  refine x_vV (ws' := wX g s1) (As := [.int x1, .int 1, .int x2]) (rest := []) C hX (by rw [es1]; exact cTabSet_20 l g s x1 1 x2) (cw_Rd_98 C.1.2.2.2.2 C.2.2.2 ⟨by decide, by decide⟩) (x_rc C hX wg_20 rfl) rfl hl.1 rfl (lv_room (Nat.le_of_ble_eq_true rfl)) d_Rd_readPlaces_29 ⟨Nat.le_refl _, Nat.le_refl _⟩ (fun H locs hX => ?_)
  refine lv_aload_n hx hb d_Rd_readPlaces_32 rfl (lv_at hl 0 rfl) ?_
  refine gf_2_contents C hX fl_Rd_24 d_Rd_readPlaces_33 ?_
  refine gf_1_code C hX fl_Rd_159 d_Rd_readPlaces_36 ?_
  refine lv_iload_n hx hb d_Rd_readPlaces_39 rfl (lv_at hl 1 rfl) ?_
  refine lv_iconst (v := 2) hx hb d_Rd_readPlaces_40 (by decide) ?_
  refine lv_aload_n hx hb d_Rd_readPlaces_41 rfl (lv_at hl 0 rfl) ?_
  refine gf_2_contents C hX fl_Rd_24 d_Rd_readPlaces_42 ?_
  refine gf_1_places C hX fl_Rd_204 d_Rd_readPlaces_45 ?_
  obtain ⟨r2, er2, h⟩ := lt1_e h
  refine x_vI (r := r2) (ws' := wX g s1) (As := []) (rest := [.int 2, .int x1, .ref (g.q 20)]) C hX (by rw [er2]; exact cTabCount_22 l g s1) (cw_Rd_70 C.1.2.2.2.2 C.2.2.2 ⟨by decide, by decide⟩) (x_rc C hX wg_22 rfl) rfl hl.1 rfl (lv_room (Nat.le_of_ble_eq_true rfl)) d_Rd_readPlaces_48 ⟨Nat.le_refl _, Nat.le_refl _⟩ (fun H locs hX => ?_)
  obtain ⟨s3, es3, h⟩ := lt1_e h
  refine x_vV (ws' := wX g s3) (As := [.int x1, .int 2, .int r2]) (rest := []) C hX (by rw [es3]; exact cTabSet_20 l g s1 x1 2 r2) (cw_Rd_98 C.1.2.2.2.2 C.2.2.2 ⟨by decide, by decide⟩) (x_rc C hX wg_20 rfl) rfl hl.1 rfl (lv_room (Nat.le_of_ble_eq_true rfl)) d_Rd_readPlaces_51 ⟨Nat.le_refl _, Nat.le_refl _⟩ (fun H locs hX => ?_)
  refine lv_iconst (v := 0) hx hb d_Rd_readPlaces_54 (by decide) ?_
  refine lv_istore_n (lv' := [(3, .int 0), (0, .ref (g.q 2)), (1, .int x1), (2, .int x2)]) hx hb d_Rd_readPlaces_55 rfl hl (by decide) rfl (fun ls hl => ?_)
  exact w_Rd_readPlaces_56 C hQ FU x1 x2 0 s3 H locs ls hX (lv_sub hl [1, 2, 3, 0] rfl) h
set_option maxHeartbeats 4000000 in
set_option maxRecDepth 100000 in
theorem w_Rd_readPlaces {z : St} (C : Cx g A p m c b_Rd_readPlaces 4 ss args R_Rd) (hQ : ∀ (pc : Nat) (H : Heap) (locs : List Loc) (ls : Array Slot), XW g A ss (wX g z) H locs → decode b_Rd_readPlaces pc = .ok (.return_, 1) → W p l e (rmX 2 44) ss m args below meth c H locs 0 0 Q (F0 m pc ls [])) : ∀ (x1 : Int32) (s : St) (H : Heap) (locs : List Loc) (ls : Array Slot), XW g A ss (wX g s) H locs → lv_has ls 4 [(0, .ref (g.q 2)), (1, .int x1)] → f_Rd_readPlaces x1 s = some z → W p l e (rmX 2 44) ss m args below meth c H locs 0 0 Q (F0 m 0 ls []) := by
  have ⟨⟨hx, hb, hml, hown, hts⟩, hK, hA, hN⟩ := C
  intro x1 s H locs ls hX hl h
  rw [f_Rd_readPlaces] at h
  refine lv_aload_n hx hb d_Rd_readPlaces_0 rfl (lv_at hl 0 rfl) ?_
  obtain ⟨r2, s1, hc1, h⟩ := bd_e h
  refine x_vI (As := []) (rest := []) C hX (c_Rd_nextUnsigned l g s (r2, s1) hc1) (cw_Rd_85 C.1.2.2.2.2 C.2.2.2 ⟨by decide, by decide⟩) (x_rc C hX wg_2 rfl) rfl hl.1 rfl (lv_room (Nat.le_of_ble_eq_true rfl)) d_Rd_readPlaces_1 ⟨Nat.le_refl _, Nat.le_refl _⟩ (fun H locs hX => ?_)
  refine lv_istore_n (lv' := [(2, .int r2), (0, .ref (g.q 2)), (1, .int x1)]) hx hb d_Rd_readPlaces_4 rfl hl (by decide) rfl (fun ls hl => ?_)
  refine lv_iload_n hx hb d_Rd_readPlaces_5 rfl (lv_at hl 0 rfl) ?_
  refine lv_bipush (v := 8) hx hb d_Rd_readPlaces_6 (by decide) ?_
  obtain ⟨r3, hc8, h⟩ := bd1_e h
  refine x_sNI (As := [.int r2, .int 8]) (rest := []) C hX (c_X_isAbove l g r2 8 r3 hc8 _) (cw_Rd_88 C.1.2.2.2.2 C.2.2.2 ⟨by decide, by decide⟩) rfl hl.1 rfl (lv_room (Nat.le_of_ble_eq_true rfl)) d_Rd_readPlaces_8 ⟨Nat.le_refl _, Nat.le_refl _⟩ (fun H locs hX => ?_)
  refine lv_if_eq (tgt := 19) hx hb d_Rd_readPlaces_11 (by decide) (fun c11 => ?_) (fun c11 => ?_)
  · have h := ite_t c11 h
    exact w_Rd_readPlaces_19 C hQ x1 r2 s1 H locs ls hX (lv_sub hl [1, 2, 0] rfl) h
  · have h := ite_f c11 h
    refine lv_aload_n hx hb d_Rd_readPlaces_14 rfl (lv_at hl 1 rfl) ?_
    refine lv_iconst (v := 2) hx hb d_Rd_readPlaces_15 (by decide) ?_
    obtain ⟨s4, hc16, h⟩ := bd1_e h
    refine x_vV (As := [.int 2]) (rest := []) C hX (c_Rd_refuse l g 2 s1 s4 hc16) (cw_Rd_75 C.1.2.2.2.2 C.2.2.2 ⟨by decide, by decide⟩) (x_rc C hX wg_2 rfl) rfl hl.1 rfl (lv_room (Nat.le_of_ble_eq_true rfl)) d_Rd_readPlaces_16 ⟨Nat.le_refl _, Nat.le_refl _⟩ (fun H locs hX => ?_)
    exact w_Rd_readPlaces_19 C hQ x1 r2 s4 H locs ls hX (lv_sub hl [1, 2, 0] rfl) h
end WALK
theorem c_Rd_readPlaces (l : Launch) (g : GX) (x1 : Int32) (s : St) (z : St) (h : f_Rd_readPlaces x1 s = some z) : MV l g y_Rd_readPlaces b_Rd_readPlaces 4 none 2 44 [.ref (g.q 2), .int x1] (wX g s) (wX g z) :=
  MV.mk (own := R_Rd) (by decide) rfl (Nat.le_of_ble_eq_true rfl) fun p e ss m below meth c A Q C hQ ls hX hl => w_Rd_readPlaces C hQ x1 s _ _ ls hX hl h
-- Rd_nextSigned
def f_Rd_nextSigned_80 (x1 : Int32) (x2 : Int32) (x3 : Int32) (y0 : Int32) (s : St) : Option (Int32 × St) :=
    some (y0, s)
def f_Rd_nextSigned_50 (x1 : Int32) (x2 : Int32) (x3 : Int32) (s : St) : Option (Int32 × St) :=
    some (x1, s)
def f_Rd_nextSigned_4 : Nat → Int32 → Int32 → St → Option (Int32 × St)
  | 0, _, _, _ => none
  | n + 1, x1, x2, s =>
    if 5 ≤ x2 then
      some (x1, s)
    else
      bd (f_Rd_nextByte s) fun r2 s1 =>
      lt1 (r2 &&& 127) fun v3 =>
      lt1 (7 * x2) fun v4 =>
      lt1 (v3 <<< (v4 &&& 31)) fun v5 =>
      lt1 (x1 ||| v5) fun v6 =>
      if x2 = 4 then
        lt1 (r2 >>> (3 &&& 31)) fun v13 =>
        if v13 = 0 then
          f_Rd_nextSigned_50 v6 x2 r2 s1
        else
          lt1 (r2 >>> (3 &&& 31)) fun v14 =>
          if v14 = 15 then
            f_Rd_nextSigned_50 v6 x2 r2 s1
          else
            bd1 (f_Rd_refuse 1 s1) fun s15 =>
            f_Rd_nextSigned_50 v6 x2 r2 s15
      else
        if 128 ≤ r2 then
          lt1 (x2 + (1)) fun v7 =>
          f_Rd_nextSigned_4 n v6 v7 s1
        else
          lt1 (r2 &&& 64) fun v8 =>
          if v8 = 0 then
            f_Rd_nextSigned_80 v6 x2 r2 v6 s1
          else
            lt1 (x2 + 1) fun v9 =>
            lt1 (7 * v9) fun v10 =>
            lt1 ((-1) <<< (v10 &&& 31)) fun v11 =>
            lt1 (v6 ||| v11) fun v12 =>
            f_Rd_nextSigned_80 v6 x2 r2 v12 s1
def f_Rd_nextSigned (s : St) : Option (Int32 × St) :=
    f_Rd_nextSigned_4 FU 0 0 s
section WALK
variable {p : Program} {l : Launch} {e : Env} {ss : State} {m : MethodId} {args : Array Value} {below : List Frame} {meth : Method} {c : Code} {Q : State → Prop} {g : GX} {A : Nat → Prop}
set_option maxHeartbeats 4000000 in
set_option maxRecDepth 100000 in
theorem w_Rd_nextSigned_80 {z : Int32 × St} (C : Cx g A p m c b_Rd_nextSigned 4 ss args R_Rd) (hQ : ∀ (pc : Nat) (H : Heap) (locs : List Loc) (ls : Array Slot), XW g A ss (wX g z.2) H locs → decode b_Rd_nextSigned pc = .ok (.ireturn, 1) → W p l e (rmX 1 21) ss m args below meth c H locs 0 0 Q (F0 m pc ls [.int z.1])) : ∀ (x1 : Int32) (x2 : Int32) (x3 : Int32) (y0 : Int32) (s : St) (H : Heap) (locs : List Loc) (ls : Array Slot), XW g A ss (wX g s) H locs → lv_has ls 4 [(0, .ref (g.q 2)), (1, .int x1), (2, .int x2), (3, .int x3)] → f_Rd_nextSigned_80 x1 x2 x3 y0 s = some z → W p l e (rmX 1 21) ss m args below meth c H locs 0 0 Q (F0 m 80 ls [.int y0]) := by
  have ⟨⟨hx, hb, hml, hown, hts⟩, hK, hA, hN⟩ := C
  intro x1 x2 x3 y0 s H locs ls hX hl h
  rw [f_Rd_nextSigned_80] at h
  obtain rfl := so1 h
  exact hQ _ H locs ls hX d_Rd_nextSigned_80
set_option maxHeartbeats 4000000 in
set_option maxRecDepth 100000 in
theorem w_Rd_nextSigned_50 {z : Int32 × St} (C : Cx g A p m c b_Rd_nextSigned 4 ss args R_Rd) (hQ : ∀ (pc : Nat) (H : Heap) (locs : List Loc) (ls : Array Slot), XW g A ss (wX g z.2) H locs → decode b_Rd_nextSigned pc = .ok (.ireturn, 1) → W p l e (rmX 1 21) ss m args below meth c H locs 0 0 Q (F0 m pc ls [.int z.1])) : ∀ (x1 : Int32) (x2 : Int32) (x3 : Int32) (s : St) (H : Heap) (locs : List Loc) (ls : Array Slot), XW g A ss (wX g s) H locs → lv_has ls 4 [(0, .ref (g.q 2)), (1, .int x1), (2, .int x2), (3, .int x3)] → f_Rd_nextSigned_50 x1 x2 x3 s = some z → W p l e (rmX 1 21) ss m args below meth c H locs 0 0 Q (F0 m 50 ls []) := by
  have ⟨⟨hx, hb, hml, hown, hts⟩, hK, hA, hN⟩ := C
  intro x1 x2 x3 s H locs ls hX hl h
  rw [f_Rd_nextSigned_50] at h
  refine lv_iload_n hx hb d_Rd_nextSigned_50 rfl (lv_at hl 1 rfl) ?_
  obtain rfl := so1 h
  exact hQ _ H locs ls hX d_Rd_nextSigned_51
set_option maxHeartbeats 4000000 in
set_option maxRecDepth 100000 in
theorem w_Rd_nextSigned_4 {z : Int32 × St} (C : Cx g A p m c b_Rd_nextSigned 4 ss args R_Rd) (hQ : ∀ (pc : Nat) (H : Heap) (locs : List Loc) (ls : Array Slot), XW g A ss (wX g z.2) H locs → decode b_Rd_nextSigned pc = .ok (.ireturn, 1) → W p l e (rmX 1 21) ss m args below meth c H locs 0 0 Q (F0 m pc ls [.int z.1])) (n : Nat) : ∀ (x1 : Int32) (x2 : Int32) (s : St) (H : Heap) (locs : List Loc) (ls : Array Slot), XW g A ss (wX g s) H locs → lv_has ls 4 [(0, .ref (g.q 2)), (1, .int x1), (2, .int x2)] → f_Rd_nextSigned_4 n x1 x2 s = some z → W p l e (rmX 1 21) ss m args below meth c H locs 0 0 Q (F0 m 4 ls []) := by
  have ⟨⟨hx, hb, hml, hown, hts⟩, hK, hA, hN⟩ := C
  induction n with
  | zero => intro x1 x2 s H locs ls hX hl h; cases h
  | succ n ih =>
    intro x1 x2 s H locs ls hX hl h
    rw [f_Rd_nextSigned_4] at h
    refine lv_iload_n hx hb d_Rd_nextSigned_4 rfl (lv_at hl 2 rfl) ?_
    refine lv_iconst (v := 5) hx hb d_Rd_nextSigned_5 (by decide) ?_
    refine lv_icmp_ge (tgt := 87) hx hb d_Rd_nextSigned_6 (by decide) (fun c6 => ?_) (fun c6 => ?_)
    · have h := ite_t c6 h
      refine lv_iload_n hx hb d_Rd_nextSigned_87 rfl (lv_at hl 1 rfl) ?_
      obtain rfl := so1 h
      exact hQ _ H locs ls hX d_Rd_nextSigned_88
    · have h := ite_f c6 h
      refine lv_aload_n hx hb d_Rd_nextSigned_9 rfl (lv_at hl 0 rfl) ?_
      obtain ⟨r2, s1, hc10, h⟩ := bd_e h
      refine x_vI (As := []) (rest := []) C hX (c_Rd_nextByte l g s (r2, s1) hc10) (cw_Rd_55 C.1.2.2.2.2 C.2.2.2 ⟨by decide, by decide⟩) (x_rc C hX wg_2 rfl) rfl hl.1 rfl (lv_room (Nat.le_of_ble_eq_true rfl)) d_Rd_nextSigned_10 ⟨Nat.le_refl _, Nat.le_refl _⟩ (fun H locs hX => ?_)
      refine lv_istore_n (lv' := [(3, .int r2), (0, .ref (g.q 2)), (1, .int x1), (2, .int x2)]) hx hb d_Rd_nextSigned_13 rfl hl (by decide) rfl (fun ls hl => ?_)
      refine lv_iload_n hx hb d_Rd_nextSigned_14 rfl (lv_at hl 2 rfl) ?_
      refine lv_iload_n hx hb d_Rd_nextSigned_15 rfl (lv_at hl 0 rfl) ?_
      refine lv_bipush (v := 127) hx hb d_Rd_nextSigned_16 (by decide) ?_
      obtain ⟨v3, ev3, h⟩ := lt1_e h
      refine x_iand hx hb d_Rd_nextSigned_18 ev3 ?_
      refine lv_bipush (v := 7) hx hb d_Rd_nextSigned_19 (by decide) ?_
      refine lv_iload_n hx hb d_Rd_nextSigned_21 rfl (lv_at hl 3 rfl) ?_
      obtain ⟨v4, ev4, h⟩ := lt1_e h
      refine x_imul hx hb d_Rd_nextSigned_22 ev4 ?_
      obtain ⟨v5, ev5, h⟩ := lt1_e h
      refine x_ishl hx hb d_Rd_nextSigned_23 ev5 ?_
      obtain ⟨v6, ev6, h⟩ := lt1_e h
      refine x_ior hx hb d_Rd_nextSigned_24 ev6 ?_
      refine lv_istore_n (lv' := [(1, .int v6), (3, .int r2), (0, .ref (g.q 2)), (2, .int x2)]) hx hb d_Rd_nextSigned_25 rfl hl (by decide) rfl (fun ls hl => ?_)
      refine lv_iload_n hx hb d_Rd_nextSigned_26 rfl (lv_at hl 3 rfl) ?_
      refine lv_iconst (v := 4) hx hb d_Rd_nextSigned_27 (by decide) ?_
      refine lv_icmp_ne (tgt := 52) hx hb d_Rd_nextSigned_28 (by decide) (fun c28 => ?_) (fun c28 => ?_)
      · have h := ite_f c28 h
        refine lv_iload_n hx hb d_Rd_nextSigned_52 rfl (lv_at hl 1 rfl) ?_
        refine lv_sipush (v := 128) hx hb d_Rd_nextSigned_53 (by decide) ?_
        refine lv_icmp_ge (tgt := 81) hx hb d_Rd_nextSigned_56 (by decide) (fun c56 => ?_) (fun c56 => ?_)
        · have h := ite_t c56 h
          obtain ⟨v7, ev7, h⟩ := lt1_e h
          refine lv_iinc (v := v7) (lv' := [(2, .int v7), (1, .int v6), (3, .int r2), (0, .ref (g.q 2))]) hx hb d_Rd_nextSigned_81 hl (k := 3) rfl (by rw [ev7]; rfl) (by decide) rfl (fun ls hl => ?_)
          refine lv_goto (tgt := 4) hx hb d_Rd_nextSigned_84 (by decide) ?_
          exact ih v6 v7 s1 H locs ls hX (lv_sub hl [3, 1, 0] rfl) h
        · have h := ite_f c56 h
          refine lv_iload_n hx hb d_Rd_nextSigned_59 rfl (lv_at hl 1 rfl) ?_
          refine lv_bipush (v := 64) hx hb d_Rd_nextSigned_60 (by decide) ?_
          obtain ⟨v8, ev8, h⟩ := lt1_e h
          refine x_iand hx hb d_Rd_nextSigned_62 ev8 ?_
          refine lv_if_ne (tgt := 70) hx hb d_Rd_nextSigned_63 (by decide) (fun c63 => ?_) (fun c63 => ?_)
          · have h := ite_f c63 h
            refine lv_iload_n hx hb d_Rd_nextSigned_70 rfl (lv_at hl 0 rfl) ?_
            refine lv_iconst (v := (-1)) hx hb d_Rd_nextSigned_71 (by decide) ?_
            refine lv_bipush (v := 7) hx hb d_Rd_nextSigned_72 (by decide) ?_
            refine lv_iload_n hx hb d_Rd_nextSigned_74 rfl (lv_at hl 3 rfl) ?_
            refine lv_iconst (v := 1) hx hb d_Rd_nextSigned_75 (by decide) ?_
            obtain ⟨v9, ev9, h⟩ := lt1_e h
            refine x_iadd hx hb d_Rd_nextSigned_76 ev9 ?_
            obtain ⟨v10, ev10, h⟩ := lt1_e h
            refine x_imul hx hb d_Rd_nextSigned_77 ev10 ?_
            obtain ⟨v11, ev11, h⟩ := lt1_e h
            refine x_ishl hx hb d_Rd_nextSigned_78 ev11 ?_
            obtain ⟨v12, ev12, h⟩ := lt1_e h
            refine x_ior hx hb d_Rd_nextSigned_79 ev12 ?_
            exact w_Rd_nextSigned_80 C hQ v6 x2 r2 v12 s1 H locs ls hX (lv_sub hl [2, 0, 3, 1] rfl) h
          · have h := ite_t c63 h
            refine lv_iload_n hx hb d_Rd_nextSigned_66 rfl (lv_at hl 0 rfl) ?_
            refine lv_goto (tgt := 80) hx hb d_Rd_nextSigned_67 (by decide) ?_
            exact w_Rd_nextSigned_80 C hQ v6 x2 r2 v6 s1 H locs ls hX (lv_sub hl [2, 0, 3, 1] rfl) h
      · have h := ite_t c28 h
        refine lv_iload_n hx hb d_Rd_nextSigned_31 rfl (lv_at hl 1 rfl) ?_
        refine lv_iconst (v := 3) hx hb d_Rd_nextSigned_32 (by decide) ?_
        obtain ⟨v13, ev13, h⟩ := lt1_e h
        refine x_ishr hx hb d_Rd_nextSigned_33 ev13 ?_
        refine lv_if_eq (tgt := 50) hx hb d_Rd_nextSigned_34 (by decide) (fun c34 => ?_) (fun c34 => ?_)
        · have h := ite_t c34 h
          exact w_Rd_nextSigned_50 C hQ v6 x2 r2 s1 H locs ls hX (lv_sub hl [2, 0, 3, 1] rfl) h
        · have h := ite_f c34 h
          refine lv_iload_n hx hb d_Rd_nextSigned_37 rfl (lv_at hl 1 rfl) ?_
          refine lv_iconst (v := 3) hx hb d_Rd_nextSigned_38 (by decide) ?_
          obtain ⟨v14, ev14, h⟩ := lt1_e h
          refine x_ishr hx hb d_Rd_nextSigned_39 ev14 ?_
          refine lv_bipush (v := 15) hx hb d_Rd_nextSigned_40 (by decide) ?_
          refine lv_icmp_eq (tgt := 50) hx hb d_Rd_nextSigned_42 (by decide) (fun c42 => ?_) (fun c42 => ?_)
          · have h := ite_t c42 h
            exact w_Rd_nextSigned_50 C hQ v6 x2 r2 s1 H locs ls hX (lv_sub hl [2, 0, 3, 1] rfl) h
          · have h := ite_f c42 h
            refine lv_aload_n hx hb d_Rd_nextSigned_45 rfl (lv_at hl 2 rfl) ?_
            refine lv_iconst (v := 1) hx hb d_Rd_nextSigned_46 (by decide) ?_
            obtain ⟨s15, hc47, h⟩ := bd1_e h
            refine x_vV (As := [.int 1]) (rest := []) C hX (c_Rd_refuse l g 1 s1 s15 hc47) (cw_Rd_75 C.1.2.2.2.2 C.2.2.2 ⟨by decide, by decide⟩) (x_rc C hX wg_2 rfl) rfl hl.1 rfl (lv_room (Nat.le_of_ble_eq_true rfl)) d_Rd_nextSigned_47 ⟨Nat.le_refl _, Nat.le_refl _⟩ (fun H locs hX => ?_)
            exact w_Rd_nextSigned_50 C hQ v6 x2 r2 s15 H locs ls hX (lv_sub hl [2, 0, 3, 1] rfl) h
set_option maxHeartbeats 4000000 in
set_option maxRecDepth 100000 in
theorem w_Rd_nextSigned {z : Int32 × St} (C : Cx g A p m c b_Rd_nextSigned 4 ss args R_Rd) (hQ : ∀ (pc : Nat) (H : Heap) (locs : List Loc) (ls : Array Slot), XW g A ss (wX g z.2) H locs → decode b_Rd_nextSigned pc = .ok (.ireturn, 1) → W p l e (rmX 1 21) ss m args below meth c H locs 0 0 Q (F0 m pc ls [.int z.1])) : ∀ (s : St) (H : Heap) (locs : List Loc) (ls : Array Slot), XW g A ss (wX g s) H locs → lv_has ls 4 [(0, .ref (g.q 2))] → f_Rd_nextSigned s = some z → W p l e (rmX 1 21) ss m args below meth c H locs 0 0 Q (F0 m 0 ls []) := by
  have ⟨⟨hx, hb, hml, hown, hts⟩, hK, hA, hN⟩ := C
  intro s H locs ls hX hl h
  rw [f_Rd_nextSigned] at h
  refine lv_iconst (v := 0) hx hb d_Rd_nextSigned_0 (by decide) ?_
  refine lv_istore_n (lv' := [(1, .int 0), (0, .ref (g.q 2))]) hx hb d_Rd_nextSigned_1 rfl hl (by decide) rfl (fun ls hl => ?_)
  refine lv_iconst (v := 0) hx hb d_Rd_nextSigned_2 (by decide) ?_
  refine lv_istore_n (lv' := [(2, .int 0), (1, .int 0), (0, .ref (g.q 2))]) hx hb d_Rd_nextSigned_3 rfl hl (by decide) rfl (fun ls hl => ?_)
  exact w_Rd_nextSigned_4 C hQ FU 0 0 s H locs ls hX (lv_sub hl [2, 1, 0] rfl) h
end WALK
theorem c_Rd_nextSigned (l : Launch) (g : GX) (s : St) (z : Int32 × St) (h : f_Rd_nextSigned s = some z) : MI l g y_Rd_nextSigned b_Rd_nextSigned 4 (some .int) 1 21 [.ref (g.q 2)] (wX g s) z.1 (wX g z.2) :=
  MI.mk (own := R_Rd) (by decide) rfl (Nat.le_of_ble_eq_true rfl) fun p e ss m below meth c A Q C hQ ls hX hl => w_Rd_nextSigned C hQ s _ _ ls hX hl h
