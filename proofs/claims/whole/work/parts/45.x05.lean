-- Val_judgeBody
def f_Val_judgeBody_143 (x1 : Int32) (x2 : Int32) (x3 : Int32) (x4 : Int32) (s : St) : Option St :=
    some s
def f_Val_judgeBody_58 : Nat → Int32 → Int32 → Int32 → Int32 → St → Option St
  | 0, _, _, _, _, _ => none
  | n + 1, x1, x2, x3, x4, s =>
    if x3 < x4 then
      f_Val_judgeBody_143 x1 x2 x3 x4 s
    else
      if s 3 3 = 0 then
        lt1 (tSet s 21 240 7 x4 4 (s 3 1)) fun s1 =>
        bd1 (f_Val_isAlive s1) fun r2 =>
        lt1 (tSet s1 21 240 7 x4 5 r2) fun s3 =>
        lt1 (tGet 240 7 (s3 21) x4 0) fun r4 =>
        lt1 (tGet 240 7 (s3 21) x4 1) fun r5 =>
        bd1 (f_Val_judgeInstruction x4 r4 r5 s3) fun s6 =>
        lt1 (x4 + (1)) fun v7 =>
        f_Val_judgeBody_58 n x1 x2 x3 v7 s6
      else
        f_Val_judgeBody_143 x1 x2 x3 x4 s
def f_Val_judgeBody (x1 : Int32) (s : St) : Option St :=
    lt1 (stp s 3 2 x1) fun s1 =>
    lt1 (stp s1 3 1 0) fun s2 =>
    lt1 (stp s2 3 0 0) fun s3 =>
    bd1 (f_Cont_resultsOf s3 x1) fun r4 =>
    bd1 (f_Val_openBlock 2 r4 r4 s3) fun s5 =>
    lt1 (tGet 8 4 (s5 13) x1 3) fun r6 =>
    lt1 (tGet 8 4 (s5 13) x1 2) fun r7 =>
    f_Val_judgeBody_58 FU x1 r4 r6 r7 s5
section WALK
variable {p : Program} {l : Launch} {e : Env} {ss : State} {m : MethodId} {args : Array Value} {below : List Frame} {meth : Method} {c : Code} {Q : State → Prop} {g : GX} {A : Nat → Prop}
set_option maxHeartbeats 4000000 in
set_option maxRecDepth 100000 in
theorem w_Val_judgeBody_143 {z : St} (C : Cx g A p m c b_Val_judgeBody 5 ss args R_Val) (hQ : ∀ (pc : Nat) (H : Heap) (locs : List Loc) (ls : Array Slot), XW g A ss (wX g z) H locs → decode b_Val_judgeBody pc = .ok (.return_, 1) → W p l e (rmX 5 120) ss m args below meth c H locs 0 0 Q (F0 m pc ls [])) : ∀ (x1 : Int32) (x2 : Int32) (x3 : Int32) (x4 : Int32) (s : St) (H : Heap) (locs : List Loc) (ls : Array Slot), XW g A ss (wX g s) H locs → lv_has ls 5 [(0, .ref (g.q 3)), (1, .int x1), (2, .int x2), (3, .int x3), (4, .int x4)] → f_Val_judgeBody_143 x1 x2 x3 x4 s = some z → W p l e (rmX 5 120) ss m args below meth c H locs 0 0 Q (F0 m 143 ls []) := by
  have ⟨⟨hx, hb, hml, hown, hts⟩, hK, hA, hN⟩ := C
  intro x1 x2 x3 x4 s H locs ls hX hl h
  rw [f_Val_judgeBody_143] at h
  obtain rfl := so1 h
  exact hQ _ H locs ls hX d_Val_judgeBody_143
set_option maxHeartbeats 4000000 in
set_option maxRecDepth 100000 in
theorem w_Val_judgeBody_58 {z : St} (C : Cx g A p m c b_Val_judgeBody 5 ss args R_Val) (hQ : ∀ (pc : Nat) (H : Heap) (locs : List Loc) (ls : Array Slot), XW g A ss (wX g z) H locs → decode b_Val_judgeBody pc = .ok (.return_, 1) → W p l e (rmX 5 120) ss m args below meth c H locs 0 0 Q (F0 m pc ls [])) (n : Nat) : ∀ (x1 : Int32) (x2 : Int32) (x3 : Int32) (x4 : Int32) (s : St) (H : Heap) (locs : List Loc) (ls : Array Slot), XW g A ss (wX g s) H locs → lv_has ls 5 [(0, .ref (g.q 3)), (1, .int x1), (2, .int x2), (3, .int x3), (4, .int x4)] → f_Val_judgeBody_58 n x1 x2 x3 x4 s = some z → W p l e (rmX 5 120) ss m args below meth c H locs 0 0 Q (F0 m 58 ls []) := by
  have ⟨⟨hx, hb, hml, hown, hts⟩, hK, hA, hN⟩ := C
  induction n with
  | zero => intro x1 x2 x3 x4 s H locs ls hX hl h; cases h
  | succ n ih =>
    intro x1 x2 x3 x4 s H locs ls hX hl h
    rw [f_Val_judgeBody_58] at h
    refine lv_iload hx hb d_Val_judgeBody_58 (lv_at hl 4 rfl) ?_
    refine lv_iload_n hx hb d_Val_judgeBody_60 rfl (lv_at hl 3 rfl) ?_
    refine lv_icmp_gt (tgt := 143) hx hb d_Val_judgeBody_61 (by decide) (fun c61 => ?_) (fun c61 => ?_)
    · have h := ite_t c61 h
      exact w_Val_judgeBody_143 C hQ x1 x2 x3 x4 s H locs ls hX hl h
    · have h := ite_f c61 h
      refine lv_aload_n hx hb d_Val_judgeBody_64 rfl (lv_at hl 0 rfl) ?_
      refine gf_3_fault C hX fl_Val_24 d_Val_judgeBody_65 ?_
      refine lv_if_ne (tgt := 143) hx hb d_Val_judgeBody_68 (by decide) (fun c68 => ?_) (fun c68 => ?_)
      · have h := ite_f c68 h
        exact w_Val_judgeBody_143 C hQ x1 x2 x3 x4 s H locs ls hX hl h
      · have h := ite_t c68 h
        refine lv_aload_n hx hb d_Val_judgeBody_71 rfl (lv_at hl 0 rfl) ?_
        refine gf_3_contents C hX fl_Val_20 d_Val_judgeBody_72 ?_
        refine gf_1_code C hX fl_Val_112 d_Val_judgeBody_75 ?_
        refine lv_iload hx hb d_Val_judgeBody_78 (lv_at hl 4 rfl) ?_
        refine lv_iconst (v := 4) hx hb d_Val_judgeBody_80 (by decide) ?_
        refine lv_aload_n hx hb d_Val_judgeBody_81 rfl (lv_at hl 0 rfl) ?_
        refine gf_3_height C hX fl_Val_96 d_Val_judgeBody_82 ?_
        obtain ⟨s1, es1, h⟩ := lt1_e h
        refine x_vV (ws' := wX g s1) (As := [.int x4, .int 4, .int (s 3 1)]) (rest := []) C hX (by rw [es1]; exact cTabSet_20 l g s x4 4 (s 3 1)) (cw_Val_115 C.1.2.2.2.2 C.2.2.2 ⟨by decide, by decide⟩) (x_rc C hX wg_20 rfl) rfl hl.1 rfl (lv_room (Nat.le_of_ble_eq_true rfl)) d_Val_judgeBody_85 ⟨Nat.le_refl _, Nat.le_refl _⟩ (fun H locs hX => ?_)
        refine lv_aload_n hx hb d_Val_judgeBody_88 rfl (lv_at hl 0 rfl) ?_
        refine gf_3_contents C hX fl_Val_20 d_Val_judgeBody_89 ?_
        refine gf_1_code C hX fl_Val_112 d_Val_judgeBody_92 ?_
        refine lv_iload hx hb d_Val_judgeBody_95 (lv_at hl 4 rfl) ?_
        refine lv_iconst (v := 5) hx hb d_Val_judgeBody_97 (by decide) ?_
        refine lv_aload_n hx hb d_Val_judgeBody_98 rfl (lv_at hl 0 rfl) ?_
        obtain ⟨r2, hc99, h⟩ := bd1_e h
        refine x_vI (As := []) (rest := [.int 5, .int x4, .ref (g.q 20)]) C hX (c_Val_isAlive l g s1 r2 hc99) (cw_Val_118 C.1.2.2.2.2 C.2.2.2 ⟨by decide, by decide⟩) (x_rc C hX wg_3 rfl) rfl hl.1 rfl (lv_room (Nat.le_of_ble_eq_true rfl)) d_Val_judgeBody_99 ⟨Nat.le_refl _, Nat.le_refl _⟩ (fun H locs hX => ?_)
        obtain ⟨s3, es3, h⟩ := lt1_e h
        refine x_vV (ws' := wX g s3) (As := [.int x4, .int 5, .int r2]) (rest := []) C hX (by rw [es3]; exact cTabSet_20 l g s1 x4 5 r2) (cw_Val_115 C.1.2.2.2.2 C.2.2.2 ⟨by decide, by decide⟩) (x_rc C hX wg_20 rfl) rfl hl.1 rfl (lv_room (Nat.le_of_ble_eq_true rfl)) d_Val_judgeBody_102 ⟨Nat.le_refl _, Nat.le_refl _⟩ (fun H locs hX => ?_)
        refine lv_aload_n hx hb d_Val_judgeBody_105 rfl (lv_at hl 0 rfl) ?_
        refine lv_iload hx hb d_Val_judgeBody_106 (lv_at hl 4 rfl) ?_
        refine lv_aload_n hx hb d_Val_judgeBody_108 rfl (lv_at hl 0 rfl) ?_
        refine gf_3_contents C hX fl_Val_20 d_Val_judgeBody_109 ?_
        refine gf_1_code C hX fl_Val_112 d_Val_judgeBody_112 ?_
        refine lv_iload hx hb d_Val_judgeBody_115 (lv_at hl 4 rfl) ?_
        refine lv_iconst (v := 0) hx hb d_Val_judgeBody_117 (by decide) ?_
        obtain ⟨r4, er4, h⟩ := lt1_e h
        refine x_vI (r := r4) (ws' := wX g s3) (As := [.int x4, .int 0]) (rest := [.int x4, .ref (g.q 3)]) C hX (by rw [er4]; exact cTabGet_20 l g s3 x4 0) (cw_Val_65 C.1.2.2.2.2 C.2.2.2 ⟨by decide, by decide⟩) (x_rc C hX wg_20 rfl) rfl hl.1 rfl (lv_room (Nat.le_of_ble_eq_true rfl)) d_Val_judgeBody_118 ⟨Nat.le_refl _, Nat.le_refl _⟩ (fun H locs hX => ?_)
        refine lv_aload_n hx hb d_Val_judgeBody_121 rfl (lv_at hl 0 rfl) ?_
        refine gf_3_contents C hX fl_Val_20 d_Val_judgeBody_122 ?_
        refine gf_1_code C hX fl_Val_112 d_Val_judgeBody_125 ?_
        refine lv_iload hx hb d_Val_judgeBody_128 (lv_at hl 4 rfl) ?_
        refine lv_iconst (v := 1) hx hb d_Val_judgeBody_130 (by decide) ?_
        obtain ⟨r5, er5, h⟩ := lt1_e h
        refine x_vI (r := r5) (ws' := wX g s3) (As := [.int x4, .int 1]) (rest := [.int r4, .int x4, .ref (g.q 3)]) C hX (by rw [er5]; exact cTabGet_20 l g s3 x4 1) (cw_Val_65 C.1.2.2.2.2 C.2.2.2 ⟨by decide, by decide⟩) (x_rc C hX wg_20 rfl) rfl hl.1 rfl (lv_room (Nat.le_of_ble_eq_true rfl)) d_Val_judgeBody_131 ⟨Nat.le_refl _, Nat.le_refl _⟩ (fun H locs hX => ?_)
        obtain ⟨s6, hc134, h⟩ := bd1_e h
        refine x_vV (As := [.int x4, .int r4, .int r5]) (rest := []) C hX (c_Val_judgeInstruction l g x4 r4 r5 s3 s6 hc134) (cw_Val_121 C.1.2.2.2.2 C.2.2.2 ⟨by decide, by decide⟩) (x_rc C hX wg_3 rfl) rfl hl.1 rfl (lv_room (Nat.le_of_ble_eq_true rfl)) d_Val_judgeBody_134 ⟨Nat.le_refl _, Nat.le_refl _⟩ (fun H locs hX => ?_)
        obtain ⟨v7, ev7, h⟩ := lt1_e h
        refine lv_iinc (v := v7) (lv' := [(4, .int v7), (0, .ref (g.q 3)), (1, .int x1), (2, .int x2), (3, .int x3)]) hx hb d_Val_judgeBody_137 hl (k := 4) rfl (by rw [ev7]; rfl) (by decide) rfl (fun ls hl => ?_)
        refine lv_goto (tgt := 58) hx hb d_Val_judgeBody_140 (by decide) ?_
        exact ih x1 x2 x3 v7 s6 H locs ls hX (lv_sub hl [1, 2, 3, 4, 0] rfl) h
set_option maxHeartbeats 4000000 in
set_option maxRecDepth 100000 in
theorem w_Val_judgeBody {z : St} (C : Cx g A p m c b_Val_judgeBody 5 ss args R_Val) (hQ : ∀ (pc : Nat) (H : Heap) (locs : List Loc) (ls : Array Slot), XW g A ss (wX g z) H locs → decode b_Val_judgeBody pc = .ok (.return_, 1) → W p l e (rmX 5 120) ss m args below meth c H locs 0 0 Q (F0 m pc ls [])) : ∀ (x1 : Int32) (s : St) (H : Heap) (locs : List Loc) (ls : Array Slot), XW g A ss (wX g s) H locs → lv_has ls 5 [(0, .ref (g.q 3)), (1, .int x1)] → f_Val_judgeBody x1 s = some z → W p l e (rmX 5 120) ss m args below meth c H locs 0 0 Q (F0 m 0 ls []) := by
  have ⟨⟨hx, hb, hml, hown, hts⟩, hK, hA, hN⟩ := C
  intro x1 s H locs ls hX hl h
  rw [f_Val_judgeBody] at h
  refine lv_aload_n hx hb d_Val_judgeBody_0 rfl (lv_at hl 0 rfl) ?_
  refine lv_iload_n hx hb d_Val_judgeBody_1 rfl (lv_at hl 1 rfl) ?_
  obtain ⟨s1, es1, h⟩ := lt1_e h
  refine pf_3_function C hX fl_Val_93 d_Val_judgeBody_2 (fun H locs hX => ?_)
  rw [← es1] at hX
  refine lv_aload_n hx hb d_Val_judgeBody_5 rfl (lv_at hl 0 rfl) ?_
  refine lv_iconst (v := 0) hx hb d_Val_judgeBody_6 (by decide) ?_
  obtain ⟨s2, es2, h⟩ := lt1_e h
  refine pf_3_height C hX fl_Val_96 d_Val_judgeBody_7 (fun H locs hX => ?_)
  rw [← es2] at hX
  refine lv_aload_n hx hb d_Val_judgeBody_10 rfl (lv_at hl 0 rfl) ?_
  refine lv_iconst (v := 0) hx hb d_Val_judgeBody_11 (by decide) ?_
  obtain ⟨s3, es3, h⟩ := lt1_e h
  refine pf_3_open C hX fl_Val_99 d_Val_judgeBody_12 (fun H locs hX => ?_)
  rw [← es3] at hX
  refine lv_aload_n hx hb d_Val_judgeBody_15 rfl (lv_at hl 0 rfl) ?_
  refine gf_3_contents C hX fl_Val_20 d_Val_judgeBody_16 ?_
  refine lv_iload_n hx hb d_Val_judgeBody_19 rfl (lv_at hl 1 rfl) ?_
  obtain ⟨r4, hc20, h⟩ := bd1_e h
  refine x_vI (As := [.int x1]) (rest := []) C hX (c_Cont_resultsOf l g x1 s3 r4 hc20) (cw_Val_102 C.1.2.2.2.2 C.2.2.2 ⟨by decide, by decide⟩) (x_rc C hX wg_1 rfl) rfl hl.1 rfl (lv_room (Nat.le_of_ble_eq_true rfl)) d_Val_judgeBody_20 ⟨Nat.le_refl _, Nat.le_refl _⟩ (fun H locs hX => ?_)
  refine lv_istore_n (lv' := [(2, .int r4), (0, .ref (g.q 3)), (1, .int x1)]) hx hb d_Val_judgeBody_23 rfl hl (by decide) rfl (fun ls hl => ?_)
  refine lv_aload_n hx hb d_Val_judgeBody_24 rfl (lv_at hl 1 rfl) ?_
  refine lv_iconst (v := 2) hx hb d_Val_judgeBody_25 (by decide) ?_
  refine lv_iload_n hx hb d_Val_judgeBody_26 rfl (lv_at hl 0 rfl) ?_
  refine lv_iload_n hx hb d_Val_judgeBody_27 rfl (lv_at hl 0 rfl) ?_
  obtain ⟨s5, hc28, h⟩ := bd1_e h
  refine x_vV (As := [.int 2, .int r4, .int r4]) (rest := []) C hX (c_Val_openBlock l g 2 r4 r4 s3 s5 hc28) (cw_Val_108 C.1.2.2.2.2 C.2.2.2 ⟨by decide, by decide⟩) (x_rc C hX wg_3 rfl) rfl hl.1 rfl (lv_room (Nat.le_of_ble_eq_true rfl)) d_Val_judgeBody_28 ⟨Nat.le_refl _, Nat.le_refl _⟩ (fun H locs hX => ?_)
  refine lv_aload_n hx hb d_Val_judgeBody_31 rfl (lv_at hl 1 rfl) ?_
  refine gf_3_contents C hX fl_Val_20 d_Val_judgeBody_32 ?_
  refine gf_1_functions C hX fl_Val_53 d_Val_judgeBody_35 ?_
  refine lv_iload_n hx hb d_Val_judgeBody_38 rfl (lv_at hl 2 rfl) ?_
  refine lv_iconst (v := 3) hx hb d_Val_judgeBody_39 (by decide) ?_
  obtain ⟨r6, er6, h⟩ := lt1_e h
  refine x_vI (r := r6) (ws' := wX g s5) (As := [.int x1, .int 3]) (rest := []) C hX (by rw [er6]; exact cTabGet_12 l g s5 x1 3) (cw_Val_65 C.1.2.2.2.2 C.2.2.2 ⟨by decide, by decide⟩) (x_rc C hX wg_12 rfl) rfl hl.1 rfl (lv_room (Nat.le_of_ble_eq_true rfl)) d_Val_judgeBody_40 ⟨Nat.le_refl _, Nat.le_refl _⟩ (fun H locs hX => ?_)
  refine lv_istore_n (lv' := [(3, .int r6), (2, .int r4), (0, .ref (g.q 3)), (1, .int x1)]) hx hb d_Val_judgeBody_43 rfl hl (by decide) rfl (fun ls hl => ?_)
  refine lv_aload_n hx hb d_Val_judgeBody_44 rfl (lv_at hl 2 rfl) ?_
  refine gf_3_contents C hX fl_Val_20 d_Val_judgeBody_45 ?_
  refine gf_1_functions C hX fl_Val_53 d_Val_judgeBody_48 ?_
  refine lv_iload_n hx hb d_Val_judgeBody_51 rfl (lv_at hl 3 rfl) ?_
  refine lv_iconst (v := 2) hx hb d_Val_judgeBody_52 (by decide) ?_
  obtain ⟨r7, er7, h⟩ := lt1_e h
  refine x_vI (r := r7) (ws' := wX g s5) (As := [.int x1, .int 2]) (rest := []) C hX (by rw [er7]; exact cTabGet_12 l g s5 x1 2) (cw_Val_65 C.1.2.2.2.2 C.2.2.2 ⟨by decide, by decide⟩) (x_rc C hX wg_12 rfl) rfl hl.1 rfl (lv_room (Nat.le_of_ble_eq_true rfl)) d_Val_judgeBody_53 ⟨Nat.le_refl _, Nat.le_refl _⟩ (fun H locs hX => ?_)
  refine lv_istore (lv' := [(4, .int r7), (3, .int r6), (2, .int r4), (0, .ref (g.q 3)), (1, .int x1)]) hx hb d_Val_judgeBody_56 hl (by decide) rfl (fun ls hl => ?_)
  exact w_Val_judgeBody_58 C hQ FU x1 r4 r6 r7 s5 H locs ls hX (lv_sub hl [3, 4, 2, 1, 0] rfl) h
end WALK
theorem c_Val_judgeBody (l : Launch) (g : GX) (x1 : Int32) (s : St) (z : St) (h : f_Val_judgeBody x1 s = some z) : MV l g y_Val_judgeBody b_Val_judgeBody 5 none 5 120 [.ref (g.q 3), .int x1] (wX g s) (wX g z) :=
  MV.mk (own := R_Val) (by decide) rfl (Nat.le_of_ble_eq_true rfl) fun p e ss m below meth c A Q C hQ ls hX hl => w_Val_judgeBody C hQ x1 s _ _ ls hX hl h
-- Val_judgeData
def f_Val_judgeData_123 (x1 : Int32) (x2 : Int32) (s : St) : Option St :=
    some s
def f_Val_judgeData_117 (k61 : Int32 → Int32 → St → Option St) (x1 : Int32) (x2 : Int32) (s : St) : Option St :=
    lt1 (x2 + (1)) fun v1 =>
    k61 x1 v1 s
def f_Val_judgeData_61 : Nat → Int32 → Int32 → St → Option St
  | 0, _, _, _ => none
  | n + 1, x1, x2, s =>
    if 4 ≤ x2 then
      f_Val_judgeData_123 x1 x2 s
    else
      if x1 ≤ x2 then
        f_Val_judgeData_123 x1 x2 s
      else
        lt1 (tGet 4 4 (s 19) x2 1) fun r1 =>
        lt1 (s 1 1 * 64) fun v2 =>
        lt1 (tGet 4 4 (s 19) x2 3) fun r3 =>
        lt1 (v2 - r3) fun v4 =>
        bd1 (f_X_isAbove r1 v4) fun r5 =>
        if r5 = 0 then
          f_Val_judgeData_117 (f_Val_judgeData_61 n) x1 x2 s
        else
          bd1 (f_Val_refuse 4 s) fun s6 =>
          f_Val_judgeData_117 (f_Val_judgeData_61 n) x1 x2 s6
def f_Val_judgeData_59 (x1 : Int32) (x2 : Int32) (s : St) : Option St :=
    f_Val_judgeData_61 FU x1 0 s
def f_Val_judgeData_53 (k13 : Int32 → Int32 → St → Option St) (x1 : Int32) (x2 : Int32) (s : St) : Option St :=
    lt1 (x2 + (1)) fun v1 =>
    k13 x1 v1 s
def f_Val_judgeData_48 (k13 : Int32 → Int32 → St → Option St) (x1 : Int32) (x2 : Int32) (s : St) : Option St :=
    bd1 (f_Val_refuse 3 s) fun s1 =>
    f_Val_judgeData_53 k13 x1 x2 s1
def f_Val_judgeData_13 : Nat → Int32 → Int32 → St → Option St
  | 0, _, _, _ => none
  | n + 1, x1, x2, s =>
    if 4 ≤ x2 then
      f_Val_judgeData_59 x1 x2 s
    else
      if x1 ≤ x2 then
        f_Val_judgeData_59 x1 x2 s
      else
        if s 1 0 = 0 then
          f_Val_judgeData_48 (f_Val_judgeData_13 n) x1 x2 s
        else
          lt1 (tGet 4 4 (s 19) x2 0) fun r1 =>
          if r1 = 0 then
            f_Val_judgeData_53 (f_Val_judgeData_13 n) x1 x2 s
          else
            f_Val_judgeData_48 (f_Val_judgeData_13 n) x1 x2 s
def f_Val_judgeData (s : St) : Option St :=
    lt1 (s 18 0) fun r1 =>
    f_Val_judgeData_13 FU r1 0 s
section WALK
variable {p : Program} {l : Launch} {e : Env} {ss : State} {m : MethodId} {args : Array Value} {below : List Frame} {meth : Method} {c : Code} {Q : State → Prop} {g : GX} {A : Nat → Prop}
set_option maxHeartbeats 4000000 in
set_option maxRecDepth 100000 in
theorem w_Val_judgeData_123 {z : St} (C : Cx g A p m c b_Val_judgeData 3 ss args R_Val) (hQ : ∀ (pc : Nat) (H : Heap) (locs : List Loc) (ls : Array Slot), XW g A ss (wX g z) H locs → decode b_Val_judgeData pc = .ok (.return_, 1) → W p l e (rmX 1 23) ss m args below meth c H locs 0 0 Q (F0 m pc ls [])) : ∀ (x1 : Int32) (x2 : Int32) (s : St) (H : Heap) (locs : List Loc) (ls : Array Slot), XW g A ss (wX g s) H locs → lv_has ls 3 [(0, .ref (g.q 3)), (1, .int x1), (2, .int x2)] → f_Val_judgeData_123 x1 x2 s = some z → W p l e (rmX 1 23) ss m args below meth c H locs 0 0 Q (F0 m 123 ls []) := by
  have ⟨⟨hx, hb, hml, hown, hts⟩, hK, hA, hN⟩ := C
  intro x1 x2 s H locs ls hX hl h
  rw [f_Val_judgeData_123] at h
  obtain rfl := so1 h
  exact hQ _ H locs ls hX d_Val_judgeData_123
set_option maxHeartbeats 4000000 in
set_option maxRecDepth 100000 in
theorem w_Val_judgeData_117 {z : St} (C : Cx g A p m c b_Val_judgeData 3 ss args R_Val) (hQ : ∀ (pc : Nat) (H : Heap) (locs : List Loc) (ls : Array Slot), XW g A ss (wX g z) H locs → decode b_Val_judgeData pc = .ok (.return_, 1) → W p l e (rmX 1 23) ss m args below meth c H locs 0 0 Q (F0 m pc ls [])) (k61 : Int32 → Int32 → St → Option St) (hk61 : ∀ (x1 : Int32) (x2 : Int32) (s : St) (H : Heap) (locs : List Loc) (ls : Array Slot), XW g A ss (wX g s) H locs → lv_has ls 3 [(0, .ref (g.q 3)), (1, .int x1), (2, .int x2)] → k61 x1 x2 s = some z → W p l e (rmX 1 23) ss m args below meth c H locs 0 0 Q (F0 m 61 ls [])) : ∀ (x1 : Int32) (x2 : Int32) (s : St) (H : Heap) (locs : List Loc) (ls : Array Slot), XW g A ss (wX g s) H locs → lv_has ls 3 [(0, .ref (g.q 3)), (1, .int x1), (2, .int x2)] → f_Val_judgeData_117 k61 x1 x2 s = some z → W p l e (rmX 1 23) ss m args below meth c H locs 0 0 Q (F0 m 117 ls []) := by
  have ⟨⟨hx, hb, hml, hown, hts⟩, hK, hA, hN⟩ := C
  intro x1 x2 s H locs ls hX hl h
  rw [f_Val_judgeData_117] at h
  obtain ⟨v1, ev1, h⟩ := lt1_e h
  refine lv_iinc (v := v1) (lv' := [(2, .int v1), (0, .ref (g.q 3)), (1, .int x1)]) hx hb d_Val_judgeData_117 hl (k := 2) rfl (by rw [ev1]; rfl) (by decide) rfl (fun ls hl => ?_)
  refine lv_goto (tgt := 61) hx hb d_Val_judgeData_120 (by decide) ?_
  exact hk61 x1 v1 s H locs ls hX (lv_sub hl [1, 2, 0] rfl) h
set_option maxHeartbeats 4000000 in
set_option maxRecDepth 100000 in
theorem w_Val_judgeData_61 {z : St} (C : Cx g A p m c b_Val_judgeData 3 ss args R_Val) (hQ : ∀ (pc : Nat) (H : Heap) (locs : List Loc) (ls : Array Slot), XW g A ss (wX g z) H locs → decode b_Val_judgeData pc = .ok (.return_, 1) → W p l e (rmX 1 23) ss m args below meth c H locs 0 0 Q (F0 m pc ls [])) (n : Nat) : ∀ (x1 : Int32) (x2 : Int32) (s : St) (H : Heap) (locs : List Loc) (ls : Array Slot), XW g A ss (wX g s) H locs → lv_has ls 3 [(0, .ref (g.q 3)), (1, .int x1), (2, .int x2)] → f_Val_judgeData_61 n x1 x2 s = some z → W p l e (rmX 1 23) ss m args below meth c H locs 0 0 Q (F0 m 61 ls []) := by
  have ⟨⟨hx, hb, hml, hown, hts⟩, hK, hA, hN⟩ := C
  induction n with
  | zero => intro x1 x2 s H locs ls hX hl h; cases h
  | succ n ih =>
    intro x1 x2 s H locs ls hX hl h
    rw [f_Val_judgeData_61] at h
    refine lv_iload_n hx hb d_Val_judgeData_61 rfl (lv_at hl 2 rfl) ?_
    refine lv_iconst (v := 4) hx hb d_Val_judgeData_62 (by decide) ?_
    refine lv_icmp_ge (tgt := 123) hx hb d_Val_judgeData_63 (by decide) (fun c63 => ?_) (fun c63 => ?_)
    · have h := ite_t c63 h
      exact w_Val_judgeData_123 C hQ x1 x2 s H locs ls hX hl h
    · have h := ite_f c63 h
      refine lv_iload_n hx hb d_Val_judgeData_66 rfl (lv_at hl 2 rfl) ?_
      refine lv_iload_n hx hb d_Val_judgeData_67 rfl (lv_at hl 1 rfl) ?_
      refine lv_icmp_ge (tgt := 123) hx hb d_Val_judgeData_68 (by decide) (fun c68 => ?_) (fun c68 => ?_)
      · have h := ite_t c68 h
        exact w_Val_judgeData_123 C hQ x1 x2 s H locs ls hX hl h
      · have h := ite_f c68 h
        refine lv_aload_n hx hb d_Val_judgeData_71 rfl (lv_at hl 0 rfl) ?_
        refine gf_3_contents C hX fl_Val_20 d_Val_judgeData_72 ?_
        refine gf_1_data C hX fl_Val_87 d_Val_judgeData_75 ?_
        refine lv_iload_n hx hb d_Val_judgeData_78 rfl (lv_at hl 2 rfl) ?_
        refine lv_iconst (v := 1) hx hb d_Val_judgeData_79 (by decide) ?_
        obtain ⟨r1, er1, h⟩ := lt1_e h
        refine x_vI (r := r1) (ws' := wX g s) (As := [.int x2, .int 1]) (rest := []) C hX (by rw [er1]; exact cTabGet_18 l g s x2 1) (cw_Val_65 C.1.2.2.2.2 C.2.2.2 ⟨by decide, by decide⟩) (x_rc C hX wg_18 rfl) rfl hl.1 rfl (lv_room (Nat.le_of_ble_eq_true rfl)) d_Val_judgeData_80 ⟨Nat.le_refl _, Nat.le_refl _⟩ (fun H locs hX => ?_)
        refine lv_aload_n hx hb d_Val_judgeData_83 rfl (lv_at hl 0 rfl) ?_
        refine gf_3_contents C hX fl_Val_20 d_Val_judgeData_84 ?_
        refine gf_1_firstPages C hX fl_Val_36 d_Val_judgeData_87 ?_
        refine lv_bipush (v := 64) hx hb d_Val_judgeData_90 (by decide) ?_
        obtain ⟨v2, ev2, h⟩ := lt1_e h
        refine x_imul hx hb d_Val_judgeData_92 ev2 ?_
        refine lv_aload_n hx hb d_Val_judgeData_93 rfl (lv_at hl 0 rfl) ?_
        refine gf_3_contents C hX fl_Val_20 d_Val_judgeData_94 ?_
        refine gf_1_data C hX fl_Val_87 d_Val_judgeData_97 ?_
        refine lv_iload_n hx hb d_Val_judgeData_100 rfl (lv_at hl 2 rfl) ?_
        refine lv_iconst (v := 3) hx hb d_Val_judgeData_101 (by decide) ?_
        obtain ⟨r3, er3, h⟩ := lt1_e h
        refine x_vI (r := r3) (ws' := wX g s) (As := [.int x2, .int 3]) (rest := [.int v2, .int r1]) C hX (by rw [er3]; exact cTabGet_18 l g s x2 3) (cw_Val_65 C.1.2.2.2.2 C.2.2.2 ⟨by decide, by decide⟩) (x_rc C hX wg_18 rfl) rfl hl.1 rfl (lv_room (Nat.le_of_ble_eq_true rfl)) d_Val_judgeData_102 ⟨Nat.le_refl _, Nat.le_refl _⟩ (fun H locs hX => ?_)
        obtain ⟨v4, ev4, h⟩ := lt1_e h
        refine x_isub hx hb d_Val_judgeData_105 ev4 ?_
        obtain ⟨r5, hc106, h⟩ := bd1_e h
        refine x_sNI (As := [.int r1, .int v4]) (rest := []) C hX (c_X_isAbove l g r1 v4 r5 hc106 _) (cw_Val_90 C.1.2.2.2.2 C.2.2.2 ⟨by decide, by decide⟩) rfl hl.1 rfl (lv_room (Nat.le_of_ble_eq_true rfl)) d_Val_judgeData_106 ⟨Nat.le_refl _, Nat.le_refl _⟩ (fun H locs hX => ?_)
        refine lv_if_eq (tgt := 117) hx hb d_Val_judgeData_109 (by decide) (fun c109 => ?_) (fun c109 => ?_)
        · have h := ite_t c109 h
          exact w_Val_judgeData_117 C hQ (f_Val_judgeData_61 n) ih x1 x2 s H locs ls hX hl h
        · have h := ite_f c109 h
          refine lv_aload_n hx hb d_Val_judgeData_112 rfl (lv_at hl 0 rfl) ?_
          refine lv_iconst (v := 4) hx hb d_Val_judgeData_113 (by decide) ?_
          obtain ⟨s6, hc114, h⟩ := bd1_e h
          refine x_vV (As := [.int 4]) (rest := []) C hX (c_Val_refuse l g 4 s s6 hc114) (cw_Val_39 C.1.2.2.2.2 C.2.2.2 ⟨by decide, by decide⟩) (x_rc C hX wg_3 rfl) rfl hl.1 rfl (lv_room (Nat.le_of_ble_eq_true rfl)) d_Val_judgeData_114 ⟨Nat.le_refl _, Nat.le_refl _⟩ (fun H locs hX => ?_)
          exact w_Val_judgeData_117 C hQ (f_Val_judgeData_61 n) ih x1 x2 s6 H locs ls hX hl h
set_option maxHeartbeats 4000000 in
set_option maxRecDepth 100000 in
theorem w_Val_judgeData_59 {z : St} (C : Cx g A p m c b_Val_judgeData 3 ss args R_Val) (hQ : ∀ (pc : Nat) (H : Heap) (locs : List Loc) (ls : Array Slot), XW g A ss (wX g z) H locs → decode b_Val_judgeData pc = .ok (.return_, 1) → W p l e (rmX 1 23) ss m args below meth c H locs 0 0 Q (F0 m pc ls [])) : ∀ (x1 : Int32) (x2 : Int32) (s : St) (H : Heap) (locs : List Loc) (ls : Array Slot), XW g A ss (wX g s) H locs → lv_has ls 3 [(0, .ref (g.q 3)), (1, .int x1), (2, .int x2)] → f_Val_judgeData_59 x1 x2 s = some z → W p l e (rmX 1 23) ss m args below meth c H locs 0 0 Q (F0 m 59 ls []) := by
  have ⟨⟨hx, hb, hml, hown, hts⟩, hK, hA, hN⟩ := C
  intro x1 x2 s H locs ls hX hl h
  rw [f_Val_judgeData_59] at h
  refine lv_iconst (v := 0) hx hb d_Val_judgeData_59 (by decide) ?_
  refine lv_istore_n (lv' := [(2, .int 0), (0, .ref (g.q 3)), (1, .int x1)]) hx hb d_Val_judgeData_60 rfl hl (by decide) rfl (fun ls hl => ?_)
  exact w_Val_judgeData_61 C hQ FU x1 0 s H locs ls hX (lv_sub hl [1, 2, 0] rfl) h
set_option maxHeartbeats 4000000 in
set_option maxRecDepth 100000 in
theorem w_Val_judgeData_53 {z : St} (C : Cx g A p m c b_Val_judgeData 3 ss args R_Val) (hQ : ∀ (pc : Nat) (H : Heap) (locs : List Loc) (ls : Array Slot), XW g A ss (wX g z) H locs → decode b_Val_judgeData pc = .ok (.return_, 1) → W p l e (rmX 1 23) ss m args below meth c H locs 0 0 Q (F0 m pc ls [])) (k13 : Int32 → Int32 → St → Option St) (hk13 : ∀ (x1 : Int32) (x2 : Int32) (s : St) (H : Heap) (locs : List Loc) (ls : Array Slot), XW g A ss (wX g s) H locs → lv_has ls 3 [(0, .ref (g.q 3)), (1, .int x1), (2, .int x2)] → k13 x1 x2 s = some z → W p l e (rmX 1 23) ss m args below meth c H locs 0 0 Q (F0 m 13 ls [])) : ∀ (x1 : Int32) (x2 : Int32) (s : St) (H : Heap) (locs : List Loc) (ls : Array Slot), XW g A ss (wX g s) H locs → lv_has ls 3 [(0, .ref (g.q 3)), (1, .int x1), (2, .int x2)] → f_Val_judgeData_53 k13 x1 x2 s = some z → W p l e (rmX 1 23) ss m args below meth c H locs 0 0 Q (F0 m 53 ls []) := by
  have ⟨⟨hx, hb, hml, hown, hts⟩, hK, hA, hN⟩ := C
  intro x1 x2 s H locs ls hX hl h
  rw [f_Val_judgeData_53] at h
  obtain ⟨v1, ev1, h⟩ := lt1_e h
  refine lv_iinc (v := v1) (lv' := [(2, .int v1), (0, .ref (g.q 3)), (1, .int x1)]) hx hb d_Val_judgeData_53 hl (k := 2) rfl (by rw [ev1]; rfl) (by decide) rfl (fun ls hl => ?_)
  refine lv_goto (tgt := 13) hx hb d_Val_judgeData_56 (by decide) ?_
  exact hk13 x1 v1 s H locs ls hX (lv_sub hl [1, 2, 0] rfl) h
set_option maxHeartbeats 4000000 in
set_option maxRecDepth 100000 in
theorem w_Val_judgeData_48 {z : St} (C : Cx g A p m c b_Val_judgeData 3 ss args R_Val) (hQ : ∀ (pc : Nat) (H : Heap) (locs : List Loc) (ls : Array Slot), XW g A ss (wX g z) H locs → decode b_Val_judgeData pc = .ok (.return_, 1) → W p l e (rmX 1 23) ss m args below meth c H locs 0 0 Q (F0 m pc ls [])) (k13 : Int32 → Int32 → St → Option St) (hk13 : ∀ (x1 : Int32) (x2 : Int32) (s : St) (H : Heap) (locs : List Loc) (ls : Array Slot), XW g A ss (wX g s) H locs → lv_has ls 3 [(0, .ref (g.q 3)), (1, .int x1), (2, .int x2)] → k13 x1 x2 s = some z → W p l e (rmX 1 23) ss m args below meth c H locs 0 0 Q (F0 m 13 ls [])) : ∀ (x1 : Int32) (x2 : Int32) (s : St) (H : Heap) (locs : List Loc) (ls : Array Slot), XW g A ss (wX g s) H locs → lv_has ls 3 [(0, .ref (g.q 3)), (1, .int x1), (2, .int x2)] → f_Val_judgeData_48 k13 x1 x2 s = some z → W p l e (rmX 1 23) ss m args below meth c H locs 0 0 Q (F0 m 48 ls []) := by
  have ⟨⟨hx, hb, hml, hown, hts⟩, hK, hA, hN⟩ := C
  intro x1 x2 s H locs ls hX hl h
  rw [f_Val_judgeData_48] at h
  refine lv_aload_n hx hb d_Val_judgeData_48 rfl (lv_at hl 0 rfl) ?_
  refine lv_iconst (v := 3) hx hb d_Val_judgeData_49 (by decide) ?_
  obtain ⟨s1, hc50, h⟩ := bd1_e h
  refine x_vV (As := [.int 3]) (rest := []) C hX (c_Val_refuse l g 3 s s1 hc50) (cw_Val_39 C.1.2.2.2.2 C.2.2.2 ⟨by decide, by decide⟩) (x_rc C hX wg_3 rfl) rfl hl.1 rfl (lv_room (Nat.le_of_ble_eq_true rfl)) d_Val_judgeData_50 ⟨Nat.le_refl _, Nat.le_refl _⟩ (fun H locs hX => ?_)
  exact w_Val_judgeData_53 C hQ k13 hk13 x1 x2 s1 H locs ls hX hl h
set_option maxHeartbeats 4000000 in
set_option maxRecDepth 100000 in
theorem w_Val_judgeData_13 {z : St} (C : Cx g A p m c b_Val_judgeData 3 ss args R_Val) (hQ : ∀ (pc : Nat) (H : Heap) (locs : List Loc) (ls : Array Slot), XW g A ss (wX g z) H locs → decode b_Val_judgeData pc = .ok (.return_, 1) → W p l e (rmX 1 23) ss m args below meth c H locs 0 0 Q (F0 m pc ls [])) (n : Nat) : ∀ (x1 : Int32) (x2 : Int32) (s : St) (H : Heap) (locs : List Loc) (ls : Array Slot), XW g A ss (wX g s) H locs → lv_has ls 3 [(0, .ref (g.q 3)), (1, .int x1), (2, .int x2)] → f_Val_judgeData_13 n x1 x2 s = some z → W p l e (rmX 1 23) ss m args below meth c H locs 0 0 Q (F0 m 13 ls []) := by
  have ⟨⟨hx, hb, hml, hown, hts⟩, hK, hA, hN⟩ := C
  induction n with
  | zero => intro x1 x2 s H locs ls hX hl h; cases h
  | succ n ih =>
    intro x1 x2 s H locs ls hX hl h
    rw [f_Val_judgeData_13] at h
    refine lv_iload_n hx hb d_Val_judgeData_13 rfl (lv_at hl 2 rfl) ?_
    refine lv_iconst (v := 4) hx hb d_Val_judgeData_14 (by decide) ?_
    refine lv_icmp_ge (tgt := 59) hx hb d_Val_judgeData_15 (by decide) (fun c15 => ?_) (fun c15 => ?_)
    · have h := ite_t c15 h
      exact w_Val_judgeData_59 C hQ x1 x2 s H locs ls hX hl h
    · have h := ite_f c15 h
      refine lv_iload_n hx hb d_Val_judgeData_18 rfl (lv_at hl 2 rfl) ?_
      refine lv_iload_n hx hb d_Val_judgeData_19 rfl (lv_at hl 1 rfl) ?_
      refine lv_icmp_ge (tgt := 59) hx hb d_Val_judgeData_20 (by decide) (fun c20 => ?_) (fun c20 => ?_)
      · have h := ite_t c20 h
        exact w_Val_judgeData_59 C hQ x1 x2 s H locs ls hX hl h
      · have h := ite_f c20 h
        refine lv_aload_n hx hb d_Val_judgeData_23 rfl (lv_at hl 0 rfl) ?_
        refine gf_3_contents C hX fl_Val_20 d_Val_judgeData_24 ?_
        refine gf_1_hasMemory C hX fl_Val_80 d_Val_judgeData_27 ?_
        refine lv_if_eq (tgt := 48) hx hb d_Val_judgeData_30 (by decide) (fun c30 => ?_) (fun c30 => ?_)
        · have h := ite_t c30 h
          exact w_Val_judgeData_48 C hQ (f_Val_judgeData_13 n) ih x1 x2 s H locs ls hX hl h
        · have h := ite_f c30 h
          refine lv_aload_n hx hb d_Val_judgeData_33 rfl (lv_at hl 0 rfl) ?_
          refine gf_3_contents C hX fl_Val_20 d_Val_judgeData_34 ?_
          refine gf_1_data C hX fl_Val_87 d_Val_judgeData_37 ?_
          refine lv_iload_n hx hb d_Val_judgeData_40 rfl (lv_at hl 2 rfl) ?_
          refine lv_iconst (v := 0) hx hb d_Val_judgeData_41 (by decide) ?_
          obtain ⟨r1, er1, h⟩ := lt1_e h
          refine x_vI (r := r1) (ws' := wX g s) (As := [.int x2, .int 0]) (rest := []) C hX (by rw [er1]; exact cTabGet_18 l g s x2 0) (cw_Val_65 C.1.2.2.2.2 C.2.2.2 ⟨by decide, by decide⟩) (x_rc C hX wg_18 rfl) rfl hl.1 rfl (lv_room (Nat.le_of_ble_eq_true rfl)) d_Val_judgeData_42 ⟨Nat.le_refl _, Nat.le_refl _⟩ (fun H locs hX => ?_)
          refine lv_if_eq (tgt := 53) hx hb d_Val_judgeData_45 (by decide) (fun c45 => ?_) (fun c45 => ?_)
          · have h := ite_t c45 h
            exact w_Val_judgeData_53 C hQ (f_Val_judgeData_13 n) ih x1 x2 s H locs ls hX hl h
          · have h := ite_f c45 h
            exact w_Val_judgeData_48 C hQ (f_Val_judgeData_13 n) ih x1 x2 s H locs ls hX hl h
set_option maxHeartbeats 4000000 in
set_option maxRecDepth 100000 in
theorem w_Val_judgeData {z : St} (C : Cx g A p m c b_Val_judgeData 3 ss args R_Val) (hQ : ∀ (pc : Nat) (H : Heap) (locs : List Loc) (ls : Array Slot), XW g A ss (wX g z) H locs → decode b_Val_judgeData pc = .ok (.return_, 1) → W p l e (rmX 1 23) ss m args below meth c H locs 0 0 Q (F0 m pc ls [])) : ∀ (s : St) (H : Heap) (locs : List Loc) (ls : Array Slot), XW g A ss (wX g s) H locs → lv_has ls 3 [(0, .ref (g.q 3))] → f_Val_judgeData s = some z → W p l e (rmX 1 23) ss m args below meth c H locs 0 0 Q (F0 m 0 ls []) := by
  have ⟨⟨hx, hb, hml, hown, hts⟩, hK, hA, hN⟩ := C
  intro s H locs ls hX hl h
  rw [f_Val_judgeData] at h
  refine lv_aload_n hx hb d_Val_judgeData_0 rfl (lv_at hl 0 rfl) ?_
  refine gf_3_contents C hX fl_Val_20 d_Val_judgeData_1 ?_
  refine gf_1_data C hX fl_Val_87 d_Val_judgeData_4 ?_
  obtain ⟨r1, er1, h⟩ := lt1_e h
  refine x_vI (r := r1) (ws' := wX g s) (As := []) (rest := []) C hX (by rw [er1]; exact cTabCount_18 l g s) (cw_Val_46 C.1.2.2.2.2 C.2.2.2 ⟨by decide, by decide⟩) (x_rc C hX wg_18 rfl) rfl hl.1 rfl (lv_room (Nat.le_of_ble_eq_true rfl)) d_Val_judgeData_7 ⟨Nat.le_refl _, Nat.le_refl _⟩ (fun H locs hX => ?_)
  refine lv_istore_n (lv' := [(1, .int r1), (0, .ref (g.q 3))]) hx hb d_Val_judgeData_10 rfl hl (by decide) rfl (fun ls hl => ?_)
  refine lv_iconst (v := 0) hx hb d_Val_judgeData_11 (by decide) ?_
  refine lv_istore_n (lv' := [(2, .int 0), (1, .int r1), (0, .ref (g.q 3))]) hx hb d_Val_judgeData_12 rfl hl (by decide) rfl (fun ls hl => ?_)
  exact w_Val_judgeData_13 C hQ FU r1 0 s H locs ls hX (lv_sub hl [2, 1, 0] rfl) h
end WALK
theorem c_Val_judgeData (l : Launch) (g : GX) (s : St) (z : St) (h : f_Val_judgeData s = some z) : MV l g y_Val_judgeData b_Val_judgeData 3 none 1 23 [.ref (g.q 3)] (wX g s) (wX g z) :=
  MV.mk (own := R_Val) (by decide) rfl (Nat.le_of_ble_eq_true rfl) fun p e ss m below meth c A Q C hQ ls hX hl => w_Val_judgeData C hQ s _ _ ls hX hl h
-- Val_judge
def f_Val_judge_104 (x1 : Int32) (s : St) : Option (Int32 × St) :=
    bd1 (f_Val_judgeData s) fun s1 =>
    some (s1 3 3, s1)
def f_Val_judge_66 : Nat → Int32 → St → Option (Int32 × St)
  | 0, _, _ => none
  | n + 1, x1, s =>
    if 8 ≤ x1 then
      f_Val_judge_104 x1 s
    else
      lt1 (s 12 0) fun r1 =>
      if r1 ≤ x1 then
        f_Val_judge_104 x1 s
      else
        if s 3 3 = 0 then
          bd1 (f_Val_judgeBody x1 s) fun s2 =>
          lt1 (x1 + (1)) fun v3 =>
          f_Val_judge_66 n v3 s2
        else
          f_Val_judge_104 x1 s
def f_Val_judge_64 (x1 : Int32) (s : St) : Option (Int32 × St) :=
    f_Val_judge_66 FU 0 s
def f_Val_judge_33 : Nat → Int32 → St → Option (Int32 × St)
  | 0, _, _ => none
  | n + 1, x1, s =>
    if 8 ≤ x1 then
      f_Val_judge_64 x1 s
    else
      lt1 (s 16 0) fun r1 =>
      if r1 ≤ x1 then
        f_Val_judge_64 x1 s
      else
        bd1 (f_Val_judgeExport x1 s) fun s2 =>
        lt1 (x1 + (1)) fun v3 =>
        f_Val_judge_33 n v3 s2
def f_Val_judge_31 (s : St) : Option (Int32 × St) :=
    f_Val_judge_33 FU 0 s
def f_Val_judge (s : St) : Option (Int32 × St) :=
    lt1 (stp s 3 3 0) fun s1 =>
    bd1 (f_Val_judgeTypes s1) fun s2 =>
    if s2 1 1 ≤ s2 1 2 then
      f_Val_judge_31 s2
    else
      bd1 (f_Val_refuse 3 s2) fun s3 =>
      f_Val_judge_31 s3
section WALK
variable {p : Program} {l : Launch} {e : Env} {ss : State} {m : MethodId} {args : Array Value} {below : List Frame} {meth : Method} {c : Code} {Q : State → Prop} {g : GX} {A : Nat → Prop}
set_option maxHeartbeats 4000000 in
set_option maxRecDepth 100000 in
theorem w_Val_judge_104 {z : Int32 × St} (C : Cx g A p m c b_Val_judge 2 ss args R_Val) (hQ : ∀ (pc : Nat) (H : Heap) (locs : List Loc) (ls : Array Slot), XW g A ss (wX g z.2) H locs → decode b_Val_judge pc = .ok (.ireturn, 1) → W p l e (rmX 6 144) ss m args below meth c H locs 0 0 Q (F0 m pc ls [.int z.1])) : ∀ (x1 : Int32) (s : St) (H : Heap) (locs : List Loc) (ls : Array Slot), XW g A ss (wX g s) H locs → lv_has ls 2 [(0, .ref (g.q 3)), (1, .int x1)] → f_Val_judge_104 x1 s = some z → W p l e (rmX 6 144) ss m args below meth c H locs 0 0 Q (F0 m 104 ls []) := by
  have ⟨⟨hx, hb, hml, hown, hts⟩, hK, hA, hN⟩ := C
  intro x1 s H locs ls hX hl h
  rw [f_Val_judge_104] at h
  refine lv_aload_n hx hb d_Val_judge_104 rfl (lv_at hl 0 rfl) ?_
  obtain ⟨s1, hc105, h⟩ := bd1_e h
  refine x_vV (As := []) (rest := []) C hX (c_Val_judgeData l g s s1 hc105) (cw_Val_59 C.1.2.2.2.2 C.2.2.2 ⟨by decide, by decide⟩) (x_rc C hX wg_3 rfl) rfl hl.1 rfl (lv_room (Nat.le_of_ble_eq_true rfl)) d_Val_judge_105 ⟨Nat.le_refl _, Nat.le_refl _⟩ (fun H locs hX => ?_)
  refine lv_aload_n hx hb d_Val_judge_108 rfl (lv_at hl 0 rfl) ?_
  refine gf_3_fault C hX fl_Val_24 d_Val_judge_109 ?_
  obtain rfl := so1 h
  exact hQ _ H locs ls hX d_Val_judge_112
set_option maxHeartbeats 4000000 in
set_option maxRecDepth 100000 in
theorem w_Val_judge_66 {z : Int32 × St} (C : Cx g A p m c b_Val_judge 2 ss args R_Val) (hQ : ∀ (pc : Nat) (H : Heap) (locs : List Loc) (ls : Array Slot), XW g A ss (wX g z.2) H locs → decode b_Val_judge pc = .ok (.ireturn, 1) → W p l e (rmX 6 144) ss m args below meth c H locs 0 0 Q (F0 m pc ls [.int z.1])) (n : Nat) : ∀ (x1 : Int32) (s : St) (H : Heap) (locs : List Loc) (ls : Array Slot), XW g A ss (wX g s) H locs → lv_has ls 2 [(0, .ref (g.q 3)), (1, .int x1)] → f_Val_judge_66 n x1 s = some z → W p l e (rmX 6 144) ss m args below meth c H locs 0 0 Q (F0 m 66 ls []) := by
  have ⟨⟨hx, hb, hml, hown, hts⟩, hK, hA, hN⟩ := C
  induction n with
  | zero => intro x1 s H locs ls hX hl h; cases h
  | succ n ih =>
    intro x1 s H locs ls hX hl h
    rw [f_Val_judge_66] at h
    refine lv_iload_n hx hb d_Val_judge_66 rfl (lv_at hl 1 rfl) ?_
    refine lv_bipush (v := 8) hx hb d_Val_judge_67 (by decide) ?_
    refine lv_icmp_ge (tgt := 104) hx hb d_Val_judge_69 (by decide) (fun c69 => ?_) (fun c69 => ?_)
    · have h := ite_t c69 h
      exact w_Val_judge_104 C hQ x1 s H locs ls hX hl h
    · have h := ite_f c69 h
      refine lv_iload_n hx hb d_Val_judge_72 rfl (lv_at hl 1 rfl) ?_
      refine lv_aload_n hx hb d_Val_judge_73 rfl (lv_at hl 0 rfl) ?_
      refine gf_3_contents C hX fl_Val_20 d_Val_judge_74 ?_
      refine gf_1_functions C hX fl_Val_53 d_Val_judge_77 ?_
      obtain ⟨r1, er1, h⟩ := lt1_e h
      refine x_vI (r := r1) (ws' := wX g s) (As := []) (rest := [.int x1]) C hX (by rw [er1]; exact cTabCount_12 l g s) (cw_Val_46 C.1.2.2.2.2 C.2.2.2 ⟨by decide, by decide⟩) (x_rc C hX wg_12 rfl) rfl hl.1 rfl (lv_room (Nat.le_of_ble_eq_true rfl)) d_Val_judge_80 ⟨Nat.le_refl _, Nat.le_refl _⟩ (fun H locs hX => ?_)
      refine lv_icmp_ge (tgt := 104) hx hb d_Val_judge_83 (by decide) (fun c83 => ?_) (fun c83 => ?_)
      · have h := ite_t c83 h
        exact w_Val_judge_104 C hQ x1 s H locs ls hX hl h
      · have h := ite_f c83 h
        refine lv_aload_n hx hb d_Val_judge_86 rfl (lv_at hl 0 rfl) ?_
        refine gf_3_fault C hX fl_Val_24 d_Val_judge_87 ?_
        refine lv_if_ne (tgt := 104) hx hb d_Val_judge_90 (by decide) (fun c90 => ?_) (fun c90 => ?_)
        · have h := ite_f c90 h
          exact w_Val_judge_104 C hQ x1 s H locs ls hX hl h
        · have h := ite_t c90 h
          refine lv_aload_n hx hb d_Val_judge_93 rfl (lv_at hl 0 rfl) ?_
          refine lv_iload_n hx hb d_Val_judge_94 rfl (lv_at hl 1 rfl) ?_
          obtain ⟨s2, hc95, h⟩ := bd1_e h
          refine x_vV (As := [.int x1]) (rest := []) C hX (c_Val_judgeBody l g x1 s s2 hc95) (cw_Val_56 C.1.2.2.2.2 C.2.2.2 ⟨by decide, by decide⟩) (x_rc C hX wg_3 rfl) rfl hl.1 rfl (lv_room (Nat.le_of_ble_eq_true rfl)) d_Val_judge_95 ⟨Nat.le_refl _, Nat.le_refl _⟩ (fun H locs hX => ?_)
          obtain ⟨v3, ev3, h⟩ := lt1_e h
          refine lv_iinc (v := v3) (lv' := [(1, .int v3), (0, .ref (g.q 3))]) hx hb d_Val_judge_98 hl (k := 1) rfl (by rw [ev3]; rfl) (by decide) rfl (fun ls hl => ?_)
          refine lv_goto (tgt := 66) hx hb d_Val_judge_101 (by decide) ?_
          exact ih v3 s2 H locs ls hX (lv_sub hl [1, 0] rfl) h
set_option maxHeartbeats 4000000 in
set_option maxRecDepth 100000 in
theorem w_Val_judge_64 {z : Int32 × St} (C : Cx g A p m c b_Val_judge 2 ss args R_Val) (hQ : ∀ (pc : Nat) (H : Heap) (locs : List Loc) (ls : Array Slot), XW g A ss (wX g z.2) H locs → decode b_Val_judge pc = .ok (.ireturn, 1) → W p l e (rmX 6 144) ss m args below meth c H locs 0 0 Q (F0 m pc ls [.int z.1])) : ∀ (x1 : Int32) (s : St) (H : Heap) (locs : List Loc) (ls : Array Slot), XW g A ss (wX g s) H locs → lv_has ls 2 [(0, .ref (g.q 3)), (1, .int x1)] → f_Val_judge_64 x1 s = some z → W p l e (rmX 6 144) ss m args below meth c H locs 0 0 Q (F0 m 64 ls []) := by
  have ⟨⟨hx, hb, hml, hown, hts⟩, hK, hA, hN⟩ := C
  intro x1 s H locs ls hX hl h
  rw [f_Val_judge_64] at h
  refine lv_iconst (v := 0) hx hb d_Val_judge_64 (by decide) ?_
  refine lv_istore_n (lv' := [(1, .int 0), (0, .ref (g.q 3))]) hx hb d_Val_judge_65 rfl hl (by decide) rfl (fun ls hl => ?_)
  exact w_Val_judge_66 C hQ FU 0 s H locs ls hX (lv_sub hl [1, 0] rfl) h
set_option maxHeartbeats 4000000 in
set_option maxRecDepth 100000 in
theorem w_Val_judge_33 {z : Int32 × St} (C : Cx g A p m c b_Val_judge 2 ss args R_Val) (hQ : ∀ (pc : Nat) (H : Heap) (locs : List Loc) (ls : Array Slot), XW g A ss (wX g z.2) H locs → decode b_Val_judge pc = .ok (.ireturn, 1) → W p l e (rmX 6 144) ss m args below meth c H locs 0 0 Q (F0 m pc ls [.int z.1])) (n : Nat) : ∀ (x1 : Int32) (s : St) (H : Heap) (locs : List Loc) (ls : Array Slot), XW g A ss (wX g s) H locs → lv_has ls 2 [(0, .ref (g.q 3)), (1, .int x1)] → f_Val_judge_33 n x1 s = some z → W p l e (rmX 6 144) ss m args below meth c H locs 0 0 Q (F0 m 33 ls []) := by
  have ⟨⟨hx, hb, hml, hown, hts⟩, hK, hA, hN⟩ := C
  induction n with
  | zero => intro x1 s H locs ls hX hl h; cases h
  | succ n ih =>
    intro x1 s H locs ls hX hl h
    rw [f_Val_judge_33] at h
    refine lv_iload_n hx hb d_Val_judge_33 rfl (lv_at hl 1 rfl) ?_
    refine lv_bipush (v := 8) hx hb d_Val_judge_34 (by decide) ?_
    refine lv_icmp_ge (tgt := 64) hx hb d_Val_judge_36 (by decide) (fun c36 => ?_) (fun c36 => ?_)
    · have h := ite_t c36 h
      exact w_Val_judge_64 C hQ x1 s H locs ls hX hl h
    · have h := ite_f c36 h
      refine lv_iload_n hx hb d_Val_judge_39 rfl (lv_at hl 1 rfl) ?_
      refine lv_aload_n hx hb d_Val_judge_40 rfl (lv_at hl 0 rfl) ?_
      refine gf_3_contents C hX fl_Val_20 d_Val_judge_41 ?_
      refine gf_1_exports C hX fl_Val_43 d_Val_judge_44 ?_
      obtain ⟨r1, er1, h⟩ := lt1_e h
      refine x_vI (r := r1) (ws' := wX g s) (As := []) (rest := [.int x1]) C hX (by rw [er1]; exact cTabCount_16 l g s) (cw_Val_46 C.1.2.2.2.2 C.2.2.2 ⟨by decide, by decide⟩) (x_rc C hX wg_16 rfl) rfl hl.1 rfl (lv_room (Nat.le_of_ble_eq_true rfl)) d_Val_judge_47 ⟨Nat.le_refl _, Nat.le_refl _⟩ (fun H locs hX => ?_)
      refine lv_icmp_ge (tgt := 64) hx hb d_Val_judge_50 (by decide) (fun c50 => ?_) (fun c50 => ?_)
      · have h := ite_t c50 h
        exact w_Val_judge_64 C hQ x1 s H locs ls hX hl h
      · have h := ite_f c50 h
        refine lv_aload_n hx hb d_Val_judge_53 rfl (lv_at hl 0 rfl) ?_
        refine lv_iload_n hx hb d_Val_judge_54 rfl (lv_at hl 1 rfl) ?_
        obtain ⟨s2, hc55, h⟩ := bd1_e h
        refine x_vV (As := [.int x1]) (rest := []) C hX (c_Val_judgeExport l g x1 s s2 hc55) (cw_Val_50 C.1.2.2.2.2 C.2.2.2 ⟨by decide, by decide⟩) (x_rc C hX wg_3 rfl) rfl hl.1 rfl (lv_room (Nat.le_of_ble_eq_true rfl)) d_Val_judge_55 ⟨Nat.le_refl _, Nat.le_refl _⟩ (fun H locs hX => ?_)
        obtain ⟨v3, ev3, h⟩ := lt1_e h
        refine lv_iinc (v := v3) (lv' := [(1, .int v3), (0, .ref (g.q 3))]) hx hb d_Val_judge_58 hl (k := 1) rfl (by rw [ev3]; rfl) (by decide) rfl (fun ls hl => ?_)
        refine lv_goto (tgt := 33) hx hb d_Val_judge_61 (by decide) ?_
        exact ih v3 s2 H locs ls hX (lv_sub hl [1, 0] rfl) h
set_option maxHeartbeats 4000000 in
set_option maxRecDepth 100000 in
theorem w_Val_judge_31 {z : Int32 × St} (C : Cx g A p m c b_Val_judge 2 ss args R_Val) (hQ : ∀ (pc : Nat) (H : Heap) (locs : List Loc) (ls : Array Slot), XW g A ss (wX g z.2) H locs → decode b_Val_judge pc = .ok (.ireturn, 1) → W p l e (rmX 6 144) ss m args below meth c H locs 0 0 Q (F0 m pc ls [.int z.1])) : ∀ (s : St) (H : Heap) (locs : List Loc) (ls : Array Slot), XW g A ss (wX g s) H locs → lv_has ls 2 [(0, .ref (g.q 3))] → f_Val_judge_31 s = some z → W p l e (rmX 6 144) ss m args below meth c H locs 0 0 Q (F0 m 31 ls []) := by
  have ⟨⟨hx, hb, hml, hown, hts⟩, hK, hA, hN⟩ := C
  intro s H locs ls hX hl h
  rw [f_Val_judge_31] at h
  refine lv_iconst (v := 0) hx hb d_Val_judge_31 (by decide) ?_
  refine lv_istore_n (lv' := [(1, .int 0), (0, .ref (g.q 3))]) hx hb d_Val_judge_32 rfl hl (by decide) rfl (fun ls hl => ?_)
  exact w_Val_judge_33 C hQ FU 0 s H locs ls hX (lv_sub hl [1, 0] rfl) h
set_option maxHeartbeats 4000000 in
set_option maxRecDepth 100000 in
theorem w_Val_judge {z : Int32 × St} (C : Cx g A p m c b_Val_judge 2 ss args R_Val) (hQ : ∀ (pc : Nat) (H : Heap) (locs : List Loc) (ls : Array Slot), XW g A ss (wX g z.2) H locs → decode b_Val_judge pc = .ok (.ireturn, 1) → W p l e (rmX 6 144) ss m args below meth c H locs 0 0 Q (F0 m pc ls [.int z.1])) : ∀ (s : St) (H : Heap) (locs : List Loc) (ls : Array Slot), XW g A ss (wX g s) H locs → lv_has ls 2 [(0, .ref (g.q 3))] → f_Val_judge s = some z → W p l e (rmX 6 144) ss m args below meth c H locs 0 0 Q (F0 m 0 ls []) := by
  have ⟨⟨hx, hb, hml, hown, hts⟩, hK, hA, hN⟩ := C
  intro s H locs ls hX hl h
  rw [f_Val_judge] at h
  refine lv_aload_n hx hb d_Val_judge_0 rfl (lv_at hl 0 rfl) ?_
  refine lv_iconst (v := 0) hx hb d_Val_judge_1 (by decide) ?_
  obtain ⟨s1, es1, h⟩ := lt1_e h
  refine pf_3_fault C hX fl_Val_24 d_Val_judge_2 (fun H locs hX => ?_)
  rw [← es1] at hX
  refine lv_aload_n hx hb d_Val_judge_5 rfl (lv_at hl 0 rfl) ?_
  obtain ⟨s2, hc6, h⟩ := bd1_e h
  refine x_vV (As := []) (rest := []) C hX (c_Val_judgeTypes l g s1 s2 hc6) (cw_Val_28 C.1.2.2.2.2 C.2.2.2 ⟨by decide, by decide⟩) (x_rc C hX wg_3 rfl) rfl hl.1 rfl (lv_room (Nat.le_of_ble_eq_true rfl)) d_Val_judge_6 ⟨Nat.le_refl _, Nat.le_refl _⟩ (fun H locs hX => ?_)
  refine lv_aload_n hx hb d_Val_judge_9 rfl (lv_at hl 0 rfl) ?_
  refine gf_3_contents C hX fl_Val_20 d_Val_judge_10 ?_
  refine gf_1_mostPages C hX fl_Val_31 d_Val_judge_13 ?_
  refine lv_aload_n hx hb d_Val_judge_16 rfl (lv_at hl 0 rfl) ?_
  refine gf_3_contents C hX fl_Val_20 d_Val_judge_17 ?_
  refine gf_1_firstPages C hX fl_Val_36 d_Val_judge_20 ?_
  refine lv_icmp_ge (tgt := 31) hx hb d_Val_judge_23 (by decide) (fun c23 => ?_) (fun c23 => ?_)
  · have h := ite_t c23 h
    exact w_Val_judge_31 C hQ s2 H locs ls hX hl h
  · have h := ite_f c23 h
    refine lv_aload_n hx hb d_Val_judge_26 rfl (lv_at hl 0 rfl) ?_
    refine lv_iconst (v := 3) hx hb d_Val_judge_27 (by decide) ?_
    obtain ⟨s3, hc28, h⟩ := bd1_e h
    refine x_vV (As := [.int 3]) (rest := []) C hX (c_Val_refuse l g 3 s2 s3 hc28) (cw_Val_39 C.1.2.2.2.2 C.2.2.2 ⟨by decide, by decide⟩) (x_rc C hX wg_3 rfl) rfl hl.1 rfl (lv_room (Nat.le_of_ble_eq_true rfl)) d_Val_judge_28 ⟨Nat.le_refl _, Nat.le_refl _⟩ (fun H locs hX => ?_)
    exact w_Val_judge_31 C hQ s3 H locs ls hX hl h
end WALK
theorem c_Val_judge (l : Launch) (g : GX) (s : St) (z : Int32 × St) (h : f_Val_judge s = some z) : MI l g y_Val_judge b_Val_judge 2 (some .int) 6 144 [.ref (g.q 3)] (wX g s) z.1 (wX g z.2) :=
  MI.mk (own := R_Val) (by decide) rfl (Nat.le_of_ble_eq_true rfl) fun p e ss m below meth c A Q C hQ ls hX hl => w_Val_judge C hQ s _ _ ls hX hl h
-- RC_length
def f_RC_length (s : St) : Option Int32 :=
    lt1 (s 4 1 * 4) fun v1 =>
    some (v1)
section WALK
variable {p : Program} {l : Launch} {e : Env} {ss : State} {m : MethodId} {args : Array Value} {below : List Frame} {meth : Method} {c : Code} {Q : State → Prop} {g : GX} {A : Nat → Prop}
set_option maxHeartbeats 4000000 in
set_option maxRecDepth 100000 in
theorem w_RC_length {s : St} {z : Int32} (C : Cx g A p m c b_RC_length 1 ss args R_RC) (hQ : ∀ (pc : Nat) (H : Heap) (locs : List Loc) (ls : Array Slot), XW g A ss (wX g s) H locs → decode b_RC_length pc = .ok (.ireturn, 1) → W p l e (rmX 0 0) ss m args below meth c H locs 0 0 Q (F0 m pc ls [.int z])) : ∀ (H : Heap) (locs : List Loc) (ls : Array Slot), XW g A ss (wX g s) H locs → lv_has ls 1 [(0, .ref (g.q 4))] → f_RC_length s = some z → W p l e (rmX 0 0) ss m args below meth c H locs 0 0 Q (F0 m 0 ls []) := by
  have ⟨⟨hx, hb, hml, hown, hts⟩, hK, hA, hN⟩ := C
  intro  H locs ls hX hl h
  rw [f_RC_length] at h
  refine lv_aload_n hx hb d_RC_length_0 rfl (lv_at hl 0 rfl) ?_
  refine gf_4_entries C hX fl_RC_27 d_RC_length_1 ?_
  refine lv_iconst (v := 4) hx hb d_RC_length_4 (by decide) ?_
  obtain ⟨v1, ev1, h⟩ := lt1_e h
  refine x_imul hx hb d_RC_length_5 ev1 ?_
  obtain rfl := so1 h
  exact hQ _ H locs ls hX d_RC_length_6
end WALK
theorem c_RC_length (l : Launch) (g : GX) (s : St) (z : Int32) (h : f_RC_length s = some z) : MI l g y_RC_length b_RC_length 1 (some .int) 0 0 [.ref (g.q 4)] (wX g s) z (wX g s) :=
  MI.mk (own := R_RC) (by decide) rfl (Nat.le_of_ble_eq_true rfl) fun p e ss m below meth c A Q C hQ ls hX hl => w_RC_length C hQ _ _ ls hX hl h
-- RC_word
def f_RC_word (s : St) (x1 : Int32) (x2 : Int32) : Option Int32 :=
    lt1 (x1 * 4) fun v1 =>
    lt1 (v1 + x2) fun v2 =>
    lt1 (rGet 960 (s 30) v2) fun r3 =>
    some (r3)
section WALK
variable {p : Program} {l : Launch} {e : Env} {ss : State} {m : MethodId} {args : Array Value} {below : List Frame} {meth : Method} {c : Code} {Q : State → Prop} {g : GX} {A : Nat → Prop}
set_option maxHeartbeats 4000000 in
set_option maxRecDepth 100000 in
theorem w_RC_word {s : St} {z : Int32} (C : Cx g A p m c b_RC_word 3 ss args R_RC) (hQ : ∀ (pc : Nat) (H : Heap) (locs : List Loc) (ls : Array Slot), XW g A ss (wX g s) H locs → decode b_RC_word pc = .ok (.ireturn, 1) → W p l e (rmX 1 21) ss m args below meth c H locs 0 0 Q (F0 m pc ls [.int z])) : ∀ (x1 : Int32) (x2 : Int32) (H : Heap) (locs : List Loc) (ls : Array Slot), XW g A ss (wX g s) H locs → lv_has ls 3 [(0, .ref (g.q 4)), (1, .int x1), (2, .int x2)] → f_RC_word s x1 x2 = some z → W p l e (rmX 1 21) ss m args below meth c H locs 0 0 Q (F0 m 0 ls []) := by
  have ⟨⟨hx, hb, hml, hown, hts⟩, hK, hA, hN⟩ := C
  intro x1 x2 H locs ls hX hl h
  rw [f_RC_word] at h
  refine lv_aload_n hx hb d_RC_word_0 rfl (lv_at hl 0 rfl) ?_
  refine gf_4_words C hX fl_RC_16 d_RC_word_1 ?_
  refine lv_iload_n hx hb d_RC_word_4 rfl (lv_at hl 1 rfl) ?_
  refine lv_iconst (v := 4) hx hb d_RC_word_5 (by decide) ?_
  obtain ⟨v1, ev1, h⟩ := lt1_e h
  refine x_imul hx hb d_RC_word_6 ev1 ?_
  refine lv_iload_n hx hb d_RC_word_7 rfl (lv_at hl 2 rfl) ?_
  obtain ⟨v2, ev2, h⟩ := lt1_e h
  refine x_iadd hx hb d_RC_word_8 ev2 ?_
  obtain ⟨r3, er3, h⟩ := lt1_e h
  refine x_vI (r := r3) (ws' := wX g s) (As := [.int v2]) (rest := []) C hX (by rw [er3]; exact cRowGet_29 l g s v2) (cw_RC_31 C.1.2.2.2.2 C.2.2.2 ⟨by decide, by decide⟩) (x_rc C hX wg_29 rfl) rfl hl.1 rfl (lv_room (Nat.le_of_ble_eq_true rfl)) d_RC_word_9 ⟨Nat.le_refl _, Nat.le_refl _⟩ (fun H locs hX => ?_)
  obtain rfl := so1 h
  exact hQ _ H locs ls hX d_RC_word_12
end WALK
theorem c_RC_word (l : Launch) (g : GX) (x1 : Int32) (x2 : Int32) (s : St) (z : Int32) (h : f_RC_word s x1 x2 = some z) : MI l g y_RC_word b_RC_word 3 (some .int) 1 21 [.ref (g.q 4), .int x1, .int x2] (wX g s) z (wX g s) :=
  MI.mk (own := R_RC) (by decide) rfl (Nat.le_of_ble_eq_true rfl) fun p e ss m below meth c A Q C hQ ls hX hl => w_RC_word C hQ x1 x2 _ _ ls hX hl h
-- RC_firstEntry
def f_RC_firstEntry (s : St) (x1 : Int32) : Option Int32 :=
    lt1 (tGet 8 4 (s 13) x1 2) fun r1 =>
    lt1 (tGet 240 7 (s 21) r1 6) fun r2 =>
    some (r2)
section WALK
variable {p : Program} {l : Launch} {e : Env} {ss : State} {m : MethodId} {args : Array Value} {below : List Frame} {meth : Method} {c : Code} {Q : State → Prop} {g : GX} {A : Nat → Prop}
set_option maxHeartbeats 4000000 in
set_option maxRecDepth 100000 in
theorem w_RC_firstEntry {s : St} {z : Int32} (C : Cx g A p m c b_RC_firstEntry 2 ss args R_RC) (hQ : ∀ (pc : Nat) (H : Heap) (locs : List Loc) (ls : Array Slot), XW g A ss (wX g s) H locs → decode b_RC_firstEntry pc = .ok (.ireturn, 1) → W p l e (rmX 1 23) ss m args below meth c H locs 0 0 Q (F0 m pc ls [.int z])) : ∀ (x1 : Int32) (H : Heap) (locs : List Loc) (ls : Array Slot), XW g A ss (wX g s) H locs → lv_has ls 2 [(0, .ref (g.q 4)), (1, .int x1)] → f_RC_firstEntry s x1 = some z → W p l e (rmX 1 23) ss m args below meth c H locs 0 0 Q (F0 m 0 ls []) := by
  have ⟨⟨hx, hb, hml, hown, hts⟩, hK, hA, hN⟩ := C
  intro x1 H locs ls hX hl h
  rw [f_RC_firstEntry] at h
  refine lv_aload_n hx hb d_RC_firstEntry_0 rfl (lv_at hl 0 rfl) ?_
  refine gf_4_contents C hX fl_RC_23 d_RC_firstEntry_1 ?_
  refine gf_1_code C hX fl_RC_35 d_RC_firstEntry_4 ?_
  refine lv_aload_n hx hb d_RC_firstEntry_7 rfl (lv_at hl 0 rfl) ?_
  refine gf_4_contents C hX fl_RC_23 d_RC_firstEntry_8 ?_
  refine gf_1_functions C hX fl_RC_41 d_RC_firstEntry_11 ?_
  refine lv_iload_n hx hb d_RC_firstEntry_14 rfl (lv_at hl 1 rfl) ?_
  refine lv_iconst (v := 2) hx hb d_RC_firstEntry_15 (by decide) ?_
  obtain ⟨r1, er1, h⟩ := lt1_e h
  refine x_vI (r := r1) (ws' := wX g s) (As := [.int x1, .int 2]) (rest := [.ref (g.q 20)]) C hX (by rw [er1]; exact cTabGet_12 l g s x1 2) (cw_RC_44 C.1.2.2.2.2 C.2.2.2 ⟨by decide, by decide⟩) (x_rc C hX wg_12 rfl) rfl hl.1 rfl (lv_room (Nat.le_of_ble_eq_true rfl)) d_RC_firstEntry_16 ⟨Nat.le_refl _, Nat.le_refl _⟩ (fun H locs hX => ?_)
  refine lv_bipush (v := 6) hx hb d_RC_firstEntry_19 (by decide) ?_
  obtain ⟨r2, er2, h⟩ := lt1_e h
  refine x_vI (r := r2) (ws' := wX g s) (As := [.int r1, .int 6]) (rest := []) C hX (by rw [er2]; exact cTabGet_20 l g s r1 6) (cw_RC_44 C.1.2.2.2.2 C.2.2.2 ⟨by decide, by decide⟩) (x_rc C hX wg_20 rfl) rfl hl.1 rfl (lv_room (Nat.le_of_ble_eq_true rfl)) d_RC_firstEntry_21 ⟨Nat.le_refl _, Nat.le_refl _⟩ (fun H locs hX => ?_)
  obtain rfl := so1 h
  exact hQ _ H locs ls hX d_RC_firstEntry_24
end WALK
theorem c_RC_firstEntry (l : Launch) (g : GX) (x1 : Int32) (s : St) (z : Int32) (h : f_RC_firstEntry s x1 = some z) : MI l g y_RC_firstEntry b_RC_firstEntry 2 (some .int) 1 23 [.ref (g.q 4), .int x1] (wX g s) z (wX g s) :=
  MI.mk (own := R_RC) (by decide) rfl (Nat.le_of_ble_eq_true rfl) fun p e ss m below meth c A Q C hQ ls hX hl => w_RC_firstEntry C hQ x1 _ _ ls hX hl h
-- RC_entriesOf
def f_RC_entriesOf_67 (s : St) (x1 : Int32) (x2 : Int32) (x3 : Int32) (y0 : Int32) : Option Int32 :=
    some (y0)
def f_RC_entriesOf_41 (s : St) (x1 : Int32) (x2 : Int32) (x3 : Int32) : Option Int32 :=
    some (0)
def f_RC_entriesOf (s : St) (x1 : Int32) (x2 : Int32) : Option Int32 :=
    lt1 (tGet 240 7 (s 21) x1 0) fun r1 =>
    if x1 = x2 then
      some (1)
    else
      if r1 = 11 then
        f_RC_entriesOf_41 s x1 x2 r1
      else
        lt1 (tGet 240 7 (s 21) x1 5) fun r2 =>
        if r2 = 0 then
          f_RC_entriesOf_41 s x1 x2 r1
        else
          if r1 = 14 then
            lt1 (tGet 240 7 (s 21) x1 1) fun r3 =>
            lt1 (r3 + 2) fun v4 =>
            f_RC_entriesOf_67 s x1 x2 r1 v4
          else
            f_RC_entriesOf_67 s x1 x2 r1 1
section WALK
variable {p : Program} {l : Launch} {e : Env} {ss : State} {m : MethodId} {args : Array Value} {below : List Frame} {meth : Method} {c : Code} {Q : State → Prop} {g : GX} {A : Nat → Prop}
set_option maxHeartbeats 4000000 in
set_option maxRecDepth 100000 in
theorem w_RC_entriesOf_67 {s : St} {z : Int32} (C : Cx g A p m c b_RC_entriesOf 4 ss args R_RC) (hQ : ∀ (pc : Nat) (H : Heap) (locs : List Loc) (ls : Array Slot), XW g A ss (wX g s) H locs → decode b_RC_entriesOf pc = .ok (.ireturn, 1) → W p l e (rmX 1 23) ss m args below meth c H locs 0 0 Q (F0 m pc ls [.int z])) : ∀ (x1 : Int32) (x2 : Int32) (x3 : Int32) (y0 : Int32) (H : Heap) (locs : List Loc) (ls : Array Slot), XW g A ss (wX g s) H locs → lv_has ls 4 [(0, .ref (g.q 4)), (1, .int x1), (2, .int x2), (3, .int x3)] → f_RC_entriesOf_67 s x1 x2 x3 y0 = some z → W p l e (rmX 1 23) ss m args below meth c H locs 0 0 Q (F0 m 67 ls [.int y0]) := by
  have ⟨⟨hx, hb, hml, hown, hts⟩, hK, hA, hN⟩ := C
  intro x1 x2 x3 y0 H locs ls hX hl h
  rw [f_RC_entriesOf_67] at h
  obtain rfl := so1 h
  exact hQ _ H locs ls hX d_RC_entriesOf_67
set_option maxHeartbeats 4000000 in
set_option maxRecDepth 100000 in
theorem w_RC_entriesOf_41 {s : St} {z : Int32} (C : Cx g A p m c b_RC_entriesOf 4 ss args R_RC) (hQ : ∀ (pc : Nat) (H : Heap) (locs : List Loc) (ls : Array Slot), XW g A ss (wX g s) H locs → decode b_RC_entriesOf pc = .ok (.ireturn, 1) → W p l e (rmX 1 23) ss m args below meth c H locs 0 0 Q (F0 m pc ls [.int z])) : ∀ (x1 : Int32) (x2 : Int32) (x3 : Int32) (H : Heap) (locs : List Loc) (ls : Array Slot), XW g A ss (wX g s) H locs → lv_has ls 4 [(0, .ref (g.q 4)), (1, .int x1), (2, .int x2), (3, .int x3)] → f_RC_entriesOf_41 s x1 x2 x3 = some z → W p l e (rmX 1 23) ss m args below meth c H locs 0 0 Q (F0 m 41 ls []) := by
  have ⟨⟨hx, hb, hml, hown, hts⟩, hK, hA, hN⟩ := C
  intro x1 x2 x3 H locs ls hX hl h
  rw [f_RC_entriesOf_41] at h
  refine lv_iconst (v := 0) hx hb d_RC_entriesOf_41 (by decide) ?_
  obtain rfl := so1 h
  exact hQ _ H locs ls hX d_RC_entriesOf_42
set_option maxHeartbeats 4000000 in
set_option maxRecDepth 100000 in
theorem w_RC_entriesOf {s : St} {z : Int32} (C : Cx g A p m c b_RC_entriesOf 4 ss args R_RC) (hQ : ∀ (pc : Nat) (H : Heap) (locs : List Loc) (ls : Array Slot), XW g A ss (wX g s) H locs → decode b_RC_entriesOf pc = .ok (.ireturn, 1) → W p l e (rmX 1 23) ss m args below meth c H locs 0 0 Q (F0 m pc ls [.int z])) : ∀ (x1 : Int32) (x2 : Int32) (H : Heap) (locs : List Loc) (ls : Array Slot), XW g A ss (wX g s) H locs → lv_has ls 4 [(0, .ref (g.q 4)), (1, .int x1), (2, .int x2)] → f_RC_entriesOf s x1 x2 = some z → W p l e (rmX 1 23) ss m args below meth c H locs 0 0 Q (F0 m 0 ls []) := by
  have ⟨⟨hx, hb, hml, hown, hts⟩, hK, hA, hN⟩ := C
  intro x1 x2 H locs ls hX hl h
  rw [f_RC_entriesOf] at h
  refine lv_aload_n hx hb d_RC_entriesOf_0 rfl (lv_at hl 0 rfl) ?_
  refine gf_4_contents C hX fl_RC_23 d_RC_entriesOf_1 ?_
  refine gf_1_code C hX fl_RC_35 d_RC_entriesOf_4 ?_
  refine lv_iload_n hx hb d_RC_entriesOf_7 rfl (lv_at hl 1 rfl) ?_
  refine lv_iconst (v := 0) hx hb d_RC_entriesOf_8 (by decide) ?_
  obtain ⟨r1, er1, h⟩ := lt1_e h
  refine x_vI (r := r1) (ws' := wX g s) (As := [.int x1, .int 0]) (rest := []) C hX (by rw [er1]; exact cTabGet_20 l g s x1 0) (cw_RC_44 C.1.2.2.2.2 C.2.2.2 ⟨by decide, by decide⟩) (x_rc C hX wg_20 rfl) rfl hl.1 rfl (lv_room (Nat.le_of_ble_eq_true rfl)) d_RC_entriesOf_9 ⟨Nat.le_refl _, Nat.le_refl _⟩ (fun H locs hX => ?_)
  refine lv_istore_n (lv' := [(3, .int r1), (0, .ref (g.q 4)), (1, .int x1), (2, .int x2)]) hx hb d_RC_entriesOf_12 rfl hl (by decide) rfl (fun ls hl => ?_)
  refine lv_iload_n hx hb d_RC_entriesOf_13 rfl (lv_at hl 2 rfl) ?_
  refine lv_iload_n hx hb d_RC_entriesOf_14 rfl (lv_at hl 3 rfl) ?_
  refine lv_icmp_ne (tgt := 20) hx hb d_RC_entriesOf_15 (by decide) (fun c15 => ?_) (fun c15 => ?_)
  · have h := ite_f c15 h
    refine lv_iload_n hx hb d_RC_entriesOf_20 rfl (lv_at hl 0 rfl) ?_
    refine lv_bipush (v := 11) hx hb d_RC_entriesOf_21 (by decide) ?_
    refine lv_icmp_eq (tgt := 41) hx hb d_RC_entriesOf_23 (by decide) (fun c23 => ?_) (fun c23 => ?_)
    · have h := ite_t c23 h
      exact w_RC_entriesOf_41 C hQ x1 x2 r1 H locs ls hX (lv_sub hl [1, 2, 3, 0] rfl) h
    · have h := ite_f c23 h
      refine lv_aload_n hx hb d_RC_entriesOf_26 rfl (lv_at hl 1 rfl) ?_
      refine gf_4_contents C hX fl_RC_23 d_RC_entriesOf_27 ?_
      refine gf_1_code C hX fl_RC_35 d_RC_entriesOf_30 ?_
      refine lv_iload_n hx hb d_RC_entriesOf_33 rfl (lv_at hl 2 rfl) ?_
      refine lv_iconst (v := 5) hx hb d_RC_entriesOf_34 (by decide) ?_
      obtain ⟨r2, er2, h⟩ := lt1_e h
      refine x_vI (r := r2) (ws' := wX g s) (As := [.int x1, .int 5]) (rest := []) C hX (by rw [er2]; exact cTabGet_20 l g s x1 5) (cw_RC_44 C.1.2.2.2.2 C.2.2.2 ⟨by decide, by decide⟩) (x_rc C hX wg_20 rfl) rfl hl.1 rfl (lv_room (Nat.le_of_ble_eq_true rfl)) d_RC_entriesOf_35 ⟨Nat.le_refl _, Nat.le_refl _⟩ (fun H locs hX => ?_)
      refine lv_if_ne (tgt := 43) hx hb d_RC_entriesOf_38 (by decide) (fun c38 => ?_) (fun c38 => ?_)
      · have h := ite_f c38 h
        refine lv_iload_n hx hb d_RC_entriesOf_43 rfl (lv_at hl 0 rfl) ?_
        refine lv_bipush (v := 14) hx hb d_RC_entriesOf_44 (by decide) ?_
        refine lv_icmp_ne (tgt := 66) hx hb d_RC_entriesOf_46 (by decide) (fun c46 => ?_) (fun c46 => ?_)
        · have h := ite_f c46 h
          refine lv_iconst (v := 1) hx hb d_RC_entriesOf_66 (by decide) ?_
          exact w_RC_entriesOf_67 C hQ x1 x2 r1 1 H locs ls hX (lv_sub hl [1, 2, 3, 0] rfl) h
        · have h := ite_t c46 h
          refine lv_aload_n hx hb d_RC_entriesOf_49 rfl (lv_at hl 1 rfl) ?_
          refine gf_4_contents C hX fl_RC_23 d_RC_entriesOf_50 ?_
          refine gf_1_code C hX fl_RC_35 d_RC_entriesOf_53 ?_
          refine lv_iload_n hx hb d_RC_entriesOf_56 rfl (lv_at hl 2 rfl) ?_
          refine lv_iconst (v := 1) hx hb d_RC_entriesOf_57 (by decide) ?_
          obtain ⟨r3, er3, h⟩ := lt1_e h
          refine x_vI (r := r3) (ws' := wX g s) (As := [.int x1, .int 1]) (rest := []) C hX (by rw [er3]; exact cTabGet_20 l g s x1 1) (cw_RC_44 C.1.2.2.2.2 C.2.2.2 ⟨by decide, by decide⟩) (x_rc C hX wg_20 rfl) rfl hl.1 rfl (lv_room (Nat.le_of_ble_eq_true rfl)) d_RC_entriesOf_58 ⟨Nat.le_refl _, Nat.le_refl _⟩ (fun H locs hX => ?_)
          refine lv_iconst (v := 2) hx hb d_RC_entriesOf_61 (by decide) ?_
          obtain ⟨v4, ev4, h⟩ := lt1_e h
          refine x_iadd hx hb d_RC_entriesOf_62 ev4 ?_
          refine lv_goto (tgt := 67) hx hb d_RC_entriesOf_63 (by decide) ?_
          exact w_RC_entriesOf_67 C hQ x1 x2 r1 v4 H locs ls hX (lv_sub hl [1, 2, 3, 0] rfl) h
      · have h := ite_t c38 h
        exact w_RC_entriesOf_41 C hQ x1 x2 r1 H locs ls hX (lv_sub hl [1, 2, 3, 0] rfl) h
  · have h := ite_t c15 h
    refine lv_iconst (v := 1) hx hb d_RC_entriesOf_18 (by decide) ?_
    obtain rfl := so1 h
    exact hQ _ H locs ls hX d_RC_entriesOf_19
end WALK
theorem c_RC_entriesOf (l : Launch) (g : GX) (x1 : Int32) (x2 : Int32) (s : St) (z : Int32) (h : f_RC_entriesOf s x1 x2 = some z) : MI l g y_RC_entriesOf b_RC_entriesOf 4 (some .int) 1 23 [.ref (g.q 4), .int x1, .int x2] (wX g s) z (wX g s) :=
  MI.mk (own := R_RC) (by decide) rfl (Nat.le_of_ble_eq_true rfl) fun p e ss m below meth c A Q C hQ ls hX hl => w_RC_entriesOf C hQ x1 x2 _ _ ls hX hl h
-- RC_numberEntries
def f_RC_numberEntries_94 (x1 : Int32) (x2 : Int32) (s : St) : Option St :=
    some s
def f_RC_numberEntries_51 (k4 : Int32 → Int32 → St → Option St) : Nat → Int32 → Int32 → Int32 → Int32 → St → Option St
  | 0, _, _, _, _, _ => none
  | n + 1, x1, x2, x3, x4, s =>
    if x3 < x4 then
      lt1 (x2 + (1)) fun v1 =>
      k4 x1 v1 s
    else
      lt1 (tSet s 21 240 7 x4 6 x1) fun s2 =>
      bd1 (f_RC_entriesOf s2 x4 x3) fun r3 =>
      lt1 (x1 + r3) fun v4 =>
      lt1 (x4 + (1)) fun v5 =>
      f_RC_numberEntries_51 k4 n v4 x2 x3 v5 s2
def f_RC_numberEntries_4 : Nat → Int32 → Int32 → St → Option St
  | 0, _, _, _ => none
  | n + 1, x1, x2, s =>
    if 8 ≤ x2 then
      f_RC_numberEntries_94 x1 x2 s
    else
      lt1 (s 12 0) fun r1 =>
      if r1 ≤ x2 then
        f_RC_numberEntries_94 x1 x2 s
      else
        lt1 (tGet 8 4 (s 13) x2 3) fun r2 =>
        lt1 (tGet 8 4 (s 13) x2 2) fun r3 =>
        f_RC_numberEntries_51 (f_RC_numberEntries_4 n) FU x1 x2 r2 r3 s
def f_RC_numberEntries (s : St) : Option St :=
    f_RC_numberEntries_4 FU 0 0 s
section WALK
variable {p : Program} {l : Launch} {e : Env} {ss : State} {m : MethodId} {args : Array Value} {below : List Frame} {meth : Method} {c : Code} {Q : State → Prop} {g : GX} {A : Nat → Prop}
set_option maxHeartbeats 4000000 in
set_option maxRecDepth 100000 in
theorem w_RC_numberEntries_94 {z : St} (C : Cx g A p m c b_RC_numberEntries 5 ss args R_RC) (hQ : ∀ (pc : Nat) (H : Heap) (locs : List Loc) (ls : Array Slot), XW g A ss (wX g z) H locs → decode b_RC_numberEntries pc = .ok (.return_, 1) → W p l e (rmX 2 46) ss m args below meth c H locs 0 0 Q (F0 m pc ls [])) : ∀ (x1 : Int32) (x2 : Int32) (s : St) (H : Heap) (locs : List Loc) (ls : Array Slot), XW g A ss (wX g s) H locs → lv_has ls 5 [(0, .ref (g.q 4)), (1, .int x1), (2, .int x2)] → f_RC_numberEntries_94 x1 x2 s = some z → W p l e (rmX 2 46) ss m args below meth c H locs 0 0 Q (F0 m 94 ls []) := by
  have ⟨⟨hx, hb, hml, hown, hts⟩, hK, hA, hN⟩ := C
  intro x1 x2 s H locs ls hX hl h
  rw [f_RC_numberEntries_94] at h
  obtain rfl := so1 h
  exact hQ _ H locs ls hX d_RC_numberEntries_94
set_option maxHeartbeats 4000000 in
set_option maxRecDepth 100000 in
theorem w_RC_numberEntries_51 {z : St} (C : Cx g A p m c b_RC_numberEntries 5 ss args R_RC) (hQ : ∀ (pc : Nat) (H : Heap) (locs : List Loc) (ls : Array Slot), XW g A ss (wX g z) H locs → decode b_RC_numberEntries pc = .ok (.return_, 1) → W p l e (rmX 2 46) ss m args below meth c H locs 0 0 Q (F0 m pc ls [])) (k4 : Int32 → Int32 → St → Option St) (hk4 : ∀ (x1 : Int32) (x2 : Int32) (s : St) (H : Heap) (locs : List Loc) (ls : Array Slot), XW g A ss (wX g s) H locs → lv_has ls 5 [(0, .ref (g.q 4)), (1, .int x1), (2, .int x2)] → k4 x1 x2 s = some z → W p l e (rmX 2 46) ss m args below meth c H locs 0 0 Q (F0 m 4 ls [])) (n : Nat) : ∀ (x1 : Int32) (x2 : Int32) (x3 : Int32) (x4 : Int32) (s : St) (H : Heap) (locs : List Loc) (ls : Array Slot), XW g A ss (wX g s) H locs → lv_has ls 5 [(0, .ref (g.q 4)), (1, .int x1), (2, .int x2), (3, .int x3), (4, .int x4)] → f_RC_numberEntries_51 k4 n x1 x2 x3 x4 s = some z → W p l e (rmX 2 46) ss m args below meth c H locs 0 0 Q (F0 m 51 ls []) := by
  have ⟨⟨hx, hb, hml, hown, hts⟩, hK, hA, hN⟩ := C
  induction n with
  | zero => intro x1 x2 x3 x4 s H locs ls hX hl h; cases h
  | succ n ih =>
    intro x1 x2 x3 x4 s H locs ls hX hl h
    rw [f_RC_numberEntries_51] at h
    refine lv_iload hx hb d_RC_numberEntries_51 (lv_at hl 4 rfl) ?_
    refine lv_iload_n hx hb d_RC_numberEntries_53 rfl (lv_at hl 3 rfl) ?_
    refine lv_icmp_gt (tgt := 88) hx hb d_RC_numberEntries_54 (by decide) (fun c54 => ?_) (fun c54 => ?_)
    · have h := ite_t c54 h
      obtain ⟨v1, ev1, h⟩ := lt1_e h
      refine lv_iinc (v := v1) (lv' := [(2, .int v1), (0, .ref (g.q 4)), (1, .int x1), (3, .int x3), (4, .int x4)]) hx hb d_RC_numberEntries_88 hl (k := 2) rfl (by rw [ev1]; rfl) (by decide) rfl (fun ls hl => ?_)
      refine lv_goto (tgt := 4) hx hb d_RC_numberEntries_91 (by decide) ?_
      exact hk4 x1 v1 s H locs ls hX (lv_sub hl [1, 2, 0] rfl) h
    · have h := ite_f c54 h
      refine lv_aload_n hx hb d_RC_numberEntries_57 rfl (lv_at hl 0 rfl) ?_
      refine gf_4_contents C hX fl_RC_23 d_RC_numberEntries_58 ?_
      refine gf_1_code C hX fl_RC_35 d_RC_numberEntries_61 ?_
      refine lv_iload hx hb d_RC_numberEntries_64 (lv_at hl 4 rfl) ?_
      refine lv_bipush (v := 6) hx hb d_RC_numberEntries_66 (by decide) ?_
      refine lv_iload_n hx hb d_RC_numberEntries_68 rfl (lv_at hl 1 rfl) ?_
      obtain ⟨s2, es2, h⟩ := lt1_e h
      refine x_vV (ws' := wX g s2) (As := [.int x4, .int 6, .int x1]) (rest := []) C hX (by rw [es2]; exact cTabSet_20 l g s x4 6 x1) (cw_RC_59 C.1.2.2.2.2 C.2.2.2 ⟨by decide, by decide⟩) (x_rc C hX wg_20 rfl) rfl hl.1 rfl (lv_room (Nat.le_of_ble_eq_true rfl)) d_RC_numberEntries_69 ⟨Nat.le_refl _, Nat.le_refl _⟩ (fun H locs hX => ?_)
      refine lv_iload_n hx hb d_RC_numberEntries_72 rfl (lv_at hl 1 rfl) ?_
      refine lv_aload_n hx hb d_RC_numberEntries_73 rfl (lv_at hl 0 rfl) ?_
      refine lv_iload hx hb d_RC_numberEntries_74 (lv_at hl 4 rfl) ?_
      refine lv_iload_n hx hb d_RC_numberEntries_76 rfl (lv_at hl 3 rfl) ?_
      obtain ⟨r3, hc77, h⟩ := bd1_e h
      refine x_vI (As := [.int x4, .int x3]) (rest := [.int x1]) C hX (c_RC_entriesOf l g x4 x3 s2 r3 hc77) (cw_RC_63 C.1.2.2.2.2 C.2.2.2 ⟨by decide, by decide⟩) (x_rc C hX wg_4 rfl) rfl hl.1 rfl (lv_room (Nat.le_of_ble_eq_true rfl)) d_RC_numberEntries_77 ⟨Nat.le_refl _, Nat.le_refl _⟩ (fun H locs hX => ?_)
      obtain ⟨v4, ev4, h⟩ := lt1_e h
      refine x_iadd hx hb d_RC_numberEntries_80 ev4 ?_
      refine lv_istore_n (lv' := [(1, .int v4), (0, .ref (g.q 4)), (2, .int x2), (3, .int x3), (4, .int x4)]) hx hb d_RC_numberEntries_81 rfl hl (by decide) rfl (fun ls hl => ?_)
      obtain ⟨v5, ev5, h⟩ := lt1_e h
      refine lv_iinc (v := v5) (lv' := [(4, .int v5), (1, .int v4), (0, .ref (g.q 4)), (2, .int x2), (3, .int x3)]) hx hb d_RC_numberEntries_82 hl (k := 4) rfl (by rw [ev5]; rfl) (by decide) rfl (fun ls hl => ?_)
      refine lv_goto (tgt := 51) hx hb d_RC_numberEntries_85 (by decide) ?_
      exact ih v4 x2 x3 v5 s2 H locs ls hX (lv_sub hl [2, 1, 3, 4, 0] rfl) h
set_option maxHeartbeats 4000000 in
set_option maxRecDepth 100000 in
theorem w_RC_numberEntries_4 {z : St} (C : Cx g A p m c b_RC_numberEntries 5 ss args R_RC) (hQ : ∀ (pc : Nat) (H : Heap) (locs : List Loc) (ls : Array Slot), XW g A ss (wX g z) H locs → decode b_RC_numberEntries pc = .ok (.return_, 1) → W p l e (rmX 2 46) ss m args below meth c H locs 0 0 Q (F0 m pc ls [])) (n : Nat) : ∀ (x1 : Int32) (x2 : Int32) (s : St) (H : Heap) (locs : List Loc) (ls : Array Slot), XW g A ss (wX g s) H locs → lv_has ls 5 [(0, .ref (g.q 4)), (1, .int x1), (2, .int x2)] → f_RC_numberEntries_4 n x1 x2 s = some z → W p l e (rmX 2 46) ss m args below meth c H locs 0 0 Q (F0 m 4 ls []) := by
  have ⟨⟨hx, hb, hml, hown, hts⟩, hK, hA, hN⟩ := C
  induction n with
  | zero => intro x1 x2 s H locs ls hX hl h; cases h
  | succ n ih =>
    intro x1 x2 s H locs ls hX hl h
    rw [f_RC_numberEntries_4] at h
    refine lv_iload_n hx hb d_RC_numberEntries_4 rfl (lv_at hl 2 rfl) ?_
    refine lv_bipush (v := 8) hx hb d_RC_numberEntries_5 (by decide) ?_
    refine lv_icmp_ge (tgt := 94) hx hb d_RC_numberEntries_7 (by decide) (fun c7 => ?_) (fun c7 => ?_)
    · have h := ite_t c7 h
      exact w_RC_numberEntries_94 C hQ x1 x2 s H locs ls hX hl h
    · have h := ite_f c7 h
      refine lv_iload_n hx hb d_RC_numberEntries_10 rfl (lv_at hl 2 rfl) ?_
      refine lv_aload_n hx hb d_RC_numberEntries_11 rfl (lv_at hl 0 rfl) ?_
      refine gf_4_contents C hX fl_RC_23 d_RC_numberEntries_12 ?_
      refine gf_1_functions C hX fl_RC_41 d_RC_numberEntries_15 ?_
      obtain ⟨r1, er1, h⟩ := lt1_e h
      refine x_vI (r := r1) (ws' := wX g s) (As := []) (rest := [.int x2]) C hX (by rw [er1]; exact cTabCount_12 l g s) (cw_RC_52 C.1.2.2.2.2 C.2.2.2 ⟨by decide, by decide⟩) (x_rc C hX wg_12 rfl) rfl hl.1 rfl (lv_room (Nat.le_of_ble_eq_true rfl)) d_RC_numberEntries_18 ⟨Nat.le_refl _, Nat.le_refl _⟩ (fun H locs hX => ?_)
      refine lv_icmp_ge (tgt := 94) hx hb d_RC_numberEntries_21 (by decide) (fun c21 => ?_) (fun c21 => ?_)
      · have h := ite_t c21 h
        exact w_RC_numberEntries_94 C hQ x1 x2 s H locs ls hX hl h
      · have h := ite_f c21 h
        refine lv_aload_n hx hb d_RC_numberEntries_24 rfl (lv_at hl 0 rfl) ?_
        refine gf_4_contents C hX fl_RC_23 d_RC_numberEntries_25 ?_
        refine gf_1_functions C hX fl_RC_41 d_RC_numberEntries_28 ?_
        refine lv_iload_n hx hb d_RC_numberEntries_31 rfl (lv_at hl 2 rfl) ?_
        refine lv_iconst (v := 3) hx hb d_RC_numberEntries_32 (by decide) ?_
        obtain ⟨r2, er2, h⟩ := lt1_e h
        refine x_vI (r := r2) (ws' := wX g s) (As := [.int x2, .int 3]) (rest := []) C hX (by rw [er2]; exact cTabGet_12 l g s x2 3) (cw_RC_44 C.1.2.2.2.2 C.2.2.2 ⟨by decide, by decide⟩) (x_rc C hX wg_12 rfl) rfl hl.1 rfl (lv_room (Nat.le_of_ble_eq_true rfl)) d_RC_numberEntries_33 ⟨Nat.le_refl _, Nat.le_refl _⟩ (fun H locs hX => ?_)
        refine lv_istore_n (lv' := [(3, .int r2), (0, .ref (g.q 4)), (1, .int x1), (2, .int x2)]) hx hb d_RC_numberEntries_36 rfl hl (by decide) rfl (fun ls hl => ?_)
        refine lv_aload_n hx hb d_RC_numberEntries_37 rfl (lv_at hl 1 rfl) ?_
        refine gf_4_contents C hX fl_RC_23 d_RC_numberEntries_38 ?_
        refine gf_1_functions C hX fl_RC_41 d_RC_numberEntries_41 ?_
        refine lv_iload_n hx hb d_RC_numberEntries_44 rfl (lv_at hl 3 rfl) ?_
        refine lv_iconst (v := 2) hx hb d_RC_numberEntries_45 (by decide) ?_
        obtain ⟨r3, er3, h⟩ := lt1_e h
        refine x_vI (r := r3) (ws' := wX g s) (As := [.int x2, .int 2]) (rest := []) C hX (by rw [er3]; exact cTabGet_12 l g s x2 2) (cw_RC_44 C.1.2.2.2.2 C.2.2.2 ⟨by decide, by decide⟩) (x_rc C hX wg_12 rfl) rfl hl.1 rfl (lv_room (Nat.le_of_ble_eq_true rfl)) d_RC_numberEntries_46 ⟨Nat.le_refl _, Nat.le_refl _⟩ (fun H locs hX => ?_)
        refine lv_istore (lv' := [(4, .int r3), (3, .int r2), (0, .ref (g.q 4)), (1, .int x1), (2, .int x2)]) hx hb d_RC_numberEntries_49 hl (by decide) rfl (fun ls hl => ?_)
        exact w_RC_numberEntries_51 C hQ (f_RC_numberEntries_4 n) ih FU x1 x2 r2 r3 s H locs ls hX (lv_sub hl [2, 3, 4, 1, 0] rfl) h
set_option maxHeartbeats 4000000 in
set_option maxRecDepth 100000 in
theorem w_RC_numberEntries {z : St} (C : Cx g A p m c b_RC_numberEntries 5 ss args R_RC) (hQ : ∀ (pc : Nat) (H : Heap) (locs : List Loc) (ls : Array Slot), XW g A ss (wX g z) H locs → decode b_RC_numberEntries pc = .ok (.return_, 1) → W p l e (rmX 2 46) ss m args below meth c H locs 0 0 Q (F0 m pc ls [])) : ∀ (s : St) (H : Heap) (locs : List Loc) (ls : Array Slot), XW g A ss (wX g s) H locs → lv_has ls 5 [(0, .ref (g.q 4))] → f_RC_numberEntries s = some z → W p l e (rmX 2 46) ss m args below meth c H locs 0 0 Q (F0 m 0 ls []) := by
  have ⟨⟨hx, hb, hml, hown, hts⟩, hK, hA, hN⟩ := C
  intro s H locs ls hX hl h
  rw [f_RC_numberEntries] at h
  refine lv_iconst (v := 0) hx hb d_RC_numberEntries_0 (by decide) ?_
  refine lv_istore_n (lv' := [(1, .int 0), (0, .ref (g.q 4))]) hx hb d_RC_numberEntries_1 rfl hl (by decide) rfl (fun ls hl => ?_)
  refine lv_iconst (v := 0) hx hb d_RC_numberEntries_2 (by decide) ?_
  refine lv_istore_n (lv' := [(2, .int 0), (1, .int 0), (0, .ref (g.q 4))]) hx hb d_RC_numberEntries_3 rfl hl (by decide) rfl (fun ls hl => ?_)
  exact w_RC_numberEntries_4 C hQ FU 0 0 s H locs ls hX (lv_sub hl [2, 1, 0] rfl) h
end WALK
theorem c_RC_numberEntries (l : Launch) (g : GX) (s : St) (z : St) (h : f_RC_numberEntries s = some z) : MV l g y_RC_numberEntries b_RC_numberEntries 5 none 2 46 [.ref (g.q 4)] (wX g s) (wX g z) :=
  MV.mk (own := R_RC) (by decide) rfl (Nat.le_of_ble_eq_true rfl) fun p e ss m below meth c A Q C hQ ls hX hl => w_RC_numberEntries C hQ s _ _ ls hX hl h
-- RC_targetOf
def f_RC_targetOf_99 (s : St) (x1 : Int32) (x2 : Int32) (x3 : Int32) (x4 : Int32) (y1 : Int32) : Option Int32 :=
    lt1 (tGet 240 7 (s 21) y1 6) fun r1 =>
    some (r1)
def f_RC_targetOf_71 (s : St) (x1 : Int32) (x2 : Int32) (x3 : Int32) (y0 : Int32) : Option Int32 :=
    if y0 = 0 then
      bd1 (f_Cont_endOf s x3) fun r1 =>
      f_RC_targetOf_99 s x1 x2 x3 y0 r1
    else
      lt1 (x3 + 1) fun v2 =>
      f_RC_targetOf_99 s x1 x2 x3 y0 v2
def f_RC_targetOf (s : St) (x1 : Int32) : Option Int32 :=
    lt1 (s 4 0 - 1) fun v1 =>
    lt1 (v1 - x1) fun v2 =>
    if 0 ≤ v2 then
      lt1 (rGet 10 (s 32) v2) fun r3 =>
      lt1 (tGet 240 7 (s 21) r3 0) fun r4 =>
      if r4 = 3 then
        f_RC_targetOf_71 s x1 v2 r3 1
      else
        f_RC_targetOf_71 s x1 v2 r3 0
    else
      lt1 (tGet 8 4 (s 13) (s 4 2) 3) fun r5 =>
      lt1 (tGet 240 7 (s 21) r5 6) fun r6 =>
      some (r6)
section WALK
variable {p : Program} {l : Launch} {e : Env} {ss : State} {m : MethodId} {args : Array Value} {below : List Frame} {meth : Method} {c : Code} {Q : State → Prop} {g : GX} {A : Nat → Prop}
set_option maxHeartbeats 4000000 in
set_option maxRecDepth 100000 in
theorem w_RC_targetOf_99 {s : St} {z : Int32} (C : Cx g A p m c b_RC_targetOf 5 ss args R_RC) (hQ : ∀ (pc : Nat) (H : Heap) (locs : List Loc) (ls : Array Slot), XW g A ss (wX g s) H locs → decode b_RC_targetOf pc = .ok (.ireturn, 1) → W p l e (rmX 2 45) ss m args below meth c H locs 0 0 Q (F0 m pc ls [.int z])) : ∀ (x1 : Int32) (x2 : Int32) (x3 : Int32) (x4 : Int32) (y1 : Int32) (H : Heap) (locs : List Loc) (ls : Array Slot), XW g A ss (wX g s) H locs → lv_has ls 5 [(0, .ref (g.q 4)), (1, .int x1), (2, .int x2), (3, .int x3), (4, .int x4)] → f_RC_targetOf_99 s x1 x2 x3 x4 y1 = some z → W p l e (rmX 2 45) ss m args below meth c H locs 0 0 Q (F0 m 99 ls [.int y1, .ref (g.q 20)]) := by
  have ⟨⟨hx, hb, hml, hown, hts⟩, hK, hA, hN⟩ := C
  intro x1 x2 x3 x4 y1 H locs ls hX hl h
  rw [f_RC_targetOf_99] at h
  refine lv_bipush (v := 6) hx hb d_RC_targetOf_99 (by decide) ?_
  obtain ⟨r1, er1, h⟩ := lt1_e h
  refine x_vI (r := r1) (ws' := wX g s) (As := [.int y1, .int 6]) (rest := []) C hX (by rw [er1]; exact cTabGet_20 l g s y1 6) (cw_RC_44 C.1.2.2.2.2 C.2.2.2 ⟨by decide, by decide⟩) (x_rc C hX wg_20 rfl) rfl hl.1 rfl (lv_room (Nat.le_of_ble_eq_true rfl)) d_RC_targetOf_101 ⟨Nat.le_refl _, Nat.le_refl _⟩ (fun H locs hX => ?_)
  obtain rfl := so1 h
  exact hQ _ H locs ls hX d_RC_targetOf_104
set_option maxHeartbeats 4000000 in
set_option maxRecDepth 100000 in
theorem w_RC_targetOf_71 {s : St} {z : Int32} (C : Cx g A p m c b_RC_targetOf 5 ss args R_RC) (hQ : ∀ (pc : Nat) (H : Heap) (locs : List Loc) (ls : Array Slot), XW g A ss (wX g s) H locs → decode b_RC_targetOf pc = .ok (.ireturn, 1) → W p l e (rmX 2 45) ss m args below meth c H locs 0 0 Q (F0 m pc ls [.int z])) : ∀ (x1 : Int32) (x2 : Int32) (x3 : Int32) (y0 : Int32) (H : Heap) (locs : List Loc) (ls : Array Slot), XW g A ss (wX g s) H locs → lv_has ls 5 [(0, .ref (g.q 4)), (1, .int x1), (2, .int x2), (3, .int x3)] → f_RC_targetOf_71 s x1 x2 x3 y0 = some z → W p l e (rmX 2 45) ss m args below meth c H locs 0 0 Q (F0 m 71 ls [.int y0]) := by
  have ⟨⟨hx, hb, hml, hown, hts⟩, hK, hA, hN⟩ := C
  intro x1 x2 x3 y0 H locs ls hX hl h
  rw [f_RC_targetOf_71] at h
  refine lv_istore (lv' := [(4, .int y0), (0, .ref (g.q 4)), (1, .int x1), (2, .int x2), (3, .int x3)]) hx hb d_RC_targetOf_71 hl (by decide) rfl (fun ls hl => ?_)
  refine lv_aload_n hx hb d_RC_targetOf_73 rfl (lv_at hl 1 rfl) ?_
  refine gf_4_contents C hX fl_RC_23 d_RC_targetOf_74 ?_
  refine gf_1_code C hX fl_RC_35 d_RC_targetOf_77 ?_
  refine lv_iload hx hb d_RC_targetOf_80 (lv_at hl 0 rfl) ?_
  refine lv_if_eq (tgt := 91) hx hb d_RC_targetOf_82 (by decide) (fun c82 => ?_) (fun c82 => ?_)
  · have h := ite_t c82 h
    refine lv_aload_n hx hb d_RC_targetOf_91 rfl (lv_at hl 1 rfl) ?_
    refine gf_4_contents C hX fl_RC_23 d_RC_targetOf_92 ?_
    refine lv_iload_n hx hb d_RC_targetOf_95 rfl (lv_at hl 4 rfl) ?_
    obtain ⟨r1, hc96, h⟩ := bd1_e h
    refine x_vI (As := [.int x3]) (rest := [.ref (g.q 20)]) C hX (c_Cont_endOf l g x3 s r1 hc96) (cw_RC_115 C.1.2.2.2.2 C.2.2.2 ⟨by decide, by decide⟩) (x_rc C hX wg_1 rfl) rfl hl.1 rfl (lv_room (Nat.le_of_ble_eq_true rfl)) d_RC_targetOf_96 ⟨Nat.le_refl _, Nat.le_refl _⟩ (fun H locs hX => ?_)
    exact w_RC_targetOf_99 C hQ x1 x2 x3 y0 r1 H locs ls hX (lv_sub hl [1, 2, 3, 4, 0] rfl) h
  · have h := ite_f c82 h
    refine lv_iload_n hx hb d_RC_targetOf_85 rfl (lv_at hl 4 rfl) ?_
    refine lv_iconst (v := 1) hx hb d_RC_targetOf_86 (by decide) ?_
    obtain ⟨v2, ev2, h⟩ := lt1_e h
    refine x_iadd hx hb d_RC_targetOf_87 ev2 ?_
    refine lv_goto (tgt := 99) hx hb d_RC_targetOf_88 (by decide) ?_
    exact w_RC_targetOf_99 C hQ x1 x2 x3 y0 v2 H locs ls hX (lv_sub hl [1, 2, 3, 4, 0] rfl) h
set_option maxHeartbeats 4000000 in
set_option maxRecDepth 100000 in
theorem w_RC_targetOf {s : St} {z : Int32} (C : Cx g A p m c b_RC_targetOf 5 ss args R_RC) (hQ : ∀ (pc : Nat) (H : Heap) (locs : List Loc) (ls : Array Slot), XW g A ss (wX g s) H locs → decode b_RC_targetOf pc = .ok (.ireturn, 1) → W p l e (rmX 2 45) ss m args below meth c H locs 0 0 Q (F0 m pc ls [.int z])) : ∀ (x1 : Int32) (H : Heap) (locs : List Loc) (ls : Array Slot), XW g A ss (wX g s) H locs → lv_has ls 5 [(0, .ref (g.q 4)), (1, .int x1)] → f_RC_targetOf s x1 = some z → W p l e (rmX 2 45) ss m args below meth c H locs 0 0 Q (F0 m 0 ls []) := by
  have ⟨⟨hx, hb, hml, hown, hts⟩, hK, hA, hN⟩ := C
  intro x1 H locs ls hX hl h
  rw [f_RC_targetOf] at h
  refine lv_aload_n hx hb d_RC_targetOf_0 rfl (lv_at hl 0 rfl) ?_
  refine gf_4_openCount C hX fl_RC_71 d_RC_targetOf_1 ?_
  refine lv_iconst (v := 1) hx hb d_RC_targetOf_4 (by decide) ?_
  obtain ⟨v1, ev1, h⟩ := lt1_e h
  refine x_isub hx hb d_RC_targetOf_5 ev1 ?_
  refine lv_iload_n hx hb d_RC_targetOf_6 rfl (lv_at hl 1 rfl) ?_
  obtain ⟨v2, ev2, h⟩ := lt1_e h
  refine x_isub hx hb d_RC_targetOf_7 ev2 ?_
  refine lv_istore_n (lv' := [(2, .int v2), (0, .ref (g.q 4)), (1, .int x1)]) hx hb d_RC_targetOf_8 rfl hl (by decide) rfl (fun ls hl => ?_)
  refine lv_iload_n hx hb d_RC_targetOf_9 rfl (lv_at hl 0 rfl) ?_
  refine lv_if_ge (tgt := 41) hx hb d_RC_targetOf_10 (by decide) (fun c10 => ?_) (fun c10 => ?_)
  · have h := ite_t c10 h
    refine lv_aload_n hx hb d_RC_targetOf_41 rfl (lv_at hl 1 rfl) ?_
    refine gf_4_open C hX fl_RC_20 d_RC_targetOf_42 ?_
    refine lv_iload_n hx hb d_RC_targetOf_45 rfl (lv_at hl 0 rfl) ?_
    obtain ⟨r3, er3, h⟩ := lt1_e h
    refine x_vI (r := r3) (ws' := wX g s) (As := [.int v2]) (rest := []) C hX (by rw [er3]; exact cRowGet_31 l g s v2) (cw_RC_31 C.1.2.2.2.2 C.2.2.2 ⟨by decide, by decide⟩) (x_rc C hX wg_31 rfl) rfl hl.1 rfl (lv_room (Nat.le_of_ble_eq_true rfl)) d_RC_targetOf_46 ⟨Nat.le_refl _, Nat.le_refl _⟩ (fun H locs hX => ?_)
    refine lv_istore_n (lv' := [(3, .int r3), (2, .int v2), (0, .ref (g.q 4)), (1, .int x1)]) hx hb d_RC_targetOf_49 rfl hl (by decide) rfl (fun ls hl => ?_)
    refine lv_aload_n hx hb d_RC_targetOf_50 rfl (lv_at hl 2 rfl) ?_
    refine gf_4_contents C hX fl_RC_23 d_RC_targetOf_51 ?_
    refine gf_1_code C hX fl_RC_35 d_RC_targetOf_54 ?_
    refine lv_iload_n hx hb d_RC_targetOf_57 rfl (lv_at hl 0 rfl) ?_
    refine lv_iconst (v := 0) hx hb d_RC_targetOf_58 (by decide) ?_
    obtain ⟨r4, er4, h⟩ := lt1_e h
    refine x_vI (r := r4) (ws' := wX g s) (As := [.int r3, .int 0]) (rest := []) C hX (by rw [er4]; exact cTabGet_20 l g s r3 0) (cw_RC_44 C.1.2.2.2.2 C.2.2.2 ⟨by decide, by decide⟩) (x_rc C hX wg_20 rfl) rfl hl.1 rfl (lv_room (Nat.le_of_ble_eq_true rfl)) d_RC_targetOf_59 ⟨Nat.le_refl _, Nat.le_refl _⟩ (fun H locs hX => ?_)
    refine lv_iconst (v := 3) hx hb d_RC_targetOf_62 (by decide) ?_
    refine lv_icmp_ne (tgt := 70) hx hb d_RC_targetOf_63 (by decide) (fun c63 => ?_) (fun c63 => ?_)
    · have h := ite_f c63 h
      refine lv_iconst (v := 0) hx hb d_RC_targetOf_70 (by decide) ?_
      exact w_RC_targetOf_71 C hQ x1 v2 r3 0 H locs ls hX (lv_sub hl [2, 3, 1, 0] rfl) h
    · have h := ite_t c63 h
      refine lv_iconst (v := 1) hx hb d_RC_targetOf_66 (by decide) ?_
      refine lv_goto (tgt := 71) hx hb d_RC_targetOf_67 (by decide) ?_
      exact w_RC_targetOf_71 C hQ x1 v2 r3 1 H locs ls hX (lv_sub hl [2, 3, 1, 0] rfl) h
  · have h := ite_f c10 h
    refine lv_aload_n hx hb d_RC_targetOf_13 rfl (lv_at hl 1 rfl) ?_
    refine gf_4_contents C hX fl_RC_23 d_RC_targetOf_14 ?_
    refine gf_1_code C hX fl_RC_35 d_RC_targetOf_17 ?_
    refine lv_aload_n hx hb d_RC_targetOf_20 rfl (lv_at hl 1 rfl) ?_
    refine gf_4_contents C hX fl_RC_23 d_RC_targetOf_21 ?_
    refine gf_1_functions C hX fl_RC_41 d_RC_targetOf_24 ?_
    refine lv_aload_n hx hb d_RC_targetOf_27 rfl (lv_at hl 1 rfl) ?_
    refine gf_4_function C hX fl_RC_68 d_RC_targetOf_28 ?_
    refine lv_iconst (v := 3) hx hb d_RC_targetOf_31 (by decide) ?_
    obtain ⟨r5, er5, h⟩ := lt1_e h
    refine x_vI (r := r5) (ws' := wX g s) (As := [.int (s 4 2), .int 3]) (rest := [.ref (g.q 20)]) C hX (by rw [er5]; exact cTabGet_12 l g s (s 4 2) 3) (cw_RC_44 C.1.2.2.2.2 C.2.2.2 ⟨by decide, by decide⟩) (x_rc C hX wg_12 rfl) rfl hl.1 rfl (lv_room (Nat.le_of_ble_eq_true rfl)) d_RC_targetOf_32 ⟨Nat.le_refl _, Nat.le_refl _⟩ (fun H locs hX => ?_)
    refine lv_bipush (v := 6) hx hb d_RC_targetOf_35 (by decide) ?_
    obtain ⟨r6, er6, h⟩ := lt1_e h
    refine x_vI (r := r6) (ws' := wX g s) (As := [.int r5, .int 6]) (rest := []) C hX (by rw [er6]; exact cTabGet_20 l g s r5 6) (cw_RC_44 C.1.2.2.2.2 C.2.2.2 ⟨by decide, by decide⟩) (x_rc C hX wg_20 rfl) rfl hl.1 rfl (lv_room (Nat.le_of_ble_eq_true rfl)) d_RC_targetOf_37 ⟨Nat.le_refl _, Nat.le_refl _⟩ (fun H locs hX => ?_)
    obtain rfl := so1 h
    exact hQ _ H locs ls hX d_RC_targetOf_40
end WALK
theorem c_RC_targetOf (l : Launch) (g : GX) (x1 : Int32) (s : St) (z : Int32) (h : f_RC_targetOf s x1 = some z) : MI l g y_RC_targetOf b_RC_targetOf 5 (some .int) 2 45 [.ref (g.q 4), .int x1] (wX g s) z (wX g s) :=
  MI.mk (own := R_RC) (by decide) rfl (Nat.le_of_ble_eq_true rfl) fun p e ss m below meth c A Q C hQ ls hX hl => w_RC_targetOf C hQ x1 _ _ ls hX hl h
-- RC_secondWord
def f_RC_secondWord_148 (s : St) (x1 : Int32) (x2 : Int32) (x3 : Int32) : Option Int32 :=
    some (x3)
def f_RC_secondWord_146 (s : St) (x1 : Int32) (x2 : Int32) (x3 : Int32) : Option Int32 :=
    some (0)
def f_RC_secondWord_88 (s : St) (x1 : Int32) (x2 : Int32) (x3 : Int32) : Option Int32 :=
    bd1 (f_RC_targetOf s x3) fun r1 =>
    some (r1)
def f_RC_secondWord (s : St) (x1 : Int32) (x2 : Int32) : Option Int32 :=
    lt1 (tGet 240 7 (s 21) x1 1) fun r1 =>
    if x2 = 2 then
      f_RC_secondWord_146 s x1 x2 r1
    else if x2 = 3 then
      f_RC_secondWord_146 s x1 x2 r1
    else if x2 = 4 then
      bd1 (f_Cont_otherwiseOf s x1) fun r2 =>
      lt1 (tGet 240 7 (s 21) r2 6) fun r3 =>
      some (r3)
    else if x2 = 5 then
      lt1 (tGet 240 7 (s 21) x1 3) fun r4 =>
      lt1 (tGet 240 7 (s 21) r4 6) fun r5 =>
      some (r5)
    else if x2 = 12 then
      f_RC_secondWord_88 s x1 x2 r1
    else if x2 = 13 then
      f_RC_secondWord_88 s x1 x2 r1
    else if x2 = 16 then
      bd1 (f_RC_firstEntry s r1) fun r6 =>
      some (r6)
    else 
      f_RC_secondWord_148 s x1 x2 r1
section WALK
variable {p : Program} {l : Launch} {e : Env} {ss : State} {m : MethodId} {args : Array Value} {below : List Frame} {meth : Method} {c : Code} {Q : State → Prop} {g : GX} {A : Nat → Prop}
set_option maxHeartbeats 4000000 in
set_option maxRecDepth 100000 in
theorem w_RC_secondWord_148 {s : St} {z : Int32} (C : Cx g A p m c b_RC_secondWord 4 ss args R_RC) (hQ : ∀ (pc : Nat) (H : Heap) (locs : List Loc) (ls : Array Slot), XW g A ss (wX g s) H locs → decode b_RC_secondWord pc = .ok (.ireturn, 1) → W p l e (rmX 3 69) ss m args below meth c H locs 0 0 Q (F0 m pc ls [.int z])) : ∀ (x1 : Int32) (x2 : Int32) (x3 : Int32) (H : Heap) (locs : List Loc) (ls : Array Slot), XW g A ss (wX g s) H locs → lv_has ls 4 [(0, .ref (g.q 4)), (1, .int x1), (2, .int x2), (3, .int x3)] → f_RC_secondWord_148 s x1 x2 x3 = some z → W p l e (rmX 3 69) ss m args below meth c H locs 0 0 Q (F0 m 148 ls []) := by
  have ⟨⟨hx, hb, hml, hown, hts⟩, hK, hA, hN⟩ := C
  intro x1 x2 x3 H locs ls hX hl h
  rw [f_RC_secondWord_148] at h
  refine lv_iload_n hx hb d_RC_secondWord_148 rfl (lv_at hl 3 rfl) ?_
  obtain rfl := so1 h
  exact hQ _ H locs ls hX d_RC_secondWord_149
set_option maxHeartbeats 4000000 in
set_option maxRecDepth 100000 in
theorem w_RC_secondWord_146 {s : St} {z : Int32} (C : Cx g A p m c b_RC_secondWord 4 ss args R_RC) (hQ : ∀ (pc : Nat) (H : Heap) (locs : List Loc) (ls : Array Slot), XW g A ss (wX g s) H locs → decode b_RC_secondWord pc = .ok (.ireturn, 1) → W p l e (rmX 3 69) ss m args below meth c H locs 0 0 Q (F0 m pc ls [.int z])) : ∀ (x1 : Int32) (x2 : Int32) (x3 : Int32) (H : Heap) (locs : List Loc) (ls : Array Slot), XW g A ss (wX g s) H locs → lv_has ls 4 [(0, .ref (g.q 4)), (1, .int x1), (2, .int x2), (3, .int x3)] → f_RC_secondWord_146 s x1 x2 x3 = some z → W p l e (rmX 3 69) ss m args below meth c H locs 0 0 Q (F0 m 146 ls []) := by
  have ⟨⟨hx, hb, hml, hown, hts⟩, hK, hA, hN⟩ := C
  intro x1 x2 x3 H locs ls hX hl h
  rw [f_RC_secondWord_146] at h
  refine lv_iconst (v := 0) hx hb d_RC_secondWord_146 (by decide) ?_
  obtain rfl := so1 h
  exact hQ _ H locs ls hX d_RC_secondWord_147
set_option maxHeartbeats 4000000 in
set_option maxRecDepth 100000 in
theorem w_RC_secondWord_88 {s : St} {z : Int32} (C : Cx g A p m c b_RC_secondWord 4 ss args R_RC) (hQ : ∀ (pc : Nat) (H : Heap) (locs : List Loc) (ls : Array Slot), XW g A ss (wX g s) H locs → decode b_RC_secondWord pc = .ok (.ireturn, 1) → W p l e (rmX 3 69) ss m args below meth c H locs 0 0 Q (F0 m pc ls [.int z])) : ∀ (x1 : Int32) (x2 : Int32) (x3 : Int32) (H : Heap) (locs : List Loc) (ls : Array Slot), XW g A ss (wX g s) H locs → lv_has ls 4 [(0, .ref (g.q 4)), (1, .int x1), (2, .int x2), (3, .int x3)] → f_RC_secondWord_88 s x1 x2 x3 = some z → W p l e (rmX 3 69) ss m args below meth c H locs 0 0 Q (F0 m 88 ls []) := by
  have ⟨⟨hx, hb, hml, hown, hts⟩, hK, hA, hN⟩ := C
  intro x1 x2 x3 H locs ls hX hl h
  rw [f_RC_secondWord_88] at h
  refine lv_aload_n hx hb d_RC_secondWord_88 rfl (lv_at hl 0 rfl) ?_
  refine lv_iload_n hx hb d_RC_secondWord_89 rfl (lv_at hl 3 rfl) ?_
  obtain ⟨r1, hc90, h⟩ := bd1_e h
  refine x_vI (As := [.int x3]) (rest := []) C hX (c_RC_targetOf l g x3 s r1 hc90) (cw_RC_100 C.1.2.2.2.2 C.2.2.2 ⟨by decide, by decide⟩) (x_rc C hX wg_4 rfl) rfl hl.1 rfl (lv_room (Nat.le_of_ble_eq_true rfl)) d_RC_secondWord_90 ⟨Nat.le_refl _, Nat.le_refl _⟩ (fun H locs hX => ?_)
  obtain rfl := so1 h
  exact hQ _ H locs ls hX d_RC_secondWord_93
set_option maxHeartbeats 4000000 in
set_option maxRecDepth 100000 in
theorem w_RC_secondWord {s : St} {z : Int32} (C : Cx g A p m c b_RC_secondWord 4 ss args R_RC) (hQ : ∀ (pc : Nat) (H : Heap) (locs : List Loc) (ls : Array Slot), XW g A ss (wX g s) H locs → decode b_RC_secondWord pc = .ok (.ireturn, 1) → W p l e (rmX 3 69) ss m args below meth c H locs 0 0 Q (F0 m pc ls [.int z])) : ∀ (x1 : Int32) (x2 : Int32) (H : Heap) (locs : List Loc) (ls : Array Slot), XW g A ss (wX g s) H locs → lv_has ls 4 [(0, .ref (g.q 4)), (1, .int x1), (2, .int x2)] → f_RC_secondWord s x1 x2 = some z → W p l e (rmX 3 69) ss m args below meth c H locs 0 0 Q (F0 m 0 ls []) := by
  have ⟨⟨hx, hb, hml, hown, hts⟩, hK, hA, hN⟩ := C
  intro x1 x2 H locs ls hX hl h
  rw [f_RC_secondWord] at h
  refine lv_aload_n hx hb d_RC_secondWord_0 rfl (lv_at hl 0 rfl) ?_
  refine gf_4_contents C hX fl_RC_23 d_RC_secondWord_1 ?_
  refine gf_1_code C hX fl_RC_35 d_RC_secondWord_4 ?_
  refine lv_iload_n hx hb d_RC_secondWord_7 rfl (lv_at hl 1 rfl) ?_
  refine lv_iconst (v := 1) hx hb d_RC_secondWord_8 (by decide) ?_
  obtain ⟨r1, er1, h⟩ := lt1_e h
  refine x_vI (r := r1) (ws' := wX g s) (As := [.int x1, .int 1]) (rest := []) C hX (by rw [er1]; exact cTabGet_20 l g s x1 1) (cw_RC_44 C.1.2.2.2.2 C.2.2.2 ⟨by decide, by decide⟩) (x_rc C hX wg_20 rfl) rfl hl.1 rfl (lv_room (Nat.le_of_ble_eq_true rfl)) d_RC_secondWord_9 ⟨Nat.le_refl _, Nat.le_refl _⟩ (fun H locs hX => ?_)
  refine lv_istore_n (lv' := [(3, .int r1), (0, .ref (g.q 4)), (1, .int x1), (2, .int x2)]) hx hb d_RC_secondWord_12 rfl hl (by decide) rfl (fun ls hl => ?_)
  refine lv_iload_n hx hb d_RC_secondWord_13 rfl (lv_at hl 3 rfl) ?_
  by_cases c14_0 : x2 = 2
  · have h := ite_t c14_0 h
    refine lv_tableIn (tgt := 146) hx hb d_RC_secondWord_14 (by rw [c14_0]; decide) (by rw [c14_0]; decide) (by rw [c14_0]; rfl) (by decide) ?_
    exact w_RC_secondWord_146 C hQ x1 x2 r1 H locs ls hX (lv_sub hl [1, 2, 3, 0] rfl) h
  have h := ite_f c14_0 h
  by_cases c14_1 : x2 = 3
  · have h := ite_t c14_1 h
    refine lv_tableIn (tgt := 146) hx hb d_RC_secondWord_14 (by rw [c14_1]; decide) (by rw [c14_1]; decide) (by rw [c14_1]; rfl) (by decide) ?_
    exact w_RC_secondWord_146 C hQ x1 x2 r1 H locs ls hX (lv_sub hl [1, 2, 3, 0] rfl) h
  have h := ite_f c14_1 h
  by_cases c14_2 : x2 = 4
  · have h := ite_t c14_2 h
    refine lv_tableIn (tgt := 94) hx hb d_RC_secondWord_14 (by rw [c14_2]; decide) (by rw [c14_2]; decide) (by rw [c14_2]; rfl) (by decide) ?_
    refine lv_aload_n hx hb d_RC_secondWord_94 rfl (lv_at hl 1 rfl) ?_
    refine gf_4_contents C hX fl_RC_23 d_RC_secondWord_95 ?_
    refine gf_1_code C hX fl_RC_35 d_RC_secondWord_98 ?_
    refine lv_aload_n hx hb d_RC_secondWord_101 rfl (lv_at hl 1 rfl) ?_
    refine gf_4_contents C hX fl_RC_23 d_RC_secondWord_102 ?_
    refine lv_iload_n hx hb d_RC_secondWord_105 rfl (lv_at hl 2 rfl) ?_
    obtain ⟨r2, hc106, h⟩ := bd1_e h
    refine x_vI (As := [.int x1]) (rest := [.ref (g.q 20)]) C hX (c_Cont_otherwiseOf l g x1 s r2 hc106) (cw_RC_106 C.1.2.2.2.2 C.2.2.2 ⟨by decide, by decide⟩) (x_rc C hX wg_1 rfl) rfl hl.1 rfl (lv_room (Nat.le_of_ble_eq_true rfl)) d_RC_secondWord_106 ⟨Nat.le_refl _, Nat.le_refl _⟩ (fun H locs hX => ?_)
    refine lv_bipush (v := 6) hx hb d_RC_secondWord_109 (by decide) ?_
    obtain ⟨r3, er3, h⟩ := lt1_e h
    refine x_vI (r := r3) (ws' := wX g s) (As := [.int r2, .int 6]) (rest := []) C hX (by rw [er3]; exact cTabGet_20 l g s r2 6) (cw_RC_44 C.1.2.2.2.2 C.2.2.2 ⟨by decide, by decide⟩) (x_rc C hX wg_20 rfl) rfl hl.1 rfl (lv_room (Nat.le_of_ble_eq_true rfl)) d_RC_secondWord_111 ⟨Nat.le_refl _, Nat.le_refl _⟩ (fun H locs hX => ?_)
    obtain rfl := so1 h
    exact hQ _ H locs ls hX d_RC_secondWord_114
  have h := ite_f c14_2 h
  by_cases c14_3 : x2 = 5
  · have h := ite_t c14_3 h
    refine lv_tableIn (tgt := 115) hx hb d_RC_secondWord_14 (by rw [c14_3]; decide) (by rw [c14_3]; decide) (by rw [c14_3]; rfl) (by decide) ?_
    refine lv_aload_n hx hb d_RC_secondWord_115 rfl (lv_at hl 1 rfl) ?_
    refine gf_4_contents C hX fl_RC_23 d_RC_secondWord_116 ?_
    refine gf_1_code C hX fl_RC_35 d_RC_secondWord_119 ?_
    refine lv_aload_n hx hb d_RC_secondWord_122 rfl (lv_at hl 1 rfl) ?_
    refine gf_4_contents C hX fl_RC_23 d_RC_secondWord_123 ?_
    refine gf_1_code C hX fl_RC_35 d_RC_secondWord_126 ?_
    refine lv_iload_n hx hb d_RC_secondWord_129 rfl (lv_at hl 2 rfl) ?_
    refine lv_iconst (v := 3) hx hb d_RC_secondWord_130 (by decide) ?_
    obtain ⟨r4, er4, h⟩ := lt1_e h
    refine x_vI (r := r4) (ws' := wX g s) (As := [.int x1, .int 3]) (rest := [.ref (g.q 20)]) C hX (by rw [er4]; exact cTabGet_20 l g s x1 3) (cw_RC_44 C.1.2.2.2.2 C.2.2.2 ⟨by decide, by decide⟩) (x_rc C hX wg_20 rfl) rfl hl.1 rfl (lv_room (Nat.le_of_ble_eq_true rfl)) d_RC_secondWord_131 ⟨Nat.le_refl _, Nat.le_refl _⟩ (fun H locs hX => ?_)
    refine lv_bipush (v := 6) hx hb d_RC_secondWord_134 (by decide) ?_
    obtain ⟨r5, er5, h⟩ := lt1_e h
    refine x_vI (r := r5) (ws' := wX g s) (As := [.int r4, .int 6]) (rest := []) C hX (by rw [er5]; exact cTabGet_20 l g s r4 6) (cw_RC_44 C.1.2.2.2.2 C.2.2.2 ⟨by decide, by decide⟩) (x_rc C hX wg_20 rfl) rfl hl.1 rfl (lv_room (Nat.le_of_ble_eq_true rfl)) d_RC_secondWord_136 ⟨Nat.le_refl _, Nat.le_refl _⟩ (fun H locs hX => ?_)
    obtain rfl := so1 h
    exact hQ _ H locs ls hX d_RC_secondWord_139
  have h := ite_f c14_3 h
  by_cases c14_4 : x2 = 12
  · have h := ite_t c14_4 h
    refine lv_tableIn (tgt := 88) hx hb d_RC_secondWord_14 (by rw [c14_4]; decide) (by rw [c14_4]; decide) (by rw [c14_4]; rfl) (by decide) ?_
    exact w_RC_secondWord_88 C hQ x1 x2 r1 H locs ls hX (lv_sub hl [1, 2, 3, 0] rfl) h
  have h := ite_f c14_4 h
  by_cases c14_5 : x2 = 13
  · have h := ite_t c14_5 h
    refine lv_tableIn (tgt := 88) hx hb d_RC_secondWord_14 (by rw [c14_5]; decide) (by rw [c14_5]; decide) (by rw [c14_5]; rfl) (by decide) ?_
    exact w_RC_secondWord_88 C hQ x1 x2 r1 H locs ls hX (lv_sub hl [1, 2, 3, 0] rfl) h
  have h := ite_f c14_5 h
  by_cases c14_6 : x2 = 16
  · have h := ite_t c14_6 h
    refine lv_tableIn (tgt := 140) hx hb d_RC_secondWord_14 (by rw [c14_6]; decide) (by rw [c14_6]; decide) (by rw [c14_6]; rfl) (by decide) ?_
    refine lv_aload_n hx hb d_RC_secondWord_140 rfl (lv_at hl 1 rfl) ?_
    refine lv_iload_n hx hb d_RC_secondWord_141 rfl (lv_at hl 0 rfl) ?_
    obtain ⟨r6, hc142, h⟩ := bd1_e h
    refine x_vI (As := [.int r1]) (rest := []) C hX (c_RC_firstEntry l g r1 s r6 hc142) (cw_RC_109 C.1.2.2.2.2 C.2.2.2 ⟨by decide, by decide⟩) (x_rc C hX wg_4 rfl) rfl hl.1 rfl (lv_room (Nat.le_of_ble_eq_true rfl)) d_RC_secondWord_142 ⟨Nat.le_refl _, Nat.le_refl _⟩ (fun H locs hX => ?_)
    obtain rfl := so1 h
    exact hQ _ H locs ls hX d_RC_secondWord_145
  have h := ite_f c14_6 h
  by_cases c14_g6 : x2 = 6
  · refine lv_tableIn (tgt := 148) hx hb d_RC_secondWord_14 (by rw [c14_g6]; decide) (by rw [c14_g6]; decide) (by rw [c14_g6]; rfl) (by decide) ?_
    exact w_RC_secondWord_148 C hQ x1 x2 r1 H locs ls hX (lv_sub hl [1, 2, 3, 0] rfl) h
  by_cases c14_g7 : x2 = 7
  · refine lv_tableIn (tgt := 148) hx hb d_RC_secondWord_14 (by rw [c14_g7]; decide) (by rw [c14_g7]; decide) (by rw [c14_g7]; rfl) (by decide) ?_
    exact w_RC_secondWord_148 C hQ x1 x2 r1 H locs ls hX (lv_sub hl [1, 2, 3, 0] rfl) h
  by_cases c14_g8 : x2 = 8
  · refine lv_tableIn (tgt := 148) hx hb d_RC_secondWord_14 (by rw [c14_g8]; decide) (by rw [c14_g8]; decide) (by rw [c14_g8]; rfl) (by decide) ?_
    exact w_RC_secondWord_148 C hQ x1 x2 r1 H locs ls hX (lv_sub hl [1, 2, 3, 0] rfl) h
  by_cases c14_g9 : x2 = 9
  · refine lv_tableIn (tgt := 148) hx hb d_RC_secondWord_14 (by rw [c14_g9]; decide) (by rw [c14_g9]; decide) (by rw [c14_g9]; rfl) (by decide) ?_
    exact w_RC_secondWord_148 C hQ x1 x2 r1 H locs ls hX (lv_sub hl [1, 2, 3, 0] rfl) h
  by_cases c14_g10 : x2 = 10
  · refine lv_tableIn (tgt := 148) hx hb d_RC_secondWord_14 (by rw [c14_g10]; decide) (by rw [c14_g10]; decide) (by rw [c14_g10]; rfl) (by decide) ?_
    exact w_RC_secondWord_148 C hQ x1 x2 r1 H locs ls hX (lv_sub hl [1, 2, 3, 0] rfl) h
  by_cases c14_g11 : x2 = 11
  · refine lv_tableIn (tgt := 148) hx hb d_RC_secondWord_14 (by rw [c14_g11]; decide) (by rw [c14_g11]; decide) (by rw [c14_g11]; rfl) (by decide) ?_
    exact w_RC_secondWord_148 C hQ x1 x2 r1 H locs ls hX (lv_sub hl [1, 2, 3, 0] rfl) h
  by_cases c14_g14 : x2 = 14
  · refine lv_tableIn (tgt := 148) hx hb d_RC_secondWord_14 (by rw [c14_g14]; decide) (by rw [c14_g14]; decide) (by rw [c14_g14]; rfl) (by decide) ?_
    exact w_RC_secondWord_148 C hQ x1 x2 r1 H locs ls hX (lv_sub hl [1, 2, 3, 0] rfl) h
  by_cases c14_g15 : x2 = 15
  · refine lv_tableIn (tgt := 148) hx hb d_RC_secondWord_14 (by rw [c14_g15]; decide) (by rw [c14_g15]; decide) (by rw [c14_g15]; rfl) (by decide) ?_
    exact w_RC_secondWord_148 C hQ x1 x2 r1 H locs ls hX (lv_sub hl [1, 2, 3, 0] rfl) h
  have hz := And.intro trivial trivial
  have hn0 := lv_neT c14_0 (a := 2) (by decide)
  have hn1 := lv_neT c14_1 (a := 3) (by decide)
  have hn2 := lv_neT c14_2 (a := 4) (by decide)
  have hn3 := lv_neT c14_3 (a := 5) (by decide)
  have hn4 := lv_neT c14_4 (a := 12) (by decide)
  have hn5 := lv_neT c14_5 (a := 13) (by decide)
  have hn6 := lv_neT c14_6 (a := 16) (by decide)
  have hn7 := lv_neT c14_g6 (a := 6) (by decide)
  have hn8 := lv_neT c14_g7 (a := 7) (by decide)
  have hn9 := lv_neT c14_g8 (a := 8) (by decide)
  have hn10 := lv_neT c14_g9 (a := 9) (by decide)
  have hn11 := lv_neT c14_g10 (a := 10) (by decide)
  have hn12 := lv_neT c14_g11 (a := 11) (by decide)
  have hn13 := lv_neT c14_g14 (a := 14) (by decide)
  have hn14 := lv_neT c14_g15 (a := 15) (by decide)
  refine lv_tableOut (tgt := 148) hx hb d_RC_secondWord_14 (by omega) (by decide) ?_
  exact w_RC_secondWord_148 C hQ x1 x2 r1 H locs ls hX (lv_sub hl [1, 2, 3, 0] rfl) h
end WALK
theorem c_RC_secondWord (l : Launch) (g : GX) (x1 : Int32) (x2 : Int32) (s : St) (z : Int32) (h : f_RC_secondWord s x1 x2 = some z) : MI l g y_RC_secondWord b_RC_secondWord 4 (some .int) 3 69 [.ref (g.q 4), .int x1, .int x2] (wX g s) z (wX g s) :=
  MI.mk (own := R_RC) (by decide) rfl (Nat.le_of_ble_eq_true rfl) fun p e ss m below meth c A Q C hQ ls hX hl => w_RC_secondWord C hQ x1 x2 _ _ ls hX hl h
-- RC_leftAt
def f_RC_leftAt_77 (s : St) (x1 : Int32) (x2 : Int32) (x3 : Int32) (x4 : Int32) (y0 : Int32) : Option Int32 :=
    lt1 (tGet 240 7 (s 21) x4 4) fun r1 =>
    lt1 (r1 - y0) fun v2 =>
    lt1 (x2 + v2) fun v3 =>
    lt1 (2 * v3) fun v4 =>
    bd1 (f_Cont_labelResults s x4) fun r5 =>
    lt1 (v4 + r5) fun v6 =>
    some (v6)
def f_RC_leftAt (s : St) (x1 : Int32) : Option Int32 :=
    lt1 (tGet 8 4 (s 13) (s 4 2) 1) fun r1 =>
    lt1 (s 4 0 - 1) fun v2 =>
    lt1 (v2 - x1) fun v3 =>
    if 0 ≤ v3 then
      lt1 (rGet 10 (s 32) v3) fun r4 =>
      lt1 (tGet 240 7 (s 21) r4 0) fun r5 =>
      if r5 = 4 then
        f_RC_leftAt_77 s x1 r1 v3 r4 1
      else
        f_RC_leftAt_77 s x1 r1 v3 r4 0
    else
      lt1 (2 * r1) fun v6 =>
      bd1 (f_Cont_resultsOf s (s 4 2)) fun r7 =>
      lt1 (v6 + r7) fun v8 =>
      some (v8)
section WALK
variable {p : Program} {l : Launch} {e : Env} {ss : State} {m : MethodId} {args : Array Value} {below : List Frame} {meth : Method} {c : Code} {Q : State → Prop} {g : GX} {A : Nat → Prop}
set_option maxHeartbeats 4000000 in
set_option maxRecDepth 100000 in
theorem w_RC_leftAt_77 {s : St} {z : Int32} (C : Cx g A p m c b_RC_leftAt 7 ss args R_RC) (hQ : ∀ (pc : Nat) (H : Heap) (locs : List Loc) (ls : Array Slot), XW g A ss (wX g s) H locs → decode b_RC_leftAt pc = .ok (.ireturn, 1) → W p l e (rmX 2 45) ss m args below meth c H locs 0 0 Q (F0 m pc ls [.int z])) : ∀ (x1 : Int32) (x2 : Int32) (x3 : Int32) (x4 : Int32) (y0 : Int32) (H : Heap) (locs : List Loc) (ls : Array Slot), XW g A ss (wX g s) H locs → lv_has ls 7 [(0, .ref (g.q 4)), (1, .int x1), (2, .int x2), (3, .int x3), (4, .int x4)] → f_RC_leftAt_77 s x1 x2 x3 x4 y0 = some z → W p l e (rmX 2 45) ss m args below meth c H locs 0 0 Q (F0 m 77 ls [.int y0]) := by
  have ⟨⟨hx, hb, hml, hown, hts⟩, hK, hA, hN⟩ := C
  intro x1 x2 x3 x4 y0 H locs ls hX hl h
  rw [f_RC_leftAt_77] at h
  refine lv_istore (lv' := [(5, .int y0), (0, .ref (g.q 4)), (1, .int x1), (2, .int x2), (3, .int x3), (4, .int x4)]) hx hb d_RC_leftAt_77 hl (by decide) rfl (fun ls hl => ?_)
  refine lv_aload_n hx hb d_RC_leftAt_79 rfl (lv_at hl 1 rfl) ?_
  refine gf_4_contents C hX fl_RC_23 d_RC_leftAt_80 ?_
  refine gf_1_code C hX fl_RC_35 d_RC_leftAt_83 ?_
  refine lv_iload hx hb d_RC_leftAt_86 (lv_at hl 5 rfl) ?_
  refine lv_iconst (v := 4) hx hb d_RC_leftAt_88 (by decide) ?_
  obtain ⟨r1, er1, h⟩ := lt1_e h
  refine x_vI (r := r1) (ws' := wX g s) (As := [.int x4, .int 4]) (rest := []) C hX (by rw [er1]; exact cTabGet_20 l g s x4 4) (cw_RC_44 C.1.2.2.2.2 C.2.2.2 ⟨by decide, by decide⟩) (x_rc C hX wg_20 rfl) rfl hl.1 rfl (lv_room (Nat.le_of_ble_eq_true rfl)) d_RC_leftAt_89 ⟨Nat.le_refl _, Nat.le_refl _⟩ (fun H locs hX => ?_)
  refine lv_iload hx hb d_RC_leftAt_92 (lv_at hl 0 rfl) ?_
  obtain ⟨v2, ev2, h⟩ := lt1_e h
  refine x_isub hx hb d_RC_leftAt_94 ev2 ?_
  refine lv_istore (lv' := [(6, .int v2), (5, .int y0), (0, .ref (g.q 4)), (1, .int x1), (2, .int x2), (3, .int x3), (4, .int x4)]) hx hb d_RC_leftAt_95 hl (by decide) rfl (fun ls hl => ?_)
  refine lv_iconst (v := 2) hx hb d_RC_leftAt_97 (by decide) ?_
  refine lv_iload_n hx hb d_RC_leftAt_98 rfl (lv_at hl 4 rfl) ?_
  refine lv_iload hx hb d_RC_leftAt_99 (lv_at hl 0 rfl) ?_
  obtain ⟨v3, ev3, h⟩ := lt1_e h
  refine x_iadd hx hb d_RC_leftAt_101 ev3 ?_
  obtain ⟨v4, ev4, h⟩ := lt1_e h
  refine x_imul hx hb d_RC_leftAt_102 ev4 ?_
  refine lv_aload_n hx hb d_RC_leftAt_103 rfl (lv_at hl 2 rfl) ?_
  refine gf_4_contents C hX fl_RC_23 d_RC_leftAt_104 ?_
  refine lv_iload hx hb d_RC_leftAt_107 (lv_at hl 6 rfl) ?_
  obtain ⟨r5, hc109, h⟩ := bd1_e h
  refine x_vI (As := [.int x4]) (rest := [.int v4]) C hX (c_Cont_labelResults l g x4 s r5 hc109) (cw_RC_118 C.1.2.2.2.2 C.2.2.2 ⟨by decide, by decide⟩) (x_rc C hX wg_1 rfl) rfl hl.1 rfl (lv_room (Nat.le_of_ble_eq_true rfl)) d_RC_leftAt_109 ⟨Nat.le_refl _, Nat.le_refl _⟩ (fun H locs hX => ?_)
  obtain ⟨v6, ev6, h⟩ := lt1_e h
  refine x_iadd hx hb d_RC_leftAt_112 ev6 ?_
  obtain rfl := so1 h
  exact hQ _ H locs ls hX d_RC_leftAt_113
set_option maxHeartbeats 4000000 in
set_option maxRecDepth 100000 in
theorem w_RC_leftAt {s : St} {z : Int32} (C : Cx g A p m c b_RC_leftAt 7 ss args R_RC) (hQ : ∀ (pc : Nat) (H : Heap) (locs : List Loc) (ls : Array Slot), XW g A ss (wX g s) H locs → decode b_RC_leftAt pc = .ok (.ireturn, 1) → W p l e (rmX 2 45) ss m args below meth c H locs 0 0 Q (F0 m pc ls [.int z])) : ∀ (x1 : Int32) (H : Heap) (locs : List Loc) (ls : Array Slot), XW g A ss (wX g s) H locs → lv_has ls 7 [(0, .ref (g.q 4)), (1, .int x1)] → f_RC_leftAt s x1 = some z → W p l e (rmX 2 45) ss m args below meth c H locs 0 0 Q (F0 m 0 ls []) := by
  have ⟨⟨hx, hb, hml, hown, hts⟩, hK, hA, hN⟩ := C
  intro x1 H locs ls hX hl h
  rw [f_RC_leftAt] at h
  refine lv_aload_n hx hb d_RC_leftAt_0 rfl (lv_at hl 0 rfl) ?_
  refine gf_4_contents C hX fl_RC_23 d_RC_leftAt_1 ?_
  refine gf_1_functions C hX fl_RC_41 d_RC_leftAt_4 ?_
  refine lv_aload_n hx hb d_RC_leftAt_7 rfl (lv_at hl 0 rfl) ?_
  refine gf_4_function C hX fl_RC_68 d_RC_leftAt_8 ?_
  refine lv_iconst (v := 1) hx hb d_RC_leftAt_11 (by decide) ?_
  obtain ⟨r1, er1, h⟩ := lt1_e h
  refine x_vI (r := r1) (ws' := wX g s) (As := [.int (s 4 2), .int 1]) (rest := []) C hX (by rw [er1]; exact cTabGet_12 l g s (s 4 2) 1) (cw_RC_44 C.1.2.2.2.2 C.2.2.2 ⟨by decide, by decide⟩) (x_rc C hX wg_12 rfl) rfl hl.1 rfl (lv_room (Nat.le_of_ble_eq_true rfl)) d_RC_leftAt_12 ⟨Nat.le_refl _, Nat.le_refl _⟩ (fun H locs hX => ?_)
  refine lv_istore_n (lv' := [(2, .int r1), (0, .ref (g.q 4)), (1, .int x1)]) hx hb d_RC_leftAt_15 rfl hl (by decide) rfl (fun ls hl => ?_)
  refine lv_aload_n hx hb d_RC_leftAt_16 rfl (lv_at hl 1 rfl) ?_
  refine gf_4_openCount C hX fl_RC_71 d_RC_leftAt_17 ?_
  refine lv_iconst (v := 1) hx hb d_RC_leftAt_20 (by decide) ?_
  obtain ⟨v2, ev2, h⟩ := lt1_e h
  refine x_isub hx hb d_RC_leftAt_21 ev2 ?_
  refine lv_iload_n hx hb d_RC_leftAt_22 rfl (lv_at hl 2 rfl) ?_
  obtain ⟨v3, ev3, h⟩ := lt1_e h
  refine x_isub hx hb d_RC_leftAt_23 ev3 ?_
  refine lv_istore_n (lv' := [(3, .int v3), (2, .int r1), (0, .ref (g.q 4)), (1, .int x1)]) hx hb d_RC_leftAt_24 rfl hl (by decide) rfl (fun ls hl => ?_)
  refine lv_iload_n hx hb d_RC_leftAt_25 rfl (lv_at hl 0 rfl) ?_
  refine lv_if_ge (tgt := 45) hx hb d_RC_leftAt_26 (by decide) (fun c26 => ?_) (fun c26 => ?_)
  · have h := ite_t c26 h
    refine lv_aload_n hx hb d_RC_leftAt_45 rfl (lv_at hl 2 rfl) ?_
    refine gf_4_open C hX fl_RC_20 d_RC_leftAt_46 ?_
    refine lv_iload_n hx hb d_RC_leftAt_49 rfl (lv_at hl 0 rfl) ?_
    obtain ⟨r4, er4, h⟩ := lt1_e h
    refine x_vI (r := r4) (ws' := wX g s) (As := [.int v3]) (rest := []) C hX (by rw [er4]; exact cRowGet_31 l g s v3) (cw_RC_31 C.1.2.2.2.2 C.2.2.2 ⟨by decide, by decide⟩) (x_rc C hX wg_31 rfl) rfl hl.1 rfl (lv_room (Nat.le_of_ble_eq_true rfl)) d_RC_leftAt_50 ⟨Nat.le_refl _, Nat.le_refl _⟩ (fun H locs hX => ?_)
    refine lv_istore (lv' := [(4, .int r4), (3, .int v3), (2, .int r1), (0, .ref (g.q 4)), (1, .int x1)]) hx hb d_RC_leftAt_53 hl (by decide) rfl (fun ls hl => ?_)
    refine lv_aload_n hx hb d_RC_leftAt_55 rfl (lv_at hl 3 rfl) ?_
    refine gf_4_contents C hX fl_RC_23 d_RC_leftAt_56 ?_
    refine gf_1_code C hX fl_RC_35 d_RC_leftAt_59 ?_
    refine lv_iload hx hb d_RC_leftAt_62 (lv_at hl 0 rfl) ?_
    refine lv_iconst (v := 0) hx hb d_RC_leftAt_64 (by decide) ?_
    obtain ⟨r5, er5, h⟩ := lt1_e h
    refine x_vI (r := r5) (ws' := wX g s) (As := [.int r4, .int 0]) (rest := []) C hX (by rw [er5]; exact cTabGet_20 l g s r4 0) (cw_RC_44 C.1.2.2.2.2 C.2.2.2 ⟨by decide, by decide⟩) (x_rc C hX wg_20 rfl) rfl hl.1 rfl (lv_room (Nat.le_of_ble_eq_true rfl)) d_RC_leftAt_65 ⟨Nat.le_refl _, Nat.le_refl _⟩ (fun H locs hX => ?_)
    refine lv_iconst (v := 4) hx hb d_RC_leftAt_68 (by decide) ?_
    refine lv_icmp_ne (tgt := 76) hx hb d_RC_leftAt_69 (by decide) (fun c69 => ?_) (fun c69 => ?_)
    · have h := ite_f c69 h
      refine lv_iconst (v := 0) hx hb d_RC_leftAt_76 (by decide) ?_
      exact w_RC_leftAt_77 C hQ x1 r1 v3 r4 0 H locs ls hX (lv_sub hl [3, 4, 2, 1, 0] rfl) h
    · have h := ite_t c69 h
      refine lv_iconst (v := 1) hx hb d_RC_leftAt_72 (by decide) ?_
      refine lv_goto (tgt := 77) hx hb d_RC_leftAt_73 (by decide) ?_
      exact w_RC_leftAt_77 C hQ x1 r1 v3 r4 1 H locs ls hX (lv_sub hl [3, 4, 2, 1, 0] rfl) h
  · have h := ite_f c26 h
    refine lv_iconst (v := 2) hx hb d_RC_leftAt_29 (by decide) ?_
    refine lv_iload_n hx hb d_RC_leftAt_30 rfl (lv_at hl 1 rfl) ?_
    obtain ⟨v6, ev6, h⟩ := lt1_e h
    refine x_imul hx hb d_RC_leftAt_31 ev6 ?_
    refine lv_aload_n hx hb d_RC_leftAt_32 rfl (lv_at hl 2 rfl) ?_
    refine gf_4_contents C hX fl_RC_23 d_RC_leftAt_33 ?_
    refine lv_aload_n hx hb d_RC_leftAt_36 rfl (lv_at hl 2 rfl) ?_
    refine gf_4_function C hX fl_RC_68 d_RC_leftAt_37 ?_
    obtain ⟨r7, hc40, h⟩ := bd1_e h
    refine x_vI (As := [.int (s 4 2)]) (rest := [.int v6]) C hX (c_Cont_resultsOf l g (s 4 2) s r7 hc40) (cw_RC_84 C.1.2.2.2.2 C.2.2.2 ⟨by decide, by decide⟩) (x_rc C hX wg_1 rfl) rfl hl.1 rfl (lv_room (Nat.le_of_ble_eq_true rfl)) d_RC_leftAt_40 ⟨Nat.le_refl _, Nat.le_refl _⟩ (fun H locs hX => ?_)
    obtain ⟨v8, ev8, h⟩ := lt1_e h
    refine x_iadd hx hb d_RC_leftAt_43 ev8 ?_
    obtain rfl := so1 h
    exact hQ _ H locs ls hX d_RC_leftAt_44
end WALK
theorem c_RC_leftAt (l : Launch) (g : GX) (x1 : Int32) (s : St) (z : Int32) (h : f_RC_leftAt s x1 = some z) : MI l g y_RC_leftAt b_RC_leftAt 7 (some .int) 2 45 [.ref (g.q 4), .int x1] (wX g s) z (wX g s) :=
  MI.mk (own := R_RC) (by decide) rfl (Nat.le_of_ble_eq_true rfl) fun p e ss m below meth c A Q C hQ ls hX hl => w_RC_leftAt C hQ x1 _ _ ls hX hl h
