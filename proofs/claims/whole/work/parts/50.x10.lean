-- RE_step
def f_RE_step (s : St) : Option St :=
    bd1 (f_RC_word s (s 7 2) 0) fun r1 =>
    bd1 (f_RC_word s (s 7 2) 1) fun r2 =>
    lt1 (s 7 1 + r2) fun v3 =>
    bd1 (f_Op_isControl r1) fun r4 =>
    if r4 = 0 then
      bd1 (f_RC_word s (s 7 2) 2) fun r5 =>
      bd (f_Store_work r1 r5 (s 7 1) v3 s) fun r7 s6 =>
      if r7 = 0 then
        lt1 (s6 7 2 + 1) fun v8 =>
        lt1 (stp s6 7 2 v8) fun s9 =>
        some s9
      else
        lt1 (stp s6 7 3 r7) fun s10 =>
        some s10
    else
      bd1 (f_RE_control r1 v3 s) fun s11 =>
      some s11
section WALK
variable {p : Program} {l : Launch} {e : Env} {ss : State} {m : MethodId} {args : Array Value} {below : List Frame} {meth : Method} {c : Code} {Q : State → Prop} {g : GX} {A : Nat → Prop}
set_option maxHeartbeats 4000000 in
set_option maxRecDepth 100000 in
theorem w_RE_step {z : St} (C : Cx g A p m c b_RE_step 4 ss args R_RE) (hQ : ∀ (pc : Nat) (H : Heap) (locs : List Loc) (ls : Array Slot), XW g A ss (wX g z) H locs → decode b_RE_step pc = .ok (.return_, 1) → W p l e (rmX 5 113) ss m args below meth c H locs 0 0 Q (F0 m pc ls [])) : ∀ (s : St) (H : Heap) (locs : List Loc) (ls : Array Slot), XW g A ss (wX g s) H locs → lv_has ls 4 [(0, .ref (g.q 7))] → f_RE_step s = some z → W p l e (rmX 5 113) ss m args below meth c H locs 0 0 Q (F0 m 0 ls []) := by
  have ⟨⟨hx, hb, hml, hown, hts⟩, hK, hA, hN⟩ := C
  intro s H locs ls hX hl h
  rw [f_RE_step] at h
  refine lv_aload_n hx hb d_RE_step_0 rfl (lv_at hl 0 rfl) ?_
  refine gf_7_code C hX fl_RE_9 d_RE_step_1 ?_
  refine lv_aload_n hx hb d_RE_step_4 rfl (lv_at hl 0 rfl) ?_
  refine gf_7_next_s C hX fl_RE_21 d_RE_step_5 ?_
  refine lv_iconst (v := 0) hx hb d_RE_step_8 (by decide) ?_
  obtain ⟨r1, hc9, h⟩ := bd1_e h
  refine x_vI (As := [.int (s 7 2), .int 0]) (rest := []) C hX (c_RC_word l g (s 7 2) 0 s r1 hc9) (cw_RE_25 C.1.2.2.2.2 C.2.2.2 ⟨by decide, by decide⟩) (x_rc C hX wg_4 rfl) rfl hl.1 rfl (lv_room (Nat.le_of_ble_eq_true rfl)) d_RE_step_9 ⟨Nat.le_refl _, Nat.le_refl _⟩ (fun H locs hX => ?_)
  refine lv_istore_n (lv' := [(1, .int r1), (0, .ref (g.q 7))]) hx hb d_RE_step_12 rfl hl (by decide) rfl (fun ls hl => ?_)
  refine lv_aload_n hx hb d_RE_step_13 rfl (lv_at hl 1 rfl) ?_
  refine gf_7_base_s C hX fl_RE_35 d_RE_step_14 ?_
  refine lv_aload_n hx hb d_RE_step_17 rfl (lv_at hl 1 rfl) ?_
  refine gf_7_code C hX fl_RE_9 d_RE_step_18 ?_
  refine lv_aload_n hx hb d_RE_step_21 rfl (lv_at hl 1 rfl) ?_
  refine gf_7_next_s C hX fl_RE_21 d_RE_step_22 ?_
  refine lv_iconst (v := 1) hx hb d_RE_step_25 (by decide) ?_
  obtain ⟨r2, hc26, h⟩ := bd1_e h
  refine x_vI (As := [.int (s 7 2), .int 1]) (rest := [.int (s 7 1)]) C hX (c_RC_word l g (s 7 2) 1 s r2 hc26) (cw_RE_25 C.1.2.2.2.2 C.2.2.2 ⟨by decide, by decide⟩) (x_rc C hX wg_4 rfl) rfl hl.1 rfl (lv_room (Nat.le_of_ble_eq_true rfl)) d_RE_step_26 ⟨Nat.le_refl _, Nat.le_refl _⟩ (fun H locs hX => ?_)
  obtain ⟨v3, ev3, h⟩ := lt1_e h
  refine x_iadd hx hb d_RE_step_29 ev3 ?_
  refine lv_istore_n (lv' := [(2, .int v3), (1, .int r1), (0, .ref (g.q 7))]) hx hb d_RE_step_30 rfl hl (by decide) rfl (fun ls hl => ?_)
  refine lv_iload_n hx hb d_RE_step_31 rfl (lv_at hl 1 rfl) ?_
  obtain ⟨r4, hc32, h⟩ := bd1_e h
  refine x_sI (As := [.int r1]) (rest := []) C hX (c_Op_isControl l g r1 r4 hc32 _) (cw_RE_38 C.1.2.2.2.2 C.2.2.2 ⟨by decide, by decide⟩) rfl hl.1 rfl (lv_room (Nat.le_of_ble_eq_true rfl)) d_RE_step_32 ⟨Nat.le_refl _, Nat.le_refl _⟩ (fun H locs hX => ?_)
  refine lv_if_eq (tgt := 45) hx hb d_RE_step_35 (by decide) (fun c35 => ?_) (fun c35 => ?_)
  · have h := ite_t c35 h
    refine lv_aload_n hx hb d_RE_step_45 rfl (lv_at hl 2 rfl) ?_
    refine gf_7_store_s C hX fl_RE_46 d_RE_step_46 ?_
    refine lv_iload_n hx hb d_RE_step_49 rfl (lv_at hl 1 rfl) ?_
    refine lv_aload_n hx hb d_RE_step_50 rfl (lv_at hl 2 rfl) ?_
    refine gf_7_code C hX fl_RE_9 d_RE_step_51 ?_
    refine lv_aload_n hx hb d_RE_step_54 rfl (lv_at hl 2 rfl) ?_
    refine gf_7_next_s C hX fl_RE_21 d_RE_step_55 ?_
    refine lv_iconst (v := 2) hx hb d_RE_step_58 (by decide) ?_
    obtain ⟨r5, hc59, h⟩ := bd1_e h
    refine x_vI (As := [.int (s 7 2), .int 2]) (rest := [.int r1, .ref (g.q 5)]) C hX (c_RC_word l g (s 7 2) 2 s r5 hc59) (cw_RE_25 C.1.2.2.2.2 C.2.2.2 ⟨by decide, by decide⟩) (x_rc C hX wg_4 rfl) rfl hl.1 rfl (lv_room (Nat.le_of_ble_eq_true rfl)) d_RE_step_59 ⟨Nat.le_refl _, Nat.le_refl _⟩ (fun H locs hX => ?_)
    refine lv_aload_n hx hb d_RE_step_62 rfl (lv_at hl 2 rfl) ?_
    refine gf_7_base_s C hX fl_RE_35 d_RE_step_63 ?_
    refine lv_iload_n hx hb d_RE_step_66 rfl (lv_at hl 0 rfl) ?_
    obtain ⟨r7, s6, hc67, h⟩ := bd_e h
    refine x_vI (As := [.int r1, .int r5, .int (s 7 1), .int v3]) (rest := []) C hX (c_Store_work l g r1 r5 (s 7 1) v3 s (r7, s6) hc67) (cw_RE_50 C.1.2.2.2.2 C.2.2.2 ⟨by decide, by decide⟩) (x_rc C hX wg_5 rfl) rfl hl.1 rfl (lv_room (Nat.le_of_ble_eq_true rfl)) d_RE_step_67 ⟨Nat.le_refl _, Nat.le_refl _⟩ (fun H locs hX => ?_)
    refine lv_istore_n (lv' := [(3, .int r7), (2, .int v3), (1, .int r1), (0, .ref (g.q 7))]) hx hb d_RE_step_70 rfl hl (by decide) rfl (fun ls hl => ?_)
    refine lv_iload_n hx hb d_RE_step_71 rfl (lv_at hl 0 rfl) ?_
    refine lv_if_eq (tgt := 81) hx hb d_RE_step_72 (by decide) (fun c72 => ?_) (fun c72 => ?_)
    · have h := ite_t c72 h
      refine lv_aload_n hx hb d_RE_step_81 rfl (lv_at hl 3 rfl) ?_
      refine lv_dup hx hb d_RE_step_82 rfl ?_
      refine gf_7_next_s C hX fl_RE_21 d_RE_step_83 ?_
      refine lv_iconst (v := 1) hx hb d_RE_step_86 (by decide) ?_
      obtain ⟨v8, ev8, h⟩ := lt1_e h
      refine x_iadd hx hb d_RE_step_87 ev8 ?_
      obtain ⟨s9, es9, h⟩ := lt1_e h
      refine pf_7_next_s C hX fl_RE_21 d_RE_step_88 (fun H locs hX => ?_)
      rw [← es9] at hX
      obtain rfl := so1 h
      exact hQ _ H locs ls hX d_RE_step_91
    · have h := ite_f c72 h
      refine lv_aload_n hx hb d_RE_step_75 rfl (lv_at hl 3 rfl) ?_
      refine lv_iload_n hx hb d_RE_step_76 rfl (lv_at hl 0 rfl) ?_
      obtain ⟨s10, es10, h⟩ := lt1_e h
      refine pf_7_outcome_s C hX fl_RE_56 d_RE_step_77 (fun H locs hX => ?_)
      rw [← es10] at hX
      obtain rfl := so1 h
      exact hQ _ H locs ls hX d_RE_step_80
  · have h := ite_f c35 h
    refine lv_aload_n hx hb d_RE_step_38 rfl (lv_at hl 2 rfl) ?_
    refine lv_iload_n hx hb d_RE_step_39 rfl (lv_at hl 1 rfl) ?_
    refine lv_iload_n hx hb d_RE_step_40 rfl (lv_at hl 0 rfl) ?_
    obtain ⟨s11, hc41, h⟩ := bd1_e h
    refine x_vV (As := [.int r1, .int v3]) (rest := []) C hX (c_RE_control l g r1 v3 s s11 hc41) (cw_RE_42_R C.1.2.2.2.2 C.2.2.2 ⟨by decide, by decide⟩) (x_rc C hX wg_7 rfl) rfl hl.1 rfl (lv_room (Nat.le_of_ble_eq_true rfl)) d_RE_step_41 ⟨Nat.le_refl _, Nat.le_refl _⟩ (fun H locs hX => ?_)
    obtain rfl := so1 h
    exact hQ _ H locs ls hX d_RE_step_44
end WALK
theorem c_RE_step (l : Launch) (g : GX) (s : St) (z : St) (h : f_RE_step s = some z) : MV l g y_RE_step b_RE_step 4 none 5 113 [.ref (g.q 7)] (wX g s) (wX g z) :=
  MV.mk (own := R_RE) (by decide) rfl (Nat.le_of_ble_eq_true rfl) fun p e ss m below meth c A Q C hQ ls hX hl => w_RE_step C hQ s _ _ ls hX hl h
-- Eng_passAll_S
def f_Eng_passAll_S_41 (x1 : Int32) (x2 : Int32) (s : St) : Option St :=
    some s
def f_Eng_passAll_S_34 (k4 : Int32 → Int32 → St → Option St) (x1 : Int32) (x2 : Int32) (y0 : Int32) (s : St) : Option St :=
    lt1 (x2 + (1)) fun v1 =>
    k4 y0 v1 s
def f_Eng_passAll_S_33 (k4 : Int32 → Int32 → St → Option St) (x1 : Int32) (x2 : Int32) (s : St) : Option St :=
    f_Eng_passAll_S_34 k4 x1 x2 0 s
def f_Eng_passAll_S_4 : Nat → Int32 → Int32 → St → Option St
  | 0, _, _, _ => none
  | n + 1, x1, x2, s =>
    if 3840 ≤ x2 then
      f_Eng_passAll_S_41 x1 x2 s
    else
      if x1 = 0 then
        f_Eng_passAll_S_41 x1 x2 s
      else
        if s 6 3 = 0 then
          bd (f_SE_pass s) fun r2 s1 =>
          if r2 = 0 then
            f_Eng_passAll_S_33 (f_Eng_passAll_S_4 n) x1 x2 s1
          else
            f_Eng_passAll_S_34 (f_Eng_passAll_S_4 n) x1 x2 1 s1
        else
          f_Eng_passAll_S_33 (f_Eng_passAll_S_4 n) x1 x2 s
def f_Eng_passAll_S (s : St) : Option St :=
    f_Eng_passAll_S_4 FU 1 0 s
section WALK
variable {p : Program} {l : Launch} {e : Env} {ss : State} {m : MethodId} {args : Array Value} {below : List Frame} {meth : Method} {c : Code} {Q : State → Prop} {g : GX} {A : Nat → Prop}
set_option maxHeartbeats 4000000 in
set_option maxRecDepth 100000 in
theorem w_Eng_passAll_S_41 {z : St} (C : Cx g A p m c b_Eng_passAll 3 ss args R_Eng) (hQ : ∀ (pc : Nat) (H : Heap) (locs : List Loc) (ls : Array Slot), XW g A ss (wX g z) H locs → decode b_Eng_passAll pc = .ok (.return_, 1) → W p l e (rmX 4 86) ss m args below meth c H locs 0 0 Q (F0 m pc ls [])) : ∀ (x1 : Int32) (x2 : Int32) (s : St) (H : Heap) (locs : List Loc) (ls : Array Slot), XW g A ss (wX g s) H locs → lv_has ls 3 [(0, .ref (g.q 6)), (1, .int x1), (2, .int x2)] → f_Eng_passAll_S_41 x1 x2 s = some z → W p l e (rmX 4 86) ss m args below meth c H locs 0 0 Q (F0 m 41 ls []) := by
  have ⟨⟨hx, hb, hml, hown, hts⟩, hK, hA, hN⟩ := C
  intro x1 x2 s H locs ls hX hl h
  rw [f_Eng_passAll_S_41] at h
  obtain rfl := so1 h
  exact hQ _ H locs ls hX d_Eng_passAll_41
set_option maxHeartbeats 4000000 in
set_option maxRecDepth 100000 in
theorem w_Eng_passAll_S_34 {z : St} (C : Cx g A p m c b_Eng_passAll 3 ss args R_Eng) (hQ : ∀ (pc : Nat) (H : Heap) (locs : List Loc) (ls : Array Slot), XW g A ss (wX g z) H locs → decode b_Eng_passAll pc = .ok (.return_, 1) → W p l e (rmX 4 86) ss m args below meth c H locs 0 0 Q (F0 m pc ls [])) (k4 : Int32 → Int32 → St → Option St) (hk4 : ∀ (x1 : Int32) (x2 : Int32) (s : St) (H : Heap) (locs : List Loc) (ls : Array Slot), XW g A ss (wX g s) H locs → lv_has ls 3 [(0, .ref (g.q 6)), (1, .int x1), (2, .int x2)] → k4 x1 x2 s = some z → W p l e (rmX 4 86) ss m args below meth c H locs 0 0 Q (F0 m 4 ls [])) : ∀ (x1 : Int32) (x2 : Int32) (y0 : Int32) (s : St) (H : Heap) (locs : List Loc) (ls : Array Slot), XW g A ss (wX g s) H locs → lv_has ls 3 [(0, .ref (g.q 6)), (1, .int x1), (2, .int x2)] → f_Eng_passAll_S_34 k4 x1 x2 y0 s = some z → W p l e (rmX 4 86) ss m args below meth c H locs 0 0 Q (F0 m 34 ls [.int y0]) := by
  have ⟨⟨hx, hb, hml, hown, hts⟩, hK, hA, hN⟩ := C
  intro x1 x2 y0 s H locs ls hX hl h
  rw [f_Eng_passAll_S_34] at h
  refine lv_istore_n (lv' := [(1, .int y0), (0, .ref (g.q 6)), (2, .int x2)]) hx hb d_Eng_passAll_34 rfl hl (by decide) rfl (fun ls hl => ?_)
  obtain ⟨v1, ev1, h⟩ := lt1_e h
  refine lv_iinc (v := v1) (lv' := [(2, .int v1), (1, .int y0), (0, .ref (g.q 6))]) hx hb d_Eng_passAll_35 hl (k := 2) rfl (by rw [ev1]; rfl) (by decide) rfl (fun ls hl => ?_)
  refine lv_goto (tgt := 4) hx hb d_Eng_passAll_38 (by decide) ?_
  exact hk4 y0 v1 s H locs ls hX (lv_sub hl [2, 1, 0] rfl) h
set_option maxHeartbeats 4000000 in
set_option maxRecDepth 100000 in
theorem w_Eng_passAll_S_33 {z : St} (C : Cx g A p m c b_Eng_passAll 3 ss args R_Eng) (hQ : ∀ (pc : Nat) (H : Heap) (locs : List Loc) (ls : Array Slot), XW g A ss (wX g z) H locs → decode b_Eng_passAll pc = .ok (.return_, 1) → W p l e (rmX 4 86) ss m args below meth c H locs 0 0 Q (F0 m pc ls [])) (k4 : Int32 → Int32 → St → Option St) (hk4 : ∀ (x1 : Int32) (x2 : Int32) (s : St) (H : Heap) (locs : List Loc) (ls : Array Slot), XW g A ss (wX g s) H locs → lv_has ls 3 [(0, .ref (g.q 6)), (1, .int x1), (2, .int x2)] → k4 x1 x2 s = some z → W p l e (rmX 4 86) ss m args below meth c H locs 0 0 Q (F0 m 4 ls [])) : ∀ (x1 : Int32) (x2 : Int32) (s : St) (H : Heap) (locs : List Loc) (ls : Array Slot), XW g A ss (wX g s) H locs → lv_has ls 3 [(0, .ref (g.q 6)), (1, .int x1), (2, .int x2)] → f_Eng_passAll_S_33 k4 x1 x2 s = some z → W p l e (rmX 4 86) ss m args below meth c H locs 0 0 Q (F0 m 33 ls []) := by
  have ⟨⟨hx, hb, hml, hown, hts⟩, hK, hA, hN⟩ := C
  intro x1 x2 s H locs ls hX hl h
  rw [f_Eng_passAll_S_33] at h
  refine lv_iconst (v := 0) hx hb d_Eng_passAll_33 (by decide) ?_
  exact w_Eng_passAll_S_34 C hQ k4 hk4 x1 x2 0 s H locs ls hX hl h
set_option maxHeartbeats 4000000 in
set_option maxRecDepth 100000 in
theorem w_Eng_passAll_S_4 {z : St} (C : Cx g A p m c b_Eng_passAll 3 ss args R_Eng) (hQ : ∀ (pc : Nat) (H : Heap) (locs : List Loc) (ls : Array Slot), XW g A ss (wX g z) H locs → decode b_Eng_passAll pc = .ok (.return_, 1) → W p l e (rmX 4 86) ss m args below meth c H locs 0 0 Q (F0 m pc ls [])) (n : Nat) : ∀ (x1 : Int32) (x2 : Int32) (s : St) (H : Heap) (locs : List Loc) (ls : Array Slot), XW g A ss (wX g s) H locs → lv_has ls 3 [(0, .ref (g.q 6)), (1, .int x1), (2, .int x2)] → f_Eng_passAll_S_4 n x1 x2 s = some z → W p l e (rmX 4 86) ss m args below meth c H locs 0 0 Q (F0 m 4 ls []) := by
  have ⟨⟨hx, hb, hml, hown, hts⟩, hK, hA, hN⟩ := C
  induction n with
  | zero => intro x1 x2 s H locs ls hX hl h; cases h
  | succ n ih =>
    intro x1 x2 s H locs ls hX hl h
    rw [f_Eng_passAll_S_4] at h
    refine lv_iload_n hx hb d_Eng_passAll_4 rfl (lv_at hl 2 rfl) ?_
    refine lv_sipush (v := 3840) hx hb d_Eng_passAll_5 (by decide) ?_
    refine lv_icmp_ge (tgt := 41) hx hb d_Eng_passAll_8 (by decide) (fun c8 => ?_) (fun c8 => ?_)
    · have h := ite_t c8 h
      exact w_Eng_passAll_S_41 C hQ x1 x2 s H locs ls hX hl h
    · have h := ite_f c8 h
      refine lv_iload_n hx hb d_Eng_passAll_11 rfl (lv_at hl 1 rfl) ?_
      refine lv_if_eq (tgt := 41) hx hb d_Eng_passAll_12 (by decide) (fun c12 => ?_) (fun c12 => ?_)
      · have h := ite_t c12 h
        exact w_Eng_passAll_S_41 C hQ x1 x2 s H locs ls hX hl h
      · have h := ite_f c12 h
        refine lv_aload_n hx hb d_Eng_passAll_15 rfl (lv_at hl 0 rfl) ?_
        refine gf_6_outcome C hX fl_Eng_27 d_Eng_passAll_16 ?_
        refine lv_if_ne (tgt := 33) hx hb d_Eng_passAll_19 (by decide) (fun c19 => ?_) (fun c19 => ?_)
        · have h := ite_f c19 h
          exact w_Eng_passAll_S_33 C hQ (f_Eng_passAll_S_4 n) ih x1 x2 s H locs ls hX hl h
        · have h := ite_t c19 h
          refine lv_aload_n hx hb d_Eng_passAll_22 rfl (lv_at hl 0 rfl) ?_
          obtain ⟨r2, s1, hc23, h⟩ := bd_e h
          refine x_uI (As := []) (rest := []) C hX (c_SE_pass l g s (r2, s1) hc23) (cw_Eng_57_S C.1.2.2.2.2 C.2.2.2 ⟨by decide, by decide⟩) (x_rc C hX wg_6 rfl) rfl hl.1 rfl (lv_room (Nat.le_of_ble_eq_true rfl)) d_Eng_passAll_23 ⟨Nat.le_refl _, Nat.le_refl _⟩ (fun H locs hX => ?_)
          refine lv_if_eq (tgt := 33) hx hb d_Eng_passAll_26 (by decide) (fun c26 => ?_) (fun c26 => ?_)
          · have h := ite_t c26 h
            exact w_Eng_passAll_S_33 C hQ (f_Eng_passAll_S_4 n) ih x1 x2 s1 H locs ls hX hl h
          · have h := ite_f c26 h
            refine lv_iconst (v := 1) hx hb d_Eng_passAll_29 (by decide) ?_
            refine lv_goto (tgt := 34) hx hb d_Eng_passAll_30 (by decide) ?_
            exact w_Eng_passAll_S_34 C hQ (f_Eng_passAll_S_4 n) ih x1 x2 1 s1 H locs ls hX hl h
set_option maxHeartbeats 4000000 in
set_option maxRecDepth 100000 in
theorem w_Eng_passAll_S {z : St} (C : Cx g A p m c b_Eng_passAll 3 ss args R_Eng) (hQ : ∀ (pc : Nat) (H : Heap) (locs : List Loc) (ls : Array Slot), XW g A ss (wX g z) H locs → decode b_Eng_passAll pc = .ok (.return_, 1) → W p l e (rmX 4 86) ss m args below meth c H locs 0 0 Q (F0 m pc ls [])) : ∀ (s : St) (H : Heap) (locs : List Loc) (ls : Array Slot), XW g A ss (wX g s) H locs → lv_has ls 3 [(0, .ref (g.q 6))] → f_Eng_passAll_S s = some z → W p l e (rmX 4 86) ss m args below meth c H locs 0 0 Q (F0 m 0 ls []) := by
  have ⟨⟨hx, hb, hml, hown, hts⟩, hK, hA, hN⟩ := C
  intro s H locs ls hX hl h
  rw [f_Eng_passAll_S] at h
  refine lv_iconst (v := 1) hx hb d_Eng_passAll_0 (by decide) ?_
  refine lv_istore_n (lv' := [(1, .int 1), (0, .ref (g.q 6))]) hx hb d_Eng_passAll_1 rfl hl (by decide) rfl (fun ls hl => ?_)
  refine lv_iconst (v := 0) hx hb d_Eng_passAll_2 (by decide) ?_
  refine lv_istore_n (lv' := [(2, .int 0), (1, .int 1), (0, .ref (g.q 6))]) hx hb d_Eng_passAll_3 rfl hl (by decide) rfl (fun ls hl => ?_)
  exact w_Eng_passAll_S_4 C hQ FU 1 0 s H locs ls hX (lv_sub hl [2, 1, 0] rfl) h
end WALK
theorem c_Eng_passAll_S (l : Launch) (g : GX) (s : St) (z : St) (h : f_Eng_passAll_S s = some z) : MV l g y_Eng_passAll b_Eng_passAll 3 none 4 86 [.ref (g.q 6)] (wX g s) (wX g z) :=
  MV.mk (own := R_Eng) (by decide) rfl (Nat.le_of_ble_eq_true rfl) fun p e ss m below meth c A Q C hQ ls hX hl => w_Eng_passAll_S C hQ s _ _ ls hX hl h
-- Eng_go_S
def f_Eng_go_S_36 (x1 : Int32) (x2 : Int32) (s : St) : Option (Int32 × St) :=
    some (s 6 3, s)
def f_Eng_go_S_11 : Nat → Int32 → Int32 → St → Option (Int32 × St)
  | 0, _, _, _ => none
  | n + 1, x1, x2, s =>
    if x2 ≤ 0 then
      f_Eng_go_S_36 x1 x2 s
    else
      if s 6 3 = 0 then
        bd1 (f_SE_step s) fun s1 =>
        bd1 (f_Eng_passAll_S s1) fun s2 =>
        lt1 (x2 + (-1)) fun v3 =>
        f_Eng_go_S_11 n x1 v3 s2
      else
        f_Eng_go_S_36 x1 x2 s
def f_Eng_go_S (x1 : Int32) (s : St) : Option (Int32 × St) :=
    bd1 (f_Eng_passAll_S s) fun s1 =>
    lt1 (if 100000 < x1 then 100000 else x1) fun r2 =>
    f_Eng_go_S_11 FU x1 r2 s1
section WALK
variable {p : Program} {l : Launch} {e : Env} {ss : State} {m : MethodId} {args : Array Value} {below : List Frame} {meth : Method} {c : Code} {Q : State → Prop} {g : GX} {A : Nat → Prop}
set_option maxHeartbeats 4000000 in
set_option maxRecDepth 100000 in
theorem w_Eng_go_S_36 {z : Int32 × St} (C : Cx g A p m c b_Eng_go 3 ss args R_Eng) (hQ : ∀ (pc : Nat) (H : Heap) (locs : List Loc) (ls : Array Slot), XW g A ss (wX g z.2) H locs → decode b_Eng_go pc = .ok (.ireturn, 1) → W p l e (rmX 6 137) ss m args below meth c H locs 0 0 Q (F0 m pc ls [.int z.1])) : ∀ (x1 : Int32) (x2 : Int32) (s : St) (H : Heap) (locs : List Loc) (ls : Array Slot), XW g A ss (wX g s) H locs → lv_has ls 3 [(0, .ref (g.q 6)), (1, .int x1), (2, .int x2)] → f_Eng_go_S_36 x1 x2 s = some z → W p l e (rmX 6 137) ss m args below meth c H locs 0 0 Q (F0 m 36 ls []) := by
  have ⟨⟨hx, hb, hml, hown, hts⟩, hK, hA, hN⟩ := C
  intro x1 x2 s H locs ls hX hl h
  rw [f_Eng_go_S_36] at h
  refine lv_aload_n hx hb d_Eng_go_36 rfl (lv_at hl 0 rfl) ?_
  refine gf_6_outcome C hX fl_Eng_27 d_Eng_go_37 ?_
  obtain rfl := so1 h
  exact hQ _ H locs ls hX d_Eng_go_40
set_option maxHeartbeats 4000000 in
set_option maxRecDepth 100000 in
theorem w_Eng_go_S_11 {z : Int32 × St} (C : Cx g A p m c b_Eng_go 3 ss args R_Eng) (hQ : ∀ (pc : Nat) (H : Heap) (locs : List Loc) (ls : Array Slot), XW g A ss (wX g z.2) H locs → decode b_Eng_go pc = .ok (.ireturn, 1) → W p l e (rmX 6 137) ss m args below meth c H locs 0 0 Q (F0 m pc ls [.int z.1])) (n : Nat) : ∀ (x1 : Int32) (x2 : Int32) (s : St) (H : Heap) (locs : List Loc) (ls : Array Slot), XW g A ss (wX g s) H locs → lv_has ls 3 [(0, .ref (g.q 6)), (1, .int x1), (2, .int x2)] → f_Eng_go_S_11 n x1 x2 s = some z → W p l e (rmX 6 137) ss m args below meth c H locs 0 0 Q (F0 m 11 ls []) := by
  have ⟨⟨hx, hb, hml, hown, hts⟩, hK, hA, hN⟩ := C
  induction n with
  | zero => intro x1 x2 s H locs ls hX hl h; cases h
  | succ n ih =>
    intro x1 x2 s H locs ls hX hl h
    rw [f_Eng_go_S_11] at h
    refine lv_iload_n hx hb d_Eng_go_11 rfl (lv_at hl 2 rfl) ?_
    refine lv_if_le (tgt := 36) hx hb d_Eng_go_12 (by decide) (fun c12 => ?_) (fun c12 => ?_)
    · have h := ite_t c12 h
      exact w_Eng_go_S_36 C hQ x1 x2 s H locs ls hX hl h
    · have h := ite_f c12 h
      refine lv_aload_n hx hb d_Eng_go_15 rfl (lv_at hl 0 rfl) ?_
      refine gf_6_outcome C hX fl_Eng_27 d_Eng_go_16 ?_
      refine lv_if_ne (tgt := 36) hx hb d_Eng_go_19 (by decide) (fun c19 => ?_) (fun c19 => ?_)
      · have h := ite_f c19 h
        exact w_Eng_go_S_36 C hQ x1 x2 s H locs ls hX hl h
      · have h := ite_t c19 h
        refine lv_aload_n hx hb d_Eng_go_22 rfl (lv_at hl 0 rfl) ?_
        obtain ⟨s1, hc23, h⟩ := bd1_e h
        refine x_uV (As := []) (rest := []) C hX (c_SE_step l g s s1 hc23) (cw_Eng_54_S C.1.2.2.2.2 C.2.2.2 ⟨by decide, by decide⟩) (x_rc C hX wg_6 rfl) rfl hl.1 rfl (lv_room (Nat.le_of_ble_eq_true rfl)) d_Eng_go_23 ⟨Nat.le_refl _, Nat.le_refl _⟩ (fun H locs hX => ?_)
        refine lv_aload_n hx hb d_Eng_go_26 rfl (lv_at hl 0 rfl) ?_
        obtain ⟨s2, hc27, h⟩ := bd1_e h
        refine x_vV (As := []) (rest := []) C hX (c_Eng_passAll_S l g s1 s2 hc27) (cw_Eng_44_S C.1.2.2.2.2 C.2.2.2 ⟨by decide, by decide⟩) (x_rc C hX wg_6 rfl) rfl hl.1 rfl (lv_room (Nat.le_of_ble_eq_true rfl)) d_Eng_go_27 ⟨Nat.le_refl _, Nat.le_refl _⟩ (fun H locs hX => ?_)
        obtain ⟨v3, ev3, h⟩ := lt1_e h
        refine lv_iinc (v := v3) (lv' := [(2, .int v3), (0, .ref (g.q 6)), (1, .int x1)]) hx hb d_Eng_go_30 hl (k := 2) rfl (by rw [ev3]; rfl) (by decide) rfl (fun ls hl => ?_)
        refine lv_goto (tgt := 11) hx hb d_Eng_go_33 (by decide) ?_
        exact ih x1 v3 s2 H locs ls hX (lv_sub hl [1, 2, 0] rfl) h
set_option maxHeartbeats 4000000 in
set_option maxRecDepth 100000 in
theorem w_Eng_go_S {z : Int32 × St} (C : Cx g A p m c b_Eng_go 3 ss args R_Eng) (hQ : ∀ (pc : Nat) (H : Heap) (locs : List Loc) (ls : Array Slot), XW g A ss (wX g z.2) H locs → decode b_Eng_go pc = .ok (.ireturn, 1) → W p l e (rmX 6 137) ss m args below meth c H locs 0 0 Q (F0 m pc ls [.int z.1])) : ∀ (x1 : Int32) (s : St) (H : Heap) (locs : List Loc) (ls : Array Slot), XW g A ss (wX g s) H locs → lv_has ls 3 [(0, .ref (g.q 6)), (1, .int x1)] → f_Eng_go_S x1 s = some z → W p l e (rmX 6 137) ss m args below meth c H locs 0 0 Q (F0 m 0 ls []) := by
  have ⟨⟨hx, hb, hml, hown, hts⟩, hK, hA, hN⟩ := C
  intro x1 s H locs ls hX hl h
  rw [f_Eng_go_S] at h
  refine lv_aload_n hx hb d_Eng_go_0 rfl (lv_at hl 0 rfl) ?_
  obtain ⟨s1, hc1, h⟩ := bd1_e h
  refine x_vV (As := []) (rest := []) C hX (c_Eng_passAll_S l g s s1 hc1) (cw_Eng_44_S C.1.2.2.2.2 C.2.2.2 ⟨by decide, by decide⟩) (x_rc C hX wg_6 rfl) rfl hl.1 rfl (lv_room (Nat.le_of_ble_eq_true rfl)) d_Eng_go_1 ⟨Nat.le_refl _, Nat.le_refl _⟩ (fun H locs hX => ?_)
  refine lv_iload_n hx hb d_Eng_go_4 rfl (lv_at hl 1 rfl) ?_
  refine lv_ldc (v := 100000) hx hb hown (hts _ m_constant_Eng_47) d_Eng_go_5 ?_
  obtain ⟨r2, er2, h⟩ := lt1_e h
  refine x_mmin (rest := []) hx hb (hml.trans hl.1.symm) hown (hts _ ml_Eng_48) (hts _ ms_Math_min) (hts _ mi_Math) (hts _ mc_Math_min) (by decide) (Nat.le_of_ble_eq_true rfl) (Nat.le_refl _) (Nat.le_refl _) d_Eng_go_7 er2 ?_
  refine lv_istore_n (lv' := [(2, .int r2), (0, .ref (g.q 6)), (1, .int x1)]) hx hb d_Eng_go_10 rfl hl (by decide) rfl (fun ls hl => ?_)
  exact w_Eng_go_S_11 C hQ FU x1 r2 s1 H locs ls hX (lv_sub hl [1, 2, 0] rfl) h
end WALK
theorem c_Eng_go_S (l : Launch) (g : GX) (x1 : Int32) (s : St) (z : Int32 × St) (h : f_Eng_go_S x1 s = some z) : MI l g y_Eng_go b_Eng_go 3 (some .int) 6 137 [.ref (g.q 6), .int x1] (wX g s) z.1 (wX g z.2) :=
  MI.mk (own := R_Eng) (by decide) rfl (Nat.le_of_ble_eq_true rfl) fun p e ss m below meth c A Q C hQ ls hX hl => w_Eng_go_S C hQ x1 s _ _ ls hX hl h
-- Eng_open_S_8
def f_Eng_open_S_8_63 (k24 : Int32 → Int32 → Int32 → St → Option St) (x2 : Int32) (x3 : Int32) (x4 : Int32) (y1 : Int32) (y2 : Int32) (s : St) : Option St :=
    lt1 (rSet s 36 224 y1 y2) fun s1 =>
    lt1 (x4 + (1)) fun v2 =>
    k24 x2 x3 v2 s1
def f_Eng_open_S_8_24 : Nat → Int32 → Int32 → Int32 → St → Option St
  | 0, _, _, _, _ => none
  | n + 1, x2, x3, x4, s =>
    if 28 ≤ x4 then
      some s
    else
      lt1 (s 6 1 + x4) fun v1 =>
      if x3 ≤ x4 then
        f_Eng_open_S_8_63 (f_Eng_open_S_8_24 n) x2 x3 x4 v1 0 s
      else
        lt1 (x2 + x4) fun v2 =>
        lt1 (rGet 4 (s 9) v2) fun r3 =>
        f_Eng_open_S_8_63 (f_Eng_open_S_8_24 n) x2 x3 x4 v1 r3 s
def f_Eng_open_S_8 (x2 : Int32) (x3 : Int32) (s : St) : Option St :=
    lt1 (s 6 0 * 28) fun v1 =>
    lt1 (stp s 6 1 v1) fun s2 =>
    lt1 (s2 6 0 + 1) fun v3 =>
    lt1 (stp s2 6 0 v3) fun s4 =>
    f_Eng_open_S_8_24 FU x2 x3 0 s4
section WALK
variable {p : Program} {l : Launch} {e : Env} {ss : State} {m : MethodId} {args : Array Value} {below : List Frame} {meth : Method} {c : Code} {Q : State → Prop} {g : GX} {A : Nat → Prop}
set_option maxHeartbeats 4000000 in
set_option maxRecDepth 100000 in
theorem w_Eng_open_S_8_63 {z : St} (C : Cx g A p m c b_Eng_open 5 ss args R_Eng) (hQ : ∀ (pc : Nat) (H : Heap) (locs : List Loc) (ls : Array Slot), XW g A ss (wX g z) H locs → decode b_Eng_open pc = .ok (.return_, 1) → W p l e (rmX 1 22) ss m args below meth c H locs 0 0 Q (F0 m pc ls [])) (k24 : Int32 → Int32 → Int32 → St → Option St) (hk24 : ∀ (x2 : Int32) (x3 : Int32) (x4 : Int32) (s : St) (H : Heap) (locs : List Loc) (ls : Array Slot), XW g A ss (wX g s) H locs → lv_has ls 5 [(0, .ref (g.q 6)), (1, .ref (g.q 8)), (2, .int x2), (3, .int x3), (4, .int x4)] → k24 x2 x3 x4 s = some z → W p l e (rmX 1 22) ss m args below meth c H locs 0 0 Q (F0 m 24 ls [])) : ∀ (x2 : Int32) (x3 : Int32) (x4 : Int32) (y1 : Int32) (y2 : Int32) (s : St) (H : Heap) (locs : List Loc) (ls : Array Slot), XW g A ss (wX g s) H locs → lv_has ls 5 [(0, .ref (g.q 6)), (1, .ref (g.q 8)), (2, .int x2), (3, .int x3), (4, .int x4)] → f_Eng_open_S_8_63 k24 x2 x3 x4 y1 y2 s = some z → W p l e (rmX 1 22) ss m args below meth c H locs 0 0 Q (F0 m 63 ls [.int y2, .int y1, .ref (g.q 35)]) := by
  have ⟨⟨hx, hb, hml, hown, hts⟩, hK, hA, hN⟩ := C
  intro x2 x3 x4 y1 y2 s H locs ls hX hl h
  rw [f_Eng_open_S_8_63] at h
  obtain ⟨s1, es1, h⟩ := lt1_e h
  refine x_vV (ws' := wX g s1) (As := [.int y1, .int y2]) (rest := []) C hX (by rw [es1]; exact cRowSet_35 l g s y1 y2) (cw_Eng_73 C.1.2.2.2.2 C.2.2.2 ⟨by decide, by decide⟩) (x_rc C hX wg_35 rfl) rfl hl.1 rfl (lv_room (Nat.le_of_ble_eq_true rfl)) d_Eng_open_63 ⟨Nat.le_refl _, Nat.le_refl _⟩ (fun H locs hX => ?_)
  obtain ⟨v2, ev2, h⟩ := lt1_e h
  refine lv_iinc (v := v2) (lv' := [(4, .int v2), (0, .ref (g.q 6)), (1, .ref (g.q 8)), (2, .int x2), (3, .int x3)]) hx hb d_Eng_open_66 hl (k := 4) rfl (by rw [ev2]; rfl) (by decide) rfl (fun ls hl => ?_)
  refine lv_goto (tgt := 24) hx hb d_Eng_open_69 (by decide) ?_
  exact hk24 x2 x3 v2 s1 H locs ls hX (lv_sub hl [1, 2, 3, 4, 0] rfl) h
set_option maxHeartbeats 4000000 in
set_option maxRecDepth 100000 in
theorem w_Eng_open_S_8_24 {z : St} (C : Cx g A p m c b_Eng_open 5 ss args R_Eng) (hQ : ∀ (pc : Nat) (H : Heap) (locs : List Loc) (ls : Array Slot), XW g A ss (wX g z) H locs → decode b_Eng_open pc = .ok (.return_, 1) → W p l e (rmX 1 22) ss m args below meth c H locs 0 0 Q (F0 m pc ls [])) (n : Nat) : ∀ (x2 : Int32) (x3 : Int32) (x4 : Int32) (s : St) (H : Heap) (locs : List Loc) (ls : Array Slot), XW g A ss (wX g s) H locs → lv_has ls 5 [(0, .ref (g.q 6)), (1, .ref (g.q 8)), (2, .int x2), (3, .int x3), (4, .int x4)] → f_Eng_open_S_8_24 n x2 x3 x4 s = some z → W p l e (rmX 1 22) ss m args below meth c H locs 0 0 Q (F0 m 24 ls []) := by
  have ⟨⟨hx, hb, hml, hown, hts⟩, hK, hA, hN⟩ := C
  induction n with
  | zero => intro x2 x3 x4 s H locs ls hX hl h; cases h
  | succ n ih =>
    intro x2 x3 x4 s H locs ls hX hl h
    rw [f_Eng_open_S_8_24] at h
    refine lv_iload hx hb d_Eng_open_24 (lv_at hl 4 rfl) ?_
    refine lv_bipush (v := 28) hx hb d_Eng_open_26 (by decide) ?_
    refine lv_icmp_ge (tgt := 72) hx hb d_Eng_open_28 (by decide) (fun c28 => ?_) (fun c28 => ?_)
    · have h := ite_t c28 h
      obtain rfl := so1 h
      exact hQ _ H locs ls hX d_Eng_open_72
    · have h := ite_f c28 h
      refine lv_aload_n hx hb d_Eng_open_31 rfl (lv_at hl 0 rfl) ?_
      refine gf_6_store C hX fl_Eng_23 d_Eng_open_32 ?_
      refine gf_5_cells C hX fl_Eng_64 d_Eng_open_35 ?_
      refine lv_aload_n hx hb d_Eng_open_38 rfl (lv_at hl 0 rfl) ?_
      refine gf_6_base C hX fl_Eng_61 d_Eng_open_39 ?_
      refine lv_iload hx hb d_Eng_open_42 (lv_at hl 4 rfl) ?_
      obtain ⟨v1, ev1, h⟩ := lt1_e h
      refine x_iadd hx hb d_Eng_open_44 ev1 ?_
      refine lv_iload hx hb d_Eng_open_45 (lv_at hl 4 rfl) ?_
      refine lv_iload_n hx hb d_Eng_open_47 rfl (lv_at hl 3 rfl) ?_
      refine lv_icmp_ge (tgt := 62) hx hb d_Eng_open_48 (by decide) (fun c48 => ?_) (fun c48 => ?_)
      · have h := ite_t c48 h
        refine lv_iconst (v := 0) hx hb d_Eng_open_62 (by decide) ?_
        exact w_Eng_open_S_8_63 C hQ (f_Eng_open_S_8_24 n) ih x2 x3 x4 v1 0 s H locs ls hX hl h
      · have h := ite_f c48 h
        refine lv_aload_n hx hb d_Eng_open_51 rfl (lv_at hl 1 rfl) ?_
        refine lv_iload_n hx hb d_Eng_open_52 rfl (lv_at hl 2 rfl) ?_
        refine lv_iload hx hb d_Eng_open_53 (lv_at hl 4 rfl) ?_
        obtain ⟨v2, ev2, h⟩ := lt1_e h
        refine x_iadd hx hb d_Eng_open_55 ev2 ?_
        obtain ⟨r3, er3, h⟩ := lt1_e h
        refine x_vI (r := r3) (ws' := wX g s) (As := [.int v2]) (rest := [.int v1, .ref (g.q 35)]) C hX (by rw [er3]; exact cRowGet_8 l g s v2) (cw_Eng_69 C.1.2.2.2.2 C.2.2.2 ⟨by decide, by decide⟩) (x_rc C hX wg_8 rfl) rfl hl.1 rfl (lv_room (Nat.le_of_ble_eq_true rfl)) d_Eng_open_56 ⟨Nat.le_refl _, Nat.le_refl _⟩ (fun H locs hX => ?_)
        refine lv_goto (tgt := 63) hx hb d_Eng_open_59 (by decide) ?_
        exact w_Eng_open_S_8_63 C hQ (f_Eng_open_S_8_24 n) ih x2 x3 x4 v1 r3 s H locs ls hX hl h
set_option maxHeartbeats 4000000 in
set_option maxRecDepth 100000 in
theorem w_Eng_open_S_8 {z : St} (C : Cx g A p m c b_Eng_open 5 ss args R_Eng) (hQ : ∀ (pc : Nat) (H : Heap) (locs : List Loc) (ls : Array Slot), XW g A ss (wX g z) H locs → decode b_Eng_open pc = .ok (.return_, 1) → W p l e (rmX 1 22) ss m args below meth c H locs 0 0 Q (F0 m pc ls [])) : ∀ (x2 : Int32) (x3 : Int32) (s : St) (H : Heap) (locs : List Loc) (ls : Array Slot), XW g A ss (wX g s) H locs → lv_has ls 5 [(0, .ref (g.q 6)), (1, .ref (g.q 8)), (2, .int x2), (3, .int x3)] → f_Eng_open_S_8 x2 x3 s = some z → W p l e (rmX 1 22) ss m args below meth c H locs 0 0 Q (F0 m 0 ls []) := by
  have ⟨⟨hx, hb, hml, hown, hts⟩, hK, hA, hN⟩ := C
  intro x2 x3 s H locs ls hX hl h
  rw [f_Eng_open_S_8] at h
  refine lv_aload_n hx hb d_Eng_open_0 rfl (lv_at hl 0 rfl) ?_
  refine lv_aload_n hx hb d_Eng_open_1 rfl (lv_at hl 0 rfl) ?_
  refine gf_6_calls C hX fl_Eng_34 d_Eng_open_2 ?_
  refine lv_bipush (v := 28) hx hb d_Eng_open_5 (by decide) ?_
  obtain ⟨v1, ev1, h⟩ := lt1_e h
  refine x_imul hx hb d_Eng_open_7 ev1 ?_
  obtain ⟨s2, es2, h⟩ := lt1_e h
  refine pf_6_base C hX fl_Eng_61 d_Eng_open_8 (fun H locs hX => ?_)
  rw [← es2] at hX
  refine lv_aload_n hx hb d_Eng_open_11 rfl (lv_at hl 0 rfl) ?_
  refine lv_dup hx hb d_Eng_open_12 rfl ?_
  refine gf_6_calls C hX fl_Eng_34 d_Eng_open_13 ?_
  refine lv_iconst (v := 1) hx hb d_Eng_open_16 (by decide) ?_
  obtain ⟨v3, ev3, h⟩ := lt1_e h
  refine x_iadd hx hb d_Eng_open_17 ev3 ?_
  obtain ⟨s4, es4, h⟩ := lt1_e h
  refine pf_6_calls C hX fl_Eng_34 d_Eng_open_18 (fun H locs hX => ?_)
  rw [← es4] at hX
  refine lv_iconst (v := 0) hx hb d_Eng_open_21 (by decide) ?_
  refine lv_istore (lv' := [(4, .int 0), (0, .ref (g.q 6)), (1, .ref (g.q 8)), (2, .int x2), (3, .int x3)]) hx hb d_Eng_open_22 hl (by decide) rfl (fun ls hl => ?_)
  exact w_Eng_open_S_8_24 C hQ FU x2 x3 0 s4 H locs ls hX (lv_sub hl [1, 2, 3, 4, 0] rfl) h
end WALK
theorem c_Eng_open_S_8 (l : Launch) (g : GX) (x2 : Int32) (x3 : Int32) (s : St) (z : St) (h : f_Eng_open_S_8 x2 x3 s = some z) : MV l g y_Eng_open b_Eng_open 5 none 1 22 [.ref (g.q 6), .ref (g.q 8), .int x2, .int x3] (wX g s) (wX g z) :=
  MV.mk (own := R_Eng) (by decide) rfl (Nat.le_of_ble_eq_true rfl) fun p e ss m below meth c A Q C hQ ls hX hl => w_Eng_open_S_8 C hQ x2 x3 s _ _ ls hX hl h
-- Eng_begin_S
def f_Eng_begin_S (x1 : Int32) (x3 : Int32) (s : St) : Option St :=
    lt1 (stp s 6 3 0) fun s1 =>
    lt1 (stp s1 6 4 0) fun s2 =>
    lt1 (stp s2 6 0 0) fun s3 =>
    bd1 (f_Eng_open_S_8 0 x3 s3) fun s4 =>
    bd1 (f_SE_enter x1 s4) fun s5 =>
    some s5
section WALK
variable {p : Program} {l : Launch} {e : Env} {ss : State} {m : MethodId} {args : Array Value} {below : List Frame} {meth : Method} {c : Code} {Q : State → Prop} {g : GX} {A : Nat → Prop}
set_option maxHeartbeats 4000000 in
set_option maxRecDepth 100000 in
theorem w_Eng_begin_S {z : St} (C : Cx g A p m c b_Eng_begin 4 ss args R_Eng) (hQ : ∀ (pc : Nat) (H : Heap) (locs : List Loc) (ls : Array Slot), XW g A ss (wX g z) H locs → decode b_Eng_begin pc = .ok (.return_, 1) → W p l e (rmX 2 46) ss m args below meth c H locs 0 0 Q (F0 m pc ls [])) : ∀ (x1 : Int32) (x3 : Int32) (s : St) (H : Heap) (locs : List Loc) (ls : Array Slot), XW g A ss (wX g s) H locs → lv_has ls 4 [(0, .ref (g.q 6)), (1, .int x1), (2, .ref (g.q 8)), (3, .int x3)] → f_Eng_begin_S x1 x3 s = some z → W p l e (rmX 2 46) ss m args below meth c H locs 0 0 Q (F0 m 0 ls []) := by
  have ⟨⟨hx, hb, hml, hown, hts⟩, hK, hA, hN⟩ := C
  intro x1 x3 s H locs ls hX hl h
  rw [f_Eng_begin_S] at h
  refine lv_aload_n hx hb d_Eng_begin_0 rfl (lv_at hl 0 rfl) ?_
  refine lv_iconst (v := 0) hx hb d_Eng_begin_1 (by decide) ?_
  obtain ⟨s1, es1, h⟩ := lt1_e h
  refine pf_6_outcome C hX fl_Eng_27 d_Eng_begin_2 (fun H locs hX => ?_)
  rw [← es1] at hX
  refine lv_aload_n hx hb d_Eng_begin_5 rfl (lv_at hl 0 rfl) ?_
  refine lv_iconst (v := 0) hx hb d_Eng_begin_6 (by decide) ?_
  obtain ⟨s2, es2, h⟩ := lt1_e h
  refine pf_6_value C hX fl_Eng_31 d_Eng_begin_7 (fun H locs hX => ?_)
  rw [← es2] at hX
  refine lv_aload_n hx hb d_Eng_begin_10 rfl (lv_at hl 0 rfl) ?_
  refine lv_iconst (v := 0) hx hb d_Eng_begin_11 (by decide) ?_
  obtain ⟨s3, es3, h⟩ := lt1_e h
  refine pf_6_calls C hX fl_Eng_34 d_Eng_begin_12 (fun H locs hX => ?_)
  rw [← es3] at hX
  refine lv_aload_n hx hb d_Eng_begin_15 rfl (lv_at hl 0 rfl) ?_
  refine lv_aload_n hx hb d_Eng_begin_16 rfl (lv_at hl 2 rfl) ?_
  refine lv_iconst (v := 0) hx hb d_Eng_begin_17 (by decide) ?_
  refine lv_iload_n hx hb d_Eng_begin_18 rfl (lv_at hl 3 rfl) ?_
  obtain ⟨s4, hc19, h⟩ := bd1_e h
  refine x_vV (As := [.ref (g.q 8), .int 0, .int x3]) (rest := []) C hX (c_Eng_open_S_8 l g 0 x3 s3 s4 hc19) (cw_Eng_37_S C.1.2.2.2.2 C.2.2.2 ⟨by decide, by decide⟩) (x_rc C hX wg_6 rfl) rfl hl.1 rfl (lv_room (Nat.le_of_ble_eq_true rfl)) d_Eng_begin_19 ⟨Nat.le_refl _, Nat.le_refl _⟩ (fun H locs hX => ?_)
  refine lv_aload_n hx hb d_Eng_begin_22 rfl (lv_at hl 0 rfl) ?_
  refine lv_iload_n hx hb d_Eng_begin_23 rfl (lv_at hl 1 rfl) ?_
  obtain ⟨s5, hc24, h⟩ := bd1_e h
  refine x_uV (As := [.int x1]) (rest := []) C hX (c_SE_enter l g x1 s4 s5 hc24) (cw_Eng_41_S C.1.2.2.2.2 C.2.2.2 ⟨by decide, by decide⟩) (x_rc C hX wg_6 rfl) rfl hl.1 rfl (lv_room (Nat.le_of_ble_eq_true rfl)) d_Eng_begin_24 ⟨Nat.le_refl _, Nat.le_refl _⟩ (fun H locs hX => ?_)
  obtain rfl := so1 h
  exact hQ _ H locs ls hX d_Eng_begin_27
end WALK
theorem c_Eng_begin_S (l : Launch) (g : GX) (x1 : Int32) (x3 : Int32) (s : St) (z : St) (h : f_Eng_begin_S x1 x3 s = some z) : MV l g y_Eng_begin b_Eng_begin 4 none 2 46 [.ref (g.q 6), .int x1, .ref (g.q 8), .int x3] (wX g s) (wX g z) :=
  MV.mk (own := R_Eng) (by decide) rfl (Nat.le_of_ble_eq_true rfl) fun p e ss m below meth c A Q C hQ ls hX hl => w_Eng_begin_S C hQ x1 x3 s _ _ ls hX hl h
-- Eng_passAll_R
def f_Eng_passAll_R_41 (x1 : Int32) (x2 : Int32) (s : St) : Option St :=
    some s
def f_Eng_passAll_R_34 (k4 : Int32 → Int32 → St → Option St) (x1 : Int32) (x2 : Int32) (y0 : Int32) (s : St) : Option St :=
    lt1 (x2 + (1)) fun v1 =>
    k4 y0 v1 s
def f_Eng_passAll_R_33 (k4 : Int32 → Int32 → St → Option St) (x1 : Int32) (x2 : Int32) (s : St) : Option St :=
    f_Eng_passAll_R_34 k4 x1 x2 0 s
def f_Eng_passAll_R_4 : Nat → Int32 → Int32 → St → Option St
  | 0, _, _, _ => none
  | n + 1, x1, x2, s =>
    if 3840 ≤ x2 then
      f_Eng_passAll_R_41 x1 x2 s
    else
      if x1 = 0 then
        f_Eng_passAll_R_41 x1 x2 s
      else
        if s 7 3 = 0 then
          bd (f_RE_pass s) fun r2 s1 =>
          if r2 = 0 then
            f_Eng_passAll_R_33 (f_Eng_passAll_R_4 n) x1 x2 s1
          else
            f_Eng_passAll_R_34 (f_Eng_passAll_R_4 n) x1 x2 1 s1
        else
          f_Eng_passAll_R_33 (f_Eng_passAll_R_4 n) x1 x2 s
def f_Eng_passAll_R (s : St) : Option St :=
    f_Eng_passAll_R_4 FU 1 0 s
section WALK
variable {p : Program} {l : Launch} {e : Env} {ss : State} {m : MethodId} {args : Array Value} {below : List Frame} {meth : Method} {c : Code} {Q : State → Prop} {g : GX} {A : Nat → Prop}
set_option maxHeartbeats 4000000 in
set_option maxRecDepth 100000 in
theorem w_Eng_passAll_R_41 {z : St} (C : Cx g A p m c b_Eng_passAll 3 ss args R_Eng) (hQ : ∀ (pc : Nat) (H : Heap) (locs : List Loc) (ls : Array Slot), XW g A ss (wX g z) H locs → decode b_Eng_passAll pc = .ok (.return_, 1) → W p l e (rmX 4 86) ss m args below meth c H locs 0 0 Q (F0 m pc ls [])) : ∀ (x1 : Int32) (x2 : Int32) (s : St) (H : Heap) (locs : List Loc) (ls : Array Slot), XW g A ss (wX g s) H locs → lv_has ls 3 [(0, .ref (g.q 7)), (1, .int x1), (2, .int x2)] → f_Eng_passAll_R_41 x1 x2 s = some z → W p l e (rmX 4 86) ss m args below meth c H locs 0 0 Q (F0 m 41 ls []) := by
  have ⟨⟨hx, hb, hml, hown, hts⟩, hK, hA, hN⟩ := C
  intro x1 x2 s H locs ls hX hl h
  rw [f_Eng_passAll_R_41] at h
  obtain rfl := so1 h
  exact hQ _ H locs ls hX d_Eng_passAll_41
set_option maxHeartbeats 4000000 in
set_option maxRecDepth 100000 in
theorem w_Eng_passAll_R_34 {z : St} (C : Cx g A p m c b_Eng_passAll 3 ss args R_Eng) (hQ : ∀ (pc : Nat) (H : Heap) (locs : List Loc) (ls : Array Slot), XW g A ss (wX g z) H locs → decode b_Eng_passAll pc = .ok (.return_, 1) → W p l e (rmX 4 86) ss m args below meth c H locs 0 0 Q (F0 m pc ls [])) (k4 : Int32 → Int32 → St → Option St) (hk4 : ∀ (x1 : Int32) (x2 : Int32) (s : St) (H : Heap) (locs : List Loc) (ls : Array Slot), XW g A ss (wX g s) H locs → lv_has ls 3 [(0, .ref (g.q 7)), (1, .int x1), (2, .int x2)] → k4 x1 x2 s = some z → W p l e (rmX 4 86) ss m args below meth c H locs 0 0 Q (F0 m 4 ls [])) : ∀ (x1 : Int32) (x2 : Int32) (y0 : Int32) (s : St) (H : Heap) (locs : List Loc) (ls : Array Slot), XW g A ss (wX g s) H locs → lv_has ls 3 [(0, .ref (g.q 7)), (1, .int x1), (2, .int x2)] → f_Eng_passAll_R_34 k4 x1 x2 y0 s = some z → W p l e (rmX 4 86) ss m args below meth c H locs 0 0 Q (F0 m 34 ls [.int y0]) := by
  have ⟨⟨hx, hb, hml, hown, hts⟩, hK, hA, hN⟩ := C
  intro x1 x2 y0 s H locs ls hX hl h
  rw [f_Eng_passAll_R_34] at h
  refine lv_istore_n (lv' := [(1, .int y0), (0, .ref (g.q 7)), (2, .int x2)]) hx hb d_Eng_passAll_34 rfl hl (by decide) rfl (fun ls hl => ?_)
  obtain ⟨v1, ev1, h⟩ := lt1_e h
  refine lv_iinc (v := v1) (lv' := [(2, .int v1), (1, .int y0), (0, .ref (g.q 7))]) hx hb d_Eng_passAll_35 hl (k := 2) rfl (by rw [ev1]; rfl) (by decide) rfl (fun ls hl => ?_)
  refine lv_goto (tgt := 4) hx hb d_Eng_passAll_38 (by decide) ?_
  exact hk4 y0 v1 s H locs ls hX (lv_sub hl [2, 1, 0] rfl) h
set_option maxHeartbeats 4000000 in
set_option maxRecDepth 100000 in
theorem w_Eng_passAll_R_33 {z : St} (C : Cx g A p m c b_Eng_passAll 3 ss args R_Eng) (hQ : ∀ (pc : Nat) (H : Heap) (locs : List Loc) (ls : Array Slot), XW g A ss (wX g z) H locs → decode b_Eng_passAll pc = .ok (.return_, 1) → W p l e (rmX 4 86) ss m args below meth c H locs 0 0 Q (F0 m pc ls [])) (k4 : Int32 → Int32 → St → Option St) (hk4 : ∀ (x1 : Int32) (x2 : Int32) (s : St) (H : Heap) (locs : List Loc) (ls : Array Slot), XW g A ss (wX g s) H locs → lv_has ls 3 [(0, .ref (g.q 7)), (1, .int x1), (2, .int x2)] → k4 x1 x2 s = some z → W p l e (rmX 4 86) ss m args below meth c H locs 0 0 Q (F0 m 4 ls [])) : ∀ (x1 : Int32) (x2 : Int32) (s : St) (H : Heap) (locs : List Loc) (ls : Array Slot), XW g A ss (wX g s) H locs → lv_has ls 3 [(0, .ref (g.q 7)), (1, .int x1), (2, .int x2)] → f_Eng_passAll_R_33 k4 x1 x2 s = some z → W p l e (rmX 4 86) ss m args below meth c H locs 0 0 Q (F0 m 33 ls []) := by
  have ⟨⟨hx, hb, hml, hown, hts⟩, hK, hA, hN⟩ := C
  intro x1 x2 s H locs ls hX hl h
  rw [f_Eng_passAll_R_33] at h
  refine lv_iconst (v := 0) hx hb d_Eng_passAll_33 (by decide) ?_
  exact w_Eng_passAll_R_34 C hQ k4 hk4 x1 x2 0 s H locs ls hX hl h
set_option maxHeartbeats 4000000 in
set_option maxRecDepth 100000 in
theorem w_Eng_passAll_R_4 {z : St} (C : Cx g A p m c b_Eng_passAll 3 ss args R_Eng) (hQ : ∀ (pc : Nat) (H : Heap) (locs : List Loc) (ls : Array Slot), XW g A ss (wX g z) H locs → decode b_Eng_passAll pc = .ok (.return_, 1) → W p l e (rmX 4 86) ss m args below meth c H locs 0 0 Q (F0 m pc ls [])) (n : Nat) : ∀ (x1 : Int32) (x2 : Int32) (s : St) (H : Heap) (locs : List Loc) (ls : Array Slot), XW g A ss (wX g s) H locs → lv_has ls 3 [(0, .ref (g.q 7)), (1, .int x1), (2, .int x2)] → f_Eng_passAll_R_4 n x1 x2 s = some z → W p l e (rmX 4 86) ss m args below meth c H locs 0 0 Q (F0 m 4 ls []) := by
  have ⟨⟨hx, hb, hml, hown, hts⟩, hK, hA, hN⟩ := C
  induction n with
  | zero => intro x1 x2 s H locs ls hX hl h; cases h
  | succ n ih =>
    intro x1 x2 s H locs ls hX hl h
    rw [f_Eng_passAll_R_4] at h
    refine lv_iload_n hx hb d_Eng_passAll_4 rfl (lv_at hl 2 rfl) ?_
    refine lv_sipush (v := 3840) hx hb d_Eng_passAll_5 (by decide) ?_
    refine lv_icmp_ge (tgt := 41) hx hb d_Eng_passAll_8 (by decide) (fun c8 => ?_) (fun c8 => ?_)
    · have h := ite_t c8 h
      exact w_Eng_passAll_R_41 C hQ x1 x2 s H locs ls hX hl h
    · have h := ite_f c8 h
      refine lv_iload_n hx hb d_Eng_passAll_11 rfl (lv_at hl 1 rfl) ?_
      refine lv_if_eq (tgt := 41) hx hb d_Eng_passAll_12 (by decide) (fun c12 => ?_) (fun c12 => ?_)
      · have h := ite_t c12 h
        exact w_Eng_passAll_R_41 C hQ x1 x2 s H locs ls hX hl h
      · have h := ite_f c12 h
        refine lv_aload_n hx hb d_Eng_passAll_15 rfl (lv_at hl 0 rfl) ?_
        refine gf_7_outcome C hX fl_Eng_27 d_Eng_passAll_16 ?_
        refine lv_if_ne (tgt := 33) hx hb d_Eng_passAll_19 (by decide) (fun c19 => ?_) (fun c19 => ?_)
        · have h := ite_f c19 h
          exact w_Eng_passAll_R_33 C hQ (f_Eng_passAll_R_4 n) ih x1 x2 s H locs ls hX hl h
        · have h := ite_t c19 h
          refine lv_aload_n hx hb d_Eng_passAll_22 rfl (lv_at hl 0 rfl) ?_
          obtain ⟨r2, s1, hc23, h⟩ := bd_e h
          refine x_uI (As := []) (rest := []) C hX (c_RE_pass l g s (r2, s1) hc23) (cw_Eng_57_R C.1.2.2.2.2 C.2.2.2 ⟨by decide, by decide⟩) (x_rc C hX wg_7 rfl) rfl hl.1 rfl (lv_room (Nat.le_of_ble_eq_true rfl)) d_Eng_passAll_23 ⟨Nat.le_refl _, Nat.le_refl _⟩ (fun H locs hX => ?_)
          refine lv_if_eq (tgt := 33) hx hb d_Eng_passAll_26 (by decide) (fun c26 => ?_) (fun c26 => ?_)
          · have h := ite_t c26 h
            exact w_Eng_passAll_R_33 C hQ (f_Eng_passAll_R_4 n) ih x1 x2 s1 H locs ls hX hl h
          · have h := ite_f c26 h
            refine lv_iconst (v := 1) hx hb d_Eng_passAll_29 (by decide) ?_
            refine lv_goto (tgt := 34) hx hb d_Eng_passAll_30 (by decide) ?_
            exact w_Eng_passAll_R_34 C hQ (f_Eng_passAll_R_4 n) ih x1 x2 1 s1 H locs ls hX hl h
set_option maxHeartbeats 4000000 in
set_option maxRecDepth 100000 in
theorem w_Eng_passAll_R {z : St} (C : Cx g A p m c b_Eng_passAll 3 ss args R_Eng) (hQ : ∀ (pc : Nat) (H : Heap) (locs : List Loc) (ls : Array Slot), XW g A ss (wX g z) H locs → decode b_Eng_passAll pc = .ok (.return_, 1) → W p l e (rmX 4 86) ss m args below meth c H locs 0 0 Q (F0 m pc ls [])) : ∀ (s : St) (H : Heap) (locs : List Loc) (ls : Array Slot), XW g A ss (wX g s) H locs → lv_has ls 3 [(0, .ref (g.q 7))] → f_Eng_passAll_R s = some z → W p l e (rmX 4 86) ss m args below meth c H locs 0 0 Q (F0 m 0 ls []) := by
  have ⟨⟨hx, hb, hml, hown, hts⟩, hK, hA, hN⟩ := C
  intro s H locs ls hX hl h
  rw [f_Eng_passAll_R] at h
  refine lv_iconst (v := 1) hx hb d_Eng_passAll_0 (by decide) ?_
  refine lv_istore_n (lv' := [(1, .int 1), (0, .ref (g.q 7))]) hx hb d_Eng_passAll_1 rfl hl (by decide) rfl (fun ls hl => ?_)
  refine lv_iconst (v := 0) hx hb d_Eng_passAll_2 (by decide) ?_
  refine lv_istore_n (lv' := [(2, .int 0), (1, .int 1), (0, .ref (g.q 7))]) hx hb d_Eng_passAll_3 rfl hl (by decide) rfl (fun ls hl => ?_)
  exact w_Eng_passAll_R_4 C hQ FU 1 0 s H locs ls hX (lv_sub hl [2, 1, 0] rfl) h
end WALK
theorem c_Eng_passAll_R (l : Launch) (g : GX) (s : St) (z : St) (h : f_Eng_passAll_R s = some z) : MV l g y_Eng_passAll b_Eng_passAll 3 none 4 86 [.ref (g.q 7)] (wX g s) (wX g z) :=
  MV.mk (own := R_Eng) (by decide) rfl (Nat.le_of_ble_eq_true rfl) fun p e ss m below meth c A Q C hQ ls hX hl => w_Eng_passAll_R C hQ s _ _ ls hX hl h
-- Eng_go_R
def f_Eng_go_R_36 (x1 : Int32) (x2 : Int32) (s : St) : Option (Int32 × St) :=
    some (s 7 3, s)
def f_Eng_go_R_11 : Nat → Int32 → Int32 → St → Option (Int32 × St)
  | 0, _, _, _ => none
  | n + 1, x1, x2, s =>
    if x2 ≤ 0 then
      f_Eng_go_R_36 x1 x2 s
    else
      if s 7 3 = 0 then
        bd1 (f_RE_step s) fun s1 =>
        bd1 (f_Eng_passAll_R s1) fun s2 =>
        lt1 (x2 + (-1)) fun v3 =>
        f_Eng_go_R_11 n x1 v3 s2
      else
        f_Eng_go_R_36 x1 x2 s
def f_Eng_go_R (x1 : Int32) (s : St) : Option (Int32 × St) :=
    bd1 (f_Eng_passAll_R s) fun s1 =>
    lt1 (if 100000 < x1 then 100000 else x1) fun r2 =>
    f_Eng_go_R_11 FU x1 r2 s1
section WALK
variable {p : Program} {l : Launch} {e : Env} {ss : State} {m : MethodId} {args : Array Value} {below : List Frame} {meth : Method} {c : Code} {Q : State → Prop} {g : GX} {A : Nat → Prop}
set_option maxHeartbeats 4000000 in
set_option maxRecDepth 100000 in
theorem w_Eng_go_R_36 {z : Int32 × St} (C : Cx g A p m c b_Eng_go 3 ss args R_Eng) (hQ : ∀ (pc : Nat) (H : Heap) (locs : List Loc) (ls : Array Slot), XW g A ss (wX g z.2) H locs → decode b_Eng_go pc = .ok (.ireturn, 1) → W p l e (rmX 6 136) ss m args below meth c H locs 0 0 Q (F0 m pc ls [.int z.1])) : ∀ (x1 : Int32) (x2 : Int32) (s : St) (H : Heap) (locs : List Loc) (ls : Array Slot), XW g A ss (wX g s) H locs → lv_has ls 3 [(0, .ref (g.q 7)), (1, .int x1), (2, .int x2)] → f_Eng_go_R_36 x1 x2 s = some z → W p l e (rmX 6 136) ss m args below meth c H locs 0 0 Q (F0 m 36 ls []) := by
  have ⟨⟨hx, hb, hml, hown, hts⟩, hK, hA, hN⟩ := C
  intro x1 x2 s H locs ls hX hl h
  rw [f_Eng_go_R_36] at h
  refine lv_aload_n hx hb d_Eng_go_36 rfl (lv_at hl 0 rfl) ?_
  refine gf_7_outcome C hX fl_Eng_27 d_Eng_go_37 ?_
  obtain rfl := so1 h
  exact hQ _ H locs ls hX d_Eng_go_40
set_option maxHeartbeats 4000000 in
set_option maxRecDepth 100000 in
theorem w_Eng_go_R_11 {z : Int32 × St} (C : Cx g A p m c b_Eng_go 3 ss args R_Eng) (hQ : ∀ (pc : Nat) (H : Heap) (locs : List Loc) (ls : Array Slot), XW g A ss (wX g z.2) H locs → decode b_Eng_go pc = .ok (.ireturn, 1) → W p l e (rmX 6 136) ss m args below meth c H locs 0 0 Q (F0 m pc ls [.int z.1])) (n : Nat) : ∀ (x1 : Int32) (x2 : Int32) (s : St) (H : Heap) (locs : List Loc) (ls : Array Slot), XW g A ss (wX g s) H locs → lv_has ls 3 [(0, .ref (g.q 7)), (1, .int x1), (2, .int x2)] → f_Eng_go_R_11 n x1 x2 s = some z → W p l e (rmX 6 136) ss m args below meth c H locs 0 0 Q (F0 m 11 ls []) := by
  have ⟨⟨hx, hb, hml, hown, hts⟩, hK, hA, hN⟩ := C
  induction n with
  | zero => intro x1 x2 s H locs ls hX hl h; cases h
  | succ n ih =>
    intro x1 x2 s H locs ls hX hl h
    rw [f_Eng_go_R_11] at h
    refine lv_iload_n hx hb d_Eng_go_11 rfl (lv_at hl 2 rfl) ?_
    refine lv_if_le (tgt := 36) hx hb d_Eng_go_12 (by decide) (fun c12 => ?_) (fun c12 => ?_)
    · have h := ite_t c12 h
      exact w_Eng_go_R_36 C hQ x1 x2 s H locs ls hX hl h
    · have h := ite_f c12 h
      refine lv_aload_n hx hb d_Eng_go_15 rfl (lv_at hl 0 rfl) ?_
      refine gf_7_outcome C hX fl_Eng_27 d_Eng_go_16 ?_
      refine lv_if_ne (tgt := 36) hx hb d_Eng_go_19 (by decide) (fun c19 => ?_) (fun c19 => ?_)
      · have h := ite_f c19 h
        exact w_Eng_go_R_36 C hQ x1 x2 s H locs ls hX hl h
      · have h := ite_t c19 h
        refine lv_aload_n hx hb d_Eng_go_22 rfl (lv_at hl 0 rfl) ?_
        obtain ⟨s1, hc23, h⟩ := bd1_e h
        refine x_uV (As := []) (rest := []) C hX (c_RE_step l g s s1 hc23) (cw_Eng_54_R C.1.2.2.2.2 C.2.2.2 ⟨by decide, by decide⟩) (x_rc C hX wg_7 rfl) rfl hl.1 rfl (lv_room (Nat.le_of_ble_eq_true rfl)) d_Eng_go_23 ⟨Nat.le_refl _, Nat.le_refl _⟩ (fun H locs hX => ?_)
        refine lv_aload_n hx hb d_Eng_go_26 rfl (lv_at hl 0 rfl) ?_
        obtain ⟨s2, hc27, h⟩ := bd1_e h
        refine x_vV (As := []) (rest := []) C hX (c_Eng_passAll_R l g s1 s2 hc27) (cw_Eng_44_R C.1.2.2.2.2 C.2.2.2 ⟨by decide, by decide⟩) (x_rc C hX wg_7 rfl) rfl hl.1 rfl (lv_room (Nat.le_of_ble_eq_true rfl)) d_Eng_go_27 ⟨Nat.le_refl _, Nat.le_refl _⟩ (fun H locs hX => ?_)
        obtain ⟨v3, ev3, h⟩ := lt1_e h
        refine lv_iinc (v := v3) (lv' := [(2, .int v3), (0, .ref (g.q 7)), (1, .int x1)]) hx hb d_Eng_go_30 hl (k := 2) rfl (by rw [ev3]; rfl) (by decide) rfl (fun ls hl => ?_)
        refine lv_goto (tgt := 11) hx hb d_Eng_go_33 (by decide) ?_
        exact ih x1 v3 s2 H locs ls hX (lv_sub hl [1, 2, 0] rfl) h
set_option maxHeartbeats 4000000 in
set_option maxRecDepth 100000 in
theorem w_Eng_go_R {z : Int32 × St} (C : Cx g A p m c b_Eng_go 3 ss args R_Eng) (hQ : ∀ (pc : Nat) (H : Heap) (locs : List Loc) (ls : Array Slot), XW g A ss (wX g z.2) H locs → decode b_Eng_go pc = .ok (.ireturn, 1) → W p l e (rmX 6 136) ss m args below meth c H locs 0 0 Q (F0 m pc ls [.int z.1])) : ∀ (x1 : Int32) (s : St) (H : Heap) (locs : List Loc) (ls : Array Slot), XW g A ss (wX g s) H locs → lv_has ls 3 [(0, .ref (g.q 7)), (1, .int x1)] → f_Eng_go_R x1 s = some z → W p l e (rmX 6 136) ss m args below meth c H locs 0 0 Q (F0 m 0 ls []) := by
  have ⟨⟨hx, hb, hml, hown, hts⟩, hK, hA, hN⟩ := C
  intro x1 s H locs ls hX hl h
  rw [f_Eng_go_R] at h
  refine lv_aload_n hx hb d_Eng_go_0 rfl (lv_at hl 0 rfl) ?_
  obtain ⟨s1, hc1, h⟩ := bd1_e h
  refine x_vV (As := []) (rest := []) C hX (c_Eng_passAll_R l g s s1 hc1) (cw_Eng_44_R C.1.2.2.2.2 C.2.2.2 ⟨by decide, by decide⟩) (x_rc C hX wg_7 rfl) rfl hl.1 rfl (lv_room (Nat.le_of_ble_eq_true rfl)) d_Eng_go_1 ⟨Nat.le_refl _, Nat.le_refl _⟩ (fun H locs hX => ?_)
  refine lv_iload_n hx hb d_Eng_go_4 rfl (lv_at hl 1 rfl) ?_
  refine lv_ldc (v := 100000) hx hb hown (hts _ m_constant_Eng_47) d_Eng_go_5 ?_
  obtain ⟨r2, er2, h⟩ := lt1_e h
  refine x_mmin (rest := []) hx hb (hml.trans hl.1.symm) hown (hts _ ml_Eng_48) (hts _ ms_Math_min) (hts _ mi_Math) (hts _ mc_Math_min) (by decide) (Nat.le_of_ble_eq_true rfl) (Nat.le_refl _) (Nat.le_refl _) d_Eng_go_7 er2 ?_
  refine lv_istore_n (lv' := [(2, .int r2), (0, .ref (g.q 7)), (1, .int x1)]) hx hb d_Eng_go_10 rfl hl (by decide) rfl (fun ls hl => ?_)
  exact w_Eng_go_R_11 C hQ FU x1 r2 s1 H locs ls hX (lv_sub hl [1, 2, 0] rfl) h
end WALK
theorem c_Eng_go_R (l : Launch) (g : GX) (x1 : Int32) (s : St) (z : Int32 × St) (h : f_Eng_go_R x1 s = some z) : MI l g y_Eng_go b_Eng_go 3 (some .int) 6 136 [.ref (g.q 7), .int x1] (wX g s) z.1 (wX g z.2) :=
  MI.mk (own := R_Eng) (by decide) rfl (Nat.le_of_ble_eq_true rfl) fun p e ss m below meth c A Q C hQ ls hX hl => w_Eng_go_R C hQ x1 s _ _ ls hX hl h
-- Eng_open_R_8
def f_Eng_open_R_8_63 (k24 : Int32 → Int32 → Int32 → St → Option St) (x2 : Int32) (x3 : Int32) (x4 : Int32) (y1 : Int32) (y2 : Int32) (s : St) : Option St :=
    lt1 (rSet s 36 224 y1 y2) fun s1 =>
    lt1 (x4 + (1)) fun v2 =>
    k24 x2 x3 v2 s1
def f_Eng_open_R_8_24 : Nat → Int32 → Int32 → Int32 → St → Option St
  | 0, _, _, _, _ => none
  | n + 1, x2, x3, x4, s =>
    if 28 ≤ x4 then
      some s
    else
      lt1 (s 7 1 + x4) fun v1 =>
      if x3 ≤ x4 then
        f_Eng_open_R_8_63 (f_Eng_open_R_8_24 n) x2 x3 x4 v1 0 s
      else
        lt1 (x2 + x4) fun v2 =>
        lt1 (rGet 4 (s 9) v2) fun r3 =>
        f_Eng_open_R_8_63 (f_Eng_open_R_8_24 n) x2 x3 x4 v1 r3 s
def f_Eng_open_R_8 (x2 : Int32) (x3 : Int32) (s : St) : Option St :=
    lt1 (s 7 0 * 28) fun v1 =>
    lt1 (stp s 7 1 v1) fun s2 =>
    lt1 (s2 7 0 + 1) fun v3 =>
    lt1 (stp s2 7 0 v3) fun s4 =>
    f_Eng_open_R_8_24 FU x2 x3 0 s4
section WALK
variable {p : Program} {l : Launch} {e : Env} {ss : State} {m : MethodId} {args : Array Value} {below : List Frame} {meth : Method} {c : Code} {Q : State → Prop} {g : GX} {A : Nat → Prop}
set_option maxHeartbeats 4000000 in
set_option maxRecDepth 100000 in
theorem w_Eng_open_R_8_63 {z : St} (C : Cx g A p m c b_Eng_open 5 ss args R_Eng) (hQ : ∀ (pc : Nat) (H : Heap) (locs : List Loc) (ls : Array Slot), XW g A ss (wX g z) H locs → decode b_Eng_open pc = .ok (.return_, 1) → W p l e (rmX 1 22) ss m args below meth c H locs 0 0 Q (F0 m pc ls [])) (k24 : Int32 → Int32 → Int32 → St → Option St) (hk24 : ∀ (x2 : Int32) (x3 : Int32) (x4 : Int32) (s : St) (H : Heap) (locs : List Loc) (ls : Array Slot), XW g A ss (wX g s) H locs → lv_has ls 5 [(0, .ref (g.q 7)), (1, .ref (g.q 8)), (2, .int x2), (3, .int x3), (4, .int x4)] → k24 x2 x3 x4 s = some z → W p l e (rmX 1 22) ss m args below meth c H locs 0 0 Q (F0 m 24 ls [])) : ∀ (x2 : Int32) (x3 : Int32) (x4 : Int32) (y1 : Int32) (y2 : Int32) (s : St) (H : Heap) (locs : List Loc) (ls : Array Slot), XW g A ss (wX g s) H locs → lv_has ls 5 [(0, .ref (g.q 7)), (1, .ref (g.q 8)), (2, .int x2), (3, .int x3), (4, .int x4)] → f_Eng_open_R_8_63 k24 x2 x3 x4 y1 y2 s = some z → W p l e (rmX 1 22) ss m args below meth c H locs 0 0 Q (F0 m 63 ls [.int y2, .int y1, .ref (g.q 35)]) := by
  have ⟨⟨hx, hb, hml, hown, hts⟩, hK, hA, hN⟩ := C
  intro x2 x3 x4 y1 y2 s H locs ls hX hl h
  rw [f_Eng_open_R_8_63] at h
  obtain ⟨s1, es1, h⟩ := lt1_e h
  refine x_vV (ws' := wX g s1) (As := [.int y1, .int y2]) (rest := []) C hX (by rw [es1]; exact cRowSet_35 l g s y1 y2) (cw_Eng_73 C.1.2.2.2.2 C.2.2.2 ⟨by decide, by decide⟩) (x_rc C hX wg_35 rfl) rfl hl.1 rfl (lv_room (Nat.le_of_ble_eq_true rfl)) d_Eng_open_63 ⟨Nat.le_refl _, Nat.le_refl _⟩ (fun H locs hX => ?_)
  obtain ⟨v2, ev2, h⟩ := lt1_e h
  refine lv_iinc (v := v2) (lv' := [(4, .int v2), (0, .ref (g.q 7)), (1, .ref (g.q 8)), (2, .int x2), (3, .int x3)]) hx hb d_Eng_open_66 hl (k := 4) rfl (by rw [ev2]; rfl) (by decide) rfl (fun ls hl => ?_)
  refine lv_goto (tgt := 24) hx hb d_Eng_open_69 (by decide) ?_
  exact hk24 x2 x3 v2 s1 H locs ls hX (lv_sub hl [1, 2, 3, 4, 0] rfl) h
set_option maxHeartbeats 4000000 in
set_option maxRecDepth 100000 in
theorem w_Eng_open_R_8_24 {z : St} (C : Cx g A p m c b_Eng_open 5 ss args R_Eng) (hQ : ∀ (pc : Nat) (H : Heap) (locs : List Loc) (ls : Array Slot), XW g A ss (wX g z) H locs → decode b_Eng_open pc = .ok (.return_, 1) → W p l e (rmX 1 22) ss m args below meth c H locs 0 0 Q (F0 m pc ls [])) (n : Nat) : ∀ (x2 : Int32) (x3 : Int32) (x4 : Int32) (s : St) (H : Heap) (locs : List Loc) (ls : Array Slot), XW g A ss (wX g s) H locs → lv_has ls 5 [(0, .ref (g.q 7)), (1, .ref (g.q 8)), (2, .int x2), (3, .int x3), (4, .int x4)] → f_Eng_open_R_8_24 n x2 x3 x4 s = some z → W p l e (rmX 1 22) ss m args below meth c H locs 0 0 Q (F0 m 24 ls []) := by
  have ⟨⟨hx, hb, hml, hown, hts⟩, hK, hA, hN⟩ := C
  induction n with
  | zero => intro x2 x3 x4 s H locs ls hX hl h; cases h
  | succ n ih =>
    intro x2 x3 x4 s H locs ls hX hl h
    rw [f_Eng_open_R_8_24] at h
    refine lv_iload hx hb d_Eng_open_24 (lv_at hl 4 rfl) ?_
    refine lv_bipush (v := 28) hx hb d_Eng_open_26 (by decide) ?_
    refine lv_icmp_ge (tgt := 72) hx hb d_Eng_open_28 (by decide) (fun c28 => ?_) (fun c28 => ?_)
    · have h := ite_t c28 h
      obtain rfl := so1 h
      exact hQ _ H locs ls hX d_Eng_open_72
    · have h := ite_f c28 h
      refine lv_aload_n hx hb d_Eng_open_31 rfl (lv_at hl 0 rfl) ?_
      refine gf_7_store C hX fl_Eng_23 d_Eng_open_32 ?_
      refine gf_5_cells C hX fl_Eng_64 d_Eng_open_35 ?_
      refine lv_aload_n hx hb d_Eng_open_38 rfl (lv_at hl 0 rfl) ?_
      refine gf_7_base C hX fl_Eng_61 d_Eng_open_39 ?_
      refine lv_iload hx hb d_Eng_open_42 (lv_at hl 4 rfl) ?_
      obtain ⟨v1, ev1, h⟩ := lt1_e h
      refine x_iadd hx hb d_Eng_open_44 ev1 ?_
      refine lv_iload hx hb d_Eng_open_45 (lv_at hl 4 rfl) ?_
      refine lv_iload_n hx hb d_Eng_open_47 rfl (lv_at hl 3 rfl) ?_
      refine lv_icmp_ge (tgt := 62) hx hb d_Eng_open_48 (by decide) (fun c48 => ?_) (fun c48 => ?_)
      · have h := ite_t c48 h
        refine lv_iconst (v := 0) hx hb d_Eng_open_62 (by decide) ?_
        exact w_Eng_open_R_8_63 C hQ (f_Eng_open_R_8_24 n) ih x2 x3 x4 v1 0 s H locs ls hX hl h
      · have h := ite_f c48 h
        refine lv_aload_n hx hb d_Eng_open_51 rfl (lv_at hl 1 rfl) ?_
        refine lv_iload_n hx hb d_Eng_open_52 rfl (lv_at hl 2 rfl) ?_
        refine lv_iload hx hb d_Eng_open_53 (lv_at hl 4 rfl) ?_
        obtain ⟨v2, ev2, h⟩ := lt1_e h
        refine x_iadd hx hb d_Eng_open_55 ev2 ?_
        obtain ⟨r3, er3, h⟩ := lt1_e h
        refine x_vI (r := r3) (ws' := wX g s) (As := [.int v2]) (rest := [.int v1, .ref (g.q 35)]) C hX (by rw [er3]; exact cRowGet_8 l g s v2) (cw_Eng_69 C.1.2.2.2.2 C.2.2.2 ⟨by decide, by decide⟩) (x_rc C hX wg_8 rfl) rfl hl.1 rfl (lv_room (Nat.le_of_ble_eq_true rfl)) d_Eng_open_56 ⟨Nat.le_refl _, Nat.le_refl _⟩ (fun H locs hX => ?_)
        refine lv_goto (tgt := 63) hx hb d_Eng_open_59 (by decide) ?_
        exact w_Eng_open_R_8_63 C hQ (f_Eng_open_R_8_24 n) ih x2 x3 x4 v1 r3 s H locs ls hX hl h
set_option maxHeartbeats 4000000 in
set_option maxRecDepth 100000 in
theorem w_Eng_open_R_8 {z : St} (C : Cx g A p m c b_Eng_open 5 ss args R_Eng) (hQ : ∀ (pc : Nat) (H : Heap) (locs : List Loc) (ls : Array Slot), XW g A ss (wX g z) H locs → decode b_Eng_open pc = .ok (.return_, 1) → W p l e (rmX 1 22) ss m args below meth c H locs 0 0 Q (F0 m pc ls [])) : ∀ (x2 : Int32) (x3 : Int32) (s : St) (H : Heap) (locs : List Loc) (ls : Array Slot), XW g A ss (wX g s) H locs → lv_has ls 5 [(0, .ref (g.q 7)), (1, .ref (g.q 8)), (2, .int x2), (3, .int x3)] → f_Eng_open_R_8 x2 x3 s = some z → W p l e (rmX 1 22) ss m args below meth c H locs 0 0 Q (F0 m 0 ls []) := by
  have ⟨⟨hx, hb, hml, hown, hts⟩, hK, hA, hN⟩ := C
  intro x2 x3 s H locs ls hX hl h
  rw [f_Eng_open_R_8] at h
  refine lv_aload_n hx hb d_Eng_open_0 rfl (lv_at hl 0 rfl) ?_
  refine lv_aload_n hx hb d_Eng_open_1 rfl (lv_at hl 0 rfl) ?_
  refine gf_7_calls C hX fl_Eng_34 d_Eng_open_2 ?_
  refine lv_bipush (v := 28) hx hb d_Eng_open_5 (by decide) ?_
  obtain ⟨v1, ev1, h⟩ := lt1_e h
  refine x_imul hx hb d_Eng_open_7 ev1 ?_
  obtain ⟨s2, es2, h⟩ := lt1_e h
  refine pf_7_base C hX fl_Eng_61 d_Eng_open_8 (fun H locs hX => ?_)
  rw [← es2] at hX
  refine lv_aload_n hx hb d_Eng_open_11 rfl (lv_at hl 0 rfl) ?_
  refine lv_dup hx hb d_Eng_open_12 rfl ?_
  refine gf_7_calls C hX fl_Eng_34 d_Eng_open_13 ?_
  refine lv_iconst (v := 1) hx hb d_Eng_open_16 (by decide) ?_
  obtain ⟨v3, ev3, h⟩ := lt1_e h
  refine x_iadd hx hb d_Eng_open_17 ev3 ?_
  obtain ⟨s4, es4, h⟩ := lt1_e h
  refine pf_7_calls C hX fl_Eng_34 d_Eng_open_18 (fun H locs hX => ?_)
  rw [← es4] at hX
  refine lv_iconst (v := 0) hx hb d_Eng_open_21 (by decide) ?_
  refine lv_istore (lv' := [(4, .int 0), (0, .ref (g.q 7)), (1, .ref (g.q 8)), (2, .int x2), (3, .int x3)]) hx hb d_Eng_open_22 hl (by decide) rfl (fun ls hl => ?_)
  exact w_Eng_open_R_8_24 C hQ FU x2 x3 0 s4 H locs ls hX (lv_sub hl [1, 2, 3, 4, 0] rfl) h
end WALK
theorem c_Eng_open_R_8 (l : Launch) (g : GX) (x2 : Int32) (x3 : Int32) (s : St) (z : St) (h : f_Eng_open_R_8 x2 x3 s = some z) : MV l g y_Eng_open b_Eng_open 5 none 1 22 [.ref (g.q 7), .ref (g.q 8), .int x2, .int x3] (wX g s) (wX g z) :=
  MV.mk (own := R_Eng) (by decide) rfl (Nat.le_of_ble_eq_true rfl) fun p e ss m below meth c A Q C hQ ls hX hl => w_Eng_open_R_8 C hQ x2 x3 s _ _ ls hX hl h
-- Eng_begin_R
def f_Eng_begin_R (x1 : Int32) (x3 : Int32) (s : St) : Option St :=
    lt1 (stp s 7 3 0) fun s1 =>
    lt1 (stp s1 7 4 0) fun s2 =>
    lt1 (stp s2 7 0 0) fun s3 =>
    bd1 (f_Eng_open_R_8 0 x3 s3) fun s4 =>
    bd1 (f_RE_enter x1 s4) fun s5 =>
    some s5
section WALK
variable {p : Program} {l : Launch} {e : Env} {ss : State} {m : MethodId} {args : Array Value} {below : List Frame} {meth : Method} {c : Code} {Q : State → Prop} {g : GX} {A : Nat → Prop}
set_option maxHeartbeats 4000000 in
set_option maxRecDepth 100000 in
theorem w_Eng_begin_R {z : St} (C : Cx g A p m c b_Eng_begin 4 ss args R_Eng) (hQ : ∀ (pc : Nat) (H : Heap) (locs : List Loc) (ls : Array Slot), XW g A ss (wX g z) H locs → decode b_Eng_begin pc = .ok (.return_, 1) → W p l e (rmX 3 65) ss m args below meth c H locs 0 0 Q (F0 m pc ls [])) : ∀ (x1 : Int32) (x3 : Int32) (s : St) (H : Heap) (locs : List Loc) (ls : Array Slot), XW g A ss (wX g s) H locs → lv_has ls 4 [(0, .ref (g.q 7)), (1, .int x1), (2, .ref (g.q 8)), (3, .int x3)] → f_Eng_begin_R x1 x3 s = some z → W p l e (rmX 3 65) ss m args below meth c H locs 0 0 Q (F0 m 0 ls []) := by
  have ⟨⟨hx, hb, hml, hown, hts⟩, hK, hA, hN⟩ := C
  intro x1 x3 s H locs ls hX hl h
  rw [f_Eng_begin_R] at h
  refine lv_aload_n hx hb d_Eng_begin_0 rfl (lv_at hl 0 rfl) ?_
  refine lv_iconst (v := 0) hx hb d_Eng_begin_1 (by decide) ?_
  obtain ⟨s1, es1, h⟩ := lt1_e h
  refine pf_7_outcome C hX fl_Eng_27 d_Eng_begin_2 (fun H locs hX => ?_)
  rw [← es1] at hX
  refine lv_aload_n hx hb d_Eng_begin_5 rfl (lv_at hl 0 rfl) ?_
  refine lv_iconst (v := 0) hx hb d_Eng_begin_6 (by decide) ?_
  obtain ⟨s2, es2, h⟩ := lt1_e h
  refine pf_7_value C hX fl_Eng_31 d_Eng_begin_7 (fun H locs hX => ?_)
  rw [← es2] at hX
  refine lv_aload_n hx hb d_Eng_begin_10 rfl (lv_at hl 0 rfl) ?_
  refine lv_iconst (v := 0) hx hb d_Eng_begin_11 (by decide) ?_
  obtain ⟨s3, es3, h⟩ := lt1_e h
  refine pf_7_calls C hX fl_Eng_34 d_Eng_begin_12 (fun H locs hX => ?_)
  rw [← es3] at hX
  refine lv_aload_n hx hb d_Eng_begin_15 rfl (lv_at hl 0 rfl) ?_
  refine lv_aload_n hx hb d_Eng_begin_16 rfl (lv_at hl 2 rfl) ?_
  refine lv_iconst (v := 0) hx hb d_Eng_begin_17 (by decide) ?_
  refine lv_iload_n hx hb d_Eng_begin_18 rfl (lv_at hl 3 rfl) ?_
  obtain ⟨s4, hc19, h⟩ := bd1_e h
  refine x_vV (As := [.ref (g.q 8), .int 0, .int x3]) (rest := []) C hX (c_Eng_open_R_8 l g 0 x3 s3 s4 hc19) (cw_Eng_37_R C.1.2.2.2.2 C.2.2.2 ⟨by decide, by decide⟩) (x_rc C hX wg_7 rfl) rfl hl.1 rfl (lv_room (Nat.le_of_ble_eq_true rfl)) d_Eng_begin_19 ⟨Nat.le_refl _, Nat.le_refl _⟩ (fun H locs hX => ?_)
  refine lv_aload_n hx hb d_Eng_begin_22 rfl (lv_at hl 0 rfl) ?_
  refine lv_iload_n hx hb d_Eng_begin_23 rfl (lv_at hl 1 rfl) ?_
  obtain ⟨s5, hc24, h⟩ := bd1_e h
  refine x_uV (As := [.int x1]) (rest := []) C hX (c_RE_enter l g x1 s4 s5 hc24) (cw_Eng_41_R C.1.2.2.2.2 C.2.2.2 ⟨by decide, by decide⟩) (x_rc C hX wg_7 rfl) rfl hl.1 rfl (lv_room (Nat.le_of_ble_eq_true rfl)) d_Eng_begin_24 ⟨Nat.le_refl _, Nat.le_refl _⟩ (fun H locs hX => ?_)
  obtain rfl := so1 h
  exact hQ _ H locs ls hX d_Eng_begin_27
end WALK
theorem c_Eng_begin_R (l : Launch) (g : GX) (x1 : Int32) (x3 : Int32) (s : St) (z : St) (h : f_Eng_begin_R x1 x3 s = some z) : MV l g y_Eng_begin b_Eng_begin 4 none 3 65 [.ref (g.q 7), .int x1, .ref (g.q 8), .int x3] (wX g s) (wX g z) :=
  MV.mk (own := R_Eng) (by decide) rfl (Nat.le_of_ble_eq_true rfl) fun p e ss m below meth c A Q C hQ ls hX hl => w_Eng_begin_R C hQ x1 x3 s _ _ ls hX hl h
-- X_feed
def f_X_feed_23 (x1 : Int32) (y0 : Int32) (s : St) : Option (Int32 × St) :=
    bz y0 <|
    some (y0, s)
def f_X_feed_22 (x1 : Int32) (s : St) : Option (Int32 × St) :=
    f_X_feed_23 x1 0 s
def f_X_feed (x1 : Int32) (s : St) : Option (Int32 × St) :=
    if s 0 1 = 0 then
      bd (f_Rd_append x1 s) fun r2 s1 =>
      if r2 = 0 then
        f_X_feed_22 x1 s1
      else
        f_X_feed_23 x1 1 s1
    else
      f_X_feed_22 x1 s
section WALK
variable {p : Program} {l : Launch} {e : Env} {ss : State} {m : MethodId} {args : Array Value} {below : List Frame} {meth : Method} {c : Code} {Q : State → Prop} {g : GX} {A : Nat → Prop}
set_option maxHeartbeats 4000000 in
set_option maxRecDepth 100000 in
theorem w_X_feed_23 {z : Int32 × St} (C : Cx g A p m c b_X_feed 2 ss args R_X) (hQ : ∀ (pc : Nat) (H : Heap) (locs : List Loc) (ls : Array Slot), XW g A ss (wX g z.2) H locs → (z.1 = 0 ∨ z.1 = 1) → decode b_X_feed pc = .ok (.ireturn, 1) → W p l e (rmX 1 21) ss m args below meth c H locs 0 0 Q (F0 m pc ls [.int z.1])) : ∀ (x1 : Int32) (y0 : Int32) (s : St) (H : Heap) (locs : List Loc) (ls : Array Slot), XW g A ss (wX g s) H locs → lv_has ls 2 [(0, .ref (g.q 0)), (1, .int x1)] → f_X_feed_23 x1 y0 s = some z → W p l e (rmX 1 21) ss m args below meth c H locs 0 0 Q (F0 m 23 ls [.int y0]) := by
  have ⟨⟨hx, hb, hml, hown, hts⟩, hK, hA, hN⟩ := C
  intro x1 y0 s H locs ls hX hl h
  rw [f_X_feed_23] at h
  obtain ⟨hz, h⟩ := bz_e h
  obtain rfl := so1 h
  exact hQ _ H locs ls hX hz d_X_feed_23
set_option maxHeartbeats 4000000 in
set_option maxRecDepth 100000 in
theorem w_X_feed_22 {z : Int32 × St} (C : Cx g A p m c b_X_feed 2 ss args R_X) (hQ : ∀ (pc : Nat) (H : Heap) (locs : List Loc) (ls : Array Slot), XW g A ss (wX g z.2) H locs → (z.1 = 0 ∨ z.1 = 1) → decode b_X_feed pc = .ok (.ireturn, 1) → W p l e (rmX 1 21) ss m args below meth c H locs 0 0 Q (F0 m pc ls [.int z.1])) : ∀ (x1 : Int32) (s : St) (H : Heap) (locs : List Loc) (ls : Array Slot), XW g A ss (wX g s) H locs → lv_has ls 2 [(0, .ref (g.q 0)), (1, .int x1)] → f_X_feed_22 x1 s = some z → W p l e (rmX 1 21) ss m args below meth c H locs 0 0 Q (F0 m 22 ls []) := by
  have ⟨⟨hx, hb, hml, hown, hts⟩, hK, hA, hN⟩ := C
  intro x1 s H locs ls hX hl h
  rw [f_X_feed_22] at h
  refine lv_iconst (v := 0) hx hb d_X_feed_22 (by decide) ?_
  exact w_X_feed_23 C hQ x1 0 s H locs ls hX hl h
set_option maxHeartbeats 4000000 in
set_option maxRecDepth 100000 in
theorem w_X_feed {z : Int32 × St} (C : Cx g A p m c b_X_feed 2 ss args R_X) (hQ : ∀ (pc : Nat) (H : Heap) (locs : List Loc) (ls : Array Slot), XW g A ss (wX g z.2) H locs → (z.1 = 0 ∨ z.1 = 1) → decode b_X_feed pc = .ok (.ireturn, 1) → W p l e (rmX 1 21) ss m args below meth c H locs 0 0 Q (F0 m pc ls [.int z.1])) : ∀ (x1 : Int32) (s : St) (H : Heap) (locs : List Loc) (ls : Array Slot), XW g A ss (wX g s) H locs → lv_has ls 2 [(0, .ref (g.q 0)), (1, .int x1)] → f_X_feed x1 s = some z → W p l e (rmX 1 21) ss m args below meth c H locs 0 0 Q (F0 m 0 ls []) := by
  have ⟨⟨hx, hb, hml, hown, hts⟩, hK, hA, hN⟩ := C
  intro x1 s H locs ls hX hl h
  rw [f_X_feed] at h
  refine lv_aload_n hx hb d_X_feed_0 rfl (lv_at hl 0 rfl) ?_
  refine gf_0_loaded C hX fl_X_76 d_X_feed_1 ?_
  refine lv_if_ne (tgt := 22) hx hb d_X_feed_4 (by decide) (fun c4 => ?_) (fun c4 => ?_)
  · have h := ite_f c4 h
    exact w_X_feed_22 C hQ x1 s H locs ls hX hl h
  · have h := ite_t c4 h
    refine lv_aload_n hx hb d_X_feed_7 rfl (lv_at hl 0 rfl) ?_
    refine gf_0_reader C hX fl_X_21 d_X_feed_8 ?_
    refine lv_iload_n hx hb d_X_feed_11 rfl (lv_at hl 1 rfl) ?_
    obtain ⟨r2, s1, hc12, h⟩ := bd_e h
    refine x_vI (As := [.int x1]) (rest := []) C hX (c_Rd_append l g x1 s (r2, s1) hc12) (cw_X_80 C.1.2.2.2.2 C.2.2.2 ⟨by decide, by decide⟩) (x_rc C hX wg_2 rfl) rfl hl.1 rfl (lv_room (Nat.le_of_ble_eq_true rfl)) d_X_feed_12 ⟨Nat.le_refl _, Nat.le_refl _⟩ (fun H locs hX => ?_)
    refine lv_if_eq (tgt := 22) hx hb d_X_feed_15 (by decide) (fun c15 => ?_) (fun c15 => ?_)
    · have h := ite_t c15 h
      exact w_X_feed_22 C hQ x1 s1 H locs ls hX hl h
    · have h := ite_f c15 h
      refine lv_iconst (v := 1) hx hb d_X_feed_18 (by decide) ?_
      refine lv_goto (tgt := 23) hx hb d_X_feed_19 (by decide) ?_
      exact w_X_feed_23 C hQ x1 1 s1 H locs ls hX hl h
end WALK
theorem c_X_feed (l : Launch) (g : GX) (x1 : Int32) (s : St) (z : Int32 × St) (h : f_X_feed x1 s = some z) : MI l g y_X_feed b_X_feed 2 (some .boolean) 1 21 [.ref (g.q 0), .int x1] (wX g s) z.1 (wX g z.2) :=
  MI.mkZ (own := R_X) (by decide) rfl (Nat.le_of_ble_eq_true rfl) fun p e ss m below meth c A Q C hQ ls hX hl => w_X_feed C hQ x1 s _ _ ls hX hl h
-- X_load
def f_X_load_53 (x1 : Int32) (s : St) : Option (Int32 × St) :=
    some (x1, s)
def f_X_load_29 (x1 : Int32) (s : St) : Option (Int32 × St) :=
    if x1 = 0 then
      bd1 (f_Store_prepare s) fun s1 =>
      lt1 (stp s1 0 1 1) fun s2 =>
      f_X_load_53 x1 s2
    else
      f_X_load_53 x1 s
def f_X_load (s : St) : Option (Int32 × St) :=
    if s 0 1 = 0 then
      bd (f_Rd_readModule s) fun r2 s1 =>
      if r2 = 0 then
        bd (f_Val_judge s1) fun r4 s3 =>
        f_X_load_29 r4 s3
      else
        f_X_load_29 r2 s1
    else
      some (5, s)
section WALK
variable {p : Program} {l : Launch} {e : Env} {ss : State} {m : MethodId} {args : Array Value} {below : List Frame} {meth : Method} {c : Code} {Q : State → Prop} {g : GX} {A : Nat → Prop}
set_option maxHeartbeats 4000000 in
set_option maxRecDepth 100000 in
theorem w_X_load_53 {z : Int32 × St} (C : Cx g A p m c b_X_load 2 ss args R_X) (hQ : ∀ (pc : Nat) (H : Heap) (locs : List Loc) (ls : Array Slot), XW g A ss (wX g z.2) H locs → decode b_X_load pc = .ok (.ireturn, 1) → W p l e (rmX 7 165) ss m args below meth c H locs 0 0 Q (F0 m pc ls [.int z.1])) : ∀ (x1 : Int32) (s : St) (H : Heap) (locs : List Loc) (ls : Array Slot), XW g A ss (wX g s) H locs → lv_has ls 2 [(0, .ref (g.q 0)), (1, .int x1)] → f_X_load_53 x1 s = some z → W p l e (rmX 7 165) ss m args below meth c H locs 0 0 Q (F0 m 53 ls []) := by
  have ⟨⟨hx, hb, hml, hown, hts⟩, hK, hA, hN⟩ := C
  intro x1 s H locs ls hX hl h
  rw [f_X_load_53] at h
  refine lv_iload_n hx hb d_X_load_53 rfl (lv_at hl 1 rfl) ?_
  obtain rfl := so1 h
  exact hQ _ H locs ls hX d_X_load_54
set_option maxHeartbeats 4000000 in
set_option maxRecDepth 100000 in
theorem w_X_load_29 {z : Int32 × St} (C : Cx g A p m c b_X_load 2 ss args R_X) (hQ : ∀ (pc : Nat) (H : Heap) (locs : List Loc) (ls : Array Slot), XW g A ss (wX g z.2) H locs → decode b_X_load pc = .ok (.ireturn, 1) → W p l e (rmX 7 165) ss m args below meth c H locs 0 0 Q (F0 m pc ls [.int z.1])) : ∀ (x1 : Int32) (s : St) (H : Heap) (locs : List Loc) (ls : Array Slot), XW g A ss (wX g s) H locs → lv_has ls 2 [(0, .ref (g.q 0)), (1, .int x1)] → f_X_load_29 x1 s = some z → W p l e (rmX 7 165) ss m args below meth c H locs 0 0 Q (F0 m 29 ls []) := by
  have ⟨⟨hx, hb, hml, hown, hts⟩, hK, hA, hN⟩ := C
  intro x1 s H locs ls hX hl h
  rw [f_X_load_29] at h
  refine lv_iload_n hx hb d_X_load_29 rfl (lv_at hl 1 rfl) ?_
  refine lv_if_ne (tgt := 53) hx hb d_X_load_30 (by decide) (fun c30 => ?_) (fun c30 => ?_)
  · have h := ite_f c30 h
    exact w_X_load_53 C hQ x1 s H locs ls hX hl h
  · have h := ite_t c30 h
    refine lv_aload_n hx hb d_X_load_33 rfl (lv_at hl 0 rfl) ?_
    refine gf_0_store C hX fl_X_42 d_X_load_34 ?_
    refine lv_aload_n hx hb d_X_load_37 rfl (lv_at hl 0 rfl) ?_
    refine gf_0_contents C hX fl_X_10 d_X_load_38 ?_
    refine lv_aload_n hx hb d_X_load_41 rfl (lv_at hl 0 rfl) ?_
    refine gf_0_reader C hX fl_X_21 d_X_load_42 ?_
    obtain ⟨s1, hc45, h⟩ := bd1_e h
    refine x_vV (As := [.ref (g.q 1), .ref (g.q 2)]) (rest := []) C hX (c_Store_prepare l g s s1 hc45) (cw_X_91 C.1.2.2.2.2 C.2.2.2 ⟨by decide, by decide⟩) (x_rc C hX wg_5 rfl) rfl hl.1 rfl (lv_room (Nat.le_of_ble_eq_true rfl)) d_X_load_45 ⟨Nat.le_refl _, Nat.le_refl _⟩ (fun H locs hX => ?_)
    refine lv_aload_n hx hb d_X_load_48 rfl (lv_at hl 0 rfl) ?_
    refine lv_iconst (v := 1) hx hb d_X_load_49 (by decide) ?_
    obtain ⟨s2, es2, h⟩ := lt1_e h
    refine pf_0_loaded C hX fl_X_76 (Or.inr rfl) d_X_load_50 (fun H locs hX => ?_)
    rw [← es2] at hX
    exact w_X_load_53 C hQ x1 s2 H locs ls hX hl h
set_option maxHeartbeats 4000000 in
set_option maxRecDepth 100000 in
theorem w_X_load {z : Int32 × St} (C : Cx g A p m c b_X_load 2 ss args R_X) (hQ : ∀ (pc : Nat) (H : Heap) (locs : List Loc) (ls : Array Slot), XW g A ss (wX g z.2) H locs → decode b_X_load pc = .ok (.ireturn, 1) → W p l e (rmX 7 165) ss m args below meth c H locs 0 0 Q (F0 m pc ls [.int z.1])) : ∀ (s : St) (H : Heap) (locs : List Loc) (ls : Array Slot), XW g A ss (wX g s) H locs → lv_has ls 2 [(0, .ref (g.q 0))] → f_X_load s = some z → W p l e (rmX 7 165) ss m args below meth c H locs 0 0 Q (F0 m 0 ls []) := by
  have ⟨⟨hx, hb, hml, hown, hts⟩, hK, hA, hN⟩ := C
  intro s H locs ls hX hl h
  rw [f_X_load] at h
  refine lv_aload_n hx hb d_X_load_0 rfl (lv_at hl 0 rfl) ?_
  refine gf_0_loaded C hX fl_X_76 d_X_load_1 ?_
  refine lv_if_eq (tgt := 9) hx hb d_X_load_4 (by decide) (fun c4 => ?_) (fun c4 => ?_)
  · have h := ite_t c4 h
    refine lv_aload_n hx hb d_X_load_9 rfl (lv_at hl 0 rfl) ?_
    refine gf_0_reader C hX fl_X_21 d_X_load_10 ?_
    obtain ⟨r2, s1, hc13, h⟩ := bd_e h
    refine x_vI (As := []) (rest := []) C hX (c_Rd_readModule l g s (r2, s1) hc13) (cw_X_84 C.1.2.2.2.2 C.2.2.2 ⟨by decide, by decide⟩) (x_rc C hX wg_2 rfl) rfl hl.1 rfl (lv_room (Nat.le_of_ble_eq_true rfl)) d_X_load_13 ⟨Nat.le_refl _, Nat.le_refl _⟩ (fun H locs hX => ?_)
    refine lv_istore_n (lv' := [(1, .int r2), (0, .ref (g.q 0))]) hx hb d_X_load_16 rfl hl (by decide) rfl (fun ls hl => ?_)
    refine lv_iload_n hx hb d_X_load_17 rfl (lv_at hl 0 rfl) ?_
    refine lv_if_ne (tgt := 29) hx hb d_X_load_18 (by decide) (fun c18 => ?_) (fun c18 => ?_)
    · have h := ite_f c18 h
      exact w_X_load_29 C hQ r2 s1 H locs ls hX (lv_sub hl [1, 0] rfl) h
    · have h := ite_t c18 h
      refine lv_aload_n hx hb d_X_load_21 rfl (lv_at hl 1 rfl) ?_
      refine gf_0_validator C hX fl_X_28 d_X_load_22 ?_
      obtain ⟨r4, s3, hc25, h⟩ := bd_e h
      refine x_vI (As := []) (rest := []) C hX (c_Val_judge l g s1 (r4, s3) hc25) (cw_X_88 C.1.2.2.2.2 C.2.2.2 ⟨by decide, by decide⟩) (x_rc C hX wg_3 rfl) rfl hl.1 rfl (lv_room (Nat.le_of_ble_eq_true rfl)) d_X_load_25 ⟨Nat.le_refl _, Nat.le_refl _⟩ (fun H locs hX => ?_)
      refine lv_istore_n (lv' := [(1, .int r4), (0, .ref (g.q 0))]) hx hb d_X_load_28 rfl hl (by decide) rfl (fun ls hl => ?_)
      exact w_X_load_29 C hQ r4 s3 H locs ls hX (lv_sub hl [1, 0] rfl) h
  · have h := ite_f c4 h
    refine lv_iconst (v := 5) hx hb d_X_load_7 (by decide) ?_
    obtain rfl := so1 h
    exact hQ _ H locs ls hX d_X_load_8
end WALK
theorem c_X_load (l : Launch) (g : GX) (s : St) (z : Int32 × St) (h : f_X_load s = some z) : MI l g y_X_load b_X_load 2 (some .int) 7 165 [.ref (g.q 0)] (wX g s) z.1 (wX g z.2) :=
  MI.mk (own := R_X) (by decide) rfl (Nat.le_of_ble_eq_true rfl) fun p e ss m below meth c A Q C hQ ls hX hl => w_X_load C hQ s _ _ ls hX hl h
-- X_compile
def f_X_compile_28 (s : St) : Option (Int32 × St) :=
    some (0, s)
def f_X_compile (s : St) : Option (Int32 × St) :=
    if s 0 1 = 0 then
      some (1, s)
    else
      if s 0 2 = 0 then
        bd1 (f_RC_make s) fun s1 =>
        lt1 (stp s1 0 2 1) fun s2 =>
        f_X_compile_28 s2
      else
        f_X_compile_28 s
section WALK
variable {p : Program} {l : Launch} {e : Env} {ss : State} {m : MethodId} {args : Array Value} {below : List Frame} {meth : Method} {c : Code} {Q : State → Prop} {g : GX} {A : Nat → Prop}
set_option maxHeartbeats 4000000 in
set_option maxRecDepth 100000 in
theorem w_X_compile_28 {z : Int32 × St} (C : Cx g A p m c b_X_compile 1 ss args R_X) (hQ : ∀ (pc : Nat) (H : Heap) (locs : List Loc) (ls : Array Slot), XW g A ss (wX g z.2) H locs → decode b_X_compile pc = .ok (.ireturn, 1) → W p l e (rmX 7 166) ss m args below meth c H locs 0 0 Q (F0 m pc ls [.int z.1])) : ∀ (s : St) (H : Heap) (locs : List Loc) (ls : Array Slot), XW g A ss (wX g s) H locs → lv_has ls 1 [(0, .ref (g.q 0))] → f_X_compile_28 s = some z → W p l e (rmX 7 166) ss m args below meth c H locs 0 0 Q (F0 m 28 ls []) := by
  have ⟨⟨hx, hb, hml, hown, hts⟩, hK, hA, hN⟩ := C
  intro s H locs ls hX hl h
  rw [f_X_compile_28] at h
  refine lv_iconst (v := 0) hx hb d_X_compile_28 (by decide) ?_
  obtain rfl := so1 h
  exact hQ _ H locs ls hX d_X_compile_29
set_option maxHeartbeats 4000000 in
set_option maxRecDepth 100000 in
theorem w_X_compile {z : Int32 × St} (C : Cx g A p m c b_X_compile 1 ss args R_X) (hQ : ∀ (pc : Nat) (H : Heap) (locs : List Loc) (ls : Array Slot), XW g A ss (wX g z.2) H locs → decode b_X_compile pc = .ok (.ireturn, 1) → W p l e (rmX 7 166) ss m args below meth c H locs 0 0 Q (F0 m pc ls [.int z.1])) : ∀ (s : St) (H : Heap) (locs : List Loc) (ls : Array Slot), XW g A ss (wX g s) H locs → lv_has ls 1 [(0, .ref (g.q 0))] → f_X_compile s = some z → W p l e (rmX 7 166) ss m args below meth c H locs 0 0 Q (F0 m 0 ls []) := by
  have ⟨⟨hx, hb, hml, hown, hts⟩, hK, hA, hN⟩ := C
  intro s H locs ls hX hl h
  rw [f_X_compile] at h
  refine lv_aload_n hx hb d_X_compile_0 rfl (lv_at hl 0 rfl) ?_
  refine gf_0_loaded C hX fl_X_76 d_X_compile_1 ?_
  refine lv_if_ne (tgt := 9) hx hb d_X_compile_4 (by decide) (fun c4 => ?_) (fun c4 => ?_)
  · have h := ite_f c4 h
    refine lv_aload_n hx hb d_X_compile_9 rfl (lv_at hl 0 rfl) ?_
    refine gf_0_compiled C hX fl_X_95 d_X_compile_10 ?_
    refine lv_if_ne (tgt := 28) hx hb d_X_compile_13 (by decide) (fun c13 => ?_) (fun c13 => ?_)
    · have h := ite_f c13 h
      exact w_X_compile_28 C hQ s H locs ls hX hl h
    · have h := ite_t c13 h
      refine lv_aload_n hx hb d_X_compile_16 rfl (lv_at hl 0 rfl) ?_
      refine gf_0_registerCode C hX fl_X_35 d_X_compile_17 ?_
      obtain ⟨s1, hc20, h⟩ := bd1_e h
      refine x_vV (As := []) (rest := []) C hX (c_RC_make l g s s1 hc20) (cw_X_98 C.1.2.2.2.2 C.2.2.2 ⟨by decide, by decide⟩) (x_rc C hX wg_4 rfl) rfl hl.1 rfl (lv_room (Nat.le_of_ble_eq_true rfl)) d_X_compile_20 ⟨Nat.le_refl _, Nat.le_refl _⟩ (fun H locs hX => ?_)
      refine lv_aload_n hx hb d_X_compile_23 rfl (lv_at hl 0 rfl) ?_
      refine lv_iconst (v := 1) hx hb d_X_compile_24 (by decide) ?_
      obtain ⟨s2, es2, h⟩ := lt1_e h
      refine pf_0_compiled C hX fl_X_95 (Or.inr rfl) d_X_compile_25 (fun H locs hX => ?_)
      rw [← es2] at hX
      exact w_X_compile_28 C hQ s2 H locs ls hX hl h
  · have h := ite_t c4 h
    refine lv_iconst (v := 1) hx hb d_X_compile_7 (by decide) ?_
    obtain rfl := so1 h
    exact hQ _ H locs ls hX d_X_compile_8
end WALK
theorem c_X_compile (l : Launch) (g : GX) (s : St) (z : Int32 × St) (h : f_X_compile s = some z) : MI l g y_X_compile b_X_compile 1 (some .int) 7 166 [.ref (g.q 0)] (wX g s) z.1 (wX g z.2) :=
  MI.mk (own := R_X) (by decide) rfl (Nat.le_of_ble_eq_true rfl) fun p e ss m below meth c A Q C hQ ls hX hl => w_X_compile C hQ s _ _ ls hX hl h
-- X_arg
def f_X_arg_23 (x1 : Int32) (s : St) : Option (Int32 × St) :=
    bz 0 <|
    some (0, s)
def f_X_arg (x1 : Int32) (s : St) : Option (Int32 × St) :=
    if s 0 1 = 0 then
      f_X_arg_23 x1 s
    else
      if s 0 3 = (-1) then
        if s 0 0 < 4 then
          lt1 (rSet s 9 4 (s 0 0) x1) fun s1 =>
          lt1 (s1 0 0 + 1) fun v2 =>
          lt1 (stp s1 0 0 v2) fun s3 =>
          bz 1 <|
          some (1, s3)
        else
          f_X_arg_23 x1 s
      else
        f_X_arg_23 x1 s
section WALK
variable {p : Program} {l : Launch} {e : Env} {ss : State} {m : MethodId} {args : Array Value} {below : List Frame} {meth : Method} {c : Code} {Q : State → Prop} {g : GX} {A : Nat → Prop}
set_option maxHeartbeats 4000000 in
set_option maxRecDepth 100000 in
theorem w_X_arg_23 {z : Int32 × St} (C : Cx g A p m c b_X_arg 2 ss args R_X) (hQ : ∀ (pc : Nat) (H : Heap) (locs : List Loc) (ls : Array Slot), XW g A ss (wX g z.2) H locs → (z.1 = 0 ∨ z.1 = 1) → decode b_X_arg pc = .ok (.ireturn, 1) → W p l e (rmX 1 22) ss m args below meth c H locs 0 0 Q (F0 m pc ls [.int z.1])) : ∀ (x1 : Int32) (s : St) (H : Heap) (locs : List Loc) (ls : Array Slot), XW g A ss (wX g s) H locs → lv_has ls 2 [(0, .ref (g.q 0)), (1, .int x1)] → f_X_arg_23 x1 s = some z → W p l e (rmX 1 22) ss m args below meth c H locs 0 0 Q (F0 m 23 ls []) := by
  have ⟨⟨hx, hb, hml, hown, hts⟩, hK, hA, hN⟩ := C
  intro x1 s H locs ls hX hl h
  rw [f_X_arg_23] at h
  refine lv_iconst (v := 0) hx hb d_X_arg_23 (by decide) ?_
  obtain ⟨hz, h⟩ := bz_e h
  obtain rfl := so1 h
  exact hQ _ H locs ls hX hz d_X_arg_24
set_option maxHeartbeats 4000000 in
set_option maxRecDepth 100000 in
theorem w_X_arg {z : Int32 × St} (C : Cx g A p m c b_X_arg 2 ss args R_X) (hQ : ∀ (pc : Nat) (H : Heap) (locs : List Loc) (ls : Array Slot), XW g A ss (wX g z.2) H locs → (z.1 = 0 ∨ z.1 = 1) → decode b_X_arg pc = .ok (.ireturn, 1) → W p l e (rmX 1 22) ss m args below meth c H locs 0 0 Q (F0 m pc ls [.int z.1])) : ∀ (x1 : Int32) (s : St) (H : Heap) (locs : List Loc) (ls : Array Slot), XW g A ss (wX g s) H locs → lv_has ls 2 [(0, .ref (g.q 0)), (1, .int x1)] → f_X_arg x1 s = some z → W p l e (rmX 1 22) ss m args below meth c H locs 0 0 Q (F0 m 0 ls []) := by
  have ⟨⟨hx, hb, hml, hown, hts⟩, hK, hA, hN⟩ := C
  intro x1 s H locs ls hX hl h
  rw [f_X_arg] at h
  refine lv_aload_n hx hb d_X_arg_0 rfl (lv_at hl 0 rfl) ?_
  refine gf_0_loaded C hX fl_X_76 d_X_arg_1 ?_
  refine lv_if_eq (tgt := 23) hx hb d_X_arg_4 (by decide) (fun c4 => ?_) (fun c4 => ?_)
  · have h := ite_t c4 h
    exact w_X_arg_23 C hQ x1 s H locs ls hX hl h
  · have h := ite_f c4 h
    refine lv_aload_n hx hb d_X_arg_7 rfl (lv_at hl 0 rfl) ?_
    refine gf_0_active C hX fl_X_72 d_X_arg_8 ?_
    refine lv_iconst (v := (-1)) hx hb d_X_arg_11 (by decide) ?_
    refine lv_icmp_ne (tgt := 23) hx hb d_X_arg_12 (by decide) (fun c12 => ?_) (fun c12 => ?_)
    · have h := ite_f c12 h
      exact w_X_arg_23 C hQ x1 s H locs ls hX hl h
    · have h := ite_t c12 h
      refine lv_aload_n hx hb d_X_arg_15 rfl (lv_at hl 0 rfl) ?_
      refine gf_0_argumentCount C hX fl_X_101 d_X_arg_16 ?_
      refine lv_iconst (v := 4) hx hb d_X_arg_19 (by decide) ?_
      refine lv_icmp_lt (tgt := 25) hx hb d_X_arg_20 (by decide) (fun c20 => ?_) (fun c20 => ?_)
      · have h := ite_t c20 h
        refine lv_aload_n hx hb d_X_arg_25 rfl (lv_at hl 0 rfl) ?_
        refine gf_0_arguments C hX fl_X_68 d_X_arg_26 ?_
        refine lv_aload_n hx hb d_X_arg_29 rfl (lv_at hl 0 rfl) ?_
        refine gf_0_argumentCount C hX fl_X_101 d_X_arg_30 ?_
        refine lv_iload_n hx hb d_X_arg_33 rfl (lv_at hl 1 rfl) ?_
        obtain ⟨s1, es1, h⟩ := lt1_e h
        refine x_vV (ws' := wX g s1) (As := [.int (s 0 0), .int x1]) (rest := []) C hX (by rw [es1]; exact cRowSet_8 l g s (s 0 0) x1) (cw_X_104 C.1.2.2.2.2 C.2.2.2 ⟨by decide, by decide⟩) (x_rc C hX wg_8 rfl) rfl hl.1 rfl (lv_room (Nat.le_of_ble_eq_true rfl)) d_X_arg_34 ⟨Nat.le_refl _, Nat.le_refl _⟩ (fun H locs hX => ?_)
        refine lv_aload_n hx hb d_X_arg_37 rfl (lv_at hl 0 rfl) ?_
        refine lv_dup hx hb d_X_arg_38 rfl ?_
        refine gf_0_argumentCount C hX fl_X_101 d_X_arg_39 ?_
        refine lv_iconst (v := 1) hx hb d_X_arg_42 (by decide) ?_
        obtain ⟨v2, ev2, h⟩ := lt1_e h
        refine x_iadd hx hb d_X_arg_43 ev2 ?_
        obtain ⟨s3, es3, h⟩ := lt1_e h
        refine pf_0_argumentCount C hX fl_X_101 d_X_arg_44 (fun H locs hX => ?_)
        rw [← es3] at hX
        refine lv_iconst (v := 1) hx hb d_X_arg_47 (by decide) ?_
        obtain ⟨hz, h⟩ := bz_e h
        obtain rfl := so1 h
        exact hQ _ H locs ls hX hz d_X_arg_48
      · have h := ite_f c20 h
        exact w_X_arg_23 C hQ x1 s H locs ls hX hl h
end WALK
theorem c_X_arg (l : Launch) (g : GX) (x1 : Int32) (s : St) (z : Int32 × St) (h : f_X_arg x1 s = some z) : MI l g y_X_arg b_X_arg 2 (some .boolean) 1 22 [.ref (g.q 0), .int x1] (wX g s) z.1 (wX g z.2) :=
  MI.mkZ (own := R_X) (by decide) rfl (Nat.le_of_ble_eq_true rfl) fun p e ss m below meth c A Q C hQ ls hX hl => w_X_arg C hQ x1 s _ _ ls hX hl h
-- X_start_6
def f_X_start_6_68 (x1 : Int32) (x2 : Int32) (s : St) : Option (Int32 × St) :=
    lt1 (stp s 0 3 x2) fun s1 =>
    lt1 (stp s1 0 4 0) fun s2 =>
    ae6 (s2 0 3) <|
    bd1 (f_Eng_begin_S x1 (s2 0 0) s2) fun s3 =>
    lt1 (stp s3 0 0 0) fun s4 =>
    some (0, s4)
def f_X_start_6_66 (x1 : Int32) (x2 : Int32) (s : St) : Option (Int32 × St) :=
    some (4, s)
def f_X_start_6_15 (x1 : Int32) (x2 : Int32) (s : St) : Option (Int32 × St) :=
    some (1, s)
def f_X_start_6 (x1 : Int32) (x2 : Int32) (s : St) : Option (Int32 × St) :=
    if s 0 1 = 0 then
      f_X_start_6_15 x1 x2 s
    else
      if s 0 3 = (-1) then
        lt1 (tHas (s 12 0) x1) fun r1 =>
        if r1 = 0 then
          some (2, s)
        else
          bd1 (f_Cont_parametersOf s x1) fun r2 =>
          if s 0 0 = r2 then
            if x2 = 0 then
              f_X_start_6_68 x1 x2 s
            else
              if x2 = 1 then
                if s 0 2 = 0 then
                  f_X_start_6_66 x1 x2 s
                else
                  f_X_start_6_68 x1 x2 s
              else
                f_X_start_6_66 x1 x2 s
          else
            some (3, s)
      else
        f_X_start_6_15 x1 x2 s
section WALK
variable {p : Program} {l : Launch} {e : Env} {ss : State} {m : MethodId} {args : Array Value} {below : List Frame} {meth : Method} {c : Code} {Q : State → Prop} {g : GX} {A : Nat → Prop}
set_option maxHeartbeats 4000000 in
set_option maxRecDepth 100000 in
theorem w_X_start_6_68 {z : Int32 × St} (C : Cx g A p m c b_X_start 3 ss args R_X) (hQ : ∀ (pc : Nat) (H : Heap) (locs : List Loc) (ls : Array Slot), XW g A ss (wX g z.2) H locs → decode b_X_start pc = .ok (.ireturn, 1) → W p l e (rmX 3 69) ss m args below meth c H locs 0 0 Q (F0 m pc ls [.int z.1])) : ∀ (x1 : Int32) (x2 : Int32) (s : St) (H : Heap) (locs : List Loc) (ls : Array Slot), XW g A ss (wX g s) H locs → lv_has ls 3 [(0, .ref (g.q 0)), (1, .int x1), (2, .int x2)] → f_X_start_6_68 x1 x2 s = some z → W p l e (rmX 3 69) ss m args below meth c H locs 0 0 Q (F0 m 68 ls []) := by
  have ⟨⟨hx, hb, hml, hown, hts⟩, hK, hA, hN⟩ := C
  intro x1 x2 s H locs ls hX hl h
  rw [f_X_start_6_68] at h
  refine lv_aload_n hx hb d_X_start_68 rfl (lv_at hl 0 rfl) ?_
  refine lv_iload_n hx hb d_X_start_69 rfl (lv_at hl 2 rfl) ?_
  obtain ⟨s1, es1, h⟩ := lt1_e h
  refine pf_0_active C hX fl_X_72 d_X_start_70 (fun H locs hX => ?_)
  rw [← es1] at hX
  refine lv_aload_n hx hb d_X_start_73 rfl (lv_at hl 0 rfl) ?_
  refine lv_iconst (v := 0) hx hb d_X_start_74 (by decide) ?_
  obtain ⟨s2, es2, h⟩ := lt1_e h
  refine pf_0_returned C hX fl_X_121 d_X_start_75 (fun H locs hX => ?_)
  rw [← es2] at hX
  refine lv_aload_n hx hb d_X_start_78 rfl (lv_at hl 0 rfl) ?_
  obtain ⟨ha79, h⟩ := ae6_e h
  refine x_vR (As := []) (rest := []) C hX (c_X_ae6 l g s2 ha79) (cw_X_124 C.1.2.2.2.2 C.2.2.2 ⟨by decide, by decide⟩) (x_rc C hX wg_0 rfl) rfl hl.1 rfl (lv_room (Nat.le_of_ble_eq_true rfl)) d_X_start_79 ⟨Nat.le_refl _, Nat.le_refl _⟩ (fun H locs hX => ?_)
  refine lv_iload_n hx hb d_X_start_82 rfl (lv_at hl 1 rfl) ?_
  refine lv_aload_n hx hb d_X_start_83 rfl (lv_at hl 0 rfl) ?_
  refine gf_0_arguments C hX fl_X_68 d_X_start_84 ?_
  refine lv_aload_n hx hb d_X_start_87 rfl (lv_at hl 0 rfl) ?_
  refine gf_0_argumentCount C hX fl_X_101 d_X_start_88 ?_
  obtain ⟨s3, hc91, h⟩ := bd1_e h
  refine x_vV (As := [.int x1, .ref (g.q 8), .int (s2 0 0)]) (rest := []) C hX (c_Eng_begin_S l g x1 (s2 0 0) s2 s3 hc91) (cw_X_128_S C.1.2.2.2.2 C.2.2.2 ⟨by decide, by decide⟩) (x_rc C hX wg_6 rfl) rfl hl.1 rfl (lv_room (Nat.le_of_ble_eq_true rfl)) d_X_start_91 ⟨Nat.le_refl _, Nat.le_refl _⟩ (fun H locs hX => ?_)
  refine lv_aload_n hx hb d_X_start_94 rfl (lv_at hl 0 rfl) ?_
  refine lv_iconst (v := 0) hx hb d_X_start_95 (by decide) ?_
  obtain ⟨s4, es4, h⟩ := lt1_e h
  refine pf_0_argumentCount C hX fl_X_101 d_X_start_96 (fun H locs hX => ?_)
  rw [← es4] at hX
  refine lv_iconst (v := 0) hx hb d_X_start_99 (by decide) ?_
  obtain rfl := so1 h
  exact hQ _ H locs ls hX d_X_start_100
set_option maxHeartbeats 4000000 in
set_option maxRecDepth 100000 in
theorem w_X_start_6_66 {z : Int32 × St} (C : Cx g A p m c b_X_start 3 ss args R_X) (hQ : ∀ (pc : Nat) (H : Heap) (locs : List Loc) (ls : Array Slot), XW g A ss (wX g z.2) H locs → decode b_X_start pc = .ok (.ireturn, 1) → W p l e (rmX 3 69) ss m args below meth c H locs 0 0 Q (F0 m pc ls [.int z.1])) : ∀ (x1 : Int32) (x2 : Int32) (s : St) (H : Heap) (locs : List Loc) (ls : Array Slot), XW g A ss (wX g s) H locs → lv_has ls 3 [(0, .ref (g.q 0)), (1, .int x1), (2, .int x2)] → f_X_start_6_66 x1 x2 s = some z → W p l e (rmX 3 69) ss m args below meth c H locs 0 0 Q (F0 m 66 ls []) := by
  have ⟨⟨hx, hb, hml, hown, hts⟩, hK, hA, hN⟩ := C
  intro x1 x2 s H locs ls hX hl h
  rw [f_X_start_6_66] at h
  refine lv_iconst (v := 4) hx hb d_X_start_66 (by decide) ?_
  obtain rfl := so1 h
  exact hQ _ H locs ls hX d_X_start_67
set_option maxHeartbeats 4000000 in
set_option maxRecDepth 100000 in
theorem w_X_start_6_15 {z : Int32 × St} (C : Cx g A p m c b_X_start 3 ss args R_X) (hQ : ∀ (pc : Nat) (H : Heap) (locs : List Loc) (ls : Array Slot), XW g A ss (wX g z.2) H locs → decode b_X_start pc = .ok (.ireturn, 1) → W p l e (rmX 3 69) ss m args below meth c H locs 0 0 Q (F0 m pc ls [.int z.1])) : ∀ (x1 : Int32) (x2 : Int32) (s : St) (H : Heap) (locs : List Loc) (ls : Array Slot), XW g A ss (wX g s) H locs → lv_has ls 3 [(0, .ref (g.q 0)), (1, .int x1), (2, .int x2)] → f_X_start_6_15 x1 x2 s = some z → W p l e (rmX 3 69) ss m args below meth c H locs 0 0 Q (F0 m 15 ls []) := by
  have ⟨⟨hx, hb, hml, hown, hts⟩, hK, hA, hN⟩ := C
  intro x1 x2 s H locs ls hX hl h
  rw [f_X_start_6_15] at h
  refine lv_iconst (v := 1) hx hb d_X_start_15 (by decide) ?_
  obtain rfl := so1 h
  exact hQ _ H locs ls hX d_X_start_16
set_option maxHeartbeats 4000000 in
set_option maxRecDepth 100000 in
theorem w_X_start_6 {z : Int32 × St} (C : Cx g A p m c b_X_start 3 ss args R_X) (hQ : ∀ (pc : Nat) (H : Heap) (locs : List Loc) (ls : Array Slot), XW g A ss (wX g z.2) H locs → decode b_X_start pc = .ok (.ireturn, 1) → W p l e (rmX 3 69) ss m args below meth c H locs 0 0 Q (F0 m pc ls [.int z.1])) : ∀ (x1 : Int32) (x2 : Int32) (s : St) (H : Heap) (locs : List Loc) (ls : Array Slot), XW g A ss (wX g s) H locs → lv_has ls 3 [(0, .ref (g.q 0)), (1, .int x1), (2, .int x2)] → f_X_start_6 x1 x2 s = some z → W p l e (rmX 3 69) ss m args below meth c H locs 0 0 Q (F0 m 0 ls []) := by
  have ⟨⟨hx, hb, hml, hown, hts⟩, hK, hA, hN⟩ := C
  intro x1 x2 s H locs ls hX hl h
  rw [f_X_start_6] at h
  refine lv_aload_n hx hb d_X_start_0 rfl (lv_at hl 0 rfl) ?_
  refine gf_0_loaded C hX fl_X_76 d_X_start_1 ?_
  refine lv_if_eq (tgt := 15) hx hb d_X_start_4 (by decide) (fun c4 => ?_) (fun c4 => ?_)
  · have h := ite_t c4 h
    exact w_X_start_6_15 C hQ x1 x2 s H locs ls hX hl h
  · have h := ite_f c4 h
    refine lv_aload_n hx hb d_X_start_7 rfl (lv_at hl 0 rfl) ?_
    refine gf_0_active C hX fl_X_72 d_X_start_8 ?_
    refine lv_iconst (v := (-1)) hx hb d_X_start_11 (by decide) ?_
    refine lv_icmp_eq (tgt := 17) hx hb d_X_start_12 (by decide) (fun c12 => ?_) (fun c12 => ?_)
    · have h := ite_t c12 h
      refine lv_aload_n hx hb d_X_start_17 rfl (lv_at hl 0 rfl) ?_
      refine gf_0_contents C hX fl_X_10 d_X_start_18 ?_
      refine gf_1_functions C hX fl_X_108 d_X_start_21 ?_
      refine lv_iload_n hx hb d_X_start_24 rfl (lv_at hl 1 rfl) ?_
      obtain ⟨r1, er1, h⟩ := lt1_e h
      refine x_vI (r := r1) (ws' := wX g s) (As := [.int x1]) (rest := []) C hX (by rw [er1]; exact cTabHas_12 l g s x1) (cw_X_112 C.1.2.2.2.2 C.2.2.2 ⟨by decide, by decide⟩) (x_rc C hX wg_12 rfl) rfl hl.1 rfl (lv_room (Nat.le_of_ble_eq_true rfl)) d_X_start_25 ⟨Nat.le_refl _, Nat.le_refl _⟩ (fun H locs hX => ?_)
      refine lv_if_ne (tgt := 33) hx hb d_X_start_28 (by decide) (fun c28 => ?_) (fun c28 => ?_)
      · have h := ite_f c28 h
        refine lv_aload_n hx hb d_X_start_33 rfl (lv_at hl 0 rfl) ?_
        refine gf_0_argumentCount C hX fl_X_101 d_X_start_34 ?_
        refine lv_aload_n hx hb d_X_start_37 rfl (lv_at hl 0 rfl) ?_
        refine gf_0_contents C hX fl_X_10 d_X_start_38 ?_
        refine lv_iload_n hx hb d_X_start_41 rfl (lv_at hl 1 rfl) ?_
        obtain ⟨r2, hc42, h⟩ := bd1_e h
        refine x_vI (As := [.int x1]) (rest := [.int (s 0 0)]) C hX (c_Cont_parametersOf l g x1 s r2 hc42) (cw_X_117 C.1.2.2.2.2 C.2.2.2 ⟨by decide, by decide⟩) (x_rc C hX wg_1 rfl) rfl hl.1 rfl (lv_room (Nat.le_of_ble_eq_true rfl)) d_X_start_42 ⟨Nat.le_refl _, Nat.le_refl _⟩ (fun H locs hX => ?_)
        refine lv_icmp_eq (tgt := 50) hx hb d_X_start_45 (by decide) (fun c45 => ?_) (fun c45 => ?_)
        · have h := ite_t c45 h
          refine lv_iload_n hx hb d_X_start_50 rfl (lv_at hl 2 rfl) ?_
          refine lv_if_eq (tgt := 68) hx hb d_X_start_51 (by decide) (fun c51 => ?_) (fun c51 => ?_)
          · have h := ite_t c51 h
            exact w_X_start_6_68 C hQ x1 x2 s H locs ls hX hl h
          · have h := ite_f c51 h
            refine lv_iload_n hx hb d_X_start_54 rfl (lv_at hl 2 rfl) ?_
            refine lv_iconst (v := 1) hx hb d_X_start_55 (by decide) ?_
            refine lv_icmp_ne (tgt := 66) hx hb d_X_start_56 (by decide) (fun c56 => ?_) (fun c56 => ?_)
            · have h := ite_f c56 h
              exact w_X_start_6_66 C hQ x1 x2 s H locs ls hX hl h
            · have h := ite_t c56 h
              refine lv_aload_n hx hb d_X_start_59 rfl (lv_at hl 0 rfl) ?_
              refine gf_0_compiled C hX fl_X_95 d_X_start_60 ?_
              refine lv_if_ne (tgt := 68) hx hb d_X_start_63 (by decide) (fun c63 => ?_) (fun c63 => ?_)
              · have h := ite_f c63 h
                exact w_X_start_6_68 C hQ x1 x2 s H locs ls hX hl h
              · have h := ite_t c63 h
                exact w_X_start_6_66 C hQ x1 x2 s H locs ls hX hl h
        · have h := ite_f c45 h
          refine lv_iconst (v := 3) hx hb d_X_start_48 (by decide) ?_
          obtain rfl := so1 h
          exact hQ _ H locs ls hX d_X_start_49
      · have h := ite_t c28 h
        refine lv_iconst (v := 2) hx hb d_X_start_31 (by decide) ?_
        obtain rfl := so1 h
        exact hQ _ H locs ls hX d_X_start_32
    · have h := ite_f c12 h
      exact w_X_start_6_15 C hQ x1 x2 s H locs ls hX hl h
end WALK
theorem c_X_start_6 (l : Launch) (g : GX) (x1 : Int32) (x2 : Int32) (s : St) (z : Int32 × St) (h : f_X_start_6 x1 x2 s = some z) : MI l g y_X_start b_X_start 3 (some .int) 3 69 [.ref (g.q 0), .int x1, .int x2] (wX g s) z.1 (wX g z.2) :=
  MI.mk (own := R_X) (by decide) rfl (Nat.le_of_ble_eq_true rfl) fun p e ss m below meth c A Q C hQ ls hX hl => w_X_start_6 C hQ x1 x2 s _ _ ls hX hl h
-- X_start_7
def f_X_start_7_68 (x1 : Int32) (x2 : Int32) (s : St) : Option (Int32 × St) :=
    lt1 (stp s 0 3 x2) fun s1 =>
    lt1 (stp s1 0 4 0) fun s2 =>
    ae7 (s2 0 3) <|
    bd1 (f_Eng_begin_R x1 (s2 0 0) s2) fun s3 =>
    lt1 (stp s3 0 0 0) fun s4 =>
    some (0, s4)
def f_X_start_7_66 (x1 : Int32) (x2 : Int32) (s : St) : Option (Int32 × St) :=
    some (4, s)
def f_X_start_7_15 (x1 : Int32) (x2 : Int32) (s : St) : Option (Int32 × St) :=
    some (1, s)
def f_X_start_7 (x1 : Int32) (x2 : Int32) (s : St) : Option (Int32 × St) :=
    if s 0 1 = 0 then
      f_X_start_7_15 x1 x2 s
    else
      if s 0 3 = (-1) then
        lt1 (tHas (s 12 0) x1) fun r1 =>
        if r1 = 0 then
          some (2, s)
        else
          bd1 (f_Cont_parametersOf s x1) fun r2 =>
          if s 0 0 = r2 then
            if x2 = 0 then
              f_X_start_7_68 x1 x2 s
            else
              if x2 = 1 then
                if s 0 2 = 0 then
                  f_X_start_7_66 x1 x2 s
                else
                  f_X_start_7_68 x1 x2 s
              else
                f_X_start_7_66 x1 x2 s
          else
            some (3, s)
      else
        f_X_start_7_15 x1 x2 s
section WALK
variable {p : Program} {l : Launch} {e : Env} {ss : State} {m : MethodId} {args : Array Value} {below : List Frame} {meth : Method} {c : Code} {Q : State → Prop} {g : GX} {A : Nat → Prop}
set_option maxHeartbeats 4000000 in
set_option maxRecDepth 100000 in
theorem w_X_start_7_68 {z : Int32 × St} (C : Cx g A p m c b_X_start 3 ss args R_X) (hQ : ∀ (pc : Nat) (H : Heap) (locs : List Loc) (ls : Array Slot), XW g A ss (wX g z.2) H locs → decode b_X_start pc = .ok (.ireturn, 1) → W p l e (rmX 4 88) ss m args below meth c H locs 0 0 Q (F0 m pc ls [.int z.1])) : ∀ (x1 : Int32) (x2 : Int32) (s : St) (H : Heap) (locs : List Loc) (ls : Array Slot), XW g A ss (wX g s) H locs → lv_has ls 3 [(0, .ref (g.q 0)), (1, .int x1), (2, .int x2)] → f_X_start_7_68 x1 x2 s = some z → W p l e (rmX 4 88) ss m args below meth c H locs 0 0 Q (F0 m 68 ls []) := by
  have ⟨⟨hx, hb, hml, hown, hts⟩, hK, hA, hN⟩ := C
  intro x1 x2 s H locs ls hX hl h
  rw [f_X_start_7_68] at h
  refine lv_aload_n hx hb d_X_start_68 rfl (lv_at hl 0 rfl) ?_
  refine lv_iload_n hx hb d_X_start_69 rfl (lv_at hl 2 rfl) ?_
  obtain ⟨s1, es1, h⟩ := lt1_e h
  refine pf_0_active C hX fl_X_72 d_X_start_70 (fun H locs hX => ?_)
  rw [← es1] at hX
  refine lv_aload_n hx hb d_X_start_73 rfl (lv_at hl 0 rfl) ?_
  refine lv_iconst (v := 0) hx hb d_X_start_74 (by decide) ?_
  obtain ⟨s2, es2, h⟩ := lt1_e h
  refine pf_0_returned C hX fl_X_121 d_X_start_75 (fun H locs hX => ?_)
  rw [← es2] at hX
  refine lv_aload_n hx hb d_X_start_78 rfl (lv_at hl 0 rfl) ?_
  obtain ⟨ha79, h⟩ := ae7_e h
  refine x_vR (As := []) (rest := []) C hX (c_X_ae7 l g s2 ha79) (cw_X_124 C.1.2.2.2.2 C.2.2.2 ⟨by decide, by decide⟩) (x_rc C hX wg_0 rfl) rfl hl.1 rfl (lv_room (Nat.le_of_ble_eq_true rfl)) d_X_start_79 ⟨Nat.le_refl _, Nat.le_refl _⟩ (fun H locs hX => ?_)
  refine lv_iload_n hx hb d_X_start_82 rfl (lv_at hl 1 rfl) ?_
  refine lv_aload_n hx hb d_X_start_83 rfl (lv_at hl 0 rfl) ?_
  refine gf_0_arguments C hX fl_X_68 d_X_start_84 ?_
  refine lv_aload_n hx hb d_X_start_87 rfl (lv_at hl 0 rfl) ?_
  refine gf_0_argumentCount C hX fl_X_101 d_X_start_88 ?_
  obtain ⟨s3, hc91, h⟩ := bd1_e h
  refine x_vV (As := [.int x1, .ref (g.q 8), .int (s2 0 0)]) (rest := []) C hX (c_Eng_begin_R l g x1 (s2 0 0) s2 s3 hc91) (cw_X_128_R C.1.2.2.2.2 C.2.2.2 ⟨by decide, by decide⟩) (x_rc C hX wg_7 rfl) rfl hl.1 rfl (lv_room (Nat.le_of_ble_eq_true rfl)) d_X_start_91 ⟨Nat.le_refl _, Nat.le_refl _⟩ (fun H locs hX => ?_)
  refine lv_aload_n hx hb d_X_start_94 rfl (lv_at hl 0 rfl) ?_
  refine lv_iconst (v := 0) hx hb d_X_start_95 (by decide) ?_
  obtain ⟨s4, es4, h⟩ := lt1_e h
  refine pf_0_argumentCount C hX fl_X_101 d_X_start_96 (fun H locs hX => ?_)
  rw [← es4] at hX
  refine lv_iconst (v := 0) hx hb d_X_start_99 (by decide) ?_
  obtain rfl := so1 h
  exact hQ _ H locs ls hX d_X_start_100
set_option maxHeartbeats 4000000 in
set_option maxRecDepth 100000 in
theorem w_X_start_7_66 {z : Int32 × St} (C : Cx g A p m c b_X_start 3 ss args R_X) (hQ : ∀ (pc : Nat) (H : Heap) (locs : List Loc) (ls : Array Slot), XW g A ss (wX g z.2) H locs → decode b_X_start pc = .ok (.ireturn, 1) → W p l e (rmX 4 88) ss m args below meth c H locs 0 0 Q (F0 m pc ls [.int z.1])) : ∀ (x1 : Int32) (x2 : Int32) (s : St) (H : Heap) (locs : List Loc) (ls : Array Slot), XW g A ss (wX g s) H locs → lv_has ls 3 [(0, .ref (g.q 0)), (1, .int x1), (2, .int x2)] → f_X_start_7_66 x1 x2 s = some z → W p l e (rmX 4 88) ss m args below meth c H locs 0 0 Q (F0 m 66 ls []) := by
  have ⟨⟨hx, hb, hml, hown, hts⟩, hK, hA, hN⟩ := C
  intro x1 x2 s H locs ls hX hl h
  rw [f_X_start_7_66] at h
  refine lv_iconst (v := 4) hx hb d_X_start_66 (by decide) ?_
  obtain rfl := so1 h
  exact hQ _ H locs ls hX d_X_start_67
set_option maxHeartbeats 4000000 in
set_option maxRecDepth 100000 in
theorem w_X_start_7_15 {z : Int32 × St} (C : Cx g A p m c b_X_start 3 ss args R_X) (hQ : ∀ (pc : Nat) (H : Heap) (locs : List Loc) (ls : Array Slot), XW g A ss (wX g z.2) H locs → decode b_X_start pc = .ok (.ireturn, 1) → W p l e (rmX 4 88) ss m args below meth c H locs 0 0 Q (F0 m pc ls [.int z.1])) : ∀ (x1 : Int32) (x2 : Int32) (s : St) (H : Heap) (locs : List Loc) (ls : Array Slot), XW g A ss (wX g s) H locs → lv_has ls 3 [(0, .ref (g.q 0)), (1, .int x1), (2, .int x2)] → f_X_start_7_15 x1 x2 s = some z → W p l e (rmX 4 88) ss m args below meth c H locs 0 0 Q (F0 m 15 ls []) := by
  have ⟨⟨hx, hb, hml, hown, hts⟩, hK, hA, hN⟩ := C
  intro x1 x2 s H locs ls hX hl h
  rw [f_X_start_7_15] at h
  refine lv_iconst (v := 1) hx hb d_X_start_15 (by decide) ?_
  obtain rfl := so1 h
  exact hQ _ H locs ls hX d_X_start_16
set_option maxHeartbeats 4000000 in
set_option maxRecDepth 100000 in
theorem w_X_start_7 {z : Int32 × St} (C : Cx g A p m c b_X_start 3 ss args R_X) (hQ : ∀ (pc : Nat) (H : Heap) (locs : List Loc) (ls : Array Slot), XW g A ss (wX g z.2) H locs → decode b_X_start pc = .ok (.ireturn, 1) → W p l e (rmX 4 88) ss m args below meth c H locs 0 0 Q (F0 m pc ls [.int z.1])) : ∀ (x1 : Int32) (x2 : Int32) (s : St) (H : Heap) (locs : List Loc) (ls : Array Slot), XW g A ss (wX g s) H locs → lv_has ls 3 [(0, .ref (g.q 0)), (1, .int x1), (2, .int x2)] → f_X_start_7 x1 x2 s = some z → W p l e (rmX 4 88) ss m args below meth c H locs 0 0 Q (F0 m 0 ls []) := by
  have ⟨⟨hx, hb, hml, hown, hts⟩, hK, hA, hN⟩ := C
  intro x1 x2 s H locs ls hX hl h
  rw [f_X_start_7] at h
  refine lv_aload_n hx hb d_X_start_0 rfl (lv_at hl 0 rfl) ?_
  refine gf_0_loaded C hX fl_X_76 d_X_start_1 ?_
  refine lv_if_eq (tgt := 15) hx hb d_X_start_4 (by decide) (fun c4 => ?_) (fun c4 => ?_)
  · have h := ite_t c4 h
    exact w_X_start_7_15 C hQ x1 x2 s H locs ls hX hl h
  · have h := ite_f c4 h
    refine lv_aload_n hx hb d_X_start_7 rfl (lv_at hl 0 rfl) ?_
    refine gf_0_active C hX fl_X_72 d_X_start_8 ?_
    refine lv_iconst (v := (-1)) hx hb d_X_start_11 (by decide) ?_
    refine lv_icmp_eq (tgt := 17) hx hb d_X_start_12 (by decide) (fun c12 => ?_) (fun c12 => ?_)
    · have h := ite_t c12 h
      refine lv_aload_n hx hb d_X_start_17 rfl (lv_at hl 0 rfl) ?_
      refine gf_0_contents C hX fl_X_10 d_X_start_18 ?_
      refine gf_1_functions C hX fl_X_108 d_X_start_21 ?_
      refine lv_iload_n hx hb d_X_start_24 rfl (lv_at hl 1 rfl) ?_
      obtain ⟨r1, er1, h⟩ := lt1_e h
      refine x_vI (r := r1) (ws' := wX g s) (As := [.int x1]) (rest := []) C hX (by rw [er1]; exact cTabHas_12 l g s x1) (cw_X_112 C.1.2.2.2.2 C.2.2.2 ⟨by decide, by decide⟩) (x_rc C hX wg_12 rfl) rfl hl.1 rfl (lv_room (Nat.le_of_ble_eq_true rfl)) d_X_start_25 ⟨Nat.le_refl _, Nat.le_refl _⟩ (fun H locs hX => ?_)
      refine lv_if_ne (tgt := 33) hx hb d_X_start_28 (by decide) (fun c28 => ?_) (fun c28 => ?_)
      · have h := ite_f c28 h
        refine lv_aload_n hx hb d_X_start_33 rfl (lv_at hl 0 rfl) ?_
        refine gf_0_argumentCount C hX fl_X_101 d_X_start_34 ?_
        refine lv_aload_n hx hb d_X_start_37 rfl (lv_at hl 0 rfl) ?_
        refine gf_0_contents C hX fl_X_10 d_X_start_38 ?_
        refine lv_iload_n hx hb d_X_start_41 rfl (lv_at hl 1 rfl) ?_
        obtain ⟨r2, hc42, h⟩ := bd1_e h
        refine x_vI (As := [.int x1]) (rest := [.int (s 0 0)]) C hX (c_Cont_parametersOf l g x1 s r2 hc42) (cw_X_117 C.1.2.2.2.2 C.2.2.2 ⟨by decide, by decide⟩) (x_rc C hX wg_1 rfl) rfl hl.1 rfl (lv_room (Nat.le_of_ble_eq_true rfl)) d_X_start_42 ⟨Nat.le_refl _, Nat.le_refl _⟩ (fun H locs hX => ?_)
        refine lv_icmp_eq (tgt := 50) hx hb d_X_start_45 (by decide) (fun c45 => ?_) (fun c45 => ?_)
        · have h := ite_t c45 h
          refine lv_iload_n hx hb d_X_start_50 rfl (lv_at hl 2 rfl) ?_
          refine lv_if_eq (tgt := 68) hx hb d_X_start_51 (by decide) (fun c51 => ?_) (fun c51 => ?_)
          · have h := ite_t c51 h
            exact w_X_start_7_68 C hQ x1 x2 s H locs ls hX hl h
          · have h := ite_f c51 h
            refine lv_iload_n hx hb d_X_start_54 rfl (lv_at hl 2 rfl) ?_
            refine lv_iconst (v := 1) hx hb d_X_start_55 (by decide) ?_
            refine lv_icmp_ne (tgt := 66) hx hb d_X_start_56 (by decide) (fun c56 => ?_) (fun c56 => ?_)
            · have h := ite_f c56 h
              exact w_X_start_7_66 C hQ x1 x2 s H locs ls hX hl h
            · have h := ite_t c56 h
              refine lv_aload_n hx hb d_X_start_59 rfl (lv_at hl 0 rfl) ?_
              refine gf_0_compiled C hX fl_X_95 d_X_start_60 ?_
              refine lv_if_ne (tgt := 68) hx hb d_X_start_63 (by decide) (fun c63 => ?_) (fun c63 => ?_)
              · have h := ite_f c63 h
                exact w_X_start_7_68 C hQ x1 x2 s H locs ls hX hl h
              · have h := ite_t c63 h
                exact w_X_start_7_66 C hQ x1 x2 s H locs ls hX hl h
        · have h := ite_f c45 h
          refine lv_iconst (v := 3) hx hb d_X_start_48 (by decide) ?_
          obtain rfl := so1 h
          exact hQ _ H locs ls hX d_X_start_49
      · have h := ite_t c28 h
        refine lv_iconst (v := 2) hx hb d_X_start_31 (by decide) ?_
        obtain rfl := so1 h
        exact hQ _ H locs ls hX d_X_start_32
    · have h := ite_f c12 h
      exact w_X_start_7_15 C hQ x1 x2 s H locs ls hX hl h
end WALK
theorem c_X_start_7 (l : Launch) (g : GX) (x1 : Int32) (x2 : Int32) (s : St) (z : Int32 × St) (h : f_X_start_7 x1 x2 s = some z) : MI l g y_X_start b_X_start 3 (some .int) 4 88 [.ref (g.q 0), .int x1, .int x2] (wX g s) z.1 (wX g z.2) :=
  MI.mk (own := R_X) (by decide) rfl (Nat.le_of_ble_eq_true rfl) fun p e ss m below meth c A Q C hQ ls hX hl => w_X_start_7 C hQ x1 x2 s _ _ ls hX hl h
