-- X_run_6
def f_X_run_6_51 (x1 : Int32) (x3 : Int32) (s : St) : Option (Int32 × St) :=
    some (x3, s)
def f_X_run_6_48 (x1 : Int32) (x3 : Int32) (y1 : Int32) (s : St) : Option (Int32 × St) :=
    lt1 (stp s 0 4 y1) fun s1 =>
    f_X_run_6_51 x1 x3 s1
def f_X_run_6_12 (x1 : Int32) (s : St) : Option (Int32 × St) :=
    some ((-1), s)
def f_X_run_6 (x1 : Int32) (s : St) : Option (Int32 × St) :=
    if x1 < 0 then
      f_X_run_6_12 x1 s
    else
      if s 0 3 = (-1) then
        f_X_run_6_12 x1 s
      else
        ae6 (s 0 3) <|
        bd (f_Eng_go_S x1 s) fun r2 s1 =>
        if r2 = 0 then
          f_X_run_6_51 x1 r2 s1
        else
          lt1 (stp s1 0 3 ((-1))) fun s3 =>
          if r2 = 1 then
            f_X_run_6_48 x1 r2 (s3 6 4) s3
          else
            f_X_run_6_48 x1 r2 0 s3
section WALK
variable {p : Program} {l : Launch} {e : Env} {ss : State} {m : MethodId} {args : Array Value} {below : List Frame} {meth : Method} {c : Code} {Q : State → Prop} {g : GX} {A : Nat → Prop}
set_option maxHeartbeats 4000000 in
set_option maxRecDepth 100000 in
theorem w_X_run_6_51 {z : Int32 × St} (C : Cx g A p m c b_X_run 4 ss args R_X) (hQ : ∀ (pc : Nat) (H : Heap) (locs : List Loc) (ls : Array Slot), XW g A ss (wX g z.2) H locs → decode b_X_run pc = .ok (.ireturn, 1) → W p l e (rmX 7 159) ss m args below meth c H locs 0 0 Q (F0 m pc ls [.int z.1])) : ∀ (x1 : Int32) (x3 : Int32) (s : St) (H : Heap) (locs : List Loc) (ls : Array Slot), XW g A ss (wX g s) H locs → lv_has ls 4 [(0, .ref (g.q 0)), (1, .int x1), (2, .ref (g.q 6)), (3, .int x3)] → f_X_run_6_51 x1 x3 s = some z → W p l e (rmX 7 159) ss m args below meth c H locs 0 0 Q (F0 m 51 ls []) := by
  have ⟨⟨hx, hb, hml, hown, hts⟩, hK, hA, hN⟩ := C
  intro x1 x3 s H locs ls hX hl h
  rw [f_X_run_6_51] at h
  refine lv_iload_n hx hb d_X_run_51 rfl (lv_at hl 3 rfl) ?_
  obtain rfl := so1 h
  exact hQ _ H locs ls hX d_X_run_52
set_option maxHeartbeats 4000000 in
set_option maxRecDepth 100000 in
theorem w_X_run_6_48 {z : Int32 × St} (C : Cx g A p m c b_X_run 4 ss args R_X) (hQ : ∀ (pc : Nat) (H : Heap) (locs : List Loc) (ls : Array Slot), XW g A ss (wX g z.2) H locs → decode b_X_run pc = .ok (.ireturn, 1) → W p l e (rmX 7 159) ss m args below meth c H locs 0 0 Q (F0 m pc ls [.int z.1])) : ∀ (x1 : Int32) (x3 : Int32) (y1 : Int32) (s : St) (H : Heap) (locs : List Loc) (ls : Array Slot), XW g A ss (wX g s) H locs → lv_has ls 4 [(0, .ref (g.q 0)), (1, .int x1), (2, .ref (g.q 6)), (3, .int x3)] → f_X_run_6_48 x1 x3 y1 s = some z → W p l e (rmX 7 159) ss m args below meth c H locs 0 0 Q (F0 m 48 ls [.int y1, .ref (g.q 0)]) := by
  have ⟨⟨hx, hb, hml, hown, hts⟩, hK, hA, hN⟩ := C
  intro x1 x3 y1 s H locs ls hX hl h
  rw [f_X_run_6_48] at h
  obtain ⟨s1, es1, h⟩ := lt1_e h
  refine pf_0_returned C hX fl_X_121 d_X_run_48 (fun H locs hX => ?_)
  rw [← es1] at hX
  exact w_X_run_6_51 C hQ x1 x3 s1 H locs ls hX hl h
set_option maxHeartbeats 4000000 in
set_option maxRecDepth 100000 in
theorem w_X_run_6_12 {z : Int32 × St} (C : Cx g A p m c b_X_run 4 ss args R_X) (hQ : ∀ (pc : Nat) (H : Heap) (locs : List Loc) (ls : Array Slot), XW g A ss (wX g z.2) H locs → decode b_X_run pc = .ok (.ireturn, 1) → W p l e (rmX 7 159) ss m args below meth c H locs 0 0 Q (F0 m pc ls [.int z.1])) : ∀ (x1 : Int32) (s : St) (H : Heap) (locs : List Loc) (ls : Array Slot), XW g A ss (wX g s) H locs → lv_has ls 4 [(0, .ref (g.q 0)), (1, .int x1)] → f_X_run_6_12 x1 s = some z → W p l e (rmX 7 159) ss m args below meth c H locs 0 0 Q (F0 m 12 ls []) := by
  have ⟨⟨hx, hb, hml, hown, hts⟩, hK, hA, hN⟩ := C
  intro x1 s H locs ls hX hl h
  rw [f_X_run_6_12] at h
  refine lv_iconst (v := (-1)) hx hb d_X_run_12 (by decide) ?_
  obtain rfl := so1 h
  exact hQ _ H locs ls hX d_X_run_13
set_option maxHeartbeats 4000000 in
set_option maxRecDepth 100000 in
theorem w_X_run_6 {z : Int32 × St} (C : Cx g A p m c b_X_run 4 ss args R_X) (hQ : ∀ (pc : Nat) (H : Heap) (locs : List Loc) (ls : Array Slot), XW g A ss (wX g z.2) H locs → decode b_X_run pc = .ok (.ireturn, 1) → W p l e (rmX 7 159) ss m args below meth c H locs 0 0 Q (F0 m pc ls [.int z.1])) : ∀ (x1 : Int32) (s : St) (H : Heap) (locs : List Loc) (ls : Array Slot), XW g A ss (wX g s) H locs → lv_has ls 4 [(0, .ref (g.q 0)), (1, .int x1)] → f_X_run_6 x1 s = some z → W p l e (rmX 7 159) ss m args below meth c H locs 0 0 Q (F0 m 0 ls []) := by
  have ⟨⟨hx, hb, hml, hown, hts⟩, hK, hA, hN⟩ := C
  intro x1 s H locs ls hX hl h
  rw [f_X_run_6] at h
  refine lv_iload_n hx hb d_X_run_0 rfl (lv_at hl 1 rfl) ?_
  refine lv_if_lt (tgt := 12) hx hb d_X_run_1 (by decide) (fun c1 => ?_) (fun c1 => ?_)
  · have h := ite_t c1 h
    exact w_X_run_6_12 C hQ x1 s H locs ls hX hl h
  · have h := ite_f c1 h
    refine lv_aload_n hx hb d_X_run_4 rfl (lv_at hl 0 rfl) ?_
    refine gf_0_active C hX fl_X_72 d_X_run_5 ?_
    refine lv_iconst (v := (-1)) hx hb d_X_run_8 (by decide) ?_
    refine lv_icmp_ne (tgt := 14) hx hb d_X_run_9 (by decide) (fun c9 => ?_) (fun c9 => ?_)
    · have h := ite_f c9 h
      refine lv_aload_n hx hb d_X_run_14 rfl (lv_at hl 0 rfl) ?_
      obtain ⟨ha15, h⟩ := ae6_e h
      refine x_vR (As := []) (rest := []) C hX (c_X_ae6 l g s ha15) (cw_X_124 C.1.2.2.2.2 C.2.2.2 ⟨by decide, by decide⟩) (x_rc C hX wg_0 rfl) rfl hl.1 rfl (lv_room (Nat.le_of_ble_eq_true rfl)) d_X_run_15 ⟨Nat.le_refl _, Nat.le_refl _⟩ (fun H locs hX => ?_)
      refine lv_astore_n (lv' := [(2, .ref (g.q 6)), (0, .ref (g.q 0)), (1, .int x1)]) hx hb d_X_run_18 rfl hl (by decide) rfl (fun ls hl => ?_)
      refine lv_aload_n hx hb d_X_run_19 rfl (lv_at hl 0 rfl) ?_
      refine lv_iload_n hx hb d_X_run_20 rfl (lv_at hl 2 rfl) ?_
      obtain ⟨r2, s1, hc21, h⟩ := bd_e h
      refine x_vI (As := [.int x1]) (rest := []) C hX (c_Eng_go_S l g x1 s (r2, s1) hc21) (cw_X_134_S C.1.2.2.2.2 C.2.2.2 ⟨by decide, by decide⟩) (x_rc C hX wg_6 rfl) rfl hl.1 rfl (lv_room (Nat.le_of_ble_eq_true rfl)) d_X_run_21 ⟨Nat.le_refl _, Nat.le_refl _⟩ (fun H locs hX => ?_)
      refine lv_istore_n (lv' := [(3, .int r2), (2, .ref (g.q 6)), (0, .ref (g.q 0)), (1, .int x1)]) hx hb d_X_run_24 rfl hl (by decide) rfl (fun ls hl => ?_)
      refine lv_iload_n hx hb d_X_run_25 rfl (lv_at hl 0 rfl) ?_
      refine lv_if_eq (tgt := 51) hx hb d_X_run_26 (by decide) (fun c26 => ?_) (fun c26 => ?_)
      · have h := ite_t c26 h
        exact w_X_run_6_51 C hQ x1 r2 s1 H locs ls hX (lv_sub hl [2, 3, 1, 0] rfl) h
      · have h := ite_f c26 h
        refine lv_aload_n hx hb d_X_run_29 rfl (lv_at hl 2 rfl) ?_
        refine lv_iconst (v := (-1)) hx hb d_X_run_30 (by decide) ?_
        obtain ⟨s3, es3, h⟩ := lt1_e h
        refine pf_0_active C hX fl_X_72 d_X_run_31 (fun H locs hX => ?_)
        rw [← es3] at hX
        refine lv_aload_n hx hb d_X_run_34 rfl (lv_at hl 2 rfl) ?_
        refine lv_iload_n hx hb d_X_run_35 rfl (lv_at hl 0 rfl) ?_
        refine lv_iconst (v := 1) hx hb d_X_run_36 (by decide) ?_
        refine lv_icmp_ne (tgt := 47) hx hb d_X_run_37 (by decide) (fun c37 => ?_) (fun c37 => ?_)
        · have h := ite_f c37 h
          refine lv_iconst (v := 0) hx hb d_X_run_47 (by decide) ?_
          exact w_X_run_6_48 C hQ x1 r2 0 s3 H locs ls hX (lv_sub hl [2, 3, 1, 0] rfl) h
        · have h := ite_t c37 h
          refine lv_aload_n hx hb d_X_run_40 rfl (lv_at hl 1 rfl) ?_
          refine gf_6_value C hX fl_X_137 d_X_run_41 ?_
          refine lv_goto (tgt := 48) hx hb d_X_run_44 (by decide) ?_
          exact w_X_run_6_48 C hQ x1 r2 (s3 6 4) s3 H locs ls hX (lv_sub hl [2, 3, 1, 0] rfl) h
    · have h := ite_t c9 h
      exact w_X_run_6_12 C hQ x1 s H locs ls hX hl h
end WALK
theorem c_X_run_6 (l : Launch) (g : GX) (x1 : Int32) (s : St) (z : Int32 × St) (h : f_X_run_6 x1 s = some z) : MI l g y_X_run b_X_run 4 (some .int) 7 159 [.ref (g.q 0), .int x1] (wX g s) z.1 (wX g z.2) :=
  MI.mk (own := R_X) (by decide) rfl (Nat.le_of_ble_eq_true rfl) fun p e ss m below meth c A Q C hQ ls hX hl => w_X_run_6 C hQ x1 s _ _ ls hX hl h
-- X_run_7
def f_X_run_7_51 (x1 : Int32) (x3 : Int32) (s : St) : Option (Int32 × St) :=
    some (x3, s)
def f_X_run_7_48 (x1 : Int32) (x3 : Int32) (y1 : Int32) (s : St) : Option (Int32 × St) :=
    lt1 (stp s 0 4 y1) fun s1 =>
    f_X_run_7_51 x1 x3 s1
def f_X_run_7_12 (x1 : Int32) (s : St) : Option (Int32 × St) :=
    some ((-1), s)
def f_X_run_7 (x1 : Int32) (s : St) : Option (Int32 × St) :=
    if x1 < 0 then
      f_X_run_7_12 x1 s
    else
      if s 0 3 = (-1) then
        f_X_run_7_12 x1 s
      else
        ae7 (s 0 3) <|
        bd (f_Eng_go_R x1 s) fun r2 s1 =>
        if r2 = 0 then
          f_X_run_7_51 x1 r2 s1
        else
          lt1 (stp s1 0 3 ((-1))) fun s3 =>
          if r2 = 1 then
            f_X_run_7_48 x1 r2 (s3 7 4) s3
          else
            f_X_run_7_48 x1 r2 0 s3
section WALK
variable {p : Program} {l : Launch} {e : Env} {ss : State} {m : MethodId} {args : Array Value} {below : List Frame} {meth : Method} {c : Code} {Q : State → Prop} {g : GX} {A : Nat → Prop}
set_option maxHeartbeats 4000000 in
set_option maxRecDepth 100000 in
theorem w_X_run_7_51 {z : Int32 × St} (C : Cx g A p m c b_X_run 4 ss args R_X) (hQ : ∀ (pc : Nat) (H : Heap) (locs : List Loc) (ls : Array Slot), XW g A ss (wX g z.2) H locs → decode b_X_run pc = .ok (.ireturn, 1) → W p l e (rmX 7 158) ss m args below meth c H locs 0 0 Q (F0 m pc ls [.int z.1])) : ∀ (x1 : Int32) (x3 : Int32) (s : St) (H : Heap) (locs : List Loc) (ls : Array Slot), XW g A ss (wX g s) H locs → lv_has ls 4 [(0, .ref (g.q 0)), (1, .int x1), (2, .ref (g.q 7)), (3, .int x3)] → f_X_run_7_51 x1 x3 s = some z → W p l e (rmX 7 158) ss m args below meth c H locs 0 0 Q (F0 m 51 ls []) := by
  have ⟨⟨hx, hb, hml, hown, hts⟩, hK, hA, hN⟩ := C
  intro x1 x3 s H locs ls hX hl h
  rw [f_X_run_7_51] at h
  refine lv_iload_n hx hb d_X_run_51 rfl (lv_at hl 3 rfl) ?_
  obtain rfl := so1 h
  exact hQ _ H locs ls hX d_X_run_52
set_option maxHeartbeats 4000000 in
set_option maxRecDepth 100000 in
theorem w_X_run_7_48 {z : Int32 × St} (C : Cx g A p m c b_X_run 4 ss args R_X) (hQ : ∀ (pc : Nat) (H : Heap) (locs : List Loc) (ls : Array Slot), XW g A ss (wX g z.2) H locs → decode b_X_run pc = .ok (.ireturn, 1) → W p l e (rmX 7 158) ss m args below meth c H locs 0 0 Q (F0 m pc ls [.int z.1])) : ∀ (x1 : Int32) (x3 : Int32) (y1 : Int32) (s : St) (H : Heap) (locs : List Loc) (ls : Array Slot), XW g A ss (wX g s) H locs → lv_has ls 4 [(0, .ref (g.q 0)), (1, .int x1), (2, .ref (g.q 7)), (3, .int x3)] → f_X_run_7_48 x1 x3 y1 s = some z → W p l e (rmX 7 158) ss m args below meth c H locs 0 0 Q (F0 m 48 ls [.int y1, .ref (g.q 0)]) := by
  have ⟨⟨hx, hb, hml, hown, hts⟩, hK, hA, hN⟩ := C
  intro x1 x3 y1 s H locs ls hX hl h
  rw [f_X_run_7_48] at h
  obtain ⟨s1, es1, h⟩ := lt1_e h
  refine pf_0_returned C hX fl_X_121 d_X_run_48 (fun H locs hX => ?_)
  rw [← es1] at hX
  exact w_X_run_7_51 C hQ x1 x3 s1 H locs ls hX hl h
set_option maxHeartbeats 4000000 in
set_option maxRecDepth 100000 in
theorem w_X_run_7_12 {z : Int32 × St} (C : Cx g A p m c b_X_run 4 ss args R_X) (hQ : ∀ (pc : Nat) (H : Heap) (locs : List Loc) (ls : Array Slot), XW g A ss (wX g z.2) H locs → decode b_X_run pc = .ok (.ireturn, 1) → W p l e (rmX 7 158) ss m args below meth c H locs 0 0 Q (F0 m pc ls [.int z.1])) : ∀ (x1 : Int32) (s : St) (H : Heap) (locs : List Loc) (ls : Array Slot), XW g A ss (wX g s) H locs → lv_has ls 4 [(0, .ref (g.q 0)), (1, .int x1)] → f_X_run_7_12 x1 s = some z → W p l e (rmX 7 158) ss m args below meth c H locs 0 0 Q (F0 m 12 ls []) := by
  have ⟨⟨hx, hb, hml, hown, hts⟩, hK, hA, hN⟩ := C
  intro x1 s H locs ls hX hl h
  rw [f_X_run_7_12] at h
  refine lv_iconst (v := (-1)) hx hb d_X_run_12 (by decide) ?_
  obtain rfl := so1 h
  exact hQ _ H locs ls hX d_X_run_13
set_option maxHeartbeats 4000000 in
set_option maxRecDepth 100000 in
theorem w_X_run_7 {z : Int32 × St} (C : Cx g A p m c b_X_run 4 ss args R_X) (hQ : ∀ (pc : Nat) (H : Heap) (locs : List Loc) (ls : Array Slot), XW g A ss (wX g z.2) H locs → decode b_X_run pc = .ok (.ireturn, 1) → W p l e (rmX 7 158) ss m args below meth c H locs 0 0 Q (F0 m pc ls [.int z.1])) : ∀ (x1 : Int32) (s : St) (H : Heap) (locs : List Loc) (ls : Array Slot), XW g A ss (wX g s) H locs → lv_has ls 4 [(0, .ref (g.q 0)), (1, .int x1)] → f_X_run_7 x1 s = some z → W p l e (rmX 7 158) ss m args below meth c H locs 0 0 Q (F0 m 0 ls []) := by
  have ⟨⟨hx, hb, hml, hown, hts⟩, hK, hA, hN⟩ := C
  intro x1 s H locs ls hX hl h
  rw [f_X_run_7] at h
  refine lv_iload_n hx hb d_X_run_0 rfl (lv_at hl 1 rfl) ?_
  refine lv_if_lt (tgt := 12) hx hb d_X_run_1 (by decide) (fun c1 => ?_) (fun c1 => ?_)
  · have h := ite_t c1 h
    exact w_X_run_7_12 C hQ x1 s H locs ls hX hl h
  · have h := ite_f c1 h
    refine lv_aload_n hx hb d_X_run_4 rfl (lv_at hl 0 rfl) ?_
    refine gf_0_active C hX fl_X_72 d_X_run_5 ?_
    refine lv_iconst (v := (-1)) hx hb d_X_run_8 (by decide) ?_
    refine lv_icmp_ne (tgt := 14) hx hb d_X_run_9 (by decide) (fun c9 => ?_) (fun c9 => ?_)
    · have h := ite_f c9 h
      refine lv_aload_n hx hb d_X_run_14 rfl (lv_at hl 0 rfl) ?_
      obtain ⟨ha15, h⟩ := ae7_e h
      refine x_vR (As := []) (rest := []) C hX (c_X_ae7 l g s ha15) (cw_X_124 C.1.2.2.2.2 C.2.2.2 ⟨by decide, by decide⟩) (x_rc C hX wg_0 rfl) rfl hl.1 rfl (lv_room (Nat.le_of_ble_eq_true rfl)) d_X_run_15 ⟨Nat.le_refl _, Nat.le_refl _⟩ (fun H locs hX => ?_)
      refine lv_astore_n (lv' := [(2, .ref (g.q 7)), (0, .ref (g.q 0)), (1, .int x1)]) hx hb d_X_run_18 rfl hl (by decide) rfl (fun ls hl => ?_)
      refine lv_aload_n hx hb d_X_run_19 rfl (lv_at hl 0 rfl) ?_
      refine lv_iload_n hx hb d_X_run_20 rfl (lv_at hl 2 rfl) ?_
      obtain ⟨r2, s1, hc21, h⟩ := bd_e h
      refine x_vI (As := [.int x1]) (rest := []) C hX (c_Eng_go_R l g x1 s (r2, s1) hc21) (cw_X_134_R C.1.2.2.2.2 C.2.2.2 ⟨by decide, by decide⟩) (x_rc C hX wg_7 rfl) rfl hl.1 rfl (lv_room (Nat.le_of_ble_eq_true rfl)) d_X_run_21 ⟨Nat.le_refl _, Nat.le_refl _⟩ (fun H locs hX => ?_)
      refine lv_istore_n (lv' := [(3, .int r2), (2, .ref (g.q 7)), (0, .ref (g.q 0)), (1, .int x1)]) hx hb d_X_run_24 rfl hl (by decide) rfl (fun ls hl => ?_)
      refine lv_iload_n hx hb d_X_run_25 rfl (lv_at hl 0 rfl) ?_
      refine lv_if_eq (tgt := 51) hx hb d_X_run_26 (by decide) (fun c26 => ?_) (fun c26 => ?_)
      · have h := ite_t c26 h
        exact w_X_run_7_51 C hQ x1 r2 s1 H locs ls hX (lv_sub hl [2, 3, 1, 0] rfl) h
      · have h := ite_f c26 h
        refine lv_aload_n hx hb d_X_run_29 rfl (lv_at hl 2 rfl) ?_
        refine lv_iconst (v := (-1)) hx hb d_X_run_30 (by decide) ?_
        obtain ⟨s3, es3, h⟩ := lt1_e h
        refine pf_0_active C hX fl_X_72 d_X_run_31 (fun H locs hX => ?_)
        rw [← es3] at hX
        refine lv_aload_n hx hb d_X_run_34 rfl (lv_at hl 2 rfl) ?_
        refine lv_iload_n hx hb d_X_run_35 rfl (lv_at hl 0 rfl) ?_
        refine lv_iconst (v := 1) hx hb d_X_run_36 (by decide) ?_
        refine lv_icmp_ne (tgt := 47) hx hb d_X_run_37 (by decide) (fun c37 => ?_) (fun c37 => ?_)
        · have h := ite_f c37 h
          refine lv_iconst (v := 0) hx hb d_X_run_47 (by decide) ?_
          exact w_X_run_7_48 C hQ x1 r2 0 s3 H locs ls hX (lv_sub hl [2, 3, 1, 0] rfl) h
        · have h := ite_t c37 h
          refine lv_aload_n hx hb d_X_run_40 rfl (lv_at hl 1 rfl) ?_
          refine gf_7_value C hX fl_X_137 d_X_run_41 ?_
          refine lv_goto (tgt := 48) hx hb d_X_run_44 (by decide) ?_
          exact w_X_run_7_48 C hQ x1 r2 (s3 7 4) s3 H locs ls hX (lv_sub hl [2, 3, 1, 0] rfl) h
    · have h := ite_t c9 h
      exact w_X_run_7_12 C hQ x1 s H locs ls hX hl h
end WALK
theorem c_X_run_7 (l : Launch) (g : GX) (x1 : Int32) (s : St) (z : Int32 × St) (h : f_X_run_7 x1 s = some z) : MI l g y_X_run b_X_run 4 (some .int) 7 158 [.ref (g.q 0), .int x1] (wX g s) z.1 (wX g z.2) :=
  MI.mk (own := R_X) (by decide) rfl (Nat.le_of_ble_eq_true rfl) fun p e ss m below meth c A Q C hQ ls hX hl => w_X_run_7 C hQ x1 s _ _ ls hX hl h
-- X_result
def f_X_result (s : St) : Option Int32 :=
    some (s 0 4)
section WALK
variable {p : Program} {l : Launch} {e : Env} {ss : State} {m : MethodId} {args : Array Value} {below : List Frame} {meth : Method} {c : Code} {Q : State → Prop} {g : GX} {A : Nat → Prop}
set_option maxHeartbeats 4000000 in
set_option maxRecDepth 100000 in
theorem w_X_result {s : St} {z : Int32} (C : Cx g A p m c b_X_result 1 ss args R_X) (hQ : ∀ (pc : Nat) (H : Heap) (locs : List Loc) (ls : Array Slot), XW g A ss (wX g s) H locs → decode b_X_result pc = .ok (.ireturn, 1) → W p l e (rmX 0 0) ss m args below meth c H locs 0 0 Q (F0 m pc ls [.int z])) : ∀ (H : Heap) (locs : List Loc) (ls : Array Slot), XW g A ss (wX g s) H locs → lv_has ls 1 [(0, .ref (g.q 0))] → f_X_result s = some z → W p l e (rmX 0 0) ss m args below meth c H locs 0 0 Q (F0 m 0 ls []) := by
  have ⟨⟨hx, hb, hml, hown, hts⟩, hK, hA, hN⟩ := C
  intro  H locs ls hX hl h
  rw [f_X_result] at h
  refine lv_aload_n hx hb d_X_result_0 rfl (lv_at hl 0 rfl) ?_
  refine gf_0_returned C hX fl_X_121 d_X_result_1 ?_
  obtain rfl := so1 h
  exact hQ _ H locs ls hX d_X_result_4
end WALK
theorem c_X_result (l : Launch) (g : GX) (s : St) (z : Int32) (h : f_X_result s = some z) : MI l g y_X_result b_X_result 1 (some .int) 0 0 [.ref (g.q 0)] (wX g s) z (wX g s) :=
  MI.mk (own := R_X) (by decide) rfl (Nat.le_of_ble_eq_true rfl) fun p e ss m below meth c A Q C hQ ls hX hl => w_X_result C hQ _ _ ls hX hl h
-- X_peekMem
def f_X_peekMem_25 (s : St) (x1 : Int32) : Option Int32 :=
    some ((-1))
def f_X_peekMem (s : St) (x1 : Int32) : Option Int32 :=
    if s 0 1 = 0 then
      f_X_peekMem_25 s x1
    else
      if x1 < 0 then
        f_X_peekMem_25 s x1
      else
        lt1 (s 5 0 * 64) fun v1 =>
        if x1 < v1 then
          lt1 (rGet 256 (s 34) x1) fun r2 =>
          some (r2)
        else
          f_X_peekMem_25 s x1
section WALK
variable {p : Program} {l : Launch} {e : Env} {ss : State} {m : MethodId} {args : Array Value} {below : List Frame} {meth : Method} {c : Code} {Q : State → Prop} {g : GX} {A : Nat → Prop}
set_option maxHeartbeats 4000000 in
set_option maxRecDepth 100000 in
theorem w_X_peekMem_25 {s : St} {z : Int32} (C : Cx g A p m c b_X_peekMem 2 ss args R_X) (hQ : ∀ (pc : Nat) (H : Heap) (locs : List Loc) (ls : Array Slot), XW g A ss (wX g s) H locs → decode b_X_peekMem pc = .ok (.ireturn, 1) → W p l e (rmX 1 21) ss m args below meth c H locs 0 0 Q (F0 m pc ls [.int z])) : ∀ (x1 : Int32) (H : Heap) (locs : List Loc) (ls : Array Slot), XW g A ss (wX g s) H locs → lv_has ls 2 [(0, .ref (g.q 0)), (1, .int x1)] → f_X_peekMem_25 s x1 = some z → W p l e (rmX 1 21) ss m args below meth c H locs 0 0 Q (F0 m 25 ls []) := by
  have ⟨⟨hx, hb, hml, hown, hts⟩, hK, hA, hN⟩ := C
  intro x1 H locs ls hX hl h
  rw [f_X_peekMem_25] at h
  refine lv_iconst (v := (-1)) hx hb d_X_peekMem_25 (by decide) ?_
  obtain rfl := so1 h
  exact hQ _ H locs ls hX d_X_peekMem_26
set_option maxHeartbeats 4000000 in
set_option maxRecDepth 100000 in
theorem w_X_peekMem {s : St} {z : Int32} (C : Cx g A p m c b_X_peekMem 2 ss args R_X) (hQ : ∀ (pc : Nat) (H : Heap) (locs : List Loc) (ls : Array Slot), XW g A ss (wX g s) H locs → decode b_X_peekMem pc = .ok (.ireturn, 1) → W p l e (rmX 1 21) ss m args below meth c H locs 0 0 Q (F0 m pc ls [.int z])) : ∀ (x1 : Int32) (H : Heap) (locs : List Loc) (ls : Array Slot), XW g A ss (wX g s) H locs → lv_has ls 2 [(0, .ref (g.q 0)), (1, .int x1)] → f_X_peekMem s x1 = some z → W p l e (rmX 1 21) ss m args below meth c H locs 0 0 Q (F0 m 0 ls []) := by
  have ⟨⟨hx, hb, hml, hown, hts⟩, hK, hA, hN⟩ := C
  intro x1 H locs ls hX hl h
  rw [f_X_peekMem] at h
  refine lv_aload_n hx hb d_X_peekMem_0 rfl (lv_at hl 0 rfl) ?_
  refine gf_0_loaded C hX fl_X_76 d_X_peekMem_1 ?_
  refine lv_if_eq (tgt := 25) hx hb d_X_peekMem_4 (by decide) (fun c4 => ?_) (fun c4 => ?_)
  · have h := ite_t c4 h
    exact w_X_peekMem_25 C hQ x1 H locs ls hX hl h
  · have h := ite_f c4 h
    refine lv_iload_n hx hb d_X_peekMem_7 rfl (lv_at hl 1 rfl) ?_
    refine lv_if_lt (tgt := 25) hx hb d_X_peekMem_8 (by decide) (fun c8 => ?_) (fun c8 => ?_)
    · have h := ite_t c8 h
      exact w_X_peekMem_25 C hQ x1 H locs ls hX hl h
    · have h := ite_f c8 h
      refine lv_iload_n hx hb d_X_peekMem_11 rfl (lv_at hl 1 rfl) ?_
      refine lv_aload_n hx hb d_X_peekMem_12 rfl (lv_at hl 0 rfl) ?_
      refine gf_0_store C hX fl_X_42 d_X_peekMem_13 ?_
      refine gf_5_pages C hX fl_X_140 d_X_peekMem_16 ?_
      refine lv_bipush (v := 64) hx hb d_X_peekMem_19 (by decide) ?_
      obtain ⟨v1, ev1, h⟩ := lt1_e h
      refine x_imul hx hb d_X_peekMem_21 ev1 ?_
      refine lv_icmp_lt (tgt := 27) hx hb d_X_peekMem_22 (by decide) (fun c22 => ?_) (fun c22 => ?_)
      · have h := ite_t c22 h
        refine lv_aload_n hx hb d_X_peekMem_27 rfl (lv_at hl 0 rfl) ?_
        refine gf_0_store C hX fl_X_42 d_X_peekMem_28 ?_
        refine gf_5_memory C hX fl_X_143 d_X_peekMem_31 ?_
        refine lv_iload_n hx hb d_X_peekMem_34 rfl (lv_at hl 1 rfl) ?_
        obtain ⟨r2, er2, h⟩ := lt1_e h
        refine x_vI (r := r2) (ws' := wX g s) (As := [.int x1]) (rest := []) C hX (by rw [er2]; exact cRowGet_33 l g s x1) (cw_X_146 C.1.2.2.2.2 C.2.2.2 ⟨by decide, by decide⟩) (x_rc C hX wg_33 rfl) rfl hl.1 rfl (lv_room (Nat.le_of_ble_eq_true rfl)) d_X_peekMem_35 ⟨Nat.le_refl _, Nat.le_refl _⟩ (fun H locs hX => ?_)
        obtain rfl := so1 h
        exact hQ _ H locs ls hX d_X_peekMem_38
      · have h := ite_f c22 h
        exact w_X_peekMem_25 C hQ x1 H locs ls hX hl h
end WALK
theorem c_X_peekMem (l : Launch) (g : GX) (x1 : Int32) (s : St) (z : Int32) (h : f_X_peekMem s x1 = some z) : MI l g y_X_peekMem b_X_peekMem 2 (some .int) 1 21 [.ref (g.q 0), .int x1] (wX g s) z (wX g s) :=
  MI.mk (own := R_X) (by decide) rfl (Nat.le_of_ble_eq_true rfl) fun p e ss m below meth c A Q C hQ ls hX hl => w_X_peekMem C hQ x1 _ _ ls hX hl h
-- X_rcodeLen
def f_X_rcodeLen_18 (s : St) (y0 : Int32) : Option Int32 :=
    some (y0)
def f_X_rcodeLen (s : St) : Option Int32 :=
    if s 0 2 = 0 then
      f_X_rcodeLen_18 s 0
    else
      bd1 (f_RC_length s) fun r1 =>
      f_X_rcodeLen_18 s r1
section WALK
variable {p : Program} {l : Launch} {e : Env} {ss : State} {m : MethodId} {args : Array Value} {below : List Frame} {meth : Method} {c : Code} {Q : State → Prop} {g : GX} {A : Nat → Prop}
set_option maxHeartbeats 4000000 in
set_option maxRecDepth 100000 in
theorem w_X_rcodeLen_18 {s : St} {z : Int32} (C : Cx g A p m c b_X_rcodeLen 1 ss args R_X) (hQ : ∀ (pc : Nat) (H : Heap) (locs : List Loc) (ls : Array Slot), XW g A ss (wX g s) H locs → decode b_X_rcodeLen pc = .ok (.ireturn, 1) → W p l e (rmX 1 20) ss m args below meth c H locs 0 0 Q (F0 m pc ls [.int z])) : ∀ (y0 : Int32) (H : Heap) (locs : List Loc) (ls : Array Slot), XW g A ss (wX g s) H locs → lv_has ls 1 [(0, .ref (g.q 0))] → f_X_rcodeLen_18 s y0 = some z → W p l e (rmX 1 20) ss m args below meth c H locs 0 0 Q (F0 m 18 ls [.int y0]) := by
  have ⟨⟨hx, hb, hml, hown, hts⟩, hK, hA, hN⟩ := C
  intro y0 H locs ls hX hl h
  rw [f_X_rcodeLen_18] at h
  obtain rfl := so1 h
  exact hQ _ H locs ls hX d_X_rcodeLen_18
set_option maxHeartbeats 4000000 in
set_option maxRecDepth 100000 in
theorem w_X_rcodeLen {s : St} {z : Int32} (C : Cx g A p m c b_X_rcodeLen 1 ss args R_X) (hQ : ∀ (pc : Nat) (H : Heap) (locs : List Loc) (ls : Array Slot), XW g A ss (wX g s) H locs → decode b_X_rcodeLen pc = .ok (.ireturn, 1) → W p l e (rmX 1 20) ss m args below meth c H locs 0 0 Q (F0 m pc ls [.int z])) : ∀ (H : Heap) (locs : List Loc) (ls : Array Slot), XW g A ss (wX g s) H locs → lv_has ls 1 [(0, .ref (g.q 0))] → f_X_rcodeLen s = some z → W p l e (rmX 1 20) ss m args below meth c H locs 0 0 Q (F0 m 0 ls []) := by
  have ⟨⟨hx, hb, hml, hown, hts⟩, hK, hA, hN⟩ := C
  intro  H locs ls hX hl h
  rw [f_X_rcodeLen] at h
  refine lv_aload_n hx hb d_X_rcodeLen_0 rfl (lv_at hl 0 rfl) ?_
  refine gf_0_compiled C hX fl_X_95 d_X_rcodeLen_1 ?_
  refine lv_if_eq (tgt := 17) hx hb d_X_rcodeLen_4 (by decide) (fun c4 => ?_) (fun c4 => ?_)
  · have h := ite_t c4 h
    refine lv_iconst (v := 0) hx hb d_X_rcodeLen_17 (by decide) ?_
    exact w_X_rcodeLen_18 C hQ 0 H locs ls hX hl h
  · have h := ite_f c4 h
    refine lv_aload_n hx hb d_X_rcodeLen_7 rfl (lv_at hl 0 rfl) ?_
    refine gf_0_registerCode C hX fl_X_35 d_X_rcodeLen_8 ?_
    obtain ⟨r1, hc11, h⟩ := bd1_e h
    refine x_vI (As := []) (rest := []) C hX (c_RC_length l g s r1 hc11) (cw_X_149 C.1.2.2.2.2 C.2.2.2 ⟨by decide, by decide⟩) (x_rc C hX wg_4 rfl) rfl hl.1 rfl (lv_room (Nat.le_of_ble_eq_true rfl)) d_X_rcodeLen_11 ⟨Nat.le_refl _, Nat.le_refl _⟩ (fun H locs hX => ?_)
    refine lv_goto (tgt := 18) hx hb d_X_rcodeLen_14 (by decide) ?_
    exact w_X_rcodeLen_18 C hQ r1 H locs ls hX hl h
end WALK
theorem c_X_rcodeLen (l : Launch) (g : GX) (s : St) (z : Int32) (h : f_X_rcodeLen s = some z) : MI l g y_X_rcodeLen b_X_rcodeLen 1 (some .int) 1 20 [.ref (g.q 0)] (wX g s) z (wX g s) :=
  MI.mk (own := R_X) (by decide) rfl (Nat.le_of_ble_eq_true rfl) fun p e ss m below meth c A Q C hQ ls hX hl => w_X_rcodeLen C hQ _ _ ls hX hl h
-- X_rcode
def f_X_rcode_12 (s : St) (x1 : Int32) : Option Int32 :=
    some ((-1))
def f_X_rcode (s : St) (x1 : Int32) : Option Int32 :=
    if x1 < 0 then
      f_X_rcode_12 s x1
    else
      bd1 (f_X_rcodeLen s) fun r1 =>
      if x1 < r1 then
        lt1 (rGet 960 (s 30) x1) fun r2 =>
        some (r2)
      else
        f_X_rcode_12 s x1
section WALK
variable {p : Program} {l : Launch} {e : Env} {ss : State} {m : MethodId} {args : Array Value} {below : List Frame} {meth : Method} {c : Code} {Q : State → Prop} {g : GX} {A : Nat → Prop}
set_option maxHeartbeats 4000000 in
set_option maxRecDepth 100000 in
theorem w_X_rcode_12 {s : St} {z : Int32} (C : Cx g A p m c b_X_rcode 2 ss args R_X) (hQ : ∀ (pc : Nat) (H : Heap) (locs : List Loc) (ls : Array Slot), XW g A ss (wX g s) H locs → decode b_X_rcode pc = .ok (.ireturn, 1) → W p l e (rmX 2 40) ss m args below meth c H locs 0 0 Q (F0 m pc ls [.int z])) : ∀ (x1 : Int32) (H : Heap) (locs : List Loc) (ls : Array Slot), XW g A ss (wX g s) H locs → lv_has ls 2 [(0, .ref (g.q 0)), (1, .int x1)] → f_X_rcode_12 s x1 = some z → W p l e (rmX 2 40) ss m args below meth c H locs 0 0 Q (F0 m 12 ls []) := by
  have ⟨⟨hx, hb, hml, hown, hts⟩, hK, hA, hN⟩ := C
  intro x1 H locs ls hX hl h
  rw [f_X_rcode_12] at h
  refine lv_iconst (v := (-1)) hx hb d_X_rcode_12 (by decide) ?_
  obtain rfl := so1 h
  exact hQ _ H locs ls hX d_X_rcode_13
set_option maxHeartbeats 4000000 in
set_option maxRecDepth 100000 in
theorem w_X_rcode {s : St} {z : Int32} (C : Cx g A p m c b_X_rcode 2 ss args R_X) (hQ : ∀ (pc : Nat) (H : Heap) (locs : List Loc) (ls : Array Slot), XW g A ss (wX g s) H locs → decode b_X_rcode pc = .ok (.ireturn, 1) → W p l e (rmX 2 40) ss m args below meth c H locs 0 0 Q (F0 m pc ls [.int z])) : ∀ (x1 : Int32) (H : Heap) (locs : List Loc) (ls : Array Slot), XW g A ss (wX g s) H locs → lv_has ls 2 [(0, .ref (g.q 0)), (1, .int x1)] → f_X_rcode s x1 = some z → W p l e (rmX 2 40) ss m args below meth c H locs 0 0 Q (F0 m 0 ls []) := by
  have ⟨⟨hx, hb, hml, hown, hts⟩, hK, hA, hN⟩ := C
  intro x1 H locs ls hX hl h
  rw [f_X_rcode] at h
  refine lv_iload_n hx hb d_X_rcode_0 rfl (lv_at hl 1 rfl) ?_
  refine lv_if_lt (tgt := 12) hx hb d_X_rcode_1 (by decide) (fun c1 => ?_) (fun c1 => ?_)
  · have h := ite_t c1 h
    exact w_X_rcode_12 C hQ x1 H locs ls hX hl h
  · have h := ite_f c1 h
    refine lv_iload_n hx hb d_X_rcode_4 rfl (lv_at hl 1 rfl) ?_
    refine lv_aload_n hx hb d_X_rcode_5 rfl (lv_at hl 0 rfl) ?_
    obtain ⟨r1, hc6, h⟩ := bd1_e h
    refine x_vI (As := []) (rest := [.int x1]) C hX (c_X_rcodeLen l g s r1 hc6) (cw_X_152 C.1.2.2.2.2 C.2.2.2 ⟨by decide, by decide⟩) (x_rc C hX wg_0 rfl) rfl hl.1 rfl (lv_room (Nat.le_of_ble_eq_true rfl)) d_X_rcode_6 ⟨Nat.le_refl _, Nat.le_refl _⟩ (fun H locs hX => ?_)
    refine lv_icmp_lt (tgt := 14) hx hb d_X_rcode_9 (by decide) (fun c9 => ?_) (fun c9 => ?_)
    · have h := ite_t c9 h
      refine lv_aload_n hx hb d_X_rcode_14 rfl (lv_at hl 0 rfl) ?_
      refine gf_0_registerCode C hX fl_X_35 d_X_rcode_15 ?_
      refine gf_4_words C hX fl_X_155 d_X_rcode_18 ?_
      refine lv_iload_n hx hb d_X_rcode_21 rfl (lv_at hl 1 rfl) ?_
      obtain ⟨r2, er2, h⟩ := lt1_e h
      refine x_vI (r := r2) (ws' := wX g s) (As := [.int x1]) (rest := []) C hX (by rw [er2]; exact cRowGet_29 l g s x1) (cw_X_146 C.1.2.2.2.2 C.2.2.2 ⟨by decide, by decide⟩) (x_rc C hX wg_29 rfl) rfl hl.1 rfl (lv_room (Nat.le_of_ble_eq_true rfl)) d_X_rcode_22 ⟨Nat.le_refl _, Nat.le_refl _⟩ (fun H locs hX => ?_)
      obtain rfl := so1 h
      exact hQ _ H locs ls hX d_X_rcode_25
    · have h := ite_f c9 h
      exact w_X_rcode_12 C hQ x1 H locs ls hX hl h
end WALK
theorem c_X_rcode (l : Launch) (g : GX) (x1 : Int32) (s : St) (z : Int32) (h : f_X_rcode s x1 = some z) : MI l g y_X_rcode b_X_rcode 2 (some .int) 2 40 [.ref (g.q 0), .int x1] (wX g s) z (wX g s) :=
  MI.mk (own := R_X) (by decide) rfl (Nat.le_of_ble_eq_true rfl) fun p e ss m below meth c A Q C hQ ls hX hl => w_X_rcode C hQ x1 _ _ ls hX hl h
-- X_reset
def f_X_reset (s : St) : Option St :=
    bd1 (f_Rd_forget s) fun s1 =>
    lt1 (stp s1 0 0 0) fun s2 =>
    lt1 (stp s2 0 1 0) fun s3 =>
    lt1 (stp s3 0 2 0) fun s4 =>
    lt1 (stp s4 0 3 ((-1))) fun s5 =>
    lt1 (stp s5 0 4 0) fun s6 =>
    some s6
section WALK
variable {p : Program} {l : Launch} {e : Env} {ss : State} {m : MethodId} {args : Array Value} {below : List Frame} {meth : Method} {c : Code} {Q : State → Prop} {g : GX} {A : Nat → Prop}
set_option maxHeartbeats 4000000 in
set_option maxRecDepth 100000 in
theorem w_X_reset {z : St} (C : Cx g A p m c b_X_reset 1 ss args R_X) (hQ : ∀ (pc : Nat) (H : Heap) (locs : List Loc) (ls : Array Slot), XW g A ss (wX g z) H locs → decode b_X_reset pc = .ok (.return_, 1) → W p l e (rmX 1 20) ss m args below meth c H locs 0 0 Q (F0 m pc ls [])) : ∀ (s : St) (H : Heap) (locs : List Loc) (ls : Array Slot), XW g A ss (wX g s) H locs → lv_has ls 1 [(0, .ref (g.q 0))] → f_X_reset s = some z → W p l e (rmX 1 20) ss m args below meth c H locs 0 0 Q (F0 m 0 ls []) := by
  have ⟨⟨hx, hb, hml, hown, hts⟩, hK, hA, hN⟩ := C
  intro s H locs ls hX hl h
  rw [f_X_reset] at h
  refine lv_aload_n hx hb d_X_reset_0 rfl (lv_at hl 0 rfl) ?_
  refine gf_0_reader C hX fl_X_21 d_X_reset_1 ?_
  obtain ⟨s1, hc4, h⟩ := bd1_e h
  refine x_vV (As := []) (rest := []) C hX (c_Rd_forget l g s s1 hc4) (cw_X_158 C.1.2.2.2.2 C.2.2.2 ⟨by decide, by decide⟩) (x_rc C hX wg_2 rfl) rfl hl.1 rfl (lv_room (Nat.le_of_ble_eq_true rfl)) d_X_reset_4 ⟨Nat.le_refl _, Nat.le_refl _⟩ (fun H locs hX => ?_)
  refine lv_aload_n hx hb d_X_reset_7 rfl (lv_at hl 0 rfl) ?_
  refine lv_iconst (v := 0) hx hb d_X_reset_8 (by decide) ?_
  obtain ⟨s2, es2, h⟩ := lt1_e h
  refine pf_0_argumentCount C hX fl_X_101 d_X_reset_9 (fun H locs hX => ?_)
  rw [← es2] at hX
  refine lv_aload_n hx hb d_X_reset_12 rfl (lv_at hl 0 rfl) ?_
  refine lv_iconst (v := 0) hx hb d_X_reset_13 (by decide) ?_
  obtain ⟨s3, es3, h⟩ := lt1_e h
  refine pf_0_loaded C hX fl_X_76 (Or.inl rfl) d_X_reset_14 (fun H locs hX => ?_)
  rw [← es3] at hX
  refine lv_aload_n hx hb d_X_reset_17 rfl (lv_at hl 0 rfl) ?_
  refine lv_iconst (v := 0) hx hb d_X_reset_18 (by decide) ?_
  obtain ⟨s4, es4, h⟩ := lt1_e h
  refine pf_0_compiled C hX fl_X_95 (Or.inl rfl) d_X_reset_19 (fun H locs hX => ?_)
  rw [← es4] at hX
  refine lv_aload_n hx hb d_X_reset_22 rfl (lv_at hl 0 rfl) ?_
  refine lv_iconst (v := (-1)) hx hb d_X_reset_23 (by decide) ?_
  obtain ⟨s5, es5, h⟩ := lt1_e h
  refine pf_0_active C hX fl_X_72 d_X_reset_24 (fun H locs hX => ?_)
  rw [← es5] at hX
  refine lv_aload_n hx hb d_X_reset_27 rfl (lv_at hl 0 rfl) ?_
  refine lv_iconst (v := 0) hx hb d_X_reset_28 (by decide) ?_
  obtain ⟨s6, es6, h⟩ := lt1_e h
  refine pf_0_returned C hX fl_X_121 d_X_reset_29 (fun H locs hX => ?_)
  rw [← es6] at hX
  obtain rfl := so1 h
  exact hQ _ H locs ls hX d_X_reset_32
end WALK
theorem c_X_reset (l : Launch) (g : GX) (s : St) (z : St) (h : f_X_reset s = some z) : MV l g y_X_reset b_X_reset 1 none 1 20 [.ref (g.q 0)] (wX g s) (wX g z) :=
  MV.mk (own := R_X) (by decide) rfl (Nat.le_of_ble_eq_true rfl) fun p e ss m below meth c A Q C hQ ls hX hl => w_X_reset C hQ s _ _ ls hX hl h
