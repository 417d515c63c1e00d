-- Rd_readModule
def f_Rd_readModule_129 (x1 : Int32) (x2 : Int32) (s : St) : Option (Int32 × St) :=
    some (s 2 5, s)
def f_Rd_readModule_107 (x1 : Int32) (x2 : Int32) (s : St) : Option (Int32 × St) :=
    lt1 (s 12 0) fun r1 =>
    if s 2 4 = r1 then
      f_Rd_readModule_129 x1 x2 s
    else
      bd1 (f_Rd_refuse 1 s) fun s2 =>
      f_Rd_readModule_129 x1 x2 s2
def f_Rd_readModule_59 : Nat → Int32 → Int32 → St → Option (Int32 × St)
  | 0, _, _, _ => none
  | n + 1, x1, x2, s =>
    if 11 < x2 then
      f_Rd_readModule_107 x1 x2 s
    else
      if s 2 5 = 0 then
        if s 2 1 ≤ s 2 2 then
          f_Rd_readModule_107 x1 x2 s
        else
          bd (f_Rd_nextByte s) fun r2 s1 =>
          bd1 (f_Rd_judgeSection r2 x1 s1) fun s3 =>
          bd1 (f_Rd_readSection r2 s3) fun s4 =>
          lt1 (x2 + (1)) fun v5 =>
          f_Rd_readModule_59 n r2 v5 s4
      else
        f_Rd_readModule_107 x1 x2 s
def f_Rd_readModule_32 : Nat → Int32 → St → Option (Int32 × St)
  | 0, _, _ => none
  | n + 1, x1, s =>
    if 8 ≤ x1 then
      f_Rd_readModule_59 FU ((-1)) 0 s
    else
      gi x1 8 <|
      lt1 (hdr (Int32.toNatClampNeg x1)) fun v1 =>
      bd1 (f_Rd_expect v1 s) fun s2 =>
      lt1 (x1 + (1)) fun v3 =>
      f_Rd_readModule_32 n v3 s2
def f_Rd_readModule (s : St) : Option (Int32 × St) :=
    bd1 (f_Cont_clear s) fun s1 =>
    lt1 (stp s1 2 2 0) fun s2 =>
    lt1 (stp s2 2 3 (s2 2 1)) fun s3 =>
    lt1 (stp s3 2 4 0) fun s4 =>
    lt1 (stp s4 2 5 0) fun s5 =>
    f_Rd_readModule_32 FU 0 s5
section WALK
variable {p : Program} {l : Launch} {e : Env} {ss : State} {m : MethodId} {args : Array Value} {below : List Frame} {meth : Method} {c : Code} {Q : State → Prop} {g : GX} {A : Nat → Prop}
set_option maxHeartbeats 4000000 in
set_option maxRecDepth 100000 in
theorem w_Rd_readModule_129 {z : Int32 × St} (C : Cx g A p m c b_Rd_readModule 4 ss args R_Rd) (hQ : ∀ (pc : Nat) (H : Heap) (locs : List Loc) (ls : Array Slot), XW g A ss (wX g z.2) H locs → decode b_Rd_readModule pc = .ok (.ireturn, 1) → W p l e (rmX 6 135) ss m args below meth c H locs 0 0 Q (F0 m pc ls [.int z.1])) : ∀ (x1 : Int32) (x2 : Int32) (s : St) (H : Heap) (locs : List Loc) (ls : Array Slot), XW g A ss (wX g s) H locs → lv_has ls 4 [(0, .ref (g.q 2)), (1, .int x1), (2, .int x2)] → f_Rd_readModule_129 x1 x2 s = some z → W p l e (rmX 6 135) ss m args below meth c H locs 0 0 Q (F0 m 129 ls []) := by
  have ⟨⟨hx, hb, hml, hown, hts⟩, hK, hA, hN⟩ := C
  obtain ⟨tH, hZH, hTH⟩ := hA.2
  intro x1 x2 s H locs ls hX hl h
  rw [f_Rd_readModule_129] at h
  refine lv_aload_n hx hb d_Rd_readModule_129 rfl (lv_at hl 0 rfl) ?_
  refine gf_2_fault C hX fl_Rd_46 d_Rd_readModule_130 ?_
  obtain rfl := so1 h
  exact hQ _ H locs ls hX d_Rd_readModule_133
set_option maxHeartbeats 4000000 in
set_option maxRecDepth 100000 in
theorem w_Rd_readModule_107 {z : Int32 × St} (C : Cx g A p m c b_Rd_readModule 4 ss args R_Rd) (hQ : ∀ (pc : Nat) (H : Heap) (locs : List Loc) (ls : Array Slot), XW g A ss (wX g z.2) H locs → decode b_Rd_readModule pc = .ok (.ireturn, 1) → W p l e (rmX 6 135) ss m args below meth c H locs 0 0 Q (F0 m pc ls [.int z.1])) : ∀ (x1 : Int32) (x2 : Int32) (s : St) (H : Heap) (locs : List Loc) (ls : Array Slot), XW g A ss (wX g s) H locs → lv_has ls 4 [(0, .ref (g.q 2)), (1, .int x1), (2, .int x2)] → f_Rd_readModule_107 x1 x2 s = some z → W p l e (rmX 6 135) ss m args below meth c H locs 0 0 Q (F0 m 107 ls []) := by
  have ⟨⟨hx, hb, hml, hown, hts⟩, hK, hA, hN⟩ := C
  obtain ⟨tH, hZH, hTH⟩ := hA.2
  intro x1 x2 s H locs ls hX hl h
  rw [f_Rd_readModule_107] at h
  refine lv_aload_n hx hb d_Rd_readModule_107 rfl (lv_at hl 0 rfl) ?_
  refine gf_2_bodies C hX fl_Rd_43 d_Rd_readModule_108 ?_
  refine lv_aload_n hx hb d_Rd_readModule_111 rfl (lv_at hl 0 rfl) ?_
  refine gf_2_contents C hX fl_Rd_24 d_Rd_readModule_112 ?_
  refine gf_1_functions C hX fl_Rd_66 d_Rd_readModule_115 ?_
  obtain ⟨r1, er1, h⟩ := lt1_e h
  refine x_vI (r := r1) (ws' := wX g s) (As := []) (rest := [.int (s 2 4)]) C hX (by rw [er1]; exact cTabCount_12 l g s) (cw_Rd_70 C.1.2.2.2.2 C.2.2.2 ⟨by decide, by decide⟩) (x_rc C hX wg_12 rfl) rfl hl.1 rfl (lv_room (Nat.le_of_ble_eq_true rfl)) d_Rd_readModule_118 ⟨Nat.le_refl _, Nat.le_refl _⟩ (fun H locs hX => ?_)
  refine lv_icmp_eq (tgt := 129) hx hb d_Rd_readModule_121 (by decide) (fun c121 => ?_) (fun c121 => ?_)
  · have h := ite_t c121 h
    exact w_Rd_readModule_129 C hQ x1 x2 s H locs ls hX hl h
  · have h := ite_f c121 h
    refine lv_aload_n hx hb d_Rd_readModule_124 rfl (lv_at hl 0 rfl) ?_
    refine lv_iconst (v := 1) hx hb d_Rd_readModule_125 (by decide) ?_
    obtain ⟨s2, hc126, h⟩ := bd1_e h
    refine x_vV (As := [.int 1]) (rest := []) C hX (c_Rd_refuse l g 1 s s2 hc126) (cw_Rd_75 C.1.2.2.2.2 C.2.2.2 ⟨by decide, by decide⟩) (x_rc C hX wg_2 rfl) rfl hl.1 rfl (lv_room (Nat.le_of_ble_eq_true rfl)) d_Rd_readModule_126 ⟨Nat.le_refl _, Nat.le_refl _⟩ (fun H locs hX => ?_)
    exact w_Rd_readModule_129 C hQ x1 x2 s2 H locs ls hX hl h
set_option maxHeartbeats 4000000 in
set_option maxRecDepth 100000 in
theorem w_Rd_readModule_59 {z : Int32 × St} (C : Cx g A p m c b_Rd_readModule 4 ss args R_Rd) (hQ : ∀ (pc : Nat) (H : Heap) (locs : List Loc) (ls : Array Slot), XW g A ss (wX g z.2) H locs → decode b_Rd_readModule pc = .ok (.ireturn, 1) → W p l e (rmX 6 135) ss m args below meth c H locs 0 0 Q (F0 m pc ls [.int z.1])) (n : Nat) : ∀ (x1 : Int32) (x2 : Int32) (s : St) (H : Heap) (locs : List Loc) (ls : Array Slot), XW g A ss (wX g s) H locs → lv_has ls 4 [(0, .ref (g.q 2)), (1, .int x1), (2, .int x2)] → f_Rd_readModule_59 n x1 x2 s = some z → W p l e (rmX 6 135) ss m args below meth c H locs 0 0 Q (F0 m 59 ls []) := by
  have ⟨⟨hx, hb, hml, hown, hts⟩, hK, hA, hN⟩ := C
  obtain ⟨tH, hZH, hTH⟩ := hA.2
  induction n with
  | zero => intro x1 x2 s H locs ls hX hl h; cases h
  | succ n ih =>
    intro x1 x2 s H locs ls hX hl h
    rw [f_Rd_readModule_59] at h
    refine lv_iload_n hx hb d_Rd_readModule_59 rfl (lv_at hl 2 rfl) ?_
    refine lv_bipush (v := 11) hx hb d_Rd_readModule_60 (by decide) ?_
    refine lv_icmp_gt (tgt := 107) hx hb d_Rd_readModule_62 (by decide) (fun c62 => ?_) (fun c62 => ?_)
    · have h := ite_t c62 h
      exact w_Rd_readModule_107 C hQ x1 x2 s H locs ls hX hl h
    · have h := ite_f c62 h
      refine lv_aload_n hx hb d_Rd_readModule_65 rfl (lv_at hl 0 rfl) ?_
      refine gf_2_fault C hX fl_Rd_46 d_Rd_readModule_66 ?_
      refine lv_if_ne (tgt := 107) hx hb d_Rd_readModule_69 (by decide) (fun c69 => ?_) (fun c69 => ?_)
      · have h := ite_f c69 h
        exact w_Rd_readModule_107 C hQ x1 x2 s H locs ls hX hl h
      · have h := ite_t c69 h
        refine lv_aload_n hx hb d_Rd_readModule_72 rfl (lv_at hl 0 rfl) ?_
        refine gf_2_place C hX fl_Rd_37 d_Rd_readModule_73 ?_
        refine lv_aload_n hx hb d_Rd_readModule_76 rfl (lv_at hl 0 rfl) ?_
        refine gf_2_fed C hX fl_Rd_28 d_Rd_readModule_77 ?_
        refine lv_icmp_ge (tgt := 107) hx hb d_Rd_readModule_80 (by decide) (fun c80 => ?_) (fun c80 => ?_)
        · have h := ite_t c80 h
          exact w_Rd_readModule_107 C hQ x1 x2 s H locs ls hX hl h
        · have h := ite_f c80 h
          refine lv_aload_n hx hb d_Rd_readModule_83 rfl (lv_at hl 0 rfl) ?_
          obtain ⟨r2, s1, hc84, h⟩ := bd_e h
          refine x_vI (As := []) (rest := []) C hX (c_Rd_nextByte l g s (r2, s1) hc84) (cw_Rd_55 C.1.2.2.2.2 C.2.2.2 ⟨by decide, by decide⟩) (x_rc C hX wg_2 rfl) rfl hl.1 rfl (lv_room (Nat.le_of_ble_eq_true rfl)) d_Rd_readModule_84 ⟨Nat.le_refl _, Nat.le_refl _⟩ (fun H locs hX => ?_)
          refine lv_istore_n (lv' := [(3, .int r2), (0, .ref (g.q 2)), (1, .int x1), (2, .int x2)]) hx hb d_Rd_readModule_87 rfl hl (by decide) rfl (fun ls hl => ?_)
          refine lv_aload_n hx hb d_Rd_readModule_88 rfl (lv_at hl 1 rfl) ?_
          refine lv_iload_n hx hb d_Rd_readModule_89 rfl (lv_at hl 0 rfl) ?_
          refine lv_iload_n hx hb d_Rd_readModule_90 rfl (lv_at hl 2 rfl) ?_
          obtain ⟨s3, hc91, h⟩ := bd1_e h
          refine x_vV (As := [.int r2, .int x1]) (rest := []) C hX (c_Rd_judgeSection l g r2 x1 s1 s3 hc91) (cw_Rd_59 C.1.2.2.2.2 C.2.2.2 ⟨by decide, by decide⟩) (x_rc C hX wg_2 rfl) rfl hl.1 rfl (lv_room (Nat.le_of_ble_eq_true rfl)) d_Rd_readModule_91 ⟨Nat.le_refl _, Nat.le_refl _⟩ (fun H locs hX => ?_)
          refine lv_aload_n hx hb d_Rd_readModule_94 rfl (lv_at hl 1 rfl) ?_
          refine lv_iload_n hx hb d_Rd_readModule_95 rfl (lv_at hl 0 rfl) ?_
          obtain ⟨s4, hc96, h⟩ := bd1_e h
          refine x_vV (As := [.int r2]) (rest := []) C hX (c_Rd_readSection l g r2 s3 s4 hc96) (cw_Rd_63 C.1.2.2.2.2 C.2.2.2 ⟨by decide, by decide⟩) (x_rc C hX wg_2 rfl) rfl hl.1 rfl (lv_room (Nat.le_of_ble_eq_true rfl)) d_Rd_readModule_96 ⟨Nat.le_refl _, Nat.le_refl _⟩ (fun H locs hX => ?_)
          refine lv_iload_n hx hb d_Rd_readModule_99 rfl (lv_at hl 0 rfl) ?_
          refine lv_istore_n (lv' := [(1, .int r2), (3, .int r2), (0, .ref (g.q 2)), (2, .int x2)]) hx hb d_Rd_readModule_100 rfl hl (by decide) rfl (fun ls hl => ?_)
          obtain ⟨v5, ev5, h⟩ := lt1_e h
          refine lv_iinc (v := v5) (lv' := [(2, .int v5), (1, .int r2), (3, .int r2), (0, .ref (g.q 2))]) hx hb d_Rd_readModule_101 hl (k := 3) rfl (by rw [ev5]; rfl) (by decide) rfl (fun ls hl => ?_)
          refine lv_goto (tgt := 59) hx hb d_Rd_readModule_104 (by decide) ?_
          exact ih r2 v5 s4 H locs ls hX (lv_sub hl [3, 1, 0] rfl) h
set_option maxHeartbeats 4000000 in
set_option maxRecDepth 100000 in
theorem w_Rd_readModule_32 {z : Int32 × St} (C : Cx g A p m c b_Rd_readModule 4 ss args R_Rd) (hQ : ∀ (pc : Nat) (H : Heap) (locs : List Loc) (ls : Array Slot), XW g A ss (wX g z.2) H locs → decode b_Rd_readModule pc = .ok (.ireturn, 1) → W p l e (rmX 6 135) ss m args below meth c H locs 0 0 Q (F0 m pc ls [.int z.1])) (n : Nat) : ∀ (x1 : Int32) (s : St) (H : Heap) (locs : List Loc) (ls : Array Slot), XW g A ss (wX g s) H locs → lv_has ls 4 [(0, .ref (g.q 2)), (1, .int x1)] → f_Rd_readModule_32 n x1 s = some z → W p l e (rmX 6 135) ss m args below meth c H locs 0 0 Q (F0 m 32 ls []) := by
  have ⟨⟨hx, hb, hml, hown, hts⟩, hK, hA, hN⟩ := C
  obtain ⟨tH, hZH, hTH⟩ := hA.2
  induction n with
  | zero => intro x1 s H locs ls hX hl h; cases h
  | succ n ih =>
    intro x1 s H locs ls hX hl h
    rw [f_Rd_readModule_32] at h
    refine lv_iload_n hx hb d_Rd_readModule_32 rfl (lv_at hl 1 rfl) ?_
    refine va_gets hx hb hZH hX.2.2 hown (hts _ fl_Rd_49) (fun _ h9 => h9) d_Rd_readModule_33 ?_
    refine va_tlen (v := 8) hx hb hTH hX.2.2 rfl d_Rd_readModule_36 ?_
    refine lv_icmp_ge (tgt := 55) hx hb d_Rd_readModule_37 (by decide) (fun c37 => ?_) (fun c37 => ?_)
    · have h := ite_t c37 h
      refine lv_iconst (v := (-1)) hx hb d_Rd_readModule_55 (by decide) ?_
      refine lv_istore_n (lv' := [(1, .int ((-1))), (0, .ref (g.q 2))]) hx hb d_Rd_readModule_56 rfl hl (by decide) rfl (fun ls hl => ?_)
      refine lv_iconst (v := 0) hx hb d_Rd_readModule_57 (by decide) ?_
      refine lv_istore_n (lv' := [(2, .int 0), (1, .int ((-1))), (0, .ref (g.q 2))]) hx hb d_Rd_readModule_58 rfl hl (by decide) rfl (fun ls hl => ?_)
      exact w_Rd_readModule_59 C hQ FU ((-1)) 0 s H locs ls hX (lv_sub hl [2, 1, 0] rfl) h
    · have h := ite_f c37 h
      refine lv_aload_n hx hb d_Rd_readModule_40 rfl (lv_at hl 0 rfl) ?_
      refine va_gets hx hb hZH hX.2.2 hown (hts _ fl_Rd_49) (fun _ h9 => h9) d_Rd_readModule_41 ?_
      refine lv_iload_n hx hb d_Rd_readModule_44 rfl (lv_at hl 1 rfl) ?_
      obtain ⟨hz45, h⟩ := gi_e h
      obtain ⟨v1, ev1, h⟩ := lt1_e h
      refine va_ti (v := .int v1) hx hb hTH hX.2.2 hz45 (congrArg Value.int ev1.symm) d_Rd_readModule_45 ?_
      obtain ⟨s2, hc46, h⟩ := bd1_e h
      refine x_vV (As := [.int v1]) (rest := []) C hX (c_Rd_expect l g v1 s s2 hc46) (cw_Rd_52 C.1.2.2.2.2 C.2.2.2 ⟨by decide, by decide⟩) (x_rc C hX wg_2 rfl) rfl hl.1 rfl (lv_room (Nat.le_of_ble_eq_true rfl)) d_Rd_readModule_46 ⟨Nat.le_refl _, Nat.le_refl _⟩ (fun H locs hX => ?_)
      obtain ⟨v3, ev3, h⟩ := lt1_e h
      refine lv_iinc (v := v3) (lv' := [(1, .int v3), (0, .ref (g.q 2))]) hx hb d_Rd_readModule_49 hl (k := 1) rfl (by rw [ev3]; rfl) (by decide) rfl (fun ls hl => ?_)
      refine lv_goto (tgt := 32) hx hb d_Rd_readModule_52 (by decide) ?_
      exact ih v3 s2 H locs ls hX (lv_sub hl [1, 0] rfl) h
set_option maxHeartbeats 4000000 in
set_option maxRecDepth 100000 in
theorem w_Rd_readModule {z : Int32 × St} (C : Cx g A p m c b_Rd_readModule 4 ss args R_Rd) (hQ : ∀ (pc : Nat) (H : Heap) (locs : List Loc) (ls : Array Slot), XW g A ss (wX g z.2) H locs → decode b_Rd_readModule pc = .ok (.ireturn, 1) → W p l e (rmX 6 135) ss m args below meth c H locs 0 0 Q (F0 m pc ls [.int z.1])) : ∀ (s : St) (H : Heap) (locs : List Loc) (ls : Array Slot), XW g A ss (wX g s) H locs → lv_has ls 4 [(0, .ref (g.q 2))] → f_Rd_readModule s = some z → W p l e (rmX 6 135) ss m args below meth c H locs 0 0 Q (F0 m 0 ls []) := by
  have ⟨⟨hx, hb, hml, hown, hts⟩, hK, hA, hN⟩ := C
  obtain ⟨tH, hZH, hTH⟩ := hA.2
  intro s H locs ls hX hl h
  rw [f_Rd_readModule] at h
  refine lv_aload_n hx hb d_Rd_readModule_0 rfl (lv_at hl 0 rfl) ?_
  refine gf_2_contents C hX fl_Rd_24 d_Rd_readModule_1 ?_
  obtain ⟨s1, hc4, h⟩ := bd1_e h
  refine x_vV (As := []) (rest := []) C hX (c_Cont_clear l g s s1 hc4) (cw_Rd_32 C.1.2.2.2.2 C.2.2.2 ⟨by decide, by decide⟩) (x_rc C hX wg_1 rfl) rfl hl.1 rfl (lv_room (Nat.le_of_ble_eq_true rfl)) d_Rd_readModule_4 ⟨Nat.le_refl _, Nat.le_refl _⟩ (fun H locs hX => ?_)
  refine lv_aload_n hx hb d_Rd_readModule_7 rfl (lv_at hl 0 rfl) ?_
  refine lv_iconst (v := 0) hx hb d_Rd_readModule_8 (by decide) ?_
  obtain ⟨s2, es2, h⟩ := lt1_e h
  refine pf_2_place C hX fl_Rd_37 d_Rd_readModule_9 (fun H locs hX => ?_)
  rw [← es2] at hX
  refine lv_aload_n hx hb d_Rd_readModule_12 rfl (lv_at hl 0 rfl) ?_
  refine lv_aload_n hx hb d_Rd_readModule_13 rfl (lv_at hl 0 rfl) ?_
  refine gf_2_fed C hX fl_Rd_28 d_Rd_readModule_14 ?_
  obtain ⟨s3, es3, h⟩ := lt1_e h
  refine pf_2_bound C hX fl_Rd_40 d_Rd_readModule_17 (fun H locs hX => ?_)
  rw [← es3] at hX
  refine lv_aload_n hx hb d_Rd_readModule_20 rfl (lv_at hl 0 rfl) ?_
  refine lv_iconst (v := 0) hx hb d_Rd_readModule_21 (by decide) ?_
  obtain ⟨s4, es4, h⟩ := lt1_e h
  refine pf_2_bodies C hX fl_Rd_43 d_Rd_readModule_22 (fun H locs hX => ?_)
  rw [← es4] at hX
  refine lv_aload_n hx hb d_Rd_readModule_25 rfl (lv_at hl 0 rfl) ?_
  refine lv_iconst (v := 0) hx hb d_Rd_readModule_26 (by decide) ?_
  obtain ⟨s5, es5, h⟩ := lt1_e h
  refine pf_2_fault C hX fl_Rd_46 d_Rd_readModule_27 (fun H locs hX => ?_)
  rw [← es5] at hX
  refine lv_iconst (v := 0) hx hb d_Rd_readModule_30 (by decide) ?_
  refine lv_istore_n (lv' := [(1, .int 0), (0, .ref (g.q 2))]) hx hb d_Rd_readModule_31 rfl hl (by decide) rfl (fun ls hl => ?_)
  exact w_Rd_readModule_32 C hQ FU 0 s5 H locs ls hX (lv_sub hl [1, 0] rfl) h
end WALK
theorem c_Rd_readModule (l : Launch) (g : GX) (s : St) (z : Int32 × St) (h : f_Rd_readModule s = some z) : MI l g y_Rd_readModule b_Rd_readModule 4 (some .int) 6 135 [.ref (g.q 2)] (wX g s) z.1 (wX g z.2) :=
  MI.mk (own := R_Rd) (by decide) rfl (Nat.le_of_ble_eq_true rfl) fun p e ss m below meth c A Q C hQ ls hX hl => w_Rd_readModule C hQ s _ _ ls hX hl h
-- Val_refuse
def f_Val_refuse_16 (x1 : Int32) (y1 : Int32) (s : St) : Option St :=
    lt1 (stp s 3 3 y1) fun s1 =>
    some s1
def f_Val_refuse (x1 : Int32) (s : St) : Option St :=
    if s 3 3 = 0 then
      f_Val_refuse_16 x1 x1 s
    else
      f_Val_refuse_16 x1 (s 3 3) s
section WALK
variable {p : Program} {l : Launch} {e : Env} {ss : State} {m : MethodId} {args : Array Value} {below : List Frame} {meth : Method} {c : Code} {Q : State → Prop} {g : GX} {A : Nat → Prop}
set_option maxHeartbeats 4000000 in
set_option maxRecDepth 100000 in
theorem w_Val_refuse_16 {z : St} (C : Cx g A p m c b_Val_refuse 2 ss args R_Val) (hQ : ∀ (pc : Nat) (H : Heap) (locs : List Loc) (ls : Array Slot), XW g A ss (wX g z) H locs → decode b_Val_refuse pc = .ok (.return_, 1) → W p l e (rmX 0 0) ss m args below meth c H locs 0 0 Q (F0 m pc ls [])) : ∀ (x1 : Int32) (y1 : Int32) (s : St) (H : Heap) (locs : List Loc) (ls : Array Slot), XW g A ss (wX g s) H locs → lv_has ls 2 [(0, .ref (g.q 3)), (1, .int x1)] → f_Val_refuse_16 x1 y1 s = some z → W p l e (rmX 0 0) ss m args below meth c H locs 0 0 Q (F0 m 16 ls [.int y1, .ref (g.q 3)]) := by
  have ⟨⟨hx, hb, hml, hown, hts⟩, hK, hA, hN⟩ := C
  intro x1 y1 s H locs ls hX hl h
  rw [f_Val_refuse_16] at h
  obtain ⟨s1, es1, h⟩ := lt1_e h
  refine pf_3_fault C hX fl_Val_24 d_Val_refuse_16 (fun H locs hX => ?_)
  rw [← es1] at hX
  obtain rfl := so1 h
  exact hQ _ H locs ls hX d_Val_refuse_19
set_option maxHeartbeats 4000000 in
set_option maxRecDepth 100000 in
theorem w_Val_refuse {z : St} (C : Cx g A p m c b_Val_refuse 2 ss args R_Val) (hQ : ∀ (pc : Nat) (H : Heap) (locs : List Loc) (ls : Array Slot), XW g A ss (wX g z) H locs → decode b_Val_refuse pc = .ok (.return_, 1) → W p l e (rmX 0 0) ss m args below meth c H locs 0 0 Q (F0 m pc ls [])) : ∀ (x1 : Int32) (s : St) (H : Heap) (locs : List Loc) (ls : Array Slot), XW g A ss (wX g s) H locs → lv_has ls 2 [(0, .ref (g.q 3)), (1, .int x1)] → f_Val_refuse x1 s = some z → W p l e (rmX 0 0) ss m args below meth c H locs 0 0 Q (F0 m 0 ls []) := by
  have ⟨⟨hx, hb, hml, hown, hts⟩, hK, hA, hN⟩ := C
  intro x1 s H locs ls hX hl h
  rw [f_Val_refuse] at h
  refine lv_aload_n hx hb d_Val_refuse_0 rfl (lv_at hl 0 rfl) ?_
  refine lv_aload_n hx hb d_Val_refuse_1 rfl (lv_at hl 0 rfl) ?_
  refine gf_3_fault C hX fl_Val_24 d_Val_refuse_2 ?_
  refine lv_if_eq (tgt := 15) hx hb d_Val_refuse_5 (by decide) (fun c5 => ?_) (fun c5 => ?_)
  · have h := ite_t c5 h
    refine lv_iload_n hx hb d_Val_refuse_15 rfl (lv_at hl 1 rfl) ?_
    exact w_Val_refuse_16 C hQ x1 x1 s H locs ls hX hl h
  · have h := ite_f c5 h
    refine lv_aload_n hx hb d_Val_refuse_8 rfl (lv_at hl 0 rfl) ?_
    refine gf_3_fault C hX fl_Val_24 d_Val_refuse_9 ?_
    refine lv_goto (tgt := 16) hx hb d_Val_refuse_12 (by decide) ?_
    exact w_Val_refuse_16 C hQ x1 (s 3 3) s H locs ls hX hl h
end WALK
theorem c_Val_refuse (l : Launch) (g : GX) (x1 : Int32) (s : St) (z : St) (h : f_Val_refuse x1 s = some z) : MV l g y_Val_refuse b_Val_refuse 2 none 0 0 [.ref (g.q 3), .int x1] (wX g s) (wX g z) :=
  MV.mk (own := R_Val) (by decide) rfl (Nat.le_of_ble_eq_true rfl) fun p e ss m below meth c A Q C hQ ls hX hl => w_Val_refuse C hQ x1 s _ _ ls hX hl h
-- Val_judgeTypes
def f_Val_judgeTypes_107 (x1 : Int32) (s : St) : Option St :=
    some s
def f_Val_judgeTypes_101 (k51 : Int32 → St → Option St) (x1 : Int32) (s : St) : Option St :=
    lt1 (x1 + (1)) fun v1 =>
    k51 v1 s
def f_Val_judgeTypes_51 : Nat → Int32 → St → Option St
  | 0, _, _ => none
  | n + 1, x1, s =>
    if 8 ≤ x1 then
      f_Val_judgeTypes_107 x1 s
    else
      lt1 (s 12 0) fun r1 =>
      if r1 ≤ x1 then
        f_Val_judgeTypes_107 x1 s
      else
        lt1 (tGet 8 4 (s 13) x1 0) fun r2 =>
        lt1 (tHas (s 10 0) r2) fun r3 =>
        if r3 = 0 then
          bd1 (f_Val_refuse 3 s) fun s4 =>
          f_Val_judgeTypes_101 (f_Val_judgeTypes_51 n) x1 s4
        else
          f_Val_judgeTypes_101 (f_Val_judgeTypes_51 n) x1 s
def f_Val_judgeTypes_49 (x1 : Int32) (s : St) : Option St :=
    f_Val_judgeTypes_51 FU 0 s
def f_Val_judgeTypes_43 (k2 : Int32 → St → Option St) (x1 : Int32) (s : St) : Option St :=
    lt1 (x1 + (1)) fun v1 =>
    k2 v1 s
def f_Val_judgeTypes_2 : Nat → Int32 → St → Option St
  | 0, _, _ => none
  | n + 1, x1, s =>
    if 8 ≤ x1 then
      f_Val_judgeTypes_49 x1 s
    else
      lt1 (s 10 0) fun r1 =>
      if r1 ≤ x1 then
        f_Val_judgeTypes_49 x1 s
      else
        lt1 (tGet 8 2 (s 11) x1 1) fun r2 =>
        if r2 ≤ 1 then
          f_Val_judgeTypes_43 (f_Val_judgeTypes_2 n) x1 s
        else
          bd1 (f_Val_refuse 3 s) fun s3 =>
          f_Val_judgeTypes_43 (f_Val_judgeTypes_2 n) x1 s3
def f_Val_judgeTypes (s : St) : Option St :=
    f_Val_judgeTypes_2 FU 0 s
section WALK
variable {p : Program} {l : Launch} {e : Env} {ss : State} {m : MethodId} {args : Array Value} {below : List Frame} {meth : Method} {c : Code} {Q : State → Prop} {g : GX} {A : Nat → Prop}
set_option maxHeartbeats 4000000 in
set_option maxRecDepth 100000 in
theorem w_Val_judgeTypes_107 {z : St} (C : Cx g A p m c b_Val_judgeTypes 2 ss args R_Val) (hQ : ∀ (pc : Nat) (H : Heap) (locs : List Loc) (ls : Array Slot), XW g A ss (wX g z) H locs → decode b_Val_judgeTypes pc = .ok (.return_, 1) → W p l e (rmX 1 23) ss m args below meth c H locs 0 0 Q (F0 m pc ls [])) : ∀ (x1 : Int32) (s : St) (H : Heap) (locs : List Loc) (ls : Array Slot), XW g A ss (wX g s) H locs → lv_has ls 2 [(0, .ref (g.q 3)), (1, .int x1)] → f_Val_judgeTypes_107 x1 s = some z → W p l e (rmX 1 23) ss m args below meth c H locs 0 0 Q (F0 m 107 ls []) := by
  have ⟨⟨hx, hb, hml, hown, hts⟩, hK, hA, hN⟩ := C
  intro x1 s H locs ls hX hl h
  rw [f_Val_judgeTypes_107] at h
  obtain rfl := so1 h
  exact hQ _ H locs ls hX d_Val_judgeTypes_107
set_option maxHeartbeats 4000000 in
set_option maxRecDepth 100000 in
theorem w_Val_judgeTypes_101 {z : St} (C : Cx g A p m c b_Val_judgeTypes 2 ss args R_Val) (hQ : ∀ (pc : Nat) (H : Heap) (locs : List Loc) (ls : Array Slot), XW g A ss (wX g z) H locs → decode b_Val_judgeTypes pc = .ok (.return_, 1) → W p l e (rmX 1 23) ss m args below meth c H locs 0 0 Q (F0 m pc ls [])) (k51 : Int32 → St → Option St) (hk51 : ∀ (x1 : Int32) (s : St) (H : Heap) (locs : List Loc) (ls : Array Slot), XW g A ss (wX g s) H locs → lv_has ls 2 [(0, .ref (g.q 3)), (1, .int x1)] → k51 x1 s = some z → W p l e (rmX 1 23) ss m args below meth c H locs 0 0 Q (F0 m 51 ls [])) : ∀ (x1 : Int32) (s : St) (H : Heap) (locs : List Loc) (ls : Array Slot), XW g A ss (wX g s) H locs → lv_has ls 2 [(0, .ref (g.q 3)), (1, .int x1)] → f_Val_judgeTypes_101 k51 x1 s = some z → W p l e (rmX 1 23) ss m args below meth c H locs 0 0 Q (F0 m 101 ls []) := by
  have ⟨⟨hx, hb, hml, hown, hts⟩, hK, hA, hN⟩ := C
  intro x1 s H locs ls hX hl h
  rw [f_Val_judgeTypes_101] at h
  obtain ⟨v1, ev1, h⟩ := lt1_e h
  refine lv_iinc (v := v1) (lv' := [(1, .int v1), (0, .ref (g.q 3))]) hx hb d_Val_judgeTypes_101 hl (k := 1) rfl (by rw [ev1]; rfl) (by decide) rfl (fun ls hl => ?_)
  refine lv_goto (tgt := 51) hx hb d_Val_judgeTypes_104 (by decide) ?_
  exact hk51 v1 s H locs ls hX (lv_sub hl [1, 0] rfl) h
set_option maxHeartbeats 4000000 in
set_option maxRecDepth 100000 in
theorem w_Val_judgeTypes_51 {z : St} (C : Cx g A p m c b_Val_judgeTypes 2 ss args R_Val) (hQ : ∀ (pc : Nat) (H : Heap) (locs : List Loc) (ls : Array Slot), XW g A ss (wX g z) H locs → decode b_Val_judgeTypes pc = .ok (.return_, 1) → W p l e (rmX 1 23) ss m args below meth c H locs 0 0 Q (F0 m pc ls [])) (n : Nat) : ∀ (x1 : Int32) (s : St) (H : Heap) (locs : List Loc) (ls : Array Slot), XW g A ss (wX g s) H locs → lv_has ls 2 [(0, .ref (g.q 3)), (1, .int x1)] → f_Val_judgeTypes_51 n x1 s = some z → W p l e (rmX 1 23) ss m args below meth c H locs 0 0 Q (F0 m 51 ls []) := by
  have ⟨⟨hx, hb, hml, hown, hts⟩, hK, hA, hN⟩ := C
  induction n with
  | zero => intro x1 s H locs ls hX hl h; cases h
  | succ n ih =>
    intro x1 s H locs ls hX hl h
    rw [f_Val_judgeTypes_51] at h
    refine lv_iload_n hx hb d_Val_judgeTypes_51 rfl (lv_at hl 1 rfl) ?_
    refine lv_bipush (v := 8) hx hb d_Val_judgeTypes_52 (by decide) ?_
    refine lv_icmp_ge (tgt := 107) hx hb d_Val_judgeTypes_54 (by decide) (fun c54 => ?_) (fun c54 => ?_)
    · have h := ite_t c54 h
      exact w_Val_judgeTypes_107 C hQ x1 s H locs ls hX hl h
    · have h := ite_f c54 h
      refine lv_iload_n hx hb d_Val_judgeTypes_57 rfl (lv_at hl 1 rfl) ?_
      refine lv_aload_n hx hb d_Val_judgeTypes_58 rfl (lv_at hl 0 rfl) ?_
      refine gf_3_contents C hX fl_Val_20 d_Val_judgeTypes_59 ?_
      refine gf_1_functions C hX fl_Val_53 d_Val_judgeTypes_62 ?_
      obtain ⟨r1, er1, h⟩ := lt1_e h
      refine x_vI (r := r1) (ws' := wX g s) (As := []) (rest := [.int x1]) C hX (by rw [er1]; exact cTabCount_12 l g s) (cw_Val_46 C.1.2.2.2.2 C.2.2.2 ⟨by decide, by decide⟩) (x_rc C hX wg_12 rfl) rfl hl.1 rfl (lv_room (Nat.le_of_ble_eq_true rfl)) d_Val_judgeTypes_65 ⟨Nat.le_refl _, Nat.le_refl _⟩ (fun H locs hX => ?_)
      refine lv_icmp_ge (tgt := 107) hx hb d_Val_judgeTypes_68 (by decide) (fun c68 => ?_) (fun c68 => ?_)
      · have h := ite_t c68 h
        exact w_Val_judgeTypes_107 C hQ x1 s H locs ls hX hl h
      · have h := ite_f c68 h
        refine lv_aload_n hx hb d_Val_judgeTypes_71 rfl (lv_at hl 0 rfl) ?_
        refine gf_3_contents C hX fl_Val_20 d_Val_judgeTypes_72 ?_
        refine gf_1_types C hX fl_Val_62 d_Val_judgeTypes_75 ?_
        refine lv_aload_n hx hb d_Val_judgeTypes_78 rfl (lv_at hl 0 rfl) ?_
        refine gf_3_contents C hX fl_Val_20 d_Val_judgeTypes_79 ?_
        refine gf_1_functions C hX fl_Val_53 d_Val_judgeTypes_82 ?_
        refine lv_iload_n hx hb d_Val_judgeTypes_85 rfl (lv_at hl 1 rfl) ?_
        refine lv_iconst (v := 0) hx hb d_Val_judgeTypes_86 (by decide) ?_
        obtain ⟨r2, er2, h⟩ := lt1_e h
        refine x_vI (r := r2) (ws' := wX g s) (As := [.int x1, .int 0]) (rest := [.ref (g.q 10)]) C hX (by rw [er2]; exact cTabGet_12 l g s x1 0) (cw_Val_65 C.1.2.2.2.2 C.2.2.2 ⟨by decide, by decide⟩) (x_rc C hX wg_12 rfl) rfl hl.1 rfl (lv_room (Nat.le_of_ble_eq_true rfl)) d_Val_judgeTypes_87 ⟨Nat.le_refl _, Nat.le_refl _⟩ (fun H locs hX => ?_)
        obtain ⟨r3, er3, h⟩ := lt1_e h
        refine x_vI (r := r3) (ws' := wX g s) (As := [.int r2]) (rest := []) C hX (by rw [er3]; exact cTabHas_10 l g s r2) (cw_Val_69 C.1.2.2.2.2 C.2.2.2 ⟨by decide, by decide⟩) (x_rc C hX wg_10 rfl) rfl hl.1 rfl (lv_room (Nat.le_of_ble_eq_true rfl)) d_Val_judgeTypes_90 ⟨Nat.le_refl _, Nat.le_refl _⟩ (fun H locs hX => ?_)
        refine lv_if_ne (tgt := 101) hx hb d_Val_judgeTypes_93 (by decide) (fun c93 => ?_) (fun c93 => ?_)
        · have h := ite_f c93 h
          exact w_Val_judgeTypes_101 C hQ (f_Val_judgeTypes_51 n) ih x1 s H locs ls hX hl h
        · have h := ite_t c93 h
          refine lv_aload_n hx hb d_Val_judgeTypes_96 rfl (lv_at hl 0 rfl) ?_
          refine lv_iconst (v := 3) hx hb d_Val_judgeTypes_97 (by decide) ?_
          obtain ⟨s4, hc98, h⟩ := bd1_e h
          refine x_vV (As := [.int 3]) (rest := []) C hX (c_Val_refuse l g 3 s s4 hc98) (cw_Val_39 C.1.2.2.2.2 C.2.2.2 ⟨by decide, by decide⟩) (x_rc C hX wg_3 rfl) rfl hl.1 rfl (lv_room (Nat.le_of_ble_eq_true rfl)) d_Val_judgeTypes_98 ⟨Nat.le_refl _, Nat.le_refl _⟩ (fun H locs hX => ?_)
          exact w_Val_judgeTypes_101 C hQ (f_Val_judgeTypes_51 n) ih x1 s4 H locs ls hX hl h
set_option maxHeartbeats 4000000 in
set_option maxRecDepth 100000 in
theorem w_Val_judgeTypes_49 {z : St} (C : Cx g A p m c b_Val_judgeTypes 2 ss args R_Val) (hQ : ∀ (pc : Nat) (H : Heap) (locs : List Loc) (ls : Array Slot), XW g A ss (wX g z) H locs → decode b_Val_judgeTypes pc = .ok (.return_, 1) → W p l e (rmX 1 23) ss m args below meth c H locs 0 0 Q (F0 m pc ls [])) : ∀ (x1 : Int32) (s : St) (H : Heap) (locs : List Loc) (ls : Array Slot), XW g A ss (wX g s) H locs → lv_has ls 2 [(0, .ref (g.q 3)), (1, .int x1)] → f_Val_judgeTypes_49 x1 s = some z → W p l e (rmX 1 23) ss m args below meth c H locs 0 0 Q (F0 m 49 ls []) := by
  have ⟨⟨hx, hb, hml, hown, hts⟩, hK, hA, hN⟩ := C
  intro x1 s H locs ls hX hl h
  rw [f_Val_judgeTypes_49] at h
  refine lv_iconst (v := 0) hx hb d_Val_judgeTypes_49 (by decide) ?_
  refine lv_istore_n (lv' := [(1, .int 0), (0, .ref (g.q 3))]) hx hb d_Val_judgeTypes_50 rfl hl (by decide) rfl (fun ls hl => ?_)
  exact w_Val_judgeTypes_51 C hQ FU 0 s H locs ls hX (lv_sub hl [1, 0] rfl) h
set_option maxHeartbeats 4000000 in
set_option maxRecDepth 100000 in
theorem w_Val_judgeTypes_43 {z : St} (C : Cx g A p m c b_Val_judgeTypes 2 ss args R_Val) (hQ : ∀ (pc : Nat) (H : Heap) (locs : List Loc) (ls : Array Slot), XW g A ss (wX g z) H locs → decode b_Val_judgeTypes pc = .ok (.return_, 1) → W p l e (rmX 1 23) ss m args below meth c H locs 0 0 Q (F0 m pc ls [])) (k2 : Int32 → St → Option St) (hk2 : ∀ (x1 : Int32) (s : St) (H : Heap) (locs : List Loc) (ls : Array Slot), XW g A ss (wX g s) H locs → lv_has ls 2 [(0, .ref (g.q 3)), (1, .int x1)] → k2 x1 s = some z → W p l e (rmX 1 23) ss m args below meth c H locs 0 0 Q (F0 m 2 ls [])) : ∀ (x1 : Int32) (s : St) (H : Heap) (locs : List Loc) (ls : Array Slot), XW g A ss (wX g s) H locs → lv_has ls 2 [(0, .ref (g.q 3)), (1, .int x1)] → f_Val_judgeTypes_43 k2 x1 s = some z → W p l e (rmX 1 23) ss m args below meth c H locs 0 0 Q (F0 m 43 ls []) := by
  have ⟨⟨hx, hb, hml, hown, hts⟩, hK, hA, hN⟩ := C
  intro x1 s H locs ls hX hl h
  rw [f_Val_judgeTypes_43] at h
  obtain ⟨v1, ev1, h⟩ := lt1_e h
  refine lv_iinc (v := v1) (lv' := [(1, .int v1), (0, .ref (g.q 3))]) hx hb d_Val_judgeTypes_43 hl (k := 1) rfl (by rw [ev1]; rfl) (by decide) rfl (fun ls hl => ?_)
  refine lv_goto (tgt := 2) hx hb d_Val_judgeTypes_46 (by decide) ?_
  exact hk2 v1 s H locs ls hX (lv_sub hl [1, 0] rfl) h
set_option maxHeartbeats 4000000 in
set_option maxRecDepth 100000 in
theorem w_Val_judgeTypes_2 {z : St} (C : Cx g A p m c b_Val_judgeTypes 2 ss args R_Val) (hQ : ∀ (pc : Nat) (H : Heap) (locs : List Loc) (ls : Array Slot), XW g A ss (wX g z) H locs → decode b_Val_judgeTypes pc = .ok (.return_, 1) → W p l e (rmX 1 23) ss m args below meth c H locs 0 0 Q (F0 m pc ls [])) (n : Nat) : ∀ (x1 : Int32) (s : St) (H : Heap) (locs : List Loc) (ls : Array Slot), XW g A ss (wX g s) H locs → lv_has ls 2 [(0, .ref (g.q 3)), (1, .int x1)] → f_Val_judgeTypes_2 n x1 s = some z → W p l e (rmX 1 23) ss m args below meth c H locs 0 0 Q (F0 m 2 ls []) := by
  have ⟨⟨hx, hb, hml, hown, hts⟩, hK, hA, hN⟩ := C
  induction n with
  | zero => intro x1 s H locs ls hX hl h; cases h
  | succ n ih =>
    intro x1 s H locs ls hX hl h
    rw [f_Val_judgeTypes_2] at h
    refine lv_iload_n hx hb d_Val_judgeTypes_2 rfl (lv_at hl 1 rfl) ?_
    refine lv_bipush (v := 8) hx hb d_Val_judgeTypes_3 (by decide) ?_
    refine lv_icmp_ge (tgt := 49) hx hb d_Val_judgeTypes_5 (by decide) (fun c5 => ?_) (fun c5 => ?_)
    · have h := ite_t c5 h
      exact w_Val_judgeTypes_49 C hQ x1 s H locs ls hX hl h
    · have h := ite_f c5 h
      refine lv_iload_n hx hb d_Val_judgeTypes_8 rfl (lv_at hl 1 rfl) ?_
      refine lv_aload_n hx hb d_Val_judgeTypes_9 rfl (lv_at hl 0 rfl) ?_
      refine gf_3_contents C hX fl_Val_20 d_Val_judgeTypes_10 ?_
      refine gf_1_types C hX fl_Val_62 d_Val_judgeTypes_13 ?_
      obtain ⟨r1, er1, h⟩ := lt1_e h
      refine x_vI (r := r1) (ws' := wX g s) (As := []) (rest := [.int x1]) C hX (by rw [er1]; exact cTabCount_10 l g s) (cw_Val_46 C.1.2.2.2.2 C.2.2.2 ⟨by decide, by decide⟩) (x_rc C hX wg_10 rfl) rfl hl.1 rfl (lv_room (Nat.le_of_ble_eq_true rfl)) d_Val_judgeTypes_16 ⟨Nat.le_refl _, Nat.le_refl _⟩ (fun H locs hX => ?_)
      refine lv_icmp_ge (tgt := 49) hx hb d_Val_judgeTypes_19 (by decide) (fun c19 => ?_) (fun c19 => ?_)
      · have h := ite_t c19 h
        exact w_Val_judgeTypes_49 C hQ x1 s H locs ls hX hl h
      · have h := ite_f c19 h
        refine lv_aload_n hx hb d_Val_judgeTypes_22 rfl (lv_at hl 0 rfl) ?_
        refine gf_3_contents C hX fl_Val_20 d_Val_judgeTypes_23 ?_
        refine gf_1_types C hX fl_Val_62 d_Val_judgeTypes_26 ?_
        refine lv_iload_n hx hb d_Val_judgeTypes_29 rfl (lv_at hl 1 rfl) ?_
        refine lv_iconst (v := 1) hx hb d_Val_judgeTypes_30 (by decide) ?_
        obtain ⟨r2, er2, h⟩ := lt1_e h
        refine x_vI (r := r2) (ws' := wX g s) (As := [.int x1, .int 1]) (rest := []) C hX (by rw [er2]; exact cTabGet_10 l g s x1 1) (cw_Val_65 C.1.2.2.2.2 C.2.2.2 ⟨by decide, by decide⟩) (x_rc C hX wg_10 rfl) rfl hl.1 rfl (lv_room (Nat.le_of_ble_eq_true rfl)) d_Val_judgeTypes_31 ⟨Nat.le_refl _, Nat.le_refl _⟩ (fun H locs hX => ?_)
        refine lv_iconst (v := 1) hx hb d_Val_judgeTypes_34 (by decide) ?_
        refine lv_icmp_le (tgt := 43) hx hb d_Val_judgeTypes_35 (by decide) (fun c35 => ?_) (fun c35 => ?_)
        · have h := ite_t c35 h
          exact w_Val_judgeTypes_43 C hQ (f_Val_judgeTypes_2 n) ih x1 s H locs ls hX hl h
        · have h := ite_f c35 h
          refine lv_aload_n hx hb d_Val_judgeTypes_38 rfl (lv_at hl 0 rfl) ?_
          refine lv_iconst (v := 3) hx hb d_Val_judgeTypes_39 (by decide) ?_
          obtain ⟨s3, hc40, h⟩ := bd1_e h
          refine x_vV (As := [.int 3]) (rest := []) C hX (c_Val_refuse l g 3 s s3 hc40) (cw_Val_39 C.1.2.2.2.2 C.2.2.2 ⟨by decide, by decide⟩) (x_rc C hX wg_3 rfl) rfl hl.1 rfl (lv_room (Nat.le_of_ble_eq_true rfl)) d_Val_judgeTypes_40 ⟨Nat.le_refl _, Nat.le_refl _⟩ (fun H locs hX => ?_)
          exact w_Val_judgeTypes_43 C hQ (f_Val_judgeTypes_2 n) ih x1 s3 H locs ls hX hl h
set_option maxHeartbeats 4000000 in
set_option maxRecDepth 100000 in
theorem w_Val_judgeTypes {z : St} (C : Cx g A p m c b_Val_judgeTypes 2 ss args R_Val) (hQ : ∀ (pc : Nat) (H : Heap) (locs : List Loc) (ls : Array Slot), XW g A ss (wX g z) H locs → decode b_Val_judgeTypes pc = .ok (.return_, 1) → W p l e (rmX 1 23) ss m args below meth c H locs 0 0 Q (F0 m pc ls [])) : ∀ (s : St) (H : Heap) (locs : List Loc) (ls : Array Slot), XW g A ss (wX g s) H locs → lv_has ls 2 [(0, .ref (g.q 3))] → f_Val_judgeTypes s = some z → W p l e (rmX 1 23) ss m args below meth c H locs 0 0 Q (F0 m 0 ls []) := by
  have ⟨⟨hx, hb, hml, hown, hts⟩, hK, hA, hN⟩ := C
  intro s H locs ls hX hl h
  rw [f_Val_judgeTypes] at h
  refine lv_iconst (v := 0) hx hb d_Val_judgeTypes_0 (by decide) ?_
  refine lv_istore_n (lv' := [(1, .int 0), (0, .ref (g.q 3))]) hx hb d_Val_judgeTypes_1 rfl hl (by decide) rfl (fun ls hl => ?_)
  exact w_Val_judgeTypes_2 C hQ FU 0 s H locs ls hX (lv_sub hl [1, 0] rfl) h
end WALK
theorem c_Val_judgeTypes (l : Launch) (g : GX) (s : St) (z : St) (h : f_Val_judgeTypes s = some z) : MV l g y_Val_judgeTypes b_Val_judgeTypes 2 none 1 23 [.ref (g.q 3)] (wX g s) (wX g z) :=
  MV.mk (own := R_Val) (by decide) rfl (Nat.le_of_ble_eq_true rfl) fun p e ss m below meth c A Q C hQ ls hX hl => w_Val_judgeTypes C hQ s _ _ ls hX hl h
-- Val_isThere
def f_Val_isThere_76 (s : St) (x1 : Int32) (x2 : Int32) : Option Int32 :=
    bz 0 <|
    some (0)
def f_Val_isThere_63 (s : St) (x1 : Int32) (x2 : Int32) (y0 : Int32) : Option Int32 :=
    bz y0 <|
    some (y0)
def f_Val_isThere_62 (s : St) (x1 : Int32) (x2 : Int32) : Option Int32 :=
    f_Val_isThere_63 s x1 x2 0
def f_Val_isThere (s : St) (x1 : Int32) (x2 : Int32) : Option Int32 :=
    if x1 = 0 then
      lt1 (tHas (s 12 0) x2) fun r1 =>
      bz r1 <|
      some (r1)
    else if x1 = 2 then
      if s 1 0 = 0 then
        f_Val_isThere_62 s x1 x2
      else
        if x2 = 0 then
          f_Val_isThere_63 s x1 x2 1
        else
          f_Val_isThere_62 s x1 x2
    else if x1 = 3 then
      lt1 (tHas (s 14 0) x2) fun r2 =>
      bz r2 <|
      some (r2)
    else 
      f_Val_isThere_76 s x1 x2
section WALK
variable {p : Program} {l : Launch} {e : Env} {ss : State} {m : MethodId} {args : Array Value} {below : List Frame} {meth : Method} {c : Code} {Q : State → Prop} {g : GX} {A : Nat → Prop}
set_option maxHeartbeats 4000000 in
set_option maxRecDepth 100000 in
theorem w_Val_isThere_76 {s : St} {z : Int32} (C : Cx g A p m c b_Val_isThere 3 ss args R_Val) (hQ : ∀ (pc : Nat) (H : Heap) (locs : List Loc) (ls : Array Slot), XW g A ss (wX g s) H locs → (z = 0 ∨ z = 1) → decode b_Val_isThere pc = .ok (.ireturn, 1) → W p l e (rmX 1 21) ss m args below meth c H locs 0 0 Q (F0 m pc ls [.int z])) : ∀ (x1 : Int32) (x2 : Int32) (H : Heap) (locs : List Loc) (ls : Array Slot), XW g A ss (wX g s) H locs → lv_has ls 3 [(0, .ref (g.q 3)), (1, .int x1), (2, .int x2)] → f_Val_isThere_76 s x1 x2 = some z → W p l e (rmX 1 21) ss m args below meth c H locs 0 0 Q (F0 m 76 ls []) := by
  have ⟨⟨hx, hb, hml, hown, hts⟩, hK, hA, hN⟩ := C
  intro x1 x2 H locs ls hX hl h
  rw [f_Val_isThere_76] at h
  refine lv_iconst (v := 0) hx hb d_Val_isThere_76 (by decide) ?_
  obtain ⟨hz, h⟩ := bz_e h
  obtain rfl := so1 h
  exact hQ _ H locs ls hX hz d_Val_isThere_77
set_option maxHeartbeats 4000000 in
set_option maxRecDepth 100000 in
theorem w_Val_isThere_63 {s : St} {z : Int32} (C : Cx g A p m c b_Val_isThere 3 ss args R_Val) (hQ : ∀ (pc : Nat) (H : Heap) (locs : List Loc) (ls : Array Slot), XW g A ss (wX g s) H locs → (z = 0 ∨ z = 1) → decode b_Val_isThere pc = .ok (.ireturn, 1) → W p l e (rmX 1 21) ss m args below meth c H locs 0 0 Q (F0 m pc ls [.int z])) : ∀ (x1 : Int32) (x2 : Int32) (y0 : Int32) (H : Heap) (locs : List Loc) (ls : Array Slot), XW g A ss (wX g s) H locs → lv_has ls 3 [(0, .ref (g.q 3)), (1, .int x1), (2, .int x2)] → f_Val_isThere_63 s x1 x2 y0 = some z → W p l e (rmX 1 21) ss m args below meth c H locs 0 0 Q (F0 m 63 ls [.int y0]) := by
  have ⟨⟨hx, hb, hml, hown, hts⟩, hK, hA, hN⟩ := C
  intro x1 x2 y0 H locs ls hX hl h
  rw [f_Val_isThere_63] at h
  obtain ⟨hz, h⟩ := bz_e h
  obtain rfl := so1 h
  exact hQ _ H locs ls hX hz d_Val_isThere_63
set_option maxHeartbeats 4000000 in
set_option maxRecDepth 100000 in
theorem w_Val_isThere_62 {s : St} {z : Int32} (C : Cx g A p m c b_Val_isThere 3 ss args R_Val) (hQ : ∀ (pc : Nat) (H : Heap) (locs : List Loc) (ls : Array Slot), XW g A ss (wX g s) H locs → (z = 0 ∨ z = 1) → decode b_Val_isThere pc = .ok (.ireturn, 1) → W p l e (rmX 1 21) ss m args below meth c H locs 0 0 Q (F0 m pc ls [.int z])) : ∀ (x1 : Int32) (x2 : Int32) (H : Heap) (locs : List Loc) (ls : Array Slot), XW g A ss (wX g s) H locs → lv_has ls 3 [(0, .ref (g.q 3)), (1, .int x1), (2, .int x2)] → f_Val_isThere_62 s x1 x2 = some z → W p l e (rmX 1 21) ss m args below meth c H locs 0 0 Q (F0 m 62 ls []) := by
  have ⟨⟨hx, hb, hml, hown, hts⟩, hK, hA, hN⟩ := C
  intro x1 x2 H locs ls hX hl h
  rw [f_Val_isThere_62] at h
  refine lv_iconst (v := 0) hx hb d_Val_isThere_62 (by decide) ?_
  exact w_Val_isThere_63 C hQ x1 x2 0 H locs ls hX hl h
set_option maxHeartbeats 4000000 in
set_option maxRecDepth 100000 in
theorem w_Val_isThere {s : St} {z : Int32} (C : Cx g A p m c b_Val_isThere 3 ss args R_Val) (hQ : ∀ (pc : Nat) (H : Heap) (locs : List Loc) (ls : Array Slot), XW g A ss (wX g s) H locs → (z = 0 ∨ z = 1) → decode b_Val_isThere pc = .ok (.ireturn, 1) → W p l e (rmX 1 21) ss m args below meth c H locs 0 0 Q (F0 m pc ls [.int z])) : ∀ (x1 : Int32) (x2 : Int32) (H : Heap) (locs : List Loc) (ls : Array Slot), XW g A ss (wX g s) H locs → lv_has ls 3 [(0, .ref (g.q 3)), (1, .int x1), (2, .int x2)] → f_Val_isThere s x1 x2 = some z → W p l e (rmX 1 21) ss m args below meth c H locs 0 0 Q (F0 m 0 ls []) := by
  have ⟨⟨hx, hb, hml, hown, hts⟩, hK, hA, hN⟩ := C
  intro x1 x2 H locs ls hX hl h
  rw [f_Val_isThere] at h
  refine lv_iload_n hx hb d_Val_isThere_0 rfl (lv_at hl 1 rfl) ?_
  by_cases c1_0 : x1 = 0
  · have h := ite_t c1_0 h
    refine lv_tableIn (tgt := 32) hx hb d_Val_isThere_1 (by rw [c1_0]; decide) (by rw [c1_0]; decide) (by rw [c1_0]; rfl) (by decide) ?_
    refine lv_aload_n hx hb d_Val_isThere_32 rfl (lv_at hl 0 rfl) ?_
    refine gf_3_contents C hX fl_Val_20 d_Val_isThere_33 ?_
    refine gf_1_functions C hX fl_Val_53 d_Val_isThere_36 ?_
    refine lv_iload_n hx hb d_Val_isThere_39 rfl (lv_at hl 2 rfl) ?_
    obtain ⟨r1, er1, h⟩ := lt1_e h
    refine x_vI (r := r1) (ws' := wX g s) (As := [.int x2]) (rest := []) C hX (by rw [er1]; exact cTabHas_12 l g s x2) (cw_Val_69 C.1.2.2.2.2 C.2.2.2 ⟨by decide, by decide⟩) (x_rc C hX wg_12 rfl) rfl hl.1 rfl (lv_room (Nat.le_of_ble_eq_true rfl)) d_Val_isThere_40 ⟨Nat.le_refl _, Nat.le_refl _⟩ (fun H locs hX => ?_)
    obtain ⟨hz, h⟩ := bz_e h
    obtain rfl := so1 h
    exact hQ _ H locs ls hX hz d_Val_isThere_43
  have h := ite_f c1_0 h
  by_cases c1_1 : x1 = 2
  · have h := ite_t c1_1 h
    refine lv_tableIn (tgt := 44) hx hb d_Val_isThere_1 (by rw [c1_1]; decide) (by rw [c1_1]; decide) (by rw [c1_1]; rfl) (by decide) ?_
    refine lv_aload_n hx hb d_Val_isThere_44 rfl (lv_at hl 0 rfl) ?_
    refine gf_3_contents C hX fl_Val_20 d_Val_isThere_45 ?_
    refine gf_1_hasMemory C hX fl_Val_80 d_Val_isThere_48 ?_
    refine lv_if_eq (tgt := 62) hx hb d_Val_isThere_51 (by decide) (fun c51 => ?_) (fun c51 => ?_)
    · have h := ite_t c51 h
      exact w_Val_isThere_62 C hQ x1 x2 H locs ls hX hl h
    · have h := ite_f c51 h
      refine lv_iload_n hx hb d_Val_isThere_54 rfl (lv_at hl 2 rfl) ?_
      refine lv_if_ne (tgt := 62) hx hb d_Val_isThere_55 (by decide) (fun c55 => ?_) (fun c55 => ?_)
      · have h := ite_f c55 h
        exact w_Val_isThere_62 C hQ x1 x2 H locs ls hX hl h
      · have h := ite_t c55 h
        refine lv_iconst (v := 1) hx hb d_Val_isThere_58 (by decide) ?_
        refine lv_goto (tgt := 63) hx hb d_Val_isThere_59 (by decide) ?_
        exact w_Val_isThere_63 C hQ x1 x2 1 H locs ls hX hl h
  have h := ite_f c1_1 h
  by_cases c1_2 : x1 = 3
  · have h := ite_t c1_2 h
    refine lv_tableIn (tgt := 64) hx hb d_Val_isThere_1 (by rw [c1_2]; decide) (by rw [c1_2]; decide) (by rw [c1_2]; rfl) (by decide) ?_
    refine lv_aload_n hx hb d_Val_isThere_64 rfl (lv_at hl 0 rfl) ?_
    refine gf_3_contents C hX fl_Val_20 d_Val_isThere_65 ?_
    refine gf_1_globals C hX fl_Val_84 d_Val_isThere_68 ?_
    refine lv_iload_n hx hb d_Val_isThere_71 rfl (lv_at hl 2 rfl) ?_
    obtain ⟨r2, er2, h⟩ := lt1_e h
    refine x_vI (r := r2) (ws' := wX g s) (As := [.int x2]) (rest := []) C hX (by rw [er2]; exact cTabHas_14 l g s x2) (cw_Val_69 C.1.2.2.2.2 C.2.2.2 ⟨by decide, by decide⟩) (x_rc C hX wg_14 rfl) rfl hl.1 rfl (lv_room (Nat.le_of_ble_eq_true rfl)) d_Val_isThere_72 ⟨Nat.le_refl _, Nat.le_refl _⟩ (fun H locs hX => ?_)
    obtain ⟨hz, h⟩ := bz_e h
    obtain rfl := so1 h
    exact hQ _ H locs ls hX hz d_Val_isThere_75
  have h := ite_f c1_2 h
  by_cases c1_g1 : x1 = 1
  · refine lv_tableIn (tgt := 76) hx hb d_Val_isThere_1 (by rw [c1_g1]; decide) (by rw [c1_g1]; decide) (by rw [c1_g1]; rfl) (by decide) ?_
    exact w_Val_isThere_76 C hQ x1 x2 H locs ls hX hl h
  have hz := And.intro trivial trivial
  have hn0 := lv_neT c1_0 (a := 0) (by decide)
  have hn1 := lv_neT c1_1 (a := 2) (by decide)
  have hn2 := lv_neT c1_2 (a := 3) (by decide)
  have hn3 := lv_neT c1_g1 (a := 1) (by decide)
  refine lv_tableOut (tgt := 76) hx hb d_Val_isThere_1 (by omega) (by decide) ?_
  exact w_Val_isThere_76 C hQ x1 x2 H locs ls hX hl h
end WALK
theorem c_Val_isThere (l : Launch) (g : GX) (x1 : Int32) (x2 : Int32) (s : St) (z : Int32) (h : f_Val_isThere s x1 x2 = some z) : MI l g y_Val_isThere b_Val_isThere 3 (some .boolean) 1 21 [.ref (g.q 3), .int x1, .int x2] (wX g s) z (wX g s) :=
  MI.mkZ (own := R_Val) (by decide) rfl (Nat.le_of_ble_eq_true rfl) fun p e ss m below meth c A Q C hQ ls hX hl => w_Val_isThere C hQ x1 x2 _ _ ls hX hl h
-- Val_haveSameName
def f_Val_haveSameName_85 (s : St) (k36 : Int32 → Int32 → Int32 → Int32 → Option Int32) (x1 : Int32) (x2 : Int32) (x3 : Int32) (x4 : Int32) (y0 : Int32) : Option Int32 :=
    lt1 (x4 + (1)) fun v1 =>
    k36 x1 x2 y0 v1
def f_Val_haveSameName_84 (s : St) (k36 : Int32 → Int32 → Int32 → Int32 → Option Int32) (x1 : Int32) (x2 : Int32) (x3 : Int32) (x4 : Int32) : Option Int32 :=
    f_Val_haveSameName_85 s k36 x1 x2 x3 x4 0
def f_Val_haveSameName_36 (s : St) : Nat → Int32 → Int32 → Int32 → Int32 → Option Int32
  | 0, _, _, _, _ => none
  | n + 1, x1, x2, x3, x4 =>
    if 8 ≤ x4 then
      bz x3 <|
      some (x3)
    else
      if x3 = 0 then
        f_Val_haveSameName_84 s (f_Val_haveSameName_36 s n) x1 x2 x3 x4
      else
        lt1 (3 + x4) fun v1 =>
        lt1 (tGet 8 11 (s 17) x1 v1) fun r2 =>
        lt1 (3 + x4) fun v3 =>
        lt1 (tGet 8 11 (s 17) x2 v3) fun r4 =>
        if r2 = r4 then
          f_Val_haveSameName_85 s (f_Val_haveSameName_36 s n) x1 x2 x3 x4 1
        else
          f_Val_haveSameName_84 s (f_Val_haveSameName_36 s n) x1 x2 x3 x4
def f_Val_haveSameName_32 (s : St) (x1 : Int32) (x2 : Int32) (y0 : Int32) : Option Int32 :=
    f_Val_haveSameName_36 s FU x1 x2 y0 0
def f_Val_haveSameName (s : St) (x1 : Int32) (x2 : Int32) : Option Int32 :=
    lt1 (tGet 8 11 (s 17) x1 2) fun r1 =>
    lt1 (tGet 8 11 (s 17) x2 2) fun r2 =>
    if r1 = r2 then
      f_Val_haveSameName_32 s x1 x2 1
    else
      f_Val_haveSameName_32 s x1 x2 0
section WALK
variable {p : Program} {l : Launch} {e : Env} {ss : State} {m : MethodId} {args : Array Value} {below : List Frame} {meth : Method} {c : Code} {Q : State → Prop} {g : GX} {A : Nat → Prop}
set_option maxHeartbeats 4000000 in
set_option maxRecDepth 100000 in
theorem w_Val_haveSameName_85 {s : St} {z : Int32} (C : Cx g A p m c b_Val_haveSameName 5 ss args R_Val) (hQ : ∀ (pc : Nat) (H : Heap) (locs : List Loc) (ls : Array Slot), XW g A ss (wX g s) H locs → (z = 0 ∨ z = 1) → decode b_Val_haveSameName pc = .ok (.ireturn, 1) → W p l e (rmX 1 23) ss m args below meth c H locs 0 0 Q (F0 m pc ls [.int z])) (k36 : Int32 → Int32 → Int32 → Int32 → Option Int32) (hk36 : ∀ (x1 : Int32) (x2 : Int32) (x3 : Int32) (x4 : Int32) (H : Heap) (locs : List Loc) (ls : Array Slot), XW g A ss (wX g s) H locs → lv_has ls 5 [(0, .ref (g.q 3)), (1, .int x1), (2, .int x2), (3, .int x3), (4, .int x4)] → k36 x1 x2 x3 x4 = some z → W p l e (rmX 1 23) ss m args below meth c H locs 0 0 Q (F0 m 36 ls [])) : ∀ (x1 : Int32) (x2 : Int32) (x3 : Int32) (x4 : Int32) (y0 : Int32) (H : Heap) (locs : List Loc) (ls : Array Slot), XW g A ss (wX g s) H locs → lv_has ls 5 [(0, .ref (g.q 3)), (1, .int x1), (2, .int x2), (3, .int x3), (4, .int x4)] → f_Val_haveSameName_85 s k36 x1 x2 x3 x4 y0 = some z → W p l e (rmX 1 23) ss m args below meth c H locs 0 0 Q (F0 m 85 ls [.int y0]) := by
  have ⟨⟨hx, hb, hml, hown, hts⟩, hK, hA, hN⟩ := C
  intro x1 x2 x3 x4 y0 H locs ls hX hl h
  rw [f_Val_haveSameName_85] at h
  refine lv_istore_n (lv' := [(3, .int y0), (0, .ref (g.q 3)), (1, .int x1), (2, .int x2), (4, .int x4)]) hx hb d_Val_haveSameName_85 rfl hl (by decide) rfl (fun ls hl => ?_)
  obtain ⟨v1, ev1, h⟩ := lt1_e h
  refine lv_iinc (v := v1) (lv' := [(4, .int v1), (3, .int y0), (0, .ref (g.q 3)), (1, .int x1), (2, .int x2)]) hx hb d_Val_haveSameName_86 hl (k := 4) rfl (by rw [ev1]; rfl) (by decide) rfl (fun ls hl => ?_)
  refine lv_goto (tgt := 36) hx hb d_Val_haveSameName_89 (by decide) ?_
  exact hk36 x1 x2 y0 v1 H locs ls hX (lv_sub hl [2, 3, 4, 1, 0] rfl) h
set_option maxHeartbeats 4000000 in
set_option maxRecDepth 100000 in
theorem w_Val_haveSameName_84 {s : St} {z : Int32} (C : Cx g A p m c b_Val_haveSameName 5 ss args R_Val) (hQ : ∀ (pc : Nat) (H : Heap) (locs : List Loc) (ls : Array Slot), XW g A ss (wX g s) H locs → (z = 0 ∨ z = 1) → decode b_Val_haveSameName pc = .ok (.ireturn, 1) → W p l e (rmX 1 23) ss m args below meth c H locs 0 0 Q (F0 m pc ls [.int z])) (k36 : Int32 → Int32 → Int32 → Int32 → Option Int32) (hk36 : ∀ (x1 : Int32) (x2 : Int32) (x3 : Int32) (x4 : Int32) (H : Heap) (locs : List Loc) (ls : Array Slot), XW g A ss (wX g s) H locs → lv_has ls 5 [(0, .ref (g.q 3)), (1, .int x1), (2, .int x2), (3, .int x3), (4, .int x4)] → k36 x1 x2 x3 x4 = some z → W p l e (rmX 1 23) ss m args below meth c H locs 0 0 Q (F0 m 36 ls [])) : ∀ (x1 : Int32) (x2 : Int32) (x3 : Int32) (x4 : Int32) (H : Heap) (locs : List Loc) (ls : Array Slot), XW g A ss (wX g s) H locs → lv_has ls 5 [(0, .ref (g.q 3)), (1, .int x1), (2, .int x2), (3, .int x3), (4, .int x4)] → f_Val_haveSameName_84 s k36 x1 x2 x3 x4 = some z → W p l e (rmX 1 23) ss m args below meth c H locs 0 0 Q (F0 m 84 ls []) := by
  have ⟨⟨hx, hb, hml, hown, hts⟩, hK, hA, hN⟩ := C
  intro x1 x2 x3 x4 H locs ls hX hl h
  rw [f_Val_haveSameName_84] at h
  refine lv_iconst (v := 0) hx hb d_Val_haveSameName_84 (by decide) ?_
  exact w_Val_haveSameName_85 C hQ k36 hk36 x1 x2 x3 x4 0 H locs ls hX hl h
set_option maxHeartbeats 4000000 in
set_option maxRecDepth 100000 in
theorem w_Val_haveSameName_36 {s : St} {z : Int32} (C : Cx g A p m c b_Val_haveSameName 5 ss args R_Val) (hQ : ∀ (pc : Nat) (H : Heap) (locs : List Loc) (ls : Array Slot), XW g A ss (wX g s) H locs → (z = 0 ∨ z = 1) → decode b_Val_haveSameName pc = .ok (.ireturn, 1) → W p l e (rmX 1 23) ss m args below meth c H locs 0 0 Q (F0 m pc ls [.int z])) (n : Nat) : ∀ (x1 : Int32) (x2 : Int32) (x3 : Int32) (x4 : Int32) (H : Heap) (locs : List Loc) (ls : Array Slot), XW g A ss (wX g s) H locs → lv_has ls 5 [(0, .ref (g.q 3)), (1, .int x1), (2, .int x2), (3, .int x3), (4, .int x4)] → f_Val_haveSameName_36 s n x1 x2 x3 x4 = some z → W p l e (rmX 1 23) ss m args below meth c H locs 0 0 Q (F0 m 36 ls []) := by
  have ⟨⟨hx, hb, hml, hown, hts⟩, hK, hA, hN⟩ := C
  induction n with
  | zero => intro x1 x2 x3 x4 H locs ls hX hl h; cases h
  | succ n ih =>
    intro x1 x2 x3 x4 H locs ls hX hl h
    rw [f_Val_haveSameName_36] at h
    refine lv_iload hx hb d_Val_haveSameName_36 (lv_at hl 4 rfl) ?_
    refine lv_bipush (v := 8) hx hb d_Val_haveSameName_38 (by decide) ?_
    refine lv_icmp_ge (tgt := 92) hx hb d_Val_haveSameName_40 (by decide) (fun c40 => ?_) (fun c40 => ?_)
    · have h := ite_t c40 h
      refine lv_iload_n hx hb d_Val_haveSameName_92 rfl (lv_at hl 3 rfl) ?_
      obtain ⟨hz, h⟩ := bz_e h
      obtain rfl := so1 h
      exact hQ _ H locs ls hX hz d_Val_haveSameName_93
    · have h := ite_f c40 h
      refine lv_iload_n hx hb d_Val_haveSameName_43 rfl (lv_at hl 3 rfl) ?_
      refine lv_if_eq (tgt := 84) hx hb d_Val_haveSameName_44 (by decide) (fun c44 => ?_) (fun c44 => ?_)
      · have h := ite_t c44 h
        exact w_Val_haveSameName_84 C hQ (f_Val_haveSameName_36 s n) ih x1 x2 x3 x4 H locs ls hX hl h
      · have h := ite_f c44 h
        refine lv_aload_n hx hb d_Val_haveSameName_47 rfl (lv_at hl 0 rfl) ?_
        refine gf_3_contents C hX fl_Val_20 d_Val_haveSameName_48 ?_
        refine gf_1_exports C hX fl_Val_43 d_Val_haveSameName_51 ?_
        refine lv_iload_n hx hb d_Val_haveSameName_54 rfl (lv_at hl 1 rfl) ?_
        refine lv_iconst (v := 3) hx hb d_Val_haveSameName_55 (by decide) ?_
        refine lv_iload hx hb d_Val_haveSameName_56 (lv_at hl 4 rfl) ?_
        obtain ⟨v1, ev1, h⟩ := lt1_e h
        refine x_iadd hx hb d_Val_haveSameName_58 ev1 ?_
        obtain ⟨r2, er2, h⟩ := lt1_e h
        refine x_vI (r := r2) (ws' := wX g s) (As := [.int x1, .int v1]) (rest := []) C hX (by rw [er2]; exact cTabGet_16 l g s x1 v1) (cw_Val_65 C.1.2.2.2.2 C.2.2.2 ⟨by decide, by decide⟩) (x_rc C hX wg_16 rfl) rfl hl.1 rfl (lv_room (Nat.le_of_ble_eq_true rfl)) d_Val_haveSameName_59 ⟨Nat.le_refl _, Nat.le_refl _⟩ (fun H locs hX => ?_)
        refine lv_aload_n hx hb d_Val_haveSameName_62 rfl (lv_at hl 0 rfl) ?_
        refine gf_3_contents C hX fl_Val_20 d_Val_haveSameName_63 ?_
        refine gf_1_exports C hX fl_Val_43 d_Val_haveSameName_66 ?_
        refine lv_iload_n hx hb d_Val_haveSameName_69 rfl (lv_at hl 2 rfl) ?_
        refine lv_iconst (v := 3) hx hb d_Val_haveSameName_70 (by decide) ?_
        refine lv_iload hx hb d_Val_haveSameName_71 (lv_at hl 4 rfl) ?_
        obtain ⟨v3, ev3, h⟩ := lt1_e h
        refine x_iadd hx hb d_Val_haveSameName_73 ev3 ?_
        obtain ⟨r4, er4, h⟩ := lt1_e h
        refine x_vI (r := r4) (ws' := wX g s) (As := [.int x2, .int v3]) (rest := [.int r2]) C hX (by rw [er4]; exact cTabGet_16 l g s x2 v3) (cw_Val_65 C.1.2.2.2.2 C.2.2.2 ⟨by decide, by decide⟩) (x_rc C hX wg_16 rfl) rfl hl.1 rfl (lv_room (Nat.le_of_ble_eq_true rfl)) d_Val_haveSameName_74 ⟨Nat.le_refl _, Nat.le_refl _⟩ (fun H locs hX => ?_)
        refine lv_icmp_ne (tgt := 84) hx hb d_Val_haveSameName_77 (by decide) (fun c77 => ?_) (fun c77 => ?_)
        · have h := ite_f c77 h
          exact w_Val_haveSameName_84 C hQ (f_Val_haveSameName_36 s n) ih x1 x2 x3 x4 H locs ls hX hl h
        · have h := ite_t c77 h
          refine lv_iconst (v := 1) hx hb d_Val_haveSameName_80 (by decide) ?_
          refine lv_goto (tgt := 85) hx hb d_Val_haveSameName_81 (by decide) ?_
          exact w_Val_haveSameName_85 C hQ (f_Val_haveSameName_36 s n) ih x1 x2 x3 x4 1 H locs ls hX hl h
set_option maxHeartbeats 4000000 in
set_option maxRecDepth 100000 in
theorem w_Val_haveSameName_32 {s : St} {z : Int32} (C : Cx g A p m c b_Val_haveSameName 5 ss args R_Val) (hQ : ∀ (pc : Nat) (H : Heap) (locs : List Loc) (ls : Array Slot), XW g A ss (wX g s) H locs → (z = 0 ∨ z = 1) → decode b_Val_haveSameName pc = .ok (.ireturn, 1) → W p l e (rmX 1 23) ss m args below meth c H locs 0 0 Q (F0 m pc ls [.int z])) : ∀ (x1 : Int32) (x2 : Int32) (y0 : Int32) (H : Heap) (locs : List Loc) (ls : Array Slot), XW g A ss (wX g s) H locs → lv_has ls 5 [(0, .ref (g.q 3)), (1, .int x1), (2, .int x2)] → f_Val_haveSameName_32 s x1 x2 y0 = some z → W p l e (rmX 1 23) ss m args below meth c H locs 0 0 Q (F0 m 32 ls [.int y0]) := by
  have ⟨⟨hx, hb, hml, hown, hts⟩, hK, hA, hN⟩ := C
  intro x1 x2 y0 H locs ls hX hl h
  rw [f_Val_haveSameName_32] at h
  refine lv_istore_n (lv' := [(3, .int y0), (0, .ref (g.q 3)), (1, .int x1), (2, .int x2)]) hx hb d_Val_haveSameName_32 rfl hl (by decide) rfl (fun ls hl => ?_)
  refine lv_iconst (v := 0) hx hb d_Val_haveSameName_33 (by decide) ?_
  refine lv_istore (lv' := [(4, .int 0), (3, .int y0), (0, .ref (g.q 3)), (1, .int x1), (2, .int x2)]) hx hb d_Val_haveSameName_34 hl (by decide) rfl (fun ls hl => ?_)
  exact w_Val_haveSameName_36 C hQ FU x1 x2 y0 0 H locs ls hX (lv_sub hl [2, 3, 4, 1, 0] rfl) h
set_option maxHeartbeats 4000000 in
set_option maxRecDepth 100000 in
theorem w_Val_haveSameName {s : St} {z : Int32} (C : Cx g A p m c b_Val_haveSameName 5 ss args R_Val) (hQ : ∀ (pc : Nat) (H : Heap) (locs : List Loc) (ls : Array Slot), XW g A ss (wX g s) H locs → (z = 0 ∨ z = 1) → decode b_Val_haveSameName pc = .ok (.ireturn, 1) → W p l e (rmX 1 23) ss m args below meth c H locs 0 0 Q (F0 m pc ls [.int z])) : ∀ (x1 : Int32) (x2 : Int32) (H : Heap) (locs : List Loc) (ls : Array Slot), XW g A ss (wX g s) H locs → lv_has ls 5 [(0, .ref (g.q 3)), (1, .int x1), (2, .int x2)] → f_Val_haveSameName s x1 x2 = some z → W p l e (rmX 1 23) ss m args below meth c H locs 0 0 Q (F0 m 0 ls []) := by
  have ⟨⟨hx, hb, hml, hown, hts⟩, hK, hA, hN⟩ := C
  intro x1 x2 H locs ls hX hl h
  rw [f_Val_haveSameName] at h
  refine lv_aload_n hx hb d_Val_haveSameName_0 rfl (lv_at hl 0 rfl) ?_
  refine gf_3_contents C hX fl_Val_20 d_Val_haveSameName_1 ?_
  refine gf_1_exports C hX fl_Val_43 d_Val_haveSameName_4 ?_
  refine lv_iload_n hx hb d_Val_haveSameName_7 rfl (lv_at hl 1 rfl) ?_
  refine lv_iconst (v := 2) hx hb d_Val_haveSameName_8 (by decide) ?_
  obtain ⟨r1, er1, h⟩ := lt1_e h
  refine x_vI (r := r1) (ws' := wX g s) (As := [.int x1, .int 2]) (rest := []) C hX (by rw [er1]; exact cTabGet_16 l g s x1 2) (cw_Val_65 C.1.2.2.2.2 C.2.2.2 ⟨by decide, by decide⟩) (x_rc C hX wg_16 rfl) rfl hl.1 rfl (lv_room (Nat.le_of_ble_eq_true rfl)) d_Val_haveSameName_9 ⟨Nat.le_refl _, Nat.le_refl _⟩ (fun H locs hX => ?_)
  refine lv_aload_n hx hb d_Val_haveSameName_12 rfl (lv_at hl 0 rfl) ?_
  refine gf_3_contents C hX fl_Val_20 d_Val_haveSameName_13 ?_
  refine gf_1_exports C hX fl_Val_43 d_Val_haveSameName_16 ?_
  refine lv_iload_n hx hb d_Val_haveSameName_19 rfl (lv_at hl 2 rfl) ?_
  refine lv_iconst (v := 2) hx hb d_Val_haveSameName_20 (by decide) ?_
  obtain ⟨r2, er2, h⟩ := lt1_e h
  refine x_vI (r := r2) (ws' := wX g s) (As := [.int x2, .int 2]) (rest := [.int r1]) C hX (by rw [er2]; exact cTabGet_16 l g s x2 2) (cw_Val_65 C.1.2.2.2.2 C.2.2.2 ⟨by decide, by decide⟩) (x_rc C hX wg_16 rfl) rfl hl.1 rfl (lv_room (Nat.le_of_ble_eq_true rfl)) d_Val_haveSameName_21 ⟨Nat.le_refl _, Nat.le_refl _⟩ (fun H locs hX => ?_)
  refine lv_icmp_ne (tgt := 31) hx hb d_Val_haveSameName_24 (by decide) (fun c24 => ?_) (fun c24 => ?_)
  · have h := ite_f c24 h
    refine lv_iconst (v := 0) hx hb d_Val_haveSameName_31 (by decide) ?_
    exact w_Val_haveSameName_32 C hQ x1 x2 0 H locs ls hX hl h
  · have h := ite_t c24 h
    refine lv_iconst (v := 1) hx hb d_Val_haveSameName_27 (by decide) ?_
    refine lv_goto (tgt := 32) hx hb d_Val_haveSameName_28 (by decide) ?_
    exact w_Val_haveSameName_32 C hQ x1 x2 1 H locs ls hX hl h
end WALK
theorem c_Val_haveSameName (l : Launch) (g : GX) (x1 : Int32) (x2 : Int32) (s : St) (z : Int32) (h : f_Val_haveSameName s x1 x2 = some z) : MI l g y_Val_haveSameName b_Val_haveSameName 5 (some .boolean) 1 23 [.ref (g.q 3), .int x1, .int x2] (wX g s) z (wX g s) :=
  MI.mkZ (own := R_Val) (by decide) rfl (Nat.le_of_ble_eq_true rfl) fun p e ss m below meth c A Q C hQ ls hX hl => w_Val_haveSameName C hQ x1 x2 _ _ ls hX hl h
-- Val_judgeExport
def f_Val_judgeExport_57 (k38 : Int32 → Int32 → St → Option St) (x1 : Int32) (x2 : Int32) (s : St) : Option St :=
    lt1 (x2 + (1)) fun v1 =>
    k38 x1 v1 s
def f_Val_judgeExport_38 : Nat → Int32 → Int32 → St → Option St
  | 0, _, _, _ => none
  | n + 1, x1, x2, s =>
    if x1 ≤ x2 then
      some s
    else
      bd1 (f_Val_haveSameName s x2 x1) fun r1 =>
      if r1 = 0 then
        f_Val_judgeExport_57 (f_Val_judgeExport_38 n) x1 x2 s
      else
        bd1 (f_Val_refuse 3 s) fun s2 =>
        f_Val_judgeExport_57 (f_Val_judgeExport_38 n) x1 x2 s2
def f_Val_judgeExport_36 (x1 : Int32) (s : St) : Option St :=
    f_Val_judgeExport_38 FU x1 0 s
def f_Val_judgeExport (x1 : Int32) (s : St) : Option St :=
    lt1 (tGet 8 11 (s 17) x1 0) fun r1 =>
    lt1 (tGet 8 11 (s 17) x1 1) fun r2 =>
    bd1 (f_Val_isThere s r1 r2) fun r3 =>
    if r3 = 0 then
      bd1 (f_Val_refuse 3 s) fun s4 =>
      f_Val_judgeExport_36 x1 s4
    else
      f_Val_judgeExport_36 x1 s
section WALK
variable {p : Program} {l : Launch} {e : Env} {ss : State} {m : MethodId} {args : Array Value} {below : List Frame} {meth : Method} {c : Code} {Q : State → Prop} {g : GX} {A : Nat → Prop}
set_option maxHeartbeats 4000000 in
set_option maxRecDepth 100000 in
theorem w_Val_judgeExport_57 {z : St} (C : Cx g A p m c b_Val_judgeExport 3 ss args R_Val) (hQ : ∀ (pc : Nat) (H : Heap) (locs : List Loc) (ls : Array Slot), XW g A ss (wX g z) H locs → decode b_Val_judgeExport pc = .ok (.return_, 1) → W p l e (rmX 2 47) ss m args below meth c H locs 0 0 Q (F0 m pc ls [])) (k38 : Int32 → Int32 → St → Option St) (hk38 : ∀ (x1 : Int32) (x2 : Int32) (s : St) (H : Heap) (locs : List Loc) (ls : Array Slot), XW g A ss (wX g s) H locs → lv_has ls 3 [(0, .ref (g.q 3)), (1, .int x1), (2, .int x2)] → k38 x1 x2 s = some z → W p l e (rmX 2 47) ss m args below meth c H locs 0 0 Q (F0 m 38 ls [])) : ∀ (x1 : Int32) (x2 : Int32) (s : St) (H : Heap) (locs : List Loc) (ls : Array Slot), XW g A ss (wX g s) H locs → lv_has ls 3 [(0, .ref (g.q 3)), (1, .int x1), (2, .int x2)] → f_Val_judgeExport_57 k38 x1 x2 s = some z → W p l e (rmX 2 47) ss m args below meth c H locs 0 0 Q (F0 m 57 ls []) := by
  have ⟨⟨hx, hb, hml, hown, hts⟩, hK, hA, hN⟩ := C
  intro x1 x2 s H locs ls hX hl h
  rw [f_Val_judgeExport_57] at h
  obtain ⟨v1, ev1, h⟩ := lt1_e h
  refine lv_iinc (v := v1) (lv' := [(2, .int v1), (0, .ref (g.q 3)), (1, .int x1)]) hx hb d_Val_judgeExport_57 hl (k := 2) rfl (by rw [ev1]; rfl) (by decide) rfl (fun ls hl => ?_)
  refine lv_goto (tgt := 38) hx hb d_Val_judgeExport_60 (by decide) ?_
  exact hk38 x1 v1 s H locs ls hX (lv_sub hl [1, 2, 0] rfl) h
set_option maxHeartbeats 4000000 in
set_option maxRecDepth 100000 in
theorem w_Val_judgeExport_38 {z : St} (C : Cx g A p m c b_Val_judgeExport 3 ss args R_Val) (hQ : ∀ (pc : Nat) (H : Heap) (locs : List Loc) (ls : Array Slot), XW g A ss (wX g z) H locs → decode b_Val_judgeExport pc = .ok (.return_, 1) → W p l e (rmX 2 47) ss m args below meth c H locs 0 0 Q (F0 m pc ls [])) (n : Nat) : ∀ (x1 : Int32) (x2 : Int32) (s : St) (H : Heap) (locs : List Loc) (ls : Array Slot), XW g A ss (wX g s) H locs → lv_has ls 3 [(0, .ref (g.q 3)), (1, .int x1), (2, .int x2)] → f_Val_judgeExport_38 n x1 x2 s = some z → W p l e (rmX 2 47) ss m args below meth c H locs 0 0 Q (F0 m 38 ls []) := by
  have ⟨⟨hx, hb, hml, hown, hts⟩, hK, hA, hN⟩ := C
  induction n with
  | zero => intro x1 x2 s H locs ls hX hl h; cases h
  | succ n ih =>
    intro x1 x2 s H locs ls hX hl h
    rw [f_Val_judgeExport_38] at h
    refine lv_iload_n hx hb d_Val_judgeExport_38 rfl (lv_at hl 2 rfl) ?_
    refine lv_iload_n hx hb d_Val_judgeExport_39 rfl (lv_at hl 1 rfl) ?_
    refine lv_icmp_ge (tgt := 63) hx hb d_Val_judgeExport_40 (by decide) (fun c40 => ?_) (fun c40 => ?_)
    · have h := ite_t c40 h
      obtain rfl := so1 h
      exact hQ _ H locs ls hX d_Val_judgeExport_63
    · have h := ite_f c40 h
      refine lv_aload_n hx hb d_Val_judgeExport_43 rfl (lv_at hl 0 rfl) ?_
      refine lv_iload_n hx hb d_Val_judgeExport_44 rfl (lv_at hl 2 rfl) ?_
      refine lv_iload_n hx hb d_Val_judgeExport_45 rfl (lv_at hl 1 rfl) ?_
      obtain ⟨r1, hc46, h⟩ := bd1_e h
      refine x_vI (As := [.int x2, .int x1]) (rest := []) C hX (c_Val_haveSameName l g x2 x1 s r1 hc46) (cw_Val_77 C.1.2.2.2.2 C.2.2.2 ⟨by decide, by decide⟩) (x_rc C hX wg_3 rfl) rfl hl.1 rfl (lv_room (Nat.le_of_ble_eq_true rfl)) d_Val_judgeExport_46 ⟨Nat.le_refl _, Nat.le_refl _⟩ (fun H locs hX => ?_)
      refine lv_if_eq (tgt := 57) hx hb d_Val_judgeExport_49 (by decide) (fun c49 => ?_) (fun c49 => ?_)
      · have h := ite_t c49 h
        exact w_Val_judgeExport_57 C hQ (f_Val_judgeExport_38 n) ih x1 x2 s H locs ls hX hl h
      · have h := ite_f c49 h
        refine lv_aload_n hx hb d_Val_judgeExport_52 rfl (lv_at hl 0 rfl) ?_
        refine lv_iconst (v := 3) hx hb d_Val_judgeExport_53 (by decide) ?_
        obtain ⟨s2, hc54, h⟩ := bd1_e h
        refine x_vV (As := [.int 3]) (rest := []) C hX (c_Val_refuse l g 3 s s2 hc54) (cw_Val_39 C.1.2.2.2.2 C.2.2.2 ⟨by decide, by decide⟩) (x_rc C hX wg_3 rfl) rfl hl.1 rfl (lv_room (Nat.le_of_ble_eq_true rfl)) d_Val_judgeExport_54 ⟨Nat.le_refl _, Nat.le_refl _⟩ (fun H locs hX => ?_)
        exact w_Val_judgeExport_57 C hQ (f_Val_judgeExport_38 n) ih x1 x2 s2 H locs ls hX hl h
set_option maxHeartbeats 4000000 in
set_option maxRecDepth 100000 in
theorem w_Val_judgeExport_36 {z : St} (C : Cx g A p m c b_Val_judgeExport 3 ss args R_Val) (hQ : ∀ (pc : Nat) (H : Heap) (locs : List Loc) (ls : Array Slot), XW g A ss (wX g z) H locs → decode b_Val_judgeExport pc = .ok (.return_, 1) → W p l e (rmX 2 47) ss m args below meth c H locs 0 0 Q (F0 m pc ls [])) : ∀ (x1 : Int32) (s : St) (H : Heap) (locs : List Loc) (ls : Array Slot), XW g A ss (wX g s) H locs → lv_has ls 3 [(0, .ref (g.q 3)), (1, .int x1)] → f_Val_judgeExport_36 x1 s = some z → W p l e (rmX 2 47) ss m args below meth c H locs 0 0 Q (F0 m 36 ls []) := by
  have ⟨⟨hx, hb, hml, hown, hts⟩, hK, hA, hN⟩ := C
  intro x1 s H locs ls hX hl h
  rw [f_Val_judgeExport_36] at h
  refine lv_iconst (v := 0) hx hb d_Val_judgeExport_36 (by decide) ?_
  refine lv_istore_n (lv' := [(2, .int 0), (0, .ref (g.q 3)), (1, .int x1)]) hx hb d_Val_judgeExport_37 rfl hl (by decide) rfl (fun ls hl => ?_)
  exact w_Val_judgeExport_38 C hQ FU x1 0 s H locs ls hX (lv_sub hl [1, 2, 0] rfl) h
set_option maxHeartbeats 4000000 in
set_option maxRecDepth 100000 in
theorem w_Val_judgeExport {z : St} (C : Cx g A p m c b_Val_judgeExport 3 ss args R_Val) (hQ : ∀ (pc : Nat) (H : Heap) (locs : List Loc) (ls : Array Slot), XW g A ss (wX g z) H locs → decode b_Val_judgeExport pc = .ok (.return_, 1) → W p l e (rmX 2 47) ss m args below meth c H locs 0 0 Q (F0 m pc ls [])) : ∀ (x1 : Int32) (s : St) (H : Heap) (locs : List Loc) (ls : Array Slot), XW g A ss (wX g s) H locs → lv_has ls 3 [(0, .ref (g.q 3)), (1, .int x1)] → f_Val_judgeExport x1 s = some z → W p l e (rmX 2 47) ss m args below meth c H locs 0 0 Q (F0 m 0 ls []) := by
  have ⟨⟨hx, hb, hml, hown, hts⟩, hK, hA, hN⟩ := C
  intro x1 s H locs ls hX hl h
  rw [f_Val_judgeExport] at h
  refine lv_aload_n hx hb d_Val_judgeExport_0 rfl (lv_at hl 0 rfl) ?_
  refine lv_aload_n hx hb d_Val_judgeExport_1 rfl (lv_at hl 0 rfl) ?_
  refine gf_3_contents C hX fl_Val_20 d_Val_judgeExport_2 ?_
  refine gf_1_exports C hX fl_Val_43 d_Val_judgeExport_5 ?_
  refine lv_iload_n hx hb d_Val_judgeExport_8 rfl (lv_at hl 1 rfl) ?_
  refine lv_iconst (v := 0) hx hb d_Val_judgeExport_9 (by decide) ?_
  obtain ⟨r1, er1, h⟩ := lt1_e h
  refine x_vI (r := r1) (ws' := wX g s) (As := [.int x1, .int 0]) (rest := [.ref (g.q 3)]) C hX (by rw [er1]; exact cTabGet_16 l g s x1 0) (cw_Val_65 C.1.2.2.2.2 C.2.2.2 ⟨by decide, by decide⟩) (x_rc C hX wg_16 rfl) rfl hl.1 rfl (lv_room (Nat.le_of_ble_eq_true rfl)) d_Val_judgeExport_10 ⟨Nat.le_refl _, Nat.le_refl _⟩ (fun H locs hX => ?_)
  refine lv_aload_n hx hb d_Val_judgeExport_13 rfl (lv_at hl 0 rfl) ?_
  refine gf_3_contents C hX fl_Val_20 d_Val_judgeExport_14 ?_
  refine gf_1_exports C hX fl_Val_43 d_Val_judgeExport_17 ?_
  refine lv_iload_n hx hb d_Val_judgeExport_20 rfl (lv_at hl 1 rfl) ?_
  refine lv_iconst (v := 1) hx hb d_Val_judgeExport_21 (by decide) ?_
  obtain ⟨r2, er2, h⟩ := lt1_e h
  refine x_vI (r := r2) (ws' := wX g s) (As := [.int x1, .int 1]) (rest := [.int r1, .ref (g.q 3)]) C hX (by rw [er2]; exact cTabGet_16 l g s x1 1) (cw_Val_65 C.1.2.2.2.2 C.2.2.2 ⟨by decide, by decide⟩) (x_rc C hX wg_16 rfl) rfl hl.1 rfl (lv_room (Nat.le_of_ble_eq_true rfl)) d_Val_judgeExport_22 ⟨Nat.le_refl _, Nat.le_refl _⟩ (fun H locs hX => ?_)
  obtain ⟨r3, hc25, h⟩ := bd1_e h
  refine x_vI (As := [.int r1, .int r2]) (rest := []) C hX (c_Val_isThere l g r1 r2 s r3 hc25) (cw_Val_73 C.1.2.2.2.2 C.2.2.2 ⟨by decide, by decide⟩) (x_rc C hX wg_3 rfl) rfl hl.1 rfl (lv_room (Nat.le_of_ble_eq_true rfl)) d_Val_judgeExport_25 ⟨Nat.le_refl _, Nat.le_refl _⟩ (fun H locs hX => ?_)
  refine lv_if_ne (tgt := 36) hx hb d_Val_judgeExport_28 (by decide) (fun c28 => ?_) (fun c28 => ?_)
  · have h := ite_f c28 h
    exact w_Val_judgeExport_36 C hQ x1 s H locs ls hX hl h
  · have h := ite_t c28 h
    refine lv_aload_n hx hb d_Val_judgeExport_31 rfl (lv_at hl 0 rfl) ?_
    refine lv_iconst (v := 3) hx hb d_Val_judgeExport_32 (by decide) ?_
    obtain ⟨s4, hc33, h⟩ := bd1_e h
    refine x_vV (As := [.int 3]) (rest := []) C hX (c_Val_refuse l g 3 s s4 hc33) (cw_Val_39 C.1.2.2.2.2 C.2.2.2 ⟨by decide, by decide⟩) (x_rc C hX wg_3 rfl) rfl hl.1 rfl (lv_room (Nat.le_of_ble_eq_true rfl)) d_Val_judgeExport_33 ⟨Nat.le_refl _, Nat.le_refl _⟩ (fun H locs hX => ?_)
    exact w_Val_judgeExport_36 C hQ x1 s4 H locs ls hX hl h
end WALK
theorem c_Val_judgeExport (l : Launch) (g : GX) (x1 : Int32) (s : St) (z : St) (h : f_Val_judgeExport x1 s = some z) : MV l g y_Val_judgeExport b_Val_judgeExport 3 none 2 47 [.ref (g.q 3), .int x1] (wX g s) (wX g z) :=
  MV.mk (own := R_Val) (by decide) rfl (Nat.le_of_ble_eq_true rfl) fun p e ss m below meth c A Q C hQ ls hX hl => w_Val_judgeExport C hQ x1 s _ _ ls hX hl h
-- Val_inner
def f_Val_inner (s : St) (x1 : Int32) : Option Int32 :=
    lt1 (s 3 0 - 1) fun v1 =>
    lt1 (tGet 11 6 (s 28) v1 x1) fun r2 =>
    some (r2)
section WALK
variable {p : Program} {l : Launch} {e : Env} {ss : State} {m : MethodId} {args : Array Value} {below : List Frame} {meth : Method} {c : Code} {Q : State → Prop} {g : GX} {A : Nat → Prop}
set_option maxHeartbeats 4000000 in
set_option maxRecDepth 100000 in
theorem w_Val_inner {s : St} {z : Int32} (C : Cx g A p m c b_Val_inner 2 ss args R_Val) (hQ : ∀ (pc : Nat) (H : Heap) (locs : List Loc) (ls : Array Slot), XW g A ss (wX g s) H locs → decode b_Val_inner pc = .ok (.ireturn, 1) → W p l e (rmX 1 23) ss m args below meth c H locs 0 0 Q (F0 m pc ls [.int z])) : ∀ (x1 : Int32) (H : Heap) (locs : List Loc) (ls : Array Slot), XW g A ss (wX g s) H locs → lv_has ls 2 [(0, .ref (g.q 3)), (1, .int x1)] → f_Val_inner s x1 = some z → W p l e (rmX 1 23) ss m args below meth c H locs 0 0 Q (F0 m 0 ls []) := by
  have ⟨⟨hx, hb, hml, hown, hts⟩, hK, hA, hN⟩ := C
  intro x1 H locs ls hX hl h
  rw [f_Val_inner] at h
  refine lv_aload_n hx hb d_Val_inner_0 rfl (lv_at hl 0 rfl) ?_
  refine gf_3_blocks C hX fl_Val_14 d_Val_inner_1 ?_
  refine lv_aload_n hx hb d_Val_inner_4 rfl (lv_at hl 0 rfl) ?_
  refine gf_3_open C hX fl_Val_99 d_Val_inner_5 ?_
  refine lv_iconst (v := 1) hx hb d_Val_inner_8 (by decide) ?_
  obtain ⟨v1, ev1, h⟩ := lt1_e h
  refine x_isub hx hb d_Val_inner_9 ev1 ?_
  refine lv_iload_n hx hb d_Val_inner_10 rfl (lv_at hl 1 rfl) ?_
  obtain ⟨r2, er2, h⟩ := lt1_e h
  refine x_vI (r := r2) (ws' := wX g s) (As := [.int v1, .int x1]) (rest := []) C hX (by rw [er2]; exact cTabGet_27 l g s v1 x1) (cw_Val_65 C.1.2.2.2.2 C.2.2.2 ⟨by decide, by decide⟩) (x_rc C hX wg_27 rfl) rfl hl.1 rfl (lv_room (Nat.le_of_ble_eq_true rfl)) d_Val_inner_11 ⟨Nat.le_refl _, Nat.le_refl _⟩ (fun H locs hX => ?_)
  obtain rfl := so1 h
  exact hQ _ H locs ls hX d_Val_inner_14
end WALK
theorem c_Val_inner (l : Launch) (g : GX) (x1 : Int32) (s : St) (z : Int32) (h : f_Val_inner s x1 = some z) : MI l g y_Val_inner b_Val_inner 2 (some .int) 1 23 [.ref (g.q 3), .int x1] (wX g s) z (wX g s) :=
  MI.mk (own := R_Val) (by decide) rfl (Nat.le_of_ble_eq_true rfl) fun p e ss m below meth c A Q C hQ ls hX hl => w_Val_inner C hQ x1 _ _ ls hX hl h
-- Val_isAlive
def f_Val_isAlive_21 (s : St) (y0 : Int32) : Option Int32 :=
    some (y0)
def f_Val_isAlive_20 (s : St) : Option Int32 :=
    f_Val_isAlive_21 s 0
def f_Val_isAlive (s : St) : Option Int32 :=
    bd1 (f_Val_inner s 5) fun r1 =>
    if r1 = 0 then
      f_Val_isAlive_20 s
    else
      bd1 (f_Val_inner s 4) fun r2 =>
      if r2 = 0 then
        f_Val_isAlive_21 s 1
      else
        f_Val_isAlive_20 s
section WALK
variable {p : Program} {l : Launch} {e : Env} {ss : State} {m : MethodId} {args : Array Value} {below : List Frame} {meth : Method} {c : Code} {Q : State → Prop} {g : GX} {A : Nat → Prop}
set_option maxHeartbeats 4000000 in
set_option maxRecDepth 100000 in
theorem w_Val_isAlive_21 {s : St} {z : Int32} (C : Cx g A p m c b_Val_isAlive 1 ss args R_Val) (hQ : ∀ (pc : Nat) (H : Heap) (locs : List Loc) (ls : Array Slot), XW g A ss (wX g s) H locs → decode b_Val_isAlive pc = .ok (.ireturn, 1) → W p l e (rmX 2 44) ss m args below meth c H locs 0 0 Q (F0 m pc ls [.int z])) : ∀ (y0 : Int32) (H : Heap) (locs : List Loc) (ls : Array Slot), XW g A ss (wX g s) H locs → lv_has ls 1 [(0, .ref (g.q 3))] → f_Val_isAlive_21 s y0 = some z → W p l e (rmX 2 44) ss m args below meth c H locs 0 0 Q (F0 m 21 ls [.int y0]) := by
  have ⟨⟨hx, hb, hml, hown, hts⟩, hK, hA, hN⟩ := C
  intro y0 H locs ls hX hl h
  rw [f_Val_isAlive_21] at h
  obtain rfl := so1 h
  exact hQ _ H locs ls hX d_Val_isAlive_21
set_option maxHeartbeats 4000000 in
set_option maxRecDepth 100000 in
theorem w_Val_isAlive_20 {s : St} {z : Int32} (C : Cx g A p m c b_Val_isAlive 1 ss args R_Val) (hQ : ∀ (pc : Nat) (H : Heap) (locs : List Loc) (ls : Array Slot), XW g A ss (wX g s) H locs → decode b_Val_isAlive pc = .ok (.ireturn, 1) → W p l e (rmX 2 44) ss m args below meth c H locs 0 0 Q (F0 m pc ls [.int z])) : ∀ (H : Heap) (locs : List Loc) (ls : Array Slot), XW g A ss (wX g s) H locs → lv_has ls 1 [(0, .ref (g.q 3))] → f_Val_isAlive_20 s = some z → W p l e (rmX 2 44) ss m args below meth c H locs 0 0 Q (F0 m 20 ls []) := by
  have ⟨⟨hx, hb, hml, hown, hts⟩, hK, hA, hN⟩ := C
  intro  H locs ls hX hl h
  rw [f_Val_isAlive_20] at h
  refine lv_iconst (v := 0) hx hb d_Val_isAlive_20 (by decide) ?_
  exact w_Val_isAlive_21 C hQ 0 H locs ls hX hl h
set_option maxHeartbeats 4000000 in
set_option maxRecDepth 100000 in
theorem w_Val_isAlive {s : St} {z : Int32} (C : Cx g A p m c b_Val_isAlive 1 ss args R_Val) (hQ : ∀ (pc : Nat) (H : Heap) (locs : List Loc) (ls : Array Slot), XW g A ss (wX g s) H locs → decode b_Val_isAlive pc = .ok (.ireturn, 1) → W p l e (rmX 2 44) ss m args below meth c H locs 0 0 Q (F0 m pc ls [.int z])) : ∀ (H : Heap) (locs : List Loc) (ls : Array Slot), XW g A ss (wX g s) H locs → lv_has ls 1 [(0, .ref (g.q 3))] → f_Val_isAlive s = some z → W p l e (rmX 2 44) ss m args below meth c H locs 0 0 Q (F0 m 0 ls []) := by
  have ⟨⟨hx, hb, hml, hown, hts⟩, hK, hA, hN⟩ := C
  intro  H locs ls hX hl h
  rw [f_Val_isAlive] at h
  refine lv_aload_n hx hb d_Val_isAlive_0 rfl (lv_at hl 0 rfl) ?_
  refine lv_iconst (v := 5) hx hb d_Val_isAlive_1 (by decide) ?_
  obtain ⟨r1, hc2, h⟩ := bd1_e h
  refine x_vI (As := [.int 5]) (rest := []) C hX (c_Val_inner l g 5 s r1 hc2) (cw_Val_124 C.1.2.2.2.2 C.2.2.2 ⟨by decide, by decide⟩) (x_rc C hX wg_3 rfl) rfl hl.1 rfl (lv_room (Nat.le_of_ble_eq_true rfl)) d_Val_isAlive_2 ⟨Nat.le_refl _, Nat.le_refl _⟩ (fun H locs hX => ?_)
  refine lv_if_eq (tgt := 20) hx hb d_Val_isAlive_5 (by decide) (fun c5 => ?_) (fun c5 => ?_)
  · have h := ite_t c5 h
    exact w_Val_isAlive_20 C hQ  H locs ls hX hl h
  · have h := ite_f c5 h
    refine lv_aload_n hx hb d_Val_isAlive_8 rfl (lv_at hl 0 rfl) ?_
    refine lv_iconst (v := 4) hx hb d_Val_isAlive_9 (by decide) ?_
    obtain ⟨r2, hc10, h⟩ := bd1_e h
    refine x_vI (As := [.int 4]) (rest := []) C hX (c_Val_inner l g 4 s r2 hc10) (cw_Val_124 C.1.2.2.2.2 C.2.2.2 ⟨by decide, by decide⟩) (x_rc C hX wg_3 rfl) rfl hl.1 rfl (lv_room (Nat.le_of_ble_eq_true rfl)) d_Val_isAlive_10 ⟨Nat.le_refl _, Nat.le_refl _⟩ (fun H locs hX => ?_)
    refine lv_if_ne (tgt := 20) hx hb d_Val_isAlive_13 (by decide) (fun c13 => ?_) (fun c13 => ?_)
    · have h := ite_f c13 h
      exact w_Val_isAlive_20 C hQ  H locs ls hX hl h
    · have h := ite_t c13 h
      refine lv_iconst (v := 1) hx hb d_Val_isAlive_16 (by decide) ?_
      refine lv_goto (tgt := 21) hx hb d_Val_isAlive_17 (by decide) ?_
      exact w_Val_isAlive_21 C hQ 1 H locs ls hX hl h
end WALK
theorem c_Val_isAlive (l : Launch) (g : GX) (s : St) (z : Int32) (h : f_Val_isAlive s = some z) : MI l g y_Val_isAlive b_Val_isAlive 1 (some .int) 2 44 [.ref (g.q 3)] (wX g s) z (wX g s) :=
  MI.mk (own := R_Val) (by decide) rfl (Nat.le_of_ble_eq_true rfl) fun p e ss m below meth c A Q C hQ ls hX hl => w_Val_isAlive C hQ _ _ ls hX hl h
-- Val_openBlock
def f_Val_openBlock_15 (x1 : Int32) (x2 : Int32) (x3 : Int32) (y0 : Int32) (s : St) : Option St :=
    lt1 (tSet s 28 11 6 (s 3 0) 0 (s 3 1)) fun s1 =>
    lt1 (tSet s1 28 11 6 (s1 3 0) 1 x2) fun s2 =>
    lt1 (tSet s2 28 11 6 (s2 3 0) 2 x3) fun s3 =>
    lt1 (tSet s3 28 11 6 (s3 3 0) 3 x1) fun s4 =>
    lt1 (tSet s4 28 11 6 (s4 3 0) 4 0) fun s5 =>
    lt1 (tSet s5 28 11 6 (s5 3 0) 5 y0) fun s6 =>
    lt1 (s6 3 0 + 1) fun v7 =>
    lt1 (stp s6 3 0 v7) fun s8 =>
    some s8
def f_Val_openBlock (x1 : Int32) (x2 : Int32) (x3 : Int32) (s : St) : Option St :=
    if s 3 0 = 0 then
      f_Val_openBlock_15 x1 x2 x3 1 s
    else
      bd1 (f_Val_isAlive s) fun r1 =>
      f_Val_openBlock_15 x1 x2 x3 r1 s
section WALK
variable {p : Program} {l : Launch} {e : Env} {ss : State} {m : MethodId} {args : Array Value} {below : List Frame} {meth : Method} {c : Code} {Q : State → Prop} {g : GX} {A : Nat → Prop}
set_option maxHeartbeats 4000000 in
set_option maxRecDepth 100000 in
theorem w_Val_openBlock_15 {z : St} (C : Cx g A p m c b_Val_openBlock 5 ss args R_Val) (hQ : ∀ (pc : Nat) (H : Heap) (locs : List Loc) (ls : Array Slot), XW g A ss (wX g z) H locs → decode b_Val_openBlock pc = .ok (.return_, 1) → W p l e (rmX 3 64) ss m args below meth c H locs 0 0 Q (F0 m pc ls [])) : ∀ (x1 : Int32) (x2 : Int32) (x3 : Int32) (y0 : Int32) (s : St) (H : Heap) (locs : List Loc) (ls : Array Slot), XW g A ss (wX g s) H locs → lv_has ls 5 [(0, .ref (g.q 3)), (1, .int x1), (2, .int x2), (3, .int x3)] → f_Val_openBlock_15 x1 x2 x3 y0 s = some z → W p l e (rmX 3 64) ss m args below meth c H locs 0 0 Q (F0 m 15 ls [.int y0]) := by
  have ⟨⟨hx, hb, hml, hown, hts⟩, hK, hA, hN⟩ := C
  intro x1 x2 x3 y0 s H locs ls hX hl h
  rw [f_Val_openBlock_15] at h
  refine lv_istore (lv' := [(4, .int y0), (0, .ref (g.q 3)), (1, .int x1), (2, .int x2), (3, .int x3)]) hx hb d_Val_openBlock_15 hl (by decide) rfl (fun ls hl => ?_)
  refine lv_aload_n hx hb d_Val_openBlock_17 rfl (lv_at hl 1 rfl) ?_
  refine gf_3_blocks C hX fl_Val_14 d_Val_openBlock_18 ?_
  refine lv_aload_n hx hb d_Val_openBlock_21 rfl (lv_at hl 1 rfl) ?_
  refine gf_3_open C hX fl_Val_99 d_Val_openBlock_22 ?_
  refine lv_iconst (v := 0) hx hb d_Val_openBlock_25 (by decide) ?_
  refine lv_aload_n hx hb d_Val_openBlock_26 rfl (lv_at hl 1 rfl) ?_
  refine gf_3_height C hX fl_Val_96 d_Val_openBlock_27 ?_
  obtain ⟨s1, es1, h⟩ := lt1_e h
  refine x_vV (ws' := wX g s1) (As := [.int (s 3 0), .int 0, .int (s 3 1)]) (rest := []) C hX (by rw [es1]; exact cTabSet_27 l g s (s 3 0) 0 (s 3 1)) (cw_Val_115 C.1.2.2.2.2 C.2.2.2 ⟨by decide, by decide⟩) (x_rc C hX wg_27 rfl) rfl hl.1 rfl (lv_room (Nat.le_of_ble_eq_true rfl)) d_Val_openBlock_30 ⟨Nat.le_refl _, Nat.le_refl _⟩ (fun H locs hX => ?_)
  refine lv_aload_n hx hb d_Val_openBlock_33 rfl (lv_at hl 1 rfl) ?_
  refine gf_3_blocks C hX fl_Val_14 d_Val_openBlock_34 ?_
  refine lv_aload_n hx hb d_Val_openBlock_37 rfl (lv_at hl 1 rfl) ?_
  refine gf_3_open C hX fl_Val_99 d_Val_openBlock_38 ?_
  refine lv_iconst (v := 1) hx hb d_Val_openBlock_41 (by decide) ?_
  refine lv_iload_n hx hb d_Val_openBlock_42 rfl (lv_at hl 3 rfl) ?_
  obtain ⟨s2, es2, h⟩ := lt1_e h
  refine x_vV (ws' := wX g s2) (As := [.int (s1 3 0), .int 1, .int x2]) (rest := []) C hX (by rw [es2]; exact cTabSet_27 l g s1 (s1 3 0) 1 x2) (cw_Val_115 C.1.2.2.2.2 C.2.2.2 ⟨by decide, by decide⟩) (x_rc C hX wg_27 rfl) rfl hl.1 rfl (lv_room (Nat.le_of_ble_eq_true rfl)) d_Val_openBlock_43 ⟨Nat.le_refl _, Nat.le_refl _⟩ (fun H locs hX => ?_)
  refine lv_aload_n hx hb d_Val_openBlock_46 rfl (lv_at hl 1 rfl) ?_
  refine gf_3_blocks C hX fl_Val_14 d_Val_openBlock_47 ?_
  refine lv_aload_n hx hb d_Val_openBlock_50 rfl (lv_at hl 1 rfl) ?_
  refine gf_3_open C hX fl_Val_99 d_Val_openBlock_51 ?_
  refine lv_iconst (v := 2) hx hb d_Val_openBlock_54 (by decide) ?_
  refine lv_iload_n hx hb d_Val_openBlock_55 rfl (lv_at hl 4 rfl) ?_
  obtain ⟨s3, es3, h⟩ := lt1_e h
  refine x_vV (ws' := wX g s3) (As := [.int (s2 3 0), .int 2, .int x3]) (rest := []) C hX (by rw [es3]; exact cTabSet_27 l g s2 (s2 3 0) 2 x3) (cw_Val_115 C.1.2.2.2.2 C.2.2.2 ⟨by decide, by decide⟩) (x_rc C hX wg_27 rfl) rfl hl.1 rfl (lv_room (Nat.le_of_ble_eq_true rfl)) d_Val_openBlock_56 ⟨Nat.le_refl _, Nat.le_refl _⟩ (fun H locs hX => ?_)
  refine lv_aload_n hx hb d_Val_openBlock_59 rfl (lv_at hl 1 rfl) ?_
  refine gf_3_blocks C hX fl_Val_14 d_Val_openBlock_60 ?_
  refine lv_aload_n hx hb d_Val_openBlock_63 rfl (lv_at hl 1 rfl) ?_
  refine gf_3_open C hX fl_Val_99 d_Val_openBlock_64 ?_
  refine lv_iconst (v := 3) hx hb d_Val_openBlock_67 (by decide) ?_
  refine lv_iload_n hx hb d_Val_openBlock_68 rfl (lv_at hl 2 rfl) ?_
  obtain ⟨s4, es4, h⟩ := lt1_e h
  refine x_vV (ws' := wX g s4) (As := [.int (s3 3 0), .int 3, .int x1]) (rest := []) C hX (by rw [es4]; exact cTabSet_27 l g s3 (s3 3 0) 3 x1) (cw_Val_115 C.1.2.2.2.2 C.2.2.2 ⟨by decide, by decide⟩) (x_rc C hX wg_27 rfl) rfl hl.1 rfl (lv_room (Nat.le_of_ble_eq_true rfl)) d_Val_openBlock_69 ⟨Nat.le_refl _, Nat.le_refl _⟩ (fun H locs hX => ?_)
  refine lv_aload_n hx hb d_Val_openBlock_72 rfl (lv_at hl 1 rfl) ?_
  refine gf_3_blocks C hX fl_Val_14 d_Val_openBlock_73 ?_
  refine lv_aload_n hx hb d_Val_openBlock_76 rfl (lv_at hl 1 rfl) ?_
  refine gf_3_open C hX fl_Val_99 d_Val_openBlock_77 ?_
  refine lv_iconst (v := 4) hx hb d_Val_openBlock_80 (by decide) ?_
  refine lv_iconst (v := 0) hx hb d_Val_openBlock_81 (by decide) ?_
  obtain ⟨s5, es5, h⟩ := lt1_e h
  refine x_vV (ws' := wX g s5) (As := [.int (s4 3 0), .int 4, .int 0]) (rest := []) C hX (by rw [es5]; exact cTabSet_27 l g s4 (s4 3 0) 4 0) (cw_Val_115 C.1.2.2.2.2 C.2.2.2 ⟨by decide, by decide⟩) (x_rc C hX wg_27 rfl) rfl hl.1 rfl (lv_room (Nat.le_of_ble_eq_true rfl)) d_Val_openBlock_82 ⟨Nat.le_refl _, Nat.le_refl _⟩ (fun H locs hX => ?_)
  refine lv_aload_n hx hb d_Val_openBlock_85 rfl (lv_at hl 1 rfl) ?_
  refine gf_3_blocks C hX fl_Val_14 d_Val_openBlock_86 ?_
  refine lv_aload_n hx hb d_Val_openBlock_89 rfl (lv_at hl 1 rfl) ?_
  refine gf_3_open C hX fl_Val_99 d_Val_openBlock_90 ?_
  refine lv_iconst (v := 5) hx hb d_Val_openBlock_93 (by decide) ?_
  refine lv_iload hx hb d_Val_openBlock_94 (lv_at hl 0 rfl) ?_
  obtain ⟨s6, es6, h⟩ := lt1_e h
  refine x_vV (ws' := wX g s6) (As := [.int (s5 3 0), .int 5, .int y0]) (rest := []) C hX (by rw [es6]; exact cTabSet_27 l g s5 (s5 3 0) 5 y0) (cw_Val_115 C.1.2.2.2.2 C.2.2.2 ⟨by decide, by decide⟩) (x_rc C hX wg_27 rfl) rfl hl.1 rfl (lv_room (Nat.le_of_ble_eq_true rfl)) d_Val_openBlock_96 ⟨Nat.le_refl _, Nat.le_refl _⟩ (fun H locs hX => ?_)
  refine lv_aload_n hx hb d_Val_openBlock_99 rfl (lv_at hl 1 rfl) ?_
  refine lv_dup hx hb d_Val_openBlock_100 rfl ?_
  refine gf_3_open C hX fl_Val_99 d_Val_openBlock_101 ?_
  refine lv_iconst (v := 1) hx hb d_Val_openBlock_104 (by decide) ?_
  obtain ⟨v7, ev7, h⟩ := lt1_e h
  refine x_iadd hx hb d_Val_openBlock_105 ev7 ?_
  obtain ⟨s8, es8, h⟩ := lt1_e h
  refine pf_3_open C hX fl_Val_99 d_Val_openBlock_106 (fun H locs hX => ?_)
  rw [← es8] at hX
  obtain rfl := so1 h
  exact hQ _ H locs ls hX d_Val_openBlock_109
set_option maxHeartbeats 4000000 in
set_option maxRecDepth 100000 in
theorem w_Val_openBlock {z : St} (C : Cx g A p m c b_Val_openBlock 5 ss args R_Val) (hQ : ∀ (pc : Nat) (H : Heap) (locs : List Loc) (ls : Array Slot), XW g A ss (wX g z) H locs → decode b_Val_openBlock pc = .ok (.return_, 1) → W p l e (rmX 3 64) ss m args below meth c H locs 0 0 Q (F0 m pc ls [])) : ∀ (x1 : Int32) (x2 : Int32) (x3 : Int32) (s : St) (H : Heap) (locs : List Loc) (ls : Array Slot), XW g A ss (wX g s) H locs → lv_has ls 5 [(0, .ref (g.q 3)), (1, .int x1), (2, .int x2), (3, .int x3)] → f_Val_openBlock x1 x2 x3 s = some z → W p l e (rmX 3 64) ss m args below meth c H locs 0 0 Q (F0 m 0 ls []) := by
  have ⟨⟨hx, hb, hml, hown, hts⟩, hK, hA, hN⟩ := C
  intro x1 x2 x3 s H locs ls hX hl h
  rw [f_Val_openBlock] at h
  refine lv_aload_n hx hb d_Val_openBlock_0 rfl (lv_at hl 0 rfl) ?_
  refine gf_3_open C hX fl_Val_99 d_Val_openBlock_1 ?_
  refine lv_if_ne (tgt := 11) hx hb d_Val_openBlock_4 (by decide) (fun c4 => ?_) (fun c4 => ?_)
  · have h := ite_f c4 h
    refine lv_aload_n hx hb d_Val_openBlock_11 rfl (lv_at hl 0 rfl) ?_
    obtain ⟨r1, hc12, h⟩ := bd1_e h
    refine x_vI (As := []) (rest := []) C hX (c_Val_isAlive l g s r1 hc12) (cw_Val_118 C.1.2.2.2.2 C.2.2.2 ⟨by decide, by decide⟩) (x_rc C hX wg_3 rfl) rfl hl.1 rfl (lv_room (Nat.le_of_ble_eq_true rfl)) d_Val_openBlock_12 ⟨Nat.le_refl _, Nat.le_refl _⟩ (fun H locs hX => ?_)
    exact w_Val_openBlock_15 C hQ x1 x2 x3 r1 s H locs ls hX hl h
  · have h := ite_t c4 h
    refine lv_iconst (v := 1) hx hb d_Val_openBlock_7 (by decide) ?_
    refine lv_goto (tgt := 15) hx hb d_Val_openBlock_8 (by decide) ?_
    exact w_Val_openBlock_15 C hQ x1 x2 x3 1 s H locs ls hX hl h
end WALK
theorem c_Val_openBlock (l : Launch) (g : GX) (x1 : Int32) (x2 : Int32) (x3 : Int32) (s : St) (z : St) (h : f_Val_openBlock x1 x2 x3 s = some z) : MV l g y_Val_openBlock b_Val_openBlock 5 none 3 64 [.ref (g.q 3), .int x1, .int x2, .int x3] (wX g s) (wX g z) :=
  MV.mk (own := R_Val) (by decide) rfl (Nat.le_of_ble_eq_true rfl) fun p e ss m below meth c A Q C hQ ls hX hl => w_Val_openBlock C hQ x1 x2 x3 s _ _ ls hX hl h
-- Val_take
def f_Val_take_40 (x1 : Int32) (x2 : Int32) (s : St) : Option St :=
    lt1 (stp s 3 1 x2) fun s1 =>
    some s1
def f_Val_take (x1 : Int32) (s : St) : Option St :=
    bd1 (f_Val_inner s 0) fun r1 =>
    lt1 (s 3 1 - r1) fun v2 =>
    if v2 < x1 then
      bd1 (f_Val_inner s 4) fun r3 =>
      if r3 = 0 then
        bd1 (f_Val_refuse 3 s) fun s4 =>
        f_Val_take_40 x1 r1 s4
      else
        f_Val_take_40 x1 r1 s
    else
      lt1 (s 3 1 - x1) fun v5 =>
      lt1 (stp s 3 1 v5) fun s6 =>
      some s6
section WALK
variable {p : Program} {l : Launch} {e : Env} {ss : State} {m : MethodId} {args : Array Value} {below : List Frame} {meth : Method} {c : Code} {Q : State → Prop} {g : GX} {A : Nat → Prop}
set_option maxHeartbeats 4000000 in
set_option maxRecDepth 100000 in
theorem w_Val_take_40 {z : St} (C : Cx g A p m c b_Val_take 3 ss args R_Val) (hQ : ∀ (pc : Nat) (H : Heap) (locs : List Loc) (ls : Array Slot), XW g A ss (wX g z) H locs → decode b_Val_take pc = .ok (.return_, 1) → W p l e (rmX 2 44) ss m args below meth c H locs 0 0 Q (F0 m pc ls [])) : ∀ (x1 : Int32) (x2 : Int32) (s : St) (H : Heap) (locs : List Loc) (ls : Array Slot), XW g A ss (wX g s) H locs → lv_has ls 3 [(0, .ref (g.q 3)), (1, .int x1), (2, .int x2)] → f_Val_take_40 x1 x2 s = some z → W p l e (rmX 2 44) ss m args below meth c H locs 0 0 Q (F0 m 40 ls []) := by
  have ⟨⟨hx, hb, hml, hown, hts⟩, hK, hA, hN⟩ := C
  intro x1 x2 s H locs ls hX hl h
  rw [f_Val_take_40] at h
  refine lv_aload_n hx hb d_Val_take_40 rfl (lv_at hl 0 rfl) ?_
  refine lv_iload_n hx hb d_Val_take_41 rfl (lv_at hl 2 rfl) ?_
  obtain ⟨s1, es1, h⟩ := lt1_e h
  refine pf_3_height C hX fl_Val_96 d_Val_take_42 (fun H locs hX => ?_)
  rw [← es1] at hX
  obtain rfl := so1 h
  exact hQ _ H locs ls hX d_Val_take_45
set_option maxHeartbeats 4000000 in
set_option maxRecDepth 100000 in
theorem w_Val_take {z : St} (C : Cx g A p m c b_Val_take 3 ss args R_Val) (hQ : ∀ (pc : Nat) (H : Heap) (locs : List Loc) (ls : Array Slot), XW g A ss (wX g z) H locs → decode b_Val_take pc = .ok (.return_, 1) → W p l e (rmX 2 44) ss m args below meth c H locs 0 0 Q (F0 m pc ls [])) : ∀ (x1 : Int32) (s : St) (H : Heap) (locs : List Loc) (ls : Array Slot), XW g A ss (wX g s) H locs → lv_has ls 3 [(0, .ref (g.q 3)), (1, .int x1)] → f_Val_take x1 s = some z → W p l e (rmX 2 44) ss m args below meth c H locs 0 0 Q (F0 m 0 ls []) := by
  have ⟨⟨hx, hb, hml, hown, hts⟩, hK, hA, hN⟩ := C
  intro x1 s H locs ls hX hl h
  rw [f_Val_take] at h
  refine lv_aload_n hx hb d_Val_take_0 rfl (lv_at hl 0 rfl) ?_
  refine lv_iconst (v := 0) hx hb d_Val_take_1 (by decide) ?_
  obtain ⟨r1, hc2, h⟩ := bd1_e h
  refine x_vI (As := [.int 0]) (rest := []) C hX (c_Val_inner l g 0 s r1 hc2) (cw_Val_124 C.1.2.2.2.2 C.2.2.2 ⟨by decide, by decide⟩) (x_rc C hX wg_3 rfl) rfl hl.1 rfl (lv_room (Nat.le_of_ble_eq_true rfl)) d_Val_take_2 ⟨Nat.le_refl _, Nat.le_refl _⟩ (fun H locs hX => ?_)
  refine lv_istore_n (lv' := [(2, .int r1), (0, .ref (g.q 3)), (1, .int x1)]) hx hb d_Val_take_5 rfl hl (by decide) rfl (fun ls hl => ?_)
  refine lv_aload_n hx hb d_Val_take_6 rfl (lv_at hl 1 rfl) ?_
  refine gf_3_height C hX fl_Val_96 d_Val_take_7 ?_
  refine lv_iload_n hx hb d_Val_take_10 rfl (lv_at hl 0 rfl) ?_
  obtain ⟨v2, ev2, h⟩ := lt1_e h
  refine x_isub hx hb d_Val_take_11 ev2 ?_
  refine lv_iload_n hx hb d_Val_take_12 rfl (lv_at hl 2 rfl) ?_
  refine lv_icmp_lt (tgt := 27) hx hb d_Val_take_13 (by decide) (fun c13 => ?_) (fun c13 => ?_)
  · have h := ite_t c13 h
    refine lv_aload_n hx hb d_Val_take_27 rfl (lv_at hl 1 rfl) ?_
    refine lv_iconst (v := 4) hx hb d_Val_take_28 (by decide) ?_
    obtain ⟨r3, hc29, h⟩ := bd1_e h
    refine x_vI (As := [.int 4]) (rest := []) C hX (c_Val_inner l g 4 s r3 hc29) (cw_Val_124 C.1.2.2.2.2 C.2.2.2 ⟨by decide, by decide⟩) (x_rc C hX wg_3 rfl) rfl hl.1 rfl (lv_room (Nat.le_of_ble_eq_true rfl)) d_Val_take_29 ⟨Nat.le_refl _, Nat.le_refl _⟩ (fun H locs hX => ?_)
    refine lv_if_ne (tgt := 40) hx hb d_Val_take_32 (by decide) (fun c32 => ?_) (fun c32 => ?_)
    · have h := ite_f c32 h
      exact w_Val_take_40 C hQ x1 r1 s H locs ls hX (lv_sub hl [1, 2, 0] rfl) h
    · have h := ite_t c32 h
      refine lv_aload_n hx hb d_Val_take_35 rfl (lv_at hl 1 rfl) ?_
      refine lv_iconst (v := 3) hx hb d_Val_take_36 (by decide) ?_
      obtain ⟨s4, hc37, h⟩ := bd1_e h
      refine x_vV (As := [.int 3]) (rest := []) C hX (c_Val_refuse l g 3 s s4 hc37) (cw_Val_39 C.1.2.2.2.2 C.2.2.2 ⟨by decide, by decide⟩) (x_rc C hX wg_3 rfl) rfl hl.1 rfl (lv_room (Nat.le_of_ble_eq_true rfl)) d_Val_take_37 ⟨Nat.le_refl _, Nat.le_refl _⟩ (fun H locs hX => ?_)
      exact w_Val_take_40 C hQ x1 r1 s4 H locs ls hX (lv_sub hl [1, 2, 0] rfl) h
  · have h := ite_f c13 h
    refine lv_aload_n hx hb d_Val_take_16 rfl (lv_at hl 1 rfl) ?_
    refine lv_dup hx hb d_Val_take_17 rfl ?_
    refine gf_3_height C hX fl_Val_96 d_Val_take_18 ?_
    refine lv_iload_n hx hb d_Val_take_21 rfl (lv_at hl 2 rfl) ?_
    obtain ⟨v5, ev5, h⟩ := lt1_e h
    refine x_isub hx hb d_Val_take_22 ev5 ?_
    obtain ⟨s6, es6, h⟩ := lt1_e h
    refine pf_3_height C hX fl_Val_96 d_Val_take_23 (fun H locs hX => ?_)
    rw [← es6] at hX
    obtain rfl := so1 h
    exact hQ _ H locs ls hX d_Val_take_26
end WALK
theorem c_Val_take (l : Launch) (g : GX) (x1 : Int32) (s : St) (z : St) (h : f_Val_take x1 s = some z) : MV l g y_Val_take b_Val_take 3 none 2 44 [.ref (g.q 3), .int x1] (wX g s) (wX g z) :=
  MV.mk (own := R_Val) (by decide) rfl (Nat.le_of_ble_eq_true rfl) fun p e ss m below meth c A Q C hQ ls hX hl => w_Val_take C hQ x1 s _ _ ls hX hl h
-- Val_leadAway
def f_Val_leadAway (s : St) : Option St :=
    bd1 (f_Val_inner s 0) fun r1 =>
    lt1 (stp s 3 1 r1) fun s2 =>
    lt1 (s2 3 0 - 1) fun v3 =>
    lt1 (tSet s2 28 11 6 v3 4 1) fun s4 =>
    some s4
section WALK
variable {p : Program} {l : Launch} {e : Env} {ss : State} {m : MethodId} {args : Array Value} {below : List Frame} {meth : Method} {c : Code} {Q : State → Prop} {g : GX} {A : Nat → Prop}
set_option maxHeartbeats 4000000 in
set_option maxRecDepth 100000 in
theorem w_Val_leadAway {z : St} (C : Cx g A p m c b_Val_leadAway 1 ss args R_Val) (hQ : ∀ (pc : Nat) (H : Heap) (locs : List Loc) (ls : Array Slot), XW g A ss (wX g z) H locs → decode b_Val_leadAway pc = .ok (.return_, 1) → W p l e (rmX 2 44) ss m args below meth c H locs 0 0 Q (F0 m pc ls [])) : ∀ (s : St) (H : Heap) (locs : List Loc) (ls : Array Slot), XW g A ss (wX g s) H locs → lv_has ls 1 [(0, .ref (g.q 3))] → f_Val_leadAway s = some z → W p l e (rmX 2 44) ss m args below meth c H locs 0 0 Q (F0 m 0 ls []) := by
  have ⟨⟨hx, hb, hml, hown, hts⟩, hK, hA, hN⟩ := C
  intro s H locs ls hX hl h
  rw [f_Val_leadAway] at h
  refine lv_aload_n hx hb d_Val_leadAway_0 rfl (lv_at hl 0 rfl) ?_
  refine lv_aload_n hx hb d_Val_leadAway_1 rfl (lv_at hl 0 rfl) ?_
  refine lv_iconst (v := 0) hx hb d_Val_leadAway_2 (by decide) ?_
  obtain ⟨r1, hc3, h⟩ := bd1_e h
  refine x_vI (As := [.int 0]) (rest := [.ref (g.q 3)]) C hX (c_Val_inner l g 0 s r1 hc3) (cw_Val_124 C.1.2.2.2.2 C.2.2.2 ⟨by decide, by decide⟩) (x_rc C hX wg_3 rfl) rfl hl.1 rfl (lv_room (Nat.le_of_ble_eq_true rfl)) d_Val_leadAway_3 ⟨Nat.le_refl _, Nat.le_refl _⟩ (fun H locs hX => ?_)
  obtain ⟨s2, es2, h⟩ := lt1_e h
  refine pf_3_height C hX fl_Val_96 d_Val_leadAway_6 (fun H locs hX => ?_)
  rw [← es2] at hX
  refine lv_aload_n hx hb d_Val_leadAway_9 rfl (lv_at hl 0 rfl) ?_
  refine gf_3_blocks C hX fl_Val_14 d_Val_leadAway_10 ?_
  refine lv_aload_n hx hb d_Val_leadAway_13 rfl (lv_at hl 0 rfl) ?_
  refine gf_3_open C hX fl_Val_99 d_Val_leadAway_14 ?_
  refine lv_iconst (v := 1) hx hb d_Val_leadAway_17 (by decide) ?_
  obtain ⟨v3, ev3, h⟩ := lt1_e h
  refine x_isub hx hb d_Val_leadAway_18 ev3 ?_
  refine lv_iconst (v := 4) hx hb d_Val_leadAway_19 (by decide) ?_
  refine lv_iconst (v := 1) hx hb d_Val_leadAway_20 (by decide) ?_
  obtain ⟨s4, es4, h⟩ := lt1_e h
  refine x_vV (ws' := wX g s4) (As := [.int v3, .int 4, .int 1]) (rest := []) C hX (by rw [es4]; exact cTabSet_27 l g s2 v3 4 1) (cw_Val_115 C.1.2.2.2.2 C.2.2.2 ⟨by decide, by decide⟩) (x_rc C hX wg_27 rfl) rfl hl.1 rfl (lv_room (Nat.le_of_ble_eq_true rfl)) d_Val_leadAway_21 ⟨Nat.le_refl _, Nat.le_refl _⟩ (fun H locs hX => ?_)
  obtain rfl := so1 h
  exact hQ _ H locs ls hX d_Val_leadAway_24
end WALK
theorem c_Val_leadAway (l : Launch) (g : GX) (s : St) (z : St) (h : f_Val_leadAway s = some z) : MV l g y_Val_leadAway b_Val_leadAway 1 none 2 44 [.ref (g.q 3)] (wX g s) (wX g z) :=
  MV.mk (own := R_Val) (by decide) rfl (Nat.le_of_ble_eq_true rfl) fun p e ss m below meth c A Q C hQ ls hX hl => w_Val_leadAway C hQ s _ _ ls hX hl h
-- Val_give
def f_Val_give_24 (x1 : Int32) (s : St) : Option St :=
    some s
def f_Val_give (x1 : Int32) (s : St) : Option St :=
    lt1 (s 3 1 + x1) fun v1 =>
    lt1 (stp s 3 1 v1) fun s2 =>
    if s2 3 1 ≤ 16 then
      f_Val_give_24 x1 s2
    else
      bd1 (f_Val_refuse 2 s2) fun s3 =>
      f_Val_give_24 x1 s3
section WALK
variable {p : Program} {l : Launch} {e : Env} {ss : State} {m : MethodId} {args : Array Value} {below : List Frame} {meth : Method} {c : Code} {Q : State → Prop} {g : GX} {A : Nat → Prop}
set_option maxHeartbeats 4000000 in
set_option maxRecDepth 100000 in
theorem w_Val_give_24 {z : St} (C : Cx g A p m c b_Val_give 2 ss args R_Val) (hQ : ∀ (pc : Nat) (H : Heap) (locs : List Loc) (ls : Array Slot), XW g A ss (wX g z) H locs → decode b_Val_give pc = .ok (.return_, 1) → W p l e (rmX 1 21) ss m args below meth c H locs 0 0 Q (F0 m pc ls [])) : ∀ (x1 : Int32) (s : St) (H : Heap) (locs : List Loc) (ls : Array Slot), XW g A ss (wX g s) H locs → lv_has ls 2 [(0, .ref (g.q 3)), (1, .int x1)] → f_Val_give_24 x1 s = some z → W p l e (rmX 1 21) ss m args below meth c H locs 0 0 Q (F0 m 24 ls []) := by
  have ⟨⟨hx, hb, hml, hown, hts⟩, hK, hA, hN⟩ := C
  intro x1 s H locs ls hX hl h
  rw [f_Val_give_24] at h
  obtain rfl := so1 h
  exact hQ _ H locs ls hX d_Val_give_24
set_option maxHeartbeats 4000000 in
set_option maxRecDepth 100000 in
theorem w_Val_give {z : St} (C : Cx g A p m c b_Val_give 2 ss args R_Val) (hQ : ∀ (pc : Nat) (H : Heap) (locs : List Loc) (ls : Array Slot), XW g A ss (wX g z) H locs → decode b_Val_give pc = .ok (.return_, 1) → W p l e (rmX 1 21) ss m args below meth c H locs 0 0 Q (F0 m pc ls [])) : ∀ (x1 : Int32) (s : St) (H : Heap) (locs : List Loc) (ls : Array Slot), XW g A ss (wX g s) H locs → lv_has ls 2 [(0, .ref (g.q 3)), (1, .int x1)] → f_Val_give x1 s = some z → W p l e (rmX 1 21) ss m args below meth c H locs 0 0 Q (F0 m 0 ls []) := by
  have ⟨⟨hx, hb, hml, hown, hts⟩, hK, hA, hN⟩ := C
  intro x1 s H locs ls hX hl h
  rw [f_Val_give] at h
  refine lv_aload_n hx hb d_Val_give_0 rfl (lv_at hl 0 rfl) ?_
  refine lv_dup hx hb d_Val_give_1 rfl ?_
  refine gf_3_height C hX fl_Val_96 d_Val_give_2 ?_
  refine lv_iload_n hx hb d_Val_give_5 rfl (lv_at hl 1 rfl) ?_
  obtain ⟨v1, ev1, h⟩ := lt1_e h
  refine x_iadd hx hb d_Val_give_6 ev1 ?_
  obtain ⟨s2, es2, h⟩ := lt1_e h
  refine pf_3_height C hX fl_Val_96 d_Val_give_7 (fun H locs hX => ?_)
  rw [← es2] at hX
  refine lv_aload_n hx hb d_Val_give_10 rfl (lv_at hl 0 rfl) ?_
  refine gf_3_height C hX fl_Val_96 d_Val_give_11 ?_
  refine lv_bipush (v := 16) hx hb d_Val_give_14 (by decide) ?_
  refine lv_icmp_le (tgt := 24) hx hb d_Val_give_16 (by decide) (fun c16 => ?_) (fun c16 => ?_)
  · have h := ite_t c16 h
    exact w_Val_give_24 C hQ x1 s2 H locs ls hX hl h
  · have h := ite_f c16 h
    refine lv_aload_n hx hb d_Val_give_19 rfl (lv_at hl 0 rfl) ?_
    refine lv_iconst (v := 2) hx hb d_Val_give_20 (by decide) ?_
    obtain ⟨s3, hc21, h⟩ := bd1_e h
    refine x_vV (As := [.int 2]) (rest := []) C hX (c_Val_refuse l g 2 s2 s3 hc21) (cw_Val_39 C.1.2.2.2.2 C.2.2.2 ⟨by decide, by decide⟩) (x_rc C hX wg_3 rfl) rfl hl.1 rfl (lv_room (Nat.le_of_ble_eq_true rfl)) d_Val_give_21 ⟨Nat.le_refl _, Nat.le_refl _⟩ (fun H locs hX => ?_)
    exact w_Val_give_24 C hQ x1 s3 H locs ls hX hl h
end WALK
theorem c_Val_give (l : Launch) (g : GX) (x1 : Int32) (s : St) (z : St) (h : f_Val_give x1 s = some z) : MV l g y_Val_give b_Val_give 2 none 1 21 [.ref (g.q 3), .int x1] (wX g s) (wX g z) :=
  MV.mk (own := R_Val) (by decide) rfl (Nat.le_of_ble_eq_true rfl) fun p e ss m below meth c A Q C hQ ls hX hl => w_Val_give C hQ x1 s _ _ ls hX hl h
-- Val_judgeOtherControl
def f_Val_judgeOtherControl_88 (x1 : Int32) (x2 : Int32) (s : St) : Option St :=
    some s
def f_Val_judgeOtherControl_64 (x1 : Int32) (x2 : Int32) (s : St) : Option St :=
    bd1 (f_Cont_parametersOf s x2) fun r1 =>
    bd1 (f_Val_take r1 s) fun s2 =>
    bd1 (f_Cont_resultsOf s2 x2) fun r3 =>
    bd1 (f_Val_give r3 s2) fun s4 =>
    f_Val_judgeOtherControl_88 x1 x2 s4
def f_Val_judgeOtherControl (x1 : Int32) (x2 : Int32) (s : St) : Option St :=
    if x1 = 0 then
      bd1 (f_Val_leadAway s) fun s6 =>
      f_Val_judgeOtherControl_88 x1 x2 s6
    else
      if x1 = 15 then
        bd1 (f_Cont_resultsOf s (s 3 2)) fun r3 =>
        bd1 (f_Val_take r3 s) fun s4 =>
        bd1 (f_Val_leadAway s4) fun s5 =>
        f_Val_judgeOtherControl_88 x1 x2 s5
      else
        if x1 = 16 then
          lt1 (tHas (s 12 0) x2) fun r1 =>
          if r1 = 0 then
            bd1 (f_Val_refuse 3 s) fun s2 =>
            f_Val_judgeOtherControl_64 x1 x2 s2
          else
            f_Val_judgeOtherControl_64 x1 x2 s
        else
          f_Val_judgeOtherControl_88 x1 x2 s
section WALK
variable {p : Program} {l : Launch} {e : Env} {ss : State} {m : MethodId} {args : Array Value} {below : List Frame} {meth : Method} {c : Code} {Q : State → Prop} {g : GX} {A : Nat → Prop}
set_option maxHeartbeats 4000000 in
set_option maxRecDepth 100000 in
theorem w_Val_judgeOtherControl_88 {z : St} (C : Cx g A p m c b_Val_judgeOtherControl 3 ss args R_Val) (hQ : ∀ (pc : Nat) (H : Heap) (locs : List Loc) (ls : Array Slot), XW g A ss (wX g z) H locs → decode b_Val_judgeOtherControl pc = .ok (.return_, 1) → W p l e (rmX 3 66) ss m args below meth c H locs 0 0 Q (F0 m pc ls [])) : ∀ (x1 : Int32) (x2 : Int32) (s : St) (H : Heap) (locs : List Loc) (ls : Array Slot), XW g A ss (wX g s) H locs → lv_has ls 3 [(0, .ref (g.q 3)), (1, .int x1), (2, .int x2)] → f_Val_judgeOtherControl_88 x1 x2 s = some z → W p l e (rmX 3 66) ss m args below meth c H locs 0 0 Q (F0 m 88 ls []) := by
  have ⟨⟨hx, hb, hml, hown, hts⟩, hK, hA, hN⟩ := C
  intro x1 x2 s H locs ls hX hl h
  rw [f_Val_judgeOtherControl_88] at h
  obtain rfl := so1 h
  exact hQ _ H locs ls hX d_Val_judgeOtherControl_88
set_option maxHeartbeats 4000000 in
set_option maxRecDepth 100000 in
theorem w_Val_judgeOtherControl_64 {z : St} (C : Cx g A p m c b_Val_judgeOtherControl 3 ss args R_Val) (hQ : ∀ (pc : Nat) (H : Heap) (locs : List Loc) (ls : Array Slot), XW g A ss (wX g z) H locs → decode b_Val_judgeOtherControl pc = .ok (.return_, 1) → W p l e (rmX 3 66) ss m args below meth c H locs 0 0 Q (F0 m pc ls [])) : ∀ (x1 : Int32) (x2 : Int32) (s : St) (H : Heap) (locs : List Loc) (ls : Array Slot), XW g A ss (wX g s) H locs → lv_has ls 3 [(0, .ref (g.q 3)), (1, .int x1), (2, .int x2)] → f_Val_judgeOtherControl_64 x1 x2 s = some z → W p l e (rmX 3 66) ss m args below meth c H locs 0 0 Q (F0 m 64 ls []) := by
  have ⟨⟨hx, hb, hml, hown, hts⟩, hK, hA, hN⟩ := C
  intro x1 x2 s H locs ls hX hl h
  rw [f_Val_judgeOtherControl_64] at h
  refine lv_aload_n hx hb d_Val_judgeOtherControl_64 rfl (lv_at hl 0 rfl) ?_
  refine lv_aload_n hx hb d_Val_judgeOtherControl_65 rfl (lv_at hl 0 rfl) ?_
  refine gf_3_contents C hX fl_Val_20 d_Val_judgeOtherControl_66 ?_
  refine lv_iload_n hx hb d_Val_judgeOtherControl_69 rfl (lv_at hl 2 rfl) ?_
  obtain ⟨r1, hc70, h⟩ := bd1_e h
  refine x_vI (As := [.int x2]) (rest := [.ref (g.q 3)]) C hX (c_Cont_parametersOf l g x2 s r1 hc70) (cw_Val_175 C.1.2.2.2.2 C.2.2.2 ⟨by decide, by decide⟩) (x_rc C hX wg_1 rfl) rfl hl.1 rfl (lv_room (Nat.le_of_ble_eq_true rfl)) d_Val_judgeOtherControl_70 ⟨Nat.le_refl _, Nat.le_refl _⟩ (fun H locs hX => ?_)
  obtain ⟨s2, hc73, h⟩ := bd1_e h
  refine x_vV (As := [.int r1]) (rest := []) C hX (c_Val_take l g r1 s s2 hc73) (cw_Val_130 C.1.2.2.2.2 C.2.2.2 ⟨by decide, by decide⟩) (x_rc C hX wg_3 rfl) rfl hl.1 rfl (lv_room (Nat.le_of_ble_eq_true rfl)) d_Val_judgeOtherControl_73 ⟨Nat.le_refl _, Nat.le_refl _⟩ (fun H locs hX => ?_)
  refine lv_aload_n hx hb d_Val_judgeOtherControl_76 rfl (lv_at hl 0 rfl) ?_
  refine lv_aload_n hx hb d_Val_judgeOtherControl_77 rfl (lv_at hl 0 rfl) ?_
  refine gf_3_contents C hX fl_Val_20 d_Val_judgeOtherControl_78 ?_
  refine lv_iload_n hx hb d_Val_judgeOtherControl_81 rfl (lv_at hl 2 rfl) ?_
  obtain ⟨r3, hc82, h⟩ := bd1_e h
  refine x_vI (As := [.int x2]) (rest := [.ref (g.q 3)]) C hX (c_Cont_resultsOf l g x2 s2 r3 hc82) (cw_Val_102 C.1.2.2.2.2 C.2.2.2 ⟨by decide, by decide⟩) (x_rc C hX wg_1 rfl) rfl hl.1 rfl (lv_room (Nat.le_of_ble_eq_true rfl)) d_Val_judgeOtherControl_82 ⟨Nat.le_refl _, Nat.le_refl _⟩ (fun H locs hX => ?_)
  obtain ⟨s4, hc85, h⟩ := bd1_e h
  refine x_vV (As := [.int r3]) (rest := []) C hX (c_Val_give l g r3 s2 s4 hc85) (cw_Val_160 C.1.2.2.2.2 C.2.2.2 ⟨by decide, by decide⟩) (x_rc C hX wg_3 rfl) rfl hl.1 rfl (lv_room (Nat.le_of_ble_eq_true rfl)) d_Val_judgeOtherControl_85 ⟨Nat.le_refl _, Nat.le_refl _⟩ (fun H locs hX => ?_)
  exact w_Val_judgeOtherControl_88 C hQ x1 x2 s4 H locs ls hX hl h
set_option maxHeartbeats 4000000 in
set_option maxRecDepth 100000 in
theorem w_Val_judgeOtherControl {z : St} (C : Cx g A p m c b_Val_judgeOtherControl 3 ss args R_Val) (hQ : ∀ (pc : Nat) (H : Heap) (locs : List Loc) (ls : Array Slot), XW g A ss (wX g z) H locs → decode b_Val_judgeOtherControl pc = .ok (.return_, 1) → W p l e (rmX 3 66) ss m args below meth c H locs 0 0 Q (F0 m pc ls [])) : ∀ (x1 : Int32) (x2 : Int32) (s : St) (H : Heap) (locs : List Loc) (ls : Array Slot), XW g A ss (wX g s) H locs → lv_has ls 3 [(0, .ref (g.q 3)), (1, .int x1), (2, .int x2)] → f_Val_judgeOtherControl x1 x2 s = some z → W p l e (rmX 3 66) ss m args below meth c H locs 0 0 Q (F0 m 0 ls []) := by
  have ⟨⟨hx, hb, hml, hown, hts⟩, hK, hA, hN⟩ := C
  intro x1 x2 s H locs ls hX hl h
  rw [f_Val_judgeOtherControl] at h
  refine lv_iload_n hx hb d_Val_judgeOtherControl_0 rfl (lv_at hl 1 rfl) ?_
  refine lv_if_ne (tgt := 11) hx hb d_Val_judgeOtherControl_1 (by decide) (fun c1 => ?_) (fun c1 => ?_)
  · have h := ite_f c1 h
    refine lv_iload_n hx hb d_Val_judgeOtherControl_11 rfl (lv_at hl 1 rfl) ?_
    refine lv_bipush (v := 15) hx hb d_Val_judgeOtherControl_12 (by decide) ?_
    refine lv_icmp_ne (tgt := 39) hx hb d_Val_judgeOtherControl_14 (by decide) (fun c14 => ?_) (fun c14 => ?_)
    · have h := ite_f c14 h
      refine lv_iload_n hx hb d_Val_judgeOtherControl_39 rfl (lv_at hl 1 rfl) ?_
      refine lv_bipush (v := 16) hx hb d_Val_judgeOtherControl_40 (by decide) ?_
      refine lv_icmp_ne (tgt := 88) hx hb d_Val_judgeOtherControl_42 (by decide) (fun c42 => ?_) (fun c42 => ?_)
      · have h := ite_f c42 h
        exact w_Val_judgeOtherControl_88 C hQ x1 x2 s H locs ls hX hl h
      · have h := ite_t c42 h
        refine lv_aload_n hx hb d_Val_judgeOtherControl_45 rfl (lv_at hl 0 rfl) ?_
        refine gf_3_contents C hX fl_Val_20 d_Val_judgeOtherControl_46 ?_
        refine gf_1_functions C hX fl_Val_53 d_Val_judgeOtherControl_49 ?_
        refine lv_iload_n hx hb d_Val_judgeOtherControl_52 rfl (lv_at hl 2 rfl) ?_
        obtain ⟨r1, er1, h⟩ := lt1_e h
        refine x_vI (r := r1) (ws' := wX g s) (As := [.int x2]) (rest := []) C hX (by rw [er1]; exact cTabHas_12 l g s x2) (cw_Val_69 C.1.2.2.2.2 C.2.2.2 ⟨by decide, by decide⟩) (x_rc C hX wg_12 rfl) rfl hl.1 rfl (lv_room (Nat.le_of_ble_eq_true rfl)) d_Val_judgeOtherControl_53 ⟨Nat.le_refl _, Nat.le_refl _⟩ (fun H locs hX => ?_)
        refine lv_if_ne (tgt := 64) hx hb d_Val_judgeOtherControl_56 (by decide) (fun c56 => ?_) (fun c56 => ?_)
        · have h := ite_f c56 h
          exact w_Val_judgeOtherControl_64 C hQ x1 x2 s H locs ls hX hl h
        · have h := ite_t c56 h
          refine lv_aload_n hx hb d_Val_judgeOtherControl_59 rfl (lv_at hl 0 rfl) ?_
          refine lv_iconst (v := 3) hx hb d_Val_judgeOtherControl_60 (by decide) ?_
          obtain ⟨s2, hc61, h⟩ := bd1_e h
          refine x_vV (As := [.int 3]) (rest := []) C hX (c_Val_refuse l g 3 s s2 hc61) (cw_Val_39 C.1.2.2.2.2 C.2.2.2 ⟨by decide, by decide⟩) (x_rc C hX wg_3 rfl) rfl hl.1 rfl (lv_room (Nat.le_of_ble_eq_true rfl)) d_Val_judgeOtherControl_61 ⟨Nat.le_refl _, Nat.le_refl _⟩ (fun H locs hX => ?_)
          exact w_Val_judgeOtherControl_64 C hQ x1 x2 s2 H locs ls hX hl h
    · have h := ite_t c14 h
      refine lv_aload_n hx hb d_Val_judgeOtherControl_17 rfl (lv_at hl 0 rfl) ?_
      refine lv_aload_n hx hb d_Val_judgeOtherControl_18 rfl (lv_at hl 0 rfl) ?_
      refine gf_3_contents C hX fl_Val_20 d_Val_judgeOtherControl_19 ?_
      refine lv_aload_n hx hb d_Val_judgeOtherControl_22 rfl (lv_at hl 0 rfl) ?_
      refine gf_3_function C hX fl_Val_93 d_Val_judgeOtherControl_23 ?_
      obtain ⟨r3, hc26, h⟩ := bd1_e h
      refine x_vI (As := [.int (s 3 2)]) (rest := [.ref (g.q 3)]) C hX (c_Cont_resultsOf l g (s 3 2) s r3 hc26) (cw_Val_102 C.1.2.2.2.2 C.2.2.2 ⟨by decide, by decide⟩) (x_rc C hX wg_1 rfl) rfl hl.1 rfl (lv_room (Nat.le_of_ble_eq_true rfl)) d_Val_judgeOtherControl_26 ⟨Nat.le_refl _, Nat.le_refl _⟩ (fun H locs hX => ?_)
      obtain ⟨s4, hc29, h⟩ := bd1_e h
      refine x_vV (As := [.int r3]) (rest := []) C hX (c_Val_take l g r3 s s4 hc29) (cw_Val_130 C.1.2.2.2.2 C.2.2.2 ⟨by decide, by decide⟩) (x_rc C hX wg_3 rfl) rfl hl.1 rfl (lv_room (Nat.le_of_ble_eq_true rfl)) d_Val_judgeOtherControl_29 ⟨Nat.le_refl _, Nat.le_refl _⟩ (fun H locs hX => ?_)
      refine lv_aload_n hx hb d_Val_judgeOtherControl_32 rfl (lv_at hl 0 rfl) ?_
      obtain ⟨s5, hc33, h⟩ := bd1_e h
      refine x_vV (As := []) (rest := []) C hX (c_Val_leadAway l g s4 s5 hc33) (cw_Val_172 C.1.2.2.2.2 C.2.2.2 ⟨by decide, by decide⟩) (x_rc C hX wg_3 rfl) rfl hl.1 rfl (lv_room (Nat.le_of_ble_eq_true rfl)) d_Val_judgeOtherControl_33 ⟨Nat.le_refl _, Nat.le_refl _⟩ (fun H locs hX => ?_)
      refine lv_goto (tgt := 88) hx hb d_Val_judgeOtherControl_36 (by decide) ?_
      exact w_Val_judgeOtherControl_88 C hQ x1 x2 s5 H locs ls hX hl h
  · have h := ite_t c1 h
    refine lv_aload_n hx hb d_Val_judgeOtherControl_4 rfl (lv_at hl 0 rfl) ?_
    obtain ⟨s6, hc5, h⟩ := bd1_e h
    refine x_vV (As := []) (rest := []) C hX (c_Val_leadAway l g s s6 hc5) (cw_Val_172 C.1.2.2.2.2 C.2.2.2 ⟨by decide, by decide⟩) (x_rc C hX wg_3 rfl) rfl hl.1 rfl (lv_room (Nat.le_of_ble_eq_true rfl)) d_Val_judgeOtherControl_5 ⟨Nat.le_refl _, Nat.le_refl _⟩ (fun H locs hX => ?_)
    refine lv_goto (tgt := 88) hx hb d_Val_judgeOtherControl_8 (by decide) ?_
    exact w_Val_judgeOtherControl_88 C hQ x1 x2 s6 H locs ls hX hl h
end WALK
theorem c_Val_judgeOtherControl (l : Launch) (g : GX) (x1 : Int32) (x2 : Int32) (s : St) (z : St) (h : f_Val_judgeOtherControl x1 x2 s = some z) : MV l g y_Val_judgeOtherControl b_Val_judgeOtherControl 3 none 3 66 [.ref (g.q 3), .int x1, .int x2] (wX g s) (wX g z) :=
  MV.mk (own := R_Val) (by decide) rfl (Nat.le_of_ble_eq_true rfl) fun p e ss m below meth c A Q C hQ ls hX hl => w_Val_judgeOtherControl C hQ x1 x2 s _ _ ls hX hl h
