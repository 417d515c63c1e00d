-- Rd_readOperands
def f_Rd_readOperands_133 (x1 : Int32) (x2 : Int32) (s : St) : Option St :=
    some s
def f_Rd_readOperands_117 (x1 : Int32) (x2 : Int32) (s : St) : Option St :=
    bd (f_Rd_nextUnsigned s) fun r2 s1 =>
    lt1 (tSet s1 21 240 7 x1 1 r2) fun s3 =>
    f_Rd_readOperands_133 x1 x2 s3
def f_Rd_readOperands_37 (x1 : Int32) (x2 : Int32) (s : St) : Option St :=
    bd1 (f_Rd_expect 0 s) fun s1 =>
    f_Rd_readOperands_133 x1 x2 s1
def f_Rd_readOperands (x1 : Int32) (x2 : Int32) (s : St) : Option St :=
    if x2 = 65 then
      bd (f_Rd_nextSigned s) fun r9 s8 =>
      lt1 (tSet s8 21 240 7 x1 1 r9) fun s10 =>
      f_Rd_readOperands_133 x1 x2 s10
    else
      if x2 = 63 then
        f_Rd_readOperands_37 x1 x2 s
      else
        if x2 = 64 then
          f_Rd_readOperands_37 x1 x2 s
        else
          bd1 (f_Op_isAccess x2) fun r1 =>
          if r1 = 0 then
            if x2 = 12 then
              f_Rd_readOperands_117 x1 x2 s
            else
              if x2 = 13 then
                f_Rd_readOperands_117 x1 x2 s
              else
                if x2 = 16 then
                  f_Rd_readOperands_117 x1 x2 s
                else
                  if x2 < 32 then
                    f_Rd_readOperands_133 x1 x2 s
                  else
                    if 36 < x2 then
                      f_Rd_readOperands_133 x1 x2 s
                    else
                      f_Rd_readOperands_117 x1 x2 s
          else
            bd (f_Rd_nextUnsigned s) fun r3 s2 =>
            lt1 (tSet s2 21 240 7 x1 2 r3) fun s4 =>
            bd (f_Rd_nextUnsigned s4) fun r6 s5 =>
            lt1 (tSet s5 21 240 7 x1 1 r6) fun s7 =>
            f_Rd_readOperands_133 x1 x2 s7
section WALK
variable {p : Program} {l : Launch} {e : Env} {ss : State} {m : MethodId} {args : Array Value} {below : List Frame} {meth : Method} {c : Code} {Q : State → Prop} {g : GX} {A : Nat → Prop}
set_option maxHeartbeats 4000000 in
set_option maxRecDepth 100000 in
theorem w_Rd_readOperands_133 {z : St} (C : Cx g A p m c b_Rd_readOperands 3 ss args R_Rd) (hQ : ∀ (pc : Nat) (H : Heap) (locs : List Loc) (ls : Array Slot), XW g A ss (wX g z) H locs → decode b_Rd_readOperands pc = .ok (.return_, 1) → W p l e (rmX 2 44) ss m args below meth c H locs 0 0 Q (F0 m pc ls [])) : ∀ (x1 : Int32) (x2 : Int32) (s : St) (H : Heap) (locs : List Loc) (ls : Array Slot), XW g A ss (wX g s) H locs → lv_has ls 3 [(0, .ref (g.q 2)), (1, .int x1), (2, .int x2)] → f_Rd_readOperands_133 x1 x2 s = some z → W p l e (rmX 2 44) ss m args below meth c H locs 0 0 Q (F0 m 133 ls []) := by
  have ⟨⟨hx, hb, hml, hown, hts⟩, hK, hA, hN⟩ := C
  intro x1 x2 s H locs ls hX hl h
  rw [f_Rd_readOperands_133] at h
  obtain rfl := so1 h
  exact hQ _ H locs ls hX d_Rd_readOperands_133
set_option maxHeartbeats 4000000 in
set_option maxRecDepth 100000 in
theorem w_Rd_readOperands_117 {z : St} (C : Cx g A p m c b_Rd_readOperands 3 ss args R_Rd) (hQ : ∀ (pc : Nat) (H : Heap) (locs : List Loc) (ls : Array Slot), XW g A ss (wX g z) H locs → decode b_Rd_readOperands pc = .ok (.return_, 1) → W p l e (rmX 2 44) ss m args below meth c H locs 0 0 Q (F0 m pc ls [])) : ∀ (x1 : Int32) (x2 : Int32) (s : St) (H : Heap) (locs : List Loc) (ls : Array Slot), XW g A ss (wX g s) H locs → lv_has ls 3 [(0, .ref (g.q 2)), (1, .int x1), (2, .int x2)] → f_Rd_readOperands_117 x1 x2 s = some z → W p l e (rmX 2 44) ss m args below meth c H locs 0 0 Q (F0 m 117 ls []) := by
  have ⟨⟨hx, hb, hml, hown, hts⟩, hK, hA, hN⟩ := C
  intro x1 x2 s H locs ls hX hl h
  rw [f_Rd_readOperands_117] at h
  refine lv_aload_n hx hb d_Rd_readOperands_117 rfl (lv_at hl 0 rfl) ?_
  refine gf_2_contents C hX fl_Rd_24 d_Rd_readOperands_118 ?_
  refine gf_1_code C hX fl_Rd_159 d_Rd_readOperands_121 ?_
  refine lv_iload_n hx hb d_Rd_readOperands_124 rfl (lv_at hl 1 rfl) ?_
  refine lv_iconst (v := 1) hx hb d_Rd_readOperands_125 (by decide) ?_
  refine lv_aload_n hx hb d_Rd_readOperands_126 rfl (lv_at hl 0 rfl) ?_
  obtain ⟨r2, s1, hc127, h⟩ := bd_e h
  refine x_vI (As := []) (rest := [.int 1, .int x1, .ref (g.q 20)]) C hX (c_Rd_nextUnsigned l g s (r2, s1) hc127) (cw_Rd_85 C.1.2.2.2.2 C.2.2.2 ⟨by decide, by decide⟩) (x_rc C hX wg_2 rfl) rfl hl.1 rfl (lv_room (Nat.le_of_ble_eq_true rfl)) d_Rd_readOperands_127 ⟨Nat.le_refl _, Nat.le_refl _⟩ (fun H locs hX => ?_)
  obtain ⟨s3, es3, h⟩ := lt1_e h
  refine x_vV (ws' := wX g s3) (As := [.int x1, .int 1, .int r2]) (rest := []) C hX (by rw [es3]; exact cTabSet_20 l g s1 x1 1 r2) (cw_Rd_98 C.1.2.2.2.2 C.2.2.2 ⟨by decide, by decide⟩) (x_rc C hX wg_20 rfl) rfl hl.1 rfl (lv_room (Nat.le_of_ble_eq_true rfl)) d_Rd_readOperands_130 ⟨Nat.le_refl _, Nat.le_refl _⟩ (fun H locs hX => ?_)
  exact w_Rd_readOperands_133 C hQ x1 x2 s3 H locs ls hX hl h
set_option maxHeartbeats 4000000 in
set_option maxRecDepth 100000 in
theorem w_Rd_readOperands_37 {z : St} (C : Cx g A p m c b_Rd_readOperands 3 ss args R_Rd) (hQ : ∀ (pc : Nat) (H : Heap) (locs : List Loc) (ls : Array Slot), XW g A ss (wX g z) H locs → decode b_Rd_readOperands pc = .ok (.return_, 1) → W p l e (rmX 2 44) ss m args below meth c H locs 0 0 Q (F0 m pc ls [])) : ∀ (x1 : Int32) (x2 : Int32) (s : St) (H : Heap) (locs : List Loc) (ls : Array Slot), XW g A ss (wX g s) H locs → lv_has ls 3 [(0, .ref (g.q 2)), (1, .int x1), (2, .int x2)] → f_Rd_readOperands_37 x1 x2 s = some z → W p l e (rmX 2 44) ss m args below meth c H locs 0 0 Q (F0 m 37 ls []) := by
  have ⟨⟨hx, hb, hml, hown, hts⟩, hK, hA, hN⟩ := C
  intro x1 x2 s H locs ls hX hl h
  rw [f_Rd_readOperands_37] at h
  refine lv_aload_n hx hb d_Rd_readOperands_37 rfl (lv_at hl 0 rfl) ?_
  refine lv_iconst (v := 0) hx hb d_Rd_readOperands_38 (by decide) ?_
  obtain ⟨s1, hc39, h⟩ := bd1_e h
  refine x_vV (As := [.int 0]) (rest := []) C hX (c_Rd_expect l g 0 s s1 hc39) (cw_Rd_52 C.1.2.2.2.2 C.2.2.2 ⟨by decide, by decide⟩) (x_rc C hX wg_2 rfl) rfl hl.1 rfl (lv_room (Nat.le_of_ble_eq_true rfl)) d_Rd_readOperands_39 ⟨Nat.le_refl _, Nat.le_refl _⟩ (fun H locs hX => ?_)
  refine lv_goto (tgt := 133) hx hb d_Rd_readOperands_42 (by decide) ?_
  exact w_Rd_readOperands_133 C hQ x1 x2 s1 H locs ls hX hl h
set_option maxHeartbeats 4000000 in
set_option maxRecDepth 100000 in
theorem w_Rd_readOperands {z : St} (C : Cx g A p m c b_Rd_readOperands 3 ss args R_Rd) (hQ : ∀ (pc : Nat) (H : Heap) (locs : List Loc) (ls : Array Slot), XW g A ss (wX g z) H locs → decode b_Rd_readOperands pc = .ok (.return_, 1) → W p l e (rmX 2 44) ss m args below meth c H locs 0 0 Q (F0 m pc ls [])) : ∀ (x1 : Int32) (x2 : Int32) (s : St) (H : Heap) (locs : List Loc) (ls : Array Slot), XW g A ss (wX g s) H locs → lv_has ls 3 [(0, .ref (g.q 2)), (1, .int x1), (2, .int x2)] → f_Rd_readOperands x1 x2 s = some z → W p l e (rmX 2 44) ss m args below meth c H locs 0 0 Q (F0 m 0 ls []) := by
  have ⟨⟨hx, hb, hml, hown, hts⟩, hK, hA, hN⟩ := C
  intro x1 x2 s H locs ls hX hl h
  rw [f_Rd_readOperands] at h
  refine lv_iload_n hx hb d_Rd_readOperands_0 rfl (lv_at hl 2 rfl) ?_
  refine lv_bipush (v := 65) hx hb d_Rd_readOperands_1 (by decide) ?_
  refine lv_icmp_ne (tgt := 25) hx hb d_Rd_readOperands_3 (by decide) (fun c3 => ?_) (fun c3 => ?_)
  · have h := ite_f c3 h
    refine lv_iload_n hx hb d_Rd_readOperands_25 rfl (lv_at hl 2 rfl) ?_
    refine lv_bipush (v := 63) hx hb d_Rd_readOperands_26 (by decide) ?_
    refine lv_icmp_eq (tgt := 37) hx hb d_Rd_readOperands_28 (by decide) (fun c28 => ?_) (fun c28 => ?_)
    · have h := ite_t c28 h
      exact w_Rd_readOperands_37 C hQ x1 x2 s H locs ls hX hl h
    · have h := ite_f c28 h
      refine lv_iload_n hx hb d_Rd_readOperands_31 rfl (lv_at hl 2 rfl) ?_
      refine lv_bipush (v := 64) hx hb d_Rd_readOperands_32 (by decide) ?_
      refine lv_icmp_ne (tgt := 45) hx hb d_Rd_readOperands_34 (by decide) (fun c34 => ?_) (fun c34 => ?_)
      · have h := ite_f c34 h
        refine lv_iload_n hx hb d_Rd_readOperands_45 rfl (lv_at hl 2 rfl) ?_
        obtain ⟨r1, hc46, h⟩ := bd1_e h
        refine x_sI (As := [.int x2]) (rest := []) C hX (c_Op_isAccess l g x2 r1 hc46 _) (cw_Rd_195 C.1.2.2.2.2 C.2.2.2 ⟨by decide, by decide⟩) rfl hl.1 rfl (lv_room (Nat.le_of_ble_eq_true rfl)) d_Rd_readOperands_46 ⟨Nat.le_refl _, Nat.le_refl _⟩ (fun H locs hX => ?_)
        refine lv_if_eq (tgt := 87) hx hb d_Rd_readOperands_49 (by decide) (fun c49 => ?_) (fun c49 => ?_)
        · have h := ite_t c49 h
          refine lv_iload_n hx hb d_Rd_readOperands_87 rfl (lv_at hl 2 rfl) ?_
          refine lv_bipush (v := 12) hx hb d_Rd_readOperands_88 (by decide) ?_
          refine lv_icmp_eq (tgt := 117) hx hb d_Rd_readOperands_90 (by decide) (fun c90 => ?_) (fun c90 => ?_)
          · have h := ite_t c90 h
            exact w_Rd_readOperands_117 C hQ x1 x2 s H locs ls hX hl h
          · have h := ite_f c90 h
            refine lv_iload_n hx hb d_Rd_readOperands_93 rfl (lv_at hl 2 rfl) ?_
            refine lv_bipush (v := 13) hx hb d_Rd_readOperands_94 (by decide) ?_
            refine lv_icmp_eq (tgt := 117) hx hb d_Rd_readOperands_96 (by decide) (fun c96 => ?_) (fun c96 => ?_)
            · have h := ite_t c96 h
              exact w_Rd_readOperands_117 C hQ x1 x2 s H locs ls hX hl h
            · have h := ite_f c96 h
              refine lv_iload_n hx hb d_Rd_readOperands_99 rfl (lv_at hl 2 rfl) ?_
              refine lv_bipush (v := 16) hx hb d_Rd_readOperands_100 (by decide) ?_
              refine lv_icmp_eq (tgt := 117) hx hb d_Rd_readOperands_102 (by decide) (fun c102 => ?_) (fun c102 => ?_)
              · have h := ite_t c102 h
                exact w_Rd_readOperands_117 C hQ x1 x2 s H locs ls hX hl h
              · have h := ite_f c102 h
                refine lv_iload_n hx hb d_Rd_readOperands_105 rfl (lv_at hl 2 rfl) ?_
                refine lv_bipush (v := 32) hx hb d_Rd_readOperands_106 (by decide) ?_
                refine lv_icmp_lt (tgt := 133) hx hb d_Rd_readOperands_108 (by decide) (fun c108 => ?_) (fun c108 => ?_)
                · have h := ite_t c108 h
                  exact w_Rd_readOperands_133 C hQ x1 x2 s H locs ls hX hl h
                · have h := ite_f c108 h
                  refine lv_iload_n hx hb d_Rd_readOperands_111 rfl (lv_at hl 2 rfl) ?_
                  refine lv_bipush (v := 36) hx hb d_Rd_readOperands_112 (by decide) ?_
                  refine lv_icmp_gt (tgt := 133) hx hb d_Rd_readOperands_114 (by decide) (fun c114 => ?_) (fun c114 => ?_)
                  · have h := ite_t c114 h
                    exact w_Rd_readOperands_133 C hQ x1 x2 s H locs ls hX hl h
                  · have h := ite_f c114 h
                    exact w_Rd_readOperands_117 C hQ x1 x2 s H locs ls hX hl h
        · have h := ite_f c49 h
          refine lv_aload_n hx hb d_Rd_readOperands_52 rfl (lv_at hl 0 rfl) ?_
          refine gf_2_contents C hX fl_Rd_24 d_Rd_readOperands_53 ?_
          refine gf_1_code C hX fl_Rd_159 d_Rd_readOperands_56 ?_
          refine lv_iload_n hx hb d_Rd_readOperands_59 rfl (lv_at hl 1 rfl) ?_
          refine lv_iconst (v := 2) hx hb d_Rd_readOperands_60 (by decide) ?_
          refine lv_aload_n hx hb d_Rd_readOperands_61 rfl (lv_at hl 0 rfl) ?_
          obtain ⟨r3, s2, hc62, h⟩ := bd_e h
          refine x_vI (As := []) (rest := [.int 2, .int x1, .ref (g.q 20)]) C hX (c_Rd_nextUnsigned l g s (r3, s2) hc62) (cw_Rd_85 C.1.2.2.2.2 C.2.2.2 ⟨by decide, by decide⟩) (x_rc C hX wg_2 rfl) rfl hl.1 rfl (lv_room (Nat.le_of_ble_eq_true rfl)) d_Rd_readOperands_62 ⟨Nat.le_refl _, Nat.le_refl _⟩ (fun H locs hX => ?_)
          obtain ⟨s4, es4, h⟩ := lt1_e h
          refine x_vV (ws' := wX g s4) (As := [.int x1, .int 2, .int r3]) (rest := []) C hX (by rw [es4]; exact cTabSet_20 l g s2 x1 2 r3) (cw_Rd_98 C.1.2.2.2.2 C.2.2.2 ⟨by decide, by decide⟩) (x_rc C hX wg_20 rfl) rfl hl.1 rfl (lv_room (Nat.le_of_ble_eq_true rfl)) d_Rd_readOperands_65 ⟨Nat.le_refl _, Nat.le_refl _⟩ (fun H locs hX => ?_)
          refine lv_aload_n hx hb d_Rd_readOperands_68 rfl (lv_at hl 0 rfl) ?_
          refine gf_2_contents C hX fl_Rd_24 d_Rd_readOperands_69 ?_
          refine gf_1_code C hX fl_Rd_159 d_Rd_readOperands_72 ?_
          refine lv_iload_n hx hb d_Rd_readOperands_75 rfl (lv_at hl 1 rfl) ?_
          refine lv_iconst (v := 1) hx hb d_Rd_readOperands_76 (by decide) ?_
          refine lv_aload_n hx hb d_Rd_readOperands_77 rfl (lv_at hl 0 rfl) ?_
          obtain ⟨r6, s5, hc78, h⟩ := bd_e h
          refine x_vI (As := []) (rest := [.int 1, .int x1, .ref (g.q 20)]) C hX (c_Rd_nextUnsigned l g s4 (r6, s5) hc78) (cw_Rd_85 C.1.2.2.2.2 C.2.2.2 ⟨by decide, by decide⟩) (x_rc C hX wg_2 rfl) rfl hl.1 rfl (lv_room (Nat.le_of_ble_eq_true rfl)) d_Rd_readOperands_78 ⟨Nat.le_refl _, Nat.le_refl _⟩ (fun H locs hX => ?_)
          obtain ⟨s7, es7, h⟩ := lt1_e h
          refine x_vV (ws' := wX g s7) (As := [.int x1, .int 1, .int r6]) (rest := []) C hX (by rw [es7]; exact cTabSet_20 l g s5 x1 1 r6) (cw_Rd_98 C.1.2.2.2.2 C.2.2.2 ⟨by decide, by decide⟩) (x_rc C hX wg_20 rfl) rfl hl.1 rfl (lv_room (Nat.le_of_ble_eq_true rfl)) d_Rd_readOperands_81 ⟨Nat.le_refl _, Nat.le_refl _⟩ (fun H locs hX => ?_)
          refine lv_goto (tgt := 133) hx hb d_Rd_readOperands_84 (by decide) ?_
          exact w_Rd_readOperands_133 C hQ x1 x2 s7 H locs ls hX hl h
      · have h := ite_t c34 h
        exact w_Rd_readOperands_37 C hQ x1 x2 s H locs ls hX hl h
  · have h := ite_t c3 h
    refine lv_aload_n hx hb d_Rd_readOperands_6 rfl (lv_at hl 0 rfl) ?_
    refine gf_2_contents C hX fl_Rd_24 d_Rd_readOperands_7 ?_
    refine gf_1_code C hX fl_Rd_159 d_Rd_readOperands_10 ?_
    refine lv_iload_n hx hb d_Rd_readOperands_13 rfl (lv_at hl 1 rfl) ?_
    refine lv_iconst (v := 1) hx hb d_Rd_readOperands_14 (by decide) ?_
    refine lv_aload_n hx hb d_Rd_readOperands_15 rfl (lv_at hl 0 rfl) ?_
    obtain ⟨r9, s8, hc16, h⟩ := bd_e h
    refine x_vI (As := []) (rest := [.int 1, .int x1, .ref (g.q 20)]) C hX (c_Rd_nextSigned l g s (r9, s8) hc16) (cw_Rd_147 C.1.2.2.2.2 C.2.2.2 ⟨by decide, by decide⟩) (x_rc C hX wg_2 rfl) rfl hl.1 rfl (lv_room (Nat.le_of_ble_eq_true rfl)) d_Rd_readOperands_16 ⟨Nat.le_refl _, Nat.le_refl _⟩ (fun H locs hX => ?_)
    obtain ⟨s10, es10, h⟩ := lt1_e h
    refine x_vV (ws' := wX g s10) (As := [.int x1, .int 1, .int r9]) (rest := []) C hX (by rw [es10]; exact cTabSet_20 l g s8 x1 1 r9) (cw_Rd_98 C.1.2.2.2.2 C.2.2.2 ⟨by decide, by decide⟩) (x_rc C hX wg_20 rfl) rfl hl.1 rfl (lv_room (Nat.le_of_ble_eq_true rfl)) d_Rd_readOperands_19 ⟨Nat.le_refl _, Nat.le_refl _⟩ (fun H locs hX => ?_)
    refine lv_goto (tgt := 133) hx hb d_Rd_readOperands_22 (by decide) ?_
    exact w_Rd_readOperands_133 C hQ x1 x2 s10 H locs ls hX hl h
end WALK
theorem c_Rd_readOperands (l : Launch) (g : GX) (x1 : Int32) (x2 : Int32) (s : St) (z : St) (h : f_Rd_readOperands x1 x2 s = some z) : MV l g y_Rd_readOperands b_Rd_readOperands 3 none 2 44 [.ref (g.q 2), .int x1, .int x2] (wX g s) (wX g z) :=
  MV.mk (own := R_Rd) (by decide) rfl (Nat.le_of_ble_eq_true rfl) fun p e ss m below meth c A Q C hQ ls hX hl => w_Rd_readOperands C hQ x1 x2 s _ _ ls hX hl h
-- Rd_readInstruction
def f_Rd_readInstruction_111 (x1 : Int32) (x2 : Int32) (s : St) : Option St :=
    some s
def f_Rd_readInstruction_17 (x1 : Int32) (s : St) : Option St :=
    if s 2 5 = 0 then
      lt1 (s 20 0 + 1 - 1) fun r1 =>
      lt1 (stp s 20 0 (s 20 0 + 1)) fun s2 =>
      lt1 (tSet s2 21 240 7 r1 0 x1) fun s3 =>
      bd1 (f_Op_opensBlock x1) fun r4 =>
      if r4 = 0 then
        if x1 = 5 then
          bd1 (f_Rd_turnBlock r1 s3) fun s8 =>
          f_Rd_readInstruction_111 x1 r1 s8
        else
          if x1 = 11 then
            bd1 (f_Rd_closeBlock r1 s3) fun s7 =>
            f_Rd_readInstruction_111 x1 r1 s7
          else
            if x1 = 14 then
              bd1 (f_Rd_readPlaces r1 s3) fun s6 =>
              f_Rd_readInstruction_111 x1 r1 s6
            else
              bd1 (f_Rd_readOperands r1 x1 s3) fun s5 =>
              f_Rd_readInstruction_111 x1 r1 s5
      else
        bd1 (f_Rd_openBlock r1 s3) fun s9 =>
        f_Rd_readInstruction_111 x1 r1 s9
    else
      some s
def f_Rd_readInstruction (s : St) : Option St :=
    bd (f_Rd_nextByte s) fun r2 s1 =>
    bd1 (f_Op_isKnown r2) fun r3 =>
    if r3 = 0 then
      bd1 (f_Rd_refuse 2 s1) fun s4 =>
      f_Rd_readInstruction_17 r2 s4
    else
      f_Rd_readInstruction_17 r2 s1
section WALK
variable {p : Program} {l : Launch} {e : Env} {ss : State} {m : MethodId} {args : Array Value} {below : List Frame} {meth : Method} {c : Code} {Q : State → Prop} {g : GX} {A : Nat → Prop}
set_option maxHeartbeats 4000000 in
set_option maxRecDepth 100000 in
theorem w_Rd_readInstruction_111 {z : St} (C : Cx g A p m c b_Rd_readInstruction 3 ss args R_Rd) (hQ : ∀ (pc : Nat) (H : Heap) (locs : List Loc) (ls : Array Slot), XW g A ss (wX g z) H locs → decode b_Rd_readInstruction pc = .ok (.return_, 1) → W p l e (rmX 3 67) ss m args below meth c H locs 0 0 Q (F0 m pc ls [])) : ∀ (x1 : Int32) (x2 : Int32) (s : St) (H : Heap) (locs : List Loc) (ls : Array Slot), XW g A ss (wX g s) H locs → lv_has ls 3 [(0, .ref (g.q 2)), (1, .int x1), (2, .int x2)] → f_Rd_readInstruction_111 x1 x2 s = some z → W p l e (rmX 3 67) ss m args below meth c H locs 0 0 Q (F0 m 111 ls []) := by
  have ⟨⟨hx, hb, hml, hown, hts⟩, hK, hA, hN⟩ := C
  intro x1 x2 s H locs ls hX hl h
  rw [f_Rd_readInstruction_111] at h
  obtain rfl := so1 h
  exact hQ _ H locs ls hX d_Rd_readInstruction_111
set_option maxHeartbeats 4000000 in
set_option maxRecDepth 100000 in
theorem w_Rd_readInstruction_17 {z : St} (C : Cx g A p m c b_Rd_readInstruction 3 ss args R_Rd) (hQ : ∀ (pc : Nat) (H : Heap) (locs : List Loc) (ls : Array Slot), XW g A ss (wX g z) H locs → decode b_Rd_readInstruction pc = .ok (.return_, 1) → W p l e (rmX 3 67) ss m args below meth c H locs 0 0 Q (F0 m pc ls [])) : ∀ (x1 : Int32) (s : St) (H : Heap) (locs : List Loc) (ls : Array Slot), XW g A ss (wX g s) H locs → lv_has ls 3 [(0, .ref (g.q 2)), (1, .int x1)] → f_Rd_readInstruction_17 x1 s = some z → W p l e (rmX 3 67) ss m args below meth c H locs 0 0 Q (F0 m 17 ls []) := by
  have ⟨⟨hx, hb, hml, hown, hts⟩, hK, hA, hN⟩ := C
  intro x1 s H locs ls hX hl h
  rw [f_Rd_readInstruction_17] at h
  refine lv_aload_n hx hb d_Rd_readInstruction_17 rfl (lv_at hl 0 rfl) ?_
  refine gf_2_fault C hX fl_Rd_46 d_Rd_readInstruction_18 ?_
  refine lv_if_eq (tgt := 25) hx hb d_Rd_readInstruction_21 (by decide) (fun c21 => ?_) (fun c21 => ?_)
  · have h := ite_t c21 h
    refine lv_aload_n hx hb d_Rd_readInstruction_25 rfl (lv_at hl 0 rfl) ?_
    refine gf_2_contents C hX fl_Rd_24 d_Rd_readInstruction_26 ?_
    refine gf_1_code C hX fl_Rd_159 d_Rd_readInstruction_29 ?_
    obtain ⟨r1, er1, h⟩ := lt1_e h
    obtain ⟨s2, es2, h⟩ := lt1_e h
    refine x_vI (r := r1) (ws' := wX g s2) (As := []) (rest := []) C hX (by rw [er1, es2]; exact cTabAdd_20 l g s) (cw_Rd_95 C.1.2.2.2.2 C.2.2.2 ⟨by decide, by decide⟩) (x_rc C hX wg_20 rfl) rfl hl.1 rfl (lv_room (Nat.le_of_ble_eq_true rfl)) d_Rd_readInstruction_32 ⟨Nat.le_refl _, Nat.le_refl _⟩ (fun H locs hX => ?_)
    refine lv_istore_n (lv' := [(2, .int r1), (0, .ref (g.q 2)), (1, .int x1)]) hx hb d_Rd_readInstruction_35 rfl hl (by decide) rfl (fun ls hl => ?_)
    refine lv_aload_n hx hb d_Rd_readInstruction_36 rfl (lv_at hl 1 rfl) ?_
    refine gf_2_contents C hX fl_Rd_24 d_Rd_readInstruction_37 ?_
    refine gf_1_code C hX fl_Rd_159 d_Rd_readInstruction_40 ?_
    refine lv_iload_n hx hb d_Rd_readInstruction_43 rfl (lv_at hl 0 rfl) ?_
    refine lv_iconst (v := 0) hx hb d_Rd_readInstruction_44 (by decide) ?_
    refine lv_iload_n hx hb d_Rd_readInstruction_45 rfl (lv_at hl 2 rfl) ?_
    obtain ⟨s3, es3, h⟩ := lt1_e h
    refine x_vV (ws' := wX g s3) (As := [.int r1, .int 0, .int x1]) (rest := []) C hX (by rw [es3]; exact cTabSet_20 l g s2 r1 0 x1) (cw_Rd_98 C.1.2.2.2.2 C.2.2.2 ⟨by decide, by decide⟩) (x_rc C hX wg_20 rfl) rfl hl.1 rfl (lv_room (Nat.le_of_ble_eq_true rfl)) d_Rd_readInstruction_46 ⟨Nat.le_refl _, Nat.le_refl _⟩ (fun H locs hX => ?_)
    refine lv_iload_n hx hb d_Rd_readInstruction_49 rfl (lv_at hl 2 rfl) ?_
    obtain ⟨r4, hc50, h⟩ := bd1_e h
    refine x_sI (As := [.int x1]) (rest := []) C hX (c_Op_opensBlock l g x1 r4 hc50 _) (cw_Rd_177 C.1.2.2.2.2 C.2.2.2 ⟨by decide, by decide⟩) rfl hl.1 rfl (lv_room (Nat.le_of_ble_eq_true rfl)) d_Rd_readInstruction_50 ⟨Nat.le_refl _, Nat.le_refl _⟩ (fun H locs hX => ?_)
    refine lv_if_eq (tgt := 64) hx hb d_Rd_readInstruction_53 (by decide) (fun c53 => ?_) (fun c53 => ?_)
    · have h := ite_t c53 h
      refine lv_iload_n hx hb d_Rd_readInstruction_64 rfl (lv_at hl 2 rfl) ?_
      refine lv_iconst (v := 5) hx hb d_Rd_readInstruction_65 (by decide) ?_
      refine lv_icmp_ne (tgt := 77) hx hb d_Rd_readInstruction_66 (by decide) (fun c66 => ?_) (fun c66 => ?_)
      · have h := ite_f c66 h
        refine lv_iload_n hx hb d_Rd_readInstruction_77 rfl (lv_at hl 2 rfl) ?_
        refine lv_bipush (v := 11) hx hb d_Rd_readInstruction_78 (by decide) ?_
        refine lv_icmp_ne (tgt := 91) hx hb d_Rd_readInstruction_80 (by decide) (fun c80 => ?_) (fun c80 => ?_)
        · have h := ite_f c80 h
          refine lv_iload_n hx hb d_Rd_readInstruction_91 rfl (lv_at hl 2 rfl) ?_
          refine lv_bipush (v := 14) hx hb d_Rd_readInstruction_92 (by decide) ?_
          refine lv_icmp_ne (tgt := 105) hx hb d_Rd_readInstruction_94 (by decide) (fun c94 => ?_) (fun c94 => ?_)
          · have h := ite_f c94 h
            refine lv_aload_n hx hb d_Rd_readInstruction_105 rfl (lv_at hl 1 rfl) ?_
            refine lv_iload_n hx hb d_Rd_readInstruction_106 rfl (lv_at hl 0 rfl) ?_
            refine lv_iload_n hx hb d_Rd_readInstruction_107 rfl (lv_at hl 2 rfl) ?_
            obtain ⟨s5, hc108, h⟩ := bd1_e h
            refine x_vV (As := [.int r1, .int x1]) (rest := []) C hX (c_Rd_readOperands l g r1 x1 s3 s5 hc108) (cw_Rd_192 C.1.2.2.2.2 C.2.2.2 ⟨by decide, by decide⟩) (x_rc C hX wg_2 rfl) rfl hl.1 rfl (lv_room (Nat.le_of_ble_eq_true rfl)) d_Rd_readInstruction_108 ⟨Nat.le_refl _, Nat.le_refl _⟩ (fun H locs hX => ?_)
            exact w_Rd_readInstruction_111 C hQ x1 r1 s5 H locs ls hX (lv_sub hl [1, 2, 0] rfl) h
          · have h := ite_t c94 h
            refine lv_aload_n hx hb d_Rd_readInstruction_97 rfl (lv_at hl 1 rfl) ?_
            refine lv_iload_n hx hb d_Rd_readInstruction_98 rfl (lv_at hl 0 rfl) ?_
            obtain ⟨s6, hc99, h⟩ := bd1_e h
            refine x_vV (As := [.int r1]) (rest := []) C hX (c_Rd_readPlaces l g r1 s3 s6 hc99) (cw_Rd_189 C.1.2.2.2.2 C.2.2.2 ⟨by decide, by decide⟩) (x_rc C hX wg_2 rfl) rfl hl.1 rfl (lv_room (Nat.le_of_ble_eq_true rfl)) d_Rd_readInstruction_99 ⟨Nat.le_refl _, Nat.le_refl _⟩ (fun H locs hX => ?_)
            refine lv_goto (tgt := 111) hx hb d_Rd_readInstruction_102 (by decide) ?_
            exact w_Rd_readInstruction_111 C hQ x1 r1 s6 H locs ls hX (lv_sub hl [1, 2, 0] rfl) h
        · have h := ite_t c80 h
          refine lv_aload_n hx hb d_Rd_readInstruction_83 rfl (lv_at hl 1 rfl) ?_
          refine lv_iload_n hx hb d_Rd_readInstruction_84 rfl (lv_at hl 0 rfl) ?_
          obtain ⟨s7, hc85, h⟩ := bd1_e h
          refine x_vV (As := [.int r1]) (rest := []) C hX (c_Rd_closeBlock l g r1 s3 s7 hc85) (cw_Rd_186 C.1.2.2.2.2 C.2.2.2 ⟨by decide, by decide⟩) (x_rc C hX wg_2 rfl) rfl hl.1 rfl (lv_room (Nat.le_of_ble_eq_true rfl)) d_Rd_readInstruction_85 ⟨Nat.le_refl _, Nat.le_refl _⟩ (fun H locs hX => ?_)
          refine lv_goto (tgt := 111) hx hb d_Rd_readInstruction_88 (by decide) ?_
          exact w_Rd_readInstruction_111 C hQ x1 r1 s7 H locs ls hX (lv_sub hl [1, 2, 0] rfl) h
      · have h := ite_t c66 h
        refine lv_aload_n hx hb d_Rd_readInstruction_69 rfl (lv_at hl 1 rfl) ?_
        refine lv_iload_n hx hb d_Rd_readInstruction_70 rfl (lv_at hl 0 rfl) ?_
        obtain ⟨s8, hc71, h⟩ := bd1_e h
        refine x_vV (As := [.int r1]) (rest := []) C hX (c_Rd_turnBlock l g r1 s3 s8 hc71) (cw_Rd_183 C.1.2.2.2.2 C.2.2.2 ⟨by decide, by decide⟩) (x_rc C hX wg_2 rfl) rfl hl.1 rfl (lv_room (Nat.le_of_ble_eq_true rfl)) d_Rd_readInstruction_71 ⟨Nat.le_refl _, Nat.le_refl _⟩ (fun H locs hX => ?_)
        refine lv_goto (tgt := 111) hx hb d_Rd_readInstruction_74 (by decide) ?_
        exact w_Rd_readInstruction_111 C hQ x1 r1 s8 H locs ls hX (lv_sub hl [1, 2, 0] rfl) h
    · have h := ite_f c53 h
      refine lv_aload_n hx hb d_Rd_readInstruction_56 rfl (lv_at hl 1 rfl) ?_
      refine lv_iload_n hx hb d_Rd_readInstruction_57 rfl (lv_at hl 0 rfl) ?_
      obtain ⟨s9, hc58, h⟩ := bd1_e h
      refine x_vV (As := [.int r1]) (rest := []) C hX (c_Rd_openBlock l g r1 s3 s9 hc58) (cw_Rd_180 C.1.2.2.2.2 C.2.2.2 ⟨by decide, by decide⟩) (x_rc C hX wg_2 rfl) rfl hl.1 rfl (lv_room (Nat.le_of_ble_eq_true rfl)) d_Rd_readInstruction_58 ⟨Nat.le_refl _, Nat.le_refl _⟩ (fun H locs hX => ?_)
      refine lv_goto (tgt := 111) hx hb d_Rd_readInstruction_61 (by decide) ?_
      exact w_Rd_readInstruction_111 C hQ x1 r1 s9 H locs ls hX (lv_sub hl [1, 2, 0] rfl) h
  · have h := ite_f c21 h
    obtain rfl := so1 h
    exact hQ _ H locs ls hX d_Rd_readInstruction_24
set_option maxHeartbeats 4000000 in
set_option maxRecDepth 100000 in
theorem w_Rd_readInstruction {z : St} (C : Cx g A p m c b_Rd_readInstruction 3 ss args R_Rd) (hQ : ∀ (pc : Nat) (H : Heap) (locs : List Loc) (ls : Array Slot), XW g A ss (wX g z) H locs → decode b_Rd_readInstruction pc = .ok (.return_, 1) → W p l e (rmX 3 67) ss m args below meth c H locs 0 0 Q (F0 m pc ls [])) : ∀ (s : St) (H : Heap) (locs : List Loc) (ls : Array Slot), XW g A ss (wX g s) H locs → lv_has ls 3 [(0, .ref (g.q 2))] → f_Rd_readInstruction s = some z → W p l e (rmX 3 67) ss m args below meth c H locs 0 0 Q (F0 m 0 ls []) := by
  have ⟨⟨hx, hb, hml, hown, hts⟩, hK, hA, hN⟩ := C
  intro s H locs ls hX hl h
  rw [f_Rd_readInstruction] at h
  refine lv_aload_n hx hb d_Rd_readInstruction_0 rfl (lv_at hl 0 rfl) ?_
  obtain ⟨r2, s1, hc1, h⟩ := bd_e h
  refine x_vI (As := []) (rest := []) C hX (c_Rd_nextByte l g s (r2, s1) hc1) (cw_Rd_55 C.1.2.2.2.2 C.2.2.2 ⟨by decide, by decide⟩) (x_rc C hX wg_2 rfl) rfl hl.1 rfl (lv_room (Nat.le_of_ble_eq_true rfl)) d_Rd_readInstruction_1 ⟨Nat.le_refl _, Nat.le_refl _⟩ (fun H locs hX => ?_)
  refine lv_istore_n (lv' := [(1, .int r2), (0, .ref (g.q 2))]) hx hb d_Rd_readInstruction_4 rfl hl (by decide) rfl (fun ls hl => ?_)
  refine lv_iload_n hx hb d_Rd_readInstruction_5 rfl (lv_at hl 0 rfl) ?_
  obtain ⟨r3, hc6, h⟩ := bd1_e h
  refine x_sI (As := [.int r2]) (rest := []) C hX (c_Op_isKnown l g r2 r3 hc6 _) (cw_Rd_173 C.1.2.2.2.2 C.2.2.2 ⟨by decide, by decide⟩) rfl hl.1 rfl (lv_room (Nat.le_of_ble_eq_true rfl)) d_Rd_readInstruction_6 ⟨Nat.le_refl _, Nat.le_refl _⟩ (fun H locs hX => ?_)
  refine lv_if_ne (tgt := 17) hx hb d_Rd_readInstruction_9 (by decide) (fun c9 => ?_) (fun c9 => ?_)
  · have h := ite_f c9 h
    exact w_Rd_readInstruction_17 C hQ r2 s1 H locs ls hX (lv_sub hl [1, 0] rfl) h
  · have h := ite_t c9 h
    refine lv_aload_n hx hb d_Rd_readInstruction_12 rfl (lv_at hl 1 rfl) ?_
    refine lv_iconst (v := 2) hx hb d_Rd_readInstruction_13 (by decide) ?_
    obtain ⟨s4, hc14, h⟩ := bd1_e h
    refine x_vV (As := [.int 2]) (rest := []) C hX (c_Rd_refuse l g 2 s1 s4 hc14) (cw_Rd_75 C.1.2.2.2.2 C.2.2.2 ⟨by decide, by decide⟩) (x_rc C hX wg_2 rfl) rfl hl.1 rfl (lv_room (Nat.le_of_ble_eq_true rfl)) d_Rd_readInstruction_14 ⟨Nat.le_refl _, Nat.le_refl _⟩ (fun H locs hX => ?_)
    exact w_Rd_readInstruction_17 C hQ r2 s4 H locs ls hX (lv_sub hl [1, 0] rfl) h
end WALK
theorem c_Rd_readInstruction (l : Launch) (g : GX) (s : St) (z : St) (h : f_Rd_readInstruction s = some z) : MV l g y_Rd_readInstruction b_Rd_readInstruction 3 none 3 67 [.ref (g.q 2)] (wX g s) (wX g z) :=
  MV.mk (own := R_Rd) (by decide) rfl (Nat.le_of_ble_eq_true rfl) fun p e ss m below meth c A Q C hQ ls hX hl => w_Rd_readInstruction C hQ s _ _ ls hX hl h
-- Rd_readBody
def f_Rd_readBody_127 (x1 : Int32) (x2 : Int32) (x3 : Int32) (s : St) : Option St :=
    lt1 (s 2 4 + 1) fun v1 =>
    lt1 (stp s 2 4 v1) fun s2 =>
    lt1 (stp s2 2 3 x2) fun s3 =>
    some s3
def f_Rd_readBody_87 (x1 : Int32) (x2 : Int32) (x3 : Int32) (s : St) : Option St :=
    lt1 (s 20 0) fun r1 =>
    lt1 (r1 - 1) fun v2 =>
    lt1 (tSet s 13 8 4 x1 3 v2) fun s3 =>
    if s3 2 2 = s3 2 3 then
      f_Rd_readBody_127 x1 x2 x3 s3
    else
      bd1 (f_Rd_refuse 1 s3) fun s4 =>
      f_Rd_readBody_127 x1 x2 x3 s4
def f_Rd_readBody_56 : Nat → Int32 → Int32 → Int32 → St → Option St
  | 0, _, _, _, _ => none
  | n + 1, x1, x2, x3, s =>
    if 240 ≤ x3 then
      f_Rd_readBody_87 x1 x2 x3 s
    else
      if s 2 5 = 0 then
        if s 2 0 ≤ 0 then
          f_Rd_readBody_87 x1 x2 x3 s
        else
          bd1 (f_Rd_readInstruction s) fun s1 =>
          lt1 (x3 + (1)) fun v2 =>
          f_Rd_readBody_56 n x1 x2 v2 s1
      else
        f_Rd_readBody_87 x1 x2 x3 s
def f_Rd_readBody (x1 : Int32) (s : St) : Option St :=
    bd (f_Rd_nextEnd s) fun r2 s1 =>
    lt1 (stp s1 2 3 r2) fun s3 =>
    bd1 (f_Rd_readLocals x1 s3) fun s4 =>
    lt1 (s4 20 0) fun r5 =>
    lt1 (tSet s4 13 8 4 x1 2 r5) fun s6 =>
    lt1 (rSet s6 25 11 0 ((-1))) fun s7 =>
    lt1 (stp s7 2 0 1) fun s8 =>
    f_Rd_readBody_56 FU x1 (s 2 3) 0 s8
section WALK
variable {p : Program} {l : Launch} {e : Env} {ss : State} {m : MethodId} {args : Array Value} {below : List Frame} {meth : Method} {c : Code} {Q : State → Prop} {g : GX} {A : Nat → Prop}
set_option maxHeartbeats 4000000 in
set_option maxRecDepth 100000 in
theorem w_Rd_readBody_127 {z : St} (C : Cx g A p m c b_Rd_readBody 4 ss args R_Rd) (hQ : ∀ (pc : Nat) (H : Heap) (locs : List Loc) (ls : Array Slot), XW g A ss (wX g z) H locs → decode b_Rd_readBody pc = .ok (.return_, 1) → W p l e (rmX 4 89) ss m args below meth c H locs 0 0 Q (F0 m pc ls [])) : ∀ (x1 : Int32) (x2 : Int32) (x3 : Int32) (s : St) (H : Heap) (locs : List Loc) (ls : Array Slot), XW g A ss (wX g s) H locs → lv_has ls 4 [(0, .ref (g.q 2)), (1, .int x1), (2, .int x2), (3, .int x3)] → f_Rd_readBody_127 x1 x2 x3 s = some z → W p l e (rmX 4 89) ss m args below meth c H locs 0 0 Q (F0 m 127 ls []) := by
  have ⟨⟨hx, hb, hml, hown, hts⟩, hK, hA, hN⟩ := C
  intro x1 x2 x3 s H locs ls hX hl h
  rw [f_Rd_readBody_127] at h
  refine lv_aload_n hx hb d_Rd_readBody_127 rfl (lv_at hl 0 rfl) ?_
  refine lv_dup hx hb d_Rd_readBody_128 rfl ?_
  refine gf_2_bodies C hX fl_Rd_43 d_Rd_readBody_129 ?_
  refine lv_iconst (v := 1) hx hb d_Rd_readBody_132 (by decide) ?_
  obtain ⟨v1, ev1, h⟩ := lt1_e h
  refine x_iadd hx hb d_Rd_readBody_133 ev1 ?_
  obtain ⟨s2, es2, h⟩ := lt1_e h
  refine pf_2_bodies C hX fl_Rd_43 d_Rd_readBody_134 (fun H locs hX => ?_)
  rw [← es2] at hX
  refine lv_aload_n hx hb d_Rd_readBody_137 rfl (lv_at hl 0 rfl) ?_
  refine lv_iload_n hx hb d_Rd_readBody_138 rfl (lv_at hl 2 rfl) ?_
  obtain ⟨s3, es3, h⟩ := lt1_e h
  refine pf_2_bound C hX fl_Rd_40 d_Rd_readBody_139 (fun H locs hX => ?_)
  rw [← es3] at hX
  obtain rfl := so1 h
  exact hQ _ H locs ls hX d_Rd_readBody_142
set_option maxHeartbeats 4000000 in
set_option maxRecDepth 100000 in
theorem w_Rd_readBody_87 {z : St} (C : Cx g A p m c b_Rd_readBody 4 ss args R_Rd) (hQ : ∀ (pc : Nat) (H : Heap) (locs : List Loc) (ls : Array Slot), XW g A ss (wX g z) H locs → decode b_Rd_readBody pc = .ok (.return_, 1) → W p l e (rmX 4 89) ss m args below meth c H locs 0 0 Q (F0 m pc ls [])) : ∀ (x1 : Int32) (x2 : Int32) (x3 : Int32) (s : St) (H : Heap) (locs : List Loc) (ls : Array Slot), XW g A ss (wX g s) H locs → lv_has ls 4 [(0, .ref (g.q 2)), (1, .int x1), (2, .int x2), (3, .int x3)] → f_Rd_readBody_87 x1 x2 x3 s = some z → W p l e (rmX 4 89) ss m args below meth c H locs 0 0 Q (F0 m 87 ls []) := by
  have ⟨⟨hx, hb, hml, hown, hts⟩, hK, hA, hN⟩ := C
  intro x1 x2 x3 s H locs ls hX hl h
  rw [f_Rd_readBody_87] at h
  refine lv_aload_n hx hb d_Rd_readBody_87 rfl (lv_at hl 0 rfl) ?_
  refine gf_2_contents C hX fl_Rd_24 d_Rd_readBody_88 ?_
  refine gf_1_functions C hX fl_Rd_66 d_Rd_readBody_91 ?_
  refine lv_iload_n hx hb d_Rd_readBody_94 rfl (lv_at hl 1 rfl) ?_
  refine lv_iconst (v := 3) hx hb d_Rd_readBody_95 (by decide) ?_
  refine lv_aload_n hx hb d_Rd_readBody_96 rfl (lv_at hl 0 rfl) ?_
  refine gf_2_contents C hX fl_Rd_24 d_Rd_readBody_97 ?_
  refine gf_1_code C hX fl_Rd_159 d_Rd_readBody_100 ?_
  obtain ⟨r1, er1, h⟩ := lt1_e h
  refine x_vI (r := r1) (ws' := wX g s) (As := []) (rest := [.int 3, .int x1, .ref (g.q 12)]) C hX (by rw [er1]; exact cTabCount_20 l g s) (cw_Rd_70 C.1.2.2.2.2 C.2.2.2 ⟨by decide, by decide⟩) (x_rc C hX wg_20 rfl) rfl hl.1 rfl (lv_room (Nat.le_of_ble_eq_true rfl)) d_Rd_readBody_103 ⟨Nat.le_refl _, Nat.le_refl _⟩ (fun H locs hX => ?_)
  refine lv_iconst (v := 1) hx hb d_Rd_readBody_106 (by decide) ?_
  obtain ⟨v2, ev2, h⟩ := lt1_e h
  refine x_isub hx hb d_Rd_readBody_107 ev2 ?_
  obtain ⟨s3, es3, h⟩ := lt1_e h
  refine x_vV (ws' := wX g s3) (As := [.int x1, .int 3, .int v2]) (rest := []) C hX (by rw [es3]; exact cTabSet_12 l g s x1 3 v2) (cw_Rd_98 C.1.2.2.2.2 C.2.2.2 ⟨by decide, by decide⟩) (x_rc C hX wg_12 rfl) rfl hl.1 rfl (lv_room (Nat.le_of_ble_eq_true rfl)) d_Rd_readBody_108 ⟨Nat.le_refl _, Nat.le_refl _⟩ (fun H locs hX => ?_)
  refine lv_aload_n hx hb d_Rd_readBody_111 rfl (lv_at hl 0 rfl) ?_
  refine gf_2_place C hX fl_Rd_37 d_Rd_readBody_112 ?_
  refine lv_aload_n hx hb d_Rd_readBody_115 rfl (lv_at hl 0 rfl) ?_
  refine gf_2_bound C hX fl_Rd_40 d_Rd_readBody_116 ?_
  refine lv_icmp_eq (tgt := 127) hx hb d_Rd_readBody_119 (by decide) (fun c119 => ?_) (fun c119 => ?_)
  · have h := ite_t c119 h
    exact w_Rd_readBody_127 C hQ x1 x2 x3 s3 H locs ls hX hl h
  · have h := ite_f c119 h
    refine lv_aload_n hx hb d_Rd_readBody_122 rfl (lv_at hl 0 rfl) ?_
    refine lv_iconst (v := 1) hx hb d_Rd_readBody_123 (by decide) ?_
    obtain ⟨s4, hc124, h⟩ := bd1_e h
    refine x_vV (As := [.int 1]) (rest := []) C hX (c_Rd_refuse l g 1 s3 s4 hc124) (cw_Rd_75 C.1.2.2.2.2 C.2.2.2 ⟨by decide, by decide⟩) (x_rc C hX wg_2 rfl) rfl hl.1 rfl (lv_room (Nat.le_of_ble_eq_true rfl)) d_Rd_readBody_124 ⟨Nat.le_refl _, Nat.le_refl _⟩ (fun H locs hX => ?_)
    exact w_Rd_readBody_127 C hQ x1 x2 x3 s4 H locs ls hX hl h
set_option maxHeartbeats 4000000 in
set_option maxRecDepth 100000 in
theorem w_Rd_readBody_56 {z : St} (C : Cx g A p m c b_Rd_readBody 4 ss args R_Rd) (hQ : ∀ (pc : Nat) (H : Heap) (locs : List Loc) (ls : Array Slot), XW g A ss (wX g z) H locs → decode b_Rd_readBody pc = .ok (.return_, 1) → W p l e (rmX 4 89) ss m args below meth c H locs 0 0 Q (F0 m pc ls [])) (n : Nat) : ∀ (x1 : Int32) (x2 : Int32) (x3 : Int32) (s : St) (H : Heap) (locs : List Loc) (ls : Array Slot), XW g A ss (wX g s) H locs → lv_has ls 4 [(0, .ref (g.q 2)), (1, .int x1), (2, .int x2), (3, .int x3)] → f_Rd_readBody_56 n x1 x2 x3 s = some z → W p l e (rmX 4 89) ss m args below meth c H locs 0 0 Q (F0 m 56 ls []) := by
  have ⟨⟨hx, hb, hml, hown, hts⟩, hK, hA, hN⟩ := C
  induction n with
  | zero => intro x1 x2 x3 s H locs ls hX hl h; cases h
  | succ n ih =>
    intro x1 x2 x3 s H locs ls hX hl h
    rw [f_Rd_readBody_56] at h
    refine lv_iload_n hx hb d_Rd_readBody_56 rfl (lv_at hl 3 rfl) ?_
    refine lv_sipush (v := 240) hx hb d_Rd_readBody_57 (by decide) ?_
    refine lv_icmp_ge (tgt := 87) hx hb d_Rd_readBody_60 (by decide) (fun c60 => ?_) (fun c60 => ?_)
    · have h := ite_t c60 h
      exact w_Rd_readBody_87 C hQ x1 x2 x3 s H locs ls hX hl h
    · have h := ite_f c60 h
      refine lv_aload_n hx hb d_Rd_readBody_63 rfl (lv_at hl 0 rfl) ?_
      refine gf_2_fault C hX fl_Rd_46 d_Rd_readBody_64 ?_
      refine lv_if_ne (tgt := 87) hx hb d_Rd_readBody_67 (by decide) (fun c67 => ?_) (fun c67 => ?_)
      · have h := ite_f c67 h
        exact w_Rd_readBody_87 C hQ x1 x2 x3 s H locs ls hX hl h
      · have h := ite_t c67 h
        refine lv_aload_n hx hb d_Rd_readBody_70 rfl (lv_at hl 0 rfl) ?_
        refine gf_2_openCount C hX fl_Rd_164 d_Rd_readBody_71 ?_
        refine lv_if_le (tgt := 87) hx hb d_Rd_readBody_74 (by decide) (fun c74 => ?_) (fun c74 => ?_)
        · have h := ite_t c74 h
          exact w_Rd_readBody_87 C hQ x1 x2 x3 s H locs ls hX hl h
        · have h := ite_f c74 h
          refine lv_aload_n hx hb d_Rd_readBody_77 rfl (lv_at hl 0 rfl) ?_
          obtain ⟨s1, hc78, h⟩ := bd1_e h
          refine x_vV (As := []) (rest := []) C hX (c_Rd_readInstruction l g s s1 hc78) (cw_Rd_167 C.1.2.2.2.2 C.2.2.2 ⟨by decide, by decide⟩) (x_rc C hX wg_2 rfl) rfl hl.1 rfl (lv_room (Nat.le_of_ble_eq_true rfl)) d_Rd_readBody_78 ⟨Nat.le_refl _, Nat.le_refl _⟩ (fun H locs hX => ?_)
          obtain ⟨v2, ev2, h⟩ := lt1_e h
          refine lv_iinc (v := v2) (lv' := [(3, .int v2), (0, .ref (g.q 2)), (1, .int x1), (2, .int x2)]) hx hb d_Rd_readBody_81 hl (k := 3) rfl (by rw [ev2]; rfl) (by decide) rfl (fun ls hl => ?_)
          refine lv_goto (tgt := 56) hx hb d_Rd_readBody_84 (by decide) ?_
          exact ih x1 x2 v2 s1 H locs ls hX (lv_sub hl [1, 2, 3, 0] rfl) h
set_option maxHeartbeats 4000000 in
set_option maxRecDepth 100000 in
theorem w_Rd_readBody {z : St} (C : Cx g A p m c b_Rd_readBody 4 ss args R_Rd) (hQ : ∀ (pc : Nat) (H : Heap) (locs : List Loc) (ls : Array Slot), XW g A ss (wX g z) H locs → decode b_Rd_readBody pc = .ok (.return_, 1) → W p l e (rmX 4 89) ss m args below meth c H locs 0 0 Q (F0 m pc ls [])) : ∀ (x1 : Int32) (s : St) (H : Heap) (locs : List Loc) (ls : Array Slot), XW g A ss (wX g s) H locs → lv_has ls 4 [(0, .ref (g.q 2)), (1, .int x1)] → f_Rd_readBody x1 s = some z → W p l e (rmX 4 89) ss m args below meth c H locs 0 0 Q (F0 m 0 ls []) := by
  have ⟨⟨hx, hb, hml, hown, hts⟩, hK, hA, hN⟩ := C
  intro x1 s H locs ls hX hl h
  rw [f_Rd_readBody] at h
  refine lv_aload_n hx hb d_Rd_readBody_0 rfl (lv_at hl 0 rfl) ?_
  refine gf_2_bound C hX fl_Rd_40 d_Rd_readBody_1 ?_
  refine lv_istore_n (lv' := [(2, .int (s 2 3)), (0, .ref (g.q 2)), (1, .int x1)]) hx hb d_Rd_readBody_4 rfl hl (by decide) rfl (fun ls hl => ?_)
  refine lv_aload_n hx hb d_Rd_readBody_5 rfl (lv_at hl 1 rfl) ?_
  refine lv_aload_n hx hb d_Rd_readBody_6 rfl (lv_at hl 1 rfl) ?_
  obtain ⟨r2, s1, hc7, h⟩ := bd_e h
  refine x_vI (As := []) (rest := [.ref (g.q 2)]) C hX (c_Rd_nextEnd l g s (r2, s1) hc7) (cw_Rd_82 C.1.2.2.2.2 C.2.2.2 ⟨by decide, by decide⟩) (x_rc C hX wg_2 rfl) rfl hl.1 rfl (lv_room (Nat.le_of_ble_eq_true rfl)) d_Rd_readBody_7 ⟨Nat.le_refl _, Nat.le_refl _⟩ (fun H locs hX => ?_)
  obtain ⟨s3, es3, h⟩ := lt1_e h
  refine pf_2_bound C hX fl_Rd_40 d_Rd_readBody_10 (fun H locs hX => ?_)
  rw [← es3] at hX
  refine lv_aload_n hx hb d_Rd_readBody_13 rfl (lv_at hl 1 rfl) ?_
  refine lv_iload_n hx hb d_Rd_readBody_14 rfl (lv_at hl 2 rfl) ?_
  obtain ⟨s4, hc15, h⟩ := bd1_e h
  refine x_vV (As := [.int x1]) (rest := []) C hX (c_Rd_readLocals l g x1 s3 s4 hc15) (cw_Rd_156 C.1.2.2.2.2 C.2.2.2 ⟨by decide, by decide⟩) (x_rc C hX wg_2 rfl) rfl hl.1 rfl (lv_room (Nat.le_of_ble_eq_true rfl)) d_Rd_readBody_15 ⟨Nat.le_refl _, Nat.le_refl _⟩ (fun H locs hX => ?_)
  refine lv_aload_n hx hb d_Rd_readBody_18 rfl (lv_at hl 1 rfl) ?_
  refine gf_2_contents C hX fl_Rd_24 d_Rd_readBody_19 ?_
  refine gf_1_functions C hX fl_Rd_66 d_Rd_readBody_22 ?_
  refine lv_iload_n hx hb d_Rd_readBody_25 rfl (lv_at hl 2 rfl) ?_
  refine lv_iconst (v := 2) hx hb d_Rd_readBody_26 (by decide) ?_
  refine lv_aload_n hx hb d_Rd_readBody_27 rfl (lv_at hl 1 rfl) ?_
  refine gf_2_contents C hX fl_Rd_24 d_Rd_readBody_28 ?_
  refine gf_1_code C hX fl_Rd_159 d_Rd_readBody_31 ?_
  obtain ⟨r5, er5, h⟩ := lt1_e h
  refine x_vI (r := r5) (ws' := wX g s4) (As := []) (rest := [.int 2, .int x1, .ref (g.q 12)]) C hX (by rw [er5]; exact cTabCount_20 l g s4) (cw_Rd_70 C.1.2.2.2.2 C.2.2.2 ⟨by decide, by decide⟩) (x_rc C hX wg_20 rfl) rfl hl.1 rfl (lv_room (Nat.le_of_ble_eq_true rfl)) d_Rd_readBody_34 ⟨Nat.le_refl _, Nat.le_refl _⟩ (fun H locs hX => ?_)
  obtain ⟨s6, es6, h⟩ := lt1_e h
  refine x_vV (ws' := wX g s6) (As := [.int x1, .int 2, .int r5]) (rest := []) C hX (by rw [es6]; exact cTabSet_12 l g s4 x1 2 r5) (cw_Rd_98 C.1.2.2.2.2 C.2.2.2 ⟨by decide, by decide⟩) (x_rc C hX wg_12 rfl) rfl hl.1 rfl (lv_room (Nat.le_of_ble_eq_true rfl)) d_Rd_readBody_37 ⟨Nat.le_refl _, Nat.le_refl _⟩ (fun H locs hX => ?_)
  refine lv_aload_n hx hb d_Rd_readBody_40 rfl (lv_at hl 1 rfl) ?_
  refine gf_2_open C hX fl_Rd_20 d_Rd_readBody_41 ?_
  refine lv_iconst (v := 0) hx hb d_Rd_readBody_44 (by decide) ?_
  refine lv_iconst (v := (-1)) hx hb d_Rd_readBody_45 (by decide) ?_
  obtain ⟨s7, es7, h⟩ := lt1_e h
  refine x_vV (ws' := wX g s7) (As := [.int 0, .int ((-1))]) (rest := []) C hX (by rw [es7]; exact cRowSet_24 l g s6 0 ((-1))) (cw_Rd_162 C.1.2.2.2.2 C.2.2.2 ⟨by decide, by decide⟩) (x_rc C hX wg_24 rfl) rfl hl.1 rfl (lv_room (Nat.le_of_ble_eq_true rfl)) d_Rd_readBody_46 ⟨Nat.le_refl _, Nat.le_refl _⟩ (fun H locs hX => ?_)
  refine lv_aload_n hx hb d_Rd_readBody_49 rfl (lv_at hl 1 rfl) ?_
  refine lv_iconst (v := 1) hx hb d_Rd_readBody_50 (by decide) ?_
  obtain ⟨s8, es8, h⟩ := lt1_e h
  refine pf_2_openCount C hX fl_Rd_164 d_Rd_readBody_51 (fun H locs hX => ?_)
  rw [← es8] at hX
  refine lv_iconst (v := 0) hx hb d_Rd_readBody_54 (by decide) ?_
  refine lv_istore_n (lv' := [(3, .int 0), (2, .int (s 2 3)), (0, .ref (g.q 2)), (1, .int x1)]) hx hb d_Rd_readBody_55 rfl hl (by decide) rfl (fun ls hl => ?_)
  exact w_Rd_readBody_56 C hQ FU x1 (s 2 3) 0 s8 H locs ls hX (lv_sub hl [2, 3, 1, 0] rfl) h
end WALK
theorem c_Rd_readBody (l : Launch) (g : GX) (x1 : Int32) (s : St) (z : St) (h : f_Rd_readBody x1 s = some z) : MV l g y_Rd_readBody b_Rd_readBody 4 none 4 89 [.ref (g.q 2), .int x1] (wX g s) (wX g z) :=
  MV.mk (own := R_Rd) (by decide) rfl (Nat.le_of_ble_eq_true rfl) fun p e ss m below meth c A Q C hQ ls hX hl => w_Rd_readBody C hQ x1 s _ _ ls hX hl h
-- Rd_nextUpTo
def f_Rd_nextUpTo_15 (x1 : Int32) (x2 : Int32) (s : St) : Option (Int32 × St) :=
    some (x2, s)
def f_Rd_nextUpTo (x1 : Int32) (s : St) : Option (Int32 × St) :=
    bd (f_Rd_nextByte s) fun r2 s1 =>
    if r2 ≤ x1 then
      f_Rd_nextUpTo_15 x1 r2 s1
    else
      bd1 (f_Rd_refuse 1 s1) fun s3 =>
      f_Rd_nextUpTo_15 x1 r2 s3
section WALK
variable {p : Program} {l : Launch} {e : Env} {ss : State} {m : MethodId} {args : Array Value} {below : List Frame} {meth : Method} {c : Code} {Q : State → Prop} {g : GX} {A : Nat → Prop}
set_option maxHeartbeats 4000000 in
set_option maxRecDepth 100000 in
theorem w_Rd_nextUpTo_15 {z : Int32 × St} (C : Cx g A p m c b_Rd_nextUpTo 3 ss args R_Rd) (hQ : ∀ (pc : Nat) (H : Heap) (locs : List Loc) (ls : Array Slot), XW g A ss (wX g z.2) H locs → decode b_Rd_nextUpTo pc = .ok (.ireturn, 1) → W p l e (rmX 1 21) ss m args below meth c H locs 0 0 Q (F0 m pc ls [.int z.1])) : ∀ (x1 : Int32) (x2 : Int32) (s : St) (H : Heap) (locs : List Loc) (ls : Array Slot), XW g A ss (wX g s) H locs → lv_has ls 3 [(0, .ref (g.q 2)), (1, .int x1), (2, .int x2)] → f_Rd_nextUpTo_15 x1 x2 s = some z → W p l e (rmX 1 21) ss m args below meth c H locs 0 0 Q (F0 m 15 ls []) := by
  have ⟨⟨hx, hb, hml, hown, hts⟩, hK, hA, hN⟩ := C
  intro x1 x2 s H locs ls hX hl h
  rw [f_Rd_nextUpTo_15] at h
  refine lv_iload_n hx hb d_Rd_nextUpTo_15 rfl (lv_at hl 2 rfl) ?_
  obtain rfl := so1 h
  exact hQ _ H locs ls hX d_Rd_nextUpTo_16
set_option maxHeartbeats 4000000 in
set_option maxRecDepth 100000 in
theorem w_Rd_nextUpTo {z : Int32 × St} (C : Cx g A p m c b_Rd_nextUpTo 3 ss args R_Rd) (hQ : ∀ (pc : Nat) (H : Heap) (locs : List Loc) (ls : Array Slot), XW g A ss (wX g z.2) H locs → decode b_Rd_nextUpTo pc = .ok (.ireturn, 1) → W p l e (rmX 1 21) ss m args below meth c H locs 0 0 Q (F0 m pc ls [.int z.1])) : ∀ (x1 : Int32) (s : St) (H : Heap) (locs : List Loc) (ls : Array Slot), XW g A ss (wX g s) H locs → lv_has ls 3 [(0, .ref (g.q 2)), (1, .int x1)] → f_Rd_nextUpTo x1 s = some z → W p l e (rmX 1 21) ss m args below meth c H locs 0 0 Q (F0 m 0 ls []) := by
  have ⟨⟨hx, hb, hml, hown, hts⟩, hK, hA, hN⟩ := C
  intro x1 s H locs ls hX hl h
  rw [f_Rd_nextUpTo] at h
  refine lv_aload_n hx hb d_Rd_nextUpTo_0 rfl (lv_at hl 0 rfl) ?_
  obtain ⟨r2, s1, hc1, h⟩ := bd_e h
  refine x_vI (As := []) (rest := []) C hX (c_Rd_nextByte l g s (r2, s1) hc1) (cw_Rd_55 C.1.2.2.2.2 C.2.2.2 ⟨by decide, by decide⟩) (x_rc C hX wg_2 rfl) rfl hl.1 rfl (lv_room (Nat.le_of_ble_eq_true rfl)) d_Rd_nextUpTo_1 ⟨Nat.le_refl _, Nat.le_refl _⟩ (fun H locs hX => ?_)
  refine lv_istore_n (lv' := [(2, .int r2), (0, .ref (g.q 2)), (1, .int x1)]) hx hb d_Rd_nextUpTo_4 rfl hl (by decide) rfl (fun ls hl => ?_)
  refine lv_iload_n hx hb d_Rd_nextUpTo_5 rfl (lv_at hl 0 rfl) ?_
  refine lv_iload_n hx hb d_Rd_nextUpTo_6 rfl (lv_at hl 2 rfl) ?_
  refine lv_icmp_le (tgt := 15) hx hb d_Rd_nextUpTo_7 (by decide) (fun c7 => ?_) (fun c7 => ?_)
  · have h := ite_t c7 h
    exact w_Rd_nextUpTo_15 C hQ x1 r2 s1 H locs ls hX (lv_sub hl [1, 2, 0] rfl) h
  · have h := ite_f c7 h
    refine lv_aload_n hx hb d_Rd_nextUpTo_10 rfl (lv_at hl 1 rfl) ?_
    refine lv_iconst (v := 1) hx hb d_Rd_nextUpTo_11 (by decide) ?_
    obtain ⟨s3, hc12, h⟩ := bd1_e h
    refine x_vV (As := [.int 1]) (rest := []) C hX (c_Rd_refuse l g 1 s1 s3 hc12) (cw_Rd_75 C.1.2.2.2.2 C.2.2.2 ⟨by decide, by decide⟩) (x_rc C hX wg_2 rfl) rfl hl.1 rfl (lv_room (Nat.le_of_ble_eq_true rfl)) d_Rd_nextUpTo_12 ⟨Nat.le_refl _, Nat.le_refl _⟩ (fun H locs hX => ?_)
    exact w_Rd_nextUpTo_15 C hQ x1 r2 s3 H locs ls hX (lv_sub hl [1, 2, 0] rfl) h
end WALK
theorem c_Rd_nextUpTo (l : Launch) (g : GX) (x1 : Int32) (s : St) (z : Int32 × St) (h : f_Rd_nextUpTo x1 s = some z) : MI l g y_Rd_nextUpTo b_Rd_nextUpTo 3 (some .int) 1 21 [.ref (g.q 2), .int x1] (wX g s) z.1 (wX g z.2) :=
  MI.mk (own := R_Rd) (by decide) rfl (Nat.le_of_ble_eq_true rfl) fun p e ss m below meth c A Q C hQ ls hX hl => w_Rd_nextUpTo C hQ x1 s _ _ ls hX hl h
-- Rd_readExport
def f_Rd_readExport_103 (x1 : Int32) (x2 : Int32) (x3 : Int32) (s : St) : Option St :=
    bd (f_Rd_nextUpTo 3 s) fun r2 s1 =>
    lt1 (tSet s1 17 8 11 x1 0 r2) fun s3 =>
    bd (f_Rd_nextUnsigned s3) fun r5 s4 =>
    lt1 (tSet s4 17 8 11 x1 1 r5) fun s6 =>
    some s6
def f_Rd_readExport_81 (k45 : Int32 → Int32 → Int32 → St → Option St) (x1 : Int32) (x2 : Int32) (x3 : Int32) (x4 : Int32) (s : St) : Option St :=
    lt1 (3 + x3) fun v1 =>
    lt1 (tSet s 17 8 11 x1 v1 x4) fun s2 =>
    lt1 (x3 + (1)) fun v3 =>
    k45 x1 x2 v3 s2
def f_Rd_readExport_45 : Nat → Int32 → Int32 → Int32 → St → Option St
  | 0, _, _, _, _ => none
  | n + 1, x1, x2, x3, s =>
    if 8 ≤ x3 then
      f_Rd_readExport_103 x1 x2 x3 s
    else
      if x2 ≤ x3 then
        f_Rd_readExport_103 x1 x2 x3 s
      else
        if s 2 5 = 0 then
          bd (f_Rd_nextByte s) fun r2 s1 =>
          if r2 ≤ 127 then
            f_Rd_readExport_81 (f_Rd_readExport_45 n) x1 x2 x3 r2 s1
          else
            bd1 (f_Rd_refuse 2 s1) fun s3 =>
            f_Rd_readExport_81 (f_Rd_readExport_45 n) x1 x2 x3 r2 s3
        else
          f_Rd_readExport_103 x1 x2 x3 s
def f_Rd_readExport_30 (x1 : Int32) (x2 : Int32) (s : St) : Option St :=
    lt1 (tSet s 17 8 11 x1 2 x2) fun s1 =>
    f_Rd_readExport_45 FU x1 x2 0 s1
def f_Rd_readExport (s : St) : Option St :=
    lt1 (s 16 0 + 1 - 1) fun r1 =>
    lt1 (stp s 16 0 (s 16 0 + 1)) fun s2 =>
    bd (f_Rd_nextUnsigned s2) fun r4 s3 =>
    bd1 (f_X_isAbove r4 8) fun r5 =>
    if r5 = 0 then
      f_Rd_readExport_30 r1 r4 s3
    else
      bd1 (f_Rd_refuse 2 s3) fun s6 =>
      f_Rd_readExport_30 r1 r4 s6
section WALK
variable {p : Program} {l : Launch} {e : Env} {ss : State} {m : MethodId} {args : Array Value} {below : List Frame} {meth : Method} {c : Code} {Q : State → Prop} {g : GX} {A : Nat → Prop}
set_option maxHeartbeats 4000000 in
set_option maxRecDepth 100000 in
theorem w_Rd_readExport_103 {z : St} (C : Cx g A p m c b_Rd_readExport 5 ss args R_Rd) (hQ : ∀ (pc : Nat) (H : Heap) (locs : List Loc) (ls : Array Slot), XW g A ss (wX g z) H locs → decode b_Rd_readExport pc = .ok (.return_, 1) → W p l e (rmX 2 44) ss m args below meth c H locs 0 0 Q (F0 m pc ls [])) : ∀ (x1 : Int32) (x2 : Int32) (x3 : Int32) (s : St) (H : Heap) (locs : List Loc) (ls : Array Slot), XW g A ss (wX g s) H locs → lv_has ls 5 [(0, .ref (g.q 2)), (1, .int x1), (2, .int x2), (3, .int x3)] → f_Rd_readExport_103 x1 x2 x3 s = some z → W p l e (rmX 2 44) ss m args below meth c H locs 0 0 Q (F0 m 103 ls []) := by
  have ⟨⟨hx, hb, hml, hown, hts⟩, hK, hA, hN⟩ := C
  intro x1 x2 x3 s H locs ls hX hl h
  rw [f_Rd_readExport_103] at h
  refine lv_aload_n hx hb d_Rd_readExport_103 rfl (lv_at hl 0 rfl) ?_
  refine gf_2_contents C hX fl_Rd_24 d_Rd_readExport_104 ?_
  refine gf_1_exports C hX fl_Rd_150 d_Rd_readExport_107 ?_
  refine lv_iload_n hx hb d_Rd_readExport_110 rfl (lv_at hl 1 rfl) ?_
  refine lv_iconst (v := 0) hx hb d_Rd_readExport_111 (by decide) ?_
  refine lv_aload_n hx hb d_Rd_readExport_112 rfl (lv_at hl 0 rfl) ?_
  refine lv_iconst (v := 3) hx hb d_Rd_readExport_113 (by decide) ?_
  obtain ⟨r2, s1, hc114, h⟩ := bd_e h
  refine x_vI (As := [.int 3]) (rest := [.int 0, .int x1, .ref (g.q 16)]) C hX (c_Rd_nextUpTo l g 3 s (r2, s1) hc114) (cw_Rd_126 C.1.2.2.2.2 C.2.2.2 ⟨by decide, by decide⟩) (x_rc C hX wg_2 rfl) rfl hl.1 rfl (lv_room (Nat.le_of_ble_eq_true rfl)) d_Rd_readExport_114 ⟨Nat.le_refl _, Nat.le_refl _⟩ (fun H locs hX => ?_)
  obtain ⟨s3, es3, h⟩ := lt1_e h
  refine x_vV (ws' := wX g s3) (As := [.int x1, .int 0, .int r2]) (rest := []) C hX (by rw [es3]; exact cTabSet_16 l g s1 x1 0 r2) (cw_Rd_98 C.1.2.2.2.2 C.2.2.2 ⟨by decide, by decide⟩) (x_rc C hX wg_16 rfl) rfl hl.1 rfl (lv_room (Nat.le_of_ble_eq_true rfl)) d_Rd_readExport_117 ⟨Nat.le_refl _, Nat.le_refl _⟩ (fun H locs hX => ?_)
  refine lv_aload_n hx hb d_Rd_readExport_120 rfl (lv_at hl 0 rfl) ?_
  refine gf_2_contents C hX fl_Rd_24 d_Rd_readExport_121 ?_
  refine gf_1_exports C hX fl_Rd_150 d_Rd_readExport_124 ?_
  refine lv_iload_n hx hb d_Rd_readExport_127 rfl (lv_at hl 1 rfl) ?_
  refine lv_iconst (v := 1) hx hb d_Rd_readExport_128 (by decide) ?_
  refine lv_aload_n hx hb d_Rd_readExport_129 rfl (lv_at hl 0 rfl) ?_
  obtain ⟨r5, s4, hc130, h⟩ := bd_e h
  refine x_vI (As := []) (rest := [.int 1, .int x1, .ref (g.q 16)]) C hX (c_Rd_nextUnsigned l g s3 (r5, s4) hc130) (cw_Rd_85 C.1.2.2.2.2 C.2.2.2 ⟨by decide, by decide⟩) (x_rc C hX wg_2 rfl) rfl hl.1 rfl (lv_room (Nat.le_of_ble_eq_true rfl)) d_Rd_readExport_130 ⟨Nat.le_refl _, Nat.le_refl _⟩ (fun H locs hX => ?_)
  obtain ⟨s6, es6, h⟩ := lt1_e h
  refine x_vV (ws' := wX g s6) (As := [.int x1, .int 1, .int r5]) (rest := []) C hX (by rw [es6]; exact cTabSet_16 l g s4 x1 1 r5) (cw_Rd_98 C.1.2.2.2.2 C.2.2.2 ⟨by decide, by decide⟩) (x_rc C hX wg_16 rfl) rfl hl.1 rfl (lv_room (Nat.le_of_ble_eq_true rfl)) d_Rd_readExport_133 ⟨Nat.le_refl _, Nat.le_refl _⟩ (fun H locs hX => ?_)
  obtain rfl := so1 h
  exact hQ _ H locs ls hX d_Rd_readExport_136
set_option maxHeartbeats 4000000 in
set_option maxRecDepth 100000 in
theorem w_Rd_readExport_81 {z : St} (C : Cx g A p m c b_Rd_readExport 5 ss args R_Rd) (hQ : ∀ (pc : Nat) (H : Heap) (locs : List Loc) (ls : Array Slot), XW g A ss (wX g z) H locs → decode b_Rd_readExport pc = .ok (.return_, 1) → W p l e (rmX 2 44) ss m args below meth c H locs 0 0 Q (F0 m pc ls [])) (k45 : Int32 → Int32 → Int32 → St → Option St) (hk45 : ∀ (x1 : Int32) (x2 : Int32) (x3 : Int32) (s : St) (H : Heap) (locs : List Loc) (ls : Array Slot), XW g A ss (wX g s) H locs → lv_has ls 5 [(0, .ref (g.q 2)), (1, .int x1), (2, .int x2), (3, .int x3)] → k45 x1 x2 x3 s = some z → W p l e (rmX 2 44) ss m args below meth c H locs 0 0 Q (F0 m 45 ls [])) : ∀ (x1 : Int32) (x2 : Int32) (x3 : Int32) (x4 : Int32) (s : St) (H : Heap) (locs : List Loc) (ls : Array Slot), XW g A ss (wX g s) H locs → lv_has ls 5 [(0, .ref (g.q 2)), (1, .int x1), (2, .int x2), (3, .int x3), (4, .int x4)] → f_Rd_readExport_81 k45 x1 x2 x3 x4 s = some z → W p l e (rmX 2 44) ss m args below meth c H locs 0 0 Q (F0 m 81 ls []) := by
  have ⟨⟨hx, hb, hml, hown, hts⟩, hK, hA, hN⟩ := C
  intro x1 x2 x3 x4 s H locs ls hX hl h
  rw [f_Rd_readExport_81] at h
  refine lv_aload_n hx hb d_Rd_readExport_81 rfl (lv_at hl 0 rfl) ?_
  refine gf_2_contents C hX fl_Rd_24 d_Rd_readExport_82 ?_
  refine gf_1_exports C hX fl_Rd_150 d_Rd_readExport_85 ?_
  refine lv_iload_n hx hb d_Rd_readExport_88 rfl (lv_at hl 1 rfl) ?_
  refine lv_iconst (v := 3) hx hb d_Rd_readExport_89 (by decide) ?_
  refine lv_iload_n hx hb d_Rd_readExport_90 rfl (lv_at hl 3 rfl) ?_
  obtain ⟨v1, ev1, h⟩ := lt1_e h
  refine x_iadd hx hb d_Rd_readExport_91 ev1 ?_
  refine lv_iload hx hb d_Rd_readExport_92 (lv_at hl 4 rfl) ?_
  obtain ⟨s2, es2, h⟩ := lt1_e h
  refine x_vV (ws' := wX g s2) (As := [.int x1, .int v1, .int x4]) (rest := []) C hX (by rw [es2]; exact cTabSet_16 l g s x1 v1 x4) (cw_Rd_98 C.1.2.2.2.2 C.2.2.2 ⟨by decide, by decide⟩) (x_rc C hX wg_16 rfl) rfl hl.1 rfl (lv_room (Nat.le_of_ble_eq_true rfl)) d_Rd_readExport_94 ⟨Nat.le_refl _, Nat.le_refl _⟩ (fun H locs hX => ?_)
  obtain ⟨v3, ev3, h⟩ := lt1_e h
  refine lv_iinc (v := v3) (lv' := [(3, .int v3), (0, .ref (g.q 2)), (1, .int x1), (2, .int x2), (4, .int x4)]) hx hb d_Rd_readExport_97 hl (k := 3) rfl (by rw [ev3]; rfl) (by decide) rfl (fun ls hl => ?_)
  refine lv_goto (tgt := 45) hx hb d_Rd_readExport_100 (by decide) ?_
  exact hk45 x1 x2 v3 s2 H locs ls hX (lv_sub hl [1, 2, 3, 0] rfl) h
set_option maxHeartbeats 4000000 in
set_option maxRecDepth 100000 in
theorem w_Rd_readExport_45 {z : St} (C : Cx g A p m c b_Rd_readExport 5 ss args R_Rd) (hQ : ∀ (pc : Nat) (H : Heap) (locs : List Loc) (ls : Array Slot), XW g A ss (wX g z) H locs → decode b_Rd_readExport pc = .ok (.return_, 1) → W p l e (rmX 2 44) ss m args below meth c H locs 0 0 Q (F0 m pc ls [])) (n : Nat) : ∀ (x1 : Int32) (x2 : Int32) (x3 : Int32) (s : St) (H : Heap) (locs : List Loc) (ls : Array Slot), XW g A ss (wX g s) H locs → lv_has ls 5 [(0, .ref (g.q 2)), (1, .int x1), (2, .int x2), (3, .int x3)] → f_Rd_readExport_45 n x1 x2 x3 s = some z → W p l e (rmX 2 44) ss m args below meth c H locs 0 0 Q (F0 m 45 ls []) := by
  have ⟨⟨hx, hb, hml, hown, hts⟩, hK, hA, hN⟩ := C
  induction n with
  | zero => intro x1 x2 x3 s H locs ls hX hl h; cases h
  | succ n ih =>
    intro x1 x2 x3 s H locs ls hX hl h
    rw [f_Rd_readExport_45] at h
    refine lv_iload_n hx hb d_Rd_readExport_45 rfl (lv_at hl 3 rfl) ?_
    refine lv_bipush (v := 8) hx hb d_Rd_readExport_46 (by decide) ?_
    refine lv_icmp_ge (tgt := 103) hx hb d_Rd_readExport_48 (by decide) (fun c48 => ?_) (fun c48 => ?_)
    · have h := ite_t c48 h
      exact w_Rd_readExport_103 C hQ x1 x2 x3 s H locs ls hX hl h
    · have h := ite_f c48 h
      refine lv_iload_n hx hb d_Rd_readExport_51 rfl (lv_at hl 3 rfl) ?_
      refine lv_iload_n hx hb d_Rd_readExport_52 rfl (lv_at hl 2 rfl) ?_
      refine lv_icmp_ge (tgt := 103) hx hb d_Rd_readExport_53 (by decide) (fun c53 => ?_) (fun c53 => ?_)
      · have h := ite_t c53 h
        exact w_Rd_readExport_103 C hQ x1 x2 x3 s H locs ls hX hl h
      · have h := ite_f c53 h
        refine lv_aload_n hx hb d_Rd_readExport_56 rfl (lv_at hl 0 rfl) ?_
        refine gf_2_fault C hX fl_Rd_46 d_Rd_readExport_57 ?_
        refine lv_if_ne (tgt := 103) hx hb d_Rd_readExport_60 (by decide) (fun c60 => ?_) (fun c60 => ?_)
        · have h := ite_f c60 h
          exact w_Rd_readExport_103 C hQ x1 x2 x3 s H locs ls hX hl h
        · have h := ite_t c60 h
          refine lv_aload_n hx hb d_Rd_readExport_63 rfl (lv_at hl 0 rfl) ?_
          obtain ⟨r2, s1, hc64, h⟩ := bd_e h
          refine x_vI (As := []) (rest := []) C hX (c_Rd_nextByte l g s (r2, s1) hc64) (cw_Rd_55 C.1.2.2.2.2 C.2.2.2 ⟨by decide, by decide⟩) (x_rc C hX wg_2 rfl) rfl hl.1 rfl (lv_room (Nat.le_of_ble_eq_true rfl)) d_Rd_readExport_64 ⟨Nat.le_refl _, Nat.le_refl _⟩ (fun H locs hX => ?_)
          refine lv_istore (lv' := [(4, .int r2), (0, .ref (g.q 2)), (1, .int x1), (2, .int x2), (3, .int x3)]) hx hb d_Rd_readExport_67 hl (by decide) rfl (fun ls hl => ?_)
          refine lv_iload hx hb d_Rd_readExport_69 (lv_at hl 0 rfl) ?_
          refine lv_bipush (v := 127) hx hb d_Rd_readExport_71 (by decide) ?_
          refine lv_icmp_le (tgt := 81) hx hb d_Rd_readExport_73 (by decide) (fun c73 => ?_) (fun c73 => ?_)
          · have h := ite_t c73 h
            exact w_Rd_readExport_81 C hQ (f_Rd_readExport_45 n) ih x1 x2 x3 r2 s1 H locs ls hX (lv_sub hl [1, 2, 3, 4, 0] rfl) h
          · have h := ite_f c73 h
            refine lv_aload_n hx hb d_Rd_readExport_76 rfl (lv_at hl 1 rfl) ?_
            refine lv_iconst (v := 2) hx hb d_Rd_readExport_77 (by decide) ?_
            obtain ⟨s3, hc78, h⟩ := bd1_e h
            refine x_vV (As := [.int 2]) (rest := []) C hX (c_Rd_refuse l g 2 s1 s3 hc78) (cw_Rd_75 C.1.2.2.2.2 C.2.2.2 ⟨by decide, by decide⟩) (x_rc C hX wg_2 rfl) rfl hl.1 rfl (lv_room (Nat.le_of_ble_eq_true rfl)) d_Rd_readExport_78 ⟨Nat.le_refl _, Nat.le_refl _⟩ (fun H locs hX => ?_)
            exact w_Rd_readExport_81 C hQ (f_Rd_readExport_45 n) ih x1 x2 x3 r2 s3 H locs ls hX (lv_sub hl [1, 2, 3, 4, 0] rfl) h
set_option maxHeartbeats 4000000 in
set_option maxRecDepth 100000 in
theorem w_Rd_readExport_30 {z : St} (C : Cx g A p m c b_Rd_readExport 5 ss args R_Rd) (hQ : ∀ (pc : Nat) (H : Heap) (locs : List Loc) (ls : Array Slot), XW g A ss (wX g z) H locs → decode b_Rd_readExport pc = .ok (.return_, 1) → W p l e (rmX 2 44) ss m args below meth c H locs 0 0 Q (F0 m pc ls [])) : ∀ (x1 : Int32) (x2 : Int32) (s : St) (H : Heap) (locs : List Loc) (ls : Array Slot), XW g A ss (wX g s) H locs → lv_has ls 5 [(0, .ref (g.q 2)), (1, .int x1), (2, .int x2)] → f_Rd_readExport_30 x1 x2 s = some z → W p l e (rmX 2 44) ss m args below meth c H locs 0 0 Q (F0 m 30 ls []) := by
  have ⟨⟨hx, hb, hml, hown, hts⟩, hK, hA, hN⟩ := C
  intro x1 x2 s H locs ls hX hl h
  rw [f_Rd_readExport_30] at h
  refine lv_aload_n hx hb d_Rd_readExport_30 rfl (lv_at hl 0 rfl) ?_
  refine gf_2_contents C hX fl_Rd_24 d_Rd_readExport_31 ?_
  refine gf_1_exports C hX fl_Rd_150 d_Rd_readExport_34 ?_
  refine lv_iload_n hx hb d_Rd_readExport_37 rfl (lv_at hl 1 rfl) ?_
  refine lv_iconst (v := 2) hx hb d_Rd_readExport_38 (by decide) ?_
  refine lv_iload_n hx hb d_Rd_readExport_39 rfl (lv_at hl 2 rfl) ?_
  obtain ⟨s1, es1, h⟩ := lt1_e h
  refine x_vV (ws' := wX g s1) (As := [.int x1, .int 2, .int x2]) (rest := []) C hX (by rw [es1]; exact cTabSet_16 l g s x1 2 x2) (cw_Rd_98 C.1.2.2.2.2 C.2.2.2 ⟨by decide, by decide⟩) (x_rc C hX wg_16 rfl) rfl hl.1 rfl (lv_room (Nat.le_of_ble_eq_true rfl)) d_Rd_readExport_40 ⟨Nat.le_refl _, Nat.le_refl _⟩ (fun H locs hX => ?_)
  refine lv_iconst (v := 0) hx hb d_Rd_readExport_43 (by decide) ?_
  refine lv_istore_n (lv' := [(3, .int 0), (0, .ref (g.q 2)), (1, .int x1), (2, .int x2)]) hx hb d_Rd_readExport_44 rfl hl (by decide) rfl (fun ls hl => ?_)
  exact w_Rd_readExport_45 C hQ FU x1 x2 0 s1 H locs ls hX (lv_sub hl [1, 2, 3, 0] rfl) h
set_option maxHeartbeats 4000000 in
set_option maxRecDepth 100000 in
theorem w_Rd_readExport {z : St} (C : Cx g A p m c b_Rd_readExport 5 ss args R_Rd) (hQ : ∀ (pc : Nat) (H : Heap) (locs : List Loc) (ls : Array Slot), XW g A ss (wX g z) H locs → decode b_Rd_readExport pc = .ok (.return_, 1) → W p l e (rmX 2 44) ss m args below meth c H locs 0 0 Q (F0 m pc ls [])) : ∀ (s : St) (H : Heap) (locs : List Loc) (ls : Array Slot), XW g A ss (wX g s) H locs → lv_has ls 5 [(0, .ref (g.q 2))] → f_Rd_readExport s = some z → W p l e (rmX 2 44) ss m args below meth c H locs 0 0 Q (F0 m 0 ls []) := by
  have ⟨⟨hx, hb, hml, hown, hts⟩, hK, hA, hN⟩ := C
  intro s H locs ls hX hl h
  rw [f_Rd_readExport] at h
  refine lv_aload_n hx hb d_Rd_readExport_0 rfl (lv_at hl 0 rfl) ?_
  refine gf_2_contents C hX fl_Rd_24 d_Rd_readExport_1 ?_
  refine gf_1_exports C hX fl_Rd_150 d_Rd_readExport_4 ?_
  obtain ⟨r1, er1, h⟩ := lt1_e h
  obtain ⟨s2, es2, h⟩ := lt1_e h
  refine x_vI (r := r1) (ws' := wX g s2) (As := []) (rest := []) C hX (by rw [er1, es2]; exact cTabAdd_16 l g s) (cw_Rd_95 C.1.2.2.2.2 C.2.2.2 ⟨by decide, by decide⟩) (x_rc C hX wg_16 rfl) rfl hl.1 rfl (lv_room (Nat.le_of_ble_eq_true rfl)) d_Rd_readExport_7 ⟨Nat.le_refl _, Nat.le_refl _⟩ (fun H locs hX => ?_)
  refine lv_istore_n (lv' := [(1, .int r1), (0, .ref (g.q 2))]) hx hb d_Rd_readExport_10 rfl hl (by decide) rfl (fun ls hl => ?_)
  refine lv_aload_n hx hb d_Rd_readExport_11 rfl (lv_at hl 1 rfl) ?_
  obtain ⟨r4, s3, hc12, h⟩ := bd_e h
  refine x_vI (As := []) (rest := []) C hX (c_Rd_nextUnsigned l g s2 (r4, s3) hc12) (cw_Rd_85 C.1.2.2.2.2 C.2.2.2 ⟨by decide, by decide⟩) (x_rc C hX wg_2 rfl) rfl hl.1 rfl (lv_room (Nat.le_of_ble_eq_true rfl)) d_Rd_readExport_12 ⟨Nat.le_refl _, Nat.le_refl _⟩ (fun H locs hX => ?_)
  refine lv_istore_n (lv' := [(2, .int r4), (1, .int r1), (0, .ref (g.q 2))]) hx hb d_Rd_readExport_15 rfl hl (by decide) rfl (fun ls hl => ?_)
  refine lv_iload_n hx hb d_Rd_readExport_16 rfl (lv_at hl 0 rfl) ?_
  refine lv_bipush (v := 8) hx hb d_Rd_readExport_17 (by decide) ?_
  obtain ⟨r5, hc19, h⟩ := bd1_e h
  refine x_sNI (As := [.int r4, .int 8]) (rest := []) C hX (c_X_isAbove l g r4 8 r5 hc19 _) (cw_Rd_88 C.1.2.2.2.2 C.2.2.2 ⟨by decide, by decide⟩) rfl hl.1 rfl (lv_room (Nat.le_of_ble_eq_true rfl)) d_Rd_readExport_19 ⟨Nat.le_refl _, Nat.le_refl _⟩ (fun H locs hX => ?_)
  refine lv_if_eq (tgt := 30) hx hb d_Rd_readExport_22 (by decide) (fun c22 => ?_) (fun c22 => ?_)
  · have h := ite_t c22 h
    exact w_Rd_readExport_30 C hQ r1 r4 s3 H locs ls hX (lv_sub hl [2, 1, 0] rfl) h
  · have h := ite_f c22 h
    refine lv_aload_n hx hb d_Rd_readExport_25 rfl (lv_at hl 2 rfl) ?_
    refine lv_iconst (v := 2) hx hb d_Rd_readExport_26 (by decide) ?_
    obtain ⟨s6, hc27, h⟩ := bd1_e h
    refine x_vV (As := [.int 2]) (rest := []) C hX (c_Rd_refuse l g 2 s3 s6 hc27) (cw_Rd_75 C.1.2.2.2.2 C.2.2.2 ⟨by decide, by decide⟩) (x_rc C hX wg_2 rfl) rfl hl.1 rfl (lv_room (Nat.le_of_ble_eq_true rfl)) d_Rd_readExport_27 ⟨Nat.le_refl _, Nat.le_refl _⟩ (fun H locs hX => ?_)
    exact w_Rd_readExport_30 C hQ r1 r4 s6 H locs ls hX (lv_sub hl [2, 1, 0] rfl) h
end WALK
theorem c_Rd_readExport (l : Launch) (g : GX) (s : St) (z : St) (h : f_Rd_readExport s = some z) : MV l g y_Rd_readExport b_Rd_readExport 5 none 2 44 [.ref (g.q 2)] (wX g s) (wX g z) :=
  MV.mk (own := R_Rd) (by decide) rfl (Nat.le_of_ble_eq_true rfl) fun p e ss m below meth c A Q C hQ ls hX hl => w_Rd_readExport C hQ s _ _ ls hX hl h
-- Rd_readConstant
def f_Rd_readConstant (s : St) : Option (Int32 × St) :=
    bd1 (f_Rd_expect 65 s) fun s1 =>
    bd (f_Rd_nextSigned s1) fun r3 s2 =>
    bd1 (f_Rd_expect 11 s2) fun s4 =>
    some (r3, s4)
section WALK
variable {p : Program} {l : Launch} {e : Env} {ss : State} {m : MethodId} {args : Array Value} {below : List Frame} {meth : Method} {c : Code} {Q : State → Prop} {g : GX} {A : Nat → Prop}
set_option maxHeartbeats 4000000 in
set_option maxRecDepth 100000 in
theorem w_Rd_readConstant {z : Int32 × St} (C : Cx g A p m c b_Rd_readConstant 2 ss args R_Rd) (hQ : ∀ (pc : Nat) (H : Heap) (locs : List Loc) (ls : Array Slot), XW g A ss (wX g z.2) H locs → decode b_Rd_readConstant pc = .ok (.ireturn, 1) → W p l e (rmX 2 44) ss m args below meth c H locs 0 0 Q (F0 m pc ls [.int z.1])) : ∀ (s : St) (H : Heap) (locs : List Loc) (ls : Array Slot), XW g A ss (wX g s) H locs → lv_has ls 2 [(0, .ref (g.q 2))] → f_Rd_readConstant s = some z → W p l e (rmX 2 44) ss m args below meth c H locs 0 0 Q (F0 m 0 ls []) := by
  have ⟨⟨hx, hb, hml, hown, hts⟩, hK, hA, hN⟩ := C
  intro s H locs ls hX hl h
  rw [f_Rd_readConstant] at h
  refine lv_aload_n hx hb d_Rd_readConstant_0 rfl (lv_at hl 0 rfl) ?_
  refine lv_bipush (v := 65) hx hb d_Rd_readConstant_1 (by decide) ?_
  obtain ⟨s1, hc3, h⟩ := bd1_e h
  refine x_vV (As := [.int 65]) (rest := []) C hX (c_Rd_expect l g 65 s s1 hc3) (cw_Rd_52 C.1.2.2.2.2 C.2.2.2 ⟨by decide, by decide⟩) (x_rc C hX wg_2 rfl) rfl hl.1 rfl (lv_room (Nat.le_of_ble_eq_true rfl)) d_Rd_readConstant_3 ⟨Nat.le_refl _, Nat.le_refl _⟩ (fun H locs hX => ?_)
  refine lv_aload_n hx hb d_Rd_readConstant_6 rfl (lv_at hl 0 rfl) ?_
  obtain ⟨r3, s2, hc7, h⟩ := bd_e h
  refine x_vI (As := []) (rest := []) C hX (c_Rd_nextSigned l g s1 (r3, s2) hc7) (cw_Rd_147 C.1.2.2.2.2 C.2.2.2 ⟨by decide, by decide⟩) (x_rc C hX wg_2 rfl) rfl hl.1 rfl (lv_room (Nat.le_of_ble_eq_true rfl)) d_Rd_readConstant_7 ⟨Nat.le_refl _, Nat.le_refl _⟩ (fun H locs hX => ?_)
  refine lv_istore_n (lv' := [(1, .int r3), (0, .ref (g.q 2))]) hx hb d_Rd_readConstant_10 rfl hl (by decide) rfl (fun ls hl => ?_)
  refine lv_aload_n hx hb d_Rd_readConstant_11 rfl (lv_at hl 1 rfl) ?_
  refine lv_bipush (v := 11) hx hb d_Rd_readConstant_12 (by decide) ?_
  obtain ⟨s4, hc14, h⟩ := bd1_e h
  refine x_vV (As := [.int 11]) (rest := []) C hX (c_Rd_expect l g 11 s2 s4 hc14) (cw_Rd_52 C.1.2.2.2.2 C.2.2.2 ⟨by decide, by decide⟩) (x_rc C hX wg_2 rfl) rfl hl.1 rfl (lv_room (Nat.le_of_ble_eq_true rfl)) d_Rd_readConstant_14 ⟨Nat.le_refl _, Nat.le_refl _⟩ (fun H locs hX => ?_)
  refine lv_iload_n hx hb d_Rd_readConstant_17 rfl (lv_at hl 0 rfl) ?_
  obtain rfl := so1 h
  exact hQ _ H locs ls hX d_Rd_readConstant_18
end WALK
theorem c_Rd_readConstant (l : Launch) (g : GX) (s : St) (z : Int32 × St) (h : f_Rd_readConstant s = some z) : MI l g y_Rd_readConstant b_Rd_readConstant 2 (some .int) 2 44 [.ref (g.q 2)] (wX g s) z.1 (wX g z.2) :=
  MI.mk (own := R_Rd) (by decide) rfl (Nat.le_of_ble_eq_true rfl) fun p e ss m below meth c A Q C hQ ls hX hl => w_Rd_readConstant C hQ s _ _ ls hX hl h
-- Rd_readGlobal
def f_Rd_readGlobal (s : St) : Option St :=
    bd1 (f_Rd_readValueType s) fun s1 =>
    lt1 (s1 14 0 + 1 - 1) fun r2 =>
    lt1 (stp s1 14 0 (s1 14 0 + 1)) fun s3 =>
    bd (f_Rd_nextUpTo 1 s3) fun r5 s4 =>
    lt1 (tSet s4 15 4 2 r2 0 r5) fun s6 =>
    bd (f_Rd_readConstant s6) fun r8 s7 =>
    lt1 (tSet s7 15 4 2 r2 1 r8) fun s9 =>
    some s9
section WALK
variable {p : Program} {l : Launch} {e : Env} {ss : State} {m : MethodId} {args : Array Value} {below : List Frame} {meth : Method} {c : Code} {Q : State → Prop} {g : GX} {A : Nat → Prop}
set_option maxHeartbeats 4000000 in
set_option maxRecDepth 100000 in
theorem w_Rd_readGlobal {z : St} (C : Cx g A p m c b_Rd_readGlobal 2 ss args R_Rd) (hQ : ∀ (pc : Nat) (H : Heap) (locs : List Loc) (ls : Array Slot), XW g A ss (wX g z) H locs → decode b_Rd_readGlobal pc = .ok (.return_, 1) → W p l e (rmX 3 65) ss m args below meth c H locs 0 0 Q (F0 m pc ls [])) : ∀ (s : St) (H : Heap) (locs : List Loc) (ls : Array Slot), XW g A ss (wX g s) H locs → lv_has ls 2 [(0, .ref (g.q 2))] → f_Rd_readGlobal s = some z → W p l e (rmX 3 65) ss m args below meth c H locs 0 0 Q (F0 m 0 ls []) := by
  have ⟨⟨hx, hb, hml, hown, hts⟩, hK, hA, hN⟩ := C
  intro s H locs ls hX hl h
  rw [f_Rd_readGlobal] at h
  refine lv_aload_n hx hb d_Rd_readGlobal_0 rfl (lv_at hl 0 rfl) ?_
  obtain ⟨s1, hc1, h⟩ := bd1_e h
  refine x_vV (As := []) (rest := []) C hX (c_Rd_readValueType l g s s1 hc1) (cw_Rd_123 C.1.2.2.2.2 C.2.2.2 ⟨by decide, by decide⟩) (x_rc C hX wg_2 rfl) rfl hl.1 rfl (lv_room (Nat.le_of_ble_eq_true rfl)) d_Rd_readGlobal_1 ⟨Nat.le_refl _, Nat.le_refl _⟩ (fun H locs hX => ?_)
  refine lv_aload_n hx hb d_Rd_readGlobal_4 rfl (lv_at hl 0 rfl) ?_
  refine gf_2_contents C hX fl_Rd_24 d_Rd_readGlobal_5 ?_
  refine gf_1_globals C hX fl_Rd_139 d_Rd_readGlobal_8 ?_
  obtain ⟨r2, er2, h⟩ := lt1_e h
  obtain ⟨s3, es3, h⟩ := lt1_e h
  refine x_vI (r := r2) (ws' := wX g s3) (As := []) (rest := []) C hX (by rw [er2, es3]; exact cTabAdd_14 l g s1) (cw_Rd_95 C.1.2.2.2.2 C.2.2.2 ⟨by decide, by decide⟩) (x_rc C hX wg_14 rfl) rfl hl.1 rfl (lv_room (Nat.le_of_ble_eq_true rfl)) d_Rd_readGlobal_11 ⟨Nat.le_refl _, Nat.le_refl _⟩ (fun H locs hX => ?_)
  refine lv_istore_n (lv' := [(1, .int r2), (0, .ref (g.q 2))]) hx hb d_Rd_readGlobal_14 rfl hl (by decide) rfl (fun ls hl => ?_)
  refine lv_aload_n hx hb d_Rd_readGlobal_15 rfl (lv_at hl 1 rfl) ?_
  refine gf_2_contents C hX fl_Rd_24 d_Rd_readGlobal_16 ?_
  refine gf_1_globals C hX fl_Rd_139 d_Rd_readGlobal_19 ?_
  refine lv_iload_n hx hb d_Rd_readGlobal_22 rfl (lv_at hl 0 rfl) ?_
  refine lv_iconst (v := 0) hx hb d_Rd_readGlobal_23 (by decide) ?_
  refine lv_aload_n hx hb d_Rd_readGlobal_24 rfl (lv_at hl 1 rfl) ?_
  refine lv_iconst (v := 1) hx hb d_Rd_readGlobal_25 (by decide) ?_
  obtain ⟨r5, s4, hc26, h⟩ := bd_e h
  refine x_vI (As := [.int 1]) (rest := [.int 0, .int r2, .ref (g.q 14)]) C hX (c_Rd_nextUpTo l g 1 s3 (r5, s4) hc26) (cw_Rd_126 C.1.2.2.2.2 C.2.2.2 ⟨by decide, by decide⟩) (x_rc C hX wg_2 rfl) rfl hl.1 rfl (lv_room (Nat.le_of_ble_eq_true rfl)) d_Rd_readGlobal_26 ⟨Nat.le_refl _, Nat.le_refl _⟩ (fun H locs hX => ?_)
  obtain ⟨s6, es6, h⟩ := lt1_e h
  refine x_vV (ws' := wX g s6) (As := [.int r2, .int 0, .int r5]) (rest := []) C hX (by rw [es6]; exact cTabSet_14 l g s4 r2 0 r5) (cw_Rd_98 C.1.2.2.2.2 C.2.2.2 ⟨by decide, by decide⟩) (x_rc C hX wg_14 rfl) rfl hl.1 rfl (lv_room (Nat.le_of_ble_eq_true rfl)) d_Rd_readGlobal_29 ⟨Nat.le_refl _, Nat.le_refl _⟩ (fun H locs hX => ?_)
  refine lv_aload_n hx hb d_Rd_readGlobal_32 rfl (lv_at hl 1 rfl) ?_
  refine gf_2_contents C hX fl_Rd_24 d_Rd_readGlobal_33 ?_
  refine gf_1_globals C hX fl_Rd_139 d_Rd_readGlobal_36 ?_
  refine lv_iload_n hx hb d_Rd_readGlobal_39 rfl (lv_at hl 0 rfl) ?_
  refine lv_iconst (v := 1) hx hb d_Rd_readGlobal_40 (by decide) ?_
  refine lv_aload_n hx hb d_Rd_readGlobal_41 rfl (lv_at hl 1 rfl) ?_
  obtain ⟨r8, s7, hc42, h⟩ := bd_e h
  refine x_vI (As := []) (rest := [.int 1, .int r2, .ref (g.q 14)]) C hX (c_Rd_readConstant l g s6 (r8, s7) hc42) (cw_Rd_142 C.1.2.2.2.2 C.2.2.2 ⟨by decide, by decide⟩) (x_rc C hX wg_2 rfl) rfl hl.1 rfl (lv_room (Nat.le_of_ble_eq_true rfl)) d_Rd_readGlobal_42 ⟨Nat.le_refl _, Nat.le_refl _⟩ (fun H locs hX => ?_)
  obtain ⟨s9, es9, h⟩ := lt1_e h
  refine x_vV (ws' := wX g s9) (As := [.int r2, .int 1, .int r8]) (rest := []) C hX (by rw [es9]; exact cTabSet_14 l g s7 r2 1 r8) (cw_Rd_98 C.1.2.2.2.2 C.2.2.2 ⟨by decide, by decide⟩) (x_rc C hX wg_14 rfl) rfl hl.1 rfl (lv_room (Nat.le_of_ble_eq_true rfl)) d_Rd_readGlobal_45 ⟨Nat.le_refl _, Nat.le_refl _⟩ (fun H locs hX => ?_)
  obtain rfl := so1 h
  exact hQ _ H locs ls hX d_Rd_readGlobal_48
end WALK
theorem c_Rd_readGlobal (l : Launch) (g : GX) (s : St) (z : St) (h : f_Rd_readGlobal s = some z) : MV l g y_Rd_readGlobal b_Rd_readGlobal 2 none 3 65 [.ref (g.q 2)] (wX g s) (wX g z) :=
  MV.mk (own := R_Rd) (by decide) rfl (Nat.le_of_ble_eq_true rfl) fun p e ss m below meth c A Q C hQ ls hX hl => w_Rd_readGlobal C hQ s _ _ ls hX hl h
-- Rd_readMemory
def f_Rd_readMemory_71 (x1 : Int32) (x2 : Int32) (x3 : Int32) (y1 : Int32) (s : St) : Option St :=
    lt1 (stp s 1 2 y1) fun s1 =>
    some s1
def f_Rd_readMemory_37 (x1 : Int32) (x2 : Int32) (y0 : Int32) (s : St) : Option St :=
    lt1 (stp s 1 0 1) fun s1 =>
    lt1 (stp s1 1 1 x2) fun s2 =>
    bd1 (f_X_isAbove y0 4) fun r3 =>
    if r3 = 0 then
      f_Rd_readMemory_71 x1 x2 y0 y0 s2
    else
      f_Rd_readMemory_71 x1 x2 y0 4 s2
def f_Rd_readMemory_24 (x1 : Int32) (x2 : Int32) (s : St) : Option St :=
    if x1 = 1 then
      bd (f_Rd_nextUnsigned s) fun r2 s1 =>
      f_Rd_readMemory_37 x1 x2 r2 s1
    else
      f_Rd_readMemory_37 x1 x2 4 s
def f_Rd_readMemory (s : St) : Option St :=
    bd (f_Rd_nextUpTo 1 s) fun r2 s1 =>
    bd (f_Rd_nextUnsigned s1) fun r4 s3 =>
    bd1 (f_X_isAbove r4 4) fun r5 =>
    if r5 = 0 then
      f_Rd_readMemory_24 r2 r4 s3
    else
      bd1 (f_Rd_refuse 2 s3) fun s6 =>
      f_Rd_readMemory_24 r2 r4 s6
section WALK
variable {p : Program} {l : Launch} {e : Env} {ss : State} {m : MethodId} {args : Array Value} {below : List Frame} {meth : Method} {c : Code} {Q : State → Prop} {g : GX} {A : Nat → Prop}
set_option maxHeartbeats 4000000 in
set_option maxRecDepth 100000 in
theorem w_Rd_readMemory_71 {z : St} (C : Cx g A p m c b_Rd_readMemory 4 ss args R_Rd) (hQ : ∀ (pc : Nat) (H : Heap) (locs : List Loc) (ls : Array Slot), XW g A ss (wX g z) H locs → decode b_Rd_readMemory pc = .ok (.return_, 1) → W p l e (rmX 2 44) ss m args below meth c H locs 0 0 Q (F0 m pc ls [])) : ∀ (x1 : Int32) (x2 : Int32) (x3 : Int32) (y1 : Int32) (s : St) (H : Heap) (locs : List Loc) (ls : Array Slot), XW g A ss (wX g s) H locs → lv_has ls 4 [(0, .ref (g.q 2)), (1, .int x1), (2, .int x2), (3, .int x3)] → f_Rd_readMemory_71 x1 x2 x3 y1 s = some z → W p l e (rmX 2 44) ss m args below meth c H locs 0 0 Q (F0 m 71 ls [.int y1, .ref (g.q 1)]) := by
  have ⟨⟨hx, hb, hml, hown, hts⟩, hK, hA, hN⟩ := C
  intro x1 x2 x3 y1 s H locs ls hX hl h
  rw [f_Rd_readMemory_71] at h
  obtain ⟨s1, es1, h⟩ := lt1_e h
  refine pf_1_mostPages C hX fl_Rd_136 d_Rd_readMemory_71 (fun H locs hX => ?_)
  rw [← es1] at hX
  obtain rfl := so1 h
  exact hQ _ H locs ls hX d_Rd_readMemory_74
set_option maxHeartbeats 4000000 in
set_option maxRecDepth 100000 in
theorem w_Rd_readMemory_37 {z : St} (C : Cx g A p m c b_Rd_readMemory 4 ss args R_Rd) (hQ : ∀ (pc : Nat) (H : Heap) (locs : List Loc) (ls : Array Slot), XW g A ss (wX g z) H locs → decode b_Rd_readMemory pc = .ok (.return_, 1) → W p l e (rmX 2 44) ss m args below meth c H locs 0 0 Q (F0 m pc ls [])) : ∀ (x1 : Int32) (x2 : Int32) (y0 : Int32) (s : St) (H : Heap) (locs : List Loc) (ls : Array Slot), XW g A ss (wX g s) H locs → lv_has ls 4 [(0, .ref (g.q 2)), (1, .int x1), (2, .int x2)] → f_Rd_readMemory_37 x1 x2 y0 s = some z → W p l e (rmX 2 44) ss m args below meth c H locs 0 0 Q (F0 m 37 ls [.int y0]) := by
  have ⟨⟨hx, hb, hml, hown, hts⟩, hK, hA, hN⟩ := C
  intro x1 x2 y0 s H locs ls hX hl h
  rw [f_Rd_readMemory_37] at h
  refine lv_istore_n (lv' := [(3, .int y0), (0, .ref (g.q 2)), (1, .int x1), (2, .int x2)]) hx hb d_Rd_readMemory_37 rfl hl (by decide) rfl (fun ls hl => ?_)
  refine lv_aload_n hx hb d_Rd_readMemory_38 rfl (lv_at hl 1 rfl) ?_
  refine gf_2_contents C hX fl_Rd_24 d_Rd_readMemory_39 ?_
  refine lv_iconst (v := 1) hx hb d_Rd_readMemory_42 (by decide) ?_
  obtain ⟨s1, es1, h⟩ := lt1_e h
  refine pf_1_hasMemory C hX fl_Rd_129 (Or.inr rfl) d_Rd_readMemory_43 (fun H locs hX => ?_)
  rw [← es1] at hX
  refine lv_aload_n hx hb d_Rd_readMemory_46 rfl (lv_at hl 1 rfl) ?_
  refine gf_2_contents C hX fl_Rd_24 d_Rd_readMemory_47 ?_
  refine lv_iload_n hx hb d_Rd_readMemory_50 rfl (lv_at hl 3 rfl) ?_
  obtain ⟨s2, es2, h⟩ := lt1_e h
  refine pf_1_firstPages C hX fl_Rd_133 d_Rd_readMemory_51 (fun H locs hX => ?_)
  rw [← es2] at hX
  refine lv_aload_n hx hb d_Rd_readMemory_54 rfl (lv_at hl 1 rfl) ?_
  refine gf_2_contents C hX fl_Rd_24 d_Rd_readMemory_55 ?_
  refine lv_iload_n hx hb d_Rd_readMemory_58 rfl (lv_at hl 0 rfl) ?_
  refine lv_iconst (v := 4) hx hb d_Rd_readMemory_59 (by decide) ?_
  obtain ⟨r3, hc60, h⟩ := bd1_e h
  refine x_sNI (As := [.int y0, .int 4]) (rest := [.ref (g.q 1)]) C hX (c_X_isAbove l g y0 4 r3 hc60 _) (cw_Rd_88 C.1.2.2.2.2 C.2.2.2 ⟨by decide, by decide⟩) rfl hl.1 rfl (lv_room (Nat.le_of_ble_eq_true rfl)) d_Rd_readMemory_60 ⟨Nat.le_refl _, Nat.le_refl _⟩ (fun H locs hX => ?_)
  refine lv_if_eq (tgt := 70) hx hb d_Rd_readMemory_63 (by decide) (fun c63 => ?_) (fun c63 => ?_)
  · have h := ite_t c63 h
    refine lv_iload_n hx hb d_Rd_readMemory_70 rfl (lv_at hl 0 rfl) ?_
    exact w_Rd_readMemory_71 C hQ x1 x2 y0 y0 s2 H locs ls hX (lv_sub hl [1, 2, 3, 0] rfl) h
  · have h := ite_f c63 h
    refine lv_iconst (v := 4) hx hb d_Rd_readMemory_66 (by decide) ?_
    refine lv_goto (tgt := 71) hx hb d_Rd_readMemory_67 (by decide) ?_
    exact w_Rd_readMemory_71 C hQ x1 x2 y0 4 s2 H locs ls hX (lv_sub hl [1, 2, 3, 0] rfl) h
set_option maxHeartbeats 4000000 in
set_option maxRecDepth 100000 in
theorem w_Rd_readMemory_24 {z : St} (C : Cx g A p m c b_Rd_readMemory 4 ss args R_Rd) (hQ : ∀ (pc : Nat) (H : Heap) (locs : List Loc) (ls : Array Slot), XW g A ss (wX g z) H locs → decode b_Rd_readMemory pc = .ok (.return_, 1) → W p l e (rmX 2 44) ss m args below meth c H locs 0 0 Q (F0 m pc ls [])) : ∀ (x1 : Int32) (x2 : Int32) (s : St) (H : Heap) (locs : List Loc) (ls : Array Slot), XW g A ss (wX g s) H locs → lv_has ls 4 [(0, .ref (g.q 2)), (1, .int x1), (2, .int x2)] → f_Rd_readMemory_24 x1 x2 s = some z → W p l e (rmX 2 44) ss m args below meth c H locs 0 0 Q (F0 m 24 ls []) := by
  have ⟨⟨hx, hb, hml, hown, hts⟩, hK, hA, hN⟩ := C
  intro x1 x2 s H locs ls hX hl h
  rw [f_Rd_readMemory_24] at h
  refine lv_iload_n hx hb d_Rd_readMemory_24 rfl (lv_at hl 1 rfl) ?_
  refine lv_iconst (v := 1) hx hb d_Rd_readMemory_25 (by decide) ?_
  refine lv_icmp_ne (tgt := 36) hx hb d_Rd_readMemory_26 (by decide) (fun c26 => ?_) (fun c26 => ?_)
  · have h := ite_f c26 h
    refine lv_iconst (v := 4) hx hb d_Rd_readMemory_36 (by decide) ?_
    exact w_Rd_readMemory_37 C hQ x1 x2 4 s H locs ls hX hl h
  · have h := ite_t c26 h
    refine lv_aload_n hx hb d_Rd_readMemory_29 rfl (lv_at hl 0 rfl) ?_
    obtain ⟨r2, s1, hc30, h⟩ := bd_e h
    refine x_vI (As := []) (rest := []) C hX (c_Rd_nextUnsigned l g s (r2, s1) hc30) (cw_Rd_85 C.1.2.2.2.2 C.2.2.2 ⟨by decide, by decide⟩) (x_rc C hX wg_2 rfl) rfl hl.1 rfl (lv_room (Nat.le_of_ble_eq_true rfl)) d_Rd_readMemory_30 ⟨Nat.le_refl _, Nat.le_refl _⟩ (fun H locs hX => ?_)
    refine lv_goto (tgt := 37) hx hb d_Rd_readMemory_33 (by decide) ?_
    exact w_Rd_readMemory_37 C hQ x1 x2 r2 s1 H locs ls hX hl h
set_option maxHeartbeats 4000000 in
set_option maxRecDepth 100000 in
theorem w_Rd_readMemory {z : St} (C : Cx g A p m c b_Rd_readMemory 4 ss args R_Rd) (hQ : ∀ (pc : Nat) (H : Heap) (locs : List Loc) (ls : Array Slot), XW g A ss (wX g z) H locs → decode b_Rd_readMemory pc = .ok (.return_, 1) → W p l e (rmX 2 44) ss m args below meth c H locs 0 0 Q (F0 m pc ls [])) : ∀ (s : St) (H : Heap) (locs : List Loc) (ls : Array Slot), XW g A ss (wX g s) H locs → lv_has ls 4 [(0, .ref (g.q 2))] → f_Rd_readMemory s = some z → W p l e (rmX 2 44) ss m args below meth c H locs 0 0 Q (F0 m 0 ls []) := by
  have ⟨⟨hx, hb, hml, hown, hts⟩, hK, hA, hN⟩ := C
  intro s H locs ls hX hl h
  rw [f_Rd_readMemory] at h
  refine lv_aload_n hx hb d_Rd_readMemory_0 rfl (lv_at hl 0 rfl) ?_
  refine lv_iconst (v := 1) hx hb d_Rd_readMemory_1 (by decide) ?_
  obtain ⟨r2, s1, hc2, h⟩ := bd_e h
  refine x_vI (As := [.int 1]) (rest := []) C hX (c_Rd_nextUpTo l g 1 s (r2, s1) hc2) (cw_Rd_126 C.1.2.2.2.2 C.2.2.2 ⟨by decide, by decide⟩) (x_rc C hX wg_2 rfl) rfl hl.1 rfl (lv_room (Nat.le_of_ble_eq_true rfl)) d_Rd_readMemory_2 ⟨Nat.le_refl _, Nat.le_refl _⟩ (fun H locs hX => ?_)
  refine lv_istore_n (lv' := [(1, .int r2), (0, .ref (g.q 2))]) hx hb d_Rd_readMemory_5 rfl hl (by decide) rfl (fun ls hl => ?_)
  refine lv_aload_n hx hb d_Rd_readMemory_6 rfl (lv_at hl 1 rfl) ?_
  obtain ⟨r4, s3, hc7, h⟩ := bd_e h
  refine x_vI (As := []) (rest := []) C hX (c_Rd_nextUnsigned l g s1 (r4, s3) hc7) (cw_Rd_85 C.1.2.2.2.2 C.2.2.2 ⟨by decide, by decide⟩) (x_rc C hX wg_2 rfl) rfl hl.1 rfl (lv_room (Nat.le_of_ble_eq_true rfl)) d_Rd_readMemory_7 ⟨Nat.le_refl _, Nat.le_refl _⟩ (fun H locs hX => ?_)
  refine lv_istore_n (lv' := [(2, .int r4), (1, .int r2), (0, .ref (g.q 2))]) hx hb d_Rd_readMemory_10 rfl hl (by decide) rfl (fun ls hl => ?_)
  refine lv_iload_n hx hb d_Rd_readMemory_11 rfl (lv_at hl 0 rfl) ?_
  refine lv_iconst (v := 4) hx hb d_Rd_readMemory_12 (by decide) ?_
  obtain ⟨r5, hc13, h⟩ := bd1_e h
  refine x_sNI (As := [.int r4, .int 4]) (rest := []) C hX (c_X_isAbove l g r4 4 r5 hc13 _) (cw_Rd_88 C.1.2.2.2.2 C.2.2.2 ⟨by decide, by decide⟩) rfl hl.1 rfl (lv_room (Nat.le_of_ble_eq_true rfl)) d_Rd_readMemory_13 ⟨Nat.le_refl _, Nat.le_refl _⟩ (fun H locs hX => ?_)
  refine lv_if_eq (tgt := 24) hx hb d_Rd_readMemory_16 (by decide) (fun c16 => ?_) (fun c16 => ?_)
  · have h := ite_t c16 h
    exact w_Rd_readMemory_24 C hQ r2 r4 s3 H locs ls hX (lv_sub hl [2, 1, 0] rfl) h
  · have h := ite_f c16 h
    refine lv_aload_n hx hb d_Rd_readMemory_19 rfl (lv_at hl 2 rfl) ?_
    refine lv_iconst (v := 2) hx hb d_Rd_readMemory_20 (by decide) ?_
    obtain ⟨s6, hc21, h⟩ := bd1_e h
    refine x_vV (As := [.int 2]) (rest := []) C hX (c_Rd_refuse l g 2 s3 s6 hc21) (cw_Rd_75 C.1.2.2.2.2 C.2.2.2 ⟨by decide, by decide⟩) (x_rc C hX wg_2 rfl) rfl hl.1 rfl (lv_room (Nat.le_of_ble_eq_true rfl)) d_Rd_readMemory_21 ⟨Nat.le_refl _, Nat.le_refl _⟩ (fun H locs hX => ?_)
    exact w_Rd_readMemory_24 C hQ r2 r4 s6 H locs ls hX (lv_sub hl [2, 1, 0] rfl) h
end WALK
theorem c_Rd_readMemory (l : Launch) (g : GX) (s : St) (z : St) (h : f_Rd_readMemory s = some z) : MV l g y_Rd_readMemory b_Rd_readMemory 4 none 2 44 [.ref (g.q 2)] (wX g s) (wX g z) :=
  MV.mk (own := R_Rd) (by decide) rfl (Nat.le_of_ble_eq_true rfl) fun p e ss m below meth c A Q C hQ ls hX hl => w_Rd_readMemory C hQ s _ _ ls hX hl h
-- Rd_readData
def f_Rd_readData (s : St) : Option St :=
    lt1 (s 18 0 + 1 - 1) fun r1 =>
    lt1 (stp s 18 0 (s 18 0 + 1)) fun s2 =>
    bd (f_Rd_nextUnsigned s2) fun r4 s3 =>
    lt1 (tSet s3 19 4 4 r1 0 r4) fun s5 =>
    bd (f_Rd_readConstant s5) fun r7 s6 =>
    lt1 (tSet s6 19 4 4 r1 1 r7) fun s8 =>
    bd (f_Rd_nextEnd s8) fun r10 s9 =>
    lt1 (tSet s9 19 4 4 r1 2 (s9 2 2)) fun s11 =>
    lt1 (r10 - s11 2 2) fun v12 =>
    lt1 (tSet s11 19 4 4 r1 3 v12) fun s13 =>
    lt1 (stp s13 2 2 r10) fun s14 =>
    some s14
section WALK
variable {p : Program} {l : Launch} {e : Env} {ss : State} {m : MethodId} {args : Array Value} {below : List Frame} {meth : Method} {c : Code} {Q : State → Prop} {g : GX} {A : Nat → Prop}
set_option maxHeartbeats 4000000 in
set_option maxRecDepth 100000 in
theorem w_Rd_readData {z : St} (C : Cx g A p m c b_Rd_readData 3 ss args R_Rd) (hQ : ∀ (pc : Nat) (H : Heap) (locs : List Loc) (ls : Array Slot), XW g A ss (wX g z) H locs → decode b_Rd_readData pc = .ok (.return_, 1) → W p l e (rmX 3 65) ss m args below meth c H locs 0 0 Q (F0 m pc ls [])) : ∀ (s : St) (H : Heap) (locs : List Loc) (ls : Array Slot), XW g A ss (wX g s) H locs → lv_has ls 3 [(0, .ref (g.q 2))] → f_Rd_readData s = some z → W p l e (rmX 3 65) ss m args below meth c H locs 0 0 Q (F0 m 0 ls []) := by
  have ⟨⟨hx, hb, hml, hown, hts⟩, hK, hA, hN⟩ := C
  intro s H locs ls hX hl h
  rw [f_Rd_readData] at h
  refine lv_aload_n hx hb d_Rd_readData_0 rfl (lv_at hl 0 rfl) ?_
  refine gf_2_contents C hX fl_Rd_24 d_Rd_readData_1 ?_
  refine gf_1_data C hX fl_Rd_153 d_Rd_readData_4 ?_
  obtain ⟨r1, er1, h⟩ := lt1_e h
  obtain ⟨s2, es2, h⟩ := lt1_e h
  refine x_vI (r := r1) (ws' := wX g s2) (As := []) (rest := []) C hX (by rw [er1, es2]; exact cTabAdd_18 l g s) (cw_Rd_95 C.1.2.2.2.2 C.2.2.2 ⟨by decide, by decide⟩) (x_rc C hX wg_18 rfl) rfl hl.1 rfl (lv_room (Nat.le_of_ble_eq_true rfl)) d_Rd_readData_7 ⟨Nat.le_refl _, Nat.le_refl _⟩ (fun H locs hX => ?_)
  refine lv_istore_n (lv' := [(1, .int r1), (0, .ref (g.q 2))]) hx hb d_Rd_readData_10 rfl hl (by decide) rfl (fun ls hl => ?_)
  refine lv_aload_n hx hb d_Rd_readData_11 rfl (lv_at hl 1 rfl) ?_
  refine gf_2_contents C hX fl_Rd_24 d_Rd_readData_12 ?_
  refine gf_1_data C hX fl_Rd_153 d_Rd_readData_15 ?_
  refine lv_iload_n hx hb d_Rd_readData_18 rfl (lv_at hl 0 rfl) ?_
  refine lv_iconst (v := 0) hx hb d_Rd_readData_19 (by decide) ?_
  refine lv_aload_n hx hb d_Rd_readData_20 rfl (lv_at hl 1 rfl) ?_
  obtain ⟨r4, s3, hc21, h⟩ := bd_e h
  refine x_vI (As := []) (rest := [.int 0, .int r1, .ref (g.q 18)]) C hX (c_Rd_nextUnsigned l g s2 (r4, s3) hc21) (cw_Rd_85 C.1.2.2.2.2 C.2.2.2 ⟨by decide, by decide⟩) (x_rc C hX wg_2 rfl) rfl hl.1 rfl (lv_room (Nat.le_of_ble_eq_true rfl)) d_Rd_readData_21 ⟨Nat.le_refl _, Nat.le_refl _⟩ (fun H locs hX => ?_)
  obtain ⟨s5, es5, h⟩ := lt1_e h
  refine x_vV (ws' := wX g s5) (As := [.int r1, .int 0, .int r4]) (rest := []) C hX (by rw [es5]; exact cTabSet_18 l g s3 r1 0 r4) (cw_Rd_98 C.1.2.2.2.2 C.2.2.2 ⟨by decide, by decide⟩) (x_rc C hX wg_18 rfl) rfl hl.1 rfl (lv_room (Nat.le_of_ble_eq_true rfl)) d_Rd_readData_24 ⟨Nat.le_refl _, Nat.le_refl _⟩ (fun H locs hX => ?_)
  refine lv_aload_n hx hb d_Rd_readData_27 rfl (lv_at hl 1 rfl) ?_
  refine gf_2_contents C hX fl_Rd_24 d_Rd_readData_28 ?_
  refine gf_1_data C hX fl_Rd_153 d_Rd_readData_31 ?_
  refine lv_iload_n hx hb d_Rd_readData_34 rfl (lv_at hl 0 rfl) ?_
  refine lv_iconst (v := 1) hx hb d_Rd_readData_35 (by decide) ?_
  refine lv_aload_n hx hb d_Rd_readData_36 rfl (lv_at hl 1 rfl) ?_
  obtain ⟨r7, s6, hc37, h⟩ := bd_e h
  refine x_vI (As := []) (rest := [.int 1, .int r1, .ref (g.q 18)]) C hX (c_Rd_readConstant l g s5 (r7, s6) hc37) (cw_Rd_142 C.1.2.2.2.2 C.2.2.2 ⟨by decide, by decide⟩) (x_rc C hX wg_2 rfl) rfl hl.1 rfl (lv_room (Nat.le_of_ble_eq_true rfl)) d_Rd_readData_37 ⟨Nat.le_refl _, Nat.le_refl _⟩ (fun H locs hX => ?_)
  obtain ⟨s8, es8, h⟩ := lt1_e h
  refine x_vV (ws' := wX g s8) (As := [.int r1, .int 1, .int r7]) (rest := []) C hX (by rw [es8]; exact cTabSet_18 l g s6 r1 1 r7) (cw_Rd_98 C.1.2.2.2.2 C.2.2.2 ⟨by decide, by decide⟩) (x_rc C hX wg_18 rfl) rfl hl.1 rfl (lv_room (Nat.le_of_ble_eq_true rfl)) d_Rd_readData_40 ⟨Nat.le_refl _, Nat.le_refl _⟩ (fun H locs hX => ?_)
  refine lv_aload_n hx hb d_Rd_readData_43 rfl (lv_at hl 1 rfl) ?_
  obtain ⟨r10, s9, hc44, h⟩ := bd_e h
  refine x_vI (As := []) (rest := []) C hX (c_Rd_nextEnd l g s8 (r10, s9) hc44) (cw_Rd_82 C.1.2.2.2.2 C.2.2.2 ⟨by decide, by decide⟩) (x_rc C hX wg_2 rfl) rfl hl.1 rfl (lv_room (Nat.le_of_ble_eq_true rfl)) d_Rd_readData_44 ⟨Nat.le_refl _, Nat.le_refl _⟩ (fun H locs hX => ?_)
  refine lv_istore_n (lv' := [(2, .int r10), (1, .int r1), (0, .ref (g.q 2))]) hx hb d_Rd_readData_47 rfl hl (by decide) rfl (fun ls hl => ?_)
  refine lv_aload_n hx hb d_Rd_readData_48 rfl (lv_at hl 2 rfl) ?_
  refine gf_2_contents C hX fl_Rd_24 d_Rd_readData_49 ?_
  refine gf_1_data C hX fl_Rd_153 d_Rd_readData_52 ?_
  refine lv_iload_n hx hb d_Rd_readData_55 rfl (lv_at hl 1 rfl) ?_
  refine lv_iconst (v := 2) hx hb d_Rd_readData_56 (by decide) ?_
  refine lv_aload_n hx hb d_Rd_readData_57 rfl (lv_at hl 2 rfl) ?_
  refine gf_2_place C hX fl_Rd_37 d_Rd_readData_58 ?_
  obtain ⟨s11, es11, h⟩ := lt1_e h
  refine x_vV (ws' := wX g s11) (As := [.int r1, .int 2, .int (s9 2 2)]) (rest := []) C hX (by rw [es11]; exact cTabSet_18 l g s9 r1 2 (s9 2 2)) (cw_Rd_98 C.1.2.2.2.2 C.2.2.2 ⟨by decide, by decide⟩) (x_rc C hX wg_18 rfl) rfl hl.1 rfl (lv_room (Nat.le_of_ble_eq_true rfl)) d_Rd_readData_61 ⟨Nat.le_refl _, Nat.le_refl _⟩ (fun H locs hX => ?_)
  refine lv_aload_n hx hb d_Rd_readData_64 rfl (lv_at hl 2 rfl) ?_
  refine gf_2_contents C hX fl_Rd_24 d_Rd_readData_65 ?_
  refine gf_1_data C hX fl_Rd_153 d_Rd_readData_68 ?_
  refine lv_iload_n hx hb d_Rd_readData_71 rfl (lv_at hl 1 rfl) ?_
  refine lv_iconst (v := 3) hx hb d_Rd_readData_72 (by decide) ?_
  refine lv_iload_n hx hb d_Rd_readData_73 rfl (lv_at hl 0 rfl) ?_
  refine lv_aload_n hx hb d_Rd_readData_74 rfl (lv_at hl 2 rfl) ?_
  refine gf_2_place C hX fl_Rd_37 d_Rd_readData_75 ?_
  obtain ⟨v12, ev12, h⟩ := lt1_e h
  refine x_isub hx hb d_Rd_readData_78 ev12 ?_
  obtain ⟨s13, es13, h⟩ := lt1_e h
  refine x_vV (ws' := wX g s13) (As := [.int r1, .int 3, .int v12]) (rest := []) C hX (by rw [es13]; exact cTabSet_18 l g s11 r1 3 v12) (cw_Rd_98 C.1.2.2.2.2 C.2.2.2 ⟨by decide, by decide⟩) (x_rc C hX wg_18 rfl) rfl hl.1 rfl (lv_room (Nat.le_of_ble_eq_true rfl)) d_Rd_readData_79 ⟨Nat.le_refl _, Nat.le_refl _⟩ (fun H locs hX => ?_)
  refine lv_aload_n hx hb d_Rd_readData_82 rfl (lv_at hl 2 rfl) ?_
  refine lv_iload_n hx hb d_Rd_readData_83 rfl (lv_at hl 0 rfl) ?_
  obtain ⟨s14, es14, h⟩ := lt1_e h
  refine pf_2_place C hX fl_Rd_37 d_Rd_readData_84 (fun H locs hX => ?_)
  rw [← es14] at hX
  obtain rfl := so1 h
  exact hQ _ H locs ls hX d_Rd_readData_87
end WALK
theorem c_Rd_readData (l : Launch) (g : GX) (s : St) (z : St) (h : f_Rd_readData s = some z) : MV l g y_Rd_readData b_Rd_readData 3 none 3 65 [.ref (g.q 2)] (wX g s) (wX g z) :=
  MV.mk (own := R_Rd) (by decide) rfl (Nat.le_of_ble_eq_true rfl) fun p e ss m below meth c A Q C hQ ls hX hl => w_Rd_readData C hQ s _ _ ls hX hl h
-- Rd_readValueTypes
def f_Rd_readValueTypes_47 (x1 : Int32) (x2 : Int32) (s : St) : Option (Int32 × St) :=
    some (x1, s)
def f_Rd_readValueTypes_20 : Nat → Int32 → Int32 → St → Option (Int32 × St)
  | 0, _, _, _ => none
  | n + 1, x1, x2, s =>
    if 4 ≤ x2 then
      f_Rd_readValueTypes_47 x1 x2 s
    else
      if x1 ≤ x2 then
        f_Rd_readValueTypes_47 x1 x2 s
      else
        if s 2 5 = 0 then
          bd1 (f_Rd_readValueType s) fun s1 =>
          lt1 (x2 + (1)) fun v2 =>
          f_Rd_readValueTypes_20 n x1 v2 s1
        else
          f_Rd_readValueTypes_47 x1 x2 s
def f_Rd_readValueTypes_18 (x1 : Int32) (s : St) : Option (Int32 × St) :=
    f_Rd_readValueTypes_20 FU x1 0 s
def f_Rd_readValueTypes (s : St) : Option (Int32 × St) :=
    bd (f_Rd_nextUnsigned s) fun r2 s1 =>
    bd1 (f_X_isAbove r2 4) fun r3 =>
    if r3 = 0 then
      f_Rd_readValueTypes_18 r2 s1
    else
      bd1 (f_Rd_refuse 2 s1) fun s4 =>
      f_Rd_readValueTypes_18 r2 s4
section WALK
variable {p : Program} {l : Launch} {e : Env} {ss : State} {m : MethodId} {args : Array Value} {below : List Frame} {meth : Method} {c : Code} {Q : State → Prop} {g : GX} {A : Nat → Prop}
set_option maxHeartbeats 4000000 in
set_option maxRecDepth 100000 in
theorem w_Rd_readValueTypes_47 {z : Int32 × St} (C : Cx g A p m c b_Rd_readValueTypes 3 ss args R_Rd) (hQ : ∀ (pc : Nat) (H : Heap) (locs : List Loc) (ls : Array Slot), XW g A ss (wX g z.2) H locs → decode b_Rd_readValueTypes pc = .ok (.ireturn, 1) → W p l e (rmX 2 44) ss m args below meth c H locs 0 0 Q (F0 m pc ls [.int z.1])) : ∀ (x1 : Int32) (x2 : Int32) (s : St) (H : Heap) (locs : List Loc) (ls : Array Slot), XW g A ss (wX g s) H locs → lv_has ls 3 [(0, .ref (g.q 2)), (1, .int x1), (2, .int x2)] → f_Rd_readValueTypes_47 x1 x2 s = some z → W p l e (rmX 2 44) ss m args below meth c H locs 0 0 Q (F0 m 47 ls []) := by
  have ⟨⟨hx, hb, hml, hown, hts⟩, hK, hA, hN⟩ := C
  intro x1 x2 s H locs ls hX hl h
  rw [f_Rd_readValueTypes_47] at h
  refine lv_iload_n hx hb d_Rd_readValueTypes_47 rfl (lv_at hl 1 rfl) ?_
  obtain rfl := so1 h
  exact hQ _ H locs ls hX d_Rd_readValueTypes_48
set_option maxHeartbeats 4000000 in
set_option maxRecDepth 100000 in
theorem w_Rd_readValueTypes_20 {z : Int32 × St} (C : Cx g A p m c b_Rd_readValueTypes 3 ss args R_Rd) (hQ : ∀ (pc : Nat) (H : Heap) (locs : List Loc) (ls : Array Slot), XW g A ss (wX g z.2) H locs → decode b_Rd_readValueTypes pc = .ok (.ireturn, 1) → W p l e (rmX 2 44) ss m args below meth c H locs 0 0 Q (F0 m pc ls [.int z.1])) (n : Nat) : ∀ (x1 : Int32) (x2 : Int32) (s : St) (H : Heap) (locs : List Loc) (ls : Array Slot), XW g A ss (wX g s) H locs → lv_has ls 3 [(0, .ref (g.q 2)), (1, .int x1), (2, .int x2)] → f_Rd_readValueTypes_20 n x1 x2 s = some z → W p l e (rmX 2 44) ss m args below meth c H locs 0 0 Q (F0 m 20 ls []) := by
  have ⟨⟨hx, hb, hml, hown, hts⟩, hK, hA, hN⟩ := C
  induction n with
  | zero => intro x1 x2 s H locs ls hX hl h; cases h
  | succ n ih =>
    intro x1 x2 s H locs ls hX hl h
    rw [f_Rd_readValueTypes_20] at h
    refine lv_iload_n hx hb d_Rd_readValueTypes_20 rfl (lv_at hl 2 rfl) ?_
    refine lv_iconst (v := 4) hx hb d_Rd_readValueTypes_21 (by decide) ?_
    refine lv_icmp_ge (tgt := 47) hx hb d_Rd_readValueTypes_22 (by decide) (fun c22 => ?_) (fun c22 => ?_)
    · have h := ite_t c22 h
      exact w_Rd_readValueTypes_47 C hQ x1 x2 s H locs ls hX hl h
    · have h := ite_f c22 h
      refine lv_iload_n hx hb d_Rd_readValueTypes_25 rfl (lv_at hl 2 rfl) ?_
      refine lv_iload_n hx hb d_Rd_readValueTypes_26 rfl (lv_at hl 1 rfl) ?_
      refine lv_icmp_ge (tgt := 47) hx hb d_Rd_readValueTypes_27 (by decide) (fun c27 => ?_) (fun c27 => ?_)
      · have h := ite_t c27 h
        exact w_Rd_readValueTypes_47 C hQ x1 x2 s H locs ls hX hl h
      · have h := ite_f c27 h
        refine lv_aload_n hx hb d_Rd_readValueTypes_30 rfl (lv_at hl 0 rfl) ?_
        refine gf_2_fault C hX fl_Rd_46 d_Rd_readValueTypes_31 ?_
        refine lv_if_ne (tgt := 47) hx hb d_Rd_readValueTypes_34 (by decide) (fun c34 => ?_) (fun c34 => ?_)
        · have h := ite_f c34 h
          exact w_Rd_readValueTypes_47 C hQ x1 x2 s H locs ls hX hl h
        · have h := ite_t c34 h
          refine lv_aload_n hx hb d_Rd_readValueTypes_37 rfl (lv_at hl 0 rfl) ?_
          obtain ⟨s1, hc38, h⟩ := bd1_e h
          refine x_vV (As := []) (rest := []) C hX (c_Rd_readValueType l g s s1 hc38) (cw_Rd_123 C.1.2.2.2.2 C.2.2.2 ⟨by decide, by decide⟩) (x_rc C hX wg_2 rfl) rfl hl.1 rfl (lv_room (Nat.le_of_ble_eq_true rfl)) d_Rd_readValueTypes_38 ⟨Nat.le_refl _, Nat.le_refl _⟩ (fun H locs hX => ?_)
          obtain ⟨v2, ev2, h⟩ := lt1_e h
          refine lv_iinc (v := v2) (lv' := [(2, .int v2), (0, .ref (g.q 2)), (1, .int x1)]) hx hb d_Rd_readValueTypes_41 hl (k := 2) rfl (by rw [ev2]; rfl) (by decide) rfl (fun ls hl => ?_)
          refine lv_goto (tgt := 20) hx hb d_Rd_readValueTypes_44 (by decide) ?_
          exact ih x1 v2 s1 H locs ls hX (lv_sub hl [1, 2, 0] rfl) h
set_option maxHeartbeats 4000000 in
set_option maxRecDepth 100000 in
theorem w_Rd_readValueTypes_18 {z : Int32 × St} (C : Cx g A p m c b_Rd_readValueTypes 3 ss args R_Rd) (hQ : ∀ (pc : Nat) (H : Heap) (locs : List Loc) (ls : Array Slot), XW g A ss (wX g z.2) H locs → decode b_Rd_readValueTypes pc = .ok (.ireturn, 1) → W p l e (rmX 2 44) ss m args below meth c H locs 0 0 Q (F0 m pc ls [.int z.1])) : ∀ (x1 : Int32) (s : St) (H : Heap) (locs : List Loc) (ls : Array Slot), XW g A ss (wX g s) H locs → lv_has ls 3 [(0, .ref (g.q 2)), (1, .int x1)] → f_Rd_readValueTypes_18 x1 s = some z → W p l e (rmX 2 44) ss m args below meth c H locs 0 0 Q (F0 m 18 ls []) := by
  have ⟨⟨hx, hb, hml, hown, hts⟩, hK, hA, hN⟩ := C
  intro x1 s H locs ls hX hl h
  rw [f_Rd_readValueTypes_18] at h
  refine lv_iconst (v := 0) hx hb d_Rd_readValueTypes_18 (by decide) ?_
  refine lv_istore_n (lv' := [(2, .int 0), (0, .ref (g.q 2)), (1, .int x1)]) hx hb d_Rd_readValueTypes_19 rfl hl (by decide) rfl (fun ls hl => ?_)
  exact w_Rd_readValueTypes_20 C hQ FU x1 0 s H locs ls hX (lv_sub hl [1, 2, 0] rfl) h
set_option maxHeartbeats 4000000 in
set_option maxRecDepth 100000 in
theorem w_Rd_readValueTypes {z : Int32 × St} (C : Cx g A p m c b_Rd_readValueTypes 3 ss args R_Rd) (hQ : ∀ (pc : Nat) (H : Heap) (locs : List Loc) (ls : Array Slot), XW g A ss (wX g z.2) H locs → decode b_Rd_readValueTypes pc = .ok (.ireturn, 1) → W p l e (rmX 2 44) ss m args below meth c H locs 0 0 Q (F0 m pc ls [.int z.1])) : ∀ (s : St) (H : Heap) (locs : List Loc) (ls : Array Slot), XW g A ss (wX g s) H locs → lv_has ls 3 [(0, .ref (g.q 2))] → f_Rd_readValueTypes s = some z → W p l e (rmX 2 44) ss m args below meth c H locs 0 0 Q (F0 m 0 ls []) := by
  have ⟨⟨hx, hb, hml, hown, hts⟩, hK, hA, hN⟩ := C
  intro s H locs ls hX hl h
  rw [f_Rd_readValueTypes] at h
  refine lv_aload_n hx hb d_Rd_readValueTypes_0 rfl (lv_at hl 0 rfl) ?_
  obtain ⟨r2, s1, hc1, h⟩ := bd_e h
  refine x_vI (As := []) (rest := []) C hX (c_Rd_nextUnsigned l g s (r2, s1) hc1) (cw_Rd_85 C.1.2.2.2.2 C.2.2.2 ⟨by decide, by decide⟩) (x_rc C hX wg_2 rfl) rfl hl.1 rfl (lv_room (Nat.le_of_ble_eq_true rfl)) d_Rd_readValueTypes_1 ⟨Nat.le_refl _, Nat.le_refl _⟩ (fun H locs hX => ?_)
  refine lv_istore_n (lv' := [(1, .int r2), (0, .ref (g.q 2))]) hx hb d_Rd_readValueTypes_4 rfl hl (by decide) rfl (fun ls hl => ?_)
  refine lv_iload_n hx hb d_Rd_readValueTypes_5 rfl (lv_at hl 0 rfl) ?_
  refine lv_iconst (v := 4) hx hb d_Rd_readValueTypes_6 (by decide) ?_
  obtain ⟨r3, hc7, h⟩ := bd1_e h
  refine x_sNI (As := [.int r2, .int 4]) (rest := []) C hX (c_X_isAbove l g r2 4 r3 hc7 _) (cw_Rd_88 C.1.2.2.2.2 C.2.2.2 ⟨by decide, by decide⟩) rfl hl.1 rfl (lv_room (Nat.le_of_ble_eq_true rfl)) d_Rd_readValueTypes_7 ⟨Nat.le_refl _, Nat.le_refl _⟩ (fun H locs hX => ?_)
  refine lv_if_eq (tgt := 18) hx hb d_Rd_readValueTypes_10 (by decide) (fun c10 => ?_) (fun c10 => ?_)
  · have h := ite_t c10 h
    exact w_Rd_readValueTypes_18 C hQ r2 s1 H locs ls hX (lv_sub hl [1, 0] rfl) h
  · have h := ite_f c10 h
    refine lv_aload_n hx hb d_Rd_readValueTypes_13 rfl (lv_at hl 1 rfl) ?_
    refine lv_iconst (v := 2) hx hb d_Rd_readValueTypes_14 (by decide) ?_
    obtain ⟨s4, hc15, h⟩ := bd1_e h
    refine x_vV (As := [.int 2]) (rest := []) C hX (c_Rd_refuse l g 2 s1 s4 hc15) (cw_Rd_75 C.1.2.2.2.2 C.2.2.2 ⟨by decide, by decide⟩) (x_rc C hX wg_2 rfl) rfl hl.1 rfl (lv_room (Nat.le_of_ble_eq_true rfl)) d_Rd_readValueTypes_15 ⟨Nat.le_refl _, Nat.le_refl _⟩ (fun H locs hX => ?_)
    exact w_Rd_readValueTypes_18 C hQ r2 s4 H locs ls hX (lv_sub hl [1, 0] rfl) h
end WALK
theorem c_Rd_readValueTypes (l : Launch) (g : GX) (s : St) (z : Int32 × St) (h : f_Rd_readValueTypes s = some z) : MI l g y_Rd_readValueTypes b_Rd_readValueTypes 3 (some .int) 2 44 [.ref (g.q 2)] (wX g s) z.1 (wX g z.2) :=
  MI.mk (own := R_Rd) (by decide) rfl (Nat.le_of_ble_eq_true rfl) fun p e ss m below meth c A Q C hQ ls hX hl => w_Rd_readValueTypes C hQ s _ _ ls hX hl h
-- Rd_readType
def f_Rd_readType (s : St) : Option St :=
    bd1 (f_Rd_expect 96 s) fun s1 =>
    lt1 (s1 10 0 + 1 - 1) fun r2 =>
    lt1 (stp s1 10 0 (s1 10 0 + 1)) fun s3 =>
    bd (f_Rd_readValueTypes s3) fun r5 s4 =>
    lt1 (tSet s4 11 8 2 r2 0 r5) fun s6 =>
    bd (f_Rd_readValueTypes s6) fun r8 s7 =>
    lt1 (tSet s7 11 8 2 r2 1 r8) fun s9 =>
    some s9
section WALK
variable {p : Program} {l : Launch} {e : Env} {ss : State} {m : MethodId} {args : Array Value} {below : List Frame} {meth : Method} {c : Code} {Q : State → Prop} {g : GX} {A : Nat → Prop}
set_option maxHeartbeats 4000000 in
set_option maxRecDepth 100000 in
theorem w_Rd_readType {z : St} (C : Cx g A p m c b_Rd_readType 2 ss args R_Rd) (hQ : ∀ (pc : Nat) (H : Heap) (locs : List Loc) (ls : Array Slot), XW g A ss (wX g z) H locs → decode b_Rd_readType pc = .ok (.return_, 1) → W p l e (rmX 3 66) ss m args below meth c H locs 0 0 Q (F0 m pc ls [])) : ∀ (s : St) (H : Heap) (locs : List Loc) (ls : Array Slot), XW g A ss (wX g s) H locs → lv_has ls 2 [(0, .ref (g.q 2))] → f_Rd_readType s = some z → W p l e (rmX 3 66) ss m args below meth c H locs 0 0 Q (F0 m 0 ls []) := by
  have ⟨⟨hx, hb, hml, hown, hts⟩, hK, hA, hN⟩ := C
  intro s H locs ls hX hl h
  rw [f_Rd_readType] at h
  refine lv_aload_n hx hb d_Rd_readType_0 rfl (lv_at hl 0 rfl) ?_
  refine lv_bipush (v := 96) hx hb d_Rd_readType_1 (by decide) ?_
  obtain ⟨s1, hc3, h⟩ := bd1_e h
  refine x_vV (As := [.int 96]) (rest := []) C hX (c_Rd_expect l g 96 s s1 hc3) (cw_Rd_52 C.1.2.2.2.2 C.2.2.2 ⟨by decide, by decide⟩) (x_rc C hX wg_2 rfl) rfl hl.1 rfl (lv_room (Nat.le_of_ble_eq_true rfl)) d_Rd_readType_3 ⟨Nat.le_refl _, Nat.le_refl _⟩ (fun H locs hX => ?_)
  refine lv_aload_n hx hb d_Rd_readType_6 rfl (lv_at hl 0 rfl) ?_
  refine gf_2_contents C hX fl_Rd_24 d_Rd_readType_7 ?_
  refine gf_1_types C hX fl_Rd_117 d_Rd_readType_10 ?_
  obtain ⟨r2, er2, h⟩ := lt1_e h
  obtain ⟨s3, es3, h⟩ := lt1_e h
  refine x_vI (r := r2) (ws' := wX g s3) (As := []) (rest := []) C hX (by rw [er2, es3]; exact cTabAdd_10 l g s1) (cw_Rd_95 C.1.2.2.2.2 C.2.2.2 ⟨by decide, by decide⟩) (x_rc C hX wg_10 rfl) rfl hl.1 rfl (lv_room (Nat.le_of_ble_eq_true rfl)) d_Rd_readType_13 ⟨Nat.le_refl _, Nat.le_refl _⟩ (fun H locs hX => ?_)
  refine lv_istore_n (lv' := [(1, .int r2), (0, .ref (g.q 2))]) hx hb d_Rd_readType_16 rfl hl (by decide) rfl (fun ls hl => ?_)
  refine lv_aload_n hx hb d_Rd_readType_17 rfl (lv_at hl 1 rfl) ?_
  refine gf_2_contents C hX fl_Rd_24 d_Rd_readType_18 ?_
  refine gf_1_types C hX fl_Rd_117 d_Rd_readType_21 ?_
  refine lv_iload_n hx hb d_Rd_readType_24 rfl (lv_at hl 0 rfl) ?_
  refine lv_iconst (v := 0) hx hb d_Rd_readType_25 (by decide) ?_
  refine lv_aload_n hx hb d_Rd_readType_26 rfl (lv_at hl 1 rfl) ?_
  obtain ⟨r5, s4, hc27, h⟩ := bd_e h
  refine x_vI (As := []) (rest := [.int 0, .int r2, .ref (g.q 10)]) C hX (c_Rd_readValueTypes l g s3 (r5, s4) hc27) (cw_Rd_120 C.1.2.2.2.2 C.2.2.2 ⟨by decide, by decide⟩) (x_rc C hX wg_2 rfl) rfl hl.1 rfl (lv_room (Nat.le_of_ble_eq_true rfl)) d_Rd_readType_27 ⟨Nat.le_refl _, Nat.le_refl _⟩ (fun H locs hX => ?_)
  obtain ⟨s6, es6, h⟩ := lt1_e h
  refine x_vV (ws' := wX g s6) (As := [.int r2, .int 0, .int r5]) (rest := []) C hX (by rw [es6]; exact cTabSet_10 l g s4 r2 0 r5) (cw_Rd_98 C.1.2.2.2.2 C.2.2.2 ⟨by decide, by decide⟩) (x_rc C hX wg_10 rfl) rfl hl.1 rfl (lv_room (Nat.le_of_ble_eq_true rfl)) d_Rd_readType_30 ⟨Nat.le_refl _, Nat.le_refl _⟩ (fun H locs hX => ?_)
  refine lv_aload_n hx hb d_Rd_readType_33 rfl (lv_at hl 1 rfl) ?_
  refine gf_2_contents C hX fl_Rd_24 d_Rd_readType_34 ?_
  refine gf_1_types C hX fl_Rd_117 d_Rd_readType_37 ?_
  refine lv_iload_n hx hb d_Rd_readType_40 rfl (lv_at hl 0 rfl) ?_
  refine lv_iconst (v := 1) hx hb d_Rd_readType_41 (by decide) ?_
  refine lv_aload_n hx hb d_Rd_readType_42 rfl (lv_at hl 1 rfl) ?_
  obtain ⟨r8, s7, hc43, h⟩ := bd_e h
  refine x_vI (As := []) (rest := [.int 1, .int r2, .ref (g.q 10)]) C hX (c_Rd_readValueTypes l g s6 (r8, s7) hc43) (cw_Rd_120 C.1.2.2.2.2 C.2.2.2 ⟨by decide, by decide⟩) (x_rc C hX wg_2 rfl) rfl hl.1 rfl (lv_room (Nat.le_of_ble_eq_true rfl)) d_Rd_readType_43 ⟨Nat.le_refl _, Nat.le_refl _⟩ (fun H locs hX => ?_)
  obtain ⟨s9, es9, h⟩ := lt1_e h
  refine x_vV (ws' := wX g s9) (As := [.int r2, .int 1, .int r8]) (rest := []) C hX (by rw [es9]; exact cTabSet_10 l g s7 r2 1 r8) (cw_Rd_98 C.1.2.2.2.2 C.2.2.2 ⟨by decide, by decide⟩) (x_rc C hX wg_10 rfl) rfl hl.1 rfl (lv_room (Nat.le_of_ble_eq_true rfl)) d_Rd_readType_46 ⟨Nat.le_refl _, Nat.le_refl _⟩ (fun H locs hX => ?_)
  obtain rfl := so1 h
  exact hQ _ H locs ls hX d_Rd_readType_49
end WALK
theorem c_Rd_readType (l : Launch) (g : GX) (s : St) (z : St) (h : f_Rd_readType s = some z) : MV l g y_Rd_readType b_Rd_readType 2 none 3 66 [.ref (g.q 2)] (wX g s) (wX g z) :=
  MV.mk (own := R_Rd) (by decide) rfl (Nat.le_of_ble_eq_true rfl) fun p e ss m below meth c A Q C hQ ls hX hl => w_Rd_readType C hQ s _ _ ls hX hl h
-- Rd_readSection
def f_Rd_readSection_218 (x1 : Int32) (x2 : Int32) (x3 : Int32) (s : St) : Option St :=
    lt1 (stp s 2 3 (s 2 1)) fun s1 =>
    some s1
def f_Rd_readSection_202 (x1 : Int32) (x2 : Int32) (x3 : Int32) (s : St) : Option St :=
    if s 2 2 = s 2 3 then
      f_Rd_readSection_218 x1 x2 x3 s
    else
      bd1 (f_Rd_refuse 1 s) fun s1 =>
      f_Rd_readSection_218 x1 x2 x3 s1
def f_Rd_readSection_196 (k56 : Int32 → Int32 → Int32 → St → Option St) (x1 : Int32) (x2 : Int32) (x3 : Int32) (s : St) : Option St :=
    lt1 (x3 + (1)) fun v1 =>
    k56 x1 x2 v1 s
def f_Rd_readSection_192 (k56 : Int32 → Int32 → Int32 → St → Option St) (x1 : Int32) (x2 : Int32) (x3 : Int32) (s : St) : Option St :=
    bd1 (f_Rd_readData s) fun s1 =>
    f_Rd_readSection_196 k56 x1 x2 x3 s1
def f_Rd_readSection_56 : Nat → Int32 → Int32 → Int32 → St → Option St
  | 0, _, _, _, _ => none
  | n + 1, x1, x2, x3, s =>
    if 8 ≤ x3 then
      f_Rd_readSection_202 x1 x2 x3 s
    else
      if x2 ≤ x3 then
        f_Rd_readSection_202 x1 x2 x3 s
      else
        if s 2 5 = 0 then
          if x1 = 1 then
            bd1 (f_Rd_readType s) fun s1 =>
            f_Rd_readSection_196 (f_Rd_readSection_56 n) x1 x2 x3 s1
          else if x1 = 3 then
            lt1 (s 12 0 + 1 - 1) fun r2 =>
            lt1 (stp s 12 0 (s 12 0 + 1)) fun s3 =>
            bd (f_Rd_nextUnsigned s3) fun r5 s4 =>
            lt1 (tSet s4 13 8 4 r2 0 r5) fun s6 =>
            f_Rd_readSection_196 (f_Rd_readSection_56 n) x1 x2 x3 s6
          else if x1 = 5 then
            bd1 (f_Rd_readMemory s) fun s7 =>
            f_Rd_readSection_196 (f_Rd_readSection_56 n) x1 x2 x3 s7
          else if x1 = 6 then
            bd1 (f_Rd_readGlobal s) fun s8 =>
            f_Rd_readSection_196 (f_Rd_readSection_56 n) x1 x2 x3 s8
          else if x1 = 7 then
            bd1 (f_Rd_readExport s) fun s9 =>
            f_Rd_readSection_196 (f_Rd_readSection_56 n) x1 x2 x3 s9
          else if x1 = 10 then
            bd1 (f_Rd_readBody x3 s) fun s10 =>
            f_Rd_readSection_196 (f_Rd_readSection_56 n) x1 x2 x3 s10
          else 
            f_Rd_readSection_192 (f_Rd_readSection_56 n) x1 x2 x3 s
        else
          f_Rd_readSection_202 x1 x2 x3 s
def f_Rd_readSection_54 (x1 : Int32) (x2 : Int32) (s : St) : Option St :=
    f_Rd_readSection_56 FU x1 x2 0 s
def f_Rd_readSection_38 (x1 : Int32) (x2 : Int32) (s : St) : Option St :=
    bd1 (f_Rd_mostOf x1) fun r1 =>
    bd1 (f_X_isAbove x2 r1) fun r2 =>
    if r2 = 0 then
      f_Rd_readSection_54 x1 x2 s
    else
      bd1 (f_Rd_refuse 2 s) fun s3 =>
      f_Rd_readSection_54 x1 x2 s3
def f_Rd_readSection (x1 : Int32) (s : St) : Option St :=
    bd (f_Rd_nextEnd s) fun r2 s1 =>
    lt1 (stp s1 2 3 r2) fun s3 =>
    bd (f_Rd_nextUnsigned s3) fun r5 s4 =>
    if x1 = 10 then
      lt1 (s4 12 0) fun r6 =>
      if r5 = r6 then
        f_Rd_readSection_38 x1 r5 s4
      else
        bd1 (f_Rd_refuse 1 s4) fun s7 =>
        f_Rd_readSection_38 x1 r5 s7
    else
      f_Rd_readSection_38 x1 r5 s4
section WALK
variable {p : Program} {l : Launch} {e : Env} {ss : State} {m : MethodId} {args : Array Value} {below : List Frame} {meth : Method} {c : Code} {Q : State → Prop} {g : GX} {A : Nat → Prop}
set_option maxHeartbeats 4000000 in
set_option maxRecDepth 100000 in
theorem w_Rd_readSection_218 {z : St} (C : Cx g A p m c b_Rd_readSection 4 ss args R_Rd) (hQ : ∀ (pc : Nat) (H : Heap) (locs : List Loc) (ls : Array Slot), XW g A ss (wX g z) H locs → decode b_Rd_readSection pc = .ok (.return_, 1) → W p l e (rmX 5 112) ss m args below meth c H locs 0 0 Q (F0 m pc ls [])) : ∀ (x1 : Int32) (x2 : Int32) (x3 : Int32) (s : St) (H : Heap) (locs : List Loc) (ls : Array Slot), XW g A ss (wX g s) H locs → lv_has ls 4 [(0, .ref (g.q 2)), (1, .int x1), (2, .int x2), (3, .int x3)] → f_Rd_readSection_218 x1 x2 x3 s = some z → W p l e (rmX 5 112) ss m args below meth c H locs 0 0 Q (F0 m 218 ls []) := by
  have ⟨⟨hx, hb, hml, hown, hts⟩, hK, hA, hN⟩ := C
  intro x1 x2 x3 s H locs ls hX hl h
  rw [f_Rd_readSection_218] at h
  refine lv_aload_n hx hb d_Rd_readSection_218 rfl (lv_at hl 0 rfl) ?_
  refine lv_aload_n hx hb d_Rd_readSection_219 rfl (lv_at hl 0 rfl) ?_
  refine gf_2_fed C hX fl_Rd_28 d_Rd_readSection_220 ?_
  obtain ⟨s1, es1, h⟩ := lt1_e h
  refine pf_2_bound C hX fl_Rd_40 d_Rd_readSection_223 (fun H locs hX => ?_)
  rw [← es1] at hX
  obtain rfl := so1 h
  exact hQ _ H locs ls hX d_Rd_readSection_226
set_option maxHeartbeats 4000000 in
set_option maxRecDepth 100000 in
theorem w_Rd_readSection_202 {z : St} (C : Cx g A p m c b_Rd_readSection 4 ss args R_Rd) (hQ : ∀ (pc : Nat) (H : Heap) (locs : List Loc) (ls : Array Slot), XW g A ss (wX g z) H locs → decode b_Rd_readSection pc = .ok (.return_, 1) → W p l e (rmX 5 112) ss m args below meth c H locs 0 0 Q (F0 m pc ls [])) : ∀ (x1 : Int32) (x2 : Int32) (x3 : Int32) (s : St) (H : Heap) (locs : List Loc) (ls : Array Slot), XW g A ss (wX g s) H locs → lv_has ls 4 [(0, .ref (g.q 2)), (1, .int x1), (2, .int x2), (3, .int x3)] → f_Rd_readSection_202 x1 x2 x3 s = some z → W p l e (rmX 5 112) ss m args below meth c H locs 0 0 Q (F0 m 202 ls []) := by
  have ⟨⟨hx, hb, hml, hown, hts⟩, hK, hA, hN⟩ := C
  intro x1 x2 x3 s H locs ls hX hl h
  rw [f_Rd_readSection_202] at h
  refine lv_aload_n hx hb d_Rd_readSection_202 rfl (lv_at hl 0 rfl) ?_
  refine gf_2_place C hX fl_Rd_37 d_Rd_readSection_203 ?_
  refine lv_aload_n hx hb d_Rd_readSection_206 rfl (lv_at hl 0 rfl) ?_
  refine gf_2_bound C hX fl_Rd_40 d_Rd_readSection_207 ?_
  refine lv_icmp_eq (tgt := 218) hx hb d_Rd_readSection_210 (by decide) (fun c210 => ?_) (fun c210 => ?_)
  · have h := ite_t c210 h
    exact w_Rd_readSection_218 C hQ x1 x2 x3 s H locs ls hX hl h
  · have h := ite_f c210 h
    refine lv_aload_n hx hb d_Rd_readSection_213 rfl (lv_at hl 0 rfl) ?_
    refine lv_iconst (v := 1) hx hb d_Rd_readSection_214 (by decide) ?_
    obtain ⟨s1, hc215, h⟩ := bd1_e h
    refine x_vV (As := [.int 1]) (rest := []) C hX (c_Rd_refuse l g 1 s s1 hc215) (cw_Rd_75 C.1.2.2.2.2 C.2.2.2 ⟨by decide, by decide⟩) (x_rc C hX wg_2 rfl) rfl hl.1 rfl (lv_room (Nat.le_of_ble_eq_true rfl)) d_Rd_readSection_215 ⟨Nat.le_refl _, Nat.le_refl _⟩ (fun H locs hX => ?_)
    exact w_Rd_readSection_218 C hQ x1 x2 x3 s1 H locs ls hX hl h
set_option maxHeartbeats 4000000 in
set_option maxRecDepth 100000 in
theorem w_Rd_readSection_196 {z : St} (C : Cx g A p m c b_Rd_readSection 4 ss args R_Rd) (hQ : ∀ (pc : Nat) (H : Heap) (locs : List Loc) (ls : Array Slot), XW g A ss (wX g z) H locs → decode b_Rd_readSection pc = .ok (.return_, 1) → W p l e (rmX 5 112) ss m args below meth c H locs 0 0 Q (F0 m pc ls [])) (k56 : Int32 → Int32 → Int32 → St → Option St) (hk56 : ∀ (x1 : Int32) (x2 : Int32) (x3 : Int32) (s : St) (H : Heap) (locs : List Loc) (ls : Array Slot), XW g A ss (wX g s) H locs → lv_has ls 4 [(0, .ref (g.q 2)), (1, .int x1), (2, .int x2), (3, .int x3)] → k56 x1 x2 x3 s = some z → W p l e (rmX 5 112) ss m args below meth c H locs 0 0 Q (F0 m 56 ls [])) : ∀ (x1 : Int32) (x2 : Int32) (x3 : Int32) (s : St) (H : Heap) (locs : List Loc) (ls : Array Slot), XW g A ss (wX g s) H locs → lv_has ls 4 [(0, .ref (g.q 2)), (1, .int x1), (2, .int x2), (3, .int x3)] → f_Rd_readSection_196 k56 x1 x2 x3 s = some z → W p l e (rmX 5 112) ss m args below meth c H locs 0 0 Q (F0 m 196 ls []) := by
  have ⟨⟨hx, hb, hml, hown, hts⟩, hK, hA, hN⟩ := C
  intro x1 x2 x3 s H locs ls hX hl h
  rw [f_Rd_readSection_196] at h
  obtain ⟨v1, ev1, h⟩ := lt1_e h
  refine lv_iinc (v := v1) (lv' := [(3, .int v1), (0, .ref (g.q 2)), (1, .int x1), (2, .int x2)]) hx hb d_Rd_readSection_196 hl (k := 3) rfl (by rw [ev1]; rfl) (by decide) rfl (fun ls hl => ?_)
  refine lv_goto (tgt := 56) hx hb d_Rd_readSection_199 (by decide) ?_
  exact hk56 x1 x2 v1 s H locs ls hX (lv_sub hl [1, 2, 3, 0] rfl) h
set_option maxHeartbeats 4000000 in
set_option maxRecDepth 100000 in
theorem w_Rd_readSection_192 {z : St} (C : Cx g A p m c b_Rd_readSection 4 ss args R_Rd) (hQ : ∀ (pc : Nat) (H : Heap) (locs : List Loc) (ls : Array Slot), XW g A ss (wX g z) H locs → decode b_Rd_readSection pc = .ok (.return_, 1) → W p l e (rmX 5 112) ss m args below meth c H locs 0 0 Q (F0 m pc ls [])) (k56 : Int32 → Int32 → Int32 → St → Option St) (hk56 : ∀ (x1 : Int32) (x2 : Int32) (x3 : Int32) (s : St) (H : Heap) (locs : List Loc) (ls : Array Slot), XW g A ss (wX g s) H locs → lv_has ls 4 [(0, .ref (g.q 2)), (1, .int x1), (2, .int x2), (3, .int x3)] → k56 x1 x2 x3 s = some z → W p l e (rmX 5 112) ss m args below meth c H locs 0 0 Q (F0 m 56 ls [])) : ∀ (x1 : Int32) (x2 : Int32) (x3 : Int32) (s : St) (H : Heap) (locs : List Loc) (ls : Array Slot), XW g A ss (wX g s) H locs → lv_has ls 4 [(0, .ref (g.q 2)), (1, .int x1), (2, .int x2), (3, .int x3)] → f_Rd_readSection_192 k56 x1 x2 x3 s = some z → W p l e (rmX 5 112) ss m args below meth c H locs 0 0 Q (F0 m 192 ls []) := by
  have ⟨⟨hx, hb, hml, hown, hts⟩, hK, hA, hN⟩ := C
  intro x1 x2 x3 s H locs ls hX hl h
  rw [f_Rd_readSection_192] at h
  refine lv_aload_n hx hb d_Rd_readSection_192 rfl (lv_at hl 0 rfl) ?_
  obtain ⟨s1, hc193, h⟩ := bd1_e h
  refine x_vV (As := []) (rest := []) C hX (c_Rd_readData l g s s1 hc193) (cw_Rd_114 C.1.2.2.2.2 C.2.2.2 ⟨by decide, by decide⟩) (x_rc C hX wg_2 rfl) rfl hl.1 rfl (lv_room (Nat.le_of_ble_eq_true rfl)) d_Rd_readSection_193 ⟨Nat.le_refl _, Nat.le_refl _⟩ (fun H locs hX => ?_)
  exact w_Rd_readSection_196 C hQ k56 hk56 x1 x2 x3 s1 H locs ls hX hl h
set_option maxHeartbeats 4000000 in
set_option maxRecDepth 100000 in
theorem w_Rd_readSection_56 {z : St} (C : Cx g A p m c b_Rd_readSection 4 ss args R_Rd) (hQ : ∀ (pc : Nat) (H : Heap) (locs : List Loc) (ls : Array Slot), XW g A ss (wX g z) H locs → decode b_Rd_readSection pc = .ok (.return_, 1) → W p l e (rmX 5 112) ss m args below meth c H locs 0 0 Q (F0 m pc ls [])) (n : Nat) : ∀ (x1 : Int32) (x2 : Int32) (x3 : Int32) (s : St) (H : Heap) (locs : List Loc) (ls : Array Slot), XW g A ss (wX g s) H locs → lv_has ls 4 [(0, .ref (g.q 2)), (1, .int x1), (2, .int x2), (3, .int x3)] → f_Rd_readSection_56 n x1 x2 x3 s = some z → W p l e (rmX 5 112) ss m args below meth c H locs 0 0 Q (F0 m 56 ls []) := by
  have ⟨⟨hx, hb, hml, hown, hts⟩, hK, hA, hN⟩ := C
  induction n with
  | zero => intro x1 x2 x3 s H locs ls hX hl h; cases h
  | succ n ih =>
    intro x1 x2 x3 s H locs ls hX hl h
    rw [f_Rd_readSection_56] at h
    refine lv_iload_n hx hb d_Rd_readSection_56 rfl (lv_at hl 3 rfl) ?_
    refine lv_bipush (v := 8) hx hb d_Rd_readSection_57 (by decide) ?_
    refine lv_icmp_ge (tgt := 202) hx hb d_Rd_readSection_59 (by decide) (fun c59 => ?_) (fun c59 => ?_)
    · have h := ite_t c59 h
      exact w_Rd_readSection_202 C hQ x1 x2 x3 s H locs ls hX hl h
    · have h := ite_f c59 h
      refine lv_iload_n hx hb d_Rd_readSection_62 rfl (lv_at hl 3 rfl) ?_
      refine lv_iload_n hx hb d_Rd_readSection_63 rfl (lv_at hl 2 rfl) ?_
      refine lv_icmp_ge (tgt := 202) hx hb d_Rd_readSection_64 (by decide) (fun c64 => ?_) (fun c64 => ?_)
      · have h := ite_t c64 h
        exact w_Rd_readSection_202 C hQ x1 x2 x3 s H locs ls hX hl h
      · have h := ite_f c64 h
        refine lv_aload_n hx hb d_Rd_readSection_67 rfl (lv_at hl 0 rfl) ?_
        refine gf_2_fault C hX fl_Rd_46 d_Rd_readSection_68 ?_
        refine lv_if_ne (tgt := 202) hx hb d_Rd_readSection_71 (by decide) (fun c71 => ?_) (fun c71 => ?_)
        · have h := ite_f c71 h
          exact w_Rd_readSection_202 C hQ x1 x2 x3 s H locs ls hX hl h
        · have h := ite_t c71 h
          refine lv_iload_n hx hb d_Rd_readSection_74 rfl (lv_at hl 1 rfl) ?_
          by_cases c75_0 : x1 = 1
          · have h := ite_t c75_0 h
            refine lv_tableIn (tgt := 128) hx hb d_Rd_readSection_75 (by rw [c75_0]; decide) (by rw [c75_0]; decide) (by rw [c75_0]; rfl) (by decide) ?_
            refine lv_aload_n hx hb d_Rd_readSection_128 rfl (lv_at hl 0 rfl) ?_
            obtain ⟨s1, hc129, h⟩ := bd1_e h
            refine x_vV (As := []) (rest := []) C hX (c_Rd_readType l g s s1 hc129) (cw_Rd_92 C.1.2.2.2.2 C.2.2.2 ⟨by decide, by decide⟩) (x_rc C hX wg_2 rfl) rfl hl.1 rfl (lv_room (Nat.le_of_ble_eq_true rfl)) d_Rd_readSection_129 ⟨Nat.le_refl _, Nat.le_refl _⟩ (fun H locs hX => ?_)
            refine lv_goto (tgt := 196) hx hb d_Rd_readSection_132 (by decide) ?_
            exact w_Rd_readSection_196 C hQ (f_Rd_readSection_56 n) ih x1 x2 x3 s1 H locs ls hX hl h
          have h := ite_f c75_0 h
          by_cases c75_1 : x1 = 3
          · have h := ite_t c75_1 h
            refine lv_tableIn (tgt := 135) hx hb d_Rd_readSection_75 (by rw [c75_1]; decide) (by rw [c75_1]; decide) (by rw [c75_1]; rfl) (by decide) ?_
            refine lv_aload_n hx hb d_Rd_readSection_135 rfl (lv_at hl 0 rfl) ?_
            refine gf_2_contents C hX fl_Rd_24 d_Rd_readSection_136 ?_
            refine gf_1_functions C hX fl_Rd_66 d_Rd_readSection_139 ?_
            refine lv_aload_n hx hb d_Rd_readSection_142 rfl (lv_at hl 0 rfl) ?_
            refine gf_2_contents C hX fl_Rd_24 d_Rd_readSection_143 ?_
            refine gf_1_functions C hX fl_Rd_66 d_Rd_readSection_146 ?_
            obtain ⟨r2, er2, h⟩ := lt1_e h
            obtain ⟨s3, es3, h⟩ := lt1_e h
            refine x_vI (r := r2) (ws' := wX g s3) (As := []) (rest := [.ref (g.q 12)]) C hX (by rw [er2, es3]; exact cTabAdd_12 l g s) (cw_Rd_95 C.1.2.2.2.2 C.2.2.2 ⟨by decide, by decide⟩) (x_rc C hX wg_12 rfl) rfl hl.1 rfl (lv_room (Nat.le_of_ble_eq_true rfl)) d_Rd_readSection_149 ⟨Nat.le_refl _, Nat.le_refl _⟩ (fun H locs hX => ?_)
            refine lv_iconst (v := 0) hx hb d_Rd_readSection_152 (by decide) ?_
            refine lv_aload_n hx hb d_Rd_readSection_153 rfl (lv_at hl 0 rfl) ?_
            obtain ⟨r5, s4, hc154, h⟩ := bd_e h
            refine x_vI (As := []) (rest := [.int 0, .int r2, .ref (g.q 12)]) C hX (c_Rd_nextUnsigned l g s3 (r5, s4) hc154) (cw_Rd_85 C.1.2.2.2.2 C.2.2.2 ⟨by decide, by decide⟩) (x_rc C hX wg_2 rfl) rfl hl.1 rfl (lv_room (Nat.le_of_ble_eq_true rfl)) d_Rd_readSection_154 ⟨Nat.le_refl _, Nat.le_refl _⟩ (fun H locs hX => ?_)
            obtain ⟨s6, es6, h⟩ := lt1_e h
            refine x_vV (ws' := wX g s6) (As := [.int r2, .int 0, .int r5]) (rest := []) C hX (by rw [es6]; exact cTabSet_12 l g s4 r2 0 r5) (cw_Rd_98 C.1.2.2.2.2 C.2.2.2 ⟨by decide, by decide⟩) (x_rc C hX wg_12 rfl) rfl hl.1 rfl (lv_room (Nat.le_of_ble_eq_true rfl)) d_Rd_readSection_157 ⟨Nat.le_refl _, Nat.le_refl _⟩ (fun H locs hX => ?_)
            refine lv_goto (tgt := 196) hx hb d_Rd_readSection_160 (by decide) ?_
            exact w_Rd_readSection_196 C hQ (f_Rd_readSection_56 n) ih x1 x2 x3 s6 H locs ls hX hl h
          have h := ite_f c75_1 h
          by_cases c75_2 : x1 = 5
          · have h := ite_t c75_2 h
            refine lv_tableIn (tgt := 163) hx hb d_Rd_readSection_75 (by rw [c75_2]; decide) (by rw [c75_2]; decide) (by rw [c75_2]; rfl) (by decide) ?_
            refine lv_aload_n hx hb d_Rd_readSection_163 rfl (lv_at hl 0 rfl) ?_
            obtain ⟨s7, hc164, h⟩ := bd1_e h
            refine x_vV (As := []) (rest := []) C hX (c_Rd_readMemory l g s s7 hc164) (cw_Rd_102 C.1.2.2.2.2 C.2.2.2 ⟨by decide, by decide⟩) (x_rc C hX wg_2 rfl) rfl hl.1 rfl (lv_room (Nat.le_of_ble_eq_true rfl)) d_Rd_readSection_164 ⟨Nat.le_refl _, Nat.le_refl _⟩ (fun H locs hX => ?_)
            refine lv_goto (tgt := 196) hx hb d_Rd_readSection_167 (by decide) ?_
            exact w_Rd_readSection_196 C hQ (f_Rd_readSection_56 n) ih x1 x2 x3 s7 H locs ls hX hl h
          have h := ite_f c75_2 h
          by_cases c75_3 : x1 = 6
          · have h := ite_t c75_3 h
            refine lv_tableIn (tgt := 170) hx hb d_Rd_readSection_75 (by rw [c75_3]; decide) (by rw [c75_3]; decide) (by rw [c75_3]; rfl) (by decide) ?_
            refine lv_aload_n hx hb d_Rd_readSection_170 rfl (lv_at hl 0 rfl) ?_
            obtain ⟨s8, hc171, h⟩ := bd1_e h
            refine x_vV (As := []) (rest := []) C hX (c_Rd_readGlobal l g s s8 hc171) (cw_Rd_105 C.1.2.2.2.2 C.2.2.2 ⟨by decide, by decide⟩) (x_rc C hX wg_2 rfl) rfl hl.1 rfl (lv_room (Nat.le_of_ble_eq_true rfl)) d_Rd_readSection_171 ⟨Nat.le_refl _, Nat.le_refl _⟩ (fun H locs hX => ?_)
            refine lv_goto (tgt := 196) hx hb d_Rd_readSection_174 (by decide) ?_
            exact w_Rd_readSection_196 C hQ (f_Rd_readSection_56 n) ih x1 x2 x3 s8 H locs ls hX hl h
          have h := ite_f c75_3 h
          by_cases c75_4 : x1 = 7
          · have h := ite_t c75_4 h
            refine lv_tableIn (tgt := 177) hx hb d_Rd_readSection_75 (by rw [c75_4]; decide) (by rw [c75_4]; decide) (by rw [c75_4]; rfl) (by decide) ?_
            refine lv_aload_n hx hb d_Rd_readSection_177 rfl (lv_at hl 0 rfl) ?_
            obtain ⟨s9, hc178, h⟩ := bd1_e h
            refine x_vV (As := []) (rest := []) C hX (c_Rd_readExport l g s s9 hc178) (cw_Rd_108 C.1.2.2.2.2 C.2.2.2 ⟨by decide, by decide⟩) (x_rc C hX wg_2 rfl) rfl hl.1 rfl (lv_room (Nat.le_of_ble_eq_true rfl)) d_Rd_readSection_178 ⟨Nat.le_refl _, Nat.le_refl _⟩ (fun H locs hX => ?_)
            refine lv_goto (tgt := 196) hx hb d_Rd_readSection_181 (by decide) ?_
            exact w_Rd_readSection_196 C hQ (f_Rd_readSection_56 n) ih x1 x2 x3 s9 H locs ls hX hl h
          have h := ite_f c75_4 h
          by_cases c75_5 : x1 = 10
          · have h := ite_t c75_5 h
            refine lv_tableIn (tgt := 184) hx hb d_Rd_readSection_75 (by rw [c75_5]; decide) (by rw [c75_5]; decide) (by rw [c75_5]; rfl) (by decide) ?_
            refine lv_aload_n hx hb d_Rd_readSection_184 rfl (lv_at hl 0 rfl) ?_
            refine lv_iload_n hx hb d_Rd_readSection_185 rfl (lv_at hl 3 rfl) ?_
            obtain ⟨s10, hc186, h⟩ := bd1_e h
            refine x_vV (As := [.int x3]) (rest := []) C hX (c_Rd_readBody l g x3 s s10 hc186) (cw_Rd_111 C.1.2.2.2.2 C.2.2.2 ⟨by decide, by decide⟩) (x_rc C hX wg_2 rfl) rfl hl.1 rfl (lv_room (Nat.le_of_ble_eq_true rfl)) d_Rd_readSection_186 ⟨Nat.le_refl _, Nat.le_refl _⟩ (fun H locs hX => ?_)
            refine lv_goto (tgt := 196) hx hb d_Rd_readSection_189 (by decide) ?_
            exact w_Rd_readSection_196 C hQ (f_Rd_readSection_56 n) ih x1 x2 x3 s10 H locs ls hX hl h
          have h := ite_f c75_5 h
          by_cases c75_g2 : x1 = 2
          · refine lv_tableIn (tgt := 192) hx hb d_Rd_readSection_75 (by rw [c75_g2]; decide) (by rw [c75_g2]; decide) (by rw [c75_g2]; rfl) (by decide) ?_
            exact w_Rd_readSection_192 C hQ (f_Rd_readSection_56 n) ih x1 x2 x3 s H locs ls hX hl h
          by_cases c75_g4 : x1 = 4
          · refine lv_tableIn (tgt := 192) hx hb d_Rd_readSection_75 (by rw [c75_g4]; decide) (by rw [c75_g4]; decide) (by rw [c75_g4]; rfl) (by decide) ?_
            exact w_Rd_readSection_192 C hQ (f_Rd_readSection_56 n) ih x1 x2 x3 s H locs ls hX hl h
          by_cases c75_g8 : x1 = 8
          · refine lv_tableIn (tgt := 192) hx hb d_Rd_readSection_75 (by rw [c75_g8]; decide) (by rw [c75_g8]; decide) (by rw [c75_g8]; rfl) (by decide) ?_
            exact w_Rd_readSection_192 C hQ (f_Rd_readSection_56 n) ih x1 x2 x3 s H locs ls hX hl h
          by_cases c75_g9 : x1 = 9
          · refine lv_tableIn (tgt := 192) hx hb d_Rd_readSection_75 (by rw [c75_g9]; decide) (by rw [c75_g9]; decide) (by rw [c75_g9]; rfl) (by decide) ?_
            exact w_Rd_readSection_192 C hQ (f_Rd_readSection_56 n) ih x1 x2 x3 s H locs ls hX hl h
          have hz := And.intro trivial trivial
          have hn0 := lv_neT c75_0 (a := 1) (by decide)
          have hn1 := lv_neT c75_1 (a := 3) (by decide)
          have hn2 := lv_neT c75_2 (a := 5) (by decide)
          have hn3 := lv_neT c75_3 (a := 6) (by decide)
          have hn4 := lv_neT c75_4 (a := 7) (by decide)
          have hn5 := lv_neT c75_5 (a := 10) (by decide)
          have hn6 := lv_neT c75_g2 (a := 2) (by decide)
          have hn7 := lv_neT c75_g4 (a := 4) (by decide)
          have hn8 := lv_neT c75_g8 (a := 8) (by decide)
          have hn9 := lv_neT c75_g9 (a := 9) (by decide)
          refine lv_tableOut (tgt := 192) hx hb d_Rd_readSection_75 (by omega) (by decide) ?_
          exact w_Rd_readSection_192 C hQ (f_Rd_readSection_56 n) ih x1 x2 x3 s H locs ls hX hl h
set_option maxHeartbeats 4000000 in
set_option maxRecDepth 100000 in
theorem w_Rd_readSection_54 {z : St} (C : Cx g A p m c b_Rd_readSection 4 ss args R_Rd) (hQ : ∀ (pc : Nat) (H : Heap) (locs : List Loc) (ls : Array Slot), XW g A ss (wX g z) H locs → decode b_Rd_readSection pc = .ok (.return_, 1) → W p l e (rmX 5 112) ss m args below meth c H locs 0 0 Q (F0 m pc ls [])) : ∀ (x1 : Int32) (x2 : Int32) (s : St) (H : Heap) (locs : List Loc) (ls : Array Slot), XW g A ss (wX g s) H locs → lv_has ls 4 [(0, .ref (g.q 2)), (1, .int x1), (2, .int x2)] → f_Rd_readSection_54 x1 x2 s = some z → W p l e (rmX 5 112) ss m args below meth c H locs 0 0 Q (F0 m 54 ls []) := by
  have ⟨⟨hx, hb, hml, hown, hts⟩, hK, hA, hN⟩ := C
  intro x1 x2 s H locs ls hX hl h
  rw [f_Rd_readSection_54] at h
  refine lv_iconst (v := 0) hx hb d_Rd_readSection_54 (by decide) ?_
  refine lv_istore_n (lv' := [(3, .int 0), (0, .ref (g.q 2)), (1, .int x1), (2, .int x2)]) hx hb d_Rd_readSection_55 rfl hl (by decide) rfl (fun ls hl => ?_)
  exact w_Rd_readSection_56 C hQ FU x1 x2 0 s H locs ls hX (lv_sub hl [1, 2, 3, 0] rfl) h
set_option maxHeartbeats 4000000 in
set_option maxRecDepth 100000 in
theorem w_Rd_readSection_38 {z : St} (C : Cx g A p m c b_Rd_readSection 4 ss args R_Rd) (hQ : ∀ (pc : Nat) (H : Heap) (locs : List Loc) (ls : Array Slot), XW g A ss (wX g z) H locs → decode b_Rd_readSection pc = .ok (.return_, 1) → W p l e (rmX 5 112) ss m args below meth c H locs 0 0 Q (F0 m pc ls [])) : ∀ (x1 : Int32) (x2 : Int32) (s : St) (H : Heap) (locs : List Loc) (ls : Array Slot), XW g A ss (wX g s) H locs → lv_has ls 4 [(0, .ref (g.q 2)), (1, .int x1), (2, .int x2)] → f_Rd_readSection_38 x1 x2 s = some z → W p l e (rmX 5 112) ss m args below meth c H locs 0 0 Q (F0 m 38 ls []) := by
  have ⟨⟨hx, hb, hml, hown, hts⟩, hK, hA, hN⟩ := C
  intro x1 x2 s H locs ls hX hl h
  rw [f_Rd_readSection_38] at h
  refine lv_iload_n hx hb d_Rd_readSection_38 rfl (lv_at hl 2 rfl) ?_
  refine lv_iload_n hx hb d_Rd_readSection_39 rfl (lv_at hl 1 rfl) ?_
  obtain ⟨r1, hc40, h⟩ := bd1_e h
  refine x_sI (As := [.int x1]) (rest := [.int x2]) C hX (c_Rd_mostOf l g x1 r1 hc40 _) (cw_Rd_78 C.1.2.2.2.2 C.2.2.2 ⟨by decide, by decide⟩) rfl hl.1 rfl (lv_room (Nat.le_of_ble_eq_true rfl)) d_Rd_readSection_40 ⟨Nat.le_refl _, Nat.le_refl _⟩ (fun H locs hX => ?_)
  obtain ⟨r2, hc43, h⟩ := bd1_e h
  refine x_sNI (As := [.int x2, .int r1]) (rest := []) C hX (c_X_isAbove l g x2 r1 r2 hc43 _) (cw_Rd_88 C.1.2.2.2.2 C.2.2.2 ⟨by decide, by decide⟩) rfl hl.1 rfl (lv_room (Nat.le_of_ble_eq_true rfl)) d_Rd_readSection_43 ⟨Nat.le_refl _, Nat.le_refl _⟩ (fun H locs hX => ?_)
  refine lv_if_eq (tgt := 54) hx hb d_Rd_readSection_46 (by decide) (fun c46 => ?_) (fun c46 => ?_)
  · have h := ite_t c46 h
    exact w_Rd_readSection_54 C hQ x1 x2 s H locs ls hX hl h
  · have h := ite_f c46 h
    refine lv_aload_n hx hb d_Rd_readSection_49 rfl (lv_at hl 0 rfl) ?_
    refine lv_iconst (v := 2) hx hb d_Rd_readSection_50 (by decide) ?_
    obtain ⟨s3, hc51, h⟩ := bd1_e h
    refine x_vV (As := [.int 2]) (rest := []) C hX (c_Rd_refuse l g 2 s s3 hc51) (cw_Rd_75 C.1.2.2.2.2 C.2.2.2 ⟨by decide, by decide⟩) (x_rc C hX wg_2 rfl) rfl hl.1 rfl (lv_room (Nat.le_of_ble_eq_true rfl)) d_Rd_readSection_51 ⟨Nat.le_refl _, Nat.le_refl _⟩ (fun H locs hX => ?_)
    exact w_Rd_readSection_54 C hQ x1 x2 s3 H locs ls hX hl h
set_option maxHeartbeats 4000000 in
set_option maxRecDepth 100000 in
theorem w_Rd_readSection {z : St} (C : Cx g A p m c b_Rd_readSection 4 ss args R_Rd) (hQ : ∀ (pc : Nat) (H : Heap) (locs : List Loc) (ls : Array Slot), XW g A ss (wX g z) H locs → decode b_Rd_readSection pc = .ok (.return_, 1) → W p l e (rmX 5 112) ss m args below meth c H locs 0 0 Q (F0 m pc ls [])) : ∀ (x1 : Int32) (s : St) (H : Heap) (locs : List Loc) (ls : Array Slot), XW g A ss (wX g s) H locs → lv_has ls 4 [(0, .ref (g.q 2)), (1, .int x1)] → f_Rd_readSection x1 s = some z → W p l e (rmX 5 112) ss m args below meth c H locs 0 0 Q (F0 m 0 ls []) := by
  have ⟨⟨hx, hb, hml, hown, hts⟩, hK, hA, hN⟩ := C
  intro x1 s H locs ls hX hl h
  rw [f_Rd_readSection] at h
  refine lv_aload_n hx hb d_Rd_readSection_0 rfl (lv_at hl 0 rfl) ?_
  refine lv_aload_n hx hb d_Rd_readSection_1 rfl (lv_at hl 0 rfl) ?_
  obtain ⟨r2, s1, hc2, h⟩ := bd_e h
  refine x_vI (As := []) (rest := [.ref (g.q 2)]) C hX (c_Rd_nextEnd l g s (r2, s1) hc2) (cw_Rd_82 C.1.2.2.2.2 C.2.2.2 ⟨by decide, by decide⟩) (x_rc C hX wg_2 rfl) rfl hl.1 rfl (lv_room (Nat.le_of_ble_eq_true rfl)) d_Rd_readSection_2 ⟨Nat.le_refl _, Nat.le_refl _⟩ (fun H locs hX => ?_)
  obtain ⟨s3, es3, h⟩ := lt1_e h
  refine pf_2_bound C hX fl_Rd_40 d_Rd_readSection_5 (fun H locs hX => ?_)
  rw [← es3] at hX
  refine lv_aload_n hx hb d_Rd_readSection_8 rfl (lv_at hl 0 rfl) ?_
  obtain ⟨r5, s4, hc9, h⟩ := bd_e h
  refine x_vI (As := []) (rest := []) C hX (c_Rd_nextUnsigned l g s3 (r5, s4) hc9) (cw_Rd_85 C.1.2.2.2.2 C.2.2.2 ⟨by decide, by decide⟩) (x_rc C hX wg_2 rfl) rfl hl.1 rfl (lv_room (Nat.le_of_ble_eq_true rfl)) d_Rd_readSection_9 ⟨Nat.le_refl _, Nat.le_refl _⟩ (fun H locs hX => ?_)
  refine lv_istore_n (lv' := [(2, .int r5), (0, .ref (g.q 2)), (1, .int x1)]) hx hb d_Rd_readSection_12 rfl hl (by decide) rfl (fun ls hl => ?_)
  refine lv_iload_n hx hb d_Rd_readSection_13 rfl (lv_at hl 2 rfl) ?_
  refine lv_bipush (v := 10) hx hb d_Rd_readSection_14 (by decide) ?_
  refine lv_icmp_ne (tgt := 38) hx hb d_Rd_readSection_16 (by decide) (fun c16 => ?_) (fun c16 => ?_)
  · have h := ite_f c16 h
    exact w_Rd_readSection_38 C hQ x1 r5 s4 H locs ls hX (lv_sub hl [1, 2, 0] rfl) h
  · have h := ite_t c16 h
    refine lv_iload_n hx hb d_Rd_readSection_19 rfl (lv_at hl 0 rfl) ?_
    refine lv_aload_n hx hb d_Rd_readSection_20 rfl (lv_at hl 1 rfl) ?_
    refine gf_2_contents C hX fl_Rd_24 d_Rd_readSection_21 ?_
    refine gf_1_functions C hX fl_Rd_66 d_Rd_readSection_24 ?_
    obtain ⟨r6, er6, h⟩ := lt1_e h
    refine x_vI (r := r6) (ws' := wX g s4) (As := []) (rest := [.int r5]) C hX (by rw [er6]; exact cTabCount_12 l g s4) (cw_Rd_70 C.1.2.2.2.2 C.2.2.2 ⟨by decide, by decide⟩) (x_rc C hX wg_12 rfl) rfl hl.1 rfl (lv_room (Nat.le_of_ble_eq_true rfl)) d_Rd_readSection_27 ⟨Nat.le_refl _, Nat.le_refl _⟩ (fun H locs hX => ?_)
    refine lv_icmp_eq (tgt := 38) hx hb d_Rd_readSection_30 (by decide) (fun c30 => ?_) (fun c30 => ?_)
    · have h := ite_t c30 h
      exact w_Rd_readSection_38 C hQ x1 r5 s4 H locs ls hX (lv_sub hl [1, 2, 0] rfl) h
    · have h := ite_f c30 h
      refine lv_aload_n hx hb d_Rd_readSection_33 rfl (lv_at hl 1 rfl) ?_
      refine lv_iconst (v := 1) hx hb d_Rd_readSection_34 (by decide) ?_
      obtain ⟨s7, hc35, h⟩ := bd1_e h
      refine x_vV (As := [.int 1]) (rest := []) C hX (c_Rd_refuse l g 1 s4 s7 hc35) (cw_Rd_75 C.1.2.2.2.2 C.2.2.2 ⟨by decide, by decide⟩) (x_rc C hX wg_2 rfl) rfl hl.1 rfl (lv_room (Nat.le_of_ble_eq_true rfl)) d_Rd_readSection_35 ⟨Nat.le_refl _, Nat.le_refl _⟩ (fun H locs hX => ?_)
      exact w_Rd_readSection_38 C hQ x1 r5 s7 H locs ls hX (lv_sub hl [1, 2, 0] rfl) h
end WALK
theorem c_Rd_readSection (l : Launch) (g : GX) (x1 : Int32) (s : St) (z : St) (h : f_Rd_readSection x1 s = some z) : MV l g y_Rd_readSection b_Rd_readSection 4 none 5 112 [.ref (g.q 2), .int x1] (wX g s) (wX g z) :=
  MV.mk (own := R_Rd) (by decide) rfl (Nat.le_of_ble_eq_true rfl) fun p e ss m below meth c A Q C hQ ls hX hl => w_Rd_readSection C hQ x1 s _ _ ls hX hl h
