section LAW
variable {p : Program} {l : Launch} {e : Env} {s : State} {m : MethodId} {below : List Frame} {meth : Method} {c : Code} {b L k : Nat} {xs : Nat → Int32} {g : GX} {I : St → SM → Prop}
set_option maxHeartbeats 4000000 in
set_option maxRecDepth 100000 in
theorem law_feed (hr : meth.sig.returnType = ret) (hlocks : meth.locks = false) (hXs : va_X b L xs s s.heap) (hbl : b < s.heap.size) (hL : L ≤ 1536) (C : Cx g (fun q : Nat => s.heap.size ≤ q) p m c code 4 s #[Value.ref b] R_law) (hS : Sim_feed I) (hk : k + 3 ≤ L) (st : St) (tt : SM) (hI : I st tt) (H : Heap) (locs : List Loc) (ls : Array Slot) (hX : XW g (fun q : Nat => s.heap.size ≤ q) s (wX g st ++ wM g tt) H locs) (hl : lv_has ls 4 [(0, .ref b), (1, .ref (g.q 0)), (2, .ref (g.q 60)), (3, .int (nI k))]) (next : ∀ (st : St) (tt : SM), I st tt → ∀ (H : Heap) (locs : List Loc) (ls : Array Slot), XW g (fun q : Nat => s.heap.size ≤ q) s (wX g st ++ wM g tt) H locs → lv_has ls 4 [(0, .ref b), (1, .ref (g.q 0)), (2, .ref (g.q 60)), (3, .int (nI k))] → W p l e room_1 s m #[Value.ref b] below meth c H locs 90 9974 (lw_Z below #[Value.ref b] s) (F0 m 303 ls [])) : W p l e room_1 s m #[Value.ref b] below meth c H locs 90 9974 (lw_Z below #[Value.ref b] s) (F0 m 92 ls []) := by
  have ⟨⟨hx, hb, hml, hown, hts⟩, hK, hA, hN⟩ := C
  have hbA : ¬ (fun q : Nat => s.heap.size ≤ q) b := Nat.not_le.mpr hbl
  obtain ⟨r, st1, tt1, hx1, hm1, hI1⟩ := hS st tt (xs (k + 1)) hI
  refine lv_aload_n hx hb d_law_92 rfl (lv_at hl 1 rfl) ?_
  refine lv_aload_n hx hb d_law_93 rfl (lv_at hl 0 rfl) ?_
  refine lv_iload_n hx hb d_law_94 rfl (lv_at hl 3 rfl) ?_
  refine lv_iconst (v := 1) hx hb d_law_95 (by decide) ?_
  refine x_iadd (v := nI (k + 1)) hx hb d_law_96 (nI_add k 1).symm ?_
  refine va_sld hx hb hXs hbl hbA hX.2.2 (vp_in_nI (n := k + 1) (by omega) (by omega)) d_law_97 ?_
  rw [nI_clamp (n := k + 1) (by omega)]
  have hB : ∀ (H : Heap) (locs : List Loc), XW g (fun q : Nat => s.heap.size ≤ q) s (wM g tt ++ wX g st1) H locs → W p l e room_1 s m #[Value.ref b] below meth c H locs 90 9974 (lw_Z below #[Value.ref b] s) (F0 m 101 ls [.int r]) := by
    intro H locs hX
    refine lv_aload_n hx hb d_law_101 rfl (lv_at hl 2 rfl) ?_
    refine lv_aload_n hx hb d_law_102 rfl (lv_at hl 0 rfl) ?_
    refine lv_iload_n hx hb d_law_103 rfl (lv_at hl 3 rfl) ?_
    refine lv_iconst (v := 1) hx hb d_law_104 (by decide) ?_
    refine x_iadd (v := nI (k + 1)) hx hb d_law_105 (nI_add k 1).symm ?_
    refine va_sld hx hb hXs hbl hbA hX.2.2 (vp_in_nI (n := k + 1) (by omega) (by omega)) d_law_106 ?_
    rw [nI_clamp (n := k + 1) (by omega)]
    refine y_vI (wc := wM g tt) (wr := wX g st1) (As := [.int (xs (k + 1))]) (rest := [.int r]) C hX [0, 1, 2, 3, 4, 5, 6, 7, 8, 9, 10, 11, 12, 13, 14, 15, 16, 17, 18, 19, 20, 21, 22, 23, 24, 25, 26, 27, 28, 29, 30, 31, 32, 33, 34, 35, 36] [37, 38, 39, 40, 41, 42, 43, 44, 45, 46, 47, 48, 49, 50, 51, 52, 53, 54, 55, 56, 57, 58, 59, 60, 61, 62, 63, 64, 65, 66, 67, 68, 69, 70, 71, 72, 73, 74, 75, 76, 77, 78, 79, 80, 81, 82, 83, 84, 85, 86, 87, 88, 89] rfl rfl (by decide) (by decide) (by decide) (c_M_feed l g (xs (k + 1)) tt (r, tt1) hm1) (cw_law_17 hts) (x_rc C hX (q0 := 0) rfl rfl) rfl hl.1 rfl (lv_room (Nat.le_of_ble_eq_true rfl)) d_law_107 ⟨by decide, by decide⟩ (fun H locs hX => ?_)
    refine lv_icmp_eq (tgt := 303) hx hb d_law_110 (by decide) (fun _ => ?_) (fun c9 => absurd rfl c9)
    exact next st1 tt1 hI1 H locs ls hX hl
  refine y_vI (wc := wX g st) (wr := wM g tt) (As := [.int (xs (k + 1))]) (rest := []) C hX [0, 1, 2, 3, 4, 5, 6, 7, 8, 9, 10, 11, 12, 13, 14, 15, 16, 17, 18, 19, 20, 21, 22, 23, 24, 25, 26, 27, 28, 29, 30, 31, 32, 33, 34, 35, 36, 37, 38, 39, 40, 41, 42, 43, 44, 45, 46, 47, 48, 49, 50, 51, 52] [53, 54, 55, 56, 57, 58, 59, 60, 61, 62, 63, 64, 65, 66, 67, 68, 69, 70, 71, 72, 73, 74, 75, 76, 77, 78, 79, 80, 81, 82, 83, 84, 85, 86, 87, 88, 89] rfl rfl (by decide) (by decide) (by decide) (c_X_feed l g (xs (k + 1)) st (r, st1) hx1) (cw_law_13 hts) (x_rc C hX (q0 := 0) rfl rfl) rfl hl.1 rfl (lv_room (Nat.le_of_ble_eq_true rfl)) d_law_98 ⟨by decide, by decide⟩ (fun H locs hX => hB H locs hX)
set_option maxHeartbeats 4000000 in
set_option maxRecDepth 100000 in
theorem law_load (hr : meth.sig.returnType = ret) (hlocks : meth.locks = false) (hXs : va_X b L xs s s.heap) (hbl : b < s.heap.size) (hL : L ≤ 1536) (C : Cx g (fun q : Nat => s.heap.size ≤ q) p m c code 4 s #[Value.ref b] R_law) (hS : Sim_load I) (hk : k + 3 ≤ L) (st : St) (tt : SM) (hI : I st tt) (H : Heap) (locs : List Loc) (ls : Array Slot) (hX : XW g (fun q : Nat => s.heap.size ≤ q) s (wX g st ++ wM g tt) H locs) (hl : lv_has ls 4 [(0, .ref b), (1, .ref (g.q 0)), (2, .ref (g.q 60)), (3, .int (nI k))]) (next : ∀ (st : St) (tt : SM), I st tt → ∀ (H : Heap) (locs : List Loc) (ls : Array Slot), XW g (fun q : Nat => s.heap.size ≤ q) s (wX g st ++ wM g tt) H locs → lv_has ls 4 [(0, .ref b), (1, .ref (g.q 0)), (2, .ref (g.q 60)), (3, .int (nI k))] → W p l e room_1 s m #[Value.ref b] below meth c H locs 90 9974 (lw_Z below #[Value.ref b] s) (F0 m 303 ls [])) : W p l e room_1 s m #[Value.ref b] below meth c H locs 90 9974 (lw_Z below #[Value.ref b] s) (F0 m 115 ls []) := by
  have ⟨⟨hx, hb, hml, hown, hts⟩, hK, hA, hN⟩ := C
  have hbA : ¬ (fun q : Nat => s.heap.size ≤ q) b := Nat.not_le.mpr hbl
  obtain ⟨r, st1, tt1, hx1, hm1, hI1⟩ := hS st tt hI
  refine lv_aload_n hx hb d_law_115 rfl (lv_at hl 1 rfl) ?_
  have hB : ∀ (H : Heap) (locs : List Loc), XW g (fun q : Nat => s.heap.size ≤ q) s (wM g tt ++ wX g st1) H locs → W p l e room_1 s m #[Value.ref b] below meth c H locs 90 9974 (lw_Z below #[Value.ref b] s) (F0 m 119 ls [.int r]) := by
    intro H locs hX
    refine lv_aload_n hx hb d_law_119 rfl (lv_at hl 2 rfl) ?_
    refine y_vI (wc := wM g tt) (wr := wX g st1) (As := []) (rest := [.int r]) C hX [0, 1, 2, 3, 4, 5, 6, 7, 8, 9, 10, 11, 12, 13, 14, 15, 16, 17, 18, 19, 20, 21, 22, 23, 24, 25, 26, 27, 28, 29, 30, 31, 32, 33, 34, 35, 36] [37, 38, 39, 40, 41, 42, 43, 44, 45, 46, 47, 48, 49, 50, 51, 52, 53, 54, 55, 56, 57, 58, 59, 60, 61, 62, 63, 64, 65, 66, 67, 68, 69, 70, 71, 72, 73, 74, 75, 76, 77, 78, 79, 80, 81, 82, 83, 84, 85, 86, 87, 88, 89] rfl rfl (by decide) (by decide) (by decide) (c_M_load l g tt (r, tt1) hm1) (cw_law_22 hts) (x_rc C hX (q0 := 0) rfl rfl) rfl hl.1 rfl (lv_room (Nat.le_of_ble_eq_true rfl)) d_law_120 ⟨by decide, by decide⟩ (fun H locs hX => ?_)
    refine lv_icmp_eq (tgt := 303) hx hb d_law_123 (by decide) (fun _ => ?_) (fun c9 => absurd rfl c9)
    exact next st1 tt1 hI1 H locs ls hX hl
  refine y_vI (wc := wX g st) (wr := wM g tt) (As := []) (rest := []) C hX [0, 1, 2, 3, 4, 5, 6, 7, 8, 9, 10, 11, 12, 13, 14, 15, 16, 17, 18, 19, 20, 21, 22, 23, 24, 25, 26, 27, 28, 29, 30, 31, 32, 33, 34, 35, 36, 37, 38, 39, 40, 41, 42, 43, 44, 45, 46, 47, 48, 49, 50, 51, 52] [53, 54, 55, 56, 57, 58, 59, 60, 61, 62, 63, 64, 65, 66, 67, 68, 69, 70, 71, 72, 73, 74, 75, 76, 77, 78, 79, 80, 81, 82, 83, 84, 85, 86, 87, 88, 89] rfl rfl (by decide) (by decide) (by decide) (c_X_load l g st (r, st1) hx1) (cw_law_18 hts) (x_rc C hX (q0 := 0) rfl rfl) rfl hl.1 rfl (lv_room (Nat.le_of_ble_eq_true rfl)) d_law_116 ⟨by decide, by decide⟩ (fun H locs hX => hB H locs hX)
set_option maxHeartbeats 4000000 in
set_option maxRecDepth 100000 in
theorem law_compile (hr : meth.sig.returnType = ret) (hlocks : meth.locks = false) (hXs : va_X b L xs s s.heap) (hbl : b < s.heap.size) (hL : L ≤ 1536) (C : Cx g (fun q : Nat => s.heap.size ≤ q) p m c code 4 s #[Value.ref b] R_law) (hS : Sim_compile I) (hk : k + 3 ≤ L) (st : St) (tt : SM) (hI : I st tt) (H : Heap) (locs : List Loc) (ls : Array Slot) (hX : XW g (fun q : Nat => s.heap.size ≤ q) s (wX g st ++ wM g tt) H locs) (hl : lv_has ls 4 [(0, .ref b), (1, .ref (g.q 0)), (2, .ref (g.q 60)), (3, .int (nI k))]) (next : ∀ (st : St) (tt : SM), I st tt → ∀ (H : Heap) (locs : List Loc) (ls : Array Slot), XW g (fun q : Nat => s.heap.size ≤ q) s (wX g st ++ wM g tt) H locs → lv_has ls 4 [(0, .ref b), (1, .ref (g.q 0)), (2, .ref (g.q 60)), (3, .int (nI k))] → W p l e room_1 s m #[Value.ref b] below meth c H locs 90 9974 (lw_Z below #[Value.ref b] s) (F0 m 303 ls [])) : W p l e room_1 s m #[Value.ref b] below meth c H locs 90 9974 (lw_Z below #[Value.ref b] s) (F0 m 128 ls []) := by
  have ⟨⟨hx, hb, hml, hown, hts⟩, hK, hA, hN⟩ := C
  have hbA : ¬ (fun q : Nat => s.heap.size ≤ q) b := Nat.not_le.mpr hbl
  obtain ⟨r, st1, tt1, hx1, hm1, hI1⟩ := hS st tt hI
  refine lv_aload_n hx hb d_law_128 rfl (lv_at hl 1 rfl) ?_
  have hB : ∀ (H : Heap) (locs : List Loc), XW g (fun q : Nat => s.heap.size ≤ q) s (wM g tt ++ wX g st1) H locs → W p l e room_1 s m #[Value.ref b] below meth c H locs 90 9974 (lw_Z below #[Value.ref b] s) (F0 m 132 ls [.int r]) := by
    intro H locs hX
    refine lv_aload_n hx hb d_law_132 rfl (lv_at hl 2 rfl) ?_
    refine y_vI (wc := wM g tt) (wr := wX g st1) (As := []) (rest := [.int r]) C hX [0, 1, 2, 3, 4, 5, 6, 7, 8, 9, 10, 11, 12, 13, 14, 15, 16, 17, 18, 19, 20, 21, 22, 23, 24, 25, 26, 27, 28, 29, 30, 31, 32, 33, 34, 35, 36] [37, 38, 39, 40, 41, 42, 43, 44, 45, 46, 47, 48, 49, 50, 51, 52, 53, 54, 55, 56, 57, 58, 59, 60, 61, 62, 63, 64, 65, 66, 67, 68, 69, 70, 71, 72, 73, 74, 75, 76, 77, 78, 79, 80, 81, 82, 83, 84, 85, 86, 87, 88, 89] rfl rfl (by decide) (by decide) (by decide) (c_M_compile l g tt (r, tt1) hm1) (cw_law_26 hts) (x_rc C hX (q0 := 0) rfl rfl) rfl hl.1 rfl (lv_room (Nat.le_of_ble_eq_true rfl)) d_law_133 ⟨by decide, by decide⟩ (fun H locs hX => ?_)
    refine lv_icmp_eq (tgt := 303) hx hb d_law_136 (by decide) (fun _ => ?_) (fun c9 => absurd rfl c9)
    exact next st1 tt1 hI1 H locs ls hX hl
  refine y_vI (wc := wX g st) (wr := wM g tt) (As := []) (rest := []) C hX [0, 1, 2, 3, 4, 5, 6, 7, 8, 9, 10, 11, 12, 13, 14, 15, 16, 17, 18, 19, 20, 21, 22, 23, 24, 25, 26, 27, 28, 29, 30, 31, 32, 33, 34, 35, 36, 37, 38, 39, 40, 41, 42, 43, 44, 45, 46, 47, 48, 49, 50, 51, 52] [53, 54, 55, 56, 57, 58, 59, 60, 61, 62, 63, 64, 65, 66, 67, 68, 69, 70, 71, 72, 73, 74, 75, 76, 77, 78, 79, 80, 81, 82, 83, 84, 85, 86, 87, 88, 89] rfl rfl (by decide) (by decide) (by decide) (c_X_compile l g st (r, st1) hx1) (cw_law_23 hts) (x_rc C hX (q0 := 0) rfl rfl) rfl hl.1 rfl (lv_room (Nat.le_of_ble_eq_true rfl)) d_law_129 ⟨by decide, by decide⟩ (fun H locs hX => hB H locs hX)
set_option maxHeartbeats 4000000 in
set_option maxRecDepth 100000 in
theorem law_arg (hr : meth.sig.returnType = ret) (hlocks : meth.locks = false) (hXs : va_X b L xs s s.heap) (hbl : b < s.heap.size) (hL : L ≤ 1536) (C : Cx g (fun q : Nat => s.heap.size ≤ q) p m c code 4 s #[Value.ref b] R_law) (hS : Sim_arg I) (hk : k + 3 ≤ L) (st : St) (tt : SM) (hI : I st tt) (H : Heap) (locs : List Loc) (ls : Array Slot) (hX : XW g (fun q : Nat => s.heap.size ≤ q) s (wX g st ++ wM g tt) H locs) (hl : lv_has ls 4 [(0, .ref b), (1, .ref (g.q 0)), (2, .ref (g.q 60)), (3, .int (nI k))]) (next : ∀ (st : St) (tt : SM), I st tt → ∀ (H : Heap) (locs : List Loc) (ls : Array Slot), XW g (fun q : Nat => s.heap.size ≤ q) s (wX g st ++ wM g tt) H locs → lv_has ls 4 [(0, .ref b), (1, .ref (g.q 0)), (2, .ref (g.q 60)), (3, .int (nI k))] → W p l e room_1 s m #[Value.ref b] below meth c H locs 90 9974 (lw_Z below #[Value.ref b] s) (F0 m 303 ls [])) : W p l e room_1 s m #[Value.ref b] below meth c H locs 90 9974 (lw_Z below #[Value.ref b] s) (F0 m 141 ls []) := by
  have ⟨⟨hx, hb, hml, hown, hts⟩, hK, hA, hN⟩ := C
  have hbA : ¬ (fun q : Nat => s.heap.size ≤ q) b := Nat.not_le.mpr hbl
  obtain ⟨r, st1, tt1, hx1, hm1, hI1⟩ := hS st tt (xs (k + 1)) hI
  refine lv_aload_n hx hb d_law_141 rfl (lv_at hl 1 rfl) ?_
  refine lv_aload_n hx hb d_law_142 rfl (lv_at hl 0 rfl) ?_
  refine lv_iload_n hx hb d_law_143 rfl (lv_at hl 3 rfl) ?_
  refine lv_iconst (v := 1) hx hb d_law_144 (by decide) ?_
  refine x_iadd (v := nI (k + 1)) hx hb d_law_145 (nI_add k 1).symm ?_
  refine va_sld hx hb hXs hbl hbA hX.2.2 (vp_in_nI (n := k + 1) (by omega) (by omega)) d_law_146 ?_
  rw [nI_clamp (n := k + 1) (by omega)]
  have hB : ∀ (H : Heap) (locs : List Loc), XW g (fun q : Nat => s.heap.size ≤ q) s (wM g tt ++ wX g st1) H locs → W p l e room_1 s m #[Value.ref b] below meth c H locs 90 9974 (lw_Z below #[Value.ref b] s) (F0 m 150 ls [.int r]) := by
    intro H locs hX
    refine lv_aload_n hx hb d_law_150 rfl (lv_at hl 2 rfl) ?_
    refine lv_aload_n hx hb d_law_151 rfl (lv_at hl 0 rfl) ?_
    refine lv_iload_n hx hb d_law_152 rfl (lv_at hl 3 rfl) ?_
    refine lv_iconst (v := 1) hx hb d_law_153 (by decide) ?_
    refine x_iadd (v := nI (k + 1)) hx hb d_law_154 (nI_add k 1).symm ?_
    refine va_sld hx hb hXs hbl hbA hX.2.2 (vp_in_nI (n := k + 1) (by omega) (by omega)) d_law_155 ?_
    rw [nI_clamp (n := k + 1) (by omega)]
    refine y_vI (wc := wM g tt) (wr := wX g st1) (As := [.int (xs (k + 1))]) (rest := [.int r]) C hX [0, 1, 2, 3, 4, 5, 6, 7, 8, 9, 10, 11, 12, 13, 14, 15, 16, 17, 18, 19, 20, 21, 22, 23, 24, 25, 26, 27, 28, 29, 30, 31, 32, 33, 34, 35, 36] [37, 38, 39, 40, 41, 42, 43, 44, 45, 46, 47, 48, 49, 50, 51, 52, 53, 54, 55, 56, 57, 58, 59, 60, 61, 62, 63, 64, 65, 66, 67, 68, 69, 70, 71, 72, 73, 74, 75, 76, 77, 78, 79, 80, 81, 82, 83, 84, 85, 86, 87, 88, 89] rfl rfl (by decide) (by decide) (by decide) (c_M_arg l g (xs (k + 1)) tt (r, tt1) hm1) (cw_law_30 hts) (x_rc C hX (q0 := 0) rfl rfl) rfl hl.1 rfl (lv_room (Nat.le_of_ble_eq_true rfl)) d_law_156 ⟨by decide, by decide⟩ (fun H locs hX => ?_)
    refine lv_icmp_eq (tgt := 303) hx hb d_law_159 (by decide) (fun _ => ?_) (fun c9 => absurd rfl c9)
    exact next st1 tt1 hI1 H locs ls hX hl
  refine y_vI (wc := wX g st) (wr := wM g tt) (As := [.int (xs (k + 1))]) (rest := []) C hX [0, 1, 2, 3, 4, 5, 6, 7, 8, 9, 10, 11, 12, 13, 14, 15, 16, 17, 18, 19, 20, 21, 22, 23, 24, 25, 26, 27, 28, 29, 30, 31, 32, 33, 34, 35, 36, 37, 38, 39, 40, 41, 42, 43, 44, 45, 46, 47, 48, 49, 50, 51, 52] [53, 54, 55, 56, 57, 58, 59, 60, 61, 62, 63, 64, 65, 66, 67, 68, 69, 70, 71, 72, 73, 74, 75, 76, 77, 78, 79, 80, 81, 82, 83, 84, 85, 86, 87, 88, 89] rfl rfl (by decide) (by decide) (by decide) (c_X_arg l g (xs (k + 1)) st (r, st1) hx1) (cw_law_27 hts) (x_rc C hX (q0 := 0) rfl rfl) rfl hl.1 rfl (lv_room (Nat.le_of_ble_eq_true rfl)) d_law_147 ⟨by decide, by decide⟩ (fun H locs hX => hB H locs hX)
set_option maxHeartbeats 4000000 in
set_option maxRecDepth 100000 in
theorem law_start (hr : meth.sig.returnType = ret) (hlocks : meth.locks = false) (hXs : va_X b L xs s s.heap) (hbl : b < s.heap.size) (hL : L ≤ 1536) (C : Cx g (fun q : Nat => s.heap.size ≤ q) p m c code 4 s #[Value.ref b] R_law) (hS : Sim_start I) (hk : k + 3 ≤ L) (st : St) (tt : SM) (hI : I st tt) (H : Heap) (locs : List Loc) (ls : Array Slot) (hX : XW g (fun q : Nat => s.heap.size ≤ q) s (wX g st ++ wM g tt) H locs) (hl : lv_has ls 4 [(0, .ref b), (1, .ref (g.q 0)), (2, .ref (g.q 60)), (3, .int (nI k))]) (next : ∀ (st : St) (tt : SM), I st tt → ∀ (H : Heap) (locs : List Loc) (ls : Array Slot), XW g (fun q : Nat => s.heap.size ≤ q) s (wX g st ++ wM g tt) H locs → lv_has ls 4 [(0, .ref b), (1, .ref (g.q 0)), (2, .ref (g.q 60)), (3, .int (nI k))] → W p l e room_1 s m #[Value.ref b] below meth c H locs 90 9974 (lw_Z below #[Value.ref b] s) (F0 m 303 ls [])) : W p l e room_1 s m #[Value.ref b] below meth c H locs 90 9974 (lw_Z below #[Value.ref b] s) (F0 m 164 ls []) := by
  have ⟨⟨hx, hb, hml, hown, hts⟩, hK, hA, hN⟩ := C
  have hbA : ¬ (fun q : Nat => s.heap.size ≤ q) b := Nat.not_le.mpr hbl
  obtain ⟨r, st1, tt1, hx1, hm1, hI1⟩ := hS st tt (xs (k + 1)) (xs (k + 2)) hI
  refine lv_aload_n hx hb d_law_164 rfl (lv_at hl 1 rfl) ?_
  refine lv_aload_n hx hb d_law_165 rfl (lv_at hl 0 rfl) ?_
  refine lv_iload_n hx hb d_law_166 rfl (lv_at hl 3 rfl) ?_
  refine lv_iconst (v := 1) hx hb d_law_167 (by decide) ?_
  refine x_iadd (v := nI (k + 1)) hx hb d_law_168 (nI_add k 1).symm ?_
  refine va_sld hx hb hXs hbl hbA hX.2.2 (vp_in_nI (n := k + 1) (by omega) (by omega)) d_law_169 ?_
  rw [nI_clamp (n := k + 1) (by omega)]
  refine lv_aload_n hx hb d_law_170 rfl (lv_at hl 0 rfl) ?_
  refine lv_iload_n hx hb d_law_171 rfl (lv_at hl 3 rfl) ?_
  refine lv_iconst (v := 2) hx hb d_law_172 (by decide) ?_
  refine x_iadd (v := nI (k + 2)) hx hb d_law_173 (nI_add k 2).symm ?_
  refine va_sld hx hb hXs hbl hbA hX.2.2 (vp_in_nI (n := k + 2) (by omega) (by omega)) d_law_174 ?_
  rw [nI_clamp (n := k + 2) (by omega)]
  have hB : ∀ (H : Heap) (locs : List Loc), XW g (fun q : Nat => s.heap.size ≤ q) s (wM g tt ++ wX g st1) H locs → W p l e room_1 s m #[Value.ref b] below meth c H locs 90 9974 (lw_Z below #[Value.ref b] s) (F0 m 178 ls [.int r]) := by
    intro H locs hX
    refine lv_aload_n hx hb d_law_178 rfl (lv_at hl 2 rfl) ?_
    refine lv_aload_n hx hb d_law_179 rfl (lv_at hl 0 rfl) ?_
    refine lv_iload_n hx hb d_law_180 rfl (lv_at hl 3 rfl) ?_
    refine lv_iconst (v := 1) hx hb d_law_181 (by decide) ?_
    refine x_iadd (v := nI (k + 1)) hx hb d_law_182 (nI_add k 1).symm ?_
    refine va_sld hx hb hXs hbl hbA hX.2.2 (vp_in_nI (n := k + 1) (by omega) (by omega)) d_law_183 ?_
    rw [nI_clamp (n := k + 1) (by omega)]
    refine lv_aload_n hx hb d_law_184 rfl (lv_at hl 0 rfl) ?_
    refine lv_iload_n hx hb d_law_185 rfl (lv_at hl 3 rfl) ?_
    refine lv_iconst (v := 2) hx hb d_law_186 (by decide) ?_
    refine x_iadd (v := nI (k + 2)) hx hb d_law_187 (nI_add k 2).symm ?_
    refine va_sld hx hb hXs hbl hbA hX.2.2 (vp_in_nI (n := k + 2) (by omega) (by omega)) d_law_188 ?_
    rw [nI_clamp (n := k + 2) (by omega)]
    refine y_vI (wc := wM g tt) (wr := wX g st1) (As := [.int (xs (k + 1)), .int (xs (k + 2))]) (rest := [.int r]) C hX [0, 1, 2, 3, 4, 5, 6, 7, 8, 9, 10, 11, 12, 13, 14, 15, 16, 17, 18, 19, 20, 21, 22, 23, 24, 25, 26, 27, 28, 29, 30, 31, 32, 33, 34, 35, 36] [37, 38, 39, 40, 41, 42, 43, 44, 45, 46, 47, 48, 49, 50, 51, 52, 53, 54, 55, 56, 57, 58, 59, 60, 61, 62, 63, 64, 65, 66, 67, 68, 69, 70, 71, 72, 73, 74, 75, 76, 77, 78, 79, 80, 81, 82, 83, 84, 85, 86, 87, 88, 89] rfl rfl (by decide) (by decide) (by decide) (c_M_start l g (xs (k + 1)) (xs (k + 2)) tt (r, tt1) hm1) (cw_law_35 hts) (x_rc C hX (q0 := 0) rfl rfl) rfl hl.1 rfl (lv_room (Nat.le_of_ble_eq_true rfl)) d_law_189 ⟨by decide, by decide⟩ (fun H locs hX => ?_)
    refine lv_icmp_eq (tgt := 303) hx hb d_law_192 (by decide) (fun _ => ?_) (fun c9 => absurd rfl c9)
    exact next st1 tt1 hI1 H locs ls hX hl
  rcases hx1 with hx1 | hx1
  · skip
    refine y_vI (wc := wX g st) (wr := wM g tt) (As := [.int (xs (k + 1)), .int (xs (k + 2))]) (rest := []) C hX [0, 1, 2, 3, 4, 5, 6, 7, 8, 9, 10, 11, 12, 13, 14, 15, 16, 17, 18, 19, 20, 21, 22, 23, 24, 25, 26, 27, 28, 29, 30, 31, 32, 33, 34, 35, 36, 37, 38, 39, 40, 41, 42, 43, 44, 45, 46, 47, 48, 49, 50, 51, 52] [53, 54, 55, 56, 57, 58, 59, 60, 61, 62, 63, 64, 65, 66, 67, 68, 69, 70, 71, 72, 73, 74, 75, 76, 77, 78, 79, 80, 81, 82, 83, 84, 85, 86, 87, 88, 89] rfl rfl (by decide) (by decide) (by decide) (c_X_start_6 l g (xs (k + 1)) (xs (k + 2)) st (r, st1) hx1) (cw_law_31 hts) (x_rc C hX (q0 := 0) rfl rfl) rfl hl.1 rfl (lv_room (Nat.le_of_ble_eq_true rfl)) d_law_175 ⟨by decide, by decide⟩ (fun H locs hX => hB H locs hX)
  · skip
    refine y_vI (wc := wX g st) (wr := wM g tt) (As := [.int (xs (k + 1)), .int (xs (k + 2))]) (rest := []) C hX [0, 1, 2, 3, 4, 5, 6, 7, 8, 9, 10, 11, 12, 13, 14, 15, 16, 17, 18, 19, 20, 21, 22, 23, 24, 25, 26, 27, 28, 29, 30, 31, 32, 33, 34, 35, 36, 37, 38, 39, 40, 41, 42, 43, 44, 45, 46, 47, 48, 49, 50, 51, 52] [53, 54, 55, 56, 57, 58, 59, 60, 61, 62, 63, 64, 65, 66, 67, 68, 69, 70, 71, 72, 73, 74, 75, 76, 77, 78, 79, 80, 81, 82, 83, 84, 85, 86, 87, 88, 89] rfl rfl (by decide) (by decide) (by decide) (c_X_start_7 l g (xs (k + 1)) (xs (k + 2)) st (r, st1) hx1) (cw_law_31_7 hts) (x_rc C hX (q0 := 0) rfl rfl) rfl hl.1 rfl (lv_room (Nat.le_of_ble_eq_true rfl)) d_law_175 ⟨by decide, by decide⟩ (fun H locs hX => hB H locs hX)
set_option maxHeartbeats 4000000 in
set_option maxRecDepth 100000 in
theorem law_run (hr : meth.sig.returnType = ret) (hlocks : meth.locks = false) (hXs : va_X b L xs s s.heap) (hbl : b < s.heap.size) (hL : L ≤ 1536) (C : Cx g (fun q : Nat => s.heap.size ≤ q) p m c code 4 s #[Value.ref b] R_law) (hS : Sim_run I) (hk : k + 3 ≤ L) (st : St) (tt : SM) (hI : I st tt) (H : Heap) (locs : List Loc) (ls : Array Slot) (hX : XW g (fun q : Nat => s.heap.size ≤ q) s (wX g st ++ wM g tt) H locs) (hl : lv_has ls 4 [(0, .ref b), (1, .ref (g.q 0)), (2, .ref (g.q 60)), (3, .int (nI k))]) (next : ∀ (st : St) (tt : SM), I st tt → ∀ (H : Heap) (locs : List Loc) (ls : Array Slot), XW g (fun q : Nat => s.heap.size ≤ q) s (wX g st ++ wM g tt) H locs → lv_has ls 4 [(0, .ref b), (1, .ref (g.q 0)), (2, .ref (g.q 60)), (3, .int (nI k))] → W p l e room_1 s m #[Value.ref b] below meth c H locs 90 9974 (lw_Z below #[Value.ref b] s) (F0 m 303 ls [])) : W p l e room_1 s m #[Value.ref b] below meth c H locs 90 9974 (lw_Z below #[Value.ref b] s) (F0 m 197 ls []) := by
  have ⟨⟨hx, hb, hml, hown, hts⟩, hK, hA, hN⟩ := C
  have hbA : ¬ (fun q : Nat => s.heap.size ≤ q) b := Nat.not_le.mpr hbl
  obtain ⟨r, st1, tt1, hx1, hm1, hI1⟩ := hS st tt (xs (k + 1)) hI
  refine lv_aload_n hx hb d_law_197 rfl (lv_at hl 1 rfl) ?_
  refine lv_aload_n hx hb d_law_198 rfl (lv_at hl 0 rfl) ?_
  refine lv_iload_n hx hb d_law_199 rfl (lv_at hl 3 rfl) ?_
  refine lv_iconst (v := 1) hx hb d_law_200 (by decide) ?_
  refine x_iadd (v := nI (k + 1)) hx hb d_law_201 (nI_add k 1).symm ?_
  refine va_sld hx hb hXs hbl hbA hX.2.2 (vp_in_nI (n := k + 1) (by omega) (by omega)) d_law_202 ?_
  rw [nI_clamp (n := k + 1) (by omega)]
  have hB : ∀ (H : Heap) (locs : List Loc), XW g (fun q : Nat => s.heap.size ≤ q) s (wM g tt ++ wX g st1) H locs → W p l e room_1 s m #[Value.ref b] below meth c H locs 90 9974 (lw_Z below #[Value.ref b] s) (F0 m 206 ls [.int r]) := by
    intro H locs hX
    refine lv_aload_n hx hb d_law_206 rfl (lv_at hl 2 rfl) ?_
    refine lv_aload_n hx hb d_law_207 rfl (lv_at hl 0 rfl) ?_
    refine lv_iload_n hx hb d_law_208 rfl (lv_at hl 3 rfl) ?_
    refine lv_iconst (v := 1) hx hb d_law_209 (by decide) ?_
    refine x_iadd (v := nI (k + 1)) hx hb d_law_210 (nI_add k 1).symm ?_
    refine va_sld hx hb hXs hbl hbA hX.2.2 (vp_in_nI (n := k + 1) (by omega) (by omega)) d_law_211 ?_
    rw [nI_clamp (n := k + 1) (by omega)]
    refine y_vI (wc := wM g tt) (wr := wX g st1) (As := [.int (xs (k + 1))]) (rest := [.int r]) C hX [0, 1, 2, 3, 4, 5, 6, 7, 8, 9, 10, 11, 12, 13, 14, 15, 16, 17, 18, 19, 20, 21, 22, 23, 24, 25, 26, 27, 28, 29, 30, 31, 32, 33, 34, 35, 36] [37, 38, 39, 40, 41, 42, 43, 44, 45, 46, 47, 48, 49, 50, 51, 52, 53, 54, 55, 56, 57, 58, 59, 60, 61, 62, 63, 64, 65, 66, 67, 68, 69, 70, 71, 72, 73, 74, 75, 76, 77, 78, 79, 80, 81, 82, 83, 84, 85, 86, 87, 88, 89] rfl rfl (by decide) (by decide) (by decide) (c_M_run l g (xs (k + 1)) tt (r, tt1) hm1) (cw_law_40 hts) (x_rc C hX (q0 := 0) rfl rfl) rfl hl.1 rfl (lv_room (Nat.le_of_ble_eq_true rfl)) d_law_212 ⟨by decide, by decide⟩ (fun H locs hX => ?_)
    refine lv_icmp_eq (tgt := 303) hx hb d_law_215 (by decide) (fun _ => ?_) (fun c9 => absurd rfl c9)
    exact next st1 tt1 hI1 H locs ls hX hl
  rcases hx1 with hx1 | hx1
  · skip
    refine y_vI (wc := wX g st) (wr := wM g tt) (As := [.int (xs (k + 1))]) (rest := []) C hX [0, 1, 2, 3, 4, 5, 6, 7, 8, 9, 10, 11, 12, 13, 14, 15, 16, 17, 18, 19, 20, 21, 22, 23, 24, 25, 26, 27, 28, 29, 30, 31, 32, 33, 34, 35, 36, 37, 38, 39, 40, 41, 42, 43, 44, 45, 46, 47, 48, 49, 50, 51, 52] [53, 54, 55, 56, 57, 58, 59, 60, 61, 62, 63, 64, 65, 66, 67, 68, 69, 70, 71, 72, 73, 74, 75, 76, 77, 78, 79, 80, 81, 82, 83, 84, 85, 86, 87, 88, 89] rfl rfl (by decide) (by decide) (by decide) (c_X_run_6 l g (xs (k + 1)) st (r, st1) hx1) (cw_law_36 hts) (x_rc C hX (q0 := 0) rfl rfl) rfl hl.1 rfl (lv_room (Nat.le_of_ble_eq_true rfl)) d_law_203 ⟨by decide, by decide⟩ (fun H locs hX => hB H locs hX)
  · skip
    refine y_vI (wc := wX g st) (wr := wM g tt) (As := [.int (xs (k + 1))]) (rest := []) C hX [0, 1, 2, 3, 4, 5, 6, 7, 8, 9, 10, 11, 12, 13, 14, 15, 16, 17, 18, 19, 20, 21, 22, 23, 24, 25, 26, 27, 28, 29, 30, 31, 32, 33, 34, 35, 36, 37, 38, 39, 40, 41, 42, 43, 44, 45, 46, 47, 48, 49, 50, 51, 52] [53, 54, 55, 56, 57, 58, 59, 60, 61, 62, 63, 64, 65, 66, 67, 68, 69, 70, 71, 72, 73, 74, 75, 76, 77, 78, 79, 80, 81, 82, 83, 84, 85, 86, 87, 88, 89] rfl rfl (by decide) (by decide) (by decide) (c_X_run_7 l g (xs (k + 1)) st (r, st1) hx1) (cw_law_36_7 hts) (x_rc C hX (q0 := 0) rfl rfl) rfl hl.1 rfl (lv_room (Nat.le_of_ble_eq_true rfl)) d_law_203 ⟨by decide, by decide⟩ (fun H locs hX => hB H locs hX)
set_option maxHeartbeats 4000000 in
set_option maxRecDepth 100000 in
theorem law_result (hr : meth.sig.returnType = ret) (hlocks : meth.locks = false) (hXs : va_X b L xs s s.heap) (hbl : b < s.heap.size) (hL : L ≤ 1536) (C : Cx g (fun q : Nat => s.heap.size ≤ q) p m c code 4 s #[Value.ref b] R_law) (hS : Sim_result I) (hk : k + 3 ≤ L) (st : St) (tt : SM) (hI : I st tt) (H : Heap) (locs : List Loc) (ls : Array Slot) (hX : XW g (fun q : Nat => s.heap.size ≤ q) s (wX g st ++ wM g tt) H locs) (hl : lv_has ls 4 [(0, .ref b), (1, .ref (g.q 0)), (2, .ref (g.q 60)), (3, .int (nI k))]) (next : ∀ (st : St) (tt : SM), I st tt → ∀ (H : Heap) (locs : List Loc) (ls : Array Slot), XW g (fun q : Nat => s.heap.size ≤ q) s (wX g st ++ wM g tt) H locs → lv_has ls 4 [(0, .ref b), (1, .ref (g.q 0)), (2, .ref (g.q 60)), (3, .int (nI k))] → W p l e room_1 s m #[Value.ref b] below meth c H locs 90 9974 (lw_Z below #[Value.ref b] s) (F0 m 303 ls [])) : W p l e room_1 s m #[Value.ref b] below meth c H locs 90 9974 (lw_Z below #[Value.ref b] s) (F0 m 220 ls []) := by
  have ⟨⟨hx, hb, hml, hown, hts⟩, hK, hA, hN⟩ := C
  have hbA : ¬ (fun q : Nat => s.heap.size ≤ q) b := Nat.not_le.mpr hbl
  obtain ⟨r, tt1, hx1, hm1, hI1⟩ := hS st tt hI
  refine lv_aload_n hx hb d_law_220 rfl (lv_at hl 1 rfl) ?_
  have hB : ∀ (H : Heap) (locs : List Loc), XW g (fun q : Nat => s.heap.size ≤ q) s (wM g tt ++ wX g st) H locs → W p l e room_1 s m #[Value.ref b] below meth c H locs 90 9974 (lw_Z below #[Value.ref b] s) (F0 m 224 ls [.int r]) := by
    intro H locs hX
    refine lv_aload_n hx hb d_law_224 rfl (lv_at hl 2 rfl) ?_
    refine y_vI (wc := wM g tt) (wr := wX g st) (As := []) (rest := [.int r]) C hX [0, 1, 2, 3, 4, 5, 6, 7, 8, 9, 10, 11, 12, 13, 14, 15, 16, 17, 18, 19, 20, 21, 22, 23, 24, 25, 26, 27, 28, 29, 30, 31, 32, 33, 34, 35, 36] [37, 38, 39, 40, 41, 42, 43, 44, 45, 46, 47, 48, 49, 50, 51, 52, 53, 54, 55, 56, 57, 58, 59, 60, 61, 62, 63, 64, 65, 66, 67, 68, 69, 70, 71, 72, 73, 74, 75, 76, 77, 78, 79, 80, 81, 82, 83, 84, 85, 86, 87, 88, 89] rfl rfl (by decide) (by decide) (by decide) (c_M_result l g tt (r, tt1) hm1) (cw_law_44 hts) (x_rc C hX (q0 := 0) rfl rfl) rfl hl.1 rfl (lv_room (Nat.le_of_ble_eq_true rfl)) d_law_225 ⟨by decide, by decide⟩ (fun H locs hX => ?_)
    refine lv_icmp_eq (tgt := 303) hx hb d_law_228 (by decide) (fun _ => ?_) (fun c9 => absurd rfl c9)
    exact next st tt1 hI1 H locs ls hX hl
  refine y_vI (wc := wX g st) (wr := wM g tt) (As := []) (rest := []) C hX [0, 1, 2, 3, 4, 5, 6, 7, 8, 9, 10, 11, 12, 13, 14, 15, 16, 17, 18, 19, 20, 21, 22, 23, 24, 25, 26, 27, 28, 29, 30, 31, 32, 33, 34, 35, 36, 37, 38, 39, 40, 41, 42, 43, 44, 45, 46, 47, 48, 49, 50, 51, 52] [53, 54, 55, 56, 57, 58, 59, 60, 61, 62, 63, 64, 65, 66, 67, 68, 69, 70, 71, 72, 73, 74, 75, 76, 77, 78, 79, 80, 81, 82, 83, 84, 85, 86, 87, 88, 89] rfl rfl (by decide) (by decide) (by decide) (c_X_result l g st r hx1) (cw_law_41 hts) (x_rc C hX (q0 := 0) rfl rfl) rfl hl.1 rfl (lv_room (Nat.le_of_ble_eq_true rfl)) d_law_221 ⟨by decide, by decide⟩ (fun H locs hX => hB H locs hX)
set_option maxHeartbeats 4000000 in
set_option maxRecDepth 100000 in
theorem law_peekMem (hr : meth.sig.returnType = ret) (hlocks : meth.locks = false) (hXs : va_X b L xs s s.heap) (hbl : b < s.heap.size) (hL : L ≤ 1536) (C : Cx g (fun q : Nat => s.heap.size ≤ q) p m c code 4 s #[Value.ref b] R_law) (hS : Sim_peekMem I) (hk : k + 3 ≤ L) (st : St) (tt : SM) (hI : I st tt) (H : Heap) (locs : List Loc) (ls : Array Slot) (hX : XW g (fun q : Nat => s.heap.size ≤ q) s (wX g st ++ wM g tt) H locs) (hl : lv_has ls 4 [(0, .ref b), (1, .ref (g.q 0)), (2, .ref (g.q 60)), (3, .int (nI k))]) (next : ∀ (st : St) (tt : SM), I st tt → ∀ (H : Heap) (locs : List Loc) (ls : Array Slot), XW g (fun q : Nat => s.heap.size ≤ q) s (wX g st ++ wM g tt) H locs → lv_has ls 4 [(0, .ref b), (1, .ref (g.q 0)), (2, .ref (g.q 60)), (3, .int (nI k))] → W p l e room_1 s m #[Value.ref b] below meth c H locs 90 9974 (lw_Z below #[Value.ref b] s) (F0 m 303 ls [])) : W p l e room_1 s m #[Value.ref b] below meth c H locs 90 9974 (lw_Z below #[Value.ref b] s) (F0 m 233 ls []) := by
  have ⟨⟨hx, hb, hml, hown, hts⟩, hK, hA, hN⟩ := C
  have hbA : ¬ (fun q : Nat => s.heap.size ≤ q) b := Nat.not_le.mpr hbl
  obtain ⟨r, tt1, hx1, hm1, hI1⟩ := hS st tt (xs (k + 1)) hI
  refine lv_aload_n hx hb d_law_233 rfl (lv_at hl 1 rfl) ?_
  refine lv_aload_n hx hb d_law_234 rfl (lv_at hl 0 rfl) ?_
  refine lv_iload_n hx hb d_law_235 rfl (lv_at hl 3 rfl) ?_
  refine lv_iconst (v := 1) hx hb d_law_236 (by decide) ?_
  refine x_iadd (v := nI (k + 1)) hx hb d_law_237 (nI_add k 1).symm ?_
  refine va_sld hx hb hXs hbl hbA hX.2.2 (vp_in_nI (n := k + 1) (by omega) (by omega)) d_law_238 ?_
  rw [nI_clamp (n := k + 1) (by omega)]
  have hB : ∀ (H : Heap) (locs : List Loc), XW g (fun q : Nat => s.heap.size ≤ q) s (wM g tt ++ wX g st) H locs → W p l e room_1 s m #[Value.ref b] below meth c H locs 90 9974 (lw_Z below #[Value.ref b] s) (F0 m 242 ls [.int r]) := by
    intro H locs hX
    refine lv_aload_n hx hb d_law_242 rfl (lv_at hl 2 rfl) ?_
    refine lv_aload_n hx hb d_law_243 rfl (lv_at hl 0 rfl) ?_
    refine lv_iload_n hx hb d_law_244 rfl (lv_at hl 3 rfl) ?_
    refine lv_iconst (v := 1) hx hb d_law_245 (by decide) ?_
    refine x_iadd (v := nI (k + 1)) hx hb d_law_246 (nI_add k 1).symm ?_
    refine va_sld hx hb hXs hbl hbA hX.2.2 (vp_in_nI (n := k + 1) (by omega) (by omega)) d_law_247 ?_
    rw [nI_clamp (n := k + 1) (by omega)]
    refine y_vI (wc := wM g tt) (wr := wX g st) (As := [.int (xs (k + 1))]) (rest := [.int r]) C hX [0, 1, 2, 3, 4, 5, 6, 7, 8, 9, 10, 11, 12, 13, 14, 15, 16, 17, 18, 19, 20, 21, 22, 23, 24, 25, 26, 27, 28, 29, 30, 31, 32, 33, 34, 35, 36] [37, 38, 39, 40, 41, 42, 43, 44, 45, 46, 47, 48, 49, 50, 51, 52, 53, 54, 55, 56, 57, 58, 59, 60, 61, 62, 63, 64, 65, 66, 67, 68, 69, 70, 71, 72, 73, 74, 75, 76, 77, 78, 79, 80, 81, 82, 83, 84, 85, 86, 87, 88, 89] rfl rfl (by decide) (by decide) (by decide) (c_M_peekMem l g (xs (k + 1)) tt (r, tt1) hm1) (cw_law_48 hts) (x_rc C hX (q0 := 0) rfl rfl) rfl hl.1 rfl (lv_room (Nat.le_of_ble_eq_true rfl)) d_law_248 ⟨by decide, by decide⟩ (fun H locs hX => ?_)
    refine lv_icmp_eq (tgt := 303) hx hb d_law_251 (by decide) (fun _ => ?_) (fun c9 => absurd rfl c9)
    exact next st tt1 hI1 H locs ls hX hl
  refine y_vI (wc := wX g st) (wr := wM g tt) (As := [.int (xs (k + 1))]) (rest := []) C hX [0, 1, 2, 3, 4, 5, 6, 7, 8, 9, 10, 11, 12, 13, 14, 15, 16, 17, 18, 19, 20, 21, 22, 23, 24, 25, 26, 27, 28, 29, 30, 31, 32, 33, 34, 35, 36, 37, 38, 39, 40, 41, 42, 43, 44, 45, 46, 47, 48, 49, 50, 51, 52] [53, 54, 55, 56, 57, 58, 59, 60, 61, 62, 63, 64, 65, 66, 67, 68, 69, 70, 71, 72, 73, 74, 75, 76, 77, 78, 79, 80, 81, 82, 83, 84, 85, 86, 87, 88, 89] rfl rfl (by decide) (by decide) (by decide) (c_X_peekMem l g (xs (k + 1)) st r hx1) (cw_law_45 hts) (x_rc C hX (q0 := 0) rfl rfl) rfl hl.1 rfl (lv_room (Nat.le_of_ble_eq_true rfl)) d_law_239 ⟨by decide, by decide⟩ (fun H locs hX => hB H locs hX)
set_option maxHeartbeats 4000000 in
set_option maxRecDepth 100000 in
theorem law_rcodeLen (hr : meth.sig.returnType = ret) (hlocks : meth.locks = false) (hXs : va_X b L xs s s.heap) (hbl : b < s.heap.size) (hL : L ≤ 1536) (C : Cx g (fun q : Nat => s.heap.size ≤ q) p m c code 4 s #[Value.ref b] R_law) (hS : Sim_rcodeLen I) (hk : k + 3 ≤ L) (st : St) (tt : SM) (hI : I st tt) (H : Heap) (locs : List Loc) (ls : Array Slot) (hX : XW g (fun q : Nat => s.heap.size ≤ q) s (wX g st ++ wM g tt) H locs) (hl : lv_has ls 4 [(0, .ref b), (1, .ref (g.q 0)), (2, .ref (g.q 60)), (3, .int (nI k))]) (next : ∀ (st : St) (tt : SM), I st tt → ∀ (H : Heap) (locs : List Loc) (ls : Array Slot), XW g (fun q : Nat => s.heap.size ≤ q) s (wX g st ++ wM g tt) H locs → lv_has ls 4 [(0, .ref b), (1, .ref (g.q 0)), (2, .ref (g.q 60)), (3, .int (nI k))] → W p l e room_1 s m #[Value.ref b] below meth c H locs 90 9974 (lw_Z below #[Value.ref b] s) (F0 m 303 ls [])) : W p l e room_1 s m #[Value.ref b] below meth c H locs 90 9974 (lw_Z below #[Value.ref b] s) (F0 m 256 ls []) := by
  have ⟨⟨hx, hb, hml, hown, hts⟩, hK, hA, hN⟩ := C
  have hbA : ¬ (fun q : Nat => s.heap.size ≤ q) b := Nat.not_le.mpr hbl
  obtain ⟨r, tt1, hx1, hm1, hI1⟩ := hS st tt hI
  refine lv_aload_n hx hb d_law_256 rfl (lv_at hl 1 rfl) ?_
  have hB : ∀ (H : Heap) (locs : List Loc), XW g (fun q : Nat => s.heap.size ≤ q) s (wM g tt ++ wX g st) H locs → W p l e room_1 s m #[Value.ref b] below meth c H locs 90 9974 (lw_Z below #[Value.ref b] s) (F0 m 260 ls [.int r]) := by
    intro H locs hX
    refine lv_aload_n hx hb d_law_260 rfl (lv_at hl 2 rfl) ?_
    refine y_vI (wc := wM g tt) (wr := wX g st) (As := []) (rest := [.int r]) C hX [0, 1, 2, 3, 4, 5, 6, 7, 8, 9, 10, 11, 12, 13, 14, 15, 16, 17, 18, 19, 20, 21, 22, 23, 24, 25, 26, 27, 28, 29, 30, 31, 32, 33, 34, 35, 36] [37, 38, 39, 40, 41, 42, 43, 44, 45, 46, 47, 48, 49, 50, 51, 52, 53, 54, 55, 56, 57, 58, 59, 60, 61, 62, 63, 64, 65, 66, 67, 68, 69, 70, 71, 72, 73, 74, 75, 76, 77, 78, 79, 80, 81, 82, 83, 84, 85, 86, 87, 88, 89] rfl rfl (by decide) (by decide) (by decide) (c_M_rcodeLen l g tt (r, tt1) hm1) (cw_law_52 hts) (x_rc C hX (q0 := 0) rfl rfl) rfl hl.1 rfl (lv_room (Nat.le_of_ble_eq_true rfl)) d_law_261 ⟨by decide, by decide⟩ (fun H locs hX => ?_)
    refine lv_icmp_eq (tgt := 303) hx hb d_law_264 (by decide) (fun _ => ?_) (fun c9 => absurd rfl c9)
    exact next st tt1 hI1 H locs ls hX hl
  refine y_vI (wc := wX g st) (wr := wM g tt) (As := []) (rest := []) C hX [0, 1, 2, 3, 4, 5, 6, 7, 8, 9, 10, 11, 12, 13, 14, 15, 16, 17, 18, 19, 20, 21, 22, 23, 24, 25, 26, 27, 28, 29, 30, 31, 32, 33, 34, 35, 36, 37, 38, 39, 40, 41, 42, 43, 44, 45, 46, 47, 48, 49, 50, 51, 52] [53, 54, 55, 56, 57, 58, 59, 60, 61, 62, 63, 64, 65, 66, 67, 68, 69, 70, 71, 72, 73, 74, 75, 76, 77, 78, 79, 80, 81, 82, 83, 84, 85, 86, 87, 88, 89] rfl rfl (by decide) (by decide) (by decide) (c_X_rcodeLen l g st r hx1) (cw_law_49 hts) (x_rc C hX (q0 := 0) rfl rfl) rfl hl.1 rfl (lv_room (Nat.le_of_ble_eq_true rfl)) d_law_257 ⟨by decide, by decide⟩ (fun H locs hX => hB H locs hX)
set_option maxHeartbeats 4000000 in
set_option maxRecDepth 100000 in
theorem law_rcode (hr : meth.sig.returnType = ret) (hlocks : meth.locks = false) (hXs : va_X b L xs s s.heap) (hbl : b < s.heap.size) (hL : L ≤ 1536) (C : Cx g (fun q : Nat => s.heap.size ≤ q) p m c code 4 s #[Value.ref b] R_law) (hS : Sim_rcode I) (hk : k + 3 ≤ L) (st : St) (tt : SM) (hI : I st tt) (H : Heap) (locs : List Loc) (ls : Array Slot) (hX : XW g (fun q : Nat => s.heap.size ≤ q) s (wX g st ++ wM g tt) H locs) (hl : lv_has ls 4 [(0, .ref b), (1, .ref (g.q 0)), (2, .ref (g.q 60)), (3, .int (nI k))]) (next : ∀ (st : St) (tt : SM), I st tt → ∀ (H : Heap) (locs : List Loc) (ls : Array Slot), XW g (fun q : Nat => s.heap.size ≤ q) s (wX g st ++ wM g tt) H locs → lv_has ls 4 [(0, .ref b), (1, .ref (g.q 0)), (2, .ref (g.q 60)), (3, .int (nI k))] → W p l e room_1 s m #[Value.ref b] below meth c H locs 90 9974 (lw_Z below #[Value.ref b] s) (F0 m 303 ls [])) : W p l e room_1 s m #[Value.ref b] below meth c H locs 90 9974 (lw_Z below #[Value.ref b] s) (F0 m 269 ls []) := by
  have ⟨⟨hx, hb, hml, hown, hts⟩, hK, hA, hN⟩ := C
  have hbA : ¬ (fun q : Nat => s.heap.size ≤ q) b := Nat.not_le.mpr hbl
  obtain ⟨r, tt1, hx1, hm1, hI1⟩ := hS st tt (xs (k + 1)) hI
  refine lv_aload_n hx hb d_law_269 rfl (lv_at hl 1 rfl) ?_
  refine lv_aload_n hx hb d_law_270 rfl (lv_at hl 0 rfl) ?_
  refine lv_iload_n hx hb d_law_271 rfl (lv_at hl 3 rfl) ?_
  refine lv_iconst (v := 1) hx hb d_law_272 (by decide) ?_
  refine x_iadd (v := nI (k + 1)) hx hb d_law_273 (nI_add k 1).symm ?_
  refine va_sld hx hb hXs hbl hbA hX.2.2 (vp_in_nI (n := k + 1) (by omega) (by omega)) d_law_274 ?_
  rw [nI_clamp (n := k + 1) (by omega)]
  have hB : ∀ (H : Heap) (locs : List Loc), XW g (fun q : Nat => s.heap.size ≤ q) s (wM g tt ++ wX g st) H locs → W p l e room_1 s m #[Value.ref b] below meth c H locs 90 9974 (lw_Z below #[Value.ref b] s) (F0 m 278 ls [.int r]) := by
    intro H locs hX
    refine lv_aload_n hx hb d_law_278 rfl (lv_at hl 2 rfl) ?_
    refine lv_aload_n hx hb d_law_279 rfl (lv_at hl 0 rfl) ?_
    refine lv_iload_n hx hb d_law_280 rfl (lv_at hl 3 rfl) ?_
    refine lv_iconst (v := 1) hx hb d_law_281 (by decide) ?_
    refine x_iadd (v := nI (k + 1)) hx hb d_law_282 (nI_add k 1).symm ?_
    refine va_sld hx hb hXs hbl hbA hX.2.2 (vp_in_nI (n := k + 1) (by omega) (by omega)) d_law_283 ?_
    rw [nI_clamp (n := k + 1) (by omega)]
    refine y_vI (wc := wM g tt) (wr := wX g st) (As := [.int (xs (k + 1))]) (rest := [.int r]) C hX [0, 1, 2, 3, 4, 5, 6, 7, 8, 9, 10, 11, 12, 13, 14, 15, 16, 17, 18, 19, 20, 21, 22, 23, 24, 25, 26, 27, 28, 29, 30, 31, 32, 33, 34, 35, 36] [37, 38, 39, 40, 41, 42, 43, 44, 45, 46, 47, 48, 49, 50, 51, 52, 53, 54, 55, 56, 57, 58, 59, 60, 61, 62, 63, 64, 65, 66, 67, 68, 69, 70, 71, 72, 73, 74, 75, 76, 77, 78, 79, 80, 81, 82, 83, 84, 85, 86, 87, 88, 89] rfl rfl (by decide) (by decide) (by decide) (c_M_rcode l g (xs (k + 1)) tt (r, tt1) hm1) (cw_law_56 hts) (x_rc C hX (q0 := 0) rfl rfl) rfl hl.1 rfl (lv_room (Nat.le_of_ble_eq_true rfl)) d_law_284 ⟨by decide, by decide⟩ (fun H locs hX => ?_)
    refine lv_icmp_eq (tgt := 303) hx hb d_law_287 (by decide) (fun _ => ?_) (fun c9 => absurd rfl c9)
    exact next st tt1 hI1 H locs ls hX hl
  refine y_vI (wc := wX g st) (wr := wM g tt) (As := [.int (xs (k + 1))]) (rest := []) C hX [0, 1, 2, 3, 4, 5, 6, 7, 8, 9, 10, 11, 12, 13, 14, 15, 16, 17, 18, 19, 20, 21, 22, 23, 24, 25, 26, 27, 28, 29, 30, 31, 32, 33, 34, 35, 36, 37, 38, 39, 40, 41, 42, 43, 44, 45, 46, 47, 48, 49, 50, 51, 52] [53, 54, 55, 56, 57, 58, 59, 60, 61, 62, 63, 64, 65, 66, 67, 68, 69, 70, 71, 72, 73, 74, 75, 76, 77, 78, 79, 80, 81, 82, 83, 84, 85, 86, 87, 88, 89] rfl rfl (by decide) (by decide) (by decide) (c_X_rcode l g (xs (k + 1)) st r hx1) (cw_law_53 hts) (x_rc C hX (q0 := 0) rfl rfl) rfl hl.1 rfl (lv_room (Nat.le_of_ble_eq_true rfl)) d_law_275 ⟨by decide, by decide⟩ (fun H locs hX => hB H locs hX)
set_option maxHeartbeats 4000000 in
set_option maxRecDepth 100000 in
theorem law_reset (hr : meth.sig.returnType = ret) (hlocks : meth.locks = false) (hXs : va_X b L xs s s.heap) (hbl : b < s.heap.size) (hL : L ≤ 1536) (C : Cx g (fun q : Nat => s.heap.size ≤ q) p m c code 4 s #[Value.ref b] R_law) (hS : Sim_reset I) (hk : k + 3 ≤ L) (st : St) (tt : SM) (hI : I st tt) (H : Heap) (locs : List Loc) (ls : Array Slot) (hX : XW g (fun q : Nat => s.heap.size ≤ q) s (wX g st ++ wM g tt) H locs) (hl : lv_has ls 4 [(0, .ref b), (1, .ref (g.q 0)), (2, .ref (g.q 60)), (3, .int (nI k))]) (next : ∀ (st : St) (tt : SM), I st tt → ∀ (H : Heap) (locs : List Loc) (ls : Array Slot), XW g (fun q : Nat => s.heap.size ≤ q) s (wX g st ++ wM g tt) H locs → lv_has ls 4 [(0, .ref b), (1, .ref (g.q 0)), (2, .ref (g.q 60)), (3, .int (nI k))] → W p l e room_1 s m #[Value.ref b] below meth c H locs 90 9974 (lw_Z below #[Value.ref b] s) (F0 m 303 ls [])) : W p l e room_1 s m #[Value.ref b] below meth c H locs 90 9974 (lw_Z below #[Value.ref b] s) (F0 m 292 ls []) := by
  have ⟨⟨hx, hb, hml, hown, hts⟩, hK, hA, hN⟩ := C
  have hbA : ¬ (fun q : Nat => s.heap.size ≤ q) b := Nat.not_le.mpr hbl
  obtain ⟨st1, tt1, hx1, hm1, hI1⟩ := hS st tt hI
  refine lv_aload_n hx hb d_law_292 rfl (lv_at hl 1 rfl) ?_
  have hB : ∀ (H : Heap) (locs : List Loc), XW g (fun q : Nat => s.heap.size ≤ q) s (wM g tt ++ wX g st1) H locs → W p l e room_1 s m #[Value.ref b] below meth c H locs 90 9974 (lw_Z below #[Value.ref b] s) (F0 m 296 ls []) := by
    intro H locs hX
    refine lv_aload_n hx hb d_law_296 rfl (lv_at hl 2 rfl) ?_
    refine y_vV (wc := wM g tt) (wr := wX g st1) (As := []) (rest := []) C hX [0, 1, 2, 3, 4, 5, 6, 7, 8, 9, 10, 11, 12, 13, 14, 15, 16, 17, 18, 19, 20, 21, 22, 23, 24, 25, 26, 27, 28, 29, 30, 31, 32, 33, 34, 35, 36] [37, 38, 39, 40, 41, 42, 43, 44, 45, 46, 47, 48, 49, 50, 51, 52, 53, 54, 55, 56, 57, 58, 59, 60, 61, 62, 63, 64, 65, 66, 67, 68, 69, 70, 71, 72, 73, 74, 75, 76, 77, 78, 79, 80, 81, 82, 83, 84, 85, 86, 87, 88, 89] rfl rfl (by decide) (by decide) (by decide) (c_M_reset l g tt tt1 hm1) (cw_law_60 hts) (x_rc C hX (q0 := 0) rfl rfl) rfl hl.1 rfl (lv_room (Nat.le_of_ble_eq_true rfl)) d_law_297 ⟨by decide, by decide⟩ (fun H locs hX => ?_)
    refine lv_goto (tgt := 303) hx hb d_law_300 (by decide) ?_
    exact next st1 tt1 hI1 H locs ls hX hl
  refine y_vV (wc := wX g st) (wr := wM g tt) (As := []) (rest := []) C hX [0, 1, 2, 3, 4, 5, 6, 7, 8, 9, 10, 11, 12, 13, 14, 15, 16, 17, 18, 19, 20, 21, 22, 23, 24, 25, 26, 27, 28, 29, 30, 31, 32, 33, 34, 35, 36, 37, 38, 39, 40, 41, 42, 43, 44, 45, 46, 47, 48, 49, 50, 51, 52] [53, 54, 55, 56, 57, 58, 59, 60, 61, 62, 63, 64, 65, 66, 67, 68, 69, 70, 71, 72, 73, 74, 75, 76, 77, 78, 79, 80, 81, 82, 83, 84, 85, 86, 87, 88, 89] rfl rfl (by decide) (by decide) (by decide) (c_X_reset l g st st1 hx1) (cw_law_57 hts) (x_rc C hX (q0 := 0) rfl rfl) rfl hl.1 rfl (lv_room (Nat.le_of_ble_eq_true rfl)) d_law_293 ⟨by decide, by decide⟩ (fun H locs hX => hB H locs hX)
set_option maxHeartbeats 4000000 in
set_option maxRecDepth 100000 in
theorem law_loop (hr : meth.sig.returnType = ret) (hlocks : meth.locks = false) (hXs : va_X b L xs s s.heap) (hbl : b < s.heap.size) (hL : L ≤ 1536) (C : Cx g (fun q : Nat => s.heap.size ≤ q) p m c code 4 s #[Value.ref b] R_law) (hS : Sim I) (n : Nat) : ∀ (k : Nat), L + 4 - k ≤ n → k ≤ L + 3 → ∀ (st : St) (tt : SM), I st tt → ∀ (H : Heap) (locs : List Loc) (ls : Array Slot), XW g (fun q : Nat => s.heap.size ≤ q) s (wX g st ++ wM g tt) H locs → lv_has ls 4 [(0, .ref b), (1, .ref (g.q 0)), (2, .ref (g.q 60)), (3, .int (nI k))] → W p l e room_1 s m #[Value.ref b] below meth c H locs 90 9974 (lw_Z below #[Value.ref b] s) (F0 m 18 ls []) := by
  have ⟨⟨hx, hb, hml, hown, hts⟩, hK, hA, hN⟩ := C
  have hbA : ¬ (fun q : Nat => s.heap.size ≤ q) b := Nat.not_le.mpr hbl
  induction n with
  | zero => intro k hn; omega
  | succ n ih =>
    intro k hn hk st tt hI H locs ls hX hl
    refine lv_iload_n hx hb d_law_18 rfl (lv_at hl 3 rfl) ?_
    refine lv_aload_n hx hb d_law_19 rfl (lv_at hl 0 rfl) ?_
    refine va_slen hx hb hXs hbl hbA hX.2.2 d_law_20 ?_
    refine lv_iconst (v := 3) hx hb d_law_21 (by decide) ?_
    refine lv_isub hx hb d_law_22 ?_
    have e3 : (nI L - 3).toInt = (L : Int) - 3 := pk_sub_toInt (a := L) (b := 3) (by omega) (by omega)
    have ek : (nI k).toInt = (k : Int) := nI_toInt (by omega)
    refine lv_icmp_gt (tgt := 309) hx hb d_law_23 (by decide) (fun c23 => ?_) (fun c23 => ?_)
    · refine lv_iconst (v := 1) hx hb d_law_309 (by decide) ?_
      refine va_forget (fun q h => hX.2.2.2.2 q h) ?_
      refine W.widen (k := 600000) (n := 7302250) (by decide) (by decide) ?_
      exact lw_ret hx hb hr hlocks d_law_310
    · have h3 : k + 3 ≤ L := by
        have c24 : ¬ (nI L - 3 < nI k) := c23
        rw [Int32.lt_iff_toInt_lt, e3, ek] at c24
        omega
      have next : ∀ (st : St) (tt : SM), I st tt → ∀ (H : Heap) (locs : List Loc) (ls : Array Slot), XW g (fun q : Nat => s.heap.size ≤ q) s (wX g st ++ wM g tt) H locs → lv_has ls 4 [(0, .ref b), (1, .ref (g.q 0)), (2, .ref (g.q 60)), (3, .int (nI k))] → W p l e room_1 s m #[Value.ref b] below meth c H locs 90 9974 (lw_Z below #[Value.ref b] s) (F0 m 303 ls []) := by
        intro st tt hI H locs ls hX hl
        refine lv_iinc (v := nI (k + 3)) (lv' := [(3, .int (nI (k + 3))), (0, .ref b), (1, .ref (g.q 0)), (2, .ref (g.q 60))]) hx hb d_law_303 hl (k := 3) rfl (nI_add k 3) (by decide) rfl (fun ls hl => ?_)
        refine lv_goto (tgt := 18) hx hb d_law_306 (by decide) ?_
        exact ih (k + 3) (by omega) (by omega) st tt hI H locs ls hX (lv_sub hl [1, 2, 3, 0] rfl)
      obtain ⟨Sfeed, Sload, Scompile, Sarg, Sstart, Srun, Sresult, SpeekMem, SrcodeLen, Srcode, Sreset⟩ := hS
      refine lv_aload_n hx hb d_law_26 rfl (lv_at hl 0 rfl) ?_
      refine lv_iload_n hx hb d_law_27 rfl (lv_at hl 3 rfl) ?_
      refine va_sld hx hb hXs hbl hbA hX.2.2 (vp_in_nI (n := k) (by omega) (by omega)) d_law_28 ?_
      refine lv_bipush (v := 15) hx hb d_law_29 (by decide) ?_
      refine lv_iand hx hb d_law_31 ?_
      refine lv_topi (fun z ez => ?_)
      by_cases z0 : z = 0
      · refine lv_tableIn (tgt := 92) hx hb d_law_32 (by rw [z0]; decide) (by rw [z0]; decide) (by rw [z0]; rfl) (by decide) ?_
        exact law_feed hr hlocks hXs hbl hL C Sfeed h3 st tt hI H locs ls hX hl next
      by_cases z1 : z = 1
      · refine lv_tableIn (tgt := 115) hx hb d_law_32 (by rw [z1]; decide) (by rw [z1]; decide) (by rw [z1]; rfl) (by decide) ?_
        exact law_load hr hlocks hXs hbl hL C Sload h3 st tt hI H locs ls hX hl next
      by_cases z2 : z = 2
      · refine lv_tableIn (tgt := 128) hx hb d_law_32 (by rw [z2]; decide) (by rw [z2]; decide) (by rw [z2]; rfl) (by decide) ?_
        exact law_compile hr hlocks hXs hbl hL C Scompile h3 st tt hI H locs ls hX hl next
      by_cases z3 : z = 3
      · refine lv_tableIn (tgt := 141) hx hb d_law_32 (by rw [z3]; decide) (by rw [z3]; decide) (by rw [z3]; rfl) (by decide) ?_
        exact law_arg hr hlocks hXs hbl hL C Sarg h3 st tt hI H locs ls hX hl next
      by_cases z4 : z = 4
      · refine lv_tableIn (tgt := 164) hx hb d_law_32 (by rw [z4]; decide) (by rw [z4]; decide) (by rw [z4]; rfl) (by decide) ?_
        exact law_start hr hlocks hXs hbl hL C Sstart h3 st tt hI H locs ls hX hl next
      by_cases z5 : z = 5
      · refine lv_tableIn (tgt := 197) hx hb d_law_32 (by rw [z5]; decide) (by rw [z5]; decide) (by rw [z5]; rfl) (by decide) ?_
        exact law_run hr hlocks hXs hbl hL C Srun h3 st tt hI H locs ls hX hl next
      by_cases z6 : z = 6
      · refine lv_tableIn (tgt := 220) hx hb d_law_32 (by rw [z6]; decide) (by rw [z6]; decide) (by rw [z6]; rfl) (by decide) ?_
        exact law_result hr hlocks hXs hbl hL C Sresult h3 st tt hI H locs ls hX hl next
      by_cases z7 : z = 7
      · refine lv_tableIn (tgt := 233) hx hb d_law_32 (by rw [z7]; decide) (by rw [z7]; decide) (by rw [z7]; rfl) (by decide) ?_
        exact law_peekMem hr hlocks hXs hbl hL C SpeekMem h3 st tt hI H locs ls hX hl next
      by_cases z8 : z = 8
      · refine lv_tableIn (tgt := 256) hx hb d_law_32 (by rw [z8]; decide) (by rw [z8]; decide) (by rw [z8]; rfl) (by decide) ?_
        exact law_rcodeLen hr hlocks hXs hbl hL C SrcodeLen h3 st tt hI H locs ls hX hl next
      by_cases z9 : z = 9
      · refine lv_tableIn (tgt := 269) hx hb d_law_32 (by rw [z9]; decide) (by rw [z9]; decide) (by rw [z9]; rfl) (by decide) ?_
        exact law_rcode hr hlocks hXs hbl hL C Srcode h3 st tt hI H locs ls hX hl next
      by_cases z10 : z = 10
      · refine lv_tableIn (tgt := 292) hx hb d_law_32 (by rw [z10]; decide) (by rw [z10]; decide) (by rw [z10]; rfl) (by decide) ?_
        exact law_reset hr hlocks hXs hbl hL C Sreset h3 st tt hI H locs ls hX hl next
      have hn0 := lv_neT z0 (a := 0) (by decide)
      have hn1 := lv_neT z1 (a := 1) (by decide)
      have hn2 := lv_neT z2 (a := 2) (by decide)
      have hn3 := lv_neT z3 (a := 3) (by decide)
      have hn4 := lv_neT z4 (a := 4) (by decide)
      have hn5 := lv_neT z5 (a := 5) (by decide)
      have hn6 := lv_neT z6 (a := 6) (by decide)
      have hn7 := lv_neT z7 (a := 7) (by decide)
      have hn8 := lv_neT z8 (a := 8) (by decide)
      have hn9 := lv_neT z9 (a := 9) (by decide)
      have hn10 := lv_neT z10 (a := 10) (by decide)
      refine lv_tableOut (tgt := 303) hx hb d_law_32 (by omega) (by decide) ?_
      exact next st tt hI H locs ls hX hl
end LAW
