def fs_0 (g : GX) (s : St) : List Value := [.ref (g.q 1), .ref (g.q 2), .ref (g.q 3), .ref (g.q 4), .ref (g.q 5), .ref (g.q 6), .ref (g.q 7), .ref (g.q 8), .int (s 0 0), .int (s 0 1), .int (s 0 2), .int (s 0 3), .int (s 0 4)]
def fs_1 (g : GX) (s : St) : List Value := [.ref (g.q 10), .ref (g.q 12), .ref (g.q 14), .ref (g.q 16), .ref (g.q 18), .ref (g.q 20), .ref (g.q 22), .int (s 1 0), .int (s 1 1), .int (s 1 2)]
def fs_2 (g : GX) (s : St) : List Value := [.ref (g.q 1), .ref (g.q 26), .ref (g.q 24), .int (s 2 0), .int (s 2 1), .int (s 2 2), .int (s 2 3), .int (s 2 4), .int (s 2 5)]
def fs_3 (g : GX) (s : St) : List Value := [.ref (g.q 1), .ref (g.q 27), .int (s 3 0), .int (s 3 1), .int (s 3 2), .int (s 3 3)]
def fs_4 (g : GX) (s : St) : List Value := [.ref (g.q 29), .ref (g.q 1), .ref (g.q 31), .int (s 4 0), .int (s 4 1), .int (s 4 2)]
def fs_5 (g : GX) (s : St) : List Value := [.ref (g.q 33), .ref (g.q 35), .ref (g.q 37), .int (s 5 0), .int (s 5 1)]
def fs_6 (g : GX) (s : St) : List Value := [.ref (g.q 5), .ref (g.q 39), .ref (g.q 41), .int (s 6 0), .int (s 6 1), .int (s 6 2), .int (s 6 3), .int (s 6 4), .ref (g.q 1), .ref (g.q 47), .ref (g.q 49), .ref (g.q 51), .int (s 6 5), .int (s 6 6)]
def fs_7 (g : GX) (s : St) : List Value := [.ref (g.q 5), .ref (g.q 43), .ref (g.q 45), .int (s 7 0), .int (s 7 1), .int (s 7 2), .int (s 7 3), .int (s 7 4), .ref (g.q 4)]
def fs_8 (g : GX) (s : St) : List Value := [.ref (g.q 9)]
def fs_10 (g : GX) (s : St) : List Value := [.ref (g.q 11), .int (nI 8), .int (nI 2), .int (s 10 0)]
def fs_12 (g : GX) (s : St) : List Value := [.ref (g.q 13), .int (nI 8), .int (nI 4), .int (s 12 0)]
def fs_14 (g : GX) (s : St) : List Value := [.ref (g.q 15), .int (nI 4), .int (nI 2), .int (s 14 0)]
def fs_16 (g : GX) (s : St) : List Value := [.ref (g.q 17), .int (nI 8), .int (nI 11), .int (s 16 0)]
def fs_18 (g : GX) (s : St) : List Value := [.ref (g.q 19), .int (nI 4), .int (nI 4), .int (s 18 0)]
def fs_20 (g : GX) (s : St) : List Value := [.ref (g.q 21), .int (nI 240), .int (nI 7), .int (s 20 0)]
def fs_22 (g : GX) (s : St) : List Value := [.ref (g.q 23), .int (nI 240), .int (nI 1), .int (s 22 0)]
def fs_24 (g : GX) (s : St) : List Value := [.ref (g.q 25)]
def fs_27 (g : GX) (s : St) : List Value := [.ref (g.q 28), .int (nI 11), .int (nI 6), .int (s 27 0)]
def fs_29 (g : GX) (s : St) : List Value := [.ref (g.q 30)]
def fs_31 (g : GX) (s : St) : List Value := [.ref (g.q 32)]
def fs_33 (g : GX) (s : St) : List Value := [.ref (g.q 34)]
def fs_35 (g : GX) (s : St) : List Value := [.ref (g.q 36)]
def fs_37 (g : GX) (s : St) : List Value := [.ref (g.q 38)]
def fs_39 (g : GX) (s : St) : List Value := [.ref (g.q 40)]
def fs_41 (g : GX) (s : St) : List Value := [.ref (g.q 42)]
def fs_43 (g : GX) (s : St) : List Value := [.ref (g.q 44)]
def fs_45 (g : GX) (s : St) : List Value := [.ref (g.q 46)]
def fs_47 (g : GX) (s : St) : List Value := [.ref (g.q 48), .int (nI 80), .int (nI 2), .int (s 47 0)]
def fs_49 (g : GX) (s : St) : List Value := [.ref (g.q 50)]
def fs_51 (g : GX) (s : St) : List Value := [.ref (g.q 52)]
def wX (g : GX) (s : St) : va_W := [
  (g.q 0, .inr (2, fs_0 g s)),
  (g.q 1, .inr (3, fs_1 g s)),
  (g.q 2, .inr (4, fs_2 g s)),
  (g.q 3, .inr (5, fs_3 g s)),
  (g.q 4, .inr (6, fs_4 g s)),
  (g.q 5, .inr (7, fs_5 g s)),
  (g.q 6, .inr (8, fs_6 g s)),
  (g.q 7, .inr (9, fs_7 g s)),
  (g.q 8, .inr (0, fs_8 g s)),
  (g.q 9, .inl (g.cI, 4, .inl (s 9))),
  (g.q 10, .inr (1, fs_10 g s)),
  (g.q 11, .inl (g.cI, 16, .inl (s 11))),
  (g.q 12, .inr (1, fs_12 g s)),
  (g.q 13, .inl (g.cI, 32, .inl (s 13))),
  (g.q 14, .inr (1, fs_14 g s)),
  (g.q 15, .inl (g.cI, 8, .inl (s 15))),
  (g.q 16, .inr (1, fs_16 g s)),
  (g.q 17, .inl (g.cI, 88, .inl (s 17))),
  (g.q 18, .inr (1, fs_18 g s)),
  (g.q 19, .inl (g.cI, 16, .inl (s 19))),
  (g.q 20, .inr (1, fs_20 g s)),
  (g.q 21, .inl (g.cI, 1680, .inl (s 21))),
  (g.q 22, .inr (1, fs_22 g s)),
  (g.q 23, .inl (g.cI, 240, .inl (s 23))),
  (g.q 24, .inr (0, fs_24 g s)),
  (g.q 25, .inl (g.cI, 11, .inl (s 25))),
  (g.q 26, .inl (g.cI, 240, .inl (s 26))),
  (g.q 27, .inr (1, fs_27 g s)),
  (g.q 28, .inl (g.cI, 66, .inl (s 28))),
  (g.q 29, .inr (0, fs_29 g s)),
  (g.q 30, .inl (g.cI, 960, .inl (s 30))),
  (g.q 31, .inr (0, fs_31 g s)),
  (g.q 32, .inl (g.cI, 10, .inl (s 32))),
  (g.q 33, .inr (0, fs_33 g s)),
  (g.q 34, .inl (g.cI, 256, .inl (s 34))),
  (g.q 35, .inr (0, fs_35 g s)),
  (g.q 36, .inl (g.cI, 224, .inl (s 36))),
  (g.q 37, .inr (0, fs_37 g s)),
  (g.q 38, .inl (g.cI, 4, .inl (s 38))),
  (g.q 39, .inr (0, fs_39 g s)),
  (g.q 40, .inl (g.cI, 8, .inl (s 40))),
  (g.q 41, .inr (0, fs_41 g s)),
  (g.q 42, .inl (g.cI, 8, .inl (s 42))),
  (g.q 43, .inr (0, fs_43 g s)),
  (g.q 44, .inl (g.cI, 8, .inl (s 44))),
  (g.q 45, .inr (0, fs_45 g s)),
  (g.q 46, .inl (g.cI, 8, .inl (s 46))),
  (g.q 47, .inr (1, fs_47 g s)),
  (g.q 48, .inl (g.cI, 160, .inl (s 48))),
  (g.q 49, .inr (0, fs_49 g s)),
  (g.q 50, .inl (g.cI, 8, .inl (s 50))),
  (g.q 51, .inr (0, fs_51 g s)),
  (g.q 52, .inl (g.cI, 8, .inl (s 52)))]
theorem wg_0 {g : GX} {s : St} : (wX g s)[0]? = some (g.q 0, .inr (2, fs_0 g s)) := rfl
theorem wp_0_argumentCount {g : GX} {s : St} {v : Int32} : (wX g s).set 0 (g.q 0, .inr (2, (fs_0 g s).set 8 (.int v))) = wX g (stp s 0 0 v) := rfl
theorem wp_0_loaded {g : GX} {s : St} {v : Int32} : (wX g s).set 0 (g.q 0, .inr (2, (fs_0 g s).set 9 (.int v))) = wX g (stp s 0 1 v) := rfl
theorem wp_0_compiled {g : GX} {s : St} {v : Int32} : (wX g s).set 0 (g.q 0, .inr (2, (fs_0 g s).set 10 (.int v))) = wX g (stp s 0 2 v) := rfl
theorem wp_0_active {g : GX} {s : St} {v : Int32} : (wX g s).set 0 (g.q 0, .inr (2, (fs_0 g s).set 11 (.int v))) = wX g (stp s 0 3 v) := rfl
theorem wp_0_returned {g : GX} {s : St} {v : Int32} : (wX g s).set 0 (g.q 0, .inr (2, (fs_0 g s).set 12 (.int v))) = wX g (stp s 0 4 v) := rfl
theorem wg_1 {g : GX} {s : St} : (wX g s)[1]? = some (g.q 1, .inr (3, fs_1 g s)) := rfl
theorem wp_1_hasMemory {g : GX} {s : St} {v : Int32} : (wX g s).set 1 (g.q 1, .inr (3, (fs_1 g s).set 7 (.int v))) = wX g (stp s 1 0 v) := rfl
theorem wp_1_firstPages {g : GX} {s : St} {v : Int32} : (wX g s).set 1 (g.q 1, .inr (3, (fs_1 g s).set 8 (.int v))) = wX g (stp s 1 1 v) := rfl
theorem wp_1_mostPages {g : GX} {s : St} {v : Int32} : (wX g s).set 1 (g.q 1, .inr (3, (fs_1 g s).set 9 (.int v))) = wX g (stp s 1 2 v) := rfl
theorem wg_2 {g : GX} {s : St} : (wX g s)[2]? = some (g.q 2, .inr (4, fs_2 g s)) := rfl
theorem wp_2_openCount {g : GX} {s : St} {v : Int32} : (wX g s).set 2 (g.q 2, .inr (4, (fs_2 g s).set 3 (.int v))) = wX g (stp s 2 0 v) := rfl
theorem wp_2_fed {g : GX} {s : St} {v : Int32} : (wX g s).set 2 (g.q 2, .inr (4, (fs_2 g s).set 4 (.int v))) = wX g (stp s 2 1 v) := rfl
theorem wp_2_place {g : GX} {s : St} {v : Int32} : (wX g s).set 2 (g.q 2, .inr (4, (fs_2 g s).set 5 (.int v))) = wX g (stp s 2 2 v) := rfl
theorem wp_2_bound {g : GX} {s : St} {v : Int32} : (wX g s).set 2 (g.q 2, .inr (4, (fs_2 g s).set 6 (.int v))) = wX g (stp s 2 3 v) := rfl
theorem wp_2_bodies {g : GX} {s : St} {v : Int32} : (wX g s).set 2 (g.q 2, .inr (4, (fs_2 g s).set 7 (.int v))) = wX g (stp s 2 4 v) := rfl
theorem wp_2_fault {g : GX} {s : St} {v : Int32} : (wX g s).set 2 (g.q 2, .inr (4, (fs_2 g s).set 8 (.int v))) = wX g (stp s 2 5 v) := rfl
theorem wg_3 {g : GX} {s : St} : (wX g s)[3]? = some (g.q 3, .inr (5, fs_3 g s)) := rfl
theorem wp_3_open {g : GX} {s : St} {v : Int32} : (wX g s).set 3 (g.q 3, .inr (5, (fs_3 g s).set 2 (.int v))) = wX g (stp s 3 0 v) := rfl
theorem wp_3_height {g : GX} {s : St} {v : Int32} : (wX g s).set 3 (g.q 3, .inr (5, (fs_3 g s).set 3 (.int v))) = wX g (stp s 3 1 v) := rfl
theorem wp_3_function {g : GX} {s : St} {v : Int32} : (wX g s).set 3 (g.q 3, .inr (5, (fs_3 g s).set 4 (.int v))) = wX g (stp s 3 2 v) := rfl
theorem wp_3_fault {g : GX} {s : St} {v : Int32} : (wX g s).set 3 (g.q 3, .inr (5, (fs_3 g s).set 5 (.int v))) = wX g (stp s 3 3 v) := rfl
theorem wg_4 {g : GX} {s : St} : (wX g s)[4]? = some (g.q 4, .inr (6, fs_4 g s)) := rfl
theorem wp_4_openCount {g : GX} {s : St} {v : Int32} : (wX g s).set 4 (g.q 4, .inr (6, (fs_4 g s).set 3 (.int v))) = wX g (stp s 4 0 v) := rfl
theorem wp_4_entries {g : GX} {s : St} {v : Int32} : (wX g s).set 4 (g.q 4, .inr (6, (fs_4 g s).set 4 (.int v))) = wX g (stp s 4 1 v) := rfl
theorem wp_4_function {g : GX} {s : St} {v : Int32} : (wX g s).set 4 (g.q 4, .inr (6, (fs_4 g s).set 5 (.int v))) = wX g (stp s 4 2 v) := rfl
theorem wg_5 {g : GX} {s : St} : (wX g s)[5]? = some (g.q 5, .inr (7, fs_5 g s)) := rfl
theorem wp_5_pages {g : GX} {s : St} {v : Int32} : (wX g s).set 5 (g.q 5, .inr (7, (fs_5 g s).set 3 (.int v))) = wX g (stp s 5 0 v) := rfl
theorem wp_5_mostPages {g : GX} {s : St} {v : Int32} : (wX g s).set 5 (g.q 5, .inr (7, (fs_5 g s).set 4 (.int v))) = wX g (stp s 5 1 v) := rfl
theorem wg_6 {g : GX} {s : St} : (wX g s)[6]? = some (g.q 6, .inr (8, fs_6 g s)) := rfl
theorem wp_6_calls {g : GX} {s : St} {v : Int32} : (wX g s).set 6 (g.q 6, .inr (8, (fs_6 g s).set 3 (.int v))) = wX g (stp s 6 0 v) := rfl
theorem wp_6_base {g : GX} {s : St} {v : Int32} : (wX g s).set 6 (g.q 6, .inr (8, (fs_6 g s).set 4 (.int v))) = wX g (stp s 6 1 v) := rfl
theorem wp_6_next {g : GX} {s : St} {v : Int32} : (wX g s).set 6 (g.q 6, .inr (8, (fs_6 g s).set 5 (.int v))) = wX g (stp s 6 2 v) := rfl
theorem wp_6_outcome {g : GX} {s : St} {v : Int32} : (wX g s).set 6 (g.q 6, .inr (8, (fs_6 g s).set 6 (.int v))) = wX g (stp s 6 3 v) := rfl
theorem wp_6_value {g : GX} {s : St} {v : Int32} : (wX g s).set 6 (g.q 6, .inr (8, (fs_6 g s).set 7 (.int v))) = wX g (stp s 6 4 v) := rfl
theorem wp_6_depth {g : GX} {s : St} {v : Int32} : (wX g s).set 6 (g.q 6, .inr (8, (fs_6 g s).set 12 (.int v))) = wX g (stp s 6 5 v) := rfl
theorem wp_6_top {g : GX} {s : St} {v : Int32} : (wX g s).set 6 (g.q 6, .inr (8, (fs_6 g s).set 13 (.int v))) = wX g (stp s 6 6 v) := rfl
theorem wg_7 {g : GX} {s : St} : (wX g s)[7]? = some (g.q 7, .inr (9, fs_7 g s)) := rfl
theorem wp_7_calls {g : GX} {s : St} {v : Int32} : (wX g s).set 7 (g.q 7, .inr (9, (fs_7 g s).set 3 (.int v))) = wX g (stp s 7 0 v) := rfl
theorem wp_7_base {g : GX} {s : St} {v : Int32} : (wX g s).set 7 (g.q 7, .inr (9, (fs_7 g s).set 4 (.int v))) = wX g (stp s 7 1 v) := rfl
theorem wp_7_next {g : GX} {s : St} {v : Int32} : (wX g s).set 7 (g.q 7, .inr (9, (fs_7 g s).set 5 (.int v))) = wX g (stp s 7 2 v) := rfl
theorem wp_7_outcome {g : GX} {s : St} {v : Int32} : (wX g s).set 7 (g.q 7, .inr (9, (fs_7 g s).set 6 (.int v))) = wX g (stp s 7 3 v) := rfl
theorem wp_7_value {g : GX} {s : St} {v : Int32} : (wX g s).set 7 (g.q 7, .inr (9, (fs_7 g s).set 7 (.int v))) = wX g (stp s 7 4 v) := rfl
theorem wg_8 {g : GX} {s : St} : (wX g s)[8]? = some (g.q 8, .inr (0, fs_8 g s)) := rfl
theorem wa_9 {g : GX} {s : St} : (wX g s)[9]? = some (g.q 9, .inl (g.cI, 4, .inl (s 9))) := rfl
theorem ws_9 {g : GX} {s : St} {f : Nat → Int32} : (wX g s).set 9 (g.q 9, .inl (g.cI, 4, .inl f)) = wX g (sta s 9 f) := rfl
theorem wg_10 {g : GX} {s : St} : (wX g s)[10]? = some (g.q 10, .inr (1, fs_10 g s)) := rfl
theorem wp_10_count {g : GX} {s : St} {v : Int32} : (wX g s).set 10 (g.q 10, .inr (1, (fs_10 g s).set 3 (.int v))) = wX g (stp s 10 0 v) := rfl
theorem wa_11 {g : GX} {s : St} : (wX g s)[11]? = some (g.q 11, .inl (g.cI, 16, .inl (s 11))) := rfl
theorem ws_11 {g : GX} {s : St} {f : Nat → Int32} : (wX g s).set 11 (g.q 11, .inl (g.cI, 16, .inl f)) = wX g (sta s 11 f) := rfl
theorem wg_12 {g : GX} {s : St} : (wX g s)[12]? = some (g.q 12, .inr (1, fs_12 g s)) := rfl
theorem wp_12_count {g : GX} {s : St} {v : Int32} : (wX g s).set 12 (g.q 12, .inr (1, (fs_12 g s).set 3 (.int v))) = wX g (stp s 12 0 v) := rfl
theorem wa_13 {g : GX} {s : St} : (wX g s)[13]? = some (g.q 13, .inl (g.cI, 32, .inl (s 13))) := rfl
theorem ws_13 {g : GX} {s : St} {f : Nat → Int32} : (wX g s).set 13 (g.q 13, .inl (g.cI, 32, .inl f)) = wX g (sta s 13 f) := rfl
theorem wg_14 {g : GX} {s : St} : (wX g s)[14]? = some (g.q 14, .inr (1, fs_14 g s)) := rfl
theorem wp_14_count {g : GX} {s : St} {v : Int32} : (wX g s).set 14 (g.q 14, .inr (1, (fs_14 g s).set 3 (.int v))) = wX g (stp s 14 0 v) := rfl
theorem wa_15 {g : GX} {s : St} : (wX g s)[15]? = some (g.q 15, .inl (g.cI, 8, .inl (s 15))) := rfl
theorem ws_15 {g : GX} {s : St} {f : Nat → Int32} : (wX g s).set 15 (g.q 15, .inl (g.cI, 8, .inl f)) = wX g (sta s 15 f) := rfl
theorem wg_16 {g : GX} {s : St} : (wX g s)[16]? = some (g.q 16, .inr (1, fs_16 g s)) := rfl
theorem wp_16_count {g : GX} {s : St} {v : Int32} : (wX g s).set 16 (g.q 16, .inr (1, (fs_16 g s).set 3 (.int v))) = wX g (stp s 16 0 v) := rfl
theorem wa_17 {g : GX} {s : St} : (wX g s)[17]? = some (g.q 17, .inl (g.cI, 88, .inl (s 17))) := rfl
theorem ws_17 {g : GX} {s : St} {f : Nat → Int32} : (wX g s).set 17 (g.q 17, .inl (g.cI, 88, .inl f)) = wX g (sta s 17 f) := rfl
theorem wg_18 {g : GX} {s : St} : (wX g s)[18]? = some (g.q 18, .inr (1, fs_18 g s)) := rfl
theorem wp_18_count {g : GX} {s : St} {v : Int32} : (wX g s).set 18 (g.q 18, .inr (1, (fs_18 g s).set 3 (.int v))) = wX g (stp s 18 0 v) := rfl
theorem wa_19 {g : GX} {s : St} : (wX g s)[19]? = some (g.q 19, .inl (g.cI, 16, .inl (s 19))) := rfl
theorem ws_19 {g : GX} {s : St} {f : Nat → Int32} : (wX g s).set 19 (g.q 19, .inl (g.cI, 16, .inl f)) = wX g (sta s 19 f) := rfl
theorem wg_20 {g : GX} {s : St} : (wX g s)[20]? = some (g.q 20, .inr (1, fs_20 g s)) := rfl
theorem wp_20_count {g : GX} {s : St} {v : Int32} : (wX g s).set 20 (g.q 20, .inr (1, (fs_20 g s).set 3 (.int v))) = wX g (stp s 20 0 v) := rfl
theorem wa_21 {g : GX} {s : St} : (wX g s)[21]? = some (g.q 21, .inl (g.cI, 1680, .inl (s 21))) := rfl
theorem ws_21 {g : GX} {s : St} {f : Nat → Int32} : (wX g s).set 21 (g.q 21, .inl (g.cI, 1680, .inl f)) = wX g (sta s 21 f) := rfl
theorem wg_22 {g : GX} {s : St} : (wX g s)[22]? = some (g.q 22, .inr (1, fs_22 g s)) := rfl
theorem wp_22_count {g : GX} {s : St} {v : Int32} : (wX g s).set 22 (g.q 22, .inr (1, (fs_22 g s).set 3 (.int v))) = wX g (stp s 22 0 v) := rfl
theorem wa_23 {g : GX} {s : St} : (wX g s)[23]? = some (g.q 23, .inl (g.cI, 240, .inl (s 23))) := rfl
theorem ws_23 {g : GX} {s : St} {f : Nat → Int32} : (wX g s).set 23 (g.q 23, .inl (g.cI, 240, .inl f)) = wX g (sta s 23 f) := rfl
theorem wg_24 {g : GX} {s : St} : (wX g s)[24]? = some (g.q 24, .inr (0, fs_24 g s)) := rfl
theorem wa_25 {g : GX} {s : St} : (wX g s)[25]? = some (g.q 25, .inl (g.cI, 11, .inl (s 25))) := rfl
theorem ws_25 {g : GX} {s : St} {f : Nat → Int32} : (wX g s).set 25 (g.q 25, .inl (g.cI, 11, .inl f)) = wX g (sta s 25 f) := rfl
theorem wa_26 {g : GX} {s : St} : (wX g s)[26]? = some (g.q 26, .inl (g.cI, 240, .inl (s 26))) := rfl
theorem ws_26 {g : GX} {s : St} {f : Nat → Int32} : (wX g s).set 26 (g.q 26, .inl (g.cI, 240, .inl f)) = wX g (sta s 26 f) := rfl
theorem wg_27 {g : GX} {s : St} : (wX g s)[27]? = some (g.q 27, .inr (1, fs_27 g s)) := rfl
theorem wp_27_count {g : GX} {s : St} {v : Int32} : (wX g s).set 27 (g.q 27, .inr (1, (fs_27 g s).set 3 (.int v))) = wX g (stp s 27 0 v) := rfl
theorem wa_28 {g : GX} {s : St} : (wX g s)[28]? = some (g.q 28, .inl (g.cI, 66, .inl (s 28))) := rfl
theorem ws_28 {g : GX} {s : St} {f : Nat → Int32} : (wX g s).set 28 (g.q 28, .inl (g.cI, 66, .inl f)) = wX g (sta s 28 f) := rfl
theorem wg_29 {g : GX} {s : St} : (wX g s)[29]? = some (g.q 29, .inr (0, fs_29 g s)) := rfl
theorem wa_30 {g : GX} {s : St} : (wX g s)[30]? = some (g.q 30, .inl (g.cI, 960, .inl (s 30))) := rfl
theorem ws_30 {g : GX} {s : St} {f : Nat → Int32} : (wX g s).set 30 (g.q 30, .inl (g.cI, 960, .inl f)) = wX g (sta s 30 f) := rfl
theorem wg_31 {g : GX} {s : St} : (wX g s)[31]? = some (g.q 31, .inr (0, fs_31 g s)) := rfl
theorem wa_32 {g : GX} {s : St} : (wX g s)[32]? = some (g.q 32, .inl (g.cI, 10, .inl (s 32))) := rfl
theorem ws_32 {g : GX} {s : St} {f : Nat → Int32} : (wX g s).set 32 (g.q 32, .inl (g.cI, 10, .inl f)) = wX g (sta s 32 f) := rfl
theorem wg_33 {g : GX} {s : St} : (wX g s)[33]? = some (g.q 33, .inr (0, fs_33 g s)) := rfl
theorem wa_34 {g : GX} {s : St} : (wX g s)[34]? = some (g.q 34, .inl (g.cI, 256, .inl (s 34))) := rfl
theorem ws_34 {g : GX} {s : St} {f : Nat → Int32} : (wX g s).set 34 (g.q 34, .inl (g.cI, 256, .inl f)) = wX g (sta s 34 f) := rfl
theorem wg_35 {g : GX} {s : St} : (wX g s)[35]? = some (g.q 35, .inr (0, fs_35 g s)) := rfl
theorem wa_36 {g : GX} {s : St} : (wX g s)[36]? = some (g.q 36, .inl (g.cI, 224, .inl (s 36))) := rfl
theorem ws_36 {g : GX} {s : St} {f : Nat → Int32} : (wX g s).set 36 (g.q 36, .inl (g.cI, 224, .inl f)) = wX g (sta s 36 f) := rfl
theorem wg_37 {g : GX} {s : St} : (wX g s)[37]? = some (g.q 37, .inr (0, fs_37 g s)) := rfl
theorem wa_38 {g : GX} {s : St} : (wX g s)[38]? = some (g.q 38, .inl (g.cI, 4, .inl (s 38))) := rfl
theorem ws_38 {g : GX} {s : St} {f : Nat → Int32} : (wX g s).set 38 (g.q 38, .inl (g.cI, 4, .inl f)) = wX g (sta s 38 f) := rfl
theorem wg_39 {g : GX} {s : St} : (wX g s)[39]? = some (g.q 39, .inr (0, fs_39 g s)) := rfl
theorem wa_40 {g : GX} {s : St} : (wX g s)[40]? = some (g.q 40, .inl (g.cI, 8, .inl (s 40))) := rfl
theorem ws_40 {g : GX} {s : St} {f : Nat → Int32} : (wX g s).set 40 (g.q 40, .inl (g.cI, 8, .inl f)) = wX g (sta s 40 f) := rfl
theorem wg_41 {g : GX} {s : St} : (wX g s)[41]? = some (g.q 41, .inr (0, fs_41 g s)) := rfl
theorem wa_42 {g : GX} {s : St} : (wX g s)[42]? = some (g.q 42, .inl (g.cI, 8, .inl (s 42))) := rfl
theorem ws_42 {g : GX} {s : St} {f : Nat → Int32} : (wX g s).set 42 (g.q 42, .inl (g.cI, 8, .inl f)) = wX g (sta s 42 f) := rfl
theorem wg_43 {g : GX} {s : St} : (wX g s)[43]? = some (g.q 43, .inr (0, fs_43 g s)) := rfl
theorem wa_44 {g : GX} {s : St} : (wX g s)[44]? = some (g.q 44, .inl (g.cI, 8, .inl (s 44))) := rfl
theorem ws_44 {g : GX} {s : St} {f : Nat → Int32} : (wX g s).set 44 (g.q 44, .inl (g.cI, 8, .inl f)) = wX g (sta s 44 f) := rfl
theorem wg_45 {g : GX} {s : St} : (wX g s)[45]? = some (g.q 45, .inr (0, fs_45 g s)) := rfl
theorem wa_46 {g : GX} {s : St} : (wX g s)[46]? = some (g.q 46, .inl (g.cI, 8, .inl (s 46))) := rfl
theorem ws_46 {g : GX} {s : St} {f : Nat → Int32} : (wX g s).set 46 (g.q 46, .inl (g.cI, 8, .inl f)) = wX g (sta s 46 f) := rfl
theorem wg_47 {g : GX} {s : St} : (wX g s)[47]? = some (g.q 47, .inr (1, fs_47 g s)) := rfl
theorem wp_47_count {g : GX} {s : St} {v : Int32} : (wX g s).set 47 (g.q 47, .inr (1, (fs_47 g s).set 3 (.int v))) = wX g (stp s 47 0 v) := rfl
theorem wa_48 {g : GX} {s : St} : (wX g s)[48]? = some (g.q 48, .inl (g.cI, 160, .inl (s 48))) := rfl
theorem ws_48 {g : GX} {s : St} {f : Nat → Int32} : (wX g s).set 48 (g.q 48, .inl (g.cI, 160, .inl f)) = wX g (sta s 48 f) := rfl
theorem wg_49 {g : GX} {s : St} : (wX g s)[49]? = some (g.q 49, .inr (0, fs_49 g s)) := rfl
theorem wa_50 {g : GX} {s : St} : (wX g s)[50]? = some (g.q 50, .inl (g.cI, 8, .inl (s 50))) := rfl
theorem ws_50 {g : GX} {s : St} {f : Nat → Int32} : (wX g s).set 50 (g.q 50, .inl (g.cI, 8, .inl f)) = wX g (sta s 50 f) := rfl
theorem wg_51 {g : GX} {s : St} : (wX g s)[51]? = some (g.q 51, .inr (0, fs_51 g s)) := rfl
theorem wa_52 {g : GX} {s : St} : (wX g s)[52]? = some (g.q 52, .inl (g.cI, 8, .inl (s 52))) := rfl
theorem ws_52 {g : GX} {s : St} {f : Nat → Int32} : (wX g s).set 52 (g.q 52, .inl (g.cI, 8, .inl f)) = wX g (sta s 52 f) := rfl
