abbrev SM : Type := (Nat → Nat → Int32) × (Nat → Nat → Int64)
def staL (s : Nat → Nat → Int64) (k : Nat) (f : Nat → Int64) : Nat → Nat → Int64 := fun a => if a = k then f else s a
def stI (s : SM) (k j : Nat) (v : Int32) : SM := (stp s.1 k j v, s.2)
def stL (s : SM) (k j : Nat) (v : Int64) : SM := (s.1, staL s.2 k (vp_updL (s.2 k) j v))
def fs_M (g : GX) (s : SM) : List Value := [.int (s.1 0 0), .int (s.1 0 1), .ref (g.q 61), .int (s.1 0 2), .int (s.1 0 3), .int (s.1 0 4), .int (s.1 0 5), .int (s.1 0 6), .ref (g.q 62), .ref (g.q 63), .int (s.1 0 7), .int (s.1 0 8), .ref (g.q 64), .int (s.1 0 9), .int (s.1 0 10), .long (s.2 0 0), .long (s.2 0 1), .int (s.1 0 11), .ref (g.q 65), .ref (g.q 66), .int (s.1 0 12), .ref (g.q 67), .ref (g.q 68), .ref (g.q 69), .int (s.1 0 13), .ref (g.q 70), .ref (g.q 71), .ref (g.q 72), .ref (g.q 73), .int (s.1 0 14), .ref (g.q 74), .ref (g.q 75), .ref (g.q 76), .ref (g.q 77), .ref (g.q 78), .ref (g.q 79), .ref (g.q 80), .ref (g.q 81), .ref (g.q 82), .ref (g.q 83), .ref (g.q 84), .int (s.1 0 15), .ref (g.q 85), .int (s.1 0 16), .int (s.1 0 17), .ref (g.q 86), .ref (g.q 87), .ref (g.q 88), .int (s.1 0 18), .ref (g.q 89), .ref (g.q 90), .int (s.1 0 19), .ref (g.q 91), .int (s.1 0 20), .int (s.1 0 21), .int (s.1 0 22), .int (s.1 0 23), .ref (g.q 92), .ref (g.q 93), .ref (g.q 94), .ref (g.q 95), .int (s.1 0 24), .int (s.1 0 25), .ref (g.q 96)]
def wM (g : GX) (s : SM) : va_W := [
  (g.q 60, .inr (10, fs_M g s)),
  (g.q 61, .inl (g.cI, 240, .inl (s.1 1))),
  (g.q 62, .inl (g.cI, 8, .inl (s.1 2))),
  (g.q 63, .inl (g.cI, 8, .inl (s.1 3))),
  (g.q 64, .inl (g.cJ, 8, .inr (.inl (s.2 4)))),
  (g.q 65, .inl (g.cZ, 4, .inl (s.1 5))),
  (g.q 66, .inl (g.cI, 4, .inl (s.1 6))),
  (g.q 67, .inl (g.cJ, 8, .inr (.inl (s.2 7)))),
  (g.q 68, .inl (g.cI, 8, .inl (s.1 8))),
  (g.q 69, .inl (g.cJ, 8, .inr (.inl (s.2 9)))),
  (g.q 70, .inl (g.cJ, 4, .inr (.inl (s.2 10)))),
  (g.q 71, .inl (g.cI, 4, .inl (s.1 11))),
  (g.q 72, .inl (g.cI, 4, .inl (s.1 12))),
  (g.q 73, .inl (g.cI, 4, .inl (s.1 13))),
  (g.q 74, .inl (g.cI, 250, .inl (s.1 14))),
  (g.q 75, .inl (g.cJ, 250, .inr (.inl (s.2 15)))),
  (g.q 76, .inl (g.cJ, 250, .inr (.inl (s.2 16)))),
  (g.q 77, .inl (g.cI, 250, .inl (s.1 17))),
  (g.q 78, .inl (g.cI, 250, .inl (s.1 18))),
  (g.q 79, .inl (g.cI, 250, .inl (s.1 19))),
  (g.q 80, .inl (g.cI, 250, .inl (s.1 20))),
  (g.q 81, .inl (g.cI, 251, .inl (s.1 21))),
  (g.q 82, .inl (g.cI, 8, .inl (s.1 22))),
  (g.q 83, .inl (g.cI, 8, .inl (s.1 23))),
  (g.q 84, .inl (g.cI, 8, .inl (s.1 24))),
  (g.q 85, .inl (g.cJ, 250, .inr (.inl (s.2 25)))),
  (g.q 86, .inl (g.cI, 16, .inl (s.1 26))),
  (g.q 87, .inl (g.cI, 16, .inl (s.1 27))),
  (g.q 88, .inl (g.cZ, 16, .inl (s.1 28))),
  (g.q 89, .inl (g.cI, 256, .inl (s.1 29))),
  (g.q 90, .inl (g.cI, 4, .inl (s.1 30))),
  (g.q 91, .inl (g.cI, 4, .inl (s.1 31))),
  (g.q 92, .inl (g.cI, 9, .inl (s.1 32))),
  (g.q 93, .inl (g.cI, 9, .inl (s.1 33))),
  (g.q 94, .inl (g.cI, 9, .inl (s.1 34))),
  (g.q 95, .inl (g.cI, 400, .inl (s.1 35))),
  (g.q 96, .inl (g.cI, 2400, .inl (s.1 36)))]
theorem vg_0 {g : GX} {s : SM} : (wM g s)[0]? = some (g.q 60, .inr (10, fs_M g s)) := rfl
theorem vp_m_code {g : GX} {s : SM} {v : Int32} : (wM g s).set 0 (g.q 60, .inr (10, (fs_M g s).set 0 (.int v))) = wM g (stI s 0 0 v) := rfl
theorem vp_m_fed {g : GX} {s : SM} {v : Int32} : (wM g s).set 0 (g.q 60, .inr (10, (fs_M g s).set 1 (.int v))) = wM g (stI s 0 1 v) := rfl
theorem vp_m_loaded {g : GX} {s : SM} {v : Int32} : (wM g s).set 0 (g.q 60, .inr (10, (fs_M g s).set 3 (.int v))) = wM g (stI s 0 2 v) := rfl
theorem vp_m_at {g : GX} {s : SM} {v : Int32} : (wM g s).set 0 (g.q 60, .inr (10, (fs_M g s).set 4 (.int v))) = wM g (stI s 0 3 v) := rfl
theorem vp_m_limit {g : GX} {s : SM} {v : Int32} : (wM g s).set 0 (g.q 60, .inr (10, (fs_M g s).set 5 (.int v))) = wM g (stI s 0 4 v) := rfl
theorem vp_m_wrong {g : GX} {s : SM} {v : Int32} : (wM g s).set 0 (g.q 60, .inr (10, (fs_M g s).set 6 (.int v))) = wM g (stI s 0 5 v) := rfl
theorem vp_m_types {g : GX} {s : SM} {v : Int32} : (wM g s).set 0 (g.q 60, .inr (10, (fs_M g s).set 7 (.int v))) = wM g (stI s 0 6 v) := rfl
theorem vp_m_functions {g : GX} {s : SM} {v : Int32} : (wM g s).set 0 (g.q 60, .inr (10, (fs_M g s).set 10 (.int v))) = wM g (stI s 0 7 v) := rfl
theorem vp_m_bodies {g : GX} {s : SM} {v : Int32} : (wM g s).set 0 (g.q 60, .inr (10, (fs_M g s).set 11 (.int v))) = wM g (stI s 0 8 v) := rfl
theorem vp_m_memories {g : GX} {s : SM} {v : Int32} : (wM g s).set 0 (g.q 60, .inr (10, (fs_M g s).set 13 (.int v))) = wM g (stI s 0 9 v) := rfl
theorem vp_m_capped {g : GX} {s : SM} {v : Int32} : (wM g s).set 0 (g.q 60, .inr (10, (fs_M g s).set 14 (.int v))) = wM g (stI s 0 10 v) := rfl
theorem vp_m_least {g : GX} {s : SM} {v : Int64} : (wM g s).set 0 (g.q 60, .inr (10, (fs_M g s).set 15 (.long v))) = wM g (stL s 0 0 v) := rfl
theorem vp_m_most {g : GX} {s : SM} {v : Int64} : (wM g s).set 0 (g.q 60, .inr (10, (fs_M g s).set 16 (.long v))) = wM g (stL s 0 1 v) := rfl
theorem vp_m_globals {g : GX} {s : SM} {v : Int32} : (wM g s).set 0 (g.q 60, .inr (10, (fs_M g s).set 17 (.int v))) = wM g (stI s 0 11 v) := rfl
theorem vp_m_exports {g : GX} {s : SM} {v : Int32} : (wM g s).set 0 (g.q 60, .inr (10, (fs_M g s).set 20 (.int v))) = wM g (stI s 0 12 v) := rfl
theorem vp_m_segments {g : GX} {s : SM} {v : Int32} : (wM g s).set 0 (g.q 60, .inr (10, (fs_M g s).set 24 (.int v))) = wM g (stI s 0 13 v) := rfl
theorem vp_m_many {g : GX} {s : SM} {v : Int32} : (wM g s).set 0 (g.q 60, .inr (10, (fs_M g s).set 29 (.int v))) = wM g (stI s 0 14 v) := rfl
theorem vp_m_labels {g : GX} {s : SM} {v : Int32} : (wM g s).set 0 (g.q 60, .inr (10, (fs_M g s).set 41 (.int v))) = wM g (stI s 0 15 v) := rfl
theorem vp_m_deep {g : GX} {s : SM} {v : Int32} : (wM g s).set 0 (g.q 60, .inr (10, (fs_M g s).set 43 (.int v))) = wM g (stI s 0 16 v) := rfl
theorem vp_m_top {g : GX} {s : SM} {v : Int32} : (wM g s).set 0 (g.q 60, .inr (10, (fs_M g s).set 44 (.int v))) = wM g (stI s 0 17 v) := rfl
theorem vp_m_pages {g : GX} {s : SM} {v : Int32} : (wM g s).set 0 (g.q 60, .inr (10, (fs_M g s).set 48 (.int v))) = wM g (stI s 0 18 v) := rfl
theorem vp_m_arguments {g : GX} {s : SM} {v : Int32} : (wM g s).set 0 (g.q 60, .inr (10, (fs_M g s).set 51 (.int v))) = wM g (stI s 0 19 v) := rfl
theorem vp_m_runs {g : GX} {s : SM} {v : Int32} : (wM g s).set 0 (g.q 60, .inr (10, (fs_M g s).set 53 (.int v))) = wM g (stI s 0 20 v) := rfl
theorem vp_m_result {g : GX} {s : SM} {v : Int32} : (wM g s).set 0 (g.q 60, .inr (10, (fs_M g s).set 54 (.int v))) = wM g (stI s 0 21 v) := rfl
theorem vp_m_calls {g : GX} {s : SM} {v : Int32} : (wM g s).set 0 (g.q 60, .inr (10, (fs_M g s).set 55 (.int v))) = wM g (stI s 0 22 v) := rfl
theorem vp_m_sp {g : GX} {s : SM} {v : Int32} : (wM g s).set 0 (g.q 60, .inr (10, (fs_M g s).set 56 (.int v))) = wM g (stI s 0 23 v) := rfl
theorem vp_m_compiled {g : GX} {s : SM} {v : Int32} : (wM g s).set 0 (g.q 60, .inr (10, (fs_M g s).set 61 (.int v))) = wM g (stI s 0 24 v) := rfl
theorem vp_m_words {g : GX} {s : SM} {v : Int32} : (wM g s).set 0 (g.q 60, .inr (10, (fs_M g s).set 62 (.int v))) = wM g (stI s 0 25 v) := rfl
theorem va_m_1 {g : GX} {s : SM} : (wM g s)[1]? = some (g.q 61, .inl (g.cI, 240, .inl (s.1 1))) := rfl
theorem vs_m_1 {g : GX} {s : SM} {j : Nat} {v : Int32} : (wM g s).set 1 (g.q 61, .inl (g.cI, 240, .inl (upd (s.1 1) j v))) = wM g (stI s 1 j v) := rfl
theorem va_m_2 {g : GX} {s : SM} : (wM g s)[2]? = some (g.q 62, .inl (g.cI, 8, .inl (s.1 2))) := rfl
theorem vs_m_2 {g : GX} {s : SM} {j : Nat} {v : Int32} : (wM g s).set 2 (g.q 62, .inl (g.cI, 8, .inl (upd (s.1 2) j v))) = wM g (stI s 2 j v) := rfl
theorem va_m_3 {g : GX} {s : SM} : (wM g s)[3]? = some (g.q 63, .inl (g.cI, 8, .inl (s.1 3))) := rfl
theorem vs_m_3 {g : GX} {s : SM} {j : Nat} {v : Int32} : (wM g s).set 3 (g.q 63, .inl (g.cI, 8, .inl (upd (s.1 3) j v))) = wM g (stI s 3 j v) := rfl
theorem va_m_4 {g : GX} {s : SM} : (wM g s)[4]? = some (g.q 64, .inl (g.cJ, 8, .inr (.inl (s.2 4)))) := rfl
theorem vs_m_4 {g : GX} {s : SM} {j : Nat} {v : Int64} : (wM g s).set 4 (g.q 64, .inl (g.cJ, 8, .inr (.inl (vp_updL (s.2 4) j v)))) = wM g (stL s 4 j v) := rfl
theorem va_m_5 {g : GX} {s : SM} : (wM g s)[5]? = some (g.q 65, .inl (g.cZ, 4, .inl (s.1 5))) := rfl
theorem vs_m_5 {g : GX} {s : SM} {j : Nat} {v : Int32} : (wM g s).set 5 (g.q 65, .inl (g.cZ, 4, .inl (upd (s.1 5) j v))) = wM g (stI s 5 j v) := rfl
theorem va_m_6 {g : GX} {s : SM} : (wM g s)[6]? = some (g.q 66, .inl (g.cI, 4, .inl (s.1 6))) := rfl
theorem vs_m_6 {g : GX} {s : SM} {j : Nat} {v : Int32} : (wM g s).set 6 (g.q 66, .inl (g.cI, 4, .inl (upd (s.1 6) j v))) = wM g (stI s 6 j v) := rfl
theorem va_m_7 {g : GX} {s : SM} : (wM g s)[7]? = some (g.q 67, .inl (g.cJ, 8, .inr (.inl (s.2 7)))) := rfl
theorem vs_m_7 {g : GX} {s : SM} {j : Nat} {v : Int64} : (wM g s).set 7 (g.q 67, .inl (g.cJ, 8, .inr (.inl (vp_updL (s.2 7) j v)))) = wM g (stL s 7 j v) := rfl
theorem va_m_8 {g : GX} {s : SM} : (wM g s)[8]? = some (g.q 68, .inl (g.cI, 8, .inl (s.1 8))) := rfl
theorem vs_m_8 {g : GX} {s : SM} {j : Nat} {v : Int32} : (wM g s).set 8 (g.q 68, .inl (g.cI, 8, .inl (upd (s.1 8) j v))) = wM g (stI s 8 j v) := rfl
theorem va_m_9 {g : GX} {s : SM} : (wM g s)[9]? = some (g.q 69, .inl (g.cJ, 8, .inr (.inl (s.2 9)))) := rfl
theorem vs_m_9 {g : GX} {s : SM} {j : Nat} {v : Int64} : (wM g s).set 9 (g.q 69, .inl (g.cJ, 8, .inr (.inl (vp_updL (s.2 9) j v)))) = wM g (stL s 9 j v) := rfl
theorem va_m_10 {g : GX} {s : SM} : (wM g s)[10]? = some (g.q 70, .inl (g.cJ, 4, .inr (.inl (s.2 10)))) := rfl
theorem vs_m_10 {g : GX} {s : SM} {j : Nat} {v : Int64} : (wM g s).set 10 (g.q 70, .inl (g.cJ, 4, .inr (.inl (vp_updL (s.2 10) j v)))) = wM g (stL s 10 j v) := rfl
theorem va_m_11 {g : GX} {s : SM} : (wM g s)[11]? = some (g.q 71, .inl (g.cI, 4, .inl (s.1 11))) := rfl
theorem vs_m_11 {g : GX} {s : SM} {j : Nat} {v : Int32} : (wM g s).set 11 (g.q 71, .inl (g.cI, 4, .inl (upd (s.1 11) j v))) = wM g (stI s 11 j v) := rfl
theorem va_m_12 {g : GX} {s : SM} : (wM g s)[12]? = some (g.q 72, .inl (g.cI, 4, .inl (s.1 12))) := rfl
theorem vs_m_12 {g : GX} {s : SM} {j : Nat} {v : Int32} : (wM g s).set 12 (g.q 72, .inl (g.cI, 4, .inl (upd (s.1 12) j v))) = wM g (stI s 12 j v) := rfl
theorem va_m_13 {g : GX} {s : SM} : (wM g s)[13]? = some (g.q 73, .inl (g.cI, 4, .inl (s.1 13))) := rfl
theorem vs_m_13 {g : GX} {s : SM} {j : Nat} {v : Int32} : (wM g s).set 13 (g.q 73, .inl (g.cI, 4, .inl (upd (s.1 13) j v))) = wM g (stI s 13 j v) := rfl
theorem va_m_14 {g : GX} {s : SM} : (wM g s)[14]? = some (g.q 74, .inl (g.cI, 250, .inl (s.1 14))) := rfl
theorem vs_m_14 {g : GX} {s : SM} {j : Nat} {v : Int32} : (wM g s).set 14 (g.q 74, .inl (g.cI, 250, .inl (upd (s.1 14) j v))) = wM g (stI s 14 j v) := rfl
theorem va_m_15 {g : GX} {s : SM} : (wM g s)[15]? = some (g.q 75, .inl (g.cJ, 250, .inr (.inl (s.2 15)))) := rfl
theorem vs_m_15 {g : GX} {s : SM} {j : Nat} {v : Int64} : (wM g s).set 15 (g.q 75, .inl (g.cJ, 250, .inr (.inl (vp_updL (s.2 15) j v)))) = wM g (stL s 15 j v) := rfl
theorem va_m_16 {g : GX} {s : SM} : (wM g s)[16]? = some (g.q 76, .inl (g.cJ, 250, .inr (.inl (s.2 16)))) := rfl
theorem vs_m_16 {g : GX} {s : SM} {j : Nat} {v : Int64} : (wM g s).set 16 (g.q 76, .inl (g.cJ, 250, .inr (.inl (vp_updL (s.2 16) j v)))) = wM g (stL s 16 j v) := rfl
theorem va_m_17 {g : GX} {s : SM} : (wM g s)[17]? = some (g.q 77, .inl (g.cI, 250, .inl (s.1 17))) := rfl
theorem vs_m_17 {g : GX} {s : SM} {j : Nat} {v : Int32} : (wM g s).set 17 (g.q 77, .inl (g.cI, 250, .inl (upd (s.1 17) j v))) = wM g (stI s 17 j v) := rfl
theorem va_m_18 {g : GX} {s : SM} : (wM g s)[18]? = some (g.q 78, .inl (g.cI, 250, .inl (s.1 18))) := rfl
theorem vs_m_18 {g : GX} {s : SM} {j : Nat} {v : Int32} : (wM g s).set 18 (g.q 78, .inl (g.cI, 250, .inl (upd (s.1 18) j v))) = wM g (stI s 18 j v) := rfl
theorem va_m_19 {g : GX} {s : SM} : (wM g s)[19]? = some (g.q 79, .inl (g.cI, 250, .inl (s.1 19))) := rfl
theorem vs_m_19 {g : GX} {s : SM} {j : Nat} {v : Int32} : (wM g s).set 19 (g.q 79, .inl (g.cI, 250, .inl (upd (s.1 19) j v))) = wM g (stI s 19 j v) := rfl
theorem va_m_20 {g : GX} {s : SM} : (wM g s)[20]? = some (g.q 80, .inl (g.cI, 250, .inl (s.1 20))) := rfl
theorem vs_m_20 {g : GX} {s : SM} {j : Nat} {v : Int32} : (wM g s).set 20 (g.q 80, .inl (g.cI, 250, .inl (upd (s.1 20) j v))) = wM g (stI s 20 j v) := rfl
theorem va_m_21 {g : GX} {s : SM} : (wM g s)[21]? = some (g.q 81, .inl (g.cI, 251, .inl (s.1 21))) := rfl
theorem vs_m_21 {g : GX} {s : SM} {j : Nat} {v : Int32} : (wM g s).set 21 (g.q 81, .inl (g.cI, 251, .inl (upd (s.1 21) j v))) = wM g (stI s 21 j v) := rfl
theorem va_m_22 {g : GX} {s : SM} : (wM g s)[22]? = some (g.q 82, .inl (g.cI, 8, .inl (s.1 22))) := rfl
theorem vs_m_22 {g : GX} {s : SM} {j : Nat} {v : Int32} : (wM g s).set 22 (g.q 82, .inl (g.cI, 8, .inl (upd (s.1 22) j v))) = wM g (stI s 22 j v) := rfl
theorem va_m_23 {g : GX} {s : SM} : (wM g s)[23]? = some (g.q 83, .inl (g.cI, 8, .inl (s.1 23))) := rfl
theorem vs_m_23 {g : GX} {s : SM} {j : Nat} {v : Int32} : (wM g s).set 23 (g.q 83, .inl (g.cI, 8, .inl (upd (s.1 23) j v))) = wM g (stI s 23 j v) := rfl
theorem va_m_24 {g : GX} {s : SM} : (wM g s)[24]? = some (g.q 84, .inl (g.cI, 8, .inl (s.1 24))) := rfl
theorem vs_m_24 {g : GX} {s : SM} {j : Nat} {v : Int32} : (wM g s).set 24 (g.q 84, .inl (g.cI, 8, .inl (upd (s.1 24) j v))) = wM g (stI s 24 j v) := rfl
theorem va_m_25 {g : GX} {s : SM} : (wM g s)[25]? = some (g.q 85, .inl (g.cJ, 250, .inr (.inl (s.2 25)))) := rfl
theorem vs_m_25 {g : GX} {s : SM} {j : Nat} {v : Int64} : (wM g s).set 25 (g.q 85, .inl (g.cJ, 250, .inr (.inl (vp_updL (s.2 25) j v)))) = wM g (stL s 25 j v) := rfl
theorem va_m_26 {g : GX} {s : SM} : (wM g s)[26]? = some (g.q 86, .inl (g.cI, 16, .inl (s.1 26))) := rfl
theorem vs_m_26 {g : GX} {s : SM} {j : Nat} {v : Int32} : (wM g s).set 26 (g.q 86, .inl (g.cI, 16, .inl (upd (s.1 26) j v))) = wM g (stI s 26 j v) := rfl
theorem va_m_27 {g : GX} {s : SM} : (wM g s)[27]? = some (g.q 87, .inl (g.cI, 16, .inl (s.1 27))) := rfl
theorem vs_m_27 {g : GX} {s : SM} {j : Nat} {v : Int32} : (wM g s).set 27 (g.q 87, .inl (g.cI, 16, .inl (upd (s.1 27) j v))) = wM g (stI s 27 j v) := rfl
theorem va_m_28 {g : GX} {s : SM} : (wM g s)[28]? = some (g.q 88, .inl (g.cZ, 16, .inl (s.1 28))) := rfl
theorem vs_m_28 {g : GX} {s : SM} {j : Nat} {v : Int32} : (wM g s).set 28 (g.q 88, .inl (g.cZ, 16, .inl (upd (s.1 28) j v))) = wM g (stI s 28 j v) := rfl
theorem va_m_29 {g : GX} {s : SM} : (wM g s)[29]? = some (g.q 89, .inl (g.cI, 256, .inl (s.1 29))) := rfl
theorem vs_m_29 {g : GX} {s : SM} {j : Nat} {v : Int32} : (wM g s).set 29 (g.q 89, .inl (g.cI, 256, .inl (upd (s.1 29) j v))) = wM g (stI s 29 j v) := rfl
theorem va_m_30 {g : GX} {s : SM} : (wM g s)[30]? = some (g.q 90, .inl (g.cI, 4, .inl (s.1 30))) := rfl
theorem vs_m_30 {g : GX} {s : SM} {j : Nat} {v : Int32} : (wM g s).set 30 (g.q 90, .inl (g.cI, 4, .inl (upd (s.1 30) j v))) = wM g (stI s 30 j v) := rfl
theorem va_m_31 {g : GX} {s : SM} : (wM g s)[31]? = some (g.q 91, .inl (g.cI, 4, .inl (s.1 31))) := rfl
theorem vs_m_31 {g : GX} {s : SM} {j : Nat} {v : Int32} : (wM g s).set 31 (g.q 91, .inl (g.cI, 4, .inl (upd (s.1 31) j v))) = wM g (stI s 31 j v) := rfl
theorem va_m_32 {g : GX} {s : SM} : (wM g s)[32]? = some (g.q 92, .inl (g.cI, 9, .inl (s.1 32))) := rfl
theorem vs_m_32 {g : GX} {s : SM} {j : Nat} {v : Int32} : (wM g s).set 32 (g.q 92, .inl (g.cI, 9, .inl (upd (s.1 32) j v))) = wM g (stI s 32 j v) := rfl
theorem va_m_33 {g : GX} {s : SM} : (wM g s)[33]? = some (g.q 93, .inl (g.cI, 9, .inl (s.1 33))) := rfl
theorem vs_m_33 {g : GX} {s : SM} {j : Nat} {v : Int32} : (wM g s).set 33 (g.q 93, .inl (g.cI, 9, .inl (upd (s.1 33) j v))) = wM g (stI s 33 j v) := rfl
theorem va_m_34 {g : GX} {s : SM} : (wM g s)[34]? = some (g.q 94, .inl (g.cI, 9, .inl (s.1 34))) := rfl
theorem vs_m_34 {g : GX} {s : SM} {j : Nat} {v : Int32} : (wM g s).set 34 (g.q 94, .inl (g.cI, 9, .inl (upd (s.1 34) j v))) = wM g (stI s 34 j v) := rfl
theorem va_m_35 {g : GX} {s : SM} : (wM g s)[35]? = some (g.q 95, .inl (g.cI, 400, .inl (s.1 35))) := rfl
theorem vs_m_35 {g : GX} {s : SM} {j : Nat} {v : Int32} : (wM g s).set 35 (g.q 95, .inl (g.cI, 400, .inl (upd (s.1 35) j v))) = wM g (stI s 35 j v) := rfl
theorem va_m_36 {g : GX} {s : SM} : (wM g s)[36]? = some (g.q 96, .inl (g.cI, 2400, .inl (s.1 36))) := rfl
theorem vs_m_36 {g : GX} {s : SM} {j : Nat} {v : Int32} : (wM g s).set 36 (g.q 96, .inl (g.cI, 2400, .inl (upd (s.1 36) j v))) = wM g (stI s 36 j v) := rfl
