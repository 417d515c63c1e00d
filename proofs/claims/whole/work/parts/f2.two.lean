-- instructions of two operands
theorem tru_ex (z x y : Int32) : ∃ r, f_Op_isTrue z x y = some r := by
  rw [f_Op_isTrue]
  simp only [lt1, f_Op_isTrue_78, f_Op_isTrue_89, f_Op_isTrue_100, f_Op_isTrue_113, f_Op_isTrue_124, f_Op_isTrue_137, f_Op_isTrue_148, f_Op_isTrue_161, f_Op_isTrue_172, f_Op_isTrue_185, bz0, bz1]
  repeat' split
  all_goals exact ⟨_, rfl⟩
def mval (z x y : Int32) : Option Int32 := if 80 ≤ z then if 116 ≤ z then f_M_shift z x y else f_M_reckon z x y else bd1 (f_M_compare z x y) fun r => if r = 0 then some 0 else some 1
theorem mb48 (z x y : Int32) (s : SM) : f_M_both_48 z y x s = bd1 (mval z x y) fun r => f_M_both_93 z y x r s := by
  rw [f_M_both_48, mval]
  split
  · split
    · rfl
    · rfl
  · cases f_M_compare z x y with
    | none => rfl
    | some r =>
      simp only [bd1_some]
      split
      · rfl
      · rfl
section TWO
variable {z x y : Int32}
theorem tw_cmp {o : Nat} (h1 : 69 < o) (h2 : o < 80) : ∃ r, f_Op_ofTwo (nI o) x y = some r ∧ mval (nI o) x y = some r := by
  obtain ⟨r, hr⟩ := tru_ex (nI o) x y
  have hc := cmp2 x y o h1 h2
  rw [hr] at hc
  rw [f_Op_ofTwo, mval, if_neg (show ¬ nI o < 70 from nI_nlt (b := 70) (by omega) (by omega)), if_neg (show ¬ (79 : Int32) < nI o from nI_nlt (a := 79) (by omega) (by decide)), if_neg (show ¬ (80 : Int32) ≤ nI o from nI_ge (b := 80) h2 (by decide)), hr, ← hc, bd1_some, bd1_some]
  simp only [f_Op_ofTwo_26]
  split
  · exact ⟨0, rfl, rfl⟩
  · exact ⟨1, rfl, rfl⟩
theorem tw_106 (h : z = nI 106) : ∃ r, f_Op_ofTwo z x y = some r ∧ mval z x y = some r := by
  have e1 : f_Op_ofTwo z x y = some (x + y) := by
    rw [f_Op_ofTwo, if_neg (show ¬ z < 70 by rw [h]; decide), if_pos (show (79 : Int32) < z by rw [h]; decide), f_Op_ofTwo_27, if_pos (show z = 106 by rw [h]; rfl)]
    rfl
  have e2 : mval z x y = some (x + y) := by
    rw [mval, if_pos (show (80 : Int32) ≤ z by rw [h]; decide), if_neg (show ¬ (116 : Int32) ≤ z by rw [h]; decide), f_M_reckon]
    simp only [lt1]
    rw [if_pos (show z = 106 by rw [h]; rfl)]
  exact ⟨_, e1, e2⟩
theorem tw_107 (h : z = nI 107) : ∃ r, f_Op_ofTwo z x y = some r ∧ mval z x y = some r := by
  have e1 : f_Op_ofTwo z x y = some (x - y) := by
    rw [f_Op_ofTwo, if_neg (show ¬ z < 70 by rw [h]; decide), if_pos (show (79 : Int32) < z by rw [h]; decide), f_Op_ofTwo_27, if_neg (show ¬ z = 106 by rw [h]; decide), if_pos (show z = 107 by rw [h]; rfl)]
    rfl
  have e2 : mval z x y = some (x - y) := by
    rw [mval, if_pos (show (80 : Int32) ≤ z by rw [h]; decide), if_neg (show ¬ (116 : Int32) ≤ z by rw [h]; decide), f_M_reckon]
    simp only [lt1]
    rw [if_neg (show ¬ z = 106 by rw [h]; decide), if_pos (show z = 107 by rw [h]; rfl)]
  exact ⟨_, e1, e2⟩
theorem tw_108 (h : z = nI 108) : ∃ r, f_Op_ofTwo z x y = some r ∧ mval z x y = some r := by
  have e1 : f_Op_ofTwo z x y = some (x * y) := by
    rw [f_Op_ofTwo, if_neg (show ¬ z < 70 by rw [h]; decide), if_pos (show (79 : Int32) < z by rw [h]; decide), f_Op_ofTwo_27, if_neg (show ¬ z = 106 by rw [h]; decide), if_neg (show ¬ z = 107 by rw [h]; decide), if_pos (show z = 108 by rw [h]; rfl)]
    rfl
  have e2 : mval z x y = some (x * y) := by
    rw [mval, if_pos (show (80 : Int32) ≤ z by rw [h]; decide), if_neg (show ¬ (116 : Int32) ≤ z by rw [h]; decide), f_M_reckon]
    simp only [lt1]
    rw [if_neg (show ¬ z = 106 by rw [h]; decide), if_neg (show ¬ z = 107 by rw [h]; decide), if_pos (show z = 108 by rw [h]; rfl)]
  exact ⟨_, e1, e2⟩
theorem tw_109 (h : z = nI 109) (hy : ¬ y = 0) : ∃ r, f_Op_ofTwo z x y = some r ∧ mval z x y = some r := by
  have e1 : f_Op_ofTwo z x y = f_Op_divided z x y := by
    rw [f_Op_ofTwo, if_neg (show ¬ z < 70 by rw [h]; decide), if_pos (show (79 : Int32) < z by rw [h]; decide), f_Op_ofTwo_27, if_neg (show ¬ z = 106 by rw [h]; decide), if_neg (show ¬ z = 107 by rw [h]; decide), if_neg (show ¬ z = 108 by rw [h]; decide), if_neg (show ¬ z = 113 by rw [h]; decide), if_neg (show ¬ z = 114 by rw [h]; decide), if_neg (show ¬ z = 115 by rw [h]; decide), if_neg (show ¬ z = 116 by rw [h]; decide), if_neg (show ¬ z = 117 by rw [h]; decide), if_neg (show ¬ z = 118 by rw [h]; decide), if_neg (show ¬ z = 119 by rw [h]; decide), if_neg (show ¬ z = 120 by rw [h]; decide), f_Op_ofTwo_158]
    cases f_Op_divided z x y <;> rfl
  have e2 : mval z x y = f_M_reckon z x y := by rw [mval, if_pos (show (80 : Int32) ≤ z by rw [h]; decide), if_neg (show ¬ (116 : Int32) ≤ z by rw [h]; decide)]
  exact ⟨_, e1.trans (dv_109 h hy), e2.trans (rk_109 h hy)⟩
theorem tw_110 (h : z = nI 110) (hy : ¬ y = 0) : ∃ r, f_Op_ofTwo z x y = some r ∧ mval z x y = some r := by
  have e1 : f_Op_ofTwo z x y = f_Op_divided z x y := by
    rw [f_Op_ofTwo, if_neg (show ¬ z < 70 by rw [h]; decide), if_pos (show (79 : Int32) < z by rw [h]; decide), f_Op_ofTwo_27, if_neg (show ¬ z = 106 by rw [h]; decide), if_neg (show ¬ z = 107 by rw [h]; decide), if_neg (show ¬ z = 108 by rw [h]; decide), if_neg (show ¬ z = 113 by rw [h]; decide), if_neg (show ¬ z = 114 by rw [h]; decide), if_neg (show ¬ z = 115 by rw [h]; decide), if_neg (show ¬ z = 116 by rw [h]; decide), if_neg (show ¬ z = 117 by rw [h]; decide), if_neg (show ¬ z = 118 by rw [h]; decide), if_neg (show ¬ z = 119 by rw [h]; decide), if_neg (show ¬ z = 120 by rw [h]; decide), f_Op_ofTwo_158]
    cases f_Op_divided z x y <;> rfl
  have e2 : mval z x y = f_M_reckon z x y := by rw [mval, if_pos (show (80 : Int32) ≤ z by rw [h]; decide), if_neg (show ¬ (116 : Int32) ≤ z by rw [h]; decide)]
  exact ⟨_, e1.trans (dv_110 h hy), e2.trans (rk_110 h hy)⟩
theorem tw_111 (h : z = nI 111) (hy : ¬ y = 0) : ∃ r, f_Op_ofTwo z x y = some r ∧ mval z x y = some r := by
  have e1 : f_Op_ofTwo z x y = f_Op_divided z x y := by
    rw [f_Op_ofTwo, if_neg (show ¬ z < 70 by rw [h]; decide), if_pos (show (79 : Int32) < z by rw [h]; decide), f_Op_ofTwo_27, if_neg (show ¬ z = 106 by rw [h]; decide), if_neg (show ¬ z = 107 by rw [h]; decide), if_neg (show ¬ z = 108 by rw [h]; decide), if_neg (show ¬ z = 113 by rw [h]; decide), if_neg (show ¬ z = 114 by rw [h]; decide), if_neg (show ¬ z = 115 by rw [h]; decide), if_neg (show ¬ z = 116 by rw [h]; decide), if_neg (show ¬ z = 117 by rw [h]; decide), if_neg (show ¬ z = 118 by rw [h]; decide), if_neg (show ¬ z = 119 by rw [h]; decide), if_neg (show ¬ z = 120 by rw [h]; decide), f_Op_ofTwo_158]
    cases f_Op_divided z x y <;> rfl
  have e2 : mval z x y = f_M_reckon z x y := by rw [mval, if_pos (show (80 : Int32) ≤ z by rw [h]; decide), if_neg (show ¬ (116 : Int32) ≤ z by rw [h]; decide)]
  exact ⟨_, e1.trans (dv_111 h hy), e2.trans (rk_111 h hy)⟩
theorem tw_112 (h : z = nI 112) (hy : ¬ y = 0) : ∃ r, f_Op_ofTwo z x y = some r ∧ mval z x y = some r := by
  have e1 : f_Op_ofTwo z x y = f_Op_divided z x y := by
    rw [f_Op_ofTwo, if_neg (show ¬ z < 70 by rw [h]; decide), if_pos (show (79 : Int32) < z by rw [h]; decide), f_Op_ofTwo_27, if_neg (show ¬ z = 106 by rw [h]; decide), if_neg (show ¬ z = 107 by rw [h]; decide), if_neg (show ¬ z = 108 by rw [h]; decide), if_neg (show ¬ z = 113 by rw [h]; decide), if_neg (show ¬ z = 114 by rw [h]; decide), if_neg (show ¬ z = 115 by rw [h]; decide), if_neg (show ¬ z = 116 by rw [h]; decide), if_neg (show ¬ z = 117 by rw [h]; decide), if_neg (show ¬ z = 118 by rw [h]; decide), if_neg (show ¬ z = 119 by rw [h]; decide), if_neg (show ¬ z = 120 by rw [h]; decide), f_Op_ofTwo_158]
    cases f_Op_divided z x y <;> rfl
  have e2 : mval z x y = f_M_reckon z x y := by rw [mval, if_pos (show (80 : Int32) ≤ z by rw [h]; decide), if_neg (show ¬ (116 : Int32) ≤ z by rw [h]; decide)]
  exact ⟨_, e1.trans (dv_112 h hy), e2.trans (rk_112 h hy)⟩
theorem tw_113 (h : z = nI 113) : ∃ r, f_Op_ofTwo z x y = some r ∧ mval z x y = some r := by
  have e1 : f_Op_ofTwo z x y = some (x &&& y) := by
    rw [f_Op_ofTwo, if_neg (show ¬ z < 70 by rw [h]; decide), if_pos (show (79 : Int32) < z by rw [h]; decide), f_Op_ofTwo_27, if_neg (show ¬ z = 106 by rw [h]; decide), if_neg (show ¬ z = 107 by rw [h]; decide), if_neg (show ¬ z = 108 by rw [h]; decide), if_pos (show z = 113 by rw [h]; rfl)]
    rfl
  have e2 : mval z x y = some (x &&& y) := by
    rw [mval, if_pos (show (80 : Int32) ≤ z by rw [h]; decide), if_neg (show ¬ (116 : Int32) ≤ z by rw [h]; decide), f_M_reckon]
    simp only [lt1]
    rw [if_neg (show ¬ z = 106 by rw [h]; decide), if_neg (show ¬ z = 107 by rw [h]; decide), if_neg (show ¬ z = 108 by rw [h]; decide), if_neg (show ¬ z = 109 by rw [h]; decide), if_neg (show ¬ z = 110 by rw [h]; decide), if_neg (show ¬ z = 111 by rw [h]; decide), if_neg (show ¬ z = 112 by rw [h]; decide), if_pos (show z = 113 by rw [h]; rfl)]
  exact ⟨_, e1, e2⟩
theorem tw_114 (h : z = nI 114) : ∃ r, f_Op_ofTwo z x y = some r ∧ mval z x y = some r := by
  have e1 : f_Op_ofTwo z x y = some (x ||| y) := by
    rw [f_Op_ofTwo, if_neg (show ¬ z < 70 by rw [h]; decide), if_pos (show (79 : Int32) < z by rw [h]; decide), f_Op_ofTwo_27, if_neg (show ¬ z = 106 by rw [h]; decide), if_neg (show ¬ z = 107 by rw [h]; decide), if_neg (show ¬ z = 108 by rw [h]; decide), if_neg (show ¬ z = 113 by rw [h]; decide), if_pos (show z = 114 by rw [h]; rfl)]
    rfl
  have e2 : mval z x y = some (x ||| y) := by
    rw [mval, if_pos (show (80 : Int32) ≤ z by rw [h]; decide), if_neg (show ¬ (116 : Int32) ≤ z by rw [h]; decide), f_M_reckon]
    simp only [lt1]
    rw [if_neg (show ¬ z = 106 by rw [h]; decide), if_neg (show ¬ z = 107 by rw [h]; decide), if_neg (show ¬ z = 108 by rw [h]; decide), if_neg (show ¬ z = 109 by rw [h]; decide), if_neg (show ¬ z = 110 by rw [h]; decide), if_neg (show ¬ z = 111 by rw [h]; decide), if_neg (show ¬ z = 112 by rw [h]; decide), if_neg (show ¬ z = 113 by rw [h]; decide), if_pos (show z = 114 by rw [h]; rfl)]
  exact ⟨_, e1, e2⟩
theorem tw_115 (h : z = nI 115) : ∃ r, f_Op_ofTwo z x y = some r ∧ mval z x y = some r := by
  have e1 : f_Op_ofTwo z x y = some (x ^^^ y) := by
    rw [f_Op_ofTwo, if_neg (show ¬ z < 70 by rw [h]; decide), if_pos (show (79 : Int32) < z by rw [h]; decide), f_Op_ofTwo_27, if_neg (show ¬ z = 106 by rw [h]; decide), if_neg (show ¬ z = 107 by rw [h]; decide), if_neg (show ¬ z = 108 by rw [h]; decide), if_neg (show ¬ z = 113 by rw [h]; decide), if_neg (show ¬ z = 114 by rw [h]; decide), if_pos (show z = 115 by rw [h]; rfl)]
    rfl
  have e2 : mval z x y = some (x ^^^ y) := by
    rw [mval, if_pos (show (80 : Int32) ≤ z by rw [h]; decide), if_neg (show ¬ (116 : Int32) ≤ z by rw [h]; decide), f_M_reckon]
    simp only [lt1]
    rw [if_neg (show ¬ z = 106 by rw [h]; decide), if_neg (show ¬ z = 107 by rw [h]; decide), if_neg (show ¬ z = 108 by rw [h]; decide), if_neg (show ¬ z = 109 by rw [h]; decide), if_neg (show ¬ z = 110 by rw [h]; decide), if_neg (show ¬ z = 111 by rw [h]; decide), if_neg (show ¬ z = 112 by rw [h]; decide), if_neg (show ¬ z = 113 by rw [h]; decide), if_neg (show ¬ z = 114 by rw [h]; decide)]
  exact ⟨_, e1, e2⟩
theorem tw_116 (h : z = nI 116) : ∃ r, f_Op_ofTwo z x y = some r ∧ mval z x y = some r := by
  have e1 : f_Op_ofTwo z x y = some (x <<< (y &&& 31)) := by
    rw [f_Op_ofTwo, if_neg (show ¬ z < 70 by rw [h]; decide), if_pos (show (79 : Int32) < z by rw [h]; decide), f_Op_ofTwo_27, if_neg (show ¬ z = 106 by rw [h]; decide), if_neg (show ¬ z = 107 by rw [h]; decide), if_neg (show ¬ z = 108 by rw [h]; decide), if_neg (show ¬ z = 113 by rw [h]; decide), if_neg (show ¬ z = 114 by rw [h]; decide), if_neg (show ¬ z = 115 by rw [h]; decide), if_pos (show z = 116 by rw [h]; rfl)]
    rfl
  have e2 : mval z x y = some (x <<< (y &&& 31)) := by
    rw [mval, if_pos (show (80 : Int32) ≤ z by rw [h]; decide), if_pos (show (116 : Int32) ≤ z by rw [h]; decide), shf, if_pos (show z = 116 by rw [h]; rfl)]
  exact ⟨_, e1, e2⟩
theorem tw_117 (h : z = nI 117) : ∃ r, f_Op_ofTwo z x y = some r ∧ mval z x y = some r := by
  have e1 : f_Op_ofTwo z x y = some (x >>> (y &&& 31)) := by
    rw [f_Op_ofTwo, if_neg (show ¬ z < 70 by rw [h]; decide), if_pos (show (79 : Int32) < z by rw [h]; decide), f_Op_ofTwo_27, if_neg (show ¬ z = 106 by rw [h]; decide), if_neg (show ¬ z = 107 by rw [h]; decide), if_neg (show ¬ z = 108 by rw [h]; decide), if_neg (show ¬ z = 113 by rw [h]; decide), if_neg (show ¬ z = 114 by rw [h]; decide), if_neg (show ¬ z = 115 by rw [h]; decide), if_neg (show ¬ z = 116 by rw [h]; decide), if_pos (show z = 117 by rw [h]; rfl)]
    rfl
  have e2 : mval z x y = some (x >>> (y &&& 31)) := by
    rw [mval, if_pos (show (80 : Int32) ≤ z by rw [h]; decide), if_pos (show (116 : Int32) ≤ z by rw [h]; decide), shf, if_neg (show ¬ z = 116 by rw [h]; decide), if_pos (show z = 117 by rw [h]; rfl)]
  exact ⟨_, e1, e2⟩
theorem tw_118 (h : z = nI 118) : ∃ r, f_Op_ofTwo z x y = some r ∧ mval z x y = some r := by
  have e1 : f_Op_ofTwo z x y = some (ush x y) := by
    rw [f_Op_ofTwo, if_neg (show ¬ z < 70 by rw [h]; decide), if_pos (show (79 : Int32) < z by rw [h]; decide), f_Op_ofTwo_27, if_neg (show ¬ z = 106 by rw [h]; decide), if_neg (show ¬ z = 107 by rw [h]; decide), if_neg (show ¬ z = 108 by rw [h]; decide), if_neg (show ¬ z = 113 by rw [h]; decide), if_neg (show ¬ z = 114 by rw [h]; decide), if_neg (show ¬ z = 115 by rw [h]; decide), if_neg (show ¬ z = 116 by rw [h]; decide), if_neg (show ¬ z = 117 by rw [h]; decide), if_pos (show z = 118 by rw [h]; rfl)]
    rfl
  have e2 : mval z x y = some (ush x y) := by
    rw [mval, if_pos (show (80 : Int32) ≤ z by rw [h]; decide), if_pos (show (116 : Int32) ≤ z by rw [h]; decide), shf, if_neg (show ¬ z = 116 by rw [h]; decide), if_neg (show ¬ z = 117 by rw [h]; decide), if_pos (show z = 118 by rw [h]; rfl)]
  exact ⟨_, e1, e2⟩
theorem tw_119 (h : z = nI 119) : ∃ r, f_Op_ofTwo z x y = some r ∧ mval z x y = some r := by
  have e1 : f_Op_ofTwo z x y = some ((x <<< (y &&& 31)) ||| ush x (-y)) := by
    rw [f_Op_ofTwo, if_neg (show ¬ z < 70 by rw [h]; decide), if_pos (show (79 : Int32) < z by rw [h]; decide), f_Op_ofTwo_27, if_neg (show ¬ z = 106 by rw [h]; decide), if_neg (show ¬ z = 107 by rw [h]; decide), if_neg (show ¬ z = 108 by rw [h]; decide), if_neg (show ¬ z = 113 by rw [h]; decide), if_neg (show ¬ z = 114 by rw [h]; decide), if_neg (show ¬ z = 115 by rw [h]; decide), if_neg (show ¬ z = 116 by rw [h]; decide), if_neg (show ¬ z = 117 by rw [h]; decide), if_neg (show ¬ z = 118 by rw [h]; decide), if_pos (show z = 119 by rw [h]; rfl)]
    rfl
  have e2 : mval z x y = some ((x <<< (y &&& 31)) ||| ush x (-y)) := by
    rw [mval, if_pos (show (80 : Int32) ≤ z by rw [h]; decide), if_pos (show (116 : Int32) ≤ z by rw [h]; decide), shf, if_neg (show ¬ z = 116 by rw [h]; decide), if_neg (show ¬ z = 117 by rw [h]; decide), if_neg (show ¬ z = 118 by rw [h]; decide), if_pos (show z = 119 by rw [h]; rfl)]
  exact ⟨_, e1, e2⟩
theorem tw_120 (h : z = nI 120) : ∃ r, f_Op_ofTwo z x y = some r ∧ mval z x y = some r := by
  have e1 : f_Op_ofTwo z x y = some (ush x y ||| (x <<< ((-y) &&& 31))) := by
    rw [f_Op_ofTwo, if_neg (show ¬ z < 70 by rw [h]; decide), if_pos (show (79 : Int32) < z by rw [h]; decide), f_Op_ofTwo_27, if_neg (show ¬ z = 106 by rw [h]; decide), if_neg (show ¬ z = 107 by rw [h]; decide), if_neg (show ¬ z = 108 by rw [h]; decide), if_neg (show ¬ z = 113 by rw [h]; decide), if_neg (show ¬ z = 114 by rw [h]; decide), if_neg (show ¬ z = 115 by rw [h]; decide), if_neg (show ¬ z = 116 by rw [h]; decide), if_neg (show ¬ z = 117 by rw [h]; decide), if_neg (show ¬ z = 118 by rw [h]; decide), if_neg (show ¬ z = 119 by rw [h]; decide), if_pos (show z = 120 by rw [h]; rfl)]
    rfl
  have e2 : mval z x y = some (ush x y ||| (x <<< ((-y) &&& 31))) := by
    rw [mval, if_pos (show (80 : Int32) ≤ z by rw [h]; decide), if_pos (show (116 : Int32) ≤ z by rw [h]; decide), shf, if_neg (show ¬ z = 116 by rw [h]; decide), if_neg (show ¬ z = 117 by rw [h]; decide), if_neg (show ¬ z = 118 by rw [h]; decide), if_neg (show ¬ z = 119 by rw [h]; decide)]
  exact ⟨_, e1, e2⟩
end TWO
/-- an instruction of two operands -/
theorem two2 {o : Nat} {x y : Int32} (ho : (69 < o ∧ o < 80) ∨ (105 < o ∧ o < 121)) (hy : 108 < o ∧ o < 113 → ¬ y = 0) : ∃ r, f_Op_ofTwo (nI o) x y = some r ∧ mval (nI o) x y = some r := by
  rcases ho with ho | ho
  · exact tw_cmp ho.1 ho.2
  · rcases (show o = 106 ∨ o = 107 ∨ o = 108 ∨ o = 109 ∨ o = 110 ∨ o = 111 ∨ o = 112 ∨ o = 113 ∨ o = 114 ∨ o = 115 ∨ o = 116 ∨ o = 117 ∨ o = 118 ∨ o = 119 ∨ o = 120 by omega) with q | q | q | q | q | q | q | q | q | q | q | q | q | q | q
    · subst q; exact tw_106 rfl
    · subst q; exact tw_107 rfl
    · subst q; exact tw_108 rfl
    · subst q; exact tw_109 rfl (hy (by decide))
    · subst q; exact tw_110 rfl (hy (by decide))
    · subst q; exact tw_111 rfl (hy (by decide))
    · subst q; exact tw_112 rfl (hy (by decide))
    · subst q; exact tw_113 rfl
    · subst q; exact tw_114 rfl
    · subst q; exact tw_115 rfl
    · subst q; exact tw_116 rfl
    · subst q; exact tw_117 rfl
    · subst q; exact tw_118 rfl
    · subst q; exact tw_119 rfl
    · subst q; exact tw_120 rfl
