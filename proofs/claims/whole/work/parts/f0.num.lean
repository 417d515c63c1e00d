-- instructions over numbers: comparing, dividing, shifting
theorem cmp32_le (a b : Int32) : (lg_cmp a.toInt64 b.toInt64 ≤ 0) ↔ a ≤ b := by
  rw [lg_cmp_le, Int64.le_iff_toInt_le, Int32.toInt_toInt64, Int32.toInt_toInt64, ← Int32.le_iff_toInt_le]
theorem cmp32_ge (a b : Int32) : (0 ≤ lg_cmp a.toInt64 b.toInt64) ↔ b ≤ a := by
  rw [lg_cmp_ge, Int64.le_iff_toInt_le, Int32.toInt_toInt64, Int32.toInt_toInt64, ← Int32.le_iff_toInt_le]
theorem cmp32_lt (a b : Int32) : (lg_cmp a.toInt64 b.toInt64 < 0) ↔ a < b := by
  rw [lg_cmp_lt, Int64.lt_iff_toInt_lt, Int32.toInt_toInt64, Int32.toInt_toInt64, ← Int32.lt_iff_toInt_lt]
theorem cmp32_gt (a b : Int32) : (0 < lg_cmp a.toInt64 b.toInt64) ↔ b < a := by
  rw [lg_cmp_gt, Int64.lt_iff_toInt_lt, Int32.toInt_toInt64, Int32.toInt_toInt64, ← Int32.lt_iff_toInt_lt]
theorem par_lit : ∀ n, n < 256 → (nI n - nI n / 2 * 2 = 0 ↔ n % 2 = 0) := by decide +kernel
theorem cmp_70 {z : Int32} (h : z = nI 70) (x y : Int32) : f_Op_isTrue z x y = f_M_compare z x y := by
  rw [f_Op_isTrue, f_M_compare]
  simp only [lt1]
  rw [if_pos (show z = 70 by rw [h]; rfl)]
  rw [if_pos (show z = 70 by rw [h]; rfl)]
  simp only [f_Op_isTrue_78, f_M_compare_16, bz0, bz1]
theorem cmp_71 {z : Int32} (h : z = nI 71) (x y : Int32) : f_Op_isTrue z x y = f_M_compare z x y := by
  rw [f_Op_isTrue, f_M_compare]
  simp only [lt1]
  rw [if_neg (show ¬ z = 70 by rw [h]; decide), if_pos (show z = 71 by rw [h]; rfl)]
  rw [if_neg (show ¬ z = 70 by rw [h]; decide), if_pos (show z = 71 by rw [h]; rfl)]
  simp only [f_Op_isTrue_89, f_M_compare_33, bz0, bz1]
theorem cmp_72 {z : Int32} (h : z = nI 72) (x y : Int32) : f_Op_isTrue z x y = f_M_compare z x y := by
  rw [f_Op_isTrue, f_M_compare]
  simp only [lt1]
  rw [if_neg (show ¬ z = 70 by rw [h]; decide), if_neg (show ¬ z = 71 by rw [h]; decide), if_pos (show z = 72 by rw [h]; rfl)]
  rw [if_neg (show ¬ z = 70 by rw [h]; decide), if_neg (show ¬ z = 71 by rw [h]; decide), gzi, if_neg (show ¬ (2 : Int32) = 0 by decide)]
  rw [if_pos (show z - z / 2 * 2 = 0 by rw [h]; decide +kernel), f_M_compare_51, gzi, if_neg (show ¬ (2 : Int32) = 0 by decide)]
  simp only [lt1]
  rw [if_pos (show z - z / 2 * 2 = 0 by rw [h]; decide +kernel), f_M_compare_69, if_neg (show ¬ (74 : Int32) ≤ z by rw [h]; decide)]
  simp only [lt1, f_Op_isTrue_100, f_M_compare_146, bz0, bz1, cmp32_le, cmp32_ge, cmp32_lt, cmp32_gt]
theorem cmp_73 {z : Int32} (h : z = nI 73) (x y : Int32) : f_Op_isTrue z x y = f_M_compare z x y := by
  rw [f_Op_isTrue, f_M_compare]
  simp only [lt1]
  rw [if_neg (show ¬ z = 70 by rw [h]; decide), if_neg (show ¬ z = 71 by rw [h]; decide), if_neg (show ¬ z = 72 by rw [h]; decide), if_pos (show z = 73 by rw [h]; rfl)]
  rw [if_neg (show ¬ z = 70 by rw [h]; decide), if_neg (show ¬ z = 71 by rw [h]; decide), gzi, if_neg (show ¬ (2 : Int32) = 0 by decide)]
  rw [if_neg (show ¬ z - z / 2 * 2 = 0 by rw [h]; decide +kernel), f_M_compare_51, gzi, if_neg (show ¬ (2 : Int32) = 0 by decide)]
  simp only [lt1]
  rw [if_neg (show ¬ z - z / 2 * 2 = 0 by rw [h]; decide +kernel), f_M_compare_69, if_neg (show ¬ (74 : Int32) ≤ z by rw [h]; decide)]
  simp only [lt1, f_Op_isTrue_113, f_M_compare_146, bz0, bz1]
theorem cmp_74 {z : Int32} (h : z = nI 74) (x y : Int32) : f_Op_isTrue z x y = f_M_compare z x y := by
  rw [f_Op_isTrue, f_M_compare]
  simp only [lt1]
  rw [if_neg (show ¬ z = 70 by rw [h]; decide), if_neg (show ¬ z = 71 by rw [h]; decide), if_neg (show ¬ z = 72 by rw [h]; decide), if_neg (show ¬ z = 73 by rw [h]; decide), if_pos (show z = 74 by rw [h]; rfl)]
  rw [if_neg (show ¬ z = 70 by rw [h]; decide), if_neg (show ¬ z = 71 by rw [h]; decide), gzi, if_neg (show ¬ (2 : Int32) = 0 by decide)]
  rw [if_pos (show z - z / 2 * 2 = 0 by rw [h]; decide +kernel), f_M_compare_51, gzi, if_neg (show ¬ (2 : Int32) = 0 by decide)]
  simp only [lt1]
  rw [if_pos (show z - z / 2 * 2 = 0 by rw [h]; decide +kernel), f_M_compare_69, if_pos (show (74 : Int32) ≤ z by rw [h]; decide), if_neg (show ¬ (76 : Int32) ≤ z by rw [h]; decide)]
  simp only [lt1, f_Op_isTrue_124, f_M_compare_146, bz0, bz1, cmp32_le, cmp32_ge, cmp32_lt, cmp32_gt]
theorem cmp_75 {z : Int32} (h : z = nI 75) (x y : Int32) : f_Op_isTrue z x y = f_M_compare z x y := by
  rw [f_Op_isTrue, f_M_compare]
  simp only [lt1]
  rw [if_neg (show ¬ z = 70 by rw [h]; decide), if_neg (show ¬ z = 71 by rw [h]; decide), if_neg (show ¬ z = 72 by rw [h]; decide), if_neg (show ¬ z = 73 by rw [h]; decide), if_neg (show ¬ z = 74 by rw [h]; decide), if_pos (show z = 75 by rw [h]; rfl)]
  rw [if_neg (show ¬ z = 70 by rw [h]; decide), if_neg (show ¬ z = 71 by rw [h]; decide), gzi, if_neg (show ¬ (2 : Int32) = 0 by decide)]
  rw [if_neg (show ¬ z - z / 2 * 2 = 0 by rw [h]; decide +kernel), f_M_compare_51, gzi, if_neg (show ¬ (2 : Int32) = 0 by decide)]
  simp only [lt1]
  rw [if_neg (show ¬ z - z / 2 * 2 = 0 by rw [h]; decide +kernel), f_M_compare_69, if_pos (show (74 : Int32) ≤ z by rw [h]; decide), if_neg (show ¬ (76 : Int32) ≤ z by rw [h]; decide)]
  simp only [lt1, f_Op_isTrue_137, f_M_compare_146, bz0, bz1]
theorem cmp_76 {z : Int32} (h : z = nI 76) (x y : Int32) : f_Op_isTrue z x y = f_M_compare z x y := by
  rw [f_Op_isTrue, f_M_compare]
  simp only [lt1]
  rw [if_neg (show ¬ z = 70 by rw [h]; decide), if_neg (show ¬ z = 71 by rw [h]; decide), if_neg (show ¬ z = 72 by rw [h]; decide), if_neg (show ¬ z = 73 by rw [h]; decide), if_neg (show ¬ z = 74 by rw [h]; decide), if_neg (show ¬ z = 75 by rw [h]; decide), if_pos (show z = 76 by rw [h]; rfl)]
  rw [if_neg (show ¬ z = 70 by rw [h]; decide), if_neg (show ¬ z = 71 by rw [h]; decide), gzi, if_neg (show ¬ (2 : Int32) = 0 by decide)]
  rw [if_pos (show z - z / 2 * 2 = 0 by rw [h]; decide +kernel), f_M_compare_51, gzi, if_neg (show ¬ (2 : Int32) = 0 by decide)]
  simp only [lt1]
  rw [if_pos (show z - z / 2 * 2 = 0 by rw [h]; decide +kernel), f_M_compare_69, if_pos (show (74 : Int32) ≤ z by rw [h]; decide), if_pos (show (76 : Int32) ≤ z by rw [h]; decide), if_neg (show ¬ (78 : Int32) ≤ z by rw [h]; decide)]
  simp only [lt1, f_Op_isTrue_148, f_M_compare_146, bz0, bz1, cmp32_le, cmp32_ge, cmp32_lt, cmp32_gt]
theorem cmp_77 {z : Int32} (h : z = nI 77) (x y : Int32) : f_Op_isTrue z x y = f_M_compare z x y := by
  rw [f_Op_isTrue, f_M_compare]
  simp only [lt1]
  rw [if_neg (show ¬ z = 70 by rw [h]; decide), if_neg (show ¬ z = 71 by rw [h]; decide), if_neg (show ¬ z = 72 by rw [h]; decide), if_neg (show ¬ z = 73 by rw [h]; decide), if_neg (show ¬ z = 74 by rw [h]; decide), if_neg (show ¬ z = 75 by rw [h]; decide), if_neg (show ¬ z = 76 by rw [h]; decide), if_pos (show z = 77 by rw [h]; rfl)]
  rw [if_neg (show ¬ z = 70 by rw [h]; decide), if_neg (show ¬ z = 71 by rw [h]; decide), gzi, if_neg (show ¬ (2 : Int32) = 0 by decide)]
  rw [if_neg (show ¬ z - z / 2 * 2 = 0 by rw [h]; decide +kernel), f_M_compare_51, gzi, if_neg (show ¬ (2 : Int32) = 0 by decide)]
  simp only [lt1]
  rw [if_neg (show ¬ z - z / 2 * 2 = 0 by rw [h]; decide +kernel), f_M_compare_69, if_pos (show (74 : Int32) ≤ z by rw [h]; decide), if_pos (show (76 : Int32) ≤ z by rw [h]; decide), if_neg (show ¬ (78 : Int32) ≤ z by rw [h]; decide)]
  simp only [lt1, f_Op_isTrue_161, f_M_compare_146, bz0, bz1]
theorem cmp_78 {z : Int32} (h : z = nI 78) (x y : Int32) : f_Op_isTrue z x y = f_M_compare z x y := by
  rw [f_Op_isTrue, f_M_compare]
  simp only [lt1]
  rw [if_neg (show ¬ z = 70 by rw [h]; decide), if_neg (show ¬ z = 71 by rw [h]; decide), if_neg (show ¬ z = 72 by rw [h]; decide), if_neg (show ¬ z = 73 by rw [h]; decide), if_neg (show ¬ z = 74 by rw [h]; decide), if_neg (show ¬ z = 75 by rw [h]; decide), if_neg (show ¬ z = 76 by rw [h]; decide), if_neg (show ¬ z = 77 by rw [h]; decide), if_pos (show z = 78 by rw [h]; rfl)]
  rw [if_neg (show ¬ z = 70 by rw [h]; decide), if_neg (show ¬ z = 71 by rw [h]; decide), gzi, if_neg (show ¬ (2 : Int32) = 0 by decide)]
  rw [if_pos (show z - z / 2 * 2 = 0 by rw [h]; decide +kernel), f_M_compare_51, gzi, if_neg (show ¬ (2 : Int32) = 0 by decide)]
  simp only [lt1]
  rw [if_pos (show z - z / 2 * 2 = 0 by rw [h]; decide +kernel), f_M_compare_69, if_pos (show (74 : Int32) ≤ z by rw [h]; decide), if_pos (show (76 : Int32) ≤ z by rw [h]; decide), if_pos (show (78 : Int32) ≤ z by rw [h]; decide)]
  simp only [lt1, f_Op_isTrue_172, f_M_compare_146, bz0, bz1, cmp32_le, cmp32_ge, cmp32_lt, cmp32_gt]
theorem cmp_79 {z : Int32} (h : z = nI 79) (x y : Int32) : f_Op_isTrue z x y = f_M_compare z x y := by
  rw [f_Op_isTrue, f_M_compare]
  simp only [lt1]
  rw [if_neg (show ¬ z = 70 by rw [h]; decide), if_neg (show ¬ z = 71 by rw [h]; decide), if_neg (show ¬ z = 72 by rw [h]; decide), if_neg (show ¬ z = 73 by rw [h]; decide), if_neg (show ¬ z = 74 by rw [h]; decide), if_neg (show ¬ z = 75 by rw [h]; decide), if_neg (show ¬ z = 76 by rw [h]; decide), if_neg (show ¬ z = 77 by rw [h]; decide), if_neg (show ¬ z = 78 by rw [h]; decide)]
  rw [if_neg (show ¬ z = 70 by rw [h]; decide), if_neg (show ¬ z = 71 by rw [h]; decide), gzi, if_neg (show ¬ (2 : Int32) = 0 by decide)]
  rw [if_neg (show ¬ z - z / 2 * 2 = 0 by rw [h]; decide +kernel), f_M_compare_51, gzi, if_neg (show ¬ (2 : Int32) = 0 by decide)]
  simp only [lt1]
  rw [if_neg (show ¬ z - z / 2 * 2 = 0 by rw [h]; decide +kernel), f_M_compare_69, if_pos (show (74 : Int32) ≤ z by rw [h]; decide), if_pos (show (76 : Int32) ≤ z by rw [h]; decide), if_pos (show (78 : Int32) ≤ z by rw [h]; decide)]
  simp only [lt1, f_Op_isTrue_185, f_M_compare_146, bz0, bz1]
/-- comparing -/
theorem cmp2 (x y : Int32) : ∀ o, 69 < o → o < 80 → f_Op_isTrue (nI o) x y = f_M_compare (nI o) x y := by
  intro o h1 h2
  rcases (show o = 70 ∨ o = 71 ∨ o = 72 ∨ o = 73 ∨ o = 74 ∨ o = 75 ∨ o = 76 ∨ o = 77 ∨ o = 78 ∨ o = 79 by omega) with q | q | q | q | q | q | q | q | q | q
  · subst q; exact cmp_70 rfl x y
  · subst q; exact cmp_71 rfl x y
  · subst q; exact cmp_72 rfl x y
  · subst q; exact cmp_73 rfl x y
  · subst q; exact cmp_74 rfl x y
  · subst q; exact cmp_75 rfl x y
  · subst q; exact cmp_76 rfl x y
  · subst q; exact cmp_77 rfl x y
  · subst q; exact cmp_78 rfl x y
  · subst q; exact cmp_79 rfl x y
