-- dividing, shifting
theorem i64div (x y : Int32) : (x.toInt64 / y.toInt64).toInt32 = x / y := by
  apply Int32.toInt_inj.mp
  rw [Int64.toInt_toInt32, Int64.toInt_div, Int32.toInt_div, Int32.toInt_toInt64, Int32.toInt_toInt64, Int.bmod_bmod_of_dvd (by decide)]
theorem divm1 (x : Int32) : x - x / (-1) * (-1) = 0 := by
  have h : x / (-1) = -x := by
    apply Int32.toInt_inj.mp
    have e1 : ((-1 : Int32)).toInt = -1 := by decide
    rw [Int32.toInt_div, e1, Int32.toInt_neg, Int.tdiv_neg, Int.tdiv_one]
  rw [h, Int32.mul_neg, Int32.mul_one, Int32.neg_neg, Int32.sub_self]
theorem nz64 {y : Int32} (h : ¬ y = 0) : ¬ y.toInt64 = 0 := by
  intro q
  apply h
  have := congrArg Int64.toInt32 q
  rw [Int32.toInt32_toInt64] at this
  exact this
theorem nzu {y : Int32} (h : ¬ y = 0) : ¬ y.toInt64 &&& 4294967295 = 0 := by
  obtain ⟨a, ha, rfl⟩ := wb_of32 y
  rw [u32 ha]
  intro q
  have := (pk_lEQ (b := 0) (by omega) (by decide)).mp q
  apply h
  rw [this]; rfl
theorem lcmp_ne {y : Int64} (h : ¬ y = 0) : ¬ lg_cmp y 0 = 0 := fun q => h ((lg_cmp_eq _ _).mp q)
section DIVS
variable {z x y : Int32}
theorem dv_109 (h : z = nI 109) (hy : ¬ y = 0) : f_Op_divided z x y = some (x / y) := by
  rw [f_Op_divided, if_pos (show z = 109 by rw [h]; rfl), f_Op_divided_12, f_Op_divided_17, if_neg (show ¬ (1 : Int32) = 0 by decide)]
  simp only [lt1, f_Op_divided_33]
  rw [if_neg (show ¬ (1 : Int32) = 0 by decide), f_Op_divided_50]
  simp only [lt1]
  rw [if_neg (lcmp_ne (nz64 hy)), if_pos (show z = 109 by rw [h]; rfl), f_Op_divided_73, gzl, if_neg (nz64 hy)]
  simp only [lt1, f_Op_divided_86, i64div]
theorem dv_111 (h : z = nI 111) (hy : ¬ y = 0) : f_Op_divided z x y = some (x - x / y * y) := by
  rw [f_Op_divided, if_neg (show ¬ z = 109 by rw [h]; decide), if_pos (show z = 111 by rw [h]; rfl), f_Op_divided_12, f_Op_divided_17, if_neg (show ¬ (1 : Int32) = 0 by decide)]
  simp only [lt1, f_Op_divided_33]
  rw [if_neg (show ¬ (1 : Int32) = 0 by decide), f_Op_divided_50]
  simp only [lt1]
  rw [if_neg (lcmp_ne (nz64 hy)), if_neg (show ¬ z = 109 by rw [h]; decide), if_neg (show ¬ z = 110 by rw [h]; decide), gzl, if_neg (nz64 hy)]
  simp only [lt1, f_Op_divided_86, Int64.toInt32_sub, Int64.toInt32_mul, i64div, Int32.toInt32_toInt64]
theorem dvu {q : Int32} (q0 : q = 0) {u v : Int64} (h : z = nI 110) (hv : ¬ v = 0) : f_Op_divided_50 z x y q u v = some (u / v).toInt32 := by
  rw [f_Op_divided_50]
  simp only [lt1]
  rw [if_neg (lcmp_ne hv), if_neg (show ¬ z = 109 by rw [h]; decide), if_pos (show z = 110 by rw [h]; rfl), f_Op_divided_73, gzl, if_neg hv]
  simp only [lt1, f_Op_divided_86]
theorem dvr {q : Int32} (q0 : q = 0) {u v : Int64} (h : z = nI 112) (hv : ¬ v = 0) : f_Op_divided_50 z x y q u v = some (u - u / v * v).toInt32 := by
  rw [f_Op_divided_50]
  simp only [lt1]
  rw [if_neg (lcmp_ne hv), if_neg (show ¬ z = 109 by rw [h]; decide), if_neg (show ¬ z = 110 by rw [h]; decide), gzl, if_neg hv]
  simp only [lt1, f_Op_divided_86]
theorem dv33 {q : Int32} (q0 : q = 0) : f_Op_divided_17 z x y q = f_Op_divided_50 z x y q (x.toInt64 &&& 4294967295) (y.toInt64 &&& 4294967295) := by
  rw [f_Op_divided_17, if_pos q0]
  show f_Op_divided_33 z x y q (x.toInt64 &&& 4294967295) = _
  rw [f_Op_divided_33, if_pos q0]
  rfl
theorem dv_110 (h : z = nI 110) (hy : ¬ y = 0) : f_Op_divided z x y = some (((x.toInt64 &&& 4294967295) / (y.toInt64 &&& 4294967295)).toInt32) := by
  rw [f_Op_divided, if_neg (show ¬ z = 109 by rw [h]; decide), if_neg (show ¬ z = 111 by rw [h]; decide), dv33 rfl]
  exact dvu rfl h (nzu hy)
theorem dv_112 (h : z = nI 112) (hy : ¬ y = 0) : f_Op_divided z x y = some ((x.toInt64 &&& 4294967295) - (x.toInt64 &&& 4294967295) / (y.toInt64 &&& 4294967295) * (y.toInt64 &&& 4294967295)).toInt32 := by
  rw [f_Op_divided, if_neg (show ¬ z = 109 by rw [h]; decide), if_neg (show ¬ z = 111 by rw [h]; decide), dv33 rfl]
  exact dvr rfl h (nzu hy)
theorem rk_109 (h : z = nI 109) (hy : ¬ y = 0) : f_M_reckon z x y = some (x / y) := by
  rw [f_M_reckon]
  simp only [lt1]
  rw [if_neg (show ¬ z = 106 by rw [h]; decide), if_neg (show ¬ z = 107 by rw [h]; decide), if_neg (show ¬ z = 108 by rw [h]; decide), if_pos (show z = 109 by rw [h]; rfl), gzi, if_neg hy]
theorem rk_110 (h : z = nI 110) (hy : ¬ y = 0) : f_M_reckon z x y = some (((x.toInt64 &&& 4294967295) / (y.toInt64 &&& 4294967295)).toInt32) := by
  rw [f_M_reckon]
  simp only [lt1]
  rw [if_neg (show ¬ z = 106 by rw [h]; decide), if_neg (show ¬ z = 107 by rw [h]; decide), if_neg (show ¬ z = 108 by rw [h]; decide), if_neg (show ¬ z = 109 by rw [h]; decide), if_pos (show z = 110 by rw [h]; rfl), gzl, if_neg (nzu hy)]
theorem rk_111 (h : z = nI 111) (hy : ¬ y = 0) : f_M_reckon z x y = some (x - x / y * y) := by
  rw [f_M_reckon]
  simp only [lt1, f_M_reckon_102]
  rw [if_neg (show ¬ z = 106 by rw [h]; decide), if_neg (show ¬ z = 107 by rw [h]; decide), if_neg (show ¬ z = 108 by rw [h]; decide), if_neg (show ¬ z = 109 by rw [h]; decide), if_neg (show ¬ z = 110 by rw [h]; decide), if_pos (show z = 111 by rw [h]; rfl)]
  by_cases q : y = -1
  · rw [if_pos q, q, divm1]
  · rw [if_neg q, gzi, if_neg hy]
theorem rk_112 (h : z = nI 112) (hy : ¬ y = 0) : f_M_reckon z x y = some ((x.toInt64 &&& 4294967295) - (x.toInt64 &&& 4294967295) / (y.toInt64 &&& 4294967295) * (y.toInt64 &&& 4294967295)).toInt32 := by
  rw [f_M_reckon]
  simp only [lt1]
  rw [if_neg (show ¬ z = 106 by rw [h]; decide), if_neg (show ¬ z = 107 by rw [h]; decide), if_neg (show ¬ z = 108 by rw [h]; decide), if_neg (show ¬ z = 109 by rw [h]; decide), if_neg (show ¬ z = 110 by rw [h]; decide), if_neg (show ¬ z = 111 by rw [h]; decide), if_pos (show z = 112 by rw [h]; rfl), gzl, if_neg (nzu hy)]
end DIVS
/-- shifts see the lowest five bits alone -/
theorem sh_mask (x y : Int32) : (x <<< ((y &&& 31) &&& 31)) = x <<< (y &&& 31) := by rw [Int32.and_assoc, show (31 : Int32) &&& 31 = 31 by decide]
theorem sr_mask (x y : Int32) : (x >>> ((y &&& 31) &&& 31)) = x >>> (y &&& 31) := by rw [Int32.and_assoc, show (31 : Int32) &&& 31 = 31 by decide]
theorem us_mask (x y : Int32) : ush x (y &&& 31) = ush x y := by
  unfold ush
  have : (y &&& 31).toUInt32 &&& Int32.toUInt32 31 = y.toUInt32 &&& Int32.toUInt32 31 := by
    show (y.toUInt32 &&& Int32.toUInt32 31) &&& Int32.toUInt32 31 = _
    rw [UInt32.and_assoc, UInt32.and_self]
  rw [this]
theorem neg_mask (y : Int32) : (-y) &&& 31 = (32 - (y &&& 31)) &&& 31 := by
  obtain ⟨a, ha, rfl⟩ := wb_of32 y
  have e1 : nI a &&& 31 = nI (a % 32) := pk_andN ha 5 (by decide)
  have e2 : (-(nI a)) &&& 31 = nI ((-(nI a)).toBitVec.toNat % 2 ^ 5) := pk_and _ 5 (by decide)
  have e3 : (-(nI a)).toBitVec.toNat = (2 ^ 32 - a) % 2 ^ 32 := by
    show (-(nI a).toBitVec).toNat = _
    rw [BitVec.toNat_neg, pk_tn ha]
  have e4 : (32 : Int32) - nI (a % 32) = nI (32 - a % 32) := pk_sub (a := 32) (by omega)
  rw [e1, e2, e3, e4, pk_andN (by omega) 5 (by decide)]
  exact congrArg nI (by omega)
section SHF
variable {z x y : Int32}
theorem rot0 (h : y &&& 31 = 0) : (x <<< (y &&& 31)) ||| ush x (-y) = x ∧ ush x y ||| (x <<< ((-y) &&& 31)) = x := by
  have hn : (-y) &&& 31 = 0 := by rw [neg_mask, h]; decide
  have u1 : ush x (-y) = x := by
    rw [← us_mask, hn]
    obtain ⟨a, ha, rfl⟩ := wb_of32 x
    have := pk_ushrN ha 0 0 (by decide)
    rw [Nat.pow_zero, Nat.div_one] at this
    exact this
  have u2 : ush x y = x := by
    rw [← us_mask, h]
    obtain ⟨a, ha, rfl⟩ := wb_of32 x
    have := pk_ushrN ha 0 0 (by decide)
    rw [Nat.pow_zero, Nat.div_one] at this
    exact this
  have s0 : x <<< (0 : Int32) = x := by
    apply Int32.toBitVec_inj.mp
    rw [Int32.toBitVec_shiftLeft]
    show x.toBitVec <<< ((0 : Int32).toBitVec.smod 32) = x.toBitVec
    rw [show ((0 : Int32).toBitVec.smod 32) = 0#32 by decide]
    simp
  rw [h, hn, s0, u1, u2]
  exact ⟨Int32.or_self, Int32.or_self⟩
theorem shf (z : Int32) : f_M_shift z x y = (if z = 116 then some (x <<< (y &&& 31)) else if z = 117 then some (x >>> (y &&& 31)) else if z = 118 then some (ush x y) else if z = 119 then some ((x <<< (y &&& 31)) ||| ush x (-y)) else some (ush x y ||| (x <<< ((-y) &&& 31)))) := by
  rw [f_M_shift]
  simp only [lt1, f_M_shift_23, f_M_shift_43, f_M_shift_94]
  by_cases h : y &&& 31 = 0
  · obtain ⟨r1, r2⟩ := rot0 (x := x) h
    rw [if_pos h, if_pos h, sh_mask, sr_mask, us_mask, r1, r2]
  · have e1 : ush x (32 - (y &&& 31)) = ush x (-y) := by rw [← us_mask x (-y), neg_mask, us_mask]
    have e2 : (32 - (y &&& 31)) &&& 31 = (-y) &&& 31 := (neg_mask y).symm
    rw [if_neg h, if_neg h, sh_mask, sr_mask, us_mask, e1, e2]
end SHF
