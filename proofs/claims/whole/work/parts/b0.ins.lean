-- one instruction is read
theorem kn_x : ∀ o, o < 256 → f_Op_isKnown (nI o) = some (if kno o = true then 1 else 0) := by decide +kernel
theorem kn_m : ∀ o, o < 256 → f_M_isKnown (nI o) = some (if kno o = true then 1 else 0) := by decide +kernel
theorem ob_x : ∀ o, o < 256 → f_Op_opensBlock (nI o) = some (if 2 ≤ o ∧ o ≤ 4 then 1 else 0) := by decide +kernel
theorem ia_x : ∀ o, o < 256 → kno o = true → f_Op_isAccess (nI o) = some (if 39 < o ∧ o < 60 then 1 else 0) := by decide +kernel
section OPN
variable {C o : Nat} {s : St} {t : SM}
theorem xop_nam (hk : kno o = true) (ho : o < 256) (h1 : nam o) : f_Rd_readOperands (nI C) (nI o) s = bd (f_Rd_nextUnsigned s) fun r2 s1 => some (tSet s1 21 240 7 (nI C) 1 r2) := by
  unfold nam at h1
  rw [f_Rd_readOperands, ia_x o ho hk, if_neg (show ¬ (39 < o ∧ o < 60) by omega)]
  simp only [f_Rd_readOperands_133, f_Rd_readOperands_117, bd1_some, lt1, lit_65, lit_63, lit_64, lit_12, lit_13, lit_16, lit_32, lit_36]
  rcases h1 with h1 | h1 | h1 | h1
  · simp (disch := omega) only [nI_leI, nI_ltI, nI_eq, if_pos, if_neg, if_true, if_false ]
  · simp (disch := omega) only [nI_leI, nI_ltI, nI_eq, if_pos, if_neg, if_true, if_false ]
  · simp (disch := omega) only [nI_leI, nI_ltI, nI_eq, if_pos, if_neg, if_true, if_false ]
  · simp (disch := omega) only [nI_leI, nI_ltI, nI_eq, if_pos, if_neg, if_true, if_false ]
theorem xop_acc (hk : kno o = true) (ho : o < 256) (h1 : acc o) : f_Rd_readOperands (nI C) (nI o) s = bd (f_Rd_nextUnsigned s) fun r3 s2 => bd (f_Rd_nextUnsigned (tSet s2 21 240 7 (nI C) 2 r3)) fun r6 s5 => some (tSet s5 21 240 7 (nI C) 1 r6) := by
  unfold acc at h1
  rw [f_Rd_readOperands, ia_x o ho hk, if_pos h1]
  simp only [f_Rd_readOperands_133, bd1_some, lt1, lit_65, lit_63, lit_64]
  simp (disch := omega) only [nI_leI, nI_ltI, nI_eq, if_pos, if_neg, if_true, if_false ]
  rw [if_neg (by decide)]
theorem xop_mem (hk : kno o = true) (ho : o < 256) (h1 : o = 63 ∨ o = 64) : f_Rd_readOperands (nI C) (nI o) s = bd1 (f_Rd_expect 0 s) fun s1 => some s1 := by
  rw [f_Rd_readOperands]
  simp only [f_Rd_readOperands_133, f_Rd_readOperands_37, lit_65, lit_63, lit_64]
  rcases h1 with h1 | h1
  · simp (disch := omega) only [nI_leI, nI_ltI, nI_eq, if_pos, if_neg, if_true, if_false ]
  · simp (disch := omega) only [nI_leI, nI_ltI, nI_eq, if_pos, if_neg, if_true, if_false ]
theorem xop_cst (hk : kno o = true) (ho : o < 256) (h1 : o = 65) : f_Rd_readOperands (nI C) (nI o) s = bd (f_Rd_nextSigned s) fun r9 s8 => some (tSet s8 21 240 7 (nI C) 1 r9) := by
  rw [f_Rd_readOperands]
  simp only [f_Rd_readOperands_133, lt1, lit_65]
  simp (disch := omega) only [nI_leI, nI_ltI, nI_eq, if_pos, if_neg, if_true, if_false ]
theorem xop_non (hk : kno o = true) (ho : o < 256) (h1 : ¬ nam o) (h2 : ¬ acc o) (h3 : o ≠ 63) (h4 : o ≠ 64) (h5 : o ≠ 65) : f_Rd_readOperands (nI C) (nI o) s = some s := by
  unfold nam at h1
  unfold acc at h2
  rw [f_Rd_readOperands, ia_x o ho hk, if_neg h2]
  simp only [f_Rd_readOperands_133, f_Rd_readOperands_117, bd1_some, lt1, lit_65, lit_63, lit_64, lit_12, lit_13, lit_16, lit_32, lit_36]
  by_cases q : o < 32
  · simp (disch := omega) only [nI_leI, nI_ltI, nI_eq, if_pos, if_neg, if_true, if_false ]
  · simp (disch := omega) only [nI_leI, nI_ltI, nI_eq, if_pos, if_neg, if_true, if_false ]
theorem mop_nam (hk : kno o = true) (ho : o < 256) (hC : C < 250) (ht : t.1 14 C = nI o) (h1 : nam o) : f_M_readNumbers (nI C) t = bd (f_M_unsigned t) fun r2 s1 => some (stL s1 15 C r2) := by
  unfold nam at h1
  rw [f_M_readNumbers, gi_n hC (by decide)]
  simp only [f_M_readNumbers_64, f_M_readNumbers_177, f_M_readNumbers_262, gi_n hC (show 250 < 2 ^ 31 by decide), nI_clamp (show C < 2 ^ 31 by omega), ht, lt1, lit_2, lit_4, lit_14, lit_12, lit_13, lit_16, lit_31, lit_37]
  rcases h1 with h1 | h1 | h1 | h1
  · simp (disch := omega) only [nI_leI, nI_ltI, nI_eq, if_pos, if_neg, if_true, if_false ]
  · simp (disch := omega) only [nI_leI, nI_ltI, nI_eq, if_pos, if_neg, if_true, if_false ]
  · simp (disch := omega) only [nI_leI, nI_ltI, nI_eq, if_pos, if_neg, if_true, if_false ]
  · simp (disch := omega) only [nI_leI, nI_ltI, nI_eq, if_pos, if_neg, if_true, if_false ]
theorem mop_acc (hk : kno o = true) (ho : o < 256) (hC : C < 250) (ht : t.1 14 C = nI o) (h1 : acc o) : f_M_readNumbers (nI C) t = bd (f_M_unsigned t) fun r2 s1 => bd (f_M_unsigned (stL s1 15 C r2)) fun r5 s4 => some (stL s4 16 C r5) := by
  unfold acc at h1
  rw [f_M_readNumbers, gi_n hC (by decide)]
  simp only [f_M_readNumbers_64, f_M_readNumbers_190, f_M_readNumbers_262, gi_n hC (show 250 < 2 ^ 31 by decide), nI_clamp (show C < 2 ^ 31 by omega), ht, lt1, lit_2, lit_4, lit_14, lit_12, lit_13, lit_16, lit_31, lit_37, lit_39, lit_60]
  simp (disch := omega) only [nI_leI, nI_ltI, nI_eq, if_pos, if_neg, if_true, if_false ]
theorem mop_mem (hk : kno o = true) (ho : o < 256) (hC : C < 250) (ht : t.1 14 C = nI o) (h1 : o = 63 ∨ o = 64) : f_M_readNumbers (nI C) t = bd1 (f_M_exactly 0 t) fun s1 => some s1 := by
  rw [f_M_readNumbers, gi_n hC (by decide)]
  simp only [f_M_readNumbers_64, f_M_readNumbers_190, f_M_readNumbers_225, f_M_readNumbers_237, f_M_readNumbers_262, gi_n hC (show 250 < 2 ^ 31 by decide), nI_clamp (show C < 2 ^ 31 by omega), ht, lt1, lit_2, lit_4, lit_14, lit_12, lit_13, lit_16, lit_31, lit_37, lit_39, lit_60, lit_63, lit_64]
  rcases h1 with h1 | h1
  · simp (disch := omega) only [nI_leI, nI_ltI, nI_eq, if_pos, if_neg, if_true, if_false ]
  · simp (disch := omega) only [nI_leI, nI_ltI, nI_eq, if_pos, if_neg, if_true, if_false ]
theorem mop_cst (hk : kno o = true) (ho : o < 256) (hC : C < 250) (ht : t.1 14 C = nI o) (h1 : o = 65) : f_M_readNumbers (nI C) t = bd (f_M_signed t) fun r2 s1 => some (stL s1 15 C (Int32.toInt64 r2)) := by
  rw [f_M_readNumbers, gi_n hC (by decide)]
  simp only [f_M_readNumbers_64, f_M_readNumbers_190, f_M_readNumbers_225, f_M_readNumbers_237, f_M_readNumbers_262, gi_n hC (show 250 < 2 ^ 31 by decide), nI_clamp (show C < 2 ^ 31 by omega), ht, lt1, lit_2, lit_4, lit_14, lit_12, lit_13, lit_16, lit_31, lit_37, lit_39, lit_60, lit_63, lit_64, lit_65]
  simp (disch := omega) only [nI_leI, nI_ltI, nI_eq, if_pos, if_neg, if_true, if_false ]
theorem mop_non (hk : kno o = true) (ho : o < 256) (hC : C < 250) (ht : t.1 14 C = nI o) (h0 : ¬ (2 ≤ o ∧ o ≤ 4)) (h1 : ¬ nam o) (h2 : ¬ acc o) (h3 : o ≠ 63) (h4 : o ≠ 64) (h5 : o ≠ 65) (h6 : o ≠ 14) : f_M_readNumbers (nI C) t = some t := by
  unfold nam at h1
  unfold acc at h2
  rw [f_M_readNumbers, gi_n hC (by decide)]
  simp only [f_M_readNumbers_64, f_M_readNumbers_190, f_M_readNumbers_225, f_M_readNumbers_237, f_M_readNumbers_262, gi_n hC (show 250 < 2 ^ 31 by decide), nI_clamp (show C < 2 ^ 31 by omega), ht, lt1, lit_2, lit_4, lit_14, lit_12, lit_13, lit_16, lit_31, lit_37, lit_39, lit_60, lit_63, lit_64, lit_65]
  by_cases q0 : o < 2
  · simp (disch := omega) only [nI_leI, nI_ltI, nI_eq, if_pos, if_neg, if_true, if_false ]
  · by_cases q : o < 32
    · simp (disch := omega) only [nI_leI, nI_ltI, nI_eq, if_pos, if_neg, if_true, if_false ]
    · by_cases q3 : o < 40
      · simp (disch := omega) only [nI_leI, nI_ltI, nI_eq, if_pos, if_neg, if_true, if_false ]
      · simp (disch := omega) only [nI_leI, nI_ltI, nI_eq, if_pos, if_neg, if_true, if_false ]
theorem mop_tab (hk : kno o = true) (ho : o < 256) (hC : C < 250) (ht : t.1 14 C = nI o) (h1 : o = 14) : f_M_readNumbers (nI C) t = f_M_readNumbers_64 (nI C) (nI 14) t := by
  subst h1
  rw [f_M_readNumbers, gi_n hC (by decide)]
  simp only [nI_clamp (show C < 2 ^ 31 by omega), ht, lt1, lit_2, lit_4]
  simp (disch := omega) only [nI_leI, nI_ltI, nI_eq, if_pos, if_neg, if_true, if_false ]
theorem mop_opn (hk : kno o = true) (ho : o < 256) (hC : C < 250) (ht : t.1 14 C = nI o) (h1 : 2 ≤ o ∧ o ≤ 4) : f_M_readNumbers (nI C) t = bd (f_M_next t) fun r3 s2 => if r3 = 64 then f_M_readNumbers_35 (nI C) (nI o) r3 s2 else if r3 = 127 then f_M_readNumbers_35 (nI C) (nI o) r3 s2 else f_M_readNumbers_40 (nI C) (nI o) r3 0 s2 := by
  rw [f_M_readNumbers, gi_n hC (by decide)]
  simp only [nI_clamp (show C < 2 ^ 31 by omega), ht, lt1, lit_2, lit_4]
  simp (disch := omega) only [nI_leI, nI_ltI, nI_eq, if_pos, if_neg, if_true, if_false ]
end OPN
