-- isAbove, by numbers without sign
theorem above_f {v most : Nat} (h : v ≤ most) (hm : most < 2 ^ 31) : f_X_isAbove (nI v) (nI most) = some 0 := by
  simp only [f_X_isAbove, f_X_isAbove_14, if_neg (nI_pos (n := v) (by omega)), if_pos (nI_le h hm), bz0]
theorem above_t {v most : Nat} (h : most < v) (hv : v < 2 ^ 32) (hm : most < 2 ^ 31) : f_X_isAbove (nI v) (nI most) = some 1 := by
  by_cases h31 : v < 2 ^ 31
  · simp only [f_X_isAbove, f_X_isAbove_9, f_X_isAbove_14, if_neg (nI_pos h31), if_neg (nI_ge h h31), bz1]
  · have hneg : nI v < 0 := by
      rw [Int32.lt_iff_toInt_lt]
      show (Int32.ofNat v).toInt < 0
      rw [Int32.toInt_ofNat']
      simp only [Int.bmod, Int32.size]
      omega
    simp only [f_X_isAbove, f_X_isAbove_9, f_X_isAbove_14, if_pos hneg, bz1]
theorem lcmp_le {a b : Nat} (ha : a < 2 ^ 63) (hb : b < 2 ^ 63) : (0 < lg_cmp (lN a) (lN b)) ↔ b < a := by rw [lg_cmp_gt, pk_lLT hb ha]
/-- the byte that has to stand there -/
theorem exp2 {s : St} {t : SM} {pl bd : Nat} (h : At s t pl bd) (x : Int32) : ok2 (f_Rd_expect x s) (f_M_exactly x t) (fun s' t' => (pl < bd ∧ s' = stp s 2 2 (nI (pl + 1)) ∧ t' = stI t 0 3 (nI (pl + 1))) ∨ Fl s t s' t') := by
  have hbd : bd ≤ 240 := h.2.2.2.2.2.2.2.1
  rw [f_Rd_expect, f_M_exactly]
  rcases byte2 h with ⟨hp, b, hb, -, e1, e2, h1⟩ | ⟨hp, e1, e2⟩
  · refine ok2.bL e1 (ok2.bR e2 ?_)
    by_cases hx : nI b = x
    · rw [if_pos hx, if_pos hx, f_Rd_expect_13, f_M_exactly_16, mw_t (x := 1) (by decide) 1]
      exact ok2.some (Or.inl ⟨hp, rfl, rfl⟩)
    · rw [if_neg hx, if_neg hx, f_M_exactly_16, xr_0 h1.1 1, mw_f h1.2.1 1]
      exact ok2.some (Or.inr (Fl.at1 (by omega)))
  · refine ok2.bL e1 (ok2.bR e2 ?_)
    have hf : ¬ (stp s 2 5 1) 2 5 = 0 := by rw [stp_eq]; decide
    have hg : ¬ (stI t 0 5 1).1 0 5 = 0 := by rw [stI1, stp_eq]; decide
    by_cases hx : (0 : Int32) = x
    · rw [if_pos hx, if_pos hx, f_Rd_expect_13, f_M_exactly_16, mw_flt hg]
      exact ok2.some (Or.inr (Fl.end1 h))
    · rw [if_neg hx, if_neg hx, f_M_exactly_16, xr_flt hf, mw_flt hg]
      exact ok2.some (Or.inr (Fl.end1 h))
/-- a type of value: 127 -/
theorem val2 {s : St} {t : SM} {pl bd : Nat} (h : At s t pl bd) : ok2 (f_Rd_readValueType s) (f_M_value t) (fun s' t' => (pl < bd ∧ s' = stp s 2 2 (nI (pl + 1)) ∧ t' = stI t 0 3 (nI (pl + 1))) ∨ Fl s t s' t') := by
  have hbd : bd ≤ 240 := h.2.2.2.2.2.2.2.1
  rw [f_Rd_readValueType, f_M_value]
  rcases byte2 h with ⟨hp, b, hb, -, e1, e2, h1⟩ | ⟨hp, e1, e2⟩
  · refine ok2.bL e1 (ok2.bR e2 ?_)
    by_cases hx : nI b = 127
    · rw [if_pos hx, if_pos hx, f_Rd_readValueType_14, f_M_value_17, mw_t (x := 1) (by decide) 2]
      exact ok2.some (Or.inl ⟨hp, rfl, rfl⟩)
    · rw [if_neg hx, if_neg hx, f_M_value_17, xr_0 h1.1 2, mw_f h1.2.1 2]
      exact ok2.some (Or.inr (Fl.at2 (by omega)))
  · refine ok2.bL e1 (ok2.bR e2 ?_)
    have hf : ¬ (stp s 2 5 1) 2 5 = 0 := by rw [stp_eq]; decide
    have hg : ¬ (stI t 0 5 1).1 0 5 = 0 := by rw [stI1, stp_eq]; decide
    have hx : ¬ (0 : Int32) = 127 := by decide
    rw [if_neg hx, if_neg hx, f_M_value_17, xr_flt hf, mw_flt hg]
    exact ok2.some (Or.inr (Fl.end1 h))
/-- a byte that is at most so much -/
theorem one2 {s : St} {t : SM} {pl bd : Nat} (h : At s t pl bd) (m : Nat) (hm : m < 200) : ok2 (f_Rd_nextUpTo (nI m) s) (f_M_one (nI (m + 1)) t) (fun x y => (∃ b, b ≤ m ∧ pl < bd ∧ x = (nI b, stp s 2 2 (nI (pl + 1))) ∧ y = (nI b, stI t 0 3 (nI (pl + 1)))) ∨ Fl s t x.2 y.2) := by
  have hbd : bd ≤ 240 := h.2.2.2.2.2.2.2.1
  rw [f_Rd_nextUpTo, f_M_one]
  rcases byte2 h with ⟨hp, b, hb, -, e1, e2, h1⟩ | ⟨hp, e1, e2⟩
  · refine ok2.bL e1 (ok2.bR e2 ?_)
    by_cases hx : b ≤ m
    · rw [if_pos (nI_le hx (by omega)), if_neg (nI_ge (by omega) (by omega)), f_Rd_nextUpTo_15, f_M_one_16, mw_t (x := 1) (by decide) 1]
      exact ok2.some (Or.inl ⟨b, hx, hp, rfl, rfl⟩)
    · rw [if_neg (nI_ge (by omega) (by omega)), if_pos (nI_le (by omega) (by omega)), f_M_one_16, xr_0 h1.1 1, mw_f h1.2.1 1]
      exact ok2.some (Or.inr (Fl.at1 (by omega)))
  · refine ok2.bL e1 (ok2.bR e2 ?_)
    have hf : ¬ (stp s 2 5 1) 2 5 = 0 := by rw [stp_eq]; decide
    have hg : ¬ (stI t 0 5 1).1 0 5 = 0 := by rw [stI1, stp_eq]; decide
    have a1 : (0 : Int32) ≤ nI m := nI_pos' (by omega)
    have a2 : ¬ nI (m + 1) ≤ 0 := nI_nle (by omega) (by omega)
    rw [if_pos a1, if_neg a2, f_Rd_nextUpTo_15, f_M_one_16, mw_flt hg]
    exact ok2.some (Or.inr (Fl.end1 h))
/-- where that ends whose length stands here -/
theorem end2 {s : St} {t : SM} {pl bd : Nat} (h : At s t pl bd) : ok2 (f_Rd_nextEnd s) (f_M_ahead t) (fun x y => (∃ p e : Nat, pl < p ∧ p ≤ e ∧ e ≤ bd ∧ x = (nI e, stp s 2 2 (nI p)) ∧ y = (nI e, stI t 0 3 (nI p))) ∨ Fl s t x.2 y.2) := by
  have hbd : bd ≤ 240 := h.2.2.2.2.2.2.2.1
  rw [f_Rd_nextEnd, f_M_ahead]
  refine ok2.bdbd ((uns2 h).mono ?_)
  rintro ⟨x, s1⟩ ⟨y, t1⟩ (⟨v, p, hv, hp1, hp2, e1, e2⟩ | ⟨p, hp, e1, e2⟩)
  · cases e1
    cases e2
    have h1 := h.step hp2
    obtain ⟨a1, a2, a3, a4, a5, a6, a7, a8, a9⟩ := h1
    simp only [lt1]
    rw [a3, a4, a5, a6, pk_sub hp2, nI_l (by omega)]
    by_cases hb : v ≤ bd - p
    · rw [above_f hb (by omega), if_neg (fun q => absurd ((lcmp_le (by omega) (by omega)).mp q) (by omega)), f_M_ahead_26, mw_t (x := 1) (by decide) 1]
      simp only [bd1, if_pos, lt1, a2]
      rw [if_pos (show (0 : Int32) ≤ 0 by decide), f_M_ahead_51, lN_i, a4, nI_add]
      exact ok2.some (Or.inl ⟨p, p + v, hp1, by omega, by omega, rfl, rfl⟩)
    · rw [above_t (by omega) hv (by omega), if_pos ((lcmp_le (by omega) (by omega)).mpr (by omega)), f_M_ahead_26, mw_f a2 1]
      simp only [bd1]
      rw [if_neg (show ¬ (1 : Int32) = 0 by decide), xr_0 a1 1, if_neg (show ¬ (stI (stI t 0 3 (nI p)) 0 5 1).1 0 5 ≤ 0 by rw [stI1, stp_eq]; decide), f_M_ahead_51]
      exact ok2.some (Or.inr (Fl.at1 (by omega)))
  · simp only at e1 e2
    subst e1
    subst e2
    have hf : ¬ (stp (stp s 2 2 (nI p)) 2 5 1) 2 5 = 0 := by rw [stp_eq]; decide
    have hg : ¬ (stI (stI t 0 3 (nI p)) 0 5 1).1 0 5 = 0 := by rw [stI1, stp_eq]; decide
    have hg2 : ¬ (stI (stI t 0 3 (nI p)) 0 5 1).1 0 5 ≤ 0 := by rw [stI1, stp_eq]; decide
    simp only [lt1]
    have hM : ∀ q : Int32, f_M_ahead_26 y q (stI (stI t 0 3 (nI p)) 0 5 1) = some ((stI (stI t 0 3 (nI p)) 0 5 1).1 0 4, stI (stI t 0 3 (nI p)) 0 5 1) := fun q => by
      rw [f_M_ahead_26, mw_flt hg]
      simp only [bd1]
      rw [if_neg hg2, f_M_ahead_51]
    rw [hM, hM, ite_self]
    have hX : ∃ r : Int32, (bd1 (f_X_isAbove x ((stp (stp s 2 2 (nI p)) 2 5 1) 2 3 - (stp (stp s 2 2 (nI p)) 2 5 1) 2 2)) fun r4 => if r4 = 0 then some ((stp (stp s 2 2 (nI p)) 2 5 1) 2 2 + x, stp (stp s 2 2 (nI p)) 2 5 1) else bd1 (f_Rd_refuse 1 (stp (stp s 2 2 (nI p)) 2 5 1)) fun s6 => some (s6 2 2, s6)) = some (r, stp (stp s 2 2 (nI p)) 2 5 1) := by
      have hA : ∀ a b : Int32, f_X_isAbove a b = some 0 ∨ f_X_isAbove a b = some 1 := fun a b => by
        simp only [f_X_isAbove, f_X_isAbove_9, f_X_isAbove_14, bz0, bz1]
        split
        · exact Or.inr rfl
        · split
          · exact Or.inl rfl
          · exact Or.inr rfl
      rcases hA x ((stp (stp s 2 2 (nI p)) 2 5 1) 2 3 - (stp (stp s 2 2 (nI p)) 2 5 1) 2 2) with e | e
      · rw [e]
        exact ⟨_, rfl⟩
      · rw [e]
        simp only [bd1]
        rw [if_neg (show ¬ (1 : Int32) = 0 by decide), xr_flt hf]
        exact ⟨_, rfl⟩
    obtain ⟨r, er⟩ := hX
    rw [er]
    exact ok2.some (Or.inr (Fl.at1 (by omega)))
