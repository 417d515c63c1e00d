theorem nI_ne {a b : Nat} (h : a ≠ b) (ha : a < 2 ^ 31) (hb : b < 2 ^ 31) : ¬ nI a = nI b := fun e => h ((nI_eq ha hb).mp e)
theorem un_loop : ∀ (d i v pl bd nX nM : Nat) (s : St) (t : SM), i + d = 4 → d + 2 ≤ nX → d + 2 ≤ nM → v < 2 ^ (7 * i) → At s t pl bd →
    ok2 (f_Rd_nextUnsigned_4 nX (nI v) (nI i) s) (f_M_unsigned_7 nM (lN v) 1 (nI i) t) (Un s t pl bd) := by
  intro d
  induction d with
  | zero =>
    intro i v pl bd nX nM s t hi hX hM hv h
    obtain ⟨nX, rfl⟩ : ∃ n, nX = n + 2 := ⟨nX - 2, by omega⟩
    obtain ⟨nM, rfl⟩ : ∃ n, nM = n + 2 := ⟨nM - 2, by omega⟩
    have hi : i = 4 := by omega
    subst hi
    have e5 : (4 : Nat) + 1 = 5 := rfl
    have c5 : ¬ (5 : Int32) ≤ nI 4 := by decide
    have c4 : nI 4 = (4 : Int32) := rfl
    have c44 : ¬ nI 4 < (4 : Int32) := by decide
    have e41 : nI 4 + 1 = (5 : Int32) := by decide
    rw [f_Rd_nextUnsigned_4, f_M_unsigned_7, if_neg c5, if_neg c5, if_neg (show ¬ (1 : Int32) = 0 by decide), if_pos h.2.1]
    rcases byte2 h with ⟨hp, b, hb, -, e1, e2, h1⟩ | ⟨hp, e1, e2⟩
    · refine ok2.bL e1 (ok2.bR e2 ?_)
      simp only [lt1, if_pos c4, if_neg c44]
      rcases Nat.lt_or_ge b 16 with h16 | h16
      · have hk : (b % 128) * 2 ^ (7 * 4) < 2 ^ 32 := by omega
        have c15 : nI b ≤ 15 := nI_le (b := 15) (by omega) (by omega)
        have c16 : ¬ (16 : Int32) ≤ nI b := nI_ge (b := 16) (by omega) (by omega)
        have c128 : ¬ (128 : Int32) ≤ nI b := nI_ge (b := 128) (by omega) (by omega)
        have c127 : nI b ≤ 127 := nI_le (b := 127) (by omega) (by omega)
        rw [if_pos c15, if_neg c16]
        simp only [f_Rd_nextUnsigned_42, f_M_unsigned_44, f_M_unsigned_49, f_M_unsigned_80, if_neg c128, mw_t (t := stI t 0 3 (nI (pl + 1))) (x := 1) (by decide) 1, bd1, lt1, if_pos c127]
        rw [x_acc hv hb (by omega) hk, m_acc hv hb (by omega)]
        have hfin : ∀ z : Int64, f_M_unsigned_7 (nM + 1) z 0 (nI 4 + 1) (stI t 0 3 (nI (pl + 1))) = some (z, stI t 0 3 (nI (pl + 1))) := fun z => by rw [f_M_unsigned_7, if_pos (show (5 : Int32) ≤ nI 4 + 1 by decide)]; rfl
        rw [hfin]
        refine ok2.some (Or.inl ⟨v + b % 128 * 2 ^ (7 * 4), pl + 1, ?_, by omega, by omega, rfl, rfl⟩)
        have : v < 2 ^ 28 := hv
        have h3 : b % 128 ≤ 15 := by omega
        omega
      · have c15 : ¬ nI b ≤ 15 := fun q => nI_ge (a := 15) (b := b) (by omega) (by omega) q
        have c16 : (16 : Int32) ≤ nI b := nI_le (a := 16) (by omega) (by omega)
        rw [if_neg c15, if_pos c16]
        refine ok2.b1L (xr_0 h1.1 1) ?_
        simp only [f_Rd_nextUnsigned_42, f_M_unsigned_49, f_M_unsigned_80, mw_f h1.2.1 1, bd1, lt1]
        have fltM : ∀ (z : Int64) (y : Int32), f_M_unsigned_7 (nM + 1) z y (nI 4 + 1) (stI (stI t 0 3 (nI (pl + 1))) 0 5 1) = some (z, stI (stI t 0 3 (nI (pl + 1))) 0 5 1) := fun z y => by rw [f_M_unsigned_7, if_pos (show (5 : Int32) ≤ nI 4 + 1 by decide)]; rfl
        have fltX : ∀ z : Int32, f_Rd_nextUnsigned_4 (nX + 1) z (nI 4 + 1) (stp (stp s 2 2 (nI (pl + 1))) 2 5 1) = some (z, stp (stp s 2 2 (nI (pl + 1))) 2 5 1) := fun z => by rw [f_Rd_nextUnsigned_4, if_pos (show (5 : Int32) ≤ nI 4 + 1 by decide)]
        simp only [fltM, fltX, ite_self]
        refine ok2.some (Or.inr ⟨pl + 1, by omega, rfl, rfl⟩)
    · refine ok2.bL e1 (ok2.bR e2 ?_)
      simp only [lt1, if_pos c4, if_neg c44, if_pos (show (0 : Int32) ≤ 15 by decide), if_neg (show ¬ (16 : Int32) ≤ 0 by decide), f_Rd_nextUnsigned_42, if_neg (show ¬ (128 : Int32) ≤ 0 by decide), f_M_unsigned_44, f_M_unsigned_49, f_M_unsigned_80, mw_t (t := stI t 0 5 1) (x := 1) (by decide) 1, bd1, if_pos (show (0 : Int32) ≤ 127 by decide)]
      rw [f_M_unsigned_7, if_pos (show (5 : Int32) ≤ nI 4 + 1 by decide)]
      exact ok2.some (Un.flt0 h)
  | succ d ih =>
    intro i v pl bd nX nM s t hi hX hM hv h
    obtain ⟨nX, rfl⟩ : ∃ n, nX = n + 1 := ⟨nX - 1, by omega⟩
    obtain ⟨nM, rfl⟩ : ∃ n, nM = n + 1 := ⟨nM - 1, by omega⟩
    have c5 : ¬ (5 : Int32) ≤ nI i := nI_ge (b := 5) (by omega) (by omega)
    have c4 : ¬ nI i = (4 : Int32) := nI_ne (b := 4) (by omega) (by omega) (by omega)
    have c44 : nI i < (4 : Int32) := nI_lt (b := 4) (by omega) (by omega)
    rw [f_Rd_nextUnsigned_4, f_M_unsigned_7, if_neg c5, if_neg c5, if_neg (show ¬ (1 : Int32) = 0 by decide), if_pos h.2.1]
    rcases byte2 h with ⟨hp, b, hb, -, e1, e2, h1⟩ | ⟨hp, e1, e2⟩
    · refine ok2.bL e1 (ok2.bR e2 ?_)
      have hpw : 2 ^ (7 * i) ≤ 2 ^ 21 := Nat.pow_le_pow_right (by decide) (by omega)
      have hk : (b % 128) * 2 ^ (7 * i) < 2 ^ 32 := by
        have h3 : b % 128 ≤ 127 := by omega
        have h4 : (b % 128) * 2 ^ (7 * i) ≤ 127 * 2 ^ 21 := Nat.mul_le_mul h3 hpw
        omega
      have hv2 : v + b % 128 * 2 ^ (7 * i) < 2 ^ (7 * (i + 1)) := by
        have h3 : b % 128 ≤ 127 := by omega
        have h4 : (b % 128) * 2 ^ (7 * i) ≤ 127 * 2 ^ (7 * i) := Nat.mul_le_mul_right _ h3
        have e : 2 ^ (7 * (i + 1)) = 2 ^ (7 * i) * 128 := by rw [Nat.mul_add, Nat.pow_add]
        omega
      simp only [lt1, if_neg c4, if_pos c44, f_Rd_nextUnsigned_42, f_M_unsigned_44, f_M_unsigned_49, f_M_unsigned_80, mw_t (t := stI t 0 3 (nI (pl + 1))) (x := 1) (by decide) 1, bd1]
      rw [x_acc hv hb (by omega) hk, m_acc hv hb (by omega), nI_1]
      rcases Nat.lt_or_ge b 128 with h128 | h128
      · have c128 : ¬ (128 : Int32) ≤ nI b := nI_ge (b := 128) (by omega) (by omega)
        have c127 : nI b ≤ 127 := nI_le (b := 127) (by omega) (by omega)
        rw [if_neg c128, if_pos c127]
        obtain ⟨nM, rfl⟩ : ∃ n, nM = n + 1 := ⟨nM - 1, by omega⟩
        have hfin : ∀ z : Int64, f_M_unsigned_7 (nM + 1) z 0 (nI (i + 1)) (stI t 0 3 (nI (pl + 1))) = some (z, stI t 0 3 (nI (pl + 1))) := fun z => by
          rw [f_M_unsigned_7]
          by_cases hc : (5 : Int32) ≤ nI (i + 1)
          · rw [if_pos hc]; rfl
          · rw [if_neg hc]; rfl
        rw [hfin]
        refine ok2.some (Or.inl ⟨v + b % 128 * 2 ^ (7 * i), pl + 1, ?_, by omega, by omega, rfl, rfl⟩)
        have h28 : 2 ^ (7 * (i + 1)) ≤ 2 ^ 28 := Nat.pow_le_pow_right (by decide) (by omega)
        omega
      · have c128 : (128 : Int32) ≤ nI b := nI_le (a := 128) (by omega) (by omega)
        have c127 : ¬ nI b ≤ 127 := fun q => nI_ge (a := 127) (b := b) (by omega) (by omega) q
        rw [if_pos c128, if_neg c127]
        exact (ih (i + 1) _ (pl + 1) bd nX nM _ _ (by omega) (by omega) (by omega) hv2 h1).mono (fun x y hxy => hxy.back (by omega))
    · refine ok2.bL e1 (ok2.bR e2 ?_)
      simp only [lt1, if_neg c4, if_pos c44, f_Rd_nextUnsigned_42, if_neg (show ¬ (128 : Int32) ≤ 0 by decide), f_M_unsigned_44, f_M_unsigned_49, f_M_unsigned_80, mw_t (t := stI t 0 5 1) (x := 1) (by decide) 1, bd1, if_pos (show (0 : Int32) ≤ 127 by decide)]
      obtain ⟨nM, rfl⟩ : ∃ n, nM = n + 1 := ⟨nM - 1, by omega⟩
      have hfin : ∀ (z : Int64) (q : Int32), f_M_unsigned_7 (nM + 1) z 0 q (stI t 0 5 1) = some (z, stI t 0 5 1) := fun z q => by
        rw [f_M_unsigned_7]
        by_cases hc : (5 : Int32) ≤ q
        · rw [if_pos hc]; rfl
        · rw [if_neg hc]; rfl
      rw [hfin]
      exact ok2.some (Un.flt0 h)
/-- an unsigned number, on both sides -/
theorem uns2 {s : St} {t : SM} {pl bd : Nat} (h : At s t pl bd) : ok2 (f_Rd_nextUnsigned s) (f_M_unsigned t) (Un s t pl bd) :=
  un_loop 4 0 0 pl bd FU FU s t rfl (by decide) (by decide) (by decide) h
theorem xu_flt {s : St} (hf : ¬ s 2 5 = 0) : ∃ r, f_Rd_nextUnsigned s = some (r, s) := by
  obtain ⟨n, e, -⟩ := FU_s
  unfold f_Rd_nextUnsigned
  rw [e, f_Rd_nextUnsigned_4, if_neg (show ¬ (5 : Int32) ≤ 0 by decide), xb_flt hf]
  simp only [bd, lt1, if_neg (show ¬ (0 : Int32) = 4 by decide), f_Rd_nextUnsigned_42, if_neg (show ¬ (128 : Int32) ≤ 0 by decide)]
  exact ⟨_, rfl⟩
theorem mu_flt {t : SM} (hf : ¬ t.1 0 5 = 0) : f_M_unsigned t = some (0, t) := by
  obtain ⟨n, e, -⟩ := FU_s
  unfold f_M_unsigned
  rw [e, f_M_unsigned_7, if_neg (show ¬ (5 : Int32) ≤ 0 by decide), if_neg (show ¬ (1 : Int32) = 0 by decide), if_neg hf]
  rfl
