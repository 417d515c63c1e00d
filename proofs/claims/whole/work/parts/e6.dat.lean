-- validation: data; what is known of a module that is valid
theorem u32 {a : Nat} (ha : a < 2 ^ 32) : (nI a).toInt64 &&& 4294967295 = lN a := by
  apply wb_inj
  apply BitVec.eq_of_toNat_eq
  have h1 : ((nI a).toInt64 &&& 4294967295).toBitVec = (nI a).toBitVec.signExtend 64 &&& (4294967295 : Int64).toBitVec := rfl
  have h2 : (4294967295 : Int64).toBitVec.toNat = 2 ^ 32 - 1 := by decide
  have h3 : (nI a).toBitVec.toNat = a := pk_tn ha
  rw [h1, BitVec.toNat_and, h2, Nat.and_two_pow_sub_one_eq_mod, BitVec.toNat_signExtend, wb_tn (by omega), BitVec.toNat_setWidth, h3]
  split <;> omega
theorem abv_neg {x y : Int32} (h : y < 0) : f_X_isAbove x y = some 1 := by
  rw [f_X_isAbove]
  simp only [f_X_isAbove_9, f_X_isAbove_14, bz0, bz1]
  split
  · rfl
  · rename_i hx
    rw [if_neg]
    intro q
    exact hx (Int32.lt_of_le_of_lt q h)
section DAT
variable {s : St} {t : SM} {nD me p : Nat}
theorem dat1 (D : DSg (s 19) (t.2 10) (t.1 11) (t.1 12) (t.1 13) nD) (hD : nD ≤ 4) (m13 : t.1 0 13 = nI nD) (hme : me ≤ 1) (xm : s 1 0 = nI me) (mm : t.1 0 9 = nI me) :
    ∀ d i NX NM e, i + d = nD → d < NX → d < NM → e < 10 → ∃ e1, e1 < 10 ∧ (e1 = 0 → e = 0 ∧ (i < nD → me = 1)) ∧ f_Val_judgeData_13 NX (nI nD) (nI i) (Se s e) = f_Val_judgeData_61 FU (nI nD) 0 (Se s e1) ∧ f_M_validate_169 NM (nI i) (Te t e) = f_M_validate_213 FU 0 (Te t e1) := by
  intro d
  induction d with
  | zero =>
    intro i NX NM e hi hX hM he
    obtain ⟨NX, rfl⟩ : ∃ z, NX = z + 1 := ⟨NX - 1, by omega⟩
    obtain ⟨NM, rfl⟩ : ∃ z, NM = z + 1 := ⟨NM - 1, by omega⟩
    refine ⟨e, he, fun q => ⟨q, fun z => by omega⟩, ?_, ?_⟩
    · rw [f_Val_judgeData_13, if_pos (nI_le (a := nD) (b := i) (by omega) (by omega)), ite_self, f_Val_judgeData_59]
    · rw [f_M_validate_169, Te_z t e (j := 13) (by decide), m13, if_pos (nI_le (by omega) (by omega))]
  | succ d ih =>
    intro i NX NM e hi hX hM he
    obtain ⟨NX, rfl⟩ : ∃ z, NX = z + 1 := ⟨NX - 1, by omega⟩
    obtain ⟨NM, rfl⟩ : ∃ z, NM = z + 1 := ⟨NM - 1, by omega⟩
    obtain ⟨v, f, g, a1, a2, a3, a4, a5, a6, a7, a8, a9⟩ := D i (by omega)
    rw [f_Val_judgeData_13, if_neg (show ¬ (4 : Int32) ≤ nI i from nI_ge (b := 4) (by omega) (by decide)), if_neg (nI_ge (by omega) (by omega)), Se_ne s e (a := 1) (by decide), xm, f_M_validate_169, Te_z t e (j := 13) (by decide), m13, if_neg (nI_ge (by omega) (by omega)), Te_z t e (j := 9) (by decide), mm, gi_n (show i < 4 by omega) (by decide)]
    simp only [f_Val_judgeData_48, f_Val_judgeData_53, lt1, nI_1, Se_ne s e (show 19 ≠ 3 by decide), Te_l, nI_clamp (show i < 2 ^ 31 by omega), a4, f_M_validate_200, f_M_validate_201]
    rw [tg_4_4_0 (by omega), a3]
    have bad : ∀ X M, X = (bd1 (f_Val_refuse 3 (Se s e)) fun s1 => f_Val_judgeData_13 NX (nI nD) (nI (i + 1)) s1) → M = (bd1 (f_M_will 0 3 (Te t e)) fun s1 => f_M_validate_169 NM (nI (i + 1)) s1) → ∃ e1, e1 < 10 ∧ (e1 = 0 → e = 0 ∧ (i < nD → me = 1)) ∧ X = f_Val_judgeData_61 FU (nI nD) 0 (Se s e1) ∧ M = f_M_validate_213 FU 0 (Te t e1) := by
      intro X M hXe hMe
      obtain ⟨e1, b1, b2, b3, b4⟩ := ih (i + 1) NX NM (fst' e 3) (by omega) (by omega) (by omega) (fst_lt he (by decide))
      refine ⟨e1, b1, fun q => absurd ((b2 q).1) (fun z => fst_0 (by decide) z), ?_, ?_⟩
      · rw [hXe, show f_Val_refuse 3 (Se s e) = some (Se s (fst' e 3)) from Se_ref s (w := 3) he, bd1_some]; exact b3
      · rw [hMe, show f_M_will 0 3 (Te t e) = some (Te t (fst' e 3)) from Te_w0 t (w := 3) he, bd1_some]; exact b4
    by_cases hm1 : me = 1
    · rw [hm1, if_neg (show ¬ nI 1 = 0 by decide), if_neg (show ¬ nI 1 ≤ 0 by decide)]
      by_cases hv : v = 0
      · obtain ⟨e1, b1, b2, b3, b4⟩ := ih (i + 1) NX NM e (by omega) (by omega) (by omega) he
        refine ⟨e1, b1, fun q => ⟨(b2 q).1, fun _ => rfl⟩, ?_, ?_⟩
        · rw [hv, if_pos (show nI 0 = 0 from rfl)]; exact b3
        · rw [hv, if_pos (show lg_cmp (lN 0) 0 = 0 from (lg_cmp_eq _ _).mpr rfl), Te_w1, bd1_some]; exact b4
      · have h1 : ¬ nI v = 0 := fun q => hv (nI_inj32 (b := 0) a1 (by decide) q)
        have h2 : ¬ lg_cmp (lN v) 0 = 0 := fun q => hv ((pk_lEQ (b := 0) (by omega) (by decide)).mp ((lg_cmp_eq _ _).mp q))
        have := bad _ _ rfl rfl
        rw [hm1] at this
        rw [if_neg h1, if_neg h2]
        exact this
    · have hm0 : me = 0 := by omega
      have := bad _ _ rfl rfl
      rw [hm0] at this ⊢
      rw [if_pos (show nI 0 = 0 from rfl), if_pos (show nI 0 ≤ 0 by decide)]
      exact this
theorem dat2 (D : DSg (s 19) (t.2 10) (t.1 11) (t.1 12) (t.1 13) nD) (hD : nD ≤ 4) (m13 : t.1 0 13 = nI nD) (hp : p ≤ 4) (x1 : s 1 1 = nI p) (ml : t.2 0 0 = lN p) :
    ∀ d i NX NM e, i + d = nD → d < NX → d < NM → e < 10 → ∃ e1, e1 < 10 ∧ (e1 = 0 → e = 0 ∧ ∀ j, i ≤ j → j < nD → ∃ a f g, a + g ≤ 64 * p ∧ f + g ≤ 240 ∧ s 19 (j * 4 + 1) = nI a ∧ t.1 11 j = nI a ∧ s 19 (j * 4 + 2) = nI f ∧ t.1 12 j = nI f ∧ s 19 (j * 4 + 3) = nI g ∧ t.1 13 j = nI g) ∧ f_Val_judgeData_61 NX (nI nD) (nI i) (Se s e) = some (Se s e1) ∧ f_M_validate_213 NM (nI i) (Te t e) = some (Te t e1) := by
  intro d
  induction d with
  | zero =>
    intro i NX NM e hi hX hM he
    obtain ⟨NX, rfl⟩ : ∃ z, NX = z + 1 := ⟨NX - 1, by omega⟩
    obtain ⟨NM, rfl⟩ : ∃ z, NM = z + 1 := ⟨NM - 1, by omega⟩
    refine ⟨e, he, fun q => ⟨q, fun j z1 z2 => by omega⟩, ?_, ?_⟩
    · rw [f_Val_judgeData_61, if_pos (nI_le (a := nD) (b := i) (by omega) (by omega)), ite_self, f_Val_judgeData_123]
    · rw [f_M_validate_213, Te_z t e (j := 13) (by decide), m13, if_pos (nI_le (by omega) (by omega))]
  | succ d ih =>
    intro i NX NM e hi hX hM he
    obtain ⟨NX, rfl⟩ : ∃ z, NX = z + 1 := ⟨NX - 1, by omega⟩
    obtain ⟨NM, rfl⟩ : ∃ z, NM = z + 1 := ⟨NM - 1, by omega⟩
    obtain ⟨v, f, g, a1, a2, a3, a4, a5, a6, a7, a8, a9⟩ := D i (by omega)
    obtain ⟨a, ha, haa⟩ := wb_of32 (t.1 11 i)
    rw [haa] at a5
    rw [f_Val_judgeData_61, if_neg (show ¬ (4 : Int32) ≤ nI i from nI_ge (b := 4) (by omega) (by decide)), if_neg (nI_ge (by omega) (by omega)), Se_ne s e (a := 1) (by decide), x1, f_M_validate_213, Te_z t e (j := 13) (by decide), m13, if_neg (nI_ge (by omega) (by omega)), gi_n (show i < 4 by omega) (by decide)]
    simp only [f_Val_judgeData_117, lt1, nI_1, Se_ne s e (show 19 ≠ 3 by decide), Te_l, nI_clamp (show i < 2 ^ 31 by omega), Te_ne t e (show 11 ≠ 0 by decide), Te_ne t e (show 13 ≠ 0 by decide), haa, a9, f_M_validate_258, u32 ha, nI_l (show g < 2 ^ 31 by omega), lN_add, ml, gi_n (show i < 4 by omega) (show 4 < 2 ^ 31 by decide)]
    rw [tg_4_4_1 (by omega), tg_4_4_3 (by omega), a5, a8, show nI p * 64 = nI (p * 64) from pk_mul p 64, show (64 : Int64) * lN p = lN (64 * p) from lN_mul 64 p]
    have hcm : (0 < lg_cmp (lN (a + g)) (lN (64 * p))) ↔ 64 * p < a + g := lcmp_le (by omega) (by omega)
    by_cases hok : a + g ≤ 64 * p
    · obtain ⟨e1, b1, b2, b3, b4⟩ := ih (i + 1) NX NM e (by omega) (by omega) (by omega) he
      refine ⟨e1, b1, fun q => ⟨(b2 q).1, fun j z1 z2 => ?_⟩, ?_, ?_⟩
      · by_cases hji : j = i
        · subst hji; exact ⟨a, f, g, hok, a2, a5, haa, a6, a7, a8, a9⟩
        · exact (b2 q).2 j (by omega) z2
      · rw [pk_sub (by omega), above_f (by omega) (by omega), bd1_some, if_pos rfl]; exact b3
      · rw [if_neg (fun q => by have := hcm.mp q; omega), Te_w1, bd1_some]; exact b4
    · obtain ⟨e1, b1, b2, b3, b4⟩ := ih (i + 1) NX NM (fst' e 4) (by omega) (by omega) (by omega) (fst_lt he (by decide))
      have hab : f_X_isAbove (nI a) (nI (p * 64) - nI g) = some 1 := by
        by_cases hg : g ≤ p * 64
        · rw [pk_sub hg]; exact above_t (by omega) ha (by omega)
        · exact abv_neg (pk_sneg (by omega) (by omega))
      refine ⟨e1, b1, fun q => absurd ((b2 q).1) (fun z => fst_0 (by decide) z), ?_, ?_⟩
      · rw [hab, bd1_some, if_neg (by decide), show f_Val_refuse 4 (Se s e) = some (Se s (fst' e 4)) from Se_ref s (w := 4) he, bd1_some]; exact b3
      · rw [if_pos (hcm.mpr (by omega)), show f_M_will 0 4 (Te t e) = some (Te t (fst' e 4)) from Te_w0 t (w := 4) he, bd1_some]; exact b4
end DAT
