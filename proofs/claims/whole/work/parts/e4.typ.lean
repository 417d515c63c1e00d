-- validation: types, functions, pages
theorem pick {P : Nat → Nat → Prop} {n : Nat} (h : ∀ f, f < n → ∃ p, P f p) : ∃ g : Nat → Nat, ∀ f, f < n → P f (g f) := by
  refine ⟨fun f => if hf : f < n then Classical.choose (h f hf) else 0, fun f hf => ?_⟩
  dsimp only
  rw [dif_pos hf]
  exact Classical.choose_spec (h f hf)
def Se (s : St) (e : Nat) : St := stp s 3 3 (nI e)
def Te (t : SM) (e : Nat) : SM := stI t 0 5 (nI e)
/-- the first fault stays -/
def fst' (e w : Nat) : Nat := if e = 0 then w else e
theorem Se_ne (s : St) (e : Nat) {a : Nat} (h : a ≠ 3) : Se s e a = s a := stp_ne _ _ _ h
theorem Te_ne (t : SM) (e : Nat) {a : Nat} (h : a ≠ 0) : (Te t e).1 a = t.1 a := by rw [Te, stI1, stp_ne _ _ _ h]
theorem Te_l (t : SM) (e : Nat) : (Te t e).2 = t.2 := rfl
theorem Te_z (t : SM) (e : Nat) {j : Nat} (h : j ≠ 5) : (Te t e).1 0 j = t.1 0 j := by rw [Te, stI1, stp_nj _ _ _ h]
theorem Se_3 (s : St) (e : Nat) : Se s e 3 3 = nI e := stp_eq _ _ _ _
theorem Te_5 (t : SM) (e : Nat) : (Te t e).1 0 5 = nI e := by rw [Te, stI1, stp_eq]
theorem Se_ref (s : St) {e w : Nat} (he : e < 10) : f_Val_refuse (nI w) (Se s e) = some (Se s (fst' e w)) := by
  unfold fst'
  by_cases h : e = 0
  · rw [if_pos h, vr_0 (by rw [Se_3, h]; rfl), Se, Se, stp_stp]
  · rw [if_neg h, vr_flt (by rw [Se_3]; exact nI_ne0 (by omega) (by omega))]
theorem Te_w0 (t : SM) {e w : Nat} (he : e < 10) : f_M_will 0 (nI w) (Te t e) = some (Te t (fst' e w)) := by
  unfold fst'
  by_cases h : e = 0
  · rw [if_pos h, mw_f (by rw [Te_5, h]; rfl), Te, Te, stI_stI]
  · rw [if_neg h, mw_flt (by rw [Te_5]; exact nI_ne0 (by omega) (by omega))]
theorem Te_w1 (t : SM) (e : Nat) (w : Int32) : f_M_will 1 w (Te t e) = some (Te t e) := mw_t (by decide) w
theorem fst_lt {e w : Nat} (he : e < 10) (hw : w < 10) : fst' e w < 10 := by unfold fst'; split <;> omega
theorem fst_0 {e w : Nat} (hw : w ≠ 0) (h : fst' e w = 0) : False := by
  unfold fst' at h
  split at h <;> omega
section TYP
variable {s : St} {t : SM} {nT nF : Nat}
theorem typ1 (E : TyE s t nT nF) : ∀ d i NX NM e, i + d = nT → d < NX → d < NM → e < 10 → ∃ e1, e1 < 10 ∧ (e1 = 0 → e = 0 ∧ ∀ j, i ≤ j → j < nT → ∃ p r, p ≤ 4 ∧ r ≤ 1 ∧ s 11 (j * 2 + 0) = nI p ∧ s 11 (j * 2 + 1) = nI r ∧ t.1 2 j = nI p ∧ t.1 3 j = nI r) ∧
    f_Val_judgeTypes_2 NX (nI i) (Se s e) = f_Val_judgeTypes_51 FU 0 (Se s e1) ∧ f_M_validate_2 NM (nI i) (Te t e) = f_M_validate_38 FU 0 (Te t e1) := by
  have hT := E.hT
  intro d
  induction d with
  | zero =>
    intro i NX NM e hi hX hM he
    obtain ⟨NX, rfl⟩ : ∃ z, NX = z + 1 := ⟨NX - 1, by omega⟩
    obtain ⟨NM, rfl⟩ : ∃ z, NM = z + 1 := ⟨NM - 1, by omega⟩
    refine ⟨e, he, fun q => ⟨q, fun j h1 h2 => by omega⟩, ?_, ?_⟩
    · rw [f_Val_judgeTypes_2, Se_ne s e (by decide), E.x10]
      simp only [lt1, f_Val_judgeTypes_49]
      rw [if_pos (nI_le (by omega) (by omega)), ite_self]
    · rw [f_M_validate_2, Te_z t e (by decide), E.m6, if_pos (nI_le (by omega) (by omega))]
  | succ d ih =>
    intro i NX NM e hi hX hM he
    obtain ⟨NX, rfl⟩ : ∃ z, NX = z + 1 := ⟨NX - 1, by omega⟩
    obtain ⟨NM, rfl⟩ : ∃ z, NM = z + 1 := ⟨NM - 1, by omega⟩
    obtain ⟨p, r, hp, hr, a1, a2, a3, a4⟩ := E.ty i (by omega)
    rw [f_Val_judgeTypes_2, if_neg (show ¬ (8 : Int32) ≤ nI i from nI_ge (b := 8) (by omega) (by decide)), Se_ne s e (by decide), E.x10, f_M_validate_2, Te_z t e (by decide), E.m6, if_neg (nI_ge (by omega) (by omega)), gi_n (show i < 8 by omega) (by decide)]
    simp only [lt1, f_Val_judgeTypes_43, nI_1, Se_ne s e (show 11 ≠ 3 by decide), Te_ne t e (show 3 ≠ 0 by decide), nI_clamp (show i < 2 ^ 31 by omega), a4, f_M_validate_26]
    rw [if_neg (nI_ge (by omega) (by omega)), tg_8_2_1 (by omega), a2]
    by_cases hr1 : r ≤ 1
    · obtain ⟨e1, b1, b2, b3, b4⟩ := ih (i + 1) NX NM e (by omega) (by omega) (by omega) he
      refine ⟨e1, b1, fun q => ?_, ?_, ?_⟩
      · obtain ⟨c1, c2⟩ := b2 q
        refine ⟨c1, fun j h1 h2 => ?_⟩
        by_cases hji : j = i
        · subst hji; exact ⟨p, r, hp, hr1, a1, a2, a3, a4⟩
        · exact c2 j (by omega) h2
      · rw [if_pos (show nI r ≤ 1 from nI_le (b := 1) hr1 (by decide))]; exact b3
      · rw [if_neg (show ¬ (2 : Int32) ≤ nI r from nI_ge (b := 2) (by omega) (by decide)), Te_w1, bd1_some]; exact b4
    · obtain ⟨e1, b1, b2, b3, b4⟩ := ih (i + 1) NX NM (fst' e 3) (by omega) (by omega) (by omega) (fst_lt he (by decide))
      refine ⟨e1, b1, fun q => absurd ((b2 q).1) (fun z => fst_0 (by decide) z), ?_, ?_⟩
      · rw [if_neg (show ¬ nI r ≤ 1 from nI_ge (a := 1) (by omega) (by omega)), show f_Val_refuse 3 (Se s e) = some (Se s (fst' e 3)) from Se_ref s (w := 3) he, bd1_some]; exact b3
      · rw [if_pos (show (2 : Int32) ≤ nI r from nI_le (a := 2) (by omega) (by omega)), show f_M_will 0 3 (Te t e) = some (Te t (fst' e 3)) from Te_w0 t (w := 3) he, bd1_some]; exact b4
/-- behind the functions' types, on the other side -/
def mpg (t : SM) : Option SM := if t.1 0 9 = 0 then f_M_validate_109 0 1 t else if t.1 0 10 = 0 then f_M_validate_109 0 1 t else lt1 (lg_cmp (t.2 0 1) (t.2 0 0)) fun v1 => if v1 < 0 then f_M_validate_109 0 0 t else f_M_validate_109 0 1 t
theorem typ2 (E : TyE s t nT nF) : ∀ d i NX NM e, i + d = nF → d < NX → d < NM → e < 10 → ∃ e1, e1 < 10 ∧ (e1 = 0 → e = 0 ∧ ∀ j, i ≤ j → j < nF → ∃ v, v < nT ∧ s 13 (j * 4 + 0) = nI v ∧ t.2 4 j = lN v) ∧
    f_Val_judgeTypes_51 NX (nI i) (Se s e) = some (Se s e1) ∧ f_M_validate_38 NM (nI i) (Te t e) = mpg (Te t e1) := by
  have hT := E.hT
  have hF := E.hF
  intro d
  induction d with
  | zero =>
    intro i NX NM e hi hX hM he
    obtain ⟨NX, rfl⟩ : ∃ z, NX = z + 1 := ⟨NX - 1, by omega⟩
    obtain ⟨NM, rfl⟩ : ∃ z, NM = z + 1 := ⟨NM - 1, by omega⟩
    refine ⟨e, he, fun q => ⟨q, fun j h1 h2 => by omega⟩, ?_, ?_⟩
    · rw [f_Val_judgeTypes_51, Se_ne s e (by decide), E.x12]
      simp only [lt1, f_Val_judgeTypes_107]
      rw [if_pos (nI_le (by omega) (by omega)), ite_self]
    · rw [f_M_validate_38, Te_z t e (j := 7) (by decide), E.m7, if_pos (nI_le (by omega) (by omega))]
      rfl
  | succ d ih =>
    intro i NX NM e hi hX hM he
    obtain ⟨NX, rfl⟩ : ∃ z, NX = z + 1 := ⟨NX - 1, by omega⟩
    obtain ⟨NM, rfl⟩ : ∃ z, NM = z + 1 := ⟨NM - 1, by omega⟩
    obtain ⟨v, hv, a1, a2⟩ := E.ft i (by omega)
    rw [f_Val_judgeTypes_51, if_neg (show ¬ (8 : Int32) ≤ nI i from nI_ge (b := 8) (by omega) (by decide)), Se_ne s e (a := 12) (by decide), E.x12, f_M_validate_38, Te_z t e (j := 7) (by decide), E.m7, if_neg (nI_ge (by omega) (by omega)), gi_n (show i < 8 by omega) (by decide)]
    simp only [lt1, f_Val_judgeTypes_101, nI_1, Se_ne s e (show 13 ≠ 3 by decide), Se_ne s e (show 10 ≠ 3 by decide), Te_l, Te_z t e (show 6 ≠ 5 by decide), nI_clamp (show i < 2 ^ 31 by omega), a2, E.m6, E.x10, nI_l (show nT < 2 ^ 31 by omega), lcmp_ge (show v < 2 ^ 63 by omega) (show nT < 2 ^ 63 by omega), f_M_validate_67]
    rw [if_neg (nI_ge (by omega) (by omega)), tg_8_4_0 (by omega), a1, tHas_lt hv (by omega)]
    by_cases hvt : v < nT
    · obtain ⟨e1, b1, b2, b3, b4⟩ := ih (i + 1) NX NM e (by omega) (by omega) (by omega) he
      refine ⟨e1, b1, fun q => ?_, ?_, ?_⟩
      · obtain ⟨c1, c2⟩ := b2 q
        refine ⟨c1, fun j h1 h2 => ?_⟩
        by_cases hji : j = i
        · subst hji; exact ⟨v, hvt, a1, a2⟩
        · exact c2 j (by omega) h2
      · rw [if_pos hvt, if_neg (by decide)]; exact b3
      · rw [if_neg (by omega), Te_w1, bd1_some]; exact b4
    · obtain ⟨e1, b1, b2, b3, b4⟩ := ih (i + 1) NX NM (fst' e 3) (by omega) (by omega) (by omega) (fst_lt he (by decide))
      refine ⟨e1, b1, fun q => absurd ((b2 q).1) (fun z => fst_0 (by decide) z), ?_, ?_⟩
      · rw [if_neg hvt, if_pos rfl, show f_Val_refuse 3 (Se s e) = some (Se s (fst' e 3)) from Se_ref s (w := 3) he, bd1_some]; exact b3
      · rw [if_pos (by omega), show f_M_will 0 3 (Te t e) = some (Te t (fst' e 3)) from Te_w0 t (w := 3) he, bd1_some]; exact b4
theorem pag2 {e : Nat} (he : e < 10) (D : DMe (s 1) (t.1 0 9) (t.1 0 10) (t.2 0 0) (t.2 0 1)) : ∃ e1, e1 < 10 ∧ (e1 = 0 → e = 0 ∧ (t.1 0 10 = 1 → ∃ p q : Nat, p ≤ q ∧ q < 2 ^ 32 ∧ t.2 0 0 = lN p ∧ t.2 0 1 = lN q)) ∧
    (if (Se s e) 1 1 ≤ (Se s e) 1 2 then f_Val_judge_31 (Se s e) else bd1 (f_Val_refuse 3 (Se s e)) fun s3 => f_Val_judge_31 s3) = f_Val_judge_31 (Se s e1) ∧ mpg (Te t e) = f_M_validate_115 FU 0 (Te t e1) := by
  rw [mpg, Se_ne s e (by decide), Te_z t e (by decide), Te_z t e (by decide), Te_l]
  simp only [lt1, f_M_validate_109]
  rcases D with ⟨a1, a2, a3, a4, a5, a6⟩ | ⟨a1, a2, p, q, hp, hq, b1, b2, b3⟩
  · rw [a2, a3, a4, a5, if_pos (show (0 : Int32) ≤ 0 by decide), if_pos rfl, Te_w1, bd1_some]
    exact ⟨e, he, fun z => ⟨z, fun z => absurd z (by decide)⟩, rfl, rfl⟩
  · rw [a2, if_neg (show ¬ (1 : Int32) = 0 by decide), b1, b2]
    rcases b3 with ⟨c1, c2⟩ | ⟨c1, c2, c3⟩
    · rw [c1, c2, if_pos rfl, if_pos (show nI p ≤ 4 from nI_le (b := 4) hp (by decide)), Te_w1, bd1_some]
      exact ⟨e, he, fun z => ⟨z, fun z => absurd z (by decide)⟩, rfl, rfl⟩
    · rw [c1, c2, c3, if_neg (show ¬ (1 : Int32) = 0 by decide)]
      by_cases hpq : p ≤ q
      · rw [if_pos (nI_le (by omega) (by omega)), if_neg (by rw [lg_cmp_lt, pk_lLT (by omega) (by omega)]; omega), Te_w1, bd1_some]
        exact ⟨e, he, fun z => ⟨z, fun _ => ⟨p, q, hpq, hq, rfl, rfl⟩⟩, rfl, rfl⟩
      · rw [if_neg (nI_ge (by omega) (by omega)), if_pos (by rw [lg_cmp_lt, pk_lLT (by omega) (by omega)]; omega), show f_Val_refuse 3 (Se s e) = some (Se s (fst' e 3)) from Se_ref s (w := 3) he, show f_M_will 0 3 (Te t e) = some (Te t (fst' e 3)) from Te_w0 t (w := 3) he, bd1_some, bd1_some]
        exact ⟨fst' e 3, fst_lt he (by decide), fun z => absurd z (fun z => fst_0 (by decide) z), rfl, rfl⟩
end TYP
