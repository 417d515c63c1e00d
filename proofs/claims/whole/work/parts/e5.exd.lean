-- validation: exports, data
theorem enc_ge (len : Nat) (c : Nat → Nat) : ∀ i, len * 128 ^ i ≤ enc len c i := by
  intro i
  induction i with
  | zero => show len * 1 ≤ len; omega
  | succ i ih =>
    show len * 128 ^ (i + 1) ≤ enc len c i * 128 + c i
    rw [Nat.pow_succ, ← Nat.mul_assoc]
    have := Nat.mul_le_mul_right 128 ih
    omega
theorem enc_up {len : Nat} {c : Nat → Nat} : ∀ i, (∀ j, c j < 128) → enc len c i < (len + 1) * 128 ^ i := by
  intro i
  induction i with
  | zero => intro _; show len < (len + 1) * 1; omega
  | succ i ih =>
    intro h
    have h1 := ih h
    have h2 := h i
    show enc len c i * 128 + c i < (len + 1) * 128 ^ (i + 1)
    rw [Nat.pow_succ, ← Nat.mul_assoc]
    have : (enc len c i + 1) * 128 ≤ (len + 1) * 128 ^ i * 128 := Nat.mul_le_mul_right 128 h1
    omega
theorem enc_in {len : Nat} {c c' : Nat → Nat} (h1 : ∀ j, c j < 128) (h2 : ∀ j, c' j < 128) : ∀ i, enc len c i = enc len c' i → ∀ j, j < i → c j = c' j := by
  intro i
  induction i with
  | zero => intro _ j hj; omega
  | succ i ih =>
    intro h j hj
    have h' : enc len c i * 128 + c i = enc len c' i * 128 + c' i := h
    have a := h1 i
    have b := h2 i
    by_cases hji : j = i
    · subst hji; omega
    · exact ih (by omega) j (by omega)
theorem enc_iff {l l' : Nat} {c c' : Nat → Nat} (h1 : ∀ j, c j < 128) (h2 : ∀ j, c' j < 128) (z1 : ∀ j, l ≤ j → c j = 0) (z2 : ∀ j, l' ≤ j → c' j = 0) : enc l c l = enc l' c' l' ↔ l = l' ∧ ∀ j, c j = c' j := by
  constructor
  · intro h
    have key : ∀ {a b : Nat} {x y : Nat → Nat}, (∀ j, x j < 128) → (∀ j, y j < 128) → a < b → enc a x a < enc b y b := by
      intro a b x y hx hy hab
      have q1 := enc_up (len := a) (c := x) a hx
      have q2 := enc_ge b y b
      have q3 : (a + 1) * 128 ^ a ≤ b * 128 ^ b := Nat.mul_le_mul hab (Nat.pow_le_pow_right (by decide) (by omega))
      omega
    have hl : l = l' := by
      rcases Nat.lt_trichotomy l l' with q | q | q
      · have := key h1 h2 q; omega
      · exact q
      · have := key h2 h1 q; omega
    subst hl
    refine ⟨rfl, fun j => ?_⟩
    by_cases hj : j < l
    · exact enc_in h1 h2 l h j hj
    · rw [z1 j (by omega), z2 j (by omega)]
  · rintro ⟨rfl, h⟩
    exact enc_cg l (fun j _ => h j)
section EXD
variable {s : St} {t : SM} {nE nF nG : Nat}
/-- do two exports bear the same name? -/
theorem same_x {a b : Nat} {s : St} {l l' : Nat} {c c' : Nat → Nat} (ha : a < 8) (hb : b < 8) (hl : l ≤ 8) (hl' : l' ≤ 8) (h1 : ∀ j, c j < 128) (h2 : ∀ j, c' j < 128) (z1 : ∀ j, l ≤ j → c j = 0) (z2 : ∀ j, l' ≤ j → c' j = 0)
    (x2 : s 17 (a * 11 + 2) = nI l) (y2 : s 17 (b * 11 + 2) = nI l') (x3 : ∀ i, i < 8 → s 17 (a * 11 + (3 + i)) = nI (c i)) (y3 : ∀ i, i < 8 → s 17 (b * 11 + (3 + i)) = nI (c' i)) :
    (l = l' ∧ (∀ j, c j = c' j) → f_Val_haveSameName s (nI a) (nI b) = some 1) ∧ (¬ (l = l' ∧ ∀ j, c j = c' j) → f_Val_haveSameName s (nI a) (nI b) = some 0) := by
  have lp : ∀ d i N (r : Nat), i + d = 8 → d < N → r ≤ 1 → (r = 1 ∧ (∀ j, i ≤ j → j < 8 → c j = c' j) → f_Val_haveSameName_36 s N (nI a) (nI b) (nI r) (nI i) = some 1) ∧ (¬ (r = 1 ∧ ∀ j, i ≤ j → j < 8 → c j = c' j) → f_Val_haveSameName_36 s N (nI a) (nI b) (nI r) (nI i) = some 0) := by
    intro d
    induction d with
    | zero =>
      intro i N r hi hN hr
      obtain ⟨N, rfl⟩ : ∃ z, N = z + 1 := ⟨N - 1, by omega⟩
      rw [f_Val_haveSameName_36, if_pos (show (8 : Int32) ≤ nI i from nI_le (a := 8) (by omega) (by omega))]
      refine ⟨fun q => ?_, fun q => ?_⟩
      · rw [q.1]; exact bz1 _
      · have : r = 0 := by
          by_cases z : r = 1
          · exact absurd ⟨z, fun j q1 q2 => by omega⟩ q
          · omega
        rw [this]; exact bz0 _
    | succ d ih =>
      intro i N r hi hN hr
      obtain ⟨N, rfl⟩ : ∃ z, N = z + 1 := ⟨N - 1, by omega⟩
      rw [f_Val_haveSameName_36, if_neg (show ¬ (8 : Int32) ≤ nI i from nI_ge (b := 8) (by omega) (by decide))]
      simp only [f_Val_haveSameName_84, f_Val_haveSameName_85, lt1, nI_1]
      rw [show (3 : Int32) + nI i = nI (3 + i) from nI_add 3 i, tGet_n (h := 8) (w := 11) ha (show 3 + i < 11 by omega) (by decide) (by decide) (by decide), tGet_n (h := 8) (w := 11) hb (show 3 + i < 11 by omega) (by decide) (by decide) (by decide), x3 i (by omega), y3 i (by omega)]
      obtain ⟨i1, i2⟩ := ih (i + 1) N 0 (by omega) (by omega) (by decide)
      obtain ⟨j1, j2⟩ := ih (i + 1) N 1 (by omega) (by omega) (by decide)
      have f0 := i2 (fun z => absurd z.1 (by decide))
      have e0 : f_Val_haveSameName_36 s N (nI a) (nI b) 0 (nI (i + 1)) = some 0 := f0
      have hc1 := h1 i
      have hc2 := h2 i
      by_cases hr0 : r = 0
      · rw [hr0, if_pos (show nI 0 = 0 from rfl)]
        exact ⟨fun q => absurd q.1 (by decide), fun _ => e0⟩
      · have hr1 : r = 1 := by omega
        rw [hr1, if_neg (show ¬ nI 1 = 0 by decide)]
        by_cases hcc : c i = c' i
        · rw [hcc, if_pos rfl]
          refine ⟨fun q => j1 ⟨rfl, fun j q1 q2 => q.2 j (by omega) q2⟩, fun q => j2 (fun z => q ⟨rfl, fun j q1 q2 => ?_⟩)⟩
          by_cases hji : j = i
          · subst hji; exact hcc
          · exact z.2 j (by omega) q2
        · rw [if_neg (fun z => hcc ((nI_eq (by omega) (by omega)).mp z))]
          exact ⟨fun q => absurd (q.2 i (Nat.le_refl _) (by omega)) hcc, fun _ => e0⟩
  have all8 : (∀ j, c j = c' j) ↔ l ≤ 8 ∧ (∀ j, 0 ≤ j → j < 8 → c j = c' j) := by
    refine ⟨fun h => ⟨hl, fun j _ _ => h j⟩, fun h j => ?_⟩
    by_cases hj : j < 8
    · exact h.2 j (Nat.zero_le _) hj
    · rw [z1 j (by omega), z2 j (by omega)]
  rw [f_Val_haveSameName, tg_8_11_2 ha, tg_8_11_2 hb, x2, y2]
  simp only [lt1, f_Val_haveSameName_32]
  obtain ⟨i1, i2⟩ := lp 8 0 FU 0 rfl (by unfold FU; omega) (by decide)
  obtain ⟨j1, j2⟩ := lp 8 0 FU 1 rfl (by unfold FU; omega) (by decide)
  by_cases hll : l = l'
  · rw [hll, if_pos rfl]
    exact ⟨fun q => j1 ⟨rfl, (all8.mp q.2).2⟩, fun q => j2 (fun z => q ⟨rfl, all8.mpr ⟨hl, z.2⟩⟩)⟩
  · rw [if_neg (fun z => hll ((nI_eq (by omega) (by omega)).mp z))]
    exact ⟨fun q => absurd q.1 hll, fun _ => i2 (fun z => absurd z.1 (by decide))⟩
end EXD
theorem fst_idem (e : Nat) : fst' (fst' e 3) 3 = fst' e 3 := by
  unfold fst'
  by_cases h : e = 0
  · rw [if_pos h, if_neg (by decide)]
  · rw [if_neg h, if_neg h]
section EX2
variable {s : St} {t : SM} {nE nF nG : Nat}
theorem same2 (D : DEx (s 17) (t.2 7) (t.1 8) (t.2 9) nE) (hE : nE ≤ 8) {a b : Nat} (ha : a < nE) (hb : b < nE) : (t.2 7 a = t.2 7 b → f_Val_haveSameName s (nI a) (nI b) = some 1) ∧ (¬ t.2 7 a = t.2 7 b → f_Val_haveSameName s (nI a) (nI b) = some 0) := by
  obtain ⟨kd, ix, l, c, p1, p2, p3, p4, p5, p6, p7, p8, p9, p10, p11, p12⟩ := D a ha
  obtain ⟨kd', ix', l', c', q1, q2, q3, q4, q5, q6, q7, q8, q9, q10, q11, q12⟩ := D b hb
  obtain ⟨h1, h2⟩ := same_x (s := s) (show a < 8 by omega) (show b < 8 by omega) p3 q3 p4 q4 p5 q5 p8 q8 p9 q9
  have e1 := enc_64 p3 p3 (fun j _ => p4 j)
  have e2 := enc_64 q3 q3 (fun j _ => q4 j)
  have hi : t.2 7 a = t.2 7 b ↔ l = l' ∧ ∀ j, c j = c' j := by rw [p10, q10, pk_lEQ (by omega) (by omega), enc_iff p4 q4 p5 q5]
  exact ⟨fun q => h1 (hi.mp q), fun q => h2 (fun z => q (hi.mpr z))⟩
theorem jex_x (D : DEx (s 17) (t.2 7) (t.1 8) (t.2 9) nE) (hE : nE ≤ 8) {k : Nat} (hk : k < nE) {e : Nat} : ∀ d i N e, i + d = k → d < N → e < 10 → ((∀ j, i ≤ j → j < k → ¬ t.2 7 j = t.2 7 k) → f_Val_judgeExport_38 N (nI k) (nI i) (Se s e) = some (Se s e)) ∧ (¬ (∀ j, i ≤ j → j < k → ¬ t.2 7 j = t.2 7 k) → f_Val_judgeExport_38 N (nI k) (nI i) (Se s e) = some (Se s (fst' e 3))) := by
  intro d
  induction d with
  | zero =>
    intro i N e hi hN he
    obtain ⟨N, rfl⟩ : ∃ z, N = z + 1 := ⟨N - 1, by omega⟩
    rw [f_Val_judgeExport_38, if_pos (nI_le (by omega) (by omega))]
    exact ⟨fun _ => rfl, fun q => absurd (fun j q1 q2 => by omega) q⟩
  | succ d ih =>
    intro i N e hi hN he
    obtain ⟨N, rfl⟩ : ∃ z, N = z + 1 := ⟨N - 1, by omega⟩
    have D' : DEx ((Se s e) 17) (t.2 7) (t.1 8) (t.2 9) nE := by rw [Se_ne s e (by decide)]; exact D
    obtain ⟨h1, h2⟩ := same2 (s := Se s e) D' hE (show i < nE by omega) hk
    rw [f_Val_judgeExport_38, if_neg (nI_ge (by omega) (by omega))]
    simp only [f_Val_judgeExport_57, lt1, nI_1]
    have idem : fst' (fst' e 3) 3 = fst' e 3 := fst_idem e
    by_cases hn : t.2 7 i = t.2 7 k
    · obtain ⟨a1, a2⟩ := ih (i + 1) N (fst' e 3) (by omega) (by omega) (fst_lt he (by decide))
      rw [h1 hn, bd1_some, if_neg (by decide), show f_Val_refuse 3 (Se s e) = some (Se s (fst' e 3)) from Se_ref s (w := 3) he, bd1_some]
      refine ⟨fun q => absurd hn (q i (Nat.le_refl _) (by omega)), fun _ => ?_⟩
      by_cases z : ∀ j, i + 1 ≤ j → j < k → ¬ t.2 7 j = t.2 7 k
      · exact a1 z
      · rw [a2 z, idem]
    · obtain ⟨a1, a2⟩ := ih (i + 1) N e (by omega) (by omega) he
      rw [h2 hn, bd1_some, if_pos rfl]
      refine ⟨fun q => a1 (fun j q1 q2 => q j (by omega) q2), fun q => a2 (fun z => q (fun j q1 q2 => ?_))⟩
      by_cases hji : j = i
      · subst hji; exact hn
      · exact z j (by omega) q2
/-- what an export names is there -/
def thr (kd ix nF me nG : Nat) : Prop := (kd = 0 ∧ ix < nF) ∨ (kd = 2 ∧ me = 1 ∧ ix = 0) ∨ (kd = 3 ∧ ix < nG)
theorem exp_l {me : Nat} (D : DEx (s 17) (t.2 7) (t.1 8) (t.2 9) nE) (hE : nE ≤ 8) (g16 : s 16 0 = nI nE) (m12 : t.1 0 12 = nI nE) (hF : nF ≤ 8) (hG : nG ≤ 4) (hme : me ≤ 1) (x12 : s 12 0 = nI nF) (m7 : t.1 0 7 = nI nF) (x14 : s 14 0 = nI nG) (m11 : t.1 0 11 = nI nG) (xm : s 1 0 = nI me) (mm : t.1 0 9 = nI me) :
    ∀ d k NX NM e, k + d = nE → d < NX → d < NM → e < 10 → ∃ e1, e1 < 10 ∧ (e1 = 0 → e = 0) ∧ f_Val_judge_33 NX (nI k) (Se s e) = f_Val_judge_66 FU 0 (Se s e1) ∧ f_M_validate_115 NM (nI k) (Te t e) = f_M_validate_141 FU 0 (Te t e1) := by
  intro d
  induction d with
  | zero =>
    intro k NX NM e hk hX hM he
    obtain ⟨NX, rfl⟩ : ∃ z, NX = z + 1 := ⟨NX - 1, by omega⟩
    obtain ⟨NM, rfl⟩ : ∃ z, NM = z + 1 := ⟨NM - 1, by omega⟩
    refine ⟨e, he, fun q => q, ?_, ?_⟩
    · rw [f_Val_judge_33, Se_ne s e (by decide), g16]
      simp only [lt1, f_Val_judge_64]
      rw [if_pos (nI_le (by omega) (by omega)), ite_self]
    · rw [f_M_validate_115, Te_z t e (by decide), m12, if_pos (nI_le (by omega) (by omega))]
  | succ d ih =>
    intro k NX NM e hk hX hM he
    obtain ⟨NX, rfl⟩ : ∃ z, NX = z + 1 := ⟨NX - 1, by omega⟩
    obtain ⟨NM, rfl⟩ : ∃ z, NM = z + 1 := ⟨NM - 1, by omega⟩
    have hkE : k < nE := by omega
    have hk8 : k < 8 := by omega
    obtain ⟨kd, ix, l, c, p1, p2, p3, p4, p5, p6, p7, p8, p9, p10, p11, p12⟩ := D k hkE
    have D' : DEx ((Se s e) 17) (t.2 7) (t.1 8) (t.2 9) nE := by rw [Se_ne s e (by decide)]; exact D
    -- there, on both sides
    have thX : (thr kd ix nF me nG → f_Val_isThere (Se s e) (nI kd) (nI ix) = some 1) ∧ (¬ thr kd ix nF me nG → f_Val_isThere (Se s e) (nI kd) (nI ix) = some 0) := by
      rw [f_Val_isThere, Se_ne s e (a := 12) (by decide), Se_ne s e (a := 14) (by decide), Se_ne s e (a := 1) (by decide), x12, x14, xm, tHas_lt p2 (by omega), tHas_lt p2 (by omega)]
      simp only [lt1, f_Val_isThere_62, f_Val_isThere_63, f_Val_isThere_76]
      rcases (show kd = 0 ∨ kd = 1 ∨ kd = 2 ∨ kd = 3 by omega) with q | q | q | q
      · subst q
        rw [if_pos (show nI 0 = 0 from rfl)]
        by_cases z : ix < nF
        · rw [if_pos z, bz1]
          exact ⟨fun _ => rfl, fun y => absurd (Or.inl ⟨rfl, z⟩) y⟩
        · rw [if_neg z, bz0]
          refine ⟨fun y => ?_, fun _ => rfl⟩
          rcases y with y | y | y <;> omega
      · subst q
        rw [if_neg (show ¬ nI 1 = 0 by decide), if_neg (show ¬ nI 1 = 2 by decide), if_neg (show ¬ nI 1 = 3 by decide), bz0]
        refine ⟨fun y => ?_, fun _ => rfl⟩
        rcases y with y | y | y <;> omega
      · subst q
        rw [if_neg (show ¬ nI 2 = 0 by decide), if_pos (show nI 2 = 2 from rfl), bz0, bz1]
        by_cases zm : me = 0
        · subst zm
          rw [if_pos (show nI 0 = 0 from rfl)]
          refine ⟨fun y => ?_, fun _ => rfl⟩
          rcases y with y | y | y <;> omega
        · have zm1 : me = 1 := by omega
          subst zm1
          rw [if_neg (show ¬ nI 1 = 0 by decide)]
          by_cases z : ix = 0
          · subst z
            rw [if_pos (show nI 0 = 0 from rfl)]
            exact ⟨fun _ => rfl, fun y => absurd (Or.inr (Or.inl ⟨rfl, rfl, rfl⟩)) y⟩
          · rw [if_neg (show ¬ nI ix = 0 from fun y => z (nI_inj32 (b := 0) p2 (by decide) y))]
            refine ⟨fun y => ?_, fun _ => rfl⟩
            rcases y with y | y | y <;> omega
      · subst q
        rw [if_neg (show ¬ nI 3 = 0 by decide), if_neg (show ¬ nI 3 = 2 by decide), if_pos (show nI 3 = 3 from rfl)]
        by_cases z : ix < nG
        · rw [if_pos z, bz1]
          exact ⟨fun _ => rfl, fun y => absurd (Or.inr (Or.inr ⟨rfl, z⟩)) y⟩
        · rw [if_neg z, bz0]
          refine ⟨fun y => ?_, fun _ => rfl⟩
          rcases y with y | y | y <;> omega
    have lpM : ∀ d i N (r : Nat), i + d = k → d < N → r ≤ 1 → ∀ y : Int32, (r = 1 ∧ (∀ j, i ≤ j → j < k → ¬ t.2 7 j = t.2 7 k) → f_M_isExport_73 (Te t e) N (nI k) y (nI r) (nI i) = some 1) ∧ (¬ (r = 1 ∧ ∀ j, i ≤ j → j < k → ¬ t.2 7 j = t.2 7 k) → f_M_isExport_73 (Te t e) N (nI k) y (nI r) (nI i) = some 0) := by
      intro d
      induction d with
      | zero =>
        intro i N r hi hN hr y
        obtain ⟨N, rfl⟩ : ∃ z, N = z + 1 := ⟨N - 1, by omega⟩
        rw [f_M_isExport_73, if_pos (nI_le (by omega) (by omega))]
        refine ⟨fun q => ?_, fun q => ?_⟩
        · rw [q.1]; exact bz1 _
        · have : r = 0 := by
            by_cases z : r = 1
            · exact absurd ⟨z, fun j q1 q2 => by omega⟩ q
            · omega
          rw [this]; exact bz0 _
      | succ d ih2 =>
        intro i N r hi hN hr y
        obtain ⟨N, rfl⟩ : ∃ z, N = z + 1 := ⟨N - 1, by omega⟩
        obtain ⟨kd2, ix2, l2, c2, r1, r2, r3, r4, r5, r6, r7, r8, r9, r10, r11, r12⟩ := D i (by omega)
        have e1 := enc_64 p3 p3 (fun j _ => p4 j)
        have e2 := enc_64 r3 r3 (fun j _ => r4 j)
        rw [f_M_isExport_73, if_neg (nI_ge (by omega) (by omega)), gi_n (show i < 8 by omega) (by decide)]
        simp only [gi_n hk8 (show 8 < 2 ^ 31 by decide), f_M_isExport_104, f_M_isExport_105, lt1, nI_1, Te_l, nI_clamp (show i < 2 ^ 31 by omega), nI_clamp (show k < 2 ^ 31 by omega), lg_cmp_eq]
        obtain ⟨i1, i2⟩ := ih2 (i + 1) N 0 (by omega) (by omega) (by decide) y
        obtain ⟨j1, j2⟩ := ih2 (i + 1) N 1 (by omega) (by omega) (by decide) y
        have e0 : f_M_isExport_73 (Te t e) N (nI k) y 0 (nI (i + 1)) = some 0 := i2 (fun z => absurd z.1 (by decide))
        by_cases hr0 : r = 0
        · rw [hr0, if_pos (show nI 0 = 0 from rfl)]
          exact ⟨fun q => absurd q.1 (by decide), fun _ => e0⟩
        · rw [show r = 1 by omega, if_neg (show ¬ nI 1 = 0 by decide)]
          by_cases hn : t.2 7 i = t.2 7 k
          · rw [if_pos hn]
            exact ⟨fun q => absurd hn (q.2 i (Nat.le_refl _) (by omega)), fun _ => e0⟩
          · rw [if_neg hn]
            refine ⟨fun q => j1 ⟨rfl, fun j q1 q2 => q.2 j (by omega) q2⟩, fun q => j2 (fun z => q ⟨rfl, fun j q1 q2 => ?_⟩)⟩
            by_cases hji : j = i
            · subst hji; exact hn
            · exact z.2 j (by omega) q2
    have m51 : ∀ x : Nat, x ≤ 8 → ((ix < x ∧ (∀ j, 0 ≤ j → j < k → ¬ t.2 7 j = t.2 7 k)) → f_M_isExport_51 (Te t e) (nI k) (nI x) = some 1) ∧ (¬ (ix < x ∧ (∀ j, 0 ≤ j → j < k → ¬ t.2 7 j = t.2 7 k)) → f_M_isExport_51 (Te t e) (nI k) (nI x) = some 0) := by
      intro x hx
      rw [f_M_isExport_51, gi_n hk8 (by decide), Te_l, nI_clamp (by omega), p12, nI_l (by omega)]
      simp only [lt1, lcmp_ge (show ix < 2 ^ 63 by omega) (show x < 2 ^ 63 by omega), f_M_isExport_69]
      obtain ⟨i1, i2⟩ := lpM k 0 FU 0 (by omega) (by unfold FU; omega) (by decide) (nI x)
      obtain ⟨j1, j2⟩ := lpM k 0 FU 1 (by omega) (by unfold FU; omega) (by decide) (nI x)
      by_cases z : ix < x
      · rw [if_neg (by omega)]
        exact ⟨fun q => j1 ⟨rfl, q.2⟩, fun q => j2 (fun y => q ⟨z, y.2⟩)⟩
      · rw [if_pos (by omega)]
        exact ⟨fun q => absurd q.1 z, fun _ => i2 (fun y => absurd y.1 (by decide))⟩
    have mEx : (thr kd ix nF me nG ∧ (∀ j, 0 ≤ j → j < k → ¬ t.2 7 j = t.2 7 k) → f_M_isExport (Te t e) (nI k) = some 1) ∧ (¬ (thr kd ix nF me nG ∧ ∀ j, 0 ≤ j → j < k → ¬ t.2 7 j = t.2 7 k) → f_M_isExport (Te t e) (nI k) = some 0) := by
      rw [f_M_isExport]
      simp only [gi_n hk8 (show 8 < 2 ^ 31 by decide)]
      rw [Te_ne t e (a := 8) (by decide), nI_clamp (by omega), p11, Te_z t e (j := 7) (by decide), Te_z t e (j := 9) (by decide), Te_z t e (j := 11) (by decide), m7, mm, m11]
      simp only [lt1]
      rcases (show kd = 0 ∨ kd = 1 ∨ kd = 2 ∨ kd = 3 by omega) with q | q | q | q
      · subst q
        rw [if_pos (show nI 0 = 0 from rfl)]
        obtain ⟨a1, a2⟩ := m51 nF hF
        refine ⟨fun y => a1 ⟨?_, y.2⟩, fun y => a2 (fun z => y ⟨Or.inl ⟨rfl, z.1⟩, z.2⟩)⟩
        rcases y.1 with z | z | z <;> omega
      · subst q
        rw [if_neg (show ¬ nI 1 = 0 by decide), if_pos (show nI 1 = 1 from rfl)]
        obtain ⟨a1, a2⟩ := m51 0 (by decide)
        refine ⟨fun y => ?_, fun y => a2 (fun z => by omega)⟩
        rcases y.1 with z | z | z <;> omega
      · subst q
        rw [if_neg (show ¬ nI 2 = 0 by decide), if_neg (show ¬ nI 2 = 1 by decide), if_pos (show nI 2 = 2 from rfl)]
        obtain ⟨a1, a2⟩ := m51 me (by omega)
        refine ⟨fun y => a1 ⟨?_, y.2⟩, fun y => a2 (fun z => y ⟨Or.inr (Or.inl ⟨rfl, by omega, by omega⟩), z.2⟩)⟩
        rcases y.1 with z | z | z <;> omega
      · subst q
        rw [if_neg (show ¬ nI 3 = 0 by decide), if_neg (show ¬ nI 3 = 1 by decide), if_neg (show ¬ nI 3 = 2 by decide)]
        obtain ⟨a1, a2⟩ := m51 nG (by omega)
        refine ⟨fun y => a1 ⟨?_, y.2⟩, fun y => a2 (fun z => y ⟨Or.inr (Or.inr ⟨rfl, z.1⟩), z.2⟩)⟩
        rcases y.1 with z | z | z <;> omega
    have idem : fst' (fst' e 3) 3 = fst' e 3 := fst_idem e
    have hX : (thr kd ix nF me nG ∧ (∀ j, 0 ≤ j → j < k → ¬ t.2 7 j = t.2 7 k) → f_Val_judgeExport (nI k) (Se s e) = some (Se s e)) ∧ (¬ (thr kd ix nF me nG ∧ ∀ j, 0 ≤ j → j < k → ¬ t.2 7 j = t.2 7 k) → f_Val_judgeExport (nI k) (Se s e) = some (Se s (fst' e 3))) := by
      rw [f_Val_judgeExport, Se_ne s e (a := 17) (by decide), tg_8_11_0 hk8, tg_8_11_1 hk8, p6, p7]
      simp only [lt1, f_Val_judgeExport_36]
      obtain ⟨a1, a2⟩ := jex_x (e := e) D hE hkE k 0 FU e (by omega) (by unfold FU; omega) he
      obtain ⟨b1, b2⟩ := jex_x (e := e) D hE hkE k 0 FU (fst' e 3) (by omega) (by unfold FU; omega) (fst_lt he (by decide))
      by_cases z : thr kd ix nF me nG
      · rw [thX.1 z, bd1_some, if_neg (by decide)]
        exact ⟨fun y => a1 y.2, fun y => a2 (fun q => y ⟨z, q⟩)⟩
      · rw [thX.2 z, bd1_some, if_pos rfl, show f_Val_refuse 3 (Se s e) = some (Se s (fst' e 3)) from Se_ref s (w := 3) he, bd1_some]
        refine ⟨fun y => absurd y.1 z, fun _ => ?_⟩
        by_cases q : ∀ j, 0 ≤ j → j < k → ¬ t.2 7 j = t.2 7 k
        · exact b1 q
        · have := b2 q
          rw [idem] at this
          exact this
    rw [f_Val_judge_33, if_neg (show ¬ (8 : Int32) ≤ nI k from nI_ge (b := 8) (by omega) (by decide)), Se_ne s e (a := 16) (by decide), g16, f_M_validate_115, Te_z t e (j := 12) (by decide), m12, if_neg (nI_ge (by omega) (by omega))]
    simp only [lt1, nI_1]
    rw [if_neg (nI_ge (by omega) (by omega))]
    by_cases z : thr kd ix nF me nG ∧ ∀ j, 0 ≤ j → j < k → ¬ t.2 7 j = t.2 7 k
    · obtain ⟨e1, b1, b2, b3, b4⟩ := ih (k + 1) NX NM e (by omega) (by omega) (by omega) he
      refine ⟨e1, b1, b2, ?_, ?_⟩
      · rw [hX.1 z, bd1_some]; exact b3
      · rw [mEx.1 z, bd1_some, Te_w1, bd1_some]; exact b4
    · obtain ⟨e1, b1, b2, b3, b4⟩ := ih (k + 1) NX NM (fst' e 3) (by omega) (by omega) (by omega) (fst_lt he (by decide))
      refine ⟨e1, b1, fun q => absurd (b2 q) (fun y => fst_0 (by decide) y), ?_, ?_⟩
      · rw [hX.2 z, bd1_some]; exact b3
      · rw [mEx.2 z, bd1_some, show f_M_will 0 3 (Te t e) = some (Te t (fst' e 3)) from Te_w0 t (w := 3) he, bd1_some]; exact b4
end EX2
