-- a module is loaded: memory and globals
section PRP
variable {nD p : Nat} {s : St} {t : SM}
theorem byt_x {s : St} {q : Nat} (hq : q < 240) : f_Rd_byteAt s (nI q) = some (s 26 q) := by
  rw [f_Rd_byteAt, if_neg (nI_pos (by omega)), if_neg (show ¬ 240 ≤ nI q from nI_ge (b := 240) hq (by decide)), gi_n hq (by decide), nI_clamp (by omega), lt1, f_Rd_byteAt_23]
/-- one segment -/
theorem seg_go {j a f g : Nat} (hj : j < 4) (hag : a + g ≤ 256) (hfg : f + g ≤ 240) (k55 : Int32 → St → Option St) (k178 : Int32 → SM → Option (Int32 × SM)) : ∀ d i NX NM s t, i + d = g → d < NX → d < NM → s 19 (j * 4 + 1) = nI a → t.1 11 j = nI a → s 19 (j * 4 + 2) = nI f → t.1 12 j = nI f → t.1 13 j = nI g → (∀ q, q < 240 → s 26 q = t.1 1 q) → (∀ q, q < 256 → s 34 q = t.1 29 q) →
    ∃ s' t', f_Store_prepare_85 k55 NX (nI j) (nI g) (nI i) s = k55 (nI (j + 1)) s' ∧ f_M_load_188 k178 NM (nI j) (nI i) t = k178 (nI (j + 1)) t' ∧ (∀ q, q < 256 → s' 34 q = t'.1 29 q) ∧ (∀ a, a ≠ 34 → s' a = s a) ∧ t'.2 = t.2 ∧ (∀ a, a ≠ 29 → t'.1 a = t.1 a) := by
  intro d
  induction d with
  | zero =>
    intro i NX NM s t hi hX hM x1 m11 x2 m12 m13 hb hm
    obtain ⟨NX, rfl⟩ : ∃ q, NX = q + 1 := ⟨NX - 1, by omega⟩
    obtain ⟨NM, rfl⟩ : ∃ q, NM = q + 1 := ⟨NM - 1, by omega⟩
    refine ⟨s, t, ?_, ?_, hm, fun _ _ => rfl, rfl, fun _ _ => rfl⟩
    · rw [f_Store_prepare_85, f_Store_prepare_141, if_pos (show nI g ≤ nI i from nI_le (by omega) (by omega)), ite_self, nI_1, lt1]
    · rw [f_M_load_188, gi_n hj (by decide), nI_clamp (by omega), m13, lt1, if_pos (show nI g ≤ nI i from nI_le (by omega) (by omega)), nI_1, lt1]
  | succ d ih =>
    intro i NX NM s t hi hX hM x1 m11 x2 m12 m13 hb hm
    obtain ⟨NX, rfl⟩ : ∃ q, NX = q + 1 := ⟨NX - 1, by omega⟩
    obtain ⟨NM, rfl⟩ : ∃ q, NM = q + 1 := ⟨NM - 1, by omega⟩
    obtain ⟨s', t', g1, g2, g3, g4, g5, g6⟩ := ih (i + 1) NX NM (stp s 34 (a + i) (s 26 (f + i))) (stI t 29 (a + i) (t.1 1 (f + i))) (by omega) (by omega) (by omega) (by simp (disch := first | decide | omega) only [stI1, stI2, stp_eq, stp_row, stp_ne, stp_nj ]; exact x1) (by simp (disch := first | decide | omega) only [stI1, stI2, stp_eq, stp_row, stp_ne, stp_nj ]; exact m11) (by simp (disch := first | decide | omega) only [stI1, stI2, stp_eq, stp_row, stp_ne, stp_nj ]; exact x2) (by simp (disch := first | decide | omega) only [stI1, stI2, stp_eq, stp_row, stp_ne, stp_nj ]; exact m12) (by simp (disch := first | decide | omega) only [stI1, stI2, stp_eq, stp_row, stp_ne, stp_nj ]; exact m13) (by simp (disch := first | decide | omega) only [stI1, stI2, stp_eq, stp_row, stp_ne, stp_nj ]; exact hb) (fun q hq => by
      rw [stI1]
      by_cases e : q = a + i
      · rw [e, stp_eq, stp_eq]; exact hb _ (by omega)
      · rw [stp_nj _ _ _ e, stp_nj _ _ _ e]; exact hm q hq)
    refine ⟨s', t', ?_, ?_, g3, fun q hq => by rw [g4 q hq, stp_ne _ _ _ hq], g5, fun q hq => by rw [g6 q hq, stI1, stp_ne _ _ _ hq]⟩
    · rw [f_Store_prepare_85, if_neg (show ¬ 240 ≤ nI i from nI_ge (b := 240) (by omega) (by decide)), if_neg (show ¬ nI g ≤ nI i from nI_ge (by omega) (by omega)), tg_4_4_1 hj, x1, lt1, nI_add, lt1, tg_4_4_2 hj, x2, lt1, nI_add, lt1, byt_x (by omega), bd1_some, rSet_n (by omega) (by decide), lt1, nI_1, lt1, g1]
    · rw [f_M_load_188, gi_n hj (by decide), nI_clamp (by omega), m13, lt1, if_neg (show ¬ nI g ≤ nI i from nI_ge (by omega) (by omega)), gi_n hj (by decide), m11, lt1, nI_add, lt1, gi_n hj (by decide), m12, lt1, nI_add, lt1, gi_n (show f + i < 240 by omega) (by decide), nI_clamp (show f + i < 2 ^ 31 by omega), lt1, gi_n (show a + i < 256 by omega) (by decide), nI_clamp (show a + i < 2 ^ 31 by omega), lt1, nI_1, lt1, g2]
theorem seg_all (hD : nD ≤ 4) (p4 : p ≤ 4) : ∀ d j NX NM s t, j + d = nD → d < NX → d < NM → DOk nD p s t → s 18 0 = nI nD → t.1 0 13 = nI nD → (∀ q, q < 240 → s 26 q = t.1 1 q) → (∀ q, q < 256 → s 34 q = t.1 29 q) →
    ∃ s' t', f_Store_prepare_55 NX (nI j) s = some s' ∧ f_M_load_178 NM (nI j) t = some (0, t') ∧ (∀ q, q < 256 → s' 34 q = t'.1 29 q) ∧ (∀ a, a ≠ 34 → s' a = s a) ∧ t'.2 = t.2 ∧ (∀ a, a ≠ 29 → t'.1 a = t.1 a) := by
  intro d
  induction d with
  | zero =>
    intro j NX NM s t hj hX hM D x18 m13 hb hm
    obtain ⟨NX, rfl⟩ : ∃ q, NX = q + 1 := ⟨NX - 1, by omega⟩
    obtain ⟨NM, rfl⟩ : ∃ q, NM = q + 1 := ⟨NM - 1, by omega⟩
    refine ⟨s, t, ?_, ?_, hm, fun _ _ => rfl, rfl, fun _ _ => rfl⟩
    · rw [f_Store_prepare_55, f_Store_prepare_147, x18, lt1, if_pos (show nI nD ≤ nI j from nI_le (by omega) (by omega)), ite_self]
    · rw [f_M_load_178, m13, if_pos (show nI nD ≤ nI j from nI_le (by omega) (by omega))]
  | succ d ih =>
    intro j NX NM s t hj hX hM D x18 m13 hb hm
    obtain ⟨NX, rfl⟩ : ∃ q, NX = q + 1 := ⟨NX - 1, by omega⟩
    obtain ⟨NM, rfl⟩ : ∃ q, NM = q + 1 := ⟨NM - 1, by omega⟩
    have hN := FU_9
    obtain ⟨a, f, g, h1, h2, y1, y2, y3, y4, y5, y6⟩ := D j (by omega)
    obtain ⟨s1, t1, e1, e2, e3, e4, e5, e6⟩ := seg_go (j := j) (a := a) (f := f) (g := g) (by omega) (by omega) h2 (f_Store_prepare_55 NX) (f_M_load_178 NM) g 0 FU FU s t (by omega) (by omega) (by omega) y1 y2 y3 y4 y6 hb hm
    have e1' : f_Store_prepare_85 (f_Store_prepare_55 NX) FU (nI j) (nI g) 0 s = _ := e1
    have e2' : f_M_load_188 (f_M_load_178 NM) FU (nI j) 0 t = _ := e2
    have D1 : DOk nD p s1 t1 := by
      intro q hq
      rw [e4 19 (by decide), e6 11 (by decide), e6 12 (by decide), e6 13 (by decide)]
      exact D q hq
    obtain ⟨s', t', g1, g2, g3, g4, g5, g6⟩ := ih (j + 1) NX NM s1 t1 (by omega) (by omega) (by omega) D1 (by rw [e4 18 (by decide)]; exact x18) (by rw [e6 0 (by decide)]; exact m13) (by rw [e4 26 (by decide), e6 1 (by decide)]; exact hb) e3
    refine ⟨s', t', ?_, ?_, g3, fun q hq => (g4 q hq).trans (e4 q hq), g5.trans e5, fun q hq => (g6 q hq).trans (e6 q hq)⟩
    · rw [f_Store_prepare_55, if_neg (show ¬ 4 ≤ nI j from nI_ge (b := 4) (by omega) (by decide)), x18, lt1, if_neg (show ¬ nI nD ≤ nI j from nI_ge (by omega) (by omega)), tg_4_4_3 (by omega), y5, lt1, e1', g1]
    · rw [f_M_load_178, m13, if_neg (show ¬ nI nD ≤ nI j from nI_ge (by omega) (by omega)), e2', g2]
theorem glx_go : ∀ d i N s, i + d = 4 → d < N → ∃ s', f_Store_prepare_25 N (nI i) s = f_Store_prepare_55 FU 0 s' ∧ (∀ a, a ≠ 38 → s' a = s a) ∧ (∀ q, q < i → s' 38 q = s 38 q) ∧ (∀ q, i ≤ q → q < 4 → s' 38 q = s 15 (q * 2 + 1)) := by
  intro d
  induction d with
  | zero =>
    intro i N s hi hN
    obtain ⟨N, rfl⟩ : ∃ q, N = q + 1 := ⟨N - 1, by omega⟩
    refine ⟨s, ?_, fun _ _ => rfl, fun _ _ => rfl, fun q q1 q2 => by omega⟩
    rw [f_Store_prepare_25, if_pos (show 4 ≤ nI i from nI_le (a := 4) (by omega) (by omega))]
  | succ d ih =>
    intro i N s hi hN
    obtain ⟨N, rfl⟩ : ∃ q, N = q + 1 := ⟨N - 1, by omega⟩
    obtain ⟨s', g1, g2, g3, g4⟩ := ih (i + 1) N (stp s 38 i (s 15 (i * 2 + 1))) (by omega) (by omega)
    refine ⟨s', ?_, fun q hq => by rw [g2 q hq, stp_ne _ _ _ hq], fun q hq => by rw [g3 q (by omega), stp_nj _ _ _ (by omega)], fun q q1 q2 => ?_⟩
    · rw [f_Store_prepare_25, if_neg (show ¬ 4 ≤ nI i from nI_ge (b := 4) (by omega) (by decide)), tg_4_2_1 (by omega), lt1, rSet_n (by omega) (by decide), lt1, nI_1, lt1, g1]
    · by_cases e : q = i
      · rw [e, g3 i (by omega), stp_eq]
      · rw [g4 q (by omega) q2, stp_ne _ _ _ (by decide)]
theorem glm_go {nG : Nat} (hG : nG ≤ 4) : ∀ d i N t, i + d = nG → d < N → t.1 0 11 = nI nG → ∃ t', f_M_load_150 N (nI i) t = f_M_load_178 FU 0 t' ∧ t'.2 = t.2 ∧ (∀ a, a ≠ 30 → t'.1 a = t.1 a) ∧ (∀ q, q < i → t'.1 30 q = t.1 30 q) ∧ (∀ q, i ≤ q → q < nG → t'.1 30 q = t.1 6 q) := by
  intro d
  induction d with
  | zero =>
    intro i N t hi hN h11
    obtain ⟨N, rfl⟩ : ∃ q, N = q + 1 := ⟨N - 1, by omega⟩
    refine ⟨t, ?_, rfl, fun _ _ => rfl, fun _ _ => rfl, fun q q1 q2 => by omega⟩
    rw [f_M_load_150, h11, if_pos (show nI nG ≤ nI i from nI_le (by omega) (by omega))]
  | succ d ih =>
    intro i N t hi hN h11
    obtain ⟨N, rfl⟩ : ∃ q, N = q + 1 := ⟨N - 1, by omega⟩
    obtain ⟨t', g1, g0, g2, g3, g4⟩ := ih (i + 1) N (stI t 30 i (t.1 6 i)) (by omega) (by omega) (by simp (disch := first | decide | omega) only [stI1, stI2, stp_eq, stp_row, stp_ne, stp_nj ]; exact h11)
    refine ⟨t', ?_, g0, fun q hq => by rw [g2 q hq, stI1, stp_ne _ _ _ hq], fun q hq => by rw [g3 q (by omega), stI1, stp_nj _ _ _ (by omega)], fun q q1 q2 => ?_⟩
    · rw [f_M_load_150, h11, if_neg (show ¬ nI nG ≤ nI i from nI_ge (by omega) (by omega)), gi_n (show i < 4 by omega) (by decide), nI_clamp (by omega), lt1, gi_n (show i < 4 by omega) (by decide), lt1, nI_1, lt1, g1]
    · by_cases e : q = i
      · rw [e, g3 i (by omega), stI1, stp_eq]
      · rw [g4 q (by omega) q2, stI1, stp_ne _ _ _ (by decide)]
theorem mz_go : ∀ d i N t, i + d = 256 → d < N → ∃ t', f_M_load_128 N (nI i) t = f_M_load_150 FU 0 t' ∧ t'.2 = t.2 ∧ (∀ a, a ≠ 29 → t'.1 a = t.1 a) ∧ (∀ q, q < i → t'.1 29 q = t.1 29 q) ∧ (∀ q, i ≤ q → q < 256 → t'.1 29 q = 0) := by
  intro d
  induction d with
  | zero =>
    intro i N t hi hN
    obtain ⟨N, rfl⟩ : ∃ q, N = q + 1 := ⟨N - 1, by omega⟩
    refine ⟨t, ?_, rfl, fun _ _ => rfl, fun _ _ => rfl, fun q q1 q2 => by omega⟩
    rw [f_M_load_128, if_pos (show 256 ≤ nI i from nI_le (a := 256) (by omega) (by omega))]
  | succ d ih =>
    intro i N t hi hN
    obtain ⟨N, rfl⟩ : ∃ q, N = q + 1 := ⟨N - 1, by omega⟩
    obtain ⟨t', g1, g0, g2, g3, g4⟩ := ih (i + 1) N (stI t 29 i 0) (by omega) (by omega)
    refine ⟨t', ?_, g0, fun q hq => by rw [g2 q hq, stI1, stp_ne _ _ _ hq], fun q hq => by rw [g3 q (by omega), stI1, stp_nj _ _ _ (by omega)], fun q q1 q2 => ?_⟩
    · rw [f_M_load_128, if_neg (show ¬ 256 ≤ nI i from nI_ge (b := 256) (by omega) (by decide)), gi_n (show i < 256 by omega) (by decide), nI_clamp (by omega), lt1, nI_1, lt1, g1]
    · by_cases e : q = i
      · rw [e, g3 i (by omega), stI1, stp_eq]
      · exact g4 q (by omega) q2
/-- the tail of loading -/
theorem prep2 {nG me : Nat} (h5 : t.1 0 5 = 0) (hG : nG ≤ 4) (gl : DGl (s 15) (t.1 5) (t.1 6) nG) (m11 : t.1 0 11 = nI nG) (hD : nD ≤ 4) (x18 : s 18 0 = nI nD) (m13 : t.1 0 13 = nI nD) (D : DOk nD p s t) (p4 : p ≤ 4) (x1 : s 1 1 = nI p) (ml : t.2 0 0 = lN p) (hme : me ≤ 1) (xm : s 1 0 = nI me) (mm : t.1 0 9 = nI me)
    (M : DMe (s 1) (t.1 0 9) (t.1 0 10) (t.2 0 0) (t.2 0 1)) (cap : t.1 0 10 = 1 → ∃ q : Nat, p ≤ q ∧ q < 2 ^ 32 ∧ t.2 0 1 = lN q) (hb : ∀ q, q < 240 → s 26 q = t.1 1 q) :
    ∃ s' t' mx, f_Store_prepare s = some s' ∧ f_M_load_89 t = some (0, t') ∧ DR nG me mx s' t' p ∧ (∀ a, a ≠ 5 → a ≠ 34 → a ≠ 38 → s' a = s a) ∧ t'.2 = t.2 ∧ (∀ a, a ≠ 0 → a ≠ 29 → a ≠ 30 → t'.1 a = t.1 a) ∧ (∀ j, j ≠ 2 → j ≠ 18 → t'.1 0 j = t.1 0 j) ∧ t'.1 0 2 = 1 := by
  have hN := FU_9
  have n01 : ¬ nI 0 = nI 1 := by decide
  have hmx : ∃ mx : Nat, s 1 2 = nI mx ∧ (me = 1 → (p ≤ mx ∧ mx ≤ 4) ∧ ((t.1 0 10 = 0 ∧ mx = 4) ∨ (t.1 0 10 = 1 ∧ ∃ q : Nat, q < 2 ^ 32 ∧ t.2 0 1 = lN q ∧ mx = min q 4))) := by
    rcases M with ⟨a1, a2, a3, a4, a5, a6⟩ | ⟨a1, a2, p', q, hp, hq, b1, b2, b3⟩
    · refine ⟨0, a3, fun z => ?_⟩
      rw [z, a1] at xm; exact absurd xm n01
    · rcases b3 with ⟨c1, c2⟩ | ⟨c1, c2, c3⟩
      · exact ⟨4, c2, fun _ => ⟨⟨p4, Nat.le_refl _⟩, Or.inl ⟨c1, rfl⟩⟩⟩
      · obtain ⟨q', d1, d2, d3⟩ := cap c1
        have e : q' = q := by
          rw [c2] at d3
          exact ((pk_lEQ (by omega) (by omega)).mp d3).symm
        exact ⟨min q 4, c3, fun _ => ⟨⟨by omega, by omega⟩, Or.inr ⟨c1, q, hq, c2, rfl⟩⟩⟩
  obtain ⟨mx, y2, y3⟩ := hmx
  have pg : ∃ P : SM → Option (Int32 × SM), True := ⟨fun _ => none, trivial⟩
  have p0 : me = 0 → p = 0 := by
    intro z
    rcases M with ⟨a1, a2, a3, a4, a5, a6⟩ | ⟨a1, a2, -⟩
    · rw [a2] at x1
      have x1' : nI 0 = nI p := x1
      exact ((nI_eq (by omega) (by omega)).mp x1').symm
    · rw [z, a2] at mm; exact absurd mm.symm n01
  have e89 : f_M_load_89 t = f_M_load_128 FU 0 (stI (stI t 0 2 1) 0 18 (nI p)) := by
    rw [f_M_load_89, h5, if_pos (by decide), lt1, show (stI t 0 2 1).1 0 9 = nI me by simp (disch := first | decide | omega) only [stI1, stI2, stp_eq, stp_row, stp_ne, stp_nj ]; exact mm]
    by_cases z : me = 0
    · rw [if_pos (show nI me ≤ 0 by rw [z]; decide), f_M_load_123, lt1, p0 z]; rfl
    · rw [if_neg (show ¬ nI me ≤ 0 from nI_ge (a := 0) (by omega) (by omega)), show (stI t 0 2 1).2 0 0 = lN p from ml, lN_i, lt1, f_M_load_123, lt1]
  obtain ⟨t1, a1, a2, a3, a4, a5⟩ := mz_go 256 0 FU (stI (stI t 0 2 1) 0 18 (nI p)) (by omega) (by omega)
  have a1' : f_M_load_128 FU 0 (stI (stI t 0 2 1) 0 18 (nI p)) = _ := a1
  obtain ⟨t2, b1, b2, b3, b4, b5⟩ := glm_go hG nG 0 FU t1 (by omega) (by omega) (by rw [a3 0 (by decide)]; simp (disch := first | decide | omega) only [stI1, stI2, stp_eq, stp_row, stp_ne, stp_nj ]; exact m11)
  have b1' : f_M_load_150 FU 0 t1 = _ := b1
  have q1 : ∀ a, a ≠ 34 → a ≠ 5 → stp (stp (aFill s 34 256) 5 0 (s 1 1)) 5 1 (s 1 2) a = s a := fun a h1 h2 => by rw [stp_ne _ _ _ h2, stp_ne _ _ _ h2, aF_ne _ _ h1]
  obtain ⟨s2, c1, c2, c3, c4⟩ := glx_go 4 0 FU (stp (stp (aFill s 34 256) 5 0 (s 1 1)) 5 1 (s 1 2)) (by omega) (by omega)
  have c1' : f_Store_prepare_25 FU 0 (stp (stp (aFill s 34 256) 5 0 (s 1 1)) 5 1 (s 1 2)) = _ := c1
  have s2f : ∀ a, a ≠ 5 → a ≠ 34 → a ≠ 38 → s2 a = s a := fun a h1 h2 h3 => by rw [c2 a h3, q1 a h2 h1]
  have t2f : ∀ a, a ≠ 0 → a ≠ 29 → a ≠ 30 → t2.1 a = t.1 a := fun a h1 h2 h3 => by rw [b3 a h3, a3 a h2]; simp (disch := first | decide | omega) only [stI1, stI2, stp_eq, stp_row, stp_ne, stp_nj ]
  have t20 : t2.1 0 = (stI (stI t 0 2 1) 0 18 (nI p)).1 0 := by rw [b3 0 (by decide), a3 0 (by decide)]
  have D2 : DOk nD p s2 t2 := by
    intro q hq
    rw [s2f 19 (by decide) (by decide) (by decide), t2f 11 (by decide) (by decide) (by decide), t2f 12 (by decide) (by decide) (by decide), t2f 13 (by decide) (by decide) (by decide)]
    exact D q hq
  obtain ⟨s', t', g1, g2, g3, g4, g5, g6⟩ := seg_all hD p4 nD 0 FU FU s2 t2 (by omega) (by omega) (by omega) D2 (by rw [s2f 18 (by decide) (by decide) (by decide)]; exact x18) (by rw [t20]; simp (disch := first | decide | omega) only [stI1, stI2, stp_eq, stp_row, stp_ne, stp_nj ]; exact m13) (by rw [s2f 26 (by decide) (by decide) (by decide), t2f 1 (by decide) (by decide) (by decide)]; exact hb) (fun q hq => by
    rw [c2 34 (by decide), stp_ne _ _ _ (by decide), stp_ne _ _ _ (by decide), aF_eq _ _ _ hq, b3 29 (by decide), a5 q (Nat.zero_le _) hq])
  have g1' : f_Store_prepare_55 FU 0 s2 = _ := g1
  have g2' : f_M_load_178 FU 0 t2 = _ := g2
  have t0' : t'.1 0 = (stI (stI t 0 2 1) 0 18 (nI p)).1 0 := by rw [g6 0 (by decide), t20]
  have l2 : t'.2 = t.2 := by rw [g5, b2, a2]; rfl
  refine ⟨s', t', mx, ?_, by rw [e89, a1', b1', g2'], ?_, fun a h1 h2 h3 => by rw [g4 a h2, s2f a h1 h2 h3], l2, fun a h1 h2 h3 => by rw [g6 a h2, t2f a h1 h2 h3], fun j j1 j2 => by rw [t0']; simp (disch := first | decide | omega) only [stI1, stI2, stp_eq, stp_row, stp_ne, stp_nj ], by rw [t0']; simp (disch := first | decide | omega) only [stI1, stI2, stp_eq, stp_row, stp_ne, stp_nj ]⟩
  · rw [f_Store_prepare, lt1, aF_ne _ _ (show 1 ≠ 34 by decide), lt1, stp_ne _ _ _ (show 1 ≠ 5 by decide), aF_ne _ _ (show 1 ≠ 34 by decide), lt1, c1', g1']
  · have h5' : s' 5 = (stp (stp (aFill s 34 256) 5 0 (s 1 1)) 5 1 (s 1 2)) 5 := by rw [g4 5 (by decide), c2 5 (by decide)]
    refine ⟨g3, fun g hg => ?_, by rw [h5']; simp (disch := first | decide | omega) only [stI1, stI2, stp_eq, stp_row, stp_ne, stp_nj ]; exact x1, by rw [t0']; simp (disch := first | decide | omega) only [stI1, stI2, stp_eq, stp_row, stp_ne, stp_nj ], p4, fun z => (y3 z).1, by rw [h5']; simp (disch := first | decide | omega) only [stI1, stI2, stp_eq, stp_row, stp_ne, stp_nj ]; exact y2, fun z => ?_⟩
    · obtain ⟨c, d1, d2, d3, d4⟩ := gl g hg
      rw [g4 38 (by decide), c4 g (Nat.zero_le _) (by omega), q1 15 (by decide) (by decide), d4, g6 30 (by decide), b5 g (Nat.zero_le _) hg, a3 6 (by decide)]
      simp (disch := first | decide | omega) only [stI1, stI2, stp_eq, stp_row, stp_ne, stp_nj ]
    · rw [show t'.1 0 10 = t.1 0 10 by rw [t0']; simp (disch := first | decide | omega) only [stI1, stI2, stp_eq, stp_row, stp_ne, stp_nj ], l2]; exact (y3 z).2
end PRP
