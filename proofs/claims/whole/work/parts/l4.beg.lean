-- a run begins: the first call, engine S
section BEGS
theorem op8_go_S {p : Nat} (hp : p ≤ 4) : ∀ d i N s, i + d = 28 → d < N → s 6 1 = 0 →
    ∃ s', f_Eng_open_S_8_24 N 0 (nI p) (nI i) s = some s' ∧ (∀ a, a ≠ 36 → s' a = s a) ∧ (∀ j, j < i → s' 36 j = s 36 j) ∧ (∀ x, i ≤ x → x < 28 → s' 36 x = if x < p then s 9 x else 0) := by
  intro d
  induction d with
  | zero =>
    intro i N s hi hN h1
    obtain ⟨N, rfl⟩ : ∃ q, N = q + 1 := ⟨N - 1, by omega⟩
    rw [f_Eng_open_S_8_24, if_pos (show 28 ≤ nI i from nI_le (a := 28) (by omega) (by omega))]
    exact ⟨s, rfl, fun _ _ => rfl, fun _ _ => rfl, fun x h1 h2 => by omega⟩
  | succ d ih =>
    intro i N s hi hN h1
    obtain ⟨N, rfl⟩ : ∃ q, N = q + 1 := ⟨N - 1, by omega⟩
    have key : f_Eng_open_S_8_24 (N + 1) 0 (nI p) (nI i) s = f_Eng_open_S_8_24 N 0 (nI p) (nI (i + 1)) (stp s 36 i (if i < p then s 9 i else 0)) := by
      rw [f_Eng_open_S_8_24, if_neg (show ¬ 28 ≤ nI i from nI_ge (b := 28) (by omega) (by decide)), h1, Int32.zero_add, lt1]
      by_cases z : i < p
      · rw [if_neg (show ¬ nI p ≤ nI i from nI_ge z (by omega)), lt1, rGet_n (by omega) (by decide), lt1, f_Eng_open_S_8_63, rSet_n (by omega) (by decide), lt1, nI_1, lt1, if_pos z]
      · rw [if_pos (show nI p ≤ nI i from nI_le (by omega) (by omega)), f_Eng_open_S_8_63, rSet_n (by omega) (by decide), lt1, nI_1, lt1, if_neg z]
    obtain ⟨s', g1, g2, g3, g4⟩ := ih (i + 1) N (stp s 36 i (if i < p then s 9 i else 0)) (by omega) (by omega) (by simp (disch := first | decide | omega) only [stI1, stI2, stp_eq, stp_row, stp_ne, stp_nj ]; exact h1)
    rw [key]
    refine ⟨s', g1, fun a ha => by rw [g2 a ha]; simp (disch := first | decide | omega) only [stI1, stI2, stp_eq, stp_row, stp_ne, stp_nj ], fun j hj => by rw [g3 j (by omega)]; simp (disch := first | decide | omega) only [stI1, stI2, stp_eq, stp_row, stp_ne, stp_nj ], fun x h1 h2 => ?_⟩
    by_cases e : x = i
    · rw [e, g3 i (by omega)]; simp (disch := first | decide | omega) only [stI1, stI2, stp_eq, stp_row, stp_ne, stp_nj ]
    · rw [g4 x (by omega) h2]
      by_cases z : x < p
      · rw [if_pos z, if_pos z]; simp (disch := first | decide | omega) only [stI1, stI2, stp_eq, stp_row, stp_ne, stp_nj ]
      · rw [if_neg z, if_neg z]
theorem op8_S {p : Nat} {s : St} (h0 : s 6 0 = 0) (hp : p ≤ 4) : ∃ s', f_Eng_open_S_8 0 (nI p) s = some s' ∧ s' 6 0 = nI 1 ∧ s' 6 1 = nI 0 ∧ (∀ j, 2 ≤ j → s' 6 j = s 6 j) ∧ (∀ a, a ≠ 6 → a ≠ 36 → s' a = s a) ∧ (∀ x, x < 28 → s' 36 x = if x < p then s 9 x else 0) := by
  have hN := FU_9
  obtain ⟨s', g1, g2, g3, g4⟩ := op8_go_S hp 28 0 FU (stp (stp s 6 1 0) 6 0 1) (by omega) (by omega) (by simp (disch := first | decide | omega) only [stI1, stI2, stp_eq, stp_row, stp_ne, stp_nj ])
  have g1' : f_Eng_open_S_8_24 FU 0 (nI p) 0 (stp (stp s 6 1 0) 6 0 1) = some s' := g1
  refine ⟨s', ?_, by rw [g2 6 (by decide)]; simp (disch := first | decide | omega) only [stI1, stI2, stp_eq, stp_row, stp_ne, stp_nj ]; rfl, by rw [g2 6 (by decide)]; simp (disch := first | decide | omega) only [stI1, stI2, stp_eq, stp_row, stp_ne, stp_nj ]; rfl, fun j hj => by rw [g2 6 (by decide)]; simp (disch := first | decide | omega) only [stI1, stI2, stp_eq, stp_row, stp_ne, stp_nj ], fun a a1 a2 => by rw [g2 a a2]; simp (disch := first | decide | omega) only [stI1, stI2, stp_eq, stp_row, stp_ne, stp_nj ], fun x hx => ?_⟩
  · rw [f_Eng_open_S_8, h0, show (0 : Int32) * 28 = 0 by decide, lt1, lt1, show stp s 6 1 0 6 0 = 0 by simp (disch := first | decide | omega) only [stI1, stI2, stp_eq, stp_row, stp_ne, stp_nj ]; exact h0, show (0 : Int32) + 1 = 1 by decide, lt1, lt1, g1']
  · rw [g4 x (Nat.zero_le _) hx]; simp (disch := first | decide | omega) only [stI1, stI2, stp_eq, stp_row, stp_ne, stp_nj ]
end BEGS
-- a run begins: the first call, engine R
section BEGR
theorem op8_go_R {p : Nat} (hp : p ≤ 4) : ∀ d i N s, i + d = 28 → d < N → s 7 1 = 0 →
    ∃ s', f_Eng_open_R_8_24 N 0 (nI p) (nI i) s = some s' ∧ (∀ a, a ≠ 36 → s' a = s a) ∧ (∀ j, j < i → s' 36 j = s 36 j) ∧ (∀ x, i ≤ x → x < 28 → s' 36 x = if x < p then s 9 x else 0) := by
  intro d
  induction d with
  | zero =>
    intro i N s hi hN h1
    obtain ⟨N, rfl⟩ : ∃ q, N = q + 1 := ⟨N - 1, by omega⟩
    rw [f_Eng_open_R_8_24, if_pos (show 28 ≤ nI i from nI_le (a := 28) (by omega) (by omega))]
    exact ⟨s, rfl, fun _ _ => rfl, fun _ _ => rfl, fun x h1 h2 => by omega⟩
  | succ d ih =>
    intro i N s hi hN h1
    obtain ⟨N, rfl⟩ : ∃ q, N = q + 1 := ⟨N - 1, by omega⟩
    have key : f_Eng_open_R_8_24 (N + 1) 0 (nI p) (nI i) s = f_Eng_open_R_8_24 N 0 (nI p) (nI (i + 1)) (stp s 36 i (if i < p then s 9 i else 0)) := by
      rw [f_Eng_open_R_8_24, if_neg (show ¬ 28 ≤ nI i from nI_ge (b := 28) (by omega) (by decide)), h1, Int32.zero_add, lt1]
      by_cases z : i < p
      · rw [if_neg (show ¬ nI p ≤ nI i from nI_ge z (by omega)), lt1, rGet_n (by omega) (by decide), lt1, f_Eng_open_R_8_63, rSet_n (by omega) (by decide), lt1, nI_1, lt1, if_pos z]
      · rw [if_pos (show nI p ≤ nI i from nI_le (by omega) (by omega)), f_Eng_open_R_8_63, rSet_n (by omega) (by decide), lt1, nI_1, lt1, if_neg z]
    obtain ⟨s', g1, g2, g3, g4⟩ := ih (i + 1) N (stp s 36 i (if i < p then s 9 i else 0)) (by omega) (by omega) (by simp (disch := first | decide | omega) only [stI1, stI2, stp_eq, stp_row, stp_ne, stp_nj ]; exact h1)
    rw [key]
    refine ⟨s', g1, fun a ha => by rw [g2 a ha]; simp (disch := first | decide | omega) only [stI1, stI2, stp_eq, stp_row, stp_ne, stp_nj ], fun j hj => by rw [g3 j (by omega)]; simp (disch := first | decide | omega) only [stI1, stI2, stp_eq, stp_row, stp_ne, stp_nj ], fun x h1 h2 => ?_⟩
    by_cases e : x = i
    · rw [e, g3 i (by omega)]; simp (disch := first | decide | omega) only [stI1, stI2, stp_eq, stp_row, stp_ne, stp_nj ]
    · rw [g4 x (by omega) h2]
      by_cases z : x < p
      · rw [if_pos z, if_pos z]; simp (disch := first | decide | omega) only [stI1, stI2, stp_eq, stp_row, stp_ne, stp_nj ]
      · rw [if_neg z, if_neg z]
theorem op8_R {p : Nat} {s : St} (h0 : s 7 0 = 0) (hp : p ≤ 4) : ∃ s', f_Eng_open_R_8 0 (nI p) s = some s' ∧ s' 7 0 = nI 1 ∧ s' 7 1 = nI 0 ∧ (∀ j, 2 ≤ j → s' 7 j = s 7 j) ∧ (∀ a, a ≠ 7 → a ≠ 36 → s' a = s a) ∧ (∀ x, x < 28 → s' 36 x = if x < p then s 9 x else 0) := by
  have hN := FU_9
  obtain ⟨s', g1, g2, g3, g4⟩ := op8_go_R hp 28 0 FU (stp (stp s 7 1 0) 7 0 1) (by omega) (by omega) (by simp (disch := first | decide | omega) only [stI1, stI2, stp_eq, stp_row, stp_ne, stp_nj ])
  have g1' : f_Eng_open_R_8_24 FU 0 (nI p) 0 (stp (stp s 7 1 0) 7 0 1) = some s' := g1
  refine ⟨s', ?_, by rw [g2 7 (by decide)]; simp (disch := first | decide | omega) only [stI1, stI2, stp_eq, stp_row, stp_ne, stp_nj ]; rfl, by rw [g2 7 (by decide)]; simp (disch := first | decide | omega) only [stI1, stI2, stp_eq, stp_row, stp_ne, stp_nj ]; rfl, fun j hj => by rw [g2 7 (by decide)]; simp (disch := first | decide | omega) only [stI1, stI2, stp_eq, stp_row, stp_ne, stp_nj ], fun a a1 a2 => by rw [g2 a a2]; simp (disch := first | decide | omega) only [stI1, stI2, stp_eq, stp_row, stp_ne, stp_nj ], fun x hx => ?_⟩
  · rw [f_Eng_open_R_8, h0, show (0 : Int32) * 28 = 0 by decide, lt1, lt1, show stp s 7 1 0 7 0 = 0 by simp (disch := first | decide | omega) only [stI1, stI2, stp_eq, stp_row, stp_ne, stp_nj ]; exact h0, show (0 : Int32) + 1 = 1 by decide, lt1, lt1, g1']
  · rw [g4 x (Nat.zero_le _) hx]; simp (disch := first | decide | omega) only [stI1, stI2, stp_eq, stp_row, stp_ne, stp_nj ]
end BEGR
