-- running: calls open and end, engine S
section ENGS
variable {s : St}
theorem clo1_S {T rs : Nat} (h0 : s 6 0 = nI 1) (hr : rs ≤ 1) (hT : T ≤ 224) (hT1 : rs ≠ 0 → 1 ≤ T) {x : Int32} (hx : x = if rs = 0 then 0 else s 36 (T - 1)) : f_Eng_close_S (nI T) (nI rs) s = some (0, stp (stp (stp s 6 4 x) 6 0 (nI 0)) 6 3 1) := by
  have e22 : f_Eng_close_S_22 (nI T) (nI rs) x s = some (0, stp (stp (stp s 6 4 x) 6 0 (nI 0)) 6 3 1) := by
    rw [f_Eng_close_S_22, lt1, show stp s 6 4 x 6 0 = nI 1 by simp (disch := first | decide | omega) only [stI1, stI2, stp_eq, stp_row, stp_ne, stp_nj ]; exact h0, nsub1 (by decide), lt1, lt1, show stp (stp s 6 4 x) 6 0 (nI (1 - 1)) 6 0 = nI 0 by simp (disch := first | decide | omega) only [stI1, stI2, stp_eq, stp_row, stp_ne, stp_nj ], if_neg (by decide), lt1]
  rw [f_Eng_close_S]
  by_cases q : rs = 0
  · rw [if_pos q] at hx
    rw [if_pos (show nI rs ≤ 0 by rw [q]; decide)]
    subst hx; exact e22
  · rw [if_neg q] at hx
    rw [if_neg (show ¬ nI rs ≤ 0 from nI_ge (a := 0) (by omega) (by omega)), nsub1 (hT1 q), lt1, rGet_n (by have := hT1 q; omega) (by decide), lt1, ← hx, e22]
theorem clo2_S {T rs c tp : Nat} (h0 : s 6 0 = nI (c + 1)) (hc : 0 < c) (hc8 : c < 8) (hr : rs ≤ 1) (hT : T ≤ 224) (hT1 : rs ≠ 0 → 1 ≤ T) (htp : s 42 c = nI tp) (htl : tp < 224) {x : Int32} (hx : x = if rs = 0 then 0 else s 36 (T - 1)) :
    ∃ s', f_Eng_close_S (nI T) (nI rs) s = some (nI (tp + rs), s') ∧ s' 6 0 = nI c ∧ s' 6 1 = nI (28 * (c - 1)) ∧ s' 6 2 = s 40 c ∧ s' 6 3 = s 6 3 ∧ s' 36 = (if rs = 0 then s 36 else upd (s 36) tp x) ∧ ∀ a, a ≠ 6 → a ≠ 36 → s' a = s a := by
  have e22 : f_Eng_close_S_22 (nI T) (nI rs) x s = some (nI (tp + rs), if rs = 0 then stp (stp (stp (stp s 6 4 x) 6 0 (nI c)) 6 1 (nI ((c - 1) * 28))) 6 2 (s 40 c) else stp (stp (stp (stp (stp s 6 4 x) 6 0 (nI c)) 6 1 (nI ((c - 1) * 28))) 6 2 (s 40 c)) 36 tp x) := by
    rw [f_Eng_close_S_22, lt1, show stp s 6 4 x 6 0 = nI (c + 1) by simp (disch := first | decide | omega) only [stI1, stI2, stp_eq, stp_row, stp_ne, stp_nj ]; exact h0, nI_pred, lt1, lt1, show stp (stp s 6 4 x) 6 0 (nI c) 6 0 = nI c by simp (disch := first | decide | omega) only [stI1, stI2, stp_eq, stp_row, stp_ne, stp_nj ], if_pos (show 0 < nI c from nI_lt (a := 0) hc (by omega)), nsub1 hc, lt1, show nI (c - 1) * 28 = nI ((c - 1) * 28) from pk_mul _ 28, lt1, lt1,
      show stp (stp (stp s 6 4 x) 6 0 (nI c)) 6 1 (nI ((c - 1) * 28)) 6 0 = nI c by simp (disch := first | decide | omega) only [stI1, stI2, stp_eq, stp_row, stp_ne, stp_nj ], rGet_n hc8 (by decide), show stp (stp (stp s 6 4 x) 6 0 (nI c)) 6 1 (nI ((c - 1) * 28)) 40 c = s 40 c by simp (disch := first | decide | omega) only [stI1, stI2, stp_eq, stp_row, stp_ne, stp_nj ], lt1, lt1,
      show stp (stp (stp (stp s 6 4 x) 6 0 (nI c)) 6 1 (nI ((c - 1) * 28))) 6 2 (s 40 c) 6 0 = nI c by simp (disch := first | decide | omega) only [stI1, stI2, stp_eq, stp_row, stp_ne, stp_nj ], rGet_n hc8 (by decide), show stp (stp (stp (stp s 6 4 x) 6 0 (nI c)) 6 1 (nI ((c - 1) * 28))) 6 2 (s 40 c) 42 c = nI tp by simp (disch := first | decide | omega) only [stI1, stI2, stp_eq, stp_row, stp_ne, stp_nj ]; exact htp, lt1]
    by_cases q : rs = 0
    · rw [if_pos q, if_pos (show nI rs ≤ 0 by rw [q]; decide), f_Eng_close_S_108, lt1, nI_add]
    · rw [if_neg q, if_neg (show ¬ nI rs ≤ 0 from nI_ge (a := 0) (by omega) (by omega)), rSet_n htl (by decide), lt1, f_Eng_close_S_108, lt1, nI_add, show stp (stp (stp (stp s 6 4 x) 6 0 (nI c)) 6 1 (nI ((c - 1) * 28))) 6 2 (s 40 c) 6 4 = x by simp (disch := first | decide | omega) only [stI1, stI2, stp_eq, stp_row, stp_ne, stp_nj ]]
  have e0 : f_Eng_close_S (nI T) (nI rs) s = f_Eng_close_S_22 (nI T) (nI rs) x s := by
    rw [f_Eng_close_S]
    by_cases q : rs = 0
    · rw [if_pos q] at hx
      rw [if_pos (show nI rs ≤ 0 by rw [q]; decide), hx]
    · rw [if_neg q] at hx
      rw [if_neg (show ¬ nI rs ≤ 0 from nI_ge (a := 0) (by omega) (by omega)), nsub1 (hT1 q), lt1, rGet_n (by have := hT1 q; omega) (by decide), lt1, ← hx]
  rw [e0, e22]
  have ec : (c - 1) * 28 = 28 * (c - 1) := Nat.mul_comm _ _
  by_cases q : rs = 0
  · rw [if_pos q, if_pos q]
    exact ⟨_, rfl, by simp (disch := first | decide | omega) only [stI1, stI2, stp_eq, stp_row, stp_ne, stp_nj ], by simp (disch := first | decide | omega) only [stI1, stI2, stp_eq, stp_row, stp_ne, stp_nj ]; rw [ec], by simp (disch := first | decide | omega) only [stI1, stI2, stp_eq, stp_row, stp_ne, stp_nj ], by simp (disch := first | decide | omega) only [stI1, stI2, stp_eq, stp_row, stp_ne, stp_nj ], by simp (disch := first | decide | omega) only [stI1, stI2, stp_eq, stp_row, stp_ne, stp_nj ], fun a a1 a2 => by simp (disch := first | decide | omega) only [stI1, stI2, stp_eq, stp_row, stp_ne, stp_nj ]⟩
  · rw [if_neg q, if_neg q]
    exact ⟨_, rfl, by simp (disch := first | decide | omega) only [stI1, stI2, stp_eq, stp_row, stp_ne, stp_nj ], by simp (disch := first | decide | omega) only [stI1, stI2, stp_eq, stp_row, stp_ne, stp_nj ]; rw [ec], by simp (disch := first | decide | omega) only [stI1, stI2, stp_eq, stp_row, stp_ne, stp_nj ], by simp (disch := first | decide | omega) only [stI1, stI2, stp_eq, stp_row, stp_ne, stp_nj ], by simp (disch := first | decide | omega) only [stI1, stI2, stp_eq, stp_row, stp_ne, stp_nj ], fun a a1 a2 => by simp (disch := first | decide | omega) only [stI1, stI2, stp_eq, stp_row, stp_ne, stp_nj ]⟩
theorem opn_go_S {b p q : Nat} (hb : b + 28 ≤ 224) (hq : q + p ≤ b) (hp : p ≤ 12) : ∀ d i N s, i + d = 28 → d < N → s 6 1 = nI b →
    ∃ s', f_Eng_open_S_35_24 N (nI q) (nI p) (nI i) s = some s' ∧ (∀ a, a ≠ 36 → s' a = s a) ∧ (∀ j, j < b + i ∨ b + 28 ≤ j → s' 36 j = s 36 j) ∧ (∀ x, i ≤ x → x < 28 → s' 36 (b + x) = if x < p then s 36 (q + x) else 0) := by
  intro d
  induction d with
  | zero =>
    intro i N s hi hN h1
    obtain ⟨N, rfl⟩ : ∃ q, N = q + 1 := ⟨N - 1, by omega⟩
    rw [f_Eng_open_S_35_24, if_pos (show 28 ≤ nI i from nI_le (a := 28) (by omega) (by omega))]
    exact ⟨s, rfl, fun _ _ => rfl, fun _ _ => rfl, fun x h1 h2 => by omega⟩
  | succ d ih =>
    intro i N s hi hN h1
    obtain ⟨N, rfl⟩ : ∃ q, N = q + 1 := ⟨N - 1, by omega⟩
    have key : f_Eng_open_S_35_24 (N + 1) (nI q) (nI p) (nI i) s = f_Eng_open_S_35_24 N (nI q) (nI p) (nI (i + 1)) (stp s 36 (b + i) (if i < p then s 36 (q + i) else 0)) := by
      rw [f_Eng_open_S_35_24, if_neg (show ¬ 28 ≤ nI i from nI_ge (b := 28) (by omega) (by decide)), h1, nI_add, lt1]
      by_cases z : i < p
      · rw [if_neg (show ¬ nI p ≤ nI i from nI_ge z (by omega)), nI_add, lt1, rGet_n (by omega) (by decide), lt1, f_Eng_open_S_35_63, rSet_n (by omega) (by decide), lt1, nI_1, lt1, if_pos z]
      · rw [if_pos (show nI p ≤ nI i from nI_le (by omega) (by omega)), f_Eng_open_S_35_63, rSet_n (by omega) (by decide), lt1, nI_1, lt1, if_neg z]
    obtain ⟨s', g1, g2, g3, g4⟩ := ih (i + 1) N (stp s 36 (b + i) (if i < p then s 36 (q + i) else 0)) (by omega) (by omega) (by simp (disch := first | decide | omega) only [stI1, stI2, stp_eq, stp_row, stp_ne, stp_nj ]; exact h1)
    rw [key]
    refine ⟨s', g1, fun a ha => by rw [g2 a ha]; simp (disch := first | decide | omega) only [stI1, stI2, stp_eq, stp_row, stp_ne, stp_nj ], fun j hj => by rw [g3 j (by omega)]; simp (disch := first | decide | omega) only [stI1, stI2, stp_eq, stp_row, stp_ne, stp_nj ], fun x h1 h2 => ?_⟩
    by_cases e : x = i
    · rw [e, g3 (b + i) (by omega)]; simp (disch := first | decide | omega) only [stI1, stI2, stp_eq, stp_row, stp_ne, stp_nj ]
    · rw [g4 x (by omega) h2]
      by_cases z : x < p
      · rw [if_pos z, if_pos z]; simp (disch := first | decide | omega) only [stI1, stI2, stp_eq, stp_row, stp_ne, stp_nj ]
      · rw [if_neg z, if_neg z]
theorem opn_S {c p q : Nat} (h0 : s 6 0 = nI c) (hc : c < 8) (hq : q + p ≤ 28 * c) (hp : p ≤ 12) :
    ∃ s', f_Eng_open_S_35 (nI q) (nI p) s = some s' ∧ s' 6 0 = nI (c + 1) ∧ s' 6 1 = nI (28 * c) ∧ (∀ j, 2 ≤ j → s' 6 j = s 6 j) ∧ (∀ a, a ≠ 6 → a ≠ 36 → s' a = s a) ∧ (∀ j, j < 28 * c → s' 36 j = s 36 j) ∧ (∀ x, x < 28 → s' 36 (28 * c + x) = if x < p then s 36 (q + x) else 0) := by
  have hN := FU_9
  rw [f_Eng_open_S_35, h0, show nI c * 28 = nI (c * 28) from pk_mul c 28, lt1, lt1, show stp s 6 1 (nI (c * 28)) 6 0 = nI c by simp (disch := first | decide | omega) only [stI1, stI2, stp_eq, stp_row, stp_ne, stp_nj ]; exact h0, nI_1, lt1, lt1, Nat.mul_comm c 28]
  obtain ⟨s', g1, g2, g3, g4⟩ := opn_go_S (b := 28 * c) (p := p) (q := q) (by omega) hq hp 28 0 FU (stp (stp s 6 1 (nI (28 * c))) 6 0 (nI (c + 1))) (by omega) (by omega) (by simp (disch := first | decide | omega) only [stI1, stI2, stp_eq, stp_row, stp_ne, stp_nj ])
  refine ⟨s', g1, by rw [g2 6 (by decide)]; simp (disch := first | decide | omega) only [stI1, stI2, stp_eq, stp_row, stp_ne, stp_nj ], by rw [g2 6 (by decide)]; simp (disch := first | decide | omega) only [stI1, stI2, stp_eq, stp_row, stp_ne, stp_nj ], fun j hj => by rw [g2 6 (by decide)]; simp (disch := first | decide | omega) only [stI1, stI2, stp_eq, stp_row, stp_ne, stp_nj ], fun a a1 a2 => by rw [g2 a a2]; simp (disch := first | decide | omega) only [stI1, stI2, stp_eq, stp_row, stp_ne, stp_nj ], fun j hj => by rw [g3 j (by omega)]; simp (disch := first | decide | omega) only [stI1, stI2, stp_eq, stp_row, stp_ne, stp_nj ], fun x hx => ?_⟩
  rw [g4 x (by omega) hx]
  by_cases z : x < p
  · rw [if_pos z, if_pos z]; simp (disch := first | decide | omega) only [stI1, stI2, stp_eq, stp_row, stp_ne, stp_nj ]
  · rw [if_neg z, if_neg z]
theorem opf_S {c p T nx : Nat} (h0 : s 6 0 = nI c) (hc1 : 1 ≤ c) (hc : c < 8) (h2 : s 6 2 = nI nx) (hT : T ≤ 28 * c) (hpT : p ≤ T) (hp : p ≤ 12) :
    ∃ s', f_Eng_openFrom_S (nI T) (nI p) s = some (1, s') ∧ s' 6 0 = nI (c + 1) ∧ s' 6 1 = nI (28 * c) ∧ (∀ j, 2 ≤ j → s' 6 j = s 6 j) ∧ s' 40 = upd (s 40) c (nI (nx + 1)) ∧ s' 42 = upd (s 42) c (nI (T - p)) ∧ (∀ a, a ≠ 6 → a ≠ 36 → a ≠ 40 → a ≠ 42 → s' a = s a) ∧ (∀ j, j < 28 * c → s' 36 j = s 36 j) ∧ (∀ x, x < 28 → s' 36 (28 * c + x) = if x < p then s 36 (T - p + x) else 0) := by
  rw [f_Eng_openFrom_S, h0, if_pos (show nI c < 8 from nI_lt (b := 8) hc (by decide)), h2, nI_1, lt1, rSet_n hc (by decide), lt1, pk_sub hpT, lt1, show stp s 40 c (nI (nx + 1)) 6 0 = nI c by simp (disch := first | decide | omega) only [stI1, stI2, stp_eq, stp_row, stp_ne, stp_nj ]; exact h0, rSet_n hc (by decide), lt1, lt1]
  obtain ⟨s', g1, g2, g3, g4, g5, g6, g7⟩ := opn_S (s := stp (stp s 40 c (nI (nx + 1))) 42 c (nI (T - p))) (c := c) (p := p) (q := T - p) (by simp (disch := first | decide | omega) only [stI1, stI2, stp_eq, stp_row, stp_ne, stp_nj ]; exact h0) hc (by omega) hp
  rw [g1, bd1_some, bz1]
  refine ⟨s', rfl, g2, g3, fun j hj => by rw [g4 j hj]; simp (disch := first | decide | omega) only [stI1, stI2, stp_eq, stp_row, stp_ne, stp_nj ], by rw [g5 40 (by decide) (by decide)]; simp (disch := first | decide | omega) only [stI1, stI2, stp_eq, stp_row, stp_ne, stp_nj ], by rw [g5 42 (by decide) (by decide)]; simp (disch := first | decide | omega) only [stI1, stI2, stp_eq, stp_row, stp_ne, stp_nj ], fun a a1 a2 a3 a4 => by rw [g5 a a1 a2]; simp (disch := first | decide | omega) only [stI1, stI2, stp_eq, stp_row, stp_ne, stp_nj ], fun j hj => by rw [g6 j hj]; simp (disch := first | decide | omega) only [stI1, stI2, stp_eq, stp_row, stp_ne, stp_nj ], fun x hx => ?_⟩
  rw [g7 x hx]
  by_cases z : x < p
  · rw [if_pos z, if_pos z]; simp (disch := first | decide | omega) only [stI1, stI2, stp_eq, stp_row, stp_ne, stp_nj ]
  · rw [if_neg z, if_neg z]
end ENGS
-- running: calls open and end, engine R
section ENGR
variable {s : St}
theorem clo1_R {T rs : Nat} (h0 : s 7 0 = nI 1) (hr : rs ≤ 1) (hT : T ≤ 224) (hT1 : rs ≠ 0 → 1 ≤ T) {x : Int32} (hx : x = if rs = 0 then 0 else s 36 (T - 1)) : f_Eng_close_R (nI T) (nI rs) s = some (0, stp (stp (stp s 7 4 x) 7 0 (nI 0)) 7 3 1) := by
  have e22 : f_Eng_close_R_22 (nI T) (nI rs) x s = some (0, stp (stp (stp s 7 4 x) 7 0 (nI 0)) 7 3 1) := by
    rw [f_Eng_close_R_22, lt1, show stp s 7 4 x 7 0 = nI 1 by simp (disch := first | decide | omega) only [stI1, stI2, stp_eq, stp_row, stp_ne, stp_nj ]; exact h0, nsub1 (by decide), lt1, lt1, show stp (stp s 7 4 x) 7 0 (nI (1 - 1)) 7 0 = nI 0 by simp (disch := first | decide | omega) only [stI1, stI2, stp_eq, stp_row, stp_ne, stp_nj ], if_neg (by decide), lt1]
  rw [f_Eng_close_R]
  by_cases q : rs = 0
  · rw [if_pos q] at hx
    rw [if_pos (show nI rs ≤ 0 by rw [q]; decide)]
    subst hx; exact e22
  · rw [if_neg q] at hx
    rw [if_neg (show ¬ nI rs ≤ 0 from nI_ge (a := 0) (by omega) (by omega)), nsub1 (hT1 q), lt1, rGet_n (by have := hT1 q; omega) (by decide), lt1, ← hx, e22]
theorem clo2_R {T rs c tp : Nat} (h0 : s 7 0 = nI (c + 1)) (hc : 0 < c) (hc8 : c < 8) (hr : rs ≤ 1) (hT : T ≤ 224) (hT1 : rs ≠ 0 → 1 ≤ T) (htp : s 46 c = nI tp) (htl : tp < 224) {x : Int32} (hx : x = if rs = 0 then 0 else s 36 (T - 1)) :
    ∃ s', f_Eng_close_R (nI T) (nI rs) s = some (nI (tp + rs), s') ∧ s' 7 0 = nI c ∧ s' 7 1 = nI (28 * (c - 1)) ∧ s' 7 2 = s 44 c ∧ s' 7 3 = s 7 3 ∧ s' 36 = (if rs = 0 then s 36 else upd (s 36) tp x) ∧ ∀ a, a ≠ 7 → a ≠ 36 → s' a = s a := by
  have e22 : f_Eng_close_R_22 (nI T) (nI rs) x s = some (nI (tp + rs), if rs = 0 then stp (stp (stp (stp s 7 4 x) 7 0 (nI c)) 7 1 (nI ((c - 1) * 28))) 7 2 (s 44 c) else stp (stp (stp (stp (stp s 7 4 x) 7 0 (nI c)) 7 1 (nI ((c - 1) * 28))) 7 2 (s 44 c)) 36 tp x) := by
    rw [f_Eng_close_R_22, lt1, show stp s 7 4 x 7 0 = nI (c + 1) by simp (disch := first | decide | omega) only [stI1, stI2, stp_eq, stp_row, stp_ne, stp_nj ]; exact h0, nI_pred, lt1, lt1, show stp (stp s 7 4 x) 7 0 (nI c) 7 0 = nI c by simp (disch := first | decide | omega) only [stI1, stI2, stp_eq, stp_row, stp_ne, stp_nj ], if_pos (show 0 < nI c from nI_lt (a := 0) hc (by omega)), nsub1 hc, lt1, show nI (c - 1) * 28 = nI ((c - 1) * 28) from pk_mul _ 28, lt1, lt1,
      show stp (stp (stp s 7 4 x) 7 0 (nI c)) 7 1 (nI ((c - 1) * 28)) 7 0 = nI c by simp (disch := first | decide | omega) only [stI1, stI2, stp_eq, stp_row, stp_ne, stp_nj ], rGet_n hc8 (by decide), show stp (stp (stp s 7 4 x) 7 0 (nI c)) 7 1 (nI ((c - 1) * 28)) 44 c = s 44 c by simp (disch := first | decide | omega) only [stI1, stI2, stp_eq, stp_row, stp_ne, stp_nj ], lt1, lt1,
      show stp (stp (stp (stp s 7 4 x) 7 0 (nI c)) 7 1 (nI ((c - 1) * 28))) 7 2 (s 44 c) 7 0 = nI c by simp (disch := first | decide | omega) only [stI1, stI2, stp_eq, stp_row, stp_ne, stp_nj ], rGet_n hc8 (by decide), show stp (stp (stp (stp s 7 4 x) 7 0 (nI c)) 7 1 (nI ((c - 1) * 28))) 7 2 (s 44 c) 46 c = nI tp by simp (disch := first | decide | omega) only [stI1, stI2, stp_eq, stp_row, stp_ne, stp_nj ]; exact htp, lt1]
    by_cases q : rs = 0
    · rw [if_pos q, if_pos (show nI rs ≤ 0 by rw [q]; decide), f_Eng_close_R_108, lt1, nI_add]
    · rw [if_neg q, if_neg (show ¬ nI rs ≤ 0 from nI_ge (a := 0) (by omega) (by omega)), rSet_n htl (by decide), lt1, f_Eng_close_R_108, lt1, nI_add, show stp (stp (stp (stp s 7 4 x) 7 0 (nI c)) 7 1 (nI ((c - 1) * 28))) 7 2 (s 44 c) 7 4 = x by simp (disch := first | decide | omega) only [stI1, stI2, stp_eq, stp_row, stp_ne, stp_nj ]]
  have e0 : f_Eng_close_R (nI T) (nI rs) s = f_Eng_close_R_22 (nI T) (nI rs) x s := by
    rw [f_Eng_close_R]
    by_cases q : rs = 0
    · rw [if_pos q] at hx
      rw [if_pos (show nI rs ≤ 0 by rw [q]; decide), hx]
    · rw [if_neg q] at hx
      rw [if_neg (show ¬ nI rs ≤ 0 from nI_ge (a := 0) (by omega) (by omega)), nsub1 (hT1 q), lt1, rGet_n (by have := hT1 q; omega) (by decide), lt1, ← hx]
  rw [e0, e22]
  have ec : (c - 1) * 28 = 28 * (c - 1) := Nat.mul_comm _ _
  by_cases q : rs = 0
  · rw [if_pos q, if_pos q]
    exact ⟨_, rfl, by simp (disch := first | decide | omega) only [stI1, stI2, stp_eq, stp_row, stp_ne, stp_nj ], by simp (disch := first | decide | omega) only [stI1, stI2, stp_eq, stp_row, stp_ne, stp_nj ]; rw [ec], by simp (disch := first | decide | omega) only [stI1, stI2, stp_eq, stp_row, stp_ne, stp_nj ], by simp (disch := first | decide | omega) only [stI1, stI2, stp_eq, stp_row, stp_ne, stp_nj ], by simp (disch := first | decide | omega) only [stI1, stI2, stp_eq, stp_row, stp_ne, stp_nj ], fun a a1 a2 => by simp (disch := first | decide | omega) only [stI1, stI2, stp_eq, stp_row, stp_ne, stp_nj ]⟩
  · rw [if_neg q, if_neg q]
    exact ⟨_, rfl, by simp (disch := first | decide | omega) only [stI1, stI2, stp_eq, stp_row, stp_ne, stp_nj ], by simp (disch := first | decide | omega) only [stI1, stI2, stp_eq, stp_row, stp_ne, stp_nj ]; rw [ec], by simp (disch := first | decide | omega) only [stI1, stI2, stp_eq, stp_row, stp_ne, stp_nj ], by simp (disch := first | decide | omega) only [stI1, stI2, stp_eq, stp_row, stp_ne, stp_nj ], by simp (disch := first | decide | omega) only [stI1, stI2, stp_eq, stp_row, stp_ne, stp_nj ], fun a a1 a2 => by simp (disch := first | decide | omega) only [stI1, stI2, stp_eq, stp_row, stp_ne, stp_nj ]⟩
theorem opn_go_R {b p q : Nat} (hb : b + 28 ≤ 224) (hq : q + p ≤ b) (hp : p ≤ 12) : ∀ d i N s, i + d = 28 → d < N → s 7 1 = nI b →
    ∃ s', f_Eng_open_R_35_24 N (nI q) (nI p) (nI i) s = some s' ∧ (∀ a, a ≠ 36 → s' a = s a) ∧ (∀ j, j < b + i ∨ b + 28 ≤ j → s' 36 j = s 36 j) ∧ (∀ x, i ≤ x → x < 28 → s' 36 (b + x) = if x < p then s 36 (q + x) else 0) := by
  intro d
  induction d with
  | zero =>
    intro i N s hi hN h1
    obtain ⟨N, rfl⟩ : ∃ q, N = q + 1 := ⟨N - 1, by omega⟩
    rw [f_Eng_open_R_35_24, if_pos (show 28 ≤ nI i from nI_le (a := 28) (by omega) (by omega))]
    exact ⟨s, rfl, fun _ _ => rfl, fun _ _ => rfl, fun x h1 h2 => by omega⟩
  | succ d ih =>
    intro i N s hi hN h1
    obtain ⟨N, rfl⟩ : ∃ q, N = q + 1 := ⟨N - 1, by omega⟩
    have key : f_Eng_open_R_35_24 (N + 1) (nI q) (nI p) (nI i) s = f_Eng_open_R_35_24 N (nI q) (nI p) (nI (i + 1)) (stp s 36 (b + i) (if i < p then s 36 (q + i) else 0)) := by
      rw [f_Eng_open_R_35_24, if_neg (show ¬ 28 ≤ nI i from nI_ge (b := 28) (by omega) (by decide)), h1, nI_add, lt1]
      by_cases z : i < p
      · rw [if_neg (show ¬ nI p ≤ nI i from nI_ge z (by omega)), nI_add, lt1, rGet_n (by omega) (by decide), lt1, f_Eng_open_R_35_63, rSet_n (by omega) (by decide), lt1, nI_1, lt1, if_pos z]
      · rw [if_pos (show nI p ≤ nI i from nI_le (by omega) (by omega)), f_Eng_open_R_35_63, rSet_n (by omega) (by decide), lt1, nI_1, lt1, if_neg z]
    obtain ⟨s', g1, g2, g3, g4⟩ := ih (i + 1) N (stp s 36 (b + i) (if i < p then s 36 (q + i) else 0)) (by omega) (by omega) (by simp (disch := first | decide | omega) only [stI1, stI2, stp_eq, stp_row, stp_ne, stp_nj ]; exact h1)
    rw [key]
    refine ⟨s', g1, fun a ha => by rw [g2 a ha]; simp (disch := first | decide | omega) only [stI1, stI2, stp_eq, stp_row, stp_ne, stp_nj ], fun j hj => by rw [g3 j (by omega)]; simp (disch := first | decide | omega) only [stI1, stI2, stp_eq, stp_row, stp_ne, stp_nj ], fun x h1 h2 => ?_⟩
    by_cases e : x = i
    · rw [e, g3 (b + i) (by omega)]; simp (disch := first | decide | omega) only [stI1, stI2, stp_eq, stp_row, stp_ne, stp_nj ]
    · rw [g4 x (by omega) h2]
      by_cases z : x < p
      · rw [if_pos z, if_pos z]; simp (disch := first | decide | omega) only [stI1, stI2, stp_eq, stp_row, stp_ne, stp_nj ]
      · rw [if_neg z, if_neg z]
theorem opn_R {c p q : Nat} (h0 : s 7 0 = nI c) (hc : c < 8) (hq : q + p ≤ 28 * c) (hp : p ≤ 12) :
    ∃ s', f_Eng_open_R_35 (nI q) (nI p) s = some s' ∧ s' 7 0 = nI (c + 1) ∧ s' 7 1 = nI (28 * c) ∧ (∀ j, 2 ≤ j → s' 7 j = s 7 j) ∧ (∀ a, a ≠ 7 → a ≠ 36 → s' a = s a) ∧ (∀ j, j < 28 * c → s' 36 j = s 36 j) ∧ (∀ x, x < 28 → s' 36 (28 * c + x) = if x < p then s 36 (q + x) else 0) := by
  have hN := FU_9
  rw [f_Eng_open_R_35, h0, show nI c * 28 = nI (c * 28) from pk_mul c 28, lt1, lt1, show stp s 7 1 (nI (c * 28)) 7 0 = nI c by simp (disch := first | decide | omega) only [stI1, stI2, stp_eq, stp_row, stp_ne, stp_nj ]; exact h0, nI_1, lt1, lt1, Nat.mul_comm c 28]
  obtain ⟨s', g1, g2, g3, g4⟩ := opn_go_R (b := 28 * c) (p := p) (q := q) (by omega) hq hp 28 0 FU (stp (stp s 7 1 (nI (28 * c))) 7 0 (nI (c + 1))) (by omega) (by omega) (by simp (disch := first | decide | omega) only [stI1, stI2, stp_eq, stp_row, stp_ne, stp_nj ])
  refine ⟨s', g1, by rw [g2 7 (by decide)]; simp (disch := first | decide | omega) only [stI1, stI2, stp_eq, stp_row, stp_ne, stp_nj ], by rw [g2 7 (by decide)]; simp (disch := first | decide | omega) only [stI1, stI2, stp_eq, stp_row, stp_ne, stp_nj ], fun j hj => by rw [g2 7 (by decide)]; simp (disch := first | decide | omega) only [stI1, stI2, stp_eq, stp_row, stp_ne, stp_nj ], fun a a1 a2 => by rw [g2 a a2]; simp (disch := first | decide | omega) only [stI1, stI2, stp_eq, stp_row, stp_ne, stp_nj ], fun j hj => by rw [g3 j (by omega)]; simp (disch := first | decide | omega) only [stI1, stI2, stp_eq, stp_row, stp_ne, stp_nj ], fun x hx => ?_⟩
  rw [g4 x (by omega) hx]
  by_cases z : x < p
  · rw [if_pos z, if_pos z]; simp (disch := first | decide | omega) only [stI1, stI2, stp_eq, stp_row, stp_ne, stp_nj ]
  · rw [if_neg z, if_neg z]
theorem opf_R {c p T nx : Nat} (h0 : s 7 0 = nI c) (hc1 : 1 ≤ c) (hc : c < 8) (h2 : s 7 2 = nI nx) (hT : T ≤ 28 * c) (hpT : p ≤ T) (hp : p ≤ 12) :
    ∃ s', f_Eng_openFrom_R (nI T) (nI p) s = some (1, s') ∧ s' 7 0 = nI (c + 1) ∧ s' 7 1 = nI (28 * c) ∧ (∀ j, 2 ≤ j → s' 7 j = s 7 j) ∧ s' 44 = upd (s 44) c (nI (nx + 1)) ∧ s' 46 = upd (s 46) c (nI (T - p)) ∧ (∀ a, a ≠ 7 → a ≠ 36 → a ≠ 44 → a ≠ 46 → s' a = s a) ∧ (∀ j, j < 28 * c → s' 36 j = s 36 j) ∧ (∀ x, x < 28 → s' 36 (28 * c + x) = if x < p then s 36 (T - p + x) else 0) := by
  rw [f_Eng_openFrom_R, h0, if_pos (show nI c < 8 from nI_lt (b := 8) hc (by decide)), h2, nI_1, lt1, rSet_n hc (by decide), lt1, pk_sub hpT, lt1, show stp s 44 c (nI (nx + 1)) 7 0 = nI c by simp (disch := first | decide | omega) only [stI1, stI2, stp_eq, stp_row, stp_ne, stp_nj ]; exact h0, rSet_n hc (by decide), lt1, lt1]
  obtain ⟨s', g1, g2, g3, g4, g5, g6, g7⟩ := opn_R (s := stp (stp s 44 c (nI (nx + 1))) 46 c (nI (T - p))) (c := c) (p := p) (q := T - p) (by simp (disch := first | decide | omega) only [stI1, stI2, stp_eq, stp_row, stp_ne, stp_nj ]; exact h0) hc (by omega) hp
  rw [g1, bd1_some, bz1]
  refine ⟨s', rfl, g2, g3, fun j hj => by rw [g4 j hj]; simp (disch := first | decide | omega) only [stI1, stI2, stp_eq, stp_row, stp_ne, stp_nj ], by rw [g5 44 (by decide) (by decide)]; simp (disch := first | decide | omega) only [stI1, stI2, stp_eq, stp_row, stp_ne, stp_nj ], by rw [g5 46 (by decide) (by decide)]; simp (disch := first | decide | omega) only [stI1, stI2, stp_eq, stp_row, stp_ne, stp_nj ], fun a a1 a2 a3 a4 => by rw [g5 a a1 a2]; simp (disch := first | decide | omega) only [stI1, stI2, stp_eq, stp_row, stp_ne, stp_nj ], fun j hj => by rw [g6 j hj]; simp (disch := first | decide | omega) only [stI1, stI2, stp_eq, stp_row, stp_ne, stp_nj ], fun x hx => ?_⟩
  rw [g7 x hx]
  by_cases z : x < p
  · rw [if_pos z, if_pos z]; simp (disch := first | decide | omega) only [stI1, stI2, stp_eq, stp_row, stp_ne, stp_nj ]
  · rw [if_neg z, if_neg z]
end ENGR
