-- start: both sides alike
section STR
variable {w : Cd} {v : Hv} {m : Md} {C nP : Nat} {s : St} {t : SM}
theorem sta_go {n : Nat} (hn : n ≤ 4) (x1 x2 : Int32) : ∀ d i N t, i + d = n → d < N → t.1 0 19 = nI n →
    ∃ t', f_M_start_69 N x1 x2 (nI i) t = (lt1 (stI t' 0 23 (t'.1 0 19)) fun s1 => lt1 (stI s1 0 22 0) fun s2 => bd1 (f_M_enter x1 s2) fun s3 => lt1 (stI s3 0 19 0) fun s4 => lt1 (stI s4 0 20 1) fun s5 => lt1 (stI s5 0 21 0) fun s6 => some (0, s6)) ∧ t'.2 = t.2 ∧ (∀ a, a ≠ 35 → t'.1 a = t.1 a) ∧ (∀ q, q < i → t'.1 35 q = t.1 35 q) ∧ (∀ q, i ≤ q → q < n → t'.1 35 q = t.1 31 q) := by
  intro d
  induction d with
  | zero =>
    intro i N t hi hN h
    obtain ⟨N, rfl⟩ : ∃ q, N = q + 1 := ⟨N - 1, by omega⟩
    refine ⟨t, ?_, rfl, fun _ _ => rfl, fun _ _ => rfl, fun q q1 q2 => by omega⟩
    rw [f_M_start_69, if_pos (show t.1 0 19 ≤ nI i by rw [h]; exact nI_le (by omega) (by omega))]
  | succ d ih =>
    intro i N t hi hN h
    obtain ⟨N, rfl⟩ : ∃ q, N = q + 1 := ⟨N - 1, by omega⟩
    obtain ⟨t', g1, g0, g2, g3, g4⟩ := ih (i + 1) N (stI t 35 i (t.1 31 i)) (by omega) (by omega) (by simp (disch := first | decide | omega) only [stI1, stI2, stp_eq, stp_row, stp_ne, stp_nj ]; exact h)
    refine ⟨t', ?_, g0, fun q hq => by rw [g2 q hq, stI1, stp_ne _ _ _ hq], fun q hq => by rw [g3 q (by omega), stI1, stp_nj _ _ _ (by omega)], fun q q1 q2 => ?_⟩
    · rw [f_M_start_69, if_neg (show ¬ t.1 0 19 ≤ nI i by rw [h]; exact nI_ge (by omega) (by omega)), gi_n (show i < 4 by omega) (by decide), nI_clamp (by omega), lt1, gi_n (show i < 400 by omega) (by decide), lt1, nI_1, lt1, g1]
    · by_cases e : q = i
      · rw [e, g3 i (by omega), stI1, stp_eq]
      · rw [g4 q (by omega) q2, stI1, stp_ne _ _ _ (by decide)]
/-- the other side begins -/
theorem beg_m (S : Sta w v m C nP s t) {f n bg ls : Nat} (hf : f < m.nF) (hn : n = m.par f) (h19 : t.1 0 19 = nI n) (Fs : FnS w C f s t bg ls) (x2 : Int32) :
    ∃ t', f_M_start_67 (nI f) x2 t = some (0, t') ∧ t'.2 = t.2 ∧ (∀ a, a ≠ 0 → a ≠ 32 → a ≠ 33 → a ≠ 34 → a ≠ 35 → t'.1 a = t.1 a) ∧ (∀ j, j < 19 ∨ 23 < j → t'.1 0 j = t.1 0 j) ∧ t'.1 0 19 = 0 ∧ t'.1 0 20 = 1 ∧ t'.1 0 21 = 0 ∧ t'.1 0 22 = nI 1 ∧ t'.1 0 23 = nI (m.loc f) ∧ t'.1 32 1 = nI f ∧ t'.1 33 1 = nI bg ∧ t'.1 34 1 = nI 0 ∧ (∀ x, x < m.loc f → t'.1 35 x = if x < n then t.1 31 x else 0) := by
  have hp := S.E.p4 f hf
  have hN := FU_9
  obtain ⟨t1, a1, a2, a3, a4, a5⟩ := sta_go (n := n) (by omega) (nI f) x2 n 0 FU t (by omega) (by omega) h19
  have a1' : f_M_start_69 FU (nI f) x2 0 t = _ := a1
  have e19 : t1.1 0 19 = nI n := by rw [a3 0 (by decide)]; exact h19
  have E1 : Env m s (stI (stI t1 0 23 (nI n)) 0 22 0) := S.E.dp (fun _ _ => rfl) a2 (fun a q => by rw [stI1, stp_ne _ _ _ (by omega), stI1, stp_ne _ _ _ (by omega), a3 a (by omega)]) (fun j j1 j2 => by rw [stI1, stp_nj _ _ _ (by omega), stI1, stp_nj _ _ _ (by omega), a3 0 (by decide)])
  obtain ⟨t2, u1, u2, u3, u4, u5, u6, u7, u8, u9, u10, u11⟩ := enter_m (m := m) (s := s) (t := stI (stI t1 0 23 (nI n)) 0 22 0) E1 (f := f) (c := 0) (q := n) (bg := bg) hf (by simp (disch := first | decide | omega) only [stI1, stI2, stp_eq, stp_row, stp_ne, stp_nj ]; rfl) (by omega) (by simp (disch := first | decide | omega) only [stI1, stI2, stp_eq, stp_row, stp_ne, stp_nj ]; rw [a3 22 (by decide)]; exact Fs.m22) (by simp (disch := first | decide | omega) only [stI1, stI2, stp_eq, stp_row, stp_ne, stp_nj ]) (by omega) (by omega)
  rw [f_M_start_67, a1', e19, lt1, lt1, u1, bd1_some, lt1, lt1, lt1]
  refine ⟨_, rfl, u2.trans a2, fun a b0 b1 b2 b3 b4 => ?_, fun j hj => ?_, by simp (disch := first | decide | omega) only [stI1, stI2, stp_eq, stp_row, stp_ne, stp_nj ], by simp (disch := first | decide | omega) only [stI1, stI2, stp_eq, stp_row, stp_ne, stp_nj ], by simp (disch := first | decide | omega) only [stI1, stI2, stp_eq, stp_row, stp_ne, stp_nj ], by simp (disch := first | decide | omega) only [stI1, stI2, stp_eq, stp_row, stp_ne, stp_nj ]; exact u5, ?_, ?_, ?_, ?_, fun x hx => ?_⟩
  · simp (disch := first | decide | omega) only [stI1, stI2, stp_eq, stp_row, stp_ne, stp_nj ]; rw [u3 a b0 b1 b2 b3 b4]; simp (disch := first | decide | omega) only [stI1, stI2, stp_eq, stp_row, stp_ne, stp_nj ]; exact a3 a b4
  · simp only [stI1]; rw [stp_nj _ _ _ (by omega), stp_nj _ _ _ (by omega), stp_nj _ _ _ (by omega), u4 j (by omega) (by omega), stI1, stp_nj _ _ _ (by omega), stI1, stp_nj _ _ _ (by omega), a3 0 (by decide)]
  · simp (disch := first | decide | omega) only [stI1, stI2, stp_eq, stp_row, stp_ne, stp_nj ]; rw [u9]; exact congrArg nI (by omega)
  · simp (disch := first | decide | omega) only [stI1, stI2, stp_eq, stp_row, stp_ne, stp_nj ]; rw [u6, pk_us]
  · simp (disch := first | decide | omega) only [stI1, stI2, stp_eq, stp_row, stp_ne, stp_nj ]; rw [u7, pk_us]
  · simp (disch := first | decide | omega) only [stI1, stI2, stp_eq, stp_row, stp_ne, stp_nj ]; rw [u8, pk_us]; exact congrArg nI (by omega)
  · simp (disch := first | decide | omega) only [stI1, stI2, stp_eq, stp_row, stp_ne, stp_nj ]
    by_cases z : x < n
    · rw [if_pos z, u10 x z]; simp (disch := first | decide | omega) only [stI1, stI2, stp_eq, stp_row, stp_ne, stp_nj ]; exact a5 x (Nat.zero_le _) z
    · rw [if_neg z, u11 x (by omega) (by omega)]
theorem beg_S (S : Sta w v m C nP s t) {f n bg ls : Nat} (hf : f < m.nF) (hn : n = m.par f) (Fs : FnS w C f s t bg ls) :
    ∃ s', f_Eng_begin_S (nI f) (nI n) s = some s' ∧ RXf s s' ∧ (∀ a, a = 5 ∨ a = 34 ∨ a = 38 → s' a = s a) ∧ s' 6 0 = nI 1 ∧ s' 6 1 = nI 0 ∧ s' 6 2 = nI bg ∧ s' 6 3 = 0 ∧ s' 6 5 = 0 ∧ s' 6 6 = nI (m.loc f) ∧ s' 50 0 = nI f ∧ (∀ x, x < 28 → s' 36 x = if x < n then s 9 x else 0) := by
  have hp := S.E.p4 f hf
  have h8 := S.E.nF8
  obtain ⟨s1, g1, g2, g3, g4, g5, g6⟩ := op8_S (s := stp (stp (stp s 6 3 0) 6 4 0) 6 0 0) (p := n) (by simp (disch := first | decide | omega) only [stI1, stI2, stp_eq, stp_row, stp_ne, stp_nj ]) (by omega)
  have l13 : s1 13 = s 13 := by rw [g5 13 (by decide) (by decide)]; simp (disch := first | decide | omega) only [stI1, stI2, stp_eq, stp_row, stp_ne, stp_nj ]
  have en : f_SE_enter (nI f) s1 = some (stp (stp (stp (stp s1 50 0 (nI f)) 6 5 0) 6 6 (nI (0 + m.loc f))) 6 2 (nI bg)) := by
    rw [f_SE_enter, g2, nI_pred, lt1, rSet_n (by decide) (by decide), lt1, lt1, stp_ne _ _ _ (by decide), stp_ne _ _ _ (by decide), l13, tg_8_4_1 (by omega), S.E.lX _ hf, lt1, show stp (stp s1 50 0 (nI f)) 6 5 0 6 1 = nI 0 by simp (disch := first | decide | omega) only [stI1, stI2, stp_eq, stp_row, stp_ne, stp_nj ]; exact g3, nI_add, lt1, lt1, stp_ne _ _ _ (by decide), stp_ne _ _ _ (by decide), stp_ne _ _ _ (by decide), l13, tg_8_4_2 (by omega), Fs.x2, lt1, lt1]
  rw [f_Eng_begin_S, lt1, lt1, lt1, g1, bd1_some, en, bd1_some]
  refine ⟨_, rfl, fun a q => ?_, fun a q => ?_, by simp (disch := first | decide | omega) only [stI1, stI2, stp_eq, stp_row, stp_ne, stp_nj ]; exact g2, by simp (disch := first | decide | omega) only [stI1, stI2, stp_eq, stp_row, stp_ne, stp_nj ]; exact g3, by simp (disch := first | decide | omega) only [stI1, stI2, stp_eq, stp_row, stp_ne, stp_nj ], ?_, by simp (disch := first | decide | omega) only [stI1, stI2, stp_eq, stp_row, stp_ne, stp_nj ], by simp (disch := first | decide | omega) only [stI1, stI2, stp_eq, stp_row, stp_ne, stp_nj ]; rw [Nat.zero_add], by simp (disch := first | decide | omega) only [stI1, stI2, stp_eq, stp_row, stp_ne, stp_nj ], fun x hx => ?_⟩
  · rw [stp_ne _ _ _ (by omega), stp_ne _ _ _ (by omega), stp_ne _ _ _ (by omega), stp_ne _ _ _ (by omega), g5 a (by omega) (by omega), stp_ne _ _ _ (by omega), stp_ne _ _ _ (by omega), stp_ne _ _ _ (by omega)]
  · rw [stp_ne _ _ _ (by omega), stp_ne _ _ _ (by omega), stp_ne _ _ _ (by omega), stp_ne _ _ _ (by omega), g5 a (by omega) (by omega), stp_ne _ _ _ (by omega), stp_ne _ _ _ (by omega), stp_ne _ _ _ (by omega)]
  · simp (disch := first | decide | omega) only [stI1, stI2, stp_eq, stp_row, stp_ne, stp_nj ]; rw [g4 3 (by decide)]; simp (disch := first | decide | omega) only [stI1, stI2, stp_eq, stp_row, stp_ne, stp_nj ]
  · simp (disch := first | decide | omega) only [stI1, stI2, stp_eq, stp_row, stp_ne, stp_nj ]; rw [g6 x hx]; simp (disch := first | decide | omega) only [stI1, stI2, stp_eq, stp_row, stp_ne, stp_nj ]
theorem beg_R (S : Sta w v m C nP s t) {f n bg ls : Nat} (hf : f < m.nF) (hn : n = m.par f) (Fs : FnS w C f s t bg ls) (col : ∀ k, k < C → s 21 (k * 7 + 6) = nI (ent w v k)) :
    ∃ s', f_Eng_begin_R (nI f) (nI n) s = some s' ∧ RXf s s' ∧ (∀ a, a = 5 ∨ a = 34 ∨ a = 38 → s' a = s a) ∧ s' 7 0 = nI 1 ∧ s' 7 1 = nI 0 ∧ s' 7 2 = nI (ent w v bg) ∧ s' 7 3 = 0 ∧ (∀ x, x < 28 → s' 36 x = if x < n then s 9 x else 0) := by
  have hp := S.E.p4 f hf
  have h8 := S.E.nF8
  have hC := S.hC
  have hb := Fs.bl; have hl := Fs.lC
  obtain ⟨s1, g1, g2, g3, g4, g5, g6⟩ := op8_R (s := stp (stp (stp s 7 3 0) 7 4 0) 7 0 0) (p := n) (by simp (disch := first | decide | omega) only [stI1, stI2, stp_eq, stp_row, stp_ne, stp_nj ]) (by omega)
  have l13 : s1 13 = s 13 := by rw [g5 13 (by decide) (by decide)]; simp (disch := first | decide | omega) only [stI1, stI2, stp_eq, stp_row, stp_ne, stp_nj ]
  have l21 : s1 21 = s 21 := by rw [g5 21 (by decide) (by decide)]; simp (disch := first | decide | omega) only [stI1, stI2, stp_eq, stp_row, stp_ne, stp_nj ]
  rw [f_Eng_begin_R, lt1, lt1, lt1, g1, bd1_some, f_RE_enter, f_RC_firstEntry, l13, tg_8_4_2 (by omega), Fs.x2, lt1, l21, tg_240_7_6 (by omega), col bg (by omega), lt1, bd1_some, lt1, bd1_some]
  refine ⟨_, rfl, fun a q => ?_, fun a q => ?_, by simp (disch := first | decide | omega) only [stI1, stI2, stp_eq, stp_row, stp_ne, stp_nj ]; exact g2, by simp (disch := first | decide | omega) only [stI1, stI2, stp_eq, stp_row, stp_ne, stp_nj ]; exact g3, by simp (disch := first | decide | omega) only [stI1, stI2, stp_eq, stp_row, stp_ne, stp_nj ], ?_, fun x hx => ?_⟩
  · rw [stp_ne _ _ _ (by omega), g5 a (by omega) (by omega), stp_ne _ _ _ (by omega), stp_ne _ _ _ (by omega), stp_ne _ _ _ (by omega)]
  · rw [stp_ne _ _ _ (by omega), g5 a (by omega) (by omega), stp_ne _ _ _ (by omega), stp_ne _ _ _ (by omega), stp_ne _ _ _ (by omega)]
  · simp (disch := first | decide | omega) only [stI1, stI2, stp_eq, stp_row, stp_ne, stp_nj ]; rw [g4 3 (by decide)]; simp (disch := first | decide | omega) only [stI1, stI2, stp_eq, stp_row, stp_ne, stp_nj ]
  · simp (disch := first | decide | omega) only [stI1, stI2, stp_eq, stp_row, stp_ne, stp_nj ]; rw [g6 x hx]; simp (disch := first | decide | omega) only [stI1, stI2, stp_eq, stp_row, stp_ne, stp_nj ]
theorem IV.start (x y : Int32) (H : IV s t) : ∃ (r : Int32) (s1 : St) (t1 : SM), (f_X_start_6 x y s = some (r, s1) ∨ f_X_start_7 x y s = some (r, s1)) ∧ f_M_start x y t = some (r, t1) ∧ IV s1 t1 := by
  have Hc : IV s (stI t 0 0 0) := H.code
  rw [f_M_start, lt1]
  obtain ⟨T, hT⟩ : ∃ T, T = stI t 0 0 0 := ⟨_, rfl⟩
  rw [← hT] at Hc ⊢
  clear hT H
  obtain ⟨B, H2⟩ := Hc
  rcases H2 with N | ⟨w, v, m, C, nP, mx, Q⟩
  · refine ⟨1, s, T, Or.inl ?_, ?_, B, Or.inl N⟩
    · rw [f_X_start_6, if_pos N.x1, f_X_start_6_15]
    · rw [if_pos N.m2, f_M_start_19]
  have Hc : IV s T := ⟨B, Or.inr ⟨w, v, m, C, nP, mx, Q⟩⟩
  have n1 : ¬ s 0 1 = 0 := by rw [Q.x1]; decide
  rw [if_neg (show ¬ T.1 0 2 = 0 by rw [Q.m2]; decide)]
  have run : ¬ s 0 3 = -1 → ¬ T.1 0 20 = 0 → ∃ (r : Int32) (s1 : St) (t1 : SM), (f_X_start_6 x y s = some (r, s1) ∨ f_X_start_7 x y s = some (r, s1)) ∧ f_M_start_19 x y T = some (r, t1) ∧ IV s1 t1 := by
    intro h1 h2
    refine ⟨1, s, T, Or.inl ?_, by rw [f_M_start_19], Hc⟩
    rw [f_X_start_6, if_neg n1, if_neg h1, f_X_start_6_15]
  have S := Q.S
  have h8 := S.E.nF8
  rcases Q.ac with ⟨a1, a2, a3⟩ | ⟨a1, a2, c, F, K, L, k, a3⟩ | ⟨a1, a4, a2, c, F, K, L, k, a3⟩
  rotate_left
  · have z : ¬ T.1 0 20 = 0 := by rw [a3.cf.ru]; decide
    rw [if_neg z]
    exact run (by rw [a1]; decide +kernel) z
  · have z : ¬ T.1 0 20 = 0 := by rw [a3.cf.ru]; decide
    rw [if_neg z]
    exact run (by rw [a1]; decide +kernel) z
  rw [if_pos a2, f_X_start_6, f_X_start_7, if_neg n1, if_neg n1, if_pos a1, if_pos a1, S.E.x12, S.E.m7]
  obtain ⟨f, hf32, ef⟩ := wb_of32 x
  by_cases hf : f < m.nF
  rotate_left
  · -- there is no such function
    refine ⟨2, s, T, Or.inl ?_, ?_, Hc⟩
    · rw [ef, tHas_lt hf32 (by omega), if_neg hf, lt1, if_pos rfl]
    · rw [f_M_start_33]
      by_cases q : x < 0
      · rw [if_pos q]
      · have hb31 : f < 2 ^ 31 := by
          by_cases q2 : f < 2 ^ 31
          · exact q2
          · exfalso
            apply q
            rw [ef, Int32.lt_iff_toInt_lt]
            show (Int32.ofNat f).toInt < 0
            rw [Int32.toInt_ofNat']
            simp only [Int.bmod, Int32.size]
            omega
        rw [if_neg q, ef, if_neg (fun z => hf ((nI_ltI hb31 (by omega)).mp z))]
  obtain ⟨n, n4, h1, h2, h3⟩ := Q.ar
  have hp := S.E.p4 f hf
  rw [ef, tHas_lt hf32 (by omega), if_pos hf, lt1, lt1, if_neg (show ¬ (1 : Int32) = 0 by decide), if_neg (show ¬ (1 : Int32) = 0 by decide), S.E.pX f hf, bd1_some, bd1_some, h1, if_neg (nI_pos (show f < 2 ^ 31 by omega)), if_pos (nI_lt hf (by omega)), S.E.pM f hf, bd1_some, h2]
  by_cases hn : n = m.par f
  rotate_left
  · have z : ¬ nI n = nI (m.par f) := fun q => hn ((nI_eq (by omega) (by omega)).mp q)
    rw [if_neg z, if_neg z, if_neg z]
    exact ⟨3, s, T, Or.inl rfl, rfl, Hc⟩
  have z : nI n = nI (m.par f) := by rw [hn]
  rw [if_pos z, if_pos z, if_pos z]
  have no : ∃ (r : Int32) (s1 : St) (t1 : SM), (f_X_start_6_66 (nI f) y s = some (r, s1) ∨ f_X_start_7_66 (nI f) y s = some (r, s1)) ∧ f_M_start_65 (nI f) y T = some (r, t1) ∧ IV s1 t1 := ⟨4, s, T, Or.inl rfl, rfl, Hc⟩
  obtain ⟨bgf, lsf, G⟩ := S.ctg
  have Fs := G.fs f hf
  obtain ⟨lb1, lb2⟩ := G.lb S hf
  have hbC : bgf f < C := by have := Fs.bl; have := Fs.lC; omega
  have fbg : w.fn (bgf f) = f := Fs.fn _ (Nat.le_refl _) Fs.bl
  have hb := ht_a S hbC lb1
  rw [fbg, lb2] at hb
  have dbg : w.dp (bgf f) = 0 := S.W.i3 (bgf f) (by omega) Fs.ib
  obtain ⟨t', m1, m2, m3, m4, m5, m6, m7, m8, m9, m10, m11, m12, m13⟩ := beg_m S hf hn h2 Fs y
  -- what holds when the run has begun
  have fin : ∀ s2 s3 : St, (∀ a, a ≠ 0 → s2 a = s a) → s2 0 0 = nI n → s2 0 1 = s 0 1 → s2 0 2 = s 0 2 → s2 0 4 = 0 → RXf s2 s3 → (∀ a, a = 5 ∨ a = 34 ∨ a = 38 → s3 a = s2 a) → Act w v m C (stp s3 0 0 0) t' → IV (stp s3 0 0 0) t' := by
    intro s2 s3 e1 e2 e3 e4 e5 e6 e7 A
    have fr : ∀ a, a ≠ 0 → a ≤ 4 ∨ (8 ≤ a ∧ a ≤ 32) → stp s3 0 0 0 a = s a := fun a b1 b2 => by rw [stp_ne _ _ _ b1, e6 a b2, e1 a b1]
    have f0 : ∀ j, j ≠ 0 → stp s3 0 0 0 0 j = s2 0 j := fun j hj => by rw [stp_nj _ _ _ hj, e6 0 (by omega)]
    refine ⟨⟨by rw [fr 2 (by decide) (by decide), m4 1 (by decide)]; exact B.f, by rw [fr 26 (by decide) (by decide), m3 1 (by decide) (by decide) (by decide) (by decide) (by decide)]; exact B.b⟩, Or.inr ⟨w, v, m, C, nP, mx, ?_, ?_, ?_, Q.e24, ?_, ?_, ?_, A⟩⟩
    · rw [f0 1 (by decide), e3]; exact Q.x1
    · rw [m4 2 (by decide)]; exact Q.m2
    · exact S.dp (fun a q => fr a (by omega) (by omega)) m2 (fun a q => m3 a (by omega) (by omega) (by omega) (by omega) (by omega)) (fun j j1 j2 => m4 j (by omega))
    · obtain ⟨p, D⟩ := Q.D
      exact ⟨p, D.dp (fun a q => by rw [stp_ne _ _ _ (by omega), e7 a q, e1 a (by omega)]) m2 (fun a q => m3 a (by omega) (by omega) (by omega) (by omega) (by omega)) (fun j q => m4 j (by omega))⟩
    · exact ⟨0, by decide, by simp (disch := first | decide | omega) only [stI1, stI2, stp_eq, stp_row, stp_ne, stp_nj ]; rfl, m5, fun i hi => by omega⟩
    · rcases Q.cp with ⟨c1, c2, c3⟩ | ⟨c1, c2, ⟨bg2, ls2, G2, c3⟩, c4, c5, c6⟩
      · exact Or.inl ⟨by rw [f0 2 (by decide), e4]; exact c1, by rw [m4 24 (by decide)]; exact c2, by rw [m4 25 (by decide)]; exact c3⟩
      · have b22 := m3 22 (by decide) (by decide) (by decide) (by decide) (by decide)
        have b23 := m3 23 (by decide) (by decide) (by decide) (by decide) (by decide)
        refine Or.inr ⟨by rw [f0 2 (by decide), e4]; exact c1, by rw [m4 24 (by decide)]; exact c2, ⟨bg2, ls2, G2.dp (fr 13 (by decide) (by decide)) b22 b23, c3.dp (fun a q => fr a (by omega) (by omega)) b22 b23⟩, by rw [m4 25 (by decide)]; exact c4, by rw [fr 4 (by decide) (by decide)]; exact c5, ?_⟩
        rw [fr 30 (by decide) (by decide), m3 36 (by decide) (by decide) (by decide) (by decide) (by decide)]; exact c6
  have ha9 : ∀ s2 : St, (∀ a, a ≠ 0 → s2 a = s a) → ∀ x, x < m.loc f → (if x < n then s2 9 x else 0) = t'.1 35 x := by
    intro s2 e1 x hx
    rw [m13 x hx]
    by_cases q : x < n
    · rw [if_pos q, if_pos q, e1 9 (by decide)]; exact h3 x q
    · rw [if_neg q, if_neg q]
  by_cases y0 : y = 0
  · rw [if_pos y0, if_pos y0, if_pos y0]
    have s20 : ∀ a, a ≠ 0 → stp (stp s 0 3 y) 0 4 0 a = s a := fun a ha => by simp (disch := first | decide | omega) only [stI1, stI2, stp_eq, stp_row, stp_ne, stp_nj ]
    have S2 : Sta w v m C nP (stp (stp s 0 3 y) 0 4 0) T := S.dp (fun a q => s20 a (by omega)) rfl (fun _ _ => rfl) (fun _ _ _ => rfl)
    have Fs2 : FnS w C f (stp (stp s 0 3 y) 0 4 0) T (bgf f) (lsf f) := Fs.dp (s20 13 (by decide)) rfl rfl
    obtain ⟨s3, g1, g2, g3, g4, g5, g6, g7, g8, g9, g10, g11⟩ := beg_S S2 hf hn Fs2
    have ex : f_X_start_6_68 (nI f) y s = some (0, stp s3 0 0 0) := by
      rw [f_X_start_6_68, lt1, lt1, ae6, if_neg (show ¬ stp (stp s 0 3 y) 0 4 0 0 3 = 1 by simp (disch := first | decide | omega) only [stI1, stI2, stp_eq, stp_row, stp_ne, stp_nj ]; rw [y0]; decide), show stp (stp s 0 3 y) 0 4 0 0 0 = nI n by simp (disch := first | decide | omega) only [stI1, stI2, stp_eq, stp_row, stp_ne, stp_nj ]; exact h1, g1, bd1_some, lt1]
    refine ⟨0, _, t', Or.inl ex, m1, fin (stp (stp s 0 3 y) 0 4 0) s3 s20 (by simp (disch := first | decide | omega) only [stI1, stI2, stp_eq, stp_row, stp_ne, stp_nj ]; exact h1) (by simp (disch := first | decide | omega) only [stI1, stI2, stp_eq, stp_row, stp_ne, stp_nj ]) (by simp (disch := first | decide | omega) only [stI1, stI2, stp_eq, stp_row, stp_ne, stp_nj ]) (by simp (disch := first | decide | omega) only [stI1, stI2, stp_eq, stp_row, stp_ne, stp_nj ]) g2 g3 (Or.inr (Or.inl ⟨?_, ?_, 1, fun _ => f, fun _ => 0, fun _ => 0, bgf f, ?_⟩))⟩
    · rw [stp_nj _ _ _ (by decide), g2 0 (by decide)]; simp (disch := first | decide | omega) only [stI1, stI2, stp_eq, stp_row, stp_ne, stp_nj ]; exact y0
    · rw [stp_nj _ _ _ (by decide), g2 0 (by decide)]; simp (disch := first | decide | omega) only [stI1, stI2, stp_eq, stp_row, stp_ne, stp_nj ]
    · refine ⟨⟨m8, Nat.le_refl _, by decide, m6, m7, fun i i1 i2 => ?_, fun i i1 i2 => by omega, rfl, by simp (disch := first | decide | omega) only [stI1, stI2, stp_eq, stp_row, stp_ne, stp_nj ]; exact g4, by simp (disch := first | decide | omega) only [stI1, stI2, stp_eq, stp_row, stp_ne, stp_nj ]; exact g5, by simp (disch := first | decide | omega) only [stI1, stI2, stp_eq, stp_row, stp_ne, stp_nj ]; exact g7, fun i i1 i2 => by omega⟩, ⟨m11, hbC, fbg, by simp (disch := first | decide | omega) only [stI1, stI2, stp_eq, stp_row, stp_ne, stp_nj ]; exact g6, Or.inl lb1⟩, ⟨?_, fun x hx => ?_⟩, fun i i1 i2 => ?_, fun i i1 i2 => by omega, fun i i1 i2 => by omega, by simp (disch := first | decide | omega) only [stI1, stI2, stp_eq, stp_row, stp_ne, stp_nj ]; rw [g8, dbg]; rfl, ?_, fun j B h => by omega⟩
      · have : i = 1 := by omega
        subst this
        exact ⟨m10, m12, hf⟩
      · rw [m9, hb]; exact congrArg nI (show m.loc f = 0 + (m.loc f + 0) by omega)
      · rw [hb] at hx
        have hx' : x < m.loc f := hx
        rw [stp_ne _ _ _ (by decide), show 28 * (1 - 1) + x = x by omega, g11 x (by omega)]
        exact ha9 _ s20 x hx'
      · have : i = 1 := by omega
        subst this
        simp (disch := first | decide | omega) only [stI1, stI2, stp_eq, stp_row, stp_ne, stp_nj ]; exact g10
      · simp (disch := first | decide | omega) only [stI1, stI2, stp_eq, stp_row, stp_ne, stp_nj ]; rw [g9, hb]; exact congrArg nI (show m.loc f = 28 * (1 - 1) + (m.loc f + 0) by omega)
  · rw [if_neg y0, if_neg y0, if_neg y0]
    by_cases y1 : y = 1
    · rw [if_pos y1, if_pos y1, if_pos y1]
      rcases Q.cp with ⟨c1, c2, c3⟩ | ⟨c1, c2, ⟨bg2, ls2, G2, c3⟩, c4, c5, c6⟩
      · rw [if_pos c1, if_pos c1, if_pos c2]; exact no
      · rw [if_neg (show ¬ s 0 2 = 0 by rw [c1]; decide), if_neg (show ¬ s 0 2 = 0 by rw [c1]; decide), if_neg (show ¬ T.1 0 24 = 0 by rw [c2]; decide)]
        have s20 : ∀ a, a ≠ 0 → stp (stp s 0 3 y) 0 4 0 a = s a := fun a ha => by simp (disch := first | decide | omega) only [stI1, stI2, stp_eq, stp_row, stp_ne, stp_nj ]
        have S2 : Sta w v m C nP (stp (stp s 0 3 y) 0 4 0) T := S.dp (fun a q => s20 a (by omega)) rfl (fun _ _ => rfl) (fun _ _ _ => rfl)
        have Fs2 : FnS w C f (stp (stp s 0 3 y) 0 4 0) T (bgf f) (lsf f) := Fs.dp (s20 13 (by decide)) rfl rfl
        obtain ⟨s3, g1, g2, g3, g4, g5, g6, g7, g11⟩ := beg_R S2 hf hn Fs2 (by rw [s20 21 (by decide)]; exact c3.col)
        have ex : f_X_start_7_68 (nI f) y s = some (0, stp s3 0 0 0) := by
          rw [f_X_start_7_68, lt1, lt1, ae7, if_pos (show stp (stp s 0 3 y) 0 4 0 0 3 = 1 by simp (disch := first | decide | omega) only [stI1, stI2, stp_eq, stp_row, stp_ne, stp_nj ]; exact y1), show stp (stp s 0 3 y) 0 4 0 0 0 = nI n by simp (disch := first | decide | omega) only [stI1, stI2, stp_eq, stp_row, stp_ne, stp_nj ]; exact h1, g1, bd1_some, lt1]
        refine ⟨0, _, t', Or.inr ex, m1, fin (stp (stp s 0 3 y) 0 4 0) s3 s20 (by simp (disch := first | decide | omega) only [stI1, stI2, stp_eq, stp_row, stp_ne, stp_nj ]; exact h1) (by simp (disch := first | decide | omega) only [stI1, stI2, stp_eq, stp_row, stp_ne, stp_nj ]) (by simp (disch := first | decide | omega) only [stI1, stI2, stp_eq, stp_row, stp_ne, stp_nj ]) (by simp (disch := first | decide | omega) only [stI1, stI2, stp_eq, stp_row, stp_ne, stp_nj ]) g2 g3 (Or.inr (Or.inr ⟨?_, ?_, ?_, 1, fun _ => f, fun _ => 0, fun _ => 0, bgf f, ?_⟩))⟩
        · rw [stp_nj _ _ _ (by decide), g2 0 (by decide)]; simp (disch := first | decide | omega) only [stI1, stI2, stp_eq, stp_row, stp_ne, stp_nj ]; exact y1
        · rw [stp_nj _ _ _ (by decide), g2 0 (by decide)]; simp (disch := first | decide | omega) only [stI1, stI2, stp_eq, stp_row, stp_ne, stp_nj ]; exact c1
        · rw [stp_nj _ _ _ (by decide), g2 0 (by decide)]; simp (disch := first | decide | omega) only [stI1, stI2, stp_eq, stp_row, stp_ne, stp_nj ]
        · refine ⟨⟨m8, Nat.le_refl _, by decide, m6, m7, fun i i1 i2 => ?_, fun i i1 i2 => by omega, rfl, by simp (disch := first | decide | omega) only [stI1, stI2, stp_eq, stp_row, stp_ne, stp_nj ]; exact g4, by simp (disch := first | decide | omega) only [stI1, stI2, stp_eq, stp_row, stp_ne, stp_nj ]; exact g5, by simp (disch := first | decide | omega) only [stI1, stI2, stp_eq, stp_row, stp_ne, stp_nj ]; exact g7, fun i i1 i2 => by omega⟩, ⟨m11, hbC, fbg, by simp (disch := first | decide | omega) only [stI1, stI2, stp_eq, stp_row, stp_ne, stp_nj ]; exact g6, Or.inl lb1⟩, Or.inl ⟨?_, fun x hx => ?_⟩⟩
          · have : i = 1 := by omega
            subst this
            exact ⟨m10, m12, hf⟩
          · rw [m9, hb]; exact congrArg nI (show m.loc f = 0 + (m.loc f + 0) by omega)
          · rw [hb] at hx
            have hx' : x < m.loc f := hx
            rw [stp_ne _ _ _ (by decide), show 28 * (1 - 1) + x = x by omega, g11 x (by omega)]
            exact ha9 _ s20 x hx'
    · rw [if_neg y1, if_neg y1, if_neg y1]; exact no
end STR
