-- run: both sides alike
section RUN
variable {w : Cd} {v : Hv} {m : Md} {C nP mx : Nat} {s : St} {t : SM}
/-- after a run: everything but the run itself stands as it stood -/
theorem IV.after (B : Bs s t) (Q : LD w v m C nP mx s t) {s' s2 : St} {t' : SM} (hx : RXf s s') (hm : RMf t t') (D : ∃ p, DR m.nG m.me mx s' t' p) (e : ∀ a, a ≠ 0 → s2 a = s' a) (e0 : ∀ j, j < 3 → s2 0 j = s' 0 j) (A : Act w v m C s2 t') : IV s2 t' := by
  have fr : ∀ a, a ≠ 0 → a ≤ 4 ∨ (8 ≤ a ∧ a ≤ 32) → s2 a = s a := fun a b1 b2 => (e a b1).trans (hx a b2)
  have f0 : ∀ j, j < 3 → s2 0 j = s 0 j := fun j hj => by rw [e0 j hj, hx 0 (by omega)]
  refine ⟨⟨by rw [fr 2 (by decide) (by decide), hm.z 1 (by decide)]; exact B.f, by rw [fr 26 (by decide) (by decide), hm.a 1 (by decide)]; exact B.b⟩, Or.inr ⟨w, v, m, C, nP, mx, ?_, ?_, ?_, Q.e24, ?_, ?_, ?_, A⟩⟩
  · rw [f0 1 (by decide)]; exact Q.x1
  · rw [hm.z 2 (by decide)]; exact Q.m2
  · exact Q.S.dp (fun a q => fr a (by omega) (by omega)) hm.l (fun a q => hm.a a (by omega)) (fun j j1 j2 => hm.z j (by omega))
  · obtain ⟨p, D⟩ := D
    exact ⟨p, D.dp (fun a q => e a (by omega)) rfl (fun _ _ => rfl) (fun _ _ => rfl)⟩
  · obtain ⟨n, h1, h2, h3, h4⟩ := Q.ar
    exact ⟨n, h1, by rw [f0 0 (by decide)]; exact h2, by rw [hm.z 19 (by decide)]; exact h3, by rw [fr 9 (by decide) (by decide), hm.a 31 (by decide)]; exact h4⟩
  · rcases Q.cp with ⟨c1, c2, c3⟩ | ⟨c1, c2, ⟨bg2, ls2, G2, c3⟩, c4, c5, c6⟩
    · exact Or.inl ⟨by rw [f0 2 (by decide)]; exact c1, by rw [hm.z 24 (by decide)]; exact c2, by rw [hm.z 25 (by decide)]; exact c3⟩
    · have b22 := hm.a 22 (by decide)
      have b23 := hm.a 23 (by decide)
      refine Or.inr ⟨by rw [f0 2 (by decide)]; exact c1, by rw [hm.z 24 (by decide)]; exact c2, ⟨bg2, ls2, G2.dp (fr 13 (by decide) (by decide)) b22 b23, c3.dp (fun a q => fr a (by omega) (by omega)) b22 b23⟩, by rw [hm.z 25 (by decide)]; exact c4, by rw [fr 4 (by decide) (by decide)]; exact c5, ?_⟩
      rw [fr 30 (by decide) (by decide), hm.a 36 (by decide)]; exact c6
theorem IV.run (x : Int32) (H : IV s t) : ∃ (r : Int32) (s1 : St) (t1 : SM), (f_X_run_6 x s = some (r, s1) ∨ f_X_run_7 x s = some (r, s1)) ∧ f_M_run x t = some (r, t1) ∧ IV s1 t1 := by
  have Hc : IV s (stI t 0 0 0) := H.code
  rw [f_M_run, lt1]
  obtain ⟨T, hT⟩ : ∃ T, T = stI t 0 0 0 := ⟨_, rfl⟩
  rw [← hT] at Hc ⊢
  clear hT H
  have idle : s 0 3 = -1 → T.1 0 20 = 0 → ∃ (r : Int32) (s1 : St) (t1 : SM), (f_X_run_6 x s = some (r, s1) ∨ f_X_run_7 x s = some (r, s1)) ∧ (if T.1 0 20 = 0 then f_M_run_16 x T else if 0 ≤ x then bd1 (f_M_settle T) fun s2 => if x ≤ 100000 then f_M_run_36 x x s2 else f_M_run_36 x 100000 s2 else f_M_run_16 x T) = some (r, t1) ∧ IV s1 t1 := by
    intro h1 h2
    refine ⟨-1, s, T, Or.inl ?_, by rw [if_pos h2, f_M_run_16], Hc⟩
    rw [f_X_run_6, f_X_run_6_12, if_pos h1, ite_self]
  obtain ⟨B, H2⟩ := Hc
  rcases H2 with N | ⟨w, v, m, C, nP, mx, Q⟩
  · exact idle N.x3 N.m20
  have Hc : IV s T := ⟨B, Or.inr ⟨w, v, m, C, nP, mx, Q⟩⟩
  have S := Q.S
  -- a run that goes on
  have go : (¬ s 0 3 = -1) → (¬ T.1 0 20 = 0) → (x < 0 → ∃ (r : Int32) (s1 : St) (t1 : SM), (f_X_run_6 x s = some (r, s1) ∨ f_X_run_7 x s = some (r, s1)) ∧ (if T.1 0 20 = 0 then f_M_run_16 x T else if 0 ≤ x then bd1 (f_M_settle T) fun s2 => if x ≤ 100000 then f_M_run_36 x x s2 else f_M_run_36 x 100000 s2 else f_M_run_16 x T) = some (r, t1) ∧ IV s1 t1) := by
    intro h1 h2 h3
    refine ⟨-1, s, T, Or.inl ?_, ?_, Hc⟩
    · rw [f_X_run_6, f_X_run_6_12, if_pos h3]
    · rw [if_neg h2, if_neg (Int32.not_le.mpr h3), f_M_run_16]
  have hd : ¬ x < 0 → ∃ d, d < 2 ^ 31 ∧ x = nI d := by
    intro h
    obtain ⟨b, hb, e⟩ := wb_of32 x
    refine ⟨b, ?_, e⟩
    by_cases q : b < 2 ^ 31
    · exact q
    · exfalso
      apply h
      rw [e, Int32.lt_iff_toInt_lt]
      show (Int32.ofNat b).toInt < 0
      rw [Int32.toInt_ofNat']
      simp only [Int.bmod, Int32.size]
      omega
  have hN := FU_9
  -- how far both go
  have hmin : ∀ d, d < 2 ^ 31 → x = nI d → ∃ e, e ≤ 100000 ∧ (if 100000 < x then 100000 else x) = nI e ∧ ∀ T2, (if x ≤ 100000 then f_M_run_36 x x T2 else f_M_run_36 x 100000 T2) = f_M_run_39 FU x (nI e) (nI 0) T2 := by
    intro d hd e
    by_cases q : d ≤ 100000
    · have q1 : x ≤ 100000 := by rw [e]; exact nI_le (b := 100000) q (by decide)
      refine ⟨d, q, by rw [if_neg (Int32.not_lt.mpr q1), e], fun T2 => ?_⟩
      rw [if_pos q1, f_M_run_36, e]; rfl
    · have q1 : ¬ x ≤ 100000 := by rw [e]; exact nI_ge (a := 100000) (by omega) hd
      refine ⟨100000, Nat.le_refl _, by rw [if_pos (Int32.not_le.mp q1)]; rfl, fun T2 => ?_⟩
      rw [if_neg q1, f_M_run_36]; rfl
  rcases Q.ac with ⟨a1, a2, a3⟩ | ⟨a1, a2, c, F, K, L, k, a3⟩ | ⟨a1, a4, a2, c, F, K, L, k, a3⟩
  · exact idle a1 a2
  · have n3 : ¬ s 0 3 = -1 := by rw [a1]; decide +kernel
    have n20 : ¬ T.1 0 20 = 0 := by rw [a3.cf.ru]; decide
    by_cases hx0 : x < 0
    · exact go n3 n20 hx0
    · obtain ⟨d, hd1, hd2⟩ := hd hx0
      obtain ⟨e, e1, e2, e3⟩ := hmin d hd1 hd2
      obtain ⟨s1, t1, p1, p2, p3, p4⟩ := pas_S S (Or.inl ⟨c, F, K, L, k, a3⟩) (N' := FU) (by omega)
      have p2' : f_M_settle T = some t1 := by rw [f_M_settle]; exact p2
      have S1 := S.rg p3.x p3.m
      obtain ⟨p, D⟩ := Q.D
      obtain ⟨r, s2, t2, g1, g2, g3⟩ := goS (mx := mx) e 0 FU FU x x s1 t1 e (by omega) e1 (by omega) (by omega) S1 ⟨p, D.kp p3⟩ p4
      obtain ⟨i1, i2, i3, i4, i5⟩ := g3.mono p3.x p3.m
      have ex : f_Eng_go_S x s = some (r, s2) := by rw [f_Eng_go_S, p1, bd1_some, lt1, e2, g1]
      rw [if_neg n20, if_pos (Int32.not_lt.mp hx0), p2', bd1_some, e3, g2]
      have e6 : f_X_run_6 x s = if r = 0 then f_X_run_6_51 x r s2 else if r = 1 then f_X_run_6_48 x r (stp s2 0 3 (-1) 6 4) (stp s2 0 3 (-1)) else f_X_run_6_48 x r 0 (stp s2 0 3 (-1)) := by
        rw [f_X_run_6, if_neg hx0, if_neg n3, ae6, if_neg (show ¬ s 0 3 = 1 by rw [a1]; decide), ex, bd_some]
        rfl
      rcases i5 with ⟨r0, j1, c', F', K', L', k', j2⟩ | ⟨r0, j1, j2⟩
      · refine ⟨r, s2, t2, Or.inl (by rw [e6, if_pos r0, f_X_run_6_51]), rfl, IV.after B Q i1 i2 i3 (fun _ _ => rfl) (fun _ _ => rfl) (Or.inr (Or.inl ⟨?_, ?_, c', F', K', L', k', j2⟩))⟩
        · rw [i1 0 (by decide)]; exact a1
        · rw [i1 0 (by decide)]; exact a2
      · refine ⟨r, stp (stp s2 0 3 (-1)) 0 4 (if r = 1 then s2 6 4 else 0), t2, Or.inl ?_, rfl, IV.after B Q i1 i2 i3 (fun a ha => by simp (disch := first | decide | omega) only [stI1, stI2, stp_eq, stp_row, stp_ne, stp_nj ]) (fun j hj => by simp (disch := first | decide | omega) only [stI1, stI2, stp_eq, stp_row, stp_ne, stp_nj ]) (Or.inl ⟨by simp (disch := first | decide | omega) only [stI1, stI2, stp_eq, stp_row, stp_ne, stp_nj ], j1, ?_⟩)⟩
        · rw [e6, if_neg r0, f_X_run_6_48, f_X_run_6_48, lt1, lt1, f_X_run_6_51]
          by_cases r1 : r = 1
          · rw [if_pos r1, if_pos r1, stp_ne _ _ _ (by decide)]
          · rw [if_neg r1, if_neg r1]; rfl
        · simp (disch := first | decide | omega) only [stI1, stI2, stp_eq, stp_row, stp_ne, stp_nj ]; exact j2.symm
  · have n3 : ¬ s 0 3 = -1 := by rw [a1]; decide +kernel
    have n20 : ¬ T.1 0 20 = 0 := by rw [a3.cf.ru]; decide
    obtain ⟨bgf, lsf, G, R⟩ : ∃ bgf lsf, Ctg w m C bgf lsf s T ∧ RCr w v m C bgf lsf s T := by
      rcases Q.cp with ⟨c1, _⟩ | ⟨_, _, c3, _⟩
      · rw [a4] at c1; exact absurd c1 (by decide)
      · exact c3
    by_cases hx0 : x < 0
    · exact go n3 n20 hx0
    · obtain ⟨d, hd1, hd2⟩ := hd hx0
      obtain ⟨e, e1, e2, e3⟩ := hmin d hd1 hd2
      obtain ⟨s1, t1, p1, p2, p3, p4⟩ := pas_R S R (Or.inl ⟨c, F, K, L, k, a3⟩) (N' := FU) (by omega)
      have p2' : f_M_settle T = some t1 := by rw [f_M_settle]; exact p2
      have S1 := S.rg p3.x p3.m
      have R1 := R.rg p3.x p3.m
      obtain ⟨p, D⟩ := Q.D
      obtain ⟨r, s2, t2, g1, g2, g3⟩ := goR (mx := mx) e 0 FU FU x x s1 t1 e (by omega) e1 (by omega) (by omega) S1 R1 ⟨p, D.kp p3⟩ p4
      obtain ⟨i1, i2, i3, i4, i5⟩ := g3.mono p3.x p3.m
      have ex : f_Eng_go_R x s = some (r, s2) := by rw [f_Eng_go_R, p1, bd1_some, lt1, e2, g1]
      rw [if_neg n20, if_pos (Int32.not_lt.mp hx0), p2', bd1_some, e3, g2]
      have e6 : f_X_run_7 x s = if r = 0 then f_X_run_7_51 x r s2 else if r = 1 then f_X_run_7_48 x r (stp s2 0 3 (-1) 7 4) (stp s2 0 3 (-1)) else f_X_run_7_48 x r 0 (stp s2 0 3 (-1)) := by
        rw [f_X_run_7, if_neg hx0, if_neg n3, ae7, if_pos a1, ex, bd_some]
        rfl
      rcases i5 with ⟨r0, j1, c', F', K', L', k', j2⟩ | ⟨r0, j1, j2⟩
      · refine ⟨r, s2, t2, Or.inr (by rw [e6, if_pos r0, f_X_run_7_51]), rfl, IV.after B Q i1 i2 i3 (fun _ _ => rfl) (fun _ _ => rfl) (Or.inr (Or.inr ⟨?_, ?_, ?_, c', F', K', L', k', j2⟩))⟩
        · rw [i1 0 (by decide)]; exact a1
        · rw [i1 0 (by decide)]; exact a4
        · rw [i1 0 (by decide)]; exact a2
      · refine ⟨r, stp (stp s2 0 3 (-1)) 0 4 (if r = 1 then s2 7 4 else 0), t2, Or.inr ?_, rfl, IV.after B Q i1 i2 i3 (fun a ha => by simp (disch := first | decide | omega) only [stI1, stI2, stp_eq, stp_row, stp_ne, stp_nj ]) (fun j hj => by simp (disch := first | decide | omega) only [stI1, stI2, stp_eq, stp_row, stp_ne, stp_nj ]) (Or.inl ⟨by simp (disch := first | decide | omega) only [stI1, stI2, stp_eq, stp_row, stp_ne, stp_nj ], j1, ?_⟩)⟩
        · rw [e6, if_neg r0, f_X_run_7_48, f_X_run_7_48, lt1, lt1, f_X_run_7_51]
          by_cases r1 : r = 1
          · rw [if_pos r1, if_pos r1, stp_ne _ _ _ (by decide)]
          · rw [if_neg r1, if_neg r1]; rfl
        · simp (disch := first | decide | omega) only [stI1, stI2, stp_eq, stp_row, stp_ne, stp_nj ]; exact j2.symm
end RUN
