-- running: instructions over operands
theorem trap2 {o : Nat} (ho : (69 < o ∧ o < 80) ∨ (105 < o ∧ o < 121)) (x y : Int32) (t : SM) : ∃ r, f_Op_trapOf (nI o) x y = some r ∧ (r = 0 ∨ r = 3 ∨ r = 4) ∧ (r = 0 → 108 < o ∧ o < 113 → ¬ y = 0) ∧
    (if nI o ≤ 108 then f_M_both_28 (nI o) y x t else if 113 ≤ nI o then f_M_both_28 (nI o) y x t else if y = 0 then some (3, t) else f_M_both_28 (nI o) y x t) = if r = 0 then f_M_both_48 (nI o) y x t else some (r, t) := by
  rw [f_Op_trapOf, f_M_both_28]
  simp only [f_Op_trapOf_12, f_Op_trapOf_41, f_Op_trapOf_42]
  by_cases h1 : 108 < o ∧ o < 113
  · rw [if_neg (show ¬ nI o < 109 from nI_nlt (b := 109) (by omega) (by omega)), if_pos (show nI o ≤ 112 from nI_le (b := 112) (by omega) (by decide)), if_neg (show ¬ nI o ≤ 108 from nI_ge (a := 108) (by omega) (by omega)), if_neg (show ¬ 113 ≤ nI o from nI_ge (b := 113) (by omega) (by decide))]
    by_cases hy : y = 0
    · rw [if_pos hy, if_pos hy]
      exact ⟨3, rfl, Or.inr (Or.inl rfl), fun q => absurd q (by decide), by rw [if_neg (by decide)]⟩
    · rw [if_neg hy, if_neg hy]
      by_cases h9 : o = 109
      · rw [if_pos (show nI o = 109 by rw [h9]; rfl), if_pos (show nI o = 109 by rw [h9]; rfl)]
        by_cases hx : x = -2147483648
        · rw [if_pos hx, if_pos hx]
          by_cases hm : y = -1
          · rw [if_pos hm, if_pos hm]
            exact ⟨4, rfl, Or.inr (Or.inr rfl), fun q => absurd q (by decide), by rw [if_neg (by decide)]⟩
          · rw [if_neg hm, if_neg hm]
            exact ⟨0, rfl, Or.inl rfl, fun _ _ => hy, by rw [if_pos rfl]⟩
        · rw [if_neg hx, if_neg hx]
          exact ⟨0, rfl, Or.inl rfl, fun _ _ => hy, by rw [if_pos rfl]⟩
      · have n9 : ¬ nI o = 109 := fun q => h9 ((nI_eq (b := 109) (by omega) (by decide)).mp q)
        rw [if_neg n9, if_neg n9]
        exact ⟨0, rfl, Or.inl rfl, fun _ _ => hy, by rw [if_pos rfl]⟩
  · have n9 : ¬ nI o = 109 := fun q => absurd ((nI_eq (b := 109) (by omega) (by decide)).mp q) (by omega)
    refine ⟨0, ?_, Or.inl rfl, fun _ q => absurd q h1, ?_⟩
    · by_cases q : o < 109
      · rw [if_pos (show nI o < 109 from nI_lt (b := 109) q (by decide))]
      · rw [if_neg (show ¬ nI o < 109 from nI_nlt (b := 109) (by omega) (by omega)), if_neg (show ¬ nI o ≤ 112 from nI_ge (a := 112) (by omega) (by omega))]
    · rw [if_neg n9, if_pos rfl]
      by_cases q : o ≤ 108
      · rw [if_pos (show nI o ≤ 108 from nI_le (b := 108) q (by decide))]
      · rw [if_neg (show ¬ nI o ≤ 108 from nI_ge (a := 108) (by omega) (by omega)), if_pos (show 113 ≤ nI o from nI_le (a := 113) (by omega) (by omega))]
theorem num_o (o : Nat) (ho : o < 256) (hk : kno o = true) (h : 65 < o) : ((o = 69 ∨ o = 103 ∨ o = 104 ∨ o = 105) ∧ tks o = 1 ∨ ((69 < o ∧ o < 80) ∨ (105 < o ∧ o < 121)) ∧ tks o = 2) ∧ gvs o = 1 := by
  unfold kno at hk
  simp only [Bool.or_eq_true, decide_eq_true_eq] at hk
  unfold tks gvs
  have h2 : o = 69 ∨ (102 < o ∧ o < 106) ∨ (69 < o ∧ o < 80) ∨ (105 < o ∧ o < 121) := by omega
  rcases h2 with q | q | q | q
  · subst q; simp
  · refine ⟨Or.inl ⟨by omega, ?_⟩, ?_⟩
    · rw [if_neg (by omega), if_pos (by omega)]
    · rw [if_neg (by omega)]
  · refine ⟨Or.inr ⟨by omega, ?_⟩, ?_⟩
    · rw [if_neg (by omega), if_neg (by omega), if_pos (by omega)]
    · rw [if_neg (by omega)]
  · refine ⟨Or.inr ⟨by omega, ?_⟩, ?_⟩
    · rw [if_neg (by omega), if_neg (by omega), if_pos (by omega)]
    · rw [if_neg (by omega)]
section NUM
variable {w : Cd} {k b la h c nG me mx p : Nat} {s : St} {t : SM}
theorem wk_num (H : WC w k b la h c s t) (D : DR nG me mx s t p) (h65 : 65 < w.op k) : Wk w k b la h c nG me mx s t := by
  have hb := H.b24; have hl := H.l28; have hh := H.h28; have htk := H.tk; have hk := H.k24
  have ho := kno_lt H.kn
  obtain ⟨n1, n2⟩ := na_x _ ho H.kn (by omega)
  obtain ⟨q1, q2, q3, q4⟩ := tk_x _ ho H.kn (by omega)
  obtain ⟨hn, g2⟩ := num_o _ ho H.kn h65
  have m81 : ∀ y t', f_M_perform_81 (nI k) (nI (w.op k)) (nI la) y t' = if nI (tks (w.op k)) = 1 then bd (f_M_pull t') fun r6 s5 => bd1 (f_M_single (nI (w.op k)) r6) fun r7 => bd1 (f_M_give r7 s5) fun s8 => some (0, s8) else bd (f_M_both (nI (w.op k)) t') fun r4 s3 => some (r4, s3) := by
    intro y t'
    rw [f_M_perform_81]
    simp only [lt1, f_M_perform_308, q2, bd1_some]
    simp (disch := omega) only [nI_leI, nI_ltI, nI_eq, if_pos, if_neg, if_true, if_false , lit_26, lit_27, lit_32, lit_33, lit_34, lit_35, lit_36, lit_63, lit_64, lit_65]
  rw [Wk, pf_37 H (by omega) (by omega), m81, f_Store_work, n1, bd1_some, if_pos h65, if_neg (show ¬ (1 : Int32) = 0 by decide), f_Store_compute, q1]
  simp only [lt1, bd1_some]
  rcases hn with ⟨ho1, g1⟩ | ⟨ho2, g1⟩
  · rw [g1] at htk
    obtain ⟨g, rfl⟩ : ∃ g, h = g + 1 := ⟨h - 1, by omega⟩
    have p1 : f_M_pull (stI t 33 c (nI (k + 1))) = _ := pull_n (q := la + g) (by rw [stI1, stp_ne _ _ _ (by decide), H.win.sp]; rfl) (by omega)
    have p4 : ∀ x, f_M_give x (stI (stI t 33 c (nI (k + 1))) 0 23 (nI (la + g))) = _ := fun x => give_n (q := la + g) (by rw [stI1, stp_eq]) (by omega)
    have e0 := H.win.eq g (by omega)
    have r1 : s 36 (b + (g + 1) - 1) = t.1 35 (la + g) := e0
    obtain ⟨r, z1, z2⟩ := onev2 (t.1 35 (la + g)) (z := nI (w.op k)) (by rcases ho1 with q | q | q | q <;> rw [q] <;> simp)
    rw [g1, g2, if_pos (show nI 1 = 1 from rfl), if_pos (show nI 1 = 1 from rfl), p1, bd_some, nsub1 (by omega), rGet_n (by omega) (by decide), r1, show (stI t 33 c (nI (k + 1))).1 35 (la + g) = t.1 35 (la + g) by simp (disch := first | decide | omega) only [stI1, stI2, stp_eq, stp_row, stp_ne, stp_nj ], z1, z2, bd1_some, bd1_some, p4, rSet_n (by omega) (by decide)]
    simp only [bd1_some, bd_some]
    exact ⟨_, _, _, rfl, rfl, Or.inl rfl, (by repeat first | assumption | exact WX.refl _ _ | refine WX.p36 (by omega) (by omega) ?_ | refine WX.pa (by decide) ?_), (by repeat first | assumption | exact WM.refl _ _ _ | refine WM.p33 ?_ | refine WM.p0 (by decide) ?_ | refine WM.pa (by decide) ?_ | refine WM.p35 (by omega) ?_), ⟨_, D.cg (by simp (disch := first | decide | omega) only [stI1, stI2, stp_eq, stp_row, stp_ne, stp_nj ]) (by simp (disch := first | decide | omega) only [stI1, stI2, stp_eq, stp_row, stp_ne, stp_nj ]) (by simp (disch := first | decide | omega) only [stI1, stI2, stp_eq, stp_row, stp_ne, stp_nj ]) (by simp (disch := first | decide | omega) only [stI1, stI2, stp_eq, stp_row, stp_ne, stp_nj ]) (by simp (disch := first | decide | omega) only [stI1, stI2, stp_eq, stp_row, stp_ne, stp_nj ]) (by simp (disch := first | decide | omega) only [stI1, stI2, stp_eq, stp_row, stp_ne, stp_nj ]) (by simp (disch := first | decide | omega) only [stI1, stI2, stp_eq, stp_row, stp_ne, stp_nj ]) (by simp (disch := first | decide | omega) only [stI1, stI2, stp_eq, stp_row, stp_ne, stp_nj ])⟩, fun _ => ⟨H.win.put (h' := g + 1 - 1 + 1) (j := g) (v := r) (by omega) (by simp (disch := first | decide | omega) only [stI1, stI2, stp_eq, stp_row, stp_ne, stp_nj ]; rfl) (by simp (disch := first | decide | omega) only [stI1, stI2, stp_eq, stp_row, stp_ne, stp_nj ]) (by simp (disch := first | decide | omega) only [stI1, stI2, stp_eq, stp_row, stp_ne, stp_nj ]; exact congrArg nI (by omega)), by simp (disch := first | decide | omega) only [stI1, stI2, stp_eq, stp_row, stp_ne, stp_nj ]⟩⟩
  · rw [g1] at htk
    obtain ⟨g, rfl⟩ : ∃ g, h = g + 2 := ⟨h - 2, by omega⟩
    have p1 : f_M_pull (stI t 33 c (nI (k + 1))) = _ := pull_n (q := la + g + 1) (by rw [stI1, stp_ne _ _ _ (by decide), H.win.sp]; rfl) (by omega)
    have p2 : f_M_pull (stI (stI t 33 c (nI (k + 1))) 0 23 (nI (la + g + 1))) = _ := pull_n (q := la + g) (by rw [stI1, stp_eq]) (by omega)
    have p4 : ∀ x, f_M_give x (stI (stI (stI t 33 c (nI (k + 1))) 0 23 (nI (la + g + 1))) 0 23 (nI (la + g))) = _ := fun x => give_n (q := la + g) (by rw [stI1, stp_eq]) (by omega)
    have e0 := H.win.eq g (by omega)
    have e1 := H.win.eq (g + 1) (by omega)
    have r1 : s 36 (b + (g + 2) - 1) = t.1 35 (la + g + 1) := e1
    have r2 : s 36 (b + (g + 2) - 2) = t.1 35 (la + g) := e0
    rw [g1, g2, if_neg (show ¬ nI 2 = 1 by decide), if_neg (show ¬ nI 2 = 1 by decide), f_M_both, p1, bd_some, p2, bd_some, nsub1 (by omega), nsub2 (by omega), rGet_n (by omega) (by decide), rGet_n (by omega) (by decide), r1, r2, show (stI t 33 c (nI (k + 1))).1 35 (la + g + 1) = t.1 35 (la + g + 1) by simp (disch := first | decide | omega) only [stI1, stI2, stp_eq, stp_row, stp_ne, stp_nj ], show (stI (stI t 33 c (nI (k + 1))) 0 23 (nI (la + g + 1))).1 35 (la + g) = t.1 35 (la + g) by simp (disch := first | decide | omega) only [stI1, stI2, stp_eq, stp_row, stp_ne, stp_nj ]]
    obtain ⟨r, z1, z2, z3, z4⟩ := trap2 ho2 (t.1 35 (la + g)) (t.1 35 (la + g + 1)) (stI (stI (stI t 33 c (nI (k + 1))) 0 23 (nI (la + g + 1))) 0 23 (nI (la + g)))
    rw [z1, z4, bd1_some]
    simp only [f_Store_compute_79]
    by_cases hr : r = 0
    · obtain ⟨v, v1, v2⟩ := two2 ho2 (x := t.1 35 (la + g)) (y := t.1 35 (la + g + 1)) (z3 hr)
      rw [if_pos hr, if_pos hr, mb48, v1, v2, bd1_some, bd1_some, f_M_both_93, p4, rSet_n (by omega) (by decide), hr]
      simp only [bd1_some, bd_some]
      exact ⟨_, _, _, rfl, rfl, Or.inl rfl, (by repeat first | assumption | exact WX.refl _ _ | refine WX.p36 (by omega) (by omega) ?_ | refine WX.pa (by decide) ?_), (by repeat first | assumption | exact WM.refl _ _ _ | refine WM.p33 ?_ | refine WM.p0 (by decide) ?_ | refine WM.pa (by decide) ?_ | refine WM.p35 (by omega) ?_), ⟨_, D.cg (by simp (disch := first | decide | omega) only [stI1, stI2, stp_eq, stp_row, stp_ne, stp_nj ]) (by simp (disch := first | decide | omega) only [stI1, stI2, stp_eq, stp_row, stp_ne, stp_nj ]) (by simp (disch := first | decide | omega) only [stI1, stI2, stp_eq, stp_row, stp_ne, stp_nj ]) (by simp (disch := first | decide | omega) only [stI1, stI2, stp_eq, stp_row, stp_ne, stp_nj ]) (by simp (disch := first | decide | omega) only [stI1, stI2, stp_eq, stp_row, stp_ne, stp_nj ]) (by simp (disch := first | decide | omega) only [stI1, stI2, stp_eq, stp_row, stp_ne, stp_nj ]) (by simp (disch := first | decide | omega) only [stI1, stI2, stp_eq, stp_row, stp_ne, stp_nj ]) (by simp (disch := first | decide | omega) only [stI1, stI2, stp_eq, stp_row, stp_ne, stp_nj ])⟩, fun _ => ⟨H.win.put (h' := g + 2 - 2 + 1) (j := g) (v := v) (by omega) (by simp (disch := first | decide | omega) only [stI1, stI2, stp_eq, stp_row, stp_ne, stp_nj ]; rfl) (by simp (disch := first | decide | omega) only [stI1, stI2, stp_eq, stp_row, stp_ne, stp_nj ]) (by simp (disch := first | decide | omega) only [stI1, stI2, stp_eq, stp_row, stp_ne, stp_nj ]; exact congrArg nI (by omega)), by simp (disch := first | decide | omega) only [stI1, stI2, stp_eq, stp_row, stp_ne, stp_nj ]⟩⟩
    · rw [if_neg hr, if_neg hr]
      simp only [bd_some]
      exact ⟨_, _, _, rfl, rfl, by rcases z2 with q | q | q; exact absurd q hr; exact Or.inr (Or.inl q); exact Or.inr (Or.inr (Or.inl q)), (by repeat first | assumption | exact WX.refl _ _ | refine WX.p36 (by omega) (by omega) ?_ | refine WX.pa (by decide) ?_), (by repeat first | assumption | exact WM.refl _ _ _ | refine WM.p33 ?_ | refine WM.p0 (by decide) ?_ | refine WM.pa (by decide) ?_ | refine WM.p35 (by omega) ?_), ⟨_, D.cg (by simp (disch := first | decide | omega) only [stI1, stI2, stp_eq, stp_row, stp_ne, stp_nj ]) (by simp (disch := first | decide | omega) only [stI1, stI2, stp_eq, stp_row, stp_ne, stp_nj ]) (by simp (disch := first | decide | omega) only [stI1, stI2, stp_eq, stp_row, stp_ne, stp_nj ]) (by simp (disch := first | decide | omega) only [stI1, stI2, stp_eq, stp_row, stp_ne, stp_nj ]) (by simp (disch := first | decide | omega) only [stI1, stI2, stp_eq, stp_row, stp_ne, stp_nj ]) (by simp (disch := first | decide | omega) only [stI1, stI2, stp_eq, stp_row, stp_ne, stp_nj ]) (by simp (disch := first | decide | omega) only [stI1, stI2, stp_eq, stp_row, stp_ne, stp_nj ]) (by simp (disch := first | decide | omega) only [stI1, stI2, stp_eq, stp_row, stp_ne, stp_nj ])⟩, fun q => absurd q hr⟩
end NUM
