-- running: moving numbers
section MOV
variable {w : Cd} {k b la h c nG me mx p : Nat} {s : St} {t : SM}
theorem wk_26 (H : WC w k b la h c s t) (D : DR nG me mx s t p) (ho : w.op k = 26) : Wk w k b la h c nG me mx s t := by
  have g1 : tks (w.op k) = 1 := by rw [ho]; decide
  have g2 : gvs (w.op k) = 0 := by rw [ho]; decide
  have hb := H.b24; have hl := H.l28; have hh := H.h28; have htk := H.tk
  rw [g1] at htk
  rw [Wk, wk_move H (by omega) (by omega) (by omega), pf_37 H (by omega) (by omega), f_Store_move, f_M_perform_81, g1, g2]
  simp only [lt1, f_Store_move_252, f_M_perform_308]
  simp (disch := omega) only [nI_leI, nI_ltI, nI_eq, if_pos, if_neg, if_true, if_false , lit_26, lit_27, lit_32, lit_33, lit_34, lit_35, lit_36, lit_63, lit_64, lit_65]
  simp only [bd1_some]
  refine ⟨_, _, _, rfl, rfl, Or.inl rfl, (by repeat first | assumption | exact WX.refl _ _ | refine WX.p36 (by omega) (by omega) ?_ | refine WX.pa (by decide) ?_), (by repeat first | assumption | exact WM.refl _ _ _ | refine WM.p33 ?_ | refine WM.p0 (by decide) ?_ | refine WM.pa (by decide) ?_ | refine WM.p35 (by omega) ?_), ⟨_, D.cg (by simp (disch := first | decide | omega) only [stI1, stI2, stp_eq, stp_row, stp_ne, stp_nj ]) (by simp (disch := first | decide | omega) only [stI1, stI2, stp_eq, stp_row, stp_ne, stp_nj ]) (by simp (disch := first | decide | omega) only [stI1, stI2, stp_eq, stp_row, stp_ne, stp_nj ]) (by simp (disch := first | decide | omega) only [stI1, stI2, stp_eq, stp_row, stp_ne, stp_nj ]) (by simp (disch := first | decide | omega) only [stI1, stI2, stp_eq, stp_row, stp_ne, stp_nj ]) (by simp (disch := first | decide | omega) only [stI1, stI2, stp_eq, stp_row, stp_ne, stp_nj ]) (by simp (disch := first | decide | omega) only [stI1, stI2, stp_eq, stp_row, stp_ne, stp_nj ]) (by simp (disch := first | decide | omega) only [stI1, stI2, stp_eq, stp_row, stp_ne, stp_nj ])⟩, fun _ => ⟨H.win.cut (h' := h - 1 + 0) (by omega) rfl (by simp (disch := first | decide | omega) only [stI1, stI2, stp_eq, stp_row, stp_ne, stp_nj ]) ?_, by simp (disch := first | decide | omega) only [stI1, stI2, stp_eq, stp_row, stp_ne, stp_nj ]⟩⟩
  rw [stI1, stp_eq, stI1, stp_ne _ _ _ (by decide), H.win.sp, nsub1 (by omega)]; exact congrArg nI (by omega)
theorem wk_27 (H : WC w k b la h c s t) (D : DR nG me mx s t p) (ho : w.op k = 27) : Wk w k b la h c nG me mx s t := by
  have g1 : tks (w.op k) = 3 := by rw [ho]; decide
  have g2 : gvs (w.op k) = 1 := by rw [ho]; decide
  have hb := H.b24; have hl := H.l28; have hh := H.h28; have htk := H.tk
  rw [g1] at htk
  obtain ⟨g, rfl⟩ : ∃ g, h = g + 3 := ⟨h - 3, by omega⟩
  have p1 : f_M_pull (stI t 33 c (nI (k + 1))) = _ := pull_n (q := la + g + 2) (by rw [stI1, stp_ne _ _ _ (by decide), H.win.sp]; rfl) (by omega)
  have p2 : f_M_pull (stI (stI t 33 c (nI (k + 1))) 0 23 (nI (la + g + 2))) = _ := pull_n (q := la + g + 1) (by rw [stI1, stp_eq]) (by omega)
  have p3 : f_M_pull (stI (stI (stI t 33 c (nI (k + 1))) 0 23 (nI (la + g + 2))) 0 23 (nI (la + g + 1))) = _ := pull_n (q := la + g) (by rw [stI1, stp_eq]) (by omega)
  have p4 : ∀ x, f_M_give x (stI (stI (stI (stI t 33 c (nI (k + 1))) 0 23 (nI (la + g + 2))) 0 23 (nI (la + g + 1))) 0 23 (nI (la + g))) = _ := fun x => give_n (q := la + g) (by rw [stI1, stp_eq]) (by omega)
  have e0 := H.win.eq g (by omega)
  have e1 := H.win.eq (g + 1) (by omega)
  have e2 := H.win.eq (g + 2) (by omega)
  rw [Wk, wk_move H (by omega) (by omega) (by omega), pf_37 H (by omega) (by omega), f_Store_move, f_M_perform_81, g1, g2]
  simp only [lt1, f_Store_move_124, f_Store_move_252, f_M_perform_308, f_M_perform_139]
  simp (disch := omega) only [nI_leI, nI_ltI, nI_eq, if_pos, if_neg, if_true, if_false , lit_26, lit_27, lit_32, lit_33, lit_34, lit_35, lit_36, lit_63, lit_64, lit_65]
  rw [p1, bd_some, p2, bd_some, p3, bd_some, p4, p4, nsub1 (by omega), nsub2 (by omega), nsub3 (by omega), rGet_n (by omega) (by decide), rGet_n (by omega) (by decide), rGet_n (by omega) (by decide), rSet_n (by omega) (by decide), rSet_n (by omega) (by decide)]
  simp only [bd1_some]
  have r1 : s 36 (b + (g + 3) - 1) = t.1 35 (la + g + 2) := e2
  have r2 : s 36 (b + (g + 3) - 2) = t.1 35 (la + g + 1) := e1
  have r3 : s 36 (b + (g + 3) - 3) = t.1 35 (la + g) := e0
  have t1 : (stI t 33 c (nI (k + 1))).1 35 (la + g + 2) = t.1 35 (la + g + 2) := by simp (disch := first | decide | omega) only [stI1, stI2, stp_eq, stp_row, stp_ne, stp_nj ]
  have t2 : (stI (stI t 33 c (nI (k + 1))) 0 23 (nI (la + g + 2))).1 35 (la + g + 1) = t.1 35 (la + g + 1) := by simp (disch := first | decide | omega) only [stI1, stI2, stp_eq, stp_row, stp_ne, stp_nj ]
  have t3 : (stI (stI (stI t 33 c (nI (k + 1))) 0 23 (nI (la + g + 2))) 0 23 (nI (la + g + 1))).1 35 (la + g) = t.1 35 (la + g) := by simp (disch := first | decide | omega) only [stI1, stI2, stp_eq, stp_row, stp_ne, stp_nj ]
  rw [r1, r2, r3, t1, t2, t3]
  by_cases z : t.1 35 (la + g + 2) = 0
  · rw [if_pos z, if_pos z]
    refine ⟨_, _, _, rfl, rfl, Or.inl rfl, (by repeat first | assumption | exact WX.refl _ _ | refine WX.p36 (by omega) (by omega) ?_ | refine WX.pa (by decide) ?_), (by repeat first | assumption | exact WM.refl _ _ _ | refine WM.p33 ?_ | refine WM.p0 (by decide) ?_ | refine WM.pa (by decide) ?_ | refine WM.p35 (by omega) ?_), ⟨_, D.cg (by simp (disch := first | decide | omega) only [stI1, stI2, stp_eq, stp_row, stp_ne, stp_nj ]) (by simp (disch := first | decide | omega) only [stI1, stI2, stp_eq, stp_row, stp_ne, stp_nj ]) (by simp (disch := first | decide | omega) only [stI1, stI2, stp_eq, stp_row, stp_ne, stp_nj ]) (by simp (disch := first | decide | omega) only [stI1, stI2, stp_eq, stp_row, stp_ne, stp_nj ]) (by simp (disch := first | decide | omega) only [stI1, stI2, stp_eq, stp_row, stp_ne, stp_nj ]) (by simp (disch := first | decide | omega) only [stI1, stI2, stp_eq, stp_row, stp_ne, stp_nj ]) (by simp (disch := first | decide | omega) only [stI1, stI2, stp_eq, stp_row, stp_ne, stp_nj ]) (by simp (disch := first | decide | omega) only [stI1, stI2, stp_eq, stp_row, stp_ne, stp_nj ])⟩, fun _ => ⟨H.win.put (h' := g + 3 - 3 + 1) (j := g) (v := t.1 35 (la + g + 1)) (by omega) (by simp (disch := first | decide | omega) only [stI1, stI2, stp_eq, stp_row, stp_ne, stp_nj ]; rfl) (by simp (disch := first | decide | omega) only [stI1, stI2, stp_eq, stp_row, stp_ne, stp_nj ]) (by simp (disch := first | decide | omega) only [stI1, stI2, stp_eq, stp_row, stp_ne, stp_nj ]; exact congrArg nI (by omega)), by simp (disch := first | decide | omega) only [stI1, stI2, stp_eq, stp_row, stp_ne, stp_nj ]⟩⟩
  · rw [if_neg z, if_neg z]
    refine ⟨_, _, _, rfl, rfl, Or.inl rfl, (by repeat first | assumption | exact WX.refl _ _ | refine WX.p36 (by omega) (by omega) ?_ | refine WX.pa (by decide) ?_), (by repeat first | assumption | exact WM.refl _ _ _ | refine WM.p33 ?_ | refine WM.p0 (by decide) ?_ | refine WM.pa (by decide) ?_ | refine WM.p35 (by omega) ?_), ⟨_, D.cg (by simp (disch := first | decide | omega) only [stI1, stI2, stp_eq, stp_row, stp_ne, stp_nj ]) (by simp (disch := first | decide | omega) only [stI1, stI2, stp_eq, stp_row, stp_ne, stp_nj ]) (by simp (disch := first | decide | omega) only [stI1, stI2, stp_eq, stp_row, stp_ne, stp_nj ]) (by simp (disch := first | decide | omega) only [stI1, stI2, stp_eq, stp_row, stp_ne, stp_nj ]) (by simp (disch := first | decide | omega) only [stI1, stI2, stp_eq, stp_row, stp_ne, stp_nj ]) (by simp (disch := first | decide | omega) only [stI1, stI2, stp_eq, stp_row, stp_ne, stp_nj ]) (by simp (disch := first | decide | omega) only [stI1, stI2, stp_eq, stp_row, stp_ne, stp_nj ]) (by simp (disch := first | decide | omega) only [stI1, stI2, stp_eq, stp_row, stp_ne, stp_nj ])⟩, fun _ => ⟨H.win.put (h' := g + 3 - 3 + 1) (j := g) (v := t.1 35 (la + g)) (by omega) (by simp (disch := first | decide | omega) only [stI1, stI2, stp_eq, stp_row, stp_ne, stp_nj ]; rfl) (by simp (disch := first | decide | omega) only [stI1, stI2, stp_eq, stp_row, stp_ne, stp_nj ]) (by simp (disch := first | decide | omega) only [stI1, stI2, stp_eq, stp_row, stp_ne, stp_nj ]; exact congrArg nI (by omega)), by simp (disch := first | decide | omega) only [stI1, stI2, stp_eq, stp_row, stp_ne, stp_nj ]⟩⟩
theorem wk_32 (H : WC w k b la h c s t) (D : DR nG me mx s t p) (ho : w.op k = 32) (ha : w.a k < h) : Wk w k b la h c nG me mx s t := by
  have g1 : tks (w.op k) = 0 := by rw [ho]; decide
  have g2 : gvs (w.op k) = 1 := by rw [ho]; decide
  have hb := H.b24; have hl := H.l28; have hh := H.h28; have hup := H.up
  rw [g1, g2] at hup
  have p4 : ∀ x, f_M_give x (stI t 33 c (nI (k + 1))) = _ := fun x => give_n (q := la + h) (by rw [stI1, stp_ne _ _ _ (by decide), H.win.sp]) (by omega)
  have e0 := H.win.eq (w.a k) ha
  rw [Wk, wk_move H (by omega) (by omega) (by omega), pf_37 H (by omega) (by omega), f_Store_move, f_M_perform_81, g1, g2, xF, if_neg (by omega), if_neg (by omega), if_pos (by omega)]
  simp only [lt1, f_Store_move_252, f_M_perform_308]
  simp (disch := omega) only [nI_leI, nI_ltI, nI_eq, if_pos, if_neg, if_true, if_false , lit_26, lit_27, lit_32, lit_33, lit_34, lit_35, lit_36, lit_63, lit_64, lit_65]
  rw [nI_add, nI_add, gi_n (show la + w.a k < 400 by omega) (by decide), nI_clamp (by omega), p4, rGet_n (by omega) (by decide), rSet_n (by omega) (by decide), e0, show (stI t 33 c (nI (k + 1))).1 35 (la + w.a k) = t.1 35 (la + w.a k) by simp (disch := first | decide | omega) only [stI1, stI2, stp_eq, stp_row, stp_ne, stp_nj ]]
  simp only [bd1_some]
  exact ⟨_, _, _, rfl, rfl, Or.inl rfl, (by repeat first | assumption | exact WX.refl _ _ | refine WX.p36 (by omega) (by omega) ?_ | refine WX.pa (by decide) ?_), (by repeat first | assumption | exact WM.refl _ _ _ | refine WM.p33 ?_ | refine WM.p0 (by decide) ?_ | refine WM.pa (by decide) ?_ | refine WM.p35 (by omega) ?_), ⟨_, D.cg (by simp (disch := first | decide | omega) only [stI1, stI2, stp_eq, stp_row, stp_ne, stp_nj ]) (by simp (disch := first | decide | omega) only [stI1, stI2, stp_eq, stp_row, stp_ne, stp_nj ]) (by simp (disch := first | decide | omega) only [stI1, stI2, stp_eq, stp_row, stp_ne, stp_nj ]) (by simp (disch := first | decide | omega) only [stI1, stI2, stp_eq, stp_row, stp_ne, stp_nj ]) (by simp (disch := first | decide | omega) only [stI1, stI2, stp_eq, stp_row, stp_ne, stp_nj ]) (by simp (disch := first | decide | omega) only [stI1, stI2, stp_eq, stp_row, stp_ne, stp_nj ]) (by simp (disch := first | decide | omega) only [stI1, stI2, stp_eq, stp_row, stp_ne, stp_nj ]) (by simp (disch := first | decide | omega) only [stI1, stI2, stp_eq, stp_row, stp_ne, stp_nj ])⟩, fun _ => ⟨H.win.put (h' := h - 0 + 1) (j := h) (v := t.1 35 (la + w.a k)) (by omega) (by simp (disch := first | decide | omega) only [stI1, stI2, stp_eq, stp_row, stp_ne, stp_nj ]) (by simp (disch := first | decide | omega) only [stI1, stI2, stp_eq, stp_row, stp_ne, stp_nj ]) (by simp (disch := first | decide | omega) only [stI1, stI2, stp_eq, stp_row, stp_ne, stp_nj ]; exact congrArg nI (by omega)), by simp (disch := first | decide | omega) only [stI1, stI2, stp_eq, stp_row, stp_ne, stp_nj ]⟩⟩
theorem wk_33 (H : WC w k b la h c s t) (D : DR nG me mx s t p) (ho : w.op k = 33) (ha : w.a k + 1 < h) : Wk w k b la h c nG me mx s t := by
  have g1 : tks (w.op k) = 1 := by rw [ho]; decide
  have g2 : gvs (w.op k) = 0 := by rw [ho]; decide
  have hb := H.b24; have hl := H.l28; have hh := H.h28
  obtain ⟨g, rfl⟩ : ∃ g, h = g + 1 := ⟨h - 1, by omega⟩
  have p1 : f_M_pull (stI t 33 c (nI (k + 1))) = _ := pull_n (q := la + g) (by rw [stI1, stp_ne _ _ _ (by decide), H.win.sp]; rfl) (by omega)
  have e0 := H.win.eq g (by omega)
  have r1 : s 36 (b + (g + 1) - 1) = t.1 35 (la + g) := e0
  rw [Wk, wk_move H (by omega) (by omega) (by omega), pf_37 H (by omega) (by omega), f_Store_move, f_M_perform_81, g1, g2, xF, if_neg (by omega), if_neg (by omega), if_pos (by omega)]
  simp only [lt1, f_Store_move_155, f_Store_move_252, f_M_perform_308]
  simp (disch := omega) only [nI_leI, nI_ltI, nI_eq, if_pos, if_neg, if_true, if_false , lit_26, lit_27, lit_32, lit_33, lit_34, lit_35, lit_36, lit_63, lit_64, lit_65]
  rw [nI_add, nI_add, p1, bd_some, gi_n (show la + w.a k < 400 by omega) (by decide), nI_clamp (by omega), nsub1 (by omega), rGet_n (by omega) (by decide), rSet_n (by omega) (by decide), r1, show (stI t 33 c (nI (k + 1))).1 35 (la + g) = t.1 35 (la + g) by simp (disch := first | decide | omega) only [stI1, stI2, stp_eq, stp_row, stp_ne, stp_nj ]]
  simp only [bd1_some]
  exact ⟨_, _, _, rfl, rfl, Or.inl rfl, (by repeat first | assumption | exact WX.refl _ _ | refine WX.p36 (by omega) (by omega) ?_ | refine WX.pa (by decide) ?_), (by repeat first | assumption | exact WM.refl _ _ _ | refine WM.p33 ?_ | refine WM.p0 (by decide) ?_ | refine WM.pa (by decide) ?_ | refine WM.p35 (by omega) ?_), ⟨_, D.cg (by simp (disch := first | decide | omega) only [stI1, stI2, stp_eq, stp_row, stp_ne, stp_nj ]) (by simp (disch := first | decide | omega) only [stI1, stI2, stp_eq, stp_row, stp_ne, stp_nj ]) (by simp (disch := first | decide | omega) only [stI1, stI2, stp_eq, stp_row, stp_ne, stp_nj ]) (by simp (disch := first | decide | omega) only [stI1, stI2, stp_eq, stp_row, stp_ne, stp_nj ]) (by simp (disch := first | decide | omega) only [stI1, stI2, stp_eq, stp_row, stp_ne, stp_nj ]) (by simp (disch := first | decide | omega) only [stI1, stI2, stp_eq, stp_row, stp_ne, stp_nj ]) (by simp (disch := first | decide | omega) only [stI1, stI2, stp_eq, stp_row, stp_ne, stp_nj ]) (by simp (disch := first | decide | omega) only [stI1, stI2, stp_eq, stp_row, stp_ne, stp_nj ])⟩, fun _ => ⟨H.win.put (h' := g + 1 - 1 + 0) (j := w.a k) (v := t.1 35 (la + g)) (by omega) (by simp (disch := first | decide | omega) only [stI1, stI2, stp_eq, stp_row, stp_ne, stp_nj ]) (by simp (disch := first | decide | omega) only [stI1, stI2, stp_eq, stp_row, stp_ne, stp_nj ]) (by simp (disch := first | decide | omega) only [stI1, stI2, stp_eq, stp_row, stp_ne, stp_nj ]; exact congrArg nI (by omega)), by simp (disch := first | decide | omega) only [stI1, stI2, stp_eq, stp_row, stp_ne, stp_nj ]⟩⟩
theorem wk_34 (H : WC w k b la h c s t) (D : DR nG me mx s t p) (ho : w.op k = 34) (ha : w.a k + 1 < h) : Wk w k b la h c nG me mx s t := by
  have g1 : tks (w.op k) = 1 := by rw [ho]; decide
  have g2 : gvs (w.op k) = 1 := by rw [ho]; decide
  have hb := H.b24; have hl := H.l28; have hh := H.h28
  obtain ⟨g, rfl⟩ : ∃ g, h = g + 1 := ⟨h - 1, by omega⟩
  have e0 := H.win.eq g (by omega)
  have r1 : s 36 (b + (g + 1) - 1) = t.1 35 (la + g) := e0
  have r2 : (stI t 33 c (nI (k + 1))).1 0 23 = nI (la + (g + 1)) := by rw [stI1, stp_ne _ _ _ (by decide), H.win.sp]
  rw [Wk, wk_move H (by omega) (by omega) (by omega), pf_37 H (by omega) (by omega), f_Store_move, f_M_perform_81, g1, g2, xF, if_neg (by omega), if_neg (by omega), if_pos (by omega)]
  simp only [lt1, f_Store_move_155, f_Store_move_252, f_M_perform_308]
  simp (disch := omega) only [nI_leI, nI_ltI, nI_eq, if_pos, if_neg, if_true, if_false , lit_26, lit_27, lit_32, lit_33, lit_34, lit_35, lit_36, lit_63, lit_64, lit_65]
  rw [nI_add, nI_add, r2, nsub1 (n := la + (g + 1)) (by omega), gi_n (show la + (g + 1) - 1 < 400 by omega) (by decide), nI_clamp (by omega), gi_n (show la + w.a k < 400 by omega) (by decide), nI_clamp (by omega), nsub1 (by omega), rGet_n (by omega) (by decide), rSet_n (by omega) (by decide), r1, show (stI t 33 c (nI (k + 1))).1 35 (la + (g + 1) - 1) = t.1 35 (la + g) by simp (disch := first | decide | omega) only [stI1, stI2, stp_eq, stp_row, stp_ne, stp_nj ]; rfl]
  simp only [bd1_some]
  exact ⟨_, _, _, rfl, rfl, Or.inl rfl, (by repeat first | assumption | exact WX.refl _ _ | refine WX.p36 (by omega) (by omega) ?_ | refine WX.pa (by decide) ?_), (by repeat first | assumption | exact WM.refl _ _ _ | refine WM.p33 ?_ | refine WM.p0 (by decide) ?_ | refine WM.pa (by decide) ?_ | refine WM.p35 (by omega) ?_), ⟨_, D.cg (by simp (disch := first | decide | omega) only [stI1, stI2, stp_eq, stp_row, stp_ne, stp_nj ]) (by simp (disch := first | decide | omega) only [stI1, stI2, stp_eq, stp_row, stp_ne, stp_nj ]) (by simp (disch := first | decide | omega) only [stI1, stI2, stp_eq, stp_row, stp_ne, stp_nj ]) (by simp (disch := first | decide | omega) only [stI1, stI2, stp_eq, stp_row, stp_ne, stp_nj ]) (by simp (disch := first | decide | omega) only [stI1, stI2, stp_eq, stp_row, stp_ne, stp_nj ]) (by simp (disch := first | decide | omega) only [stI1, stI2, stp_eq, stp_row, stp_ne, stp_nj ]) (by simp (disch := first | decide | omega) only [stI1, stI2, stp_eq, stp_row, stp_ne, stp_nj ]) (by simp (disch := first | decide | omega) only [stI1, stI2, stp_eq, stp_row, stp_ne, stp_nj ])⟩, fun _ => ⟨H.win.put (h' := g + 1 - 1 + 1) (j := w.a k) (v := t.1 35 (la + g)) (by omega) (by simp (disch := first | decide | omega) only [stI1, stI2, stp_eq, stp_row, stp_ne, stp_nj ]) (by simp (disch := first | decide | omega) only [stI1, stI2, stp_eq, stp_row, stp_ne, stp_nj ]) (by simp (disch := first | decide | omega) only [stI1, stI2, stp_eq, stp_row, stp_ne, stp_nj ]; rw [H.win.sp]; exact congrArg nI (by omega)), by simp (disch := first | decide | omega) only [stI1, stI2, stp_eq, stp_row, stp_ne, stp_nj ]⟩⟩
theorem wk_35 (H : WC w k b la h c s t) (D : DR nG me mx s t p) (ho : w.op k = 35) (ha : w.a k < nG) (hG : nG ≤ 4) : Wk w k b la h c nG me mx s t := by
  have g1 : tks (w.op k) = 0 := by rw [ho]; decide
  have g2 : gvs (w.op k) = 1 := by rw [ho]; decide
  have hb := H.b24; have hl := H.l28; have hh := H.h28; have hup := H.up; have hk := H.k24
  rw [g1, g2] at hup
  have p4 : ∀ x, f_M_give x (stI t 33 c (nI (k + 1))) = _ := fun x => give_n (q := la + h) (by rw [stI1, stp_ne _ _ _ (by decide), H.win.sp]) (by omega)
  have e0 := D.glb (w.a k) ha
  rw [Wk, wk_move H (by omega) (by omega) (by omega), pf_37 H (by omega) (by omega), f_Store_move, f_M_perform_81, g1, g2, xF, if_neg (by omega), if_neg (by omega), if_neg (by omega)]
  simp only [lt1, f_Store_move_252, f_M_perform_308]
  simp (disch := omega) only [nI_leI, nI_ltI, nI_eq, if_pos, if_neg, if_true, if_false , lit_26, lit_27, lit_32, lit_33, lit_34, lit_35, lit_36, lit_63, lit_64, lit_65]
  rw [gi_n (show k < 250 by omega) (by decide), nI_clamp (by omega), stI2, H.row.c1, mF, if_neg (by omega), lN_i, gi_n (show w.a k < 4 by omega) (by decide), nI_clamp (by omega), p4, rGet_n (by omega) (by decide), rSet_n (by omega) (by decide), e0, show (stI t 33 c (nI (k + 1))).1 30 (w.a k) = t.1 30 (w.a k) by simp (disch := first | decide | omega) only [stI1, stI2, stp_eq, stp_row, stp_ne, stp_nj ]]
  simp only [bd1_some]
  exact ⟨_, _, _, rfl, rfl, Or.inl rfl, (by repeat first | assumption | exact WX.refl _ _ | refine WX.p36 (by omega) (by omega) ?_ | refine WX.pa (by decide) ?_), (by repeat first | assumption | exact WM.refl _ _ _ | refine WM.p33 ?_ | refine WM.p0 (by decide) ?_ | refine WM.pa (by decide) ?_ | refine WM.p35 (by omega) ?_), ⟨_, D.cg (by simp (disch := first | decide | omega) only [stI1, stI2, stp_eq, stp_row, stp_ne, stp_nj ]) (by simp (disch := first | decide | omega) only [stI1, stI2, stp_eq, stp_row, stp_ne, stp_nj ]) (by simp (disch := first | decide | omega) only [stI1, stI2, stp_eq, stp_row, stp_ne, stp_nj ]) (by simp (disch := first | decide | omega) only [stI1, stI2, stp_eq, stp_row, stp_ne, stp_nj ]) (by simp (disch := first | decide | omega) only [stI1, stI2, stp_eq, stp_row, stp_ne, stp_nj ]) (by simp (disch := first | decide | omega) only [stI1, stI2, stp_eq, stp_row, stp_ne, stp_nj ]) (by simp (disch := first | decide | omega) only [stI1, stI2, stp_eq, stp_row, stp_ne, stp_nj ]) (by simp (disch := first | decide | omega) only [stI1, stI2, stp_eq, stp_row, stp_ne, stp_nj ])⟩, fun _ => ⟨H.win.put (h' := h - 0 + 1) (j := h) (v := t.1 30 (w.a k)) (by omega) (by simp (disch := first | decide | omega) only [stI1, stI2, stp_eq, stp_row, stp_ne, stp_nj ]) (by simp (disch := first | decide | omega) only [stI1, stI2, stp_eq, stp_row, stp_ne, stp_nj ]) (by simp (disch := first | decide | omega) only [stI1, stI2, stp_eq, stp_row, stp_ne, stp_nj ]; exact congrArg nI (by omega)), by simp (disch := first | decide | omega) only [stI1, stI2, stp_eq, stp_row, stp_ne, stp_nj ]⟩⟩
theorem wk_36 (H : WC w k b la h c s t) (D : DR nG me mx s t p) (ho : w.op k = 36) (ha : w.a k < nG) (hG : nG ≤ 4) : Wk w k b la h c nG me mx s t := by
  have g1 : tks (w.op k) = 1 := by rw [ho]; decide
  have g2 : gvs (w.op k) = 0 := by rw [ho]; decide
  have hb := H.b24; have hl := H.l28; have hh := H.h28; have htk := H.tk; have hk := H.k24
  rw [g1] at htk
  obtain ⟨g, rfl⟩ : ∃ g, h = g + 1 := ⟨h - 1, by omega⟩
  have p1 : f_M_pull (stI t 33 c (nI (k + 1))) = _ := pull_n (q := la + g) (by rw [stI1, stp_ne _ _ _ (by decide), H.win.sp]; rfl) (by omega)
  have e0 := H.win.eq g (by omega)
  have r1 : s 36 (b + (g + 1) - 1) = t.1 35 (la + g) := e0
  rw [Wk, wk_move H (by omega) (by omega) (by omega), pf_37 H (by omega) (by omega), f_Store_move, f_M_perform_81, g1, g2, xF, if_neg (by omega), if_neg (by omega), if_neg (by omega)]
  simp only [lt1, f_Store_move_252, f_M_perform_308]
  simp (disch := omega) only [nI_leI, nI_ltI, nI_eq, if_pos, if_neg, if_true, if_false , lit_26, lit_27, lit_32, lit_33, lit_34, lit_35, lit_36, lit_63, lit_64, lit_65]
  rw [gi_n (show k < 250 by omega) (by decide), nI_clamp (by omega), stI2, H.row.c1, mF, if_neg (by omega), lN_i, p1, bd_some, gi_n (show w.a k < 4 by omega) (by decide), nI_clamp (by omega), nsub1 (by omega), rGet_n (by omega) (by decide), rSet_n (by omega) (by decide), r1, show (stI t 33 c (nI (k + 1))).1 35 (la + g) = t.1 35 (la + g) by simp (disch := first | decide | omega) only [stI1, stI2, stp_eq, stp_row, stp_ne, stp_nj ]]
  simp only [bd1_some]
  refine ⟨_, _, _, rfl, rfl, Or.inl rfl, (by repeat first | assumption | exact WX.refl _ _ | refine WX.p36 (by omega) (by omega) ?_ | refine WX.pa (by decide) ?_), (by repeat first | assumption | exact WM.refl _ _ _ | refine WM.p33 ?_ | refine WM.p0 (by decide) ?_ | refine WM.pa (by decide) ?_ | refine WM.p35 (by omega) ?_), ⟨p, ?_⟩, fun _ => ⟨H.win.cut (h' := g + 1 - 1 + 0) (by omega) (by simp (disch := first | decide | omega) only [stI1, stI2, stp_eq, stp_row, stp_ne, stp_nj ]) (by simp (disch := first | decide | omega) only [stI1, stI2, stp_eq, stp_row, stp_ne, stp_nj ]) (by simp (disch := first | decide | omega) only [stI1, stI2, stp_eq, stp_row, stp_ne, stp_nj ]; exact congrArg nI (by omega)), by simp (disch := first | decide | omega) only [stI1, stI2, stp_eq, stp_row, stp_ne, stp_nj ]⟩⟩
  refine ⟨by simp (disch := first | decide | omega) only [stI1, stI2, stp_eq, stp_row, stp_ne, stp_nj ]; exact D.mem, fun i hi => ?_, by simp (disch := first | decide | omega) only [stI1, stI2, stp_eq, stp_row, stp_ne, stp_nj ]; exact D.px, by simp (disch := first | decide | omega) only [stI1, stI2, stp_eq, stp_row, stp_ne, stp_nj ]; exact D.pm, D.p4, D.pmx, by simp (disch := first | decide | omega) only [stI1, stI2, stp_eq, stp_row, stp_ne, stp_nj ]; exact D.xm, by simp (disch := first | decide | omega) only [stI1, stI2, stp_eq, stp_row, stp_ne, stp_nj ]; exact D.cap⟩
  simp (disch := first | decide | omega) only [stI1, stI2, stp_eq, stp_row, stp_ne, stp_nj ]
  by_cases e : i = w.a k
  · rw [e, pk_us, pk_us]
  · rw [pk_un e, pk_un e]; exact D.glb i hi
theorem wk_65 (H : WC w k b la h c s t) (D : DR nG me mx s t p) (ho : w.op k = 65) : Wk w k b la h c nG me mx s t := by
  have g1 : tks (w.op k) = 0 := by rw [ho]; decide
  have g2 : gvs (w.op k) = 1 := by rw [ho]; decide
  have hb := H.b24; have hl := H.l28; have hh := H.h28; have hup := H.up; have hk := H.k24
  rw [g1, g2] at hup
  have p4 : ∀ x, f_M_give x (stI t 33 c (nI (k + 1))) = _ := fun x => give_n (q := la + h) (by rw [stI1, stp_ne _ _ _ (by decide), H.win.sp]) (by omega)
  rw [Wk, wk_move H (by omega) (by omega) (by omega), pf_37 H (by omega) (by omega), f_Store_move, f_M_perform_81, g1, g2, xF, if_neg (by omega), if_neg (by omega), if_neg (by omega)]
  simp only [lt1, f_Store_move_252, f_M_perform_308]
  simp (disch := omega) only [nI_leI, nI_ltI, nI_eq, if_pos, if_neg, if_true, if_false , lit_26, lit_27, lit_32, lit_33, lit_34, lit_35, lit_36, lit_63, lit_64, lit_65]
  rw [gi_n (show k < 250 by omega) (by decide), nI_clamp (by omega), stI2, H.row.c1, mF, if_pos ho, Int32.toInt32_toInt64, p4, rSet_n (by omega) (by decide)]
  simp only [bd1_some]
  exact ⟨_, _, _, rfl, rfl, Or.inl rfl, (by repeat first | assumption | exact WX.refl _ _ | refine WX.p36 (by omega) (by omega) ?_ | refine WX.pa (by decide) ?_), (by repeat first | assumption | exact WM.refl _ _ _ | refine WM.p33 ?_ | refine WM.p0 (by decide) ?_ | refine WM.pa (by decide) ?_ | refine WM.p35 (by omega) ?_), ⟨_, D.cg (by simp (disch := first | decide | omega) only [stI1, stI2, stp_eq, stp_row, stp_ne, stp_nj ]) (by simp (disch := first | decide | omega) only [stI1, stI2, stp_eq, stp_row, stp_ne, stp_nj ]) (by simp (disch := first | decide | omega) only [stI1, stI2, stp_eq, stp_row, stp_ne, stp_nj ]) (by simp (disch := first | decide | omega) only [stI1, stI2, stp_eq, stp_row, stp_ne, stp_nj ]) (by simp (disch := first | decide | omega) only [stI1, stI2, stp_eq, stp_row, stp_ne, stp_nj ]) (by simp (disch := first | decide | omega) only [stI1, stI2, stp_eq, stp_row, stp_ne, stp_nj ]) (by simp (disch := first | decide | omega) only [stI1, stI2, stp_eq, stp_row, stp_ne, stp_nj ]) (by simp (disch := first | decide | omega) only [stI1, stI2, stp_eq, stp_row, stp_ne, stp_nj ])⟩, fun _ => ⟨H.win.put (h' := h - 0 + 1) (j := h) (v := nI (w.a k)) (by omega) (by simp (disch := first | decide | omega) only [stI1, stI2, stp_eq, stp_row, stp_ne, stp_nj ]) (by simp (disch := first | decide | omega) only [stI1, stI2, stp_eq, stp_row, stp_ne, stp_nj ]) (by simp (disch := first | decide | omega) only [stI1, stI2, stp_eq, stp_row, stp_ne, stp_nj ]; exact congrArg nI (by omega)), by simp (disch := first | decide | omega) only [stI1, stI2, stp_eq, stp_row, stp_ne, stp_nj ]⟩⟩
end MOV
