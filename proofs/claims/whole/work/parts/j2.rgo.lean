-- running: the register engine, whole runs
section RGO
variable {w : Cd} {v : Hv} {m : Md} {C nP : Nat} {c : Nat} {F K L : Nat → Nat} {k : Nat} {s : St} {t : SM} {nG me mx p : Nat} {bgf lsf : Nat → Nat}
theorem SyR.fr (S : Sta w v m C nP s t) (H : SyR w v m C c F K L k s t) (h11 : w.op k ≠ 11) {x : Int32} : FrR w v m C c F K L k (v.hi k) s (stI t 33 c x) := by
  have hk := H.tp.kC
  have W := H.wn h11
  exact ⟨H.cf.cg S (by simp (disch := first | decide | omega) only [stI1, stI2, stp_eq, stp_row, stp_ne, stp_nj ]) (by simp (disch := first | decide | omega) only [stI1, stI2, stp_eq, stp_row, stp_ne, stp_nj ]) (by simp (disch := first | decide | omega) only [stI1, stI2, stp_eq, stp_row, stp_ne, stp_nj ]) (by simp (disch := first | decide | omega) only [stI1, stI2, stp_eq, stp_row, stp_ne, stp_nj ]) (by simp (disch := first | decide | omega) only [stI1, stI2, stp_eq, stp_row, stp_ne, stp_nj ]) (fun i hi => by simp (disch := first | decide | omega) only [stI1, stI2, stp_eq, stp_row, stp_ne, stp_nj ]) rfl rfl rfl rfl rfl (fun _ _ => rfl) (fun _ _ => by simp (disch := first | decide | omega) only [stI1, stI2, stp_eq, stp_row, stp_ne, stp_nj ]), hk, H.lo h11, H.tp.fn, W.cut (Nat.le_refl _) rfl (by simp (disch := first | decide | omega) only [stI1, stI2, stp_eq, stp_row, stp_ne, stp_nj ]) (by simp (disch := first | decide | omega) only [stI1, stI2, stp_eq, stp_row, stp_ne, stp_nj ]; exact W.sp), S.h16 hk⟩
theorem SyR.fr1 (S : Sta w v m C nP s t) (H : SyR w v m C c F K L k s t) (h11 : w.op k ≠ 11) {y : Nat} (hy : v.hi k = y + 1) {x : Int32} : FrR w v m C c F K L k y s (stI (stI t 33 c x) 0 23 (nI (L c + (m.loc (F c) + y)))) := by
  have hk := H.tp.kC
  have W := H.wn h11
  have h16 := S.h16 hk
  exact ⟨H.cf.cg S (by simp (disch := first | decide | omega) only [stI1, stI2, stp_eq, stp_row, stp_ne, stp_nj ]) (by simp (disch := first | decide | omega) only [stI1, stI2, stp_eq, stp_row, stp_ne, stp_nj ]) (by simp (disch := first | decide | omega) only [stI1, stI2, stp_eq, stp_row, stp_ne, stp_nj ]) (by simp (disch := first | decide | omega) only [stI1, stI2, stp_eq, stp_row, stp_ne, stp_nj ]) (by simp (disch := first | decide | omega) only [stI1, stI2, stp_eq, stp_row, stp_ne, stp_nj ]) (fun i hi => by simp (disch := first | decide | omega) only [stI1, stI2, stp_eq, stp_row, stp_ne, stp_nj ]) rfl rfl rfl rfl rfl (fun _ _ => rfl) (fun _ _ => by simp (disch := first | decide | omega) only [stI1, stI2, stp_eq, stp_row, stp_ne, stp_nj ]), hk, H.lo h11, H.tp.fn, W.cut (by omega) rfl (by simp (disch := first | decide | omega) only [stI1, stI2, stp_eq, stp_row, stp_ne, stp_nj ]) (by simp (disch := first | decide | omega) only [stI1, stI2, stp_eq, stp_row, stp_ne, stp_nj ]), by omega⟩
theorem rt_12 (S : Sta w v m C nP s t) (R : RCr w v m C bgf lsf s t) (H : SyR w v m C c F K L k s t) (D : DR nG me mx s t p) (h : w.op k = 12) : ∃ s' r t1, f_RE_step s = some s' ∧ f_M_perform (nI k) t = some (r, t1) ∧ OutR w v m C nG me mx s t s' r t1 := by
  have hk := H.tp.kC
  have c8 := H.cf.c8
  have hlo := H.lo (by omega)
  obtain ⟨W4', hl⟩ := H.w4 R (by omega)
  obtain ⟨b1, b2⟩ := ((S.H.sr k hk).wt hlo).t12 h
  rw [H.tp.fn] at b2
  rw [X2w, if_pos (Or.inl h), X3w, if_pos (Or.inl h)] at W4'
  have kp0 : KP s t s (stI t 33 c (nI (k + 1))) := (KP.refl s t).pm (by decide)
  obtain ⟨s', t1, g1, g2, g5, k2, g6⟩ := brR (S.rg kp0.x kp0.m) (R.rg kp0.x kp0.m) (H.fr S (by omega) (x := nI (k + 1))) b1 b2 hl W4'
  rw [st_r S R H (by omega) (by omega), mc_br S hk h H.cf.cc (by omega), g2, bd1_some, f_RE_control, lt1, lt1, if_neg (show ¬ nI (w.op k) = 0 by rw [h]; decide), if_neg (show ¬ nI (w.op k) = 4 by rw [h]; decide), if_pos (show nI (w.op k) = 12 by rw [h]; rfl), H.tp.nx, g1, bd1_some, f_RE_control_212]
  exact ⟨_, _, _, rfl, rfl, OutR.ok D (kp0.trans g5) (j := 0) (by omega) (fun n => rfl) (Or.inl ⟨_, _, _, _, _, g6⟩)⟩
theorem rt_13 (S : Sta w v m C nP s t) (R : RCr w v m C bgf lsf s t) (H : SyR w v m C c F K L k s t) (D : DR nG me mx s t p) (h : w.op k = 13) : ∃ s' r t1, f_RE_step s = some s' ∧ f_M_perform (nI k) t = some (r, t1) ∧ OutR w v m C nG me mx s t s' r t1 := by
  have hk := H.tp.kC
  have c1 := H.cf.c1; have c8 := H.cf.c8
  have hlo := H.lo (by omega)
  obtain ⟨W4', hl⟩ := H.w4 R (by omega)
  obtain ⟨b1, b2, b3⟩ := ((S.H.sr k hk).wt hlo).t13 h
  rw [H.tp.fn] at b2
  have h16 := S.h16 hk
  obtain ⟨f1, f2, f3⟩ := H.cf.f c c1 (Nat.le_refl _)
  have hp := S.E.p4 _ f3
  have lc := H.cf.lc S
  obtain ⟨y, hy⟩ : ∃ y, v.hi k = y + 1 := ⟨v.hi k - 1, by omega⟩
  have W := H.wn (by omega)
  rw [hy] at W
  have ev := W.eq (m.loc (F c) + y) (by omega)
  rw [X2w, if_pos (Or.inr h), X3w, if_pos (Or.inr h)] at W4'
  have kp0 : KP s t s (stI (stI t 33 c (nI (k + 1))) 0 23 (nI (L c + (m.loc (F c) + y)))) := ((KP.refl s t).pm (by decide)).p0 (by decide)
  obtain ⟨s', t1, g1, g2, g5, k2, g6⟩ := brR (S.rg kp0.x kp0.m) (R.rg kp0.x kp0.m) (H.fr1 S (by omega) hy (x := nI (k + 1))) b1 (by omega) hl W4'
  rw [st_r S R H (by omega) (by omega), mc_bif S hk h H.cf.cc (by omega) (q := L c + (m.loc (F c) + y)) (by rw [W.sp]; rfl) (by omega), f_RE_control, hy, nsub1 (by omega), lt1, show 28 * (c - 1) + (m.loc (F c) + (y + 1)) - 1 = 28 * (c - 1) + (m.loc (F c) + y) by omega, rGet_n (by omega) (by decide), ev, lt1, if_neg (show ¬ nI (w.op k) = 0 by rw [h]; decide), if_neg (show ¬ nI (w.op k) = 4 by rw [h]; decide), if_neg (show ¬ nI (w.op k) = 12 by rw [h]; decide), if_pos (show nI (w.op k) = 13 by rw [h]; rfl), H.tp.nx, lt1, lt1, lt1, g1, g2, bd1_some, bd1_some, f_RE_control_212, f_RE_control_212]
  by_cases hx : t.1 35 (L c + (m.loc (F c) + y)) = 0
  · rw [if_pos hx, if_pos hx, nI_1, ← ent_1 hlo (by omega) (by omega)]
    obtain ⟨a2, a3⟩ := S.lastC hk (fun q => by omega)
    have lo1 := lo_n S hk hlo (by unfold lead; omega)
    have ha := ht_a S a2 lo1
    rw [a3, H.tp.fn, b3, hy, Nat.add_sub_cancel] at ha
    obtain ⟨y1, y2⟩ := H.cf.toR S (k2 := k + 1) (s' := stp s 7 2 (nI (ent w v (k + 1)))) (t' := stI (stI t 33 c (nI (k + 1))) 0 23 (nI (L c + (m.loc (F c) + y)))) a2 (by rw [a3]; exact H.tp.fn) (Or.inl lo1) (fun j hj => by simp (disch := first | decide | omega) only [stI1, stI2, stp_eq, stp_row, stp_ne, stp_nj ]) (by simp (disch := first | decide | omega) only [stI1, stI2, stp_eq, stp_row, stp_ne, stp_nj ]) (fun a a1 _ => by simp (disch := first | decide | omega) only [stI1, stI2, stp_eq, stp_row, stp_ne, stp_nj ]) (((WJ.refl _ _ _).p33).p0) (by simp (disch := first | decide | omega) only [stI1, stI2, stp_eq, stp_row, stp_ne, stp_nj ]) (Or.inl (by rw [ha]; exact W.cut (by omega) (by simp (disch := first | decide | omega) only [stI1, stI2, stp_eq, stp_row, stp_ne, stp_nj ]) (by simp (disch := first | decide | omega) only [stI1, stI2, stp_eq, stp_row, stp_ne, stp_nj ]) (by simp (disch := first | decide | omega) only [stI1, stI2, stp_eq, stp_row, stp_ne, stp_nj ]))) (fun j _ => by simp (disch := first | decide | omega) only [stI1, stI2, stp_eq, stp_row, stp_ne, stp_nj ])
    exact ⟨_, _, _, rfl, rfl, OutR.ok D y2 (j := 0) (by omega) (fun n => rfl) (Or.inl ⟨_, _, _, _, _, y1⟩)⟩
  · rw [if_neg hx, if_neg hx]
    exact ⟨_, _, _, rfl, rfl, OutR.ok D (kp0.trans g5) (j := 0) (by omega) (fun n => rfl) (Or.inl ⟨_, _, _, _, _, g6⟩)⟩
theorem rt_14 (S : Sta w v m C nP s t) (R : RCr w v m C bgf lsf s t) (H : SyR w v m C c F K L k s t) (D : DR nG me mx s t p) (h : w.op k = 14) : ∃ s' r t1, f_RE_step s = some s' ∧ f_M_perform (nI k) t = some (r, t1) ∧ OutR w v m C nG me mx s t s' r t1 := by
  have hk := H.tp.kC
  have c1 := H.cf.c1; have c8 := H.cf.c8
  have hlo := H.lo (by omega)
  obtain ⟨W4', hl⟩ := H.w4 R (by omega)
  have ha8 := (S.kn hk).2.tab h
  have T := (S.H.sr k hk).wt hlo
  have h16 := S.h16 hk
  obtain ⟨f1, f2, f3⟩ := H.cf.f c c1 (Nat.le_refl _)
  have hp := S.E.p4 _ f3
  have lc := H.cf.lc S
  have b00 := T.t14 h 0 (Nat.zero_le _)
  obtain ⟨y, hy⟩ : ∃ y, v.hi k = y + 1 := ⟨v.hi k - 1, by omega⟩
  have W := H.wn (by omega)
  rw [hy] at W
  have ev := W.eq (m.loc (F c) + y) (by omega)
  obtain ⟨x, hx, ex⟩ := wb_of32 (t.1 35 (L c + (m.loc (F c) + y)))
  have hmin : min x (w.a k) ≤ w.a k := Nat.min_le_right _ _
  obtain ⟨b1, b2⟩ := T.t14 h (min x (w.a k)) hmin
  rw [H.tp.fn] at b2
  have kp0 : KP s t s (stI (stI t 33 c (nI (k + 1))) 0 23 (nI (L c + (m.loc (F c) + y)))) := ((KP.refl s t).pm (by decide)).p0 (by decide)
  have Wt := R.tb k hk hlo h (min x (w.a k)) hmin
  rw [hy, H.tp.fn, show m.loc (F c) + (y + 1) - 1 = m.loc (F c) + y by omega, ← H.tp.fn] at Wt
  have hlt := (R.lt hk (Or.inl ⟨hlo, by omega⟩)).1
  rw [cst, if_neg (by omega), if_pos hlo, if_pos h] at hlt
  obtain ⟨s', t1, g1, g2, g5, k2, g6⟩ := brR (S.rg kp0.x kp0.m) (R.rg kp0.x kp0.m) (H.fr1 S (by omega) hy (x := nI (k + 1))) b1 (by omega) (by omega) Wt
  have x2 : X2w w v bgf lsf k = nI (w.a k) := by rw [X2w, if_neg (by omega), if_neg (by omega), if_neg (by omega), if_neg (by omega), if_neg (by omega), xF, if_neg (by omega), if_neg (by omega)]
  have e32 : ∀ j, j = min x (w.a k) → f_RE_branchByTable_32 (nI x) (nI (w.a k)) (nI (ent w v k + 1)) (nI j) s = some s' := by
    intro j hj
    rw [hj, f_RE_branchByTable_32, nI_add, lt1, wd_1 Wt (by omega), bd1_some, H.cf.x1, nI_add, lt1, show 28 * (c - 1) + (m.loc (w.fn k) + y) = 28 * (c - 1) + (m.loc (F c) + y) by rw [H.tp.fn], g1, bd1_some]
  have ebt : f_RE_branchByTable (nI x) s = some s' := by
    rw [f_RE_branchByTable, H.tp.nx, wd_2 W4' hl, bd1_some, x2, nI_1, lt1, abv_u hx (by omega), bd1_some]
    by_cases q : x ≤ w.a k
    · rw [if_pos q, if_pos rfl, e32 x (by omega)]
    · rw [if_neg q, if_neg (by decide), e32 (w.a k) (by omega)]
  rw [st_r S R H (by omega) (by omega), mc_tab S hk h H.cf.cc (by omega) (q := L c + (m.loc (F c) + y)) (by rw [W.sp]; rfl) (by omega) hx ex, f_RE_control, hy, nsub1 (by omega), lt1, show 28 * (c - 1) + (m.loc (F c) + (y + 1)) - 1 = 28 * (c - 1) + (m.loc (F c) + y) by omega, rGet_n (by omega) (by decide), ev, lt1, if_neg (show ¬ nI (w.op k) = 0 by rw [h]; decide), if_neg (show ¬ nI (w.op k) = 4 by rw [h]; decide), if_neg (show ¬ nI (w.op k) = 12 by rw [h]; decide), if_neg (show ¬ nI (w.op k) = 13 by rw [h]; decide), if_pos (show nI (w.op k) = 14 by rw [h]; rfl), ex, ebt, g2, bd1_some, bd1_some, f_RE_control_212]
  exact ⟨_, _, _, rfl, rfl, OutR.ok D (kp0.trans g5) (j := 0) (by omega) (fun n => rfl) (Or.inl ⟨_, _, _, _, _, g6⟩)⟩
theorem rt_15 (S : Sta w v m C nP s t) (R : RCr w v m C bgf lsf s t) (H : SyR w v m C c F K L k s t) (D : DR nG me mx s t p) (h : w.op k = 15) : ∃ s' r t1, f_RE_step s = some s' ∧ f_M_perform (nI k) t = some (r, t1) ∧ OutR w v m C nG me mx s t s' r t1 := by
  have hk := H.tp.kC
  have c1 := H.cf.c1; have c8 := H.cf.c8
  have hlo := H.lo (by omega)
  obtain ⟨W4', hl⟩ := H.w4 R (by omega)
  have b2 := ((S.H.sr k hk).wt hlo).t15 h
  rw [H.tp.fn] at b2
  obtain ⟨f1, f2, f3⟩ := H.cf.f c c1 (Nat.le_refl _)
  have hp := S.E.p4 _ f3
  have lc := H.cf.lc S
  have h16 := S.h16 hk
  have W := H.wn (by omega)
  have Fs := R.fs (w.fn k) (S.lt k hk)
  have x3 : X3w w v m k = m.res (F c) := by rw [X3w, if_neg (by omega), if_neg (by omega), if_pos (Or.inl h), H.tp.fn]
  have kp0 : KP s t s (stI (stI t 33 c (nI (k + 1))) 33 c (nI (lsf (w.fn k)))) := ((KP.refl s t).pm (by decide)).pm (by decide)
  have S1 := S.rg kp0.x kp0.m
  have cf1 : CF w v m C 7 44 46 (ent w v) c F K L s (stI (stI t 33 c (nI (k + 1))) 33 c (nI (lsf (w.fn k)))) := H.cf.cg S (by simp (disch := first | decide | omega) only [stI1, stI2, stp_eq, stp_row, stp_ne, stp_nj ]) (by simp (disch := first | decide | omega) only [stI1, stI2, stp_eq, stp_row, stp_ne, stp_nj ]) (by simp (disch := first | decide | omega) only [stI1, stI2, stp_eq, stp_row, stp_ne, stp_nj ]) (by simp (disch := first | decide | omega) only [stI1, stI2, stp_eq, stp_row, stp_ne, stp_nj ]) (by simp (disch := first | decide | omega) only [stI1, stI2, stp_eq, stp_row, stp_ne, stp_nj ]) (fun i hi => by simp (disch := first | decide | omega) only [stI1, stI2, stp_eq, stp_row, stp_ne, stp_nj ]) rfl rfl rfl rfl rfl (fun _ _ => rfl) (fun _ _ => by simp (disch := first | decide | omega) only [stI1, stI2, stp_eq, stp_row, stp_ne, stp_nj ])
  obtain ⟨s', t2, r, g1, g2, g3, g4⟩ := lvR S1 cf1 (T := 28 * (c - 1) + (m.loc (F c) + v.hi k)) (q := L c + (m.loc (F c) + v.hi k) - 1) (by omega) (by omega) (fun z => by simp (disch := first | decide | omega) only [stI1, stI2, stp_eq, stp_row, stp_ne, stp_nj ]; rw [W.sp]; exact congrArg nI (by omega)) (by omega) (fun z => by
    have := W.eq (m.loc (F c) + v.hi k - 1) (by omega)
    simp (disch := first | decide | omega) only [stI1, stI2, stp_eq, stp_row, stp_ne, stp_nj ]
    rw [show 28 * (c - 1) + (m.loc (F c) + v.hi k) - 1 = 28 * (c - 1) + (m.loc (F c) + v.hi k - 1) by omega, show L c + (m.loc (F c) + v.hi k) - 1 = L c + (m.loc (F c) + v.hi k - 1) by omega]
    exact this)
  rw [st_r S R H (by omega) (by omega), mc_ret S hk h H.cf.cc (by omega) (by rw [H.tp.fn]; exact f1) Fs, f_RE_control, lt1, lt1, if_neg (show ¬ nI (w.op k) = 0 by rw [h]; decide), if_neg (show ¬ nI (w.op k) = 4 by rw [h]; decide), if_neg (show ¬ nI (w.op k) = 12 by rw [h]; decide), if_neg (show ¬ nI (w.op k) = 13 by rw [h]; decide), if_neg (show ¬ nI (w.op k) = 14 by rw [h]; decide), if_pos (show nI (w.op k) = 15 by rw [h]; rfl), f_RE_leave, H.tp.nx, wd_1 W4' hl, bd1_some, H.cf.x1, nI_add, lt1, wd_3 W4' hl, bd1_some, x3, g1, bd_some, bd1_some, f_RE_control_212]
  refine ⟨_, _, _, rfl, rfl, OutR.ok D (kp0.trans g3) (j := 1) (by omega) (fun n => ?_) ?_⟩
  · rw [ms_leave S1 cf1.ru cf1.cc (by omega) (by simp (disch := first | decide | omega) only [stI1, stI2, stp_eq, stp_row, stp_ne, stp_nj ]) Fs.lC Fs.ol Fs.il (cf1.f c c1 (Nat.le_refl _)).1 (by rw [Fs.fn _ Fs.bl (Nat.le_refl _)]; exact H.tp.fn), g2, bd1_some]
  · rcases g4 with ⟨_, q⟩ | q
    · exact Or.inl ⟨_, _, _, _, _, q⟩
    · exact Or.inr q
theorem rt_16 (S : Sta w v m C nP s t) (R : RCr w v m C bgf lsf s t) (H : SyR w v m C c F K L k s t) (D : DR nG me mx s t p) (h : w.op k = 16) : ∃ s' r t1, f_RE_step s = some s' ∧ f_M_perform (nI k) t = some (r, t1) ∧ OutR w v m C nG me mx s t s' r t1 := by
  have hk := H.tp.kC
  have c1 := H.cf.c1; have c8 := H.cf.c8
  have hC := S.hC
  have hF8 := S.E.nF8
  have hlo := H.lo (by omega)
  obtain ⟨W4', hl⟩ := H.w4 R (by omega)
  have T := (S.H.sr k hk).wt hlo
  obtain ⟨q1, q2, q3⟩ := T.t16 h
  have hpa := S.E.p4 _ q1
  have h16 := S.h16 hk
  obtain ⟨f1, f2, f3⟩ := H.cf.f c c1 (Nat.le_refl _)
  have hp := S.E.p4 _ f3
  have lc := H.cf.lc S
  have W := H.wn (by omega)
  have x2 : X2w w v bgf lsf k = nI (ent w v (bgf (w.a k))) := by rw [X2w, if_neg (by omega), if_neg (by omega), if_neg (by omega), if_pos h]
  have x3 : X3w w v m k = m.par (w.a k) := by rw [X3w, if_neg (by omega), if_pos h]
  have cx : f_RE_control (nI (w.op k)) (nI (28 * (c - 1) + (m.loc (F c) + v.hi k))) s = bd (f_Eng_openFrom_R (nI (28 * (c - 1) + (m.loc (F c) + v.hi k))) (nI (m.par (w.a k))) s) fun r5 s4 => if r5 = 0 then some s4 else some (stp s4 7 2 (nI (ent w v (bgf (w.a k))))) := by
    rw [f_RE_control, lt1, lt1, if_neg (show ¬ nI (w.op k) = 0 by rw [h]; decide), if_neg (show ¬ nI (w.op k) = 4 by rw [h]; decide), if_neg (show ¬ nI (w.op k) = 12 by rw [h]; decide), if_neg (show ¬ nI (w.op k) = 13 by rw [h]; decide), if_neg (show ¬ nI (w.op k) = 14 by rw [h]; decide), if_neg (show ¬ nI (w.op k) = 15 by rw [h]; decide), if_pos (show nI (w.op k) = 16 by rw [h]; rfl), f_RE_call, H.tp.nx, wd_2 W4' hl, bd1_some, wd_3 W4' hl, bd1_some, x2, x3]
    generalize f_Eng_openFrom_R (nI (28 * (c - 1) + (m.loc (F c) + v.hi k))) (nI (m.par (w.a k))) s = o
    cases o with
    | none => rfl
    | some z =>
      obtain ⟨z1, z2⟩ := z
      rw [bd_some, bd_some]
      by_cases e : z1 = 0
      · rw [if_pos e, if_pos e, f_RE_call_38, bd1_some, f_RE_control_212]
      · rw [if_neg e, if_neg e, lt1, f_RE_call_38, bd1_some, f_RE_control_212]
  rw [st_r S R H (by omega) (by omega), cx]
  by_cases e8 : c = 8
  · rw [mc_8 S hk h (by rw [H.cf.cc, e8]), f_Eng_openFrom_R, H.cf.x0, if_neg (show ¬ nI c < 8 by rw [e8]; decide), lt1, bz0, bd_some, if_pos rfl]
    exact ⟨_, _, _, rfl, rfl, Or.inr ⟨Or.inr (Or.inr (Or.inr (Or.inr rfl))), by simp (disch := first | decide | omega) only [stI1, stI2, stp_eq, stp_row, stp_ne, stp_nj ], (RXf.refl s).p (by decide), RMf.refl t, p, D.cg (by simp (disch := first | decide | omega) only [stI1, stI2, stp_eq, stp_row, stp_ne, stp_nj ]) (by simp (disch := first | decide | omega) only [stI1, stI2, stp_eq, stp_row, stp_ne, stp_nj ]) (by simp (disch := first | decide | omega) only [stI1, stI2, stp_eq, stp_row, stp_ne, stp_nj ]) rfl rfl rfl rfl rfl⟩⟩
  · have h8 : c < 8 := by omega
    obtain ⟨bg, ls, Fs, hb0, lb0⟩ := S.fs (w.a k) q1
    have hbC : bg < C := by have := Fs.lC; have := Fs.bl; omega
    have ebg : bgf (w.a k) = bg := by
      have Fs2 := R.fs (w.a k) q1
      have := Fs2.x2.symm.trans Fs.x2
      exact (nI_eq (by have := Fs2.bl; have := Fs2.lC; omega) (by omega)).mp this
    have fbg : w.fn bg = w.a k := Fs.fn bg (Nat.le_refl _) Fs.bl
    obtain ⟨s1, o1, o2, o3, o4, o5, o6, o7, o8, o9⟩ := opf_R (s := s) (c := c) (p := m.par (w.a k)) (T := 28 * (c - 1) + (m.loc (F c) + v.hi k)) (nx := ent w v k) H.cf.x0 c1 h8 H.tp.nx (by omega) (by omega) (by omega)
    rw [← ent_1 hlo (by omega) (by omega)] at o5
    obtain ⟨t1, u1, u2, u3, u4, u5, u6, u7, u8, u9, u10, u11⟩ := enter_m (m := m) (s := s) (t := stI t 33 c (nI (k + 1))) (S.E.rg (fun _ _ => rfl) ((RMf.refl t).p (by decide))) (f := w.a k) (c := c) (q := L c + (m.loc (F c) + v.hi k)) (bg := bg) q1 (by simp (disch := first | decide | omega) only [stI1, stI2, stp_eq, stp_row, stp_ne, stp_nj ]; exact H.cf.cc) (by omega) (by simp (disch := first | decide | omega) only [stI1, stI2, stp_eq, stp_row, stp_ne, stp_nj ]; exact Fs.m22) (by simp (disch := first | decide | omega) only [stI1, stI2, stp_eq, stp_row, stp_ne, stp_nj ]; exact W.sp) (by omega) (by omega)
    rw [o1, bd_some, if_neg (by decide), ebg, mc_call S hk h H.cf.cc h8, u1, bd1_some]
    have hb := ht_a S hbC lb0
    rw [fbg, hb0] at hb
    obtain ⟨a2, a3⟩ := S.lastC hk (fun q => by omega)
    refine ⟨_, _, _, rfl, rfl, OutR.ok D (j := 0) (t2 := t1) ?_ (by omega) (fun n => rfl) (Or.inl ⟨c + 1, fu F (c + 1) (w.a k), fu K c (k + 1), fu L (c + 1) (L c + (m.loc (F c) + v.hi k) - m.par (w.a k)), bg, ?_⟩)⟩
    · refine KP.trans (s1 := stp s1 7 2 (nI (ent w v bg))) (t1 := t) (KP.xs fun a a1 a2 a3 a4 => ?_) (KP.trans ((KP.refl _ t).pm (a := 33) (j := c) (x := nI (k + 1)) (by decide)) (KP.ms u2 u3 (fun j hj => u4 j (by omega) (by omega))))
      rw [stp_ne _ _ _ a2, o7 a a2 a3 (by omega) (by omega)]
    · have la' : fu L (c + 1) (L c + (m.loc (F c) + v.hi k) - m.par (w.a k)) (c + 1) = L c + (m.loc (F c) + v.hi k) - m.par (w.a k) := fu_eq _ _ _
      have fa' : fu F (c + 1) (w.a k) (c + 1) = w.a k := fu_eq _ _ _
      refine ⟨?_, ⟨by rw [u7, pk_us], hbC, by rw [fa']; exact fbg, by simp (disch := first | decide | omega) only [stI1, stI2, stp_eq, stp_row, stp_ne, stp_nj ], Or.inl lb0⟩, Or.inl ?_⟩
      · refine H.cf.push S h8 hk h hlo H.tp.fn W (by omega) (by simp (disch := first | decide | omega) only [stI1, stI2, stp_eq, stp_row, stp_ne, stp_nj ]; exact o2) (by simp (disch := first | decide | omega) only [stI1, stI2, stp_eq, stp_row, stp_ne, stp_nj ]; exact o3) ?_ ?_ ?_ (fun j hj => ?_) u5 ?_ ?_ ?_ u8 (fun i hi => ?_) ?_ (fun i hi => ?_)
        · simp (disch := first | decide | omega) only [stI1, stI2, stp_eq, stp_row, stp_ne, stp_nj ]; rw [o4 3 (by decide)]
        · simp (disch := first | decide | omega) only [stI1, stI2, stp_eq, stp_row, stp_ne, stp_nj ]; rw [o5]
        · simp (disch := first | decide | omega) only [stI1, stI2, stp_eq, stp_row, stp_ne, stp_nj ]; rw [o6]
        · simp (disch := first | decide | omega) only [stI1, stI2, stp_eq, stp_row, stp_ne, stp_nj ]; rw [o8 j hj]
        · rw [u4 20 (by decide) (by decide)]; simp (disch := first | decide | omega) only [stI1, stI2, stp_eq, stp_row, stp_ne, stp_nj ]
        · rw [u4 21 (by decide) (by decide)]; simp (disch := first | decide | omega) only [stI1, stI2, stp_eq, stp_row, stp_ne, stp_nj ]
        · rw [u6]; simp (disch := first | decide | omega) only [stI1, stI2, stp_eq, stp_row, stp_ne, stp_nj ]
        · rw [u7, pk_un (by omega)]; simp (disch := first | decide | omega) only [stI1, stI2, stp_eq, stp_row, stp_ne, stp_nj ]
        · rw [u7, pk_un (by omega)]; simp (disch := first | decide | omega) only [stI1, stI2, stp_eq, stp_row, stp_ne, stp_nj ]
        · rw [u10 i hi]; simp (disch := first | decide | omega) only [stI1, stI2, stp_eq, stp_row, stp_ne, stp_nj ]
      · rw [la', fa', hb, Nat.add_sub_cancel]
        refine win_push (s := s) (t := stI t 33 c (nI (k + 1))) (b' := 28 * (c - 1) + m.par (w.a k) - L c) (q := 28 * (c - 1) + (m.loc (F c) + v.hi k) - m.par (w.a k)) (by omega) (S.E.rg (fun a ha => rfl) ((RMf.refl t).p (by decide))) q1 trivial (fun x hx => ?_) (fun x hx => ?_) ?_ (fun j hj => u10 j (by omega)) (fun j h1 h2 => u11 j (by omega) (by omega))
        · simp (disch := first | decide | omega) only [stI1, stI2, stp_eq, stp_row, stp_ne, stp_nj ]; rw [o9 x hx]
        · simp (disch := first | decide | omega) only [stI1, stI2, stp_eq, stp_row, stp_ne, stp_nj ]
          have := W.eq (m.loc (F c) + v.hi k - m.par (w.a k) + x) (by omega)
          rw [show 28 * (c - 1) + (m.loc (F c) + v.hi k) - m.par (w.a k) + x = 28 * (c - 1) + (m.loc (F c) + v.hi k - m.par (w.a k) + x) by omega, show L c + (m.loc (F c) + v.hi k) - m.par (w.a k) + x = L c + (m.loc (F c) + v.hi k - m.par (w.a k) + x) by omega]
          exact this
        · rw [u9]; exact congrArg nI (by omega)
theorem stepR (S : Sta w v m C nP s t) (R : RCr w v m C bgf lsf s t) (H : SyR w v m C c F K L k s t) (D : DR m.nG m.me mx s t p) (h5 : w.op k ≠ 5) (h11 : w.op k ≠ 11) : ∃ s' r t1, f_RE_step s = some s' ∧ f_M_perform (nI k) t = some (r, t1) ∧ OutR w v m C m.nG m.me mx s t s' r t1 := by
  by_cases h16 : 16 < w.op k
  · exact rt_w S R H D h16
  have hkn := (S.kn H.tp.kC).1
  unfold kno at hkn
  simp only [Bool.or_eq_true, decide_eq_true_eq] at hkn
  have : w.op k = 0 ∨ (1 ≤ w.op k ∧ w.op k ≤ 3) ∨ w.op k = 4 ∨ w.op k = 12 ∨ w.op k = 13 ∨ w.op k = 14 ∨ w.op k = 15 ∨ w.op k = 16 := by omega
  rcases this with q | q | q | q | q | q | q | q
  · exact rt_0 S R H D q
  · exact rt_1 S R H D q
  · exact rt_4 S R H D q
  · exact rt_12 S R H D q
  · exact rt_13 S R H D q
  · exact rt_14 S R H D q
  · exact rt_15 S R H D q
  · exact rt_16 S R H D q
/-- how it stands after a run -/
def EndR (w : Cd) (v : Hv) (m : Md) (C mx : Nat) (s : St) (t : SM) (r : Int32) (s' : St) (t' : SM) : Prop :=
  RXf s s' ∧ RMf t t' ∧ (∃ p, DR m.nG m.me mx s' t' p) ∧ s' 7 3 = r ∧ ((r = 0 ∧ t'.1 0 20 = 1 ∧ ∃ c F K L k, SyR w v m C c F K L k s' t') ∨ (r ≠ 0 ∧ t'.1 0 20 = 0 ∧ t'.1 0 21 = if r = 1 then s' 7 4 else 0))
theorem EndR.mono {s0 : St} {t0 : SM} {r : Int32} {s' : St} {t' : SM} (h : EndR w v m C mx s t r s' t') (hx : RXf s0 s) (hm : RMf t0 t) : EndR w v m C mx s0 t0 r s' t' := ⟨hx.trans h.1, hm.trans h.2.1, h.2.2⟩
theorem EndR.dn (D : DR m.nG m.me mx s t p) (h : Dn 7 s t) : EndR w v m C mx s t 1 s t := ⟨RXf.refl _, RMf.refl _, ⟨p, D⟩, h.1, Or.inr ⟨by decide, h.2.1, by rw [if_pos rfl]; exact h.2.2.symm⟩⟩
theorem pas_R (S : Sta w v m C nP s t) (R : RCr w v m C bgf lsf s t) (H : (∃ c F K L k, SyR w v m C c F K L k s t) ∨ Dn 7 s t) {N' : Nat} (hN' : 1930 ≤ N') : ∃ s' t', f_Eng_passAll_R s = some s' ∧ f_M_settle_2 N' 1 t = some t' ∧ KP s t s' t' ∧ ((∃ c F K L k, SyR w v m C c F K L k s' t' ∧ w.op k ≠ 5 ∧ w.op k ≠ 11) ∨ Dn 7 s' t') := by
  have hC := S.hC
  have hN := FU_9
  rw [f_Eng_passAll_R]
  rcases H with ⟨c, F, K, L, k, H⟩ | H
  · have c1 := H.cf.c1; have c8 := H.cf.c8
    obtain ⟨s', t', g1, g2, g3, g4⟩ := setR (F := F) (K := K) (L := L) 1928 c k s t 0 FU N' S R H (by omega) (by omega) (by omega) (by omega)
    refine ⟨s', t', g1, g2, g3, ?_⟩
    rcases g4 with ⟨c', k', q⟩ | q
    · exact Or.inl ⟨_, _, _, _, _, q⟩
    · exact Or.inr q
  · obtain ⟨N', rfl⟩ : ∃ q, N' = q + 1 := ⟨N' - 1, by omega⟩
    obtain ⟨M, hM, _⟩ : ∃ M, FU = M + 2 ∧ 0 ≤ M := ⟨FU - 2, by omega, by omega⟩
    refine ⟨s, t, ?_, ms_0 H.2.1, KP.refl _ _, Or.inr H⟩
    rw [hM]
    exact pr_0 (s := s) (n := 0) (by decide) (fun z => by rw [H.1] at z; exact absurd z (by decide))
theorem goR : ∀ d n N N' x1 x1' s t mF, n + d = mF → mF ≤ 100000 → d < N → d < N' → Sta w v m C nP s t → RCr w v m C bgf lsf s t → (∃ p, DR m.nG m.me mx s t p) → ((∃ c F K L k, SyR w v m C c F K L k s t ∧ w.op k ≠ 5 ∧ w.op k ≠ 11) ∨ Dn 7 s t) →
    ∃ r s' t', f_Eng_go_R_11 N x1 (nI d) s = some (r, s') ∧ f_M_run_39 N' x1' (nI mF) (nI n) t = some (r, t') ∧ EndR w v m C mx s t r s' t' := by
  intro d
  induction d with
  | zero =>
    intro n N N' x1 x1' s t mF hn hm hN hN' S R ⟨p, D⟩ H
    obtain ⟨N, rfl⟩ : ∃ q, N = q + 1 := ⟨N - 1, by omega⟩
    obtain ⟨N', rfl⟩ : ∃ q, N' = q + 1 := ⟨N' - 1, by omega⟩
    rw [f_Eng_go_R_11, if_pos (show nI 0 ≤ 0 by decide), f_Eng_go_R_36, f_M_run_39, if_pos (nI_le (by omega) (by omega)), f_M_run_94]
    simp only [f_M_run_106]
    rcases H with ⟨c, F, K, L, k, H, h5, h11⟩ | H
    · rw [if_neg (show ¬ t.1 0 20 = 0 by rw [H.cf.ru]; decide), H.cf.x3]
      exact ⟨0, s, t, rfl, rfl, RXf.refl _, RMf.refl _, ⟨p, D⟩, H.cf.x3, Or.inl ⟨rfl, H.cf.ru, _, _, _, _, _, H⟩⟩
    · rw [if_pos H.2.1, H.1]
      exact ⟨1, s, t, rfl, rfl, EndR.dn D H⟩
  | succ d ih =>
    intro n N N' x1 x1' s t mF hn hm hN hN' S R ⟨p, D⟩ H
    obtain ⟨N, rfl⟩ : ∃ q, N = q + 1 := ⟨N - 1, by omega⟩
    obtain ⟨N', rfl⟩ : ∃ q, N' = q + 1 := ⟨N' - 1, by omega⟩
    rw [f_Eng_go_R_11, if_neg (show ¬ nI (d + 1) ≤ 0 from nI_ge (a := 0) (by omega) (by omega)), f_M_run_39, if_neg (nI_ge (by omega) (by omega))]
    rcases H with ⟨c, F, K, L, k, H, h5, h11⟩ | H
    · have c1 := H.cf.c1; have c8 := H.cf.c8
      rw [if_pos H.cf.x3, if_neg (show ¬ t.1 0 20 = 0 by rw [H.cf.ru]; decide), H.cf.cc, gi_n (show c < 9 by omega) (by decide), nI_clamp (by omega), H.tp.pk, lt1]
      obtain ⟨s1, r, t1, g1, g2, g3⟩ := stepR S R H D h5 h11
      rw [g1, g2, bd1_some, bd_some]
      rcases g3 with ⟨hr, t2, j, hj, hs, hx, hm2, hD, hH⟩ | ⟨hr, h63, hx, hm2, hD⟩
      · have hN := FU_9
        obtain ⟨s2, t3, e1, e2, e3, e4⟩ := pas_R (S.rg hx hm2) (R.rg hx hm2) hH (N' := FU - j) (by omega)
        have em : f_M_settle t1 = some t3 := by
          rw [f_M_settle, show FU = FU - j + j by omega, hs, e2]
        obtain ⟨p2, D2⟩ := hD
        obtain ⟨r', s', t', i1, i2, i3⟩ := ih (n + 1) N N' x1 x1' s2 t3 mF (by omega) hm (by omega) (by omega) (S.rg (hx.trans e3.x) (hm2.trans e3.m)) (R.rg (hx.trans e3.x) (hm2.trans e3.m)) ⟨p2, D2.kp e3⟩ e4
        rw [e1, bd1_some, show nI (d + 1) + (-1) = nI d from pk_m1 d, lt1, i1, hr, if_pos (by decide), em, bd1_some, nI_1, lt1, i2]
        exact ⟨r', s', t', rfl, rfl, i3.mono (hx.trans e3.x) (hm2.trans e3.m)⟩
      · have hrn : ¬ r = 0 := by rcases hr with q | q | q | q | q <;> rw [q] <;> decide
        have hr0 : ¬ r ≤ 0 := by rcases hr with q | q | q | q | q <;> rw [q] <;> decide
        have hr1 : ¬ r = 1 := by rcases hr with q | q | q | q | q <;> rw [q] <;> decide
        have hN := FU_9
        obtain ⟨M, hM⟩ : ∃ M, FU = M + 2 := ⟨FU - 2, by omega⟩
        have ep : f_Eng_passAll_R s1 = some s1 := by
          rw [f_Eng_passAll_R, hM]
          exact pr_0 (s := s1) (n := 0) (by decide) (fun z => absurd (h63.symm.trans z) hrn)
        rw [ep, bd1_some, lt1, if_neg hr0, lt1, lt1]
        obtain ⟨N, rfl⟩ : ∃ q, N = q + 1 := ⟨N - 1, by omega⟩
        have eg : f_Eng_go_R_11 (N + 1) x1 (nI (d + 1) + -1) s1 = some (r, s1) := by
          rw [f_Eng_go_R_11, f_Eng_go_R_36, if_neg (show ¬ s1 7 3 = 0 by rw [h63]; exact hrn), h63, ite_self]
        rw [eg]
        obtain ⟨p2, D2⟩ := hD
        exact ⟨r, s1, _, rfl, rfl, hx, (hm2.p0 (by decide)).p0 (by decide), ⟨p2, D2.cg rfl rfl rfl (by simp (disch := first | decide | omega) only [stI1, stI2, stp_eq, stp_row, stp_ne, stp_nj ]) (by simp (disch := first | decide | omega) only [stI1, stI2, stp_eq, stp_row, stp_ne, stp_nj ]) (by simp (disch := first | decide | omega) only [stI1, stI2, stp_eq, stp_row, stp_ne, stp_nj ]) (by simp (disch := first | decide | omega) only [stI1, stI2, stp_eq, stp_row, stp_ne, stp_nj ]) rfl⟩, h63, Or.inr ⟨hrn, by simp (disch := first | decide | omega) only [stI1, stI2, stp_eq, stp_row, stp_ne, stp_nj ], by simp (disch := first | decide | omega) only [stI1, stI2, stp_eq, stp_row, stp_ne, stp_nj ]; rw [if_neg hr1]⟩⟩
    · rw [if_neg (show ¬ s 7 3 = 0 by rw [H.1]; decide), f_Eng_go_R_36, if_pos H.2.1, f_M_run_94, if_pos H.2.1, f_M_run_106, H.1]
      exact ⟨1, s, t, rfl, rfl, EndR.dn D H⟩
end RGO
