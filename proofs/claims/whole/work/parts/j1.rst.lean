-- running: steps of the register engine
def OutR (w : Cd) (v : Hv) (m : Md) (C nG me mx : Nat) (s : St) (t : SM) (s' : St) (r : Int32) (t1 : SM) : Prop :=
  (r = 0 ∧ ∃ t2 j, j ≤ 1 ∧ (∀ n, f_M_settle_2 (n + j) 1 t1 = f_M_settle_2 n 1 t2) ∧ RXf s s' ∧ RMf t t2 ∧ (∃ p, DR nG me mx s' t2 p) ∧ ((∃ c F K L k, SyR w v m C c F K L k s' t2) ∨ Dn 7 s' t2)) ∨
  ((r = 2 ∨ r = 3 ∨ r = 4 ∨ r = 5 ∨ r = 6) ∧ s' 7 3 = r ∧ RXf s s' ∧ RMf t t1 ∧ ∃ p, DR nG me mx s' t1 p)
theorem lf_b : ∀ z, z < 64 → (nI z &&& 1 = nI (z % 2)) ∧ (nI z >>> (1 &&& 31) = nI (z / 2)) := by decide +kernel
section RST
variable {w : Cd} {v : Hv} {m : Md} {C nP : Nat} {c : Nat} {F K L : Nat → Nat} {k : Nat} {s : St} {t : SM} {nG me mx p : Nat} {bgf lsf : Nat → Nat}
theorem OutR.ok {s' : St} {t1 t2 : SM} {j : Nat} (D : DR nG me mx s t p) (kp : KP s t s' t2) (hj : j ≤ 1) (hs : ∀ n, f_M_settle_2 (n + j) 1 t1 = f_M_settle_2 n 1 t2) (h : (∃ c F K L k, SyR w v m C c F K L k s' t2) ∨ Dn 7 s' t2) : OutR w v m C nG me mx s t s' 0 t1 :=
  Or.inl ⟨rfl, t2, j, hj, hs, kp.x, kp.m, ⟨p, D.kp kp⟩, h⟩
theorem CF.toR {s' : St} {t' : SM} {k2 : Nat} (S : Sta w v m C nP s t) (H : CF w v m C 7 44 46 (ent w v) c F K L s t) (h2C : k2 < C) (hfn : w.fn k2 = F c) (al : v.lo k2 = 0 ∨ (w.op k2 = 11 ∧ (w.ins k2 ≠ 0 → v.lo (w.ins k2 - 1) = 0)))
    (x6 : ∀ j, j = 0 ∨ j = 1 ∨ j = 3 → s' 7 j = s 7 j) (x2 : s' 7 2 = nI (ent w v k2)) (hx : ∀ a, a ≠ 7 → a ≠ 36 → s' a = s a)
    (J : WJ (L c) c t t') (p33 : t'.1 33 c = nI k2) (win : Win (28 * (c - 1)) (L c) (m.loc (F c) + ht w v (m.res (F c)) k2) s' t' ∨ (w.op k2 = 11 ∧ w.ins k2 = 0 ∧ ∃ q : Nat, (m.res (F c) ≠ 0 → t'.1 0 23 = nI (q + 1)) ∧ q < 399 ∧ (m.res (F c) ≠ 0 → s' 36 (28 * (c - 1) + (m.loc (F c) + m.res (F c)) - 1) = t'.1 35 q))) (b36 : ∀ j, j < 28 * (c - 1) → s' 36 j = s 36 j) : SyR w v m C c F K L k2 s' t' ∧ KP s t s' t' := by
  refine ⟨⟨H.cg S (J.w.z 22 (by decide) (by decide)) (J.w.z 20 (by decide) (by decide)) (J.w.z 21 (by decide) (by decide)) (J.w.o 32 (by decide) (by decide) (by decide) (by decide) (by decide)) (J.w.o 34 (by decide) (by decide) (by decide) (by decide) (by decide)) J.w.p (x6 0 (by omega)) (x6 1 (by omega)) (x6 3 (by omega)) (hx 44 (by decide) (by decide)) (hx 46 (by decide) (by decide)) b36 J.w.k, ⟨p33, h2C, hfn, x2, al⟩, win⟩, ?_⟩
  exact KP.trans (KP.xs fun a _ a1 a2 _ => hx a a1 a2) (KP.wj J)
theorem SyR.lo (H : SyR w v m C c F K L k s t) (h11 : w.op k ≠ 11) : v.lo k = 0 := by rcases H.tp.al with q | q; exact q; exact absurd q.1 h11
theorem SyR.wn (H : SyR w v m C c F K L k s t) (h11 : w.op k ≠ 11) : Win (28 * (c - 1)) (L c) (m.loc (F c) + v.hi k) s t := by
  have hht : ht w v (m.res (F c)) k = v.hi k := by unfold ht; rw [if_neg h11]
  rcases H.win with q | q
  · rw [hht] at q; exact q
  · exact absurd q.1 h11
theorem SyR.w4 (R : RCr w v m C bgf lsf s t) (H : SyR w v m C c F K L k s t) (h11 : w.op k ≠ 11) : W4 (s 30) (ent w v k) (w.op k) (m.loc (F c) + v.hi k) (X2w w v bgf lsf k) (X3w w v m k) ∧ ent w v k < 240 := by
  have hE : hasE w v k := Or.inl ⟨H.lo h11, h11⟩
  have W := R.wd k H.tp.kC hE
  rw [X1w, if_neg h11, H.tp.fn] at W
  exact ⟨W, (R.lt H.tp.kC hE).2⟩
theorem ent_1 (hlo : v.lo k = 0) (h11 : w.op k ≠ 11) (h14 : w.op k ≠ 14) : ent w v (k + 1) = ent w v k + 1 := by
  rw [ent_s, cst, if_neg h11, if_pos hlo, if_neg h14]
theorem st_r (S : Sta w v m C nP s t) (R : RCr w v m C bgf lsf s t) (H : SyR w v m C c F K L k s t) (h : w.op k < 17) (h11 : w.op k ≠ 11) : f_RE_step s = f_RE_control (nI (w.op k)) (nI (28 * (c - 1) + (m.loc (F c) + v.hi k))) s := by
  obtain ⟨W, hl⟩ := H.w4 R h11
  have kn := S.kn H.tp.kC
  rw [f_RE_step, H.tp.nx, wd_0 W hl, bd1_some, wd_1 W hl, bd1_some, H.cf.x1, nI_add, lt1, ic_x _ (by omega) kn.1, bd1_some, if_pos h, if_neg (by decide)]
  cases f_RE_control (nI (w.op k)) (nI (28 * (c - 1) + (m.loc (F c) + v.hi k))) s <;> rfl
/-- an instruction that is not of control -/
theorem rt_w (S : Sta w v m C nP s t) (R : RCr w v m C bgf lsf s t) (H : SyR w v m C c F K L k s t) (D : DR m.nG m.me mx s t p) (h16 : 16 < w.op k) : ∃ s' r t1, f_RE_step s = some s' ∧ f_M_perform (nI k) t = some (r, t1) ∧ OutR w v m C m.nG m.me mx s t s' r t1 := by
  have hk := H.tp.kC
  have hC := S.hC
  obtain ⟨W4', hl⟩ := H.w4 R (by omega)
  obtain ⟨kn, ok⟩ := S.kn hk
  have c1 := H.cf.c1; have c8 := H.cf.c8
  obtain ⟨f1, f2, f3⟩ := H.cf.f c c1 (Nat.le_refl _)
  have hp := S.E.p4 _ f3
  have lc := H.cf.lc S
  have hlo := H.lo (by omega)
  have T := (S.H.sr k hk).wt hlo
  obtain ⟨pn1, pn2⟩ := T.pn h16
  obtain ⟨a2, a3⟩ := S.lastC hk (fun q => by omega)
  have h16' := S.h16 a2
  have h16k := S.h16 hk
  have lo1 := lo_n S hk hlo (by unfold lead; omega)
  have ha := ht_a S a2 lo1
  rw [a3, H.tp.fn] at ha
  have W := H.wn (by omega)
  have fnk := H.tp.fn
  have wc : WC w k (28 * (c - 1)) (L c) (m.loc (F c) + v.hi k) c s t := ⟨W, H.cf.cc, by omega, f2, by omega, by omega, by omega, by omega, S.rm k hk, kn, ok, by omega, by omega⟩
  obtain ⟨r, s', t', g1, g2, g3, g4, g5, g6, g7⟩ := work2 wc D h16 S.E.nG4 (fun q => by have := T.pl q; rw [fnk] at this; omega) (fun q => T.pg q) (fun q => T.pm q)
  have x2 : X2w w v bgf lsf k = xF (w.op k) (w.a k) (w.b k) := by rw [X2w, if_neg (by omega), if_neg (by omega), if_neg (by omega), if_neg (by omega), if_neg (by omega)]
  have e0 : f_RE_step s = if r = 0 then some (stp s' 7 2 (s' 7 2 + 1)) else some (stp s' 7 3 r) := by
    rw [f_RE_step, H.tp.nx, wd_0 W4' hl, bd1_some, wd_1 W4' hl, bd1_some, H.cf.x1, nI_add, lt1, ic_x _ (kno_lt kn) kn, bd1_some, if_neg (show ¬ w.op k < 17 by omega), if_pos rfl, wd_2 W4' hl, bd1_some, x2, g1, bd_some]
    simp only [lt1]
  rw [e0]
  have s6 : s' 7 = s 7 := g4.o 7 (by decide) (by decide) (by decide) (by decide)
  by_cases hr : r = 0
  · obtain ⟨w1, w2⟩ := g7 hr
    rw [if_pos hr, s6, H.tp.nx, nI_1, ← ent_1 hlo (by omega) (by omega)]
    refine ⟨_, _, _, rfl, by rw [g2, hr], Or.inl ⟨rfl, t', 0, by omega, fun n => rfl, g4.rx.p (by decide), g5.rm, ?_, Or.inl ⟨c, F, K, L, k + 1, ?_⟩⟩⟩
    · obtain ⟨p', D'⟩ := g6
      exact ⟨p', D'.cg (by simp (disch := first | decide | omega) only [stI1, stI2, stp_eq, stp_row, stp_ne, stp_nj ]) (by simp (disch := first | decide | omega) only [stI1, stI2, stp_eq, stp_row, stp_ne, stp_nj ]) (by simp (disch := first | decide | omega) only [stI1, stI2, stp_eq, stp_row, stp_ne, stp_nj ]) rfl rfl rfl rfl rfl⟩
    · have wv : Win (28 * (c - 1)) (L c) (m.loc (F c) + v.hi (k + 1)) (stp s' 7 2 (nI (ent w v (k + 1)))) t' := by
        rw [show m.loc (F c) + v.hi k - tks (w.op k) + gvs (w.op k) = m.loc (F c) + v.hi (k + 1) by omega] at w1
        exact w1.cut (Nat.le_refl _) (by simp (disch := first | decide | omega) only [stI1, stI2, stp_eq, stp_row, stp_ne, stp_nj ]) rfl w1.sp
      refine ⟨H.cf.cg S (g5.z 22 (by decide) (by decide)) (g5.z 20 (by decide) (by decide)) (g5.z 21 (by decide) (by decide)) (g5.o 32 (by decide) (by decide) (by decide) (by decide) (by decide)) (g5.o 34 (by decide) (by decide) (by decide) (by decide) (by decide)) g5.p (by simp (disch := first | decide | omega) only [stI1, stI2, stp_eq, stp_row, stp_ne, stp_nj ]; rw [s6]) (by simp (disch := first | decide | omega) only [stI1, stI2, stp_eq, stp_row, stp_ne, stp_nj ]; rw [s6]) (by simp (disch := first | decide | omega) only [stI1, stI2, stp_eq, stp_row, stp_ne, stp_nj ]; rw [s6]) (by simp (disch := first | decide | omega) only [stI1, stI2, stp_eq, stp_row, stp_ne, stp_nj ]; exact g4.o 44 (by decide) (by decide) (by decide) (by decide)) (by simp (disch := first | decide | omega) only [stI1, stI2, stp_eq, stp_row, stp_ne, stp_nj ]; exact g4.o 46 (by decide) (by decide) (by decide) (by decide)) (fun j hj => by simp (disch := first | decide | omega) only [stI1, stI2, stp_eq, stp_row, stp_ne, stp_nj ]; exact g4.l j (by omega)) g5.k, ⟨w2, a2, by rw [a3]; exact fnk, by simp (disch := first | decide | omega) only [stI1, stI2, stp_eq, stp_row, stp_ne, stp_nj ], Or.inl lo1⟩, Or.inl (by rw [ha]; exact wv)⟩
  · rw [if_neg hr]
    refine ⟨_, _, _, rfl, g2, Or.inr ⟨by rcases g3 with q | q | q | q; exact absurd q hr; exact Or.inr (Or.inl q); exact Or.inr (Or.inr (Or.inl q)); exact Or.inr (Or.inr (Or.inr (Or.inl q))), by simp (disch := first | decide | omega) only [stI1, stI2, stp_eq, stp_row, stp_ne, stp_nj ], g4.rx.p (by decide), g5.rm, ?_⟩⟩
    obtain ⟨p', D'⟩ := g6
    exact ⟨p', D'.cg (by simp (disch := first | decide | omega) only [stI1, stI2, stp_eq, stp_row, stp_ne, stp_nj ]) (by simp (disch := first | decide | omega) only [stI1, stI2, stp_eq, stp_row, stp_ne, stp_nj ]) (by simp (disch := first | decide | omega) only [stI1, stI2, stp_eq, stp_row, stp_ne, stp_nj ]) rfl rfl rfl rfl rfl⟩
theorem rt_0 (S : Sta w v m C nP s t) (R : RCr w v m C bgf lsf s t) (H : SyR w v m C c F K L k s t) (D : DR nG me mx s t p) (h : w.op k = 0) : ∃ s' r t1, f_RE_step s = some s' ∧ f_M_perform (nI k) t = some (r, t1) ∧ OutR w v m C nG me mx s t s' r t1 := by
  rw [st_r S R H (by omega) (by omega), mc_0 S H.tp.kC h, f_RE_control, lt1, lt1, if_pos (show nI (w.op k) = 0 by rw [h]; rfl), lt1, f_RE_control_212]
  exact ⟨_, _, _, rfl, rfl, Or.inr ⟨Or.inl rfl, by simp (disch := first | decide | omega) only [stI1, stI2, stp_eq, stp_row, stp_ne, stp_nj ], (RXf.refl s).p (by decide), RMf.refl t, p, D.cg (by simp (disch := first | decide | omega) only [stI1, stI2, stp_eq, stp_row, stp_ne, stp_nj ]) (by simp (disch := first | decide | omega) only [stI1, stI2, stp_eq, stp_row, stp_ne, stp_nj ]) (by simp (disch := first | decide | omega) only [stI1, stI2, stp_eq, stp_row, stp_ne, stp_nj ]) rfl rfl rfl rfl rfl⟩⟩
theorem rt_1 (S : Sta w v m C nP s t) (R : RCr w v m C bgf lsf s t) (H : SyR w v m C c F K L k s t) (D : DR nG me mx s t p) (h : 1 ≤ w.op k ∧ w.op k ≤ 3) : ∃ s' r t1, f_RE_step s = some s' ∧ f_M_perform (nI k) t = some (r, t1) ∧ OutR w v m C nG me mx s t s' r t1 := by
  have hk := H.tp.kC
  have c8 := H.cf.c8
  have hlo := H.lo (by omega)
  have T := (S.H.sr k hk).wt hlo
  obtain ⟨a2, a3⟩ := S.lastC hk (fun q => by omega)
  have lo1 := lo_n S hk hlo (by unfold lead; omega)
  have ha := ht_a S a2 lo1
  have hh : v.hi (k + 1) = v.hi k := by
    by_cases q : w.op k = 1
    · exact T.t1 q
    · exact (T.t2 (by omega)).1
  rw [a3, H.tp.fn, hh] at ha
  have W := H.wn (by omega)
  rw [st_r S R H (by omega) (by omega), mc_n S hk (by omega) H.cf.cc (by omega), f_RE_control, lt1, lt1, if_neg (show ¬ nI (w.op k) = 0 from fun z => absurd ((nI_eq (b := 0) (by omega) (by decide)).mp z) (by omega)), if_neg (show ¬ nI (w.op k) = 4 from fun z => absurd ((nI_eq (b := 4) (by omega) (by decide)).mp z) (by omega)), if_neg (show ¬ nI (w.op k) = 12 from fun z => absurd ((nI_eq (b := 12) (by omega) (by decide)).mp z) (by omega)), if_neg (show ¬ nI (w.op k) = 13 from fun z => absurd ((nI_eq (b := 13) (by omega) (by decide)).mp z) (by omega)), if_neg (show ¬ nI (w.op k) = 14 from fun z => absurd ((nI_eq (b := 14) (by omega) (by decide)).mp z) (by omega)), if_neg (show ¬ nI (w.op k) = 15 from fun z => absurd ((nI_eq (b := 15) (by omega) (by decide)).mp z) (by omega)), if_neg (show ¬ nI (w.op k) = 16 from fun z => absurd ((nI_eq (b := 16) (by omega) (by decide)).mp z) (by omega)), f_RE_control_202, H.tp.nx, nI_1, ← ent_1 hlo (by omega) (by omega), lt1, lt1, f_RE_control_212]
  obtain ⟨g1, g2⟩ := H.cf.toR S (k2 := k + 1) (s' := stp s 7 2 (nI (ent w v (k + 1)))) (t' := stI t 33 c (nI (k + 1))) a2 (by rw [a3]; exact H.tp.fn) (Or.inl lo1) (fun j hj => by simp (disch := first | decide | omega) only [stI1, stI2, stp_eq, stp_row, stp_ne, stp_nj ]) (by simp (disch := first | decide | omega) only [stI1, stI2, stp_eq, stp_row, stp_ne, stp_nj ]) (fun a a1 _ => by simp (disch := first | decide | omega) only [stI1, stI2, stp_eq, stp_row, stp_ne, stp_nj ]) ((WJ.refl _ _ _).p33) (by simp (disch := first | decide | omega) only [stI1, stI2, stp_eq, stp_row, stp_ne, stp_nj ]) (Or.inl (by rw [ha]; exact W.cut (Nat.le_refl _) (by simp (disch := first | decide | omega) only [stI1, stI2, stp_eq, stp_row, stp_ne, stp_nj ]) (by simp (disch := first | decide | omega) only [stI1, stI2, stp_eq, stp_row, stp_ne, stp_nj ]) (by simp (disch := first | decide | omega) only [stI1, stI2, stp_eq, stp_row, stp_ne, stp_nj ]; exact W.sp))) (fun j _ => by simp (disch := first | decide | omega) only [stI1, stI2, stp_eq, stp_row, stp_ne, stp_nj ])
  exact ⟨_, _, _, rfl, rfl, OutR.ok D g2 (j := 0) (by omega) (fun n => rfl) (Or.inl ⟨_, _, _, _, _, g1⟩)⟩
theorem rt_4 (S : Sta w v m C nP s t) (R : RCr w v m C bgf lsf s t) (H : SyR w v m C c F K L k s t) (D : DR nG me mx s t p) (h : w.op k = 4) : ∃ s' r t1, f_RE_step s = some s' ∧ f_M_perform (nI k) t = some (r, t1) ∧ OutR w v m C nG me mx s t s' r t1 := by
  have hk := H.tp.kC
  have c1 := H.cf.c1; have c8 := H.cf.c8
  have hC := S.hC
  have hlo := H.lo (by omega)
  obtain ⟨W4', hl⟩ := H.w4 R (by omega)
  have T := (S.H.sr k hk).wt hlo
  obtain ⟨f1, f2, f3⟩ := H.cf.f c c1 (Nat.le_refl _)
  have hp := S.E.p4 _ f3
  have lc := H.cf.lc S
  have h16 := S.h16 hk
  obtain ⟨b0, b1, b2⟩ := T.t4 h
  have eh : v.hi k = v.bb k + 1 := by omega
  have W := H.wn (by omega)
  rw [eh] at W
  have ev := W.eq (m.loc (F c) + v.bb k) (by omega)
  have mi := mc_if S hk h H.cf.cc (by omega) (q := L c + (m.loc (F c) + v.bb k)) (by rw [W.sp]; rfl) (by omega)
  obtain ⟨e, e1, e2, e3, e4, e5⟩ := en_e S.W S.iC hk (by omega)
  have x2 : X2w w v bgf lsf k = nI (ent w v (if w.el k = 0 then w.en k - 1 else w.el k)) := by rw [X2w, if_neg (by omega), if_pos h]
  have key : ∀ k2, k2 < C → w.fn k2 = F c → (v.lo k2 = 0 ∨ (w.op k2 = 11 ∧ (w.ins k2 ≠ 0 → v.lo (w.ins k2 - 1) = 0))) → ht w v (m.res (F c)) k2 = v.bb k →
      f_RE_step s = some (stp s 7 2 (nI (ent w v k2))) → f_M_perform (nI k) t = some (0, stI (stI (stI t 33 c (nI (k + 1))) 0 23 (nI (L c + (m.loc (F c) + v.bb k)))) 33 c (nI k2)) →
      ∃ s' r t1, f_RE_step s = some s' ∧ f_M_perform (nI k) t = some (r, t1) ∧ OutR w v m C nG me mx s t s' r t1 := by
    intro k2 z1 z3 z4 z5 z6 z7
    rw [z6, z7]
    obtain ⟨y1, y2⟩ := H.cf.toR S (k2 := k2) (s' := stp s 7 2 (nI (ent w v k2))) (t' := stI (stI (stI t 33 c (nI (k + 1))) 0 23 (nI (L c + (m.loc (F c) + v.bb k)))) 33 c (nI k2)) z1 z3 z4 (fun j hj => by simp (disch := first | decide | omega) only [stI1, stI2, stp_eq, stp_row, stp_ne, stp_nj ]) (by simp (disch := first | decide | omega) only [stI1, stI2, stp_eq, stp_row, stp_ne, stp_nj ]) (fun a a1 _ => by simp (disch := first | decide | omega) only [stI1, stI2, stp_eq, stp_row, stp_ne, stp_nj ]) ((((WJ.refl _ _ _).p33).p0).p33) (by simp (disch := first | decide | omega) only [stI1, stI2, stp_eq, stp_row, stp_ne, stp_nj ]) (Or.inl (by rw [z5]; exact W.cut (by omega) (by simp (disch := first | decide | omega) only [stI1, stI2, stp_eq, stp_row, stp_ne, stp_nj ]) (by simp (disch := first | decide | omega) only [stI1, stI2, stp_eq, stp_row, stp_ne, stp_nj ]) (by simp (disch := first | decide | omega) only [stI1, stI2, stp_eq, stp_row, stp_ne, stp_nj ]))) (fun j _ => by simp (disch := first | decide | omega) only [stI1, stI2, stp_eq, stp_row, stp_ne, stp_nj ])
    exact ⟨_, _, _, rfl, rfl, OutR.ok D y2 (j := 0) (by omega) (fun n => rfl) (Or.inl ⟨_, _, _, _, _, y1⟩)⟩
  have cx : f_RE_step s = if t.1 35 (L c + (m.loc (F c) + v.bb k)) = 0 then some (stp s 7 2 (nI (ent w v (if w.el k = 0 then w.en k - 1 else w.el k)))) else some (stp s 7 2 (nI (ent w v (k + 1)))) := by
    rw [st_r S R H (by omega) (by omega), f_RE_control, eh, nsub1 (by omega), lt1, show 28 * (c - 1) + (m.loc (F c) + (v.bb k + 1)) - 1 = 28 * (c - 1) + (m.loc (F c) + v.bb k) by omega, rGet_n (by omega) (by decide), ev, lt1, if_neg (show ¬ nI (w.op k) = 0 by rw [h]; decide), if_pos (show nI (w.op k) = 4 by rw [h]; rfl), H.tp.nx, wd_2 W4' hl, bd1_some, x2, nI_1, ← ent_1 hlo (by omega) (by omega), lt1]
    simp only [f_RE_control_130, f_RE_control_212, lt1]
  by_cases hx : t.1 35 (L c + (m.loc (F c) + v.bb k)) = 0
  · rw [if_pos hx] at cx mi
    by_cases hel : w.el k = 0
    · rw [if_pos hel] at cx mi
      have z := S.W.i2 e (by omega) (by omega)
      rw [e5, Nat.add_sub_cancel] at z
      have ei := ((S.H.sr e e3).e11 e4 (by omega)).2.2
      rw [e5, Nat.add_sub_cancel] at ei
      have ei2 := ei h hel
      rw [e1, Nat.add_sub_cancel] at cx mi
      refine key e e3 (by rw [← z.2.2]; exact H.tp.fn) (Or.inr ⟨e4, fun _ => by rw [e5, Nat.add_sub_cancel]; exact hlo⟩) ?_ cx mi
      unfold ht
      rw [if_pos e4, e5, bs, gv, if_neg (by omega), if_neg (by omega), Nat.add_sub_cancel, ei2, Nat.add_zero]
    · rw [if_neg hel] at cx mi
      obtain ⟨q1, q2, e', q3, q4, q5, q6, q7, q8⟩ := S.W.el2 k hel
      have q9 := q8 (by omega)
      obtain ⟨r1, r2⟩ := row_n S q5 (by omega) (by omega)
      have r5 := (S.H.sr e' q5).e5 q6
      rw [q7, Nat.add_sub_cancel] at r5
      have rf := (S.lastC q5 (by omega)).2
      have z := S.W.i2 e' (by omega) (by omega)
      rw [q7, Nat.add_sub_cancel] at z
      rw [q3] at cx mi
      have hC1 : e' + 1 < C := (S.lastC q5 (by omega)).1
      have ha := ht_a S hC1 (r5.2 hlo)
      rw [rf, ← z.2.2, H.tp.fn, r5.1, bs, if_neg (by omega), Nat.add_sub_cancel] at ha
      exact key (e' + 1) hC1 (by rw [rf, ← z.2.2]; exact H.tp.fn) (Or.inl (r5.2 hlo)) ha cx mi
  · rw [if_neg hx] at cx mi
    obtain ⟨a2, a3⟩ := S.lastC hk (fun q => by omega)
    have lo1 := lo_n S hk hlo (by unfold lead; omega)
    have ha := ht_a S a2 lo1
    rw [a3, H.tp.fn, b1, ← b2] at ha
    exact key (k + 1) a2 (by rw [a3]; exact H.tp.fn) (Or.inl lo1) ha cx mi
/-- a call with y operands left at a row k -/
def FrR (w : Cd) (v : Hv) (m : Md) (C : Nat) (c : Nat) (F : Nat → Nat) (K : Nat → Nat) (L : Nat → Nat) (k y : Nat) (s : St) (t : SM) : Prop :=
  (CF w v m C 7 44 46 (ent w v) c F K L s t) ∧
  (k < C) ∧
  (v.lo k = 0) ∧
  (w.fn k = F c) ∧
  (Win (28 * (c - 1)) (L c) (m.loc (F c) + y) s t) ∧
  (y ≤ 16)
theorem FrR.cf {w : Cd} {v : Hv} {m : Md} {C : Nat} {c : Nat} {F : Nat → Nat} {K : Nat → Nat} {L : Nat → Nat} {k y : Nat} {s : St} {t : SM} (q0_ : FrR w v m C c F K L k y s t) : CF w v m C 7 44 46 (ent w v) c F K L s t := q0_.1
theorem FrR.kC {w : Cd} {v : Hv} {m : Md} {C : Nat} {c : Nat} {F : Nat → Nat} {K : Nat → Nat} {L : Nat → Nat} {k y : Nat} {s : St} {t : SM} (q0_ : FrR w v m C c F K L k y s t) : k < C := q0_.2.1
theorem FrR.lo {w : Cd} {v : Hv} {m : Md} {C : Nat} {c : Nat} {F : Nat → Nat} {K : Nat → Nat} {L : Nat → Nat} {k y : Nat} {s : St} {t : SM} (q0_ : FrR w v m C c F K L k y s t) : v.lo k = 0 := q0_.2.2.1
theorem FrR.fn {w : Cd} {v : Hv} {m : Md} {C : Nat} {c : Nat} {F : Nat → Nat} {K : Nat → Nat} {L : Nat → Nat} {k y : Nat} {s : St} {t : SM} (q0_ : FrR w v m C c F K L k y s t) : w.fn k = F c := q0_.2.2.2.1
theorem FrR.win {w : Cd} {v : Hv} {m : Md} {C : Nat} {c : Nat} {F : Nat → Nat} {K : Nat → Nat} {L : Nat → Nat} {k y : Nat} {s : St} {t : SM} (q0_ : FrR w v m C c F K L k y s t) : Win (28 * (c - 1)) (L c) (m.loc (F c) + y) s t := q0_.2.2.2.2.1
theorem FrR.y16 {w : Cd} {v : Hv} {m : Md} {C : Nat} {c : Nat} {F : Nat → Nat} {K : Nat → Nat} {L : Nat → Nat} {k y : Nat} {s : St} {t : SM} (q0_ : FrR w v m C c F K L k y s t) : y ≤ 16 := q0_.2.2.2.2.2
theorem brR (S : Sta w v m C nP s t) (R : RCr w v m C bgf lsf s t) {y a n o a1 : Nat} (H : FrR w v m C c F K L k y s t) (ha : a ≤ w.dp k) (hy : bs w v (w.ins k) + tk w (m.res (F c)) (ups w.ins a (w.ins k)) ≤ y) (hn : n < 240) (W : W4 (s 30) n o a1 (nI (tg w v (lsf (w.fn k)) (ups w.ins a (w.ins k)))) (lf w v m (w.fn k) (ups w.ins a (w.ins k)))) :
    ∃ s' t1, f_RE_branch (nI n) (nI (28 * (c - 1) + (m.loc (F c) + y))) s = some s' ∧ f_M_jump (nI k) (lN a) t = some t1 ∧ KP s t s' t1 ∧ ∃ k2, SyR w v m C c F K L k2 s' t1 := by
  have hk := H.kC
  have hC := S.hC
  have c1 := H.cf.c1; have c8 := H.cf.c8
  obtain ⟨f1, f2, f3⟩ := H.cf.f c c1 (Nat.le_refl _)
  have hp := S.E.p4 _ f3
  have lc := H.cf.lc S
  have y16 := H.y16
  have f1k : t.1 32 c = nI (w.fn k) := by rw [H.fn]; exact f1
  have hX : ∀ x b, lf w v m (w.fn k) (ups w.ins a (w.ins k)) = 2 * (m.loc (F c) + x) + b → b ≤ 1 → x + b ≤ y → f_RE_branch (nI n) (nI (28 * (c - 1) + (m.loc (F c) + y))) s = some (stp (if b = 0 then s else stp s 36 (28 * (c - 1) + (m.loc (F c) + x)) (s 36 (28 * (c - 1) + (m.loc (F c) + y) - 1))) 7 2 (nI (tg w v (lsf (w.fn k)) (ups w.ins a (w.ins k))))) := by
    intro x b e b1 xb
    obtain ⟨l1, l2⟩ := lf_b (2 * (m.loc (F c) + x) + b) (by omega)
    rw [show (2 * (m.loc (F c) + x) + b) % 2 = b by omega] at l1
    rw [show (2 * (m.loc (F c) + x) + b) / 2 = m.loc (F c) + x by omega] at l2
    rw [f_RE_branch, wd_3 W hn, bd1_some, e, l1, lt1]
    by_cases b0 : b = 0
    · rw [if_neg (show ¬ nI b = 1 by rw [b0]; decide), if_pos b0, f_RE_branch_48, wd_2 W hn, bd1_some, lt1]
    · have W' : W4 (stp s 36 (28 * (c - 1) + (m.loc (F c) + x)) (s 36 (28 * (c - 1) + (m.loc (F c) + y) - 1)) 30) n o a1 (nI (tg w v (lsf (w.fn k)) (ups w.ins a (w.ins k)))) (lf w v m (w.fn k) (ups w.ins a (w.ins k))) := by
        rw [stp_ne _ _ _ (by decide)]; exact W
      rw [if_pos (show nI b = 1 by rw [show b = 1 by omega]; rfl), l2, lt1, H.cf.x1, nI_add, lt1, nsub1 (by omega), lt1, rGet_n (by omega) (by decide), lt1, rSet_n (by omega) (by decide), lt1, if_neg b0, f_RE_branch_48, wd_2 W' hn, bd1_some, lt1]
  have e36 : ∀ x b : Nat, (stp (if b = 0 then s else stp s 36 (28 * (c - 1) + (m.loc (F c) + x)) (s 36 (28 * (c - 1) + (m.loc (F c) + y) - 1))) 7 2 (nI (tg w v (lsf (w.fn k)) (ups w.ins a (w.ins k))))) 36 = if b = 0 then s 36 else upd (s 36) (28 * (c - 1) + (m.loc (F c) + x)) (s 36 (28 * (c - 1) + (m.loc (F c) + y) - 1)) := by
    intro x b
    rw [stp_ne _ _ _ (by decide)]
    by_cases b0 : b = 0
    · rw [if_pos b0, if_pos b0]
    · rw [if_neg b0, if_neg b0, stp_row]
  have e7 : ∀ (x b j : Nat), j ≠ 2 → (stp (if b = 0 then s else stp s 36 (28 * (c - 1) + (m.loc (F c) + x)) (s 36 (28 * (c - 1) + (m.loc (F c) + y) - 1))) 7 2 (nI (tg w v (lsf (w.fn k)) (ups w.ins a (w.ins k))))) 7 j = s 7 j := by
    intro x b j hj
    rw [stp_nj _ _ _ hj]
    by_cases b0 : b = 0
    · rw [if_pos b0]
    · rw [if_neg b0, stp_ne _ _ _ (by decide)]
  have eo : ∀ (x b i : Nat), i ≠ 7 → i ≠ 36 → (stp (if b = 0 then s else stp s 36 (28 * (c - 1) + (m.loc (F c) + x)) (s 36 (28 * (c - 1) + (m.loc (F c) + y) - 1))) 7 2 (nI (tg w v (lsf (w.fn k)) (ups w.ins a (w.ins k))))) i = s i := by
    intro x b i h1 h2
    rw [stp_ne _ _ _ h1]
    by_cases b0 : b = 0
    · rw [if_pos b0]
    · rw [if_neg b0, stp_ne _ _ _ h2]
  by_cases had : a = w.dp k
  · subst had
    rw [chn0 S.W (by omega), tk, if_pos rfl] at hy
    have Fs := R.fs (w.fn k) (S.lt k hk)
    have jm := jump_fn S hk H.cf.cc (by omega) f1k Fs
    have el : lf w v m (w.fn k) (ups w.ins (w.dp k) (w.ins k)) = 2 * (m.loc (F c) + 0) + m.res (F c) := by
      rw [chn0 S.W (by omega), lf, bs, if_pos rfl, tk, if_pos rfl, H.fn]
    have et : tg w v (lsf (w.fn k)) (ups w.ins (w.dp k) (w.ins k)) = ent w v (lsf (w.fn k)) := by rw [chn0 S.W (by omega), tg, if_pos rfl]
    have gx := hX 0 (m.res (F c)) el (by omega) (by omega)
    have g36 := e36 0 (m.res (F c))
    have h35 : m.res (F c) ≠ 0 → (stp (if m.res (F c) = 0 then s else stp s 36 (28 * (c - 1) + (m.loc (F c) + 0)) (s 36 (28 * (c - 1) + (m.loc (F c) + y) - 1))) 7 2 (nI (tg w v (lsf (w.fn k)) (ups w.ins (w.dp k) (w.ins k))))) 36 (28 * (c - 1) + (m.loc (F c) + m.res (F c)) - 1) = (stI t 33 c (nI (lsf (w.fn k)))).1 35 (L c + (m.loc (F c) + y) - 1) := by
      intro z
      rw [g36, if_neg z, show 28 * (c - 1) + (m.loc (F c) + m.res (F c)) - 1 = 28 * (c - 1) + (m.loc (F c) + 0) by omega, pk_us]
      simp (disch := first | decide | omega) only [stI1, stI2, stp_eq, stp_row, stp_ne, stp_nj ]
      have := H.win.eq (m.loc (F c) + y - 1) (by omega)
      rw [show 28 * (c - 1) + (m.loc (F c) + y) - 1 = 28 * (c - 1) + (m.loc (F c) + y - 1) by omega, show L c + (m.loc (F c) + y) - 1 = L c + (m.loc (F c) + y - 1) by omega]
      exact this
    have b36 : ∀ j, j < 28 * (c - 1) → (stp (if m.res (F c) = 0 then s else stp s 36 (28 * (c - 1) + (m.loc (F c) + 0)) (s 36 (28 * (c - 1) + (m.loc (F c) + y) - 1))) 7 2 (nI (tg w v (lsf (w.fn k)) (ups w.ins (w.dp k) (w.ins k))))) 36 j = s 36 j := by
      intro j hj
      rw [g36]
      by_cases z : m.res (F c) = 0
      · rw [if_pos z]
      · rw [if_neg z, pk_un (by omega)]
    obtain ⟨y1, y2⟩ := H.cf.toR S (k2 := lsf (w.fn k)) (t' := stI t 33 c (nI (lsf (w.fn k)))) Fs.lC (by rw [Fs.fn _ Fs.bl (Nat.le_refl _)]; exact H.fn) (Or.inr ⟨Fs.ol, fun z => absurd Fs.il z⟩) (fun j hj => e7 0 (m.res (F c)) j (by omega)) (by rw [stp_eq, et]) (fun i i1 i2 => eo 0 (m.res (F c)) i i1 i2) ((WJ.refl _ _ _).p33) (by simp (disch := first | decide | omega) only [stI1, stI2, stp_eq, stp_row, stp_ne, stp_nj ]) (Or.inr ⟨Fs.ol, Fs.il, L c + (m.loc (F c) + y) - 1, fun z => by simp (disch := first | decide | omega) only [stI1, stI2, stp_eq, stp_row, stp_ne, stp_nj ]; rw [H.win.sp]; exact congrArg nI (by omega), by omega, h35⟩) b36
    exact ⟨_, _, gx, jm, y2, _, y1⟩
  · have hlt : a < w.dp k := by omega
    obtain ⟨B, h1, h2, h3, h4, h5, h6⟩ := chn S.W (show k ≤ C by omega) a hlt
    have hloB := (S.alv hk H.lo a B h1).2
    have hBC : B < C := by omega
    have TB := (S.H.sr B hBC).wt hloB
    have aB := (S.kn hBC).2.blk h3
    have h16B := S.h16 hBC
    obtain ⟨e, e1, e2, e3, e4, e5⟩ := en_e S.W S.iC hBC h3
    have htk : tk w (m.res (F c)) (B + 1) = tk w 0 (B + 1) := by unfold tk; rw [if_neg (show ¬ B + 1 = 0 by omega), if_neg (show ¬ B + 1 = 0 by omega)]
    rw [h1, htk] at hy
    have tk1 : tk w 0 (B + 1) ≤ 1 := by rw [tk, if_neg (by omega), Nat.add_sub_cancel]; split <;> omega
    obtain ⟨t1, j1, j2, j3, j4, j5⟩ := jump_b S hk H.lo H.cf.cc (by omega) f1k (q := L c + (m.loc (F c) + y) - 1) f2 (by omega) hlt h1 (fun z => by rw [H.win.sp]; exact congrArg nI (by omega)) (by omega)
    rw [H.fn] at j4 j5
    have bsle : v.bb B + tk w 0 (B + 1) ≤ y := by
      have key : ∀ j B', ups w.ins j (w.ins k) = B' + 1 → bs w v (B' + 1) ≤ bs w v (w.ins k) := by
        intro j
        induction j with
        | zero => intro B' hB'; have : w.ins k = B' + 1 := hB'; rw [this]; exact Nat.le_refl _
        | succ j ih =>
          intro B' hB'
          rw [ups_s, up] at hB'
          by_cases q : ups w.ins j (w.ins k) = 0
          · rw [if_pos q] at hB'; omega
          · rw [if_neg q] at hB'
            obtain ⟨B2, hB2⟩ : ∃ B2, ups w.ins j (w.ins k) = B2 + 1 := ⟨ups w.ins j (w.ins k) - 1, by omega⟩
            have i1 := ih B2 hB2
            rw [hB2, Nat.add_sub_cancel] at hB'
            have h2' := (S.alv hk H.lo j B2 hB2)
            have hins : w.ins (B2 + 1) = B2 + 1 := by
              have z := S.W.ni B2 (by omega)
              have zo : 2 ≤ w.op B2 ∧ w.op B2 ≤ 4 := by
                obtain ⟨B3, y1, y2, y3, y4, y5, y6⟩ := chn S.W (show k ≤ C by omega) j (by
                  by_cases zz : j < w.dp k
                  · exact zz
                  · have : ups w.ins j (w.ins k) = 0 := by
                      rw [show j = w.dp k + (j - w.dp k) by omega, ups_add, chn0 S.W (by omega), ups_0]
                    omega)
                have : B3 = B2 := by omega
                subst this; exact y3
              rw [nxt, if_pos zo] at z; exact z
            have hm := (S.H.sr (B2 + 1) (by omega)).mo (by omega)
            rw [hins, Nat.add_sub_cancel, hB'] at hm
            omega
      have := key a B h1
      rw [bs, if_neg (by omega), Nat.add_sub_cancel] at this
      omega
    have el : lf w v m (w.fn k) (ups w.ins a (w.ins k)) = 2 * (m.loc (F c) + v.bb B) + tk w 0 (B + 1) := by
      rw [h1, lf, bs, if_neg (by omega), Nat.add_sub_cancel, H.fn, htk]
    have gx := hX (v.bb B) (tk w 0 (B + 1)) el tk1 bsle
    have g36 := e36 (v.bb B) (tk w 0 (B + 1))
    have wv : Win (28 * (c - 1)) (L c) (m.loc (F c) + (v.bb B + tk w 0 (B + 1))) (stp (if tk w 0 (B + 1) = 0 then s else stp s 36 (28 * (c - 1) + (m.loc (F c) + v.bb B)) (s 36 (28 * (c - 1) + (m.loc (F c) + y) - 1))) 7 2 (nI (tg w v (lsf (w.fn k)) (ups w.ins a (w.ins k))))) t1 := by
      refine ⟨by rw [j4]; exact congrArg nI (by omega), fun x hx => ?_⟩
      rw [g36, j5]
      by_cases n0 : tk w 0 (B + 1) = 0
      · rw [if_pos n0, if_pos n0]; exact H.win.eq x (by omega)
      · rw [if_neg n0, if_neg n0]
        by_cases ex : x = m.loc (F c) + v.bb B
        · rw [ex, show L c + (m.loc (F c) + v.bb B) = L c + m.loc (F c) + v.bb B by omega, pk_us, pk_us]
          have := H.win.eq (m.loc (F c) + y - 1) (by omega)
          rw [show 28 * (c - 1) + (m.loc (F c) + y) - 1 = 28 * (c - 1) + (m.loc (F c) + y - 1) by omega, show L c + (m.loc (F c) + y) - 1 = L c + (m.loc (F c) + y - 1) by omega]
          exact this
        · rw [pk_un (by omega), pk_un (by omega)]; exact H.win.eq x (by omega)
    have b36 : ∀ j, j < 28 * (c - 1) → (stp (if tk w 0 (B + 1) = 0 then s else stp s 36 (28 * (c - 1) + (m.loc (F c) + v.bb B)) (s 36 (28 * (c - 1) + (m.loc (F c) + y) - 1))) 7 2 (nI (tg w v (lsf (w.fn k)) (ups w.ins a (w.ins k))))) 36 j = s 36 j := by
      intro j hj
      rw [g36]
      by_cases n0 : tk w 0 (B + 1) = 0
      · rw [if_pos n0]
      · rw [if_neg n0, pk_un (by omega)]
    have fnB : w.fn B = F c := by rw [h5]; exact H.fn
    by_cases q3 : w.op B = 3
    · rw [if_pos q3] at j3
      have tk0 : tk w 0 (B + 1) = 0 := by rw [tk, if_neg (by omega), Nat.add_sub_cancel, if_pos q3]
      obtain ⟨a2, a3⟩ := S.lastC hBC (fun q => by omega)
      have lo1 := lo_n S hBC hloB (by unfold lead; omega)
      obtain ⟨u1, u2⟩ := TB.t2 (Or.inr q3)
      have hh := ht_a S a2 lo1
      rw [a3, fnB, u1, ← u2] at hh
      have et : tg w v (lsf (w.fn k)) (ups w.ins a (w.ins k)) = ent w v (B + 1) := by rw [h1, tg, if_neg (by omega), Nat.add_sub_cancel, if_pos q3]
      obtain ⟨y1, y2⟩ := H.cf.toR S (k2 := B + 1) (t' := t1) a2 (by rw [a3]; exact fnB) (Or.inl lo1) (fun j hj => e7 (v.bb B) (tk w 0 (B + 1)) j (by omega)) (by rw [stp_eq, et]) (fun i i1 i2 => eo (v.bb B) (tk w 0 (B + 1)) i i1 i2) j2 j3 (Or.inl (by rw [hh]; rw [tk0] at wv ⊢; exact wv)) b36
      exact ⟨_, _, gx, j1, y2, _, y1⟩
    · rw [if_neg q3] at j3
      have tka : tk w 0 (B + 1) = w.a B := by rw [tk, if_neg (by omega), Nat.add_sub_cancel, if_neg q3]
      rw [e1, Nat.add_sub_cancel] at j3
      have z := S.W.i2 e (by omega) (by omega)
      rw [e5, Nat.add_sub_cancel] at z
      have fne : w.fn e = F c := by rw [← z.2.2]; exact fnB
      have hh : ht w v (m.res (F c)) e = v.bb B + tk w 0 (B + 1) := by
        unfold ht
        rw [if_pos e4, e5, bs, gv, if_neg (by omega), if_neg (by omega), Nat.add_sub_cancel, tka]
      have et : tg w v (lsf (w.fn k)) (ups w.ins a (w.ins k)) = ent w v e := by rw [h1, tg, if_neg (by omega), Nat.add_sub_cancel, if_neg q3, e1, Nat.add_sub_cancel]
      obtain ⟨y1, y2⟩ := H.cf.toR S (k2 := e) (t' := t1) e3 fne (Or.inr ⟨e4, fun _ => by rw [e5, Nat.add_sub_cancel]; exact hloB⟩) (fun j hj => e7 (v.bb B) (tk w 0 (B + 1)) j (by omega)) (by rw [stp_eq, et]) (fun i i1 i2 => eo (v.bb B) (tk w 0 (B + 1)) i i1 i2) j2 j3 (Or.inl (by rw [hh]; exact wv)) b36
      exact ⟨_, _, gx, j1, y2, _, y1⟩
end RST
