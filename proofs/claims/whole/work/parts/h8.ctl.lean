-- running: control, stack engine
section CTLS
variable {w : Cd} {v : Hv} {m : Md} {C nP : Nat} {c : Nat} {F K L : Nat → Nat} {k : Nat} {s : St} {t : SM} {nG me mx p : Nat}
/-- what is needed to go on at a row k2 of the same call -/
theorem SyS.to {s' : St} {t' : SM} {k2 : Nat} (S : Sta w v m C nP s t) (H : SyS w v m C c F K L k s t) (h2C : k2 < C) (hfn : w.fn k2 = F c) (al : v.lo k2 = 0 ∨ (w.op k2 = 11 ∧ (w.ins k2 ≠ 0 → v.lo (w.ins k2 - 1) = 0))) {y : Nat} (hy : ht w v (m.res (F c)) k2 = y)
    (x6 : ∀ j, j = 0 ∨ j = 1 ∨ j = 3 → s' 6 j = s 6 j) (x2 : s' 6 2 = nI k2) (x5 : s' 6 5 = nI (w.dp k2)) (x6' : s' 6 6 = nI (28 * (c - 1) + (m.loc (F c) + y))) (hx : ∀ a, a ≠ 6 → a ≠ 36 → a ≠ 48 → s' a = s a) (b48 : ∀ j, j < (c - 1) * 20 → s' 48 j = s 48 j)
    (J : WJ (L c) c t t') (p33 : t'.1 33 c = nI k2) (win : Win (28 * (c - 1)) (L c) (m.loc (F c) + y) s' t') (b36 : ∀ j, j < 28 * (c - 1) → s' 36 j = s 36 j) (lk : LB w v m c (F c) k2 s') : SyS w v m C c F K L k2 s' t' ∧ KP s t s' t' := by
  refine ⟨H.mv S (x6 0 (by omega)) (x6 1 (by omega)) (x6 3 (by omega)) (fun a ha => hx a (by omega) (by omega) (by omega)) b36 b48 (J.w.z 22 (by decide) (by decide)) (J.w.z 20 (by decide) (by decide)) (J.w.z 21 (by decide) (by decide)) (J.w.o 32 (by decide) (by decide) (by decide) (by decide) (by decide)) (J.w.o 34 (by decide) (by decide) (by decide) (by decide) (by decide)) J.w.p J.w.k ⟨p33, h2C, hfn, x2, al⟩ (by rw [hy]; exact win) x5 (by rw [hy]; exact x6') lk, ?_⟩
  exact KP.trans (KP.xs fun a a1 _ a2 a3 => hx a a1 a2 (by omega)) (KP.wj J)
theorem ct_0 (S : Sta w v m C nP s t) (H : SyS w v m C c F K L k s t) (D : DR nG me mx s t p) (h : w.op k = 0) : ∃ s' r t1, f_SE_step s = some s' ∧ f_M_perform (nI k) t = some (r, t1) ∧ OutS w v m C nG me mx s t s' r t1 := by
  rw [st_c S H (by omega), mc_0 S H.tp.kC h, f_SE_control, if_pos (show nI (w.op k) = 0 by rw [h]; rfl), lt1, f_SE_control_222]
  exact ⟨_, _, _, rfl, rfl, Or.inr ⟨Or.inl rfl, by simp (disch := first | decide | omega) only [stI1, stI2, stp_eq, stp_row, stp_ne, stp_nj ], (RXf.refl s).p (by decide), RMf.refl t, p, D.cg (by simp (disch := first | decide | omega) only [stI1, stI2, stp_eq, stp_row, stp_ne, stp_nj ]) (by simp (disch := first | decide | omega) only [stI1, stI2, stp_eq, stp_row, stp_ne, stp_nj ]) (by simp (disch := first | decide | omega) only [stI1, stI2, stp_eq, stp_row, stp_ne, stp_nj ]) rfl rfl rfl rfl rfl⟩⟩
theorem ct_1 (S : Sta w v m C nP s t) (H : SyS w v m C c F K L k s t) (D : DR nG me mx s t p) (h : w.op k = 1) : ∃ s' r t1, f_SE_step s = some s' ∧ f_M_perform (nI k) t = some (r, t1) ∧ OutS w v m C nG me mx s t s' r t1 := by
  have hk := H.tp.kC
  have c8 := H.cf.c8
  have n2 : s 6 2 = nI k := H.tp.nx
  have hlo : v.lo k = 0 := by rcases H.tp.al with q | q; exact q; omega
  have hht : ht w v (m.res (F c)) k = v.hi k := by unfold ht; rw [if_neg (by omega)]
  have T := (S.H.sr k hk).wt hlo
  obtain ⟨a2, a3⟩ := S.lastC hk (fun q => by omega)
  have lo1 := lo_n S hk hlo (by unfold lead; omega)
  obtain ⟨ri, rd⟩ := row_n S hk (by omega) (by omega)
  have ha := ht_a S a2 lo1
  rw [a3, H.tp.fn, T.t1 h] at ha
  have W := H.win
  have t6 := H.t6
  rw [hht] at W t6
  rw [st_c S H (by omega), mc_n S hk (by omega) H.cf.cc (by omega), f_SE_control, if_neg (show ¬ nI (w.op k) = 0 by rw [h]; decide), if_neg (show ¬ nI (w.op k) = 2 by rw [h]; decide), if_neg (show ¬ nI (w.op k) = 3 by rw [h]; decide), if_neg (show ¬ nI (w.op k) = 4 by rw [h]; decide), if_neg (show ¬ nI (w.op k) = 12 by rw [h]; decide), if_neg (show ¬ nI (w.op k) = 13 by rw [h]; decide), if_neg (show ¬ nI (w.op k) = 14 by rw [h]; decide), if_neg (show ¬ nI (w.op k) = 15 by rw [h]; decide), if_neg (show ¬ nI (w.op k) = 16 by rw [h]; decide), f_SE_control_212, n2, nI_1, lt1, lt1, f_SE_control_222]
  obtain ⟨g1, g2⟩ := H.to S (k2 := k + 1) (s' := stp s 6 2 (nI (k + 1))) (t' := stI t 33 c (nI (k + 1))) a2 (by rw [a3]; exact H.tp.fn) (Or.inl lo1) ha (fun j hj => by simp (disch := first | decide | omega) only [stI1, stI2, stp_eq, stp_row, stp_ne, stp_nj ]) (by simp (disch := first | decide | omega) only [stI1, stI2, stp_eq, stp_row, stp_ne, stp_nj ]) (by simp (disch := first | decide | omega) only [stI1, stI2, stp_eq, stp_row, stp_ne, stp_nj ]; rw [rd]; exact H.d5) (by simp (disch := first | decide | omega) only [stI1, stI2, stp_eq, stp_row, stp_ne, stp_nj ]; exact t6) (fun a a1 _ _ => by simp (disch := first | decide | omega) only [stI1, stI2, stp_eq, stp_row, stp_ne, stp_nj ]) (fun j _ => by simp (disch := first | decide | omega) only [stI1, stI2, stp_eq, stp_row, stp_ne, stp_nj ]) ((WJ.refl _ _ _).p33) (by simp (disch := first | decide | omega) only [stI1, stI2, stp_eq, stp_row, stp_ne, stp_nj ]) (W.cut (Nat.le_refl _) (by simp (disch := first | decide | omega) only [stI1, stI2, stp_eq, stp_row, stp_ne, stp_nj ]) (by simp (disch := first | decide | omega) only [stI1, stI2, stp_eq, stp_row, stp_ne, stp_nj ]) (by simp (disch := first | decide | omega) only [stI1, stI2, stp_eq, stp_row, stp_ne, stp_nj ]; exact W.sp)) (fun j _ => by simp (disch := first | decide | omega) only [stI1, stI2, stp_eq, stp_row, stp_ne, stp_nj ]) (H.lk.cg (by simp (disch := first | decide | omega) only [stI1, stI2, stp_eq, stp_row, stp_ne, stp_nj ]) ri rd)
  exact ⟨_, _, _, rfl, rfl, OutS.ok D g2 (j := 0) (by omega) (fun n => rfl) (Or.inl ⟨_, _, _, _, _, g1⟩)⟩
/-- a block begins: where both go on is k2 -/
theorem enb (S : Sta w v m C nP s t) (H : SyS w v m C c F K L k s t) (ho : 2 ≤ w.op k ∧ w.op k ≤ 4) {s1 : St} (e6 : ∀ j, j ≠ 6 → s1 6 j = s 6 j) (e6' : s1 6 6 = nI (28 * (c - 1) + (m.loc (F c) + v.bb k))) (ex : ∀ a, a ≠ 6 → s1 a = s a) {k2 : Nat} (h2C : k2 < C) (hi2 : w.ins k2 = k + 1) :
    ∃ s', f_SE_enterBlock (nI k2) s1 = some s' ∧ (∀ j, j = 0 ∨ j = 1 ∨ j = 3 → s' 6 j = s 6 j) ∧ s' 6 2 = nI k2 ∧ s' 6 5 = nI (w.dp k2) ∧ s' 6 6 = nI (28 * (c - 1) + (m.loc (F c) + v.bb k)) ∧ (∀ a, a ≠ 6 → a ≠ 48 → s' a = s a) ∧ (∀ j, j < (c - 1) * 20 → s' 48 j = s 48 j) ∧ LB w v m c (F c) k2 s' := by
  have hk := H.tp.kC
  have c1 := H.cf.c1; have c8 := H.cf.c8
  have n2 : s1 6 2 = nI k := by rw [e6 2 (by decide)]; exact H.tp.nx
  obtain ⟨z1, z2, z3⟩ := S.W.i2 k2 (by omega) (by omega)
  rw [hi2, Nat.add_sub_cancel] at z1 z2 z3
  have h10 := S.W.d10 k2 (by omega)
  have q0 : s1 6 0 = nI c := by rw [e6 0 (by decide)]; exact H.cf.x0
  have q5 : s1 6 5 = nI (w.dp k) := by rw [e6 5 (by decide)]; exact H.d5
  have e48 : s1 48 = s 48 := ex 48 (by decide)
  rw [f_SE_enterBlock, q0, nsub1 c1, lt1, show nI (c - 1) * 10 = nI ((c - 1) * 10) from pk_mul _ 10, lt1, q5, nI_add, lt1, n2, ts_80_2_0 (by omega), lt1, show stp s1 48 (((c - 1) * 10 + w.dp k) * 2 + 0) (nI k) 6 6 = s1 6 6 by simp (disch := first | decide | omega) only [stI1, stI2, stp_eq, stp_row, stp_ne, stp_nj ], e6', ts_80_2_1 (by omega), lt1, show stp (stp s1 48 (((c - 1) * 10 + w.dp k) * 2 + 0) (nI k)) 48 (((c - 1) * 10 + w.dp k) * 2 + 1) (nI (28 * (c - 1) + (m.loc (F c) + v.bb k))) 6 5 = nI (w.dp k) by simp (disch := first | decide | omega) only [stI1, stI2, stp_eq, stp_row, stp_ne, stp_nj ]; exact q5, nI_1, lt1, lt1, lt1]
  refine ⟨_, rfl, fun j hj => ?_, by simp (disch := first | decide | omega) only [stI1, stI2, stp_eq, stp_row, stp_ne, stp_nj ], by simp (disch := first | decide | omega) only [stI1, stI2, stp_eq, stp_row, stp_ne, stp_nj ]; rw [z2], by simp (disch := first | decide | omega) only [stI1, stI2, stp_eq, stp_row, stp_ne, stp_nj ]; exact e6', fun a a1 a2 => by simp (disch := first | decide | omega) only [stI1, stI2, stp_eq, stp_row, stp_ne, stp_nj ]; exact ex a a1, fun j hj => ?_, ?_⟩
  · rw [stp_nj _ _ _ (by omega), stp_nj _ _ _ (by omega), stp_ne _ _ _ (by decide), stp_ne _ _ _ (by decide), e6 j (by omega)]
  · simp (disch := first | decide | omega) only [stI1, stI2, stp_eq, stp_row, stp_ne, stp_nj ]; rw [e48]
  · intro j B h1 h2
    rw [hi2] at h2
    by_cases hj : j = 0
    · subst hj
      have hB : B = k := by have : k + 1 = B + 1 := h2; omega
      subst hB
      rw [show (c - 1) * 10 + (w.dp k2 - 1 - 0) = (c - 1) * 10 + w.dp B by omega]
      exact ⟨by simp (disch := first | decide | omega) only [stI1, stI2, stp_eq, stp_row, stp_ne, stp_nj ], by simp (disch := first | decide | omega) only [stI1, stI2, stp_eq, stp_row, stp_ne, stp_nj ]; exact congrArg nI (by omega)⟩
    · have h3 : ups w.ins (j - 1) (w.ins k) = B + 1 := by
        rw [show j = (j - 1) + 1 by omega] at h2
        have : ups w.ins (j - 1) (up w.ins (k + 1)) = B + 1 := h2
        rw [up_s] at this
        exact this
      have := H.lk (j - 1) B (by omega) h3
      simp (disch := first | decide | omega) only [stI1, stI2, stp_eq, stp_row, stp_ne, stp_nj ]
      rw [e48, show w.dp k2 - 1 - j = w.dp k - 1 - (j - 1) by omega]
      exact this
theorem ct_2 (S : Sta w v m C nP s t) (H : SyS w v m C c F K L k s t) (D : DR nG me mx s t p) (h : w.op k = 2 ∨ w.op k = 3) : ∃ s' r t1, f_SE_step s = some s' ∧ f_M_perform (nI k) t = some (r, t1) ∧ OutS w v m C nG me mx s t s' r t1 := by
  have hk := H.tp.kC
  have c8 := H.cf.c8
  have n2 : s 6 2 = nI k := H.tp.nx
  have hlo : v.lo k = 0 := by rcases H.tp.al with q | q; exact q; omega
  have hht : ht w v (m.res (F c)) k = v.hi k := by unfold ht; rw [if_neg (by omega)]
  have T := (S.H.sr k hk).wt hlo
  obtain ⟨a2, a3⟩ := S.lastC hk (fun q => by omega)
  have lo1 := lo_n S hk hlo (by unfold lead; omega)
  have hi1 : w.ins (k + 1) = k + 1 := by have := S.W.ni k hk; rw [nxt, if_pos (by omega)] at this; exact this
  obtain ⟨b1, b2⟩ := T.t2 h
  have ha := ht_a S a2 lo1
  rw [a3, H.tp.fn, b1, ← b2] at ha
  have W := H.win
  have t6 := H.t6
  rw [hht, ← b2] at W t6
  obtain ⟨s', g1, g2, g3, g4, g5, g6, g7, g8⟩ := enb S H (by omega) (s1 := s) (fun _ _ => rfl) t6 (fun _ _ => rfl) a2 hi1
  have e0 : f_SE_control (nI (w.op k)) (xF (w.op k) (w.a k) (w.b k)) s = some s' := by
    rw [f_SE_control, if_neg (show ¬ nI (w.op k) = 0 by rcases h with h | h <;> rw [h] <;> decide), f_SE_control_92, n2, nI_1, lt1, g1, bd1_some, f_SE_control_222]
    rcases h with h | h
    · rw [if_pos (show nI (w.op k) = 2 by rw [h]; rfl)]
    · rw [if_neg (show ¬ nI (w.op k) = 2 by rw [h]; decide), if_pos (show nI (w.op k) = 3 by rw [h]; rfl)]
  rw [st_c S H (by omega), mc_n S hk (by omega) H.cf.cc (by omega), e0]
  obtain ⟨y1, y2⟩ := H.to S (k2 := k + 1) (s' := s') (t' := stI t 33 c (nI (k + 1))) a2 (by rw [a3]; exact H.tp.fn) (Or.inl lo1) ha g2 g3 g4 g5 (fun a a1 _ a3 => g6 a a1 a3) g7 ((WJ.refl _ _ _).p33) (by simp (disch := first | decide | omega) only [stI1, stI2, stp_eq, stp_row, stp_ne, stp_nj ]) (W.cut (Nat.le_refl _) (g6 36 (by decide) (by decide)) (by simp (disch := first | decide | omega) only [stI1, stI2, stp_eq, stp_row, stp_ne, stp_nj ]) (by simp (disch := first | decide | omega) only [stI1, stI2, stp_eq, stp_row, stp_ne, stp_nj ]; exact W.sp)) (fun j _ => by rw [g6 36 (by decide) (by decide)]) g8
  exact ⟨_, _, _, rfl, rfl, OutS.ok D y2 (j := 0) (by omega) (fun n => rfl) (Or.inl ⟨_, _, _, _, _, y1⟩)⟩
theorem pop_x (H : SyS w v m C c F K L k s t) {y : Nat} (h6 : s 6 6 = nI (28 * (c - 1) + (m.loc (F c) + (y + 1)))) (hy : m.loc (F c) + y < 28) : f_SE_pop s = some (s 36 (28 * (c - 1) + (m.loc (F c) + y)), stp s 6 6 (nI (28 * (c - 1) + (m.loc (F c) + y)))) := by
  have c8 := H.cf.c8
  rw [f_SE_pop, h6, nsub1 (by omega), lt1, lt1, show 28 * (c - 1) + (m.loc (F c) + (y + 1)) - 1 = 28 * (c - 1) + (m.loc (F c) + y) by omega, show stp s 6 6 (nI (28 * (c - 1) + (m.loc (F c) + y))) 6 6 = nI (28 * (c - 1) + (m.loc (F c) + y)) by simp (disch := first | decide | omega) only [stI1, stI2, stp_eq, stp_row, stp_ne, stp_nj ], rGet_n (by omega) (by decide), lt1, stp_ne _ _ _ (by decide)]
theorem ct_4 (S : Sta w v m C nP s t) (H : SyS w v m C c F K L k s t) (D : DR nG me mx s t p) (h : w.op k = 4) : ∃ s' r t1, f_SE_step s = some s' ∧ f_M_perform (nI k) t = some (r, t1) ∧ OutS w v m C nG me mx s t s' r t1 := by
  have hk := H.tp.kC
  have c1 := H.cf.c1; have c8 := H.cf.c8
  have hC := S.hC
  have n2 : s 6 2 = nI k := H.tp.nx
  have hlo : v.lo k = 0 := by rcases H.tp.al with q | q; exact q; omega
  have hht : ht w v (m.res (F c)) k = v.hi k := by unfold ht; rw [if_neg (by omega)]
  have T := (S.H.sr k hk).wt hlo
  obtain ⟨f1, f2, f3⟩ := H.cf.f c c1 (Nat.le_refl _)
  have hp := S.E.p4 _ f3
  have lc := H.cf.lc S
  have h16 := S.h16 hk
  obtain ⟨b0, b1, b2⟩ := T.t4 h
  have eh : v.hi k = v.bb k + 1 := by omega
  have W := H.win
  have t6 := H.t6
  rw [hht, eh] at W t6
  have px := pop_x H t6 (by omega)
  have ev := W.eq (m.loc (F c) + v.bb k) (by omega)
  have mi := mc_if S hk h H.cf.cc (by omega) (q := L c + (m.loc (F c) + v.bb k)) (by rw [W.sp]; rfl) (by omega)
  obtain ⟨e, e1, e2, e3, e4, e5⟩ := en_e S.W S.iC hk (by omega)
  -- where both go on
  have key : ∀ k2, k2 < C → w.ins k2 = k + 1 → w.fn k2 = F c → (v.lo k2 = 0 ∨ (w.op k2 = 11 ∧ (w.ins k2 ≠ 0 → v.lo (w.ins k2 - 1) = 0))) → ht w v (m.res (F c)) k2 = v.bb k →
      f_SE_control (nI (w.op k)) (xF (w.op k) (w.a k) (w.b k)) s = bd1 (f_SE_enterBlock (nI k2) (stp s 6 6 (nI (28 * (c - 1) + (m.loc (F c) + v.bb k))))) (fun s1 => some s1) → f_M_perform (nI k) t = some (0, stI (stI (stI t 33 c (nI (k + 1))) 0 23 (nI (L c + (m.loc (F c) + v.bb k)))) 33 c (nI k2)) →
      ∃ s' r t1, f_SE_step s = some s' ∧ f_M_perform (nI k) t = some (r, t1) ∧ OutS w v m C nG me mx s t s' r t1 := by
    intro k2 z1 z2 z3 z4 z5 z6 z7
    obtain ⟨s', g1, g2, g3, g4, g5, g6, g7, g8⟩ := enb S H (by omega) (s1 := stp s 6 6 (nI (28 * (c - 1) + (m.loc (F c) + v.bb k)))) (fun j hj => by simp (disch := first | decide | omega) only [stI1, stI2, stp_eq, stp_row, stp_ne, stp_nj ]) (by simp (disch := first | decide | omega) only [stI1, stI2, stp_eq, stp_row, stp_ne, stp_nj ]) (fun a ha => by simp (disch := first | decide | omega) only [stI1, stI2, stp_eq, stp_row, stp_ne, stp_nj ]) z1 z2
    rw [st_c S H (by omega), z6, g1, bd1_some, z7]
    obtain ⟨y1, y2⟩ := H.to S (k2 := k2) (s' := s') (t' := stI (stI (stI t 33 c (nI (k + 1))) 0 23 (nI (L c + (m.loc (F c) + v.bb k)))) 33 c (nI k2)) z1 z3 z4 z5 g2 g3 g4 g5 (fun a a1 _ a3 => g6 a a1 a3) g7 ((((WJ.refl _ _ _).p33).p0).p33) (by simp (disch := first | decide | omega) only [stI1, stI2, stp_eq, stp_row, stp_ne, stp_nj ]) (W.cut (by omega) (g6 36 (by decide) (by decide)) (by simp (disch := first | decide | omega) only [stI1, stI2, stp_eq, stp_row, stp_ne, stp_nj ]) (by simp (disch := first | decide | omega) only [stI1, stI2, stp_eq, stp_row, stp_ne, stp_nj ])) (fun j _ => by rw [g6 36 (by decide) (by decide)]) g8
    exact ⟨_, _, _, rfl, rfl, OutS.ok D y2 (j := 0) (by omega) (fun n => rfl) (Or.inl ⟨_, _, _, _, _, y1⟩)⟩
  have cx : f_SE_control (nI (w.op k)) (xF (w.op k) (w.a k) (w.b k)) s = if t.1 35 (L c + (m.loc (F c) + v.bb k)) = 0 then f_SE_control_133 (nI (w.op k)) (xF (w.op k) (w.a k) (w.b k)) (nI (if w.el k = 0 then w.en k - 1 else w.el k)) (stp s 6 6 (nI (28 * (c - 1) + (m.loc (F c) + v.bb k)))) else f_SE_control_133 (nI (w.op k)) (xF (w.op k) (w.a k) (w.b k)) (nI (k + 1)) (stp s 6 6 (nI (28 * (c - 1) + (m.loc (F c) + v.bb k)))) := by
    rw [f_SE_control, if_neg (show ¬ nI (w.op k) = 0 by rw [h]; decide), if_neg (show ¬ nI (w.op k) = 2 by rw [h]; decide), if_neg (show ¬ nI (w.op k) = 3 by rw [h]; decide), if_pos (show nI (w.op k) = 4 by rw [h]; rfl), px, bd_some, ev, show stp s 6 6 (nI (28 * (c - 1) + (m.loc (F c) + v.bb k))) 6 2 = nI k by simp (disch := first | decide | omega) only [stI1, stI2, stp_eq, stp_row, stp_ne, stp_nj ]; exact n2, nI_1, lt1]
    rw [x_oth (s := stp s 6 6 (nI (28 * (c - 1) + (m.loc (F c) + v.bb k)))) (t := t) (S.rg ((RXf.refl s).p (by decide)) (RMf.refl t)) hk (by omega), bd1_some]
  have c133 : ∀ x s1, f_SE_control_133 (nI (w.op k)) (xF (w.op k) (w.a k) (w.b k)) x s1 = bd1 (f_SE_enterBlock x s1) (fun s1 => some s1) := by
    intro x s1; rw [f_SE_control_133]; rfl
  rw [c133, c133] at cx
  by_cases hx : t.1 35 (L c + (m.loc (F c) + v.bb k)) = 0
  · rw [if_pos hx] at cx mi
    by_cases hel : w.el k = 0
    · rw [if_pos hel] at cx mi
      have z := S.W.i2 e (by omega) (by omega)
      rw [e5, Nat.add_sub_cancel] at z
      have ei := ((S.H.sr e e3).e11 e4 (by omega)).2.2
      rw [e5, Nat.add_sub_cancel] at ei
      have ei2 := ei h hel
      rw [e1, Nat.add_sub_cancel] at cx mi
      refine key e e3 e5 (by rw [← z.2.2]; exact H.tp.fn) (Or.inr ⟨e4, fun _ => by rw [e5, Nat.add_sub_cancel]; exact hlo⟩) ?_ cx mi
      unfold ht
      rw [if_pos e4, e5, bs, gv, if_neg (by omega), if_neg (by omega), Nat.add_sub_cancel, ei2, Nat.add_zero]
    · rw [if_neg hel] at cx mi
      obtain ⟨q1, q2, e', q3, q4, q5, q6, q7, q8⟩ := S.W.el2 k hel
      have q9 := q8 (by omega)
      obtain ⟨r1, r2⟩ := row_n S q5 (by omega) (by omega)
      have r5 := (S.H.sr e' q5).e5 q6
      rw [q7, Nat.add_sub_cancel] at r5
      have rf := (S.lastC q5 (by omega)).2
      have z := S.W.i2 e' (by omega) (by omega)
      rw [q7, Nat.add_sub_cancel] at z
      rw [q3] at cx mi
      have hC1 : e' + 1 < C := (S.lastC q5 (by omega)).1
      have ha := ht_a S hC1 (r5.2 hlo)
      rw [rf, ← z.2.2, H.tp.fn, r5.1, bs, if_neg (by omega), Nat.add_sub_cancel] at ha
      exact key (e' + 1) hC1 (by rw [r1, q7]) (by rw [rf, ← z.2.2]; exact H.tp.fn) (Or.inl (r5.2 hlo)) ha cx mi
  · rw [if_neg hx] at cx mi
    obtain ⟨a2, a3⟩ := S.lastC hk (fun q => by omega)
    have lo1 := lo_n S hk hlo (by unfold lead; omega)
    have hi1 : w.ins (k + 1) = k + 1 := by have := S.W.ni k hk; rw [nxt, if_pos (by omega)] at this; exact this
    have ha := ht_a S a2 lo1
    rw [a3, H.tp.fn, b1, ← b2] at ha
    exact key (k + 1) a2 hi1 (by rw [a3]; exact H.tp.fn) (Or.inl lo1) ha cx mi
end CTLS
