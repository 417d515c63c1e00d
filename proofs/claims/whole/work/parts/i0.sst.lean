-- running: the stack engine's steps, all of them
theorem abv_u {a M : Nat} (ha : a < 2 ^ 32) (hM : M < 2 ^ 31) : f_X_isAbove (nI a) (nI M) = some (if a ≤ M then 0 else 1) := by
  rw [f_X_isAbove]
  simp only [f_X_isAbove_9, f_X_isAbove_14, bz0, bz1]
  by_cases hs : a < 2 ^ 31
  · rw [if_neg (nI_pos hs)]
    by_cases q : a ≤ M
    · rw [if_pos (nI_le q (by omega)), if_pos q]
    · rw [if_neg (nI_ge (by omega) hs), if_neg q]
  · have : nI a < 0 := by
      rw [Int32.lt_iff_toInt_lt]
      show (Int32.ofNat a).toInt < 0
      rw [Int32.toInt_ofNat']
      simp only [Int.bmod, Int32.size]
      omega
    rw [if_pos this, if_neg (by omega)]
section SST
variable {w : Cd} {v : Hv} {m : Md} {C nP : Nat} {c : Nat} {F K L : Nat → Nat} {k : Nat} {s : St} {t : SM} {nG me mx p : Nat}
theorem labAt2 (S : Sta w v m C nP s t) (hk : k < C) (h14 : w.op k = 14) {x : Nat} (hx : x < 2 ^ 32) : f_Cont_labelAt s (nI k) (nI x) = some (nI (w.pl (w.b k + min x (w.a k)))) := by
  have hC := S.hC
  have R := S.rx k hk
  have ha8 := (S.kn hk).2.tab h14
  have htb := S.tb k hk h14
  have hnP := S.hnP
  by_cases q : x ≤ w.a k
  · rw [Nat.min_eq_left q]
    exact labAt R (by omega) h14 q ha8 hnP htb (fun j hj => (S.px j hj).2.1)
  · rw [Nat.min_eq_right (by omega)]
    have e1 : tGet 240 7 (s 21) (nI k) 1 = nI (w.a k) := by rw [tg_240_7_1 (by omega), R.c1, xF, h14, if_neg (by decide), if_neg (by decide)]
    have e2 : tGet 240 7 (s 21) (nI k) 2 = nI (w.b k) := by rw [tg_240_7_2 (by omega), R.c2, xS, h14, if_neg (by decide)]
    rw [f_Cont_labelAt, e1, lt1, abv_u hx (by omega), if_neg q, bd1_some, if_neg (by decide), f_Cont_labelAt_23, e2, lt1, nI_add, lt1, tg_240_1_0 (by omega), (S.px _ (by omega)).2.1, lt1]
theorem SyS.fr (S : Sta w v m C nP s t) (H : SyS w v m C c F K L k s t) (h11 : w.op k ≠ 11) {x : Int32} : Fr w v m C c F K L k (v.hi k) s (stI t 33 c x) := by
  have hk := H.tp.kC
  have hlo : v.lo k = 0 := by rcases H.tp.al with q | q; exact q; exact absurd q.1 h11
  have hht : ht w v (m.res (F c)) k = v.hi k := by unfold ht; rw [if_neg h11]
  have W := H.win
  have t6 := H.t6
  rw [hht] at W t6
  exact ⟨H.cf.cg S (by simp (disch := first | decide | omega) only [stI1, stI2, stp_eq, stp_row, stp_ne, stp_nj ]) (by simp (disch := first | decide | omega) only [stI1, stI2, stp_eq, stp_row, stp_ne, stp_nj ]) (by simp (disch := first | decide | omega) only [stI1, stI2, stp_eq, stp_row, stp_ne, stp_nj ]) (by simp (disch := first | decide | omega) only [stI1, stI2, stp_eq, stp_row, stp_ne, stp_nj ]) (by simp (disch := first | decide | omega) only [stI1, stI2, stp_eq, stp_row, stp_ne, stp_nj ]) (fun i hi => by simp (disch := first | decide | omega) only [stI1, stI2, stp_eq, stp_row, stp_ne, stp_nj ]) rfl rfl rfl rfl rfl (fun _ _ => rfl) (fun _ _ => by simp (disch := first | decide | omega) only [stI1, stI2, stp_eq, stp_row, stp_ne, stp_nj ]), H.fu, H.dp, H.lb, H.lk, H.d5, hk, hlo, H.tp.fn, W.cut (Nat.le_refl _) rfl (by simp (disch := first | decide | omega) only [stI1, stI2, stp_eq, stp_row, stp_ne, stp_nj ]) (by simp (disch := first | decide | omega) only [stI1, stI2, stp_eq, stp_row, stp_ne, stp_nj ]; exact W.sp), t6, S.h16 hk⟩
/-- one operand is taken off -/
theorem SyS.fr1 (S : Sta w v m C nP s t) (H : SyS w v m C c F K L k s t) (h11 : w.op k ≠ 11) {y : Nat} (hy : v.hi k = y + 1) {x : Int32} : Fr w v m C c F K L k y (stp s 6 6 (nI (28 * (c - 1) + (m.loc (F c) + y)))) (stI (stI t 33 c x) 0 23 (nI (L c + (m.loc (F c) + y)))) := by
  have hk := H.tp.kC
  have hlo : v.lo k = 0 := by rcases H.tp.al with q | q; exact q; exact absurd q.1 h11
  have hht : ht w v (m.res (F c)) k = v.hi k := by unfold ht; rw [if_neg h11]
  have W := H.win
  rw [hht] at W
  have h16 := S.h16 hk
  exact ⟨H.cf.cg S (by simp (disch := first | decide | omega) only [stI1, stI2, stp_eq, stp_row, stp_ne, stp_nj ]) (by simp (disch := first | decide | omega) only [stI1, stI2, stp_eq, stp_row, stp_ne, stp_nj ]) (by simp (disch := first | decide | omega) only [stI1, stI2, stp_eq, stp_row, stp_ne, stp_nj ]) (by simp (disch := first | decide | omega) only [stI1, stI2, stp_eq, stp_row, stp_ne, stp_nj ]) (by simp (disch := first | decide | omega) only [stI1, stI2, stp_eq, stp_row, stp_ne, stp_nj ]) (fun i hi => by simp (disch := first | decide | omega) only [stI1, stI2, stp_eq, stp_row, stp_ne, stp_nj ]) (by simp (disch := first | decide | omega) only [stI1, stI2, stp_eq, stp_row, stp_ne, stp_nj ]) (by simp (disch := first | decide | omega) only [stI1, stI2, stp_eq, stp_row, stp_ne, stp_nj ]) (by simp (disch := first | decide | omega) only [stI1, stI2, stp_eq, stp_row, stp_ne, stp_nj ]) (by simp (disch := first | decide | omega) only [stI1, stI2, stp_eq, stp_row, stp_ne, stp_nj ]) (by simp (disch := first | decide | omega) only [stI1, stI2, stp_eq, stp_row, stp_ne, stp_nj ]) (fun _ _ => by simp (disch := first | decide | omega) only [stI1, stI2, stp_eq, stp_row, stp_ne, stp_nj ]) (fun _ _ => by simp (disch := first | decide | omega) only [stI1, stI2, stp_eq, stp_row, stp_ne, stp_nj ]), fun i h1 h2 => by simp (disch := first | decide | omega) only [stI1, stI2, stp_eq, stp_row, stp_ne, stp_nj ]; exact H.fu i h1 h2, fun i h1 h2 => by simp (disch := first | decide | omega) only [stI1, stI2, stp_eq, stp_row, stp_ne, stp_nj ]; exact H.dp i h1 h2, fun i h1 h2 => (H.lb i h1 h2).cg (by simp (disch := first | decide | omega) only [stI1, stI2, stp_eq, stp_row, stp_ne, stp_nj ]) rfl rfl, H.lk.cg (by simp (disch := first | decide | omega) only [stI1, stI2, stp_eq, stp_row, stp_ne, stp_nj ]) rfl rfl, by simp (disch := first | decide | omega) only [stI1, stI2, stp_eq, stp_row, stp_ne, stp_nj ]; exact H.d5, hk, hlo, H.tp.fn, W.cut (by omega) (by simp (disch := first | decide | omega) only [stI1, stI2, stp_eq, stp_row, stp_ne, stp_nj ]) (by simp (disch := first | decide | omega) only [stI1, stI2, stp_eq, stp_row, stp_ne, stp_nj ]) (by simp (disch := first | decide | omega) only [stI1, stI2, stp_eq, stp_row, stp_ne, stp_nj ]), by simp (disch := first | decide | omega) only [stI1, stI2, stp_eq, stp_row, stp_ne, stp_nj ], by omega⟩
theorem ct_12 (S : Sta w v m C nP s t) (H : SyS w v m C c F K L k s t) (D : DR nG me mx s t p) (h : w.op k = 12) : ∃ s' r t1, f_SE_step s = some s' ∧ f_M_perform (nI k) t = some (r, t1) ∧ OutS w v m C nG me mx s t s' r t1 := by
  have hk := H.tp.kC
  have c8 := H.cf.c8
  have hlo : v.lo k = 0 := by rcases H.tp.al with q | q; exact q; omega
  obtain ⟨b1, b2⟩ := ((S.H.sr k hk).wt hlo).t12 h
  rw [H.tp.fn] at b2
  have kp0 : KP s t s (stI t 33 c (nI (k + 1))) := (KP.refl s t).pm (by decide)
  obtain ⟨s', t1, t2, j, g1, g2, g3, g4, g5, g6⟩ := brS (S.rg kp0.x kp0.m) (H.fr S (by omega) (x := nI (k + 1))) b1 b2
  rw [st_c S H (by omega), mc_br S hk h H.cf.cc (by omega), g2, bd1_some, xF, if_neg (by omega), if_neg (by omega), f_SE_control, if_neg (show ¬ nI (w.op k) = 0 by rw [h]; decide), if_neg (show ¬ nI (w.op k) = 2 by rw [h]; decide), if_neg (show ¬ nI (w.op k) = 3 by rw [h]; decide), if_neg (show ¬ nI (w.op k) = 4 by rw [h]; decide), if_pos (show nI (w.op k) = 12 by rw [h]; rfl), g1, bd1_some, f_SE_control_222]
  exact ⟨_, _, _, rfl, rfl, OutS.ok D (kp0.trans g5) g3 g4 g6⟩
theorem ct_13 (S : Sta w v m C nP s t) (H : SyS w v m C c F K L k s t) (D : DR nG me mx s t p) (h : w.op k = 13) : ∃ s' r t1, f_SE_step s = some s' ∧ f_M_perform (nI k) t = some (r, t1) ∧ OutS w v m C nG me mx s t s' r t1 := by
  have hk := H.tp.kC
  have c1 := H.cf.c1; have c8 := H.cf.c8
  have n2 : s 6 2 = nI k := H.tp.nx
  have hlo : v.lo k = 0 := by rcases H.tp.al with q | q; exact q; omega
  have T := (S.H.sr k hk).wt hlo
  obtain ⟨b1, b2, b3⟩ := T.t13 h
  rw [H.tp.fn] at b2
  have h16 := S.h16 hk
  obtain ⟨f1, f2, f3⟩ := H.cf.f c c1 (Nat.le_refl _)
  have hp := S.E.p4 _ f3
  have lc := H.cf.lc S
  have hht : ht w v (m.res (F c)) k = v.hi k := by unfold ht; rw [if_neg (by omega)]
  obtain ⟨y, hy⟩ : ∃ y, v.hi k = y + 1 := ⟨v.hi k - 1, by omega⟩
  have W := H.win
  have t6 := H.t6
  rw [hht, hy] at W t6
  have px := pop_x H t6 (by omega)
  have ev := W.eq (m.loc (F c) + y) (by omega)
  have Fr1 := H.fr1 S (by omega) hy (x := nI (k + 1))
  have kp0 : KP s t (stp s 6 6 (nI (28 * (c - 1) + (m.loc (F c) + y)))) (stI (stI t 33 c (nI (k + 1))) 0 23 (nI (L c + (m.loc (F c) + y)))) := (((KP.refl s t).px (by decide)).pm (by decide)).p0 (by decide)
  obtain ⟨s', t1, t2, j, g1, g2, g3, g4, g5, g6⟩ := brS (S.rg kp0.x kp0.m) Fr1 b1 (by omega)
  rw [st_c S H (by omega), mc_bif S hk h H.cf.cc (by omega) (q := L c + (m.loc (F c) + y)) (by rw [W.sp]; rfl) (by omega), xF, if_neg (by omega), if_neg (by omega), f_SE_control, if_neg (show ¬ nI (w.op k) = 0 by rw [h]; decide), if_neg (show ¬ nI (w.op k) = 2 by rw [h]; decide), if_neg (show ¬ nI (w.op k) = 3 by rw [h]; decide), if_neg (show ¬ nI (w.op k) = 4 by rw [h]; decide), if_neg (show ¬ nI (w.op k) = 12 by rw [h]; decide), if_pos (show nI (w.op k) = 13 by rw [h]; rfl), px, bd_some, ev, g1, g2, bd1_some]
  by_cases hx : t.1 35 (L c + (m.loc (F c) + y)) = 0
  · rw [if_pos hx, if_pos hx, show stp s 6 6 (nI (28 * (c - 1) + (m.loc (F c) + y))) 6 2 = nI k by simp (disch := first | decide | omega) only [stI1, stI2, stp_eq, stp_row, stp_ne, stp_nj ]; exact n2, nI_1, lt1, lt1, f_SE_control_222]
    obtain ⟨a2, a3⟩ := S.lastC hk (fun q => by omega)
    have lo1 := lo_n S hk hlo (by unfold lead; omega)
    obtain ⟨ri, rd⟩ := row_n S hk (by omega) (by omega)
    have ha := ht_a S a2 lo1
    rw [a3, H.tp.fn, b3, hy, Nat.add_sub_cancel] at ha
    obtain ⟨y1, y2⟩ := H.to S (k2 := k + 1) (s' := stp (stp s 6 6 (nI (28 * (c - 1) + (m.loc (F c) + y)))) 6 2 (nI (k + 1))) (t' := stI (stI t 33 c (nI (k + 1))) 0 23 (nI (L c + (m.loc (F c) + y)))) a2 (by rw [a3]; exact H.tp.fn) (Or.inl lo1) ha (fun j hj => by rw [stp_nj _ _ _ (by omega), stp_nj _ _ _ (by omega)]) (by simp (disch := first | decide | omega) only [stI1, stI2, stp_eq, stp_row, stp_ne, stp_nj ]) (by simp (disch := first | decide | omega) only [stI1, stI2, stp_eq, stp_row, stp_ne, stp_nj ]; rw [rd]; exact H.d5) (by simp (disch := first | decide | omega) only [stI1, stI2, stp_eq, stp_row, stp_ne, stp_nj ]) (fun a a1 _ _ => by simp (disch := first | decide | omega) only [stI1, stI2, stp_eq, stp_row, stp_ne, stp_nj ]) (fun j _ => by simp (disch := first | decide | omega) only [stI1, stI2, stp_eq, stp_row, stp_ne, stp_nj ]) (((WJ.refl _ _ _).p33).p0) (by simp (disch := first | decide | omega) only [stI1, stI2, stp_eq, stp_row, stp_ne, stp_nj ]) (W.cut (by omega) (by simp (disch := first | decide | omega) only [stI1, stI2, stp_eq, stp_row, stp_ne, stp_nj ]) (by simp (disch := first | decide | omega) only [stI1, stI2, stp_eq, stp_row, stp_ne, stp_nj ]) (by simp (disch := first | decide | omega) only [stI1, stI2, stp_eq, stp_row, stp_ne, stp_nj ])) (fun j _ => by simp (disch := first | decide | omega) only [stI1, stI2, stp_eq, stp_row, stp_ne, stp_nj ]) (H.lk.cg (by simp (disch := first | decide | omega) only [stI1, stI2, stp_eq, stp_row, stp_ne, stp_nj ]) ri rd)
    exact ⟨_, _, _, rfl, rfl, OutS.ok D y2 (j := 0) (by omega) (fun n => rfl) (Or.inl ⟨_, _, _, _, _, y1⟩)⟩
  · rw [if_neg hx, if_neg hx, bd1_some, f_SE_control_222]
    exact ⟨_, _, _, rfl, rfl, OutS.ok D (kp0.trans g5) g3 g4 g6⟩
theorem ct_14 (S : Sta w v m C nP s t) (H : SyS w v m C c F K L k s t) (D : DR nG me mx s t p) (h : w.op k = 14) : ∃ s' r t1, f_SE_step s = some s' ∧ f_M_perform (nI k) t = some (r, t1) ∧ OutS w v m C nG me mx s t s' r t1 := by
  have hk := H.tp.kC
  have c1 := H.cf.c1; have c8 := H.cf.c8
  have n2 : s 6 2 = nI k := H.tp.nx
  have hlo : v.lo k = 0 := by rcases H.tp.al with q | q; exact q; omega
  have T := (S.H.sr k hk).wt hlo
  have h16 := S.h16 hk
  obtain ⟨f1, f2, f3⟩ := H.cf.f c c1 (Nat.le_refl _)
  have hp := S.E.p4 _ f3
  have lc := H.cf.lc S
  have hht : ht w v (m.res (F c)) k = v.hi k := by unfold ht; rw [if_neg (by omega)]
  have b00 := T.t14 h 0 (Nat.zero_le _)
  obtain ⟨y, hy⟩ : ∃ y, v.hi k = y + 1 := ⟨v.hi k - 1, by omega⟩
  have W := H.win
  have t6 := H.t6
  rw [hht, hy] at W t6
  have px := pop_x H t6 (by omega)
  have ev := W.eq (m.loc (F c) + y) (by omega)
  obtain ⟨x, hx, ex⟩ := wb_of32 (t.1 35 (L c + (m.loc (F c) + y)))
  obtain ⟨b1, b2⟩ := T.t14 h (min x (w.a k)) (Nat.min_le_right _ _)
  rw [H.tp.fn] at b2
  have Fr1 := H.fr1 S (by omega) hy (x := nI (k + 1))
  have kp0 : KP s t (stp s 6 6 (nI (28 * (c - 1) + (m.loc (F c) + y)))) (stI (stI t 33 c (nI (k + 1))) 0 23 (nI (L c + (m.loc (F c) + y)))) := (((KP.refl s t).px (by decide)).pm (by decide)).p0 (by decide)
  have S1 := S.rg kp0.x kp0.m
  obtain ⟨s', t1, t2, j, g1, g2, g3, g4, g5, g6⟩ := brS S1 Fr1 b1 (by omega)
  rw [st_c S H (by omega), mc_tab S hk h H.cf.cc (by omega) (q := L c + (m.loc (F c) + y)) (by rw [W.sp]; rfl) (by omega) hx ex, xF, if_neg (by omega), if_neg (by omega), f_SE_control, if_neg (show ¬ nI (w.op k) = 0 by rw [h]; decide), if_neg (show ¬ nI (w.op k) = 2 by rw [h]; decide), if_neg (show ¬ nI (w.op k) = 3 by rw [h]; decide), if_neg (show ¬ nI (w.op k) = 4 by rw [h]; decide), if_neg (show ¬ nI (w.op k) = 12 by rw [h]; decide), if_neg (show ¬ nI (w.op k) = 13 by rw [h]; decide), if_pos (show nI (w.op k) = 14 by rw [h]; rfl), px, bd_some, ev, ex, n2, labAt2 S1 hk h hx, bd1_some, g1, g2, bd1_some, bd1_some, f_SE_control_222]
  exact ⟨_, _, _, rfl, rfl, OutS.ok D (kp0.trans g5) g3 g4 g6⟩
theorem ct_15 (S : Sta w v m C nP s t) (H : SyS w v m C c F K L k s t) (D : DR nG me mx s t p) (h : w.op k = 15) : ∃ s' r t1, f_SE_step s = some s' ∧ f_M_perform (nI k) t = some (r, t1) ∧ OutS w v m C nG me mx s t s' r t1 := by
  have hk := H.tp.kC
  have c1 := H.cf.c1; have c8 := H.cf.c8
  have hlo : v.lo k = 0 := by rcases H.tp.al with q | q; exact q; omega
  have b2 := ((S.H.sr k hk).wt hlo).t15 h
  rw [H.tp.fn] at b2
  obtain ⟨f1, f2, f3⟩ := H.cf.f c c1 (Nat.le_refl _)
  obtain ⟨bg, ls, Fs, _, _⟩ := S.fs (w.fn k) (S.lt k hk)
  have kp0 : KP s t s (stI t 33 c (nI (k + 1))) := (KP.refl s t).pm (by decide)
  have S1 := S.rg kp0.x kp0.m
  obtain ⟨s', t2, g1, g2, g3, g4⟩ := (H.fr S (by omega) (x := nI (k + 1))).ex S1 (t1 := stI (stI t 33 c (nI (k + 1))) 33 c (nI ls)) (by rw [show (stI (stI t 33 c (nI (k + 1))) 33 c (nI ls)).1 33 c = nI ls by simp (disch := first | decide | omega) only [stI1, stI2, stp_eq, stp_row, stp_ne, stp_nj ]]) (by simp (disch := first | decide | omega) only [stI1, stI2, stp_eq, stp_row, stp_ne, stp_nj ]) Fs.lC Fs.ol Fs.il (by rw [Fs.fn ls Fs.bl (Nat.le_refl _)]; exact H.tp.fn) (by omega)
  rw [st_c S H (by omega), mc_ret S hk h H.cf.cc (by omega) (by rw [H.tp.fn]; exact f1) Fs, f_SE_control, if_neg (show ¬ nI (w.op k) = 0 by rw [h]; decide), if_neg (show ¬ nI (w.op k) = 2 by rw [h]; decide), if_neg (show ¬ nI (w.op k) = 3 by rw [h]; decide), if_neg (show ¬ nI (w.op k) = 4 by rw [h]; decide), if_neg (show ¬ nI (w.op k) = 12 by rw [h]; decide), if_neg (show ¬ nI (w.op k) = 13 by rw [h]; decide), if_neg (show ¬ nI (w.op k) = 14 by rw [h]; decide), if_pos (show nI (w.op k) = 15 by rw [h]; rfl), g1, bd1_some, f_SE_control_222]
  exact ⟨_, _, _, rfl, rfl, OutS.ok D (kp0.trans g3) (j := 1) (by omega) g2 g4⟩
/-- a call opens: the calls of both sides -/
theorem CF.push {E NX TP : Nat} {pos : Nat → Nat} {s' : St} {t' : SM} {la : Nat} (S : Sta w v m C nP s t) (H : CF w v m C E NX TP pos c F K L s t) (h8 : c < 8) (hk : k < C) (h16 : w.op k = 16) (hlo : v.lo k = 0) (hfn : w.fn k = F c) (win : Win (28 * (c - 1)) (L c) (m.loc (F c) + v.hi k) s t) (hla : la + m.par (w.a k) = L c + (m.loc (F c) + v.hi k))
    (x0 : s' E 0 = nI (c + 1)) (x1 : s' E 1 = nI (28 * c)) (x3 : s' E 3 = s E 3) (xn : s' NX = upd (s NX) c (nI (pos (k + 1)))) (xt : s' TP = upd (s TP) c (nI (28 * (c - 1) + (m.loc (F c) + v.hi k) - m.par (w.a k)))) (b36 : ∀ j, j < 28 * c → s' 36 j = s 36 j)
    (a22 : t'.1 0 22 = nI (c + 1)) (a20 : t'.1 0 20 = t.1 0 20) (a21 : t'.1 0 21 = t.1 0 21) (a32 : t'.1 32 = upd (t.1 32) (c + 1) (nI (w.a k))) (a34 : t'.1 34 = upd (t.1 34) (c + 1) (nI la)) (a33 : ∀ i, i < c → t'.1 33 i = t.1 33 i) (a33c : t'.1 33 c = nI (k + 1)) (a35 : ∀ i, i < L c + (m.loc (F c) + v.hi k) → t'.1 35 i = t.1 35 i) :
    CF w v m C E NX TP pos (c + 1) (fu F (c + 1) (w.a k)) (fu K c (k + 1)) (fu L (c + 1) la) s' t' := by
  have c1 := H.c1
  have T := (S.H.sr k hk).wt hlo
  obtain ⟨q1, q2, q3⟩ := T.t16 h16
  have hpa := S.E.p4 _ q1
  obtain ⟨f1, f2, f3⟩ := H.f c c1 (Nat.le_refl _)
  have hp := S.E.p4 _ f3
  obtain ⟨a2, a3⟩ := S.lastC hk (fun q => by omega)
  have lo1 := lo_n S hk hlo (by unfold lead; omega)
  have hk16 := S.h16 hk
  refine ⟨a22, by omega, by omega, a20.trans H.ru, a21.trans H.rz, fun i h1 h2 => ?_, fun i h1 h2 => ?_, by rw [fu_ne _ _ (by omega)]; exact H.l1, x0, by rw [x1, Nat.add_sub_cancel], x3.trans H.x3, fun i h1 h2 => ?_⟩
  · rw [a32, a34]
    by_cases e : i = c + 1
    · subst e; rw [pk_us, pk_us, fu_eq, fu_eq]; exact ⟨rfl, rfl, q1⟩
    · rw [pk_un e, pk_un e, fu_ne _ _ e, fu_ne _ _ e]; exact H.f i h1 (by omega)
  · by_cases e : i = c
    · subst e
      rw [a33c, fu_eq, fu_ne _ _ (by omega), fu_eq, fu_eq, fu_ne _ _ (by omega), a3]
      exact ⟨rfl, a2, hfn, lo1, by omega, by omega⟩
    · rw [a33 i (by omega), fu_ne _ _ (by omega), fu_ne _ _ (by omega), fu_ne _ _ (by omega), fu_ne _ _ (by omega), fu_ne _ _ (by omega)]
      exact H.k i h1 (by omega)
  · by_cases e : i = c
    · subst e
      rw [fu_eq, fu_eq, fu_ne _ _ (by omega), xn, xt, pk_us, pk_us]
      refine ⟨rfl, congrArg nI (by omega), fun x hx => ?_⟩
      rw [b36 _ (by omega), a35 _ (by omega)]
      exact win.eq x (by omega)
    · rw [fu_ne _ _ (by omega), fu_ne _ _ (by omega), fu_ne _ _ (by omega), xn, xt, pk_un e, pk_un e]
      obtain ⟨n1, n2, n3⟩ := H.nx i h1 (by omega)
      refine ⟨n1, n2, fun x hx => ?_⟩
      have d := H.d28 S h1 (show i < c by omega)
      have mo := H.mono S (i := i + 1) (by omega) (c - (i + 1)) (by omega)
      rw [show i + 1 + (c - (i + 1)) = c by omega] at mo
      rw [b36 _ (by omega), a35 _ (by omega)]
      exact n3 x hx
/-- the cells of the call that has opened -/
theorem win_push {s' : St} {t' : SM} {la b' f q : Nat} (hq : q + m.par f = b' + la) (E : Env m s t) (hf : f < m.nF) (hla : True) (h1 : ∀ x, x < 28 → s' 36 (28 * c + x) = if x < m.par f then s 36 (q + x) else 0) (win : ∀ x, x < m.par f → s 36 (q + x) = t.1 35 (la + x)) (h23 : t'.1 0 23 = nI (la + m.loc f)) (e1 : ∀ j, j < la + m.par f → t'.1 35 j = t.1 35 j) (e2 : ∀ j, la + m.par f ≤ j → j < la + m.loc f → t'.1 35 j = 0) : Win (28 * c) la (m.loc f) s' t' := by
  have hp := E.p4 f hf
  refine ⟨h23, fun x hx => ?_⟩
  rw [h1 x (by omega)]
  by_cases z : x < m.par f
  · rw [if_pos z, e1 _ (by omega)]; exact win x z
  · rw [if_neg z, e2 _ (by omega) (by omega)]
end SST
