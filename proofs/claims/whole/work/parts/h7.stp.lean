-- running: steps of the stack engine
def OutS (w : Cd) (v : Hv) (m : Md) (C nG me mx : Nat) (s : St) (t : SM) (s' : St) (r : Int32) (t1 : SM) : Prop :=
  (r = 0 ∧ ∃ t2 j, j ≤ 1 ∧ (∀ n, f_M_settle_2 (n + j) 1 t1 = f_M_settle_2 n 1 t2) ∧ RXf s s' ∧ RMf t t2 ∧ (∃ p, DR nG me mx s' t2 p) ∧ ((∃ c F K L k, SyS w v m C c F K L k s' t2) ∨ Dn 6 s' t2)) ∨
  ((r = 2 ∨ r = 3 ∨ r = 4 ∨ r = 5 ∨ r = 6) ∧ s' 6 3 = r ∧ RXf s s' ∧ RMf t t1 ∧ ∃ p, DR nG me mx s' t1 p)
section STPS
variable {w : Cd} {v : Hv} {m : Md} {C nP : Nat} {c : Nat} {F K L : Nat → Nat} {k : Nat} {s : St} {t : SM} {nG me mx p : Nat}
theorem OutS.ok {s' : St} {t1 t2 : SM} {j : Nat} (D : DR nG me mx s t p) (kp : KP s t s' t2) (hj : j ≤ 1) (hs : ∀ n, f_M_settle_2 (n + j) 1 t1 = f_M_settle_2 n 1 t2) (h : (∃ c F K L k, SyS w v m C c F K L k s' t2) ∨ Dn 6 s' t2) : OutS w v m C nG me mx s t s' 0 t1 :=
  Or.inl ⟨rfl, t2, j, hj, hs, kp.x, kp.m, ⟨p, D.kp kp⟩, h⟩
theorem SyS.mv {s' : St} {t' : SM} {k' : Nat} (S : Sta w v m C nP s t) (H : SyS w v m C c F K L k s t) (x0 : s' 6 0 = s 6 0) (x1 : s' 6 1 = s 6 1) (x3 : s' 6 3 = s 6 3) (hx : ∀ a, a = 40 ∨ a = 42 ∨ a = 50 ∨ a = 52 → s' a = s a) (b36 : ∀ j, j < 28 * (c - 1) → s' 36 j = s 36 j) (b48 : ∀ j, j < (c - 1) * 20 → s' 48 j = s 48 j)
    (a22 : t'.1 0 22 = t.1 0 22) (a20 : t'.1 0 20 = t.1 0 20) (a21 : t'.1 0 21 = t.1 0 21) (a32 : t'.1 32 = t.1 32) (a34 : t'.1 34 = t.1 34) (a33 : ∀ i, i ≠ c → t'.1 33 i = t.1 33 i) (a35 : ∀ i, i < L c → t'.1 35 i = t.1 35 i)
    (tp : TP1 w v C 6 id c F k' s' t') (win : Win (28 * (c - 1)) (L c) (m.loc (F c) + ht w v (m.res (F c)) k') s' t') (d5 : s' 6 5 = nI (w.dp k')) (t6 : s' 6 6 = nI (28 * (c - 1) + (m.loc (F c) + ht w v (m.res (F c)) k'))) (lk : LB w v m c (F c) k' s') : SyS w v m C c F K L k' s' t' := by
  refine ⟨H.cf.cg S a22 a20 a21 a32 a34 a33 x0 x1 x3 (hx 40 (by omega)) (hx 42 (by omega)) b36 a35, tp, win, by rw [hx 50 (by omega)]; exact H.fu, by rw [hx 52 (by omega)]; exact H.dp, fun i h1 h2 => ?_, d5, t6, lk⟩
  have := (H.cf.k i h1 h2).2.1
  exact (H.lb i h1 h2).cgs (S.W.d10 _ (by omega)) (fun j hj => b48 j (by omega))
theorem LB.ups {a k' : Nat} {i f : Nat} {s' : St} (h : LB w v m i f k s) (h48 : s' 48 = s 48) (hi : w.ins k' = ups w.ins a (w.ins k)) (hd : w.dp k' + a = w.dp k) : LB w v m i f k' s' := by
  intro j B h1 h2
  rw [hi, ← ups_add] at h2
  have := h (a + j) B (by omega) h2
  rw [h48, show w.dp k' - 1 - j = w.dp k - 1 - (a + j) by omega]
  exact this
theorem lo_n (S : Sta w v m C nP s t) (hk : k < C) (h : v.lo k = 0) (hl : ¬ lead (w.op k)) : v.lo (k + 1) = 0 := ((S.H.sr k hk).r0 h).2 hl
theorem row_n (S : Sta w v m C nP s t) (hk : k < C) (ho : ¬ (2 ≤ w.op k ∧ w.op k ≤ 4)) (h11 : w.op k ≠ 11) : w.ins (k + 1) = w.ins k ∧ w.dp (k + 1) = w.dp k := by
  have h1 := S.W.ni k hk
  have h2 := S.W.nd k hk
  rw [nxt, if_neg ho, if_neg h11] at h1
  rw [dnx, if_neg ho, if_neg h11] at h2
  exact ⟨h1, h2⟩
theorem add_subI (x y z : Int32) : (x + y) + (z - y) = x + z := by
  rw [Int32.sub_eq_add_neg, Int32.add_assoc, ← Int32.add_assoc y z, Int32.add_comm y z, Int32.add_assoc z y, Int32.add_right_neg, Int32.add_zero]
theorem st_c (S : Sta w v m C nP s t) (H : SyS w v m C c F K L k s t) (h : w.op k < 17) : f_SE_step s = f_SE_control (nI (w.op k)) (xF (w.op k) (w.a k) (w.b k)) s := by
  have hk := H.tp.kC
  have hC := S.hC
  have n2 : s 6 2 = nI k := H.tp.nx
  have R := S.rx k hk
  have kn := S.kn hk
  rw [f_SE_step, n2, tg_240_7_0 (by omega), R.c0, lt1, tg_240_7_1 (by omega), R.c1, lt1, ic_x _ (by omega) kn.1, bd1_some, if_pos h, if_neg (by decide)]
  cases f_SE_control (nI (w.op k)) (xF (w.op k) (w.a k) (w.b k)) s <;> rfl
/-- an instruction that is not of control -/
theorem stp_w (S : Sta w v m C nP s t) (H : SyS w v m C c F K L k s t) (D : DR m.nG m.me mx s t p) (h16 : 16 < w.op k) : ∃ s' r t1, f_SE_step s = some s' ∧ f_M_perform (nI k) t = some (r, t1) ∧ OutS w v m C m.nG m.me mx s t s' r t1 := by
  have hk := H.tp.kC
  have hC := S.hC
  have n2 : s 6 2 = nI k := H.tp.nx
  have R := S.rx k hk
  obtain ⟨kn, ok⟩ := S.kn hk
  have c1 := H.cf.c1; have c8 := H.cf.c8
  obtain ⟨f1, f2, f3⟩ := H.cf.f c c1 (Nat.le_refl _)
  have hp := S.E.p4 _ f3
  have lc := H.cf.lc S
  have hlo : v.lo k = 0 := by rcases H.tp.al with q | q; exact q; omega
  have hht : ht w v (m.res (F c)) k = v.hi k := by unfold ht; rw [if_neg (by omega)]
  have T := (S.H.sr k hk).wt hlo
  obtain ⟨pn1, pn2⟩ := T.pn h16
  obtain ⟨a2, a3⟩ := S.lastC hk (fun q => by omega)
  have h16' := S.h16 a2
  have h16k := S.h16 hk
  have lo1 := lo_n S hk hlo (by unfold lead; omega)
  obtain ⟨ri, rd⟩ := row_n S hk (by omega) (by omega)
  have ha := ht_a S a2 lo1
  rw [a3, H.tp.fn] at ha
  have W := H.win
  have t6 := H.t6
  rw [hht] at W t6
  have fnk := H.tp.fn
  have wc : WC w k (28 * (c - 1)) (L c) (m.loc (F c) + v.hi k) c s t := ⟨W, H.cf.cc, by omega, f2, by omega, by omega, by omega, by omega, S.rm k hk, kn, ok, by omega, by omega⟩
  obtain ⟨r, s', t', g1, g2, g3, g4, g5, g6, g7⟩ := work2 wc D h16 S.E.nG4 (fun q => by have := T.pl q; rw [fnk] at this; omega) (fun q => T.pg q) (fun q => T.pm q)
  obtain ⟨q1, q2, q3, q4⟩ := tk_x _ (kno_lt kn) kn h16
  have e0 : f_SE_step s = if r = 0 then some (stp (stp s' 6 6 (s' 6 6 + (nI (gvs (w.op k)) - nI (tks (w.op k))))) 6 2 (stp s' 6 6 (s' 6 6 + (nI (gvs (w.op k)) - nI (tks (w.op k)))) 6 2 + 1)) else some (stp s' 6 3 r) := by
    rw [f_SE_step, n2, tg_240_7_0 (by omega), R.c0, lt1, tg_240_7_1 (by omega), R.c1, lt1, ic_x _ (kno_lt kn) kn, bd1_some, if_neg (show ¬ w.op k < 17 by omega), if_pos rfl, H.cf.x1, t6, g1, bd_some, q1, q3]
    simp only [lt1, bd1_some]
  rw [e0]
  have s6 : s' 6 = s 6 := g4.o 6 (by decide) (by decide) (by decide) (by decide)
  by_cases hr : r = 0
  · obtain ⟨w1, w2⟩ := g7 hr
    rw [if_pos hr, s6, stp_nj _ _ _ (by decide), s6, n2, t6, nI_1]
    have et : nI (28 * (c - 1) + (m.loc (F c) + v.hi k)) + (nI (gvs (w.op k)) - nI (tks (w.op k))) = nI (28 * (c - 1) + (m.loc (F c) + v.hi (k + 1))) := by
      rw [show 28 * (c - 1) + (m.loc (F c) + v.hi k) = (28 * (c - 1) + (m.loc (F c) + v.hi k) - tks (w.op k)) + tks (w.op k) by omega, ← nI_add, add_subI, nI_add]
      exact congrArg nI (by omega)
    rw [et]
    refine ⟨_, _, _, rfl, by rw [g2, hr], Or.inl ⟨rfl, t', 0, by omega, fun n => rfl, (g4.rx.p (by decide)).p (by decide), g5.rm, ?_, Or.inl ⟨c, F, K, L, k + 1, ?_⟩⟩⟩
    · obtain ⟨p', D'⟩ := g6
      exact ⟨p', D'.cg (by simp (disch := first | decide | omega) only [stI1, stI2, stp_eq, stp_row, stp_ne, stp_nj ]) (by simp (disch := first | decide | omega) only [stI1, stI2, stp_eq, stp_row, stp_ne, stp_nj ]) (by simp (disch := first | decide | omega) only [stI1, stI2, stp_eq, stp_row, stp_ne, stp_nj ]) rfl rfl rfl rfl rfl⟩
    · have wv : Win (28 * (c - 1)) (L c) (m.loc (F c) + v.hi (k + 1)) (stp (stp s' 6 6 (nI (28 * (c - 1) + (m.loc (F c) + v.hi (k + 1))))) 6 2 (nI (k + 1))) t' := by
        rw [show m.loc (F c) + v.hi k - tks (w.op k) + gvs (w.op k) = m.loc (F c) + v.hi (k + 1) by omega] at w1
        exact w1.cut (Nat.le_refl _) (by simp (disch := first | decide | omega) only [stI1, stI2, stp_eq, stp_row, stp_ne, stp_nj ]) rfl w1.sp
      refine H.mv S (by simp (disch := first | decide | omega) only [stI1, stI2, stp_eq, stp_row, stp_ne, stp_nj ]; rw [s6]) (by simp (disch := first | decide | omega) only [stI1, stI2, stp_eq, stp_row, stp_ne, stp_nj ]; rw [s6]) (by simp (disch := first | decide | omega) only [stI1, stI2, stp_eq, stp_row, stp_ne, stp_nj ]; rw [s6]) (fun a ha => ?_) (fun j hj => by simp (disch := first | decide | omega) only [stI1, stI2, stp_eq, stp_row, stp_ne, stp_nj ]; exact g4.l j (by omega)) (fun j hj => by simp (disch := first | decide | omega) only [stI1, stI2, stp_eq, stp_row, stp_ne, stp_nj ]; rw [g4.o 48 (by decide) (by decide) (by decide) (by decide)]) (g5.z 22 (by decide) (by decide)) (g5.z 20 (by decide) (by decide)) (g5.z 21 (by decide) (by decide)) (g5.o 32 (by decide) (by decide) (by decide) (by decide) (by decide)) (g5.o 34 (by decide) (by decide) (by decide) (by decide) (by decide)) g5.p g5.k ⟨w2, a2, by rw [a3]; exact fnk, by simp (disch := first | decide | omega) only [stI1, stI2, stp_eq, stp_row, stp_ne, stp_nj ]; rfl, Or.inl lo1⟩ (by rw [ha]; exact wv) (by simp (disch := first | decide | omega) only [stI1, stI2, stp_eq, stp_row, stp_ne, stp_nj ]; rw [s6, rd]; exact H.d5) (by simp (disch := first | decide | omega) only [stI1, stI2, stp_eq, stp_row, stp_ne, stp_nj ]; rw [ha]) (H.lk.cg (by simp (disch := first | decide | omega) only [stI1, stI2, stp_eq, stp_row, stp_ne, stp_nj ]; exact g4.o 48 (by decide) (by decide) (by decide) (by decide)) ri rd)
      rcases ha with q | q | q | q <;> subst q <;> simp (disch := first | decide | omega) only [stI1, stI2, stp_eq, stp_row, stp_ne, stp_nj ] <;> exact g4.o _ (by decide) (by decide) (by decide) (by decide)
  · rw [if_neg hr]
    refine ⟨_, _, _, rfl, g2, Or.inr ⟨by rcases g3 with q | q | q | q; exact absurd q hr; exact Or.inr (Or.inl q); exact Or.inr (Or.inr (Or.inl q)); exact Or.inr (Or.inr (Or.inr (Or.inl q))), by simp (disch := first | decide | omega) only [stI1, stI2, stp_eq, stp_row, stp_ne, stp_nj ], g4.rx.p (by decide), g5.rm, ?_⟩⟩
    obtain ⟨p', D'⟩ := g6
    exact ⟨p', D'.cg (by simp (disch := first | decide | omega) only [stI1, stI2, stp_eq, stp_row, stp_ne, stp_nj ]) (by simp (disch := first | decide | omega) only [stI1, stI2, stp_eq, stp_row, stp_ne, stp_nj ]) (by simp (disch := first | decide | omega) only [stI1, stI2, stp_eq, stp_row, stp_ne, stp_nj ]) rfl rfl rfl rfl rfl⟩
end STPS
