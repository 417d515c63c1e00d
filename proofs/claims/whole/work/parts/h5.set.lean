-- running: what does not count, stack engine
section SETS
variable {w : Cd} {v : Hv} {m : Md} {C nP : Nat} {c : Nat} {F K L : Nat → Nat} {k : Nat} {s : St} {t : SM}
theorem els_e (S : Sta w v m C nP s t) (hk : k < C) (h5 : w.op k = 5) : ∃ e B, w.ins k = B + 1 ∧ w.en B = e + 1 ∧ k < e ∧ e < C ∧ w.op e = 11 ∧ w.ins e = B + 1 ∧ w.dp e = w.dp k ∧ w.fn e = w.fn k ∧ mate w k = e := by
  obtain ⟨q1, q2, q3⟩ := S.W.el1 k hk h5
  have q4 := S.W.i1 k (by omega)
  obtain ⟨g1, g2, g3⟩ := S.W.i2 k (by omega) q1
  obtain ⟨e, e1, e2, e3, e4, e5⟩ := en_e S.W S.iC (show w.ins k - 1 < C by omega) g1
  obtain ⟨z1, z2, z3⟩ := S.W.i2 e (by omega) (by omega)
  rw [e5, Nat.add_sub_cancel] at z1 z2 z3
  obtain ⟨_, _, e', y1, y2, y3, y4, y5, y6⟩ := S.W.el2 (w.ins k - 1) (by omega)
  have y7 := y6 (by omega)
  refine ⟨e, w.ins k - 1, by omega, e1, by omega, e3, e4, by omega, by omega, by rw [← z3, g3], ?_⟩
  rw [mate, if_pos h5, e1, Nat.add_sub_cancel]
theorem end_n (S : Sta w v m C nP s t) (hk : k < C) (h11 : w.op k = 11) (h0 : w.ins k ≠ 0) : w.ins (k + 1) = up w.ins (w.ins k) ∧ w.dp (k + 1) + 1 = w.dp k := by
  have h1 := S.W.ni k hk
  have h2 := S.W.nd k hk
  have h3 := (S.W.i2 k (by omega) h0).2.1
  rw [nxt, if_neg (by omega), if_pos h11] at h1
  rw [dnx, if_neg (by omega), if_pos h11] at h2
  exact ⟨h1, by omega⟩
theorem LB.out (h : LB w v m c (F c) k s) {s' : St} (h48 : s' 48 = s 48) {k' : Nat} (hi : w.ins k' = up w.ins (w.ins k)) (hd : w.dp k' + 1 = w.dp k) : LB w v m c (F c) k' s' := by
  intro j B h1 h2
  rw [hi] at h2
  have h3 : ups w.ins (j + 1) (w.ins k) = B + 1 := h2
  have := h (j + 1) B (by omega) h3
  rw [h48, show w.dp k' - 1 - j = w.dp k - 1 - (j + 1) by omega]
  exact this
/-- an else: both go to the end -/
theorem syS_else (S : Sta w v m C nP s t) (H : SyS w v m C c F K L k s t) (h5 : w.op k = 5) : ∃ e, k < e ∧ w.en (w.ins k - 1) = e + 1 ∧ f_SE_pass s = some (1, stp s 6 2 (nI e)) ∧ SyS w v m C c F K L e (stp s 6 2 (nI e)) (stI t 33 c (nI e)) := by
  have hk := H.tp.kC
  have hC := S.hC
  obtain ⟨e, B, e1, e2, e3, e4, e5, e6, e7, e8, e9⟩ := els_e S hk h5
  have R := S.rx k hk
  have n2 : s 6 2 = nI k := H.tp.nx
  have hlo : v.lo k = 0 := by rcases H.tp.al with q | q; exact q; omega
  have lc := H.cf.lc S
  refine ⟨e, e3, by rw [e1, Nat.add_sub_cancel]; exact e2, ?_, ?_⟩
  · rw [f_SE_pass, n2, tg_240_7_0 (by omega), R.c0, lt1, if_pos (show nI (w.op k) = 5 by rw [h5]; rfl), tg_240_7_3 (by omega), R.c3, e9, lt1, lt1, bz1]
  · have hht : ht w v (m.res (F c)) e = ht w v (m.res (F c)) k := by
      unfold ht
      rw [if_pos e5, if_neg (by omega), ((S.H.sr k hk).wt hlo).t5 (Or.inl h5), H.tp.fn, e6, e1]
    refine ⟨H.cf.cg S (by simp (disch := first | decide | omega) only [stI1, stI2, stp_eq, stp_row, stp_ne, stp_nj ]) (by simp (disch := first | decide | omega) only [stI1, stI2, stp_eq, stp_row, stp_ne, stp_nj ]) (by simp (disch := first | decide | omega) only [stI1, stI2, stp_eq, stp_row, stp_ne, stp_nj ]) (by simp (disch := first | decide | omega) only [stI1, stI2, stp_eq, stp_row, stp_ne, stp_nj ]) (by simp (disch := first | decide | omega) only [stI1, stI2, stp_eq, stp_row, stp_ne, stp_nj ]) (fun i hi => by simp (disch := first | decide | omega) only [stI1, stI2, stp_eq, stp_row, stp_ne, stp_nj ]) (by simp (disch := first | decide | omega) only [stI1, stI2, stp_eq, stp_row, stp_ne, stp_nj ]) (by simp (disch := first | decide | omega) only [stI1, stI2, stp_eq, stp_row, stp_ne, stp_nj ]) (by simp (disch := first | decide | omega) only [stI1, stI2, stp_eq, stp_row, stp_ne, stp_nj ]) (by simp (disch := first | decide | omega) only [stI1, stI2, stp_eq, stp_row, stp_ne, stp_nj ]) (by simp (disch := first | decide | omega) only [stI1, stI2, stp_eq, stp_row, stp_ne, stp_nj ]) (fun j hj => by simp (disch := first | decide | omega) only [stI1, stI2, stp_eq, stp_row, stp_ne, stp_nj ]) (fun j hj => by simp (disch := first | decide | omega) only [stI1, stI2, stp_eq, stp_row, stp_ne, stp_nj ]), ⟨by simp (disch := first | decide | omega) only [stI1, stI2, stp_eq, stp_row, stp_ne, stp_nj ], e4, by rw [e8]; exact H.tp.fn, by simp (disch := first | decide | omega) only [stI1, stI2, stp_eq, stp_row, stp_ne, stp_nj ]; rfl, Or.inr ⟨e5, fun _ => ?_⟩⟩, ?_, fun i h1 h2 => by simp (disch := first | decide | omega) only [stI1, stI2, stp_eq, stp_row, stp_ne, stp_nj ]; exact H.fu i h1 h2, fun i h1 h2 => by simp (disch := first | decide | omega) only [stI1, stI2, stp_eq, stp_row, stp_ne, stp_nj ]; exact H.dp i h1 h2, fun i h1 h2 => (H.lb i h1 h2).cg (by simp (disch := first | decide | omega) only [stI1, stI2, stp_eq, stp_row, stp_ne, stp_nj ]) rfl rfl, by simp (disch := first | decide | omega) only [stI1, stI2, stp_eq, stp_row, stp_ne, stp_nj ]; rw [e7]; exact H.d5, by simp (disch := first | decide | omega) only [stI1, stI2, stp_eq, stp_row, stp_ne, stp_nj ]; rw [hht]; exact H.t6, H.lk.cg (by simp (disch := first | decide | omega) only [stI1, stI2, stp_eq, stp_row, stp_ne, stp_nj ]) (by rw [e6, e1]) e7⟩
    · rw [e6, Nat.add_sub_cancel]
      have := (S.H.sr k hk).ul (by omega) hlo
      rw [e1, Nat.add_sub_cancel] at this
      exact this
    · rw [hht]; exact H.win.cut (Nat.le_refl _) (by simp (disch := first | decide | omega) only [stI1, stI2, stp_eq, stp_row, stp_ne, stp_nj ]) (by simp (disch := first | decide | omega) only [stI1, stI2, stp_eq, stp_row, stp_ne, stp_nj ]) (by simp (disch := first | decide | omega) only [stI1, stI2, stp_eq, stp_row, stp_ne, stp_nj ]; exact H.win.sp)
/-- the end of a block: both go on behind it -/
theorem end_a (S : Sta w v m C nP s t) (hk : k < C) (h11 : w.op k = 11) (h0 : w.ins k ≠ 0) (al : v.lo k = 0 ∨ (w.op k = 11 ∧ (w.ins k ≠ 0 → v.lo (w.ins k - 1) = 0))) : v.lo (k + 1) = 0 ∧ k + 1 < C ∧ w.fn (k + 1) = w.fn k ∧ ∀ rs, ht w v rs k = v.hi (k + 1) := by
  have hlb : v.lo (w.ins k - 1) = 0 := by
    rcases al with q | ⟨_, q⟩
    · exact (S.H.sr k hk).ul h0 q
    · exact q h0
  obtain ⟨g1, g2, _⟩ := (S.H.sr k hk).e11 h11 h0
  obtain ⟨g3, g4⟩ := S.lastC hk (fun q => h0 q.2)
  refine ⟨g2 hlb, g3, g4, fun rs => ?_⟩
  unfold ht
  rw [if_pos h11, gv, if_neg h0, g1]
theorem syS_end (S : Sta w v m C nP s t) (H : SyS w v m C c F K L k s t) (h11 : w.op k = 11) (h0 : w.ins k ≠ 0) : f_SE_pass s = some (1, stp (stp s 6 5 (nI (w.dp k - 1))) 6 2 (nI (k + 1))) ∧ SyS w v m C c F K L (k + 1) (stp (stp s 6 5 (nI (w.dp k - 1))) 6 2 (nI (k + 1))) (stI t 33 c (nI (k + 1))) := by
  have hk := H.tp.kC
  have hC := S.hC
  have R := S.rx k hk
  have n2 : s 6 2 = nI k := H.tp.nx
  have h10 := S.W.d10 k (by omega)
  obtain ⟨d1, d2⟩ := end_n S hk h11 h0
  obtain ⟨a1, a2, a3, a4⟩ := end_a S hk h11 h0 H.tp.al
  have ha := ht_a S a2 a1
  rw [a3, H.tp.fn] at ha
  have lc := H.cf.lc S
  refine ⟨?_, ?_⟩
  · rw [f_SE_pass, n2, tg_240_7_0 (by omega), R.c0, lt1, if_neg (show ¬ nI (w.op k) = 5 by rw [h11]; decide), if_pos (show nI (w.op k) = 11 by rw [h11]; rfl), H.d5, if_neg (show ¬ nI (w.dp k) ≤ 0 from nI_ge (a := 0) (by omega) (by omega)), nsub1 (by omega), lt1, lt1, show stp s 6 5 (nI (w.dp k - 1)) 6 2 = nI k by simp (disch := first | decide | omega) only [stI1, stI2, stp_eq, stp_row, stp_ne, stp_nj ]; exact n2, nI_1, lt1, lt1, f_SE_pass_84, bz1]
  · refine ⟨H.cf.cg S (by simp (disch := first | decide | omega) only [stI1, stI2, stp_eq, stp_row, stp_ne, stp_nj ]) (by simp (disch := first | decide | omega) only [stI1, stI2, stp_eq, stp_row, stp_ne, stp_nj ]) (by simp (disch := first | decide | omega) only [stI1, stI2, stp_eq, stp_row, stp_ne, stp_nj ]) (by simp (disch := first | decide | omega) only [stI1, stI2, stp_eq, stp_row, stp_ne, stp_nj ]) (by simp (disch := first | decide | omega) only [stI1, stI2, stp_eq, stp_row, stp_ne, stp_nj ]) (fun i hi => by simp (disch := first | decide | omega) only [stI1, stI2, stp_eq, stp_row, stp_ne, stp_nj ]) (by simp (disch := first | decide | omega) only [stI1, stI2, stp_eq, stp_row, stp_ne, stp_nj ]) (by simp (disch := first | decide | omega) only [stI1, stI2, stp_eq, stp_row, stp_ne, stp_nj ]) (by simp (disch := first | decide | omega) only [stI1, stI2, stp_eq, stp_row, stp_ne, stp_nj ]) (by simp (disch := first | decide | omega) only [stI1, stI2, stp_eq, stp_row, stp_ne, stp_nj ]) (by simp (disch := first | decide | omega) only [stI1, stI2, stp_eq, stp_row, stp_ne, stp_nj ]) (fun j hj => by simp (disch := first | decide | omega) only [stI1, stI2, stp_eq, stp_row, stp_ne, stp_nj ]) (fun j hj => by simp (disch := first | decide | omega) only [stI1, stI2, stp_eq, stp_row, stp_ne, stp_nj ]), ⟨by simp (disch := first | decide | omega) only [stI1, stI2, stp_eq, stp_row, stp_ne, stp_nj ], a2, by rw [a3]; exact H.tp.fn, by simp (disch := first | decide | omega) only [stI1, stI2, stp_eq, stp_row, stp_ne, stp_nj ]; rfl, Or.inl a1⟩, ?_, fun i h1 h2 => by simp (disch := first | decide | omega) only [stI1, stI2, stp_eq, stp_row, stp_ne, stp_nj ]; exact H.fu i h1 h2, fun i h1 h2 => by simp (disch := first | decide | omega) only [stI1, stI2, stp_eq, stp_row, stp_ne, stp_nj ]; exact H.dp i h1 h2, fun i h1 h2 => (H.lb i h1 h2).cg (by simp (disch := first | decide | omega) only [stI1, stI2, stp_eq, stp_row, stp_ne, stp_nj ]) rfl rfl, by simp (disch := first | decide | omega) only [stI1, stI2, stp_eq, stp_row, stp_ne, stp_nj ]; exact congrArg nI (by omega), by simp (disch := first | decide | omega) only [stI1, stI2, stp_eq, stp_row, stp_ne, stp_nj ]; rw [ha, ← a4 (m.res (F c))]; exact H.t6, H.lk.out (by simp (disch := first | decide | omega) only [stI1, stI2, stp_eq, stp_row, stp_ne, stp_nj ]) d1 d2⟩
    rw [ha, ← a4 (m.res (F c))]; exact H.win.cut (Nat.le_refl _) (by simp (disch := first | decide | omega) only [stI1, stI2, stp_eq, stp_row, stp_ne, stp_nj ]) (by simp (disch := first | decide | omega) only [stI1, stI2, stp_eq, stp_row, stp_ne, stp_nj ]) (by simp (disch := first | decide | omega) only [stI1, stI2, stp_eq, stp_row, stp_ne, stp_nj ]; exact H.win.sp)
/-- the end of a body: both leave -/
theorem syS_last (S : Sta w v m C nP s t) (H : SyS w v m C c F K L k s t) (h11 : w.op k = 11) (h0 : w.ins k = 0) : ∃ s' t', f_SE_pass s = some (1, s') ∧ f_M_leave t = some t' ∧ KP s t s' t' ∧ ((1 < c ∧ SyS w v m C (c - 1) F K L (K (c - 1)) s' t') ∨ Dn 6 s' t') := by
  have hk := H.tp.kC
  have hC := S.hC
  have R := S.rx k hk
  have n2 : s 6 2 = nI k := H.tp.nx
  have c1 := H.cf.c1; have c8 := H.cf.c8
  obtain ⟨f1, f2, f3⟩ := H.cf.f c c1 (Nat.le_refl _)
  have hp := S.E.p4 _ f3
  have lc := H.cf.lc S
  have hht : ht w v (m.res (F c)) k = m.res (F c) := by
    unfold ht; rw [if_pos h11, h0, bs, gv, if_pos rfl, if_pos rfl]; omega
  have d0 := S.W.i3 k (by omega) h0
  have sp := H.win.sp
  have t6 := H.t6
  have we := H.win.eq
  rw [hht] at sp t6 we
  obtain ⟨s', t', g1, g2, g3, g4⟩ := lvS S H.cf H.fu H.dp H.lb (T := 28 * (c - 1) + (m.loc (F c) + m.res (F c))) (q := L c + (m.loc (F c) + m.res (F c)) - 1) t6 (by omega) (by omega) (fun z => by rw [sp]; exact congrArg nI (by omega)) (by omega) (fun z => by
    have := we (m.loc (F c) + m.res (F c) - 1) (by omega)
    rw [show 28 * (c - 1) + (m.loc (F c) + m.res (F c)) - 1 = 28 * (c - 1) + (m.loc (F c) + m.res (F c) - 1) by omega, show L c + (m.loc (F c) + m.res (F c)) - 1 = L c + (m.loc (F c) + m.res (F c) - 1) by omega]
    exact this)
  refine ⟨s', t', ?_, g2, g3, g4⟩
  rw [f_SE_pass, n2, tg_240_7_0 (by omega), R.c0, lt1, if_neg (show ¬ nI (w.op k) = 5 by rw [h11]; decide), if_pos (show nI (w.op k) = 11 by rw [h11]; rfl), H.d5, d0, if_pos (show nI 0 ≤ 0 by decide), g1, bd1_some, f_SE_pass_84, bz1]
theorem pa_stop {N n : Nat} : f_Eng_passAll_S_4 (N + 1) 0 (nI n) s = some s := by
  rw [f_Eng_passAll_S_4]
  simp only [f_Eng_passAll_S_41, if_true, ite_self]
theorem pa_1 {N n : Nat} {s' : St} (hn : n < 3840) (h3 : s 6 3 = 0) (hp : f_SE_pass s = some (1, s')) : f_Eng_passAll_S_4 (N + 1) 1 (nI n) s = f_Eng_passAll_S_4 N 1 (nI (n + 1)) s' := by
  rw [f_Eng_passAll_S_4, if_neg (show ¬ 3840 ≤ nI n from nI_ge (b := 3840) hn (by decide)), if_neg (by decide), if_pos h3, hp, bd_some, if_neg (by decide), f_Eng_passAll_S_34, lt1, nI_1]
theorem pa_0 {N n : Nat} (hn : n < 3840) (hp : s 6 3 = 0 → f_SE_pass s = some (0, s)) : f_Eng_passAll_S_4 (N + 2) 1 (nI n) s = some s := by
  rw [f_Eng_passAll_S_4, if_neg (show ¬ 3840 ≤ nI n from nI_ge (b := 3840) hn (by decide)), if_neg (by decide)]
  by_cases h3 : s 6 3 = 0
  · rw [if_pos h3, hp h3, bd_some, if_pos rfl, f_Eng_passAll_S_33, f_Eng_passAll_S_34, lt1, nI_1, pa_stop]
  · rw [if_neg h3, f_Eng_passAll_S_33, f_Eng_passAll_S_34, lt1, nI_1, pa_stop]
theorem setS : ∀ μ c k s t n N N', Sta w v m C nP s t → SyS w v m C c F K L k s t → 241 * (c - 1) + (C - k) ≤ μ → n + μ + 2 ≤ 3840 → μ + 2 ≤ N → μ + 2 ≤ N' →
    ∃ s' t', f_Eng_passAll_S_4 N 1 (nI n) s = some s' ∧ f_M_settle_2 N' 1 t = some t' ∧ KP s t s' t' ∧ ((∃ c' k', SyS w v m C c' F K L k' s' t' ∧ w.op k' ≠ 5 ∧ w.op k' ≠ 11) ∨ Dn 6 s' t') := by
  intro μ
  induction μ with
  | zero => intro c k s t n N N' S H hm; have := H.tp.kC; omega
  | succ μ ih =>
    intro c k s t n N N' S H hm hn hN hN'
    have hk := H.tp.kC
    have c1 := H.cf.c1; have c8 := H.cf.c8
    have hC := S.hC
    have f1 := (H.cf.f c c1 (Nat.le_refl _)).1
    obtain ⟨N, rfl⟩ : ∃ q, N = q + 1 := ⟨N - 1, by omega⟩
    obtain ⟨N', rfl⟩ : ∃ q, N' = q + 1 := ⟨N' - 1, by omega⟩
    by_cases h5 : w.op k = 5
    · obtain ⟨e, e1, e2, e3, e4⟩ := syS_else S H h5
      have kp : KP s t (stp s 6 2 (nI e)) (stI t 33 c (nI e)) := ((KP.refl s t).px (by decide)).pm (by decide)
      obtain ⟨s', t', g1, g2, g3, g4⟩ := ih c e _ _ (n + 1) N N' (S.rg kp.x kp.m) e4 (by omega) (by omega) (by omega) (by omega)
      refine ⟨s', t', ?_, ?_, kp.trans g3, g4⟩
      · rw [pa_1 (by omega) H.cf.x3 e3]; exact g1
      · rw [ms_else S H.cf.ru H.cf.cc (by omega) H.tp.pk hk h5 e2]; exact g2
    by_cases h11 : w.op k = 11
    · by_cases h0 : w.ins k = 0
      · obtain ⟨s1, t1, e1, e2, kp, e4⟩ := syS_last S H h11 h0
        have em : f_M_settle_2 (N' + 1) 1 t = f_M_settle_2 N' 1 t1 := by rw [ms_leave S H.cf.ru H.cf.cc (by omega) H.tp.pk hk h11 h0 f1 H.tp.fn, e2, bd1_some]
        rw [pa_1 (by omega) H.cf.x3 e1, em]
        rcases e4 with ⟨hc, e4⟩ | e4
        · have := e4.tp.kC
          obtain ⟨s', t', g1, g2, g3, g4⟩ := ih (c - 1) (K (c - 1)) s1 t1 (n + 1) N N' (S.rg kp.x kp.m) e4 (by omega) (by omega) (by omega) (by omega)
          exact ⟨s', t', g1, g2, kp.trans g3, g4⟩
        · obtain ⟨N, rfl⟩ : ∃ q, N = q + 2 := ⟨N - 2, by omega⟩
          obtain ⟨N', rfl⟩ : ∃ q, N' = q + 1 := ⟨N' - 1, by omega⟩
          exact ⟨s1, t1, pa_0 (by omega) (fun z => by rw [e4.1] at z; exact absurd z (by decide)), ms_0 e4.2.1, kp, Or.inr e4⟩
      · obtain ⟨e3, e4⟩ := syS_end S H h11 h0
        have kp : KP s t (stp (stp s 6 5 (nI (w.dp k - 1))) 6 2 (nI (k + 1))) (stI t 33 c (nI (k + 1))) := (((KP.refl s t).px (by decide)).px (by decide)).pm (by decide)
        obtain ⟨s', t', g1, g2, g3, g4⟩ := ih c (k + 1) _ _ (n + 1) N N' (S.rg kp.x kp.m) e4 (by omega) (by omega) (by omega) (by omega)
        refine ⟨s', t', ?_, ?_, kp.trans g3, g4⟩
        · rw [pa_1 (by omega) H.cf.x3 e3]; exact g1
        · rw [ms_end S H.cf.ru H.cf.cc (by omega) H.tp.pk hk h11 h0 f1 H.tp.fn]; exact g2
    · have R := S.rx k hk
      have n2 : s 6 2 = nI k := H.tp.nx
      have ho := kno_lt (S.kn hk).1
      have hps : f_SE_pass s = some (0, s) := by
        rw [f_SE_pass, n2, tg_240_7_0 (by omega), R.c0, lt1, if_neg (show ¬ nI (w.op k) = 5 from fun q => h5 ((nI_eq (b := 5) (by omega) (by decide)).mp q)), if_neg (show ¬ nI (w.op k) = 11 from fun q => h11 ((nI_eq (b := 11) (by omega) (by decide)).mp q)), bz0]
      obtain ⟨N, rfl⟩ : ∃ q, N = q + 1 := ⟨N - 1, by omega⟩
      obtain ⟨N', rfl⟩ : ∃ q, N' = q + 1 := ⟨N' - 1, by omega⟩
      exact ⟨s, t, pa_0 (by omega) (fun _ => hps), ms_stop S H.cf.ru H.cf.cc (by omega) H.tp.pk hk h5 h11, KP.refl _ _, Or.inl ⟨c, k, H, h5, h11⟩⟩
end SETS
