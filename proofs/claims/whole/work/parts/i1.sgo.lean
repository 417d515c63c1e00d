-- running: the stack engine, whole runs
section SGO
variable {w : Cd} {v : Hv} {m : Md} {C nP : Nat} {c : Nat} {F K L : Nat → Nat} {k : Nat} {s : St} {t : SM} {nG me mx p : Nat}
theorem ct_16 (S : Sta w v m C nP s t) (H : SyS w v m C c F K L k s t) (D : DR nG me mx s t p) (h : w.op k = 16) : ∃ s' r t1, f_SE_step s = some s' ∧ f_M_perform (nI k) t = some (r, t1) ∧ OutS w v m C nG me mx s t s' r t1 := by
  have hk := H.tp.kC
  have c1 := H.cf.c1; have c8 := H.cf.c8
  have hC := S.hC
  have hF8 := S.E.nF8
  have n2 : s 6 2 = nI k := H.tp.nx
  have hlo : v.lo k = 0 := by rcases H.tp.al with q | q; exact q; omega
  have T := (S.H.sr k hk).wt hlo
  obtain ⟨q1, q2, q3⟩ := T.t16 h
  have hpa := S.E.p4 _ q1
  have h16 := S.h16 hk
  obtain ⟨f1, f2, f3⟩ := H.cf.f c c1 (Nat.le_refl _)
  have hp := S.E.p4 _ f3
  have lc := H.cf.lc S
  have hht : ht w v (m.res (F c)) k = v.hi k := by unfold ht; rw [if_neg (by omega)]
  have W := H.win
  have t6 := H.t6
  rw [hht] at W t6
  have kpx : RXf s (stp s 52 (c - 1) (nI (w.dp k))) := (RXf.refl s).p (by decide)
  have S1 := S.rg kpx (RMf.refl t)
  have cx : f_SE_control (nI (w.op k)) (xF (w.op k) (w.a k) (w.b k)) s = bd (f_Eng_openFrom_S (nI (28 * (c - 1) + (m.loc (F c) + v.hi k))) (nI (m.par (w.a k))) (stp s 52 (c - 1) (nI (w.dp k)))) fun r5 s4 => if r5 = 0 then some s4 else bd1 (f_SE_enter (nI (w.a k)) s4) fun s6 => some s6 := by
    rw [xF, if_neg (by omega), if_neg (by omega), f_SE_control, if_neg (show ¬ nI (w.op k) = 0 by rw [h]; decide), if_neg (show ¬ nI (w.op k) = 2 by rw [h]; decide), if_neg (show ¬ nI (w.op k) = 3 by rw [h]; decide), if_neg (show ¬ nI (w.op k) = 4 by rw [h]; decide), if_neg (show ¬ nI (w.op k) = 12 by rw [h]; decide), if_neg (show ¬ nI (w.op k) = 13 by rw [h]; decide), if_neg (show ¬ nI (w.op k) = 14 by rw [h]; decide), if_neg (show ¬ nI (w.op k) = 15 by rw [h]; decide), if_pos (show nI (w.op k) = 16 by rw [h]; rfl), f_SE_call, H.cf.x0, nsub1 c1, lt1, H.d5, rSet_n (by omega) (by decide), lt1, S1.E.pX _ q1, bd1_some, show stp s 52 (c - 1) (nI (w.dp k)) 6 6 = s 6 6 by simp (disch := first | decide | omega) only [stI1, stI2, stp_eq, stp_row, stp_ne, stp_nj ], t6]
    generalize f_Eng_openFrom_S (nI (28 * (c - 1) + (m.loc (F c) + v.hi k))) (nI (m.par (w.a k))) (stp s 52 (c - 1) (nI (w.dp k))) = o
    cases o with
    | none => rfl
    | some z =>
      obtain ⟨z1, z2⟩ := z
      rw [bd_some, bd_some]
      by_cases e : z1 = 0
      · rw [if_pos e, if_pos e, f_SE_call_41, bd1_some, f_SE_control_222]
      · rw [if_neg e, if_neg e]
        cases f_SE_enter (nI (w.a k)) z2 <;> rfl
  rw [st_c S H (by omega), cx]
  by_cases e8 : c = 8
  · rw [mc_8 S hk h (by rw [H.cf.cc, e8]), f_Eng_openFrom_S, show stp s 52 (c - 1) (nI (w.dp k)) 6 0 = nI c by simp (disch := first | decide | omega) only [stI1, stI2, stp_eq, stp_row, stp_ne, stp_nj ]; exact H.cf.x0, if_neg (show ¬ nI c < 8 by rw [e8]; decide), lt1, bz0, bd_some, if_pos rfl]
    exact ⟨_, _, _, rfl, rfl, Or.inr ⟨Or.inr (Or.inr (Or.inr (Or.inr rfl))), by simp (disch := first | decide | omega) only [stI1, stI2, stp_eq, stp_row, stp_ne, stp_nj ], kpx.p (by decide), RMf.refl t, p, D.cg (by simp (disch := first | decide | omega) only [stI1, stI2, stp_eq, stp_row, stp_ne, stp_nj ]) (by simp (disch := first | decide | omega) only [stI1, stI2, stp_eq, stp_row, stp_ne, stp_nj ]) (by simp (disch := first | decide | omega) only [stI1, stI2, stp_eq, stp_row, stp_ne, stp_nj ]) rfl rfl rfl rfl rfl⟩⟩
  · have h8 : c < 8 := by omega
    obtain ⟨bg, ls, Fs, hb0, lb0⟩ := S.fs (w.a k) q1
    have hbC : bg < C := by have := Fs.lC; have := Fs.bl; omega
    have fbg : w.fn bg = w.a k := Fs.fn bg (Nat.le_refl _) Fs.bl
    obtain ⟨s1, o1, o2, o3, o4, o5, o6, o7, o8, o9⟩ := opf_S (s := stp s 52 (c - 1) (nI (w.dp k))) (c := c) (p := m.par (w.a k)) (T := 28 * (c - 1) + (m.loc (F c) + v.hi k)) (nx := k) (by simp (disch := first | decide | omega) only [stI1, stI2, stp_eq, stp_row, stp_ne, stp_nj ]; exact H.cf.x0) c1 h8 (by simp (disch := first | decide | omega) only [stI1, stI2, stp_eq, stp_row, stp_ne, stp_nj ]; exact n2) (by omega) (by omega) (by omega)
    obtain ⟨t1, u1, u2, u3, u4, u5, u6, u7, u8, u9, u10, u11⟩ := enter_m (m := m) (s := s) (t := stI t 33 c (nI (k + 1))) (S.E.rg (fun _ _ => rfl) ((RMf.refl t).p (by decide))) (f := w.a k) (c := c) (q := L c + (m.loc (F c) + v.hi k)) (bg := bg) q1 (by simp (disch := first | decide | omega) only [stI1, stI2, stp_eq, stp_row, stp_ne, stp_nj ]; exact H.cf.cc) (by omega) (by simp (disch := first | decide | omega) only [stI1, stI2, stp_eq, stp_row, stp_ne, stp_nj ]; exact Fs.m22) (by simp (disch := first | decide | omega) only [stI1, stI2, stp_eq, stp_row, stp_ne, stp_nj ]; exact W.sp) (by omega) (by omega)
    have l13 : s1 13 = s 13 := by rw [o7 13 (by decide) (by decide) (by decide) (by decide)]; simp (disch := first | decide | omega) only [stI1, stI2, stp_eq, stp_row, stp_ne, stp_nj ]
    have en : f_SE_enter (nI (w.a k)) s1 = some (stp (stp (stp (stp s1 50 c (nI (w.a k))) 6 5 0) 6 6 (nI (28 * c + m.loc (w.a k)))) 6 2 (nI bg)) := by
      rw [f_SE_enter, o2, nI_pred, lt1, rSet_n h8 (by decide), lt1, lt1, stp_ne _ _ _ (by decide), stp_ne _ _ _ (by decide), l13, tg_8_4_1 (by omega), S.E.lX _ q1, lt1, show stp (stp s1 50 c (nI (w.a k))) 6 5 0 6 1 = nI (28 * c) by simp (disch := first | decide | omega) only [stI1, stI2, stp_eq, stp_row, stp_ne, stp_nj ]; exact o3, nI_add, lt1, lt1, stp_ne _ _ _ (by decide), stp_ne _ _ _ (by decide), stp_ne _ _ _ (by decide), l13, tg_8_4_2 (by omega), Fs.x2, lt1, lt1]
    rw [o1, bd_some, if_neg (by decide), en, bd1_some, mc_call S hk h H.cf.cc h8, u1, bd1_some]
    have hb := ht_a S hbC lb0
    rw [fbg, hb0] at hb
    have dbg : w.dp bg = 0 := S.W.i3 bg (by omega) Fs.ib
    obtain ⟨a2, a3⟩ := S.lastC hk (fun q => by omega)
    obtain ⟨ri, rd⟩ := row_n S hk (by omega) (by omega)
    refine ⟨_, _, _, rfl, rfl, OutS.ok D (j := 0) (t2 := t1) ?_ (by omega) (fun n => rfl) (Or.inl ⟨c + 1, fu F (c + 1) (w.a k), fu K c (k + 1), fu L (c + 1) (L c + (m.loc (F c) + v.hi k) - m.par (w.a k)), bg, ?_⟩)⟩
    · refine KP.trans (s1 := stp (stp (stp (stp s1 50 c (nI (w.a k))) 6 5 0) 6 6 (nI (28 * c + m.loc (w.a k)))) 6 2 (nI bg)) (t1 := t) (KP.xs fun a a1 a2 a3 a4 => ?_) (KP.trans ((KP.refl _ t).pm (a := 33) (j := c) (x := nI (k + 1)) (by decide)) (KP.ms u2 u3 (fun j hj => u4 j (by omega) (by omega))))
      rw [stp_ne _ _ _ a1, stp_ne _ _ _ a1, stp_ne _ _ _ a1, stp_ne _ _ _ (by omega), o7 a a1 a3 (by omega) (by omega), stp_ne _ _ _ (by omega)]
    · have la' : fu L (c + 1) (L c + (m.loc (F c) + v.hi k) - m.par (w.a k)) (c + 1) = L c + (m.loc (F c) + v.hi k) - m.par (w.a k) := fu_eq _ _ _
      have fa' : fu F (c + 1) (w.a k) (c + 1) = w.a k := fu_eq _ _ _
      refine ⟨?_, ⟨by rw [u7, pk_us], hbC, by rw [fa']; exact fbg, by simp (disch := first | decide | omega) only [stI1, stI2, stp_eq, stp_row, stp_ne, stp_nj ]; rfl, Or.inl lb0⟩, ?_, fun i h1 h2 => ?_, fun i h1 h2 => ?_, fun i h1 h2 => ?_, by simp (disch := first | decide | omega) only [stI1, stI2, stp_eq, stp_row, stp_ne, stp_nj ]; rw [dbg]; rfl, ?_, ?_⟩
      · refine H.cf.push S h8 hk h hlo H.tp.fn W (by omega) (by simp (disch := first | decide | omega) only [stI1, stI2, stp_eq, stp_row, stp_ne, stp_nj ]; exact o2) (by simp (disch := first | decide | omega) only [stI1, stI2, stp_eq, stp_row, stp_ne, stp_nj ]; exact o3) ?_ ?_ ?_ (fun j hj => ?_) u5 ?_ ?_ ?_ u8 (fun i hi => ?_) ?_ (fun i hi => ?_)
        · simp (disch := first | decide | omega) only [stI1, stI2, stp_eq, stp_row, stp_ne, stp_nj ]; rw [o4 3 (by decide)]; simp (disch := first | decide | omega) only [stI1, stI2, stp_eq, stp_row, stp_ne, stp_nj ]
        · simp (disch := first | decide | omega) only [stI1, stI2, stp_eq, stp_row, stp_ne, stp_nj ]; rw [o5]; simp (disch := first | decide | omega) only [stI1, stI2, stp_eq, stp_row, stp_ne, stp_nj ]; rfl
        · simp (disch := first | decide | omega) only [stI1, stI2, stp_eq, stp_row, stp_ne, stp_nj ]; rw [o6]; simp (disch := first | decide | omega) only [stI1, stI2, stp_eq, stp_row, stp_ne, stp_nj ]
        · simp (disch := first | decide | omega) only [stI1, stI2, stp_eq, stp_row, stp_ne, stp_nj ]; rw [o8 j hj]; simp (disch := first | decide | omega) only [stI1, stI2, stp_eq, stp_row, stp_ne, stp_nj ]
        · rw [u4 20 (by decide) (by decide)]; simp (disch := first | decide | omega) only [stI1, stI2, stp_eq, stp_row, stp_ne, stp_nj ]
        · rw [u4 21 (by decide) (by decide)]; simp (disch := first | decide | omega) only [stI1, stI2, stp_eq, stp_row, stp_ne, stp_nj ]
        · rw [u6]; simp (disch := first | decide | omega) only [stI1, stI2, stp_eq, stp_row, stp_ne, stp_nj ]
        · rw [u7, pk_un (by omega)]; simp (disch := first | decide | omega) only [stI1, stI2, stp_eq, stp_row, stp_ne, stp_nj ]
        · rw [u7, pk_un (by omega)]; simp (disch := first | decide | omega) only [stI1, stI2, stp_eq, stp_row, stp_ne, stp_nj ]
        · rw [u10 i hi]; simp (disch := first | decide | omega) only [stI1, stI2, stp_eq, stp_row, stp_ne, stp_nj ]
      · rw [la', fa', hb, Nat.add_sub_cancel]
        refine win_push (s := stp s 52 (c - 1) (nI (w.dp k))) (t := stI t 33 c (nI (k + 1))) (b' := 28 * (c - 1) + m.par (w.a k) - L c) (q := 28 * (c - 1) + (m.loc (F c) + v.hi k) - m.par (w.a k)) (by omega) (S.E.rg (fun a ha => by rw [stp_ne _ _ _ (by omega)]) ((RMf.refl t).p (by decide))) q1 trivial (fun x hx => ?_) (fun x hx => ?_) ?_ (fun j hj => u10 j (by omega)) (fun j h1 h2 => u11 j (by omega) (by omega))
        · simp (disch := first | decide | omega) only [stI1, stI2, stp_eq, stp_row, stp_ne, stp_nj ]; rw [o9 x hx]; rw [stp_ne _ _ _ (by decide)]
        · simp (disch := first | decide | omega) only [stI1, stI2, stp_eq, stp_row, stp_ne, stp_nj ]
          have := W.eq (m.loc (F c) + v.hi k - m.par (w.a k) + x) (by omega)
          rw [show 28 * (c - 1) + (m.loc (F c) + v.hi k) - m.par (w.a k) + x = 28 * (c - 1) + (m.loc (F c) + v.hi k - m.par (w.a k) + x) by omega, show L c + (m.loc (F c) + v.hi k) - m.par (w.a k) + x = L c + (m.loc (F c) + v.hi k - m.par (w.a k) + x) by omega]
          exact this
        · rw [u9]; exact congrArg nI (by omega)
      · simp (disch := first | decide | omega) only [stI1, stI2, stp_eq, stp_row, stp_ne, stp_nj ]
        by_cases e : i = c + 1
        · subst e; rw [Nat.add_sub_cancel, pk_us, fa']
        · rw [pk_un (by omega), fu_ne _ _ e, o7 50 (by decide) (by decide) (by decide) (by decide), stp_ne _ _ _ (by decide)]; exact H.fu i h1 (by omega)
      · simp (disch := first | decide | omega) only [stI1, stI2, stp_eq, stp_row, stp_ne, stp_nj ]
        rw [o7 52 (by decide) (by decide) (by decide) (by decide), stp_row]
        by_cases e : i = c
        · subst e; rw [pk_us, fu_eq, rd]
        · rw [pk_un (by omega), fu_ne _ _ e]; exact H.dp i h1 (by omega)
      · have e48 : stp (stp (stp (stp s1 50 c (nI (w.a k))) 6 5 0) 6 6 (nI (28 * c + m.loc (w.a k)))) 6 2 (nI bg) 48 = s 48 := by
          simp (disch := first | decide | omega) only [stI1, stI2, stp_eq, stp_row, stp_ne, stp_nj ]; rw [o7 48 (by decide) (by decide) (by decide) (by decide)]; simp (disch := first | decide | omega) only [stI1, stI2, stp_eq, stp_row, stp_ne, stp_nj ]
        by_cases e : i = c
        · subst e; rw [fu_eq, fu_ne _ _ (by omega)]; exact H.lk.cg e48 ri rd
        · rw [fu_ne _ _ (by omega), fu_ne _ _ e]; exact (H.lb i h1 (by omega)).cg e48 rfl rfl
      · simp (disch := first | decide | omega) only [stI1, stI2, stp_eq, stp_row, stp_ne, stp_nj ]; rw [fa', hb, Nat.add_sub_cancel, Nat.add_zero]
      · intro j B h1 _
        rw [dbg] at h1; omega
theorem stepS (S : Sta w v m C nP s t) (H : SyS w v m C c F K L k s t) (D : DR m.nG m.me mx s t p) (h5 : w.op k ≠ 5) (h11 : w.op k ≠ 11) : ∃ s' r t1, f_SE_step s = some s' ∧ f_M_perform (nI k) t = some (r, t1) ∧ OutS w v m C m.nG m.me mx s t s' r t1 := by
  by_cases h16 : 16 < w.op k
  · exact stp_w S H D h16
  have hkn := (S.kn H.tp.kC).1
  unfold kno at hkn
  simp only [Bool.or_eq_true, decide_eq_true_eq] at hkn
  have : w.op k = 0 ∨ w.op k = 1 ∨ (w.op k = 2 ∨ w.op k = 3) ∨ w.op k = 4 ∨ w.op k = 12 ∨ w.op k = 13 ∨ w.op k = 14 ∨ w.op k = 15 ∨ w.op k = 16 := by omega
  rcases this with q | q | q | q | q | q | q | q | q
  · exact ct_0 S H D q
  · exact ct_1 S H D q
  · exact ct_2 S H D q
  · exact ct_4 S H D q
  · exact ct_12 S H D q
  · exact ct_13 S H D q
  · exact ct_14 S H D q
  · exact ct_15 S H D q
  · exact ct_16 S H D q
/-- how it stands after a run -/
def EndS (w : Cd) (v : Hv) (m : Md) (C mx : Nat) (s : St) (t : SM) (r : Int32) (s' : St) (t' : SM) : Prop :=
  RXf s s' ∧ RMf t t' ∧ (∃ p, DR m.nG m.me mx s' t' p) ∧ s' 6 3 = r ∧ ((r = 0 ∧ t'.1 0 20 = 1 ∧ ∃ c F K L k, SyS w v m C c F K L k s' t') ∨ (r ≠ 0 ∧ t'.1 0 20 = 0 ∧ t'.1 0 21 = if r = 1 then s' 6 4 else 0))
theorem EndS.mono {s0 : St} {t0 : SM} {r : Int32} {s' : St} {t' : SM} (h : EndS w v m C mx s t r s' t') (hx : RXf s0 s) (hm : RMf t0 t) : EndS w v m C mx s0 t0 r s' t' := ⟨hx.trans h.1, hm.trans h.2.1, h.2.2⟩
theorem EndS.dn (D : DR m.nG m.me mx s t p) (h : Dn 6 s t) : EndS w v m C mx s t 1 s t := ⟨RXf.refl _, RMf.refl _, ⟨p, D⟩, h.1, Or.inr ⟨by decide, h.2.1, by rw [if_pos rfl]; exact h.2.2.symm⟩⟩
theorem pas_S (S : Sta w v m C nP s t) (H : (∃ c F K L k, SyS w v m C c F K L k s t) ∨ Dn 6 s t) {N' : Nat} (hN' : 1930 ≤ N') : ∃ s' t', f_Eng_passAll_S s = some s' ∧ f_M_settle_2 N' 1 t = some t' ∧ KP s t s' t' ∧ ((∃ c F K L k, SyS w v m C c F K L k s' t' ∧ w.op k ≠ 5 ∧ w.op k ≠ 11) ∨ Dn 6 s' t') := by
  have hC := S.hC
  have hN := FU_9
  rw [f_Eng_passAll_S]
  rcases H with ⟨c, F, K, L, k, H⟩ | H
  · have c1 := H.cf.c1; have c8 := H.cf.c8
    obtain ⟨s', t', g1, g2, g3, g4⟩ := setS (F := F) (K := K) (L := L) 1928 c k s t 0 FU N' S H (by omega) (by omega) (by omega) (by omega)
    refine ⟨s', t', g1, g2, g3, ?_⟩
    rcases g4 with ⟨c', k', q⟩ | q
    · exact Or.inl ⟨_, _, _, _, _, q⟩
    · exact Or.inr q
  · obtain ⟨N', rfl⟩ : ∃ q, N' = q + 1 := ⟨N' - 1, by omega⟩
    obtain ⟨M, hM, _⟩ : ∃ M, FU = M + 2 ∧ 0 ≤ M := ⟨FU - 2, by omega, by omega⟩
    refine ⟨s, t, ?_, ms_0 H.2.1, KP.refl _ _, Or.inr H⟩
    rw [hM]
    exact pa_0 (s := s) (n := 0) (by decide) (fun z => by rw [H.1] at z; exact absurd z (by decide))
theorem goS : ∀ d n N N' x1 x1' s t mF, n + d = mF → mF ≤ 100000 → d < N → d < N' → Sta w v m C nP s t → (∃ p, DR m.nG m.me mx s t p) → ((∃ c F K L k, SyS w v m C c F K L k s t ∧ w.op k ≠ 5 ∧ w.op k ≠ 11) ∨ Dn 6 s t) →
    ∃ r s' t', f_Eng_go_S_11 N x1 (nI d) s = some (r, s') ∧ f_M_run_39 N' x1' (nI mF) (nI n) t = some (r, t') ∧ EndS w v m C mx s t r s' t' := by
  intro d
  induction d with
  | zero =>
    intro n N N' x1 x1' s t mF hn hm hN hN' S ⟨p, D⟩ H
    obtain ⟨N, rfl⟩ : ∃ q, N = q + 1 := ⟨N - 1, by omega⟩
    obtain ⟨N', rfl⟩ : ∃ q, N' = q + 1 := ⟨N' - 1, by omega⟩
    rw [f_Eng_go_S_11, if_pos (show nI 0 ≤ 0 by decide), f_Eng_go_S_36, f_M_run_39, if_pos (nI_le (by omega) (by omega)), f_M_run_94]
    simp only [f_M_run_106]
    rcases H with ⟨c, F, K, L, k, H, h5, h11⟩ | H
    · rw [if_neg (show ¬ t.1 0 20 = 0 by rw [H.cf.ru]; decide), H.cf.x3]
      exact ⟨0, s, t, rfl, rfl, RXf.refl _, RMf.refl _, ⟨p, D⟩, H.cf.x3, Or.inl ⟨rfl, H.cf.ru, _, _, _, _, _, H⟩⟩
    · rw [if_pos H.2.1, H.1]
      exact ⟨1, s, t, rfl, rfl, EndS.dn D H⟩
  | succ d ih =>
    intro n N N' x1 x1' s t mF hn hm hN hN' S ⟨p, D⟩ H
    obtain ⟨N, rfl⟩ : ∃ q, N = q + 1 := ⟨N - 1, by omega⟩
    obtain ⟨N', rfl⟩ : ∃ q, N' = q + 1 := ⟨N' - 1, by omega⟩
    rw [f_Eng_go_S_11, if_neg (show ¬ nI (d + 1) ≤ 0 from nI_ge (a := 0) (by omega) (by omega)), f_M_run_39, if_neg (nI_ge (by omega) (by omega))]
    rcases H with ⟨c, F, K, L, k, H, h5, h11⟩ | H
    · have c1 := H.cf.c1; have c8 := H.cf.c8
      rw [if_pos H.cf.x3, if_neg (show ¬ t.1 0 20 = 0 by rw [H.cf.ru]; decide), H.cf.cc, gi_n (show c < 9 by omega) (by decide), nI_clamp (by omega), H.tp.pk, lt1]
      obtain ⟨s1, r, t1, g1, g2, g3⟩ := stepS S H D h5 h11
      rw [g1, g2, bd1_some, bd_some]
      rcases g3 with ⟨hr, t2, j, hj, hs, hx, hm2, hD, hH⟩ | ⟨hr, h63, hx, hm2, hD⟩
      · have hN := FU_9
        obtain ⟨s2, t3, e1, e2, e3, e4⟩ := pas_S (S.rg hx hm2) hH (N' := FU - j) (by omega)
        have em : f_M_settle t1 = some t3 := by
          rw [f_M_settle, show FU = FU - j + j by omega, hs, e2]
        obtain ⟨p2, D2⟩ := hD
        obtain ⟨r', s', t', i1, i2, i3⟩ := ih (n + 1) N N' x1 x1' s2 t3 mF (by omega) hm (by omega) (by omega) (S.rg (hx.trans e3.x) (hm2.trans e3.m)) ⟨p2, D2.kp e3⟩ e4
        rw [e1, bd1_some, show nI (d + 1) + (-1) = nI d from pk_m1 d, lt1, i1, hr, if_pos (by decide), em, bd1_some, nI_1, lt1, i2]
        exact ⟨r', s', t', rfl, rfl, i3.mono (hx.trans e3.x) (hm2.trans e3.m)⟩
      · have hrn : ¬ r = 0 := by rcases hr with q | q | q | q | q <;> rw [q] <;> decide
        have hr0 : ¬ r ≤ 0 := by rcases hr with q | q | q | q | q <;> rw [q] <;> decide
        have hr1 : ¬ r = 1 := by rcases hr with q | q | q | q | q <;> rw [q] <;> decide
        have hN := FU_9
        obtain ⟨M, hM⟩ : ∃ M, FU = M + 2 := ⟨FU - 2, by omega⟩
        have ep : f_Eng_passAll_S s1 = some s1 := by
          rw [f_Eng_passAll_S, hM]
          exact pa_0 (s := s1) (n := 0) (by decide) (fun z => absurd (h63.symm.trans z) hrn)
        rw [ep, bd1_some, lt1, if_neg hr0, lt1, lt1]
        obtain ⟨N, rfl⟩ : ∃ q, N = q + 1 := ⟨N - 1, by omega⟩
        have eg : f_Eng_go_S_11 (N + 1) x1 (nI (d + 1) + -1) s1 = some (r, s1) := by
          rw [f_Eng_go_S_11, f_Eng_go_S_36, if_neg (show ¬ s1 6 3 = 0 by rw [h63]; exact hrn), h63, ite_self]
        rw [eg]
        obtain ⟨p2, D2⟩ := hD
        exact ⟨r, s1, _, rfl, rfl, hx, (hm2.p0 (by decide)).p0 (by decide), ⟨p2, D2.cg rfl rfl rfl (by simp (disch := first | decide | omega) only [stI1, stI2, stp_eq, stp_row, stp_ne, stp_nj ]) (by simp (disch := first | decide | omega) only [stI1, stI2, stp_eq, stp_row, stp_ne, stp_nj ]) (by simp (disch := first | decide | omega) only [stI1, stI2, stp_eq, stp_row, stp_ne, stp_nj ]) (by simp (disch := first | decide | omega) only [stI1, stI2, stp_eq, stp_row, stp_ne, stp_nj ]) rfl⟩, h63, Or.inr ⟨hrn, by simp (disch := first | decide | omega) only [stI1, stI2, stp_eq, stp_row, stp_ne, stp_nj ], by simp (disch := first | decide | omega) only [stI1, stI2, stp_eq, stp_row, stp_ne, stp_nj ]; rw [if_neg hr1]⟩⟩
    · rw [if_neg (show ¬ s 6 3 = 0 by rw [H.1]; decide), f_Eng_go_S_36, if_pos H.2.1, f_M_run_94, if_pos H.2.1, f_M_run_106, H.1]
      exact ⟨1, s, t, rfl, rfl, EndS.dn D H⟩
end SGO
