-- load: both sides alike
section LOAD
variable {s : St} {t : SM}
theorem IV.load (H : IV s t) : ∃ (r : Int32) (s1 : St) (t1 : SM), f_X_load s = some (r, s1) ∧ f_M_load t = some (r, t1) ∧ IV s1 t1 := by
  obtain ⟨B, H2⟩ := H
  rcases H2 with N | ⟨w, v, m, C, nP, mx, Q⟩
  · obtain ⟨fed, hfed, hs1, ht1⟩ := B.f
    obtain ⟨T, hT⟩ : ∃ T, T = stI (stI (stI (stL (stI (stI (stI (stI (stI (stI (stI t 0 0 0) 0 5 0) 0 6 0) 0 7 0) 0 8 0) 0 9 0) 0 10 0) 0 0 0) 0 11 0) 0 12 0) 0 13 0 := ⟨_, rfl⟩
    obtain ⟨T2, hT2⟩ : ∃ T2, T2 = stI (stI T 0 14 0) 0 15 0 := ⟨_, rfl⟩
    have T1 : T2.1 1 = t.1 1 := by rw [hT2, hT]; simp (disch := first | decide | omega) only [stp_eq, stp_ne, stp_nj, stI1, stI2, stL1, stL_eq, stL_ne, stL_nj, gi_n, nI_clamp ]
    have Tk : ∀ j, keepM j = true → T2.1 0 j = t.1 0 j := by
      intro j hj
      have : j = 1 ∨ j = 2 ∨ j = 18 ∨ j = 19 ∨ j = 20 ∨ j = 21 ∨ j = 24 ∨ j = 25 := by
        unfold keepM at hj
        simp only [Bool.or_eq_true, beq_iff_eq] at hj
        omega
      rw [hT2, hT]
      rcases this with q | q | q | q | q | q | q | q <;> subst q <;> simp (disch := first | decide | omega) only [stp_eq, stp_ne, stp_nj, stI1, stI2, stL1, stL_eq, stL_ne, stL_nj, gi_n, nI_clamp ]
    have Tz : ∀ j, 5 ≤ j → j ≤ 15 → T2.1 0 j = 0 := by
      intro j h1 h2
      have : j = 5 ∨ j = 6 ∨ j = 7 ∨ j = 8 ∨ j = 9 ∨ j = 10 ∨ j = 11 ∨ j = 12 ∨ j = 13 ∨ j = 14 ∨ j = 15 := by omega
      rw [hT2, hT]
      rcases this with q | q | q | q | q | q | q | q | q | q | q <;> subst q <;> simp (disch := first | decide | omega) only [stp_eq, stp_ne, stp_nj, stI1, stI2, stL1, stL_eq, stL_ne, stL_nj, gi_n, nI_clamp ]
    have Tl : T2.2 0 0 = 0 := by rw [hT2, hT]; simp (disch := first | decide | omega) only [stp_eq, stp_ne, stp_nj, stI1, stI2, stL1, stL_eq, stL_ne, stL_nj, gi_n, nI_clamp ]
    have eM : f_M_load t = bd1 (f_M_readModule T2) fun s14 => if s14.1 0 5 = 0 then bd1 (f_M_validate s14) fun s15 => f_M_load_89 s15 else f_M_load_89 s14 := by
      rw [f_M_load, lt1, if_pos (show (stI t 0 0 0).1 0 2 = 0 by simp (disch := first | decide | omega) only [stp_eq, stp_ne, stp_nj, stI1, stI2, stL1, stL_eq, stL_ne, stL_nj, gi_n, nI_clamp ]; exact N.m2)]
      simp only [lt1]
      rw [hT2, hT]
    have eX : f_X_load s = bd (f_Rd_readModule s) fun r2 s1 => if r2 = 0 then bd (f_Val_judge s1) fun r4 s3 => f_X_load_29 r4 s3 else f_X_load_29 r2 s1 := by rw [f_X_load, if_pos N.x1]
    have k1 : keepM 1 = true := rfl
    -- where a module is not taken
    have fail : ∀ s1 t1, s1 0 = s 0 → s1 26 = s 26 → s1 2 1 = s 2 1 → t1.1 1 = T2.1 1 → (∀ j, keepM j = true → t1.1 0 j = T2.1 0 j) → IV s1 t1 := by
      intro s1 t1 a0 a26 a21 b1 bk
      have bk2 : ∀ j, keepM j = true → t1.1 0 j = t.1 0 j := fun j hj => (bk j hj).trans (Tk j hj)
      refine ⟨⟨⟨fed, hfed, a21.trans hs1, (bk2 1 rfl).trans ht1⟩, by rw [a26, b1, T1]; exact B.b⟩, Or.inl ⟨?_, ?_, ?_, ?_, ?_, (bk2 2 rfl).trans N.m2, (bk2 18 rfl).trans N.m18, (bk2 19 rfl).trans N.m19, (bk2 20 rfl).trans N.m20, (bk2 21 rfl).trans N.m21, (bk2 24 rfl).trans N.m24, (bk2 25 rfl).trans N.m25⟩⟩ <;> rw [a0]
      · exact N.x1
      · exact N.x0
      · exact N.x2
      · exact N.x3
      · exact N.x4
    obtain ⟨s1, t1, r1, r2, r3⟩ := readMod2 (s := s) (t := T2) hs1 ((Tk 1 rfl).trans ht1) hfed (by rw [T1]; exact B.b) Tz Tl
    have r1' : f_Rd_readModule s = some (s1 2 5, s1) := r1
    rw [eM, eX, r1', r2, bd_some, bd1_some]
    rcases r3 with ⟨L, pl, nT, nF, nG, nE, nD, w, C, nP, z5, z5', fx, fm, hpl, M⟩ | ⟨e, bx, bm⟩
    · rw [z5, if_pos rfl, if_pos z5']
      obtain ⟨s2, t2, v1, v2, v3⟩ := valid2 M hpl z5'
      rw [v1, v2, bd_some, bd1_some]
      rcases v3 with ⟨m, v, p, y3, y5, hmF, hmG, V, hx, hm⟩ | ⟨e, vx, vm⟩
      · have x26 : s2 26 = s 26 := (hx 26 (by decide) (by decide) (by decide)).trans fx.2.1
        have x0 : s2 0 = s 0 := (hx 0 (by decide) (by decide) (by decide)).trans fx.1
        have x21 : s2 2 1 = s 2 1 := by rw [hx 2 (by decide) (by decide) (by decide)]; exact fx.2.2
        have m1 : t2.1 1 = t.1 1 := by rw [hm.c 1 (by decide) (by decide) (by decide) (by decide) (by decide), fm.1, T1]
        have mk : ∀ j, keepM j = true → t2.1 0 j = t.1 0 j := by
          intro j hj
          have : j ≠ 5 ∧ j ≠ 16 ∧ j ≠ 17 := by
            refine ⟨?_, ?_, ?_⟩ <;> intro q <;> rw [q] at hj <;> exact absurd hj (by decide)
          rw [hm.z j this.1 this.2.1 this.2.2, fm.2 j hj, Tk j hj]
        have hC : C ≤ 240 := by have := cs_ge w C; have := M.cr.c1; omega
        have hnP : nP ≤ 240 := by have := M.cr.c1; have := M.cr.c2; omega
        have S2 : Sta w v m C nP s2 t2 := by
          refine ⟨M.cr.wf, hC, M.fn.iC, V.env, V.hr, V.rx, fun k hk => ?_, hnP, ?_, M.cr.tb, fun f hf => ?_, ?_⟩
          · have R := M.cr.rm k hk
            exact ⟨by rw [hm.c 14 (by decide) (by decide) (by decide) (by decide) (by decide)]; exact R.c0, by rw [hm.l]; exact R.c1, by rw [hm.l]; exact R.c2, by rw [hm.c 17 (by decide) (by decide) (by decide) (by decide) (by decide)]; exact R.c3, by rw [hm.c 18 (by decide) (by decide) (by decide) (by decide) (by decide)]; exact R.c4, by rw [hm.c 19 (by decide) (by decide) (by decide) (by decide) (by decide)]; exact R.c5⟩
          · rw [hx 23 (by decide) (by decide) (by decide), hm.l]; exact M.cr.px
          · obtain ⟨p', e', bg, ls, q⟩ := M.fn.all f (by omega)
            have a13 := hx 13 (by decide) (by decide) (by decide)
            have b22 := hm.c 22 (by decide) (by decide) (by decide) (by decide) (by decide)
            have b23 := hm.c 23 (by decide) (by decide) (by decide) (by decide) (by decide)
            have hb := q.bl; have hl := q.lC
            have z := V.bz f bg hf (by omega) (by rw [a13]; exact q.x2)
            exact ⟨bg, ls, ⟨by rw [a13]; exact q.x2, by rw [b22]; exact q.m22, by rw [a13]; exact q.x3, by rw [b23]; exact q.m23, q.bl, q.lC, q.ib, q.ol, q.il, q.fn, q.nf⟩, z.1, z.2⟩
          · rw [hmF]; exact M.fn.lt
        have hb2 : ∀ q, q < 240 → s2 26 q = t2.1 1 q := by
          intro q hq
          rw [x26, m1]
          obtain ⟨b, -, b1, b2⟩ := B.b q hq
          rw [b1, b2]
        obtain ⟨s3, t3, mx, p1, p2, p3, p4, p5, p6, p7, p8⟩ := prep2 (s := s2) (t := t2) (nD := nD) (p := p) (nG := nG) (me := m.me) y5 M.hG (by rw [hx 15 (by decide) (by decide) (by decide), hm.c 5 (by decide) (by decide) (by decide) (by decide) (by decide), hm.c 6 (by decide) (by decide) (by decide) (by decide) (by decide)]; exact M.gl) (by rw [hm.z 11 (by decide) (by decide) (by decide)]; exact M.m11) M.hD (by rw [hx 18 (by decide) (by decide) (by decide)]; exact M.g18) (by rw [hm.z 13 (by decide) (by decide) (by decide)]; exact M.m13) V.dok V.p4 V.x1 V.ml V.env.me1 V.env.xm V.env.mm (by rw [hx 1 (by decide) (by decide) (by decide), hm.z 9 (by decide) (by decide) (by decide), hm.z 10 (by decide) (by decide) (by decide), hm.l]; exact M.me) V.cap hb2
        rw [y3, f_X_load_29, if_pos rfl, p1, bd1_some, lt1, f_X_load_53, p2]
        have x0' : s3 0 = s 0 := (p4 0 (by decide) (by decide) (by decide)).trans x0
        have mk' : ∀ j, keepM j = true → j ≠ 2 → j ≠ 18 → t3.1 0 j = t.1 0 j := fun j h1 h2 h3 => (p7 j h2 h3).trans (mk j h1)
        refine ⟨0, _, _, rfl, rfl, ⟨⟨fed, hfed, ?_, ?_⟩, ?_⟩, Or.inr ⟨w, v, m, C, nP, mx, ⟨by simp (disch := first | decide | omega) only [stI1, stI2, stp_eq, stp_row, stp_ne, stp_nj ], p8, ?_, ?_, ⟨p, ?_⟩, ?_, ?_, ?_⟩⟩⟩
        · rw [stp_ne _ _ _ (by decide), p4 2 (by decide) (by decide) (by decide)]; exact x21.trans hs1
        · rw [mk' 1 rfl (by decide) (by decide)]; exact ht1
        · rw [stp_ne _ _ _ (by decide), p4 26 (by decide) (by decide) (by decide), x26, p6 1 (by decide) (by decide) (by decide), m1]; exact B.b
        · exact S2.dp (fun a q => by rw [stp_ne _ _ _ (by omega), p4 a (by omega) (by omega) (by omega)]) p5 (fun a q => p6 a (by omega) (by omega) (by omega)) (fun j j1 j2 => p7 j (by omega) (by omega))
        · have := ent_cs w v C; have := M.cr.c1; omega
        · rw [hmG]; exact p3.dp (fun a q => by rw [stp_ne _ _ _ (by omega)]) rfl (fun _ _ => rfl) (fun _ _ => rfl)
        · refine ⟨0, by decide, ?_, ?_, fun i hi => by omega⟩
          · simp (disch := first | decide | omega) only [stI1, stI2, stp_eq, stp_row, stp_ne, stp_nj ]; rw [x0']; exact N.x0
          · rw [mk' 19 rfl (by decide) (by decide)]; exact N.m19
        · refine Or.inl ⟨?_, ?_, ?_⟩
          · simp (disch := first | decide | omega) only [stI1, stI2, stp_eq, stp_row, stp_ne, stp_nj ]; rw [x0']; exact N.x2
          · rw [mk' 24 rfl (by decide) (by decide)]; exact N.m24
          · rw [mk' 25 rfl (by decide) (by decide)]; exact N.m25
        · refine Or.inl ⟨?_, ?_, ?_⟩
          · simp (disch := first | decide | omega) only [stI1, stI2, stp_eq, stp_row, stp_ne, stp_nj ]; rw [x0']; exact N.x3
          · rw [mk' 20 rfl (by decide) (by decide)]; exact N.m20
          · rw [stp_nj _ _ _ (by decide), x0', mk' 21 rfl (by decide) (by decide), N.x4, N.m21]
      · rw [f_X_load_29, if_neg vx.ne, f_X_load_53, f_M_load_89, if_neg vm.nle, vx.1, vm.1]
        refine ⟨_, _, _, rfl, rfl, fail s2 t2 ?_ ?_ ?_ ?_ ?_⟩
        · exact (vx.2.2.2 0 (by decide) (by decide) (by decide)).trans fx.1
        · exact (vx.2.2.2 26 (by decide) (by decide) (by decide)).trans fx.2.1
        · rw [vx.2.2.2 2 (by decide) (by decide) (by decide)]; exact fx.2.2
        · rw [vm.2.2.2.c 1 (by decide) (by decide) (by decide) (by decide) (by decide)]; exact fm.1
        · intro j hj
          have : j ≠ 5 ∧ j ≠ 16 ∧ j ≠ 17 := by
            refine ⟨?_, ?_, ?_⟩ <;> intro q <;> rw [q] at hj <;> exact absurd hj (by decide)
          rw [vm.2.2.2.z j this.1 this.2.1 this.2.2, fm.2 j hj]
    · rw [if_neg bx.ne, if_neg bm.ne, f_X_load_29, if_neg bx.ne, f_X_load_53, f_M_load_89, if_neg bm.nle, bx.1, bm.1]
      exact ⟨_, _, _, rfl, rfl, fail s1 t1 bx.2.2.2.1 bx.2.2.2.2.1 bx.2.2.2.2.2 bm.2.2.2.1 bm.2.2.2.2⟩
  · rw [f_X_load, if_neg (show ¬ s 0 1 = 0 by rw [Q.x1]; decide), f_M_load, lt1, if_neg (show ¬ (stI t 0 0 0).1 0 2 = 0 by simp (disch := first | decide | omega) only [stp_eq, stp_ne, stp_nj, stI1, stI2, stL1, stL_eq, stL_ne, stL_nj, gi_n, nI_clamp ]; rw [Q.m2]; decide)]
    exact ⟨_, _, _, rfl, rfl, ⟨B.code, Or.inr ⟨w, v, m, C, nP, mx, Q.code⟩⟩⟩
end LOAD
