-- an else, an end
theorem nI_sub1 (n : Nat) : nI (n + 1) - 1 = nI n := nI_pred n
theorem nIm_ne {n : Nat} (h0 : n ≠ 0) (h : n < 2 ^ 31) : ¬ nI n - 1 = -1 := by
  obtain ⟨m, rfl⟩ : ∃ m, n = m + 1 := ⟨n - 1, by omega⟩
  rw [nI_pred]
  intro q
  have : nI m < 0 := by rw [q]; decide +kernel
  exact nI_pos (by omega) this
theorem m1_neg : (nI 0 - 1 : Int32) < 0 := by decide +kernel
section STEP4
variable {s0 : St} {t0 : SM} {bn : Nat} {F : St → Option St} {kX : St → Option St} {k17 : Int32 → Int32 → Int32 → Int32 → SM → Option SM} {f : Nat} {R : St → SM → Prop} {w : Cd} {C nP : Nat} {s : St} {t : SM} {pl : Nat}
/-- what the other side does at an else -/
def mels (k17 : Int32 → Int32 → Int32 → Int32 → SM → Option SM) (x1 x2 x3 x4 r2 kk : Int32) (t : SM) : Option SM :=
  if x2 = (-1) then f_M_readBody_144 k17 x1 x2 x3 x4 r2 kk t
  else gi x2 250 <|
    lt1 (t.1 14 (Int32.toNatClampNeg x2)) fun v12 =>
    if v12 = 4 then
      gi x2 250 <|
      lt1 (t.1 19 (Int32.toNatClampNeg x2)) fun v13 =>
      if v13 = (-1) then f_M_readBody_145 k17 x1 x2 x3 x4 r2 kk 1 t
      else f_M_readBody_144 k17 x1 x2 x3 x4 r2 kk t
    else f_M_readBody_144 k17 x1 x2 x3 x4 r2 kk t
theorem els2 (hA : AC s0 t0 s t pl bn) (hR : CR w C nP s t pl) (hO : RO w C s) (hpb : pl < bn) (hC : C < 240) (N : Nx s0 t0 bn F kX k17 f R w C s t pl) (hX9 : ∀ e s, BX s0 e s → okg F (kX s) (BX s0 e)) (hM9 : ∀ e x2 x3 x4 t, BM t0 e t → okg some (k17 (nI f) x2 x3 x4 t) (BM t0 e)) :
    o2 F some (bd1 (f_Rd_turnBlock (nI C) (xpre s pl C 5)) kX) (mels k17 (nI f) (nI (w.ins C) - 1) (nI (w.dp C)) 1 (nI 5) (nI C) (mpre t pl C 5 (w.ins C))) (RB s0 t0 R) := by
  obtain ⟨hA, hx, hm⟩ := hA
  have hC2 : C < 250 := by omega
  have hAt := hA.step (pl' := pl + 1) hpb
  have hd10 := hR.wf.d10 C (Nat.le_refl _)
  have hiC := hR.wf.i1 C (Nat.le_refl _)
  have hso := hO.1
  have hs25 := hO.2 0 (Nat.zero_le _)
  rw [ups, Nat.sub_zero] at hs25
  rw [f_Rd_turnBlock, mels, xpre, mpre]
  simp only [f_Rd_turnBlock_50, f_Rd_turnBlock_45, f_M_readBody_144, f_M_readBody_145]
  simp only [lt1, bd_bd, bd_bd1, bd1_bd, bd1_bd1, bd_some, bd1_some, bd_ite, bd1_ite ]
  have e0 : ∀ X : St, X 2 0 = s 2 0 → X 25 = s 25 → rGet 11 (X 25) (X 2 0 - 1) = nI (w.ins C) - 1 := by
    intro X h1 h2
    rw [h1, h2, hso, nI_pred, rGet_n (by omega) (by decide)]; exact hs25
  rw [e0 _ (by simp (disch := first | decide | omega) only [stp_eq, stp_ne, stp_nj, stI1, stI2, stL1, stL_eq, stL_ne, stL_nj, gi_n, nI_clamp ]) (by simp (disch := first | decide | omega) only [stp_eq, stp_ne, stp_nj, stI1, stI2, stL1, stL_eq, stL_ne, stL_nj, gi_n, nI_clamp ])]
  have b1 := BX.m1 (s0 := s0) (s := stp (stp (stp s 2 2 (nI (pl + 1))) 20 0 (nI (C + 1))) 21 (C * 7 + 0) (nI 5)) (by repeat first | assumption | refine FX.pa (by decide) (by decide) (by decide) ?_ | refine FX.p2 (by decide) ?_)
  have b2 := BM.m1 (t0 := t0) (t := stI (stI (stI (stL (stL (stI (stI t 0 3 (nI (pl + 1))) 14 C (nI 5)) 15 C 0) 16 C 0) 17 C (nI (w.ins C) - 1)) 18 C (-1)) 19 C (-1)) (by repeat first | assumption | refine FM.pa (by decide) (by decide) ?_ | refine FM.p0 (by decide) ?_ | refine FM.la ?_)
  have r1 : f_Rd_refuse 1 (stp (stp (stp s 2 2 (nI (pl + 1))) 20 0 (nI (C + 1))) 21 (C * 7 + 0) (nI 5)) = some (stp (stp (stp (stp s 2 2 (nI (pl + 1))) 20 0 (nI (C + 1))) 21 (C * 7 + 0) (nI 5)) 2 5 1) := xr_0 (by simp (disch := first | decide | omega) only [stp_eq, stp_ne, stp_nj, stI1, stI2, stL1, stL_eq, stL_ne, stL_nj, gi_n, nI_clamp ]; exact hA.1) 1
  have r2 : f_M_will 0 1 (stI (stI (stI (stL (stL (stI (stI t 0 3 (nI (pl + 1))) 14 C (nI 5)) 15 C 0) 16 C 0) 17 C (nI (w.ins C) - 1)) 18 C (-1)) 19 C (-1)) = some (stI (stI (stI (stI (stL (stL (stI (stI t 0 3 (nI (pl + 1))) 14 C (nI 5)) 15 C 0) 16 C 0) 17 C (nI (w.ins C) - 1)) 18 C (-1)) 19 C (-1)) 0 5 1) := mw_f (by simp (disch := first | decide | omega) only [stp_eq, stp_ne, stp_nj, stI1, stI2, stL1, stL_eq, stL_ne, stL_nj, gi_n, nI_clamp ]; exact hA.2.1) 1
  rw [r1, r2, bd1_some, bd1_some, if_neg b2.nle]
  by_cases h0 : w.ins C = 0
  · rw [h0, if_pos neg1.symm, tGet_neg m1_neg, if_neg (by decide)]
    rw [h0] at b2
    exact r_BB (hX9 _ _ (by (repeat first | assumption | refine BX.ta (by with_unfolding_all decide) (by with_unfolding_all decide) (by with_unfolding_all decide) ?_ | refine BX.pa (by with_unfolding_all decide) (by with_unfolding_all decide) (by with_unfolding_all decide) ?_ | refine BX.ra (by with_unfolding_all decide) (by with_unfolding_all decide) (by with_unfolding_all decide) ?_ | refine BX.p2 (by with_unfolding_all decide) (by with_unfolding_all decide) ?_))) (okg.some b2)
  · obtain ⟨B, hB⟩ : ∃ B, w.ins C = B + 1 := ⟨w.ins C - 1, by omega⟩
    have hBC : B < C := by omega
    rw [if_neg (nIm_ne h0 (by omega)), hB, nI_pred, tg_240_7_0 (show B < 240 by omega), tg_240_7_3 (show B < 240 by omega), gi_n (show B < 250 by omega) (by decide), gi_n (show B < 250 by omega) (by decide)]
    rw [hB] at b2
    have rx := hR.rx B hBC
    have rm := hR.rm B hBC
    have c0 := rx.c0
    have c3 := rx.c3
    have d0 := rm.c0
    have d5 := rm.c5
    have hBo := (hR.wf.i2 C (Nat.le_refl _) h0).1
    rw [hB, Nat.add_sub_cancel] at hBo
    have hen := hR.wf.ch 0 B hB
    simp only [nI_clamp (show B < 2 ^ 31 by omega)]
    simp (disch := first | decide | omega) only [stp_eq, stp_ne, stp_nj, stI1, stI2, stL1, stL_eq, stL_ne, stL_nj, gi_n, nI_clamp , c0, c3, d0, d5]
    by_cases h4 : w.op B = 4
    · rw [h4, if_pos (show nI 4 = 4 from rfl), if_pos (show nI 4 = 4 from rfl)]
      have hma : mate w B = if w.el B = 0 then w.en B - 1 else w.el B - 1 := by
        rw [mate, if_neg (by omega)]
      by_cases hel : w.el B = 0
      · rw [hma, if_pos hel, hen, hel, if_pos (show nI (0 - 1) = 0 from rfl), if_pos neg1.symm, mw_t (by decide), bd1_some]
        simp (disch := first | decide | omega) only [stp_eq, stp_ne, stp_nj, stI1, stI2, stL1, stL_eq, stL_ne, stL_nj, gi_n, nI_clamp , hA.2.1]
        rw [if_pos (show (0 : Int32) ≤ 0 by decide), m219 (by decide) (by decide), ts_240_7_3 (show B < 240 by omega)]
        simp (disch := first | decide | omega) only [stp_eq, stp_ne, stp_nj, stI1, stI2, stL1, stL_eq, stL_ne, stL_nj, gi_n, nI_clamp , hR.m14, nI_1]
        have hv : ∀ k, k ≠ C + 1 → (w.turn C B).ins k = w.ins k := fun k hk => fu_ne _ _ hk
        have hvC : (w.turn C B).ins (C + 1) = w.ins C := fu_eq _ _ _
        rw [← nI_pred B, ← hB]
        have hBn : B ≠ C := by omega
        refine N (w.turn C B) nP _ _ (pl + 1) _ _ (by omega) ⟨(by repeat first | assumption | refine At.sx (by decide) (by decide) ?_ | refine At.ti (by decide) (by decide) ?_ | refine At.tz (by decide) (by decide) (by decide) ?_ | refine At.tl ?_), (by repeat first | assumption | refine FX.pa (by decide) (by decide) (by decide) ?_ | refine FX.p2 (by decide) ?_), (by repeat first | assumption | refine FM.pa (by decide) (by decide) ?_ | refine FM.p0 (by decide) ?_ | refine FM.la ?_)⟩ (hR.turn hC hB h4 hel ?_ ?_ ?_ ?_ ?_ ?_ ?_ ?_ ?_ ?_ ?_ ?_ ?_ ?_ ?_ ?_ ?_ ?_) (hO.plain hR.wf (fun k hk => hv k (by omega)) hvC (fu_eq _ _ _) ?_ ?_) ⟨fun k hk => fu_ne _ _ (by omega), fun k hk => hv k (by omega), fun k hk => fu_ne _ _ (by omega)⟩ (fu_eq _ _ _) hvC (fu_eq _ _ _) ?_ ?_
        · simp (disch := first | decide | omega) only [stp_eq, stp_ne, stp_nj, stI1, stI2, stL1, stL_eq, stL_ne, stL_nj, gi_n, nI_clamp ]
        · simp (disch := first | decide | omega) only [stp_eq, stp_ne, stp_nj, stI1, stI2, stL1, stL_eq, stL_ne, stL_nj, gi_n, nI_clamp ]
        · intro q q0 q1; simp (disch := first | decide | omega) only [stp_eq, stp_ne, stp_nj, stI1, stI2, stL1, stL_eq, stL_ne, stL_nj, gi_n, nI_clamp ]
        · simp (disch := first | decide | omega) only [stp_eq, stp_ne, stp_nj, stI1, stI2, stL1, stL_eq, stL_ne, stL_nj, gi_n, nI_clamp ]
        · simp (disch := first | decide | omega) only [stp_eq, stp_ne, stp_nj, stI1, stI2, stL1, stL_eq, stL_ne, stL_nj, gi_n, nI_clamp ]
        · intro k hkC
          refine ⟨?_, ?_, ?_, ?_, ?_⟩ <;> (simp (disch := first | decide | omega) only [stp_eq, stp_ne, stp_nj, stI1, stI2, stL1, stL_eq, stL_ne, stL_nj, gi_n, nI_clamp ])
        · intro k hkC hkB; simp (disch := first | decide | omega) only [stp_eq, stp_ne, stp_nj, stI1, stI2, stL1, stL_eq, stL_ne, stL_nj, gi_n, nI_clamp ]
        · simp (disch := first | decide | omega) only [stp_eq, stp_ne, stp_nj, stI1, stI2, stL1, stL_eq, stL_ne, stL_nj, gi_n, nI_clamp ]
        · simp (disch := first | decide | omega) only [stp_eq, stp_ne, stp_nj, stI1, stI2, stL1, stL_eq, stL_ne, stL_nj, gi_n, nI_clamp ]
        · simp (disch := first | decide | omega) only [stp_eq, stp_ne, stp_nj, stI1, stI2, stL1, stL_eq, stL_ne, stL_nj, gi_n, nI_clamp ]
        · simp (disch := first | decide | omega) only [stp_eq, stp_ne, stp_nj, stI1, stI2, stL1, stL_eq, stL_ne, stL_nj, gi_n, nI_clamp ]
        · simp (disch := first | decide | omega) only [stp_eq, stp_ne, stp_nj, stI1, stI2, stL1, stL_eq, stL_ne, stL_nj, gi_n, nI_clamp , hB]
        · simp (disch := first | decide | omega) only [stp_eq, stp_ne, stp_nj, stI1, stI2, stL1, stL_eq, stL_ne, stL_nj, gi_n, nI_clamp ]
        · simp (disch := first | decide | omega) only [stp_eq, stp_ne, stp_nj, stI1, stI2, stL1, stL_eq, stL_ne, stL_nj, gi_n, nI_clamp ]
        · simp (disch := first | decide | omega) only [stp_eq, stp_ne, stp_nj, stI1, stI2, stL1, stL_eq, stL_ne, stL_nj, gi_n, nI_clamp ]
        · simp (disch := first | decide | omega) only [stp_eq, stp_ne, stp_nj, stI1, stI2, stL1, stL_eq, stL_ne, stL_nj, gi_n, nI_clamp ]
        · simp (disch := first | decide | omega) only [stp_eq, stp_ne, stp_nj, stI1, stI2, stL1, stL_eq, stL_ne, stL_nj, gi_n, nI_clamp ]
        · simp (disch := first | decide | omega) only [stp_eq, stp_ne, stp_nj, stI1, stI2, stL1, stL_eq, stL_ne, stL_nj, gi_n, nI_clamp ]
        · simp (disch := first | decide | omega) only [stp_eq, stp_ne, stp_nj, stI1, stI2, stL1, stL_eq, stL_ne, stL_nj, gi_n, nI_clamp ]
        · simp (disch := first | decide | omega) only [stp_eq, stp_ne, stp_nj, stI1, stI2, stL1, stL_eq, stL_ne, stL_nj, gi_n, nI_clamp ]
        · (repeat first | assumption | exact Ux.refl _ _ _ | refine Ux.p2 (by decide) ?_ | refine Ux.pa (by decide) (by decide) ?_)
        · (repeat first | assumption | exact Um.refl _ _ _ _ | refine Um.p0 (by decide) ?_ | refine Um.pa (by decide) (by decide) ?_ | refine Um.la (by decide) ?_)
      · obtain ⟨-, -, e, q3, q4, -⟩ := hR.wf.el2 B hel
        have hlt : w.el B ≤ C := by obtain ⟨-, -, e, q3, q4, q5, -⟩ := hR.wf.el2 B hel; omega
        rw [hma, if_neg hel, if_neg (nI_ne0 (by omega) (by omega)), if_neg (nIm_ne hel (by omega))]
        exact r_BB (hX9 _ _ (by (repeat first | assumption | refine BX.ta (by with_unfolding_all decide) (by with_unfolding_all decide) (by with_unfolding_all decide) ?_ | refine BX.pa (by with_unfolding_all decide) (by with_unfolding_all decide) (by with_unfolding_all decide) ?_ | refine BX.ra (by with_unfolding_all decide) (by with_unfolding_all decide) (by with_unfolding_all decide) ?_ | refine BX.p2 (by with_unfolding_all decide) (by with_unfolding_all decide) ?_))) (okg.some b2)
    · have n4 : ¬ nI (w.op B) = 4 := fun q => h4 ((nI_eq (b := 4) (by omega) (by decide)).mp q)
      rw [if_neg n4, if_neg n4]
      exact r_BB (hX9 _ _ (by (repeat first | assumption | refine BX.ta (by with_unfolding_all decide) (by with_unfolding_all decide) (by with_unfolding_all decide) ?_ | refine BX.pa (by with_unfolding_all decide) (by with_unfolding_all decide) (by with_unfolding_all decide) ?_ | refine BX.ra (by with_unfolding_all decide) (by with_unfolding_all decide) (by with_unfolding_all decide) ?_ | refine BX.p2 (by with_unfolding_all decide) (by with_unfolding_all decide) ?_))) (okg.some b2)
end STEP4
