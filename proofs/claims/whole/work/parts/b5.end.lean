-- the end of a block, or of a body; any row
def Nz (s0 : St) (t0 : SM) (bn : Nat) (F : St → Option St) (kX : St → Option St) (k17 : Int32 → Int32 → Int32 → Int32 → SM → Option SM) (f : Nat) (R : St → SM → Prop) (w : Cd) (C nP : Nat) (s : St) (t : SM) (pl : Nat) : Prop :=
  ∀ v s' t', AC s0 t0 s' t' (pl + 1) bn → CR v (C + 1) nP s' t' (pl + 1) → s' 2 0 = 0 → Ag w v C → v.op C = 11 → v.ins C = 0 → v.ins (C + 1) = 0 → v.dp (C + 1) = 0 → v.fn (C + 1) = w.fn C + 1 → Ux [20, 21, 22, 23, 25] [0] s s' → Um [14, 17, 18, 19] [15, 16, 25] [14, 15] t t' →
    o2 F some (kX s') (k17 (nI f) (-1) (nI 0) 0 t') (RB s0 t0 R)
section STEP5
variable {s0 : St} {t0 : SM} {bn : Nat} {F : St → Option St} {kX : St → Option St} {k17 : Int32 → Int32 → Int32 → Int32 → SM → Option SM} {f : Nat} {R : St → SM → Prop} {w : Cd} {C nP : Nat} {s : St} {t : SM} {pl : Nat}
theorem ends2 (hA : AC s0 t0 s t pl bn) (hR : CR w C nP s t pl) (hO : RO w C s) (hpb : pl < bn) (hC : C < 240) (N : Nx s0 t0 bn F kX k17 f R w C s t pl) (hX9 : ∀ e s, BX s0 e s → okg F (kX s) (BX s0 e)) (hM9 : ∀ e x2 x3 x4 t, BM t0 e t → okg some (k17 (nI f) x2 x3 x4 t) (BM t0 e)) (Z : Nz s0 t0 bn F kX k17 f R w C nP s t pl) :
    o2 F some (bd1 (f_Rd_closeBlock (nI C) (xpre s pl C 11)) kX) (if nI (w.ins C) - 1 = -1 then f_M_readBody_185 k17 (nI f) (nI (w.ins C) - 1) (nI (w.dp C)) 1 (nI 11) (nI C) 0 (mpre t pl C 11 (w.ins C)) else f_M_readBody_185 k17 (nI f) (nI (w.ins C) - 1) (nI (w.dp C)) 1 (nI 11) (nI C) 1 (mpre t pl C 11 (w.ins C))) (RB s0 t0 R) := by
  obtain ⟨hA, hx, hm⟩ := hA
  have hC2 : C < 250 := by omega
  have hAt := hA.step (pl' := pl + 1) hpb
  have hd10 := hR.wf.d10 C (Nat.le_refl _)
  have hiC := hR.wf.i1 C (Nat.le_refl _)
  have hso := hO.1
  have hs25 := hO.2 0 (Nat.zero_le _)
  rw [ups, Nat.sub_zero] at hs25
  rw [f_Rd_closeBlock, f_M_readBody_185, f_M_readBody_185, if_pos rfl, if_neg (show ¬ (1 : Int32) = 0 by decide), m219 (by decide) (by decide), xpre, mpre]
  simp only [f_Rd_closeBlock_51]
  simp only [lt1, bd_bd, bd_bd1, bd1_bd, bd1_bd1, bd_some, bd1_some, bd_ite, bd1_ite ]
  simp (disch := first | decide | omega) only [stp_eq, stp_ne, stp_nj, stI1, stI2, stL1, stL_eq, stL_ne, stL_nj, gi_n, nI_clamp , hso, nI_pred, hs25, rGet_n (show w.dp C < 11 by omega) (show 11 < 2 ^ 31 by decide), hR.m14, nI_1]
  by_cases h0 : w.ins C = 0
  · have hd0 := hR.wf.i3 C (Nat.le_refl _) h0
    rw [h0, if_pos neg1.symm, tGet_neg m1_neg, if_pos rfl, tSet_neg m1_neg, hd0, ← neg1]
    have hv : ∀ k, k ≠ C + 1 → ((w.push C 11 0 0 0 0 (w.fn C + 1)).pls w.pl).ins k = w.ins k := fun k hk => fu_ne _ _ hk
    have z1 := hR.z (C * 7 + 1) (by omega) (by omega)
    have z2 := hR.z (C * 7 + 2) (by omega) (by omega)
    refine Z ((w.push C 11 0 0 0 0 (w.fn C + 1)).pls w.pl) _ _ ⟨At.ac ?_, (by repeat first | assumption | refine FX.pa (by decide) (by decide) (by decide) ?_ | refine FX.p2 (by decide) ?_), (by repeat first | assumption | refine FM.pa (by decide) (by decide) ?_ | refine FM.p0 (by decide) ?_ | refine FM.la ?_)⟩ (hR.push hC (hR.wf.last h0) (by decide) (Nat.le_refl _) ?_ ?_ ?_ ?_ ?_ ?_ ?_ ?_ ?_ ?_ ?_ ?_ ?_ ?_ ?_ (Nat.le_refl _) (Nat.le_add_right _ _) ?_ (fun q => absurd q (by decide))) ?_ ⟨fun k hk => fu_ne _ _ (by omega), fun k hk => hv k (by omega), fun k hk => fu_ne _ _ (by omega)⟩ (fu_eq _ _ _) ((hv C (by omega)).trans h0) (fu_eq _ _ _) (fu_eq _ _ _) (fu_eq _ _ _) ?_ ?_
    · exact (by repeat first | assumption | refine At.sx (by decide) (by decide) ?_ | refine At.ti (by decide) (by decide) ?_ | refine At.tz (by decide) (by decide) (by decide) ?_ | refine At.tl ?_)
    · simp (disch := first | decide | omega) only [stp_eq, stp_ne, stp_nj, stI1, stI2, stL1, stL_eq, stL_ne, stL_nj, gi_n, nI_clamp ]
    · simp (disch := first | decide | omega) only [stp_eq, stp_ne, stp_nj, stI1, stI2, stL1, stL_eq, stL_ne, stL_nj, gi_n, nI_clamp ]
    · intro q q0 q1 q2; simp (disch := first | decide | omega) only [stp_eq, stp_ne, stp_nj, stI1, stI2, stL1, stL_eq, stL_ne, stL_nj, gi_n, nI_clamp ]
    · simp (disch := first | decide | omega) only [stp_eq, stp_ne, stp_nj, stI1, stI2, stL1, stL_eq, stL_ne, stL_nj, gi_n, nI_clamp ]
    · simp (disch := first | decide | omega) only [stp_eq, stp_ne, stp_nj, stI1, stI2, stL1, stL_eq, stL_ne, stL_nj, gi_n, nI_clamp , z1]; rfl
    · simp (disch := first | decide | omega) only [stp_eq, stp_ne, stp_nj, stI1, stI2, stL1, stL_eq, stL_ne, stL_nj, gi_n, nI_clamp , z2]; rfl
    · intro k hkC
      refine ⟨?_, ?_, ?_, ?_, ?_, ?_⟩ <;> (simp (disch := first | decide | omega) only [stp_eq, stp_ne, stp_nj, stI1, stI2, stL1, stL_eq, stL_ne, stL_nj, gi_n, nI_clamp ])
    · simp (disch := first | decide | omega) only [stp_eq, stp_ne, stp_nj, stI1, stI2, stL1, stL_eq, stL_ne, stL_nj, gi_n, nI_clamp ]
    · simp (disch := first | decide | omega) only [stp_eq, stp_ne, stp_nj, stI1, stI2, stL1, stL_eq, stL_ne, stL_nj, gi_n, nI_clamp ]; rfl
    · simp (disch := first | decide | omega) only [stp_eq, stp_ne, stp_nj, stI1, stI2, stL1, stL_eq, stL_ne, stL_nj, gi_n, nI_clamp ]; rfl
    · simp (disch := first | decide | omega) only [stp_eq, stp_ne, stp_nj, stI1, stI2, stL1, stL_eq, stL_ne, stL_nj, gi_n, nI_clamp , h0, neg1]
    · simp (disch := first | decide | omega) only [stp_eq, stp_ne, stp_nj, stI1, stI2, stL1, stL_eq, stL_ne, stL_nj, gi_n, nI_clamp ]
    · simp (disch := first | decide | omega) only [stp_eq, stp_ne, stp_nj, stI1, stI2, stL1, stL_eq, stL_ne, stL_nj, gi_n, nI_clamp ]
    · simp (disch := first | decide | omega) only [stp_eq, stp_ne, stp_nj, stI1, stI2, stL1, stL_eq, stL_ne, stL_nj, gi_n, nI_clamp ]; exact hR.x22
    · simp (disch := first | decide | omega) only [stp_eq, stp_ne, stp_nj, stI1, stI2, stL1, stL_eq, stL_ne, stL_nj, gi_n, nI_clamp ]; exact hR.m15
    · intro j hj
      obtain ⟨q1, q2, q3⟩ := hR.px j hj
      exact ⟨q1, by simp (disch := first | decide | omega) only [stp_eq, stp_ne, stp_nj, stI1, stI2, stL1, stL_eq, stL_ne, stL_nj, gi_n, nI_clamp , q2], by simp (disch := first | decide | omega) only [stp_eq, stp_ne, stp_nj, stI1, stI2, stL1, stL_eq, stL_ne, stL_nj, gi_n, nI_clamp , q3]⟩
    · simp (disch := first | decide | omega) only [stp_eq, stp_ne, stp_nj, stI1, stI2, stL1, stL_eq, stL_ne, stL_nj, gi_n, nI_clamp ]; rfl
    · (repeat first | assumption | exact Ux.refl _ _ _ | refine Ux.p2 (by decide) ?_ | refine Ux.pa (by decide) (by decide) ?_)
    · (repeat first | assumption | exact Um.refl _ _ _ _ | refine Um.p0 (by decide) ?_ | refine Um.pa (by decide) (by decide) ?_ | refine Um.la (by decide) ?_)
  · obtain ⟨B, hB⟩ : ∃ B, w.ins C = B + 1 := ⟨w.ins C - 1, by omega⟩
    have hBC : B < C := by omega
    have hdp := (hR.wf.i2 C (Nat.le_refl _) h0).2.1
    obtain ⟨d, hd⟩ : ∃ d, w.dp C = d + 1 := ⟨w.dp C - 1, by omega⟩
    rw [if_neg (nIm_ne h0 (by omega)), hB, nI_pred, tg_240_7_3 (show B < 240 by omega), gi_n (show B < 250 by omega) (by decide), gi_n (show B < 250 by omega) (by decide), hd, pk_m1]
    have c3 := (hR.rx B hBC).c3
    have d3 := (hR.rm B hBC).c3
    have hBo := (hR.wf.i2 C (Nat.le_refl _) h0).1
    rw [hB, Nat.add_sub_cancel] at hBo
    have hen := hR.wf.ch 0 B hB
    simp only [nI_clamp (show B < 2 ^ 31 by omega)]
    rw [m219 (by decide) (by decide)]
    simp (disch := first | decide | omega) only [stp_eq, stp_ne, stp_nj, stI1, stI2, stL1, stL_eq, stL_ne, stL_nj, gi_n, nI_clamp , c3, d3, hR.m14, nI_1]
    have hma : mate w B = if w.el B = 0 then w.en B - 1 else w.el B - 1 := by
      rw [mate, if_neg (by omega)]
    obtain ⟨m, hmm⟩ : ∃ m, m = if w.el B = 0 then B else w.el B - 1 := ⟨_, rfl⟩
    have hmC : m < C := by
      rw [hmm]
      split
      · omega
      · obtain ⟨-, -, e, q3, -, q5, -⟩ := hR.wf.el2 B (by assumption); omega
    have hif : ∀ (G : Int32 → Option St), (if nI (mate w B) = 0 then G (nI B) else G (nI (mate w B))) = G (nI m) := by
      intro G
      by_cases hel : w.el B = 0
      · rw [hma, hmm, if_pos hel, if_pos hel, hen, if_pos (show nI (0 - 1) = 0 from rfl)]
      · obtain ⟨-, -, e, q3, q4, q5, -⟩ := hR.wf.el2 B hel
        rw [hma, hmm, if_neg hel, if_neg hel, if_neg (nI_ne0 (by omega) (by omega))]
    rw [hif (fun r => kX (tSet _ 21 240 7 r 3 (nI C))), ts_240_7_3 (show m < 240 by omega)]
    have hv : ∀ k, k ≠ C + 1 → (w.shut C B).ins k = w.ins k := fun k hk => fu_ne _ _ hk
    have hvC : (w.shut C B).ins (C + 1) = w.ins B := fu_eq _ _ _
    have hvd : (w.shut C B).dp (C + 1) = d := by show fu _ _ _ _ = _; rw [fu_eq, hd, Nat.add_sub_cancel]
    have hBn : B ≠ C := by omega
    have hmn : m ≠ C := by omega
    refine N (w.shut C B) nP _ _ (pl + 1) _ _ (by omega) ⟨?_, (by repeat first | assumption | refine FX.pa (by decide) (by decide) (by decide) ?_ | refine FX.p2 (by decide) ?_), (by repeat first | assumption | refine FM.pa (by decide) (by decide) ?_ | refine FM.p0 (by decide) ?_ | refine FM.la ?_)⟩ (hR.shut hC hB hmm ?_ ?_ ?_ ?_ ?_ ?_ ?_ ?_ ?_ ?_ ?_ ?_ ?_ ?_ ?_ ?_ ?_ ?_) ?_ ⟨fun k hk => fu_ne _ _ (by omega), fun k hk => hv k (by omega), fun k hk => fu_ne _ _ (by omega)⟩ (fu_eq _ _ _) hvC hvd ?_ ?_
    · refine At.sx (by decide) (by decide) (At.ac ?_)
      exact (by repeat first | assumption | refine At.sx (by decide) (by decide) ?_ | refine At.ti (by decide) (by decide) ?_ | refine At.tz (by decide) (by decide) (by decide) ?_ | refine At.tl ?_)
    · simp (disch := first | decide | omega) only [stp_eq, stp_ne, stp_nj, stI1, stI2, stL1, stL_eq, stL_ne, stL_nj, gi_n, nI_clamp ]
    · simp (disch := first | decide | omega) only [stp_eq, stp_ne, stp_nj, stI1, stI2, stL1, stL_eq, stL_ne, stL_nj, gi_n, nI_clamp ]
    · intro q q0 q1; simp (disch := first | decide | omega) only [stp_eq, stp_ne, stp_nj, stI1, stI2, stL1, stL_eq, stL_ne, stL_nj, gi_n, nI_clamp ]
    · simp (disch := first | decide | omega) only [stp_eq, stp_ne, stp_nj, stI1, stI2, stL1, stL_eq, stL_ne, stL_nj, gi_n, nI_clamp ]
    · simp (disch := first | decide | omega) only [stp_eq, stp_ne, stp_nj, stI1, stI2, stL1, stL_eq, stL_ne, stL_nj, gi_n, nI_clamp ]
    · intro k hkC
      refine ⟨?_, ?_, ?_, ?_, ?_⟩ <;> (simp (disch := first | decide | omega) only [stp_eq, stp_ne, stp_nj, stI1, stI2, stL1, stL_eq, stL_ne, stL_nj, gi_n, nI_clamp ])
    · intro k hkC hkB; simp (disch := first | decide | omega) only [stp_eq, stp_ne, stp_nj, stI1, stI2, stL1, stL_eq, stL_ne, stL_nj, gi_n, nI_clamp ]
    · simp (disch := first | decide | omega) only [stp_eq, stp_ne, stp_nj, stI1, stI2, stL1, stL_eq, stL_ne, stL_nj, gi_n, nI_clamp ]
    · simp (disch := first | decide | omega) only [stp_eq, stp_ne, stp_nj, stI1, stI2, stL1, stL_eq, stL_ne, stL_nj, gi_n, nI_clamp ]
    · simp (disch := first | decide | omega) only [stp_eq, stp_ne, stp_nj, stI1, stI2, stL1, stL_eq, stL_ne, stL_nj, gi_n, nI_clamp ]
    · simp (disch := first | decide | omega) only [stp_eq, stp_ne, stp_nj, stI1, stI2, stL1, stL_eq, stL_ne, stL_nj, gi_n, nI_clamp ]
    · simp (disch := first | decide | omega) only [stp_eq, stp_ne, stp_nj, stI1, stI2, stL1, stL_eq, stL_ne, stL_nj, gi_n, nI_clamp , hB, nI_pred]
    · simp (disch := first | decide | omega) only [stp_eq, stp_ne, stp_nj, stI1, stI2, stL1, stL_eq, stL_ne, stL_nj, gi_n, nI_clamp ]
    · simp (disch := first | decide | omega) only [stp_eq, stp_ne, stp_nj, stI1, stI2, stL1, stL_eq, stL_ne, stL_nj, gi_n, nI_clamp ]
    · simp (disch := first | decide | omega) only [stp_eq, stp_ne, stp_nj, stI1, stI2, stL1, stL_eq, stL_ne, stL_nj, gi_n, nI_clamp ]
    · simp (disch := first | decide | omega) only [stp_eq, stp_ne, stp_nj, stI1, stI2, stL1, stL_eq, stL_ne, stL_nj, gi_n, nI_clamp ]
    · simp (disch := first | decide | omega) only [stp_eq, stp_ne, stp_nj, stI1, stI2, stL1, stL_eq, stL_ne, stL_nj, gi_n, nI_clamp ]
    · simp (disch := first | decide | omega) only [stp_eq, stp_ne, stp_nj, stI1, stI2, stL1, stL_eq, stL_ne, stL_nj, gi_n, nI_clamp ]
    · refine ⟨by rw [hvd]; simp (disch := first | decide | omega) only [stp_eq, stp_ne, stp_nj, stI1, stI2, stL1, stL_eq, stL_ne, stL_nj, gi_n, nI_clamp ], fun j hj => ?_⟩
      rw [hvd] at hj ⊢
      rw [hvC, ups_cg (C := C) (fun k hk => hR.wf.i1 k (by omega)) (fun k hk => hv k (by omega)) j _ (by have := hR.wf.i1 B (by omega); omega)]
      have := hO.2 (j + 1) (by omega)
      rw [ups, hB, up_s, hd, show d + 1 - (j + 1) = d - j by omega] at this
      simp (disch := first | decide | omega) only [stp_eq, stp_ne, stp_nj, stI1, stI2, stL1, stL_eq, stL_ne, stL_nj, gi_n, nI_clamp , this]
    · (repeat first | assumption | exact Ux.refl _ _ _ | refine Ux.p2 (by decide) ?_ | refine Ux.pa (by decide) (by decide) ?_)
    · (repeat first | assumption | exact Um.refl _ _ _ _ | refine Um.p0 (by decide) ?_ | refine Um.pa (by decide) (by decide) ?_ | refine Um.la (by decide) ?_)
/-- any row -/
theorem instr2 (hA : AC s0 t0 s t pl bn) (hR : CR w C nP s t pl) (hO : RO w C s) (hpb : pl < bn) (hC : C < 240) (N : Nx s0 t0 bn F kX k17 f R w C s t pl) (hX9 : ∀ e s, BX s0 e s → okg F (kX s) (BX s0 e)) (hM9 : ∀ e x2 x3 x4 t, BM t0 e t → okg some (k17 (nI f) x2 x3 x4 t) (BM t0 e)) (Z : Nz s0 t0 bn F kX k17 f R w C nP s t pl) {n : Nat} (hk17 : f_M_readBody_17 n = k17) : o2 F some (bd1 (f_Rd_readInstruction s) kX) (f_M_readBody_17 (n + 1) (nI f) (nI (w.ins C) - 1) (nI (w.dp C)) 1 t) (RB s0 t0 R) := by
  have hA' := hA
  obtain ⟨hA, hx, hm⟩ := hA
  rw [f_Rd_readInstruction, f_M_readBody_17, if_neg (show ¬ (1 : Int32) = 0 by decide), hA.2.1, if_pos rfl, hk17]
  simp only [f_Rd_readInstruction_17, f_Rd_readInstruction_111]
  simp only [lt1, bd_bd, bd_bd1, bd1_bd, bd1_bd1, bd_some, bd1_some, bd_ite, bd1_ite ]
  refine r_byte hA (fun b hb hp h1 => ?_) (fun s' t' hf => ?_)
  · rw [kn_x b hb, kn_m b hb]
    simp only [bd1_some]
    by_cases hk : kno b = true
    · rw [if_pos hk, if_neg (show ¬ (1 : Int32) = 0 by decide), mw_t (show ¬ (1 : Int32) = 0 by decide), bd1_some, ob_x b hb]
      simp (disch := first | decide | omega) only [stp_eq, stp_ne, stp_nj, stI1, stI2, stL1, stL_eq, stL_ne, stL_nj, gi_n, nI_clamp , hA.1, hA.2.1, hR.m14, hR.x20, nI_1, nI_pred, nI_clamp (show C < 2 ^ 31 by omega), gi_n (show C < 250 by omega) (show 250 < 2 ^ 31 by decide)]
      rw [if_pos trivial, if_pos (show (0 : Int32) ≤ 0 by decide), ts_240_7_0 hC, bd1_some]
      have eX : stp (stp (stp s 2 2 (nI (pl + 1))) 20 0 (nI (C + 1))) 21 (C * 7 + 0) (nI b) = xpre s pl C b := rfl
      have eM : stI (stI (stI (stL (stL (stI (stI t 0 3 (nI (pl + 1))) 14 C (nI b)) 15 C 0) 16 C 0) 17 C (nI (w.ins C) - 1)) 18 C (-1)) 19 C (-1) = mpre t pl C b (w.ins C) := rfl
      rw [eX, eM]
      by_cases ho1 : 2 ≤ b ∧ b ≤ 4
      · rw [if_pos ho1, if_neg (show ¬ (1 : Int32) = 0 by decide), if_neg (show ¬ nI b = 5 from nI_ne (b := 5) (by omega) (by omega) (by decide)), if_neg (show ¬ nI b = 11 from nI_ne (b := 11) (by omega) (by omega) (by decide))]
        exact opn2 hA' hR hO hp hC N hX9 hM9 hb hk ho1
      · rw [if_neg ho1, if_pos rfl]
        by_cases h5 : b = 5
        · subst h5
          rw [if_pos (show nI 5 = 5 from rfl), if_pos (show nI 5 = 5 from rfl)]
          exact els2 hA' hR hO hp hC N hX9 hM9
        · have n5 : ¬ nI b = 5 := nI_ne (b := 5) h5 (by omega) (by decide)
          rw [if_neg n5, if_neg n5]
          by_cases h11 : b = 11
          · subst h11
            rw [if_pos (show nI 11 = 11 from rfl), if_pos (show nI 11 = 11 from rfl)]
            exact ends2 hA' hR hO hp hC N hX9 hM9 Z
          · have n11 : ¬ nI b = 11 := nI_ne (b := 11) h11 (by omega) (by decide)
            rw [if_neg n11, if_neg n11]
            by_cases h14 : b = 14
            · subst h14
              rw [if_pos (show nI 14 = 14 from rfl)]
              exact tab2 hA' hR hO hp hC N hX9 hM9
            · rw [if_neg (show ¬ nI b = 14 from nI_ne (b := 14) h14 (by omega) (by decide))]
              exact row2 hA' hR hO hp hC N hX9 hM9 hb hk ho1 h5 h11 h14
    · rw [if_neg hk, if_pos rfl, xr_0 h1.1 2, mw_f h1.2.1 2, bd1_some, bd1_some]
      have b1 := BX.m2 (s0 := s0) (s := stp s 2 2 (nI (pl + 1))) (by repeat first | assumption | refine FX.pa (by decide) (by decide) (by decide) ?_ | refine FX.p2 (by decide) ?_)
      have b2 := BM.m2 (t0 := t0) (t := stI t 0 3 (nI (pl + 1))) (by repeat first | assumption | refine FM.pa (by decide) (by decide) ?_ | refine FM.p0 (by decide) ?_ | refine FM.la ?_)
      rw [if_neg b1.ne, if_neg b2.nle]
      exact r_BB (hX9 _ _ b1) (okg.some b2)
  · obtain ⟨e, B1, B2⟩ := hf.B hx hm
    rw [show f_Op_isKnown 0 = some 1 from kn_x 0 (by decide), show f_M_isKnown 0 = some 1 from kn_m 0 (by decide), bd1_some, bd1_some, if_neg (show ¬ (1 : Int32) = 0 by decide), mw_flt B2.ne, bd1_some, if_neg B1.ne, if_neg B2.nle]
    exact r_BB (hX9 _ _ B1) (okg.some B2)
end STEP5
