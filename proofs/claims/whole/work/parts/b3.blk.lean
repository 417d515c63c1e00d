-- rows that open, turn and end a block; a row of any kind
theorem At.ac {s : St} {t : SM} {pl bn : Nat} {v : Int32} (h : At s t pl bn) : At (stp s 2 0 v) t pl bn := by
  obtain ⟨a1, a2, a3, a4, a5, a6, a7, a8, a9⟩ := h
  exact ⟨by rw [stp_nj _ _ _ (by decide)]; exact a1, a2, by rw [stp_nj _ _ _ (by decide)]; exact a3, a4, by rw [stp_nj _ _ _ (by decide)]; exact a5, a6, a7, a8, by rw [stp_ne _ _ _ (by decide)]; exact a9⟩
section STEP3
variable {s0 : St} {t0 : SM} {bn : Nat} {F : St → Option St} {kX : St → Option St} {k17 : Int32 → Int32 → Int32 → Int32 → SM → Option SM} {f : Nat} {R : St → SM → Prop} {w : Cd} {C nP : Nat} {s : St} {t : SM} {pl : Nat}
theorem opn2 (hA : AC s0 t0 s t pl bn) (hR : CR w C nP s t pl) (hO : RO w C s) (hpb : pl < bn) (hC : C < 240) (N : Nx s0 t0 bn F kX k17 f R w C s t pl) (hX9 : ∀ e s, BX s0 e s → okg F (kX s) (BX s0 e)) (hM9 : ∀ e x2 x3 x4 t, BM t0 e t → okg some (k17 (nI f) x2 x3 x4 t) (BM t0 e)) {o : Nat} (ho : o < 256) (hk : kno o = true) (ho1 : 2 ≤ o ∧ o ≤ 4) :
    o2 F some (bd1 (f_Rd_openBlock (nI C) (xpre s pl C o)) kX) (bd1 (f_M_readNumbers (nI C) (mpre t pl C o (w.ins C))) fun s11 => f_M_readBody_219 k17 (nI f) (nI (w.ins C) - 1) (nI (w.dp C)) 1 (nI o) (nI C) s11) (RB s0 t0 R) := by
  obtain ⟨hA, hx, hm⟩ := hA
  have hC2 : C < 250 := by omega
  have hAt := hA.step (pl' := pl + 1) hpb
  have hop : (mpre t pl C o (w.ins C)).1 14 C = nI o := by rw [mpre]; simp (disch := first | decide | omega) only [stp_eq, stp_ne, stp_nj, stI1, stI2, stL1, stL_eq, stL_ne, stL_nj, gi_n, nI_clamp ]
  have hd10 := hR.wf.d10 C (Nat.le_refl _)
  have m219o : ∀ t, f_M_readBody_219 k17 (nI f) (nI (w.ins C) - 1) (nI (w.dp C)) 1 (nI o) (nI C) t = bd1 (f_M_will (if 10 < w.dp C + 1 then 0 else 1) 2 t) fun s1 => k17 (nI f) (nI C) (nI (w.dp C + 1)) 1 (stI s1 0 14 (s1.1 0 14 + 1)) := by
    intro t
    rw [f_M_readBody_219]
    simp only [f_M_readBody_246, f_M_readBody_253, lt1, lit_2, lit_4, lit_10, nI_1]
    by_cases q : 10 < w.dp C + 1
    · simp (disch := omega) only [nI_leI, nI_ltI, nI_eq, if_pos, if_neg, if_true, if_false ]
    · simp (disch := omega) only [nI_leI, nI_ltI, nI_eq, if_pos, if_neg, if_true, if_false ]
  have hkM : ∀ e t, BM t0 e t → okg some (f_M_readBody_219 k17 (nI f) (nI (w.ins C) - 1) (nI (w.dp C)) 1 (nI o) (nI C) t) (BM t0 e) := by
    intro e t hB
    rw [m219o]
    refine km_will hB ?_
    exact hM9 _ _ _ _ _ (by (repeat first | assumption | refine BM.pa (by with_unfolding_all decide) (by with_unfolding_all decide) ?_ | refine BM.p0 (by with_unfolding_all decide) (by with_unfolding_all decide) ?_ | refine BM.la ?_))
  generalize hK : f_M_readBody_219 k17 (nI f) (nI (w.ins C) - 1) (nI (w.dp C)) 1 (nI o) (nI C) = K at m219o hkM ⊢
  rw [mop_opn hk ho hC2 hop ho1, f_Rd_openBlock, xpre, mpre]
  simp only [f_Rd_openBlock_17, f_Rd_openBlock_26, f_Rd_openBlock_31, f_M_readNumbers_35, f_M_readNumbers_40, f_M_readNumbers_60, f_M_readNumbers_262]
  simp only [lt1, bd_bd, bd_bd1, bd1_bd, bd1_bd1, bd_some, bd1_some, bd_ite, bd1_ite , gi_n hC2 (show 250 < 2 ^ 31 by decide), nI_clamp (show C < 2 ^ 31 by omega)]
  refine r_byte (pl := pl + 1) (bn := bn) (by repeat first | assumption | refine At.sx (by decide) (by decide) ?_ | refine At.ti (by decide) (by decide) ?_ | refine At.tz (by decide) (by decide) (by decide) ?_ | refine At.tl ?_) (fun b hb hp1 h2 => ?_) (fun _ _ hf => r_B (by repeat first | assumption | refine FX.pa (by decide) (by decide) (by decide) ?_ | refine FX.p2 (by decide) ?_) (by repeat first | assumption | refine FM.pa (by decide) (by decide) ?_ | refine FM.p0 (by decide) ?_ | refine FM.la ?_) hf (fun _ _ => by (repeat' first | (with_reducible first | exact okg.some (by (repeat first | assumption | refine BX.ta (by with_unfolding_all decide) (by with_unfolding_all decide) (by with_unfolding_all decide) ?_ | refine BX.pa (by with_unfolding_all decide) (by with_unfolding_all decide) (by with_unfolding_all decide) ?_ | refine BX.ra (by with_unfolding_all decide) (by with_unfolding_all decide) (by with_unfolding_all decide) ?_ | refine BX.p2 (by with_unfolding_all decide) (by with_unfolding_all decide) ?_)) | refine kx_byte (by (repeat first | assumption | refine BX.ta (by with_unfolding_all decide) (by with_unfolding_all decide) (by with_unfolding_all decide) ?_ | refine BX.pa (by with_unfolding_all decide) (by with_unfolding_all decide) (by with_unfolding_all decide) ?_ | refine BX.ra (by with_unfolding_all decide) (by with_unfolding_all decide) (by with_unfolding_all decide) ?_ | refine BX.p2 (by with_unfolding_all decide) (by with_unfolding_all decide) ?_)) ?_ | refine kx_ref (by (repeat first | assumption | refine BX.ta (by with_unfolding_all decide) (by with_unfolding_all decide) (by with_unfolding_all decide) ?_ | refine BX.pa (by with_unfolding_all decide) (by with_unfolding_all decide) (by with_unfolding_all decide) ?_ | refine BX.ra (by with_unfolding_all decide) (by with_unfolding_all decide) (by with_unfolding_all decide) ?_ | refine BX.p2 (by with_unfolding_all decide) (by with_unfolding_all decide) ?_)) ?_ | refine kx_exp (by (repeat first | assumption | refine BX.ta (by with_unfolding_all decide) (by with_unfolding_all decide) (by with_unfolding_all decide) ?_ | refine BX.pa (by with_unfolding_all decide) (by with_unfolding_all decide) (by with_unfolding_all decide) ?_ | refine BX.ra (by with_unfolding_all decide) (by with_unfolding_all decide) (by with_unfolding_all decide) ?_ | refine BX.p2 (by with_unfolding_all decide) (by with_unfolding_all decide) ?_)) ?_ | refine kx_uns (by (repeat first | assumption | refine BX.ta (by with_unfolding_all decide) (by with_unfolding_all decide) (by with_unfolding_all decide) ?_ | refine BX.pa (by with_unfolding_all decide) (by with_unfolding_all decide) (by with_unfolding_all decide) ?_ | refine BX.ra (by with_unfolding_all decide) (by with_unfolding_all decide) (by with_unfolding_all decide) ?_ | refine BX.p2 (by with_unfolding_all decide) (by with_unfolding_all decide) ?_)) (fun _ => ?_) | refine kx_sgn (by (repeat first | assumption | refine BX.ta (by with_unfolding_all decide) (by with_unfolding_all decide) (by with_unfolding_all decide) ?_ | refine BX.pa (by with_unfolding_all decide) (by with_unfolding_all decide) (by with_unfolding_all decide) ?_ | refine BX.ra (by with_unfolding_all decide) (by with_unfolding_all decide) (by with_unfolding_all decide) ?_ | refine BX.p2 (by with_unfolding_all decide) (by with_unfolding_all decide) ?_)) (fun _ => ?_) | refine kx_end (by (repeat first | assumption | refine BX.ta (by with_unfolding_all decide) (by with_unfolding_all decide) (by with_unfolding_all decide) ?_ | refine BX.pa (by with_unfolding_all decide) (by with_unfolding_all decide) (by with_unfolding_all decide) ?_ | refine BX.ra (by with_unfolding_all decide) (by with_unfolding_all decide) (by with_unfolding_all decide) ?_ | refine BX.p2 (by with_unfolding_all decide) (by with_unfolding_all decide) ?_)) (fun _ => ?_) | refine kx_val (by (repeat first | assumption | refine BX.ta (by with_unfolding_all decide) (by with_unfolding_all decide) (by with_unfolding_all decide) ?_ | refine BX.pa (by with_unfolding_all decide) (by with_unfolding_all decide) (by with_unfolding_all decide) ?_ | refine BX.ra (by with_unfolding_all decide) (by with_unfolding_all decide) (by with_unfolding_all decide) ?_ | refine BX.p2 (by with_unfolding_all decide) (by with_unfolding_all decide) ?_)) ?_ | refine kx_one (by (repeat first | assumption | refine BX.ta (by with_unfolding_all decide) (by with_unfolding_all decide) (by with_unfolding_all decide) ?_ | refine BX.pa (by with_unfolding_all decide) (by with_unfolding_all decide) (by with_unfolding_all decide) ?_ | refine BX.ra (by with_unfolding_all decide) (by with_unfolding_all decide) (by with_unfolding_all decide) ?_ | refine BX.p2 (by with_unfolding_all decide) (by with_unfolding_all decide) ?_)) (fun _ => ?_) | refine kx_con (by (repeat first | assumption | refine BX.ta (by with_unfolding_all decide) (by with_unfolding_all decide) (by with_unfolding_all decide) ?_ | refine BX.pa (by with_unfolding_all decide) (by with_unfolding_all decide) (by with_unfolding_all decide) ?_ | refine BX.ra (by with_unfolding_all decide) (by with_unfolding_all decide) (by with_unfolding_all decide) ?_ | refine BX.p2 (by with_unfolding_all decide) (by with_unfolding_all decide) ?_)) (fun _ => ?_) | refine kx_vts (by (repeat first | assumption | refine BX.ta (by with_unfolding_all decide) (by with_unfolding_all decide) (by with_unfolding_all decide) ?_ | refine BX.pa (by with_unfolding_all decide) (by with_unfolding_all decide) (by with_unfolding_all decide) ?_ | refine BX.ra (by with_unfolding_all decide) (by with_unfolding_all decide) (by with_unfolding_all decide) ?_ | refine BX.p2 (by with_unfolding_all decide) (by with_unfolding_all decide) ?_)) (fun _ => ?_) | refine kx_abv (fun _ => ?_) | simp only [lt1]) | with_reducible exact hX9 _ _ (by (repeat first | assumption | refine BX.ta (by with_unfolding_all decide) (by with_unfolding_all decide) (by with_unfolding_all decide) ?_ | refine BX.pa (by with_unfolding_all decide) (by with_unfolding_all decide) (by with_unfolding_all decide) ?_ | refine BX.ra (by with_unfolding_all decide) (by with_unfolding_all decide) (by with_unfolding_all decide) ?_ | refine BX.p2 (by with_unfolding_all decide) (by with_unfolding_all decide) ?_)) | (with_reducible split))) (fun _ _ => by (repeat' first | (with_reducible first | exact okg.some (by (repeat first | assumption | refine BM.pa (by with_unfolding_all decide) (by with_unfolding_all decide) ?_ | refine BM.p0 (by with_unfolding_all decide) (by with_unfolding_all decide) ?_ | refine BM.la ?_)) | refine km_next (by (repeat first | assumption | refine BM.pa (by with_unfolding_all decide) (by with_unfolding_all decide) ?_ | refine BM.p0 (by with_unfolding_all decide) (by with_unfolding_all decide) ?_ | refine BM.la ?_)) ?_ | refine km_will (by (repeat first | assumption | refine BM.pa (by with_unfolding_all decide) (by with_unfolding_all decide) ?_ | refine BM.p0 (by with_unfolding_all decide) (by with_unfolding_all decide) ?_ | refine BM.la ?_)) ?_ | refine km_exp (by (repeat first | assumption | refine BM.pa (by with_unfolding_all decide) (by with_unfolding_all decide) ?_ | refine BM.p0 (by with_unfolding_all decide) (by with_unfolding_all decide) ?_ | refine BM.la ?_)) ?_ | refine km_uns (by (repeat first | assumption | refine BM.pa (by with_unfolding_all decide) (by with_unfolding_all decide) ?_ | refine BM.p0 (by with_unfolding_all decide) (by with_unfolding_all decide) ?_ | refine BM.la ?_)) ?_ | refine km_sgn (by (repeat first | assumption | refine BM.pa (by with_unfolding_all decide) (by with_unfolding_all decide) ?_ | refine BM.p0 (by with_unfolding_all decide) (by with_unfolding_all decide) ?_ | refine BM.la ?_)) (fun _ => ?_) | refine km_ahd (by (repeat first | assumption | refine BM.pa (by with_unfolding_all decide) (by with_unfolding_all decide) ?_ | refine BM.p0 (by with_unfolding_all decide) (by with_unfolding_all decide) ?_ | refine BM.la ?_)) (fun _ => ?_) | refine km_val (by (repeat first | assumption | refine BM.pa (by with_unfolding_all decide) (by with_unfolding_all decide) ?_ | refine BM.p0 (by with_unfolding_all decide) (by with_unfolding_all decide) ?_ | refine BM.la ?_)) ?_ | refine km_one (by (repeat first | assumption | refine BM.pa (by with_unfolding_all decide) (by with_unfolding_all decide) ?_ | refine BM.p0 (by with_unfolding_all decide) (by with_unfolding_all decide) ?_ | refine BM.la ?_)) ?_ | refine km_con (by (repeat first | assumption | refine BM.pa (by with_unfolding_all decide) (by with_unfolding_all decide) ?_ | refine BM.p0 (by with_unfolding_all decide) (by with_unfolding_all decide) ?_ | refine BM.la ?_)) (fun _ => ?_) | refine km_cnt (by (repeat first | assumption | refine BM.pa (by with_unfolding_all decide) (by with_unfolding_all decide) ?_ | refine BM.p0 (by with_unfolding_all decide) (by with_unfolding_all decide) ?_ | refine BM.la ?_)) ?_ | simp only [lt1]) | with_reducible exact hkM _ _ (by (repeat first | assumption | refine BM.pa (by with_unfolding_all decide) (by with_unfolding_all decide) ?_ | refine BM.p0 (by with_unfolding_all decide) (by with_unfolding_all decide) ?_ | refine BM.la ?_)) | (with_reducible split))))
  have hso := hO.1
  by_cases hb1 : b = 127 ∨ b = 64
  · by_cases hd : w.dp C + 1 ≤ 10
    · -- a good block
      obtain ⟨a, ha, ha1, hb2⟩ : ∃ a : Nat, a ≤ 1 ∧ (if a = 1 then (127 : Int32) else 64) = nI b ∧ (a = 1 ↔ b = 127) := by
        rcases hb1 with q | q
        · exact ⟨1, by decide, by rw [q]; rfl, by omega⟩
        · exact ⟨0, by decide, by rw [q]; rfl, by omega⟩
      have key : o2 F some (kX (stp (stp (stp (stp (stp (stp (stp s 2 2 (nI (pl + 1))) 20 0 (nI (C + 1))) 21 (C * 7 + 0) (nI o)) 2 2 (nI (pl + 1 + 1))) 21 (C * 7 + 1) (nI b)) 25 (w.dp C + 1) (nI C)) 2 0 (nI (w.dp C + 1 + 1))))
          (K (stL (stI (mpre t pl C o (w.ins C)) 0 3 (nI (pl + 1 + 1))) 15 C (lN a))) (RB s0 t0 R) := by
        rw [m219o, if_neg (by omega), mw_t (by decide), bd1_some, mpre]
        simp (disch := first | decide | omega) only [stp_eq, stp_ne, stp_nj, stI1, stI2, stL1, stL_eq, stL_ne, stL_nj, gi_n, nI_clamp , hR.m14, nI_1]
        have e1 : xF o a 0 = nI b := by rw [xF, if_pos ho1]; exact ha1
        have e2 : xS o a 0 = 0 := by rw [xS, if_neg (by omega)]; rfl
        have e3 : mF o a = lN a := by rw [mF, if_neg (by omega)]
        have z2 := hR.z (C * 7 + 2) (by omega) (by omega)
        have hok : oko o a 0 := ⟨by omega, by decide, fun _ => ha, fun q => by omega, fun _ => rfl, fun q => absurd (Or.inl ho1) q⟩
        have hco : cost o a = 1 := if_neg (by omega)
        have hv : ∀ k, k ≠ C + 1 → ((w.push C o a 0 (C + 1) (w.dp C + 1) (w.fn C)).pls w.pl).ins k = w.ins k := fun k hk => fu_ne _ _ hk
        have hvC : ((w.push C o a 0 (C + 1) (w.dp C + 1) (w.fn C)).pls w.pl).ins (C + 1) = C + 1 := fu_eq _ _ _
        have hvd : ((w.push C o a 0 (C + 1) (w.dp C + 1) (w.fn C)).pls w.pl).dp (C + 1) = w.dp C + 1 := fu_eq _ _ _
        rw [← nI_pred C]
        refine N ((w.push C o a 0 (C + 1) (w.dp C + 1) (w.fn C)).pls w.pl) nP _ _ (pl + 1 + 1) _ _ (by omega) ⟨?_, (by repeat first | assumption | refine FX.pa (by decide) (by decide) (by decide) ?_ | refine FX.p2 (by decide) ?_), (by repeat first | assumption | refine FM.pa (by decide) (by decide) ?_ | refine FM.p0 (by decide) ?_ | refine FM.la ?_)⟩ (hR.push hC (hR.wf.opn ho1 hk hok hd) (by omega) (by rw [hco]; omega) ?_ ?_ ?_ ?_ ?_ ?_ ?_ ?_ ?_ ?_ ?_ ?_ ?_ ?_ ?_ (Nat.le_refl _) (by omega) ?_ (fun q => by omega)) ?_ ⟨fun k hk => fu_ne _ _ (by omega), fun k hk => hv k (by omega), fun k hk => fu_ne _ _ (by omega)⟩ (fu_eq _ _ _) hvC hvd ?_ ?_
        · refine At.ac ?_
          exact (by repeat first | assumption | refine At.sx (by decide) (by decide) ?_ | refine At.ti (by decide) (by decide) ?_ | refine At.tz (by decide) (by decide) (by decide) ?_ | refine At.tl ?_)
        · simp (disch := first | decide | omega) only [stp_eq, stp_ne, stp_nj, stI1, stI2, stL1, stL_eq, stL_ne, stL_nj, gi_n, nI_clamp ]
        · simp (disch := first | decide | omega) only [stp_eq, stp_ne, stp_nj, stI1, stI2, stL1, stL_eq, stL_ne, stL_nj, gi_n, nI_clamp ]
        · intro q q0 q1 q2; simp (disch := first | decide | omega) only [stp_eq, stp_ne, stp_nj, stI1, stI2, stL1, stL_eq, stL_ne, stL_nj, gi_n, nI_clamp ]
        · simp (disch := first | decide | omega) only [stp_eq, stp_ne, stp_nj, stI1, stI2, stL1, stL_eq, stL_ne, stL_nj, gi_n, nI_clamp ]
        · simp (disch := first | decide | omega) only [stp_eq, stp_ne, stp_nj, stI1, stI2, stL1, stL_eq, stL_ne, stL_nj, gi_n, nI_clamp , e1]
        · simp (disch := first | decide | omega) only [stp_eq, stp_ne, stp_nj, stI1, stI2, stL1, stL_eq, stL_ne, stL_nj, gi_n, nI_clamp , e2, z2]
        · intro k hkC
          refine ⟨?_, ?_, ?_, ?_, ?_, ?_⟩ <;> (simp (disch := first | decide | omega) only [stp_eq, stp_ne, stp_nj, stI1, stI2, stL1, stL_eq, stL_ne, stL_nj, gi_n, nI_clamp ])
        · simp (disch := first | decide | omega) only [stp_eq, stp_ne, stp_nj, stI1, stI2, stL1, stL_eq, stL_ne, stL_nj, gi_n, nI_clamp ]
        · simp (disch := first | decide | omega) only [stp_eq, stp_ne, stp_nj, stI1, stI2, stL1, stL_eq, stL_ne, stL_nj, gi_n, nI_clamp , e3]
        · simp (disch := first | decide | omega) only [stp_eq, stp_ne, stp_nj, stI1, stI2, stL1, stL_eq, stL_ne, stL_nj, gi_n, nI_clamp ]; rfl
        · simp (disch := first | decide | omega) only [stp_eq, stp_ne, stp_nj, stI1, stI2, stL1, stL_eq, stL_ne, stL_nj, gi_n, nI_clamp ]
        · simp (disch := first | decide | omega) only [stp_eq, stp_ne, stp_nj, stI1, stI2, stL1, stL_eq, stL_ne, stL_nj, gi_n, nI_clamp ]
        · simp (disch := first | decide | omega) only [stp_eq, stp_ne, stp_nj, stI1, stI2, stL1, stL_eq, stL_ne, stL_nj, gi_n, nI_clamp ]
        · simp (disch := first | decide | omega) only [stp_eq, stp_ne, stp_nj, stI1, stI2, stL1, stL_eq, stL_ne, stL_nj, gi_n, nI_clamp ]; exact hR.x22
        · simp (disch := first | decide | omega) only [stp_eq, stp_ne, stp_nj, stI1, stI2, stL1, stL_eq, stL_ne, stL_nj, gi_n, nI_clamp ]; exact hR.m15
        · intro j hj
          obtain ⟨q1, q2, q3⟩ := hR.px j hj
          exact ⟨q1, by simp (disch := first | decide | omega) only [stp_eq, stp_ne, stp_nj, stI1, stI2, stL1, stL_eq, stL_ne, stL_nj, gi_n, nI_clamp , q2], by simp (disch := first | decide | omega) only [stp_eq, stp_ne, stp_nj, stI1, stI2, stL1, stL_eq, stL_ne, stL_nj, gi_n, nI_clamp , q3]⟩
        · refine ⟨by rw [hvd]; simp (disch := first | decide | omega) only [stp_eq, stp_ne, stp_nj, stI1, stI2, stL1, stL_eq, stL_ne, stL_nj, gi_n, nI_clamp ], fun j hj => ?_⟩
          rw [hvd] at hj ⊢
          rw [hvC]
          cases j with
          | zero => rw [ups, Nat.sub_zero]; simp (disch := first | decide | omega) only [stp_eq, stp_ne, stp_nj, stI1, stI2, stL1, stL_eq, stL_ne, stL_nj, gi_n, nI_clamp , nI_pred]
          | succ j =>
            rw [ups, up_s, hv C (by omega), ups_cg (C := C) (fun k hk => hR.wf.i1 k (by omega)) (fun k hk => hv k (by omega)) j _ (hR.wf.i1 C (Nat.le_refl _)), ← hO.2 j (by omega), show w.dp C + 1 - (j + 1) = w.dp C - j by omega]
            simp (disch := first | decide | omega) only [stp_eq, stp_ne, stp_nj, stI1, stI2, stL1, stL_eq, stL_ne, stL_nj, gi_n, nI_clamp ]
        · (repeat first | assumption | exact Ux.refl _ _ _ | refine Ux.p2 (by decide) ?_ | refine Ux.pa (by decide) (by decide) ?_)
        · (repeat first | assumption | exact Um.refl _ _ _ _ | refine Um.p0 (by decide) ?_ | refine Um.pa (by decide) (by decide) ?_ | refine Um.la (by decide) ?_)
      have hcx : ∀ (A B : Option St), (if nI b = 127 then A else if nI b = 64 then A else B) = A := by
        intro A B
        rcases hb1 with q | q
        · rw [q, if_pos (show nI 127 = 127 from rfl)]
        · rw [q, if_neg (show ¬ nI 64 = 127 by decide), if_pos (show nI 64 = 64 from rfl)]
      rw [hcx]
      simp (disch := first | decide | omega) only [stp_eq, stp_ne, stp_nj, stI1, stI2, stL1, stL_eq, stL_ne, stL_nj, gi_n, nI_clamp , hso]
      rw [if_pos (show nI (w.dp C + 1) ≤ 10 from nI_le (b := 10) hd (by decide)), ts_240_7_1 hC]
      simp (disch := first | decide | omega) only [stp_eq, stp_ne, stp_nj, stI1, stI2, stL1, stL_eq, stL_ne, stL_nj, gi_n, nI_clamp , hso]
      rw [rSet_n (n := 11) (i := w.dp C + 1) (by omega) (by decide)]
      simp (disch := first | decide | omega) only [stp_eq, stp_ne, stp_nj, stI1, stI2, stL1, stL_eq, stL_ne, stL_nj, gi_n, nI_clamp , hso, nI_1]
      rw [mpre] at key
      by_cases hb7 : b = 127
      · subst hb7
        have ha' : a = 1 := hb2.mpr rfl
        subst ha'
        rw [if_neg (show ¬ nI 127 = 64 by decide), if_pos (show nI 127 = 127 from rfl), mw_t (by decide), bd1_some, if_pos (show nI 127 = 127 from rfl)]
        exact key
      · have hb4 : b = 64 := by omega
        subst hb4
        have ha' : a = 0 := by omega
        subst ha'
        rw [if_pos (show nI 64 = 64 from rfl), mw_t (by decide), bd1_some, if_neg (show ¬ nI 64 = 127 by decide)]
        exact key
    · -- too deep
      have b1 := BX.m2 (s0 := s0) (s := stp (stp (stp (stp s 2 2 (nI (pl + 1))) 20 0 (nI (C + 1))) 21 (C * 7 + 0) (nI o)) 2 2 (nI (pl + 1 + 1))) (by repeat first | assumption | refine FX.pa (by decide) (by decide) (by decide) ?_ | refine FX.p2 (by decide) ?_)
      have hcx : ∀ (A B : Option St), (if nI b = 127 then A else if nI b = 64 then A else B) = A := by
        intro A B
        rcases hb1 with q | q
        · rw [q, if_pos (show nI 127 = 127 from rfl)]
        · rw [q, if_neg (show ¬ nI 64 = 127 by decide), if_pos (show nI 64 = 64 from rfl)]
      rw [hcx]
      simp (disch := first | decide | omega) only [stp_eq, stp_ne, stp_nj, stI1, stI2, stL1, stL_eq, stL_ne, stL_nj, gi_n, nI_clamp , hso]
      rw [if_neg (show ¬ nI (w.dp C + 1) ≤ 10 from nI_ge (a := 10) (by omega) (by omega)), xr_0 h2.1 2, bd1_some]
      have hM : ∀ v : Int64, okg some (K (stL (stI (mpre t pl C o (w.ins C)) 0 3 (nI (pl + 1 + 1))) 15 C v)) (BM t0 2) := by
        intro v
        rw [m219o, if_pos (by omega), mw_f (by rw [mpre]; simp (disch := first | decide | omega) only [stp_eq, stp_ne, stp_nj, stI1, stI2, stL1, stL_eq, stL_ne, stL_nj, gi_n, nI_clamp ]; exact hA.2.1), bd1_some, mpre]
        have b2 := BM.m2 (t0 := t0) (t := stL (stI (stI (stI (stI (stL (stL (stI (stI t 0 3 (nI (pl + 1))) 14 C (nI o)) 15 C 0) 16 C 0) 17 C (nI (w.ins C) - 1)) 18 C (-1)) 19 C (-1)) 0 3 (nI (pl + 1 + 1))) 15 C v) (by repeat first | assumption | refine FM.pa (by decide) (by decide) ?_ | refine FM.p0 (by decide) ?_ | refine FM.la ?_)
        exact hM9 _ _ _ _ _ (by (repeat first | assumption | refine BM.pa (by with_unfolding_all decide) (by with_unfolding_all decide) ?_ | refine BM.p0 (by with_unfolding_all decide) (by with_unfolding_all decide) ?_ | refine BM.la ?_))
      rw [mpre] at hM
      refine r_BB (hX9 _ _ (by (repeat first | assumption | refine BX.ta (by with_unfolding_all decide) (by with_unfolding_all decide) (by with_unfolding_all decide) ?_ | refine BX.pa (by with_unfolding_all decide) (by with_unfolding_all decide) (by with_unfolding_all decide) ?_ | refine BX.ra (by with_unfolding_all decide) (by with_unfolding_all decide) (by with_unfolding_all decide) ?_ | refine BX.p2 (by with_unfolding_all decide) (by with_unfolding_all decide) ?_))) ?_
      by_cases hb7 : b = 127
      · subst hb7
        rw [if_neg (show ¬ nI 127 = 64 by decide), if_pos (show nI 127 = 127 from rfl), mw_t (by decide), bd1_some, if_pos (show nI 127 = 127 from rfl)]
        exact hM _
      · have hb4 : b = 64 := by omega
        subst hb4
        rw [if_pos (show nI 64 = 64 from rfl), mw_t (by decide), bd1_some, if_neg (show ¬ nI 64 = 127 by decide)]
        exact hM _
  · have n1 : ¬ nI b = 127 := fun q => hb1 (Or.inl ((nI_eq (b := 127) (by omega) (by decide)).mp q))
    have n2 : ¬ nI b = 64 := fun q => hb1 (Or.inr ((nI_eq (b := 64) (by omega) (by decide)).mp q))
    rw [if_neg n1, if_neg n2, if_neg n2, if_neg n1, xr_0 h2.1 2, mw_f h2.2.1 2, bd1_some, bd1_some, if_neg n1]
    have b1 := BX.m2 (s0 := s0) (s := stp (stp (stp (stp s 2 2 (nI (pl + 1))) 20 0 (nI (C + 1))) 21 (C * 7 + 0) (nI o)) 2 2 (nI (pl + 1 + 1))) (by repeat first | assumption | refine FX.pa (by decide) (by decide) (by decide) ?_ | refine FX.p2 (by decide) ?_)
    have b2 := BM.m2 (t0 := t0) (t := stI (stI (stI (stI (stL (stL (stI (stI t 0 3 (nI (pl + 1))) 14 C (nI o)) 15 C 0) 16 C 0) 17 C (nI (w.ins C) - 1)) 18 C (-1)) 19 C (-1)) 0 3 (nI (pl + 1 + 1))) (by repeat first | assumption | refine FM.pa (by decide) (by decide) ?_ | refine FM.p0 (by decide) ?_ | refine FM.la ?_)
    exact r_BB (hX9 _ _ (by (repeat first | assumption | refine BX.ta (by with_unfolding_all decide) (by with_unfolding_all decide) (by with_unfolding_all decide) ?_ | refine BX.pa (by with_unfolding_all decide) (by with_unfolding_all decide) (by with_unfolding_all decide) ?_ | refine BX.ra (by with_unfolding_all decide) (by with_unfolding_all decide) (by with_unfolding_all decide) ?_ | refine BX.p2 (by with_unfolding_all decide) (by with_unfolding_all decide) ?_))) (hkM _ _ (by (repeat first | assumption | refine BM.pa (by with_unfolding_all decide) (by with_unfolding_all decide) ?_ | refine BM.p0 (by with_unfolding_all decide) (by with_unfolding_all decide) ?_ | refine BM.la ?_)))
end STEP3
