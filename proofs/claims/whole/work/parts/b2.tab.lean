-- the places of a br_table
theorem km_pl {n C : Nat} (hC : C < 250) {x : Int32} {y : Int64} {t0 t : SM} {e : Nat} (h : BM t0 e t) : okg some (f_M_readNumbers_96 (n + 1) (nI C) x y t) (BM t0 e) := by
  rw [f_M_readNumbers_96, if_neg h.ne, f_M_readNumbers_144, gi_n hC (by decide)]
  simp only [lt1, ite_self, f_M_readNumbers_262]
  exact okg.some h
theorem kx_pl {n : Nat} {x y z : Int32} {s0 s : St} {e : Nat} (h : BX s0 e s) : okg some (f_Rd_readPlaces_56 (n + 1) x y z s) (BX s0 e) := by
  rw [f_Rd_readPlaces_56, if_neg h.ne, f_Rd_readPlaces_105, ite_self, ite_self]
  exact okg.some h
def Pls (P : Nat → Nat) (n : Nat) (s : St) (t : SM) : Prop := ∀ j, j < n → P j < 2 ^ 32 ∧ s 23 (j * 1 + 0) = nI (P j) ∧ t.2 25 j = lN (P j)
theorem places2 {s0 : St} {t0 : SM} {bn C a nP : Nat} {x : Int32} (hC : C < 240) (ha : a ≤ 8) : ∀ d i nX nM s t pl P, i + d = a + 1 → d < nX → d < nM → AC s0 t0 s t pl bn → s 22 0 = nI (nP + i) → t.1 0 15 = nI (nP + i) → t.2 15 C = lN a → nP + i + 2 ≤ pl → Pls P (nP + i) s t →
    o2 some some (f_Rd_readPlaces_56 nX (nI C) (nI a) (nI i) s) (f_M_readNumbers_96 nM (nI C) x (lN i) t) (RB s0 t0 (fun s' t' => ∃ pl' P', pl ≤ pl' ∧ AC s0 t0 s' t' pl' bn ∧ s' 22 0 = nI (nP + a + 1) ∧ t'.1 0 15 = nI (nP + a + 1) ∧ nP + a + 3 ≤ pl' ∧ pl + d ≤ pl' ∧ Pls P' (nP + a + 1) s' t' ∧ Ux [22, 23] [] s s' ∧ Um [] [25] [15] t t')) := by
  intro d
  induction d with
  | zero =>
    intro i nX nM s t pl P hi hX hM h h22 h15 hf hpl hP
    obtain ⟨nX, rfl⟩ : ∃ n, nX = n + 1 := ⟨nX - 1, by omega⟩
    obtain ⟨nM, rfl⟩ : ∃ n, nM = n + 1 := ⟨nM - 1, by omega⟩
    have hia : nP + i = nP + a + 1 := by omega
    rw [hia] at h22 h15 hpl hP
    rw [f_Rd_readPlaces_56, f_M_readNumbers_96, f_Rd_readPlaces_105, f_M_readNumbers_144, f_M_readNumbers_262, gi_n (show C < 250 by omega) (by decide), if_pos (nI_lt (a := a) (b := i) (by omega) (by omega)), ite_self]
    simp only [lt1, nI_clamp (show C < 2 ^ 31 by omega), hf]
    rw [if_pos ((lcmp_le (by omega) (by omega)).mpr (by omega))]
    exact ⟨s, t, rfl, rfl, Or.inl ⟨pl, P, Nat.le_refl _, h, h22, h15, hpl, by omega, hP, Ux.refl _ _ _, Um.refl _ _ _ _⟩⟩
  | succ d ih =>
    intro i nX nM s t pl P hi hX hM h h22 h15 hf hpl hP
    obtain ⟨nX, rfl⟩ : ∃ n, nX = n + 1 + 1 := ⟨nX - 2, by omega⟩
    obtain ⟨nM, rfl⟩ : ∃ n, nM = n + 1 + 1 := ⟨nM - 2, by omega⟩
    obtain ⟨hA, hx, hm⟩ := h
    have hb := bd240 hA
    rw [f_Rd_readPlaces_56, f_M_readNumbers_96, gi_n (show C < 250 by omega) (by decide), hA.1, hA.2.1, if_neg (show ¬ (8 : Int32) < nI i from nI_nlt (a := 8) (by omega) (by omega)), if_neg (nI_nlt (a := a) (b := i) (by omega) (by omega))]
    simp only [lt1, nI_clamp (show C < 2 ^ 31 by omega), hf, if_true, h22, h15, nI_1, nI_pred, gi_n (show nP + i < 250 by omega) (show 250 < 2 ^ 31 by decide), nI_clamp (show nP + i < 2 ^ 31 by omega)]
    rw [if_neg (fun q => absurd ((lcmp_le (by omega) (by omega)).mp q) (by omega))]
    refine r_uns (pl := pl) (bn := bn) (by repeat first | assumption | refine At.sx (by decide) (by decide) ?_ | refine At.ti (by decide) (by decide) ?_ | refine At.tz (by decide) (by decide) (by decide) ?_ | refine At.tl ?_) (fun v p hv hp1 hp2 h2 => ?_) (fun _ _ _ _ hf => r_B (by repeat first | assumption | refine FX.pa (by decide) (by decide) (by decide) ?_ | refine FX.p2 (by decide) ?_) (by repeat first | assumption | refine FM.pa (by decide) (by decide) ?_ | refine FM.p0 (by decide) ?_ | refine FM.la ?_) hf (fun _ _ => by (repeat' first | (with_reducible first | exact okg.some (by (repeat first | assumption | refine BX.ta (by with_unfolding_all decide) (by with_unfolding_all decide) (by with_unfolding_all decide) ?_ | refine BX.pa (by with_unfolding_all decide) (by with_unfolding_all decide) (by with_unfolding_all decide) ?_ | refine BX.ra (by with_unfolding_all decide) (by with_unfolding_all decide) (by with_unfolding_all decide) ?_ | refine BX.p2 (by with_unfolding_all decide) (by with_unfolding_all decide) ?_)) | refine kx_byte (by (repeat first | assumption | refine BX.ta (by with_unfolding_all decide) (by with_unfolding_all decide) (by with_unfolding_all decide) ?_ | refine BX.pa (by with_unfolding_all decide) (by with_unfolding_all decide) (by with_unfolding_all decide) ?_ | refine BX.ra (by with_unfolding_all decide) (by with_unfolding_all decide) (by with_unfolding_all decide) ?_ | refine BX.p2 (by with_unfolding_all decide) (by with_unfolding_all decide) ?_)) ?_ | refine kx_ref (by (repeat first | assumption | refine BX.ta (by with_unfolding_all decide) (by with_unfolding_all decide) (by with_unfolding_all decide) ?_ | refine BX.pa (by with_unfolding_all decide) (by with_unfolding_all decide) (by with_unfolding_all decide) ?_ | refine BX.ra (by with_unfolding_all decide) (by with_unfolding_all decide) (by with_unfolding_all decide) ?_ | refine BX.p2 (by with_unfolding_all decide) (by with_unfolding_all decide) ?_)) ?_ | refine kx_exp (by (repeat first | assumption | refine BX.ta (by with_unfolding_all decide) (by with_unfolding_all decide) (by with_unfolding_all decide) ?_ | refine BX.pa (by with_unfolding_all decide) (by with_unfolding_all decide) (by with_unfolding_all decide) ?_ | refine BX.ra (by with_unfolding_all decide) (by with_unfolding_all decide) (by with_unfolding_all decide) ?_ | refine BX.p2 (by with_unfolding_all decide) (by with_unfolding_all decide) ?_)) ?_ | refine kx_uns (by (repeat first | assumption | refine BX.ta (by with_unfolding_all decide) (by with_unfolding_all decide) (by with_unfolding_all decide) ?_ | refine BX.pa (by with_unfolding_all decide) (by with_unfolding_all decide) (by with_unfolding_all decide) ?_ | refine BX.ra (by with_unfolding_all decide) (by with_unfolding_all decide) (by with_unfolding_all decide) ?_ | refine BX.p2 (by with_unfolding_all decide) (by with_unfolding_all decide) ?_)) (fun _ => ?_) | refine kx_sgn (by (repeat first | assumption | refine BX.ta (by with_unfolding_all decide) (by with_unfolding_all decide) (by with_unfolding_all decide) ?_ | refine BX.pa (by with_unfolding_all decide) (by with_unfolding_all decide) (by with_unfolding_all decide) ?_ | refine BX.ra (by with_unfolding_all decide) (by with_unfolding_all decide) (by with_unfolding_all decide) ?_ | refine BX.p2 (by with_unfolding_all decide) (by with_unfolding_all decide) ?_)) (fun _ => ?_) | refine kx_end (by (repeat first | assumption | refine BX.ta (by with_unfolding_all decide) (by with_unfolding_all decide) (by with_unfolding_all decide) ?_ | refine BX.pa (by with_unfolding_all decide) (by with_unfolding_all decide) (by with_unfolding_all decide) ?_ | refine BX.ra (by with_unfolding_all decide) (by with_unfolding_all decide) (by with_unfolding_all decide) ?_ | refine BX.p2 (by with_unfolding_all decide) (by with_unfolding_all decide) ?_)) (fun _ => ?_) | refine kx_val (by (repeat first | assumption | refine BX.ta (by with_unfolding_all decide) (by with_unfolding_all decide) (by with_unfolding_all decide) ?_ | refine BX.pa (by with_unfolding_all decide) (by with_unfolding_all decide) (by with_unfolding_all decide) ?_ | refine BX.ra (by with_unfolding_all decide) (by with_unfolding_all decide) (by with_unfolding_all decide) ?_ | refine BX.p2 (by with_unfolding_all decide) (by with_unfolding_all decide) ?_)) ?_ | refine kx_one (by (repeat first | assumption | refine BX.ta (by with_unfolding_all decide) (by with_unfolding_all decide) (by with_unfolding_all decide) ?_ | refine BX.pa (by with_unfolding_all decide) (by with_unfolding_all decide) (by with_unfolding_all decide) ?_ | refine BX.ra (by with_unfolding_all decide) (by with_unfolding_all decide) (by with_unfolding_all decide) ?_ | refine BX.p2 (by with_unfolding_all decide) (by with_unfolding_all decide) ?_)) (fun _ => ?_) | refine kx_con (by (repeat first | assumption | refine BX.ta (by with_unfolding_all decide) (by with_unfolding_all decide) (by with_unfolding_all decide) ?_ | refine BX.pa (by with_unfolding_all decide) (by with_unfolding_all decide) (by with_unfolding_all decide) ?_ | refine BX.ra (by with_unfolding_all decide) (by with_unfolding_all decide) (by with_unfolding_all decide) ?_ | refine BX.p2 (by with_unfolding_all decide) (by with_unfolding_all decide) ?_)) (fun _ => ?_) | refine kx_vts (by (repeat first | assumption | refine BX.ta (by with_unfolding_all decide) (by with_unfolding_all decide) (by with_unfolding_all decide) ?_ | refine BX.pa (by with_unfolding_all decide) (by with_unfolding_all decide) (by with_unfolding_all decide) ?_ | refine BX.ra (by with_unfolding_all decide) (by with_unfolding_all decide) (by with_unfolding_all decide) ?_ | refine BX.p2 (by with_unfolding_all decide) (by with_unfolding_all decide) ?_)) (fun _ => ?_) | refine kx_abv (fun _ => ?_) | simp only [lt1]) | exact kx_pl (by (repeat first | assumption | refine BX.ta (by with_unfolding_all decide) (by with_unfolding_all decide) (by with_unfolding_all decide) ?_ | refine BX.pa (by with_unfolding_all decide) (by with_unfolding_all decide) (by with_unfolding_all decide) ?_ | refine BX.ra (by with_unfolding_all decide) (by with_unfolding_all decide) (by with_unfolding_all decide) ?_ | refine BX.p2 (by with_unfolding_all decide) (by with_unfolding_all decide) ?_)) | (with_reducible split))) (fun _ _ => by (repeat' first | (with_reducible first | exact okg.some (by (repeat first | assumption | refine BM.pa (by with_unfolding_all decide) (by with_unfolding_all decide) ?_ | refine BM.p0 (by with_unfolding_all decide) (by with_unfolding_all decide) ?_ | refine BM.la ?_)) | refine km_next (by (repeat first | assumption | refine BM.pa (by with_unfolding_all decide) (by with_unfolding_all decide) ?_ | refine BM.p0 (by with_unfolding_all decide) (by with_unfolding_all decide) ?_ | refine BM.la ?_)) ?_ | refine km_will (by (repeat first | assumption | refine BM.pa (by with_unfolding_all decide) (by with_unfolding_all decide) ?_ | refine BM.p0 (by with_unfolding_all decide) (by with_unfolding_all decide) ?_ | refine BM.la ?_)) ?_ | refine km_exp (by (repeat first | assumption | refine BM.pa (by with_unfolding_all decide) (by with_unfolding_all decide) ?_ | refine BM.p0 (by with_unfolding_all decide) (by with_unfolding_all decide) ?_ | refine BM.la ?_)) ?_ | refine km_uns (by (repeat first | assumption | refine BM.pa (by with_unfolding_all decide) (by with_unfolding_all decide) ?_ | refine BM.p0 (by with_unfolding_all decide) (by with_unfolding_all decide) ?_ | refine BM.la ?_)) ?_ | refine km_sgn (by (repeat first | assumption | refine BM.pa (by with_unfolding_all decide) (by with_unfolding_all decide) ?_ | refine BM.p0 (by with_unfolding_all decide) (by with_unfolding_all decide) ?_ | refine BM.la ?_)) (fun _ => ?_) | refine km_ahd (by (repeat first | assumption | refine BM.pa (by with_unfolding_all decide) (by with_unfolding_all decide) ?_ | refine BM.p0 (by with_unfolding_all decide) (by with_unfolding_all decide) ?_ | refine BM.la ?_)) (fun _ => ?_) | refine km_val (by (repeat first | assumption | refine BM.pa (by with_unfolding_all decide) (by with_unfolding_all decide) ?_ | refine BM.p0 (by with_unfolding_all decide) (by with_unfolding_all decide) ?_ | refine BM.la ?_)) ?_ | refine km_one (by (repeat first | assumption | refine BM.pa (by with_unfolding_all decide) (by with_unfolding_all decide) ?_ | refine BM.p0 (by with_unfolding_all decide) (by with_unfolding_all decide) ?_ | refine BM.la ?_)) ?_ | refine km_con (by (repeat first | assumption | refine BM.pa (by with_unfolding_all decide) (by with_unfolding_all decide) ?_ | refine BM.p0 (by with_unfolding_all decide) (by with_unfolding_all decide) ?_ | refine BM.la ?_)) (fun _ => ?_) | refine km_cnt (by (repeat first | assumption | refine BM.pa (by with_unfolding_all decide) (by with_unfolding_all decide) ?_ | refine BM.p0 (by with_unfolding_all decide) (by with_unfolding_all decide) ?_ | refine BM.la ?_)) ?_ | simp only [lt1]) | exact km_pl (by omega) (by (repeat first | assumption | refine BM.pa (by with_unfolding_all decide) (by with_unfolding_all decide) ?_ | refine BM.p0 (by with_unfolding_all decide) (by with_unfolding_all decide) ?_ | refine BM.la ?_)) | (with_reducible split))))
    rw [ts_240_1_0 (show nP + i < 240 by omega), lN_1]
    simp (disch := first | decide | omega) only [stp_eq, stp_ne, stp_nj, stI1, stI2, stL1, stL_eq, stL_ne, stL_nj, gi_n, nI_clamp , h15, nI_1]
    refine (ih (i + 1) (nX + 1) (nM + 1) _ _ p (fu P (nP + i) v) (by omega) (by omega) (by omega) ⟨(by repeat first | assumption | refine At.sx (by decide) (by decide) ?_ | refine At.ti (by decide) (by decide) ?_ | refine At.tz (by decide) (by decide) (by decide) ?_ | refine At.tl ?_), (by repeat first | assumption | refine FX.pa (by decide) (by decide) (by decide) ?_ | refine FX.p2 (by decide) ?_), (by repeat first | assumption | refine FM.pa (by decide) (by decide) ?_ | refine FM.p0 (by decide) ?_ | refine FM.la ?_)⟩ ?_ ?_ ?_ (by omega) ?_).mono ?_
    · simp (disch := first | decide | omega) only [stp_eq, stp_ne, stp_nj, stI1, stI2, stL1, stL_eq, stL_ne, stL_nj, gi_n, nI_clamp ]; rw [Nat.add_assoc]
    · simp (disch := first | decide | omega) only [stp_eq, stp_ne, stp_nj, stI1, stI2, stL1, stL_eq, stL_ne, stL_nj, gi_n, nI_clamp ]; rw [Nat.add_assoc]
    · simp (disch := first | decide | omega) only [stp_eq, stp_ne, stp_nj, stI1, stI2, stL1, stL_eq, stL_ne, stL_nj, gi_n, nI_clamp ]; exact hf
    · intro j hj
      by_cases hji : j = nP + i
      · subst hji
        rw [fu_eq]
        exact ⟨hv, by simp (disch := first | decide | omega) only [stp_eq, stp_ne, stp_nj, stI1, stI2, stL1, stL_eq, stL_ne, stL_nj, gi_n, nI_clamp ], by simp (disch := first | decide | omega) only [stp_eq, stp_ne, stp_nj, stI1, stI2, stL1, stL_eq, stL_ne, stL_nj, gi_n, nI_clamp ]⟩
      · rw [fu_ne _ _ hji]
        obtain ⟨q1, q2, q3⟩ := hP j (by omega)
        exact ⟨q1, by simp (disch := first | decide | omega) only [stp_eq, stp_ne, stp_nj, stI1, stI2, stL1, stL_eq, stL_ne, stL_nj, gi_n, nI_clamp , q2], by simp (disch := first | decide | omega) only [stp_eq, stp_ne, stp_nj, stI1, stI2, stL1, stL_eq, stL_ne, stL_nj, gi_n, nI_clamp , q3]⟩
    · rintro s' t' (⟨pl', P', f1, f2, f3, f4, f5, f6, f7, f8, f9⟩ | hb)
      · exact Or.inl ⟨pl', P', by omega, f2, f3, f4, f5, by omega, f7, Ux.trans (by (repeat first | assumption | exact Ux.refl _ _ _ | refine Ux.p2 (by decide) ?_ | refine Ux.pa (by decide) (by decide) ?_)) f8, Um.trans (by (repeat first | assumption | exact Um.refl _ _ _ _ | refine Um.p0 (by decide) ?_ | refine Um.pa (by decide) (by decide) ?_ | refine Um.la (by decide) ?_)) f9⟩
      · exact Or.inr hb
theorem Ux.up {C C' D D' : List Nat} {s s' : St} (h : Ux C D s s') (hC : ∀ a, a ∈ C → a ∈ C') (hD : ∀ a, a ∈ D → a ∈ D') : Ux C' D' s s' := by
  refine ⟨fun a ha => h.1 a (fun q => ha ?_), fun a ha => h.2 a (fun q => ha ?_)⟩
  · rcases List.mem_cons.mp q with q | q
    · rw [q]; exact List.mem_cons_self
    · exact List.mem_cons_of_mem _ (hC a q)
  · rcases List.mem_cons.mp q with q | q
    · rw [q]; exact List.mem_cons_self
    · exact List.mem_cons_of_mem _ (hD a q)
theorem Um.up {C C' L L' D D' : List Nat} {t t' : SM} (h : Um C L D t t') (hC : ∀ a, a ∈ C → a ∈ C') (hL : ∀ a, a ∈ L → a ∈ L') (hD : ∀ a, a ∈ D → a ∈ D') : Um C' L' D' t t' := by
  refine ⟨fun a ha => h.1 a (fun q => ha ?_), fun a ha => h.2.1 a (fun q => ha (hL a q)), fun a ha => h.2.2 a (fun q => ha ?_)⟩
  · rcases List.mem_cons.mp q with q | q
    · rw [q]; exact List.mem_cons_self
    · exact List.mem_cons_of_mem _ (hC a q)
  · rcases List.mem_cons.mp q with q | q
    · rw [q]; exact List.mem_cons_self
    · exact List.mem_cons_of_mem _ (hD a q)
section STEP2
variable {s0 : St} {t0 : SM} {bn : Nat} {F : St → Option St} {kX : St → Option St} {k17 : Int32 → Int32 → Int32 → Int32 → SM → Option SM} {f : Nat} {R : St → SM → Prop} {w : Cd} {C nP : Nat} {s : St} {t : SM} {pl : Nat}
theorem tab2 (hA : AC s0 t0 s t pl bn) (hR : CR w C nP s t pl) (hO : RO w C s) (hpb : pl < bn) (hC : C < 240) (N : Nx s0 t0 bn F kX k17 f R w C s t pl) (hX9 : ∀ e s, BX s0 e s → okg F (kX s) (BX s0 e)) (hM9 : ∀ e x2 x3 x4 t, BM t0 e t → okg some (k17 (nI f) x2 x3 x4 t) (BM t0 e)) :
    o2 F some (bd1 (f_Rd_readPlaces (nI C) (xpre s pl C 14)) kX) (bd1 (f_M_readNumbers (nI C) (mpre t pl C 14 (w.ins C))) fun s11 => f_M_readBody_219 k17 (nI f) (nI (w.ins C) - 1) (nI (w.dp C)) 1 (nI 14) (nI C) s11) (RB s0 t0 R) := by
  obtain ⟨hA, hx, hm⟩ := hA
  have hC2 : C < 250 := by omega
  have hAt := hA.step (pl' := pl + 1) hpb
  have hop : (mpre t pl C 14 (w.ins C)).1 14 C = nI 14 := by rw [mpre]; simp (disch := first | decide | omega) only [stp_eq, stp_ne, stp_nj, stI1, stI2, stL1, stL_eq, stL_ne, stL_nj, gi_n, nI_clamp ]
  obtain ⟨fu', hfu, hfu2⟩ := FU_s
  have hkM : ∀ e t, BM t0 e t → okg some (f_M_readBody_219 k17 (nI f) (nI (w.ins C) - 1) (nI (w.dp C)) 1 (nI 14) (nI C) t) (BM t0 e) := by
    intro e t hB
    rw [m219 (by decide) (by decide)]
    exact hM9 _ _ _ _ _ (by (repeat first | assumption | refine BM.pa (by with_unfolding_all decide) (by with_unfolding_all decide) ?_ | refine BM.p0 (by with_unfolding_all decide) (by with_unfolding_all decide) ?_ | refine BM.la ?_))
  rw [mop_tab (by decide) (by decide) hC2 hop rfl, f_M_readNumbers_64, if_pos (show nI 14 = 14 from rfl), f_Rd_readPlaces, xpre, mpre]
  simp only [f_Rd_readPlaces_19]
  simp only [lt1, bd_bd, bd_bd1, bd1_bd, bd1_bd1, bd_some, bd1_some, bd_ite, bd1_ite , gi_n hC2 (show 250 < 2 ^ 31 by decide), nI_clamp (show C < 2 ^ 31 by omega)]
  refine r_cnt (pl := pl + 1) (bn := bn) (by repeat first | assumption | refine At.sx (by decide) (by decide) ?_ | refine At.ti (by decide) (by decide) ?_ | refine At.tz (by decide) (by decide) (by decide) ?_ | refine At.tl ?_) 8 (by decide) (fun a p hl hp1 hp2 h1 => ?_) (fun r s' t' hf => ?_)
  · rw [ts_240_7_1 hC]
    simp (disch := first | decide | omega) only [stp_eq, stp_ne, stp_nj, stI1, stI2, stL1, stL_eq, stL_ne, stL_nj, gi_n, nI_clamp , hR.x22, hR.m15, ts_240_7_2 hC, nI_l (show a < 2 ^ 31 by omega)]
    have hcs := hR.c1
    have hcs2 := hR.c2
    have hb := bd240 h1
    rw [nI_l (show nP < 2 ^ 31 by omega)]
    refine RB.b1 (places2 (s0 := s0) (t0 := t0) (bn := bn) (nP := nP) hC hl (a + 1) 0 FU FU _ _ p w.pl (by omega) (by omega) (by omega) ⟨(by repeat first | assumption | refine At.sx (by decide) (by decide) ?_ | refine At.ti (by decide) (by decide) ?_ | refine At.tz (by decide) (by decide) (by decide) ?_ | refine At.tl ?_), (by repeat first | assumption | refine FX.pa (by decide) (by decide) (by decide) ?_ | refine FX.p2 (by decide) ?_), (by repeat first | assumption | refine FM.pa (by decide) (by decide) ?_ | refine FM.p0 (by decide) ?_ | refine FM.la ?_)⟩ ?_ ?_ ?_ (by omega) ?_) ?_ (fun e s' hB => hX9 e s' hB) (fun e t' hB => hkM e t' hB)
    · simp (disch := first | decide | omega) only [stp_eq, stp_ne, stp_nj, stI1, stI2, stL1, stL_eq, stL_ne, stL_nj, gi_n, nI_clamp , hR.x22]; rfl
    · simp (disch := first | decide | omega) only [stp_eq, stp_ne, stp_nj, stI1, stI2, stL1, stL_eq, stL_ne, stL_nj, gi_n, nI_clamp , hR.m15]; rfl
    · simp (disch := first | decide | omega) only [stp_eq, stp_ne, stp_nj, stI1, stI2, stL1, stL_eq, stL_ne, stL_nj, gi_n, nI_clamp ]
    · intro j hj
      obtain ⟨q1, q2, q3⟩ := hR.px j hj
      exact ⟨q1, by simp (disch := first | decide | omega) only [stp_eq, stp_ne, stp_nj, stI1, stI2, stL1, stL_eq, stL_ne, stL_nj, gi_n, nI_clamp , q2], by simp (disch := first | decide | omega) only [stp_eq, stp_ne, stp_nj, stI1, stI2, stL1, stL_eq, stL_ne, stL_nj, gi_n, nI_clamp , q3]⟩
    · rintro s' t' ⟨pl', P', f1, ⟨g1, g2, g3⟩, f3, f4, f5, f6, f7, f8, f9⟩
      rw [m219 (by decide) (by decide), f9.2.2 14 (by decide)]
      simp (disch := first | decide | omega) only [stp_eq, stp_ne, stp_nj, stI1, stI2, stL1, stL_eq, stL_ne, stL_nj, gi_n, nI_clamp , hR.m14, nI_1]
      have e1 : xF 14 a nP = nI a := by rw [xF, if_neg (by decide), if_neg (by decide)]
      have e2 : xS 14 a nP = nI nP := by rw [xS, if_neg (by decide)]
      have e3 : mF 14 a = lN a := by rw [mF, if_neg (by decide)]
      have hok : oko 14 a nP := ⟨by omega, by omega, fun q => absurd q (by decide), fun _ => hl, fun q => absurd (Or.inr rfl) q, fun q => absurd (Or.inr (Or.inl rfl)) q⟩
      have hco : cost 14 a = a + 2 := rfl
      have hv : ∀ k, k ≠ C + 1 → ((w.push C 14 a nP (w.ins C) (w.dp C) (w.fn C)).pls P').ins k = w.ins k := fun k hk => fu_ne _ _ hk
      have i20 := f8.1 20 (by decide)
      have i21 := f8.1 21 (by decide)
      have i25 := f8.1 25 (by decide)
      have i0 := f8.2 0 (by decide)
      have n14 := f9.1 14 (by decide)
      have n17 := f9.1 17 (by decide)
      have n18 := f9.1 18 (by decide)
      have n19 := f9.1 19 (by decide)
      have n15 := f9.2.1 15 (by decide)
      have n16 := f9.2.1 16 (by decide)
      refine N ((w.push C 14 a nP (w.ins C) (w.dp C) (w.fn C)).pls P') (nP + a + 1) _ _ pl' _ _ (by omega) ⟨(by repeat first | assumption | refine At.sx (by decide) (by decide) ?_ | refine At.ti (by decide) (by decide) ?_ | refine At.tz (by decide) (by decide) (by decide) ?_ | refine At.tl ?_), (by repeat first | assumption | refine FX.pa (by decide) (by decide) (by decide) ?_ | refine FX.p2 (by decide) ?_), (by repeat first | assumption | refine FM.pa (by decide) (by decide) ?_ | refine FM.p0 (by decide) ?_ | refine FM.la ?_)⟩ (hR.push hC (hR.wf.plain (by decide) (by decide) (by decide) (by decide) hok) (by decide) (by rw [hco]; omega) ?_ ?_ ?_ ?_ ?_ ?_ ?_ ?_ ?_ ?_ ?_ ?_ ?_ ?_ ?_ (by omega) (by rw [hco]; omega) ?_ (fun _ => by omega)) (hO.plain hR.wf (fun k hk => hv k (by omega)) (fu_eq _ _ _) (fu_eq _ _ _) ?_ ?_) ⟨fun k hk => fu_ne _ _ (by omega), fun k hk => hv k (by omega), fun k hk => fu_ne _ _ (by omega)⟩ (fu_eq _ _ _) (fu_eq _ _ _) (fu_eq _ _ _) ?_ ?_
      · rw [i20]; simp (disch := first | decide | omega) only [stp_eq, stp_ne, stp_nj, stI1, stI2, stL1, stL_eq, stL_ne, stL_nj, gi_n, nI_clamp ]
      · simp (disch := first | decide | omega) only [stp_eq, stp_ne, stp_nj, stI1, stI2, stL1, stL_eq, stL_ne, stL_nj, gi_n, nI_clamp ]
      · intro q q0 q1 q2; rw [i21]; simp (disch := first | decide | omega) only [stp_eq, stp_ne, stp_nj, stI1, stI2, stL1, stL_eq, stL_ne, stL_nj, gi_n, nI_clamp ]
      · rw [i21]; simp (disch := first | decide | omega) only [stp_eq, stp_ne, stp_nj, stI1, stI2, stL1, stL_eq, stL_ne, stL_nj, gi_n, nI_clamp ]
      · rw [i21, e1]; simp (disch := first | decide | omega) only [stp_eq, stp_ne, stp_nj, stI1, stI2, stL1, stL_eq, stL_ne, stL_nj, gi_n, nI_clamp ]
      · rw [i21, e2]; simp (disch := first | decide | omega) only [stp_eq, stp_ne, stp_nj, stI1, stI2, stL1, stL_eq, stL_ne, stL_nj, gi_n, nI_clamp ]
      · intro k hkC
        refine ⟨?_, ?_, ?_, ?_, ?_, ?_⟩
        · simp (disch := first | decide | omega) only [stp_eq, stp_ne, stp_nj, stI1, stI2, stL1, stL_eq, stL_ne, stL_nj, gi_n, nI_clamp ]; rw [n14]; simp (disch := first | decide | omega) only [stp_eq, stp_ne, stp_nj, stI1, stI2, stL1, stL_eq, stL_ne, stL_nj, gi_n, nI_clamp ]
        · simp (disch := first | decide | omega) only [stp_eq, stp_ne, stp_nj, stI1, stI2, stL1, stL_eq, stL_ne, stL_nj, gi_n, nI_clamp ]; rw [n15]; simp (disch := first | decide | omega) only [stp_eq, stp_ne, stp_nj, stI1, stI2, stL1, stL_eq, stL_ne, stL_nj, gi_n, nI_clamp ]
        · simp (disch := first | decide | omega) only [stp_eq, stp_ne, stp_nj, stI1, stI2, stL1, stL_eq, stL_ne, stL_nj, gi_n, nI_clamp ]; rw [n16]; simp (disch := first | decide | omega) only [stp_eq, stp_ne, stp_nj, stI1, stI2, stL1, stL_eq, stL_ne, stL_nj, gi_n, nI_clamp ]
        · simp (disch := first | decide | omega) only [stp_eq, stp_ne, stp_nj, stI1, stI2, stL1, stL_eq, stL_ne, stL_nj, gi_n, nI_clamp ]; rw [n17]; simp (disch := first | decide | omega) only [stp_eq, stp_ne, stp_nj, stI1, stI2, stL1, stL_eq, stL_ne, stL_nj, gi_n, nI_clamp ]
        · simp (disch := first | decide | omega) only [stp_eq, stp_ne, stp_nj, stI1, stI2, stL1, stL_eq, stL_ne, stL_nj, gi_n, nI_clamp ]; rw [n18]; simp (disch := first | decide | omega) only [stp_eq, stp_ne, stp_nj, stI1, stI2, stL1, stL_eq, stL_ne, stL_nj, gi_n, nI_clamp ]
        · simp (disch := first | decide | omega) only [stp_eq, stp_ne, stp_nj, stI1, stI2, stL1, stL_eq, stL_ne, stL_nj, gi_n, nI_clamp ]; rw [n19]; simp (disch := first | decide | omega) only [stp_eq, stp_ne, stp_nj, stI1, stI2, stL1, stL_eq, stL_ne, stL_nj, gi_n, nI_clamp ]
      · simp (disch := first | decide | omega) only [stp_eq, stp_ne, stp_nj, stI1, stI2, stL1, stL_eq, stL_ne, stL_nj, gi_n, nI_clamp ]; rw [n14]; simp (disch := first | decide | omega) only [stp_eq, stp_ne, stp_nj, stI1, stI2, stL1, stL_eq, stL_ne, stL_nj, gi_n, nI_clamp ]
      · simp (disch := first | decide | omega) only [stp_eq, stp_ne, stp_nj, stI1, stI2, stL1, stL_eq, stL_ne, stL_nj, gi_n, nI_clamp ]; rw [n15, e3]; simp (disch := first | decide | omega) only [stp_eq, stp_ne, stp_nj, stI1, stI2, stL1, stL_eq, stL_ne, stL_nj, gi_n, nI_clamp ]
      · simp (disch := first | decide | omega) only [stp_eq, stp_ne, stp_nj, stI1, stI2, stL1, stL_eq, stL_ne, stL_nj, gi_n, nI_clamp ]; rw [n16]; simp (disch := first | decide | omega) only [stp_eq, stp_ne, stp_nj, stI1, stI2, stL1, stL_eq, stL_ne, stL_nj, gi_n, nI_clamp ]
      · simp (disch := first | decide | omega) only [stp_eq, stp_ne, stp_nj, stI1, stI2, stL1, stL_eq, stL_ne, stL_nj, gi_n, nI_clamp ]; rw [n17]; simp (disch := first | decide | omega) only [stp_eq, stp_ne, stp_nj, stI1, stI2, stL1, stL_eq, stL_ne, stL_nj, gi_n, nI_clamp ]
      · simp (disch := first | decide | omega) only [stp_eq, stp_ne, stp_nj, stI1, stI2, stL1, stL_eq, stL_ne, stL_nj, gi_n, nI_clamp ]; rw [n18]; simp (disch := first | decide | omega) only [stp_eq, stp_ne, stp_nj, stI1, stI2, stL1, stL_eq, stL_ne, stL_nj, gi_n, nI_clamp ]
      · simp (disch := first | decide | omega) only [stp_eq, stp_ne, stp_nj, stI1, stI2, stL1, stL_eq, stL_ne, stL_nj, gi_n, nI_clamp ]; rw [n19]; simp (disch := first | decide | omega) only [stp_eq, stp_ne, stp_nj, stI1, stI2, stL1, stL_eq, stL_ne, stL_nj, gi_n, nI_clamp ]
      · exact f3
      · simp (disch := first | decide | omega) only [stp_eq, stp_ne, stp_nj, stI1, stI2, stL1, stL_eq, stL_ne, stL_nj, gi_n, nI_clamp , f4]
      · intro j hj
        obtain ⟨q1, q2, q3⟩ := f7 j hj
        exact ⟨q1, q2, by simp (disch := first | decide | omega) only [stp_eq, stp_ne, stp_nj, stI1, stI2, stL1, stL_eq, stL_ne, stL_nj, gi_n, nI_clamp , q3]⟩
      · rw [i0]; simp (disch := first | decide | omega) only [stp_eq, stp_ne, stp_nj, stI1, stI2, stL1, stL_eq, stL_ne, stL_nj, gi_n, nI_clamp ]
      · rw [i25]; simp (disch := first | decide | omega) only [stp_eq, stp_ne, stp_nj, stI1, stI2, stL1, stL_eq, stL_ne, stL_nj, gi_n, nI_clamp ]
      · refine Ux.trans ?_ (f8.up (by decide) (by decide))
        (repeat first | assumption | exact Ux.refl _ _ _ | refine Ux.p2 (by decide) ?_ | refine Ux.pa (by decide) (by decide) ?_)
      · refine Um.trans ?_ (Um.p0 (by decide) (f9.up (by decide) (by decide) (by decide)))
        (repeat first | assumption | exact Um.refl _ _ _ _ | refine Um.p0 (by decide) ?_ | refine Um.pa (by decide) (by decide) ?_ | refine Um.la (by decide) ?_)
  · refine r_B (by repeat first | assumption | refine FX.pa (by decide) (by decide) (by decide) ?_ | refine FX.p2 (by decide) ?_) (by repeat first | assumption | refine FM.pa (by decide) (by decide) ?_ | refine FM.p0 (by decide) ?_ | refine FM.la ?_) hf (fun e hB => ?_) (fun e hB => ?_)
    · rw [hfu]
      exact okg.b1 (kx_pl (by (repeat first | assumption | refine BX.ta (by with_unfolding_all decide) (by with_unfolding_all decide) (by with_unfolding_all decide) ?_ | refine BX.pa (by with_unfolding_all decide) (by with_unfolding_all decide) (by with_unfolding_all decide) ?_ | refine BX.ra (by with_unfolding_all decide) (by with_unfolding_all decide) (by with_unfolding_all decide) ?_ | refine BX.p2 (by with_unfolding_all decide) (by with_unfolding_all decide) ?_))) (fun s' hB' => hX9 _ _ hB')
    · rw [hfu]
      exact okg.b1 (km_pl hC2 (by (repeat first | assumption | refine BM.pa (by with_unfolding_all decide) (by with_unfolding_all decide) ?_ | refine BM.p0 (by with_unfolding_all decide) (by with_unfolding_all decide) ?_ | refine BM.la ?_))) (fun s' hB' => hkM _ _ hB')
end STEP2
