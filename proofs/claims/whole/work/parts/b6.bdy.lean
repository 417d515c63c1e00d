-- a body
theorem Ag.trans {w v u : Cd} {C : Nat} (h : Ag w v C) (h2 : Ag v u (C + 1)) : Ag w u C := ⟨fun k hk => (h2.op k (by omega)).trans (h.op k hk), fun k hk => (h2.ins k (by omega)).trans (h.ins k hk), fun k hk => (h2.fn k (by omega)).trans (h.fn k hk)⟩
theorem x87 (a b c : Int32) (s : St) : f_Rd_readBody_87 a b c s = f_Rd_readBody_87 a b 0 s := by
  simp only [f_Rd_readBody_87, f_Rd_readBody_127]
theorem kx_bd {n : Nat} {a b c : Int32} {s0 s : St} {e : Nat} (h : BX s0 e s) : okg (f_Rd_readBody_87 a b 0) (f_Rd_readBody_56 (n + 1) a b c s) (BX s0 e) := by
  rw [f_Rd_readBody_56, if_neg h.ne, ite_self, x87]
  exact okg.at h
theorem km_bd {n f : Nat} (hf : f < 8) {x2 x3 x4 : Int32} {t0 t : SM} {e : Nat} (h : BM t0 e t) : okg some (f_M_readBody_17 (n + 1) (nI f) x2 x3 x4 t) (BM t0 e) := by
  rw [f_M_readBody_17, if_neg h.ne, f_M_readBody_266]
  simp only [lt1, ite_self, gi_n hf (show 8 < 2 ^ 31 by decide)]
  exact okg.some (by (repeat first | assumption | refine BM.pa (by with_unfolding_all decide) (by with_unfolding_all decide) ?_ | refine BM.p0 (by with_unfolding_all decide) (by with_unfolding_all decide) ?_ | refine BM.la ?_))
def BdE (w v : Cd) (C C' nP' f : Nat) (s s' : St) (t t' : SM) (pl' : Nat) : Prop :=
  (C < C') ∧
  (CR v C' nP' s' t' pl') ∧
  (Ag w v C) ∧
  (v.op (C' - 1) = 11) ∧
  (v.ins (C' - 1) = 0) ∧
  (v.ins C' = 0) ∧
  (v.dp C' = 0) ∧
  (∀ k, C ≤ k → k < C' → v.fn k = w.fn C) ∧
  (v.fn C' = w.fn C + 1) ∧
  (t'.1 23 f = nI (C' - 1)) ∧
  (∀ j, j ≠ f → t'.1 23 j = t.1 23 j) ∧
  (Ux [20, 21, 22, 23, 25] [0] s s') ∧
  (Um [14, 17, 18, 19, 23] [15, 16, 25] [14, 15] t t')
theorem BdE.hC {w v : Cd} {C C' nP' f : Nat} {s s' : St} {t t' : SM} {pl' : Nat} (h : BdE w v C C' nP' f s s' t t' pl') : C < C' := h.1
theorem BdE.cr {w v : Cd} {C C' nP' f : Nat} {s s' : St} {t t' : SM} {pl' : Nat} (h : BdE w v C C' nP' f s s' t t' pl') : CR v C' nP' s' t' pl' := h.2.1
theorem BdE.ag {w v : Cd} {C C' nP' f : Nat} {s s' : St} {t t' : SM} {pl' : Nat} (h : BdE w v C C' nP' f s s' t t' pl') : Ag w v C := h.2.2.1
theorem BdE.op {w v : Cd} {C C' nP' f : Nat} {s s' : St} {t t' : SM} {pl' : Nat} (h : BdE w v C C' nP' f s s' t t' pl') : v.op (C' - 1) = 11 := h.2.2.2.1
theorem BdE.i1 {w v : Cd} {C C' nP' f : Nat} {s s' : St} {t t' : SM} {pl' : Nat} (h : BdE w v C C' nP' f s s' t t' pl') : v.ins (C' - 1) = 0 := h.2.2.2.2.1
theorem BdE.i2 {w v : Cd} {C C' nP' f : Nat} {s s' : St} {t t' : SM} {pl' : Nat} (h : BdE w v C C' nP' f s s' t t' pl') : v.ins C' = 0 := h.2.2.2.2.2.1
theorem BdE.d2 {w v : Cd} {C C' nP' f : Nat} {s s' : St} {t t' : SM} {pl' : Nat} (h : BdE w v C C' nP' f s s' t t' pl') : v.dp C' = 0 := h.2.2.2.2.2.2.1
theorem BdE.f1 {w v : Cd} {C C' nP' f : Nat} {s s' : St} {t t' : SM} {pl' : Nat} (h : BdE w v C C' nP' f s s' t t' pl') : ∀ k, C ≤ k → k < C' → v.fn k = w.fn C := h.2.2.2.2.2.2.2.1
theorem BdE.f2 {w v : Cd} {C C' nP' f : Nat} {s s' : St} {t t' : SM} {pl' : Nat} (h : BdE w v C C' nP' f s s' t t' pl') : v.fn C' = w.fn C + 1 := h.2.2.2.2.2.2.2.2.1
theorem BdE.m23 {w v : Cd} {C C' nP' f : Nat} {s s' : St} {t t' : SM} {pl' : Nat} (h : BdE w v C C' nP' f s s' t t' pl') : t'.1 23 f = nI (C' - 1) := h.2.2.2.2.2.2.2.2.2.1
theorem BdE.o23 {w v : Cd} {C C' nP' f : Nat} {s s' : St} {t t' : SM} {pl' : Nat} (h : BdE w v C C' nP' f s s' t t' pl') : ∀ j, j ≠ f → t'.1 23 j = t.1 23 j := h.2.2.2.2.2.2.2.2.2.2.1
theorem BdE.ux {w v : Cd} {C C' nP' f : Nat} {s s' : St} {t t' : SM} {pl' : Nat} (h : BdE w v C C' nP' f s s' t t' pl') : Ux [20, 21, 22, 23, 25] [0] s s' := h.2.2.2.2.2.2.2.2.2.2.2.1
theorem BdE.um {w v : Cd} {C C' nP' f : Nat} {s s' : St} {t t' : SM} {pl' : Nat} (h : BdE w v C C' nP' f s s' t t' pl') : Um [14, 17, 18, 19, 23] [15, 16, 25] [14, 15] t t' := h.2.2.2.2.2.2.2.2.2.2.2.2
theorem body2 {s0 : St} {t0 : SM} {bn f sb : Nat} (hf : f < 8) : ∀ d n nX nM w C nP s t pl, bn < pl + d → n < pl → d < nX → d < nM → AC s0 t0 s t pl bn → CR w C nP s t pl → RO w C s →
    o2 (f_Rd_readBody_87 (nI f) (nI sb) 0) some (f_Rd_readBody_56 nX (nI f) (nI sb) (nI n) s) (f_M_readBody_17 nM (nI f) (nI (w.ins C) - 1) (nI (w.dp C)) 1 t) (RB s0 t0 (fun s' t' => ∃ v C' nP' pl', pl < pl' ∧ AC s0 t0 s' t' pl' bn ∧ BdE w v C C' nP' f s s' t t' pl')) := by
  intro d
  induction d with
  | zero =>
    intro n nX nM w C nP s t pl hd
    intro _ _ _ h
    have := bd240 h.1
    omega
  | succ d ih =>
    intro n nX nM w C nP s t pl hd hn hX hM h hR hO
    obtain ⟨nX, rfl⟩ : ∃ n, nX = n + 1 + 1 := ⟨nX - 2, by omega⟩
    obtain ⟨nM, rfl⟩ : ∃ n, nM = n + 1 + 1 := ⟨nM - 2, by omega⟩
    have hb := bd240 h.1
    have hd10 := hR.wf.d10 C (Nat.le_refl _)
    rw [f_Rd_readBody_56, if_neg (show ¬ (240 : Int32) ≤ nI n from nI_ge (b := 240) (by omega) (by decide)), h.1.1, if_pos rfl, hO.1, if_neg (nI_nle (by omega) (by omega))]
    simp only [lt1, nI_1]
    by_cases hpb : pl < bn
    · have hCpl := cs_ge w C
      have hc1 := hR.c1
      refine instr2 h hR hO hpb (by omega) ?_ (fun e s' hB => kx_bd hB) (fun e x2 x3 x4 t' hB => km_bd hf hB) ?_ rfl
      · intro v nP' s' t' pl' i' d' hp hAC hCR hRO hAg hfn hi hd' ux um
        subst hi
        subst hd'
        refine (ih (n + 1) (nX + 1) (nM + 1) v (C + 1) nP' s' t' pl' (by omega) (by omega) (by omega) (by omega) hAC hCR hRO).mono ?_
        rintro s2 t2 (⟨u, C', nP2, pl2, g1, g2, g3⟩ | hb)
        · refine Or.inl ⟨u, C', nP2, pl2, by omega, g2, ?_⟩
          refine ⟨by have := g3.hC; omega, g3.cr, hAg.trans g3.ag, g3.op, g3.i1, g3.i2, g3.d2, fun k hk1 hk2 => ?_, by rw [g3.f2, hfn], g3.m23, fun j hj => by rw [g3.o23 j hj, um.1 23 (by decide)], Ux.trans ux g3.ux, Um.trans (um.up (by decide) (by decide) (by decide)) g3.um⟩
          by_cases hkC : k = C
          · subst hkC
            rw [g3.ag.fn k (by omega), hAg.fn k (Nat.le_refl _)]
          · rw [g3.f1 k (by omega) hk2, hfn]
        · exact Or.inr hb
      · intro v s' t' hAC hCR h0 hAg hop hi1 hi2 hd2 hfn ux um
        have hX : f_Rd_readBody_56 (nX + 1) (nI f) (nI sb) (nI (n + 1)) s' = f_Rd_readBody_87 (nI f) (nI sb) 0 s' := by
          rw [f_Rd_readBody_56, hAC.1.1, h0, if_pos rfl, if_pos (show (0 : Int32) ≤ 0 by decide), ite_self, x87]
        dsimp only
        rw [hX, f_M_readBody_17, if_pos rfl, f_M_readBody_266]
        simp only [lt1, hCR.m14, nI_pred, nI_clamp (show f < 2 ^ 31 by omega), gi_n hf (show 8 < 2 ^ 31 by decide)]
        refine ⟨s', _, rfl, rfl, Or.inl ⟨v, C + 1, nP, pl + 1, by omega, ⟨?_, hAC.2.1, ?_⟩, ?_⟩⟩
        · have := hAC.1
          exact (by repeat first | assumption | refine At.sx (by decide) (by decide) ?_ | refine At.ti (by decide) (by decide) ?_ | refine At.tz (by decide) (by decide) (by decide) ?_ | refine At.tl ?_)
        · have := hAC.2.2
          exact (by repeat first | assumption | refine FM.pa (by decide) (by decide) ?_ | refine FM.p0 (by decide) ?_ | refine FM.la ?_)
        · refine ⟨by omega, hCR.cg (Nat.le_refl _) rfl rfl rfl rfl (by simp (disch := first | decide | omega) only [stp_eq, stp_ne, stp_nj, stI1, stI2, stL1, stL_eq, stL_ne, stL_nj, gi_n, nI_clamp ]) (by simp (disch := first | decide | omega) only [stp_eq, stp_ne, stp_nj, stI1, stI2, stL1, stL_eq, stL_ne, stL_nj, gi_n, nI_clamp ]) (by simp (disch := first | decide | omega) only [stp_eq, stp_ne, stp_nj, stI1, stI2, stL1, stL_eq, stL_ne, stL_nj, gi_n, nI_clamp ]) (by simp (disch := first | decide | omega) only [stp_eq, stp_ne, stp_nj, stI1, stI2, stL1, stL_eq, stL_ne, stL_nj, gi_n, nI_clamp ]) (by simp (disch := first | decide | omega) only [stp_eq, stp_ne, stp_nj, stI1, stI2, stL1, stL_eq, stL_ne, stL_nj, gi_n, nI_clamp ]) (by simp (disch := first | decide | omega) only [stp_eq, stp_ne, stp_nj, stI1, stI2, stL1, stL_eq, stL_ne, stL_nj, gi_n, nI_clamp ]) (by simp (disch := first | decide | omega) only [stp_eq, stp_ne, stp_nj, stI1, stI2, stL1, stL_eq, stL_ne, stL_nj, gi_n, nI_clamp ]) (by simp (disch := first | decide | omega) only [stp_eq, stp_ne, stp_nj, stI1, stI2, stL1, stL_eq, stL_ne, stL_nj, gi_n, nI_clamp ]) (by simp (disch := first | decide | omega) only [stp_eq, stp_ne, stp_nj, stI1, stI2, stL1, stL_eq, stL_ne, stL_nj, gi_n, nI_clamp ]), hAg, hop, hi1, hi2, hd2, fun k hk1 hk2 => ?_, hfn, ?_, fun j hj => ?_, ux, ?_⟩
          · have : k = C := by omega
            subst this
            exact hAg.fn k (Nat.le_refl _)
          · simp (disch := first | decide | omega) only [stp_eq, stp_ne, stp_nj, stI1, stI2, stL1, stL_eq, stL_ne, stL_nj, gi_n, nI_clamp ]; rfl
          · simp (disch := first | decide | omega) only [stp_eq, stp_ne, stp_nj, stI1, stI2, stL1, stL_eq, stL_ne, stL_nj, gi_n, nI_clamp ]; rw [um.1 23 (by decide)]
          · have := Um.up (C' := [14, 17, 18, 19, 23]) (L' := [15, 16, 25]) (D' := [14, 15]) um (by decide) (by decide) (by decide)
            (repeat first | assumption | exact Um.refl _ _ _ _ | refine Um.p0 (by decide) ?_ | refine Um.pa (by decide) (by decide) ?_ | refine Um.la (by decide) ?_)
    · -- no byte is left
      have hA := h.1
      rw [f_Rd_readInstruction, f_M_readBody_17, if_neg (show ¬ (1 : Int32) = 0 by decide), hA.2.1, if_pos rfl]
      simp only [f_Rd_readInstruction_17, f_Rd_readInstruction_111]
      simp only [lt1, bd_bd, bd_bd1, bd1_bd, bd1_bd1, bd_some, bd1_some, bd_ite, bd1_ite ]
      refine r_byte hA (fun b hb hp h1 => absurd hp hpb) (fun s' t' hf' => ?_)
      obtain ⟨e, B1, B2⟩ := hf'.B h.2.1 h.2.2
      rw [show f_Op_isKnown 0 = some 1 from kn_x 0 (by decide), show f_M_isKnown 0 = some 1 from kn_m 0 (by decide), bd1_some, bd1_some, if_neg (show ¬ (1 : Int32) = 0 by decide), mw_flt B2.ne, bd1_some, if_neg B1.ne, if_neg B2.nle]
      exact r_BB (kx_bd B1) (okg.some B2)
