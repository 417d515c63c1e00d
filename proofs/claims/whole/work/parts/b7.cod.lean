-- section 10
theorem At.bnd {s : St} {t : SM} {pl bn e : Nat} (h : At s t pl bn) (h1 : pl ≤ e) (h2 : e ≤ 240) : At (stp s 2 3 (nI e)) (stI t 0 4 (nI e)) pl e := by
  obtain ⟨a1, a2, a3, a4, a5, a6, a7, a8, a9⟩ := h
  refine ⟨by simp (disch := first | decide | omega) only [stp_eq, stp_ne, stp_nj, stI1, stI2, stL1, stL_eq, stL_ne, stL_nj, gi_n, nI_clamp , a1], by simp (disch := first | decide | omega) only [stp_eq, stp_ne, stp_nj, stI1, stI2, stL1, stL_eq, stL_ne, stL_nj, gi_n, nI_clamp , a2], by simp (disch := first | decide | omega) only [stp_eq, stp_ne, stp_nj, stI1, stI2, stL1, stL_eq, stL_ne, stL_nj, gi_n, nI_clamp , a3], by simp (disch := first | decide | omega) only [stp_eq, stp_ne, stp_nj, stI1, stI2, stL1, stL_eq, stL_ne, stL_nj, gi_n, nI_clamp , a4], by simp (disch := first | decide | omega) only [stp_eq, stp_ne, stp_nj, stI1, stI2, stL1, stL_eq, stL_ne, stL_nj, gi_n, nI_clamp ], by simp (disch := first | decide | omega) only [stp_eq, stp_ne, stp_nj, stI1, stI2, stL1, stL_eq, stL_ne, stL_nj, gi_n, nI_clamp ], h1, h2, ?_⟩
  simp (disch := first | decide | omega) only [stp_eq, stp_ne, stp_nj, stI1, stI2, stL1, stL_eq, stL_ne, stL_nj, gi_n, nI_clamp ]
  exact a9
def Fn1 (w : Cd) (C j : Nat) (s : St) (t : SM) (p e bg ls : Nat) : Prop :=
  (f_M_parameters t (nI j) = some (nI p)) ∧
  (p ≤ 4) ∧
  (p + e ≤ 12) ∧
  (s 13 (j * 4 + 1) = nI (p + e)) ∧
  (t.1 24 j = nI e) ∧
  (s 13 (j * 4 + 2) = nI bg) ∧
  (t.1 22 j = nI bg) ∧
  (s 13 (j * 4 + 3) = nI ls) ∧
  (t.1 23 j = nI ls) ∧
  (bg ≤ ls) ∧
  (ls < C) ∧
  (w.ins bg = 0) ∧
  (w.op ls = 11) ∧
  (w.ins ls = 0) ∧
  (∀ k, bg ≤ k → k ≤ ls → w.fn k = j) ∧
  (∀ k, k < C → w.fn k = j → bg ≤ k ∧ k ≤ ls)
theorem Fn1.pm {w : Cd} {C j : Nat} {s : St} {t : SM} {p e bg ls : Nat} (h : Fn1 w C j s t p e bg ls) : f_M_parameters t (nI j) = some (nI p) := h.1
theorem Fn1.p4 {w : Cd} {C j : Nat} {s : St} {t : SM} {p e bg ls : Nat} (h : Fn1 w C j s t p e bg ls) : p ≤ 4 := h.2.1
theorem Fn1.pe {w : Cd} {C j : Nat} {s : St} {t : SM} {p e bg ls : Nat} (h : Fn1 w C j s t p e bg ls) : p + e ≤ 12 := h.2.2.1
theorem Fn1.x1 {w : Cd} {C j : Nat} {s : St} {t : SM} {p e bg ls : Nat} (h : Fn1 w C j s t p e bg ls) : s 13 (j * 4 + 1) = nI (p + e) := h.2.2.2.1
theorem Fn1.m24 {w : Cd} {C j : Nat} {s : St} {t : SM} {p e bg ls : Nat} (h : Fn1 w C j s t p e bg ls) : t.1 24 j = nI e := h.2.2.2.2.1
theorem Fn1.x2 {w : Cd} {C j : Nat} {s : St} {t : SM} {p e bg ls : Nat} (h : Fn1 w C j s t p e bg ls) : s 13 (j * 4 + 2) = nI bg := h.2.2.2.2.2.1
theorem Fn1.m22 {w : Cd} {C j : Nat} {s : St} {t : SM} {p e bg ls : Nat} (h : Fn1 w C j s t p e bg ls) : t.1 22 j = nI bg := h.2.2.2.2.2.2.1
theorem Fn1.x3 {w : Cd} {C j : Nat} {s : St} {t : SM} {p e bg ls : Nat} (h : Fn1 w C j s t p e bg ls) : s 13 (j * 4 + 3) = nI ls := h.2.2.2.2.2.2.2.1
theorem Fn1.m23 {w : Cd} {C j : Nat} {s : St} {t : SM} {p e bg ls : Nat} (h : Fn1 w C j s t p e bg ls) : t.1 23 j = nI ls := h.2.2.2.2.2.2.2.2.1
theorem Fn1.bl {w : Cd} {C j : Nat} {s : St} {t : SM} {p e bg ls : Nat} (h : Fn1 w C j s t p e bg ls) : bg ≤ ls := h.2.2.2.2.2.2.2.2.2.1
theorem Fn1.lC {w : Cd} {C j : Nat} {s : St} {t : SM} {p e bg ls : Nat} (h : Fn1 w C j s t p e bg ls) : ls < C := h.2.2.2.2.2.2.2.2.2.2.1
theorem Fn1.ib {w : Cd} {C j : Nat} {s : St} {t : SM} {p e bg ls : Nat} (h : Fn1 w C j s t p e bg ls) : w.ins bg = 0 := h.2.2.2.2.2.2.2.2.2.2.2.1
theorem Fn1.ol {w : Cd} {C j : Nat} {s : St} {t : SM} {p e bg ls : Nat} (h : Fn1 w C j s t p e bg ls) : w.op ls = 11 := h.2.2.2.2.2.2.2.2.2.2.2.2.1
theorem Fn1.il {w : Cd} {C j : Nat} {s : St} {t : SM} {p e bg ls : Nat} (h : Fn1 w C j s t p e bg ls) : w.ins ls = 0 := h.2.2.2.2.2.2.2.2.2.2.2.2.2.1
theorem Fn1.fn {w : Cd} {C j : Nat} {s : St} {t : SM} {p e bg ls : Nat} (h : Fn1 w C j s t p e bg ls) : ∀ k, bg ≤ k → k ≤ ls → w.fn k = j := h.2.2.2.2.2.2.2.2.2.2.2.2.2.2.1
theorem Fn1.nf {w : Cd} {C j : Nat} {s : St} {t : SM} {p e bg ls : Nat} (h : Fn1 w C j s t p e bg ls) : ∀ k, k < C → w.fn k = j → bg ≤ k ∧ k ≤ ls := h.2.2.2.2.2.2.2.2.2.2.2.2.2.2.2
def Fns (w : Cd) (C n : Nat) (s : St) (t : SM) : Prop :=
  (∀ j, j < n → ∃ p e bg ls, Fn1 w C j s t p e bg ls) ∧
  (∀ k, k < C → w.fn k < n) ∧
  (w.fn C = n) ∧
  (w.ins C = 0) ∧
  (w.dp C = 0)
theorem Fns.all {w : Cd} {C n : Nat} {s : St} {t : SM} (h : Fns w C n s t) : ∀ j, j < n → ∃ p e bg ls, Fn1 w C j s t p e bg ls := h.1
theorem Fns.lt {w : Cd} {C n : Nat} {s : St} {t : SM} (h : Fns w C n s t) : ∀ k, k < C → w.fn k < n := h.2.1
theorem Fns.fC {w : Cd} {C n : Nat} {s : St} {t : SM} (h : Fns w C n s t) : w.fn C = n := h.2.2.1
theorem Fns.iC {w : Cd} {C n : Nat} {s : St} {t : SM} (h : Fns w C n s t) : w.ins C = 0 := h.2.2.2.1
theorem Fns.dC {w : Cd} {C n : Nat} {s : St} {t : SM} (h : Fns w C n s t) : w.dp C = 0 := h.2.2.2.2
theorem km_co {n : Nat} {x1 : Int64} {x3 x4 : Int32} {t0 t : SM} {e : Nat} (h : BM t0 e t) : okg some (f_M_readCode_33 (n + 1) x1 x3 x4 t) (BM t0 e) := by
  rw [f_M_readCode_33, if_neg h.ne, f_M_readCode_118]
  simp only [lt1, ite_self]
  exact okg.some (by (repeat first | assumption | refine BM.pa (by with_unfolding_all decide) (by with_unfolding_all decide) ?_ | refine BM.p0 (by with_unfolding_all decide) (by with_unfolding_all decide) ?_ | refine BM.la ?_))
theorem TyE.cg {s s' : St} {t t' : SM} {nT nF : Nat} (h : TyE s t nT nF) (h1 : s' 10 0 = s 10 0) (h2 : s' 11 = s 11) (h3 : s' 12 0 = s 12 0) (h4 : ∀ j, s' 13 (j * 4 + 0) = s 13 (j * 4 + 0)) (h5 : t'.1 0 6 = t.1 0 6) (h6 : t'.1 0 7 = t.1 0 7) (h7 : t'.1 2 = t.1 2) (h8 : t'.1 3 = t.1 3) (h9 : t'.2 4 = t.2 4) : TyE s' t' nT nF :=
  ⟨h1.trans h.x10, h5.trans h.m6, h.hT, by rw [h2, h7, h8]; exact h.ty, h3.trans h.x12, h6.trans h.m7, h.hF, fun j hj => by rw [h4 j, h9]; exact h.ft j hj⟩
def CodR (s0 : St) (t0 : SM) (nT nF pl bn : Nat) (s : St) (t : SM) (s' : St) (t' : SM) : Prop := ∃ pl' w' C' nP', pl ≤ pl' ∧ AC s0 t0 s' t' pl' bn ∧ CR w' C' nP' s' t' pl' ∧ Fns w' C' nF s' t' ∧ TyE s' t' nT nF ∧ s' 2 4 = nI nF ∧ t'.1 0 8 = nI nF ∧ Ux [13, 20, 21, 22, 23, 24, 25] [0, 3, 4] s s' ∧ Um [14, 17, 18, 19, 22, 23, 24] [15, 16, 25] [4, 8, 14, 15] t t'
theorem At.sl {s s' : St} {t t' : SM} {pl bn : Nat} (h : At s t pl bn) (h5 : s' 2 5 = s 2 5) (h2 : s' 2 2 = s 2 2) (h3 : s' 2 3 = s 2 3) (h6 : s' 26 = s 26) (g3 : t'.1 0 3 = t.1 0 3) (g4 : t'.1 0 4 = t.1 0 4) (g5 : t'.1 0 5 = t.1 0 5) (g1 : t'.1 1 = t.1 1) : At s' t' pl bn := by
  unfold At
  rw [h5, h2, h3, h6, g3, g4, g5, g1]
  exact h
theorem kx_87 {F kX : St → Option St} {s0 s : St} {e : Nat} {a b c : Int32} (hk : ∀ s, BX s0 e s → okg F (kX s) (BX s0 e)) (h : BX s0 e s) : okg F (bd1 (f_Rd_readBody_87 a b c s) kX) (BX s0 e) := by
  rw [f_Rd_readBody_87]
  simp only [f_Rd_readBody_127]
  simp only [lt1, bd_bd, bd_bd1, bd1_bd, bd1_bd1, bd_some, bd1_some, bd_ite, bd1_ite ]
  (repeat' first | (with_reducible first | exact okg.some (by (repeat first | assumption | refine BX.ta (by with_unfolding_all decide) (by with_unfolding_all decide) (by with_unfolding_all decide) ?_ | refine BX.pa (by with_unfolding_all decide) (by with_unfolding_all decide) (by with_unfolding_all decide) ?_ | refine BX.ra (by with_unfolding_all decide) (by with_unfolding_all decide) (by with_unfolding_all decide) ?_ | refine BX.p2 (by with_unfolding_all decide) (by with_unfolding_all decide) ?_)) | refine kx_byte (by (repeat first | assumption | refine BX.ta (by with_unfolding_all decide) (by with_unfolding_all decide) (by with_unfolding_all decide) ?_ | refine BX.pa (by with_unfolding_all decide) (by with_unfolding_all decide) (by with_unfolding_all decide) ?_ | refine BX.ra (by with_unfolding_all decide) (by with_unfolding_all decide) (by with_unfolding_all decide) ?_ | refine BX.p2 (by with_unfolding_all decide) (by with_unfolding_all decide) ?_)) ?_ | refine kx_ref (by (repeat first | assumption | refine BX.ta (by with_unfolding_all decide) (by with_unfolding_all decide) (by with_unfolding_all decide) ?_ | refine BX.pa (by with_unfolding_all decide) (by with_unfolding_all decide) (by with_unfolding_all decide) ?_ | refine BX.ra (by with_unfolding_all decide) (by with_unfolding_all decide) (by with_unfolding_all decide) ?_ | refine BX.p2 (by with_unfolding_all decide) (by with_unfolding_all decide) ?_)) ?_ | refine kx_exp (by (repeat first | assumption | refine BX.ta (by with_unfolding_all decide) (by with_unfolding_all decide) (by with_unfolding_all decide) ?_ | refine BX.pa (by with_unfolding_all decide) (by with_unfolding_all decide) (by with_unfolding_all decide) ?_ | refine BX.ra (by with_unfolding_all decide) (by with_unfolding_all decide) (by with_unfolding_all decide) ?_ | refine BX.p2 (by with_unfolding_all decide) (by with_unfolding_all decide) ?_)) ?_ | refine kx_uns (by (repeat first | assumption | refine BX.ta (by with_unfolding_all decide) (by with_unfolding_all decide) (by with_unfolding_all decide) ?_ | refine BX.pa (by with_unfolding_all decide) (by with_unfolding_all decide) (by with_unfolding_all decide) ?_ | refine BX.ra (by with_unfolding_all decide) (by with_unfolding_all decide) (by with_unfolding_all decide) ?_ | refine BX.p2 (by with_unfolding_all decide) (by with_unfolding_all decide) ?_)) (fun _ => ?_) | refine kx_sgn (by (repeat first | assumption | refine BX.ta (by with_unfolding_all decide) (by with_unfolding_all decide) (by with_unfolding_all decide) ?_ | refine BX.pa (by with_unfolding_all decide) (by with_unfolding_all decide) (by with_unfolding_all decide) ?_ | refine BX.ra (by with_unfolding_all decide) (by with_unfolding_all decide) (by with_unfolding_all decide) ?_ | refine BX.p2 (by with_unfolding_all decide) (by with_unfolding_all decide) ?_)) (fun _ => ?_) | refine kx_end (by (repeat first | assumption | refine BX.ta (by with_unfolding_all decide) (by with_unfolding_all decide) (by with_unfolding_all decide) ?_ | refine BX.pa (by with_unfolding_all decide) (by with_unfolding_all decide) (by with_unfolding_all decide) ?_ | refine BX.ra (by with_unfolding_all decide) (by with_unfolding_all decide) (by with_unfolding_all decide) ?_ | refine BX.p2 (by with_unfolding_all decide) (by with_unfolding_all decide) ?_)) (fun _ => ?_) | refine kx_val (by (repeat first | assumption | refine BX.ta (by with_unfolding_all decide) (by with_unfolding_all decide) (by with_unfolding_all decide) ?_ | refine BX.pa (by with_unfolding_all decide) (by with_unfolding_all decide) (by with_unfolding_all decide) ?_ | refine BX.ra (by with_unfolding_all decide) (by with_unfolding_all decide) (by with_unfolding_all decide) ?_ | refine BX.p2 (by with_unfolding_all decide) (by with_unfolding_all decide) ?_)) ?_ | refine kx_one (by (repeat first | assumption | refine BX.ta (by with_unfolding_all decide) (by with_unfolding_all decide) (by with_unfolding_all decide) ?_ | refine BX.pa (by with_unfolding_all decide) (by with_unfolding_all decide) (by with_unfolding_all decide) ?_ | refine BX.ra (by with_unfolding_all decide) (by with_unfolding_all decide) (by with_unfolding_all decide) ?_ | refine BX.p2 (by with_unfolding_all decide) (by with_unfolding_all decide) ?_)) (fun _ => ?_) | refine kx_con (by (repeat first | assumption | refine BX.ta (by with_unfolding_all decide) (by with_unfolding_all decide) (by with_unfolding_all decide) ?_ | refine BX.pa (by with_unfolding_all decide) (by with_unfolding_all decide) (by with_unfolding_all decide) ?_ | refine BX.ra (by with_unfolding_all decide) (by with_unfolding_all decide) (by with_unfolding_all decide) ?_ | refine BX.p2 (by with_unfolding_all decide) (by with_unfolding_all decide) ?_)) (fun _ => ?_) | refine kx_vts (by (repeat first | assumption | refine BX.ta (by with_unfolding_all decide) (by with_unfolding_all decide) (by with_unfolding_all decide) ?_ | refine BX.pa (by with_unfolding_all decide) (by with_unfolding_all decide) (by with_unfolding_all decide) ?_ | refine BX.ra (by with_unfolding_all decide) (by with_unfolding_all decide) (by with_unfolding_all decide) ?_ | refine BX.p2 (by with_unfolding_all decide) (by with_unfolding_all decide) ?_)) (fun _ => ?_) | refine kx_abv (fun _ => ?_) | simp only [lt1]) | with_reducible exact hk _ (by (repeat first | assumption | refine BX.ta (by with_unfolding_all decide) (by with_unfolding_all decide) (by with_unfolding_all decide) ?_ | refine BX.pa (by with_unfolding_all decide) (by with_unfolding_all decide) (by with_unfolding_all decide) ?_ | refine BX.ra (by with_unfolding_all decide) (by with_unfolding_all decide) (by with_unfolding_all decide) ?_ | refine BX.p2 (by with_unfolding_all decide) (by with_unfolding_all decide) ?_)) | (with_reducible split))
theorem kx_56 {F kX : St → Option St} {s0 s : St} {e n : Nat} {a b c : Int32} (hk : ∀ s, BX s0 e s → okg F (kX s) (BX s0 e)) (h : BX s0 e s) : okg F (bd1 (f_Rd_readBody_56 (n + 1) a b c s) kX) (BX s0 e) := by
  obtain ⟨x, hx, hB⟩ := kx_bd (n := n) (a := a) (b := b) (c := c) h
  rw [hx]
  exact kx_87 hk hB
theorem km_100 {k33 : Int64 → Int32 → Int32 → SM → Option SM} {x1 : Int64} {x3 x4 x5 y : Int32} {t0 t : SM} {e : Nat} (hk : ∀ x t, BM t0 e t → okg some (k33 x1 x3 x t) (BM t0 e)) (h : BM t0 e t) : okg some (f_M_readCode_100 k33 x1 x3 x4 x5 y t) (BM t0 e) := by
  rw [f_M_readCode_100]
  simp only [lt1, bd_bd, bd_bd1, bd1_bd, bd1_bd1, bd_some, bd1_some, bd_ite, bd1_ite ]
  (repeat' first | (with_reducible first | exact okg.some (by (repeat first | assumption | refine BM.pa (by with_unfolding_all decide) (by with_unfolding_all decide) ?_ | refine BM.p0 (by with_unfolding_all decide) (by with_unfolding_all decide) ?_ | refine BM.la ?_)) | refine km_next (by (repeat first | assumption | refine BM.pa (by with_unfolding_all decide) (by with_unfolding_all decide) ?_ | refine BM.p0 (by with_unfolding_all decide) (by with_unfolding_all decide) ?_ | refine BM.la ?_)) ?_ | refine km_will (by (repeat first | assumption | refine BM.pa (by with_unfolding_all decide) (by with_unfolding_all decide) ?_ | refine BM.p0 (by with_unfolding_all decide) (by with_unfolding_all decide) ?_ | refine BM.la ?_)) ?_ | refine km_exp (by (repeat first | assumption | refine BM.pa (by with_unfolding_all decide) (by with_unfolding_all decide) ?_ | refine BM.p0 (by with_unfolding_all decide) (by with_unfolding_all decide) ?_ | refine BM.la ?_)) ?_ | refine km_uns (by (repeat first | assumption | refine BM.pa (by with_unfolding_all decide) (by with_unfolding_all decide) ?_ | refine BM.p0 (by with_unfolding_all decide) (by with_unfolding_all decide) ?_ | refine BM.la ?_)) ?_ | refine km_sgn (by (repeat first | assumption | refine BM.pa (by with_unfolding_all decide) (by with_unfolding_all decide) ?_ | refine BM.p0 (by with_unfolding_all decide) (by with_unfolding_all decide) ?_ | refine BM.la ?_)) (fun _ => ?_) | refine km_ahd (by (repeat first | assumption | refine BM.pa (by with_unfolding_all decide) (by with_unfolding_all decide) ?_ | refine BM.p0 (by with_unfolding_all decide) (by with_unfolding_all decide) ?_ | refine BM.la ?_)) (fun _ => ?_) | refine km_val (by (repeat first | assumption | refine BM.pa (by with_unfolding_all decide) (by with_unfolding_all decide) ?_ | refine BM.p0 (by with_unfolding_all decide) (by with_unfolding_all decide) ?_ | refine BM.la ?_)) ?_ | refine km_one (by (repeat first | assumption | refine BM.pa (by with_unfolding_all decide) (by with_unfolding_all decide) ?_ | refine BM.p0 (by with_unfolding_all decide) (by with_unfolding_all decide) ?_ | refine BM.la ?_)) ?_ | refine km_con (by (repeat first | assumption | refine BM.pa (by with_unfolding_all decide) (by with_unfolding_all decide) ?_ | refine BM.p0 (by with_unfolding_all decide) (by with_unfolding_all decide) ?_ | refine BM.la ?_)) (fun _ => ?_) | refine km_cnt (by (repeat first | assumption | refine BM.pa (by with_unfolding_all decide) (by with_unfolding_all decide) ?_ | refine BM.p0 (by with_unfolding_all decide) (by with_unfolding_all decide) ?_ | refine BM.la ?_)) ?_ | simp only [lt1]) | with_reducible exact hk _ _ (by (repeat first | assumption | refine BM.pa (by with_unfolding_all decide) (by with_unfolding_all decide) ?_ | refine BM.p0 (by with_unfolding_all decide) (by with_unfolding_all decide) ?_ | refine BM.la ?_)) | (with_reducible split))
theorem kx_rl {s0 s : St} {e : Nat} {x : Int32} (h : BX s0 e s) : okg some (f_Rd_readLocals x s) (BX s0 e) := by
  have hp : ∃ r, f_Cont_parametersOf s x = some r := by
    rw [f_Cont_parametersOf]
    simp only [lt1, f_Cont_parametersOf_34]
    split
    · exact ⟨_, rfl⟩
    · exact ⟨_, rfl⟩
  obtain ⟨r, hr⟩ := hp
  obtain ⟨fu', hfu, hfu2⟩ := FU_s
  rw [f_Rd_readLocals, hr, bd1_some]
  simp only [f_Rd_readLocals_31, hfu]
  (repeat' first | (with_reducible first | exact okg.some (by (repeat first | assumption | refine BX.ta (by with_unfolding_all decide) (by with_unfolding_all decide) (by with_unfolding_all decide) ?_ | refine BX.pa (by with_unfolding_all decide) (by with_unfolding_all decide) (by with_unfolding_all decide) ?_ | refine BX.ra (by with_unfolding_all decide) (by with_unfolding_all decide) (by with_unfolding_all decide) ?_ | refine BX.p2 (by with_unfolding_all decide) (by with_unfolding_all decide) ?_)) | refine kx_byte (by (repeat first | assumption | refine BX.ta (by with_unfolding_all decide) (by with_unfolding_all decide) (by with_unfolding_all decide) ?_ | refine BX.pa (by with_unfolding_all decide) (by with_unfolding_all decide) (by with_unfolding_all decide) ?_ | refine BX.ra (by with_unfolding_all decide) (by with_unfolding_all decide) (by with_unfolding_all decide) ?_ | refine BX.p2 (by with_unfolding_all decide) (by with_unfolding_all decide) ?_)) ?_ | refine kx_ref (by (repeat first | assumption | refine BX.ta (by with_unfolding_all decide) (by with_unfolding_all decide) (by with_unfolding_all decide) ?_ | refine BX.pa (by with_unfolding_all decide) (by with_unfolding_all decide) (by with_unfolding_all decide) ?_ | refine BX.ra (by with_unfolding_all decide) (by with_unfolding_all decide) (by with_unfolding_all decide) ?_ | refine BX.p2 (by with_unfolding_all decide) (by with_unfolding_all decide) ?_)) ?_ | refine kx_exp (by (repeat first | assumption | refine BX.ta (by with_unfolding_all decide) (by with_unfolding_all decide) (by with_unfolding_all decide) ?_ | refine BX.pa (by with_unfolding_all decide) (by with_unfolding_all decide) (by with_unfolding_all decide) ?_ | refine BX.ra (by with_unfolding_all decide) (by with_unfolding_all decide) (by with_unfolding_all decide) ?_ | refine BX.p2 (by with_unfolding_all decide) (by with_unfolding_all decide) ?_)) ?_ | refine kx_uns (by (repeat first | assumption | refine BX.ta (by with_unfolding_all decide) (by with_unfolding_all decide) (by with_unfolding_all decide) ?_ | refine BX.pa (by with_unfolding_all decide) (by with_unfolding_all decide) (by with_unfolding_all decide) ?_ | refine BX.ra (by with_unfolding_all decide) (by with_unfolding_all decide) (by with_unfolding_all decide) ?_ | refine BX.p2 (by with_unfolding_all decide) (by with_unfolding_all decide) ?_)) (fun _ => ?_) | refine kx_sgn (by (repeat first | assumption | refine BX.ta (by with_unfolding_all decide) (by with_unfolding_all decide) (by with_unfolding_all decide) ?_ | refine BX.pa (by with_unfolding_all decide) (by with_unfolding_all decide) (by with_unfolding_all decide) ?_ | refine BX.ra (by with_unfolding_all decide) (by with_unfolding_all decide) (by with_unfolding_all decide) ?_ | refine BX.p2 (by with_unfolding_all decide) (by with_unfolding_all decide) ?_)) (fun _ => ?_) | refine kx_end (by (repeat first | assumption | refine BX.ta (by with_unfolding_all decide) (by with_unfolding_all decide) (by with_unfolding_all decide) ?_ | refine BX.pa (by with_unfolding_all decide) (by with_unfolding_all decide) (by with_unfolding_all decide) ?_ | refine BX.ra (by with_unfolding_all decide) (by with_unfolding_all decide) (by with_unfolding_all decide) ?_ | refine BX.p2 (by with_unfolding_all decide) (by with_unfolding_all decide) ?_)) (fun _ => ?_) | refine kx_val (by (repeat first | assumption | refine BX.ta (by with_unfolding_all decide) (by with_unfolding_all decide) (by with_unfolding_all decide) ?_ | refine BX.pa (by with_unfolding_all decide) (by with_unfolding_all decide) (by with_unfolding_all decide) ?_ | refine BX.ra (by with_unfolding_all decide) (by with_unfolding_all decide) (by with_unfolding_all decide) ?_ | refine BX.p2 (by with_unfolding_all decide) (by with_unfolding_all decide) ?_)) ?_ | refine kx_one (by (repeat first | assumption | refine BX.ta (by with_unfolding_all decide) (by with_unfolding_all decide) (by with_unfolding_all decide) ?_ | refine BX.pa (by with_unfolding_all decide) (by with_unfolding_all decide) (by with_unfolding_all decide) ?_ | refine BX.ra (by with_unfolding_all decide) (by with_unfolding_all decide) (by with_unfolding_all decide) ?_ | refine BX.p2 (by with_unfolding_all decide) (by with_unfolding_all decide) ?_)) (fun _ => ?_) | refine kx_con (by (repeat first | assumption | refine BX.ta (by with_unfolding_all decide) (by with_unfolding_all decide) (by with_unfolding_all decide) ?_ | refine BX.pa (by with_unfolding_all decide) (by with_unfolding_all decide) (by with_unfolding_all decide) ?_ | refine BX.ra (by with_unfolding_all decide) (by with_unfolding_all decide) (by with_unfolding_all decide) ?_ | refine BX.p2 (by with_unfolding_all decide) (by with_unfolding_all decide) ?_)) (fun _ => ?_) | refine kx_vts (by (repeat first | assumption | refine BX.ta (by with_unfolding_all decide) (by with_unfolding_all decide) (by with_unfolding_all decide) ?_ | refine BX.pa (by with_unfolding_all decide) (by with_unfolding_all decide) (by with_unfolding_all decide) ?_ | refine BX.ra (by with_unfolding_all decide) (by with_unfolding_all decide) (by with_unfolding_all decide) ?_ | refine BX.p2 (by with_unfolding_all decide) (by with_unfolding_all decide) ?_)) (fun _ => ?_) | refine kx_abv (fun _ => ?_) | simp only [lt1]) | with_reducible exact kx_lo (by (repeat first | assumption | refine BX.ta (by with_unfolding_all decide) (by with_unfolding_all decide) (by with_unfolding_all decide) ?_ | refine BX.pa (by with_unfolding_all decide) (by with_unfolding_all decide) (by with_unfolding_all decide) ?_ | refine BX.ra (by with_unfolding_all decide) (by with_unfolding_all decide) (by with_unfolding_all decide) ?_ | refine BX.p2 (by with_unfolding_all decide) (by with_unfolding_all decide) ?_)) | (with_reducible split))
theorem codes2 {s0 : St} {t0 : SM} {nT nF bn : Nat} : ∀ d k nX nM w C nP s t pl, k + d = nF → d < nX → d < nM → AC s0 t0 s (stI t 0 4 (nI bn)) pl bn → CR w C nP s t pl → Fns w C k s t → TyE s t nT nF → s 2 4 = nI k → t.1 0 8 = nI k →
    o2 (f_Rd_readSection_202 10 (nI nF) 0) some (f_Rd_readSection_56 nX 10 (nI nF) (nI k) s) (f_M_readCode_33 nM (lN nF) (nI bn) (nI k) t) (RB s0 t0 (CodR s0 t0 nT nF pl bn s t)) := by
  intro d
  induction d with
  | zero =>
    intro k nX nM w C nP s t pl hk hX hM h hR hF hT h4 h8
    have hF8 := hT.hF
    have : k = nF := by omega
    subst this
    obtain ⟨nX, rfl⟩ : ∃ n, nX = n + 1 := ⟨nX - 1, by omega⟩
    obtain ⟨nM, rfl⟩ : ∃ n, nM = n + 1 := ⟨nM - 1, by omega⟩
    rw [f_Rd_readSection_56, f_M_readCode_33, if_pos (nI_le (Nat.le_refl k) (by omega)), ite_self, f_M_readCode_118, nI_l (by omega)]
    simp only [lt1]
    rw [if_pos ((lcmp_ge (by omega) (by omega)).mpr (Nat.le_refl _))]
    refine ⟨s, _, rfl, rfl, Or.inl ⟨pl, w, C, nP, Nat.le_refl _, h, ?_, ?_, ?_, h4, by simp (disch := first | decide | omega) only [stp_eq, stp_ne, stp_nj, stI1, stI2, stL1, stL_eq, stL_ne, stL_nj, gi_n, nI_clamp ]; exact h8, Ux.refl _ _ _, by (repeat first | assumption | exact Um.refl _ _ _ _ | refine Um.p0 (by decide) ?_ | refine Um.pa (by decide) (by decide) ?_ | refine Um.la (by decide) ?_)⟩⟩
    · exact hR.cg (Nat.le_refl _) rfl rfl rfl rfl (by simp (disch := first | decide | omega) only [stp_eq, stp_ne, stp_nj, stI1, stI2, stL1, stL_eq, stL_ne, stL_nj, gi_n, nI_clamp ]) (by simp (disch := first | decide | omega) only [stp_eq, stp_ne, stp_nj, stI1, stI2, stL1, stL_eq, stL_ne, stL_nj, gi_n, nI_clamp ]) (by simp (disch := first | decide | omega) only [stp_eq, stp_ne, stp_nj, stI1, stI2, stL1, stL_eq, stL_ne, stL_nj, gi_n, nI_clamp ]) (by simp (disch := first | decide | omega) only [stp_eq, stp_ne, stp_nj, stI1, stI2, stL1, stL_eq, stL_ne, stL_nj, gi_n, nI_clamp ]) (by simp (disch := first | decide | omega) only [stp_eq, stp_ne, stp_nj, stI1, stI2, stL1, stL_eq, stL_ne, stL_nj, gi_n, nI_clamp ]) (by simp (disch := first | decide | omega) only [stp_eq, stp_ne, stp_nj, stI1, stI2, stL1, stL_eq, stL_ne, stL_nj, gi_n, nI_clamp ]) (by simp (disch := first | decide | omega) only [stp_eq, stp_ne, stp_nj, stI1, stI2, stL1, stL_eq, stL_ne, stL_nj, gi_n, nI_clamp ]) (by simp (disch := first | decide | omega) only [stp_eq, stp_ne, stp_nj, stI1, stI2, stL1, stL_eq, stL_ne, stL_nj, gi_n, nI_clamp ]) (by simp (disch := first | decide | omega) only [stp_eq, stp_ne, stp_nj, stI1, stI2, stL1, stL_eq, stL_ne, stL_nj, gi_n, nI_clamp ])
    · refine ⟨fun j hj => ?_, hF.lt, hF.fC, hF.iC, hF.dC⟩
      obtain ⟨p, e, bg, ls, q⟩ := hF.all j hj
      exact ⟨p, e, bg, ls, ⟨by rw [← q.pm]; exact mpar_cg _ rfl (by simp (disch := first | decide | omega) only [stp_eq, stp_ne, stp_nj, stI1, stI2, stL1, stL_eq, stL_ne, stL_nj, gi_n, nI_clamp ]) (by simp (disch := first | decide | omega) only [stp_eq, stp_ne, stp_nj, stI1, stI2, stL1, stL_eq, stL_ne, stL_nj, gi_n, nI_clamp ]), q.p4, q.pe, q.x1, by simp (disch := first | decide | omega) only [stp_eq, stp_ne, stp_nj, stI1, stI2, stL1, stL_eq, stL_ne, stL_nj, gi_n, nI_clamp , q.m24], q.x2, by simp (disch := first | decide | omega) only [stp_eq, stp_ne, stp_nj, stI1, stI2, stL1, stL_eq, stL_ne, stL_nj, gi_n, nI_clamp , q.m22], q.x3, by simp (disch := first | decide | omega) only [stp_eq, stp_ne, stp_nj, stI1, stI2, stL1, stL_eq, stL_ne, stL_nj, gi_n, nI_clamp , q.m23], q.bl, q.lC, q.ib, q.ol, q.il, q.fn, q.nf⟩⟩
    · exact hT.cg rfl rfl rfl (fun _ => rfl) (by simp (disch := first | decide | omega) only [stp_eq, stp_ne, stp_nj, stI1, stI2, stL1, stL_eq, stL_ne, stL_nj, gi_n, nI_clamp ]) (by simp (disch := first | decide | omega) only [stp_eq, stp_ne, stp_nj, stI1, stI2, stL1, stL_eq, stL_ne, stL_nj, gi_n, nI_clamp ]) (by simp (disch := first | decide | omega) only [stp_eq, stp_ne, stp_nj, stI1, stI2, stL1, stL_eq, stL_ne, stL_nj, gi_n, nI_clamp ]) (by simp (disch := first | decide | omega) only [stp_eq, stp_ne, stp_nj, stI1, stI2, stL1, stL_eq, stL_ne, stL_nj, gi_n, nI_clamp ]) (by simp (disch := first | decide | omega) only [stp_eq, stp_ne, stp_nj, stI1, stI2, stL1, stL_eq, stL_ne, stL_nj, gi_n, nI_clamp ])
  | succ d ih =>
    intro k nX nM w C nP s t pl hk hX hM h hR hF hT h4 h8
    obtain ⟨nX, rfl⟩ : ∃ n, nX = n + 1 + 1 := ⟨nX - 2, by omega⟩
    obtain ⟨nM, rfl⟩ : ∃ n, nM = n + 1 + 1 := ⟨nM - 2, by omega⟩
    have hF8 := hT.hF
    have hk8 : k < 8 := by omega
    obtain ⟨hA, hx, hm⟩ := h
    have hbn := bd240 hA
    have t5 : t.1 0 5 = 0 := by have := hA.2.1; rw [stI1, stp_nj _ _ _ (by decide)] at this; exact this
    obtain ⟨fu', hfu, hfu2⟩ := FU_s
    have hX9 : ∀ e s, BX s0 e s → okg (f_Rd_readSection_202 10 (nI nF) 0) (f_Rd_readSection_56 (nX + 1) 10 (nI nF) (nI (k + 1)) s) (BX s0 e) := fun e s hB => kx_sec hB
    have hM9 : ∀ e x t, BM t0 e t → okg some (f_M_readCode_33 (nM + 1) (lN nF) (nI bn) x t) (BM t0 e) := fun e x t hB => km_co hB
    rw [f_Rd_readSection_56, f_M_readCode_33]
    simp (disch := omega) only [nI_leI, nI_ltI, nI_eq, if_pos, if_neg, if_true, if_false , lit_8, hA.1, t5]
    rw [if_neg (show ¬ (10 : Int32) = 1 by decide), if_neg (show ¬ (10 : Int32) = 3 by decide), if_neg (show ¬ (10 : Int32) = 5 by decide), if_neg (show ¬ (10 : Int32) = 6 by decide), if_neg (show ¬ (10 : Int32) = 7 by decide)]
    simp only [f_Rd_readSection_196, f_Rd_readBody, nI_l (show k < 2 ^ 31 by omega)]
    simp only [lt1, bd_bd, bd_bd1, bd1_bd, bd1_bd1, bd_some, bd1_some, bd_ite, bd1_ite , if_true, nI_1, hA.2.2.2.2.1]
    rw [if_neg (fun q => absurd ((lcmp_ge (by omega) (by omega)).mp q) (by omega))]
    generalize hkX : f_Rd_readSection_56 (nX + 1) 10 (nI nF) (nI (k + 1)) = kX at hX9 ⊢
    generalize hkM : f_M_readCode_33 (nM + 1) = k33 at hM9 ⊢
    have hmx : ∀ (q : Int32) e t', BM t0 e t' → okg some (bd1 (f_M_readBody (nI k) t') fun s8 => if s8.1 0 3 = q then f_M_readCode_100 k33 (lN nF) (nI bn) (nI k) q 1 s8 else f_M_readCode_100 k33 (lN nF) (nI bn) (nI k) q 0 s8) (BM t0 e) := by
      intro q e t' hB
      rw [f_M_readBody, gi_n hk8 (by decide), lt1, hfu]
      refine okg.b1 (km_bd hk8 (by (repeat first | assumption | refine BM.pa (by with_unfolding_all decide) (by with_unfolding_all decide) ?_ | refine BM.p0 (by with_unfolding_all decide) (by with_unfolding_all decide) ?_ | refine BM.la ?_))) (fun t2 hB2 => ?_)
      split
      · exact km_100 (hM9 e) hB2
      · exact km_100 (hM9 e) hB2
    have hxx : ∀ e s' x y z, BX s0 e s' → okg (f_Rd_readSection_202 10 (nI nF) 0) (bd1 (f_Rd_readBody_56 FU x y z s') kX) (BX s0 e) := by
      intro e s' x y z hB
      rw [hfu]
      exact kx_56 (hX9 e) hB
    have hpm0 : ∀ T : SM, T.2 4 = t.2 4 → T.1 0 6 = t.1 0 6 → T.1 2 = t.1 2 → f_M_parameters T (nI k) = f_M_parameters t (nI k) := fun T q1 q2 q3 => mpar_cg _ q1 q2 q3
    obtain ⟨pp, hpp4, hppx, hppm⟩ := parm2 hT (show k < nF by omega)
    refine r_end hA (fun p e hp1 hp2 hp3 h1 => ?_) (fun r r' s' t' hf => ?_)
    · rw [if_pos (by rw [h1.2.1]; decide)]
      have h2 := h1.bnd hp2 (by omega)
      refine RB.b1 (locs2 (s0 := s0) (t0 := t0) (bn := e) (pl := p) (p := pp) hk8 hpp4 ⟨h2, (by repeat first | assumption | refine FX.pa (by decide) (by decide) (by decide) ?_ | refine FX.p2 (by decide) ?_), (by repeat first | assumption | refine FM.pa (by decide) (by decide) ?_ | refine FM.p0 (by decide) ?_ | refine FM.la ?_)⟩ (by rw [← hppx]; exact xpar_cg hk8 (by simp (disch := first | decide | omega) only [stp_eq, stp_ne, stp_nj, stI1, stI2, stL1, stL_eq, stL_ne, stL_nj, gi_n, nI_clamp ]) (by simp (disch := first | decide | omega) only [stp_eq, stp_ne, stp_nj, stI1, stI2, stL1, stL_eq, stL_ne, stL_nj, gi_n, nI_clamp ]) (by simp (disch := first | decide | omega) only [stp_eq, stp_ne, stp_nj, stI1, stI2, stL1, stL_eq, stL_ne, stL_nj, gi_n, nI_clamp ])) (by rw [← hppm]; exact hpm0 _ rfl (by simp (disch := first | decide | omega) only [stp_eq, stp_ne, stp_nj, stI1, stI2, stL1, stL_eq, stL_ne, stL_nj, gi_n, nI_clamp ]) (by simp (disch := first | decide | omega) only [stp_eq, stp_ne, stp_nj, stI1, stI2, stL1, stL_eq, stL_ne, stL_nj, gi_n, nI_clamp ]))) ?_ ?_ (fun e' t' hB => hmx _ e' t' hB)
      · rintro s1 t1 ⟨p1, ee, g1, g2, g3, g4, g5⟩
        have hs13 : s1 20 0 = nI C := by rw [g4]; simp (disch := first | decide | omega) only [stp_eq, stp_ne, stp_nj, stI1, stI2, stL1, stL_eq, stL_ne, stL_nj, gi_n, nI_clamp , hR.x20]
        have ht14 : t1.1 0 14 = nI C := by rw [g5]; simp (disch := first | decide | omega) only [stp_eq, stp_ne, stp_nj, stI1, stI2, stL1, stL_eq, stL_ne, stL_nj, gi_n, nI_clamp , hR.m14]
        rw [f_M_readBody, gi_n hk8 (by decide), nI_clamp (by omega)]
        simp only [lt1, hs13, ht14]
        rw [ts_8_4_2 hk8, show rSet (stp s1 13 (k * 4 + 2) (nI C)) 25 11 0 (-1) = stp (stp s1 13 (k * 4 + 2) (nI C)) 25 0 (-1) from rSet_n (i := 0) (by decide) (by decide)]
        obtain ⟨S3, hS3⟩ : ∃ S3, S3 = stp (stp (stp s1 13 (k * 4 + 2) (nI C)) 25 0 (-1)) 2 0 1 := ⟨_, rfl⟩
        obtain ⟨T3, hT3⟩ : ∃ T3, T3 = stI t1 22 k (nI C) := ⟨_, rfl⟩
        rw [← hS3, ← hT3]
        have h3 : At S3 T3 p1 e := by
          have := h2.step g2
          rw [hS3, hT3, g4, g5]
          exact At.sl this (by simp (disch := first | decide | omega) only [stp_eq, stp_ne, stp_nj, stI1, stI2, stL1, stL_eq, stL_ne, stL_nj, gi_n, nI_clamp ]) (by simp (disch := first | decide | omega) only [stp_eq, stp_ne, stp_nj, stI1, stI2, stL1, stL_eq, stL_ne, stL_nj, gi_n, nI_clamp ]) (by simp (disch := first | decide | omega) only [stp_eq, stp_ne, stp_nj, stI1, stI2, stL1, stL_eq, stL_ne, stL_nj, gi_n, nI_clamp ]) (by simp (disch := first | decide | omega) only [stp_eq, stp_ne, stp_nj, stI1, stI2, stL1, stL_eq, stL_ne, stL_nj, gi_n, nI_clamp ]) (by simp (disch := first | decide | omega) only [stp_eq, stp_ne, stp_nj, stI1, stI2, stL1, stL_eq, stL_ne, stL_nj, gi_n, nI_clamp ]) (by simp (disch := first | decide | omega) only [stp_eq, stp_ne, stp_nj, stI1, stI2, stL1, stL_eq, stL_ne, stL_nj, gi_n, nI_clamp ]) (by simp (disch := first | decide | omega) only [stp_eq, stp_ne, stp_nj, stI1, stI2, stL1, stL_eq, stL_ne, stL_nj, gi_n, nI_clamp ]) (by simp (disch := first | decide | omega) only [stp_eq, stp_ne, stp_nj, stI1, stI2, stL1, stL_eq, stL_ne, stL_nj, gi_n, nI_clamp ])
        have hx3 : FX s0 S3 := by rw [hS3, g4]; exact (by repeat first | assumption | refine FX.pa (by decide) (by decide) (by decide) ?_ | refine FX.p2 (by decide) ?_)
        have hm3 : FM t0 T3 := by rw [hT3, g5]; exact (by repeat first | assumption | refine FM.pa (by decide) (by decide) ?_ | refine FM.p0 (by decide) ?_ | refine FM.la ?_)
        have hR3 : CR w C nP S3 T3 p1 := by
          rw [hS3, hT3, g4, g5]
          exact hR.cg (by omega) (by simp (disch := first | decide | omega) only [stp_eq, stp_ne, stp_nj, stI1, stI2, stL1, stL_eq, stL_ne, stL_nj, gi_n, nI_clamp ]) (by simp (disch := first | decide | omega) only [stp_eq, stp_ne, stp_nj, stI1, stI2, stL1, stL_eq, stL_ne, stL_nj, gi_n, nI_clamp ]) (by simp (disch := first | decide | omega) only [stp_eq, stp_ne, stp_nj, stI1, stI2, stL1, stL_eq, stL_ne, stL_nj, gi_n, nI_clamp ]) (by simp (disch := first | decide | omega) only [stp_eq, stp_ne, stp_nj, stI1, stI2, stL1, stL_eq, stL_ne, stL_nj, gi_n, nI_clamp ]) (by simp (disch := first | decide | omega) only [stp_eq, stp_ne, stp_nj, stI1, stI2, stL1, stL_eq, stL_ne, stL_nj, gi_n, nI_clamp ]) (by simp (disch := first | decide | omega) only [stp_eq, stp_ne, stp_nj, stI1, stI2, stL1, stL_eq, stL_ne, stL_nj, gi_n, nI_clamp ]) (by simp (disch := first | decide | omega) only [stp_eq, stp_ne, stp_nj, stI1, stI2, stL1, stL_eq, stL_ne, stL_nj, gi_n, nI_clamp ]) (by simp (disch := first | decide | omega) only [stp_eq, stp_ne, stp_nj, stI1, stI2, stL1, stL_eq, stL_ne, stL_nj, gi_n, nI_clamp ]) (by simp (disch := first | decide | omega) only [stp_eq, stp_ne, stp_nj, stI1, stI2, stL1, stL_eq, stL_ne, stL_nj, gi_n, nI_clamp ]) (by simp (disch := first | decide | omega) only [stp_eq, stp_ne, stp_nj, stI1, stI2, stL1, stL_eq, stL_ne, stL_nj, gi_n, nI_clamp ]) (by simp (disch := first | decide | omega) only [stp_eq, stp_ne, stp_nj, stI1, stI2, stL1, stL_eq, stL_ne, stL_nj, gi_n, nI_clamp ]) (by simp (disch := first | decide | omega) only [stp_eq, stp_ne, stp_nj, stI1, stI2, stL1, stL_eq, stL_ne, stL_nj, gi_n, nI_clamp ]) (by simp (disch := first | decide | omega) only [stp_eq, stp_ne, stp_nj, stI1, stI2, stL1, stL_eq, stL_ne, stL_nj, gi_n, nI_clamp ])
        have hO3 : RO w C S3 := by
          refine ⟨by rw [hF.dC, hS3]; simp (disch := first | decide | omega) only [stp_eq, stp_ne, stp_nj, stI1, stI2, stL1, stL_eq, stL_ne, stL_nj, gi_n, nI_clamp ]; rfl, fun j hj => ?_⟩
          rw [hF.dC] at hj ⊢
          rw [hF.iC, ups_0, hS3]
          have : j = 0 := by omega
          subst this
          simp (disch := first | decide | omega) only [stp_eq, stp_ne, stp_nj, stI1, stI2, stL1, stL_eq, stL_ne, stL_nj, gi_n, nI_clamp ]
          exact neg1
        have hb3 := body2 (s0 := s0) (t0 := t0) (bn := e) (f := k) (sb := bn) hk8 241 0 FU FU w C nP S3 T3 p1 (by omega) (by omega) (by omega) (by omega) ⟨h3, hx3, hm3⟩ hR3 hO3
        rw [hF.iC, hF.dC, ← neg1] at hb3
        obtain ⟨s2, t2, e1, e2, e3⟩ := hb3
        have e1' : f_Rd_readBody_56 FU (nI k) (nI bn) 0 S3 = f_Rd_readBody_87 (nI k) (nI bn) 0 s2 := e1
        have e2' : f_M_readBody_17 FU (nI k) (-1) 0 1 T3 = some t2 := e2
        rw [e1', e2', bd1_some]
        rcases e3 with ⟨v, C', nP', p2, k1, k2, D⟩ | ⟨e', B1, B2⟩
        · have hC' := D.hC
          obtain ⟨kA, kx, km⟩ := k2
          have hb2 := bd240 kA
          have c2 := D.cr.x20
          have hCb : C' ≤ 240 := by have := cs_ge v C'; have := D.cr.c1; omega
          rw [f_Rd_readBody_87]
          simp only [f_Rd_readBody_127]
          simp only [lt1, bd_bd, bd_bd1, bd1_bd, bd1_bd1, bd_some, bd1_some, bd_ite, bd1_ite ]
          obtain ⟨c', rfl⟩ : ∃ c', C' = c' + 1 := ⟨C' - 1, by omega⟩
          rw [c2, nI_pred, ts_8_4_3 hk8]
          simp (disch := first | decide | omega) only [stp_eq, stp_ne, stp_nj, stI1, stI2, stL1, stL_eq, stL_ne, stL_nj, gi_n, nI_clamp , kA.2.2.1, kA.2.2.2.1, kA.2.2.2.2.1]
          have s24 : s2 2 4 = nI k := by rw [D.ux.2 4 (by decide), hS3, g4]; simp (disch := first | decide | omega) only [stp_eq, stp_ne, stp_nj, stI1, stI2, stL1, stL_eq, stL_ne, stL_nj, gi_n, nI_clamp , h4]
          by_cases hpe : p2 = e
          · subst hpe
            rw [if_pos rfl, if_pos rfl, f_M_readCode_100, mw_t (by decide), bd1_some]
            simp (disch := first | decide | omega) only [stp_eq, stp_ne, stp_nj, stI1, stI2, stL1, stL_eq, stL_ne, stL_nj, gi_n, nI_clamp , s24, nI_1]
            simp only [lt1, nI_1]
            rw [← hkX, ← hkM]
            have x13 : ∀ q, q ≠ k * 4 + 1 → q ≠ k * 4 + 2 → s2 13 q = s 13 q := by
              intro q q1 q2
              rw [D.ux.1 13 (by decide), hS3, g4]; simp (disch := first | decide | omega) only [stp_eq, stp_ne, stp_nj, stI1, stI2, stL1, stL_eq, stL_ne, stL_nj, gi_n, nI_clamp ]
            have t24 : ∀ j, j ≠ k → t2.1 24 j = t.1 24 j := by
              intro j hj
              rw [D.um.1 24 (by decide), hT3, g5]; simp (disch := first | decide | omega) only [stp_eq, stp_ne, stp_nj, stI1, stI2, stL1, stL_eq, stL_ne, stL_nj, gi_n, nI_clamp ]
            have t22 : ∀ j, j ≠ k → t2.1 22 j = t.1 22 j := by
              intro j hj
              rw [D.um.1 22 (by decide), hT3, g5]; simp (disch := first | decide | omega) only [stp_eq, stp_ne, stp_nj, stI1, stI2, stL1, stL_eq, stL_ne, stL_nj, gi_n, nI_clamp ]
            have t23 : ∀ j, j ≠ k → t2.1 23 j = t.1 23 j := by
              intro j hj
              rw [D.o23 j hj, hT3, g5]; simp (disch := first | decide | omega) only [stp_eq, stp_ne, stp_nj, stI1, stI2, stL1, stL_eq, stL_ne, stL_nj, gi_n, nI_clamp ]
            have tp : ∀ j, f_M_parameters t2 (nI j) = f_M_parameters t (nI j) := by
              intro j
              refine mpar_cg _ ?_ ?_ ?_
              · rw [D.um.2.1 4 (by decide), hT3, g5]; rfl
              · rw [D.um.2.2 6 (by decide), hT3, g5]; simp (disch := first | decide | omega) only [stp_eq, stp_ne, stp_nj, stI1, stI2, stL1, stL_eq, stL_ne, stL_nj, gi_n, nI_clamp ]
              · rw [D.um.1 2 (by decide), hT3, g5]; simp (disch := first | decide | omega) only [stp_eq, stp_ne, stp_nj, stI1, stI2, stL1, stL_eq, stL_ne, stL_nj, gi_n, nI_clamp ]
            refine (ih (k + 1) (nX + 1) (nM + 1) v (c' + 1) nP' _ _ p2 (by omega) (by omega) (by omega) ⟨?_, (by repeat first | assumption | refine FX.pa (by decide) (by decide) (by decide) ?_ | refine FX.p2 (by decide) ?_), (by repeat first | assumption | refine FM.pa (by decide) (by decide) ?_ | refine FM.p0 (by decide) ?_ | refine FM.la ?_)⟩ ?_ ?_ ?_ ?_ ?_).mono ?_
            · exact At.sl (kA.bnd (e := bn) (by omega) (by omega)) (by simp (disch := first | decide | omega) only [stp_eq, stp_ne, stp_nj, stI1, stI2, stL1, stL_eq, stL_ne, stL_nj, gi_n, nI_clamp ]) (by simp (disch := first | decide | omega) only [stp_eq, stp_ne, stp_nj, stI1, stI2, stL1, stL_eq, stL_ne, stL_nj, gi_n, nI_clamp ]) (by simp (disch := first | decide | omega) only [stp_eq, stp_ne, stp_nj, stI1, stI2, stL1, stL_eq, stL_ne, stL_nj, gi_n, nI_clamp ]) (by simp (disch := first | decide | omega) only [stp_eq, stp_ne, stp_nj, stI1, stI2, stL1, stL_eq, stL_ne, stL_nj, gi_n, nI_clamp ]) (by simp (disch := first | decide | omega) only [stp_eq, stp_ne, stp_nj, stI1, stI2, stL1, stL_eq, stL_ne, stL_nj, gi_n, nI_clamp ]) (by simp (disch := first | decide | omega) only [stp_eq, stp_ne, stp_nj, stI1, stI2, stL1, stL_eq, stL_ne, stL_nj, gi_n, nI_clamp ]) (by simp (disch := first | decide | omega) only [stp_eq, stp_ne, stp_nj, stI1, stI2, stL1, stL_eq, stL_ne, stL_nj, gi_n, nI_clamp ]) (by simp (disch := first | decide | omega) only [stp_eq, stp_ne, stp_nj, stI1, stI2, stL1, stL_eq, stL_ne, stL_nj, gi_n, nI_clamp ])
            · exact D.cr.cg (Nat.le_refl _) (by simp (disch := first | decide | omega) only [stp_eq, stp_ne, stp_nj, stI1, stI2, stL1, stL_eq, stL_ne, stL_nj, gi_n, nI_clamp ]) (by simp (disch := first | decide | omega) only [stp_eq, stp_ne, stp_nj, stI1, stI2, stL1, stL_eq, stL_ne, stL_nj, gi_n, nI_clamp ]) (by simp (disch := first | decide | omega) only [stp_eq, stp_ne, stp_nj, stI1, stI2, stL1, stL_eq, stL_ne, stL_nj, gi_n, nI_clamp ]) (by simp (disch := first | decide | omega) only [stp_eq, stp_ne, stp_nj, stI1, stI2, stL1, stL_eq, stL_ne, stL_nj, gi_n, nI_clamp ]) (by simp (disch := first | decide | omega) only [stp_eq, stp_ne, stp_nj, stI1, stI2, stL1, stL_eq, stL_ne, stL_nj, gi_n, nI_clamp ]) (by simp (disch := first | decide | omega) only [stp_eq, stp_ne, stp_nj, stI1, stI2, stL1, stL_eq, stL_ne, stL_nj, gi_n, nI_clamp ]) (by simp (disch := first | decide | omega) only [stp_eq, stp_ne, stp_nj, stI1, stI2, stL1, stL_eq, stL_ne, stL_nj, gi_n, nI_clamp ]) (by simp (disch := first | decide | omega) only [stp_eq, stp_ne, stp_nj, stI1, stI2, stL1, stL_eq, stL_ne, stL_nj, gi_n, nI_clamp ]) (by simp (disch := first | decide | omega) only [stp_eq, stp_ne, stp_nj, stI1, stI2, stL1, stL_eq, stL_ne, stL_nj, gi_n, nI_clamp ]) (by simp (disch := first | decide | omega) only [stp_eq, stp_ne, stp_nj, stI1, stI2, stL1, stL_eq, stL_ne, stL_nj, gi_n, nI_clamp ]) (by simp (disch := first | decide | omega) only [stp_eq, stp_ne, stp_nj, stI1, stI2, stL1, stL_eq, stL_ne, stL_nj, gi_n, nI_clamp ]) (by simp (disch := first | decide | omega) only [stp_eq, stp_ne, stp_nj, stI1, stI2, stL1, stL_eq, stL_ne, stL_nj, gi_n, nI_clamp ]) (by simp (disch := first | decide | omega) only [stp_eq, stp_ne, stp_nj, stI1, stI2, stL1, stL_eq, stL_ne, stL_nj, gi_n, nI_clamp ])
            · refine ⟨fun j hj => ?_, fun q hq => ?_, by rw [D.f2, hF.fC], D.i2, D.d2⟩
              · by_cases hjk : j = k
                · subst hjk
                  have x1 : s2 13 (j * 4 + 1) = nI (pp + ee) := by rw [D.ux.1 13 (by decide), hS3, g4]; simp (disch := first | decide | omega) only [stp_eq, stp_ne, stp_nj, stI1, stI2, stL1, stL_eq, stL_ne, stL_nj, gi_n, nI_clamp ]
                  have x2 : s2 13 (j * 4 + 2) = nI C := by rw [D.ux.1 13 (by decide), hS3]; simp (disch := first | decide | omega) only [stp_eq, stp_ne, stp_nj, stI1, stI2, stL1, stL_eq, stL_ne, stL_nj, gi_n, nI_clamp ]
                  have y1 : t2.1 24 j = nI ee := by rw [D.um.1 24 (by decide), hT3, g5]; simp (disch := first | decide | omega) only [stp_eq, stp_ne, stp_nj, stI1, stI2, stL1, stL_eq, stL_ne, stL_nj, gi_n, nI_clamp ]
                  have y2 : t2.1 22 j = nI C := by rw [D.um.1 22 (by decide), hT3]; simp (disch := first | decide | omega) only [stp_eq, stp_ne, stp_nj, stI1, stI2, stL1, stL_eq, stL_ne, stL_nj, gi_n, nI_clamp ]
                  refine ⟨pp, ee, C, c', ⟨?_, hpp4, g3, by simp (disch := first | decide | omega) only [stp_eq, stp_ne, stp_nj, stI1, stI2, stL1, stL_eq, stL_ne, stL_nj, gi_n, nI_clamp , x1], by simp (disch := first | decide | omega) only [stp_eq, stp_ne, stp_nj, stI1, stI2, stL1, stL_eq, stL_ne, stL_nj, gi_n, nI_clamp , y1], by simp (disch := first | decide | omega) only [stp_eq, stp_ne, stp_nj, stI1, stI2, stL1, stL_eq, stL_ne, stL_nj, gi_n, nI_clamp , x2], by simp (disch := first | decide | omega) only [stp_eq, stp_ne, stp_nj, stI1, stI2, stL1, stL_eq, stL_ne, stL_nj, gi_n, nI_clamp , y2], by simp (disch := first | decide | omega) only [stp_eq, stp_ne, stp_nj, stI1, stI2, stL1, stL_eq, stL_ne, stL_nj, gi_n, nI_clamp ], by simp (disch := first | decide | omega) only [stp_eq, stp_ne, stp_nj, stI1, stI2, stL1, stL_eq, stL_ne, stL_nj, gi_n, nI_clamp ]; exact D.m23, by omega, by omega, ?_, D.op, D.i1, fun q q1 q2 => ?_, fun q q1 q2 => ?_⟩⟩
                  · rw [← hppm, ← tp j]; exact mpar_cg _ rfl (by simp (disch := first | decide | omega) only [stp_eq, stp_ne, stp_nj, stI1, stI2, stL1, stL_eq, stL_ne, stL_nj, gi_n, nI_clamp ]) (by simp (disch := first | decide | omega) only [stp_eq, stp_ne, stp_nj, stI1, stI2, stL1, stL_eq, stL_ne, stL_nj, gi_n, nI_clamp ])
                  · rw [D.ag.ins C (Nat.le_refl _)]; exact hF.iC
                  · rw [D.f1 q q1 (by omega)]; exact hF.fC
                  · by_cases hqC : q < C
                    · rw [D.ag.fn q (by omega)] at q2
                      have := hF.lt q hqC
                      omega
                    · omega
                · obtain ⟨p', e', bg, ls, q⟩ := hF.all j (by omega)
                  have q1 := x13 (j * 4 + 1) (by omega) (by omega)
                  have q2 := x13 (j * 4 + 2) (by omega) (by omega)
                  have q3 := x13 (j * 4 + 3) (by omega) (by omega)
                  have r1 := t24 j hjk
                  have r2 := t22 j hjk
                  have r3 := t23 j hjk
                  have qlC := q.lC
                  have qbl := q.bl
                  refine ⟨p', e', bg, ls, ⟨?_, q.p4, q.pe, by simp (disch := first | decide | omega) only [stp_eq, stp_ne, stp_nj, stI1, stI2, stL1, stL_eq, stL_ne, stL_nj, gi_n, nI_clamp , q1, q.x1], by simp (disch := first | decide | omega) only [stp_eq, stp_ne, stp_nj, stI1, stI2, stL1, stL_eq, stL_ne, stL_nj, gi_n, nI_clamp , r1, q.m24], by simp (disch := first | decide | omega) only [stp_eq, stp_ne, stp_nj, stI1, stI2, stL1, stL_eq, stL_ne, stL_nj, gi_n, nI_clamp , q2, q.x2], by simp (disch := first | decide | omega) only [stp_eq, stp_ne, stp_nj, stI1, stI2, stL1, stL_eq, stL_ne, stL_nj, gi_n, nI_clamp , r2, q.m22], by simp (disch := first | decide | omega) only [stp_eq, stp_ne, stp_nj, stI1, stI2, stL1, stL_eq, stL_ne, stL_nj, gi_n, nI_clamp , q3, q.x3], by simp (disch := first | decide | omega) only [stp_eq, stp_ne, stp_nj, stI1, stI2, stL1, stL_eq, stL_ne, stL_nj, gi_n, nI_clamp , r3, q.m23], q.bl, by omega, ?_, ?_, ?_, fun u u1 u2 => ?_, fun u u1 u2 => ?_⟩⟩
                  · rw [← q.pm, ← tp j]; exact mpar_cg _ rfl (by simp (disch := first | decide | omega) only [stp_eq, stp_ne, stp_nj, stI1, stI2, stL1, stL_eq, stL_ne, stL_nj, gi_n, nI_clamp ]) (by simp (disch := first | decide | omega) only [stp_eq, stp_ne, stp_nj, stI1, stI2, stL1, stL_eq, stL_ne, stL_nj, gi_n, nI_clamp ])
                  · rw [D.ag.ins bg (by omega)]; exact q.ib
                  · rw [D.ag.op ls (by omega)]; exact q.ol
                  · rw [D.ag.ins ls (by omega)]; exact q.il
                  · rw [D.ag.fn u (by omega)]; exact q.fn u u1 u2
                  · by_cases huC : u < C
                    · rw [D.ag.fn u (by omega)] at u2; exact q.nf u huC u2
                    · rw [D.f1 u (by omega) u1, hF.fC] at u2; omega
              · by_cases hqC : q < C
                · rw [D.ag.fn q (by omega)]; have := hF.lt q hqC; omega
                · rw [D.f1 q (by omega) hq, hF.fC]; omega
            · refine hT.cg ?_ ?_ ?_ ?_ ?_ ?_ ?_ ?_ ?_
              · simp (disch := first | decide | omega) only [stp_eq, stp_ne, stp_nj, stI1, stI2, stL1, stL_eq, stL_ne, stL_nj, gi_n, nI_clamp ]; rw [D.ux.1 10 (by decide), hS3, g4]; simp (disch := first | decide | omega) only [stp_eq, stp_ne, stp_nj, stI1, stI2, stL1, stL_eq, stL_ne, stL_nj, gi_n, nI_clamp ]
              · simp (disch := first | decide | omega) only [stp_eq, stp_ne, stp_nj, stI1, stI2, stL1, stL_eq, stL_ne, stL_nj, gi_n, nI_clamp ]; rw [D.ux.1 11 (by decide), hS3, g4]; simp (disch := first | decide | omega) only [stp_eq, stp_ne, stp_nj, stI1, stI2, stL1, stL_eq, stL_ne, stL_nj, gi_n, nI_clamp ]
              · simp (disch := first | decide | omega) only [stp_eq, stp_ne, stp_nj, stI1, stI2, stL1, stL_eq, stL_ne, stL_nj, gi_n, nI_clamp ]; rw [D.ux.1 12 (by decide), hS3, g4]; simp (disch := first | decide | omega) only [stp_eq, stp_ne, stp_nj, stI1, stI2, stL1, stL_eq, stL_ne, stL_nj, gi_n, nI_clamp ]
              · intro j
                have := x13 (j * 4 + 0) (by omega) (by omega)
                simp (disch := first | decide | omega) only [stp_eq, stp_ne, stp_nj, stI1, stI2, stL1, stL_eq, stL_ne, stL_nj, gi_n, nI_clamp , this]
              · simp (disch := first | decide | omega) only [stp_eq, stp_ne, stp_nj, stI1, stI2, stL1, stL_eq, stL_ne, stL_nj, gi_n, nI_clamp ]; rw [D.um.2.2 6 (by decide), hT3, g5]; simp (disch := first | decide | omega) only [stp_eq, stp_ne, stp_nj, stI1, stI2, stL1, stL_eq, stL_ne, stL_nj, gi_n, nI_clamp ]
              · simp (disch := first | decide | omega) only [stp_eq, stp_ne, stp_nj, stI1, stI2, stL1, stL_eq, stL_ne, stL_nj, gi_n, nI_clamp ]; rw [D.um.2.2 7 (by decide), hT3, g5]; simp (disch := first | decide | omega) only [stp_eq, stp_ne, stp_nj, stI1, stI2, stL1, stL_eq, stL_ne, stL_nj, gi_n, nI_clamp ]
              · simp (disch := first | decide | omega) only [stp_eq, stp_ne, stp_nj, stI1, stI2, stL1, stL_eq, stL_ne, stL_nj, gi_n, nI_clamp ]; rw [D.um.1 2 (by decide), hT3, g5]; simp (disch := first | decide | omega) only [stp_eq, stp_ne, stp_nj, stI1, stI2, stL1, stL_eq, stL_ne, stL_nj, gi_n, nI_clamp ]
              · simp (disch := first | decide | omega) only [stp_eq, stp_ne, stp_nj, stI1, stI2, stL1, stL_eq, stL_ne, stL_nj, gi_n, nI_clamp ]; rw [D.um.1 3 (by decide), hT3, g5]; simp (disch := first | decide | omega) only [stp_eq, stp_ne, stp_nj, stI1, stI2, stL1, stL_eq, stL_ne, stL_nj, gi_n, nI_clamp ]
              · simp (disch := first | decide | omega) only [stp_eq, stp_ne, stp_nj, stI1, stI2, stL1, stL_eq, stL_ne, stL_nj, gi_n, nI_clamp ]; rw [D.um.2.1 4 (by decide), hT3, g5]; rfl
            · simp (disch := first | decide | omega) only [stp_eq, stp_ne, stp_nj, stI1, stI2, stL1, stL_eq, stL_ne, stL_nj, gi_n, nI_clamp ]
            · simp (disch := first | decide | omega) only [stp_eq, stp_ne, stp_nj, stI1, stI2, stL1, stL_eq, stL_ne, stL_nj, gi_n, nI_clamp ]
            · rintro s' t' (⟨pl', w', Cw, nPw, f1, f2, f3, f4, f5, f6, f7, f8, f9⟩ | hb)
              · refine Or.inl ⟨pl', w', Cw, nPw, by omega, f2, f3, f4, f5, f6, f7, Ux.trans ?_ f8, Um.trans ?_ f9⟩
                · have u1 : Ux [13, 20, 21, 22, 23, 24, 25] [0, 3, 4] s S3 := by rw [hS3, g4]; (repeat first | assumption | exact Ux.refl _ _ _ | refine Ux.p2 (by decide) ?_ | refine Ux.pa (by decide) (by decide) ?_)
                  have u2 := Ux.trans u1 (D.ux.up (by decide) (by decide))
                  (repeat first | assumption | exact Ux.refl _ _ _ | refine Ux.p2 (by decide) ?_ | refine Ux.pa (by decide) (by decide) ?_)
                · have u1 : Um [14, 17, 18, 19, 22, 23, 24] [15, 16, 25] [4, 8, 14, 15] t T3 := by rw [hT3, g5]; (repeat first | assumption | exact Um.refl _ _ _ _ | refine Um.p0 (by decide) ?_ | refine Um.pa (by decide) (by decide) ?_ | refine Um.la (by decide) ?_)
                  have u2 := Um.trans u1 (D.um.up (by decide) (by decide) (by decide))
                  (repeat first | assumption | exact Um.refl _ _ _ _ | refine Um.p0 (by decide) ?_ | refine Um.pa (by decide) (by decide) ?_ | refine Um.la (by decide) ?_)
              · exact Or.inr hb
          · rw [if_neg (fun q => hpe ((nI_eq (by omega) (by omega)).mp q)), if_neg (fun q => hpe ((nI_eq (by omega) (by omega)).mp q)), xr_0 (by simp (disch := first | decide | omega) only [stp_eq, stp_ne, stp_nj, stI1, stI2, stL1, stL_eq, stL_ne, stL_nj, gi_n, nI_clamp ]; exact kA.1) 1, bd1_some, f_M_readCode_100, mw_f kA.2.1 1, bd1_some]
            have b1 := BX.m1 (s0 := s0) (s := stp s2 13 (k * 4 + 3) (nI c')) (by repeat first | assumption | refine FX.pa (by decide) (by decide) (by decide) ?_ | refine FX.p2 (by decide) ?_)
            have b2 := BM.m1 (t0 := t0) (t := t2) km
            exact r_BB (hX9 _ _ (by (repeat first | assumption | refine BX.ta (by with_unfolding_all decide) (by with_unfolding_all decide) (by with_unfolding_all decide) ?_ | refine BX.pa (by with_unfolding_all decide) (by with_unfolding_all decide) (by with_unfolding_all decide) ?_ | refine BX.ra (by with_unfolding_all decide) (by with_unfolding_all decide) (by with_unfolding_all decide) ?_ | refine BX.p2 (by with_unfolding_all decide) (by with_unfolding_all decide) ?_))) (hM9 _ _ _ (by (repeat first | assumption | refine BM.pa (by with_unfolding_all decide) (by with_unfolding_all decide) ?_ | refine BM.p0 (by with_unfolding_all decide) (by with_unfolding_all decide) ?_ | refine BM.la ?_)))
        · refine r_BB (kx_87 (hX9 e') B1) ?_
          split
          · exact km_100 (hM9 e') B2
          · exact km_100 (hM9 e') B2
      · intro e' s' hB
        exact hxx _ _ _ _ _ (by (repeat first | assumption | refine BX.ta (by with_unfolding_all decide) (by with_unfolding_all decide) (by with_unfolding_all decide) ?_ | refine BX.pa (by with_unfolding_all decide) (by with_unfolding_all decide) (by with_unfolding_all decide) ?_ | refine BX.ra (by with_unfolding_all decide) (by with_unfolding_all decide) (by with_unfolding_all decide) ?_ | refine BX.p2 (by with_unfolding_all decide) (by with_unfolding_all decide) ?_))
    · obtain ⟨e', B1, B2⟩ := hf.B hx hm
      rw [if_neg B2.nle]
      refine r_BB ?_ (okg.some B2)
      have B3 : BX s0 e' (stp s' 2 3 r) := by (repeat first | assumption | refine BX.ta (by with_unfolding_all decide) (by with_unfolding_all decide) (by with_unfolding_all decide) ?_ | refine BX.pa (by with_unfolding_all decide) (by with_unfolding_all decide) (by with_unfolding_all decide) ?_ | refine BX.ra (by with_unfolding_all decide) (by with_unfolding_all decide) (by with_unfolding_all decide) ?_ | refine BX.p2 (by with_unfolding_all decide) (by with_unfolding_all decide) ?_)
      refine okg.b1 (kx_rl B3) (fun s2 hB2 => ?_)
      exact hxx _ _ _ _ _ (by (repeat first | assumption | refine BX.ta (by with_unfolding_all decide) (by with_unfolding_all decide) (by with_unfolding_all decide) ?_ | refine BX.pa (by with_unfolding_all decide) (by with_unfolding_all decide) (by with_unfolding_all decide) ?_ | refine BX.ra (by with_unfolding_all decide) (by with_unfolding_all decide) (by with_unfolding_all decide) ?_ | refine BX.p2 (by with_unfolding_all decide) (by with_unfolding_all decide) ?_))
