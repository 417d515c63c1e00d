-- each section, by its number
section GO
variable {γ : Type} {s0 : St} {t0 : SM} {F kX : St → Option γ} {k73 : Int32 → SM → Option SM} {fed : Nat} {R : St → SM → Prop} {s : St} {t : SM} {pl pl0 L nT nF nG nE nD nB : Nat} {w : Cd} {C nP : Nat}
theorem MS.mid {e p : Nat} (h : MS L pl s t nT nF nG nE nD nB w C nP) (hp : pl ≤ p) : MS L p (stp (stp s 2 3 (nI e)) 2 2 (nI p)) (stI (stI t 0 4 (nI e)) 0 3 (nI p)) nT nF nG nE nD nB w C nP := by
  refine h.fr (fun a ha => by simp (disch := first | decide | omega) only [stp_eq, stp_ne, stp_nj, stI1, stI2, stL1, stL_eq, stL_ne, stL_nj, gi_n, nI_clamp ]) (by simp (disch := first | decide | omega) only [stp_eq, stp_ne, stp_nj, stI1, stI2, stL1, stL_eq, stL_ne, stL_nj, gi_n, nI_clamp ]) (fun a ha => by simp (disch := first | decide | omega) only [stp_eq, stp_ne, stp_nj, stI1, stI2, stL1, stL_eq, stL_ne, stL_nj, gi_n, nI_clamp ]) rfl (fun j h3 h4 h5 => by simp (disch := first | decide | omega) only [stp_eq, stp_ne, stp_nj, stI1, stI2, stL1, stL_eq, stL_ne, stL_nj, gi_n, nI_clamp ]) hp
theorem go_1 (hfx : s0 2 1 = nI fed) (hfm : t0.1 0 1 = nI fed) (hfed : fed ≤ 240) (h : AC s0 t0 s t pl fed) (h0 : pl0 < pl) (hM : MS L pl s t nT nF nG nE nD nB w C nP) (hL : L ≤ 1) (N : Nsec s0 t0 F kX k73 1 fed R (QM pl0 1)) (hX9 : ∀ e s, BX s0 e s → okg F (kX s) (BX s0 e)) (hM9 : ∀ e x t, BM t0 e t → okg some (k73 x t) (BM t0 e)) :
    o2 F some (bd1 (f_Rd_readSection (nI 1) s) kX) (bd (f_M_ahead t) fun r3 s2 => if s2.1 0 5 ≤ 0 then bd1 (f_M_readTypes (stI s2 0 4 r3)) fun s5 => if s5.1 0 3 = r3 then f_M_readModule_201 k73 (nI 1) (nI 1) r3 1 s5 else f_M_readModule_201 k73 (nI 1) (nI 1) r3 0 s5 else some s2) (RB s0 t0 R) := by
  obtain ⟨fu', hfu, hfu2⟩ := FU_s
  refine sect2 (m := 8) (LM := fun r t => f_M_readTypes_9 FU r 0 t) (MR := f_M_readTypes) (fun _ => rfl) (by decide) (by decide +kernel) (by decide) hfx hfm hfed h ?_ (fun e t hB => by rw [hfu]; exact km_ty hB) N hX9 hM9
  intro c e p hc hp1 hp2 hp3 hAC
  have hz := hM.zT hL
  subst hz
  have hm := hM.mid (e := e) (p := p) (by omega)
  refine (types2 (s0 := s0) (t0 := t0) (bn := e) hc c 0 FU FU _ _ p (by omega) (by omega) (by omega) hAC hm.ty.x10 (fun j hj => absurd hj (by omega))).mono ?_
  rintro s' t' (⟨pl', f1, f2, f3, f4, f5, f6, f7⟩ | hb)
  · have hb := bd240 f2.1
    exact Or.inl ⟨pl', f1, f2, pl', c, nF, nG, nE, nD, nB, w, C, nP, by omega, by omega, f2.1.2.2.1, hm.s1 hL hc f1 f3 f4 f5 f6 f7⟩
  · exact Or.inr hb
theorem go_3 (hfx : s0 2 1 = nI fed) (hfm : t0.1 0 1 = nI fed) (hfed : fed ≤ 240) (h : AC s0 t0 s t pl fed) (h0 : pl0 < pl) (hM : MS L pl s t nT nF nG nE nD nB w C nP) (hL : L ≤ 3) (N : Nsec s0 t0 F kX k73 3 fed R (QM pl0 3)) (hX9 : ∀ e s, BX s0 e s → okg F (kX s) (BX s0 e)) (hM9 : ∀ e x t, BM t0 e t → okg some (k73 x t) (BM t0 e)) :
    o2 F some (bd1 (f_Rd_readSection (nI 3) s) kX) (bd (f_M_ahead t) fun r3 s2 => if s2.1 0 5 ≤ 0 then bd1 (f_M_readFunctions (stI s2 0 4 r3)) fun s5 => if s5.1 0 3 = r3 then f_M_readModule_201 k73 (nI 3) (nI 3) r3 1 s5 else f_M_readModule_201 k73 (nI 3) (nI 3) r3 0 s5 else some s2) (RB s0 t0 R) := by
  obtain ⟨fu', hfu, hfu2⟩ := FU_s
  refine sect2 (m := 8) (LM := fun r t => f_M_readFunctions_9 FU r 0 t) (MR := f_M_readFunctions) (fun _ => rfl) (by decide) (by decide +kernel) (by decide) hfx hfm hfed h ?_ (fun e t hB => ?_) N hX9 hM9
  · intro c e p hc hp1 hp2 hp3 hAC
    have hz := hM.zF hL
    subst hz
    have hm := hM.mid (e := e) (p := p) (by omega)
    refine (funcs2 (s0 := s0) (t0 := t0) (bn := e) hc c 0 FU FU _ _ p (by omega) (by omega) (by omega) hAC hm.ty.x12 (fun j hj => absurd hj (by omega))).mono ?_
    rintro s' t' (⟨pl', f1, f2, f3, f4, f5, f6, f7⟩ | hb)
    · have hb := bd240 f2.1
      exact Or.inl ⟨pl', f1, f2, pl', nT, c, nG, nE, nD, nB, w, C, nP, by omega, by omega, f2.1.2.2.1, hm.s3 hL hc f1 f3 f4 f5 f6 f7⟩
    · exact Or.inr hb
  · exact km_fn (c := 0) (by decide) 0 0 FU t rfl (by omega) hB
theorem go_5 (hfx : s0 2 1 = nI fed) (hfm : t0.1 0 1 = nI fed) (hfed : fed ≤ 240) (h : AC s0 t0 s t pl fed) (h0 : pl0 < pl) (hM : MS L pl s t nT nF nG nE nD nB w C nP) (hL : L ≤ 5) (N : Nsec s0 t0 F kX k73 5 fed R (QM pl0 5)) (hX9 : ∀ e s, BX s0 e s → okg F (kX s) (BX s0 e)) (hM9 : ∀ e x t, BM t0 e t → okg some (k73 x t) (BM t0 e)) :
    o2 F some (bd1 (f_Rd_readSection (nI 5) s) kX) (bd (f_M_ahead t) fun r3 s2 => if s2.1 0 5 ≤ 0 then bd1 (f_M_readMemory (stI s2 0 4 r3)) fun s5 => if s5.1 0 3 = r3 then f_M_readModule_201 k73 (nI 5) (nI 5) r3 1 s5 else f_M_readModule_201 k73 (nI 5) (nI 5) r3 0 s5 else some s2) (RB s0 t0 R) := by
  obtain ⟨fu', hfu, hfu2⟩ := FU_s
  refine sect2 (m := 1) (LM := mMem) (MR := f_M_readMemory) (fun _ => rfl) (by decide) (by decide +kernel) (by decide) hfx hfm hfed h ?_ (fun e t hB => ?_) N hX9 hM9
  · intro c e p hc hp1 hp2 hp3 hAC
    have hm := hM.mid (e := e) (p := p) (by omega)
    obtain ⟨z1, z2, z3⟩ := hm.zM hL
    refine (mem2 (s0 := s0) (t0 := t0) (bn := e) hc (by omega) hAC z1 z2 z3).mono ?_
    rintro s' t' (⟨pl', f1, f2, f3, f6, f7⟩ | hb)
    · have hb := bd240 f2.1
      exact Or.inl ⟨pl', f1, f2, pl', nT, nF, nG, nE, nD, nB, w, C, nP, by omega, by omega, f2.1.2.2.1, hm.s5 hL f1 f3 f6 f7⟩
    · exact Or.inr hb
  · rw [mMem]
    simp only [lt1, stI1, stp_eq, if_true, f_M_readMemory_23]
    exact okg.some (by (repeat first | assumption | refine BM.pa (by with_unfolding_all decide) (by with_unfolding_all decide) ?_ | refine BM.p0 (by with_unfolding_all decide) (by with_unfolding_all decide) ?_ | refine BM.la ?_))
theorem go_6 (hfx : s0 2 1 = nI fed) (hfm : t0.1 0 1 = nI fed) (hfed : fed ≤ 240) (h : AC s0 t0 s t pl fed) (h0 : pl0 < pl) (hM : MS L pl s t nT nF nG nE nD nB w C nP) (hL : L ≤ 6) (N : Nsec s0 t0 F kX k73 6 fed R (QM pl0 6)) (hX9 : ∀ e s, BX s0 e s → okg F (kX s) (BX s0 e)) (hM9 : ∀ e x t, BM t0 e t → okg some (k73 x t) (BM t0 e)) :
    o2 F some (bd1 (f_Rd_readSection (nI 6) s) kX) (bd (f_M_ahead t) fun r3 s2 => if s2.1 0 5 ≤ 0 then bd1 (f_M_readGlobals (stI s2 0 4 r3)) fun s5 => if s5.1 0 3 = r3 then f_M_readModule_201 k73 (nI 6) (nI 6) r3 1 s5 else f_M_readModule_201 k73 (nI 6) (nI 6) r3 0 s5 else some s2) (RB s0 t0 R) := by
  obtain ⟨fu', hfu, hfu2⟩ := FU_s
  refine sect2 (m := 4) (LM := fun r t => f_M_readGlobals_8 FU r 0 t) (MR := f_M_readGlobals) (fun _ => rfl) (by decide) (by decide +kernel) (by decide) hfx hfm hfed h ?_ (fun e t hB => by rw [hfu]; exact km_gl hB) N hX9 hM9
  intro c e p hc hp1 hp2 hp3 hAC
  have hz := hM.zG hL
  subst hz
  have hm := hM.mid (e := e) (p := p) (by omega)
  refine (globs2 (s0 := s0) (t0 := t0) (bn := e) hc c 0 FU FU _ _ p (by omega) (by omega) (by omega) hAC hm.g14 (fun j hj => absurd hj (by omega))).mono ?_
  rintro s' t' (⟨pl', f1, f2, f3, f4, f5, f6, f7⟩ | hb)
  · have hb := bd240 f2.1
    exact Or.inl ⟨pl', f1, f2, pl', nT, nF, c, nE, nD, nB, w, C, nP, by omega, by omega, f2.1.2.2.1, hm.s6 hL hc f1 f3 f4 f5 f6 f7⟩
  · exact Or.inr hb
theorem go_7 (hfx : s0 2 1 = nI fed) (hfm : t0.1 0 1 = nI fed) (hfed : fed ≤ 240) (h : AC s0 t0 s t pl fed) (h0 : pl0 < pl) (hM : MS L pl s t nT nF nG nE nD nB w C nP) (hL : L ≤ 7) (N : Nsec s0 t0 F kX k73 7 fed R (QM pl0 7)) (hX9 : ∀ e s, BX s0 e s → okg F (kX s) (BX s0 e)) (hM9 : ∀ e x t, BM t0 e t → okg some (k73 x t) (BM t0 e)) :
    o2 F some (bd1 (f_Rd_readSection (nI 7) s) kX) (bd (f_M_ahead t) fun r3 s2 => if s2.1 0 5 ≤ 0 then bd1 (f_M_readExports (stI s2 0 4 r3)) fun s5 => if s5.1 0 3 = r3 then f_M_readModule_201 k73 (nI 7) (nI 7) r3 1 s5 else f_M_readModule_201 k73 (nI 7) (nI 7) r3 0 s5 else some s2) (RB s0 t0 R) := by
  obtain ⟨fu', hfu, hfu2⟩ := FU_s
  refine sect2 (m := 8) (LM := fun r t => f_M_readExports_9 FU r 0 t) (MR := f_M_readExports) (fun _ => rfl) (by decide) (by decide +kernel) (by decide) hfx hfm hfed h ?_ (fun e t hB => by rw [hfu]; exact km_ex hB) N hX9 hM9
  intro c e p hc hp1 hp2 hp3 hAC
  obtain ⟨hz, hz2⟩ := hM.zE hL
  subst hz
  have hm := hM.mid (e := e) (p := p) (by omega)
  refine (expos2 (s0 := s0) (t0 := t0) (bn := e) hc c 0 FU FU _ _ p (by omega) (by omega) (by omega) hAC hm.g16 (fun q _ hq => (hm.zE hL).2 q hq) (fun j hj => absurd hj (by omega))).mono ?_
  rintro s' t' (⟨pl', f1, f2, f3, f4, f5, f6, f7⟩ | hb)
  · have hb := bd240 f2.1
    exact Or.inl ⟨pl', f1, f2, pl', nT, nF, nG, c, nD, nB, w, C, nP, by omega, by omega, f2.1.2.2.1, hm.s7 hL hc f1 f3 f4 f5 f6 f7⟩
  · exact Or.inr hb
theorem go_11 (hfx : s0 2 1 = nI fed) (hfm : t0.1 0 1 = nI fed) (hfed : fed ≤ 240) (h : AC s0 t0 s t pl fed) (h0 : pl0 < pl) (hM : MS L pl s t nT nF nG nE nD nB w C nP) (hL : L ≤ 11) (N : Nsec s0 t0 F kX k73 11 fed R (QM pl0 11)) (hX9 : ∀ e s, BX s0 e s → okg F (kX s) (BX s0 e)) (hM9 : ∀ e x t, BM t0 e t → okg some (k73 x t) (BM t0 e)) :
    o2 F some (bd1 (f_Rd_readSection (nI 11) s) kX) (bd (f_M_ahead t) fun r3 s2 => if s2.1 0 5 ≤ 0 then bd1 (f_M_readData (stI s2 0 4 r3)) fun s5 => if s5.1 0 3 = r3 then f_M_readModule_201 k73 (nI 11) (nI 11) r3 1 s5 else f_M_readModule_201 k73 (nI 11) (nI 11) r3 0 s5 else some s2) (RB s0 t0 R) := by
  obtain ⟨fu', hfu, hfu2⟩ := FU_s
  refine sect2 (m := 4) (LM := fun r t => f_M_readData_8 FU r 0 t) (MR := f_M_readData) (fun _ => rfl) (by decide) (by decide +kernel) (by decide) hfx hfm hfed h ?_ (fun e t hB => by rw [hfu]; exact km_dt hB) N hX9 hM9
  intro c e p hc hp1 hp2 hp3 hAC
  have hz := hM.zD hL
  subst hz
  have hm := hM.mid (e := e) (p := p) (by omega)
  refine (datas2 (s0 := s0) (t0 := t0) (bn := e) hc c 0 FU FU _ _ p (by omega) (by omega) (by omega) hAC hm.g18 (fun j hj => absurd hj (by omega))).mono ?_
  rintro s' t' (⟨pl', f1, f2, f3, f4, f5, f6, f7⟩ | hb)
  · have hb := bd240 f2.1
    exact Or.inl ⟨pl', f1, f2, pl', nT, nF, nG, nE, c, nB, w, C, nP, by omega, by omega, f2.1.2.2.1, hm.s11 hL hc f1 f3 f4 f5 f6 f7⟩
  · exact Or.inr hb
theorem go_10 (hfx : s0 2 1 = nI fed) (hfm : t0.1 0 1 = nI fed) (hfed : fed ≤ 240) (h : AC s0 t0 s t pl fed) (h0 : pl0 < pl) (hM : MS L pl s t nT nF nG nE nD nB w C nP) (hL : L ≤ 10) (N : Nsec s0 t0 F kX k73 10 fed R (QM pl0 10)) (hX9 : ∀ e s, BX s0 e s → okg F (kX s) (BX s0 e)) (hM9 : ∀ e x t, BM t0 e t → okg some (k73 x t) (BM t0 e)) :
    o2 F some (bd1 (f_Rd_readSection (nI 10) s) kX) (bd (f_M_ahead t) fun r3 s2 => if s2.1 0 5 ≤ 0 then bd1 (f_M_readCode (stI s2 0 4 r3)) fun s5 => if s5.1 0 3 = r3 then f_M_readModule_201 k73 (nI 10) (nI 10) r3 1 s5 else f_M_readModule_201 k73 (nI 10) (nI 10) r3 0 s5 else some s2) (RB s0 t0 R) := by
  obtain ⟨hC0, hP0, hB0⟩ := hM.zC hL
  subst hB0
  refine sec10 (nT := nT) (nF := nF) (nB := 0) (nP := nP) (C := C) (w := w) rfl hfx hfm hfed h hC0 hM.cr hM.fn hM.ty hM.g24 hM.m8 ?_ hX9 hM9
  rintro s' t' pl' hp hAC ⟨p, w', C', nP', s1, t1, g0, g1, gp, g2, g3, g4, g5, u1, v1, u2, v2, g6⟩
  refine N s' t' pl' hp hAC ⟨p, nT, nF, nG, nE, nD, nF, w', C', nP', ?_, g0, g6, ?_⟩
  · omega
  · have hm1 : MS L pl s1 t1 nT nF nG nE nD 0 w C nP := by
      refine hM.fr (fun a ha => u1.1 a (by simpa using ha)) (u1.2 4 (by decide)) (fun a ha => v1.1 a (by simpa using ha)) (funext fun a => v1.2.1 a (by simp)) (fun j h3 h4 h5 => v1.2.2 j (by simp [h3, h4])) (Nat.le_refl _)
    exact hm1.s10 hL g1 g2 g3 g4 g5 u2 v2
end GO
