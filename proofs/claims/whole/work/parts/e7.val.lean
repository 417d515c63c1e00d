-- validation: all bodies; the whole
theorem mkEnv {s : St} {t : SM} {L pl nT nF nG nE nD : Nat} {w : Cd} {C nP : Nat} (M : MS L pl s t nT nF nG nE nD nF w C nP)
    (hty : ∀ j, j < nT → ∃ p r, p ≤ 4 ∧ r ≤ 1 ∧ s 11 (j * 2 + 0) = nI p ∧ s 11 (j * 2 + 1) = nI r ∧ t.1 2 j = nI p ∧ t.1 3 j = nI r) (hft : ∀ j, j < nF → ∃ v, v < nT ∧ s 13 (j * 4 + 0) = nI v ∧ t.2 4 j = lN v) :
    ∃ m : Md, Env m s t ∧ m.nF = nF ∧ m.nG = nG := by
  have hT := M.ty.hT
  have hF := M.ty.hF
  have hG := M.hG
  -- of each function: its type's numbers, its locals
  have hall : ∀ f, f < nF → ∃ p r l v, p ≤ 4 ∧ r ≤ 1 ∧ p ≤ l ∧ l ≤ 12 ∧ v < 8 ∧ f_Cont_parametersOf s (nI f) = some (nI p) ∧ f_Cont_resultsOf s (nI f) = some (nI r) ∧ f_M_parameters t (nI f) = some (nI p) ∧ t.2 4 f = lN v ∧ t.1 2 v = nI p ∧ t.1 3 v = nI r ∧ s 13 (f * 4 + 1) = nI l ∧ t.1 24 f = nI (l - p) := by
    intro f hf
    obtain ⟨v, hv, a1, a2⟩ := hft f hf
    obtain ⟨p, r, hp, hr, b1, b2, b3, b4⟩ := hty v hv
    obtain ⟨p', e, bg, ls, q⟩ := M.fn.all f hf
    have hth : tHas (s 10 0) (nI v) = 1 := by rw [M.ty.x10, tHas_lt (by omega) (by omega), if_pos hv]
    have c1 : f_Cont_parametersOf s (nI f) = some (nI p) := by
      rw [f_Cont_parametersOf, tg_8_4_0 (by omega), a1]
      simp only [lt1, hth, f_Cont_parametersOf_34]
      rw [if_neg (by decide), tg_8_2_0 (by omega), b1]
    have c2 : f_Cont_resultsOf s (nI f) = some (nI r) := by
      rw [f_Cont_resultsOf, tg_8_4_0 (by omega), a1]
      simp only [lt1, hth, f_Cont_resultsOf_34]
      rw [if_neg (by decide), tg_8_2_1 (by omega), b2]
    have c3 : f_M_parameters t (nI f) = some (nI p) := by
      rw [f_M_parameters, gi_n (show f < 8 by omega) (by decide), nI_clamp (by omega), a2, M.ty.m6, nI_l (by omega)]
      simp only [lt1, lN_i, f_M_parameters_31]
      rw [if_neg (fun z => absurd ((lcmp_ge (by omega) (by omega)).mp z) (by omega)), gi_n (show f < 8 by omega) (by decide), gi_n (show v < 8 by omega) (by decide), nI_clamp (by omega), b3]
    have hpp : p' = p := by
      have := q.pm
      rw [c3] at this
      have h4 := q.p4
      exact ((nI_eq (by omega) (by omega)).mp (Option.some.inj this)).symm
    have pe := q.pe
    rw [hpp] at pe
    refine ⟨p, r, p + e, v, hp, hr, by omega, by omega, by omega, c1, c2, c3, a2, b3, b4, by rw [← hpp]; exact q.x1, ?_⟩
    rw [Nat.add_sub_cancel_left]; exact q.m24
  have h1 : ∀ f, f < nF → ∃ p, ∃ r l v, p ≤ 4 ∧ r ≤ 1 ∧ p ≤ l ∧ l ≤ 12 ∧ v < 8 ∧ f_Cont_parametersOf s (nI f) = some (nI p) ∧ f_Cont_resultsOf s (nI f) = some (nI r) ∧ f_M_parameters t (nI f) = some (nI p) ∧ t.2 4 f = lN v ∧ t.1 2 v = nI p ∧ t.1 3 v = nI r ∧ s 13 (f * 4 + 1) = nI l ∧ t.1 24 f = nI (l - p) := hall
  obtain ⟨par, h2⟩ := pick h1
  obtain ⟨res, h3⟩ := pick h2
  obtain ⟨loc, h4⟩ := pick h3
  have hg : ∀ g, g < nG → ∃ c, c ≤ 1 ∧ s 15 (g * 2 + 0) = nI c ∧ t.1 5 g = nI c := by
    intro g hg
    obtain ⟨c, c1, c2, c3, -⟩ := M.gl g hg
    exact ⟨c, c1, c2, c3⟩
  obtain ⟨ch, h5⟩ := pick hg
  have hme : ∃ me, me ≤ 1 ∧ s 1 0 = nI me ∧ t.1 0 9 = nI me := by
    rcases M.me with ⟨a1, a2, a3, a4, a5, a6⟩ | ⟨a1, a2, -⟩
    · exact ⟨0, by decide, a1, a4⟩
    · exact ⟨1, by decide, a1, a2⟩
  obtain ⟨me, k1, k2, k3⟩ := hme
  refine ⟨(par, res, loc, nF, nG, ch, me), ⟨hF, M.ty.x12, M.ty.m7, fun f hf => ?_, fun f hf => ?_, fun f hf => ?_, fun f hf => ?_, fun f hf => ?_, fun f hf => ?_, fun f hf => ?_, hG, M.g14, M.m11, fun g hg => ?_, k1, k2, k3⟩, rfl, rfl⟩
  · obtain ⟨v, q1, q2, q3, q4, q5, q6, q7, q8, q9, q10, q11, q12, q13⟩ := h4 f hf; exact q6
  · obtain ⟨v, q1, q2, q3, q4, q5, q6, q7, q8, q9, q10, q11, q12, q13⟩ := h4 f hf; exact q7
  · obtain ⟨v, q1, q2, q3, q4, q5, q6, q7, q8, q9, q10, q11, q12, q13⟩ := h4 f hf; exact q8
  · obtain ⟨v, q1, q2, q3, q4, q5, q6, q7, q8, q9, q10, q11, q12, q13⟩ := h4 f hf; exact ⟨v, q5, q9, q10, q11⟩
  · obtain ⟨v, q1, q2, q3, q4, q5, q6, q7, q8, q9, q10, q11, q12, q13⟩ := h4 f hf; exact ⟨q1, q2, q3, q4⟩
  · obtain ⟨v, q1, q2, q3, q4, q5, q6, q7, q8, q9, q10, q11, q12, q13⟩ := h4 f hf; exact q12
  · obtain ⟨v, q1, q2, q3, q4, q5, q6, q7, q8, q9, q10, q11, q12, q13⟩ := h4 f hf; exact q13
  · obtain ⟨q1, q2, q3⟩ := h5 g hg; exact ⟨q2, q3, q1⟩
theorem fn_mono {w : Cd} {C : Nat} (W : WF w C) : ∀ d k, k + d ≤ C → w.fn k ≤ w.fn (k + d) := by
  intro d
  induction d with
  | zero => intro k _; exact Nat.le_refl _
  | succ d ih =>
    intro k hk
    have h1 := ih k (by omega)
    have h2 := W.nf (k + d) (by omega)
    rw [fnx] at h2
    have : w.fn (k + (d + 1)) = w.fn (k + d + 1) := rfl
    split at h2 <;> omega
section VAL
variable {s0 : St} {t0 : SM} {w : Cd} {m : Md} {C nP : Nat}
/-- a body begins -/
theorem VI.first {v : Hv} {f rs k : Nat} {s : St} {t : SM} (hi : w.ins k = 0) (hd : w.dp k = 0) (hh : v.hi k = 0) (hl : v.lo k = 0) (x0 : s 3 0 = nI 1) (x1 : s 3 1 = 0) (x2 : s 3 2 = nI f) (x3 : s 3 3 = 0) (m5 : t.1 0 5 = 0) (m16 : t.1 0 16 = 0) (m17 : t.1 0 17 = 0)
    (y0 : s 28 (0 * 6 + 0) = 0) (y1 : s 28 (0 * 6 + 1) = nI rs) (y2 : s 28 (0 * 6 + 2) = nI rs) (y3 : s 28 (0 * 6 + 3) = 2) (y4 : s 28 (0 * 6 + 4) = 0) (y5 : s 28 (0 * 6 + 5) = 1) (z0 : t.1 26 0 = -1) (z1 : t.1 27 0 = 0) (z2 : t.1 28 0 = 0) : VI w v f rs k s t := by
  refine ⟨by rw [hd]; exact x0, by rw [hh]; exact x1, x2, x3, m5, by rw [hd]; exact m16, by rw [hh]; exact m17, by omega, by omega, fun j hj => ?_, fun _ j hj => ?_, fun q => by omega, fun j hj => by omega, by rw [hi]; exact Nat.zero_le _⟩
  · have : j = 0 := by omega
    subst this
    rw [hd, hi]
    exact ⟨0, ⟨y0, y1, y2, y3, y4, y5, z0.trans neg1, z1, z2, by decide⟩, fun _ => rfl, fun q => by omega, fun _ _ => rfl⟩
  · rw [hi, ups_0]; rfl
theorem bodsv (W : WF w C) (hC : C ≤ 240) (E0 : Env m s0 t0) (FN : Fns w C m.nF s0 t0) (RM0 : ∀ k, k < C → RwM w k t0) (hnP : nP ≤ 240) (htb : ∀ k, k < C → w.op k = 14 → w.b k + w.a k < nP) (px0 : ∀ j, j < nP → w.pl j < 2 ^ 32 ∧ s0 23 (j * 1 + 0) = nI (w.pl j) ∧ t0.2 25 j = lN (w.pl j)) :
    ∀ d f NX NM v s t K, f + d = m.nF → d < NX → d < NM → s 3 3 = 0 → t.1 0 5 = 0 → HR w v m K s t → v.hi K = 0 → v.lo K = 0 → (∀ q, q < C → RwX w q (s 21)) → VXf s0 s → VMf t0 t → K ≤ C → w.fn K = f → (∀ k, k < K → w.fn k < f) → (∀ j q, j < m.nF → q < K → s0 13 (j * 4 + 2) = nI q → v.hi q = 0 ∧ v.lo q = 0) →
    ∃ s' t', f_Val_judge_66 NX (nI f) s = f_Val_judge_104 0 s' ∧ f_M_validate_141 NM (nI f) t = f_M_validate_169 FU 0 t' ∧ ((∃ v', s' 3 3 = 0 ∧ t'.1 0 5 = 0 ∧ HR w v' m C s' t' ∧ (∀ q, q < C → RwX w q (s' 21)) ∧ VXf s0 s' ∧ VMf t0 t' ∧ (∀ j q, j < m.nF → q < C → s0 13 (j * 4 + 2) = nI q → v'.hi q = 0 ∧ v'.lo q = 0)) ∨ ∃ e, VX s0 e s' ∧ VM t0 e t') := by
  have h8 := E0.nF8
  have j104 : ∀ x s, f_Val_judge_104 x s = f_Val_judge_104 0 s := fun x s => by rw [f_Val_judge_104, f_Val_judge_104]
  intro d
  induction d with
  | zero =>
    intro f NX NM v s t K hf hX hM h3 h5 H hh hl RX hx hm hK hfK hlt HZ
    obtain ⟨NX, rfl⟩ : ∃ z, NX = z + 1 := ⟨NX - 1, by omega⟩
    obtain ⟨NM, rfl⟩ : ∃ z, NM = z + 1 := ⟨NM - 1, by omega⟩
    have E := E0.fr hx hm
    have hKC : K = C := by
      by_cases q : K = C
      · exact q
      · have := FN.lt K (by omega); omega
    subst hKC
    refine ⟨s, t, ?_, ?_, Or.inl ⟨v, h3, h5, H, RX, hx, hm, HZ⟩⟩
    · rw [f_Val_judge_66, E.x12]
      simp only [lt1]
      rw [if_pos (nI_le (a := m.nF) (b := f) (by omega) (by omega)), ite_self, j104]
    · rw [f_M_validate_141, E.m7, if_pos (nI_le (by omega) (by omega)), f_M_validate_167]
  | succ d ih =>
    intro f NX NM v s t K hf hX hM h3 h5 H hh hl RX hx hm hK hfK hlt HZ
    obtain ⟨NX, rfl⟩ : ∃ z, NX = z + 1 := ⟨NX - 1, by omega⟩
    obtain ⟨NM, rfl⟩ : ∃ z, NM = z + 1 := ⟨NM - 1, by omega⟩
    have E := E0.fr hx hm
    have hfF : f < m.nF := by omega
    obtain ⟨p, e, bg, ls, q⟩ := FN.all f hfF
    have hbl := q.bl
    have hlC := q.lC
    -- the body begins where the rows are judged up to
    have hKC : K < C := by
      by_cases z : K = C
      · have := FN.fC; rw [z, this] at hfK; omega
      · omega
    have hKb : bg = K := by
      obtain ⟨z1, z2⟩ := q.nf K hKC hfK
      by_cases z : bg < K
      · have := hlt bg z
        have := q.fn bg (Nat.le_refl _) hbl
        omega
      · omega
    subst hKb
    have hip := q.ib
    have hdp : w.dp bg = 0 := W.i3 bg (by omega) hip
    rw [f_Val_judge_66, if_neg (show ¬ (8 : Int32) ≤ nI f from nI_ge (b := 8) (by omega) (by decide)), E.x12, h3, f_M_validate_141, E.m7, if_neg (nI_ge (by omega) (by omega)), h5, if_pos rfl]
    simp only [lt1, nI_1]
    rw [if_neg (nI_ge (by omega) (by omega)), if_pos trivial, f_Val_judgeBody, f_M_validateBody]
    obtain ⟨S, hS⟩ : ∃ S, S = stp (stp (stp s 3 2 (nI f)) 3 1 0) 3 0 0 := ⟨_, rfl⟩
    have hxS : VXf s0 S := by rw [hS]; exact ((hx.p (by omega)).p (by omega)).p (by omega)
    have ES := E0.fr hxS hm
    have eR : f_Cont_resultsOf S (nI f) = some (nI (m.res f)) := ES.rX f hfF
    have S30 : S 3 0 = 0 := by rw [hS]; simp (disch := first | decide | omega) only [stp_eq, stp_ne, stp_nj, stI1, stI2, stL1, stL_eq, stL_ne, stL_nj, gi_n, nI_clamp ]
    have S31 : S 3 1 = 0 := by rw [hS]; simp (disch := first | decide | omega) only [stp_eq, stp_ne, stp_nj, stI1, stI2, stL1, stL_eq, stL_ne, stL_nj, gi_n, nI_clamp ]
    obtain ⟨S2, hS2⟩ : ∃ S2, S2 = stp (stp (stp (stp (stp (stp (stp S 28 (0 * 6 + 0) 0) 28 (0 * 6 + 1) (nI (m.res f))) 28 (0 * 6 + 2) (nI (m.res f))) 28 (0 * 6 + 3) 2) 28 (0 * 6 + 4) 0) 28 (0 * 6 + 5) 1) 3 0 (nI 1) := ⟨_, rfl⟩
    have eO : f_Val_openBlock 2 (nI (m.res f)) (nI (m.res f)) S = some S2 := by
      have t0' : ∀ (X : St) (v : Int32), tSet X 28 11 6 0 0 v = stp X 28 (0 * 6 + 0) v := fun X v => ts_11_6_0 (r := 0) (by decide)
      have t1' : ∀ (X : St) (v : Int32), tSet X 28 11 6 0 1 v = stp X 28 (0 * 6 + 1) v := fun X v => ts_11_6_1 (r := 0) (by decide)
      have t2' : ∀ (X : St) (v : Int32), tSet X 28 11 6 0 2 v = stp X 28 (0 * 6 + 2) v := fun X v => ts_11_6_2 (r := 0) (by decide)
      have t3' : ∀ (X : St) (v : Int32), tSet X 28 11 6 0 3 v = stp X 28 (0 * 6 + 3) v := fun X v => ts_11_6_3 (r := 0) (by decide)
      have t4' : ∀ (X : St) (v : Int32), tSet X 28 11 6 0 4 v = stp X 28 (0 * 6 + 4) v := fun X v => ts_11_6_4 (r := 0) (by decide)
      have t5' : ∀ (X : St) (v : Int32), tSet X 28 11 6 0 5 v = stp X 28 (0 * 6 + 5) v := fun X v => ts_11_6_5 (r := 0) (by decide)
      rw [f_Val_openBlock, if_pos S30, f_Val_openBlock_15]
      simp (disch := decide) only [lt1, S30, S31, stp_ne, t0', t1', t2', t3', t4', t5']
      rw [hS2]
      rfl
    have hxS2 : VXf s0 S2 := by rw [hS2]; exact (((((((hxS.p (by omega)).p (by omega)).p (by omega)).p (by omega)).p (by omega)).p (by omega)).p (by omega))
    have e13 : S2 13 = s0 13 := hxS2 13 (by decide) (by decide) (by decide)
    obtain ⟨T2, hT2⟩ : ∃ T2, T2 = stI (stI (stI (stI (stI t 0 16 0) 0 17 0) 26 0 (-1)) 27 0 0) 28 0 0 := ⟨_, rfl⟩
    have hmT2 : VMf t0 T2 := by rw [hT2]; exact ((((hm.p0 (by omega)).p0 (by omega)).p (by omega)).p (by omega)).p (by omega)
    have e22 : T2.1 22 f = nI bg := by rw [hmT2.c 22 (by decide) (by decide) (by decide) (by decide) (by decide)]; exact q.m22
    simp only [lt1]
    rw [← hS, eR, bd1_some, eO, bd1_some, e13, tg_8_4_3 (show f < 8 by omega), tg_8_4_2 (show f < 8 by omega), q.x3, q.x2]
    have g0 : ∀ (o : Option SM), gi 0 16 o = o := fun o => gi_n (c := 0) (N := 16) (by decide) (by decide)
    rw [g0, g0, g0, bz0, gi_n (show f < 8 by omega) (by decide), nI_clamp (show f < 2 ^ 31 by omega), show Int32.toNatClampNeg 0 = 0 from rfl, ← hT2, e22]
    have s21 : S2 21 = s 21 := by rw [hS2, hS]; simp (disch := first | decide | omega) only [stp_eq, stp_ne, stp_nj, stI1, stI2, stL1, stL_eq, stL_ne, stL_nj, gi_n, nI_clamp ]
    have t20 : T2.1 20 = t.1 20 := by rw [hT2]; simp (disch := first | decide | omega) only [stp_eq, stp_ne, stp_nj, stI1, stI2, stL1, stL_eq, stL_ne, stL_nj, gi_n, nI_clamp ]
    have I0 : VI w v f (m.res f) bg S2 T2 := by
      refine VI.first hip hdp hh hl ?_ ?_ ?_ ?_ ?_ ?_ ?_ ?_ ?_ ?_ ?_ ?_ ?_ ?_ ?_ ?_
      · rw [hS2]; simp (disch := first | decide | omega) only [stp_eq, stp_ne, stp_nj, stI1, stI2, stL1, stL_eq, stL_ne, stL_nj, gi_n, nI_clamp ]
      · rw [hS2]; simp (disch := first | decide | omega) only [stp_eq, stp_ne, stp_nj, stI1, stI2, stL1, stL_eq, stL_ne, stL_nj, gi_n, nI_clamp ]; exact S31
      · rw [hS2]; simp (disch := first | decide | omega) only [stp_eq, stp_ne, stp_nj, stI1, stI2, stL1, stL_eq, stL_ne, stL_nj, gi_n, nI_clamp ]; rw [hS]; simp (disch := first | decide | omega) only [stp_eq, stp_ne, stp_nj, stI1, stI2, stL1, stL_eq, stL_ne, stL_nj, gi_n, nI_clamp ]
      · rw [hS2]; simp (disch := first | decide | omega) only [stp_eq, stp_ne, stp_nj, stI1, stI2, stL1, stL_eq, stL_ne, stL_nj, gi_n, nI_clamp ]; rw [hS]; simp (disch := first | decide | omega) only [stp_eq, stp_ne, stp_nj, stI1, stI2, stL1, stL_eq, stL_ne, stL_nj, gi_n, nI_clamp ]; exact h3
      · rw [hT2]; simp (disch := first | decide | omega) only [stp_eq, stp_ne, stp_nj, stI1, stI2, stL1, stL_eq, stL_ne, stL_nj, gi_n, nI_clamp ]; exact h5
      · rw [hT2]; simp (disch := first | decide | omega) only [stp_eq, stp_ne, stp_nj, stI1, stI2, stL1, stL_eq, stL_ne, stL_nj, gi_n, nI_clamp ]
      · rw [hT2]; simp (disch := first | decide | omega) only [stp_eq, stp_ne, stp_nj, stI1, stI2, stL1, stL_eq, stL_ne, stL_nj, gi_n, nI_clamp ]
      · rw [hS2]; simp (disch := first | decide | omega) only [stp_eq, stp_ne, stp_nj, stI1, stI2, stL1, stL_eq, stL_ne, stL_nj, gi_n, nI_clamp ]
      · rw [hS2]; simp (disch := first | decide | omega) only [stp_eq, stp_ne, stp_nj, stI1, stI2, stL1, stL_eq, stL_ne, stL_nj, gi_n, nI_clamp ]
      · rw [hS2]; simp (disch := first | decide | omega) only [stp_eq, stp_ne, stp_nj, stI1, stI2, stL1, stL_eq, stL_ne, stL_nj, gi_n, nI_clamp ]
      · rw [hS2]; simp (disch := first | decide | omega) only [stp_eq, stp_ne, stp_nj, stI1, stI2, stL1, stL_eq, stL_ne, stL_nj, gi_n, nI_clamp ]
      · rw [hS2]; simp (disch := first | decide | omega) only [stp_eq, stp_ne, stp_nj, stI1, stI2, stL1, stL_eq, stL_ne, stL_nj, gi_n, nI_clamp ]
      · rw [hS2]; simp (disch := first | decide | omega) only [stp_eq, stp_ne, stp_nj, stI1, stI2, stL1, stL_eq, stL_ne, stL_nj, gi_n, nI_clamp ]
      · rw [hT2]; simp (disch := first | decide | omega) only [stp_eq, stp_ne, stp_nj, stI1, stI2, stL1, stL_eq, stL_ne, stL_nj, gi_n, nI_clamp ]
      · rw [hT2]; simp (disch := first | decide | omega) only [stp_eq, stp_ne, stp_nj, stI1, stI2, stL1, stL_eq, stL_ne, stL_nj, gi_n, nI_clamp ]
      · rw [hT2]; simp (disch := first | decide | omega) only [stp_eq, stp_ne, stp_nj, stI1, stI2, stL1, stL_eq, stL_ne, stL_nj, gi_n, nI_clamp ]
    have H0 : HR w v m bg S2 T2 := ⟨by rw [s21]; exact H.x4, by rw [s21]; exact H.x5, by rw [t20]; exact H.m20, H.sr⟩
    obtain ⟨s2, t2, e1, e2, e3⟩ := bodyv (Z := fun q => ∃ j, j < m.nF ∧ s0 13 (j * 4 + 2) = nI q) (s0 := s0) (t0 := t0) (nP := nP) W hC E0 hfF rfl hlC q.fn q.ol q.il q.m23 RM0 hnP htb px0 (ls - bg) bg v S2 T2 FU FU (by omega) (Nat.le_refl _) (by unfold FU; omega) (by unfold FU; omega) I0 H0 (by rw [s21]; exact RX) hxS2 hmT2 (fun z z1 z2 => by
      obtain ⟨j, j1, j2⟩ := z2
      by_cases e : z = bg
      · rw [e]; exact ⟨hh, hl⟩
      · exact HZ j z j1 (by omega) j2)
    rw [e1, e2, bd1_some, bd1_some]
    rcases e3 with ⟨v', a1, a2, a3, a4, a5, a6, a7, a8, a9⟩ | ⟨e', a1, a2⟩
    · have hnf : w.fn (ls + 1) = f + 1 := by rw [W.nf ls hlC, fnx, if_pos ⟨q.ol, q.il⟩, q.fn ls hbl (Nat.le_refl _)]
      refine ih (f + 1) NX NM v' s2 t2 (ls + 1) (by omega) (by omega) (by omega) a1 a2 a3 a4 a5 a6 a7 a8 (by omega) hnf (fun k hk => ?_) (fun j z j1 z1 j2 => ?_)
      rotate_left
      · by_cases zb : z ≤ bg
        · exact a9 z zb ⟨j, j1, j2⟩
        · obtain ⟨p', e', bg', ls', q'⟩ := FN.all j j1
          have hb' := q'.bl; have hl' := q'.lC
          have ez : z = bg' := (nI_eq (by omega) (by omega)).mp (j2.symm.trans q'.x2)
          have f1 := q'.fn bg' (Nat.le_refl _) hb'
          have f2 := q.fn z (by omega) (by omega)
          have ej : j = f := by rw [ez, f1] at f2; exact f2
          rw [ej, q.x2] at j2
          have := (nI_eq (by omega) (by omega)).mp j2
          omega
      by_cases z : k < bg
      · have := hlt k z; omega
      · have := q.fn k (by omega) (by omega); omega
    · obtain ⟨NX, rfl⟩ : ∃ z, NX = z + 1 := ⟨NX - 1, by omega⟩
      obtain ⟨NM, rfl⟩ : ∃ z, NM = z + 1 := ⟨NM - 1, by omega⟩
      refine ⟨s2, t2, ?_, ?_, Or.inr ⟨e', a1, a2⟩⟩
      · rw [f_Val_judge_66, if_neg a1.ne]
        simp only [lt1, ite_self]
        exact j104 _ _
      · rw [f_M_validate_141, if_neg a2.ne, ite_self, f_M_validate_167]
end VAL
