-- the whole module
theorem modl2 {s0 : St} {t0 : SM} {fed : Nat} (hfx : s0 2 1 = nI fed) (hfm : t0.1 0 1 = nI fed) (hfed : fed ≤ 240) : ∀ d n nX nM L s t pl nT nF nG nE nD nB w C nP, fed < pl + d → (n = 0 ∨ n < L) → L ≤ 12 → d < nX → d < nM → AC s0 t0 s (stI t 0 4 (nI fed)) pl fed → MS L pl s t nT nF nG nE nD nB w C nP →
    o2 FF some (f_Rd_readModule_59 nX (nI L - 1) (nI n) s) (f_M_readModule_73 nM (nI L - 1) t) (RB s0 t0 (ModR s0 t0)) := by
  intro d
  induction d with
  | zero =>
    intro n nX nM L s t pl nT nF nG nE nD nB w C nP hd
    intro _ _ _ _ h
    have := bd240 h.1
    omega
  | succ d ih =>
    intro n nX nM L s t pl nT nF nG nE nD nB w C nP hd hn hL hX hM h hS
    obtain ⟨nX, rfl⟩ : ∃ n, nX = n + 1 + 1 := ⟨nX - 2, by omega⟩
    obtain ⟨nM, rfl⟩ : ∃ n, nM = n + 1 + 1 := ⟨nM - 2, by omega⟩
    obtain ⟨hA, hx, hm⟩ := h
    have hb := bd240 hA
    have hs1 : s 2 1 = nI fed := hx.2.2.trans hfx
    have hm' : FM t0 t := ⟨by have := hm.1; rw [stI1, stp_ne _ _ _ (by decide)] at this; exact this, fun j hj => by
      have := hm.2 j hj
      rw [stI1, stp_nj _ _ _ (fun q => by rw [q] at hj; exact absurd hj (by decide))] at this
      exact this⟩
    have ht1 : t.1 0 1 = nI fed := (hm'.2 1 (by decide)).trans hfm
    have t5 : t.1 0 5 = 0 := by have := hA.2.1; rw [stI1, stp_nj _ _ _ (by decide)] at this; exact this
    have t3 : t.1 0 3 = nI pl := by have := hA.2.2.2.1; rw [stI1, stp_nj _ _ _ (by decide)] at this; exact this
    rw [f_Rd_readModule_59, f_M_readModule_73, if_neg (show ¬ (11 : Int32) < nI n from nI_nlt (a := 11) (by omega) (by decide)), hA.1, if_pos rfl, hs1, hA.2.2.1, ht1, t3, t5, if_pos rfl]
    by_cases hpf : fed ≤ pl
    · rw [if_pos (nI_le hpf (by omega)), if_pos (nI_le hpf (by omega)), f_Rd_readModule_107, f_M_readModule_208]
      simp only [lt1, f_Rd_readModule_129, f_M_readModule_225]
      rw [hS.g24, hS.ty.x12, hS.m8, hS.ty.m7]
      have hF8 := hS.ty.hF
      have hB8 := hS.hB
      by_cases hBF : nB = nF
      · subst hBF
        rw [if_pos rfl, if_pos rfl, mw_t (by decide), bd1_some]
        exact ⟨s, t, by rw [FF], rfl, Or.inl ⟨L, pl, nT, nB, nG, nE, nD, w, C, nP, hA.1, t5, hx, hm', by omega, hS⟩⟩
      · have hne : ¬ nI nB = nI nF := fun q => hBF ((nI_eq (by omega) (by omega)).mp q)
        rw [if_neg hne, if_neg hne, xr_0 hA.1 1, mw_f t5 1, bd1_some, bd1_some]
        exact r_BB ⟨_, rfl, BX.m1 hx⟩ (okg.some (BM.m1 hm'))
    · rw [if_neg (nI_ge (by omega) (by omega)), if_neg (nI_ge (by omega) (by omega))]
      simp only [lt1, nI_1]
      refine r_byte hA (fun b hbb hp h1 => ?_) (fun s' t' hf => ?_)
      · have hX9 : ∀ e s, BX s0 e s → okg FF (f_Rd_readModule_59 (nX + 1) (nI b) (nI (n + 1)) s) (BX s0 e) := fun e s hB => kx_59 hB
        have hM9 : ∀ e x t, BM t0 e t → okg some (f_M_readModule_73 (nM + 1) x t) (BM t0 e) := fun e x t hB => km_73m hB
        have b1 := BX.m1 (s0 := s0) (s := stp s 2 2 (nI (pl + 1))) (by repeat first | assumption | refine FX.pa (by decide) (by decide) (by decide) ?_ | refine FX.p2 (by decide) ?_)
        have b2 := BM.m1 (t0 := t0) (t := stI (stI t 0 4 (nI fed)) 0 3 (nI (pl + 1))) (by repeat first | assumption | refine FM.pa (by decide) (by decide) ?_ | refine FM.p0 (by decide) ?_ | refine FM.la ?_)
        have c1 := BX.m2 (s0 := s0) (s := stp s 2 2 (nI (pl + 1))) (by repeat first | assumption | refine FX.pa (by decide) (by decide) (by decide) ?_ | refine FX.p2 (by decide) ?_)
        have c2 := BM.m2 (t0 := t0) (t := stI (stI t 0 4 (nI fed)) 0 3 (nI (pl + 1))) (by repeat first | assumption | refine FM.pa (by decide) (by decide) ?_ | refine FM.p0 (by decide) ?_ | refine FM.la ?_)
        by_cases h12 : 12 ≤ b
        · rw [f_Rd_judgeSection, if_pos (show (11 : Int32) < nI b from nI_lt (a := 11) (by omega) (by omega)), if_pos (show (12 : Int32) ≤ nI b from nI_le (a := 12) h12 (by omega)), f_Rd_judgeSection_11, xr_0 h1.1 1, bd1_some, f_Rd_judgeSection_31, bd1_some, f_M_readModule_120, f_M_readModule_121, mw_f h1.2.1 1, bd1_some]
          refine r_BB (kx_rs (hX9 1) b1) ?_
          have := km_121 (k73 := f_M_readModule_73 (nM + 1)) (x1 := nI L - 1) (x2 := nI b) (y := 1) b2
          rw [f_M_readModule_121, mw_t (by decide), bd1_some] at this
          exact this
        · rw [f_Rd_judgeSection, if_neg (show ¬ (11 : Int32) < nI b from nI_nlt (a := 11) (by omega) (by omega)), if_neg (show ¬ (12 : Int32) ≤ nI b from nI_ge (b := 12) (by omega) (by decide))]
          by_cases hLb : L ≤ b
          · rw [if_pos ((pre_lt hL hbb).mpr hLb), if_neg (fun q => (pre_le hL hbb).mp q hLb), most_s b (by omega), m121_s b (by omega), bd1_some]
            have hAC1 : AC s0 t0 (stp s 2 2 (nI (pl + 1))) (stI (stI t 0 4 (nI fed)) 0 3 (nI (pl + 1))) (pl + 1) fed := ⟨h1, (by repeat first | assumption | refine FX.pa (by decide) (by decide) (by decide) ?_ | refine FX.p2 (by decide) ?_), (by repeat first | assumption | refine FM.pa (by decide) (by decide) ?_ | refine FM.p0 (by decide) ?_ | refine FM.la ?_)⟩
            have hS1 : MS L (pl + 1) (stp s 2 2 (nI (pl + 1))) (stI (stI t 0 4 (nI fed)) 0 3 (nI (pl + 1))) nT nF nG nE nD nB w C nP := hS.fr (fun a ha => by simp (disch := first | decide | omega) only [stp_eq, stp_ne, stp_nj, stI1, stI2, stL1, stL_eq, stL_ne, stL_nj, gi_n, nI_clamp ]) (by simp (disch := first | decide | omega) only [stp_eq, stp_ne, stp_nj, stI1, stI2, stL1, stL_eq, stL_ne, stL_nj, gi_n, nI_clamp ]) (fun a ha => by simp (disch := first | decide | omega) only [stp_eq, stp_ne, stp_nj, stI1, stI2, stL1, stL_eq, stL_ne, stL_nj, gi_n, nI_clamp ]) rfl (fun j h3 h4 h5 => by simp (disch := first | decide | omega) only [stp_eq, stp_ne, stp_nj, stI1, stI2, stL1, stL_eq, stL_ne, stL_nj, gi_n, nI_clamp ]) (by omega)
            have N : sid b = true → Nsec s0 t0 FF (fun s4 => f_Rd_readModule_59 (nX + 1) (nI b) (nI (n + 1)) s4) (f_M_readModule_73 (nM + 1)) b fed (ModR s0 t0) (QM pl b) := by
              intro hsb s' t' pl' hp' hAC' hQ
              obtain ⟨p, nT', nF', nG', nE', nD', nB', w', C', nP', q1, q2, q3, q4⟩ := hQ
              have hpp : p = pl' := by
                have := hAC'.1.2.2.1
                rw [stp_nj _ _ _ (by decide), q3] at this
                exact (nI_eq (by omega) (by omega)).mp this
              subst hpp
              have hb0 : b ≠ 0 := fun q => by rw [q] at hsb; exact absurd hsb (by decide)
              have := ih (n + 1) (nX + 1) (nM + 1) (b + 1) (stp s' 2 3 (nI fed)) t' p nT' nF' nG' nE' nD' nB' w' C' nP' (by omega) (Or.inr (by omega)) (by omega) (by omega) (by omega) hAC' (q4.fr (fun a ha => by simp (disch := first | decide | omega) only [stp_eq, stp_ne, stp_nj, stI1, stI2, stL1, stL_eq, stL_ne, stL_nj, gi_n, nI_clamp ]) (by simp (disch := first | decide | omega) only [stp_eq, stp_ne, stp_nj, stI1, stI2, stL1, stL_eq, stL_ne, stL_nj, gi_n, nI_clamp ]) (fun a ha => rfl) rfl (fun j _ _ _ => rfl) (Nat.le_refl _))
              rw [nI_pred] at this
              exact this
            by_cases hsb : sid b = true
            · rw [if_pos hsb, f_M_readModule_158, mw_t (by decide), bd1_some]
              have hne : ∀ {α : Type} (x y : Option α) (r : Int32), ¬ r = 0 → (if r = 0 then x else y) = y := fun x y r hr => if_neg hr
              have hbs : b = 1 ∨ b = 3 ∨ b = 5 ∨ b = 6 ∨ b = 7 ∨ b = 10 ∨ b = 11 := by
                unfold sid at hsb
                simp only [Bool.or_eq_true, decide_eq_true_eq] at hsb
                omega
              have hmz : ¬ (if b = 1 ∨ b = 3 ∨ b = 7 ∨ b = 10 then (8 : Int32) else if b = 5 then 1 else if b = 6 ∨ b = 11 then 4 else 0) = 0 := by
                rcases hbs with q | q | q | q | q | q | q <;> subst q <;> decide
              rw [if_neg hmz, f_Rd_judgeSection_31, bd1_some]
              simp only [lt1]
              rcases hbs with q | q | q | q | q | q | q
              · subst q
                simp only [ms_1]
                exact go_1 hfx hfm hfed hAC1 (by omega) hS1 hLb (N hsb) hX9 hM9
              · subst q
                simp only [ms_3]
                exact go_3 hfx hfm hfed hAC1 (by omega) hS1 hLb (N hsb) hX9 hM9
              · subst q
                simp only [ms_5]
                exact go_5 hfx hfm hfed hAC1 (by omega) hS1 hLb (N hsb) hX9 hM9
              · subst q
                simp only [ms_6]
                exact go_6 hfx hfm hfed hAC1 (by omega) hS1 hLb (N hsb) hX9 hM9
              · subst q
                simp only [ms_7]
                exact go_7 hfx hfm hfed hAC1 (by omega) hS1 hLb (N hsb) hX9 hM9
              · subst q
                simp only [ms_10]
                exact go_10 hfx hfm hfed hAC1 (by omega) hS1 hLb (N hsb) hX9 hM9
              · subst q
                simp only [ms_11]
                exact go_11 hfx hfm hfed hAC1 (by omega) hS1 hLb (N hsb) hX9 hM9
            · rw [if_neg hsb, f_M_readModule_158, mw_f h1.2.1 2, bd1_some]
              have hbs : ¬ (b = 1 ∨ b = 3 ∨ b = 5 ∨ b = 6 ∨ b = 7 ∨ b = 10 ∨ b = 11) := by
                intro q
                apply hsb
                rcases q with q | q | q | q | q | q | q <;> subst q <;> decide
              have hmz : (if b = 1 ∨ b = 3 ∨ b = 7 ∨ b = 10 then (8 : Int32) else if b = 5 then 1 else if b = 6 ∨ b = 11 then 4 else 0) = 0 := by
                rw [if_neg (show ¬ (b = 1 ∨ b = 3 ∨ b = 7 ∨ b = 10) by omega), if_neg (show ¬ b = 5 by omega), if_neg (show ¬ (b = 6 ∨ b = 11) by omega)]
              rw [if_pos hmz, xr_0 h1.1 2, bd1_some, f_Rd_judgeSection_31, bd1_some]
              refine r_BB (kx_rs (hX9 2) c1) ?_
              obtain ⟨r, hr⟩ := ma_flt c2
              rw [hr, bd_some, if_neg c2.nle]
              exact okg.some c2
          · rw [if_neg (fun q => hLb ((pre_lt hL hbb).mp q)), if_pos ((pre_le hL hbb).mpr hLb), f_Rd_judgeSection_11, xr_0 h1.1 1, bd1_some, f_Rd_judgeSection_31, bd1_some, f_M_readModule_120, f_M_readModule_121, mw_f h1.2.1 1, bd1_some]
            refine r_BB (kx_rs (hX9 1) b1) ?_
            have := km_121 (k73 := f_M_readModule_73 (nM + 1)) (x1 := nI L - 1) (x2 := nI b) (y := 1) b2
            rw [f_M_readModule_121, mw_t (by decide), bd1_some] at this
            exact this
      · obtain ⟨e, B1, B2⟩ := hf.B hx hm
        rw [xj_flt B1.ne, bd1_some]
        refine r_BB (kx_rs (fun s hB => kx_59 hB) B1) ?_
        split
        · exact km_121 B2
        · split
          · exact km_121 B2
          · exact km_121 B2
theorem hdr_m {n : Nat} {t : SM} : ∀ k, k < 8 → f_M_readModule_15 (n + 1) (nI k) t = bd1 (f_M_exactly (hdr k) t) fun s1 => f_M_readModule_15 n (nI (k + 1)) s1 := by
  intro k hk
  rw [f_M_readModule_15]
  simp only [f_M_readModule_62, lt1, lit_8]
  rcases (show k = 0 ∨ k = 1 ∨ k = 2 ∨ k = 3 ∨ k = 4 ∨ k = 5 ∨ k = 6 ∨ k = 7 by omega) with q | q | q | q | q | q | q | q
  all_goals subst q
  all_goals simp only [lit_1, lit_2, lit_3, lit_4, nI_add]
  all_goals simp (disch := omega) only [nI_leI, nI_ltI, nI_eq, if_pos, if_neg, if_true, if_false ]
  all_goals rfl
theorem hdr_x {n : Nat} {s : St} {k : Nat} (hk : k < 8) : f_Rd_readModule_32 (n + 1) (nI k) s = bd1 (f_Rd_expect (hdr k) s) fun s2 => f_Rd_readModule_32 n (nI (k + 1)) s2 := by
  rw [f_Rd_readModule_32, if_neg (show ¬ (8 : Int32) ≤ nI k from nI_ge (b := 8) hk (by decide)), gi_n hk (by decide), nI_clamp (by omega)]
  simp only [lt1, nI_1]
theorem head2 {s0 : St} {t0 : SM} {fed : Nat} (hfx : s0 2 1 = nI fed) (hfm : t0.1 0 1 = nI fed) (hfed : fed ≤ 240) {nT nF nG nE nD nB : Nat} {w : Cd} {C nP : Nat} : ∀ d k nX nM s t pl, k + d = 8 → d < nX → d < nM → AC s0 t0 s t pl fed → MS 0 pl s t nT nF nG nE nD nB w C nP →
    o2 FF some (f_Rd_readModule_32 nX (nI k) s) (f_M_readModule_15 nM (nI k) t) (RB s0 t0 (ModR s0 t0)) := by
  obtain ⟨fu', hfu, hfu2⟩ := FU_s
  have kx : ∀ d k nX s e, k + d = 8 → d < nX → BX s0 e s → okg FF (f_Rd_readModule_32 nX (nI k) s) (BX s0 e) := by
    intro d
    induction d with
    | zero =>
      intro k nX s e hk hX hB
      obtain ⟨nX, rfl⟩ : ∃ n, nX = n + 1 := ⟨nX - 1, by omega⟩
      rw [f_Rd_readModule_32, if_pos (show (8 : Int32) ≤ nI k from nI_le (a := 8) (by omega) (by omega)), hfu]
      exact kx_59 hB
    | succ d ih =>
      intro k nX s e hk hX hB
      obtain ⟨nX, rfl⟩ : ∃ n, nX = n + 1 := ⟨nX - 1, by omega⟩
      rw [hdr_x (by omega)]
      exact kx_exp hB (ih (k + 1) nX s e (by omega) (by omega) hB)
  have km : ∀ d k nX t e, k + d = 8 → d < nX → BM t0 e t → okg some (f_M_readModule_15 nX (nI k) t) (BM t0 e) := by
    intro d
    induction d with
    | zero =>
      intro k nX s e hk hX hB
      obtain ⟨nX, rfl⟩ : ∃ n, nX = n + 1 := ⟨nX - 1, by omega⟩
      rw [f_M_readModule_15, if_pos (show (8 : Int32) ≤ nI k from nI_le (a := 8) (by omega) (by omega)), hfu]
      exact km_73m hB
    | succ d ih =>
      intro k nX s e hk hX hB
      obtain ⟨nX, rfl⟩ : ∃ n, nX = n + 1 := ⟨nX - 1, by omega⟩
      rw [hdr_m k (by omega)]
      exact km_exp hB (ih (k + 1) nX s e (by omega) (by omega) hB)
  intro d
  induction d with
  | zero =>
    intro k nX nM s t pl hk hX hM h hS
    obtain ⟨nX, rfl⟩ : ∃ n, nX = n + 1 := ⟨nX - 1, by omega⟩
    obtain ⟨nM, rfl⟩ : ∃ n, nM = n + 1 := ⟨nM - 1, by omega⟩
    have h8 : (8 : Int32) ≤ nI k := nI_le (a := 8) (by omega) (by omega)
    rw [f_Rd_readModule_32, if_pos h8, f_M_readModule_15, if_pos h8]
    have hAC : AC s0 t0 s (stI t 0 4 (nI fed)) pl fed := by
      rw [← h.1.2.2.2.2.2.1, stI_self]; exact h
    have := modl2 hfx hfm hfed 241 0 FU FU 0 s t pl nT nF nG nE nD nB w C nP (by omega) (Or.inl rfl) (by omega) (by omega) (by omega) hAC hS
    rw [← neg1] at this
    exact this
  | succ d ih =>
    intro k nX nM s t pl hk hX hM h hS
    obtain ⟨nX, rfl⟩ : ∃ n, nX = n + 1 := ⟨nX - 1, by omega⟩
    obtain ⟨nM, rfl⟩ : ∃ n, nM = n + 1 := ⟨nM - 1, by omega⟩
    obtain ⟨hA, hx, hm⟩ := h
    rw [hdr_x (by omega), hdr_m k (by omega)]
    refine r_exp hA (fun hp h1 => ?_) (fun s' t' hf => r_B hx hm hf (fun e hB => kx d (k + 1) nX s' e (by omega) (by omega) hB) (fun e hB => km d (k + 1) nM t' e (by omega) (by omega) hB))
    exact ih (k + 1) nX nM _ _ (pl + 1) (by omega) (by omega) (by omega) ⟨h1, (by repeat first | assumption | refine FX.pa (by decide) (by decide) (by decide) ?_ | refine FX.p2 (by decide) ?_), (by repeat first | assumption | refine FM.pa (by decide) (by decide) ?_ | refine FM.p0 (by decide) ?_ | refine FM.la ?_)⟩ (hS.fr (fun a ha => by simp (disch := first | decide | omega) only [stp_eq, stp_ne, stp_nj, stI1, stI2, stL1, stL_eq, stL_ne, stL_nj, gi_n, nI_clamp ]) (by simp (disch := first | decide | omega) only [stp_eq, stp_ne, stp_nj, stI1, stI2, stL1, stL_eq, stL_ne, stL_nj, gi_n, nI_clamp ]) (fun a ha => by simp (disch := first | decide | omega) only [stp_eq, stp_ne, stp_nj, stI1, stI2, stL1, stL_eq, stL_ne, stL_nj, gi_n, nI_clamp ]) rfl (fun j h3 h4 h5 => by simp (disch := first | decide | omega) only [stp_eq, stp_ne, stp_nj, stI1, stI2, stL1, stL_eq, stL_ne, stL_nj, gi_n, nI_clamp ]) (by omega))
