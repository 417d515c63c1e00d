-- the sections of a module, one after the other
def FF (s : St) : Option (Int32 × St) := some (s 2 5, s)
def ModR (s0 : St) (t0 : SM) (s' : St) (t' : SM) : Prop := ∃ L pl nT nF nG nE nD w C nP, s' 2 5 = 0 ∧ t'.1 0 5 = 0 ∧ FX s0 s' ∧ FM t0 t' ∧ pl ≤ 240 ∧ MS L pl s' t' nT nF nG nE nD nF w C nP
def QM (pl id : Nat) (s' : St) (t' : SM) : Prop := ∃ p nT nF nG nE nD nB w C nP, pl < p ∧ p ≤ 240 ∧ s' 2 2 = nI p ∧ MS (id + 1) p s' t' nT nF nG nE nD nB w C nP
theorem kx_107 {x y : Int32} {s0 s : St} {e : Nat} (h : BX s0 e s) : okg FF (f_Rd_readModule_107 x y s) (BX s0 e) := by
  rw [f_Rd_readModule_107]
  simp only [lt1, f_Rd_readModule_129, xr_flt h.ne, bd1_some, ite_self]
  exact ⟨s, rfl, h⟩
theorem kx_59 {n : Nat} {x y : Int32} {s0 s : St} {e : Nat} (h : BX s0 e s) : okg FF (f_Rd_readModule_59 (n + 1) x y s) (BX s0 e) := by
  rw [f_Rd_readModule_59, if_neg h.ne, ite_self]
  exact kx_107 h
theorem km_208 {x : Int32} {t0 t : SM} {e : Nat} (h : BM t0 e t) : okg some (f_M_readModule_208 x t) (BM t0 e) := by
  rw [f_M_readModule_208]
  simp only [f_M_readModule_225, mw_flt h.ne, bd1_some, ite_self]
  exact okg.some h
theorem km_73m {n : Nat} {x : Int32} {t0 t : SM} {e : Nat} (h : BM t0 e t) : okg some (f_M_readModule_73 (n + 1) x t) (BM t0 e) := by
  rw [f_M_readModule_73, if_neg h.ne, ite_self]
  exact km_208 h
theorem mostOf_ex (x : Int32) : ∃ r, f_Rd_mostOf x = some r := by
  rw [f_Rd_mostOf]
  simp only [f_Rd_mostOf_63, f_Rd_mostOf_75]
  repeat' split
  all_goals exact ⟨_, rfl⟩
theorem kx_rs {γ : Type} {F kX : St → Option γ} {s0 s : St} {e : Nat} {x : Int32} (hk : ∀ s, BX s0 e s → okg F (kX s) (BX s0 e)) (h : BX s0 e s) : okg F (bd1 (f_Rd_readSection x s) kX) (BX s0 e) := by
  obtain ⟨r, hr⟩ := mostOf_ex x
  obtain ⟨fu', hfu, hfu2⟩ := FU_s
  have hxs : ∀ s y, BX s0 e s → okg F (bd1 (f_Rd_readSection_56 FU x y 0 s) kX) (BX s0 e) := by
    intro s y hB
    rw [hfu]
    exact kx_s56 hk hB
  rw [f_Rd_readSection]
  simp only [f_Rd_readSection_38, f_Rd_readSection_54, hr]
  simp only [lt1, bd_bd, bd_bd1, bd1_bd, bd1_bd1, bd_some, bd1_some, bd_ite, bd1_ite ]
  (repeat' first | (with_reducible first | exact okg.some (by (repeat first | assumption | refine BX.ta (by with_unfolding_all decide) (by with_unfolding_all decide) (by with_unfolding_all decide) ?_ | refine BX.pa (by with_unfolding_all decide) (by with_unfolding_all decide) (by with_unfolding_all decide) ?_ | refine BX.ra (by with_unfolding_all decide) (by with_unfolding_all decide) (by with_unfolding_all decide) ?_ | refine BX.p2 (by with_unfolding_all decide) (by with_unfolding_all decide) ?_)) | refine kx_byte (by (repeat first | assumption | refine BX.ta (by with_unfolding_all decide) (by with_unfolding_all decide) (by with_unfolding_all decide) ?_ | refine BX.pa (by with_unfolding_all decide) (by with_unfolding_all decide) (by with_unfolding_all decide) ?_ | refine BX.ra (by with_unfolding_all decide) (by with_unfolding_all decide) (by with_unfolding_all decide) ?_ | refine BX.p2 (by with_unfolding_all decide) (by with_unfolding_all decide) ?_)) ?_ | refine kx_ref (by (repeat first | assumption | refine BX.ta (by with_unfolding_all decide) (by with_unfolding_all decide) (by with_unfolding_all decide) ?_ | refine BX.pa (by with_unfolding_all decide) (by with_unfolding_all decide) (by with_unfolding_all decide) ?_ | refine BX.ra (by with_unfolding_all decide) (by with_unfolding_all decide) (by with_unfolding_all decide) ?_ | refine BX.p2 (by with_unfolding_all decide) (by with_unfolding_all decide) ?_)) ?_ | refine kx_exp (by (repeat first | assumption | refine BX.ta (by with_unfolding_all decide) (by with_unfolding_all decide) (by with_unfolding_all decide) ?_ | refine BX.pa (by with_unfolding_all decide) (by with_unfolding_all decide) (by with_unfolding_all decide) ?_ | refine BX.ra (by with_unfolding_all decide) (by with_unfolding_all decide) (by with_unfolding_all decide) ?_ | refine BX.p2 (by with_unfolding_all decide) (by with_unfolding_all decide) ?_)) ?_ | refine kx_uns (by (repeat first | assumption | refine BX.ta (by with_unfolding_all decide) (by with_unfolding_all decide) (by with_unfolding_all decide) ?_ | refine BX.pa (by with_unfolding_all decide) (by with_unfolding_all decide) (by with_unfolding_all decide) ?_ | refine BX.ra (by with_unfolding_all decide) (by with_unfolding_all decide) (by with_unfolding_all decide) ?_ | refine BX.p2 (by with_unfolding_all decide) (by with_unfolding_all decide) ?_)) (fun _ => ?_) | refine kx_sgn (by (repeat first | assumption | refine BX.ta (by with_unfolding_all decide) (by with_unfolding_all decide) (by with_unfolding_all decide) ?_ | refine BX.pa (by with_unfolding_all decide) (by with_unfolding_all decide) (by with_unfolding_all decide) ?_ | refine BX.ra (by with_unfolding_all decide) (by with_unfolding_all decide) (by with_unfolding_all decide) ?_ | refine BX.p2 (by with_unfolding_all decide) (by with_unfolding_all decide) ?_)) (fun _ => ?_) | refine kx_end (by (repeat first | assumption | refine BX.ta (by with_unfolding_all decide) (by with_unfolding_all decide) (by with_unfolding_all decide) ?_ | refine BX.pa (by with_unfolding_all decide) (by with_unfolding_all decide) (by with_unfolding_all decide) ?_ | refine BX.ra (by with_unfolding_all decide) (by with_unfolding_all decide) (by with_unfolding_all decide) ?_ | refine BX.p2 (by with_unfolding_all decide) (by with_unfolding_all decide) ?_)) (fun _ => ?_) | refine kx_val (by (repeat first | assumption | refine BX.ta (by with_unfolding_all decide) (by with_unfolding_all decide) (by with_unfolding_all decide) ?_ | refine BX.pa (by with_unfolding_all decide) (by with_unfolding_all decide) (by with_unfolding_all decide) ?_ | refine BX.ra (by with_unfolding_all decide) (by with_unfolding_all decide) (by with_unfolding_all decide) ?_ | refine BX.p2 (by with_unfolding_all decide) (by with_unfolding_all decide) ?_)) ?_ | refine kx_one (by (repeat first | assumption | refine BX.ta (by with_unfolding_all decide) (by with_unfolding_all decide) (by with_unfolding_all decide) ?_ | refine BX.pa (by with_unfolding_all decide) (by with_unfolding_all decide) (by with_unfolding_all decide) ?_ | refine BX.ra (by with_unfolding_all decide) (by with_unfolding_all decide) (by with_unfolding_all decide) ?_ | refine BX.p2 (by with_unfolding_all decide) (by with_unfolding_all decide) ?_)) (fun _ => ?_) | refine kx_con (by (repeat first | assumption | refine BX.ta (by with_unfolding_all decide) (by with_unfolding_all decide) (by with_unfolding_all decide) ?_ | refine BX.pa (by with_unfolding_all decide) (by with_unfolding_all decide) (by with_unfolding_all decide) ?_ | refine BX.ra (by with_unfolding_all decide) (by with_unfolding_all decide) (by with_unfolding_all decide) ?_ | refine BX.p2 (by with_unfolding_all decide) (by with_unfolding_all decide) ?_)) (fun _ => ?_) | refine kx_vts (by (repeat first | assumption | refine BX.ta (by with_unfolding_all decide) (by with_unfolding_all decide) (by with_unfolding_all decide) ?_ | refine BX.pa (by with_unfolding_all decide) (by with_unfolding_all decide) (by with_unfolding_all decide) ?_ | refine BX.ra (by with_unfolding_all decide) (by with_unfolding_all decide) (by with_unfolding_all decide) ?_ | refine BX.p2 (by with_unfolding_all decide) (by with_unfolding_all decide) ?_)) (fun _ => ?_) | refine kx_abv (fun _ => ?_) | simp only [lt1]) | with_reducible exact hxs _ _ (by (repeat first | assumption | refine BX.ta (by with_unfolding_all decide) (by with_unfolding_all decide) (by with_unfolding_all decide) ?_ | refine BX.pa (by with_unfolding_all decide) (by with_unfolding_all decide) (by with_unfolding_all decide) ?_ | refine BX.ra (by with_unfolding_all decide) (by with_unfolding_all decide) (by with_unfolding_all decide) ?_ | refine BX.p2 (by with_unfolding_all decide) (by with_unfolding_all decide) ?_)) | (with_reducible split))
theorem xj_flt {s : St} (h : ¬ s 2 5 = 0) (x y : Int32) : f_Rd_judgeSection x y s = some s := by
  obtain ⟨r, hr⟩ := mostOf_ex x
  rw [f_Rd_judgeSection]
  simp only [f_Rd_judgeSection_11, f_Rd_judgeSection_31, xr_flt h, bd1_some, hr, ite_self]
theorem km_121 {k73 : Int32 → SM → Option SM} {x1 x2 y : Int32} {t0 t : SM} {e : Nat} (h : BM t0 e t) : okg some (f_M_readModule_121 k73 x1 x2 y t) (BM t0 e) := by
  have h158 : ∀ y, okg some (f_M_readModule_158 k73 x1 x2 y t) (BM t0 e) := by
    intro y
    obtain ⟨r, hr⟩ := ma_flt h
    rw [f_M_readModule_158, mw_flt h.ne, bd1_some, hr, bd_some, if_neg h.nle]
    exact okg.some h
  rw [f_M_readModule_121, mw_flt h.ne, bd1_some]
  simp only [f_M_readModule_153, f_M_readModule_147]
  repeat' split
  all_goals exact h158 _
/-- the numbers of the sections -/
def sid (b : Nat) : Bool := decide (b = 1) || decide (b = 3) || decide (b = 5) || decide (b = 6) || decide (b = 7) || decide (b = 10) || decide (b = 11)
theorem most_s : ∀ b, b < 12 → f_Rd_mostOf (nI b) = some (if b = 1 ∨ b = 3 ∨ b = 7 ∨ b = 10 then 8 else if b = 5 then 1 else if b = 6 ∨ b = 11 then 4 else 0) := by decide +kernel
theorem m121_s {k73 : Int32 → SM → Option SM} {x1 : Int32} {t : SM} : ∀ b, b < 12 → f_M_readModule_121 k73 x1 (nI b) 1 t = f_M_readModule_158 k73 x1 (nI b) (if sid b = true then 1 else 0) t := by
  intro b hb
  rw [f_M_readModule_121, mw_t (by decide), bd1_some]
  simp only [f_M_readModule_153, f_M_readModule_147]
  rcases (show b = 0 ∨ b = 1 ∨ b = 2 ∨ b = 3 ∨ b = 4 ∨ b = 5 ∨ b = 6 ∨ b = 7 ∨ b = 8 ∨ b = 9 ∨ b = 10 ∨ b = 11 by omega) with q | q | q | q | q | q | q | q | q | q | q | q
  all_goals subst q
  all_goals simp only [sid, lit_1, lit_3, lit_4, lit_8, lit_9, lit_0]
  all_goals simp (disch := omega) only [nI_leI, nI_ltI, nI_eq, if_pos, if_neg, if_true, if_false ]
  all_goals rfl
theorem pre_lt {L b : Nat} (hL : L ≤ 12) (hb : b < 256) : (nI L - 1 < nI b) ↔ L ≤ b := by
  cases L with
  | zero =>
    have h1 : (nI 0 - 1 : Int32) = -1 := by decide +kernel
    rw [h1]
    constructor
    · intro _; omega
    · intro _
      have h2 : (-1 : Int32) < 0 := by decide +kernel
      have h3 := nI_pos' (n := b) (by omega)
      exact Int32.lt_of_lt_of_le h2 h3
  | succ k => rw [nI_pred, nI_ltI (by omega) (by omega)]; omega
theorem pre_le {L b : Nat} (hL : L ≤ 12) (hb : b < 256) : (nI b ≤ nI L - 1) ↔ ¬ L ≤ b := by
  rw [← pre_lt hL hb, Int32.not_lt]
theorem ms_b {x : Int32} (t : SM) {M : SM → Option SM} (h : f_M_readSection x t = bd1 (M t) fun s => f_M_readSection_79 x s) : f_M_readSection x t = M t := by
  rw [h]
  simp only [f_M_readSection_79]
  cases M t <;> rfl
theorem ms_1 (t : SM) : f_M_readSection (nI 1) t = f_M_readTypes t := ms_b t (by rw [f_M_readSection, if_pos (show nI 1 = 1 from rfl)])
theorem ms_3 (t : SM) : f_M_readSection (nI 3) t = f_M_readFunctions t := ms_b t (by rw [f_M_readSection, if_neg (show ¬ nI 3 = 1 by decide), if_pos (show nI 3 = 3 from rfl)])
theorem ms_5 (t : SM) : f_M_readSection (nI 5) t = f_M_readMemory t := ms_b t (by rw [f_M_readSection, if_neg (show ¬ nI 5 = 1 by decide), if_neg (show ¬ nI 5 = 3 by decide), if_pos (show nI 5 = 5 from rfl)])
theorem ms_6 (t : SM) : f_M_readSection (nI 6) t = f_M_readGlobals t := ms_b t (by rw [f_M_readSection, if_neg (show ¬ nI 6 = 1 by decide), if_neg (show ¬ nI 6 = 3 by decide), if_neg (show ¬ nI 6 = 5 by decide), if_pos (show nI 6 = 6 from rfl)])
theorem ms_7 (t : SM) : f_M_readSection (nI 7) t = f_M_readExports t := ms_b t (by rw [f_M_readSection, if_neg (show ¬ nI 7 = 1 by decide), if_neg (show ¬ nI 7 = 3 by decide), if_neg (show ¬ nI 7 = 5 by decide), if_neg (show ¬ nI 7 = 6 by decide), if_pos (show nI 7 = 7 from rfl)])
theorem ms_10 (t : SM) : f_M_readSection (nI 10) t = f_M_readCode t := ms_b t (by rw [f_M_readSection, if_neg (show ¬ nI 10 = 1 by decide), if_neg (show ¬ nI 10 = 3 by decide), if_neg (show ¬ nI 10 = 5 by decide), if_neg (show ¬ nI 10 = 6 by decide), if_neg (show ¬ nI 10 = 7 by decide), if_pos (show nI 10 = 10 from rfl)])
theorem ms_11 (t : SM) : f_M_readSection (nI 11) t = f_M_readData t := ms_b t (by rw [f_M_readSection, if_neg (show ¬ nI 11 = 1 by decide), if_neg (show ¬ nI 11 = 3 by decide), if_neg (show ¬ nI 11 = 5 by decide), if_neg (show ¬ nI 11 = 6 by decide), if_neg (show ¬ nI 11 = 7 by decide), if_neg (show ¬ nI 11 = 10 by decide)])
