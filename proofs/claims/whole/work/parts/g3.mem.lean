-- running: memory
theorem sg8 (x : Int32) : x.toInt8.toInt32 = x <<< 24 >>> 24 := by
  apply Int32.toBitVec_inj.mp
  show (x.toBitVec.signExtend 8).signExtend 32 = (x.toBitVec <<< ((24 : Int32).toBitVec.smod 32)).sshiftRight ((24 : Int32).toBitVec.smod 32).toNat
  rw [show ((24 : Int32).toBitVec.smod 32).toNat = 24 by decide, show (x.toBitVec <<< ((24 : Int32).toBitVec.smod 32)) = x.toBitVec <<< 24 by rw [show ((24 : Int32).toBitVec.smod 32) = 24#32 by decide]; rfl]
  apply BitVec.eq_of_getLsbD_eq
  intro i hi
  simp only [BitVec.getLsbD_signExtend, BitVec.getLsbD_sshiftRight, BitVec.msb_eq_getLsbD_last, BitVec.getLsbD_shiftLeft]
  have e1 : decide (i < 32) = true := decide_eq_true hi
  have e2 : decide (32 ≤ i) = false := decide_eq_false (by omega)
  by_cases q : i < 8
  · have e3 : decide (i < 8) = true := decide_eq_true q
    have e4 : decide (24 + i < 32) = true := decide_eq_true (by omega)
    have e5 : decide (24 + i < 24) = false := decide_eq_false (by omega)
    rw [if_pos q, if_pos hi, if_pos (show 24 + i < 32 by omega), e1, e2, e3, e4, e5, show 24 + i - 24 = i by omega]
    rfl
  · rw [if_neg q, if_neg (show ¬ 24 + i < 32 by omega), e1, e2]
    simp
theorem sg16 (x : Int32) : x.toInt16.toInt32 = x <<< 16 >>> 16 := by
  apply Int32.toBitVec_inj.mp
  show (x.toBitVec.signExtend 16).signExtend 32 = (x.toBitVec <<< ((16 : Int32).toBitVec.smod 32)).sshiftRight ((16 : Int32).toBitVec.smod 32).toNat
  rw [show ((16 : Int32).toBitVec.smod 32).toNat = 16 by decide, show (x.toBitVec <<< ((16 : Int32).toBitVec.smod 32)) = x.toBitVec <<< 16 by rw [show ((16 : Int32).toBitVec.smod 32) = 16#32 by decide]; rfl]
  apply BitVec.eq_of_getLsbD_eq
  intro i hi
  simp only [BitVec.getLsbD_signExtend, BitVec.getLsbD_sshiftRight, BitVec.msb_eq_getLsbD_last, BitVec.getLsbD_shiftLeft]
  have e1 : decide (i < 32) = true := decide_eq_true hi
  have e2 : decide (32 ≤ i) = false := decide_eq_false (by omega)
  by_cases q : i < 16
  · have e3 : decide (i < 16) = true := decide_eq_true q
    have e4 : decide (16 + i < 32) = true := decide_eq_true (by omega)
    have e5 : decide (16 + i < 16) = false := decide_eq_false (by omega)
    rw [if_pos q, if_pos hi, if_pos (show 16 + i < 32 by omega), e1, e2, e3, e4, e5, show 16 + i - 16 = i by omega]
    rfl
  · rw [if_neg q, if_neg (show ¬ 16 + i < 32 by omega), e1, e2]
    simp
theorem byt {a k : Nat} (ha : a < 2 ^ 32) (hk : k ≤ 24) : (nI a >>> (nI k &&& 31)) &&& 255 = nI (a / 2 ^ k % 2 ^ 8) := by
  have e1 : (nI a >>> (nI k &&& 31)).toBitVec = (nI a).toBitVec.sshiftRight k := by
    show (nI a).toBitVec.sshiftRight ((nI k &&& 31).toBitVec.smod 32).toNat = _
    rw [s_l k (by omega)]
  rw [show (nI a >>> (nI k &&& 31)) &&& 255 = nI ((nI a >>> (nI k &&& 31)).toBitVec.toNat % 2 ^ 8) from pk_and _ 8 (by decide), e1]
  refine congrArg nI ?_
  apply Nat.eq_of_testBit_eq
  intro i
  rw [Nat.testBit_mod_two_pow, Nat.testBit_mod_two_pow, Nat.testBit_div_two_pow]
  by_cases hi : i < 8
  · have h1 : ((nI a).toBitVec.sshiftRight k).getLsbD i = (nI a).toBitVec.getLsbD (k + i) := by
      rw [BitVec.getLsbD_sshiftRight, if_pos (by omega)]
      simp [show ¬ 32 ≤ i by omega]
    unfold BitVec.getLsbD at h1
    rw [h1, pk_tn ha]
    simp [hi, Nat.add_comm]
  · simp [hi]
theorem byt2 (x : Int32) {i : Nat} (hi : i < 4) : ush x (8 * nI i) &&& 255 = (x >>> ((8 * nI i) &&& 31)) &&& 255 := by
  obtain ⟨a, ha, rfl⟩ := wb_of32 x
  rw [show (8 : Int32) * nI i = nI (8 * i) from pk_mul 8 i, byt ha (by omega), ush_n ha (by omega), pk_andN (Nat.lt_of_le_of_lt (Nat.div_le_self _ _) ha) 8 (by decide)]
section MEM
variable {w : Cd} {k b la h c nG me mx p : Nat} {s : St} {t : SM}
theorem pf_rem (H : WC w k b la h c s t) (h2 : 39 < w.op k ∧ w.op k < 65) : f_M_perform (nI k) t = f_M_remember (nI k) t := by
  have hk := H.k24
  have ho := kno_lt H.kn
  rw [f_M_perform, gi_n (show k < 250 by omega) (by decide), nI_clamp (by omega), H.row.c0]
  simp only [lt1]
  rw [if_pos (show 17 ≤ nI (w.op k) from nI_le (a := 17) (by omega) (by omega)), if_neg (show ¬ nI (w.op k) ≤ 39 from nI_ge (a := 39) (by omega) (by omega)), if_neg (show ¬ 65 ≤ nI (w.op k) from nI_ge (b := 65) (by omega) (by decide))]
  cases f_M_remember (nI k) t <;> rfl
theorem r236 {z : Int32} {t : SM} {c : Nat} (hc : t.1 0 22 = nI c) (h9 : c < 9) : f_M_remember_236 (nI k) z t = some (0, stI t 33 c (nI (k + 1))) := by
  rw [f_M_remember_236]
  simp only [lt1]
  rw [hc, gi_n h9 (by decide), nI_clamp (by omega), nI_1]
theorem wk_63 (H : WC w k b la h c s t) (D : DR nG me mx s t p) (ho : w.op k = 63) : Wk w k b la h c nG me mx s t := by
  have g1 : tks (w.op k) = 0 := by rw [ho]; decide
  have g2 : gvs (w.op k) = 1 := by rw [ho]; decide
  have hb := H.b24; have hl := H.l28; have hh := H.h28; have hup := H.up; have hk := H.k24
  rw [g1, g2] at hup
  have p4 : ∀ x, f_M_give x t = _ := fun x => give_n (q := la + h) H.win.sp (by omega)
  rw [Wk, wk_move H (by omega) (by omega) (by omega), pf_rem H (by omega), f_Store_move, f_M_remember, g1, g2, gi_n (show k < 250 by omega) (by decide), nI_clamp (by omega), H.row.c0]
  simp only [lt1, f_Store_move_252]
  simp (disch := omega) only [nI_leI, nI_ltI, nI_eq, if_pos, if_neg, if_true, if_false , lit_26, lit_27, lit_32, lit_33, lit_34, lit_35, lit_36, lit_63, lit_64, lit_65]
  rw [p4]
  simp only [bd1_some]
  rw [r236 (c := c) (by simp (disch := first | decide | omega) only [stI1, stI2, stp_eq, stp_row, stp_ne, stp_nj ]; exact H.cc) H.c9, rSet_n (by omega) (by decide), D.px, D.pm]
  exact ⟨_, _, _, rfl, rfl, Or.inl rfl, (by repeat first | assumption | exact WX.refl _ _ | refine WX.p36 (by omega) (by omega) ?_ | refine WX.pa (by decide) ?_), (by repeat first | assumption | exact WM.refl _ _ _ | refine WM.p33 ?_ | refine WM.p0 (by decide) ?_ | refine WM.pa (by decide) ?_ | refine WM.p35 (by omega) ?_), ⟨_, D.cg (by simp (disch := first | decide | omega) only [stI1, stI2, stp_eq, stp_row, stp_ne, stp_nj ]) (by simp (disch := first | decide | omega) only [stI1, stI2, stp_eq, stp_row, stp_ne, stp_nj ]) (by simp (disch := first | decide | omega) only [stI1, stI2, stp_eq, stp_row, stp_ne, stp_nj ]) (by simp (disch := first | decide | omega) only [stI1, stI2, stp_eq, stp_row, stp_ne, stp_nj ]) (by simp (disch := first | decide | omega) only [stI1, stI2, stp_eq, stp_row, stp_ne, stp_nj ]) (by simp (disch := first | decide | omega) only [stI1, stI2, stp_eq, stp_row, stp_ne, stp_nj ]) (by simp (disch := first | decide | omega) only [stI1, stI2, stp_eq, stp_row, stp_ne, stp_nj ]) (by simp (disch := first | decide | omega) only [stI1, stI2, stp_eq, stp_row, stp_ne, stp_nj ])⟩, fun _ => ⟨H.win.put (h' := h - 0 + 1) (j := h) (v := nI p) (by omega) (by simp (disch := first | decide | omega) only [stI1, stI2, stp_eq, stp_row, stp_ne, stp_nj ]) (by simp (disch := first | decide | omega) only [stI1, stI2, stp_eq, stp_row, stp_ne, stp_nj ]) (by simp (disch := first | decide | omega) only [stI1, stI2, stp_eq, stp_row, stp_ne, stp_nj ]; exact congrArg nI (by omega)), by simp (disch := first | decide | omega) only [stI1, stI2, stp_eq, stp_row, stp_ne, stp_nj ]⟩⟩
/-- growing: both say yes, or both say no -/
theorem grow2 (D : DR nG me mx s t p) (hme : me = 1) {a : Nat} (ha : a < 2 ^ 32) :
    (p + a ≤ mx ∧ f_X_isAbove (nI a) (nI (mx - p)) = some 0 ∧ ∀ (A B : Option (Int32 × SM)), (if 0 < lg_cmp (lN (a + p)) 4 then A else if t.1 0 10 = 0 then B else if 0 < lg_cmp (lN (a + p)) (t.2 0 1) then A else B) = B) ∨
    (mx < p + a ∧ f_X_isAbove (nI a) (nI (mx - p)) = some 1 ∧ ∀ (A B : Option (Int32 × SM)), (if 0 < lg_cmp (lN (a + p)) 4 then A else if t.1 0 10 = 0 then B else if 0 < lg_cmp (lN (a + p)) (t.2 0 1) then A else B) = A) := by
  obtain ⟨h1, h2⟩ := D.pmx hme
  have c4 : (0 < lg_cmp (lN (a + p)) 4) ↔ 4 < a + p := lcmp_le (b := 4) (by omega) (by decide)
  have ab : f_X_isAbove (nI a) (nI (mx - p)) = some (if a ≤ mx - p then 0 else 1) := by
    rw [f_X_isAbove]
    simp only [f_X_isAbove_9, f_X_isAbove_14, bz0, bz1]
    by_cases hs : a < 2 ^ 31
    · rw [if_neg (nI_pos hs)]
      by_cases q : a ≤ mx - p
      · rw [if_pos (nI_le q (by omega)), if_pos q]
      · rw [if_neg (nI_ge (by omega) hs), if_neg q]
    · have : nI a < 0 := by
        rw [Int32.lt_iff_toInt_lt]
        show (Int32.ofNat a).toInt < 0
        rw [Int32.toInt_ofNat']
        simp only [Int.bmod, Int32.size]
        omega
      rw [if_pos this, if_neg (by omega)]
  by_cases q : p + a ≤ mx
  · refine Or.inl ⟨q, by rw [ab, if_pos (by omega)], fun A B => ?_⟩
    rw [if_neg (fun z => absurd (c4.mp z) (by omega))]
    rcases D.cap hme with ⟨z1, z2⟩ | ⟨z1, r, z2, z3, z4⟩
    · rw [if_pos z1]
    · rw [if_neg (by rw [z1]; decide), z3, if_neg (fun z => absurd ((lcmp_le (by omega) (by omega)).mp z) (by omega))]
  · refine Or.inr ⟨by omega, by rw [ab, if_neg (by omega)], fun A B => ?_⟩
    by_cases z4 : 4 < a + p
    · rw [if_pos (c4.mpr z4)]
    · rw [if_neg (fun z => absurd (c4.mp z) z4)]
      rcases D.cap hme with ⟨z1, z2⟩ | ⟨z1, r, z2, z3, z5⟩
      · omega
      · rw [if_neg (by rw [z1]; decide), z3, if_pos ((lcmp_le (by omega) (by omega)).mpr (by omega))]
theorem wk_64 (H : WC w k b la h c s t) (D : DR nG me mx s t p) (ho : w.op k = 64) (hme : me = 1) : Wk w k b la h c nG me mx s t := by
  have g1 : tks (w.op k) = 1 := by rw [ho]; decide
  have g2 : gvs (w.op k) = 1 := by rw [ho]; decide
  have hb := H.b24; have hl := H.l28; have hh := H.h28; have htk := H.tk; have hk := H.k24
  rw [g1] at htk
  obtain ⟨g, rfl⟩ : ∃ g, h = g + 1 := ⟨h - 1, by omega⟩
  obtain ⟨j1, j2⟩ := D.pmx hme
  have p1 : f_M_pull t = _ := pull_n (q := la + g) (by rw [H.win.sp]; rfl) (by omega)
  have e0 := H.win.eq g (by omega)
  have r1 : s 36 (b + (g + 1) - 1) = t.1 35 (la + g) := e0
  obtain ⟨a, ha, ea⟩ := wb_of32 (t.1 35 (la + g))
  rw [Wk, wk_move H (by omega) (by omega) (by omega), pf_rem H (by omega), f_Store_move, f_M_remember, g1, g2, gi_n (show k < 250 by omega) (by decide), nI_clamp (by omega), H.row.c0]
  simp only [lt1, f_Store_move_252]
  simp (disch := omega) only [nI_leI, nI_ltI, nI_eq, if_pos, if_neg, if_true, if_false , lit_26, lit_27, lit_32, lit_33, lit_34, lit_35, lit_36, lit_63, lit_64, lit_65]
  rw [p1, bd_some, nsub1 (by omega), rGet_n (by omega) (by decide), r1, ea, u32 ha, show (stI t 0 23 (nI (la + g))).1 0 18 = nI p by simp (disch := first | decide | omega) only [stI1, stI2, stp_eq, stp_row, stp_ne, stp_nj ]; exact D.pm, nI_l (by have := D.p4; omega), lN_add, show (stI t 0 23 (nI (la + g))).1 0 10 = t.1 0 10 by simp (disch := first | decide | omega) only [stI1, stI2, stp_eq, stp_row, stp_ne, stp_nj ], stI2, f_Store_growBy, D.xm, D.px, pk_sub j1]
  simp only [lt1]
  rcases grow2 D hme ha with ⟨z1, z2, z3⟩ | ⟨z1, z2, z3⟩
  · have p4 : ∀ x, f_M_give x (stI (stI t 0 23 (nI (la + g))) 0 18 (nI (a + p))) = _ := fun x => give_n (q := la + g) (by simp (disch := first | decide | omega) only [stI1, stI2, stp_eq, stp_row, stp_ne, stp_nj ]) (by omega)
    rw [z2, z3, bd1_some, if_pos rfl, bd_some, f_M_remember_70, f_M_remember_75, if_neg (by decide)]
    simp only [lt1, f_M_remember_98, f_M_remember_113]
    rw [if_neg (by decide), lN_i, p4]
    simp only [bd1_some]
    rw [r236 (c := c) (by simp (disch := first | decide | omega) only [stI1, stI2, stp_eq, stp_row, stp_ne, stp_nj ]; exact H.cc) H.c9, rSet_n (by omega) (by decide), stp_eq, nI_add, pk_sub (by omega), show (stI t 0 23 (nI (la + g))).1 0 18 = nI p by simp (disch := first | decide | omega) only [stI1, stI2, stp_eq, stp_row, stp_ne, stp_nj ]; exact D.pm]
    refine ⟨_, _, _, rfl, rfl, Or.inl rfl, (by repeat first | assumption | exact WX.refl _ _ | refine WX.p36 (by omega) (by omega) ?_ | refine WX.pa (by decide) ?_), (by repeat first | assumption | exact WM.refl _ _ _ | refine WM.p33 ?_ | refine WM.p0 (by decide) ?_ | refine WM.pa (by decide) ?_ | refine WM.p35 (by omega) ?_), ⟨a + p, ?_⟩, fun _ => ⟨H.win.put (h' := g + 1 - 1 + 1) (j := g) (v := nI p) (by omega) (by simp (disch := first | decide | omega) only [stI1, stI2, stp_eq, stp_row, stp_ne, stp_nj ]; rw [show p + a - a = p by omega]; rfl) (by simp (disch := first | decide | omega) only [stI1, stI2, stp_eq, stp_row, stp_ne, stp_nj ]) (by simp (disch := first | decide | omega) only [stI1, stI2, stp_eq, stp_row, stp_ne, stp_nj ]; exact congrArg nI (by omega)), by simp (disch := first | decide | omega) only [stI1, stI2, stp_eq, stp_row, stp_ne, stp_nj ]⟩⟩
    refine ⟨by simp (disch := first | decide | omega) only [stI1, stI2, stp_eq, stp_row, stp_ne, stp_nj ]; exact D.mem, by simp (disch := first | decide | omega) only [stI1, stI2, stp_eq, stp_row, stp_ne, stp_nj ]; exact D.glb, by simp (disch := first | decide | omega) only [stI1, stI2, stp_eq, stp_row, stp_ne, stp_nj ]; rw [Nat.add_comm], by simp (disch := first | decide | omega) only [stI1, stI2, stp_eq, stp_row, stp_ne, stp_nj ], by omega, fun _ => by omega, by simp (disch := first | decide | omega) only [stI1, stI2, stp_eq, stp_row, stp_ne, stp_nj ]; exact D.xm, by simp (disch := first | decide | omega) only [stI1, stI2, stp_eq, stp_row, stp_ne, stp_nj ]; exact D.cap⟩
  · have p4 : ∀ x, f_M_give x (stI (stI t 0 23 (nI (la + g))) 0 18 (nI p)) = _ := fun x => give_n (q := la + g) (by simp (disch := first | decide | omega) only [stI1, stI2, stp_eq, stp_row, stp_ne, stp_nj ]) (by omega)
    rw [z2, z3, bd1_some, if_neg (by decide), bd_some, f_M_remember_74, f_M_remember_75, if_pos rfl]
    simp only [lt1, f_M_remember_98, f_M_remember_113]
    rw [if_pos trivial, show (stI t 0 23 (nI (la + g))).1 0 18 = nI p by simp (disch := first | decide | omega) only [stI1, stI2, stp_eq, stp_row, stp_ne, stp_nj ]; exact D.pm, p4]
    simp only [bd1_some]
    rw [r236 (c := c) (by simp (disch := first | decide | omega) only [stI1, stI2, stp_eq, stp_row, stp_ne, stp_nj ]; exact H.cc) H.c9, rSet_n (by omega) (by decide)]
    refine ⟨_, _, _, rfl, rfl, Or.inl rfl, (by repeat first | assumption | exact WX.refl _ _ | refine WX.p36 (by omega) (by omega) ?_ | refine WX.pa (by decide) ?_), (by repeat first | assumption | exact WM.refl _ _ _ | refine WM.p33 ?_ | refine WM.p0 (by decide) ?_ | refine WM.pa (by decide) ?_ | refine WM.p35 (by omega) ?_), ⟨p, ?_⟩, fun _ => ⟨H.win.put (h' := g + 1 - 1 + 1) (j := g) (v := -1) (by omega) (by simp (disch := first | decide | omega) only [stI1, stI2, stp_eq, stp_row, stp_ne, stp_nj ]; rfl) (by simp (disch := first | decide | omega) only [stI1, stI2, stp_eq, stp_row, stp_ne, stp_nj ]) (by simp (disch := first | decide | omega) only [stI1, stI2, stp_eq, stp_row, stp_ne, stp_nj ]; exact congrArg nI (by omega)), by simp (disch := first | decide | omega) only [stI1, stI2, stp_eq, stp_row, stp_ne, stp_nj ]⟩⟩
    refine ⟨by simp (disch := first | decide | omega) only [stI1, stI2, stp_eq, stp_row, stp_ne, stp_nj ]; exact D.mem, by simp (disch := first | decide | omega) only [stI1, stI2, stp_eq, stp_row, stp_ne, stp_nj ]; exact D.glb, by simp (disch := first | decide | omega) only [stI1, stI2, stp_eq, stp_row, stp_ne, stp_nj ]; exact D.px, by simp (disch := first | decide | omega) only [stI1, stI2, stp_eq, stp_row, stp_ne, stp_nj ], by omega, fun _ => by omega, by simp (disch := first | decide | omega) only [stI1, stI2, stp_eq, stp_row, stp_ne, stp_nj ]; exact D.xm, by simp (disch := first | decide | omega) only [stI1, stI2, stp_eq, stp_row, stp_ne, stp_nj ]; exact D.cap⟩
end MEM
