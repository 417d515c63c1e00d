-- running: branches and calls, stack engine
theorem nd_neg : ∀ d, d ≤ 10 → ¬ 0 ≤ nI d - 1 - nI d := by decide +kernel
section BRS
variable {w : Cd} {v : Hv} {m : Md} {C nP : Nat} {c : Nat} {F K L : Nat → Nat} {k : Nat} {s : St} {t : SM} {nG me mx p : Nat}
def Fr (w : Cd) (v : Hv) (m : Md) (C : Nat) (c : Nat) (F : Nat → Nat) (K : Nat → Nat) (L : Nat → Nat) (k y : Nat) (s : St) (t : SM) : Prop :=
  (CF w v m C 6 40 42 id c F K L s t) ∧
  (∀ i, 1 ≤ i → i ≤ c → s 50 (i - 1) = nI (F i)) ∧
  (∀ i, 1 ≤ i → i < c → s 52 (i - 1) = nI (w.dp (K i))) ∧
  (∀ i, 1 ≤ i → i < c → LB w v m i (F i) (K i) s) ∧
  (LB w v m c (F c) k s) ∧
  (s 6 5 = nI (w.dp k)) ∧
  (k < C) ∧
  (v.lo k = 0) ∧
  (w.fn k = F c) ∧
  (Win (28 * (c - 1)) (L c) (m.loc (F c) + y) s t) ∧
  (s 6 6 = nI (28 * (c - 1) + (m.loc (F c) + y))) ∧
  (y ≤ 16)
theorem Fr.cf {w : Cd} {v : Hv} {m : Md} {C : Nat} {c : Nat} {F : Nat → Nat} {K : Nat → Nat} {L : Nat → Nat} {k y : Nat} {s : St} {t : SM} (q0_ : Fr w v m C c F K L k y s t) : CF w v m C 6 40 42 id c F K L s t := q0_.1
theorem Fr.fu {w : Cd} {v : Hv} {m : Md} {C : Nat} {c : Nat} {F : Nat → Nat} {K : Nat → Nat} {L : Nat → Nat} {k y : Nat} {s : St} {t : SM} (q0_ : Fr w v m C c F K L k y s t) : ∀ i, 1 ≤ i → i ≤ c → s 50 (i - 1) = nI (F i) := q0_.2.1
theorem Fr.dp {w : Cd} {v : Hv} {m : Md} {C : Nat} {c : Nat} {F : Nat → Nat} {K : Nat → Nat} {L : Nat → Nat} {k y : Nat} {s : St} {t : SM} (q0_ : Fr w v m C c F K L k y s t) : ∀ i, 1 ≤ i → i < c → s 52 (i - 1) = nI (w.dp (K i)) := q0_.2.2.1
theorem Fr.lb {w : Cd} {v : Hv} {m : Md} {C : Nat} {c : Nat} {F : Nat → Nat} {K : Nat → Nat} {L : Nat → Nat} {k y : Nat} {s : St} {t : SM} (q0_ : Fr w v m C c F K L k y s t) : ∀ i, 1 ≤ i → i < c → LB w v m i (F i) (K i) s := q0_.2.2.2.1
theorem Fr.lk {w : Cd} {v : Hv} {m : Md} {C : Nat} {c : Nat} {F : Nat → Nat} {K : Nat → Nat} {L : Nat → Nat} {k y : Nat} {s : St} {t : SM} (q0_ : Fr w v m C c F K L k y s t) : LB w v m c (F c) k s := q0_.2.2.2.2.1
theorem Fr.d5 {w : Cd} {v : Hv} {m : Md} {C : Nat} {c : Nat} {F : Nat → Nat} {K : Nat → Nat} {L : Nat → Nat} {k y : Nat} {s : St} {t : SM} (q0_ : Fr w v m C c F K L k y s t) : s 6 5 = nI (w.dp k) := q0_.2.2.2.2.2.1
theorem Fr.kC {w : Cd} {v : Hv} {m : Md} {C : Nat} {c : Nat} {F : Nat → Nat} {K : Nat → Nat} {L : Nat → Nat} {k y : Nat} {s : St} {t : SM} (q0_ : Fr w v m C c F K L k y s t) : k < C := q0_.2.2.2.2.2.2.1
theorem Fr.lo {w : Cd} {v : Hv} {m : Md} {C : Nat} {c : Nat} {F : Nat → Nat} {K : Nat → Nat} {L : Nat → Nat} {k y : Nat} {s : St} {t : SM} (q0_ : Fr w v m C c F K L k y s t) : v.lo k = 0 := q0_.2.2.2.2.2.2.2.1
theorem Fr.fn {w : Cd} {v : Hv} {m : Md} {C : Nat} {c : Nat} {F : Nat → Nat} {K : Nat → Nat} {L : Nat → Nat} {k y : Nat} {s : St} {t : SM} (q0_ : Fr w v m C c F K L k y s t) : w.fn k = F c := q0_.2.2.2.2.2.2.2.2.1
theorem Fr.win {w : Cd} {v : Hv} {m : Md} {C : Nat} {c : Nat} {F : Nat → Nat} {K : Nat → Nat} {L : Nat → Nat} {k y : Nat} {s : St} {t : SM} (q0_ : Fr w v m C c F K L k y s t) : Win (28 * (c - 1)) (L c) (m.loc (F c) + y) s t := q0_.2.2.2.2.2.2.2.2.2.1
theorem Fr.t6 {w : Cd} {v : Hv} {m : Md} {C : Nat} {c : Nat} {F : Nat → Nat} {K : Nat → Nat} {L : Nat → Nat} {k y : Nat} {s : St} {t : SM} (q0_ : Fr w v m C c F K L k y s t) : s 6 6 = nI (28 * (c - 1) + (m.loc (F c) + y)) := q0_.2.2.2.2.2.2.2.2.2.2.1
theorem Fr.y16 {w : Cd} {v : Hv} {m : Md} {C : Nat} {c : Nat} {F : Nat → Nat} {K : Nat → Nat} {L : Nat → Nat} {k y : Nat} {s : St} {t : SM} (q0_ : Fr w v m C c F K L k y s t) : y ≤ 16 := q0_.2.2.2.2.2.2.2.2.2.2.2
theorem Fr.ex (S : Sta w v m C nP s t) {y : Nat} (H : Fr w v m C c F K L k y s t) {t1 : SM} (e : t1 = stI t 33 c (t1.1 33 c)) {k2 : Nat} (hk2 : t1.1 33 c = nI k2) (h2C : k2 < C) (h11 : w.op k2 = 11) (h0 : w.ins k2 = 0) (hfn : w.fn k2 = F c) (hy : m.res (F c) ≤ y) :
    ∃ s' t2, f_SE_leave s = some s' ∧ (∀ n, f_M_settle_2 (n + 1) 1 t1 = f_M_settle_2 n 1 t2) ∧ KP s t s' t2 ∧ ((∃ c F K L k, SyS w v m C c F K L k s' t2) ∨ Dn 6 s' t2) := by
  have c1 := H.cf.c1; have c8 := H.cf.c8
  obtain ⟨f1, f2, f3⟩ := H.cf.f c c1 (Nat.le_refl _)
  have hp := S.E.p4 _ f3
  have lc := H.cf.lc S
  have y16 := H.y16
  have kp : KP s t s t1 := by rw [e]; exact (KP.refl s t).pm (by decide)
  have S1 := S.rg kp.x kp.m
  have cf1 : CF w v m C 6 40 42 id c F K L s t1 := by
    rw [e]
    exact H.cf.cg S (by simp (disch := first | decide | omega) only [stI1, stI2, stp_eq, stp_row, stp_ne, stp_nj ]) (by simp (disch := first | decide | omega) only [stI1, stI2, stp_eq, stp_row, stp_ne, stp_nj ]) (by simp (disch := first | decide | omega) only [stI1, stI2, stp_eq, stp_row, stp_ne, stp_nj ]) (by simp (disch := first | decide | omega) only [stI1, stI2, stp_eq, stp_row, stp_ne, stp_nj ]) (by simp (disch := first | decide | omega) only [stI1, stI2, stp_eq, stp_row, stp_ne, stp_nj ]) (fun i hi => by simp (disch := first | decide | omega) only [stI1, stI2, stp_eq, stp_row, stp_ne, stp_nj ]) rfl rfl rfl rfl rfl (fun _ _ => rfl) (fun _ _ => by simp (disch := first | decide | omega) only [stI1, stI2, stp_eq, stp_row, stp_ne, stp_nj ])
  have e35 : t1.1 35 = t.1 35 := by rw [e]; simp (disch := first | decide | omega) only [stI1, stI2, stp_eq, stp_row, stp_ne, stp_nj ]
  have e23 : t1.1 0 23 = t.1 0 23 := by rw [e]; simp (disch := first | decide | omega) only [stI1, stI2, stp_eq, stp_row, stp_ne, stp_nj ]
  obtain ⟨s', t2, g1, g2, g3, g4⟩ := lvS S1 cf1 H.fu H.dp H.lb (T := 28 * (c - 1) + (m.loc (F c) + y)) (q := L c + (m.loc (F c) + y) - 1) H.t6 (by omega) (by omega) (fun z => by rw [e23, H.win.sp]; exact congrArg nI (by omega)) (by omega) (fun z => by
    have := H.win.eq (m.loc (F c) + y - 1) (by omega)
    rw [e35, show 28 * (c - 1) + (m.loc (F c) + y) - 1 = 28 * (c - 1) + (m.loc (F c) + y - 1) by omega, show L c + (m.loc (F c) + y) - 1 = L c + (m.loc (F c) + y - 1) by omega]
    exact this)
  refine ⟨s', t2, g1, fun n => ?_, kp.trans g3, ?_⟩
  · rw [ms_leave S1 cf1.ru cf1.cc (by omega) hk2 h2C h11 h0 (cf1.f c c1 (Nat.le_refl _)).1 hfn, g2, bd1_some]
  · rcases g4 with ⟨_, q⟩ | q
    · exact Or.inl ⟨_, _, _, _, _, q⟩
    · exact Or.inr q
theorem brS (S : Sta w v m C nP s t) {y a : Nat} (H : Fr w v m C c F K L k y s t) (ha : a ≤ w.dp k) (hy : bs w v (w.ins k) + tk w (m.res (F c)) (ups w.ins a (w.ins k)) ≤ y) :
    ∃ s' t1 t2 j, f_SE_branch (nI a) s = some s' ∧ f_M_jump (nI k) (lN a) t = some t1 ∧ j ≤ 1 ∧ (∀ n, f_M_settle_2 (n + j) 1 t1 = f_M_settle_2 n 1 t2) ∧ KP s t s' t2 ∧ ((∃ c F K L k, SyS w v m C c F K L k s' t2) ∨ Dn 6 s' t2) := by
  have hk := H.kC
  have hC := S.hC
  have c1 := H.cf.c1; have c8 := H.cf.c8
  obtain ⟨f1, f2, f3⟩ := H.cf.f c c1 (Nat.le_refl _)
  have hp := S.E.p4 _ f3
  have lc := H.cf.lc S
  have y16 := H.y16
  have h10 := S.W.d10 k (by omega)
  have f1k : t.1 32 c = nI (w.fn k) := by rw [H.fn]; exact f1
  by_cases had : a = w.dp k
  · -- out of the function
    subst had
    rw [chn0 S.W (by omega), tk, if_pos rfl] at hy
    obtain ⟨bg, ls, Fs, _, _⟩ := S.fs (w.fn k) (S.lt k hk)
    have jm := jump_fn S hk H.cf.cc (by omega) f1k Fs
    obtain ⟨s', t2, g1, g2, g3, g4⟩ := H.ex S (t1 := stI t 33 c (nI ls)) (by rw [show (stI t 33 c (nI ls)).1 33 c = nI ls by simp (disch := first | decide | omega) only [stI1, stI2, stp_eq, stp_row, stp_ne, stp_nj ]]) (by simp (disch := first | decide | omega) only [stI1, stI2, stp_eq, stp_row, stp_ne, stp_nj ]) Fs.lC Fs.ol Fs.il (by rw [Fs.fn ls Fs.bl (Nat.le_refl _)]; exact H.fn) (by omega)
    refine ⟨s', _, t2, 1, ?_, jm, by omega, g2, g3, g4⟩
    rw [f_SE_branch, H.d5, lt1, lt1, if_neg (nd_neg _ h10), g1, bd1_some]
  · have hlt : a < w.dp k := by omega
    obtain ⟨B, h1, h2, h3, h4, h5, h6⟩ := chn S.W (show k ≤ C by omega) a hlt
    have hloB := (S.alv hk H.lo a B h1).2
    have hBC : B < C := by omega
    have RB := S.rx B hBC
    have TB := (S.H.sr B hBC).wt hloB
    have bB := S.bb hBC hloB h3
    have aB := (S.kn hBC).2.blk h3
    have h16B := S.h16 hBC
    obtain ⟨e, e1, e2, e3, e4, e5⟩ := en_e S.W S.iC hBC h3
    have htk : tk w (m.res (F c)) (B + 1) = tk w 0 (B + 1) := by unfold tk; rw [if_neg (show ¬ B + 1 = 0 by omega), if_neg (show ¬ B + 1 = 0 by omega)]
    rw [h1, htk] at hy
    have tk1 : tk w 0 (B + 1) ≤ 1 := by rw [tk, if_neg (by omega), Nat.add_sub_cancel]; split <;> omega
    obtain ⟨t1, j1, j2, j3, j4, j5⟩ := jump_b S hk H.lo H.cf.cc (by omega) f1k (q := L c + (m.loc (F c) + y) - 1) f2 (by omega) hlt h1 (fun z => by rw [H.win.sp]; exact congrArg nI (by omega)) (by omega)
    rw [H.fn] at j4 j5
    obtain ⟨l1, l2⟩ := H.lk a B hlt h1
    have bsle : v.bb B + tk w 0 (B + 1) ≤ y := by
      -- the base of a block around is not above that of the innermost
      have key : ∀ j B', ups w.ins j (w.ins k) = B' + 1 → bs w v (B' + 1) ≤ bs w v (w.ins k) := by
        intro j
        induction j with
        | zero => intro B' hB'; have : w.ins k = B' + 1 := hB'; rw [this]; exact Nat.le_refl _
        | succ j ih =>
          intro B' hB'
          rw [ups_s, up] at hB'
          by_cases q : ups w.ins j (w.ins k) = 0
          · rw [if_pos q] at hB'; omega
          · rw [if_neg q] at hB'
            obtain ⟨B2, hB2⟩ : ∃ B2, ups w.ins j (w.ins k) = B2 + 1 := ⟨ups w.ins j (w.ins k) - 1, by omega⟩
            have i1 := ih B2 hB2
            rw [hB2, Nat.add_sub_cancel] at hB'
            have h2' := (S.alv hk H.lo j B2 hB2)
            have hins : w.ins (B2 + 1) = B2 + 1 := by
              have z := S.W.ni B2 (by omega)
              have zo : 2 ≤ w.op B2 ∧ w.op B2 ≤ 4 := by
                obtain ⟨B3, y1, y2, y3, y4, y5, y6⟩ := chn S.W (show k ≤ C by omega) j (by
                  by_cases zz : j < w.dp k
                  · exact zz
                  · have : ups w.ins j (w.ins k) = 0 := by
                      rw [show j = w.dp k + (j - w.dp k) by omega, ups_add, chn0 S.W (by omega), ups_0]
                    omega)
                have : B3 = B2 := by omega
                subst this; exact y3
              rw [nxt, if_pos zo] at z; exact z
            have hm := (S.H.sr (B2 + 1) (by omega)).mo (by omega)
            rw [hins, Nat.add_sub_cancel, hB'] at hm
            omega
      have := key a B h1
      rw [bs, if_neg (by omega), Nat.add_sub_cancel] at this
      omega
    -- the class
    have hX : ∃ s', f_SE_branch (nI a) s = some s' ∧ (∀ j, j = 0 ∨ j = 1 ∨ j = 3 → s' 6 j = s 6 j) ∧ s' 6 2 = nI (if w.op B = 3 then B + 1 else w.en B) ∧ s' 6 5 = nI (if w.op B = 3 then w.dp B + 1 else w.dp B) ∧ s' 6 6 = nI (28 * (c - 1) + (m.loc (F c) + (v.bb B + tk w 0 (B + 1)))) ∧ (∀ a, a ≠ 6 → a ≠ 36 → s' a = s a) ∧ s' 36 = if tk w 0 (B + 1) = 0 then s 36 else upd (s 36) (28 * (c - 1) + m.loc (F c) + v.bb B) (s 36 (28 * (c - 1) + (m.loc (F c) + y) - 1)) := by
      have b96 : ∀ s1, s1 21 = s 21 → f_SE_branch_96 (nI a) (nI (w.dp k - 1 - a)) (nI ((c - 1) * 10 + (w.dp k - 1 - a))) (nI B) (nI (28 * (c - 1) + m.loc (F c) + v.bb B)) (nI (tk w 0 (B + 1))) s1 = some (stp (stp (stp s1 6 6 (nI (28 * (c - 1) + m.loc (F c) + v.bb B + tk w 0 (B + 1)))) 6 5 (nI (if w.op B = 3 then w.dp B + 1 else w.dp B))) 6 2 (nI (if w.op B = 3 then B + 1 else w.en B))) := by
        intro s1 z1
        rw [f_SE_branch_96, nI_add, lt1, lt1, stp_ne _ _ _ (by decide), z1, tg_240_7_0 (by omega), RB.c0, lt1]
        by_cases q3 : w.op B = 3
        · rw [if_pos (show nI (w.op B) = 3 by rw [q3]; rfl), if_pos q3, if_pos q3, f_SE_branch_127, if_neg (by decide), nI_1, lt1, f_SE_branch_142, lt1, if_neg (by decide), nI_1, lt1, f_SE_branch_169, lt1, show w.dp k - 1 - a + 1 = w.dp B + 1 by omega]
        · have S2 : Sta w v m C nP (stp (stp s 6 6 (nI (28 * (c - 1) + m.loc (F c) + v.bb B + tk w 0 (B + 1)))) 6 5 (nI (w.dp k - 1 - a))) t := S.rg (((RXf.refl s).p (by decide)).p (by decide)) (RMf.refl t)
          have xe := x_end S hBC h3
          have xe2 : f_Cont_endOf (stp (stp s1 6 6 (nI (28 * (c - 1) + m.loc (F c) + v.bb B + tk w 0 (B + 1)))) 6 5 (nI (w.dp k - 1 - a))) (nI B) = f_Cont_endOf s (nI B) := by
            simp only [f_Cont_endOf, f_Cont_endOf_36, stp_ne _ _ _ (show 21 ≠ 6 by decide), z1]
          rw [if_neg (show ¬ nI (w.op B) = 3 from fun z => q3 ((nI_eq (b := 3) (by omega) (by decide)).mp z)), if_neg q3, if_neg q3, f_SE_branch_127, if_pos rfl, f_SE_branch_142, lt1, if_pos rfl, xe2, xe, bd1_some, nI_1, lt1, f_SE_branch_169, lt1, show w.dp k - 1 - a = w.dp B by omega, show w.en B - 1 + 1 = w.en B by omega]
      have e0 : f_SE_branch (nI a) s = if nI (tk w 0 (B + 1)) ≤ 0 then f_SE_branch_96 (nI a) (nI (w.dp k - 1 - a)) (nI ((c - 1) * 10 + (w.dp k - 1 - a))) (nI B) (nI (28 * (c - 1) + m.loc (F c) + v.bb B)) (nI (tk w 0 (B + 1))) s else f_SE_branch_96 (nI a) (nI (w.dp k - 1 - a)) (nI ((c - 1) * 10 + (w.dp k - 1 - a))) (nI B) (nI (28 * (c - 1) + m.loc (F c) + v.bb B)) (nI (tk w 0 (B + 1))) (rSet s 36 224 (nI (28 * (c - 1) + m.loc (F c) + v.bb B)) (rGet 224 (s 36) (s 6 6 - 1))) := by
        rw [f_SE_branch, H.d5, nsub1 (by omega), lt1, pk_sub (by omega), lt1, if_pos (nI_pos' (by omega)), H.cf.x0, nsub1 c1, lt1, show nI (c - 1) * 10 = nI ((c - 1) * 10) from pk_mul _ 10, lt1, nI_add, lt1, tg_80_2_0 (by omega), l1, lt1, tg_80_2_1 (by omega), l2, lt1, x_lres S hBC h3, bd1_some, lt1, lt1, lt1]
      rw [e0]
      by_cases n0 : tk w 0 (B + 1) = 0
      · rw [if_pos (show nI (tk w 0 (B + 1)) ≤ 0 by rw [n0]; decide), b96 s rfl, if_pos n0]
        exact ⟨_, rfl, fun j hj => by rw [stp_nj _ _ _ (by omega), stp_nj _ _ _ (by omega), stp_nj _ _ _ (by omega)], by simp (disch := first | decide | omega) only [stI1, stI2, stp_eq, stp_row, stp_ne, stp_nj ], by simp (disch := first | decide | omega) only [stI1, stI2, stp_eq, stp_row, stp_ne, stp_nj ], by simp (disch := first | decide | omega) only [stI1, stI2, stp_eq, stp_row, stp_ne, stp_nj ]; exact congrArg nI (by omega), fun a a1 a2 => by simp (disch := first | decide | omega) only [stI1, stI2, stp_eq, stp_row, stp_ne, stp_nj ], by simp (disch := first | decide | omega) only [stI1, stI2, stp_eq, stp_row, stp_ne, stp_nj ]⟩
      · rw [if_neg (show ¬ nI (tk w 0 (B + 1)) ≤ 0 from nI_ge (a := 0) (by omega) (by omega)), H.t6, nsub1 (by omega), rGet_n (by omega) (by decide), rSet_n (by omega) (by decide), b96 _ (by simp (disch := first | decide | omega) only [stI1, stI2, stp_eq, stp_row, stp_ne, stp_nj ]), if_neg n0]
        exact ⟨_, rfl, fun j hj => by rw [stp_nj _ _ _ (by omega), stp_nj _ _ _ (by omega), stp_nj _ _ _ (by omega), stp_ne _ _ _ (by decide)], by simp (disch := first | decide | omega) only [stI1, stI2, stp_eq, stp_row, stp_ne, stp_nj ], by simp (disch := first | decide | omega) only [stI1, stI2, stp_eq, stp_row, stp_ne, stp_nj ], by simp (disch := first | decide | omega) only [stI1, stI2, stp_eq, stp_row, stp_ne, stp_nj ]; exact congrArg nI (by omega), fun a a1 a2 => by simp (disch := first | decide | omega) only [stI1, stI2, stp_eq, stp_row, stp_ne, stp_nj ], by simp (disch := first | decide | omega) only [stI1, stI2, stp_eq, stp_row, stp_ne, stp_nj ]⟩
    obtain ⟨s', g1, g2, g3, g4, g5, g6, g7⟩ := hX
    have wv : Win (28 * (c - 1)) (L c) (m.loc (F c) + (v.bb B + tk w 0 (B + 1))) s' t1 := by
      refine ⟨by rw [j4]; exact congrArg nI (by omega), fun x hx => ?_⟩
      rw [g7, j5]
      by_cases n0 : tk w 0 (B + 1) = 0
      · rw [if_pos n0, if_pos n0]; exact H.win.eq x (by omega)
      · rw [if_neg n0, if_neg n0]
        by_cases ex : x = m.loc (F c) + v.bb B
        · rw [ex, show 28 * (c - 1) + (m.loc (F c) + v.bb B) = 28 * (c - 1) + m.loc (F c) + v.bb B by omega, show L c + (m.loc (F c) + v.bb B) = L c + m.loc (F c) + v.bb B by omega, pk_us, pk_us]
          have := H.win.eq (m.loc (F c) + y - 1) (by omega)
          rw [show 28 * (c - 1) + (m.loc (F c) + y) - 1 = 28 * (c - 1) + (m.loc (F c) + y - 1) by omega, show L c + (m.loc (F c) + y) - 1 = L c + (m.loc (F c) + y - 1) by omega]
          exact this
        · rw [pk_un (by omega), pk_un (by omega)]; exact H.win.eq x (by omega)
    have b36 : ∀ j, j < 28 * (c - 1) → s' 36 j = s 36 j := by
      intro j hj
      rw [g7]
      by_cases n0 : tk w 0 (B + 1) = 0
      · rw [if_pos n0]
      · rw [if_neg n0, pk_un (by omega)]
    -- a row of the same call
    have go : ∀ k2 t2, k2 < C → w.fn k2 = F c → v.lo k2 = 0 → v.hi k2 = v.bb B + tk w 0 (B + 1) → s' 6 2 = nI k2 → s' 6 5 = nI (w.dp k2) → t2 = stI t1 33 c (nI k2) → LB w v m c (F c) k2 s' → KP s t s' t2 ∧ SyS w v m C c F K L k2 s' t2 := by
      intro k2 t2 z1 z2 z3 z4 z5 z6 z7 z8
      have hh := ht_a S z1 z3
      rw [z2, z4] at hh
      have J : WJ (L c) c t t2 := by rw [z7]; exact j2.p33
      have win2 : Win (28 * (c - 1)) (L c) (m.loc (F c) + ht w v (m.res (F c)) k2) s' t2 := by
        rw [hh, z7]; exact wv.cut (Nat.le_refl _) rfl (by simp (disch := first | decide | omega) only [stI1, stI2, stp_eq, stp_row, stp_ne, stp_nj ]) (by simp (disch := first | decide | omega) only [stI1, stI2, stp_eq, stp_row, stp_ne, stp_nj ]; exact wv.sp)
      refine ⟨KP.trans (KP.xs fun a a1 _ a2 a3 => g6 a a1 a2) (KP.wj J), ⟨H.cf.cg S (J.w.z 22 (by decide) (by decide)) (J.w.z 20 (by decide) (by decide)) (J.w.z 21 (by decide) (by decide)) (J.w.o 32 (by decide) (by decide) (by decide) (by decide) (by decide)) (J.w.o 34 (by decide) (by decide) (by decide) (by decide) (by decide)) J.w.p (g2 0 (by omega)) (g2 1 (by omega)) (g2 3 (by omega)) (g6 40 (by decide) (by decide)) (g6 42 (by decide) (by decide)) b36 J.w.k, ⟨by rw [z7]; simp (disch := first | decide | omega) only [stI1, stI2, stp_eq, stp_row, stp_ne, stp_nj ], z1, z2, z5, Or.inl z3⟩, win2, by rw [g6 50 (by decide) (by decide)]; exact H.fu, by rw [g6 52 (by decide) (by decide)]; exact H.dp, fun i h1 h2 => (H.lb i h1 h2).cg (g6 48 (by decide) (by decide)) rfl rfl, z6, by rw [hh]; exact g5, z8⟩⟩
    have fnB : w.fn B = F c := by rw [h5]; exact H.fn
    by_cases q3 : w.op B = 3
    · rw [if_pos q3] at g3 g4 j3
      have tk0 : tk w 0 (B + 1) = 0 := by rw [tk, if_neg (by omega), Nat.add_sub_cancel, if_pos q3]
      obtain ⟨a2, a3⟩ := S.lastC hBC (fun q => by omega)
      have lo1 := lo_n S hBC hloB (by unfold lead; omega)
      have hi1 : w.ins (B + 1) = B + 1 := by have := S.W.ni B hBC; rw [nxt, if_pos h3] at this; exact this
      have hd1 : w.dp (B + 1) = w.dp B + 1 := by have := S.W.nd B hBC; rw [dnx, if_pos h3] at this; exact this
      obtain ⟨u1, u2⟩ := TB.t2 (Or.inr q3)
      have et : t1 = stI t1 33 c (nI (B + 1)) := by
        refine Prod.ext ?_ rfl
        funext x i
        rw [stI1]
        by_cases hx : x = 33
        · subst hx
          by_cases hi : i = c
          · subst hi; rw [stp_eq, j3]
          · rw [stp_nj _ _ _ hi]
        · rw [stp_ne _ _ _ hx]
      obtain ⟨y1, y2⟩ := go (B + 1) t1 a2 (by rw [a3]; exact fnB) lo1 (by rw [u1, u2, tk0]; rfl) g3 (by rw [hd1]; exact g4) et (H.lk.ups (g6 48 (by decide) (by decide)) (by rw [hi1, h1]) (by omega))
      exact ⟨s', t1, t1, 0, g1, j1, by omega, fun n => rfl, y1, Or.inl ⟨_, _, _, _, _, y2⟩⟩
    · rw [if_neg q3] at g3 g4 j3
      have tka : tk w 0 (B + 1) = w.a B := by rw [tk, if_neg (by omega), Nat.add_sub_cancel, if_neg q3]
      rw [e1] at g3 j3
      rw [Nat.add_sub_cancel] at j3
      have z := S.W.i2 e (by omega) (by omega)
      rw [e5, Nat.add_sub_cancel] at z
      have fne : w.fn e = F c := by rw [← z.2.2]; exact fnB
      obtain ⟨d1, d2⟩ := end_n S e3 e4 (by omega)
      obtain ⟨a1, a2, a3, a4⟩ := end_a S e3 e4 (by omega) (Or.inr ⟨e4, fun _ => by rw [e5, Nat.add_sub_cancel]; exact hloB⟩)
      have a5 := a4 0
      unfold ht at a5
      rw [if_pos e4, e5, bs, gv, if_neg (by omega), if_neg (by omega), Nat.add_sub_cancel] at a5
      rw [e5, up_s] at d1
      obtain ⟨y1, y2⟩ := go (e + 1) (stI t1 33 c (nI (e + 1))) a2 (by rw [a3]; exact fne) a1 (by rw [← a5, tka]) g3 (by rw [show w.dp (e + 1) = w.dp B by omega]; exact g4) rfl (H.lk.ups (a := a + 1) (g6 48 (by decide) (by decide)) (by rw [d1, h6]) (by omega))
      have S1 := S.rg (RXf.refl s) j2.w.rm
      refine ⟨s', t1, _, 1, g1, j1, by omega, fun n => ?_, y1, Or.inl ⟨_, _, _, _, _, y2⟩⟩
      exact ms_end S1 ((j2.w.z 20 (by decide) (by decide)).trans H.cf.ru) ((j2.w.z 22 (by decide) (by decide)).trans H.cf.cc) (by omega) j3 e3 e4 (by omega) (by rw [j2.w.o 32 (by decide) (by decide) (by decide) (by decide) (by decide)]; exact f1) fne
end BRS
