-- running: control, the other side; what the class reads of blocks
theorem bd_eta {α σ : Type} (o : Option (α × σ)) : (bd o fun r s => some (r, s)) = o := by cases o <;> rfl
section MCT
variable {w : Cd} {v : Hv} {m : Md} {C nP : Nat} {s : St} {t : SM} {c k : Nat}
theorem mc_c (S : Sta w v m C nP s t) (hk : k < C) (h : w.op k < 17) : f_M_perform (nI k) t = f_M_control (nI k) t := by
  have hC := S.hC
  rw [f_M_perform, gi_n (show k < 250 by omega) (by decide), nI_clamp (by omega), (S.rm k hk).c0, lt1, if_neg (show ¬ 17 ≤ nI (w.op k) from nI_ge (b := 17) h (by decide)), bd_eta]
theorem mc_0 (S : Sta w v m C nP s t) (hk : k < C) (h : w.op k = 0) : f_M_perform (nI k) t = some (2, t) := by
  have hC := S.hC
  rw [mc_c S hk (by omega), f_M_control, gi_n (show k < 250 by omega) (by decide), nI_clamp (by omega), (S.rm k hk).c0, lt1, if_pos (show nI (w.op k) = 0 by rw [h]; rfl)]
theorem mc_8 (S : Sta w v m C nP s t) (hk : k < C) (h : w.op k = 16) (hc : t.1 0 22 = nI 8) : f_M_perform (nI k) t = some (6, t) := by
  have hC := S.hC
  rw [mc_c S hk (by omega), f_M_control, gi_n (show k < 250 by omega) (by decide), nI_clamp (by omega), (S.rm k hk).c0, lt1, if_neg (show ¬ nI (w.op k) = 0 by rw [h]; decide), if_pos (show nI (w.op k) = 16 by rw [h]; rfl), if_pos (show t.1 0 22 = 8 from hc)]
theorem mc_31 (S : Sta w v m C nP s t) (hk : k < C) (h : w.op k < 17) (h0 : w.op k ≠ 0) (h16 : w.op k = 16 → c < 8) (hc : t.1 0 22 = nI c) (h9 : c < 9) : f_M_perform (nI k) t = f_M_control_31 (nI k) (nI (w.op k)) t := by
  have hC := S.hC
  rw [mc_c S hk h, f_M_control, gi_n (show k < 250 by omega) (by decide), nI_clamp (by omega), (S.rm k hk).c0, lt1, if_neg (nI_ne0 (by omega) (by omega))]
  by_cases q : w.op k = 16
  · rw [if_pos (show nI (w.op k) = 16 by rw [q]; rfl), if_neg (show ¬ t.1 0 22 = 8 by rw [hc]; exact fun z => absurd ((nI_eq (b := 8) (by omega) (by decide)).mp z) (by have := h16 q; omega))]
  · rw [if_neg (show ¬ nI (w.op k) = 16 from fun z => q ((nI_eq (b := 16) (by omega) (by decide)).mp z))]
theorem mc_n (S : Sta w v m C nP s t) (hk : k < C) (h : 1 ≤ w.op k ∧ w.op k ≤ 3) (hc : t.1 0 22 = nI c) (h9 : c < 9) : f_M_perform (nI k) t = some (0, stI t 33 c (nI (k + 1))) := by
  have hC := S.hC
  rw [mc_31 S hk (by omega) (by omega) (by omega) hc h9, f_M_control_31, hc, lt1, gi_n h9 (by decide), nI_clamp (show c < 2 ^ 31 by omega)]
  rw [lt1, if_neg (show ¬ nI (w.op k) = 4 from fun z => absurd ((nI_eq (b := 4) (by omega) (by decide)).mp z) (by omega)), if_neg (show ¬ nI (w.op k) = 12 from fun z => absurd ((nI_eq (b := 12) (by omega) (by decide)).mp z) (by omega)), if_neg (show ¬ nI (w.op k) = 13 from fun z => absurd ((nI_eq (b := 13) (by omega) (by decide)).mp z) (by omega)), if_neg (show ¬ nI (w.op k) = 14 from fun z => absurd ((nI_eq (b := 14) (by omega) (by decide)).mp z) (by omega)), if_neg (show ¬ nI (w.op k) = 15 from fun z => absurd ((nI_eq (b := 15) (by omega) (by decide)).mp z) (by omega)), if_neg (show ¬ nI (w.op k) = 16 from fun z => absurd ((nI_eq (b := 16) (by omega) (by decide)).mp z) (by omega)), f_M_control_248, nI_1]
theorem mc_if (S : Sta w v m C nP s t) (hk : k < C) (h : w.op k = 4) (hc : t.1 0 22 = nI c) (h9 : c < 9) {q : Nat} (hsp : t.1 0 23 = nI (q + 1)) (hq : q < 400) : f_M_perform (nI k) t = some (0, stI (stI (stI t 33 c (nI (k + 1))) 0 23 (nI q)) 33 c (nI (if t.1 35 q = 0 then (if w.el k = 0 then w.en k - 1 else w.el k) else k + 1))) := by
  have hC := S.hC
  have R := S.rm k hk
  obtain ⟨e, e1, e2, e3, e4, e5⟩ := en_e S.W S.iC hk (by omega)
  have p1 : f_M_pull (stI t 33 c (nI (k + 1))) = _ := pull_n (q := q) (by rw [stI1, stp_ne _ _ _ (by decide), hsp]) hq
  have self : ∀ (t : SM) (x : Int32), stI (stI (stI t 33 c x) 0 23 (nI q)) 33 c x = stI (stI t 33 c x) 0 23 (nI q) := by
    intro t x
    refine Prod.ext ?_ rfl
    funext a i
    rw [stI1]
    by_cases ha : a = 33
    · subst ha
      by_cases hi : i = c
      · subst hi; rw [stp_eq, stI1, stp_ne _ _ _ (by decide), stI1, stp_eq]
      · rw [stp_nj _ _ _ hi]
    · rw [stp_ne _ _ _ ha]
  rw [mc_31 S hk (by omega) (by omega) (by omega) hc h9, f_M_control_31, hc, lt1, gi_n h9 (by decide), nI_clamp (show c < 2 ^ 31 by omega), lt1, if_pos (show nI (w.op k) = 4 by rw [h]; rfl), nI_1, p1, bd_some, show (stI t 33 c (nI (k + 1))).1 35 q = t.1 35 q by simp (disch := first | decide | omega) only [stI1, stI2, stp_eq, stp_row, stp_ne, stp_nj ]]
  by_cases hx : t.1 35 q = 0
  · have r19 : (stI (stI t 33 c (nI (k + 1))) 0 23 (nI q)).1 19 k = nI (w.el k) - 1 := by simp (disch := first | decide | omega) only [stI1, stI2, stp_eq, stp_row, stp_ne, stp_nj ]; exact R.c5
    have r18 : (stI (stI t 33 c (nI (k + 1))) 0 23 (nI q)).1 18 k = nI (w.en k) - 1 := by simp (disch := first | decide | omega) only [stI1, stI2, stp_eq, stp_row, stp_ne, stp_nj ]; exact R.c4
    have r22 : (stI (stI t 33 c (nI (k + 1))) 0 23 (nI q)).1 0 22 = nI c := by simp (disch := first | decide | omega) only [stI1, stI2, stp_eq, stp_row, stp_ne, stp_nj ]; exact hc
    rw [if_pos hx, if_pos hx, gi_n (show k < 250 by omega) (by decide), nI_clamp (show k < 2 ^ 31 by omega), r19, lt1, gi_n (show k < 250 by omega) (by decide), r18, lt1, gi_n (show k < 250 by omega) (by decide), lt1, lt1, r22, f_M_control_90, f_M_control_90, gi_n h9 (by decide), gi_n h9 (by decide), nI_clamp (show c < 2 ^ 31 by omega)]
    simp only [lt1, f_M_control_248]
    by_cases hel : w.el k = 0
    · rw [hel, if_pos neg1.symm, if_pos rfl, nsub1 (by omega)]
    · obtain ⟨-, -, e', q3, -, q5, -⟩ := S.W.el2 k hel
      rw [if_neg (nIm_ne hel (by omega)), if_neg hel, nsub1 (by omega), nI_1, show w.el k - 1 + 1 = w.el k by omega]
  · rw [if_neg hx, if_neg hx, f_M_control_248, self]
theorem mc_br (S : Sta w v m C nP s t) (hk : k < C) (h : w.op k = 12) (hc : t.1 0 22 = nI c) (h9 : c < 9) : f_M_perform (nI k) t = bd1 (f_M_jump (nI k) (lN (w.a k)) (stI t 33 c (nI (k + 1)))) fun t' => some (0, t') := by
  have hC := S.hC
  rw [mc_31 S hk (by omega) (by omega) (by omega) hc h9, f_M_control_31, hc, lt1, gi_n h9 (by decide), nI_clamp (show c < 2 ^ 31 by omega), lt1, if_neg (show ¬ nI (w.op k) = 4 by rw [h]; decide), if_pos (show nI (w.op k) = 12 by rw [h]; rfl), gi_n (show k < 250 by omega) (by decide), nI_clamp (show k < 2 ^ 31 by omega), stI2, (S.rm k hk).c1, mF, if_neg (show ¬ w.op k = 65 by omega), lt1, nI_1]
  rfl
theorem mc_bif (S : Sta w v m C nP s t) (hk : k < C) (h : w.op k = 13) (hc : t.1 0 22 = nI c) (h9 : c < 9) {q : Nat} (hsp : t.1 0 23 = nI (q + 1)) (hq : q < 400) : f_M_perform (nI k) t = if t.1 35 q = 0 then some (0, stI (stI t 33 c (nI (k + 1))) 0 23 (nI q)) else bd1 (f_M_jump (nI k) (lN (w.a k)) (stI (stI t 33 c (nI (k + 1))) 0 23 (nI q))) fun t' => some (0, t') := by
  have hC := S.hC
  have p1 : f_M_pull (stI t 33 c (nI (k + 1))) = _ := pull_n (q := q) (by rw [stI1, stp_ne _ _ _ (by decide), hsp]) hq
  rw [mc_31 S hk (by omega) (by omega) (by omega) hc h9, f_M_control_31, hc, lt1, gi_n h9 (by decide), nI_clamp (show c < 2 ^ 31 by omega), lt1, if_neg (show ¬ nI (w.op k) = 4 by rw [h]; decide), if_neg (show ¬ nI (w.op k) = 12 by rw [h]; decide), if_pos (show nI (w.op k) = 13 by rw [h]; rfl), nI_1, p1, bd_some, show (stI t 33 c (nI (k + 1))).1 35 q = t.1 35 q by simp (disch := first | decide | omega) only [stI1, stI2, stp_eq, stp_row, stp_ne, stp_nj ], gi_n (show k < 250 by omega) (by decide), nI_clamp (show k < 2 ^ 31 by omega), stI2, stI2, (S.rm k hk).c1, mF, if_neg (show ¬ w.op k = 65 by omega), lt1]
  rfl
theorem mc_tab (S : Sta w v m C nP s t) (hk : k < C) (h : w.op k = 14) (hc : t.1 0 22 = nI c) (h9 : c < 9) {q a : Nat} (hsp : t.1 0 23 = nI (q + 1)) (hq : q < 400) (ha : a < 2 ^ 32) (hx : t.1 35 q = nI a) : f_M_perform (nI k) t = bd1 (f_M_jump (nI k) (lN (w.pl (w.b k + min a (w.a k)))) (stI (stI t 33 c (nI (k + 1))) 0 23 (nI q))) fun t' => some (0, t') := by
  have hC := S.hC
  have hnP := S.hnP
  have htb := S.tb k hk h
  have R := S.rm k hk
  have p1 : f_M_pull (stI t 33 c (nI (k + 1))) = _ := pull_n (q := q) (by rw [stI1, stp_ne _ _ _ (by decide), hsp]) hq
  have m190 : ∀ j, j ≤ w.a k → f_M_control_190 (nI k) (nI (w.op k)) (lN a) (nI k) (lN (w.b k)) (lN j) (stI (stI t 33 c (nI (k + 1))) 0 23 (nI q)) = bd1 (f_M_jump (nI k) (lN (w.pl (w.b k + j))) (stI (stI t 33 c (nI (k + 1))) 0 23 (nI q))) fun t' => some (0, t') := by
    intro j hj
    rw [f_M_control_190, lN_add, lt1, lN_i, lt1, gi_n (by omega) (by decide), nI_clamp (by omega), stI2, stI2, (S.px _ (by omega)).2.2, lt1]
    rfl
  rw [mc_31 S hk (by omega) (by omega) (by omega) hc h9, f_M_control_31, hc, lt1, gi_n h9 (by decide), nI_clamp (show c < 2 ^ 31 by omega), lt1, if_neg (show ¬ nI (w.op k) = 4 by rw [h]; decide), if_neg (show ¬ nI (w.op k) = 12 by rw [h]; decide), if_neg (show ¬ nI (w.op k) = 13 by rw [h]; decide), if_pos (show nI (w.op k) = 14 by rw [h]; rfl), nI_1, p1, bd_some, show (stI t 33 c (nI (k + 1))).1 35 q = nI a by simp (disch := first | decide | omega) only [stI1, stI2, stp_eq, stp_row, stp_ne, stp_nj ]; exact hx, lt1, u32 ha, lt1, gi_n (show k < 250 by omega) (by decide), nI_clamp (show k < 2 ^ 31 by omega), show (stI (stI t 33 c (nI (k + 1))) 0 23 (nI q)).2 16 k = lN (w.b k) from R.c2, lt1, gi_n (show k < 250 by omega) (by decide), show (stI (stI t 33 c (nI (k + 1))) 0 23 (nI q)).2 15 k = lN (w.a k) by rw [stI2, stI2, R.c1, mF, if_neg (show ¬ w.op k = 65 by omega)], lt1, lt1, gi_n (show k < 250 by omega) (by decide), lt1]
  by_cases z : w.a k ≤ a
  · rw [if_pos ((lg_cmp_ge _ _).mpr ((pk_lLE (by omega) (by omega)).mpr z)), m190 _ (Nat.le_refl _), Nat.min_eq_right z]
  · rw [if_neg (fun y => z ((pk_lLE (by omega) (by omega)).mp ((lg_cmp_ge _ _).mp y))), m190 _ (by omega), Nat.min_eq_left (by omega)]
theorem mc_ret (S : Sta w v m C nP s t) (hk : k < C) (h : w.op k = 15) (hc : t.1 0 22 = nI c) (h9 : c < 9) (hf : t.1 32 c = nI (w.fn k)) {bg ls : Nat} (Fs : FnS w C (w.fn k) s t bg ls) : f_M_perform (nI k) t = some (0, stI (stI t 33 c (nI (k + 1))) 33 c (nI ls)) := by
  have hC := S.hC
  have h8 := S.E.nF8
  have hfl := S.lt k hk
  rw [mc_31 S hk (by omega) (by omega) (by omega) hc h9, f_M_control_31, hc, lt1, gi_n h9 (by decide), nI_clamp (show c < 2 ^ 31 by omega), lt1, if_neg (show ¬ nI (w.op k) = 4 by rw [h]; decide), if_neg (show ¬ nI (w.op k) = 12 by rw [h]; decide), if_neg (show ¬ nI (w.op k) = 13 by rw [h]; decide), if_neg (show ¬ nI (w.op k) = 14 by rw [h]; decide), if_pos (show nI (w.op k) = 15 by rw [h]; rfl), nI_1, show (stI t 33 c (nI (k + 1))).1 0 22 = nI c by simp (disch := first | decide | omega) only [stI1, stI2, stp_eq, stp_row, stp_ne, stp_nj ]; exact hc, gi_n h9 (by decide), nI_clamp (show c < 2 ^ 31 by omega), show (stI t 33 c (nI (k + 1))).1 32 c = nI (w.fn k) by simp (disch := first | decide | omega) only [stI1, stI2, stp_eq, stp_row, stp_ne, stp_nj ]; exact hf, lt1, gi_n (show w.fn k < 8 by omega) (by decide), nI_clamp (show w.fn k < 2 ^ 31 by omega), show (stI t 33 c (nI (k + 1))).1 23 (w.fn k) = nI ls by simp (disch := first | decide | omega) only [stI1, stI2, stp_eq, stp_row, stp_ne, stp_nj ]; exact Fs.m23, lt1, gi_n h9 (by decide), lt1, f_M_control_248]
theorem mc_call (S : Sta w v m C nP s t) (hk : k < C) (h : w.op k = 16) (hc : t.1 0 22 = nI c) (h8 : c < 8) : f_M_perform (nI k) t = bd1 (f_M_enter (nI (w.a k)) (stI t 33 c (nI (k + 1)))) fun t' => some (0, t') := by
  have hC := S.hC
  rw [mc_31 S hk (by omega) (by omega) (fun _ => h8) hc (by omega), f_M_control_31, hc, lt1, gi_n (show c < 9 by omega) (by decide), nI_clamp (show c < 2 ^ 31 by omega), lt1, if_neg (show ¬ nI (w.op k) = 4 by rw [h]; decide), if_neg (show ¬ nI (w.op k) = 12 by rw [h]; decide), if_neg (show ¬ nI (w.op k) = 13 by rw [h]; decide), if_neg (show ¬ nI (w.op k) = 14 by rw [h]; decide), if_neg (show ¬ nI (w.op k) = 15 by rw [h]; decide), if_pos (show nI (w.op k) = 16 by rw [h]; rfl), nI_1, gi_n (show k < 250 by omega) (by decide), nI_clamp (show k < 2 ^ 31 by omega), stI2, (S.rm k hk).c1, mF, if_neg (show ¬ w.op k = 65 by omega), lt1, lN_i, lt1]
  rfl
/-- the class's rows of blocks -/
theorem x_lres (S : Sta w v m C nP s t) {B : Nat} (hB : B < C) (ho : 2 ≤ w.op B ∧ w.op B ≤ 4) : f_Cont_labelResults s (nI B) = some (nI (tk w 0 (B + 1))) := by
  have hC := S.hC
  have R := S.rx B hB
  have hb := (S.kn hB).2.blk ho
  rw [f_Cont_labelResults, tg_240_7_0 (by omega), R.c0, lt1, tk, if_neg (show ¬ B + 1 = 0 by omega), Nat.add_sub_cancel]
  simp only [f_Cont_labelResults_31, f_Cont_labelResults_32]
  by_cases q3 : w.op B = 3
  · rw [if_pos (show nI (w.op B) = 3 by rw [q3]; rfl), if_pos q3]; rfl
  · rw [if_neg (show ¬ nI (w.op B) = 3 from fun z => q3 ((nI_eq (b := 3) (by omega) (by decide)).mp z)), if_neg q3, tg_240_7_1 (by omega), R.c1, lt1, xF, if_pos ho]
    by_cases q1 : w.a B = 1
    · rw [if_pos q1, if_pos rfl, q1]; rfl
    · rw [if_neg q1, if_neg (by decide), show w.a B = 0 by omega]; rfl
theorem x_end (S : Sta w v m C nP s t) {B : Nat} (hB : B < C) (ho : 2 ≤ w.op B ∧ w.op B ≤ 4) : f_Cont_endOf s (nI B) = some (nI (w.en B - 1)) := by
  have hC := S.hC
  obtain ⟨e, e1, e2, e3, e4, e5⟩ := en_e S.W S.iC hB ho
  rw [f_Cont_endOf, tg_240_7_3 (by omega), (S.rx B hB).c3, mate, if_neg (by omega), lt1]
  simp only [f_Cont_endOf_36]
  by_cases hel : w.el B = 0
  · rw [if_pos hel, e1, Nat.add_sub_cancel, tg_240_7_0 (by omega), (S.rx e e3).c0, lt1, if_neg (show ¬ nI (w.op e) = 5 by rw [e4]; decide)]
  · obtain ⟨q1, q2, e', q3, q4, q5, q6, q7, q8⟩ := S.W.el2 B hel
    rw [if_neg hel, q3, Nat.add_sub_cancel, tg_240_7_0 (by omega), (S.rx e' q5).c0, lt1, if_pos (show nI (w.op e') = 5 by rw [q6]; rfl), tg_240_7_3 (by omega), (S.rx e' q5).c3, mate, if_pos q6, lt1, q7, Nat.add_sub_cancel]
theorem x_oth (S : Sta w v m C nP s t) {B : Nat} (hB : B < C) (ho : 2 ≤ w.op B ∧ w.op B ≤ 4) : f_Cont_otherwiseOf s (nI B) = some (nI (if w.el B = 0 then w.en B - 1 else w.el B)) := by
  have hC := S.hC
  obtain ⟨e, e1, e2, e3, e4, e5⟩ := en_e S.W S.iC hB ho
  rw [f_Cont_otherwiseOf, tg_240_7_3 (by omega), (S.rx B hB).c3, mate, if_neg (by omega), lt1]
  simp only [f_Cont_otherwiseOf_30]
  by_cases hel : w.el B = 0
  · rw [if_pos hel, if_pos hel, e1, Nat.add_sub_cancel, tg_240_7_0 (by omega), (S.rx e e3).c0, lt1, if_neg (show ¬ nI (w.op e) = 5 by rw [e4]; decide)]
  · obtain ⟨q1, q2, e', q3, q4, q5, q6, q7, q8⟩ := S.W.el2 B hel
    rw [if_neg hel, if_neg hel, q3, Nat.add_sub_cancel, tg_240_7_0 (by omega), (S.rx e' q5).c0, lt1, if_pos (show nI (w.op e') = 5 by rw [q6]; rfl), lt1, nI_1]
end MCT
