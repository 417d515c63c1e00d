-- register code is made: the other side
def WrM (n : Nat) (x1 x2 x3 x4 : Int32) (t t' : SM) : Prop :=
  (t'.1 0 25 = nI ((n + 1) * 4)) ∧
  (∀ j, j ≠ 25 → t'.1 0 j = t.1 0 j) ∧
  (∀ a, a ≠ 0 → a ≠ 36 → t'.1 a = t.1 a) ∧
  (t'.2 = t.2) ∧
  (∀ j, j < n * 4 → t'.1 36 j = t.1 36 j) ∧
  (t'.1 36 (n * 4 + 0) = x1) ∧
  (t'.1 36 (n * 4 + 1) = x2) ∧
  (t'.1 36 (n * 4 + 2) = x3) ∧
  (t'.1 36 (n * 4 + 3) = x4)
theorem WrM.e {n : Nat} {x1 x2 x3 x4 : Int32} {t t' : SM} (q0_ : WrM n x1 x2 x3 x4 t t') : t'.1 0 25 = nI ((n + 1) * 4) := q0_.1
theorem WrM.z {n : Nat} {x1 x2 x3 x4 : Int32} {t t' : SM} (q0_ : WrM n x1 x2 x3 x4 t t') : ∀ j, j ≠ 25 → t'.1 0 j = t.1 0 j := q0_.2.1
theorem WrM.o {n : Nat} {x1 x2 x3 x4 : Int32} {t t' : SM} (q0_ : WrM n x1 x2 x3 x4 t t') : ∀ a, a ≠ 0 → a ≠ 36 → t'.1 a = t.1 a := q0_.2.2.1
theorem WrM.y {n : Nat} {x1 x2 x3 x4 : Int32} {t t' : SM} (q0_ : WrM n x1 x2 x3 x4 t t') : t'.2 = t.2 := q0_.2.2.2.1
theorem WrM.l {n : Nat} {x1 x2 x3 x4 : Int32} {t t' : SM} (q0_ : WrM n x1 x2 x3 x4 t t') : ∀ j, j < n * 4 → t'.1 36 j = t.1 36 j := q0_.2.2.2.2.1
theorem WrM.c0 {n : Nat} {x1 x2 x3 x4 : Int32} {t t' : SM} (q0_ : WrM n x1 x2 x3 x4 t t') : t'.1 36 (n * 4 + 0) = x1 := q0_.2.2.2.2.2.1
theorem WrM.c1 {n : Nat} {x1 x2 x3 x4 : Int32} {t t' : SM} (q0_ : WrM n x1 x2 x3 x4 t t') : t'.1 36 (n * 4 + 1) = x2 := q0_.2.2.2.2.2.2.1
theorem WrM.c2 {n : Nat} {x1 x2 x3 x4 : Int32} {t t' : SM} (q0_ : WrM n x1 x2 x3 x4 t t') : t'.1 36 (n * 4 + 2) = x3 := q0_.2.2.2.2.2.2.2.1
theorem WrM.c3 {n : Nat} {x1 x2 x3 x4 : Int32} {t t' : SM} (q0_ : WrM n x1 x2 x3 x4 t t') : t'.1 36 (n * 4 + 3) = x4 := q0_.2.2.2.2.2.2.2.2
theorem wr_m {t : SM} {n : Nat} (x1 x2 x3 x4 : Int32) (h : t.1 0 25 = nI (n * 4)) (hn : n < 240) : ∃ t', f_M_write x1 x2 x3 x4 t = some t' ∧ WrM n x1 x2 x3 x4 t t' := by
  have h1 : (stI t 36 (n * 4) x1).1 0 25 = nI (n * 4) := by simp (disch := first | decide | omega) only [stI1, stI2, stp_eq, stp_row, stp_ne, stp_nj ]; exact h
  have h2 : (stI (stI t 36 (n * 4) x1) 36 (n * 4 + 1) x2).1 0 25 = nI (n * 4) := by simp (disch := first | decide | omega) only [stI1, stI2, stp_eq, stp_row, stp_ne, stp_nj ]; exact h
  have h3 : (stI (stI (stI t 36 (n * 4) x1) 36 (n * 4 + 1) x2) 36 (n * 4 + 2) x3).1 0 25 = nI (n * 4) := by simp (disch := first | decide | omega) only [stI1, stI2, stp_eq, stp_row, stp_ne, stp_nj ]; exact h
  have h4 : (stI (stI (stI (stI t 36 (n * 4) x1) 36 (n * 4 + 1) x2) 36 (n * 4 + 2) x3) 36 (n * 4 + 3) x4).1 0 25 = nI (n * 4) := by simp (disch := first | decide | omega) only [stI1, stI2, stp_eq, stp_row, stp_ne, stp_nj ]; exact h
  rw [f_M_write, h, gi_n (show n * 4 < 2400 by omega) (by decide), nI_clamp (show n * 4 < 2 ^ 31 by omega), lt1, h1, show nI (n * 4) + 1 = nI (n * 4 + 1) from nI_add _ 1, lt1, gi_n (show n * 4 + 1 < 2400 by omega) (by decide), nI_clamp (show n * 4 + 1 < 2 ^ 31 by omega), lt1, h2, show nI (n * 4) + 2 = nI (n * 4 + 2) from nI_add _ 2, lt1, gi_n (show n * 4 + 2 < 2400 by omega) (by decide), nI_clamp (show n * 4 + 2 < 2 ^ 31 by omega), lt1, h3, show nI (n * 4) + 3 = nI (n * 4 + 3) from nI_add _ 3, lt1, gi_n (show n * 4 + 3 < 2400 by omega) (by decide), nI_clamp (show n * 4 + 3 < 2 ^ 31 by omega), lt1, h4, show nI (n * 4) + 4 = nI (n * 4 + 4) from nI_add _ 4, lt1, lt1]
  refine ⟨_, rfl, by simp (disch := first | decide | omega) only [stI1, stI2, stp_eq, stp_row, stp_ne, stp_nj ]; exact congrArg nI (by omega), fun j hj => by simp (disch := first | decide | omega) only [stI1, stI2, stp_eq, stp_row, stp_ne, stp_nj ], fun a a1 a2 => by simp (disch := first | decide | omega) only [stI1, stI2, stp_eq, stp_row, stp_ne, stp_nj ], rfl, fun j hj => ?_, ?_, ?_, ?_, ?_⟩
  · simp only [stI1]; rw [stp_ne _ _ _ (by decide), stp_nj _ _ _ (by omega), stp_nj _ _ _ (by omega), stp_nj _ _ _ (by omega), stp_nj _ _ _ (by omega)]
  · simp only [stI1]; rw [stp_ne _ _ _ (by decide), stp_nj _ _ _ (by omega), stp_nj _ _ _ (by omega), stp_nj _ _ _ (by omega), Nat.add_zero, stp_eq]
  · simp only [stI1]; rw [stp_ne _ _ _ (by decide), stp_nj _ _ _ (by omega), stp_nj _ _ _ (by omega), stp_eq]
  · simp only [stI1]; rw [stp_ne _ _ _ (by decide), stp_nj _ _ _ (by omega), stp_eq]
  · simp only [stI1]; rw [stp_ne _ _ _ (by decide), stp_eq]
theorem WrM.f {n : Nat} {x1 x2 x3 x4 : Int32} {t0 t t' : SM} (h : WrM n x1 x2 x3 x4 t t') (hm : CMf t0 t) : CMf t0 t' :=
  ⟨h.y.trans hm.l, fun a a1 a2 a3 => by rw [h.o a a1 a3]; exact hm.o a a1 a2 a3, fun j j1 j2 j3 => by rw [h.z j j3]; exact hm.z j j1 j2 j3⟩
section WRM
variable {w : Cd} {v : Hv} {m : Md} {C nP : Nat} {s : St} {t0 t : SM} {bgf lsf : Nat → Nat} {f k : Nat}
theorem blk_go (S : Sta w v m C nP s t) (hkC : k < C) {a : Nat} (ha : a ≤ w.dp k) : ∀ d j N, j + d = a → d < N → f_M_blockAt_11 t N (nI k) (lN a) (nI (ups w.ins j (w.ins k)) - 1) (lN j) = some (nI (ups w.ins a (w.ins k)) - 1) := by
  have h10 := S.W.d10 k (by omega)
  have hC := S.hC
  intro d
  induction d with
  | zero =>
    intro j N hj hN
    obtain ⟨N, rfl⟩ : ∃ q, N = q + 1 := ⟨N - 1, by omega⟩
    rw [f_M_blockAt_11, lt1, show j = a by omega, if_pos ((lg_cmp_ge _ _).mpr (by rw [lN_le (by omega) (by omega)]; exact Nat.le_refl _)), f_M_blockAt_42]
  | succ d ih =>
    intro j N hj hN
    obtain ⟨N, rfl⟩ : ∃ q, N = q + 1 := ⟨N - 1, by omega⟩
    obtain ⟨B, h1, h2, h3, h4, h5, h6⟩ := chn S.W (show k ≤ C by omega) j (by omega)
    rw [f_M_blockAt_11, lt1, if_neg (fun q => absurd ((lN_le (by omega) (by omega)).mp ((lg_cmp_ge _ _).mp q)) (by omega)), h1, nI_pred, if_neg (show ¬ nI B = -1 from fun q => absurd (nI_pos' (n := B) (by omega)) (by rw [q]; decide +kernel)), gi_n (by omega) (by decide), nI_clamp (by omega), (S.rm B (by omega)).c3, lt1, lN_1, lt1, ← h6]
    exact ih (j + 1) N (by omega) (by omega)
theorem blk_m (S : Sta w v m C nP s t) (hkC : k < C) {a : Nat} (ha : a ≤ w.dp k) : f_M_blockAt t (nI k) (lN a) = some (nI (ups w.ins a (w.ins k)) - 1) := by
  have h10 := S.W.d10 k (by omega)
  have hC := S.hC
  have hN := FU_9
  have go := blk_go S hkC ha a 0 FU (by omega) (by omega)
  rw [f_M_blockAt, gi_n (show k < 250 by omega) (by decide), nI_clamp (show k < 2 ^ 31 by omega), (S.rm k hkC).c3, lt1]
  exact go
theorem tgt_m (S : Sta w v m C nP s t) (G : Ctg w m C bgf lsf s t) (col : ∀ q, q < C → t.1 21 q = nI (ent w v q)) (hk : k < C) (hf : w.fn k = f) {a : Nat} (ha : a ≤ w.dp k) : f_M_target t (nI f) (nI k) (lN a) = some (nI (tg w v (lsf f) (ups w.ins a (w.ins k)))) := by
  have hC := S.hC
  have h8 := S.E.nF8
  have hfl := S.lt k hk
  rw [f_M_target, blk_m S hk ha, bd1_some]
  by_cases had : a = w.dp k
  · subst had
    have Fs := G.fs f (by omega)
    have hl := Fs.lC
    rw [chn0 S.W (by omega), tg, if_pos rfl, if_pos neg1.symm, gi_n (show f < 8 by omega) (by decide), nI_clamp (by omega), Fs.m23, lt1, gi_n (show lsf f < 251 by omega) (by decide), nI_clamp (by omega), col _ hl, lt1]
  · obtain ⟨B, h1, h2, h3, h4, h5, h6⟩ := chn S.W (show k ≤ C by omega) a (by omega)
    have R := S.rm B (by omega)
    have hoB := kno_lt (S.kn (show B < C by omega)).1
    obtain ⟨e, e1, e2, e3, e4, e5⟩ := en_e S.W S.iC (show B < C by omega) h3
    rw [h1, nI_pred, if_neg (show ¬ nI B = -1 from fun q => absurd (nI_pos' (n := B) (by omega)) (by rw [q]; decide +kernel)), gi_n (show B < 250 by omega) (by decide), nI_clamp (show B < 2 ^ 31 by omega), R.c0, lt1, tg, if_neg (show ¬ B + 1 = 0 by omega), Nat.add_sub_cancel]
    by_cases q3 : w.op B = 3
    · obtain ⟨a2, -⟩ := S.lastC (show B < C by omega) (by omega)
      rw [if_pos (show nI (w.op B) = 3 by rw [q3]; rfl), if_pos q3, nI_1, lt1, gi_n (show B + 1 < 251 by omega) (by decide), nI_clamp (show B + 1 < 2 ^ 31 by omega), col _ a2, lt1, f_M_target_61]
    · rw [if_neg (show ¬ nI (w.op B) = 3 from fun z => q3 ((nI_eq (b := 3) (by omega) (by decide)).mp z)), if_neg q3, gi_n (show B < 250 by omega) (by decide), R.c4, e1, nI_pred, lt1, gi_n (show e < 251 by omega) (by decide), nI_clamp (show e < 2 ^ 31 by omega), col _ e3, lt1, f_M_target_61, Nat.add_sub_cancel]
theorem lft_m (S : Sta w v m C nP s t) (hk : k < C) (hlo : v.lo k = 0) (hf : w.fn k = f) {a : Nat} (ha : a ≤ w.dp k) : f_M_left t (nI f) (nI k) (lN a) = some (nI (lf w v m f (ups w.ins a (w.ins k)))) := by
  have hC := S.hC
  have h8 := S.E.nF8
  have hfl := S.lt k hk
  rw [f_M_left, blk_m S hk ha, bd1_some]
  by_cases had : a = w.dp k
  · subst had
    rw [chn0 S.W (by omega), lf, bs, if_pos rfl, tk, if_pos rfl, if_pos neg1.symm, S.E.lcM (show f < m.nF by omega), bd1_some, show 2 * nI (m.loc f) = nI (2 * m.loc f) from pk_mul 2 _, lt1, mres S.E (show f < m.nF by omega), bd1_some, nI_add, lt1, Nat.add_zero]
  · obtain ⟨B, h1, h2, h3, h4, h5, h6⟩ := chn S.W (show k ≤ C by omega) a (by omega)
    have hBC : B < C := by omega
    have R := S.rm B hBC
    have hoB := kno_lt (S.kn hBC).1
    have hloB := (S.alv hk hlo a B h1).2
    have bB := S.bb hBC hloB h3
    have htk : tk w (m.res f) (B + 1) = tk w 0 (B + 1) := by unfold tk; rw [if_neg (show ¬ B + 1 = 0 by omega), if_neg (show ¬ B + 1 = 0 by omega)]
    have fin : ∀ y, v.bb B + y = v.hi B → f_M_left_51 t (nI f) (nI k) (lN a) (nI B) (nI (v.hi B)) (nI y) = some (nI (2 * (m.loc f + v.bb B) + tk w 0 (B + 1))) := by
      intro y hy
      rw [f_M_left_51, pk_sub (by omega), lt1, S.E.lcM (show f < m.nF by omega), bd1_some, nI_add, lt1, show 2 * nI (m.loc f + (v.hi B - y)) = nI (2 * (m.loc f + (v.hi B - y))) from pk_mul 2 _, lt1, gi_n (show B < 250 by omega) (by decide), nI_clamp (show B < 2 ^ 31 by omega), R.c0, lt1, show v.hi B - y = v.bb B by omega, tk, if_neg (show ¬ B + 1 = 0 by omega), Nat.add_sub_cancel]
      by_cases q3 : w.op B = 3
      · rw [if_pos (show nI (w.op B) = 3 by rw [q3]; rfl), if_pos q3, f_M_left_87, lt1, Nat.add_zero]
        exact congrArg some (nI_add _ 0)
      · rw [if_neg (show ¬ nI (w.op B) = 3 from fun z => q3 ((nI_eq (b := 3) (by omega) (by decide)).mp z)), if_neg q3, gi_n (show B < 250 by omega) (by decide), R.c1, mF, if_neg (by omega), lt1, lN_i, lt1, f_M_left_87, nI_add, lt1]
    rw [h1, nI_pred, if_neg (show ¬ nI B = -1 from fun q => absurd (nI_pos' (n := B) (by omega)) (by rw [q]; decide +kernel)), gi_n (show B < 250 by omega) (by decide), nI_clamp (show B < 2 ^ 31 by omega), S.H.m20 B hBC, lt1, gi_n (show B < 250 by omega) (by decide), R.c0, lt1, lf, bs, if_neg (show ¬ B + 1 = 0 by omega), Nat.add_sub_cancel, htk]
    by_cases q4 : w.op B = 4
    · rw [if_pos q4] at bB
      rw [if_pos (show nI (w.op B) = 4 by rw [q4]; rfl)]
      exact fin 1 bB
    · rw [if_neg q4] at bB
      rw [if_neg (show ¬ nI (w.op B) = 4 from fun z => q4 ((nI_eq (b := 4) (by omega) (by decide)).mp z))]
      exact fin 0 bB
theorem tab_m (S : Sta w v m C nP s t0) (G : Ctg w m C bgf lsf s t0) (hE24 : ent w v C ≤ 240) (hk : k < C) (hlo : v.lo k = 0) (h14 : w.op k = 14) (hf : w.fn k = f) : ∀ d i N t x3, i + d = w.a k + 1 → d < N → CMf t0 t → (∀ q, q < C → t.1 21 q = nI (ent w v q)) → t.1 0 25 = nI ((ent w v k + 1 + i) * 4) →
    ∃ t', f_M_writeEntry_123 N (nI f) (nI k) x3 (nI (m.loc f + v.hi k)) (nI i) t = some t' ∧ CMf t0 t' ∧ t'.1 21 = t.1 21 ∧ t'.1 0 24 = t.1 0 24 ∧ t'.1 0 0 = t.1 0 0 ∧ t'.1 0 25 = nI (ent w v (k + 1) * 4) ∧ (∀ j, j < (ent w v k + 1 + i) * 4 → t'.1 36 j = t.1 36 j) ∧
      ∀ j, i ≤ j → j ≤ w.a k → W4 (t'.1 36) (ent w v k + 1 + j) 12 (m.loc (w.fn k) + v.hi k - 1) (nI (tg w v (lsf (w.fn k)) (ups w.ins (w.pl (w.b k + j)) (w.ins k)))) (lf w v m (w.fn k) (ups w.ins (w.pl (w.b k + j)) (w.ins k))) := by
  have hC := S.hC
  have ha8 := (S.kn hk).2.tab h14
  have htb := S.tb k hk h14
  have hnP := S.hnP
  have T := (S.H.sr k hk).wt hlo
  have c14 := hasE_14 hlo h14
  have hle := ent_le w v (show k + 1 ≤ C by omega)
  rw [ent_s, c14] at hle
  intro d
  induction d with
  | zero =>
    intro i N t x3 hd hN hm col h1
    obtain ⟨N, rfl⟩ : ∃ q, N = q + 1 := ⟨N - 1, by omega⟩
    have R := (S.rc (CXf.refl s) hm).rm k hk
    refine ⟨t, ?_, hm, rfl, rfl, rfl, ?_, fun _ _ => rfl, fun j j1 j2 => by omega⟩
    · rw [f_M_writeEntry_123, nI_l (by omega), lt1, gi_n (show k < 250 by omega) (by decide), nI_clamp (show k < 2 ^ 31 by omega), R.c1, mF, if_neg (by omega), lt1, lt1, if_pos ((lg_cmp_gt _ _).mpr ((lN_lt (by omega) (by omega)).mpr (by omega))), f_M_writeEntry_409]
    · rw [h1, ent_s, c14]; exact congrArg nI (by omega)
  | succ d ih =>
    intro i N t x3 hd hN hm col h1
    obtain ⟨N, rfl⟩ : ∃ q, N = q + 1 := ⟨N - 1, by omega⟩
    have S1 := S.rc (CXf.refl s) hm
    have G1 := G.rc (CXf.refl s) hm
    have R := S1.rm k hk
    obtain ⟨b1, b2⟩ := T.t14 h14 i (by omega)
    obtain ⟨t1, w1, w2⟩ := wr_m 12 (nI (m.loc f + v.hi k - 1)) (nI (tg w v (lsf f) (ups w.ins (w.pl (w.b k + i)) (w.ins k)))) (nI (lf w v m f (ups w.ins (w.pl (w.b k + i)) (w.ins k)))) h1 (by omega)
    have e21 : t1.1 21 = t.1 21 := w2.o 21 (by decide) (by decide)
    obtain ⟨t', g1, g2, g3, ga, gb, g5, g6, g7⟩ := ih (i + 1) N t1 x3 (by omega) (by omega) (w2.f hm) (by rw [e21]; exact col) (by rw [w2.e]; exact congrArg nI (by omega))
    refine ⟨t', ?_, g2, g3.trans e21, ga.trans (w2.z 24 (by decide)), gb.trans (w2.z 0 (by decide)), g5, fun j hj => by rw [g6 j (by omega), w2.l j hj], fun j j1 j2 => ?_⟩
    · rw [f_M_writeEntry_123, nI_l (by omega), lt1, gi_n (show k < 250 by omega) (by decide), nI_clamp (show k < 2 ^ 31 by omega), R.c1, mF, if_neg (by omega), lt1, lt1, if_neg (fun z => absurd ((lN_lt (by omega) (by omega)).mp ((lg_cmp_gt _ _).mp z)) (by omega)), gi_n (show k < 250 by omega) (by decide), R.c2, lt1, lN_i, lt1, nI_add, lt1, gi_n (show w.b k + i < 250 by omega) (by decide), nI_clamp (show w.b k + i < 2 ^ 31 by omega), (S1.px _ (by omega)).2.2, lt1, nsub1 (by omega), lt1, tgt_m S1 G1 col hk hf b1, bd1_some, lft_m S1 hk hlo hf b1, bd1_some, w1, bd1_some, nI_1, lt1, g1]
    · by_cases e : j = i
      · subst e
        rw [hf]
        refine W4.cg (r := t1.1 36) ⟨w2.c0, w2.c1, w2.c2, w2.c3⟩ (N := ent w v k + 1 + (j + 1)) g6 (by omega)
      · exact g7 j (by omega) j2
/-- what an instruction with no meaning for the register code's jumps writes -/
theorem wpl_m (S : Sta w v m C nP s t) (hk : k < C) (h : w.op k < 4 ∨ 16 < w.op k) (x1 x4 : Int32) : (if nI (w.op k) ≤ 31 then f_M_writeEntry_350 x1 (nI k) (nI (w.op k)) x4 t else if nI (w.op k) < 37 then f_M_writeEntry_356 x1 (nI k) (nI (w.op k)) x4 t else f_M_writeEntry_350 x1 (nI k) (nI (w.op k)) x4 t) = bd1 (f_M_write (nI (w.op k)) x4 (X2w w v bgf lsf k) 0 t) (fun t' => some t') := by
  have hC := S.hC
  have R := S.rm k hk
  have ho := kno_lt (S.kn hk).1
  have hkn := (S.kn hk).1
  obtain ⟨a32, b32, oblk, otab, ob0, oa0⟩ := (S.kn hk).2
  unfold kno at hkn
  simp only [Bool.or_eq_true, decide_eq_true_eq] at hkn
  have e405 : ∀ y z, f_M_writeEntry_405 x1 (nI k) (nI (w.op k)) x4 y (nI (w.op k)) x4 z t = bd1 (f_M_write (nI (w.op k)) x4 z 0 t) (fun t' => some t') := fun y z => by rw [f_M_writeEntry_405]; rfl
  have e404 : ∀ y, f_M_writeEntry_404 x1 (nI k) (nI (w.op k)) x4 y (nI (w.op k)) x4 t = bd1 (f_M_write (nI (w.op k)) x4 0 0 t) (fun t' => some t') := fun y => by rw [f_M_writeEntry_404, e405]
  have e356 : f_M_writeEntry_356 x1 (nI k) (nI (w.op k)) x4 t = bd1 (f_M_write (nI (w.op k)) x4 (nI (w.a k)) 0 t) (fun t' => some t') := by
    have : Int64.toInt32 (mF (w.op k) (w.a k)) = nI (w.a k) := by
      rw [mF]
      by_cases q : w.op k = 65
      · rw [if_pos q, Int32.toInt32_toInt64]
      · rw [if_neg q, lN_i]
    rw [f_M_writeEntry_356, f_M_writeEntry_361, if_neg (by decide), gi_n (show k < 250 by omega) (by decide), nI_clamp (show k < 2 ^ 31 by omega), R.c1, lt1, this, lt1, e405]
  have x2 : X2w w v bgf lsf k = if w.op k = 2 ∨ w.op k = 3 then 0 else xF (w.op k) (w.a k) (w.b k) := by rw [X2w, if_neg (by omega), if_neg (by omega), if_neg (by omega), if_neg (by omega)]
  have e350 : ¬ w.op k = 65 → f_M_writeEntry_350 x1 (nI k) (nI (w.op k)) x4 t = bd1 (f_M_write (nI (w.op k)) x4 (if 39 < w.op k ∧ w.op k < 60 then nI (w.b k) else 0) 0 t) (fun t' => some t') := by
    intro q65
    rw [f_M_writeEntry_350, if_neg (show ¬ nI (w.op k) = 65 from fun z => q65 ((nI_eq (b := 65) (by omega) (by decide)).mp z)), f_M_writeEntry_361, if_pos rfl, e404]
    by_cases q : w.op k ≤ 39
    · rw [if_pos (show nI (w.op k) ≤ 39 from nI_le (b := 39) q (by decide)), if_neg (by omega)]
    · rw [if_neg (show ¬ nI (w.op k) ≤ 39 from nI_ge (a := 39) (by omega) (by omega))]
      by_cases q6 : 60 ≤ w.op k
      · rw [if_pos (show 60 ≤ nI (w.op k) from nI_le (a := 60) q6 (by omega)), if_neg (by omega)]
      · rw [if_neg (show ¬ 60 ≤ nI (w.op k) from nI_ge (b := 60) (by omega) (by decide)), gi_n (show k < 250 by omega) (by decide), nI_clamp (show k < 2 ^ 31 by omega), R.c2, lt1, lN_i, lt1, e405, if_pos (by omega)]
  rw [x2]
  by_cases q31 : w.op k ≤ 31
  · rw [if_pos (show nI (w.op k) ≤ 31 from nI_le (b := 31) q31 (by decide)), e350 (by omega), if_neg (show ¬ (39 < w.op k ∧ w.op k < 60) by omega)]
    by_cases q2 : w.op k = 2 ∨ w.op k = 3
    · rw [if_pos q2]
    · rw [if_neg q2, xF, if_neg (by omega), if_neg (by omega), oa0 (by unfold nam acc; omega)]; rfl
  · rw [if_neg (show ¬ nI (w.op k) ≤ 31 from nI_ge (a := 31) (by omega) (by omega)), if_neg (show ¬ (w.op k = 2 ∨ w.op k = 3) by omega), xF, if_neg (show ¬ (2 ≤ w.op k ∧ w.op k ≤ 4) by omega)]
    by_cases q37 : w.op k < 37
    · rw [if_pos (show nI (w.op k) < 37 from nI_lt (b := 37) q37 (by decide)), e356, if_neg (by omega)]
    · rw [if_neg (show ¬ nI (w.op k) < 37 from fun z => q37 ((nI_ltI (b := 37) (by omega) (by decide)).mp z))]
      by_cases q65 : w.op k = 65
      · rw [f_M_writeEntry_350, if_pos (show nI (w.op k) = 65 by rw [q65]; rfl), e356, if_neg (by omega)]
      · rw [e350 q65]
        by_cases qa : 39 < w.op k ∧ w.op k < 60
        · rw [if_pos qa, if_pos qa]
        · rw [if_neg qa, if_neg qa, oa0 (by unfold nam acc; omega)]; rfl
end WRM
