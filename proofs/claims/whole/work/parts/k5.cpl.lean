-- register code is made: both sides alike
section CPL
variable {w : Cd} {v : Hv} {m : Md} {C nP : Nat} {s : St} {t0 t : SM} {bgf lsf : Nat → Nat} {f k : Nat}
theorem wre_1 (S : Sta w v m C nP s t) (G : Ctg w m C bgf lsf s t) (hk : k < C) (hE : hasE w v k) (hf : w.fn k = f) (col : ∀ q, q < C → t.1 21 q = nI (ent w v q)) (h14 : w.op k ≠ 14) : f_M_writeEntry (nI f) (nI k) t = bd1 (f_M_write (nI (w.op k)) (nI (X1w w v m k)) (X2w w v bgf lsf k) (nI (X3w w v m k)) t) (fun t' => some t') := by
  have hC := S.hC
  have h8 := S.E.nF8
  have hfl := S.lt k hk
  have R := S.rm k hk
  have ho := kno_lt (S.kn hk).1
  have hok := (S.kn hk).2
  have hlo : w.op k ≠ 11 → v.lo k = 0 := fun z => by rcases hE with q | q; exact q.1; exact absurd q.1 z
  have e409 : ∀ a b c d t', f_M_writeEntry_409 a b c d t' = some t' := fun _ _ _ _ _ => rfl
  have gk := fun {β : Type} (o : Option β) => gi_n (o := o) (show k < 250 by omega) (by decide)
  have ck := nI_clamp (show k < 2 ^ 31 by omega)
  rw [f_M_writeEntry, gk, ck, R.c0, lt1, S.E.lcM (show f < m.nF by omega), bd1_some, gk, S.H.m20 k hk, lt1, nI_add, lt1]
  by_cases h11 : w.op k = 11
  · have x2 : X2w w v bgf lsf k = 0 := by rw [X2w, if_neg (by omega), if_neg (by omega), if_neg (by omega), if_neg (by omega), if_neg (by omega), xF, if_neg (by omega), if_neg (by omega), hok.a0 (by unfold nam acc; omega)]; rfl
    rw [if_pos (show nI (w.op k) = 11 by rw [h11]; rfl), bd1_some, mres S.E (show f < m.nF by omega), bd1_some, nI_add, lt1, bd1_some, x2, X1w, if_pos h11, X3w, if_neg (by omega), if_neg (by omega), if_pos (Or.inr h11), hf, show (11 : Int32) = nI (w.op k) by rw [h11]; rfl]
    simp only [e409]
  rw [if_neg (show ¬ nI (w.op k) = 11 from fun z => h11 ((nI_eq (b := 11) (by omega) (by decide)).mp z)), X1w, if_neg h11, hf]
  have T := (S.H.sr k hk).wt (hlo h11)
  have e65 : w.op k = 12 ∨ w.op k = 13 → f_M_writeEntry_65 (nI f) (nI k) (nI (w.op k)) (nI (m.loc f + v.hi k)) t = bd1 (f_M_write (nI (w.op k)) (nI (m.loc f + v.hi k)) (X2w w v bgf lsf k) (nI (X3w w v m k)) t) (fun t' => some t') := by
    intro q
    have ad : w.a k ≤ w.dp k := by
      rcases q with q | q
      · exact (T.t12 q).1
      · exact (T.t13 q).1
    rw [f_M_writeEntry_65, gk, ck, R.c1, mF, if_neg (by omega), lt1, tgt_m S G col hk hf ad, bd1_some, gk, lt1, lft_m S hk (hlo h11) hf ad, bd1_some, X2w, if_pos q, X3w, if_pos q, hf]
    simp only [e409]
  by_cases h12 : w.op k = 12
  · rw [if_pos (show nI (w.op k) = 12 by rw [h12]; rfl), e65 (Or.inl h12)]
  rw [if_neg (show ¬ nI (w.op k) = 12 from fun z => h12 ((nI_eq (b := 12) (by omega) (by decide)).mp z))]
  by_cases h13 : w.op k = 13
  · rw [if_pos (show nI (w.op k) = 13 by rw [h13]; rfl), e65 (Or.inr h13)]
  rw [if_neg (show ¬ nI (w.op k) = 13 from fun z => h13 ((nI_eq (b := 13) (by omega) (by decide)).mp z)), if_neg (show ¬ nI (w.op k) = 14 from fun z => h14 ((nI_eq (b := 14) (by omega) (by decide)).mp z))]
  have x30 : w.op k ≠ 16 → w.op k ≠ 15 → nI (X3w w v m k) = 0 := fun q1 q2 => by rw [X3w, if_neg (by omega), if_neg (by omega), if_neg (by omega)]; rfl
  by_cases h4 : w.op k = 4
  · obtain ⟨e, e1, e2, e3, e4, e5⟩ := en_e S.W S.iC hk (by omega)
    have x2 : X2w w v bgf lsf k = nI (ent w v (if w.el k = 0 then w.en k - 1 else w.el k)) := by rw [X2w, if_neg (by omega), if_pos h4]
    rw [if_pos (show nI (w.op k) = 4 by rw [h4]; rfl), gk, R.c5, lt1, x2, x30 (by omega) (by omega)]
    by_cases hel : w.el k = 0
    · rw [hel, if_pos neg1.symm, gk, R.c4, e1, nI_pred, lt1, gi_n (show e < 251 by omega) (by decide), nI_clamp (show e < 2 ^ 31 by omega), col _ e3, lt1, f_M_writeEntry_234, if_pos rfl, Nat.add_sub_cancel]
      simp only [e409]
    · obtain ⟨q1, q2, e', q3, q4, q5, q6, q7, q8⟩ := S.W.el2 k hel
      have hC1 := (S.lastC q5 (by omega)).1
      rw [if_neg (nIm_ne hel (by omega)), gk, nsub1 (by omega), lt1, nI_1, lt1, show w.el k - 1 + 1 = w.el k by omega, gi_n (show w.el k < 251 by omega) (by decide), nI_clamp (show w.el k < 2 ^ 31 by omega), col _ (by omega), lt1, f_M_writeEntry_234, if_neg hel]
      simp only [e409]
  rw [if_neg (show ¬ nI (w.op k) = 4 from fun z => h4 ((nI_eq (b := 4) (by omega) (by decide)).mp z))]
  by_cases h5 : w.op k = 5
  · obtain ⟨e, B, e1, e2, e3, e4, e5, e6, e7, e8, e9⟩ := els_e S hk h5
    have hB : B < C := by have := S.W.i1 k (by omega); omega
    have x2 : X2w w v bgf lsf k = nI (ent w v e) := by rw [X2w, if_neg (by omega), if_neg (by omega), if_pos h5, e1, Nat.add_sub_cancel, e2, Nat.add_sub_cancel]
    rw [if_pos (show nI (w.op k) = 5 by rw [h5]; rfl), gk, R.c3, e1, nI_pred, lt1, gi_n (show B < 250 by omega) (by decide), nI_clamp (show B < 2 ^ 31 by omega), (S.rm B hB).c4, e2, nI_pred, lt1, gi_n (show e < 251 by omega) (by decide), nI_clamp (show e < 2 ^ 31 by omega), col _ e4, lt1, x2, x30 (by omega) (by omega)]
    simp only [e409]
  rw [if_neg (show ¬ nI (w.op k) = 5 from fun z => h5 ((nI_eq (b := 5) (by omega) (by decide)).mp z))]
  by_cases h16 : w.op k = 16
  · have q1 := (T.t16 h16).1
    have Fs := G.fs _ q1
    have := Fs.bl; have := Fs.lC
    rw [if_pos (show nI (w.op k) = 16 by rw [h16]; rfl), gk, R.c1, mF, if_neg (by omega), lt1, lN_i, lt1, gi_n (show w.a k < 8 by omega) (by decide), nI_clamp (show w.a k < 2 ^ 31 by omega), Fs.m22, lt1, gi_n (show bgf (w.a k) < 251 by omega) (by decide), nI_clamp (show bgf (w.a k) < 2 ^ 31 by omega), col _ (by omega), lt1, S.E.pM _ q1, bd1_some, X2w, if_neg (by omega), if_neg (by omega), if_neg (by omega), if_pos h16, X3w, if_neg (by omega), if_pos h16]
    simp only [e409]
  rw [if_neg (show ¬ nI (w.op k) = 16 from fun z => h16 ((nI_eq (b := 16) (by omega) (by decide)).mp z))]
  by_cases h15 : w.op k = 15
  · have x2 : X2w w v bgf lsf k = 0 := by rw [X2w, if_neg (by omega), if_neg (by omega), if_neg (by omega), if_neg (by omega), if_neg (by omega), xF, if_neg (by omega), if_neg (by omega), hok.a0 (by unfold nam acc; omega)]; rfl
    rw [if_pos (show nI (w.op k) = 15 by rw [h15]; rfl), mres S.E (show f < m.nF by omega), bd1_some, x2, X3w, if_neg (by omega), if_neg (by omega), if_pos (Or.inl h15), hf]
    simp only [e409]
  have hkn := (S.kn hk).1
  unfold kno at hkn
  simp only [Bool.or_eq_true, decide_eq_true_eq] at hkn
  rw [if_neg (show ¬ nI (w.op k) = 15 from fun z => h15 ((nI_eq (b := 15) (by omega) (by decide)).mp z)), x30 h16 h15]
  exact wpl_m S hk (by omega) _ _
theorem wre_m (S : Sta w v m C nP s t0) (G : Ctg w m C bgf lsf s t0) (hE24 : ent w v C ≤ 240) (hk : k < C) (hE : hasE w v k) (hf : w.fn k = f) (hm : CMf t0 t) (col : ∀ q, q < C → t.1 21 q = nI (ent w v q)) (h1 : t.1 0 25 = nI (ent w v k * 4)) (hW : Wds w v m bgf lsf (t.1 36) k) :
    ∃ t', f_M_writeEntry (nI f) (nI k) t = some t' ∧ CMf t0 t' ∧ t'.1 21 = t.1 21 ∧ t'.1 0 24 = t.1 0 24 ∧ t'.1 0 0 = t.1 0 0 ∧ t'.1 0 25 = nI (ent w v (k + 1) * 4) ∧ Wds w v m bgf lsf (t'.1 36) (k + 1) := by
  have hC := S.hC
  have h8 := S.E.nF8
  have hfl := S.lt k hk
  have S1 := S.rc (CXf.refl s) hm
  have G1 := G.rc (CXf.refl s) hm
  have R := S1.rm k hk
  have c1 := hasE_c hE
  have hle := ent_le w v (show k + 1 ≤ C by omega)
  rw [ent_s] at hle
  obtain ⟨t1, w1, w2⟩ := wr_m (nI (w.op k)) (nI (X1w w v m k)) (X2w w v bgf lsf k) (nI (X3w w v m k)) h1 (by omega)
  have W0 : W4 (t1.1 36) (ent w v k) (w.op k) (X1w w v m k) (X2w w v bgf lsf k) (X3w w v m k) := ⟨w2.c0, w2.c1, w2.c2, w2.c3⟩
  have e21 : t1.1 21 = t.1 21 := w2.o 21 (by decide) (by decide)
  by_cases h14 : w.op k = 14
  · have hlo : v.lo k = 0 := by rcases hE with q | q; exact q.1; omega
    have hN := FU_9
    have ha8 := (S.kn hk).2.tab h14
    have x1 : X1w w v m k = m.loc f + v.hi k := by rw [X1w, if_neg (by omega), hf]
    have x2 : X2w w v bgf lsf k = nI (w.a k) := by rw [X2w, if_neg (by omega), if_neg (by omega), if_neg (by omega), if_neg (by omega), if_neg (by omega), xF, if_neg (by omega), if_neg (by omega)]
    have x3 : X3w w v m k = 0 := by rw [X3w, if_neg (by omega), if_neg (by omega), if_neg (by omega)]
    obtain ⟨t', g1, g2, g3, ga, gb, g5, g6, g7⟩ := tab_m S G hE24 hk hlo h14 hf (w.a k + 1) 0 FU t1 (nI (w.op k)) (by omega) (by omega) (w2.f hm) (by rw [e21]; exact col) (by rw [w2.e])
    refine ⟨t', ?_, g2, g3.trans e21, ga.trans (w2.z 24 (by decide)), gb.trans (w2.z 0 (by decide)), g5, ?_⟩
    · rw [x1, x2, x3] at w1
      have w1' : f_M_write (nI (w.op k)) (nI (m.loc f + v.hi k)) (nI (w.a k)) 0 t = some t1 := w1
      rw [f_M_writeEntry, gi_n (show k < 250 by omega) (by decide), nI_clamp (show k < 2 ^ 31 by omega), R.c0, lt1, S1.E.lcM (show f < m.nF by omega), bd1_some, gi_n (show k < 250 by omega) (by decide), S1.H.m20 k hk, lt1, nI_add, lt1, if_neg (show ¬ nI (w.op k) = 11 by rw [h14]; decide), if_neg (show ¬ nI (w.op k) = 12 by rw [h14]; decide), if_neg (show ¬ nI (w.op k) = 13 by rw [h14]; decide), if_pos (show nI (w.op k) = 14 by rw [h14]; rfl), gi_n (show k < 250 by omega) (by decide), R.c1, mF, if_neg (by omega), lt1, lN_i, lt1, w1', bd1_some]
      exact g1
    · exact (hW.cg (fun j hj => by rw [g6 j (by omega), w2.l j hj])).push (fun _ => W0.cg (N := ent w v k + 1 + 0) g6 (by omega)) (fun _ _ i hi => g7 i (Nat.zero_le _) hi)
  · refine ⟨t1, by rw [wre_1 S1 G1 hk hE hf col h14, w1, bd1_some], w2.f hm, e21, w2.z 24 (by decide), w2.z 0 (by decide), ?_, ?_⟩
    · rw [w2.e, ent_s]
      have : cst w v k = 1 := by
        rw [cst]
        rcases hE with ⟨q1, q2⟩ | ⟨q1, q2⟩
        · rw [if_neg q2, if_pos q1, if_neg h14]
        · rw [if_pos q1, if_pos q2]
      rw [this]
    · exact (hW.cg w2.l).push (fun _ => W0) (fun _ z => absurd z h14)
/-- the rows of one body -/
theorem bdy_m (S : Sta w v m C nP s t0) (G : Ctg w m C bgf lsf s t0) (hE24 : ent w v C ≤ 240) (hf : f < m.nF) (k51 : Int32 → Int32 → SM → Option (Int32 × SM)) : ∀ d k N t, k + d = lsf f + 1 → bgf f ≤ k → d < N → CMf t0 t → (∀ q, q < C → t.1 21 q = nI (ent w v q)) → t.1 0 25 = nI (ent w v k * 4) → Wds w v m bgf lsf (t.1 36) k →
    ∃ t', f_M_compile_66 k51 N (nI (ent w v C)) (nI f) (nI k) t = k51 (nI (ent w v C)) (nI (f + 1)) t' ∧ CMf t0 t' ∧ t'.1 21 = t.1 21 ∧ t'.1 0 24 = t.1 0 24 ∧ t'.1 0 0 = t.1 0 0 ∧ t'.1 0 25 = nI (ent w v (lsf f + 1) * 4) ∧ Wds w v m bgf lsf (t'.1 36) (lsf f + 1) := by
  have hC := S.hC
  have h8 := S.E.nF8
  intro d
  induction d with
  | zero =>
    intro k N t hd hk hN hm col h1 hW
    obtain ⟨N, rfl⟩ : ∃ q, N = q + 1 := ⟨N - 1, by omega⟩
    have Fs := (G.fs f hf).rc (CXf.refl s) hm
    have hl := Fs.lC
    have e : k = lsf f + 1 := by omega
    subst e
    rw [f_M_compile_66, gi_n (show f < 8 by omega) (by decide), nI_clamp (show f < 2 ^ 31 by omega), Fs.m23, lt1, if_pos (nI_lt (show lsf f < lsf f + 1 by omega) (by omega)), nI_1, lt1]
    exact ⟨t, rfl, hm, rfl, rfl, rfl, h1, hW⟩
  | succ d ih =>
    intro k N t hd hk hN hm col h1 hW
    obtain ⟨N, rfl⟩ : ∃ q, N = q + 1 := ⟨N - 1, by omega⟩
    have Fs := (G.fs f hf).rc (CXf.refl s) hm
    have hl := Fs.lC
    have hkl : k ≤ lsf f := by omega
    have hkC : k < C := by omega
    have fk : w.fn k = f := Fs.fn k hk hkl
    have hle := ent_le w v (show k + 1 ≤ C by omega)
    have hle0 := ent_le w v (show k ≤ C by omega)
    have go : ∀ t1, CMf t0 t1 → t1.1 21 = t.1 21 → t1.1 0 24 = t.1 0 24 → t1.1 0 0 = t.1 0 0 → t1.1 0 25 = nI (ent w v (k + 1) * 4) → Wds w v m bgf lsf (t1.1 36) (k + 1) → ∃ t', f_M_compile_66 k51 N (nI (ent w v C)) (nI f) (nI (k + 1)) t1 = k51 (nI (ent w v C)) (nI (f + 1)) t' ∧ CMf t0 t' ∧ t'.1 21 = t.1 21 ∧ t'.1 0 24 = t.1 0 24 ∧ t'.1 0 0 = t.1 0 0 ∧ t'.1 0 25 = nI (ent w v (lsf f + 1) * 4) ∧ Wds w v m bgf lsf (t'.1 36) (lsf f + 1) := by
      intro t1 a1 a2 a3 a4 a5 a6
      obtain ⟨t', g1, g2, g3, g4, g5, g6, g7⟩ := ih (k + 1) N t1 (by omega) (by omega) (by omega) a1 (by rw [a2]; exact col) a5 a6
      exact ⟨t', g1, g2, g3.trans a2, g4.trans a3, g5.trans a4, g6, g7⟩
    have e124 : ∃ t', f_M_compile_124 k51 (f_M_compile_66 k51 N) (nI (ent w v C)) (nI f) (nI k) (nI (ent w v (k + 1))) t = k51 (nI (ent w v C)) (nI (f + 1)) t' ∧ CMf t0 t' ∧ t'.1 21 = t.1 21 ∧ t'.1 0 24 = t.1 0 24 ∧ t'.1 0 0 = t.1 0 0 ∧ t'.1 0 25 = nI (ent w v (lsf f + 1) * 4) ∧ Wds w v m bgf lsf (t'.1 36) (lsf f + 1) := by
      rw [f_M_compile_124, gi_n (show k < 251 by omega) (by decide), nI_clamp (show k < 2 ^ 31 by omega), col k hkC, lt1]
      by_cases hE : hasE w v k
      · have c1 := hasE_c hE
        have es := ent_s w v k
        obtain ⟨t1, a1, a2, a3, a4, a5, a6, a7⟩ := wre_m S G hE24 hkC hE fk hm col h1 hW
        rw [if_neg (show ¬ nI (ent w v (k + 1)) ≤ nI (ent w v k) from nI_ge (by omega) (by omega)), a1, bd1_some, f_M_compile_143, nI_1, lt1]
        exact go t1 a2 a3 a4 a5 a6 a7
      · have c0 := cst_0 hE
        have es : ent w v (k + 1) = ent w v k := by rw [ent_s, c0]; rfl
        rw [if_pos (show nI (ent w v (k + 1)) ≤ nI (ent w v k) by rw [es]; exact Int32.le_refl _), f_M_compile_143, nI_1, lt1]
        exact go t hm rfl rfl rfl (by rw [es]; exact h1) (hW.push (fun z => absurd z hE) (fun z1 z2 => absurd (Or.inl ⟨z1, by omega⟩) hE))
    rw [f_M_compile_66, gi_n (show f < 8 by omega) (by decide), nI_clamp (show f < 2 ^ 31 by omega), Fs.m23, lt1, if_neg (show ¬ nI (lsf f) < nI k from fun q => absurd ((nI_ltI (by omega) (by omega)).mp q) (by omega)), gi_n (show f < 8 by omega) (by decide), lt1]
    by_cases e : k = lsf f
    · rw [if_pos (show nI (lsf f) ≤ nI k from nI_le (by omega) (by omega)), nI_1, lt1, hm.z 7 (by decide) (by decide) (by decide), S.E.m7]
      have bn := G.bn f hf
      by_cases q : m.nF ≤ f + 1
      · have eC : ent w v (k + 1) = ent w v C := by rw [e, ← bn, show f + 1 = m.nF by omega, G.bC]
        rw [if_pos (show nI m.nF ≤ nI (f + 1) from nI_le q (by omega))]
        rw [eC] at e124
        exact e124
      · have F2 := (G.fs (f + 1) (by omega)).rc (CXf.refl s) hm
        have := F2.lC; have := F2.bl
        rw [if_neg (show ¬ nI m.nF ≤ nI (f + 1) from nI_ge (by omega) (by omega)), lt1, gi_n (show f + 1 < 8 by omega) (by decide), nI_clamp (show f + 1 < 2 ^ 31 by omega), F2.m22, lt1, gi_n (show bgf (f + 1) < 251 by omega) (by decide), nI_clamp (show bgf (f + 1) < 2 ^ 31 by omega), col _ (by omega), lt1, show bgf (f + 1) = k + 1 by omega]
        exact e124
    · rw [if_neg (show ¬ nI (lsf f) ≤ nI k from nI_ge (by omega) (by omega)), nI_1, lt1, gi_n (show k + 1 < 251 by omega) (by decide), nI_clamp (show k + 1 < 2 ^ 31 by omega), col _ (by omega), lt1]
      exact e124
theorem cm_go (S : Sta w v m C nP s t0) (G : Ctg w m C bgf lsf s t0) (hE24 : ent w v C ≤ 240) : ∀ d f N t, f + d = m.nF → d < N → CMf t0 t → (∀ q, q < C → t.1 21 q = nI (ent w v q)) → t.1 0 25 = nI (ent w v (bgf f) * 4) → Wds w v m bgf lsf (t.1 36) (bgf f) →
    ∃ t', f_M_compile_51 N (nI (ent w v C)) (nI f) t = some (0, t') ∧ CMf t0 t' ∧ t'.1 21 = t.1 21 ∧ t'.1 0 24 = t.1 0 24 ∧ t'.1 0 0 = t.1 0 0 ∧ t'.1 0 25 = nI (ent w v C * 4) ∧ Wds w v m bgf lsf (t'.1 36) C := by
  have hC := S.hC
  have h8 := S.E.nF8
  intro d
  induction d with
  | zero =>
    intro f N t hd hN hm col h1 hW
    obtain ⟨N, rfl⟩ : ∃ q, N = q + 1 := ⟨N - 1, by omega⟩
    have e : f = m.nF := by omega
    rw [e, G.bC] at h1 hW
    refine ⟨t, ?_, hm, rfl, rfl, rfl, h1, hW⟩
    rw [f_M_compile_51, hm.z 7 (by decide) (by decide) (by decide), S.E.m7, if_pos (show nI m.nF ≤ nI f from nI_le (by omega) (by omega))]
  | succ d ih =>
    intro f N t hd hN hm col h1 hW
    obtain ⟨N, rfl⟩ : ∃ q, N = q + 1 := ⟨N - 1, by omega⟩
    have hf : f < m.nF := by omega
    have Fs := (G.fs f hf).rc (CXf.refl s) hm
    have hl := Fs.lC; have hb := Fs.bl
    have hN' := FU_9
    obtain ⟨t1, g1, g2, g3, g4, g5, g6, g7⟩ := bdy_m S G hE24 hf (f_M_compile_51 N) (lsf f + 1 - bgf f) (bgf f) FU t (by omega) (Nat.le_refl _) (by omega) hm col h1 hW
    rw [← G.bn f hf] at g6 g7
    obtain ⟨t', e1, e2, e3, e4, e5, e6, e7⟩ := ih (f + 1) N t1 (by omega) (by omega) g2 (by rw [g3]; exact col) g6 g7
    refine ⟨t', ?_, e2, e3.trans g3, e4.trans g4, e5.trans g5, e6, e7⟩
    rw [f_M_compile_51, hm.z 7 (by decide) (by decide) (by decide), S.E.m7, if_neg (show ¬ nI m.nF ≤ nI f from nI_ge hf (by omega)), gi_n (show f < 8 by omega) (by decide), nI_clamp (show f < 2 ^ 31 by omega), Fs.m22, lt1, g1, e1]
theorem cpl_m (S : Sta w v m C nP s t0) (G : Ctg w m C bgf lsf s t0) (hE24 : ent w v C ≤ 240) (h2 : ¬ t0.1 0 2 = 0) : ∃ t', f_M_compile t0 = some (0, t') ∧ CMf t0 t' ∧ t'.1 0 24 = 1 ∧ t'.1 0 25 = nI (ent w v C * 4) ∧ Wds w v m bgf lsf (t'.1 36) C := by
  have h8 := S.E.nF8
  have hN := FU_9
  have hm0 : CMf t0 (stI (stI (stI t0 0 0 0) 0 24 1) 0 25 0) := (((CMf.refl t0).p0 (by decide)).p0 (by decide)).p0 (by decide)
  obtain ⟨t1, g1, g2, g3, g4, g5⟩ := nm_all S G m.nF 0 FU (stI (stI (stI t0 0 0 0) 0 24 1) 0 25 0) (by omega) (by omega) hm0
  rw [G.b0] at g1 g5
  have e0 : ent w v 0 = 0 := rfl
  have g1' : f_M_compile_28 FU 0 0 (stI (stI (stI t0 0 0 0) 0 24 1) 0 25 0) = f_M_compile_51 FU (nI (ent w v C)) 0 t1 := g1
  have g0 := g3 0 (by decide)
  obtain ⟨t', e1, e2, e3, e4, e5, e6, e7⟩ := cm_go S G hE24 m.nF 0 FU t1 (by omega) (by omega) g2 (fun q hq => g5 q (Nat.zero_le _) hq) (by rw [G.b0, e0, g0]; simp (disch := first | decide | omega) only [stI1, stI2, stp_eq, stp_row, stp_ne, stp_nj ]; rfl) (by rw [G.b0]; exact ⟨fun k hk => by omega, fun k hk => by omega⟩)
  have e1' : f_M_compile_51 FU (nI (ent w v C)) 0 t1 = some (0, t') := e1
  refine ⟨t', ?_, e2, by rw [e4, g0]; simp (disch := first | decide | omega) only [stI1, stI2, stp_eq, stp_row, stp_ne, stp_nj ], e6, e7⟩
  rw [f_M_compile, lt1, if_neg (show ¬ (stI t0 0 0 0).1 0 2 = 0 by simp (disch := first | decide | omega) only [stI1, stI2, stp_eq, stp_row, stp_ne, stp_nj ]; exact h2), lt1, lt1, g1', e1']
/-- every entry belongs to a row -/
theorem ent_cov (w : Cd) (v : Hv) : ∀ K n, n < ent w v K → ∃ k, k < K ∧ hasE w v k ∧ (n = ent w v k ∨ (v.lo k = 0 ∧ w.op k = 14 ∧ ∃ i, i ≤ w.a k ∧ n = ent w v k + 1 + i)) := by
  intro K
  induction K with
  | zero => intro n hn; exact absurd hn (by show ¬ n < 0; omega)
  | succ K ih =>
    intro n hn
    by_cases q : n < ent w v K
    · obtain ⟨k, h1, h2⟩ := ih n q
      exact ⟨k, by omega, h2⟩
    · rw [ent_s] at hn
      by_cases hE : hasE w v K
      · refine ⟨K, by omega, hE, ?_⟩
        by_cases e : n = ent w v K
        · exact Or.inl e
        · right
          rcases hE with ⟨h1, h2⟩ | ⟨h1, h2⟩
          · by_cases h14 : w.op K = 14
            · rw [hasE_14 h1 h14] at hn
              exact ⟨h1, h14, n - ent w v K - 1, by omega, by omega⟩
            · rw [cst, if_neg h2, if_pos h1, if_neg h14] at hn; omega
          · rw [cst, if_pos h1, if_pos h2] at hn; omega
      · rw [cst_0 hE] at hn; omega
theorem Wds.eq {r r' : Nat → Int32} (H : Wds w v m bgf lsf r C) (H' : Wds w v m bgf lsf r' C) : ∀ j, j < ent w v C * 4 → r j = r' j := by
  intro j hj
  have key : ∀ {n o a1 a3 : Nat} {a2 : Int32}, W4 r n o a1 a2 a3 → W4 r' n o a1 a2 a3 → n = j / 4 → r j = r' j := by
    intro n o a1 a3 a2 W W' hn
    have : j = n * 4 + 0 ∨ j = n * 4 + 1 ∨ j = n * 4 + 2 ∨ j = n * 4 + 3 := by omega
    rcases this with q | q | q | q <;> rw [q]
    · rw [W.c0, W'.c0]
    · rw [W.c1, W'.c1]
    · rw [W.c2, W'.c2]
    · rw [W.c3, W'.c3]
  obtain ⟨k, h1, h2, h3⟩ := ent_cov w v C (j / 4) (by omega)
  rcases h3 with h3 | ⟨h3, h4, i, h5, h6⟩
  · exact key (H.wd k h1 h2) (H'.wd k h1 h2) h3.symm
  · exact key (H.tb k h1 h3 h4 i h5) (H'.tb k h1 h3 h4 i h5) h6.symm
end CPL
