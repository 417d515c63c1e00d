-- register code is made: the class writes its words
def Wds (w : Cd) (v : Hv) (m : Md) (bgf : Nat → Nat) (lsf : Nat → Nat) (r : Nat → Int32) (K : Nat) : Prop :=
  (∀ k, k < K → hasE w v k → W4 r (ent w v k) (w.op k) (X1w w v m k) (X2w w v bgf lsf k) (X3w w v m k)) ∧
  (∀ k, k < K → v.lo k = 0 → w.op k = 14 → ∀ i, i ≤ w.a k → W4 r (ent w v k + 1 + i) 12 (m.loc (w.fn k) + v.hi k - 1) (nI (tg w v (lsf (w.fn k)) (ups w.ins (w.pl (w.b k + i)) (w.ins k)))) (lf w v m (w.fn k) (ups w.ins (w.pl (w.b k + i)) (w.ins k))))
theorem Wds.wd {w : Cd} {v : Hv} {m : Md} {bgf : Nat → Nat} {lsf : Nat → Nat} {r : Nat → Int32} {K : Nat} (q0_ : Wds w v m bgf lsf r K) : ∀ k, k < K → hasE w v k → W4 r (ent w v k) (w.op k) (X1w w v m k) (X2w w v bgf lsf k) (X3w w v m k) := q0_.1
theorem Wds.tb {w : Cd} {v : Hv} {m : Md} {bgf : Nat → Nat} {lsf : Nat → Nat} {r : Nat → Int32} {K : Nat} (q0_ : Wds w v m bgf lsf r K) : ∀ k, k < K → v.lo k = 0 → w.op k = 14 → ∀ i, i ≤ w.a k → W4 r (ent w v k + 1 + i) 12 (m.loc (w.fn k) + v.hi k - 1) (nI (tg w v (lsf (w.fn k)) (ups w.ins (w.pl (w.b k + i)) (w.ins k)))) (lf w v m (w.fn k) (ups w.ins (w.pl (w.b k + i)) (w.ins k))) := q0_.2
theorem W4.cg {r r' : Nat → Int32} {n o a1 a3 : Nat} {a2 : Int32} (W : W4 r n o a1 a2 a3) {N : Nat} (h : ∀ j, j < N * 4 → r' j = r j) (hn : n < N) : W4 r' n o a1 a2 a3 :=
  ⟨by rw [h _ (by omega)]; exact W.c0, by rw [h _ (by omega)]; exact W.c1, by rw [h _ (by omega)]; exact W.c2, by rw [h _ (by omega)]; exact W.c3⟩
theorem ent_le (w : Cd) (v : Hv) {k K : Nat} (h : k ≤ K) : ent w v k ≤ ent w v K := by
  have := ent_mono w v k (K - k)
  rw [show k + (K - k) = K by omega] at this
  exact this
theorem hasE_14 {w : Cd} {v : Hv} {k : Nat} (h : v.lo k = 0) (h14 : w.op k = 14) : cst w v k = w.a k + 2 := by
  rw [cst, if_neg (by omega), if_pos h, if_pos h14]
theorem Wds.cg {w : Cd} {v : Hv} {m : Md} {bgf lsf : Nat → Nat} {r r' : Nat → Int32} {K : Nat} (H : Wds w v m bgf lsf r K) (h : ∀ j, j < ent w v K * 4 → r' j = r j) : Wds w v m bgf lsf r' K := by
  refine ⟨fun k hk hE => ?_, fun k hk hlo h14 i hi => ?_⟩
  · have h1 := hasE_c hE
    have h2 := ent_le w v (show k + 1 ≤ K by omega)
    rw [ent_s] at h2
    exact (H.wd k hk hE).cg h (by omega)
  · have h1 := hasE_14 hlo h14
    have h2 := ent_le w v (show k + 1 ≤ K by omega)
    rw [ent_s] at h2
    exact (H.tb k hk hlo h14 i hi).cg h (by omega)
theorem Wds.push {w : Cd} {v : Hv} {m : Md} {bgf lsf : Nat → Nat} {r : Nat → Int32} {K : Nat} (H : Wds w v m bgf lsf r K) (h1 : hasE w v K → W4 r (ent w v K) (w.op K) (X1w w v m K) (X2w w v bgf lsf K) (X3w w v m K))
    (h2 : v.lo K = 0 → w.op K = 14 → ∀ i, i ≤ w.a K → W4 r (ent w v K + 1 + i) 12 (m.loc (w.fn K) + v.hi K - 1) (nI (tg w v (lsf (w.fn K)) (ups w.ins (w.pl (w.b K + i)) (w.ins K)))) (lf w v m (w.fn K) (ups w.ins (w.pl (w.b K + i)) (w.ins K)))) : Wds w v m bgf lsf r (K + 1) := by
  refine ⟨fun k hk hE => ?_, fun k hk hlo h14 => ?_⟩
  · by_cases e : k = K
    · rw [e] at hE ⊢; exact h1 hE
    · exact H.wd k (by omega) hE
  · by_cases e : k = K
    · rw [e] at hlo h14 ⊢; exact h2 hlo h14
    · exact H.tb k (by omega) hlo h14
/-- one entry is written -/
def WrX (n : Nat) (x1 x2 x3 x4 : Int32) (s s' : St) : Prop :=
  (s' 4 1 = nI (n + 1)) ∧
  (∀ j, j ≠ 1 → s' 4 j = s 4 j) ∧
  (∀ a, a ≠ 4 → a ≠ 30 → s' a = s a) ∧
  (∀ j, j < n * 4 → s' 30 j = s 30 j) ∧
  (s' 30 (n * 4 + 0) = x1) ∧
  (s' 30 (n * 4 + 1) = x2) ∧
  (s' 30 (n * 4 + 2) = x3) ∧
  (s' 30 (n * 4 + 3) = x4)
theorem WrX.e {n : Nat} {x1 x2 x3 x4 : Int32} {s s' : St} (q0_ : WrX n x1 x2 x3 x4 s s') : s' 4 1 = nI (n + 1) := q0_.1
theorem WrX.z {n : Nat} {x1 x2 x3 x4 : Int32} {s s' : St} (q0_ : WrX n x1 x2 x3 x4 s s') : ∀ j, j ≠ 1 → s' 4 j = s 4 j := q0_.2.1
theorem WrX.o {n : Nat} {x1 x2 x3 x4 : Int32} {s s' : St} (q0_ : WrX n x1 x2 x3 x4 s s') : ∀ a, a ≠ 4 → a ≠ 30 → s' a = s a := q0_.2.2.1
theorem WrX.l {n : Nat} {x1 x2 x3 x4 : Int32} {s s' : St} (q0_ : WrX n x1 x2 x3 x4 s s') : ∀ j, j < n * 4 → s' 30 j = s 30 j := q0_.2.2.2.1
theorem WrX.c0 {n : Nat} {x1 x2 x3 x4 : Int32} {s s' : St} (q0_ : WrX n x1 x2 x3 x4 s s') : s' 30 (n * 4 + 0) = x1 := q0_.2.2.2.2.1
theorem WrX.c1 {n : Nat} {x1 x2 x3 x4 : Int32} {s s' : St} (q0_ : WrX n x1 x2 x3 x4 s s') : s' 30 (n * 4 + 1) = x2 := q0_.2.2.2.2.2.1
theorem WrX.c2 {n : Nat} {x1 x2 x3 x4 : Int32} {s s' : St} (q0_ : WrX n x1 x2 x3 x4 s s') : s' 30 (n * 4 + 2) = x3 := q0_.2.2.2.2.2.2.1
theorem WrX.c3 {n : Nat} {x1 x2 x3 x4 : Int32} {s s' : St} (q0_ : WrX n x1 x2 x3 x4 s s') : s' 30 (n * 4 + 3) = x4 := q0_.2.2.2.2.2.2.2
theorem wr_x {s : St} {n : Nat} (x1 x2 x3 x4 : Int32) (h : s 4 1 = nI n) (hn : n < 240) : ∃ s', f_RC_write x1 x2 x3 x4 s = some s' ∧ WrX n x1 x2 x3 x4 s s' := by
  rw [f_RC_write, h, show nI n * 4 = nI (n * 4) from pk_mul n 4, lt1, rSet_n (by omega) (by decide), lt1, show nI (n * 4) + 1 = nI (n * 4 + 1) from nI_add _ 1, lt1, rSet_n (by omega) (by decide), lt1, show nI (n * 4) + 2 = nI (n * 4 + 2) from nI_add _ 2, lt1, rSet_n (by omega) (by decide), lt1, show nI (n * 4) + 3 = nI (n * 4 + 3) from nI_add _ 3, lt1, rSet_n (by omega) (by decide), lt1, stp_ne _ _ _ (by decide), stp_ne _ _ _ (by decide), stp_ne _ _ _ (by decide), stp_ne _ _ _ (by decide), h, nI_1, lt1, lt1]
  refine ⟨_, rfl, by simp (disch := first | decide | omega) only [stI1, stI2, stp_eq, stp_row, stp_ne, stp_nj ], fun j hj => by simp (disch := first | decide | omega) only [stI1, stI2, stp_eq, stp_row, stp_ne, stp_nj ], fun a a1 a2 => by simp (disch := first | decide | omega) only [stI1, stI2, stp_eq, stp_row, stp_ne, stp_nj ], fun j hj => ?_, ?_, ?_, ?_, ?_⟩
  · rw [stp_ne _ _ _ (by decide), stp_nj _ _ _ (by omega), stp_nj _ _ _ (by omega), stp_nj _ _ _ (by omega), stp_nj _ _ _ (by omega)]
  · rw [stp_ne _ _ _ (by decide), stp_nj _ _ _ (by omega), stp_nj _ _ _ (by omega), stp_nj _ _ _ (by omega), Nat.add_zero, stp_eq]
  · rw [stp_ne _ _ _ (by decide), stp_nj _ _ _ (by omega), stp_nj _ _ _ (by omega), stp_eq]
  · rw [stp_ne _ _ _ (by decide), stp_nj _ _ _ (by omega), stp_eq]
  · rw [stp_ne _ _ _ (by decide), stp_eq]
theorem WrX.f {n : Nat} {x1 x2 x3 x4 : Int32} {s0 s s' : St} (h : WrX n x1 x2 x3 x4 s s') (hx : CXf s0 s) : CXf s0 s' :=
  ⟨fun a a1 a2 a3 a4 => by rw [h.o a a1 a3]; exact hx.o a a1 a2 a3 a4, fun q hq => by rw [h.o 21 (by decide) (by decide)]; exact hx.c q hq⟩
/-- the writer's own state at a row -/
def WbX (w : Cd) (f k : Nat) (s : St) : Prop :=
  (s 4 2 = nI f) ∧
  (s 4 0 = nI (w.dp k)) ∧
  (∀ j B, j < w.dp k → ups w.ins j (w.ins k) = B + 1 → s 32 (w.dp k - 1 - j) = nI B)
theorem WbX.x2 {w : Cd} {f k : Nat} {s : St} (q0_ : WbX w f k s) : s 4 2 = nI f := q0_.1
theorem WbX.x0 {w : Cd} {f k : Nat} {s : St} (q0_ : WbX w f k s) : s 4 0 = nI (w.dp k) := q0_.2.1
theorem WbX.op {w : Cd} {f k : Nat} {s : St} (q0_ : WbX w f k s) : ∀ j B, j < w.dp k → ups w.ins j (w.ins k) = B + 1 → s 32 (w.dp k - 1 - j) = nI B := q0_.2.2
section WRX
variable {w : Cd} {v : Hv} {m : Md} {C nP : Nat} {s0 s : St} {t : SM} {bgf lsf : Nat → Nat} {f k : Nat}
theorem tgt_x (S : Sta w v m C nP s t) (G : Ctg w m C bgf lsf s t) (col : ∀ q, q < C → s 21 (q * 7 + 6) = nI (ent w v q)) (hk : k < C) (hf : w.fn k = f) (H : WbX w f k s) {a : Nat} (ha : a ≤ w.dp k) : f_RC_targetOf s (nI a) = some (nI (tg w v (lsf f) (ups w.ins a (w.ins k)))) := by
  have hC := S.hC
  have h8 := S.E.nF8
  have hfl := S.lt k hk
  have h10 := S.W.d10 k (by omega)
  rw [f_RC_targetOf, H.x0]
  by_cases had : a = w.dp k
  · subst had
    have Fs := G.fs f (by omega)
    have hl := Fs.lC
    rw [chn0 S.W (by omega), tg, if_pos rfl, lt1, lt1, if_neg (nd_neg _ h10), H.x2, tg_8_4_3 (by omega), Fs.x3, lt1, tg_240_7_6 (by omega), col _ hl, lt1]
  · obtain ⟨B, h1, h2, h3, h4, h5, h6⟩ := chn S.W (show k ≤ C by omega) a (by omega)
    have R := S.rx B (by omega)
    have hoB := kno_lt (S.kn (show B < C by omega)).1
    obtain ⟨e, e1, e2, e3, e4, e5⟩ := en_e S.W S.iC (show B < C by omega) h3
    rw [nsub1 (by omega), lt1, pk_sub (by omega), lt1, if_pos (nI_pos' (by omega)), rGet_n (by omega) (by decide), H.op a B (by omega) h1, lt1, tg_240_7_0 (by omega), R.c0, lt1, h1, tg, if_neg (show ¬ B + 1 = 0 by omega), Nat.add_sub_cancel]
    by_cases q3 : w.op B = 3
    · obtain ⟨a2, -⟩ := S.lastC (show B < C by omega) (by omega)
      rw [if_pos (show nI (w.op B) = 3 by rw [q3]; rfl), if_pos q3, f_RC_targetOf_71, if_neg (by decide), nI_1, lt1, f_RC_targetOf_99, tg_240_7_6 (by omega), col _ a2, lt1]
    · rw [if_neg (show ¬ nI (w.op B) = 3 from fun z => q3 ((nI_eq (b := 3) (by omega) (by decide)).mp z)), if_neg q3, f_RC_targetOf_71, if_pos rfl, x_end S (by omega) h3, bd1_some, f_RC_targetOf_99, e1, Nat.add_sub_cancel, tg_240_7_6 (by omega), col _ e3, lt1]
theorem lft_x (S : Sta w v m C nP s t) (hk : k < C) (hlo : v.lo k = 0) (hf : w.fn k = f) (H : WbX w f k s) {a : Nat} (ha : a ≤ w.dp k) : f_RC_leftAt s (nI a) = some (nI (lf w v m f (ups w.ins a (w.ins k)))) := by
  have hC := S.hC
  have h8 := S.E.nF8
  have hfl := S.lt k hk
  have h10 := S.W.d10 k (by omega)
  rw [f_RC_leftAt, H.x2, tg_8_4_1 (by omega), S.E.lX f (by omega), lt1, H.x0]
  by_cases had : a = w.dp k
  · subst had
    rw [chn0 S.W (by omega), lf, bs, if_pos rfl, tk, if_pos rfl, lt1, lt1, if_neg (nd_neg _ h10), show 2 * nI (m.loc f) = nI (2 * m.loc f) from pk_mul 2 _, lt1, S.E.rX f (by omega), bd1_some, nI_add, lt1, Nat.add_zero]
  · obtain ⟨B, h1, h2, h3, h4, h5, h6⟩ := chn S.W (show k ≤ C by omega) a (by omega)
    have hBC : B < C := by omega
    have R := S.rx B hBC
    have hoB := kno_lt (S.kn hBC).1
    have hloB := (S.alv hk hlo a B h1).2
    have bB := S.bb hBC hloB h3
    have htk : tk w (m.res f) (B + 1) = tk w 0 (B + 1) := by unfold tk; rw [if_neg (show ¬ B + 1 = 0 by omega), if_neg (show ¬ B + 1 = 0 by omega)]
    have fin : ∀ y, v.bb B + y = v.hi B → f_RC_leftAt_77 s (nI a) (nI (m.loc f)) (nI (w.dp k - 1 - a)) (nI B) (nI y) = some (nI (2 * (m.loc f + v.bb B) + tk w 0 (B + 1))) := by
      intro y hy
      rw [f_RC_leftAt_77, tg_240_7_4 (by omega), S.H.x4 B hBC, lt1, pk_sub (by omega), lt1, nI_add, lt1, show 2 * nI (m.loc f + (v.hi B - y)) = nI (2 * (m.loc f + (v.hi B - y))) from pk_mul 2 _, lt1, x_lres S hBC h3, bd1_some, nI_add, lt1, show v.hi B - y = v.bb B by omega]
    rw [nsub1 (by omega), lt1, pk_sub (by omega), lt1, if_pos (nI_pos' (by omega)), rGet_n (by omega) (by decide), H.op a B (by omega) h1, lt1, tg_240_7_0 (by omega), R.c0, lt1, h1, lf, bs, if_neg (show ¬ B + 1 = 0 by omega), Nat.add_sub_cancel, htk]
    by_cases q4 : w.op B = 4
    · rw [if_pos q4] at bB
      rw [if_pos (show nI (w.op B) = 4 by rw [q4]; rfl)]
      exact fin 1 bB
    · rw [if_neg q4] at bB
      rw [if_neg (show ¬ nI (w.op B) = 4 from fun z => q4 ((nI_eq (b := 4) (by omega) (by decide)).mp z))]
      exact fin 0 bB
theorem snd_x (S : Sta w v m C nP s t) (G : Ctg w m C bgf lsf s t) (col : ∀ q, q < C → s 21 (q * 7 + 6) = nI (ent w v q)) (hk : k < C) (hE : hasE w v k) (hf : w.fn k = f) (H : WbX w f k s) : f_RC_secondWord s (nI k) (nI (w.op k)) = some (X2w w v bgf lsf k) := by
  have hC := S.hC
  have h8 := S.E.nF8
  have R := S.rx k hk
  have ho := kno_lt (S.kn hk).1
  have hlo : w.op k ≠ 11 → v.lo k = 0 := fun z => by rcases hE with q | q; exact q.1; exact absurd q.1 z
  rw [f_RC_secondWord, tg_240_7_1 (by omega), R.c1, lt1, X2w]
  by_cases h2 : w.op k = 2
  · rw [if_pos (show nI (w.op k) = 2 by rw [h2]; rfl), f_RC_secondWord_146, if_neg (by omega), if_neg (by omega), if_neg (by omega), if_neg (by omega), if_pos (Or.inl h2)]
  rw [if_neg (show ¬ nI (w.op k) = 2 from fun z => h2 ((nI_eq (b := 2) (by omega) (by decide)).mp z))]
  by_cases h3 : w.op k = 3
  · rw [if_pos (show nI (w.op k) = 3 by rw [h3]; rfl), f_RC_secondWord_146, if_neg (by omega), if_neg (by omega), if_neg (by omega), if_neg (by omega), if_pos (Or.inr h3)]
  rw [if_neg (show ¬ nI (w.op k) = 3 from fun z => h3 ((nI_eq (b := 3) (by omega) (by decide)).mp z))]
  by_cases h4 : w.op k = 4
  · obtain ⟨e, e1, e2, e3, e4, e5⟩ := en_e S.W S.iC hk (by omega)
    have lt : (if w.el k = 0 then w.en k - 1 else w.el k) < C := by
      by_cases hel : w.el k = 0
      · rw [if_pos hel]; omega
      · obtain ⟨q1, q2, e', q3, q4, q5, q6, q7, q8⟩ := S.W.el2 k hel
        have := (S.lastC q5 (by omega)).1
        rw [if_neg hel]; omega
    rw [if_pos (show nI (w.op k) = 4 by rw [h4]; rfl), x_oth S hk (by omega), bd1_some, tg_240_7_6 (by omega), col _ lt, lt1, if_neg (show ¬ (w.op k = 12 ∨ w.op k = 13) by omega), if_pos h4]
  rw [if_neg (show ¬ nI (w.op k) = 4 from fun z => h4 ((nI_eq (b := 4) (by omega) (by decide)).mp z))]
  by_cases h5 : w.op k = 5
  · obtain ⟨e, B, e1, e2, e3, e4, e5, e6, e7, e8, e9⟩ := els_e S hk h5
    rw [if_pos (show nI (w.op k) = 5 by rw [h5]; rfl), tg_240_7_3 (by omega), R.c3, e9, lt1, tg_240_7_6 (by omega), col _ e4, lt1, if_neg (by omega), if_neg (by omega), if_pos h5, e1, Nat.add_sub_cancel, e2, Nat.add_sub_cancel]
  rw [if_neg (show ¬ nI (w.op k) = 5 from fun z => h5 ((nI_eq (b := 5) (by omega) (by decide)).mp z))]
  have xa : w.op k = 12 ∨ w.op k = 13 ∨ w.op k = 16 → xF (w.op k) (w.a k) (w.b k) = nI (w.a k) := fun q => by rw [xF, if_neg (by omega), if_neg (by omega)]
  by_cases h12 : w.op k = 12
  · have := (((S.H.sr k hk).wt (hlo (by omega))).t12 h12).1
    rw [if_pos (show nI (w.op k) = 12 by rw [h12]; rfl), f_RC_secondWord_88, xa (by omega), tgt_x S G col hk hf H this, bd1_some, if_pos (Or.inl h12), hf]
  rw [if_neg (show ¬ nI (w.op k) = 12 from fun z => h12 ((nI_eq (b := 12) (by omega) (by decide)).mp z))]
  by_cases h13 : w.op k = 13
  · have := (((S.H.sr k hk).wt (hlo (by omega))).t13 h13).1
    rw [if_pos (show nI (w.op k) = 13 by rw [h13]; rfl), f_RC_secondWord_88, xa (by omega), tgt_x S G col hk hf H this, bd1_some, if_pos (Or.inr h13), hf]
  rw [if_neg (show ¬ nI (w.op k) = 13 from fun z => h13 ((nI_eq (b := 13) (by omega) (by decide)).mp z))]
  by_cases h16 : w.op k = 16
  · have q1 := (((S.H.sr k hk).wt (hlo (by omega))).t16 h16).1
    have Fs := G.fs _ q1
    have := Fs.bl; have := Fs.lC
    rw [if_pos (show nI (w.op k) = 16 by rw [h16]; rfl), f_RC_firstEntry, xa (by omega), tg_8_4_2 (by omega), Fs.x2, lt1, tg_240_7_6 (by omega), col _ (by omega), lt1, bd1_some, if_neg (by omega), if_neg (by omega), if_neg (by omega), if_pos h16]
  rw [if_neg (show ¬ nI (w.op k) = 16 from fun z => h16 ((nI_eq (b := 16) (by omega) (by decide)).mp z)), f_RC_secondWord_148, if_neg (by omega), if_neg (by omega), if_neg (by omega), if_neg (by omega), if_neg (by omega)]
theorem thd_x (S : Sta w v m C nP s t) (hk : k < C) (hE : hasE w v k) (hf : w.fn k = f) (H : WbX w f k s) : f_RC_thirdWord s (nI k) (nI (w.op k)) = some (nI (X3w w v m k)) := by
  have hC := S.hC
  have h8 := S.E.nF8
  have hfl := S.lt k hk
  have R := S.rx k hk
  have ho := kno_lt (S.kn hk).1
  have hlo : w.op k ≠ 11 → v.lo k = 0 := fun z => by rcases hE with q | q; exact q.1; exact absurd q.1 z
  have xa : w.op k = 12 ∨ w.op k = 13 ∨ w.op k = 16 → xF (w.op k) (w.a k) (w.b k) = nI (w.a k) := fun q => by rw [xF, if_neg (by omega), if_neg (by omega)]
  rw [f_RC_thirdWord, tg_240_7_1 (by omega), R.c1, lt1, X3w]
  by_cases h11 : w.op k = 11
  · rw [if_pos (show nI (w.op k) = 11 by rw [h11]; rfl), f_RC_thirdWord_67, H.x2, S.E.rX f (by omega), bd1_some, if_neg (by omega), if_neg (by omega), if_pos (Or.inr h11), hf]
  rw [if_neg (show ¬ nI (w.op k) = 11 from fun z => h11 ((nI_eq (b := 11) (by omega) (by decide)).mp z))]
  by_cases h12 : w.op k = 12
  · have := (((S.H.sr k hk).wt (hlo (by omega))).t12 h12).1
    rw [if_pos (show nI (w.op k) = 12 by rw [h12]; rfl), f_RC_thirdWord_52, xa (by omega), lft_x S hk (hlo h11) hf H this, bd1_some, if_pos (Or.inl h12), hf]
  rw [if_neg (show ¬ nI (w.op k) = 12 from fun z => h12 ((nI_eq (b := 12) (by omega) (by decide)).mp z))]
  by_cases h13 : w.op k = 13
  · have := (((S.H.sr k hk).wt (hlo (by omega))).t13 h13).1
    rw [if_pos (show nI (w.op k) = 13 by rw [h13]; rfl), f_RC_thirdWord_52, xa (by omega), lft_x S hk (hlo h11) hf H this, bd1_some, if_pos (Or.inr h13), hf]
  rw [if_neg (show ¬ nI (w.op k) = 13 from fun z => h13 ((nI_eq (b := 13) (by omega) (by decide)).mp z))]
  by_cases h15 : w.op k = 15
  · rw [if_pos (show nI (w.op k) = 15 by rw [h15]; rfl), f_RC_thirdWord_67, H.x2, S.E.rX f (by omega), bd1_some, if_neg (by omega), if_neg (by omega), if_pos (Or.inl h15), hf]
  rw [if_neg (show ¬ nI (w.op k) = 15 from fun z => h15 ((nI_eq (b := 15) (by omega) (by decide)).mp z))]
  by_cases h16 : w.op k = 16
  · have q1 := (((S.H.sr k hk).wt (hlo (by omega))).t16 h16).1
    rw [if_pos (show nI (w.op k) = 16 by rw [h16]; rfl), xa (by omega), S.E.pX _ q1, bd1_some, if_neg (by omega), if_pos h16]
  rw [if_neg (show ¬ nI (w.op k) = 16 from fun z => h16 ((nI_eq (b := 16) (by omega) (by decide)).mp z)), f_RC_thirdWord_79, if_neg (by omega), if_neg (by omega), if_neg (by omega)]; rfl
theorem WbX.wr {n : Nat} {x1 x2 x3 x4 : Int32} {s' : St} (H : WbX w f k s) (h : WrX n x1 x2 x3 x4 s s') : WbX w f k s' :=
  ⟨by rw [h.z 2 (by decide)]; exact H.x2, by rw [h.z 0 (by decide)]; exact H.x0, by rw [h.o 32 (by decide) (by decide)]; exact H.op⟩
/-- a table's entries -/
theorem tab_x (S : Sta w v m C nP s0 t) (G : Ctg w m C bgf lsf s0 t) (hE24 : ent w v C ≤ 240) (hk : k < C) (hlo : v.lo k = 0) (h14 : w.op k = 14) (hf : w.fn k = f) : ∀ d i N s x2 x3, i + d = w.a k + 1 → d < N → CXf s0 s → (∀ q, q < C → s 21 (q * 7 + 6) = nI (ent w v q)) → WbX w f k s → s 4 1 = nI (ent w v k + 1 + i) →
    ∃ s', f_RC_writeInstruction_94 N (nI k) x2 x3 (nI (m.loc f + v.hi k)) (nI (w.a k)) (nI i) s = some s' ∧ CXf s0 s' ∧ s' 21 = s 21 ∧ WbX w f k s' ∧ s' 4 1 = nI (ent w v (k + 1)) ∧ (∀ j, j < (ent w v k + 1 + i) * 4 → s' 30 j = s 30 j) ∧
      ∀ j, i ≤ j → j ≤ w.a k → W4 (s' 30) (ent w v k + 1 + j) 12 (m.loc (w.fn k) + v.hi k - 1) (nI (tg w v (lsf (w.fn k)) (ups w.ins (w.pl (w.b k + j)) (w.ins k)))) (lf w v m (w.fn k) (ups w.ins (w.pl (w.b k + j)) (w.ins k))) := by
  have ha8 := (S.kn hk).2.tab h14
  have T := (S.H.sr k hk).wt hlo
  have c14 := hasE_14 hlo h14
  have hle := ent_le w v (show k + 1 ≤ C by omega)
  rw [ent_s, c14] at hle
  intro d
  induction d with
  | zero =>
    intro i N s x2 x3 hd hN hx col H h1
    obtain ⟨N, rfl⟩ : ∃ q, N = q + 1 := ⟨N - 1, by omega⟩
    refine ⟨s, ?_, hx, rfl, H, ?_, fun _ _ => rfl, fun j j1 j2 => by omega⟩
    · rw [f_RC_writeInstruction_94, f_RC_writeInstruction_148, if_pos (show nI (w.a k) < nI i from nI_lt (by omega) (by omega)), ite_self]
    · rw [h1, ent_s, c14]; exact congrArg nI (by omega)
  | succ d ih =>
    intro i N s x2 x3 hd hN hx col H h1
    obtain ⟨N, rfl⟩ : ∃ q, N = q + 1 := ⟨N - 1, by omega⟩
    have S1 := S.rc hx (CMf.refl t)
    have G1 := G.rc hx (CMf.refl t)
    obtain ⟨b1, b2⟩ := T.t14 h14 i (by omega)
    have lab := labAt2 S1 hk h14 (x := i) (by omega)
    rw [Nat.min_eq_left (show i ≤ w.a k by omega)] at lab
    obtain ⟨s1, w1, w2⟩ := wr_x 12 (nI (m.loc f + v.hi k - 1)) (nI (tg w v (lsf f) (ups w.ins (w.pl (w.b k + i)) (w.ins k)))) (nI (lf w v m f (ups w.ins (w.pl (w.b k + i)) (w.ins k)))) h1 (by omega)
    obtain ⟨s', g1, g2, g3, g4, g5, g6, g7⟩ := ih (i + 1) N s1 x2 x3 (by omega) (by omega) (w2.f hx) (by rw [w2.o 21 (by decide) (by decide)]; exact col) (H.wr w2) (by rw [w2.e]; exact congrArg nI (by omega))
    refine ⟨s', ?_, g2, g3.trans (w2.o 21 (by decide) (by decide)), g4, g5, fun j hj => by rw [g6 j (by omega), w2.l j hj], fun j j1 j2 => ?_⟩
    · rw [f_RC_writeInstruction_94, if_neg (show ¬ 8 < nI i from fun z => absurd ((nI_ltI (a := 8) (by decide) (by omega)).mp z) (by omega)), if_neg (show ¬ nI (w.a k) < nI i from fun z => absurd ((nI_ltI (by omega) (by omega)).mp z) (by omega)), lab, bd1_some, nsub1 (by omega), lt1, tgt_x S1 G1 col hk hf H b1, bd1_some, lft_x S1 hk hlo hf H b1, bd1_some, w1, bd1_some, nI_1, lt1, g1]
    · by_cases e : j = i
      · subst e
        rw [hf]
        refine W4.cg (r := s1 30) ⟨w2.c0, w2.c1, w2.c2, w2.c3⟩ (N := ent w v k + 1 + (j + 1)) g6 (by omega)
      · exact g7 j (by omega) j2
/-- a row's entries -/
theorem wri_x (S : Sta w v m C nP s0 t) (G : Ctg w m C bgf lsf s0 t) (hE24 : ent w v C ≤ 240) (hk : k < C) (hE : hasE w v k) (hf : w.fn k = f) (hx : CXf s0 s) (col : ∀ q, q < C → s 21 (q * 7 + 6) = nI (ent w v q)) (H : WbX w f k s) (h1 : s 4 1 = nI (ent w v k)) (hW : Wds w v m bgf lsf (s 30) k) :
    ∃ s', f_RC_writeInstruction (nI k) (nI (w.op k)) s = some s' ∧ CXf s0 s' ∧ s' 21 = s 21 ∧ WbX w f k s' ∧ s' 4 1 = nI (ent w v (k + 1)) ∧ Wds w v m bgf lsf (s' 30) (k + 1) := by
  have h8 := S.E.nF8
  have hfl := S.lt k hk
  have S1 := S.rc hx (CMf.refl t)
  have G1 := G.rc hx (CMf.refl t)
  have ho := kno_lt (S.kn hk).1
  have hC := S.hC
  have c1 := hasE_c hE
  have hle := ent_le w v (show k + 1 ≤ C by omega)
  rw [ent_s] at hle
  obtain ⟨s1, w1, w2⟩ := wr_x (nI (w.op k)) (nI (X1w w v m k)) (X2w w v bgf lsf k) (nI (X3w w v m k)) h1 (by omega)
  have W0 : W4 (s1 30) (ent w v k) (w.op k) (X1w w v m k) (X2w w v bgf lsf k) (X3w w v m k) := ⟨w2.c0, w2.c1, w2.c2, w2.c3⟩
  have e32 : ∀ y, m.loc f + y = X1w w v m k → f_RC_writeInstruction_32 (nI k) (nI (w.op k)) (nI y) s = if nI (w.op k) = 14 then lt1 (tGet 240 7 (s1 21) (nI k) 1) fun r6 => f_RC_writeInstruction_94 FU (nI k) (nI (w.op k)) (nI y) (nI (X1w w v m k)) r6 0 s1 else some s1 := by
    intro y hy
    rw [f_RC_writeInstruction_32, H.x2, tg_8_4_1 (by omega), S1.E.lX f (by omega), lt1, nI_add, lt1, hy, snd_x S1 G1 col hk hE hf H, bd1_some, thd_x S1 hk hE hf H, bd1_some, w1, bd1_some]
    rfl
  have e0 : ∃ y, f_RC_writeInstruction (nI k) (nI (w.op k)) s = if nI (w.op k) = 14 then lt1 (tGet 240 7 (s1 21) (nI k) 1) fun r6 => f_RC_writeInstruction_94 FU (nI k) (nI (w.op k)) y (nI (X1w w v m k)) r6 0 s1 else some s1 := by
    rw [f_RC_writeInstruction]
    by_cases h11 : w.op k = 11
    · refine ⟨nI (m.res f), ?_⟩
      rw [if_pos (show nI (w.op k) = 11 by rw [h11]; rfl), H.x2, S1.E.rX f (by omega), bd1_some]
      exact e32 _ (by rw [X1w, if_pos h11, hf])
    · refine ⟨nI (v.hi k), ?_⟩
      rw [if_neg (show ¬ nI (w.op k) = 11 from fun z => h11 ((nI_eq (b := 11) (by omega) (by decide)).mp z)), tg_240_7_4 (by omega), S1.H.x4 k hk, lt1]
      exact e32 _ (by rw [X1w, if_neg h11, hf])
  obtain ⟨y, e0⟩ := e0
  rw [e0]
  by_cases h14 : w.op k = 14
  · have hlo : v.lo k = 0 := by rcases hE with q | q; exact q.1; omega
    have e21 : s1 21 = s 21 := w2.o 21 (by decide) (by decide)
    have hN := FU_9
    have ha8 := (S.kn hk).2.tab h14
    obtain ⟨s', g1, g2, g3, g4, g5, g6, g7⟩ := tab_x S G hE24 hk hlo h14 hf (w.a k + 1) 0 FU s1 (nI (w.op k)) y (by omega) (by omega) (w2.f hx) (by rw [e21]; exact col) (H.wr w2) (by rw [w2.e])
    have ex1 : X1w w v m k = m.loc f + v.hi k := by rw [X1w, if_neg (by omega), hf]
    refine ⟨s', ?_, g2, g3.trans e21, g4, g5, ?_⟩
    · rw [if_pos (show nI (w.op k) = 14 by rw [h14]; rfl), e21, tg_240_7_1 (by omega), (S1.rx k hk).c1, xF, if_neg (by omega), if_neg (by omega), lt1, ex1]
      exact g1
    · exact (hW.cg (fun j hj => by rw [g6 j (by omega), w2.l j hj])).push (fun _ => W0.cg (N := ent w v k + 1 + 0) g6 (by omega)) (fun _ _ i hi => g7 i (Nat.zero_le _) hi)
  · rw [if_neg (show ¬ nI (w.op k) = 14 from fun z => h14 ((nI_eq (b := 14) (by omega) (by decide)).mp z))]
    refine ⟨s1, rfl, w2.f hx, w2.o 21 (by decide) (by decide), H.wr w2, ?_, ?_⟩
    · rw [w2.e, ent_s]
      have : cst w v k = 1 := by
        rw [cst]
        rcases hE with ⟨q1, q2⟩ | ⟨q1, q2⟩
        · rw [if_neg q2, if_pos q1, if_neg h14]
        · rw [if_pos q1, if_pos q2]
      rw [this]
    · exact (hW.cg w2.l).push (fun _ => W0) (fun _ z => absurd z h14)
end WRX
