-- register code is made: the class, whole
section MKX
variable {w : Cd} {v : Hv} {m : Md} {C nP : Nat} {s0 s : St} {t : SM} {bgf lsf : Nat → Nat} {f k : Nat}
theorem cst_0 (hE : ¬ hasE w v k) : cst w v k = 0 := by
  rw [cst]
  by_cases h11 : w.op k = 11
  · rw [if_pos h11, if_neg (fun q => hE (Or.inr ⟨h11, q⟩))]
  · rw [if_neg h11, if_neg (fun q => hE (Or.inl ⟨q, h11⟩))]
/-- behind a row, the blocks that are open are moved -/
theorem b71_x (S : Sta w v m C nP s0 t) (hk : k < C) (hx : CXf s0 s) (H : WbX w f k s) (k36 : Int32 → Int32 → Int32 → St → Option St) (x1 x2 : Int32) :
    ∃ s', f_RC_writeBody_71 k36 x1 x2 (nI k) (nI (w.op k)) s = k36 x1 x2 (nI (k + 1)) s' ∧ CXf s0 s' ∧ (∀ a, a ≠ 4 → a ≠ 32 → s' a = s a) ∧ s' 4 1 = s 4 1 ∧ (¬ (w.op k = 11 ∧ w.ins k = 0) → WbX w f (k + 1) s') := by
  have hC := S.hC
  have ho := kno_lt (S.kn hk).1
  rw [f_RC_writeBody_71, ob_x _ ho, bd1_some]
  simp only [f_RC_writeBody_121]
  by_cases hop : 2 ≤ w.op k ∧ w.op k ≤ 4
  · have hi1 : w.ins (k + 1) = k + 1 := by have := S.W.ni k hk; rw [nxt, if_pos hop] at this; exact this
    have hd1 : w.dp (k + 1) = w.dp k + 1 := by have := S.W.nd k hk; rw [dnx, if_pos hop] at this; exact this
    have h10 := S.W.d10 (k + 1) (by omega)
    rw [if_pos hop, if_neg (by decide), H.x0, rSet_n (by omega) (by decide), lt1, stp_ne _ _ _ (by decide), H.x0, nI_1, lt1, lt1, nI_1, lt1]
    refine ⟨_, rfl, (hx.p (by decide)).p (by decide), fun a a1 a2 => by simp (disch := first | decide | omega) only [stI1, stI2, stp_eq, stp_row, stp_ne, stp_nj ], by simp (disch := first | decide | omega) only [stI1, stI2, stp_eq, stp_row, stp_ne, stp_nj ], fun _ => ⟨by simp (disch := first | decide | omega) only [stI1, stI2, stp_eq, stp_row, stp_ne, stp_nj ]; exact H.x2, by simp (disch := first | decide | omega) only [stI1, stI2, stp_eq, stp_row, stp_ne, stp_nj ]; rw [hd1], fun j B h1 h2 => ?_⟩⟩
    rw [hi1] at h2
    rw [hd1, stp_ne _ _ _ (by decide)]
    by_cases hj : j = 0
    · subst hj
      have hB : B = k := by have : k + 1 = B + 1 := h2; omega
      rw [hB, show w.dp k + 1 - 1 - 0 = w.dp k by omega, stp_eq]
    · have h3 : ups w.ins (j - 1) (w.ins k) = B + 1 := by
        rw [show j = (j - 1) + 1 by omega] at h2
        have : ups w.ins (j - 1) (up w.ins (k + 1)) = B + 1 := h2
        rw [up_s] at this
        exact this
      rw [stp_nj _ _ _ (by omega), show w.dp k + 1 - 1 - j = w.dp k - 1 - (j - 1) by omega]
      exact H.op (j - 1) B (by omega) h3
  · rw [if_neg hop, if_pos rfl]
    by_cases h11 : w.op k = 11
    · rw [if_pos (show nI (w.op k) = 11 by rw [h11]; rfl), H.x0, lt1, lt1, nI_1, lt1]
      refine ⟨_, rfl, hx.p (by decide), fun a a1 a2 => by simp (disch := first | decide | omega) only [stI1, stI2, stp_eq, stp_row, stp_ne, stp_nj ], by simp (disch := first | decide | omega) only [stI1, stI2, stp_eq, stp_row, stp_ne, stp_nj ], fun hz => ?_⟩
      have h0 : w.ins k ≠ 0 := fun q => hz ⟨h11, q⟩
      obtain ⟨e1, e2⟩ := end_n S hk h11 h0
      refine ⟨by simp (disch := first | decide | omega) only [stI1, stI2, stp_eq, stp_row, stp_ne, stp_nj ]; exact H.x2, by simp (disch := first | decide | omega) only [stI1, stI2, stp_eq, stp_row, stp_ne, stp_nj ]; rw [nsub1 (by omega)]; exact congrArg nI (by omega), fun j B h1 h2 => ?_⟩
      rw [e1] at h2
      have := H.op (j + 1) B (by omega) h2
      rw [stp_ne _ _ _ (by decide), show w.dp (k + 1) - 1 - j = w.dp k - 1 - (j + 1) by omega]
      exact this
    · rw [if_neg (show ¬ nI (w.op k) = 11 from fun z => h11 ((nI_eq (b := 11) (by omega) (by decide)).mp z)), nI_1, lt1]
      obtain ⟨e1, e2⟩ := row_n S hk hop h11
      exact ⟨s, rfl, hx, fun _ _ _ => rfl, rfl, fun _ => ⟨H.x2, by rw [e2]; exact H.x0, by rw [e1, e2]; exact H.op⟩⟩
theorem bdy_x (S : Sta w v m C nP s0 t) (G : Ctg w m C bgf lsf s0 t) (hE24 : ent w v C ≤ 240) (hf : f < m.nF) : ∀ d k N s x1, k + d = lsf f + 1 → bgf f ≤ k → d < N → CXf s0 s → (∀ q, q < C → s 21 (q * 7 + 6) = nI (ent w v q)) → (k ≤ lsf f → WbX w f k s) → s 4 1 = nI (ent w v k) → Wds w v m bgf lsf (s 30) k →
    ∃ s', f_RC_writeBody_36 N x1 (nI (lsf f)) (nI k) s = some s' ∧ CXf s0 s' ∧ s' 21 = s 21 ∧ s' 4 1 = nI (ent w v (lsf f + 1)) ∧ Wds w v m bgf lsf (s' 30) (lsf f + 1) := by
  have hC := S.hC
  have Fs := G.fs f hf
  have hl := Fs.lC
  intro d
  induction d with
  | zero =>
    intro k N s x1 hd hk hN hx col H h1 hW
    obtain ⟨N, rfl⟩ : ∃ q, N = q + 1 := ⟨N - 1, by omega⟩
    have e : k = lsf f + 1 := by omega
    subst e
    rw [f_RC_writeBody_36, if_pos (nI_lt (show lsf f < lsf f + 1 by omega) (by omega))]
    exact ⟨s, rfl, hx, rfl, h1, hW⟩
  | succ d ih =>
    intro k N s x1 hd hk hN hx col H h1 hW
    obtain ⟨N, rfl⟩ : ∃ q, N = q + 1 := ⟨N - 1, by omega⟩
    have hkl : k ≤ lsf f := by omega
    have hkC : k < C := by omega
    have Hk := H hkl
    have S1 := S.rc hx (CMf.refl t)
    have G1 := G.rc hx (CMf.refl t)
    have hls := G.ls S hf hk hkl
    have fk : w.fn k = f := Fs.fn k hk hkl
    have go : ∀ s1, CXf s0 s1 → s1 21 = s 21 → WbX w f k s1 → s1 4 1 = nI (ent w v (k + 1)) → Wds w v m bgf lsf (s1 30) (k + 1) → ∃ s', f_RC_writeBody_71 (f_RC_writeBody_36 N) x1 (nI (lsf f)) (nI k) (nI (w.op k)) s1 = some s' ∧ CXf s0 s' ∧ s' 21 = s 21 ∧ s' 4 1 = nI (ent w v (lsf f + 1)) ∧ Wds w v m bgf lsf (s' 30) (lsf f + 1) := by
      intro s1 a1 a2 a3 a4 a5
      obtain ⟨s2, b1, b2, b3, b4, b5⟩ := b71_x S hkC a1 a3 (f_RC_writeBody_36 N) x1 (nI (lsf f))
      rw [b1]
      have c21 : s2 21 = s 21 := (b3 21 (by decide) (by decide)).trans a2
      obtain ⟨s', g1, g2, g3, g4, g5⟩ := ih (k + 1) N s2 x1 (by omega) (by omega) (by omega) b2 (by rw [c21]; exact col) (fun q => b5 (fun z => by have := hls.mp z; omega)) (b4.trans a4) (by rw [b3 30 (by decide) (by decide)]; exact a5)
      exact ⟨s', g1, g2, g3.trans c21, g4, g5⟩
    rw [f_RC_writeBody_36, if_neg (show ¬ nI (lsf f) < nI k from fun q => absurd ((nI_ltI (by omega) (by omega)).mp q) (by omega)), tg_240_7_0 (by omega), (S1.rx k hkC).c0, lt1, ent_x S1 G1 hf hk hkl, bd1_some]
    by_cases hE : hasE w v k
    · have c1 := hasE_c hE
      have hle := ent_le w v (show k + 1 ≤ C by omega)
      rw [ent_s] at hle
      obtain ⟨s1, a1, a2, a3, a4, a5, a6⟩ := wri_x S G hE24 hkC hE fk hx col Hk h1 hW
      rw [if_neg (show ¬ nI (cst w v k) ≤ 0 from nI_ge (a := 0) (by omega) (by omega)), a1, bd1_some]
      exact go s1 a2 a3 a4 a5 a6
    · have c0 := cst_0 hE
      rw [if_pos (show nI (cst w v k) ≤ 0 by rw [c0]; decide)]
      refine go s hx rfl Hk (by rw [h1, ent_s, c0]; rfl) (hW.push (fun z => absurd z hE) (fun z1 z2 => absurd (Or.inl ⟨z1, by omega⟩) hE))
theorem mk_go (S : Sta w v m C nP s0 t) (G : Ctg w m C bgf lsf s0 t) (hE24 : ent w v C ≤ 240) : ∀ d f N s, f + d = m.nF → d < N → CXf s0 s → (∀ q, q < C → s 21 (q * 7 + 6) = nI (ent w v q)) → s 4 1 = nI (ent w v (bgf f)) → Wds w v m bgf lsf (s 30) (bgf f) →
    ∃ s', f_RC_make_11 N (nI f) s = some s' ∧ CXf s0 s' ∧ s' 21 = s 21 ∧ s' 4 1 = nI (ent w v C) ∧ Wds w v m bgf lsf (s' 30) C := by
  have hC := S.hC
  have h8 := S.E.nF8
  intro d
  induction d with
  | zero =>
    intro f N s hd hN hx col h1 hW
    obtain ⟨N, rfl⟩ : ∃ q, N = q + 1 := ⟨N - 1, by omega⟩
    have e : f = m.nF := by omega
    rw [e, G.bC] at h1 hW
    refine ⟨s, ?_, hx, rfl, h1, hW⟩
    rw [f_RC_make_11, f_RC_make_42, hx.o 12 (by decide) (by decide) (by decide) (by decide), S.E.x12, lt1, if_pos (show nI m.nF ≤ nI f from nI_le (by omega) (by omega)), ite_self]
  | succ d ih =>
    intro f N s hd hN hx col h1 hW
    obtain ⟨N, rfl⟩ : ∃ q, N = q + 1 := ⟨N - 1, by omega⟩
    have hf : f < m.nF := by omega
    have Fs := (G.fs f hf).rc hx (CMf.refl t)
    have hl := Fs.lC; have hb := Fs.bl
    have hN' := FU_9
    have dbg : w.dp (bgf f) = 0 := S.W.i3 (bgf f) (by omega) Fs.ib
    have hx2 : CXf s0 (stp (stp s 4 2 (nI f)) 4 0 0) := (hx.p (by decide)).p (by decide)
    obtain ⟨s1, g1, g2, g3, g4, g5⟩ := bdy_x S G hE24 hf (lsf f + 1 - bgf f) (bgf f) FU (stp (stp s 4 2 (nI f)) 4 0 0) (nI f) (by omega) (Nat.le_refl _) (by omega) hx2 (fun q hq => by simp (disch := first | decide | omega) only [stI1, stI2, stp_eq, stp_row, stp_ne, stp_nj ]; exact col q hq) (fun _ => ⟨by simp (disch := first | decide | omega) only [stI1, stI2, stp_eq, stp_row, stp_ne, stp_nj ], by simp (disch := first | decide | omega) only [stI1, stI2, stp_eq, stp_row, stp_ne, stp_nj ]; rw [dbg]; rfl, fun j B z => by omega⟩) (by simp (disch := first | decide | omega) only [stI1, stI2, stp_eq, stp_row, stp_ne, stp_nj ]; exact h1) (by simp (disch := first | decide | omega) only [stI1, stI2, stp_eq, stp_row, stp_ne, stp_nj ]; exact hW)
    have e21 : s1 21 = s 21 := by rw [g3]; simp (disch := first | decide | omega) only [stI1, stI2, stp_eq, stp_row, stp_ne, stp_nj ]
    rw [← G.bn f hf] at g4 g5
    obtain ⟨s', e1, e2, e3, e4, e5⟩ := ih (f + 1) N s1 (by omega) (by omega) g2 (by rw [e21]; exact col) g4 g5
    refine ⟨s', ?_, e2, e3.trans e21, e4, e5⟩
    rw [f_RC_make_11, if_neg (show ¬ 8 ≤ nI f from nI_ge (b := 8) (by omega) (by decide)), hx.o 12 (by decide) (by decide) (by decide) (by decide), S.E.x12, lt1, if_neg (show ¬ nI m.nF ≤ nI f from nI_ge hf (by omega)), f_RC_writeBody, lt1, lt1, show stp (stp s 4 2 (nI f)) 4 0 0 13 = s 13 by simp (disch := first | decide | omega) only [stI1, stI2, stp_eq, stp_row, stp_ne, stp_nj ], tg_8_4_3 (by omega), Fs.x3, lt1, tg_8_4_2 (by omega), Fs.x2, lt1, g1, bd1_some, nI_1, lt1, e1]
theorem make_x (S : Sta w v m C nP s0 t) (G : Ctg w m C bgf lsf s0 t) (hE24 : ent w v C ≤ 240) : ∃ s', f_RC_make s0 = some s' ∧ CXf s0 s' ∧ (∀ q, q < C → s' 21 (q * 7 + 6) = nI (ent w v q)) ∧ s' 4 1 = nI (ent w v C) ∧ Wds w v m bgf lsf (s' 30) C := by
  have h8 := S.E.nF8
  have hN := FU_9
  obtain ⟨s1, g1, g2, g3, g4, g5⟩ := nx_all S G m.nF 0 FU s0 (by omega) (by omega) (CXf.refl s0)
  rw [G.b0] at g1 g5
  have g1' : f_RC_numberEntries s0 = some s1 := g1
  have e0 : ent w v 0 = 0 := rfl
  obtain ⟨s', e1, e2, e3, e4, e5⟩ := mk_go S G hE24 m.nF 0 FU (stp s1 4 1 0) (by omega) (by omega) (g2.p (by decide)) (fun q hq => by simp (disch := first | decide | omega) only [stI1, stI2, stp_eq, stp_row, stp_ne, stp_nj ]; exact g5 q (Nat.zero_le _) hq) (by rw [G.b0, e0]; simp (disch := first | decide | omega) only [stI1, stI2, stp_eq, stp_row, stp_ne, stp_nj ]; rfl) (by rw [G.b0]; exact ⟨fun k hk => by omega, fun k hk => by omega⟩)
  have e1' : f_RC_make_11 FU 0 (stp s1 4 1 0) = some s' := e1
  refine ⟨s', ?_, e2, fun q hq => by rw [e3]; simp (disch := first | decide | omega) only [stI1, stI2, stp_eq, stp_row, stp_ne, stp_nj ]; exact g5 q (Nat.zero_le _) hq, e4, e5⟩
  rw [f_RC_make, g1', bd1_some, lt1, e1']
end MKX
