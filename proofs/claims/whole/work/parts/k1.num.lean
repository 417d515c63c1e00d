-- register code is made: the entries are numbered
section NUM
variable {w : Cd} {v : Hv} {m : Md} {C nP : Nat} {s0 : St} {t0 : SM} {bgf lsf : Nat → Nat}
theorem Ctg.lb (S : Sta w v m C nP s0 t0) (G : Ctg w m C bgf lsf s0 t0) {f : Nat} (hf : f < m.nF) : v.lo (bgf f) = 0 ∧ v.hi (bgf f) = 0 := by
  obtain ⟨bg, ls, Fs, h1, h2⟩ := S.fs f hf
  have Fs2 := G.fs f hf
  have hC := S.hC
  have a1 := Fs.bl; have a2 := Fs.lC
  have b1 := Fs2.bl; have b2 := Fs2.lC
  have e : bgf f = bg := (nI_eq (by omega) (by omega)).mp (Fs2.x2.symm.trans Fs.x2)
  rw [e]; exact ⟨h2, h1⟩
theorem nx_go (S : Sta w v m C nP s0 t0) (G : Ctg w m C bgf lsf s0 t0) {f : Nat} (hf : f < m.nF) (k4 : Int32 → Int32 → St → Option St) : ∀ d k N s, k + d = lsf f + 1 → bgf f ≤ k → d < N → CXf s0 s →
    ∃ s', f_RC_numberEntries_51 k4 N (nI (ent w v k)) (nI f) (nI (lsf f)) (nI k) s = k4 (nI (ent w v (lsf f + 1))) (nI (f + 1)) s' ∧ CXf s0 s' ∧ (∀ a, a ≠ 21 → s' a = s a) ∧ (∀ q, q < k → s' 21 (q * 7 + 6) = s 21 (q * 7 + 6)) ∧ (∀ q, k ≤ q → q ≤ lsf f → s' 21 (q * 7 + 6) = nI (ent w v q)) := by
  have hC := S.hC
  have Fs := G.fs f hf
  have hl := Fs.lC
  intro d
  induction d with
  | zero =>
    intro k N s hd hk hN hx
    obtain ⟨N, rfl⟩ : ∃ q, N = q + 1 := ⟨N - 1, by omega⟩
    rw [f_RC_numberEntries_51, if_pos (nI_lt (show lsf f < k by omega) (by omega)), nI_1, lt1, show k = lsf f + 1 by omega]
    exact ⟨s, rfl, hx, fun _ _ => rfl, fun _ _ => rfl, fun q q1 q2 => by omega⟩
  | succ d ih =>
    intro k N s hd hk hN hx
    obtain ⟨N, rfl⟩ : ∃ q, N = q + 1 := ⟨N - 1, by omega⟩
    have hx2 : CXf s0 (stp s 21 (k * 7 + 6) (nI (ent w v k))) := hx.p21
    have en := ent_x (S.rc hx2 (CMf.refl t0)) (G.rc hx2 (CMf.refl t0)) hf hk (by omega)
    rw [f_RC_numberEntries_51, if_neg (show ¬ nI (lsf f) < nI k from fun q => absurd ((nI_ltI (by omega) (by omega)).mp q) (by omega)), ts_240_7_6 (by omega), lt1, en, bd1_some, nI_add, lt1, nI_1, lt1, ← ent_s]
    obtain ⟨s', g1, g2, g3, g4, g5⟩ := ih (k + 1) N _ (by omega) (by omega) (by omega) hx2
    refine ⟨s', g1, g2, fun a ha => by rw [g3 a ha, stp_ne _ _ _ ha], fun q hq => by rw [g4 q (by omega), stp_nj _ _ _ (by omega)], fun q q1 q2 => ?_⟩
    by_cases e : q = k
    · rw [e, g4 k (by omega), stp_eq]
    · exact g5 q (by omega) q2
theorem nx_all (S : Sta w v m C nP s0 t0) (G : Ctg w m C bgf lsf s0 t0) : ∀ d f N s, f + d = m.nF → d < N → CXf s0 s →
    ∃ s', f_RC_numberEntries_4 N (nI (ent w v (bgf f))) (nI f) s = some s' ∧ CXf s0 s' ∧ (∀ a, a ≠ 21 → s' a = s a) ∧ (∀ q, q < bgf f → s' 21 (q * 7 + 6) = s 21 (q * 7 + 6)) ∧ (∀ q, bgf f ≤ q → q < C → s' 21 (q * 7 + 6) = nI (ent w v q)) := by
  have hC := S.hC
  have h8 := S.E.nF8
  intro d
  induction d with
  | zero =>
    intro f N s hd hN hx
    obtain ⟨N, rfl⟩ : ∃ q, N = q + 1 := ⟨N - 1, by omega⟩
    have e : f = m.nF := by omega
    refine ⟨s, ?_, hx, fun _ _ => rfl, fun _ _ => rfl, fun q q1 q2 => by rw [e, G.bC] at q1; omega⟩
    rw [f_RC_numberEntries_4, f_RC_numberEntries_94, hx.o 12 (by decide) (by decide) (by decide) (by decide), S.E.x12, lt1, if_pos (show nI m.nF ≤ nI f from nI_le (by omega) (by omega)), ite_self]
  | succ d ih =>
    intro f N s hd hN hx
    obtain ⟨N, rfl⟩ : ∃ q, N = q + 1 := ⟨N - 1, by omega⟩
    have hf : f < m.nF := by omega
    have Fs := (G.fs f hf).rc hx (CMf.refl t0)
    have hl := Fs.lC; have hb := Fs.bl
    have hN' := FU_9
    obtain ⟨s1, g1, g2, g3, g4, g5⟩ := nx_go S G hf (f_RC_numberEntries_4 N) (lsf f + 1 - bgf f) (bgf f) FU s (by omega) (Nat.le_refl _) (by omega) hx
    obtain ⟨s', e1, e2, e3, e4, e5⟩ := ih (f + 1) N s1 (by omega) (by omega) g2
    rw [f_RC_numberEntries_4, if_neg (show ¬ 8 ≤ nI f from nI_ge (b := 8) (by omega) (by decide)), hx.o 12 (by decide) (by decide) (by decide) (by decide), S.E.x12, lt1, if_neg (show ¬ nI m.nF ≤ nI f from nI_ge hf (by omega)), tg_8_4_3 (by omega), Fs.x3, lt1, tg_8_4_2 (by omega), Fs.x2, lt1, g1, ← G.bn f hf, e1]
    rw [G.bn f hf] at e4 e5
    refine ⟨s', rfl, e2, fun a ha => (e3 a ha).trans (g3 a ha), fun q hq => by rw [e4 q (by omega), g4 q hq], fun q q1 q2 => ?_⟩
    by_cases z : q < lsf f + 1
    · rw [e4 q z, g5 q q1 (by omega)]
    · exact e5 q (by omega) q2
/-- how deep in what is not reached -/
def nsv (v : Hv) (k : Nat) : Nat := if v.lo k = 0 then 0 else v.ns k
theorem nm_go (S : Sta w v m C nP s0 t0) (G : Ctg w m C bgf lsf s0 t0) {f : Nat} (hf : f < m.nF) : ∀ d k N x2 x4 x5 t, k + d = lsf f + 1 → bgf f ≤ k → d < N → CMf t0 t → (k ≤ lsf f → x4 = nI (v.lo k) ∧ x5 = nI (nsv v k) ∧ nsv v k ≤ k) →
    ∃ t', f_M_number_16 N (nI f) x2 (nI (ent w v k)) x4 x5 (nI k) t = some (nI (ent w v (lsf f + 1)), t') ∧ CMf t0 t' ∧ (∀ a, a ≠ 21 → t'.1 a = t.1 a) ∧ (∀ q, q < k → t'.1 21 q = t.1 21 q) ∧ (∀ q, k ≤ q → q ≤ lsf f → t'.1 21 q = nI (ent w v q)) := by
  have hC := S.hC
  have h8 := S.E.nF8
  intro d
  induction d with
  | zero =>
    intro k N x2 x4 x5 t hd hk hN hm _
    obtain ⟨N, rfl⟩ : ∃ q, N = q + 1 := ⟨N - 1, by omega⟩
    have Fs := (G.fs f hf).rc (CXf.refl s0) hm
    have hl := Fs.lC
    rw [f_M_number_16, gi_n (show f < 8 by omega) (by decide), nI_clamp (by omega), Fs.m23, lt1, if_pos (nI_lt (show lsf f < k by omega) (by omega)), show k = lsf f + 1 by omega]
    exact ⟨t, rfl, hm, fun _ _ => rfl, fun _ _ => rfl, fun q q1 q2 => by omega⟩
  | succ d ih =>
    intro k N x2 x4 x5 t hd hk hN hm hz
    obtain ⟨N, rfl⟩ : ∃ q, N = q + 1 := ⟨N - 1, by omega⟩
    have Fs := (G.fs f hf).rc (CXf.refl s0) hm
    have hl := Fs.lC
    have hkl : k ≤ lsf f := by omega
    have hkC : k < C := by omega
    obtain ⟨hx4, hx5, hns⟩ := hz hkl
    have kn := S.kn hkC
    have ho := kno_lt kn.1
    have hls := G.ls S hf hk hkl
    have SR := S.H.sr k hkC
    have l1 := SR.l1
    have hm3 : CMf t0 (stI t 21 k (nI (ent w v k))) := hm.p (by decide)
    have S3 := S.rc (CXf.refl s0) hm3
    have G3 := G.rc (CXf.refl s0) hm3
    have R := (S.rc (CXf.refl s0) hm).rm k hkC
    -- what is left to do behind this row
    have nxt3 : ∀ y4 y5, (k + 1 ≤ lsf f → y4 = nI (v.lo (k + 1)) ∧ y5 = nI (nsv v (k + 1)) ∧ nsv v (k + 1) ≤ k + 1) → ∃ t', f_M_number_16 N (nI f) x2 (nI (ent w v (k + 1))) y4 y5 (nI (k + 1)) (stI t 21 k (nI (ent w v k))) = some (nI (ent w v (lsf f + 1)), t') ∧ CMf t0 t' ∧ (∀ a, a ≠ 21 → t'.1 a = t.1 a) ∧ (∀ q, q < k → t'.1 21 q = t.1 21 q) ∧ (∀ q, k ≤ q → q ≤ lsf f → t'.1 21 q = nI (ent w v q)) := by
      intro y4 y5 hy
      obtain ⟨t', g1, g2, g3, g4, g5⟩ := ih (k + 1) N x2 y4 y5 (stI t 21 k (nI (ent w v k))) (by omega) (by omega) (by omega) hm3 hy
      refine ⟨t', g1, g2, fun a ha => by rw [g3 a ha]; simp (disch := first | decide | omega) only [stI1, stI2, stp_eq, stp_row, stp_ne, stp_nj ], fun q hq => by rw [g4 q (by omega)]; simp (disch := first | decide | omega) only [stI1, stI2, stp_eq, stp_row, stp_ne, stp_nj ], fun q q1 q2 => ?_⟩
      by_cases e : q = k
      · rw [e, g4 k (by omega)]; simp (disch := first | decide | omega) only [stI1, stI2, stp_eq, stp_row, stp_ne, stp_nj ]
      · exact g5 q (by omega) q2
    have e16 : f_M_number_16 (N + 1) (nI f) x2 (nI (ent w v k)) x4 x5 (nI k) t = f_M_number_86 (f_M_number_16 N) (nI f) x2 (nI (ent w v k)) (nI (v.lo k)) (nI (nsv v k)) (nI k) (nI (w.op k)) (if 2 ≤ w.op k ∧ w.op k ≤ 4 then 1 else 0) (if (w.op k = 5 ∨ w.op k = 11) ∧ nsv v k = 0 then 1 else 0) (stI t 21 k (nI (ent w v k))) := by
      rw [hx4, hx5, f_M_number_16, gi_n (show f < 8 by omega) (by decide), nI_clamp (show f < 2 ^ 31 by omega), Fs.m23, lt1, if_neg (show ¬ nI (lsf f) < nI k from fun q => absurd ((nI_ltI (by omega) (by omega)).mp q) (by omega)), gi_n (show k < 250 by omega) (by decide), nI_clamp (show k < 2 ^ 31 by omega), R.c0, lt1, gi_n (show k < 251 by omega) (by decide), lt1]
      have e61 : ∀ y, f_M_number_61 (f_M_number_16 N) (nI f) x2 (nI (ent w v k)) (nI (v.lo k)) (nI (nsv v k)) (nI k) (nI (w.op k)) y (stI t 21 k (nI (ent w v k))) = f_M_number_86 (f_M_number_16 N) (nI f) x2 (nI (ent w v k)) (nI (v.lo k)) (nI (nsv v k)) (nI k) (nI (w.op k)) y (if (w.op k = 5 ∨ w.op k = 11) ∧ nsv v k = 0 then 1 else 0) (stI t 21 k (nI (ent w v k))) := by
        intro y
        rw [f_M_number_61, f_M_number_76, f_M_number_85]
        by_cases q : w.op k = 5 ∨ w.op k = 11
        · by_cases z : nsv v k = 0
          · rw [if_pos (show nI (nsv v k) = 0 by rw [z]; rfl), if_pos (show (w.op k = 5 ∨ w.op k = 11) ∧ nsv v k = 0 from ⟨q, z⟩)]
            rcases q with q | q
            · rw [if_pos (show nI (w.op k) = 5 by rw [q]; rfl)]
            · rw [if_neg (show ¬ nI (w.op k) = 5 by rw [q]; decide), if_pos (show nI (w.op k) = 11 by rw [q]; rfl)]
          · rw [if_neg (show ¬ nI (nsv v k) = 0 from nI_ne0 (by omega) (by omega)), if_neg (show ¬ ((w.op k = 5 ∨ w.op k = 11) ∧ nsv v k = 0) from fun q => z q.2), ite_self, ite_self]
        · rw [if_neg (show ¬ nI (w.op k) = 5 from fun z => q (Or.inl ((nI_eq (b := 5) (by omega) (by decide)).mp z))), if_neg (show ¬ nI (w.op k) = 11 from fun z => q (Or.inr ((nI_eq (b := 11) (by omega) (by decide)).mp z))), if_neg (show ¬ ((w.op k = 5 ∨ w.op k = 11) ∧ nsv v k = 0) from fun z => q z.1)]
      rw [f_M_number_60, e61, e61]
      by_cases q : 2 ≤ w.op k ∧ w.op k ≤ 4
      · rw [if_pos q, if_neg (show ¬ nI (w.op k) < 2 from fun z => absurd ((nI_ltI (b := 2) (by omega) (by decide)).mp z) (by omega)), if_neg (show ¬ 4 < nI (w.op k) from fun z => absurd ((nI_ltI (a := 4) (by decide) (by omega)).mp z) (by omega))]
      · rw [if_neg q]
        by_cases z : w.op k < 2
        · rw [if_pos (show nI (w.op k) < 2 from nI_lt (b := 2) z (by decide))]
        · rw [if_neg (show ¬ nI (w.op k) < 2 from fun y => z ((nI_ltI (b := 2) (by omega) (by decide)).mp y)), if_pos (show 4 < nI (w.op k) from nI_lt (a := 4) (by omega) (by omega))]
    rw [e16, f_M_number_86]
    have e104 : (v.lo k = 0 ∨ k = lsf f) → ∀ y8 y9, f_M_number_104 (f_M_number_16 N) (nI f) x2 (nI (ent w v k)) (nI (v.lo k)) (nI (nsv v k)) (nI k) (nI (w.op k)) y8 y9 (stI t 21 k (nI (ent w v k))) = f_M_number_143 (f_M_number_16 N) (nI f) x2 (nI (ent w v (k + 1))) (nI (v.lo k)) (nI (nsv v k)) (nI k) (nI (w.op k)) y8 y9 (stI t 21 k (nI (ent w v k))) := by
      intro hz y8 y9
      rw [f_M_number_104, ent_m S3 G3 hf hk hkl hz, bd1_some, nI_add, lt1, ← ent_s]
    have e193 : ∀ y3 y4 y5 y8 y9, f_M_number_193 (f_M_number_16 N) (nI f) x2 y3 y4 y5 (nI k) (nI (w.op k)) y8 y9 (stI t 21 k (nI (ent w v k))) = f_M_number_16 N (nI f) x2 y3 y4 y5 (nI (k + 1)) (stI t 21 k (nI (ent w v k))) := by
      intro y3 y4 y5 y8 y9
      rw [f_M_number_193, nI_1, lt1]
    by_cases hlo : v.lo k = 0
    · have hnsv : nsv v k = 0 := by rw [nsv, if_pos hlo]
      rw [if_pos (show nI (v.lo k) = 0 by rw [hlo]; rfl), e104 (Or.inl hlo), f_M_number_143, if_pos (show nI (v.lo k) = 0 by rw [hlo]; rfl), f_M_number_159, if_pos (show nI (v.lo k) = 0 by rw [hlo]; rfl)]
      simp only [f_M_number_190, e193]
      by_cases hld : lead (w.op k)
      · have e : ∀ (A B : Option (Int32 × SM)), (if nI (w.op k) = 0 then A else if nI (w.op k) = 12 then A else if nI (w.op k) = 14 then A else if nI (w.op k) = 15 then A else B) = A := by
          intro A B
          unfold lead at hld
          rcases hld with q | q | q | q
          · rw [if_pos (show nI (w.op k) = 0 by rw [q]; rfl)]
          · rw [if_pos (show nI (w.op k) = 12 by rw [q]; rfl), ite_self]
          · rw [if_pos (show nI (w.op k) = 14 by rw [q]; rfl), ite_self, ite_self]
          · rw [if_pos (show nI (w.op k) = 15 by rw [q]; rfl), ite_self, ite_self, ite_self]
        rw [e]
        refine nxt3 1 (nI (nsv v k)) (fun hq => ?_)
        obtain ⟨z1, z2⟩ := (SR.r0 hlo).1 hld
        have : nsv v (k + 1) = 0 := by rw [nsv, z1, if_neg (by decide), z2]
        rw [z1, this, hnsv]
        exact ⟨rfl, rfl, Nat.zero_le _⟩
      · have e : ∀ (A B : Option (Int32 × SM)), (if nI (w.op k) = 0 then A else if nI (w.op k) = 12 then A else if nI (w.op k) = 14 then A else if nI (w.op k) = 15 then A else B) = B := by
          intro A B
          unfold lead at hld
          rw [if_neg (show ¬ nI (w.op k) = 0 from fun z => hld (Or.inl ((nI_eq (b := 0) (by omega) (by decide)).mp z))), if_neg (show ¬ nI (w.op k) = 12 from fun z => hld (Or.inr (Or.inl ((nI_eq (b := 12) (by omega) (by decide)).mp z)))), if_neg (show ¬ nI (w.op k) = 14 from fun z => hld (Or.inr (Or.inr (Or.inl ((nI_eq (b := 14) (by omega) (by decide)).mp z))))), if_neg (show ¬ nI (w.op k) = 15 from fun z => hld (Or.inr (Or.inr (Or.inr ((nI_eq (b := 15) (by omega) (by decide)).mp z)))))]
        rw [e]
        refine nxt3 (nI (v.lo k)) (nI (nsv v k)) (fun hq => ?_)
        have z1 := (SR.r0 hlo).2 hld
        have : nsv v (k + 1) = 0 := by rw [nsv, if_pos z1]
        rw [z1, this, hnsv, hlo]
        exact ⟨rfl, rfl, Nat.zero_le _⟩
    · have hlo1 : v.lo k = 1 := by omega
      have hnsv : nsv v k = v.ns k := by rw [nsv, if_neg hlo]
      have n0 : ¬ nI (v.lo k) = 0 := by rw [hlo1]; decide
      rw [if_neg n0, gi_n (show f < 8 by omega) (by decide), nI_clamp (show f < 2 ^ 31 by omega), show (stI t 21 k (nI (ent w v k))).1 23 f = nI (lsf f) by simp (disch := first | decide | omega) only [stI1, stI2, stp_eq, stp_row, stp_ne, stp_nj ]; exact Fs.m23, lt1]
      have e143 : ∀ y3 y5 y8 y9, f_M_number_143 (f_M_number_16 N) (nI f) x2 y3 (nI (v.lo k)) y5 (nI k) (nI (w.op k)) y8 y9 (stI t 21 k (nI (ent w v k))) = f_M_number_16 N (nI f) x2 y3 (if y9 = 0 then nI (v.lo k) else 0) y5 (nI (k + 1)) (stI t 21 k (nI (ent w v k))) := by
        intro y3 y5 y8 y9
        rw [f_M_number_143, if_neg n0, f_M_number_159, if_neg n0, e193, e193]
        by_cases z : y9 = 0
        · rw [if_pos z, if_pos z]
        · rw [if_neg z, if_neg z]
      by_cases e : k = lsf f
      · rw [if_pos (by rw [← e]), e104 (Or.inr e), e143]
        exact nxt3 _ _ (fun q => by omega)
      · have hc0 : cst w v k = 0 := by
          rw [cst]
          by_cases h11 : w.op k = 11
          · rw [if_pos h11, if_neg (fun q => e (hls.mp ⟨h11, q⟩))]
          · rw [if_neg h11, if_neg hlo]
        have ek : ent w v (k + 1) = ent w v k := by rw [ent_s, hc0]; rfl
        obtain ⟨ra, rb, rc, rd⟩ := SR.r1 hlo1
        rw [ek] at nxt3
        rw [if_neg (fun q => e ((nI_eq (by omega) (by omega)).mp q))]
        by_cases hop : 2 ≤ w.op k ∧ w.op k ≤ 4
        · obtain ⟨z1, z2⟩ := ra hop
          have : nsv v (k + 1) = v.ns k + 1 := by rw [nsv, z1, if_neg (by decide), z2]
          rw [if_pos hop, if_neg (by decide), if_neg (show ¬ ((w.op k = 5 ∨ w.op k = 11) ∧ nsv v k = 0) by omega), nI_1, lt1, e143, if_pos rfl]
          refine nxt3 _ _ (fun hq => ?_)
          rw [z1, this, hnsv, hlo1]
          exact ⟨rfl, rfl, by omega⟩
        · rw [if_neg hop, if_pos rfl]
          by_cases h11 : w.op k = 11
          · rw [if_pos (show nI (w.op k) = 11 by rw [h11]; rfl)]
            by_cases hn : nsv v k = 0
            · rw [if_pos (show nI (nsv v k) ≤ 0 by rw [hn]; decide), if_pos ⟨Or.inr h11, hn⟩, e143, if_neg (by decide)]
              have z1 := rb (Or.inr h11) (by omega)
              have : nsv v (k + 1) = 0 := by rw [nsv, if_pos z1]
              refine nxt3 _ _ (fun hq => ?_)
              rw [z1, this, hn]
              exact ⟨rfl, rfl, Nat.zero_le _⟩
            · rw [if_neg (show ¬ nI (nsv v k) ≤ 0 from nI_ge (a := 0) (by omega) (by omega)), if_neg (fun q => hn q.2), show nI (nsv v k) + -1 = nI (nsv v k - 1) by rw [show nsv v k = (nsv v k - 1) + 1 by omega, Nat.add_sub_cancel]; exact pk_m1 _, lt1, e143, if_pos rfl]
              obtain ⟨z1, z2⟩ := rc h11 (by omega)
              have : nsv v (k + 1) = nsv v k - 1 := by rw [nsv, z1, if_neg (by decide), z2, hnsv]
              refine nxt3 _ _ (fun hq => ?_)
              rw [z1, this, hlo1]
              exact ⟨rfl, rfl, by omega⟩
          · rw [if_neg (show ¬ nI (w.op k) = 11 from fun q => h11 ((nI_eq (b := 11) (by omega) (by decide)).mp q)), e143]
            by_cases h5 : w.op k = 5 ∧ nsv v k = 0
            · rw [if_pos (show (w.op k = 5 ∨ w.op k = 11) ∧ nsv v k = 0 from ⟨Or.inl h5.1, h5.2⟩), if_neg (show ¬ (1 : Int32) = 0 by decide)]
              have z1 := rb (Or.inl h5.1) (by omega)
              have : nsv v (k + 1) = 0 := by rw [nsv, if_pos z1]
              refine nxt3 _ _ (fun hq => ?_)
              rw [z1, this, h5.2]
              exact ⟨rfl, rfl, Nat.zero_le _⟩
            · rw [if_neg (show ¬ ((w.op k = 5 ∨ w.op k = 11) ∧ nsv v k = 0) by omega), if_pos rfl]
              obtain ⟨z1, z2⟩ := rd hop h11 (by omega)
              have : nsv v (k + 1) = nsv v k := by rw [nsv, z1, if_neg (by decide), z2, hnsv]
              refine nxt3 _ _ (fun hq => ?_)
              rw [z1, this, hlo1]
              exact ⟨rfl, rfl, by omega⟩
theorem nm_all (S : Sta w v m C nP s0 t0) (G : Ctg w m C bgf lsf s0 t0) : ∀ d f N t, f + d = m.nF → d < N → CMf t0 t →
    ∃ t', f_M_compile_28 N (nI (ent w v (bgf f))) (nI f) t = f_M_compile_51 FU (nI (ent w v C)) 0 t' ∧ CMf t0 t' ∧ (∀ a, a ≠ 21 → t'.1 a = t.1 a) ∧ (∀ q, q < bgf f → t'.1 21 q = t.1 21 q) ∧ (∀ q, bgf f ≤ q → q < C → t'.1 21 q = nI (ent w v q)) := by
  have hC := S.hC
  have h8 := S.E.nF8
  intro d
  induction d with
  | zero =>
    intro f N t hd hN hm
    obtain ⟨N, rfl⟩ : ∃ q, N = q + 1 := ⟨N - 1, by omega⟩
    have e : f = m.nF := by omega
    refine ⟨t, ?_, hm, fun _ _ => rfl, fun _ _ => rfl, fun q q1 q2 => by rw [e, G.bC] at q1; omega⟩
    rw [f_M_compile_28, hm.z 7 (by decide) (by decide) (by decide), S.E.m7, if_pos (show nI m.nF ≤ nI f from nI_le (by omega) (by omega)), e, G.bC]
  | succ d ih =>
    intro f N t hd hN hm
    obtain ⟨N, rfl⟩ : ∃ q, N = q + 1 := ⟨N - 1, by omega⟩
    have hf : f < m.nF := by omega
    have Fs := (G.fs f hf).rc (CXf.refl s0) hm
    have hl := Fs.lC; have hb := Fs.bl
    have hN' := FU_9
    obtain ⟨lb1, lb2⟩ := G.lb S hf
    have hnsv : nsv v (bgf f) = 0 := by rw [nsv, if_pos lb1]
    obtain ⟨t1, g1, g2, g3, g4, g5⟩ := nm_go S G hf (lsf f + 1 - bgf f) (bgf f) FU (nI (ent w v (bgf f))) 0 0 t (by omega) (Nat.le_refl _) (by omega) hm (fun _ => by rw [lb1, hnsv]; exact ⟨rfl, rfl, Nat.zero_le _⟩)
    obtain ⟨t', e1, e2, e3, e4, e5⟩ := ih (f + 1) N t1 (by omega) (by omega) g2
    rw [f_M_compile_28, hm.z 7 (by decide) (by decide) (by decide), S.E.m7, if_neg (show ¬ nI m.nF ≤ nI f from nI_ge hf (by omega)), f_M_number, gi_n (show f < 8 by omega) (by decide), nI_clamp (by omega), Fs.m22, lt1, g1, bd_some, nI_1, lt1, ← G.bn f hf, e1]
    rw [G.bn f hf] at e4 e5
    refine ⟨t', rfl, e2, fun a ha => (e3 a ha).trans (g3 a ha), fun q hq => by rw [e4 q (by omega), g4 q hq], fun q q1 q2 => ?_⟩
    by_cases z : q < lsf f + 1
    · rw [e4 q z, g5 q q1 (by omega)]
    · exact e5 q (by omega) q2
end NUM
