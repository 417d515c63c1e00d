-- validation: both sides judge a module alike
def DOk (nD p : Nat) (s : St) (t : SM) : Prop := ∀ j, j < nD → ∃ a f g, a + g ≤ 64 * p ∧ f + g ≤ 240 ∧ s 19 (j * 4 + 1) = nI a ∧ t.1 11 j = nI a ∧ s 19 (j * 4 + 2) = nI f ∧ t.1 12 j = nI f ∧ s 19 (j * 4 + 3) = nI g ∧ t.1 13 j = nI g
/-- a module that is valid, on both sides -/
def Vld (w : Cd) (v : Hv) (m : Md) (C nP nD p : Nat) (s : St) (t : SM) : Prop :=
  (Env m s t) ∧
  (HR w v m C s t) ∧
  (∀ q, q < C → RwX w q (s 21)) ∧
  (DOk nD p s t) ∧
  (s 1 1 = nI p) ∧
  (t.2 0 0 = lN p) ∧
  (p ≤ 4) ∧
  (t.1 0 10 = 1 → ∃ q : Nat, p ≤ q ∧ q < 2 ^ 32 ∧ t.2 0 1 = lN q) ∧
  (∀ j q, j < m.nF → q < C → s 13 (j * 4 + 2) = nI q → v.hi q = 0 ∧ v.lo q = 0)
theorem Vld.env {w : Cd} {v : Hv} {m : Md} {C nP nD p : Nat} {s : St} {t : SM} (q0_ : Vld w v m C nP nD p s t) : Env m s t := q0_.1
theorem Vld.hr {w : Cd} {v : Hv} {m : Md} {C nP nD p : Nat} {s : St} {t : SM} (q0_ : Vld w v m C nP nD p s t) : HR w v m C s t := q0_.2.1
theorem Vld.rx {w : Cd} {v : Hv} {m : Md} {C nP nD p : Nat} {s : St} {t : SM} (q0_ : Vld w v m C nP nD p s t) : ∀ q, q < C → RwX w q (s 21) := q0_.2.2.1
theorem Vld.dok {w : Cd} {v : Hv} {m : Md} {C nP nD p : Nat} {s : St} {t : SM} (q0_ : Vld w v m C nP nD p s t) : DOk nD p s t := q0_.2.2.2.1
theorem Vld.x1 {w : Cd} {v : Hv} {m : Md} {C nP nD p : Nat} {s : St} {t : SM} (q0_ : Vld w v m C nP nD p s t) : s 1 1 = nI p := q0_.2.2.2.2.1
theorem Vld.ml {w : Cd} {v : Hv} {m : Md} {C nP nD p : Nat} {s : St} {t : SM} (q0_ : Vld w v m C nP nD p s t) : t.2 0 0 = lN p := q0_.2.2.2.2.2.1
theorem Vld.p4 {w : Cd} {v : Hv} {m : Md} {C nP nD p : Nat} {s : St} {t : SM} (q0_ : Vld w v m C nP nD p s t) : p ≤ 4 := q0_.2.2.2.2.2.2.1
theorem Vld.cap {w : Cd} {v : Hv} {m : Md} {C nP nD p : Nat} {s : St} {t : SM} (q0_ : Vld w v m C nP nD p s t) : t.1 0 10 = 1 → ∃ q : Nat, p ≤ q ∧ q < 2 ^ 32 ∧ t.2 0 1 = lN q := q0_.2.2.2.2.2.2.2.1
theorem Vld.bz {w : Cd} {v : Hv} {m : Md} {C nP nD p : Nat} {s : St} {t : SM} (q0_ : Vld w v m C nP nD p s t) : ∀ j q, j < m.nF → q < C → s 13 (j * 4 + 2) = nI q → v.hi q = 0 ∧ v.lo q = 0 := q0_.2.2.2.2.2.2.2.2
theorem valid2 {s : St} {t : SM} {L pl nT nF nG nE nD : Nat} {w : Cd} {C nP : Nat} (M : MS L pl s t nT nF nG nE nD nF w C nP) (hpl : pl ≤ 240) (h5 : t.1 0 5 = 0) :
    ∃ s' t', f_Val_judge s = some (s' 3 3, s') ∧ f_M_validate t = some t' ∧ ((∃ m v p, s' 3 3 = 0 ∧ t'.1 0 5 = 0 ∧ m.nF = nF ∧ m.nG = nG ∧ Vld w v m C nP nD p s' t' ∧ VXf s s' ∧ VMf t t') ∨ ∃ e, VX s e s' ∧ VM t e t') := by
  have hT := M.ty.hT
  have hF := M.ty.hF
  have hE8 := M.hE
  have hC : C ≤ 240 := by have := cs_ge w C; have := M.cr.c1; omega
  have hnP : nP ≤ 240 := by have := M.cr.c1; have := M.cr.c2; omega
  obtain ⟨me, hme1, hxm, hmm⟩ : ∃ me, me ≤ 1 ∧ s 1 0 = nI me ∧ t.1 0 9 = nI me := by
    rcases M.me with ⟨a1, a2, a3, a4, a5, a6⟩ | ⟨a1, a2, -⟩
    · exact ⟨0, by decide, a1, a4⟩
    · exact ⟨1, by decide, a1, a2⟩
  obtain ⟨p, hp4, hx1, hml⟩ : ∃ p, p ≤ 4 ∧ s 1 1 = nI p ∧ t.2 0 0 = lN p := by
    rcases M.me with ⟨a1, a2, a3, a4, a5, a6⟩ | ⟨a1, a2, p, q, hp, hq, b1, b2, b3⟩
    · exact ⟨0, by decide, a2, a6⟩
    · exact ⟨p, hp, b1, b2⟩
  have eT : Te t 0 = t := by rw [Te, show nI 0 = 0 from rfl, ← h5, stI_self]
  have fS : ∀ e, VXf s (Se s e) := fun e => (VXf.refl s).p (by omega)
  have fT : ∀ e, VMf t (Te t e) := fun e => (VMf.refl t).p0 (by omega)
  rw [f_Val_judge, f_M_validate]
  simp only [lt1, f_Val_judgeTypes]
  rw [show stp s 3 3 0 = Se s 0 from rfl]
  obtain ⟨e1, c1, c2, c3, c4⟩ := typ1 M.ty nT 0 FU FU 0 (by omega) (by unfold FU; omega) (by unfold FU; omega) (by decide)
  rw [eT] at c4
  have c3' : f_Val_judgeTypes_2 FU 0 (Se s 0) = f_Val_judgeTypes_51 FU 0 (Se s e1) := c3
  have c4' : f_M_validate_2 FU 0 t = f_M_validate_38 FU 0 (Te t e1) := c4
  obtain ⟨e2, d1, d2, d3, d4⟩ := typ2 M.ty nF 0 FU FU e1 (by omega) (by unfold FU; omega) (by unfold FU; omega) c1
  have d3' : f_Val_judgeTypes_51 FU 0 (Se s e1) = some (Se s e2) := d3
  have d4' : f_M_validate_38 FU 0 (Te t e1) = mpg (Te t e2) := d4
  obtain ⟨e3, g1, g2, g3, g4⟩ := pag2 (s := s) (t := t) d1 M.me
  obtain ⟨e4, k1, k2, k3, k4⟩ := exp_l M.ex M.hE M.g16 M.m12 hF M.hG hme1 M.ty.x12 M.ty.m7 M.g14 M.m11 hxm hmm nE 0 FU FU e3 (by omega) (by unfold FU; omega) (by unfold FU; omega) g1
  have k3' : f_Val_judge_33 FU 0 (Se s e3) = f_Val_judge_66 FU 0 (Se s e4) := k3
  have k4' : f_M_validate_115 FU 0 (Te t e3) = f_M_validate_141 FU 0 (Te t e4) := k4
  rw [c3', d3', bd1_some, g3, f_Val_judge_31, k3', c4', d4', g4, k4']
  obtain ⟨fu', hfu, hfu2⟩ := FU_s
  -- the data, from a state where the bodies are judged
  have fin : ∀ (S : St) (T : SM) e, e < 10 → S 3 3 = nI e → T.1 0 5 = nI e → VXf s S → VMf t T → ∃ e6, e6 < 10 ∧ (e6 = 0 → e = 0 ∧ DOk nD p S T) ∧ f_Val_judge_104 0 S = some (nI e6, Se S e6) ∧ f_M_validate_169 FU 0 T = some (Te T e6) := by
    intro S T e he hS hT' hx hm
    have eS : Se S e = S := by rw [Se, ← hS, stp_self]
    have eT2 : Te T e = T := by rw [Te, ← hT', stI_self]
    have DS : DSg (S 19) (T.2 10) (T.1 11) (T.1 12) (T.1 13) nD := by
      rw [hx 19 (by decide) (by decide) (by decide), hm.l, hm.c 11 (by decide) (by decide) (by decide) (by decide) (by decide), hm.c 12 (by decide) (by decide) (by decide) (by decide) (by decide), hm.c 13 (by decide) (by decide) (by decide) (by decide) (by decide)]; exact M.da
    have q13 : T.1 0 13 = nI nD := by rw [hm.z 13 (by decide) (by decide) (by decide)]; exact M.m13
    obtain ⟨e5, a1, a2, a3, a4⟩ := dat1 (s := S) (t := T) DS M.hD q13 hme1 (by rw [hx 1 (by decide) (by decide) (by decide)]; exact hxm) (by rw [hm.z 9 (by decide) (by decide) (by decide)]; exact hmm) nD 0 FU FU e (by omega) (by have := M.hD; unfold FU; omega) (by have := M.hD; unfold FU; omega) he
    obtain ⟨e6, b1, b2, b3, b4⟩ := dat2 (s := S) (t := T) (p := p) DS M.hD q13 hp4 (by rw [hx 1 (by decide) (by decide) (by decide)]; exact hx1) (by rw [hm.l]; exact hml) nD 0 FU FU e5 (by omega) (by have := M.hD; unfold FU; omega) (by have := M.hD; unfold FU; omega) a1
    rw [eS] at a3
    rw [eT2] at a4
    have a3' : f_Val_judgeData_13 FU (nI nD) 0 S = f_Val_judgeData_61 FU (nI nD) 0 (Se S e5) := a3
    have a4' : f_M_validate_169 FU 0 T = f_M_validate_213 FU 0 (Te T e5) := a4
    have b3' : f_Val_judgeData_61 FU (nI nD) 0 (Se S e5) = some (Se S e6) := b3
    have b4' : f_M_validate_213 FU 0 (Te T e5) = some (Te T e6) := b4
    refine ⟨e6, b1, fun q => ?_, ?_, ?_⟩
    · obtain ⟨z1, z2⟩ := b2 q
      exact ⟨(a2 z1).1, fun j hj => z2 j (Nat.zero_le _) hj⟩
    · rw [f_Val_judge_104, f_Val_judgeData]
      simp only [lt1]
      rw [hx 18 (by decide) (by decide) (by decide), M.g18, a3', b3', bd1_some, Se_3]
    · rw [a4', b4']
  by_cases h4 : e4 = 0
  · have h3 := k2 h4
    obtain ⟨h2, hcap⟩ := g2 h3
    obtain ⟨h1, hft⟩ := d2 h2
    obtain ⟨-, hty⟩ := c2 h1
    obtain ⟨m, E, hmF, hmG⟩ := mkEnv M (fun j hj => hty j (Nat.zero_le _) hj) (fun j hj => hft j (Nat.zero_le _) hj)
    rw [h4, eT]
    have v0 : Hv := (fun _ => 0, fun _ => 0, fun _ => 0, fun _ => 0)
    have FN : Fns w C m.nF s t := by rw [hmF]; exact M.fn
    obtain ⟨s', t', q1, q2, q3⟩ := bodsv (s0 := s) (t0 := t) (nP := nP) M.cr.wf hC E FN M.cr.rm hnP M.cr.tb M.cr.px m.nF 0 FU FU (fun _ => 0, fun _ => 0, fun _ => 0, fun _ => 0) (Se s 0) t 0 (by omega) (by rw [hmF]; unfold FU; omega) (by rw [hmF]; unfold FU; omega) (Se_3 s 0) h5 ⟨fun q hq => absurd hq (by omega), fun q hq => absurd hq (by omega), fun q hq => absurd hq (by omega), fun q hq => absurd hq (by omega)⟩ rfl rfl (by rw [Se_ne s 0 (by decide)]; exact M.cr.rx) (fS 0) (VMf.refl t) (Nat.zero_le _) M.cr.wf.f0 (fun k hk => absurd hk (by omega)) (fun j q _ hq => absurd hq (by omega))
    have q1' : f_Val_judge_66 FU 0 (Se s 0) = f_Val_judge_104 0 s' := q1
    have q2' : f_M_validate_141 FU 0 t = f_M_validate_169 FU 0 t' := q2
    rw [q1', q2']
    rcases q3 with ⟨v', a1, a2, a3, a4, a5, a6, a7⟩ | ⟨e, a1, a2⟩
    · obtain ⟨e6, b1, b2, b3, b4⟩ := fin s' t' 0 (by decide) a1 a2 a5 a6
      refine ⟨Se s' e6, Te t' e6, by rw [b3, Se_3], b4, ?_⟩
      by_cases h6 : e6 = 0
      · obtain ⟨-, hdok⟩ := b2 h6
        left
        have eS : Se s' e6 = s' := by rw [h6, Se, show nI 0 = 0 from rfl, ← a1, stp_self]
        have eT2 : Te t' e6 = t' := by rw [h6, Te, show nI 0 = 0 from rfl, ← a2, stI_self]
        rw [eS, eT2]
        refine ⟨m, v', p, a1, a2, hmF, hmG, ⟨E.fr a5 a6, a3, a4, hdok, by rw [a5 1 (by decide) (by decide) (by decide)]; exact hx1, by rw [a6.l]; exact hml, hp4, fun z => ?_, by rw [a5 13 (by decide) (by decide) (by decide)]; exact a7⟩, a5, a6⟩
        rw [a6.z 10 (by decide) (by decide) (by decide)] at z
        obtain ⟨p', q, z1, z2, z3, z4⟩ := hcap z
        have hpp : p = p' := by
          rw [hml] at z3
          exact (pk_lEQ (by omega) (by omega)).mp z3
        exact ⟨q, by omega, z2, by rw [a6.l]; exact z4⟩
      · right
        exact ⟨e6, ⟨Se_3 _ _, by omega, b1, a5.p (by omega)⟩, ⟨Te_5 _ _, by omega, b1, a6.p0 (by omega)⟩⟩
    · obtain ⟨e6, b1, b2, b3, b4⟩ := fin s' t' e a1.2.2.1 a1.1 a2.1 a1.2.2.2 a2.2.2.2
      refine ⟨Se s' e6, Te t' e6, by rw [b3, Se_3], b4, Or.inr ⟨e6, ⟨Se_3 _ _, ?_, b1, a1.2.2.2.p (by omega)⟩, ⟨Te_5 _ _, ?_, b1, a2.2.2.2.p0 (by omega)⟩⟩⟩
      · by_cases z : e6 = 0
        · have := (b2 z).1; have := a1.2.1; omega
        · omega
      · by_cases z : e6 = 0
        · have := (b2 z).1; have := a1.2.1; omega
        · omega
  · have hneX : ¬ (Se s e4) 3 3 = 0 := by rw [Se_3]; exact nI_ne0 (by omega) (by omega)
    have hneM : ¬ (Te t e4).1 0 5 = 0 := by rw [Te_5]; exact nI_ne0 (by omega) (by omega)
    have j104 : ∀ x s, f_Val_judge_104 x s = f_Val_judge_104 0 s := fun x s => by rw [f_Val_judge_104, f_Val_judge_104]
    have hX : f_Val_judge_66 FU 0 (Se s e4) = f_Val_judge_104 0 (Se s e4) := by
      rw [hfu, f_Val_judge_66, if_neg hneX]
      simp only [lt1, ite_self]
    have hM : f_M_validate_141 FU 0 (Te t e4) = f_M_validate_169 FU 0 (Te t e4) := by
      rw [hfu, f_M_validate_141, if_neg hneM, ite_self, f_M_validate_167, hfu]
    rw [hX, hM]
    obtain ⟨e6, b1, b2, b3, b4⟩ := fin (Se s e4) (Te t e4) e4 k1 (Se_3 _ _) (Te_5 _ _) (fS e4) (fT e4)
    refine ⟨Se (Se s e4) e6, Te (Te t e4) e6, by rw [b3, Se_3], b4, Or.inr ⟨e6, ⟨Se_3 _ _, ?_, b1, (fS e4).p (by omega)⟩, ⟨Te_5 _ _, ?_, b1, (fT e4).p0 (by omega)⟩⟩⟩
    · by_cases z : e6 = 0
      · exact absurd (b2 z).1 h4
      · omega
    · by_cases z : e6 = 0
      · exact absurd (b2 z).1 h4
      · omega
