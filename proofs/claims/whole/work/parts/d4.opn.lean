-- validation: what an instruction over numbers asks
def Env (m : Md) (s : St) (t : SM) : Prop :=
  (m.nF ≤ 8) ∧
  (s 12 0 = nI m.nF) ∧
  (t.1 0 7 = nI m.nF) ∧
  (∀ f, f < m.nF → f_Cont_parametersOf s (nI f) = some (nI (m.par f))) ∧
  (∀ f, f < m.nF → f_Cont_resultsOf s (nI f) = some (nI (m.res f))) ∧
  (∀ f, f < m.nF → f_M_parameters t (nI f) = some (nI (m.par f))) ∧
  (∀ f, f < m.nF → ∃ v, v < 8 ∧ t.2 4 f = lN v ∧ t.1 2 v = nI (m.par f) ∧ t.1 3 v = nI (m.res f)) ∧
  (∀ f, f < m.nF → m.par f ≤ 4 ∧ m.res f ≤ 1 ∧ m.par f ≤ m.loc f ∧ m.loc f ≤ 12) ∧
  (∀ f, f < m.nF → s 13 (f * 4 + 1) = nI (m.loc f)) ∧
  (∀ f, f < m.nF → t.1 24 f = nI (m.loc f - m.par f)) ∧
  (m.nG ≤ 4) ∧
  (s 14 0 = nI m.nG) ∧
  (t.1 0 11 = nI m.nG) ∧
  (∀ g, g < m.nG → s 15 (g * 2 + 0) = nI (m.ch g) ∧ t.1 5 g = nI (m.ch g) ∧ m.ch g ≤ 1) ∧
  (m.me ≤ 1) ∧
  (s 1 0 = nI m.me) ∧
  (t.1 0 9 = nI m.me)
theorem Env.nF8 {m : Md} {s : St} {t : SM} (q0_ : Env m s t) : m.nF ≤ 8 := q0_.1
theorem Env.x12 {m : Md} {s : St} {t : SM} (q0_ : Env m s t) : s 12 0 = nI m.nF := q0_.2.1
theorem Env.m7 {m : Md} {s : St} {t : SM} (q0_ : Env m s t) : t.1 0 7 = nI m.nF := q0_.2.2.1
theorem Env.pX {m : Md} {s : St} {t : SM} (q0_ : Env m s t) : ∀ f, f < m.nF → f_Cont_parametersOf s (nI f) = some (nI (m.par f)) := q0_.2.2.2.1
theorem Env.rX {m : Md} {s : St} {t : SM} (q0_ : Env m s t) : ∀ f, f < m.nF → f_Cont_resultsOf s (nI f) = some (nI (m.res f)) := q0_.2.2.2.2.1
theorem Env.pM {m : Md} {s : St} {t : SM} (q0_ : Env m s t) : ∀ f, f < m.nF → f_M_parameters t (nI f) = some (nI (m.par f)) := q0_.2.2.2.2.2.1
theorem Env.tM {m : Md} {s : St} {t : SM} (q0_ : Env m s t) : ∀ f, f < m.nF → ∃ v, v < 8 ∧ t.2 4 f = lN v ∧ t.1 2 v = nI (m.par f) ∧ t.1 3 v = nI (m.res f) := q0_.2.2.2.2.2.2.1
theorem Env.p4 {m : Md} {s : St} {t : SM} (q0_ : Env m s t) : ∀ f, f < m.nF → m.par f ≤ 4 ∧ m.res f ≤ 1 ∧ m.par f ≤ m.loc f ∧ m.loc f ≤ 12 := q0_.2.2.2.2.2.2.2.1
theorem Env.lX {m : Md} {s : St} {t : SM} (q0_ : Env m s t) : ∀ f, f < m.nF → s 13 (f * 4 + 1) = nI (m.loc f) := q0_.2.2.2.2.2.2.2.2.1
theorem Env.lM {m : Md} {s : St} {t : SM} (q0_ : Env m s t) : ∀ f, f < m.nF → t.1 24 f = nI (m.loc f - m.par f) := q0_.2.2.2.2.2.2.2.2.2.1
theorem Env.nG4 {m : Md} {s : St} {t : SM} (q0_ : Env m s t) : m.nG ≤ 4 := q0_.2.2.2.2.2.2.2.2.2.2.1
theorem Env.x14 {m : Md} {s : St} {t : SM} (q0_ : Env m s t) : s 14 0 = nI m.nG := q0_.2.2.2.2.2.2.2.2.2.2.2.1
theorem Env.m11 {m : Md} {s : St} {t : SM} (q0_ : Env m s t) : t.1 0 11 = nI m.nG := q0_.2.2.2.2.2.2.2.2.2.2.2.2.1
theorem Env.gX {m : Md} {s : St} {t : SM} (q0_ : Env m s t) : ∀ g, g < m.nG → s 15 (g * 2 + 0) = nI (m.ch g) ∧ t.1 5 g = nI (m.ch g) ∧ m.ch g ≤ 1 := q0_.2.2.2.2.2.2.2.2.2.2.2.2.2.1
theorem Env.me1 {m : Md} {s : St} {t : SM} (q0_ : Env m s t) : m.me ≤ 1 := q0_.2.2.2.2.2.2.2.2.2.2.2.2.2.2.1
theorem Env.xm {m : Md} {s : St} {t : SM} (q0_ : Env m s t) : s 1 0 = nI m.me := q0_.2.2.2.2.2.2.2.2.2.2.2.2.2.2.2.1
theorem Env.mm {m : Md} {s : St} {t : SM} (q0_ : Env m s t) : t.1 0 9 = nI m.me := q0_.2.2.2.2.2.2.2.2.2.2.2.2.2.2.2.2
theorem xpar_c {s s' : St} (x : Int32) (h1 : s' 10 = s 10) (h2 : s' 11 = s 11) (h3 : s' 13 = s 13) : f_Cont_parametersOf s' x = f_Cont_parametersOf s x := by
  simp only [f_Cont_parametersOf, f_Cont_parametersOf_34, h1, h2, h3]
theorem xres_c {s s' : St} (x : Int32) (h1 : s' 10 = s 10) (h2 : s' 11 = s 11) (h3 : s' 13 = s 13) : f_Cont_resultsOf s' x = f_Cont_resultsOf s x := by
  simp only [f_Cont_resultsOf, f_Cont_resultsOf_34, h1, h2, h3]
theorem Env.fr {m : Md} {s s' : St} {t t' : SM} (E : Env m s t) (hx : VXf s s') (hm : VMf t t') : Env m s' t' := by
  have a1 := hx 1 (by decide) (by decide) (by decide)
  have a10 := hx 10 (by decide) (by decide) (by decide)
  have a11 := hx 11 (by decide) (by decide) (by decide)
  have a12 := hx 12 (by decide) (by decide) (by decide)
  have a13 := hx 13 (by decide) (by decide) (by decide)
  have a14 := hx 14 (by decide) (by decide) (by decide)
  have a15 := hx 15 (by decide) (by decide) (by decide)
  have b2 := hm.c 2 (by decide) (by decide) (by decide) (by decide) (by decide)
  have b3 := hm.c 3 (by decide) (by decide) (by decide) (by decide) (by decide)
  have b5 := hm.c 5 (by decide) (by decide) (by decide) (by decide) (by decide)
  have b24 := hm.c 24 (by decide) (by decide) (by decide) (by decide) (by decide)
  have c6 := hm.z 6 (by decide) (by decide) (by decide)
  have c7 := hm.z 7 (by decide) (by decide) (by decide)
  have c9 := hm.z 9 (by decide) (by decide) (by decide)
  have c11 := hm.z 11 (by decide) (by decide) (by decide)
  refine ⟨E.nF8, by rw [a12]; exact E.x12, by rw [c7]; exact E.m7, fun f hf => ?_, fun f hf => ?_, fun f hf => ?_, fun f hf => ?_, E.p4, by rw [a13]; exact E.lX, by rw [b24]; exact E.lM, E.nG4, by rw [a14]; exact E.x14, by rw [c11]; exact E.m11, by rw [a15, b5]; exact E.gX, E.me1, by rw [a1]; exact E.xm, by rw [c9]; exact E.mm⟩
  · rw [xpar_c _ a10 a11 a13]; exact E.pX f hf
  · rw [xres_c _ a10 a11 a13]; exact E.rX f hf
  · rw [mpar_cg _ (by rw [hm.l]) c6 b2]; exact E.pM f hf
  · rw [hm.l, b2, b3]; exact E.tM f hf
theorem Env.lcM {m : Md} {s : St} {t : SM} (E : Env m s t) {f : Nat} (hf : f < m.nF) : f_M_locals t (nI f) = some (nI (m.loc f)) := by
  have h8 := E.nF8
  have h4 := E.p4 f hf
  rw [f_M_locals, E.pM f hf, bd1_some, gi_n (show f < 8 by omega) (by decide)]
  simp only [lt1, nI_clamp (show f < 2 ^ 31 by omega), E.lM f hf, nI_add]
  rw [show m.par f + (m.loc f - m.par f) = m.loc f by omega]
theorem Env.rsM {m : Md} {s : St} {t : SM} (E : Env m s t) {f : Nat} (hf : f < m.nF) : f_M_resultsOf t (nI f) = some (nI (m.res f)) := by
  have h8 := E.nF8
  obtain ⟨v, hv, e1, e2, e3⟩ := E.tM f hf
  rw [f_M_resultsOf, gi_n (show f < 8 by omega) (by decide)]
  simp only [lt1, nI_clamp (show f < 2 ^ 31 by omega), e1, lN_i]
  rw [gi_n hv (by decide), nI_clamp (by omega), e3]
theorem tk_x : ∀ o, o < 256 → kno o = true → 16 < o → f_Op_takes (nI o) = some (nI (tks o)) ∧ f_M_takes (nI o) = some (nI (tks o)) ∧ f_Op_gives (nI o) = some (nI (gvs o)) ∧ f_M_gives (nI o) = some (nI (gvs o)) := by decide +kernel
def wx (o : Nat) : Nat := if o = 40 ∨ o = 54 then 2 else if o = 46 ∨ o = 47 ∨ o = 59 then 1 else 0
def wdt (o : Nat) : Nat := if o = 40 ∨ o = 54 then 4 else if o = 46 ∨ o = 47 ∨ o = 59 then 2 else 1
theorem wd_x : ∀ o, o < 256 → kno o = true → 39 < o ∧ o < 60 → f_Op_width (nI o) = some (nI (wdt o)) ∧ f_M_width (nI o) = some (nI (wdt o)) ∧ nI (wdt o) / 2 = nI (wx o) := by decide +kernel
def vop (w : Cd) (m : Md) (f k : Nat) : Prop := (31 < w.op k ∧ w.op k < 35 → w.a k < m.loc f) ∧ (w.op k = 35 ∨ w.op k = 36 → w.a k < m.nG) ∧ (w.op k = 36 → w.a k < m.nG → m.ch (w.a k) = 1) ∧ (39 < w.op k ∧ w.op k < 65 → m.me = 1) ∧ (39 < w.op k ∧ w.op k < 60 → w.a k ≤ wx (w.op k))
section OPX
variable {w : Cd} {v : Hv} {m : Md} {f k C : Nat} {s : St} {t : SM}
theorem opx (E : Env m s t) (hf : f < m.nF) (hk : k < 240) (ho : w.op k < 256) (hkn : kno (w.op k) = true) (h16 : 16 < w.op k) (hok : oko (w.op k) (w.a k) (w.b k)) (R : RwX w k (s 21)) (h2 : s 3 2 = nI f) (h3 : s 3 3 = 0) :
    (vop w m f k → f_Val_judgeOperands (nI k) (nI (w.op k)) (xF (w.op k) (w.a k) (w.b k)) s = some s) ∧ (¬ vop w m f k → f_Val_judgeOperands (nI k) (nI (w.op k)) (xF (w.op k) (w.a k) (w.b k)) s = some (stp s 3 3 3)) := by
  have h8 := E.nF8
  have hp4 := E.p4 f hf
  have hG := E.nG4
  have hm1 := E.me1
  have ha := hok.a32
  have hkn' := hkn
  unfold kno at hkn'
  simp only [Bool.or_eq_true, decide_eq_true_eq] at hkn'
  have e189 : ∀ x, f_Val_judgeOperands_189 (nI k) (nI (w.op k)) (xF (w.op k) (w.a k) (w.b k)) x s = if x = 0 then some (stp s 3 3 3) else some s := by
    intro x
    rw [f_Val_judgeOperands_189, vr_0 h3, bd1_some, f_Val_judgeOperands_199, f_Val_judgeOperands_199]
  have fin : ∀ {P : Prop} {x : Int32} (hd : Decidable P), (P → x = 1) → (¬ P → x = 0) → (vop w m f k ↔ P) → (vop w m f k → f_Val_judgeOperands_189 (nI k) (nI (w.op k)) (xF (w.op k) (w.a k) (w.b k)) x s = some s) ∧ (¬ vop w m f k → f_Val_judgeOperands_189 (nI k) (nI (w.op k)) (xF (w.op k) (w.a k) (w.b k)) x s = some (stp s 3 3 3)) := by
    intro P x hd h1 h0 hP
    rw [e189]
    refine ⟨fun q => ?_, fun q => ?_⟩
    · rw [h1 (hP.mp q), if_neg (by decide)]
    · rw [h0 (fun z => q (hP.mpr z)), if_pos rfl]
  rw [f_Val_judgeOperands]
  by_cases hL : 31 < w.op k ∧ w.op k < 35
  · simp (disch := omega) only [nI_leI, nI_ltI, nI_eq, if_pos, if_neg, if_true, if_false , lit_32, lit_34]
    have exf : xF (w.op k) (w.a k) (w.b k) = nI (w.a k) := by rw [xF, if_neg (by omega), if_neg (by omega)]
    have e13 : tGet 8 4 (s 13) (s 3 2) 1 = nI (m.loc f) := by rw [h2, tg_8_4_1 (by omega)]; exact E.lX f hf
    simp only [lt1, e13, f_Val_judgeOperands_44]
    have hv : vop w m f k ↔ w.a k < m.loc f := ⟨fun q => q.1 hL, fun q => ⟨fun _ => q, fun z => by omega, fun z => by omega, fun z => by omega, fun z => by omega⟩⟩
    by_cases hal : w.a k < m.loc f
    · obtain ⟨l, hl⟩ : ∃ l, m.loc f = l + 1 := ⟨m.loc f - 1, by omega⟩
      have ab : f_X_isAbove (xF (w.op k) (w.a k) (w.b k)) (nI (m.loc f) - 1) = some 0 := by rw [exf, hl, nI_pred]; exact above_f (by omega) (by omega)
      rw [ab, bd1_some, if_pos rfl]
      exact fin (P := w.a k < m.loc f) inferInstance (fun _ => rfl) (fun q => absurd hal q) hv
    · have ab : f_X_isAbove (xF (w.op k) (w.a k) (w.b k)) (nI (m.loc f) - 1) = some 1 := by
        rw [exf]
        by_cases hl0 : m.loc f = 0
        · rw [hl0]
          have : ∀ x : Int32, f_X_isAbove x (nI 0 - 1) = some 1 := by
            intro x
            rw [f_X_isAbove]
            simp only [f_X_isAbove_9, f_X_isAbove_14, bz0, bz1]
            split
            · rfl
            · rename_i hx
              rw [if_neg]
              intro q
              have q2 : (nI 0 - 1 : Int32) < 0 := m1_neg
              exact hx (Int32.lt_of_le_of_lt q q2)
          exact this _
        · obtain ⟨l, hl⟩ : ∃ l, m.loc f = l + 1 := ⟨m.loc f - 1, by omega⟩
          rw [hl, nI_pred]; exact above_t (by omega) ha (by omega)
      rw [ab, bd1_some, if_neg (by decide)]
      exact fin (P := w.a k < m.loc f) inferInstance (fun q => absurd q hal) (fun _ => rfl) hv
  · have hL2 : ∀ (A B D : Option St), (if nI (w.op k) < 32 then A else if 34 < nI (w.op k) then A else B) = A := by
      intro A B D
      by_cases q : w.op k < 32
      · simp (disch := omega) only [nI_leI, nI_ltI, nI_eq, if_pos, if_neg, if_true, if_false , lit_32, lit_34]
      · simp (disch := omega) only [nI_leI, nI_ltI, nI_eq, if_pos, if_neg, if_true, if_false , lit_32, lit_34]
    rw [hL2 _ _ none, f_Val_judgeOperands_49]
    simp only [f_Val_judgeOperands_111, f_Val_judgeOperands_112, f_Val_judgeOperands_180, f_Val_judgeOperands_162, f_Val_judgeOperands_163, lt1]
    by_cases h35 : w.op k = 35
    · have exf : xF (w.op k) (w.a k) (w.b k) = nI (w.a k) := by rw [xF, if_neg (by omega), if_neg (by omega)]
      have et : tHas (s 14 0) (xF (w.op k) (w.a k) (w.b k)) = if w.a k < m.nG then 1 else 0 := by rw [exf, E.x14, tHas_lt ha (by omega)]
      simp (disch := omega) only [nI_leI, nI_ltI, nI_eq, if_pos, if_neg, if_true, if_false , lit_35]
      rw [et]
      exact fin (P := w.a k < m.nG) inferInstance (fun q => if_pos q) (fun q => if_neg q) ⟨fun q => q.2.1 (Or.inl h35), fun q => ⟨fun z => by omega, fun _ => q, fun z => by omega, fun z => by omega, fun z => by omega⟩⟩
    · by_cases h36 : w.op k = 36
      · have exf : xF (w.op k) (w.a k) (w.b k) = nI (w.a k) := by rw [xF, if_neg (by omega), if_neg (by omega)]
        have et : tHas (s 14 0) (xF (w.op k) (w.a k) (w.b k)) = if w.a k < m.nG then 1 else 0 := by rw [exf, E.x14, tHas_lt ha (by omega)]
        simp (disch := omega) only [nI_leI, nI_ltI, nI_eq, if_pos, if_neg, if_true, if_false , lit_35, lit_36]
        rw [et]
        by_cases hag : w.a k < m.nG
        · obtain ⟨g1, g2, g3⟩ := E.gX (w.a k) hag
          have eg : tGet 4 2 (s 15) (xF (w.op k) (w.a k) (w.b k)) 0 = nI (m.ch (w.a k)) := by rw [exf, tg_4_2_0 (by omega)]; exact g1
          rw [if_pos hag, if_neg (by decide), eg]
          have hv : vop w m f k ↔ m.ch (w.a k) = 1 := ⟨fun q => q.2.2.1 h36 hag, fun q => ⟨fun z => by omega, fun _ => hag, fun _ _ => q, fun z => by omega, fun z => by omega⟩⟩
          by_cases hc : m.ch (w.a k) = 1
          · rw [hc, if_pos (show nI 1 = 1 from rfl)]
            exact fin (P := m.ch (w.a k) = 1) inferInstance (fun _ => rfl) (fun q => absurd hc q) hv
          · have hc0 : m.ch (w.a k) = 0 := by omega
            rw [hc0, if_neg (show ¬ nI 0 = 1 by decide)]
            exact fin (P := m.ch (w.a k) = 1) inferInstance (fun q => absurd q hc) (fun _ => rfl) hv
        · rw [if_neg hag, if_pos rfl]
          exact fin (P := False) inferInstance (fun q => absurd q id) (fun _ => rfl) ⟨fun q => hag (q.2.1 (Or.inr h36)), fun q => absurd q id⟩
      · simp (disch := omega) only [nI_leI, nI_ltI, nI_eq, if_pos, if_neg, if_true, if_false , lit_35, lit_36]
        rw [ia_x (w.op k) ho hkn]
        simp only [bd1_some]
        by_cases hacc : 39 < w.op k ∧ w.op k < 60
        · rw [if_pos hacc, if_neg (show ¬ (1 : Int32) = 0 by decide), E.xm]
          obtain ⟨w1, w2, w3⟩ := wd_x (w.op k) ho hkn hacc
          have hS : tGet 240 7 (s 21) (nI k) 2 = nI (w.a k) := by rw [tg_240_7_2 hk, R.c2, xS, if_pos hacc]
          by_cases hme : m.me = 1
          · rw [hme, if_neg (show ¬ nI 1 = 0 by decide), hS, w1, bd1_some, w3, gzi, if_neg (by decide)]
            have hwx : wx (w.op k) ≤ 2 := by unfold wx; split; omega; split <;> omega
            have hv : vop w m f k ↔ w.a k ≤ wx (w.op k) := ⟨fun q => q.2.2.2.2 hacc, fun q => ⟨fun z => by omega, fun z => by omega, fun z => by omega, fun _ => hme, fun _ => q⟩⟩
            by_cases hal : w.a k ≤ wx (w.op k)
            · rw [above_f hal (by omega), bd1_some, if_pos rfl]
              exact fin (P := w.a k ≤ wx (w.op k)) inferInstance (fun _ => rfl) (fun q => absurd hal q) hv
            · rw [above_t (by omega) ha (by omega), bd1_some, if_neg (by decide)]
              exact fin (P := w.a k ≤ wx (w.op k)) inferInstance (fun q => absurd q hal) (fun _ => rfl) hv
          · have hm0 : m.me = 0 := by omega
            rw [hm0, if_pos (show nI 0 = 0 from rfl)]
            exact fin (P := False) inferInstance (fun q => absurd q id) (fun _ => rfl) ⟨fun q => hme (q.2.2.2.1 ⟨hacc.1, by omega⟩), fun q => absurd q id⟩
        · rw [if_neg hacc, if_pos rfl, E.xm]
          by_cases h64 : w.op k = 63 ∨ w.op k = 64
          · have hmm : ∀ (A B : Option St), (if nI (w.op k) = 63 then A else if nI (w.op k) = 64 then A else B) = A := by
              intro A B
              rcases h64 with q | q
              · simp (disch := omega) only [nI_leI, nI_ltI, nI_eq, if_pos, if_neg, if_true, if_false , lit_63, lit_64]
              · simp (disch := omega) only [nI_leI, nI_ltI, nI_eq, if_pos, if_neg, if_true, if_false , lit_63, lit_64]
            rw [hmm]
            refine fin (P := m.me = 1) inferInstance (fun q => by rw [q]; rfl) (fun q => by rw [show m.me = 0 by omega]; rfl) ⟨fun q => q.2.2.2.1 (by omega), fun q => ⟨fun z => by omega, fun z => by omega, fun z => by omega, fun _ => q, fun z => by omega⟩⟩
          · simp (disch := omega) only [nI_leI, nI_ltI, nI_eq, if_pos, if_neg, if_true, if_false , lit_63, lit_64]
            exact fin (P := True) inferInstance (fun _ => rfl) (fun q => absurd trivial q) ⟨fun _ => trivial, fun _ => ⟨fun z => by omega, fun z => by omega, fun z => by omega, fun z => by omega, fun z => by omega⟩⟩
end OPX
