-- validation: a body
theorem VI.cg {w : Cd} {v : Hv} {f rs k : Nat} {s s' : St} {t t' : SM} (I : VI w v f rs k s t) (h3 : s' 3 = s 3) (h28 : s' 28 = s 28) (m5 : t'.1 0 5 = t.1 0 5) (m16 : t'.1 0 16 = t.1 0 16) (m17 : t'.1 0 17 = t.1 0 17) (m26 : t'.1 26 = t.1 26) (m27 : t'.1 27 = t.1 27) (m28 : t'.1 28 = t.1 28) : VI w v f rs k s' t' := by
  refine ⟨by rw [h3]; exact I.x0, by rw [h3]; exact I.x1, by rw [h3]; exact I.x2, by rw [h3]; exact I.x3, m5.trans I.m5, m16.trans I.m16, m17.trans I.m17, I.h16, I.l1, fun j hj => ?_, I.e0, I.e1, I.mo, I.bh⟩
  obtain ⟨dd, L, q1, q2, q3⟩ := I.lv j hj
  exact ⟨dd, ⟨by rw [h28]; exact L.x0, by rw [h28]; exact L.x1, by rw [h28]; exact L.x2, by rw [h28]; exact L.x3, by rw [h28]; exact L.x4, by rw [h28]; exact L.x5, by rw [m26]; exact L.m26, by rw [m27]; exact L.m27, by rw [m28]; exact L.m28, L.d1⟩, q1, q2, q3⟩
theorem ic_x : ∀ o, o < 256 → kno o = true → f_Op_isControl (nI o) = some (if o < 17 then 1 else 0) := by decide +kernel
/-- the rows below K are judged -/
def HR (w : Cd) (v : Hv) (m : Md) (K : Nat) (s : St) (t : SM) : Prop :=
  (∀ q, q < K → s 21 (q * 7 + 4) = nI (v.hi q)) ∧
  (∀ q, q < K → s 21 (q * 7 + 5) = nI (1 - v.lo q)) ∧
  (∀ q, q < K → t.1 20 q = nI (v.hi q)) ∧
  (∀ q, q < K → SR w v m q)
theorem HR.x4 {w : Cd} {v : Hv} {m : Md} {K : Nat} {s : St} {t : SM} (q0_ : HR w v m K s t) : ∀ q, q < K → s 21 (q * 7 + 4) = nI (v.hi q) := q0_.1
theorem HR.x5 {w : Cd} {v : Hv} {m : Md} {K : Nat} {s : St} {t : SM} (q0_ : HR w v m K s t) : ∀ q, q < K → s 21 (q * 7 + 5) = nI (1 - v.lo q) := q0_.2.1
theorem HR.m20 {w : Cd} {v : Hv} {m : Md} {K : Nat} {s : St} {t : SM} (q0_ : HR w v m K s t) : ∀ q, q < K → t.1 20 q = nI (v.hi q) := q0_.2.2.1
theorem HR.sr {w : Cd} {v : Hv} {m : Md} {K : Nat} {s : St} {t : SM} (q0_ : HR w v m K s t) : ∀ q, q < K → SR w v m q := q0_.2.2.2
theorem kno_lt {o : Nat} (h : kno o = true) : o < 256 := by
  unfold kno at h
  simp only [Bool.or_eq_true, decide_eq_true_eq] at h
  omega
theorem vx_jb {n : Nat} {a b c d : Int32} {s0 s : St} {e : Nat} (h : VX s0 e s) : okg some (f_Val_judgeBody_58 (n + 1) a b c d s) (VX s0 e) := by
  rw [f_Val_judgeBody_58, if_neg h.ne, f_Val_judgeBody_143, ite_self]
  exact okg.some h
theorem vm_vb {n f : Nat} {x : Int32} (hf : f < 8) {t0 t : SM} {e : Nat} (h : VM t0 e t) : okg some (f_M_validateBody_38 (n + 1) (nI f) x t) (VM t0 e) := by
  rw [f_M_validateBody_38, if_neg h.ne, gi_n hf (by decide)]
  simp only [lt1, f_M_validateBody_120, ite_self]
  exact okg.some h
section BDV
variable {γ : Type} {s0 s : St} {t0 t : SM} {F kX : St → Option γ} {kM : SM → Option SM} {R : St → SM → Prop} {w : Cd} {v : Hv} {m : Md} {f rs k C nP bg ls : Nat}
theorem rowv (N : ¬ (w.op k = 11 ∧ w.ins k = 0) → NV s0 t0 F kX kM R w v m f rs k s t) (Z : w.op k = 11 → w.ins k = 0 → NVz s0 t0 F kX kM R w v m k s t) (I : VI w v f rs k s t) (W : WF w C) (hkC : k < C) (hC : C ≤ 240) (E : Env m s t) (hf : f < m.nF) (hrs : rs = m.res f) (hfn : w.fn k = f) (RX : RwX w k (s 21)) (RM : ∀ k, k < C → RwM w k t) (hnP : nP ≤ 240) (htb : w.op k = 14 → w.b k + w.a k < nP) (px : ∀ j, j < nP → w.pl j < 2 ^ 32 ∧ s 23 (j * 1 + 0) = nI (w.pl j) ∧ t.2 25 j = lN (w.pl j)) (hx : VXf s0 s) (hm : VMf t0 t)
    (hX9 : ∀ e s, VX s0 e s → okg F (kX s) (VX s0 e)) (hM9 : ∀ e t, VM t0 e t → okg some (kM t) (VM t0 e)) :
    o2 F some (bd1 (f_Val_judgeInstruction (nI k) (nI (w.op k)) (xF (w.op k) (w.a k) (w.b k)) s) kX) (if w.op k < 6 ∨ w.op k = 11 then bd1 (f_M_validateBlock (nI f) (nI k) t) kM else if 17 ≤ w.op k then bd1 (f_M_validatePlain (nI f) (nI k) t) kM else bd1 (f_M_validateJump (nI f) (nI k) t) kM) (VRB s0 t0 R) := by
  obtain ⟨hkn, hok⟩ := W.ok k hkC
  have ho := kno_lt hkn
  have hkn' := hkn
  unfold kno at hkn'
  simp only [Bool.or_eq_true, decide_eq_true_eq] at hkn'
  rw [f_Val_judgeInstruction, ob_x (w.op k) ho, bd1_some]
  simp only [f_Val_judgeInstruction_56, f_Val_judgeInstruction_82, f_Val_judgeInstruction_131]
  by_cases h24 : 2 ≤ w.op k ∧ w.op k ≤ 4
  · rw [if_pos h24, if_neg (show ¬ (1 : Int32) = 0 by decide), if_pos (Or.inl (by omega))]
    have e18 : (if nI (w.op k) = 4 then f_Val_judgeInstruction_18 (nI k) (nI (w.op k)) (xF (w.op k) (w.a k) (w.b k)) 1 s else f_Val_judgeInstruction_18 (nI k) (nI (w.op k)) (xF (w.op k) (w.a k) (w.b k)) 0 s) = f_Val_judgeInstruction_18 (nI k) (nI (w.op k)) (xF (w.op k) (w.a k) (w.b k)) (nI (if w.op k = 4 then 1 else 0)) s := by
      by_cases h4 : w.op k = 4
      · rw [h4, if_pos (show nI 4 = 4 from rfl), if_pos rfl]; rfl
      · rw [if_neg (show ¬ nI (w.op k) = 4 from nI_ne (b := 4) h4 (by omega) (by decide)), if_neg h4]; rfl
    rw [e18]
    exact opnv (N (by omega)) I W hkC hC hfn h24 RX (RM k hkC) hx hm hX9 hM9
  · rw [if_neg h24, if_pos rfl]
    by_cases h5 : w.op k = 5
    · rw [if_pos (show nI (w.op k) = 5 by rw [h5]; rfl), if_pos (Or.inl (by omega))]
      simp only [bd1_bd1, bd1_some]
      exact clsv (N (by omega)) I W hkC hC E hf hrs hfn h5 RM hx hm hX9 hM9
    · rw [if_neg (show ¬ nI (w.op k) = 5 from nI_ne (b := 5) h5 (by omega) (by decide))]
      by_cases h11 : w.op k = 11
      · rw [if_pos (show nI (w.op k) = 11 by rw [h11]; rfl), if_pos (Or.inr h11)]
        simp only [bd1_bd1, bd1_some]
        exact endv (fun z => N (by omega)) (fun z => Z h11 z) I W hkC hC E hf hrs hfn h11 RM hx hm hX9 hM9
      · rw [if_neg (show ¬ nI (w.op k) = 11 from nI_ne (b := 11) h11 (by omega) (by decide))]
        by_cases hj : w.op k = 12 ∨ w.op k = 13 ∨ w.op k = 14
        · have e12 : ∀ (A B : Option St), (if nI (w.op k) = 12 then A else if nI (w.op k) = 13 then A else if nI (w.op k) = 14 then A else B) = A := by
            intro A B
            rcases hj with q | q | q
            · simp (disch := omega) only [nI_leI, nI_ltI, nI_eq, if_pos, if_neg, if_true, if_false , lit_12, lit_13, lit_14]
            · simp (disch := omega) only [nI_leI, nI_ltI, nI_eq, if_pos, if_neg, if_true, if_false , lit_12, lit_13, lit_14]
            · simp (disch := omega) only [nI_leI, nI_ltI, nI_eq, if_pos, if_neg, if_true, if_false , lit_12, lit_13, lit_14]
          rw [e12, if_neg (by omega), if_neg (by omega)]
          simp only [bd1_bd1, bd1_some]
          by_cases h14 : w.op k = 14
          · exact tbl2 (N (by omega)) I W hkC hC E hf hrs hfn h14 RX RM hnP (htb h14) px hx hm hX9 hM9
          · exact jmp2 (N (by omega)) I W hkC hC E hf hrs hfn (by omega) RM hx hm hX9 hM9
        · have e12 : ∀ (A B : Option St), (if nI (w.op k) = 12 then A else if nI (w.op k) = 13 then A else if nI (w.op k) = 14 then A else B) = B := by
            intro A B
            simp (disch := omega) only [nI_leI, nI_ltI, nI_eq, if_pos, if_neg, if_true, if_false , lit_12, lit_13, lit_14]
          rw [e12, ic_x (w.op k) ho hkn, bd1_some]
          by_cases h17 : w.op k < 17
          · rw [if_pos h17, if_neg (show ¬ (1 : Int32) = 0 by decide)]
            simp only [bd1_bd1, bd1_some]
            have := oc2 (N (by omega)) I W hkC hC E hf hrs hfn (by omega) (RM k hkC) hx hm hX9 hM9
            by_cases h2 : w.op k < 2
            · rw [if_pos h2] at this
              rw [if_pos (Or.inl (by omega))]; exact this
            · rw [if_neg h2] at this
              rw [if_neg (by omega), if_neg (by omega)]; exact this
          · rw [if_neg h17, if_pos rfl, if_neg (by omega), if_pos (by omega)]
            simp only [bd1_bd1, bd1_some]
            exact pln2 (N (by omega)) I W hkC hC E hf hfn ho (by omega) RX (RM k hkC) hx hm hX9 hM9
theorem bodyv {Z : Nat → Prop} (W : WF w C) (hC : C ≤ 240) (E0 : Env m s0 t0) (hf : f < m.nF) (hrs : rs = m.res f) (hls : ls < C) (hfn : ∀ k, bg ≤ k → k ≤ ls → w.fn k = f) (hol : w.op ls = 11) (hil : w.ins ls = 0) (h23 : t0.1 23 f = nI ls) (RM0 : ∀ k, k < C → RwM w k t0) (hnP : nP ≤ 240) (htb : ∀ k, k < C → w.op k = 14 → w.b k + w.a k < nP) (px0 : ∀ j, j < nP → w.pl j < 2 ^ 32 ∧ s0 23 (j * 1 + 0) = nI (w.pl j) ∧ t0.2 25 j = lN (w.pl j)) :
    ∀ d k v s t NX NM, k + d = ls → bg ≤ k → d + 1 < NX → d + 1 < NM → VI w v f rs k s t → HR w v m k s t → (∀ q, q < C → RwX w q (s 21)) → VXf s0 s → VMf t0 t → (∀ q, q ≤ bg → Z q → v.hi q = 0 ∧ v.lo q = 0) →
    o2 some some (f_Val_judgeBody_58 NX (nI f) (nI rs) (nI ls) (nI k) s) (f_M_validateBody_38 NM (nI f) (nI k) t) (VRB s0 t0 (fun s' t' => ∃ v', s' 3 3 = 0 ∧ t'.1 0 5 = 0 ∧ HR w v' m (ls + 1) s' t' ∧ v'.hi (ls + 1) = 0 ∧ v'.lo (ls + 1) = 0 ∧ (∀ q, q < C → RwX w q (s' 21)) ∧ VXf s0 s' ∧ VMf t0 t' ∧ (∀ q, q ≤ bg → Z q → v'.hi q = 0 ∧ v'.lo q = 0))) := by
  have h8 := E0.nF8
  intro d
  induction d with
  | zero => ?_
  | succ d ih => ?_
  all_goals
    intro k v s t NX NM hk hbk hNX hNM I H RXs hx hm HZ
    have hkC : k < C := by omega
    have hk240 : k < 240 := by omega
    have hd10 := W.d10 k (by omega)
    obtain ⟨hkn, hok⟩ := W.ok k hkC
    have ho := kno_lt hkn
    have hfk := hfn k hbk (by omega)
    obtain ⟨NX, rfl⟩ : ∃ z, NX = z + 1 + 1 := ⟨NX - 2, by omega⟩
    obtain ⟨NM, rfl⟩ : ∃ z, NM = z + 1 + 1 := ⟨NM - 2, by omega⟩
    have hm23 : t.1 23 f = nI ls := by rw [hm.c 23 (by decide) (by decide) (by decide) (by decide) (by decide)]; exact h23
    obtain ⟨s3, hs3⟩ : ∃ s3, s3 = stp (stp s 21 (k * 7 + 4) (nI (v.hi k))) 21 (k * 7 + 5) (nI (1 - v.lo k)) := ⟨_, rfl⟩
    obtain ⟨t2, ht2⟩ : ∃ t2, t2 = stI t 20 k (nI (v.hi k)) := ⟨_, rfl⟩
    have I3 : VI w v f rs k s3 t2 := by rw [hs3, ht2]; exact I.cg (by simp (disch := first | decide | omega) only [stp_eq, stp_ne, stp_nj, stI1, stI2, stL1, stL_eq, stL_ne, stL_nj, gi_n, nI_clamp ]) (by simp (disch := first | decide | omega) only [stp_eq, stp_ne, stp_nj, stI1, stI2, stL1, stL_eq, stL_ne, stL_nj, gi_n, nI_clamp ]) (by simp (disch := first | decide | omega) only [stp_eq, stp_ne, stp_nj, stI1, stI2, stL1, stL_eq, stL_ne, stL_nj, gi_n, nI_clamp ]) (by simp (disch := first | decide | omega) only [stp_eq, stp_ne, stp_nj, stI1, stI2, stL1, stL_eq, stL_ne, stL_nj, gi_n, nI_clamp ]) (by simp (disch := first | decide | omega) only [stp_eq, stp_ne, stp_nj, stI1, stI2, stL1, stL_eq, stL_ne, stL_nj, gi_n, nI_clamp ]) (by simp (disch := first | decide | omega) only [stp_eq, stp_ne, stp_nj, stI1, stI2, stL1, stL_eq, stL_ne, stL_nj, gi_n, nI_clamp ]) (by simp (disch := first | decide | omega) only [stp_eq, stp_ne, stp_nj, stI1, stI2, stL1, stL_eq, stL_ne, stL_nj, gi_n, nI_clamp ]) (by simp (disch := first | decide | omega) only [stp_eq, stp_ne, stp_nj, stI1, stI2, stL1, stL_eq, stL_ne, stL_nj, gi_n, nI_clamp ])
    have hx3 : VXf s0 s3 := by rw [hs3]; exact (hx.p (by omega)).p (by omega)
    have hm2 : VMf t0 t2 := by rw [ht2]; exact hm.p (by omega)
    have RX3 : ∀ q, q < C → RwX w q (s3 21) := by
      intro q hq
      have := RXs q hq
      rw [hs3]
      exact ⟨by simp (disch := first | decide | omega) only [stp_eq, stp_ne, stp_nj, stI1, stI2, stL1, stL_eq, stL_ne, stL_nj, gi_n, nI_clamp ]; exact this.c0, by simp (disch := first | decide | omega) only [stp_eq, stp_ne, stp_nj, stI1, stI2, stL1, stL_eq, stL_ne, stL_nj, gi_n, nI_clamp ]; exact this.c1, by simp (disch := first | decide | omega) only [stp_eq, stp_ne, stp_nj, stI1, stI2, stL1, stL_eq, stL_ne, stL_nj, gi_n, nI_clamp ]; exact this.c2, by simp (disch := first | decide | omega) only [stp_eq, stp_ne, stp_nj, stI1, stI2, stL1, stL_eq, stL_ne, stL_nj, gi_n, nI_clamp ]; exact this.c3⟩
    have RM2 : ∀ q, q < C → RwM w q t2 := by
      intro q hq
      have := RM0 q hq
      have e14 := hm2.c 14 (by decide) (by decide) (by decide) (by decide) (by decide)
      have e17 := hm2.c 17 (by decide) (by decide) (by decide) (by decide) (by decide)
      have e18 := hm2.c 18 (by decide) (by decide) (by decide) (by decide) (by decide)
      have e19 := hm2.c 19 (by decide) (by decide) (by decide) (by decide) (by decide)
      exact ⟨by rw [e14]; exact this.c0, by rw [hm2.l]; exact this.c1, by rw [hm2.l]; exact this.c2, by rw [e17]; exact this.c3, by rw [e18]; exact this.c4, by rw [e19]; exact this.c5⟩
    have px3 : ∀ j, j < nP → w.pl j < 2 ^ 32 ∧ s3 23 (j * 1 + 0) = nI (w.pl j) ∧ t2.2 25 j = lN (w.pl j) := by
      intro j hj
      rw [hx3 23 (by decide) (by decide) (by decide), hm2.l]
      exact px0 j hj
    have E3 := E0.fr hx3 hm2
    have H3 : ∀ v', EqV v v' k → SR w v' m k → HR w v' m (k + 1) s3 t2 := by
      intro v' EV S
      refine ⟨fun q hq => ?_, fun q hq => ?_, fun q hq => ?_, fun q hq => ?_⟩
      · rw [(EV q (by omega)).1, hs3]
        by_cases hqk : q = k
        · subst hqk; simp (disch := first | decide | omega) only [stp_eq, stp_ne, stp_nj, stI1, stI2, stL1, stL_eq, stL_ne, stL_nj, gi_n, nI_clamp ]
        · simp (disch := first | decide | omega) only [stp_eq, stp_ne, stp_nj, stI1, stI2, stL1, stL_eq, stL_ne, stL_nj, gi_n, nI_clamp ]; exact H.x4 q (by omega)
      · rw [(EV q (by omega)).2.1, hs3]
        by_cases hqk : q = k
        · subst hqk; simp (disch := first | decide | omega) only [stp_eq, stp_ne, stp_nj, stI1, stI2, stL1, stL_eq, stL_ne, stL_nj, gi_n, nI_clamp ]
        · simp (disch := first | decide | omega) only [stp_eq, stp_ne, stp_nj, stI1, stI2, stL1, stL_eq, stL_ne, stL_nj, gi_n, nI_clamp ]; exact H.x5 q (by omega)
      · rw [(EV q (by omega)).1, ht2]
        by_cases hqk : q = k
        · subst hqk; simp (disch := first | decide | omega) only [stp_eq, stp_ne, stp_nj, stI1, stI2, stL1, stL_eq, stL_ne, stL_nj, gi_n, nI_clamp ]
        · simp (disch := first | decide | omega) only [stp_eq, stp_ne, stp_nj, stI1, stI2, stL1, stL_eq, stL_ne, stL_nj, gi_n, nI_clamp ]; exact H.m20 q (by omega)
      · by_cases hqk : q = k
        · subst hqk; exact S
        · exact (H.sr q (by omega)).cg (K := k) (fun i hi => (EV i hi).1) (fun i hi => (EV i hi).2.1) (fun i hi => (EV i hi).2.2.1) (fun i hi => (EV i (by omega)).2.2.2 hi) (by omega) (fun i hi => W.i1 i (by omega))
    have HRf : ∀ v' s' t', HR w v' m (k + 1) s3 t2 → X1 s3 s' → M1 t2 t' → HR w v' m (k + 1) s' t' := by
      intro v' s' t' h x1 m1
      exact ⟨by rw [x1 21 (by decide) (by decide)]; exact h.x4, by rw [x1 21 (by decide) (by decide)]; exact h.x5, by rw [m1.c 20 (by decide) (by decide) (by decide) (by decide)]; exact h.m20, h.sr⟩
    have eA := alive_x I hd10 (s' := stp s 21 (k * 7 + 4) (nI (v.hi k))) (by simp (disch := first | decide | omega) only [stp_eq, stp_ne, stp_nj, stI1, stI2, stL1, stL_eq, stL_ne, stL_nj, gi_n, nI_clamp ]) (by simp (disch := first | decide | omega) only [stp_eq, stp_ne, stp_nj, stI1, stI2, stL1, stL_eq, stL_ne, stL_nj, gi_n, nI_clamp ])
    have eop : tGet 240 7 (s3 21) (nI k) 0 = nI (w.op k) := by rw [tg_240_7_0 hk240]; exact (RX3 k hkC).c0
    have eof : tGet 240 7 (s3 21) (nI k) 1 = xF (w.op k) (w.a k) (w.b k) := by rw [tg_240_7_1 hk240]; exact (RX3 k hkC).c1
    have eMo : t2.1 14 k = nI (w.op k) := (RM2 k hkC).c0
    have hX : f_Val_judgeBody_58 (NX + 1 + 1) (nI f) (nI rs) (nI ls) (nI k) s = bd1 (f_Val_judgeInstruction (nI k) (nI (w.op k)) (xF (w.op k) (w.a k) (w.b k)) s3) fun s6 => f_Val_judgeBody_58 (NX + 1) (nI f) (nI rs) (nI ls) (nI (k + 1)) s6 := by
      rw [f_Val_judgeBody_58, if_neg (nI_nlt (by omega) (by omega)), I.x3, if_pos rfl]
      simp only [lt1]
      rw [I.x1, ts_240_7_4 hk240, eA, bd1_some, ts_240_7_5 hk240, ← hs3, eop, eof, nI_1]
    have hM : f_M_validateBody_38 (NM + 1 + 1) (nI f) (nI k) t = if w.op k < 6 ∨ w.op k = 11 then bd1 (f_M_validateBlock (nI f) (nI k) t2) (fun s => f_M_validateBody_38 (NM + 1) (nI f) (nI (k + 1)) s) else if 17 ≤ w.op k then bd1 (f_M_validatePlain (nI f) (nI k) t2) (fun s => f_M_validateBody_38 (NM + 1) (nI f) (nI (k + 1)) s) else bd1 (f_M_validateJump (nI f) (nI k) t2) (fun s => f_M_validateBody_38 (NM + 1) (nI f) (nI (k + 1)) s) := by
      rw [f_M_validateBody_38, gi_n (show f < 8 by omega) (by decide)]
      simp only [lt1, nI_clamp (show f < 2 ^ 31 by omega), hm23]
      rw [if_neg (nI_nlt (by omega) (by omega)), I.m5, if_pos rfl, gi_n (show k < 250 by omega) (by decide), gi_n (show k < 250 by omega) (by decide), nI_clamp (by omega), I.m17, ← ht2, eMo]
      simp only [f_M_validateBody_84, f_M_validateBody_114, lt1, nI_1]
      by_cases q6 : w.op k < 6
      · rw [if_pos (show nI (w.op k) < 6 from nI_lt (b := 6) q6 (by decide)), if_pos (Or.inl q6)]
      · rw [if_neg (show ¬ nI (w.op k) < 6 from nI_nlt (b := 6) (by omega) (by omega))]
        by_cases q11 : w.op k = 11
        · rw [if_pos (show nI (w.op k) = 11 by rw [q11]; rfl), if_pos (Or.inr q11)]
        · rw [if_neg (show ¬ nI (w.op k) = 11 from nI_ne (b := 11) q11 (by omega) (by decide)), if_neg (show ¬ (w.op k < 6 ∨ w.op k = 11) by omega)]
          by_cases q17 : 17 ≤ w.op k
          · rw [if_pos (show (17 : Int32) ≤ nI (w.op k) from nI_le (a := 17) q17 (by omega)), if_pos q17]
          · rw [if_neg (show ¬ (17 : Int32) ≤ nI (w.op k) from nI_ge (b := 17) (by omega) (by decide)), if_neg q17]
    rw [hX, hM]
  · have hkl : k = ls := by omega
    subst hkl
    refine rowv (nP := nP) (fun z => absurd ⟨hol, hil⟩ z) (fun _ _ => ?_) I3 W hkC hC E3 hf hrs hfk (RX3 k hkC) RM2 hnP (htb k hkC) px3 hx3 hm2 (fun e s hs => vx_jb hs) (fun e t ht => vm_vb (by omega) ht)
    intro v' s' t' z3 z5 EV zh zl S x1 m1
    dsimp only
    rw [f_Val_judgeBody_58, if_pos (nI_lt (by omega) (by omega)), f_Val_judgeBody_143, f_M_validateBody_38, gi_n (show f < 8 by omega) (by decide)]
    have e23 : t'.1 23 f = nI k := by rw [m1.c 23 (by decide) (by decide) (by decide) (by decide), hm2.c 23 (by decide) (by decide) (by decide) (by decide) (by decide)]; exact h23
    simp only [lt1, nI_clamp (show f < 2 ^ 31 by omega), e23]
    rw [if_pos (nI_lt (by omega) (by omega)), f_M_validateBody_120]
    refine ⟨s', t', rfl, rfl, Or.inl ⟨v', z3, z5, HRf v' s' t' (H3 v' EV S) x1 m1, zh, zl, fun q hq => ?_, x1.f hx3, m1.f hm2, fun q hq hz => by rw [(EV q (by omega)).1, (EV q (by omega)).2.1]; exact HZ q hq hz⟩⟩
    rw [x1 21 (by decide) (by decide)]; exact RX3 q hq
  · have hnz : ¬ (w.op k = 11 ∧ w.ins k = 0) := by
      intro z
      have := W.nf k hkC
      rw [fnx, if_pos z, hfk, hfn (k + 1) (by omega) (by omega)] at this
      omega
    refine rowv (nP := nP) (fun _ => ?_) (fun z1 z2 => absurd ⟨z1, z2⟩ hnz) I3 W hkC hC E3 hf hrs hfk (RX3 k hkC) RM2 hnP (htb k hkC) px3 hx3 hm2 (fun e s hs => vx_jb hs) (fun e t ht => vm_vb (by omega) ht)
    intro v' s' t' I' EV S x1 m1
    exact ih (k + 1) v' s' t' (NX + 1) (NM + 1) (by omega) (by omega) (by omega) (by omega) I' (HRf v' s' t' (H3 v' EV S) x1 m1) (fun q hq => by rw [x1 21 (by decide) (by decide)]; exact RX3 q hq) (x1.f hx3) (m1.f hm2) (fun q hq hz => by rw [(EV q (by omega)).1, (EV q (by omega)).2.1]; exact HZ q hq hz)
end BDV
