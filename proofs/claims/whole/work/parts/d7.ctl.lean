-- validation: unreachable, nop, return, call
theorem VMf.two {t0 t t' : SM} (h : VMf t0 t) (h2 : VMf t0 t') : VMf t t' := ⟨fun a q0 q1 q2 q3 q4 => (h2.c a q0 q1 q2 q3 q4).trans (h.c a q0 q1 q2 q3 q4).symm, h2.l.trans h.l.symm, fun j q1 q2 q3 => (h2.z j q1 q2 q3).trans (h.z j q1 q2 q3).symm⟩
theorem xpar_ex (s : St) (x : Int32) : ∃ r, f_Cont_parametersOf s x = some r := by
  rw [f_Cont_parametersOf]
  simp only [lt1, f_Cont_parametersOf_34]
  split
  · exact ⟨_, rfl⟩
  · exact ⟨_, rfl⟩
theorem xres_ex (s : St) (x : Int32) : ∃ r, f_Cont_resultsOf s x = some r := by
  rw [f_Cont_resultsOf]
  simp only [lt1, f_Cont_resultsOf_34]
  split
  · exact ⟨_, rfl⟩
  · exact ⟨_, rfl⟩
section CTL
variable {γ : Type} {s0 s : St} {t0 t : SM} {F kX : St → Option γ} {kM : SM → Option SM} {R : St → SM → Prop} {w : Cd} {v : Hv} {m : Md} {f rs k C : Nat}
/-- what leads away, when all is taken -/
theorem ld2 {s' : St} {t' : SM} {dd h' : Nat} (N : NV s0 t0 F kX kM R w v m f rs k s t) (I : VI w v f rs k s t) (W : WF w C) (hkC : k < C) (hld : lead (w.op k)) (T' : Tp (w.dp k) (bs w v (w.ins k)) dd h' s' t') (h28 : s' 28 = s 28) (h32 : s' 3 2 = s 3 2) (t26 : t'.1 26 = t.1 26) (t27 : t'.1 27 = t.1 27) (t28 : t'.1 28 = t.1 28) (x1 : X1 s s') (m1 : M1 t t')
    (hwt : v.lo k = 0 → WT w (v.set (k + 1) (bs w v (w.ins k)) 1 (if v.lo k = 0 then 0 else v.ns k)) m k) :
    o2 F some (bd1 (f_Val_leadAway s') kX) (bd1 (f_M_kill t') kM) (VRB s0 t0 R) := by
  rw [lead_x T', kill_m T', bd1_some, bd1_some]
  have hn4 : ¬ (2 ≤ w.op k ∧ w.op k ≤ 4) := by unfold lead at hld; omega
  have n5 : w.op k ≠ 5 := by unfold lead at hld; omega
  have n11 : w.op k ≠ 11 := by unfold lead at hld; omega
  have h16 := I.h16
  have hbh := I.bh
  have hl1 := I.l1
  refine N _ _ _ (I.next (h' := bs w v (w.ins k)) (l' := 1) (n' := if v.lo k = 0 then 0 else v.ns k) (dd' := 1) W hkC hn4 n5 n11 (by omega) (Nat.le_refl _) (by simp (disch := first | decide | omega) only [stp_eq, stp_ne, stp_nj, stI1, stI2, stL1, stL_eq, stL_ne, stL_nj, gi_n, nI_clamp ]; rw [T'.x0, I.x0]) (by simp (disch := first | decide | omega) only [stp_eq, stp_ne, stp_nj, stI1, stI2, stL1, stL_eq, stL_ne, stL_nj, gi_n, nI_clamp ]) (by simp (disch := first | decide | omega) only [stp_eq, stp_ne, stp_nj, stI1, stI2, stL1, stL_eq, stL_ne, stL_nj, gi_n, nI_clamp ]; exact h32) (by simp (disch := first | decide | omega) only [stp_eq, stp_ne, stp_nj, stI1, stI2, stL1, stL_eq, stL_ne, stL_nj, gi_n, nI_clamp ]; exact T'.x3) (by simp (disch := first | decide | omega) only [stp_eq, stp_ne, stp_nj, stI1, stI2, stL1, stL_eq, stL_ne, stL_nj, gi_n, nI_clamp ]; exact T'.m5) (by simp (disch := first | decide | omega) only [stp_eq, stp_ne, stp_nj, stI1, stI2, stL1, stL_eq, stL_ne, stL_nj, gi_n, nI_clamp ]; rw [T'.m16, I.m16]) (by simp (disch := first | decide | omega) only [stp_eq, stp_ne, stp_nj, stI1, stI2, stL1, stL_eq, stL_ne, stL_nj, gi_n, nI_clamp ]) (by simp (disch := first | decide | omega) only [stp_eq, stp_ne, stp_nj, stI1, stI2, stL1, stL_eq, stL_ne, stL_nj, gi_n, nI_clamp ]; exact t26) (by simp (disch := first | decide | omega) only [stp_eq, stp_ne, stp_nj, stI1, stI2, stL1, stL_eq, stL_ne, stL_nj, gi_n, nI_clamp ]; exact t27) (fun q hq => by simp (disch := first | decide | omega) only [stp_eq, stp_ne, stp_nj, stI1, stI2, stL1, stL_eq, stL_ne, stL_nj, gi_n, nI_clamp ]; rw [h28]) (fun q hq => by simp (disch := first | decide | omega) only [stp_eq, stp_ne, stp_nj, stI1, stI2, stL1, stL_eq, stL_ne, stL_nj, gi_n, nI_clamp ]; rw [t28]) (by simp (disch := first | decide | omega) only [stp_eq, stp_ne, stp_nj, stI1, stI2, stL1, stL_eq, stL_ne, stL_nj, gi_n, nI_clamp ]; rfl) (by simp (disch := first | decide | omega) only [stp_eq, stp_ne, stp_nj, stI1, stI2, stL1, stL_eq, stL_ne, stL_nj, gi_n, nI_clamp ]; rfl) (by decide) (by decide) (fun q => absurd q (by decide)) (fun _ => ?_)) (EqV.set v k _ _ _) (SR.pl W hkC I hn4 n5 n11 (fun _ => ⟨rfl, fun q => if_pos q, fun q => if_neg (by omega)⟩) (fun q => absurd hld q) hwt) ((x1.p (by omega)).p (by omega)) ((m1.p0 (by omega)).p (by omega))
  by_cases q : v.lo k = 0
  · exact Or.inl ⟨q, if_pos q, rfl⟩
  · exact Or.inr ⟨by omega, if_neg q, fun _ => rfl⟩
theorem oc2 (N : NV s0 t0 F kX kM R w v m f rs k s t) (I : VI w v f rs k s t) (W : WF w C) (hkC : k < C) (hC : C ≤ 240) (E : Env m s t) (hf : f < m.nF) (hrs : rs = m.res f) (hfn : w.fn k = f) (ho : w.op k = 0 ∨ w.op k = 1 ∨ w.op k = 15 ∨ w.op k = 16) (RM : RwM w k t) (hx : VXf s0 s) (hm : VMf t0 t)
    (hX9 : ∀ e s, VX s0 e s → okg F (kX s) (VX s0 e)) (hM9 : ∀ e t, VM t0 e t → okg some (kM t) (VM t0 e)) :
    o2 F some (bd1 (f_Val_judgeOtherControl (nI (w.op k)) (xF (w.op k) (w.a k) (w.b k)) s) kX) (if w.op k < 2 then bd1 (f_M_validateBlock (nI f) (nI k) t) kM else bd1 (f_M_validateJump (nI f) (nI k) t) kM) (VRB s0 t0 R) := by
  obtain ⟨hkn, hok⟩ := W.ok k hkC
  have hd10 := W.d10 k (by omega)
  have hk2 : k < 250 := by omega
  have hik := W.i1 k (by omega)
  obtain ⟨dd, T, L, hdd0, hdd1⟩ := I.tp hd10
  have hl1 := I.l1
  have h8 := E.nF8
  have hbh := I.bh
  have h16 := I.h16
  rcases ho with q | q | q | q
  · rw [if_pos (by omega), q, f_Val_judgeOtherControl, if_pos (show nI 0 = 0 from rfl), f_M_validateBlock, gi_n hk2 (by decide)]
    simp only [lt1, nI_clamp (show k < 2 ^ 31 by omega), RM.c0, q, f_Val_judgeOtherControl_88, f_M_validateBlock_241]
    rw [if_pos (show nI 0 = 0 from rfl)]
    simp only [bd1_bd1, bd1_some]
    refine ld2 N I W hkC (Or.inl q) T rfl rfl rfl rfl rfl (X1.refl s) (M1.refl t) (fun _ => ?_)
    exact ⟨fun z => by omega, fun z => by omega, fun z => by omega, fun z => by omega, fun z => by omega, fun z => by omega, fun z => by omega, fun z => by omega, fun z => by omega, fun z => by omega, fun z => by omega, fun z => by omega, fun z => by omega, fun z => by omega⟩
  · rw [if_pos (by omega), q, f_Val_judgeOtherControl, if_neg (show ¬ nI 1 = 0 by decide), if_neg (show ¬ nI 1 = 15 by decide), if_neg (show ¬ nI 1 = 16 by decide), f_M_validateBlock, gi_n hk2 (by decide)]
    simp only [lt1, nI_clamp (show k < 2 ^ 31 by omega), RM.c0, q, f_Val_judgeOtherControl_88, f_M_validateBlock_241]
    rw [if_neg (show ¬ nI 1 = 0 by decide), if_pos (show nI 1 < 2 by decide), f_M_validateBlock_88, if_neg (show ¬ nI 1 = 5 by decide), if_neg (show ¬ nI 1 = 11 by decide), f_M_validateBlock_241, bd1_some, bd1_some]
    refine N _ _ _ (I.next (h' := v.hi k) (l' := v.lo k) (n' := v.ns k) (dd' := dd) W hkC (by omega) (by omega) (by omega) h16 hbh rfl I.x1 rfl I.x3 I.m5 rfl I.m17 rfl rfl (fun _ _ => rfl) (fun _ _ => rfl) L.x4 L.m28 L.d1 hl1 (fun q => ⟨q, hdd0 q⟩) (fun q => Or.inr ⟨q, rfl, fun z => hdd1 q z⟩)) (EqV.set v k _ _ _) (SR.pl W hkC I (by omega) (by omega) (by omega) (fun z => by unfold lead at z; omega) (fun _ => ⟨rfl, rfl⟩) (fun _ => ?_)) (X1.refl s) (M1.refl t)
    exact ⟨fun _ => by rw [set_hik, set_hi v (by omega)], fun z => by omega, fun z => by omega, fun z => by omega, fun z => by omega, fun z => by omega, fun z => by omega, fun z => by omega, fun z => by omega, fun z => by omega, fun z => by omega, fun z => by omega, fun z => by omega, fun z => by omega⟩
  · rw [if_neg (by omega), q, f_Val_judgeOtherControl, if_neg (show ¬ nI 15 = 0 by decide), if_pos (show nI 15 = 15 from rfl), f_M_validateJump, gi_n hk2 (by decide)]
    simp only [lt1, nI_clamp (show k < 2 ^ 31 by omega), RM.c0, q, f_Val_judgeOtherControl_88, f_M_validateJump_271]
    rw [if_neg (show ¬ nI 15 = 12 by decide), if_neg (show ¬ nI 15 = 13 by decide), if_neg (show ¬ nI 15 = 14 by decide), if_pos (show nI 15 = 15 from rfl), I.x2, E.rX f hf, E.rsM hf]
    simp only [bd1_bd1, bd1_some]
    have hr1 := (E.p4 f hf).2.1
    refine r_take T hx hm (by omega) (fun h' hb1 hb2 hb3 hb4 T' => ?_) (fun s' t' hVX hVM => r_VV (vx_lead hVX (fun s hs => hX9 _ _ hs)) (vm_kill hVM (fun t ht => hM9 _ _ ht)))
    refine ld2 N I W hkC (Or.inr (Or.inr (Or.inr q))) T' (by simp (disch := first | decide | omega) only [stp_eq, stp_ne, stp_nj, stI1, stI2, stL1, stL_eq, stL_ne, stL_nj, gi_n, nI_clamp ]) (by simp (disch := first | decide | omega) only [stp_eq, stp_ne, stp_nj, stI1, stI2, stL1, stL_eq, stL_ne, stL_nj, gi_n, nI_clamp ]) (by simp (disch := first | decide | omega) only [stp_eq, stp_ne, stp_nj, stI1, stI2, stL1, stL_eq, stL_ne, stL_nj, gi_n, nI_clamp ]) (by simp (disch := first | decide | omega) only [stp_eq, stp_ne, stp_nj, stI1, stI2, stL1, stL_eq, stL_ne, stL_nj, gi_n, nI_clamp ]) (by simp (disch := first | decide | omega) only [stp_eq, stp_ne, stp_nj, stI1, stI2, stL1, stL_eq, stL_ne, stL_nj, gi_n, nI_clamp ]) ((X1.refl s).p (by omega)) ((M1.refl t).p0 (by omega)) (fun hl => ?_)
    have hle : m.res f ≤ v.hi k - bs w v (w.ins k) := by
      by_cases z : m.res f ≤ v.hi k - bs w v (w.ins k)
      · exact z
      · have := hb4 z; have := hdd0 hl; omega
    refine ⟨fun z => by omega, fun z => by omega, fun z => by omega, fun z => by omega, fun z => by omega, fun z => by omega, fun z => by omega, fun _ => ?_, fun z => by omega, fun z => by omega, fun z => by omega, fun z => by omega, fun z => by omega, fun z => by omega⟩
    rw [set_bs v (by omega), set_hi v (by omega), hfn]
    omega
  · have exf : xF (w.op k) (w.a k) (w.b k) = nI (w.a k) := by rw [xF, if_neg (by omega), if_neg (by omega)]
    have ha := hok.a32
    have c1 : t.2 15 k = lN (w.a k) := by rw [RM.c1, mF, if_neg (by omega)]
    rw [if_neg (by omega), exf, q, f_Val_judgeOtherControl, if_neg (show ¬ nI 16 = 0 by decide), if_neg (show ¬ nI 16 = 15 by decide), if_pos (show nI 16 = 16 from rfl), f_M_validateJump, gi_n hk2 (by decide)]
    simp only [lt1, nI_clamp (show k < 2 ^ 31 by omega), RM.c0, q]
    rw [if_neg (show ¬ nI 16 = 12 by decide), if_neg (show ¬ nI 16 = 13 by decide), if_neg (show ¬ nI 16 = 14 by decide), if_neg (show ¬ nI 16 = 15 by decide), gi_n hk2 (by decide), c1, E.m7, nI_l (by omega), E.x12, tHas_lt ha (by omega)]
    simp only [lcmp_ge (show w.a k < 2 ^ 63 by omega) (show m.nF < 2 ^ 63 by omega), f_Val_judgeOtherControl_64, f_Val_judgeOtherControl_88, f_M_validateJump_222, f_M_validateJump_271]
    by_cases hag : w.a k < m.nF
    · rw [if_pos hag, if_neg (by decide), if_neg (by omega), mw_t (by decide), bd1_some, I.m5, if_pos (show (0 : Int32) ≤ 0 by decide), gi_n hk2 (by decide), E.pX _ hag]
      obtain ⟨vt, hvt, e1, e2, e3⟩ := E.tM (w.a k) hag
      obtain ⟨p1, p2, p3, p4⟩ := E.p4 (w.a k) hag
      simp only [lt1, nI_clamp (show k < 2 ^ 31 by omega), c1, lN_i]
      rw [gi_n (show w.a k < 8 by omega) (by decide), nI_clamp (by omega), e1, lN_i, gi_n hvt (by decide), nI_clamp (by omega), e2]
      simp only [bd1_bd1, bd1_some]
      have hcont : ∀ t2 : SM, t2.2 = t.2 → (gi (nI k) 250 (bd1 (bd1 (f_M_resultsOf t2 (Int64.toInt32 (t2.2 15 k))) fun r10 => bd1 (f_M_push r10 t2) fun s11 => some s11) kM)) = bd1 (f_M_resultsOf t2 (nI (w.a k))) fun r10 => bd1 (f_M_push r10 t2) kM := by
        intro t2 ht2
        rw [gi_n hk2 (by decide), ht2, c1, lN_i]
        simp only [bd1_bd1, bd1_some]
      refine r_take T hx hm (by omega) (fun h' hb1 hb2 hb3 hb4 T' => ?_) (fun s' t' hVX hVM => ?_)
      · have E' := E.fr ((VXf.refl s).p (k := 3) (j := 1) (v := nI h') (by omega)) ((VMf.refl t).p0 (j := 17) (v := nI h') (by omega))
        rw [E'.rX _ hag, bd1_some]
        have e15 : (stI t 0 17 (nI h')).2 15 k = lN (w.a k) := c1
        simp only [e15, lN_i, gi_n hk2 (show 250 < 2 ^ 31 by decide), E'.rsM hag, bd1_some, bd1_bd1]
        refine r_give T'.x3 T'.m5 T'.x1 T'.m17 T'.h40 (hx.p (by omega)) (hm.p0 (by omega)) (by omega) (fun hle => ?_) (fun s' t' hVX hVM => r_VV (hX9 _ _ hVX) (hM9 _ _ hVM))
        refine N _ _ _ (I.next (h' := h' + m.res (w.a k)) (l' := v.lo k) (n' := v.ns k) (dd' := dd) W hkC (by omega) (by omega) (by omega) hle (by omega) (by simp (disch := first | decide | omega) only [stp_eq, stp_ne, stp_nj, stI1, stI2, stL1, stL_eq, stL_ne, stL_nj, gi_n, nI_clamp ]) (by simp (disch := first | decide | omega) only [stp_eq, stp_ne, stp_nj, stI1, stI2, stL1, stL_eq, stL_ne, stL_nj, gi_n, nI_clamp ]) (by simp (disch := first | decide | omega) only [stp_eq, stp_ne, stp_nj, stI1, stI2, stL1, stL_eq, stL_ne, stL_nj, gi_n, nI_clamp ]) (by simp (disch := first | decide | omega) only [stp_eq, stp_ne, stp_nj, stI1, stI2, stL1, stL_eq, stL_ne, stL_nj, gi_n, nI_clamp ]; exact I.x3) (by simp (disch := first | decide | omega) only [stp_eq, stp_ne, stp_nj, stI1, stI2, stL1, stL_eq, stL_ne, stL_nj, gi_n, nI_clamp ]; exact I.m5) (by simp (disch := first | decide | omega) only [stp_eq, stp_ne, stp_nj, stI1, stI2, stL1, stL_eq, stL_ne, stL_nj, gi_n, nI_clamp ]) (by simp (disch := first | decide | omega) only [stp_eq, stp_ne, stp_nj, stI1, stI2, stL1, stL_eq, stL_ne, stL_nj, gi_n, nI_clamp ]) (by simp (disch := first | decide | omega) only [stp_eq, stp_ne, stp_nj, stI1, stI2, stL1, stL_eq, stL_ne, stL_nj, gi_n, nI_clamp ]) (by simp (disch := first | decide | omega) only [stp_eq, stp_ne, stp_nj, stI1, stI2, stL1, stL_eq, stL_ne, stL_nj, gi_n, nI_clamp ]) (fun q _ => by simp (disch := first | decide | omega) only [stp_eq, stp_ne, stp_nj, stI1, stI2, stL1, stL_eq, stL_ne, stL_nj, gi_n, nI_clamp ]) (fun q _ => by simp (disch := first | decide | omega) only [stp_eq, stp_ne, stp_nj, stI1, stI2, stL1, stL_eq, stL_ne, stL_nj, gi_n, nI_clamp ]) (by simp (disch := first | decide | omega) only [stp_eq, stp_ne, stp_nj, stI1, stI2, stL1, stL_eq, stL_ne, stL_nj, gi_n, nI_clamp ]; exact L.x4) (by simp (disch := first | decide | omega) only [stp_eq, stp_ne, stp_nj, stI1, stI2, stL1, stL_eq, stL_ne, stL_nj, gi_n, nI_clamp ]; exact L.m28) L.d1 hl1 (fun q => ⟨q, hdd0 q⟩) (fun q => Or.inr ⟨q, rfl, fun z => hdd1 q z⟩)) (EqV.set v k _ _ _) (SR.pl W hkC I (by omega) (by omega) (by omega) (fun z => by unfold lead at z; omega) (fun _ => ⟨rfl, rfl⟩) (fun hl => ?_)) (((X1.refl s).p (by omega)).p (by omega)) (((M1.refl t).p0 (by omega)).p0 (by omega))
        have hle2 : m.par (w.a k) ≤ v.hi k - bs w v (w.ins k) := by
          by_cases z : m.par (w.a k) ≤ v.hi k - bs w v (w.ins k)
          · exact z
          · have := hb4 z; have := hdd0 hl; omega
        have hh' := hb3 hle2
        refine ⟨fun z => by omega, fun z => by omega, fun z => by omega, fun z => by omega, fun z => by omega, fun z => by omega, fun z => by omega, fun z => by omega, fun _ => ⟨hag, ?_⟩, fun z => by omega, fun z => by omega, fun z => by omega, fun z => by omega, fun z => by omega⟩
        rw [set_bs v (by omega), set_hi v (by omega), set_hik]
        exact ⟨by omega, by omega⟩
      · have E' := E.fr (s' := s) (VXf.refl s) (hm.two hVM.1.2.2.2)
        have e15 : t'.2 15 k = lN (w.a k) := by rw [hVM.1.2.2.2.l, ← hm.l]; exact c1
        obtain ⟨r, hr⟩ := xres_ex s' (nI (w.a k))
        rw [hr, bd1_some]
        simp only [e15, lN_i, gi_n hk2 (show 250 < 2 ^ 31 by decide), E'.rsM hag, bd1_some, bd1_bd1]
        exact r_VV (vx_give hVX (fun s hs => hX9 _ _ hs)) (vm_push hVM.1 (hM9 _ _ (hVM.1.p0 (by omega))))
    · rw [if_neg hag, if_pos rfl, if_pos (by omega), vr_0 I.x3, mw_f I.m5, bd1_some, bd1_some]
      have f1 : ¬ (stI t 0 5 3).1 0 5 ≤ 0 := by simp (disch := first | decide | omega) only [stp_eq, stp_ne, stp_nj, stI1, stI2, stL1, stL_eq, stL_ne, stL_nj, gi_n, nI_clamp ]; decide
      rw [if_neg f1, bd1_some]
      have hVX : VX s0 3 (stp s 3 3 3) := ⟨by simp (disch := first | decide | omega) only [stp_eq, stp_ne, stp_nj, stI1, stI2, stL1, stL_eq, stL_ne, stL_nj, gi_n, nI_clamp ]; rfl, by decide, by decide, hx.p (by omega)⟩
      have hVM : VM t0 3 (stI t 0 5 3) := ⟨by simp (disch := first | decide | omega) only [stp_eq, stp_ne, stp_nj, stI1, stI2, stL1, stL_eq, stL_ne, stL_nj, gi_n, nI_clamp ]; rfl, by decide, by decide, hm.p0 (by omega)⟩
      refine r_VV ?_ (hM9 _ _ hVM)
      obtain ⟨r, hr⟩ := xpar_ex (stp s 3 3 3) (nI (w.a k))
      rw [hr]
      simp only [bd1_bd1, bd1_some]
      refine vx_take hVX (fun s2 hs2 => ?_)
      obtain ⟨r2, hr2⟩ := xres_ex s2 (nI (w.a k))
      rw [hr2, bd1_some]
      exact vx_give hs2 (fun s hs => hX9 _ _ hs)
end CTL
