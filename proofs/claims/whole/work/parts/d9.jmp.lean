-- validation: br, br_if, br_table
section JMP
variable {γ : Type} {s0 s : St} {t0 t : SM} {F kX : St → Option γ} {kM : SM → Option SM} {R : St → SM → Prop} {w : Cd} {v : Hv} {m : Md} {f rs k C nP : Nat}
theorem jmp2 (N : NV s0 t0 F kX kM R w v m f rs k s t) (I : VI w v f rs k s t) (W : WF w C) (hkC : k < C) (hC : C ≤ 240) (E : Env m s t) (hf : f < m.nF) (hrs : rs = m.res f) (hfn : w.fn k = f) (ho : w.op k = 12 ∨ w.op k = 13) (RM : ∀ k, k < C → RwM w k t) (hx : VXf s0 s) (hm : VMf t0 t)
    (hX9 : ∀ e s, VX s0 e s → okg F (kX s) (VX s0 e)) (hM9 : ∀ e t, VM t0 e t → okg some (kM t) (VM t0 e)) :
    o2 F some (bd1 (f_Val_judgeBranch (nI k) (nI (w.op k)) (xF (w.op k) (w.a k) (w.b k)) s) kX) (bd1 (f_M_validateJump (nI f) (nI k) t) kM) (VRB s0 t0 R) := by
  obtain ⟨hkn, hok⟩ := W.ok k hkC
  have hd10 := W.d10 k (by omega)
  have hk2 : k < 250 := by omega
  have hik := W.i1 k (by omega)
  obtain ⟨dd, T, L, hdd0, hdd1⟩ := I.tp hd10
  have hl1 := I.l1
  have h8 := E.nF8
  have hbh := I.bh
  have h16 := I.h16
  have ha := hok.a32
  have hr1 := (E.p4 f hf).2.1
  have hrsM : f_M_resultsOf t (nI f) = some (nI rs) := by rw [hrs]; exact E.rsM hf
  have exf : xF (w.op k) (w.a k) (w.b k) = nI (w.a k) := by rw [xF, if_neg (by omega), if_neg (by omega)]
  have c1 : t.2 15 k = lN (w.a k) := by rw [(RM k hkC).c1, mF, if_neg (by omega)]
  have htk := tk_le (a := w.a k) (rs := rs) W hkC (by omega)
  have hVX : VX s0 3 (stp s 3 3 3) := ⟨by simp (disch := first | decide | omega) only [stp_eq, stp_ne, stp_nj, stI1, stI2, stL1, stL_eq, stL_ne, stL_nj, gi_n, nI_clamp ]; rfl, by decide, by decide, hx.p (by omega)⟩
  rw [exf, f_Val_judgeBranch, if_neg (show ¬ nI (w.op k) = 14 from nI_ne (b := 14) (by omega) (by omega) (by decide)), f_Val_judgeBranch_19, I.x0, nI_pred, f_M_validateJump, gi_n hk2 (by decide)]
  simp only [lt1, nI_clamp (show k < 2 ^ 31 by omega), (RM k hkC).c0, c1, f_M_validateJump_271]
  by_cases hle : w.a k ≤ w.dp k
  · have hcar := mcar (a := w.a k) I W hkC hC RM hrsM rfl I.m5 rfl rfl rfl ha
    rw [if_pos hle] at hcar
    rw [above_f hle (by omega), bd1_some, if_pos rfl, f_Val_judgeBranch_40, tby I W hkC hle, bd1_some, if_neg (show ¬ nI (w.op k) = 14 from nI_ne (b := 14) (by omega) (by omega) (by decide)), f_Val_judgeBranch_62]
    simp only [f_Val_judgeBranch_74, f_Val_judgeBranch_102]
    rcases ho with q | q
    · rw [q, if_pos (show nI 12 = 12 from rfl), if_pos (show nI 12 = 12 from rfl), gi_n hk2 (by decide), take_0 T, bd1_some, hcar, bd_some]
      simp only [bd1_bd1, bd1_some, if_neg (show ¬ nI 12 = 13 by decide)]
      refine r_take T hx hm (by omega) (fun h' hb1 hb2 hb3 hb4 T' => ?_) (fun s' t' hVX hVM => r_VV (vx_lead hVX (fun s hs => hX9 _ _ hs)) (vm_kill hVM (fun t ht => hM9 _ _ ht)))
      refine ld2 N I W hkC (Or.inr (Or.inl q)) T' (by simp (disch := first | decide | omega) only [stp_eq, stp_ne, stp_nj, stI1, stI2, stL1, stL_eq, stL_ne, stL_nj, gi_n, nI_clamp ]) (by simp (disch := first | decide | omega) only [stp_eq, stp_ne, stp_nj, stI1, stI2, stL1, stL_eq, stL_ne, stL_nj, gi_n, nI_clamp ]) (by simp (disch := first | decide | omega) only [stp_eq, stp_ne, stp_nj, stI1, stI2, stL1, stL_eq, stL_ne, stL_nj, gi_n, nI_clamp ]) (by simp (disch := first | decide | omega) only [stp_eq, stp_ne, stp_nj, stI1, stI2, stL1, stL_eq, stL_ne, stL_nj, gi_n, nI_clamp ]) (by simp (disch := first | decide | omega) only [stp_eq, stp_ne, stp_nj, stI1, stI2, stL1, stL_eq, stL_ne, stL_nj, gi_n, nI_clamp ]) ((X1.refl s).p (by omega)) ((M1.refl t).p0 (by omega)) (fun hl => ?_)
      have hle2 : tk w rs (ups w.ins (w.a k) (w.ins k)) ≤ v.hi k - bs w v (w.ins k) := by
        by_cases z : tk w rs (ups w.ins (w.a k) (w.ins k)) ≤ v.hi k - bs w v (w.ins k)
        · exact z
        · have := hb4 z; have := hdd0 hl; omega
      refine ⟨fun z => by omega, fun z => by omega, fun z => by omega, fun z => by omega, fun _ => ⟨hle, ?_⟩, fun z => by omega, fun z => by omega, fun z => by omega, fun z => by omega, fun z => by omega, fun z => by omega, fun z => by omega, fun z => by omega, fun z => by omega⟩
      rw [set_bs v (by omega), set_hi v (by omega), hfn, ← hrs]
      omega
    · rw [q, if_neg (show ¬ nI 13 = 12 by decide), if_neg (show ¬ nI 13 = 12 by decide), if_pos (show nI 13 = 13 from rfl)]
      simp only [bd1_bd1, bd1_some, if_pos (show nI 13 = 13 from rfl)]
      refine r_take (n := 1) T hx hm (by omega) (fun h1 ha1 ha2 ha3 ha4 T1 => ?_) (fun s' t' hVX hVM => ?_)
      · have hcar1 := mcar (a := w.a k) (t2 := stI t 0 17 (nI h1)) I W hkC hC RM (by rw [hrs]; exact (E.fr (VXf.refl s) ((VMf.refl t).p0 (j := 17) (v := nI h1) (by omega))).rsM hf) (by simp (disch := first | decide | omega) only [stp_eq, stp_ne, stp_nj, stI1, stI2, stL1, stL_eq, stL_ne, stL_nj, gi_n, nI_clamp ]) (by simp (disch := first | decide | omega) only [stp_eq, stp_ne, stp_nj, stI1, stI2, stL1, stL_eq, stL_ne, stL_nj, gi_n, nI_clamp ]; exact I.m5) (by simp (disch := first | decide | omega) only [stp_eq, stp_ne, stp_nj, stI1, stI2, stL1, stL_eq, stL_ne, stL_nj, gi_n, nI_clamp ]) (by simp (disch := first | decide | omega) only [stp_eq, stp_ne, stp_nj, stI1, stI2, stL1, stL_eq, stL_ne, stL_nj, gi_n, nI_clamp ]) rfl ha
        rw [if_pos hle] at hcar1
        have e15 : (stI t 0 17 (nI h1)).2 15 k = lN (w.a k) := c1
        rw [gi_n hk2 (by decide), e15, hcar1, bd_some]
        simp only [bd1_bd1, bd1_some]
        refine r_take T1 (hx.p (by omega)) (hm.p0 (by omega)) (by omega) (fun h2 hb1 hb2 hb3 hb4 T2 => ?_) (fun s' t' hVX hVM => r_VV (vx_give hVX (fun s hs => hX9 _ _ hs)) (vm_push hVM.1 (hM9 _ _ (hVM.1.p0 (by omega)))))
        refine r_give T2.x3 T2.m5 T2.x1 T2.m17 T2.h40 ((hx.p (by omega)).p (by omega)) ((hm.p0 (by omega)).p0 (by omega)) (by omega) (fun hle3 => ?_) (fun s' t' hVX hVM => r_VV (hX9 _ _ hVX) (hM9 _ _ hVM))
        refine N _ _ _ (I.next (h' := h2 + tk w rs (ups w.ins (w.a k) (w.ins k))) (l' := v.lo k) (n' := v.ns k) (dd' := dd) W hkC (by omega) (by omega) (by omega) hle3 (by omega) (by simp (disch := first | decide | omega) only [stp_eq, stp_ne, stp_nj, stI1, stI2, stL1, stL_eq, stL_ne, stL_nj, gi_n, nI_clamp ]) (by simp (disch := first | decide | omega) only [stp_eq, stp_ne, stp_nj, stI1, stI2, stL1, stL_eq, stL_ne, stL_nj, gi_n, nI_clamp ]) (by simp (disch := first | decide | omega) only [stp_eq, stp_ne, stp_nj, stI1, stI2, stL1, stL_eq, stL_ne, stL_nj, gi_n, nI_clamp ]) (by simp (disch := first | decide | omega) only [stp_eq, stp_ne, stp_nj, stI1, stI2, stL1, stL_eq, stL_ne, stL_nj, gi_n, nI_clamp ]; exact I.x3) (by simp (disch := first | decide | omega) only [stp_eq, stp_ne, stp_nj, stI1, stI2, stL1, stL_eq, stL_ne, stL_nj, gi_n, nI_clamp ]; exact I.m5) (by simp (disch := first | decide | omega) only [stp_eq, stp_ne, stp_nj, stI1, stI2, stL1, stL_eq, stL_ne, stL_nj, gi_n, nI_clamp ]) (by simp (disch := first | decide | omega) only [stp_eq, stp_ne, stp_nj, stI1, stI2, stL1, stL_eq, stL_ne, stL_nj, gi_n, nI_clamp ]) (by simp (disch := first | decide | omega) only [stp_eq, stp_ne, stp_nj, stI1, stI2, stL1, stL_eq, stL_ne, stL_nj, gi_n, nI_clamp ]) (by simp (disch := first | decide | omega) only [stp_eq, stp_ne, stp_nj, stI1, stI2, stL1, stL_eq, stL_ne, stL_nj, gi_n, nI_clamp ]) (fun q _ => by simp (disch := first | decide | omega) only [stp_eq, stp_ne, stp_nj, stI1, stI2, stL1, stL_eq, stL_ne, stL_nj, gi_n, nI_clamp ]) (fun q _ => by simp (disch := first | decide | omega) only [stp_eq, stp_ne, stp_nj, stI1, stI2, stL1, stL_eq, stL_ne, stL_nj, gi_n, nI_clamp ]) (by simp (disch := first | decide | omega) only [stp_eq, stp_ne, stp_nj, stI1, stI2, stL1, stL_eq, stL_ne, stL_nj, gi_n, nI_clamp ]; exact L.x4) (by simp (disch := first | decide | omega) only [stp_eq, stp_ne, stp_nj, stI1, stI2, stL1, stL_eq, stL_ne, stL_nj, gi_n, nI_clamp ]; exact L.m28) L.d1 hl1 (fun q => ⟨q, hdd0 q⟩) (fun q => Or.inr ⟨q, rfl, fun z => hdd1 q z⟩)) (EqV.set v k _ _ _) (SR.pl W hkC I (by omega) (by omega) (by omega) (fun z => by unfold lead at z; omega) (fun _ => ⟨rfl, rfl⟩) (fun hl => ?_)) ((((X1.refl s).p (by omega)).p (by omega)).p (by omega)) ((((M1.refl t).p0 (by omega)).p0 (by omega)).p0 (by omega))
        have hle1 : 1 ≤ v.hi k - bs w v (w.ins k) := by
          by_cases z : 1 ≤ v.hi k - bs w v (w.ins k)
          · exact z
          · have := ha4 z; have := hdd0 hl; omega
        have hh1 := ha3 hle1
        have hle2 : tk w rs (ups w.ins (w.a k) (w.ins k)) ≤ h1 - bs w v (w.ins k) := by
          by_cases z : tk w rs (ups w.ins (w.a k) (w.ins k)) ≤ h1 - bs w v (w.ins k)
          · exact z
          · have := hb4 z; have := hdd0 hl; omega
        have hh2 := hb3 hle2
        refine ⟨fun z => by omega, fun z => by omega, fun z => by omega, fun z => by omega, fun z => by omega, fun _ => ⟨hle, ?_⟩, fun z => by omega, fun z => by omega, fun z => by omega, fun z => by omega, fun z => by omega, fun z => by omega, fun z => by omega, fun z => by omega⟩
        rw [set_bs v (by omega), set_hi v (by omega), set_hik, hfn, ← hrs]
        exact ⟨by omega, by omega⟩
      · have e15 : t'.2 15 k = lN (w.a k) := by rw [hVM.1.2.2.2.l, ← hm.l]; exact c1
        rw [gi_n hk2 (by decide), e15, mcar_flt hVM.1.nle hVM.1.ne, bd_some]
        simp only [bd1_bd1, bd1_some]
        refine r_VV (vx_take hVX (fun s1 hs1 => vx_give hs1 (fun s hs => hX9 _ _ hs))) ?_
        exact vm_pop (n := 0) hVM (by decide) (fun t2 ht2 => vm_push ht2.1 (hM9 _ _ (ht2.1.p0 (by omega))))
  · rw [above_t (by omega) ha (by omega), bd1_some, if_neg (by decide), vr_0 I.x3, bd1_some]
    have hX40 := vx_40 (x1 := nI k) (x2 := nI (w.op k)) (x3 := nI (w.a k)) (x4 := nI (w.a k)) hVX hX9
    rcases ho with q | q
    · have hcar := mcar (a := w.a k) I W hkC hC RM hrsM rfl I.m5 rfl rfl rfl ha
      rw [if_neg hle] at hcar
      rw [q] at hX40 ⊢
      rw [if_pos (show nI 12 = 12 from rfl), gi_n hk2 (by decide), hcar, bd_some]
      simp only [bd1_bd1, bd1_some]
      have hVM : VMd t0 3 (w.dp k) (stI t 0 5 3) := ⟨⟨by simp (disch := first | decide | omega) only [stp_eq, stp_ne, stp_nj, stI1, stI2, stL1, stL_eq, stL_ne, stL_nj, gi_n, nI_clamp ]; rfl, by decide, by decide, hm.p0 (by omega)⟩, by simp (disch := first | decide | omega) only [stp_eq, stp_ne, stp_nj, stI1, stI2, stL1, stL_eq, stL_ne, stL_nj, gi_n, nI_clamp ]; exact I.m16, by omega, dd, by simp (disch := first | decide | omega) only [stp_eq, stp_ne, stp_nj, stI1, stI2, stL1, stL_eq, stL_ne, stL_nj, gi_n, nI_clamp ]; exact L.m28, L.d1⟩
      exact r_VV hX40 (vm_pop (n := 0) hVM (by decide) (fun t2 ht2 => vm_kill ht2 (fun t ht => hM9 _ _ ht)))
    · rw [q] at hX40 ⊢
      rw [if_neg (show ¬ nI 13 = 12 by decide), if_pos (show nI 13 = 13 from rfl)]
      simp only [bd1_bd1, bd1_some]
      -- the other side's pop first
      have hpop : ∃ t1, f_M_pop 1 t = some t1 ∧ ((∃ h1, t1 = stI t 0 17 (nI h1)) ∨ VMd t0 3 (w.dp k) t1) := by
        have hr : o2 (fun _ : St => (some 0 : Option Nat)) some (some 0) (f_M_pop 1 t) (fun _ t1 => (∃ h1, t1 = stI t 0 17 (nI h1)) ∨ VMd t0 3 (w.dp k) t1) := by
          have := r_take (F := fun _ : St => (some 0 : Option Nat)) (G := some) (R := fun _ t1 => (∃ h1, t1 = stI t 0 17 (nI h1)) ∨ VMd t0 3 (w.dp k) t1) (kX := fun _ => some 0) (kM := some) (n := 1) T hx hm (by decide) (fun h' _ _ _ _ _ => ⟨s, _, rfl, rfl, Or.inl ⟨h', rfl⟩⟩) (fun s' t' _ hVM => ⟨s, t', rfl, rfl, Or.inr hVM⟩)
          obtain ⟨x, y, q1, q2, q3⟩ := this
          refine ⟨x, y, rfl, ?_, q3⟩
          have q2' : bd1 (f_M_pop 1 t) some = some y := q2
          cases hpp : f_M_pop 1 t with
          | none => rw [hpp] at q2'; exact q2'
          | some z => rw [hpp] at q2'; exact q2'
        obtain ⟨x, y, q1, q2, q3⟩ := hr
        exact ⟨y, q2, q3⟩
      obtain ⟨t1, hp1, hp2⟩ := hpop
      rw [hp1, bd1_some, gi_n hk2 (by decide)]
      rcases hp2 with ⟨h1, rfl⟩ | hVM
      · have e15 : (stI t 0 17 (nI h1)).2 15 k = lN (w.a k) := c1
        have hcar1 := mcar (a := w.a k) (t2 := stI t 0 17 (nI h1)) I W hkC hC RM (by rw [hrs]; exact (E.fr (VXf.refl s) ((VMf.refl t).p0 (j := 17) (v := nI h1) (by omega))).rsM hf) (by simp (disch := first | decide | omega) only [stp_eq, stp_ne, stp_nj, stI1, stI2, stL1, stL_eq, stL_ne, stL_nj, gi_n, nI_clamp ]) (by simp (disch := first | decide | omega) only [stp_eq, stp_ne, stp_nj, stI1, stI2, stL1, stL_eq, stL_ne, stL_nj, gi_n, nI_clamp ]; exact I.m5) (by simp (disch := first | decide | omega) only [stp_eq, stp_ne, stp_nj, stI1, stI2, stL1, stL_eq, stL_ne, stL_nj, gi_n, nI_clamp ]) (by simp (disch := first | decide | omega) only [stp_eq, stp_ne, stp_nj, stI1, stI2, stL1, stL_eq, stL_ne, stL_nj, gi_n, nI_clamp ]) rfl ha
        rw [if_neg hle] at hcar1
        rw [e15, hcar1, bd_some]
        simp only [bd1_bd1, bd1_some]
        have hVM : VMd t0 3 (w.dp k) (stI (stI t 0 17 (nI h1)) 0 5 3) := ⟨⟨by simp (disch := first | decide | omega) only [stp_eq, stp_ne, stp_nj, stI1, stI2, stL1, stL_eq, stL_ne, stL_nj, gi_n, nI_clamp ]; rfl, by decide, by decide, (hm.p0 (by omega)).p0 (by omega)⟩, by simp (disch := first | decide | omega) only [stp_eq, stp_ne, stp_nj, stI1, stI2, stL1, stL_eq, stL_ne, stL_nj, gi_n, nI_clamp ]; exact I.m16, by omega, dd, by simp (disch := first | decide | omega) only [stp_eq, stp_ne, stp_nj, stI1, stI2, stL1, stL_eq, stL_ne, stL_nj, gi_n, nI_clamp ]; exact L.m28, L.d1⟩
        exact r_VV hX40 (vm_pop (n := 0) hVM (by decide) (fun t2 ht2 => vm_push ht2.1 (hM9 _ _ (ht2.1.p0 (by omega)))))
      · have e15 : t1.2 15 k = lN (w.a k) := by rw [hVM.1.2.2.2.l, ← hm.l]; exact c1
        rw [e15, mcar_flt hVM.1.nle hVM.1.ne, bd_some]
        simp only [bd1_bd1, bd1_some]
        exact r_VV hX40 (vm_pop (n := 0) hVM (by decide) (fun t2 ht2 => vm_push ht2.1 (hM9 _ _ (ht2.1.p0 (by omega)))))
end JMP
