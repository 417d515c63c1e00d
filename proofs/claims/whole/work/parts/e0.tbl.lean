-- validation: br_table
section TBL
variable {γ : Type} {s0 s : St} {t0 t : SM} {F kX : St → Option γ} {kM : SM → Option SM} {R : St → SM → Prop} {w : Cd} {v : Hv} {m : Md} {f rs k C nP : Nat}
/-- the other side's loop when a fault is there -/
theorem vm_118 {e d n b a : Nat} {x3 : Int32} (hf8 : f < 8) (hba : b + a < 250) (ha8 : a ≤ 8) (hn : n < 100) (hM9 : ∀ e t, VM t0 e t → okg some (kM t) (VM t0 e)) : ∀ q i N t, i + q = a → q < N → VMd t0 e d t → okg some (bd1 (f_M_validateJump_118 N (nI f) (nI k) x3 (nI b) (nI a) (nI n) (nI i) t) kM) (VM t0 e) := by
  intro q
  induction q with
  | zero =>
    intro i N t hi hN h
    obtain ⟨N, rfl⟩ : ∃ z, N = z + 1 := ⟨N - 1, by omega⟩
    rw [f_M_validateJump_118, if_pos (nI_le (by omega) (by omega))]
    simp only [bd1_bd1, bd1_some, f_M_validateJump_271]
    exact vm_pop (n := 1) h (by decide) (fun t2 ht2 => vm_pop ht2 hn (fun t3 ht3 => vm_kill ht3 (fun t ht => hM9 _ _ ht)))
  | succ q ih =>
    intro i N t hi hN h
    obtain ⟨N, rfl⟩ : ∃ z, N = z + 1 := ⟨N - 1, by omega⟩
    rw [f_M_validateJump_118, if_neg (nI_ge (by omega) (by omega))]
    simp only [lt1, nI_add]
    rw [gi_n (show b + i < 250 by omega) (by decide), mcar_flt h.1.nle h.1.ne, bd_some]
    simp only [f_M_validateJump_151, mw_flt h.1.ne, bd1_some, lt1, nI_1, ite_self]
    exact ih (i + 1) N t (by omega) (by omega) h
theorem plc2 {n dd : Nat} {kX' : St → Option γ} (I : VI w v f rs k s t) (W : WF w C) (hkC : k < C) (hC : C ≤ 240) (E : Env m s t) (hf : f < m.nF) (hrs : rs = m.res f) (h14 : w.op k = 14) (RX : RwX w k (s 21)) (RM : ∀ k, k < C → RwM w k t) (hnP : nP ≤ 240) (hba : w.b k + w.a k < nP) (px : ∀ j, j < nP → w.pl j < 2 ^ 32 ∧ s 23 (j * 1 + 0) = nI (w.pl j) ∧ t.2 25 j = lN (w.pl j)) (hx : VXf s0 s) (hm : VMf t0 t) (hn1 : n ≤ 1) (L : Lv w v rs k (w.ins k) (w.dp k) dd s t)
    (hX9 : ∀ e s, VX s0 e s → okg F (kX' s) (VX s0 e)) (hM9 : ∀ e t, VM t0 e t → okg some (kM t) (VM t0 e))
    (hg : (∀ i, i < w.a k → w.pl (w.b k + i) ≤ w.dp k ∧ tk w rs (ups w.ins (w.pl (w.b k + i)) (w.ins k)) = n) → o2 F some (kX' s) (bd1 (f_M_pop 1 t) fun s1 => bd1 (f_M_pop (nI n) s1) fun s2 => bd1 (f_M_kill s2) kM) (VRB s0 t0 R)) :
    ∀ q i NX NM, i + q = w.a k → q < NX → q < NM → (∀ j, j < i → w.pl (w.b k + j) ≤ w.dp k ∧ tk w rs (ups w.ins (w.pl (w.b k + j)) (w.ins k)) = n) →
    o2 F some (bd1 (f_Val_judgePlaces_3 NX (nI k) (nI (w.a k)) (nI n) (nI i) s) kX') (bd1 (f_M_validateJump_118 NM (nI f) (nI k) (nI 14) (nI (w.b k)) (nI (w.a k)) (nI n) (nI i) t) kM) (VRB s0 t0 R) := by
  obtain ⟨hkn, hok⟩ := W.ok k hkC
  have ha8 := hok.tab h14
  have hd10 := W.d10 k (by omega)
  have h8 := E.nF8
  have hrsM : f_M_resultsOf t (nI f) = some (nI rs) := by rw [hrs]; exact E.rsM hf
  have hVX : VX s0 3 (stp s 3 3 3) := ⟨by simp (disch := first | decide | omega) only [stp_eq, stp_ne, stp_nj, stI1, stI2, stL1, stL_eq, stL_ne, stL_nj, gi_n, nI_clamp ]; rfl, by decide, by decide, hx.p (by omega)⟩
  have hVM : VMd t0 3 (w.dp k) (stI t 0 5 3) := ⟨⟨by simp (disch := first | decide | omega) only [stp_eq, stp_ne, stp_nj, stI1, stI2, stL1, stL_eq, stL_ne, stL_nj, gi_n, nI_clamp ]; rfl, by decide, by decide, hm.p0 (by omega)⟩, by simp (disch := first | decide | omega) only [stp_eq, stp_ne, stp_nj, stI1, stI2, stL1, stL_eq, stL_ne, stL_nj, gi_n, nI_clamp ]; exact I.m16, by omega, dd, by simp (disch := first | decide | omega) only [stp_eq, stp_ne, stp_nj, stI1, stI2, stL1, stL_eq, stL_ne, stL_nj, gi_n, nI_clamp ]; exact L.m28, L.d1⟩
  intro q
  induction q with
  | zero =>
    intro i NX NM hi hX hM hall
    obtain ⟨NX, rfl⟩ : ∃ z, NX = z + 1 := ⟨NX - 1, by omega⟩
    obtain ⟨NM, rfl⟩ : ∃ z, NM = z + 1 := ⟨NM - 1, by omega⟩
    rw [f_Val_judgePlaces_3, if_pos (nI_le (a := w.a k) (b := i) (by omega) (by omega)), ite_self, f_Val_judgePlaces_63, bd1_some, f_M_validateJump_118, if_pos (nI_le (by omega) (by omega))]
    simp only [bd1_bd1, bd1_some, f_M_validateJump_271]
    exact hg (fun j hj => hall j (by omega))
  | succ q ih =>
    intro i NX NM hi hX hM hall
    obtain ⟨NX, rfl⟩ : ∃ z, NX = z + 1 := ⟨NX - 1, by omega⟩
    obtain ⟨NM, rfl⟩ : ∃ z, NM = z + 1 := ⟨NM - 1, by omega⟩
    obtain ⟨p1, p2, p3⟩ := px (w.b k + i) (by omega)
    have hcar := mcar (a := w.pl (w.b k + i)) I W hkC hC RM hrsM rfl I.m5 rfl rfl rfl p1
    have htk := tk_le (a := w.pl (w.b k + i)) (rs := rs) W hkC (by have := (E.p4 f hf).2.1; omega)
    have hflt : okg F (bd1 (f_Val_judgePlaces_3 NX (nI k) (nI (w.a k)) (nI n) (nI (i + 1)) (stp s 3 3 3)) kX') (VX s0 3) := by
      obtain ⟨s', hs', hv'⟩ := vx_places (x1 := nI k) (x2 := nI (w.a k)) (x3 := nI n) hVX (8 - (i + 1)) (i + 1) (NX + 8) (by omega) (by omega)
      have hmon : ∀ d i N, i + d = w.a k → d < N → ∃ s', f_Val_judgePlaces_3 N (nI k) (nI (w.a k)) (nI n) (nI i) (stp s 3 3 3) = some s' ∧ VX s0 3 s' := by
        intro d
        induction d with
        | zero =>
          intro i N hi hN
          obtain ⟨N, rfl⟩ : ∃ z, N = z + 1 := ⟨N - 1, by omega⟩
          exact ⟨_, by rw [f_Val_judgePlaces_3, if_pos (nI_le (a := w.a k) (b := i) (by omega) (by omega)), ite_self, f_Val_judgePlaces_63], hVX⟩
        | succ d ihd =>
          intro i N hi hN
          obtain ⟨N, rfl⟩ : ∃ z, N = z + 1 := ⟨N - 1, by omega⟩
          obtain ⟨s', hs', hv'⟩ := ihd (i + 1) N (by omega) (by omega)
          obtain ⟨r, hr⟩ := labAt_ex (stp s 3 3 3) (nI k) (nI i)
          rw [f_Val_judgePlaces_3, if_neg (show ¬ (8 : Int32) ≤ nI i from nI_ge (b := 8) (by omega) (by decide)), if_neg (nI_ge (by omega) (by omega)), hr]
          simp only [bd1_some, lt1, f_Val_judgePlaces_52, f_Val_judgePlaces_57, vr_flt hVX.ne, nI_1, f_Val_takenBy]
          rcases ab_01 r ((stp s 3 3 3) 3 0 - 1) with q | q
          · rw [q, bd1_some, if_pos rfl, ite_self]; exact ⟨s', hs', hv'⟩
          · rw [q, bd1_some, if_neg (by decide)]; exact ⟨s', hs', hv'⟩
      obtain ⟨s2, hs2, hv2⟩ := hmon q (i + 1) NX (by omega) (by omega)
      exact okg.b1E hs2 (hX9 _ _ hv2)
    rw [f_Val_judgePlaces_3, if_neg (show ¬ (8 : Int32) ≤ nI i from nI_ge (b := 8) (by omega) (by decide)), if_neg (nI_ge (by omega) (by omega)), labAt RX (by omega) h14 (by omega) ha8 hnP hba (fun j hj => (px j hj).2.1), bd1_some, I.x0, nI_pred, f_M_validateJump_118, if_neg (nI_ge (by omega) (by omega))]
    simp only [lt1, nI_add, f_Val_judgePlaces_52, f_Val_judgePlaces_57, nI_1]
    rw [gi_n (show w.b k + i < 250 by omega) (by decide), nI_clamp (by omega), p3, hcar]
    simp only [f_M_validateJump_151, lt1, nI_1]
    by_cases hle : w.pl (w.b k + i) ≤ w.dp k
    · rw [above_f hle (by omega), bd1_some, if_pos rfl, tby I W hkC hle, bd1_some, if_pos hle, bd_some]
      by_cases heq : tk w rs (ups w.ins (w.pl (w.b k + i)) (w.ins k)) = n
      · rw [heq, if_pos rfl, if_pos rfl, mw_t (by decide), bd1_some]
        refine ih (i + 1) NX NM (by omega) (by omega) (by omega) (fun j hj => ?_)
        by_cases hji : j = i
        · subst hji; exact ⟨hle, heq⟩
        · exact hall j (by omega)
      · have hne : ¬ nI (tk w rs (ups w.ins (w.pl (w.b k + i)) (w.ins k))) = nI n := fun z => heq ((nI_eq (by omega) (by omega)).mp z)
        rw [if_neg hne, if_neg hne, vr_0 I.x3, bd1_some, mw_f I.m5, bd1_some]
        exact r_VV hflt (vm_118 (by omega) (by omega) ha8 (by omega) hM9 q (i + 1) NM _ (by omega) (by omega) hVM)
    · rw [above_t (by omega) p1 (by omega), bd1_some, if_neg (by decide), if_neg hle, vr_0 I.x3, bd1_some, bd_some]
      simp only [mw_flt hVM.1.ne, bd1_some, ite_self]
      exact r_VV hflt (vm_118 (by omega) (by omega) ha8 (by omega) hM9 q (i + 1) NM _ (by omega) (by omega) hVM)
theorem tbl2 (N : NV s0 t0 F kX kM R w v m f rs k s t) (I : VI w v f rs k s t) (W : WF w C) (hkC : k < C) (hC : C ≤ 240) (E : Env m s t) (hf : f < m.nF) (hrs : rs = m.res f) (hfn : w.fn k = f) (h14 : w.op k = 14) (RX : RwX w k (s 21)) (RM : ∀ k, k < C → RwM w k t) (hnP : nP ≤ 240) (hba : w.b k + w.a k < nP) (px : ∀ j, j < nP → w.pl j < 2 ^ 32 ∧ s 23 (j * 1 + 0) = nI (w.pl j) ∧ t.2 25 j = lN (w.pl j)) (hx : VXf s0 s) (hm : VMf t0 t)
    (hX9 : ∀ e s, VX s0 e s → okg F (kX s) (VX s0 e)) (hM9 : ∀ e t, VM t0 e t → okg some (kM t) (VM t0 e)) :
    o2 F some (bd1 (f_Val_judgeBranch (nI k) (nI (w.op k)) (xF (w.op k) (w.a k) (w.b k)) s) kX) (bd1 (f_M_validateJump (nI f) (nI k) t) kM) (VRB s0 t0 R) := by
  obtain ⟨hkn, hok⟩ := W.ok k hkC
  have ha8 := hok.tab h14
  have hd10 := W.d10 k (by omega)
  have hk2 : k < 250 := by omega
  have hik := W.i1 k (by omega)
  obtain ⟨dd, T, L, hdd0, hdd1⟩ := I.tp hd10
  have h8 := E.nF8
  have hbh := I.bh
  have h16 := I.h16
  have hr1 := (E.p4 f hf).2.1
  have hrsM : f_M_resultsOf t (nI f) = some (nI rs) := by rw [hrs]; exact E.rsM hf
  have exf : xF (w.op k) (w.a k) (w.b k) = nI (w.a k) := by rw [xF, if_neg (by omega), if_neg (by omega)]
  have c1 : t.2 15 k = lN (w.a k) := by rw [(RM k hkC).c1, mF, if_neg (by omega)]
  have c2 : t.2 16 k = lN (w.b k) := (RM k hkC).c2
  obtain ⟨p1, p2, p3⟩ := px (w.b k + w.a k) hba
  have htk := tk_le (a := w.pl (w.b k + w.a k)) (rs := rs) W hkC (by omega)
  have hVX : VX s0 3 (stp s 3 3 3) := ⟨by simp (disch := first | decide | omega) only [stp_eq, stp_ne, stp_nj, stI1, stI2, stL1, stL_eq, stL_ne, stL_nj, gi_n, nI_clamp ]; rfl, by decide, by decide, hx.p (by omega)⟩
  have hcar := mcar (a := w.pl (w.b k + w.a k)) I W hkC hC RM hrsM rfl I.m5 rfl rfl rfl p1
  rw [exf, h14, f_Val_judgeBranch, if_pos (show nI 14 = 14 from rfl), labAt RX (by omega) h14 (Nat.le_refl _) ha8 hnP hba (fun j hj => (px j hj).2.1), bd1_some, f_Val_judgeBranch_19, I.x0, nI_pred, f_M_validateJump, gi_n hk2 (by decide)]
  simp only [lt1, nI_clamp (show k < 2 ^ 31 by omega), (RM k hkC).c0, c1, c2, lN_i, h14, nI_add]
  rw [if_neg (show ¬ nI 14 = 12 by decide), if_neg (show ¬ nI 14 = 13 by decide), if_pos (show nI 14 = 14 from rfl), gi_n hk2 (by decide), gi_n hk2 (by decide), gi_n (show w.b k + w.a k < 250 by omega) (by decide), nI_clamp (by omega), p3, hcar]
  by_cases hle : w.pl (w.b k + w.a k) ≤ w.dp k
  · rw [above_f hle (by omega), bd1_some, if_pos rfl, if_pos hle, bd_some, f_Val_judgeBranch_40, tby I W hkC hle, bd1_some, if_pos (show nI 14 = 14 from rfl), f_Val_judgePlaces]
    simp only [bd1_bd1]
    refine plc2 (kX' := fun s2 => bd1 (f_Val_judgeBranch_62 (nI k) (nI 14) (nI (w.a k)) (nI (w.pl (w.b k + w.a k))) (nI (tk w rs (ups w.ins (w.pl (w.b k + w.a k)) (w.ins k)))) s2) kX) I W hkC hC E hf hrs h14 RX RM hnP hba px hx hm htk L (fun e s hs => vx_62 hs hX9) hM9 (fun hall => ?_) (w.a k) 0 FU FU (by omega) (by unfold FU; omega) (by unfold FU; omega) (fun j hj => absurd hj (by omega))
    rw [f_Val_judgeBranch_62, if_neg (show ¬ nI 14 = 12 by decide), f_Val_judgeBranch_74]
    simp only [bd1_bd1, bd1_some, if_neg (show ¬ nI 14 = 13 by decide), f_Val_judgeBranch_102]
    refine r_take (n := 1) T hx hm (by omega) (fun h1 ha1 ha2 ha3 ha4 T1 => ?_) (fun s' t' hVX hVM => r_VV (vx_take hVX (fun s1 hs1 => vx_lead hs1 (fun s hs => hX9 _ _ hs))) (vm_pop hVM (by omega) (fun t2 ht2 => vm_kill ht2 (fun t ht => hM9 _ _ ht))))
    refine r_take T1 (hx.p (by omega)) (hm.p0 (by omega)) (by omega) (fun h2 hb1 hb2 hb3 hb4 T2 => ?_) (fun s' t' hVX hVM => r_VV (vx_lead hVX (fun s hs => hX9 _ _ hs)) (vm_kill hVM (fun t ht => hM9 _ _ ht)))
    refine ld2 N I W hkC (Or.inr (Or.inr (Or.inl h14))) T2 (by simp (disch := first | decide | omega) only [stp_eq, stp_ne, stp_nj, stI1, stI2, stL1, stL_eq, stL_ne, stL_nj, gi_n, nI_clamp ]) (by simp (disch := first | decide | omega) only [stp_eq, stp_ne, stp_nj, stI1, stI2, stL1, stL_eq, stL_ne, stL_nj, gi_n, nI_clamp ]) (by simp (disch := first | decide | omega) only [stp_eq, stp_ne, stp_nj, stI1, stI2, stL1, stL_eq, stL_ne, stL_nj, gi_n, nI_clamp ]) (by simp (disch := first | decide | omega) only [stp_eq, stp_ne, stp_nj, stI1, stI2, stL1, stL_eq, stL_ne, stL_nj, gi_n, nI_clamp ]) (by simp (disch := first | decide | omega) only [stp_eq, stp_ne, stp_nj, stI1, stI2, stL1, stL_eq, stL_ne, stL_nj, gi_n, nI_clamp ]) (((X1.refl s).p (by omega)).p (by omega)) (((M1.refl t).p0 (by omega)).p0 (by omega)) (fun hl => ?_)
    have hle1 : 1 ≤ v.hi k - bs w v (w.ins k) := by
      by_cases z : 1 ≤ v.hi k - bs w v (w.ins k)
      · exact z
      · have := ha4 z; have := hdd0 hl; omega
    have hh1 := ha3 hle1
    have hle2 : tk w rs (ups w.ins (w.pl (w.b k + w.a k)) (w.ins k)) ≤ h1 - bs w v (w.ins k) := by
      by_cases z : tk w rs (ups w.ins (w.pl (w.b k + w.a k)) (w.ins k)) ≤ h1 - bs w v (w.ins k)
      · exact z
      · have := hb4 z; have := hdd0 hl; omega
    refine ⟨fun z => by omega, fun z => by omega, fun z => by omega, fun z => by omega, fun z => by omega, fun z => by omega, fun _ i hi => ?_, fun z => by omega, fun z => by omega, fun z => by omega, fun z => by omega, fun z => by omega, fun z => by omega, fun z => by omega⟩
    rw [set_bs v (by omega), set_hi v (by omega), hfn, ← hrs]
    by_cases hia : i = w.a k
    · subst hia; exact ⟨hle, by omega⟩
    · obtain ⟨z1, z2⟩ := hall i (by omega)
      exact ⟨z1, by omega⟩
  · rw [above_t (by omega) p1 (by omega), bd1_some, if_neg (by decide), vr_0 I.x3, bd1_some, if_neg hle, bd_some]
    have hVM : VMd t0 3 (w.dp k) (stI t 0 5 3) := ⟨⟨by simp (disch := first | decide | omega) only [stp_eq, stp_ne, stp_nj, stI1, stI2, stL1, stL_eq, stL_ne, stL_nj, gi_n, nI_clamp ]; rfl, by decide, by decide, hm.p0 (by omega)⟩, by simp (disch := first | decide | omega) only [stp_eq, stp_ne, stp_nj, stI1, stI2, stL1, stL_eq, stL_ne, stL_nj, gi_n, nI_clamp ]; exact I.m16, by omega, dd, by simp (disch := first | decide | omega) only [stp_eq, stp_ne, stp_nj, stI1, stI2, stL1, stL_eq, stL_ne, stL_nj, gi_n, nI_clamp ]; exact L.m28, L.d1⟩
    exact r_VV (vx_40 hVX hX9) (vm_118 (n := 0) (by omega) (by omega) ha8 (by decide) hM9 (w.a k) 0 FU _ (by omega) (by unfold FU; omega) hVM)
end TBL
